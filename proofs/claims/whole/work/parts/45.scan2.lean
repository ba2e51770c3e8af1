theorem s_eq_cons {g : Nat → Nat} {u : List Nat} {k i : Nat} (hk : k < u.length) : s_eq g (u.drop k) (i + k) = (g (i + k) == u.getD k 0 && s_eq g (u.drop (k + 1)) (i + (k + 1))) := by
  rw [List.drop_eq_getElem_cons hk]
  show (g (i + k) == u[k] && s_eq g (u.drop (k + 1)) (i + k + 1)) = _
  rw [List.getD_eq_getElem?_getD, List.getElem?_eq_getElem hk]
  rfl
theorem s_eq_nil {g : Nat → Nat} {u : List Nat} {k i : Nat} (hk : u.length ≤ k) : s_eq g (u.drop k) i = true := by
  rw [List.drop_eq_nil_of_le hk]
  rfl
theorem c_exact0 {σ : St} {o n : Nat} {f : Nat → Nat} (hG : Gt σ o n f) {w : Nat} (hw : w < 42) (i : Nat) (a3 : Int32) (hi : i + (wd_ w).length ≤ n) : ∀ d k fuel, k + d = (wd_ w).length → d < fuel → x_Text_isExactly_15 o (iN i) a3 w σ fuel (iN k) = some (bi (s_eq f ((wd_ w).drop k) (i + k))) := by
  have h2 := hG.le
  intro d
  induction d with
  | zero =>
    intro k fuel h1 hf
    obtain ⟨q, rfl⟩ := x_fuelS (show 0 < fuel by omega)
    rw [x_Text_isExactly_15, w_len w hw, Option.bind_some, if_pos ((iN_le (by omega) (by omega)).mpr (by omega)), s_eq_nil (by omega)]
    rfl
  | succ d ih =>
    intro k fuel h1 hf
    obtain ⟨q, rfl⟩ := x_fuelS (show 0 < fuel by omega)
    have hbi := hG.by (show i + k < n by omega)
    have hc := w_by w hw k (by omega)
    have e := ih (k + 1) q (by omega) (by omega)
    rw [x_Text_isExactly_15, w_len w hw, Option.bind_some, if_neg (mt (iN_le (by omega) (by omega)).mp (by omega)), iN_add, hG.get (by omega), Option.bind_some, w_at w hw k (by omega), Option.bind_some, s_eq_cons (by omega)]
    simp only [x_let]
    rw [show iN k + (1 : Int32) = iN (k + 1) from iN_add k 1, e]
    by_cases hq : f (i + k) = (wd_ w).getD k 0
    · rw [if_pos (by rw [hq]), beq_iff_eq.mpr hq]
      rfl
    · rw [if_neg (mt (iN_eq (by omega) (by omega)).mp hq), beq_eq_false_iff_ne.mpr hq]
      rfl
theorem c_isExactly {σ : St} {o n : Nat} {f : Nat → Nat} (hG : Gt σ o n f) {w i d : Nat} (hw : w < 42) (h : i + d ≤ n) : x_Text_isExactly o (iN i) (iN (i + d)) w σ = some (bi (decide (d = (wd_ w).length) && s_eq f (wd_ w) i)) := by
  have h2 := hG.le
  have hs := w_short w hw
  unfold x_Text_isExactly
  rw [w_len w hw, Option.bind_some, iN_sub (by omega), show i + d - i = d by omega]
  by_cases hd : d = (wd_ w).length
  · rw [if_pos (by rw [hd]), show (0 : Int32) = iN 0 from rfl, c_exact0 hG hw i _ (by omega) (wd_ w).length 0 x_fuel (by omega) (by unfold x_fuel; omega), decide_eq_true hd]
    rfl
  · rw [if_neg (mt (iN_eq (by omega) (by omega)).mp hd), decide_eq_false hd]
    rfl
theorem c_word0 {σ : St} {o n : Nat} {f : Nat → Nat} (hG : Gt σ o n f) {w : Nat} (hw : w < 42) (i : Nat) (a3 : Int32) (hi : i + (wd_ w).length ≤ n) : ∀ d k fuel, k + d = (wd_ w).length → d < fuel → x_Text_isWord_15 o (iN i) a3 w σ fuel (iN k) = some (bi (s_eq (fun j => k_low (f j)) ((wd_ w).drop k) (i + k))) := by
  have h2 := hG.le
  intro d
  induction d with
  | zero =>
    intro k fuel h1 hf
    obtain ⟨q, rfl⟩ := x_fuelS (show 0 < fuel by omega)
    rw [x_Text_isWord_15, w_len w hw, Option.bind_some, if_pos ((iN_le (by omega) (by omega)).mpr (by omega)), s_eq_nil (by omega)]
    rfl
  | succ d ih =>
    intro k fuel h1 hf
    obtain ⟨q, rfl⟩ := x_fuelS (show 0 < fuel by omega)
    have hbi := hG.by (show i + k < n by omega)
    have hbl := k_low_lt _ hbi
    have hc := w_by w hw k (by omega)
    have e := ih (k + 1) q (by omega) (by omega)
    rw [x_Text_isWord_15, w_len w hw, Option.bind_some, if_neg (mt (iN_le (by omega) (by omega)).mp (by omega)), iN_add, hG.get (by omega), Option.bind_some, c_low _ hbi, Option.bind_some, w_at w hw k (by omega), Option.bind_some, s_eq_cons (by omega)]
    simp only [x_let]
    rw [show iN k + (1 : Int32) = iN (k + 1) from iN_add k 1, e]
    by_cases hq : k_low (f (i + k)) = (wd_ w).getD k 0
    · rw [if_pos (by rw [hq]), beq_iff_eq.mpr hq]
      rfl
    · rw [if_neg (mt (iN_eq (by omega) (by omega)).mp hq), beq_eq_false_iff_ne.mpr hq]
      rfl
theorem c_isWord {σ : St} {o n : Nat} {f : Nat → Nat} (hG : Gt σ o n f) {w i d : Nat} (hw : w < 42) (h : i + d ≤ n) : x_Text_isWord o (iN i) (iN (i + d)) w σ = some (bi (decide (d = (wd_ w).length) && s_eq (fun j => k_low (f j)) (wd_ w) i)) := by
  have h2 := hG.le
  have hs := w_short w hw
  unfold x_Text_isWord
  rw [w_len w hw, Option.bind_some, iN_sub (by omega), show i + d - i = d by omega]
  by_cases hd : d = (wd_ w).length
  · rw [if_pos (by rw [hd]), show (0 : Int32) = iN 0 from rfl, c_word0 hG hw i _ (by omega) (wd_ w).length 0 x_fuel (by omega) (by unfold x_fuel; omega), decide_eq_true hd]
    rfl
  · rw [if_neg (mt (iN_eq (by omega) (by omega)).mp hd), decide_eq_false hd]
    rfl
/-- eight bytes that are a version -/
def s_ver (f : Nat → Nat) (i : Nat) : Bool := s_eq f (wd_ 2) i && (k_dig (f (i + 5)) && (f (i + 6) == 46 && k_dig (f (i + 7))))
theorem c_isVersion {σ : St} {o n : Nat} {f : Nat → Nat} (hG : Gt σ o n f) {i d : Nat} (h : i + d ≤ n) : x_Text_isVersion o (iN i) (iN (i + d)) σ = some (bi (decide (d = 8) && s_ver f i)) := by
  have h2 := hG.le
  unfold x_Text_isVersion
  rw [iN_sub (by omega), show i + d - i = d by omega]
  by_cases hd : d = 8
  · subst hd
    have b5 := hG.by (show i + 5 < n by omega)
    have b6 := hG.by (show i + 6 < n by omega)
    have b7 := hG.by (show i + 7 < n by omega)
    rw [if_pos (show iN 8 = 8 from rfl), show iN i + (5 : Int32) = iN (i + 5) from iN_add i 5, show iN i + (6 : Int32) = iN (i + 6) from iN_add i 6, show iN i + (7 : Int32) = iN (i + 7) from iN_add i 7, c_isExactly hG (by decide) (by omega), Option.bind_some, hG.get (by omega), Option.bind_some, c_dig _ b5, Option.bind_some, hG.get (by omega), Option.bind_some, hG.get (by omega), Option.bind_some, c_dig _ b7, Option.bind_some]
    rw [show decide (5 = (wd_ 2).length) = true from by decide, show decide (8 = 8) = true from rfl]
    unfold s_ver
    by_cases h46 : f (i + 6) = 46
    · rw [if_pos (show iN (f (i + 6)) = 46 by rw [h46]; rfl), beq_iff_eq.mpr h46]
      cases s_eq f (wd_ 2) i <;> cases k_dig (f (i + 5)) <;> cases k_dig (f (i + 7)) <;> rfl
    · rw [if_neg (show ¬ iN (f (i + 6)) = 46 from mt (iN_eq (b := 46) (by omega) (by omega)).mp h46), beq_eq_false_iff_ne.mpr h46]
      cases s_eq f (wd_ 2) i <;> cases k_dig (f (i + 5)) <;> rfl
  · rw [if_neg (show ¬ iN d = 8 from mt (iN_eq (b := 8) (by omega) (by omega)).mp hd), decide_eq_false hd]
    rfl
theorem c_num0 {σ : St} {o n : Nat} {f : Nat → Nat} (hG : Gt σ o n f) (a2 : Int32) : ∀ d i v m fuel, i + d ≤ n → d < fuel → v < 10 ^ m → m + d ≤ 9 → x_Text_number_22 o a2 (iN (i + d)) σ fuel (iN v) (iN i) = some (oi (s_num f i d v)) := by
  have h2 := hG.le
  intro d
  induction d with
  | zero =>
    intro i v m fuel h1 hf _ _
    obtain ⟨q, rfl⟩ := x_fuelS (show 0 < fuel by omega)
    rw [x_Text_number_22, if_pos ((iN_le (by omega) (by omega)).mpr (by omega))]
    rfl
  | succ d ih =>
    intro i v m fuel h1 hf hv hm
    obtain ⟨q, rfl⟩ := x_fuelS (show 0 < fuel by omega)
    have hbi := hG.by (show i < n by omega)
    rw [x_Text_number_22, hG.get (by omega), if_neg (mt (iN_le (by omega) (by omega)).mp (by omega)), Option.bind_some, c_dig _ hbi, Option.bind_some]
    unfold s_num
    simp only [x_let]
    cases hd : k_dig (f i)
    · rfl
    · have h48 : 48 ≤ f i ∧ f i ≤ 57 := by simpa [k_dig] using hd
      have e := ih (i + 1) (10 * v + (f i - 48)) (m + 1) q (by omega) (by omega) (by rw [Nat.pow_succ]; omega) (by omega)
      rw [show i + 1 + d = i + (d + 1) by omega] at e
      rw [show iN i + (1 : Int32) = iN (i + 1) from iN_add i 1, show (10 : Int32) * iN v = iN (10 * v) from iN_mul 10 v, show iN (f i) - (48 : Int32) = iN (f i - 48) from iN_sub h48.1, iN_add, e]
      rfl
/-- the number that i .. i + d tells: 1 to 9 digits -/
def s_number (f : Nat → Nat) (i d : Nat) : Option Nat := if 1 ≤ d ∧ d ≤ 9 then s_num f i d 0 else none
theorem c_number {σ : St} {o n : Nat} {f : Nat → Nat} (hG : Gt σ o n f) {i d : Nat} (h : i + d ≤ n) : x_Text_number o (iN i) (iN (i + d)) σ = some (oi (s_number f i d)) := by
  have h2 := hG.le
  unfold x_Text_number s_number
  rw [iN_sub (by omega), show i + d - i = d by omega]
  by_cases h1 : 1 ≤ d
  · rw [if_neg (show ¬ iN d < 1 from mt (iN_lt (b := 1) (by omega) (by omega)).mp (by omega))]
    by_cases h9 : d ≤ 9
    · rw [if_pos (show iN d ≤ 9 from (iN_le (b := 9) (by omega) (by omega)).mpr h9), if_pos ⟨h1, h9⟩]
      exact c_num0 hG _ d i 0 0 x_fuel h (by unfold x_fuel; omega) (by decide) (by omega)
    · rw [if_neg (show ¬ iN d ≤ 9 from mt (iN_le (b := 9) (by omega) (by omega)).mp h9), if_neg (by omega)]
      rfl
  · rw [if_pos (show iN d < 1 from (iN_lt (b := 1) (by omega) (by omega)).mpr (by omega)), if_neg (by omega)]
    rfl
theorem c_numberX {σ : St} {o i t : Nat} (h : t ≤ i) (hi : i < 1073741824) : x_Text_number o (iN i) (iN t) σ = some (-1) := by
  unfold x_Text_number
  have e : iN t - iN i < 1 := by
    rw [Int32.lt_iff_toInt_lt, Int32.toInt_sub, iN_toInt (by omega), iN_toInt (by omega), show (1 : Int32).toInt = 1 from rfl, Int.bmod_eq_of_le (by omega) (by omega)]
    omega
  rw [if_pos e]
theorem c_chunk0 {σ : St} {o n : Nat} {f : Nat → Nat} (hG : Gt σ o n f) : ∀ d i v m fuel, i + d ≤ n → d < fuel → v < 16 ^ m → m + d ≤ 3 → x_Text_chunkSize_40 o σ fuel (iN (i + d)) (iN v) (iN i) = some (oi (s_hex f i d v)) := by
  have h2 := hG.le
  intro d
  induction d with
  | zero =>
    intro i v m fuel h1 hf _ _
    obtain ⟨q, rfl⟩ := x_fuelS (show 0 < fuel by omega)
    rw [x_Text_chunkSize_40, if_pos ((iN_le (by omega) (by omega)).mpr (by omega))]
    rfl
  | succ d ih =>
    intro i v m fuel h1 hf hv hm
    obtain ⟨q, rfl⟩ := x_fuelS (show 0 < fuel by omega)
    have hbi := hG.by (show i < n by omega)
    rw [x_Text_chunkSize_40, hG.get (by omega), if_neg (mt (iN_le (by omega) (by omega)).mp (by omega)), Option.bind_some, c_hex _ hbi, Option.bind_some]
    unfold s_hex
    simp only [x_let]
    by_cases hd : k_hex (f i) < 16
    · have e := ih (i + 1) (16 * v + k_hex (f i)) (m + 1) q (by omega) (by omega) (by rw [Nat.pow_succ]; omega) (by omega)
      rw [show i + 1 + d = i + (d + 1) by omega] at e
      rw [if_neg (fun z => (hx_m1 (k_hex_le _ hbi)).mp z hd), if_pos hd, show hx (k_hex (f i)) = iN (k_hex (f i)) from if_pos hd, show iN i + (1 : Int32) = iN (i + 1) from iN_add i 1, show (16 : Int32) * iN v = iN (16 * v) from iN_mul 16 v, iN_add, e]
    · rw [if_pos ((hx_m1 (k_hex_le _ hbi)).mpr hd), if_neg hd]
      rfl
/-- how many bytes a chunk's line tells -/
def q_chunk (f : Nat → Nat) (n : Nat) : Option Nat := let e := s_first (fun c => c == 59) f 0 n; if 1 ≤ e ∧ e ≤ 3 ∧ s_all k_shown f e (n - e) = true then s_hex f 0 e 0 else none
theorem c_chunkSize {σ : St} {o n : Nat} {f : Nat → Nat} (hG : Gt σ o n f) : x_Text_chunkSize o σ = some (oi (q_chunk f n)) := by
  have h2 := hG.le
  unfold x_Text_chunkSize q_chunk
  have hf := c_find hG (b := 59) (i := 0) (d := n) (by decide) (by omega)
  rw [Nat.zero_add] at hf
  rw [hG.1, show (59 : Int32) = iN 59 from rfl, show (0 : Int32) = iN 0 from rfl, hf, Option.bind_some]
  have hle := (s_first_le (fun c => c == 59) f n 0).2
  simp only []
  generalize s_first (fun c => c == 59) f 0 n = e at hle ⊢
  by_cases h1 : 1 ≤ e
  · rw [if_neg (show ¬ iN e < 1 from mt (iN_lt (b := 1) (by omega) (by omega)).mp (by omega))]
    by_cases h3 : e ≤ 3
    · rw [if_neg (show ¬ (3 : Int32) < iN e from mt (iN_lt (a := 3) (by omega) (by omega)).mp (by omega))]
      have hc := c_hasControl hG (i := e) (d := n - e) (by omega)
      rw [show e + (n - e) = n by omega] at hc
      rw [hc, Option.bind_some]
      cases hs : s_all k_shown f e (n - e)
      · rw [if_neg (show ¬ bi (!false) = iN 0 by decide), if_neg (by simp)]
        rfl
      · rw [if_pos (show bi (!true) = iN 0 by decide), if_pos ⟨h1, h3, rfl⟩]
        have hk := c_chunk0 hG e 0 0 0 x_fuel (by omega) (by unfold x_fuel; omega) (by decide) (by omega)
        rw [Nat.zero_add] at hk
        exact hk
    · rw [if_pos (show (3 : Int32) < iN e from (iN_lt (a := 3) (by omega) (by omega)).mpr (by omega)), if_neg (by omega)]
      rfl
  · rw [if_pos (show iN e < 1 from (iN_lt (b := 1) (by omega) (by omega)).mpr (by omega)), if_neg (by omega)]
    rfl
/-- where the colon of a field line stands -/
def q_colon (f : Nat → Nat) (n : Nat) : Option Nat := let c := s_first (fun c => c == 58) f 0 n; if c < n ∧ 0 < c ∧ s_all k_tok f 0 c = true ∧ s_all k_shown f (c + 1) (n - (c + 1)) = true then some c else none
theorem c_colonOf {σ : St} {o n : Nat} {f : Nat → Nat} (hG : Gt σ o n f) : x_Text_colonOf o σ = some (oi (q_colon f n)) := by
  have h2 := hG.le
  unfold x_Text_colonOf q_colon
  have hf := c_find hG (b := 58) (i := 0) (d := n) (by decide) (by omega)
  rw [Nat.zero_add] at hf
  simp only [x_let]
  rw [hG.1, show (58 : Int32) = iN 58 from rfl, show (0 : Int32) = iN 0 from rfl, hf, Option.bind_some]
  have hle := (s_first_le (fun c => c == 58) f n 0).2
  generalize s_first (fun c => c == 58) f 0 n = e at hle ⊢
  unfold x_Text_colonOf_43 x_Text_colonOf_44
  by_cases h1 : e < n
  · rw [if_neg (mt (iN_le (by omega) (by omega)).mp (by omega))]
    have ht := c_isToken hG (i := 0) (d := e) (by omega)
    rw [Nat.zero_add] at ht
    have hc := c_hasControl hG (i := e + 1) (d := n - (e + 1)) (by omega)
    rw [show e + 1 + (n - (e + 1)) = n by omega] at hc
    rw [ht, Option.bind_some, show iN e + (1 : Int32) = iN (e + 1) from iN_add e 1, hc, Option.bind_some]
    cases s_all k_tok f 0 e <;> cases s_all k_shown f (e + 1) (n - (e + 1)) <;> by_cases h0 : 0 < e <;> simp [h0, h1, bi, oi, show iN 0 = (0 : Int32) from rfl]
  · rw [if_pos ((iN_le (by omega) (by omega)).mpr (by omega)), if_pos rfl, if_neg (fun z => h1 z.1)]
    rfl
/-! the class's rows of bytes: clear, add, addAll -/
theorem Gt.of {σ σ' : St} {o n : Nat} {f : Nat → Nat} (h : Gt σ o n f) (h1 : σ'.1 o 1 = σ.1 o 1) (h2 : σ'.2.1 (o + 1) = σ.2.1 (o + 1)) : Gt σ' o n f := ⟨by rw [h1]; exact h.1, h.2.1, fun i hi => by rw [h2]; exact h.2.2 i hi⟩
theorem Gt.ext {σ : St} {o n : Nat} {f g : Nat → Nat} (h : Gt σ o n f) (e : ∀ i, i < n → f i = g i) : Gt σ o n g := ⟨h.1, h.2.1, fun i hi => by rw [← e i hi]; exact h.2.2 i hi⟩
theorem c_clear (σ : St) (o : Nat) : ∃ σ', x_Bytes_clear o σ = some σ' ∧ ∀ f, Gt σ' o 0 f := by
  refine ⟨_, rfl, fun f => ⟨?_, Nat.zero_le _, fun i hi => absurd hi (Nat.not_lt_zero i)⟩⟩
  simp [x_updR]
  rfl
theorem c_add {σ : St} {o n : Nat} {f : Nat → Nat} (hG : Gt σ o n f) {b : Nat} (hb : b < 256) (hn : n < aln (o + 1)) : ∃ σ', x_Bytes_add o (iN b) σ = some σ' ∧ Gt σ' o (n + 1) (fun i => if i = n then b else f i) := by
  have h2 := hG.le
  have h3 := aln_le (o + 1)
  have e : x_Bytes_add o (iN b) σ = some (x_updR (x_updM σ (o + 1) n (iN b)) o 1 (iN (n + 1))) := by
    unfold x_Bytes_add
    rw [hG.1, if_neg (show ¬ Int32.ofNat (aln (o + 1)) ≤ iN n from mt (iN_le (a := aln (o + 1)) (by omega) (by omega)).mp (by omega)), if_pos ((iN_in (by omega)).mpr (by omega)), iN_clamp (by omega)]
    simp only [x_let]
    rw [show (x_updM σ (o + 1) n (iN b)).1 o 1 = iN n from hG.1, show iN n + (1 : Int32) = iN (n + 1) from iN_add n 1]
  refine ⟨_, e, ?_, hn, fun i hi => ?_⟩
  · simp [x_updR]
  · show (if o + 1 = o + 1 ∧ i = n then iN b else σ.2.1 (o + 1) i) = iN (if i = n then b else f i) ∧ (if i = n then b else f i) < 256
    by_cases q : i = n
    · rw [if_pos ⟨rfl, q⟩, if_pos q]
      exact ⟨rfl, hb⟩
    · rw [if_neg (fun z => q z.2), if_neg q]
      exact hG.2.2 i (by omega)
theorem c_addX {σ : St} {o : Nat} {f : Nat → Nat} (hG : Gt σ o (aln (o + 1)) f) (b : Int32) : x_Bytes_add o b σ = some σ := by
  have h3 := aln_le (o + 1)
  unfold x_Bytes_add
  rw [hG.1, if_pos (show Int32.ofNat (aln (o + 1)) ≤ iN (aln (o + 1)) from (iN_le (by omega) (by omega)).mpr (Nat.le_refl _))]
theorem c_addAll0 {o p m : Nat} {g : Nat → Nat} (hop : o ≠ p ∧ o + 1 ≠ p + 1 ∧ o ≠ p + 1) : ∀ d i σ n f fuel, i + d = m → d < fuel → Gt σ p m g → Gt σ o n f → n + d ≤ aln (o + 1) → ∃ σ', x_Bytes_addAll_2 o p fuel (iN i) σ = some σ' ∧ Gt σ' o (n + d) (fun j => if n ≤ j then g (i + (j - n)) else f j) := by
  intro d
  induction d with
  | zero =>
    intro i σ n f fuel h1 hf hP hG hn
    have h2 := hP.le
    obtain ⟨q, rfl⟩ := x_fuelS (show 0 < fuel by omega)
    refine ⟨σ, ?_, hG.ext fun j hj => by rw [if_neg (by omega)]⟩
    rw [x_Bytes_addAll_2, hP.1, if_pos ((iN_le (by omega) (by omega)).mpr (by omega))]
  | succ d ih =>
    intro i σ n f fuel h1 hf hP hG hn
    have h2 := hP.le
    obtain ⟨q, rfl⟩ := x_fuelS (show 0 < fuel by omega)
    obtain ⟨σ1, e1, g1⟩ := c_add hG (hP.by (show i < m by omega)) (by omega)
    have fp := fp_Bytes_add o _ σ e1
    have hP1 : Gt σ1 p m g := hP.of (fp.1 p 1 (by simp; omega)) (fp.2.1 (p + 1) (by simp; omega))
    obtain ⟨σ2, e2, g2⟩ := ih (i + 1) σ1 (n + 1) _ q (by omega) (by omega) hP1 g1 (by omega)
    refine ⟨σ2, ?_, ?_⟩
    · rw [x_Bytes_addAll_2, hP.1, if_neg (mt (iN_le (by omega) (by omega)).mp (by omega)), hP.get (by omega), Option.bind_some, e1, Option.bind_some]
      simp only [x_let]
      rw [show iN i + (1 : Int32) = iN (i + 1) from iN_add i 1, e2]
    · rw [show n + (d + 1) = n + 1 + d by omega]
      refine g2.ext fun j hj => ?_
      by_cases a : n + 1 ≤ j
      · rw [if_pos a, if_pos (by omega), show i + 1 + (j - (n + 1)) = i + (j - n) by omega]
      · rw [if_neg a]
        by_cases b : j = n
        · subst b
          rw [if_pos rfl, if_pos (Nat.le_refl _), Nat.sub_self, Nat.add_zero]
        · rw [if_neg b, if_neg (by omega)]
theorem c_addAll {σ : St} {o p n m : Nat} {f g : Nat → Nat} (hG : Gt σ o n f) (hP : Gt σ p m g) (hop : o ≠ p ∧ o + 1 ≠ p + 1 ∧ o ≠ p + 1) (hn : n + m ≤ aln (o + 1)) : ∃ σ', x_Bytes_addAll o p σ = some σ' ∧ Gt σ' o (n + m) (fun j => if n ≤ j then g (j - n) else f j) := by
  have h2 := hP.le
  obtain ⟨σ', e, g1⟩ := c_addAll0 hop m 0 σ n f x_fuel (by omega) (by unfold x_fuel; omega) hP hG hn
  refine ⟨σ', ?_, g1.ext fun j hj => by rw [Nat.zero_add]⟩
  unfold x_Bytes_addAll
  exact e
