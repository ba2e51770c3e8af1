/-! scans, as functions of a row of bytes f, a start i and a number d of bytes -/
def s_first (p : Nat → Bool) (f : Nat → Nat) : Nat → Nat → Nat
  | i, 0 => i
  | i, d + 1 => if p (f i) then i else s_first p f (i + 1) d
def s_all (p : Nat → Bool) (f : Nat → Nat) : Nat → Nat → Bool
  | _, 0 => true
  | i, d + 1 => p (f i) && s_all p f (i + 1) d
/-- the end of i .. i + d without its last blanks -/
def s_back (f : Nat → Nat) (i : Nat) : Nat → Nat
  | 0 => i
  | d + 1 => if k_blank (f (i + d)) then s_back f i d else i + d + 1
def s_tgt (f : Nat → Nat) : Nat → Nat → Bool
  | _, 0 => true
  | i, d + 1 => (if f i = 37 then decide (1 < d) && decide (k_hex (f (i + 1)) < 16) && decide (k_hex (f (i + 2)) < 16) else k_tgt (f i)) && s_tgt f (i + 1) d
def s_eq (g : Nat → Nat) : List Nat → Nat → Bool
  | [], _ => true
  | c :: cs, i => g i == c && s_eq g cs (i + 1)
def s_num (f : Nat → Nat) : Nat → Nat → Nat → Option Nat
  | _, 0, v => some v
  | i, d + 1, v => if k_dig (f i) then s_num f (i + 1) d (10 * v + (f i - 48)) else none
def s_hex (f : Nat → Nat) : Nat → Nat → Nat → Option Nat
  | _, 0, v => some v
  | i, d + 1, v => if k_hex (f i) < 16 then s_hex f (i + 1) d (16 * v + k_hex (f i)) else none
def oi (o : Option Nat) : Int32 := match o with
  | none => -1
  | some v => iN v
theorem s_first_le (p : Nat → Bool) (f : Nat → Nat) : ∀ d i, i ≤ s_first p f i d ∧ s_first p f i d ≤ i + d := by
  intro d
  induction d with
  | zero => intro i; exact ⟨Nat.le_refl _, Nat.le_refl _⟩
  | succ d ih =>
    intro i
    unfold s_first
    by_cases h : p (f i) = true
    · rw [if_pos h]; omega
    · rw [if_neg h]
      have := ih (i + 1)
      omega
theorem s_first_hit (p : Nat → Bool) (f : Nat → Nat) : ∀ d i, s_first p f i d < i + d → p (f (s_first p f i d)) = true := by
  intro d
  induction d with
  | zero => intro i h; unfold s_first at h; omega
  | succ d ih =>
    intro i h
    unfold s_first at h ⊢
    by_cases hp : p (f i) = true
    · rw [if_pos hp] at h ⊢; exact hp
    · rw [if_neg hp] at h ⊢
      exact ih (i + 1) (by omega)
theorem s_first_miss (p : Nat → Bool) (f : Nat → Nat) : ∀ d i j, i ≤ j → j < s_first p f i d → p (f j) = false := by
  intro d
  induction d with
  | zero => intro i j h1 h2; unfold s_first at h2; omega
  | succ d ih =>
    intro i j h1 h2
    unfold s_first at h2
    by_cases hp : p (f i) = true
    · rw [if_pos hp] at h2; omega
    · rw [if_neg hp] at h2
      by_cases e : j = i
      · subst e; simpa using hp
      · exact ih (i + 1) j (by omega) h2
theorem s_back_le (f : Nat → Nat) (i : Nat) : ∀ d, i ≤ s_back f i d ∧ s_back f i d ≤ i + d := by
  intro d
  induction d with
  | zero => exact ⟨Nat.le_refl _, Nat.le_refl _⟩
  | succ d ih =>
    unfold s_back
    by_cases h : k_blank (f (i + d)) = true
    · rw [if_pos h]; omega
    · rw [if_neg h]; omega
theorem s_num_lt (f : Nat → Nat) : ∀ d i v m w, (∀ j, i ≤ j → j < i + d → f j < 256) → v < 10 ^ m → s_num f i d v = some w → w < 10 ^ (m + d) := by
  intro d
  induction d with
  | zero => intro i v m w _ hv h; unfold s_num at h; cases h; exact hv
  | succ d ih =>
    intro i v m w hb hv h
    unfold s_num at h
    by_cases hd : k_dig (f i) = true
    · rw [if_pos hd] at h
      have h9 : f i - 48 ≤ 9 := by
        simp [k_dig] at hd
        omega
      have := ih (i + 1) _ (m + 1) w (fun j h1 h2 => hb j (by omega) (by omega)) (by rw [Nat.pow_succ]; omega) h
      rw [show m + (d + 1) = m + 1 + d by omega]
      exact this
    · rw [if_neg hd] at h
      cases h
theorem s_hex_lt (f : Nat → Nat) : ∀ d i v m w, v < 16 ^ m → s_hex f i d v = some w → w < 16 ^ (m + d) := by
  intro d
  induction d with
  | zero => intro i v m w hv h; unfold s_hex at h; cases h; exact hv
  | succ d ih =>
    intro i v m w hv h
    unfold s_hex at h
    by_cases hd : k_hex (f i) < 16
    · rw [if_pos hd] at h
      have := ih (i + 1) _ (m + 1) w (by rw [Nat.pow_succ]; omega) h
      rw [show m + (d + 1) = m + 1 + d by omega]
      exact this
    · rw [if_neg hd] at h
      cases h
theorem x_fuelS {n : Nat} (h : 0 < n) : ∃ k, n = k + 1 := ⟨n - 1, by omega⟩
/-! the words of the class -/
def wdL : List (List Nat) := sbytL.map (fun l => l.map (fun v => v.toNatClampNeg))
def wd_ (w : Nat) : List Nat := wdL.getD w []
set_option maxRecDepth 100000 in
theorem w_len : ∀ w, w < 42 → x_String_length w = some (iN (wd_ w).length) := by decide +kernel
set_option maxRecDepth 100000 in
theorem w_short : ∀ w, w < 42 → (wd_ w).length < 64 := by decide +kernel
set_option maxRecDepth 100000 in
theorem w_at : ∀ w, w < 42 → ∀ k, k < (wd_ w).length → x_String_charAt w (iN k) = some (iN ((wd_ w).getD k 0)) := by decide +kernel
set_option maxRecDepth 100000 in
theorem w_by : ∀ w, w < 42 → ∀ k, k < (wd_ w).length → (wd_ w).getD k 0 < 256 := by decide +kernel
/-! a row of bytes of the class: cell o, its array o + 1 -/
def Gt (σ : St) (o n : Nat) (f : Nat → Nat) : Prop := σ.1 o 1 = iN n ∧ n ≤ aln (o + 1) ∧ ∀ i, i < n → σ.2.1 (o + 1) i = iN (f i) ∧ f i < 256
theorem aln_le (k : Nat) : aln k ≤ 2000 := by
  unfold aln
  rcases Nat.lt_or_ge k 67 with h | h
  · have h1 : (List.range 67).all (fun k => decide (alnL.getD k 0 ≤ 2000)) = true := by decide
    exact of_decide_eq_true (List.all_eq_true.mp h1 k (List.mem_range.mpr h))
  · rw [List.getD_eq_getElem?_getD, List.getElem?_eq_none (by simpa [alnL] using h)]
    decide
theorem Gt.le {σ : St} {o n : Nat} {f : Nat → Nat} (h : Gt σ o n f) : n ≤ 2000 := Nat.le_trans h.2.1 (aln_le _)
theorem Gt.by {σ : St} {o n : Nat} {f : Nat → Nat} (h : Gt σ o n f) {i : Nat} (hi : i < n) : f i < 256 := (h.2.2 i hi).2
theorem Gt.get {σ : St} {o n : Nat} {f : Nat → Nat} (h : Gt σ o n f) {i : Nat} (hi : i < n) : x_Bytes_get o (iN i) σ = some (iN (f i)) := by
  have h2 := h.le
  have h3 := h.2.1
  have h4 := aln_le (o + 1)
  unfold x_Bytes_get
  rw [if_neg (iN_lt0 (by omega)), h.1, if_neg (mt (iN_le (by omega) (by omega)).mp (by omega)), if_pos ((iN_in (by omega)).mpr (by omega)), iN_clamp (by omega), (h.2.2 i hi).1]
theorem Gt.getX {σ : St} {o n : Nat} {f : Nat → Nat} (h : Gt σ o n f) {i : Nat} (hi : n ≤ i) (hi2 : i < 2147483648) : x_Bytes_get o (iN i) σ = some (-1) := by
  have h2 := h.le
  unfold x_Bytes_get
  rw [if_neg (iN_lt0 (by omega)), h.1, if_pos ((iN_le (by omega) (by omega)).mpr (by omega))]
section CSC
variable {σ : St} {o n : Nat} {f : Nat → Nat}
theorem c_find0 (hG : Gt σ o n f) (b : Nat) (hb : b < 256) (a3 : Int32) : ∀ d i fuel, i + d ≤ n → d < fuel → x_Text_find_3 o (iN b) a3 (iN (i + d)) σ fuel (iN i) = some (iN (s_first (fun c => c == b) f i d)) := by
  have h2 := hG.le
  intro d
  induction d with
  | zero =>
    intro i fuel h1 hf
    obtain ⟨k, rfl⟩ := x_fuelS (show 0 < fuel by omega)
    rw [x_Text_find_3, if_pos ((iN_le (by omega) (by omega)).mpr (by omega))]
    rfl
  | succ d ih =>
    intro i fuel h1 hf
    obtain ⟨k, rfl⟩ := x_fuelS (show 0 < fuel by omega)
    have hbi := hG.by (show i < n by omega)
    have e := ih (i + 1) k (by omega) (by omega)
    rw [show i + 1 + d = i + (d + 1) by omega] at e
    rw [x_Text_find_3, hG.get (by omega), if_neg (mt (iN_le (by omega) (by omega)).mp (by omega)), Option.bind_some]
    unfold s_first
    simp only [x_let]
    rw [show iN i + (1 : Int32) = iN (i + 1) from iN_add i 1, e]
    by_cases hc : f i = b
    · rw [if_pos (by rw [hc]), if_pos (by simpa using hc)]
    · rw [if_neg (mt (iN_eq (by omega) (by omega)).mp hc), if_neg (by simpa using hc)]
theorem c_find (hG : Gt σ o n f) {b i d : Nat} (hb : b < 256) (h : i + d ≤ n) : x_Text_find o (iN b) (iN i) (iN (i + d)) σ = some (iN (s_first (fun c => c == b) f i d)) := by
  have h2 := hG.le
  unfold x_Text_find
  exact c_find0 hG b hb _ d i x_fuel h (by unfold x_fuel; omega)
theorem c_findX {b i t : Nat} (h : t ≤ i) (hi : i < 2147483648) : x_Text_find o (iN b) (iN i) (iN t) σ = some (iN t) := by
  unfold x_Text_find x_fuel
  rw [x_Text_find_3, if_pos ((iN_le (by omega) (by omega)).mpr h)]
theorem c_skip0 (hG : Gt σ o n f) (a2 : Int32) : ∀ d i fuel, i + d ≤ n → d < fuel → x_Text_skipBlanks_2 o a2 (iN (i + d)) σ fuel (iN i) = some (iN (s_first (fun c => !k_blank c) f i d)) := by
  have h2 := hG.le
  intro d
  induction d with
  | zero =>
    intro i fuel h1 hf
    obtain ⟨k, rfl⟩ := x_fuelS (show 0 < fuel by omega)
    rw [x_Text_skipBlanks_2, if_pos ((iN_le (by omega) (by omega)).mpr (by omega))]
    rfl
  | succ d ih =>
    intro i fuel h1 hf
    obtain ⟨k, rfl⟩ := x_fuelS (show 0 < fuel by omega)
    have hbi := hG.by (show i < n by omega)
    have e := ih (i + 1) k (by omega) (by omega)
    rw [show i + 1 + d = i + (d + 1) by omega] at e
    rw [x_Text_skipBlanks_2, hG.get (by omega), if_neg (mt (iN_le (by omega) (by omega)).mp (by omega)), Option.bind_some, c_blank _ hbi, Option.bind_some]
    unfold s_first
    simp only [x_let]
    rw [show iN i + (1 : Int32) = iN (i + 1) from iN_add i 1, e]
    cases k_blank (f i) <;> rfl
theorem c_skip (hG : Gt σ o n f) {i d : Nat} (h : i + d ≤ n) : x_Text_skipBlanks o (iN i) (iN (i + d)) σ = some (iN (s_first (fun c => !k_blank c) f i d)) := by
  have h2 := hG.le
  unfold x_Text_skipBlanks
  exact c_skip0 hG _ d i x_fuel h (by unfold x_fuel; omega)
theorem c_drop0 (hG : Gt σ o n f) (a3 : Int32) (i : Nat) : ∀ d fuel, i + d ≤ n → d < fuel → x_Text_dropBlanks_2 o (iN i) a3 σ fuel (iN (i + d)) = some (iN (s_back f i d)) := by
  have h2 := hG.le
  intro d
  induction d with
  | zero =>
    intro fuel h1 hf
    obtain ⟨k, rfl⟩ := x_fuelS (show 0 < fuel by omega)
    rw [x_Text_dropBlanks_2, if_pos ((iN_le (by omega) (by omega)).mpr (by omega))]
    rfl
  | succ d ih =>
    intro fuel h1 hf
    obtain ⟨k, rfl⟩ := x_fuelS (show 0 < fuel by omega)
    have hbi := hG.by (show i + d < n by omega)
    have e := ih k (by omega) (by omega)
    have e1 : iN (i + (d + 1)) - (1 : Int32) = iN (i + d) := (iN_sub (a := i + (d + 1)) (b := 1) (by omega)).trans (by congr 1)
    have e2 : iN (i + (d + 1)) + ((-1) : Int32) = iN (i + d) := (iN_pred (a := i + (d + 1)) (by omega)).trans (by congr 1)
    rw [x_Text_dropBlanks_2, e1, e2, hG.get (by omega), if_neg (mt (iN_le (by omega) (by omega)).mp (by omega)), Option.bind_some, c_blank _ hbi, Option.bind_some]
    unfold s_back
    simp only [x_let]
    rw [e]
    cases k_blank (f (i + d)) <;> rfl
theorem c_drop (hG : Gt σ o n f) {i d : Nat} (h : i + d ≤ n) : x_Text_dropBlanks o (iN i) (iN (i + d)) σ = some (iN (s_back f i d)) := by
  have h2 := hG.le
  unfold x_Text_dropBlanks
  exact c_drop0 hG _ i d x_fuel h (by unfold x_fuel; omega)
theorem c_ctl0 (hG : Gt σ o n f) (a2 : Int32) : ∀ d i fuel, i + d ≤ n → d < fuel → x_Text_hasControl_2 o a2 (iN (i + d)) σ fuel (iN i) = some (bi (!s_all k_shown f i d)) := by
  have h2 := hG.le
  intro d
  induction d with
  | zero =>
    intro i fuel h1 hf
    obtain ⟨k, rfl⟩ := x_fuelS (show 0 < fuel by omega)
    rw [x_Text_hasControl_2, if_pos ((iN_le (by omega) (by omega)).mpr (by omega))]
    rfl
  | succ d ih =>
    intro i fuel h1 hf
    obtain ⟨k, rfl⟩ := x_fuelS (show 0 < fuel by omega)
    have hbi := hG.by (show i < n by omega)
    have e := ih (i + 1) k (by omega) (by omega)
    rw [show i + 1 + d = i + (d + 1) by omega] at e
    rw [x_Text_hasControl_2, hG.get (by omega), if_neg (mt (iN_le (by omega) (by omega)).mp (by omega)), Option.bind_some, c_ctl _ hbi, Option.bind_some]
    unfold s_all
    simp only [x_let]
    rw [show iN i + (1 : Int32) = iN (i + 1) from iN_add i 1, e]
    cases k_shown (f i) <;> rfl
theorem c_hasControl (hG : Gt σ o n f) {i d : Nat} (h : i + d ≤ n) : x_Text_hasControl o (iN i) (iN (i + d)) σ = some (bi (!s_all k_shown f i d)) := by
  have h2 := hG.le
  unfold x_Text_hasControl
  exact c_ctl0 hG _ d i x_fuel h (by unfold x_fuel; omega)
theorem c_tok0 (hG : Gt σ o n f) (a : Nat) : ∀ d i fuel, a ≤ i → i + d ≤ n → d < fuel → x_Text_isToken_2 o (iN a) (iN (i + d)) σ fuel (iN i) = some (bi (decide (a < i + d) && s_all k_tok f i d)) := by
  have h2 := hG.le
  intro d
  induction d with
  | zero =>
    intro i fuel ha h1 hf
    obtain ⟨k, rfl⟩ := x_fuelS (show 0 < fuel by omega)
    rw [x_Text_isToken_2, if_pos ((iN_le (by omega) (by omega)).mpr (by omega))]
    by_cases hz : a < i
    · rw [if_neg (mt (iN_le (by omega) (by omega)).mp (by omega)), decide_eq_true (show a < i + 0 by omega)]
      rfl
    · rw [if_pos ((iN_le (by omega) (by omega)).mpr (by omega)), decide_eq_false (show ¬ a < i + 0 by omega)]
      rfl
  | succ d ih =>
    intro i fuel ha h1 hf
    obtain ⟨k, rfl⟩ := x_fuelS (show 0 < fuel by omega)
    have hbi := hG.by (show i < n by omega)
    have e := ih (i + 1) k (by omega) (by omega) (by omega)
    rw [show i + 1 + d = i + (d + 1) by omega] at e
    rw [x_Text_isToken_2, hG.get (by omega), if_neg (mt (iN_le (by omega) (by omega)).mp (by omega)), Option.bind_some, c_tok _ hbi, Option.bind_some]
    unfold s_all
    simp only [x_let]
    rw [show iN i + (1 : Int32) = iN (i + 1) from iN_add i 1, e]
    rw [decide_eq_true (show a < i + (d + 1) by omega)]
    cases k_tok (f i) <;> rfl
theorem c_isToken (hG : Gt σ o n f) {i d : Nat} (h : i + d ≤ n) : x_Text_isToken o (iN i) (iN (i + d)) σ = some (bi (decide (0 < d) && s_all k_tok f i d)) := by
  have h2 := hG.le
  unfold x_Text_isToken
  rw [c_tok0 hG i d i x_fuel (Nat.le_refl _) h (by unfold x_fuel; omega)]
  congr 4
  simp
theorem c_hst0 (hG : Gt σ o n f) (a2 : Int32) : ∀ d i fuel, i + d ≤ n → d < fuel → x_Text_isHost_2 o a2 (iN (i + d)) σ fuel (iN i) = some (bi (s_all k_hst f i d)) := by
  have h2 := hG.le
  intro d
  induction d with
  | zero =>
    intro i fuel h1 hf
    obtain ⟨k, rfl⟩ := x_fuelS (show 0 < fuel by omega)
    rw [x_Text_isHost_2, if_pos ((iN_le (by omega) (by omega)).mpr (by omega))]
    rfl
  | succ d ih =>
    intro i fuel h1 hf
    obtain ⟨k, rfl⟩ := x_fuelS (show 0 < fuel by omega)
    have hbi := hG.by (show i < n by omega)
    have e := ih (i + 1) k (by omega) (by omega)
    rw [show i + 1 + d = i + (d + 1) by omega] at e
    rw [x_Text_isHost_2, hG.get (by omega), if_neg (mt (iN_le (by omega) (by omega)).mp (by omega)), Option.bind_some, c_hst _ hbi, Option.bind_some]
    unfold s_all
    simp only [x_let]
    rw [show iN i + (1 : Int32) = iN (i + 1) from iN_add i 1, e]
    cases k_hst (f i) <;> rfl
theorem c_isHost (hG : Gt σ o n f) {i d : Nat} (h : i + d ≤ n) : x_Text_isHost o (iN i) (iN (i + d)) σ = some (bi (s_all k_hst f i d)) := by
  have h2 := hG.le
  unfold x_Text_isHost
  exact c_hst0 hG _ d i x_fuel h (by unfold x_fuel; omega)
theorem hx_m1 {v : Nat} (h : v ≤ 16) : hx v = (-1 : Int32) ↔ ¬ v < 16 := by
  unfold hx
  by_cases q : v < 16
  · rw [if_pos q]
    exact ⟨fun z => absurd z (iN_m1 (by omega)), fun z => absurd q z⟩
  · rw [if_neg q]
    exact ⟨fun _ => q, fun _ => rfl⟩
theorem c_isEscape (hG : Gt σ o n f) {i d : Nat} (h : i + d + 1 ≤ n) : x_Text_isEscape o (iN i) (iN (i + (d + 1))) σ = some (bi (decide (1 < d) && decide (k_hex (f (i + 1)) < 16) && decide (k_hex (f (i + 2)) < 16))) := by
  have h2 := hG.le
  unfold x_Text_isEscape
  rw [show iN i + (2 : Int32) = iN (i + 2) from iN_add i 2, show iN i + (1 : Int32) = iN (i + 1) from iN_add i 1]
  by_cases hd : 1 < d
  · have b1 := hG.by (show i + 1 < n by omega)
    have b2 := hG.by (show i + 2 < n by omega)
    rw [if_neg (mt (iN_le (by omega) (by omega)).mp (by omega)), hG.get (by omega), Option.bind_some, c_hex _ b1, Option.bind_some, hG.get (by omega), Option.bind_some, c_hex _ b2, Option.bind_some]
    by_cases q1 : k_hex (f (i + 1)) < 16
    · by_cases q2 : k_hex (f (i + 2)) < 16
      · rw [if_neg (fun z => (hx_m1 (k_hex_le _ b1)).mp z q1), if_neg (fun z => (hx_m1 (k_hex_le _ b2)).mp z q2)]
        simp [hd, q1, q2, bi]
      · rw [if_neg (fun z => (hx_m1 (k_hex_le _ b1)).mp z q1), if_pos ((hx_m1 (k_hex_le _ b2)).mpr q2)]
        simp [hd, q1, q2, bi]
    · rw [if_pos ((hx_m1 (k_hex_le _ b1)).mpr q1)]
      simp [hd, q1, bi]
  · rw [if_pos ((iN_le (by omega) (by omega)).mpr (by omega))]
    simp [hd, bi]
theorem c_tgt0 (hG : Gt σ o n f) (a : Nat) : ∀ d i fuel, a ≤ i → i + d ≤ n → d < fuel → x_Text_isTarget_2 o (iN a) (iN (i + d)) σ fuel (iN i) = some (bi (decide (a < i + d) && s_tgt f i d)) := by
  have h2 := hG.le
  intro d
  induction d with
  | zero =>
    intro i fuel ha h1 hf
    obtain ⟨k, rfl⟩ := x_fuelS (show 0 < fuel by omega)
    rw [x_Text_isTarget_2, if_pos ((iN_le (by omega) (by omega)).mpr (by omega))]
    by_cases hz : a < i
    · rw [if_neg (mt (iN_le (by omega) (by omega)).mp (by omega)), decide_eq_true (show a < i + 0 by omega)]
      rfl
    · rw [if_pos ((iN_le (by omega) (by omega)).mpr (by omega)), decide_eq_false (show ¬ a < i + 0 by omega)]
      rfl
  | succ d ih =>
    intro i fuel ha h1 hf
    obtain ⟨k, rfl⟩ := x_fuelS (show 0 < fuel by omega)
    have hbi := hG.by (show i < n by omega)
    have e := ih (i + 1) k (by omega) (by omega) (by omega)
    rw [show i + 1 + d = i + (d + 1) by omega] at e
    rw [x_Text_isTarget_2, hG.get (by omega), if_neg (mt (iN_le (by omega) (by omega)).mp (by omega)), Option.bind_some]
    unfold s_tgt x_Text_isTarget_37
    simp only [x_let]
    rw [decide_eq_true (show a < i + (d + 1) by omega)]
    by_cases h37 : f i = 37
    · rw [if_pos (by rw [h37]; rfl), c_isEscape hG (by omega), Option.bind_some, if_pos h37, show iN i + (1 : Int32) = iN (i + 1) from iN_add i 1, e]
      rw [decide_eq_true (show a < i + (d + 1) by omega)]
      generalize (decide (1 < d) && decide (k_hex (f (i + 1)) < 16) && decide (k_hex (f (i + 2)) < 16)) = q
      cases q <;> rfl
    · rw [if_neg (show ¬ iN (f i) = 37 from mt (iN_eq (b := 37) (by omega) (by omega)).mp h37), c_tgt _ hbi, Option.bind_some, if_neg h37, show iN i + (1 : Int32) = iN (i + 1) from iN_add i 1, e]
      rw [decide_eq_true (show a < i + (d + 1) by omega)]
      cases k_tgt (f i) <;> rfl
theorem c_isTarget (hG : Gt σ o n f) {i d : Nat} (h : i + d ≤ n) : x_Text_isTarget o (iN i) (iN (i + d)) σ = some (bi (decide (0 < d) && s_tgt f i d)) := by
  have h2 := hG.le
  unfold x_Text_isTarget
  rw [c_tgt0 hG i d i x_fuel (Nat.le_refl _) h (by unfold x_fuel; omega)]
  congr 4
  simp
end CSC
