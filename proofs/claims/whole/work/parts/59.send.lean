/-! what is sent -/
theorem iN_div {a b : Nat} (ha : a < 2147483648) (hb : b < 2147483648) (h0 : 0 < b) : iN a / iN b = iN (a / b) := by
  have hd : a / b ≤ a := Nat.div_le_self a b
  rw [← Int32.toInt_inj, Int32.toInt_div, iN_toInt ha, iN_toInt hb, iN_toInt (by omega), Int.tdiv_eq_ediv_of_nonneg (by omega)]
  rw [← Int.natCast_ediv]
  generalize a / b = c at *
  rw [show (2 : Nat) ^ 32 = 4294967296 from rfl]
  exact Int.bmod_eq_of_le (by omega) (by omega)
def dgL (v : Nat) : Nat → List Nat
  | 0 => [48 + v % 10]
  | k + 1 => (48 + v / 10 ^ (k + 1) % 10) :: dgL v k
def dgN (v : Nat) : Nat → Nat → List Nat
  | 0, k => dgL v k
  | z + 1, k => if v / 10 ^ k < 10 then dgL v k else dgN v z (k + 1)
/-- the digits of a number -/
def dg (v : Nat) : List Nat := dgN v 9 0
theorem dgL_len (v : Nat) : ∀ k, (dgL v k).length = k + 1 := by
  intro k
  induction k with
  | zero => rfl
  | succ k ih => rw [dgL, List.length_cons, ih]
theorem dgN_len (v : Nat) : ∀ z k, (dgN v z k).length ≤ z + k + 1 := by
  intro z
  induction z with
  | zero => intro k; rw [dgN, dgL_len]; omega
  | succ z ih =>
    intro k
    rw [dgN]
    split
    · rw [dgL_len]; omega
    · have := ih (k + 1); omega
theorem dg_len (v : Nat) : (dg v).length ≤ 10 := dgN_len v 9 0
/-- the class's outbox holds O -/
def Co (σ : St) (O : List Nat) : Prop := σ.1 48 1 = iN O.length ∧ GL σ 49 (O.take 2000)
theorem Co.of {σ σ' : St} {O : List Nat} (h : Co σ O) (e1 : σ'.1 48 1 = σ.1 48 1) (e2 : σ'.1 49 1 = σ.1 49 1) (e3 : σ'.2.1 50 = σ.2.1 50) : Co σ' O := ⟨by rw [e1]; exact h.1, h.2.of e2 e3⟩
def Cw (σ0 σ : St) (O : List Nat) : Prop := Co σ O ∧ xFp [(49, 1), (48, 1)] [50] (false, false, false) σ0 σ
theorem cw_byte {σ0 σ : St} {O : List Nat} (h : Cw σ0 σ O) {b : Nat} (hb : b < 256) : ∃ σ', x_Outbox_writeByte (iN b) σ = some σ' ∧ Cw σ0 σ' (O ++ [b]) := by
  obtain ⟨⟨h1, h2⟩, h3⟩ := h
  have hal : aln 50 = 2000 := by decide
  have key : ∃ s1, x_Bytes_add 49 (iN b) σ = some s1 ∧ GL s1 49 ((O ++ [b]).take 2000) := by
    by_cases q : O.length < 2000
    · rw [List.take_of_length_le (by omega)] at h2
      rw [List.take_of_length_le (by simp; omega)]
      exact h2.add hb (by rw [hal]; omega)
    · refine ⟨σ, ?_, by rw [List.take_append_of_le_length (by omega)]; exact h2⟩
      unfold GL at h2
      rw [List.length_take, show min 2000 O.length = 2000 by omega] at h2
      exact c_addX h2 (iN b)
  obtain ⟨s1, a1, a2⟩ := key
  have fp := fp_Bytes_add _ _ _ a1
  have e : s1.1 48 1 = iN O.length := by rw [fp.1 _ _ (by simp)]; exact h1
  have run : x_Outbox_writeByte (iN b) σ = some (x_updR s1 48 1 (iN (O.length + 1))) := by
    unfold x_Outbox_writeByte
    rw [a1, Option.bind_some]
    simp only [x_let]
    rw [e, iN_1a]
  refine ⟨_, run, ⟨?_, a2.of (by simp [x_updR]) rfl⟩, h3.tr (fp_Outbox_writeByte _ _ run)⟩
  simp [x_updR]
theorem cw_text0 {σ0 : St} {w : Nat} (hw : w < 42) : ∀ d k fuel σ O, k + d = (wd_ w).length → d < fuel → Cw σ0 σ O → ∃ σ', x_Outbox_writeText_2 w fuel (iN k) σ = some σ' ∧ Cw σ0 σ' (O ++ (wd_ w).drop k) := by
  have hs := w_short w hw
  intro d
  induction d with
  | zero =>
    intro k fuel σ O hk hf h
    obtain ⟨z, rfl⟩ := x_fuelS (show 0 < fuel by omega)
    refine ⟨σ, ?_, by rw [List.drop_eq_nil_of_le (by omega), List.append_nil]; exact h⟩
    rw [x_Outbox_writeText_2, w_len w hw, Option.bind_some, if_pos ((iN_le (by omega) (by omega)).mpr (by omega))]
  | succ d ih =>
    intro k fuel σ O hk hf h
    obtain ⟨z, rfl⟩ := x_fuelS (show 0 < fuel by omega)
    have hc := w_by w hw k (by omega)
    obtain ⟨s1, a1, a2⟩ := cw_byte h hc
    obtain ⟨s2, b1, b2⟩ := ih (k + 1) z s1 _ (by omega) (by omega) a2
    refine ⟨s2, ?_, ?_⟩
    · rw [x_Outbox_writeText_2, w_len w hw, Option.bind_some, if_neg (mt (iN_le (by omega) (by omega)).mp (by omega)), w_at w hw k (by omega), Option.bind_some, a1, Option.bind_some]
      simp only [x_let]
      rw [iN_1a, b1]
    · rw [List.append_assoc] at b2
      rw [List.drop_eq_getElem_cons (show k < (wd_ w).length by omega)]
      rw [List.getD_eq_getElem?_getD, List.getElem?_eq_getElem (show k < (wd_ w).length by omega)] at b2
      exact b2
theorem cw_text {σ0 σ : St} {O : List Nat} (h : Cw σ0 σ O) {w : Nat} (hw : w < 42) : ∃ σ', x_Outbox_writeText w σ = some σ' ∧ Cw σ0 σ' (O ++ wd_ w) := by
  have := cw_text0 hw (wd_ w).length 0 x_fuel σ O (by omega) (by have := w_short w hw; unfold x_fuel; omega) h
  rw [List.drop_zero] at this
  exact this
theorem p10 : ∀ k, k < 10 → 10 ^ k < 2147483648 ∧ 0 < 10 ^ k := by decide
theorem dg_byte {v k : Nat} (hv : v < 1000000000) (hk : k < 10) : (48 : Int32) + ((iN v / iN (10 ^ k)) - (iN v / iN (10 ^ k)) / (10 : Int32) * (10 : Int32)) = iN (48 + v / 10 ^ k % 10) := by
  have hp := p10 k hk
  have hd : v / 10 ^ k ≤ v := Nat.div_le_self _ _
  rw [iN_div (by omega) hp.1 hp.2, show (10 : Int32) = iN 10 from rfl, iN_div (by omega) (by decide) (by decide), iN_mul, iN_sub (by omega), show (48 : Int32) = iN 48 from rfl, iN_add]
  congr 1
  omega
theorem cw_num1 {σ0 : St} {v : Nat} (hv : v < 1000000000) : ∀ k l fuel σ O, l + k < 10 → k + 1 < fuel → Cw σ0 σ O → ∃ σ', x_Outbox_writeNumber_31 (iN v) fuel (iN (10 ^ k)) (iN l) σ = some σ' ∧ Cw σ0 σ' (O ++ dgL v k) := by
  intro k
  induction k with
  | zero =>
    intro l fuel σ O hl hf h
    obtain ⟨z, rfl⟩ := x_fuelS (show 0 < fuel by omega)
    obtain ⟨y, rfl⟩ := x_fuelS (show 0 < z by omega)
    obtain ⟨s1, a1, a2⟩ := cw_byte h (b := 48 + v / 10 ^ 0 % 10) (by omega)
    refine ⟨s1, ?_, ?_⟩
    · rw [x_Outbox_writeNumber_31, if_neg (show ¬ (10 : Int32) ≤ iN l from mt (iN_le (a := 10) (by omega) (by omega)).mp (by omega)), if_neg (show ¬ iN (10 ^ 0) ≤ 0 by decide), if_pos (show ¬ iN (10 ^ 0) = 0 by decide), dg_byte hv (by decide), a1, Option.bind_some]
      simp only [x_let]
      rw [x_Outbox_writeNumber_31, if_pos (show iN (10 ^ 0) / 10 ≤ 0 by decide)]
      simp only [ite_self]
    · rw [dgL]
      rw [Nat.pow_zero, Nat.div_one] at a2
      exact a2
  | succ k ih =>
    intro l fuel σ O hl hf h
    obtain ⟨z, rfl⟩ := x_fuelS (show 0 < fuel by omega)
    have hp := p10 (k + 1) (by omega)
    obtain ⟨s1, a1, a2⟩ := cw_byte h (b := 48 + v / 10 ^ (k + 1) % 10) (by omega)
    obtain ⟨s2, b1, b2⟩ := ih (l + 1) z s1 _ (by omega) (by omega) a2
    refine ⟨s2, ?_, ?_⟩
    · rw [x_Outbox_writeNumber_31, if_neg (show ¬ (10 : Int32) ≤ iN l from mt (iN_le (a := 10) (by omega) (by omega)).mp (by omega)), if_neg (mt (iN_le0 hp.1).mp (by omega)), if_pos (mt (iN_eq0 hp.1).mp (by omega)), dg_byte hv (by omega), a1, Option.bind_some]
      simp only [x_let]
      rw [show (10 : Int32) = iN 10 from rfl, iN_div hp.1 (by decide) (by decide), show 10 ^ (k + 1) / 10 = 10 ^ k by rw [Nat.pow_succ]; exact Nat.mul_div_cancel _ (by decide), iN_1a]
      exact b1
    · rw [List.append_assoc] at b2
      exact b2
theorem cw_num0 {σ0 : St} {v : Nat} (hv : v < 1000000000) : ∀ z k fuel σ O, z + k = 9 → z < fuel → Cw σ0 σ O → ∃ σ', x_Outbox_writeNumber_4 (iN v) fuel (iN (10 ^ k)) (iN k) σ = some σ' ∧ Cw σ0 σ' (O ++ dgN v z k) := by
  intro z
  induction z with
  | zero =>
    intro k fuel σ O hk hf h
    obtain ⟨y, rfl⟩ := x_fuelS (show 0 < fuel by omega)
    rw [x_Outbox_writeNumber_4, if_pos (show (9 : Int32) ≤ iN k from (iN_le (a := 9) (by omega) (by omega)).mpr (by omega)), dgN]
    exact cw_num1 hv k 0 x_fuel σ O (by omega) (by unfold x_fuel; omega) h
  | succ z ih =>
    intro k fuel σ O hk hf h
    obtain ⟨y, rfl⟩ := x_fuelS (show 0 < fuel by omega)
    have hp := p10 k (by omega)
    have hp2 := p10 (k + 1) (by omega)
    have hd : v / 10 ^ k ≤ v := Nat.div_le_self _ _
    rw [x_Outbox_writeNumber_4, if_neg (show ¬ (9 : Int32) ≤ iN k from mt (iN_le (a := 9) (by omega) (by omega)).mp (by omega)), if_pos (mt (iN_eq0 hp.1).mp (by omega)), iN_div (by omega) hp.1 hp.2, dgN]
    by_cases q : v / 10 ^ k < 10
    · rw [if_pos (show iN (v / 10 ^ k) < 10 from (iN_lt (b := 10) (by omega) (by omega)).mpr q), if_pos q]
      exact cw_num1 hv k 0 x_fuel σ O (by omega) (by unfold x_fuel; omega) h
    · rw [if_neg (show ¬ iN (v / 10 ^ k) < 10 from mt (iN_lt (b := 10) (by omega) (by omega)).mp q), if_neg q]
      simp only [x_let]
      rw [show (10 : Int32) = iN 10 from rfl, iN_mul, iN_1a, ← Nat.pow_succ]
      exact ih (k + 1) y σ O (by omega) (by omega) h
theorem cw_num {σ0 σ : St} {O : List Nat} (h : Cw σ0 σ O) {v : Nat} (hv : v < 1000000000) : ∃ σ', x_Outbox_writeNumber (iN v) σ = some σ' ∧ Cw σ0 σ' (O ++ dg v) :=
  cw_num0 hv 9 0 x_fuel σ O (by omega) (by unfold x_fuel; omega) h
/-- the reference's -/
def Mo (σ : St) (O : List Nat) : Prop := σ.1 51 31 = iN O.length ∧ ∀ i, i < 2000 → i < O.length → σ.2.1 65 i = iN (O.getD i 0)
theorem Mo.of {σ σ' : St} {O : List Nat} (h : Mo σ O) (e1 : σ'.1 51 31 = σ.1 51 31) (e2 : σ'.2.1 65 = σ.2.1 65) : Mo σ' O := ⟨by rw [e1]; exact h.1, fun i h1 h2 => by rw [e2]; exact h.2 i h1 h2⟩
def Mw (σ0 σ : St) (O : List Nat) (n : Nat) : Prop := Mo σ O ∧ xFp [(51, 31)] [65] (false, false, false) σ0 σ ∧ O.length + n < 2000000000
theorem mw_byte {σ0 σ : St} {O : List Nat} {n : Nat} (h : Mw σ0 σ O (n + 1)) (b : Nat) : ∃ σ', x_Model_say (iN b) σ = some σ' ∧ Mw σ0 σ' (O ++ [b]) n := by
  obtain ⟨⟨h1, h2⟩, h3, h4⟩ := h
  by_cases q : 2000 ≤ O.length
  · have run : x_Model_say (iN b) σ = some (x_updR σ 51 31 (iN (O.length + 1))) := by
      unfold x_Model_say x_Model_say_20
      simp only [x_let]
      rw [h1, if_pos (show (2000 : Int32) ≤ iN O.length from (iN_le (a := 2000) (by omega) (by omega)).mpr q), iN_1a]
    refine ⟨_, run, ⟨by simp [x_updR], fun i a1 a2 => ?_⟩, h3.tr (fp_Model_say _ _ run), by simp; omega⟩
    rw [getD_app, if_neg (by omega)]
    exact h2 i a1 (by omega)
  · have run : x_Model_say (iN b) σ = some (x_updR (x_updM σ 65 O.length (iN b)) 51 31 (iN (O.length + 1))) := by
      unfold x_Model_say x_Model_say_20
      simp only [x_let]
      rw [h1, if_neg (show ¬ (2000 : Int32) ≤ iN O.length from mt (iN_le (a := 2000) (by omega) (by omega)).mp q), if_pos ((iN_in (by omega)).mpr (by omega)), iN_clamp (by omega), show (x_updM σ 65 O.length (iN b)).1 51 31 = iN O.length from h1, iN_1a]
    refine ⟨_, run, ⟨by simp [x_updR], fun i a1 a2 => ?_⟩, h3.tr (fp_Model_say _ _ run), by simp; omega⟩
    rw [getD_app]
    show (if 65 = 65 ∧ i = O.length then iN b else σ.2.1 65 i) = _
    by_cases e : i = O.length
    · rw [if_pos ⟨rfl, e⟩, if_pos e]
    · rw [if_neg (fun z => e z.2), if_neg e]
      simp at a2
      exact h2 i a1 (by omega)
theorem mw_word0 {σ0 : St} {w : Nat} {u : List Nat} (hw : MW w u) (a1 : Int32) : ∀ d k fuel σ O n, k + d = u.length → d < fuel → Mw σ0 σ O (n + d) → ∃ σ', x_Model_sayWord_2 a1 fuel (iN (w + k)) σ = some σ' ∧ Mw σ0 σ' (O ++ u.drop k) n := by
  obtain ⟨w1, w2, w3⟩ := hw
  intro d
  induction d with
  | zero =>
    intro k fuel σ O n hk hf h
    obtain ⟨z, rfl⟩ := x_fuelS (show 0 < fuel by omega)
    refine ⟨σ, ?_, by rw [List.drop_eq_nil_of_le (by omega), List.append_nil]; exact h⟩
    rw [x_Model_sayWord_2, m_letter (by omega), Option.bind_some, show w + k = w + u.length by omega, w3]
    rfl
  | succ d ih =>
    intro k fuel σ O n hk hf h
    obtain ⟨z, rfl⟩ := x_fuelS (show 0 < fuel by omega)
    obtain ⟨c1, c2⟩ := w2 k (by omega)
    have c3 := ltr_lt (w + k) (by omega)
    obtain ⟨s1, a1, a2⟩ := mw_byte (n := n + d) h (ltr (w + k))
    obtain ⟨s2, b1, b2⟩ := ih (k + 1) z s1 _ n (by omega) (by omega) a2
    refine ⟨s2, ?_, ?_⟩
    · rw [x_Model_sayWord_2, m_letter (by omega), Option.bind_some, if_neg (mt (iN_eq0 (by omega)).mp c2), Option.bind_some, a1, Option.bind_some]
      simp only [x_let]
      rw [iN_1a, Nat.add_assoc]
      exact b1
    · rw [List.append_assoc, c1] at b2
      rw [List.drop_eq_getElem_cons (show k < u.length by omega)]
      rw [List.getD_eq_getElem?_getD, List.getElem?_eq_getElem (show k < u.length by omega)] at b2
      exact b2
theorem Mw.less {σ0 σ : St} {O : List Nat} {n m : Nat} (h : Mw σ0 σ O n) (hm : m ≤ n) : Mw σ0 σ O m := ⟨h.1, h.2.1, by have := h.2.2; omega⟩
theorem mw_word {σ0 σ : St} {O : List Nat} {n : Nat} (h : Mw σ0 σ O n) {w : Nat} {u : List Nat} (hw : MW w u) (hu : u.length ≤ 64) (hn : 64 ≤ n) : ∃ σ', x_Model_sayWord (iN w) σ = some σ' ∧ Mw σ0 σ' (O ++ u) (n - 64) := by
  have := mw_word0 hw (iN w) u.length 0 x_fuel σ O (n - 64) (by omega) (by unfold x_fuel; omega) (h.less (by omega))
  rw [List.drop_zero, Nat.add_zero] at this
  exact this
theorem mw_num1 {σ0 : St} {v : Nat} (hv : v < 1000000000) : ∀ k fuel σ O n, k < 10 → k + 1 < fuel → Mw σ0 σ O (n + (k + 1)) → ∃ σ', x_Model_sayNumber_18 (iN v) fuel (iN (10 ^ k)) σ = some σ' ∧ Mw σ0 σ' (O ++ dgL v k) n := by
  intro k
  induction k with
  | zero =>
    intro fuel σ O n hl hf h
    obtain ⟨z, rfl⟩ := x_fuelS (show 0 < fuel by omega)
    obtain ⟨y, rfl⟩ := x_fuelS (show 0 < z by omega)
    obtain ⟨s1, a1, a2⟩ := mw_byte h (48 + v / 10 ^ 0 % 10)
    refine ⟨s1, ?_, ?_⟩
    · rw [x_Model_sayNumber_18, if_neg (show ¬ iN (10 ^ 0) ≤ 0 by decide), if_pos (show ¬ iN (10 ^ 0) = 0 by decide), dg_byte hv (by decide), a1, Option.bind_some]
      simp only [x_let]
      rw [x_Model_sayNumber_18, if_pos (show iN (10 ^ 0) / 10 ≤ 0 by decide)]
    · rw [dgL]
      rw [Nat.pow_zero, Nat.div_one] at a2
      exact a2
  | succ k ih =>
    intro fuel σ O n hl hf h
    obtain ⟨z, rfl⟩ := x_fuelS (show 0 < fuel by omega)
    have hp := p10 (k + 1) (by omega)
    obtain ⟨s1, a1, a2⟩ := mw_byte (n := n + (k + 1)) h (48 + v / 10 ^ (k + 1) % 10)
    obtain ⟨s2, b1, b2⟩ := ih z s1 _ n (by omega) (by omega) a2
    refine ⟨s2, ?_, ?_⟩
    · rw [x_Model_sayNumber_18, if_neg (mt (iN_le0 hp.1).mp (by omega)), if_pos (mt (iN_eq0 hp.1).mp (by omega)), dg_byte hv (by omega), a1, Option.bind_some]
      simp only [x_let]
      rw [show (10 : Int32) = iN 10 from rfl, iN_div hp.1 (by decide) (by decide), show 10 ^ (k + 1) / 10 = 10 ^ k by rw [Nat.pow_succ]; exact Nat.mul_div_cancel _ (by decide)]
      exact b1
    · rw [List.append_assoc] at b2
      exact b2
theorem mw_num0 {σ0 : St} {v : Nat} (hv : v < 1000000000) : ∀ z k fuel σ O n, z + k = 9 → z < fuel → Mw σ0 σ O (n + 10) → ∃ σ', x_Model_sayNumber_2 (iN v) fuel (iN (10 ^ k)) σ = some σ' ∧ Mw σ0 σ' (O ++ dgN v z k) n := by
  intro z
  induction z with
  | zero =>
    intro k fuel σ O n hk hf h
    obtain ⟨y, rfl⟩ := x_fuelS (show 0 < fuel by omega)
    have hp := p10 k (by omega)
    have e9 : k = 9 := by omega
    have hd : v / 10 ^ k = 0 := by rw [e9]; exact Nat.div_eq_of_lt (by omega)
    rw [x_Model_sayNumber_2, if_pos (mt (iN_eq0 hp.1).mp (by omega)), iN_div (by omega) hp.1 hp.2, hd, if_pos (show iN 0 ≤ 9 by decide), dgN]
    exact mw_num1 hv k x_fuel σ O n (by omega) (by unfold x_fuel; omega) (h.less (by omega))
  | succ z ih =>
    intro k fuel σ O n hk hf h
    obtain ⟨y, rfl⟩ := x_fuelS (show 0 < fuel by omega)
    have hp := p10 k (by omega)
    have hd : v / 10 ^ k ≤ v := Nat.div_le_self _ _
    rw [x_Model_sayNumber_2, if_pos (mt (iN_eq0 hp.1).mp (by omega)), iN_div (by omega) hp.1 hp.2, dgN]
    by_cases q : v / 10 ^ k < 10
    · rw [if_pos (show iN (v / 10 ^ k) ≤ 9 from (iN_le (b := 9) (by omega) (by omega)).mpr (by omega)), if_pos q]
      exact mw_num1 hv k x_fuel σ O n (by omega) (by unfold x_fuel; omega) (h.less (by omega))
    · rw [if_neg (show ¬ iN (v / 10 ^ k) ≤ 9 from mt (iN_le (b := 9) (by omega) (by omega)).mp (by omega)), if_neg q]
      simp only [x_let]
      rw [show (10 : Int32) = iN 10 from rfl, iN_mul, Nat.mul_comm, ← Nat.pow_succ]
      exact ih (k + 1) y σ O n (by omega) (by omega) h
theorem mw_num {σ0 σ : St} {O : List Nat} {n : Nat} (h : Mw σ0 σ O n) {v : Nat} (hv : v < 1000000000) (hn : 10 ≤ n) : ∃ σ', x_Model_sayNumber (iN v) σ = some σ' ∧ Mw σ0 σ' (O ++ dg v) (n - 10) :=
  mw_num0 hv 9 0 x_fuel σ O (n - 10) (by omega) (by unfold x_fuel; omega) (h.less (by omega))
theorem mw_end {σ0 σ : St} {O : List Nat} {n : Nat} (h : Mw σ0 σ O n) (hn : 2 ≤ n) : ∃ σ', x_Model_endSaying σ = some σ' ∧ Mw σ0 σ' (O ++ wd_ 24) (n - 2) := by
  obtain ⟨s1, a1, a2⟩ := mw_byte (n := n - 1) (h.less (by omega)) 13
  obtain ⟨s2, b1, b2⟩ := mw_byte (n := n - 2) (a2.less (by omega)) 10
  refine ⟨s2, ?_, ?_⟩
  · unfold x_Model_endSaying
    rw [show (13 : Int32) = iN 13 from rfl, a1, Option.bind_some, show (10 : Int32) = iN 10 from rfl, b1, Option.bind_some]
  · rw [List.append_assoc] at b2
    exact b2
