/-! the request line in the reference -/
theorem il_146 : (146 : Int32) = iN 146 := rfl
theorem updR_self (σ : St) (k j : Nat) : x_updR σ k j (σ.1 k j) = σ := by
  unfold x_updR
  have : (fun a b => if a = k ∧ b = j then σ.1 k j else σ.1 a b) = σ.1 := by
    funext a b
    by_cases h : a = k ∧ b = j
    · rw [if_pos h, h.1, h.2]
    · rw [if_neg h]
  rw [this]
theorem m_blame1 (c : Int32) (σ : St) : x_Model_blame 1 c σ = some σ := by
  unfold x_Model_blame
  simp only [x_let, updR_self, i10, if_false, ite_self]
theorem m_blameW {σ : St} {w : Nat} (h : σ.1 51 25 = iN w) (h1 : w < 1000) (h2 : ¬ w = 0) (p c : Int32) : x_Model_blame p c σ = some σ := by
  unfold x_Model_blame
  simp only [x_let, updR_self]
  rw [h, if_neg (mt (iN_eq0 (by omega)).mp h2)]
theorem m_blame0 {σ : St} (h : σ.1 51 25 = iN 0) (c : Int32) : x_Model_blame 0 c σ = some (x_updR σ 51 25 c) := by
  unfold x_Model_blame
  simp only [x_let, if_true]
  rw [if_pos (show σ.1 51 25 = 0 from h)]
/-- one accusation: the row stays, and what is wrong -/
theorem m_blame {σ : St} {w : Nat} (h : σ.1 51 25 = iN w) (h1 : w < 1000) (p : Bool) {c : Nat} (hc : c < 1000) : ∃ σ', x_Model_blame (bi p) (iN c) σ = some σ' ∧ σ'.1 51 25 = iN (if ¬ w = 0 then w else if p then 0 else c) ∧ (¬ w = 0 ∨ p = true → σ' = σ) ∧ xFp [(51, 25)] [] (false, false, false) σ σ' := by
  by_cases hw : w = 0
  · subst hw
    cases p
    · refine ⟨_, m_blame0 h _, ?_, fun z => ?_, fp_Model_blame _ _ _ (m_blame0 h _)⟩
      · simp [x_updR]
      · rcases z with z | z
        · exact absurd rfl z
        · cases z
    · exact ⟨_, m_blame1 (iN c) σ, by simpa using h, fun _ => rfl, fp_Model_blame _ _ _ (m_blame1 (iN c) σ)⟩
  · refine ⟨_, m_blameW h h1 hw (bi p) (iN c), ?_, fun _ => rfl, fp_Model_blame _ _ _ (m_blameW h h1 hw (bi p) (iN c))⟩
    rw [if_pos hw]
    exact h
theorem m_copy0 {n one ts : Nat} {f : Nat → Nat} (hn : n ≤ 80) (ht : one + 1 + ts ≤ n) : ∀ d k fuel (σ : St), k + d = ts → d < fuel → Ml σ n f → σ.1 51 13 = iN ts → (∀ j, j < k → σ.2.1 58 j = iN (f (one + 1 + j))) → ∃ σ', x_Model_takeRequestLine_558 fuel (iN one) (iN k) σ = some σ' ∧ (∀ j, j < ts → σ'.2.1 58 j = iN (f (one + 1 + j))) ∧ σ'.1 51 8 = 1 ∧ xFp [(51, 8)] [58] (false, false, false) σ σ' := by
  intro d
  induction d with
  | zero =>
    intro k fuel σ hk hf hL h13 hT
    obtain ⟨z, rfl⟩ := x_fuelS (show 0 < fuel by omega)
    rw [show k = ts by omega] at hT ⊢
    refine ⟨x_updR σ 51 8 1, ?_, hT, by simp [x_updR], xFp.R rfl (by simp)⟩
    rw [x_Model_takeRequestLine_558]
    simp (disch := omega) only [iN_lt, iN_le, iN_eq, iN_add, iN_sub, iN_mul, iN_in, iN_clamp, iN_1a, iN_1e, iN_1l, iN_l1, iN_0e, iN_0l, iN_l0, iN_pred, iN_sub1, iN_1le, il_2, il_3, il_4, il_5, il_6, il_7, il_8, il_9, il_10, il_12, il_13, il_16, il_20, il_32, il_34, il_37, il_42, il_44, il_45, il_46, il_47, il_48, il_49, il_57, il_58, il_59, il_63, il_80, il_97, il_200, il_205, il_400, il_404, il_405, il_413, il_414, il_416, il_417, il_431, il_501, il_505, il_2000, if_pos, if_neg, Option.bind_some, x_let, x_bind2_some, x_opt, h13]
  | succ d ih =>
    intro k fuel σ hk hf hL h13 hT
    obtain ⟨z, rfl⟩ := x_fuelS (show 0 < fuel by omega)
    have hb := hL.2.2 (one + 1 + k) (by omega)
    have hL1 : Ml (x_updM σ 58 k (iN (f (one + 1 + k)))) n f := hL.of rfl (by funext j; simp [x_updM])
    obtain ⟨σ', a1, a2, a3, a4⟩ := ih (k + 1) z (x_updM σ 58 k (iN (f (one + 1 + k)))) (by omega) (by omega) hL1 h13 (fun j hj => by
      show (if 58 = 58 ∧ j = k then iN (f (one + 1 + k)) else σ.2.1 58 j) = _
      by_cases q : j = k
      · rw [if_pos ⟨rfl, q⟩, q]
      · rw [if_neg (fun z => q z.2)]
        exact hT j (by omega))
    refine ⟨σ', ?_, a2, a3, (xFp.M rfl (by simp)).tr a4⟩
    rw [← a1, x_Model_takeRequestLine_558]
    simp (disch := omega) only [iN_lt, iN_le, iN_eq, iN_add, iN_sub, iN_mul, iN_in, iN_clamp, iN_1a, iN_1e, iN_1l, iN_l1, iN_0e, iN_0l, iN_l0, iN_pred, iN_sub1, iN_1le, il_2, il_3, il_4, il_5, il_6, il_7, il_8, il_9, il_10, il_12, il_13, il_16, il_20, il_32, il_34, il_37, il_42, il_44, il_45, il_46, il_47, il_48, il_49, il_57, il_58, il_59, il_63, il_80, il_97, il_200, il_205, il_400, il_404, il_405, il_413, il_414, il_416, il_417, il_431, il_501, il_505, il_2000, if_pos, if_neg, Option.bind_some, x_let, x_bind2_some, x_opt, h13, hb.1]
def m_offN (m : Nat) : Nat := [121, 125, 130, 134, 139, 146, 154].getD m 0
/-- a request line taken -/
def Mg (σ σ' : St) (f : Nat → Nat) (one two : Nat) (l5 : Int32) : Prop := σ'.1 51 8 = 1 ∧ σ'.1 51 12 = l5 ∧ σ'.1 51 15 = iN (f (two + 8) - 48) ∧ σ'.1 51 13 = iN (two - one - 1) ∧ (∀ j, j < two - one - 1 → σ'.2.1 58 j = iN (f (one + 1 + j))) ∧ σ'.1 51 17 = σ.1 51 17 ∧ σ'.1 51 16 = σ.1 51 16 ∧ σ'.1 51 21 = σ.1 51 21 ∧ σ'.1 51 22 = σ.1 51 22
theorem m_510 {σ : St} {n : Nat} {f : Nat → Nat} (hL : Ml σ n f) {w : Nat} (h : σ.1 51 25 = iN w) (h1 : w < 1000) {one two : Nat} (l1 : one + 1 < two) (l2 : two + 9 = n) (hd : k_dig (f (two + 8)) = true) (l5 : Int32) (p : Bool) : ∃ σ', x_Model_takeRequestLine_510 (iN one) (iN two) l5 (bi p) σ = some σ' ∧ σ'.1 51 25 = iN (if ¬ w = 0 then w else if p then 0 else 400) ∧ (w = 0 → p = true → Mg σ σ' f one two l5) := by
  obtain ⟨s1, a1, a2, a3, a4⟩ := m_blame h h1 p (c := 400) (by decide)
  have hn := hL.2.1
  unfold x_Model_takeRequestLine_510
  by_cases hw : w = 0
  · subst hw
    cases p
    · refine ⟨s1, ?_, a2, fun _ z => by cases z⟩
      simp at a2
      rw [il_400, a1, Option.bind_some]
      simp (disch := omega) only [iN_lt, iN_le, iN_eq, iN_add, iN_sub, iN_mul, iN_in, iN_clamp, iN_1a, iN_1e, iN_1l, iN_l1, iN_0e, iN_0l, iN_l0, iN_pred, iN_sub1, iN_1le, il_2, il_3, il_4, il_5, il_6, il_7, il_8, il_9, il_10, il_12, il_13, il_16, il_20, il_32, il_34, il_37, il_42, il_44, il_45, il_46, il_47, il_48, il_49, il_57, il_58, il_59, il_63, il_80, il_97, il_200, il_205, il_400, il_404, il_405, il_413, il_414, il_416, il_417, il_431, il_501, il_505, il_2000, if_pos, if_neg, Option.bind_some, x_let, x_bind2_some, x_opt, a2, decide_true, decide_false, bi_t, bi_f, i10, i1n, eq_self, if_true, if_false, bi_bt, x_b0, x_b1, Bool.true_and, Bool.false_and, Bool.and_true, Bool.and_false, Bool.and_self]
    · have e := a3 (Or.inr rfl)
      subst e
      have hb := hL.2.2 (two + 8) (by omega)
      have h48 : 48 ≤ f (two + 8) ∧ f (two + 8) ≤ 57 := by simpa [k_dig] using hd
      generalize hs : x_updR (x_updR (x_updR s1 51 12 l5) 51 15 (iN (f (two + 8) - 48))) 51 13 (iN (two - one - 1)) = s2
      have hL2 : Ml s2 n f := by rw [← hs]; exact hL.of (by simp [x_updR]) rfl
      obtain ⟨σ', b1, b2, b3, b4⟩ := m_copy0 hn (one := one) (ts := two - one - 1) (f := f) (by omega) (two - one - 1) 0 x_fuel s2 (by omega) (by unfold x_fuel; omega) hL2 (by rw [← hs]; simp [x_updR]) (fun j hj => absurd hj (Nat.not_lt_zero j))
      refine ⟨σ', ?_, ?_, fun _ _ => ⟨b3, ?_, ?_, ?_, b2, ?_, ?_, ?_, ?_⟩⟩
      · rw [show iN 0 = (0 : Int32) from rfl] at b1 h
        rw [il_400, a1, Option.bind_some]
        simp (disch := omega) only [iN_lt, iN_le, iN_eq, iN_add, iN_sub, iN_mul, iN_in, iN_clamp, iN_1a, iN_1e, iN_1l, iN_l1, iN_0e, iN_0l, iN_l0, iN_pred, iN_sub1, iN_1le, il_2, il_3, il_4, il_5, il_6, il_7, il_8, il_9, il_10, il_12, il_13, il_16, il_20, il_32, il_34, il_37, il_42, il_44, il_45, il_46, il_47, il_48, il_49, il_57, il_58, il_59, il_63, il_80, il_97, il_200, il_205, il_400, il_404, il_405, il_413, il_414, il_416, il_417, il_431, il_501, il_505, il_2000, if_pos, if_neg, Option.bind_some, x_let, x_bind2_some, x_opt, h, show (x_updR s1 51 12 l5).2.1 57 (two + 8) = iN (f (two + 8)) from hb.1, hs, b1, decide_true, decide_false, bi_t, bi_f, i10, i1n, eq_self, if_true, if_false, bi_bt, x_b0, x_b1, Bool.true_and, Bool.false_and, Bool.and_true, Bool.and_false, Bool.and_self]
        rfl
      · rw [b4.1 _ _ (by simp), ← hs]; simp [x_updR]; exact h
      · rw [b4.1 _ _ (by simp), ← hs]; simp [x_updR]
      · rw [b4.1 _ _ (by simp), ← hs]; simp [x_updR]
      · rw [b4.1 _ _ (by simp), ← hs]; simp [x_updR]
      · rw [b4.1 _ _ (by simp), ← hs]; simp [x_updR]
      · rw [b4.1 _ _ (by simp), ← hs]; simp [x_updR]
      · rw [b4.1 _ _ (by simp), ← hs]; simp [x_updR]
      · rw [b4.1 _ _ (by simp), ← hs]; simp [x_updR]
  · refine ⟨s1, ?_, a2, fun z => absurd z hw⟩
    rw [if_pos hw] at a2
    rw [il_400, a1, Option.bind_some]
    simp (disch := omega) only [iN_lt, iN_le, iN_eq, iN_add, iN_sub, iN_mul, iN_in, iN_clamp, iN_1a, iN_1e, iN_1l, iN_l1, iN_0e, iN_0l, iN_l0, iN_pred, iN_sub1, iN_1le, il_2, il_3, il_4, il_5, il_6, il_7, il_8, il_9, il_10, il_12, il_13, il_16, il_20, il_32, il_34, il_37, il_42, il_44, il_45, il_46, il_47, il_48, il_49, il_57, il_58, il_59, il_63, il_80, il_97, il_200, il_205, il_400, il_404, il_405, il_413, il_414, il_416, il_417, il_431, il_501, il_505, il_2000, if_pos, if_neg, Option.bind_some, x_let, x_bind2_some, x_opt, a2, hw, decide_true, decide_false, bi_t, bi_f, i10, i1n, eq_self, if_true, if_false, bi_bt, x_b0, x_b1, Bool.true_and, Bool.false_and, Bool.and_true, Bool.and_false, Bool.and_self]

theorem m_484 {σ : St} {n : Nat} {f : Nat → Nat} (hL : Ml σ n f) {w : Nat} (h : σ.1 51 25 = iN w) (h1 : w < 1000) {one two : Nat} (l1 : one + 1 < two) (l2 : two + 9 = n) (hd : k_dig (f (two + 8)) = true) (l5 : Int32) (r : Bool) : ∃ σ', x_Model_takeRequestLine_484 (iN one) (iN two) l5 (bi r) σ = some σ' ∧ σ'.1 51 25 = iN (if ¬ w = 0 then w else if ¬ f (one + 1) = 47 ∧ r = false then 400 else 0) ∧ (w = 0 → ¬ (¬ f (one + 1) = 47 ∧ r = false) → Mg σ σ' f one two l5) := by
  have hn := hL.2.1
  have hb := hL.2.2 (one + 1) (by omega)
  have hb2 := hb.2
  obtain ⟨σ', a1, a2, a3⟩ := m_510 hL h h1 l1 l2 hd l5 (r || decide (f (one + 1) = 47))
  refine ⟨σ', ?_, ?_, fun z y => a3 z ?_⟩
  · rw [← a1]
    unfold x_Model_takeRequestLine_484 x_Model_takeRequestLine_505
    cases r
    · by_cases q : f (one + 1) = 47
      · simp (disch := omega) only [iN_lt, iN_le, iN_eq, iN_add, iN_sub, iN_mul, iN_in, iN_clamp, iN_1a, iN_1e, iN_1l, iN_l1, iN_0e, iN_0l, iN_l0, iN_pred, iN_sub1, iN_1le, il_2, il_3, il_4, il_5, il_6, il_7, il_8, il_9, il_10, il_12, il_13, il_16, il_20, il_32, il_34, il_37, il_42, il_44, il_45, il_46, il_47, il_48, il_49, il_57, il_58, il_59, il_63, il_80, il_97, il_200, il_205, il_400, il_404, il_405, il_413, il_414, il_416, il_417, il_431, il_501, il_505, il_2000, if_pos, if_neg, Option.bind_some, x_let, x_bind2_some, x_opt, hb.1, q, decide_true, decide_false, bi_t, bi_f, i10, i1n, eq_self, if_true, if_false, bi_bt, x_b0, x_b1, Bool.true_and, Bool.false_and, Bool.and_true, Bool.and_false, Bool.and_self, Bool.false_or]
      · simp (disch := omega) only [iN_lt, iN_le, iN_eq, iN_add, iN_sub, iN_mul, iN_in, iN_clamp, iN_1a, iN_1e, iN_1l, iN_l1, iN_0e, iN_0l, iN_l0, iN_pred, iN_sub1, iN_1le, il_2, il_3, il_4, il_5, il_6, il_7, il_8, il_9, il_10, il_12, il_13, il_16, il_20, il_32, il_34, il_37, il_42, il_44, il_45, il_46, il_47, il_48, il_49, il_57, il_58, il_59, il_63, il_80, il_97, il_200, il_205, il_400, il_404, il_405, il_413, il_414, il_416, il_417, il_431, il_501, il_505, il_2000, if_pos, if_neg, Option.bind_some, x_let, x_bind2_some, x_opt, hb.1, q, decide_true, decide_false, bi_t, bi_f, i10, i1n, eq_self, if_true, if_false, bi_bt, x_b0, x_b1, Bool.true_and, Bool.false_and, Bool.and_true, Bool.and_false, Bool.and_self, Bool.false_or]
    · simp (disch := omega) only [iN_lt, iN_le, iN_eq, iN_add, iN_sub, iN_mul, iN_in, iN_clamp, iN_1a, iN_1e, iN_1l, iN_l1, iN_0e, iN_0l, iN_l0, iN_pred, iN_sub1, iN_1le, il_2, il_3, il_4, il_5, il_6, il_7, il_8, il_9, il_10, il_12, il_13, il_16, il_20, il_32, il_34, il_37, il_42, il_44, il_45, il_46, il_47, il_48, il_49, il_57, il_58, il_59, il_63, il_80, il_97, il_200, il_205, il_400, il_404, il_405, il_413, il_414, il_416, il_417, il_431, il_501, il_505, il_2000, if_pos, if_neg, Option.bind_some, x_let, x_bind2_some, x_opt, decide_true, decide_false, bi_t, bi_f, i10, i1n, eq_self, if_true, if_false, bi_bt, x_b0, x_b1, Bool.true_and, Bool.false_and, Bool.and_true, Bool.and_false, Bool.and_self, Bool.true_or]
  · rw [a2]
    cases r <;> by_cases q : f (one + 1) = 47 <;> simp [q]
  · cases r
    · by_cases q : f (one + 1) = 47
      · simp [q]
      · exact absurd ⟨q, rfl⟩ y
    · rfl
theorem Mg.of {σ s σ' : St} {f : Nat → Nat} {one two : Nat} {l5 : Int32} (h : Mg s σ' f one two l5) (e : xFp [(51, 25)] [] (false, false, false) σ s) : Mg σ σ' f one two l5 := by
  obtain ⟨a1, a2, a3, a4, a5, a6, a7, a8, a9⟩ := h
  refine ⟨a1, a2, a3, a4, a5, ?_, ?_, ?_, ?_⟩
  · rw [a6, e.1 _ _ (by simp)]
  · rw [a7, e.1 _ _ (by simp)]
  · rw [a8, e.1 _ _ (by simp)]
  · rw [a9, e.1 _ _ (by simp)]
theorem sl_one {f : Nat → Nat} {i d c : Nat} : sl f i d = [c] ↔ d = 1 ∧ f i = c := by
  constructor
  · intro h
    have h1 := congrArg List.length h
    rw [sl_len] at h1
    have h1' : d = 1 := h1
    subst h1'
    refine ⟨rfl, ?_⟩
    have := congrArg (fun l => l.getD 0 0) h
    simp only [sl_at f i 1 (by omega : 0 < 1)] at this
    simpa using this
  · rintro ⟨rfl, h⟩
    simp [sl, h]
theorem m_offN_lt : ∀ k, k < 7 → m_offN k < 200 := by decide
theorem m_offN_5 : ∀ k, k < 7 → (m_offN k = 146 ↔ k = 5) := by decide
/-- from the method on -/
theorem m_445 {σ : St} {n : Nat} {f : Nat → Nat} (hL : Ml σ n f) {w : Nat} (h : σ.1 51 25 = iN w) (h1 : w < 1000) {one two : Nat} (l1 : one + 1 < two) (l2 : two + 9 = n) (hd : k_dig (f (two + 8)) = true) {m : Option Nat} (hm : ∀ k, m = some k → k < 7) : ∃ σ', x_Model_takeRequestLine_432 (iN one) (iN two) (oi (m.map m_offN)) σ = some σ' ∧ σ'.1 51 25 = iN (if ¬ w = 0 then w else if m = none then 501 else if ¬ f (one + 1) = 47 ∧ (decide (m = some 5) && decide (sl f (one + 1) (two - (one + 1)) = [42])) = false then 400 else 0) ∧ (w = 0 → ¬ m = none → ¬ (¬ f (one + 1) = 47 ∧ (decide (m = some 5) && decide (sl f (one + 1) (two - (one + 1)) = [42])) = false) → Mg σ σ' f one two (oi (m.map m_offN))) := by
  have hn := hL.2.1
  have hlt : ∀ v, m.map m_offN = some v → v < 200 := by
    intro v hv
    cases m with
    | none => cases hv
    | some k =>
      have := hm k rfl
      simp at hv
      rw [← hv]
      exact m_offN_lt k this
  have e432 : x_Model_takeRequestLine_432 (iN one) (iN two) (oi (m.map m_offN)) σ = x_Model_takeRequestLine_445 (iN one) (iN two) (oi (m.map m_offN)) (bi m.isSome) σ := by
    unfold x_Model_takeRequestLine_432
    cases hq : m with
    | none => rfl
    | some k =>
      rw [hq] at hlt
      have := hlt (m_offN k) rfl
      show (if iN (m_offN k) < 0 then _ else _) = _
      rw [if_neg (iN_lt0 (by omega))]
      rfl
  have e5 : (oi (m.map m_offN) = iN 146) ↔ m = some 5 := by
    rw [oi_iN (fun v hv => by have := hlt v hv; omega) (by decide)]
    cases m with
    | none => simp
    | some k =>
      have := hm k rfl
      simp
      exact m_offN_5 k this
  obtain ⟨s1, a1, a2, a3, a4⟩ := m_blame h h1 m.isSome (c := 501) (by decide)
  have hL1 : Ml s1 n f := hL.of (a4.1 _ _ (by simp)) (a4.2.1 _ (by simp))
  have hb := hL1.2.2 (one + 1) (by omega)
  have hb2 := hb.2
  have hw1 : (if ¬ w = 0 then w else if m.isSome = true then 0 else 501) < 1000 := by
    by_cases q : w = 0
    · cases m <;> simp [q]
    · simp [q]; exact h1
  obtain ⟨σ', b1, b2, b3⟩ := m_484 hL1 a2 hw1 l1 l2 hd (oi (m.map m_offN)) (decide (m = some 5) && decide (sl f (one + 1) (two - (one + 1)) = [42]))
  refine ⟨σ', ?_, ?_, fun z1 z2 z3 => (b3 ?_ z3).of a4⟩
  · rw [e432, ← b1]
    unfold x_Model_takeRequestLine_445 x_Model_takeRequestLine_483
    rw [show (501 : Int32) = iN 501 from rfl, a1, Option.bind_some]
    rw [show decide (sl f (one + 1) (two - (one + 1)) = [42]) = decide (two - (one + 1) = 1 ∧ f (one + 1) = 42) from decide_eq_decide.mpr sl_one]
    by_cases q1 : two - one = 2
    · by_cases q2 : f (one + 1) = 42
      · by_cases q3 : m = some 5
        · have e5' := e5.mpr q3
          rw [decide_eq_true q3]
          simp (disch := omega) only [iN_lt, iN_le, iN_eq, iN_add, iN_sub, iN_mul, iN_in, iN_clamp, iN_1a, iN_1e, iN_1l, iN_l1, iN_0e, iN_0l, iN_l0, iN_pred, iN_sub1, iN_1le, il_2, il_3, il_4, il_5, il_6, il_7, il_8, il_9, il_10, il_12, il_13, il_16, il_20, il_32, il_34, il_37, il_42, il_44, il_45, il_46, il_47, il_48, il_49, il_57, il_58, il_59, il_63, il_80, il_97, il_200, il_205, il_400, il_404, il_405, il_413, il_414, il_416, il_417, il_431, il_501, il_505, il_2000, if_pos, if_neg, Option.bind_some, x_let, x_bind2_some, x_opt, hb.1, il_146, e5', q1, q2, decide_true, decide_false, bi_t, bi_f, i10, i1n, eq_self, if_true, if_false, bi_bt, x_b0, x_b1, Bool.true_and, Bool.false_and, Bool.and_true, Bool.and_false, Bool.and_self, show two - (one + 1) = 1 by omega, and_self]
        · simp (disch := omega) only [iN_lt, iN_le, iN_eq, iN_add, iN_sub, iN_mul, iN_in, iN_clamp, iN_1a, iN_1e, iN_1l, iN_l1, iN_0e, iN_0l, iN_l0, iN_pred, iN_sub1, iN_1le, il_2, il_3, il_4, il_5, il_6, il_7, il_8, il_9, il_10, il_12, il_13, il_16, il_20, il_32, il_34, il_37, il_42, il_44, il_45, il_46, il_47, il_48, il_49, il_57, il_58, il_59, il_63, il_80, il_97, il_200, il_205, il_400, il_404, il_405, il_413, il_414, il_416, il_417, il_431, il_501, il_505, il_2000, if_pos, if_neg, Option.bind_some, x_let, x_bind2_some, x_opt, hb.1, il_146, mt e5.mp q3, q1, q2, q3, decide_true, decide_false, bi_t, bi_f, i10, i1n, eq_self, if_true, if_false, bi_bt, x_b0, x_b1, Bool.true_and, Bool.false_and, Bool.and_true, Bool.and_false, Bool.and_self]
      · simp (disch := omega) only [iN_lt, iN_le, iN_eq, iN_add, iN_sub, iN_mul, iN_in, iN_clamp, iN_1a, iN_1e, iN_1l, iN_l1, iN_0e, iN_0l, iN_l0, iN_pred, iN_sub1, iN_1le, il_2, il_3, il_4, il_5, il_6, il_7, il_8, il_9, il_10, il_12, il_13, il_16, il_20, il_32, il_34, il_37, il_42, il_44, il_45, il_46, il_47, il_48, il_49, il_57, il_58, il_59, il_63, il_80, il_97, il_200, il_205, il_400, il_404, il_405, il_413, il_414, il_416, il_417, il_431, il_501, il_505, il_2000, if_pos, if_neg, Option.bind_some, x_let, x_bind2_some, x_opt, hb.1, q1, q2, decide_true, decide_false, bi_t, bi_f, i10, i1n, eq_self, if_true, if_false, bi_bt, x_b0, x_b1, Bool.true_and, Bool.false_and, Bool.and_true, Bool.and_false, Bool.and_self, and_false]
    · simp (disch := omega) only [iN_lt, iN_le, iN_eq, iN_add, iN_sub, iN_mul, iN_in, iN_clamp, iN_1a, iN_1e, iN_1l, iN_l1, iN_0e, iN_0l, iN_l0, iN_pred, iN_sub1, iN_1le, il_2, il_3, il_4, il_5, il_6, il_7, il_8, il_9, il_10, il_12, il_13, il_16, il_20, il_32, il_34, il_37, il_42, il_44, il_45, il_46, il_47, il_48, il_49, il_57, il_58, il_59, il_63, il_80, il_97, il_200, il_205, il_400, il_404, il_405, il_413, il_414, il_416, il_417, il_431, il_501, il_505, il_2000, if_pos, if_neg, Option.bind_some, x_let, x_bind2_some, x_opt, q1, decide_true, decide_false, bi_t, bi_f, i10, i1n, eq_self, if_true, if_false, bi_bt, x_b0, x_b1, Bool.true_and, Bool.false_and, Bool.and_true, Bool.and_false, Bool.and_self, show ¬ (two - (one + 1) = 1) by omega, false_and]
  · rw [b2]
    by_cases q : w = 0
    · cases m <;> simp [q]
    · simp [q]
  · subst z1
    cases m with
    | none => exact absurd rfl z2
    | some k => rfl

theorem MW_121 : MW 121 (wd_ 37) := by unfold MW; decide
theorem MW_125 : MW 125 (wd_ 38) := by unfold MW; decide
theorem MW_130 : MW 130 (wd_ 39) := by unfold MW; decide
theorem MW_134 : MW 134 (wd_ 40) := by unfold MW; decide
theorem MW_139 : MW 139 (wd_ 41) := by unfold MW; decide
theorem MW_146 : MW 146 (wd_ 35) := by unfold MW; decide
theorem MW_154 : MW 154 (wd_ 36) := by unfold MW; decide
theorem wd_ne : (wd_ 37 ≠ wd_ 41 ∧ wd_ 37 ≠ wd_ 35 ∧ wd_ 37 ≠ wd_ 36) ∧ (wd_ 38 ≠ wd_ 41 ∧ wd_ 38 ≠ wd_ 35 ∧ wd_ 38 ≠ wd_ 36) ∧ (wd_ 39 ≠ wd_ 41 ∧ wd_ 39 ≠ wd_ 35 ∧ wd_ 39 ≠ wd_ 36) ∧ (wd_ 40 ≠ wd_ 41 ∧ wd_ 40 ≠ wd_ 35 ∧ wd_ 40 ≠ wd_ 36) := by decide
/-- the method is found -/
theorem m_374 {σ : St} {n : Nat} {f : Nat → Nat} (hL : Ml σ n f) {one : Nat} (l1 : one ≤ n) (two : Int32) (k0 : Int32) : x_Model_takeRequestLine_374 (iN one) two k0 σ = x_Model_takeRequestLine_432 (iN one) two (if sl f 0 one = wd_ 41 then iN 139 else if sl f 0 one = wd_ 35 then iN 146 else if sl f 0 one = wd_ 36 then iN 154 else k0) σ := by
  have e1 := m_isExactly hL MW_139 (i := 0) (d := one) (by omega)
  have e2 := m_isExactly hL MW_146 (i := 0) (d := one) (by omega)
  have e3 := m_isExactly hL MW_154 (i := 0) (d := one) (by omega)
  rw [Nat.zero_add, show iN 0 = (0 : Int32) from rfl] at e1 e2 e3
  unfold x_Model_takeRequestLine_374
  rw [show (139 : Int32) = iN 139 from rfl, show (146 : Int32) = iN 146 from rfl, show (154 : Int32) = iN 154 from rfl, e1, e2, e3]
  by_cases q1 : sl f 0 one = wd_ 41
  · rw [decide_eq_true q1, if_pos q1]; rfl
  · by_cases q2 : sl f 0 one = wd_ 35
    · rw [decide_eq_false q1, decide_eq_true q2, if_neg q1, if_pos q2]; rfl
    · by_cases q3 : sl f 0 one = wd_ 36
      · rw [decide_eq_false q1, decide_eq_false q2, decide_eq_true q3, if_neg q1, if_neg q2, if_pos q3]; rfl
      · rw [decide_eq_false q1, decide_eq_false q2, decide_eq_false q3, if_neg q1, if_neg q2, if_neg q3]; rfl
theorem m_299 {σ : St} {n : Nat} {f : Nat → Nat} (hL : Ml σ n f) {w : Nat} (h : σ.1 51 25 = iN w) (h1 : w < 1000) {one two : Nat} (l1 : one + 1 < two) (l2 : two + 9 = n) (hd : k_dig (f (two + 8)) = true) (p : Bool) : ∃ σ', x_Model_takeRequestLine_299 (iN one) (iN two) (bi p) σ = some σ' ∧ σ'.1 51 25 = iN (if ¬ w = 0 then w else if p = false then 505 else if q_m (sl f 0 one) = none then 501 else if ¬ f (one + 1) = 47 ∧ (decide (q_m (sl f 0 one) = some 5) && decide (sl f (one + 1) (two - (one + 1)) = [42])) = false then 400 else 0) ∧ (w = 0 → p = true → ¬ q_m (sl f 0 one) = none → ¬ (¬ f (one + 1) = 47 ∧ (decide (q_m (sl f 0 one) = some 5) && decide (sl f (one + 1) (two - (one + 1)) = [42])) = false) → Mg σ σ' f one two (oi ((q_m (sl f 0 one)).map m_offN))) := by
  obtain ⟨s1, a1, a2, a3, a4⟩ := m_blame h h1 p (c := 505) (by decide)
  have hn := hL.2.1
  have hL1 : Ml s1 n f := hL.of (a4.1 _ _ (by simp)) (a4.2.1 _ (by simp))
  have hw1 : (if ¬ w = 0 then w else if p = true then 0 else 505) < 1000 := by
    by_cases q : w = 0
    · cases p <;> simp [q]
    · simp [q]; exact h1
  obtain ⟨σ', b1, b2, b3⟩ := m_445 hL1 a2 hw1 l1 l2 hd (m := q_m (sl f 0 one)) (fun k hk => q_m_lt hk)
  have e1 := m_isExactly hL1 MW_121 (i := 0) (d := one) (by omega)
  have e2 := m_isExactly hL1 MW_125 (i := 0) (d := one) (by omega)
  have e3 := m_isExactly hL1 MW_130 (i := 0) (d := one) (by omega)
  have e4 := m_isExactly hL1 MW_134 (i := 0) (d := one) (by omega)
  rw [Nat.zero_add, show iN 0 = (0 : Int32) from rfl] at e1 e2 e3 e4
  refine ⟨σ', ?_, ?_, fun z1 z2 z3 z4 => (b3 ?_ z3 z4).of a4⟩
  · rw [← b1]
    unfold x_Model_takeRequestLine_299
    rw [show (505 : Int32) = iN 505 from rfl, a1, Option.bind_some, show (121 : Int32) = iN 121 from rfl, show (125 : Int32) = iN 125 from rfl, show (130 : Int32) = iN 130 from rfl, show (134 : Int32) = iN 134 from rfl, e1, e2, e3, e4]
    simp only [m_374 hL1 (show one ≤ n by omega)]
    obtain ⟨⟨n1, n2, n3⟩, ⟨n4, n5, n6⟩, ⟨n7, n8, n9⟩, n10, n11, n12⟩ := wd_ne
    unfold q_m
    generalize sl f 0 one = u
    by_cases q1 : u = wd_ 37
    · subst q1
      rw [if_pos rfl, if_neg n1, if_neg n2, if_neg n3]
      rfl
    · by_cases q2 : u = wd_ 38
      · subst q2
        rw [if_neg q1, if_pos rfl, if_neg n4, if_neg n5, if_neg n6, decide_eq_false q1]
        rfl
      · by_cases q3 : u = wd_ 39
        · subst q3
          rw [if_neg q1, if_neg q2, if_pos rfl, if_neg n7, if_neg n8, if_neg n9, decide_eq_false q1, decide_eq_false q2]
          rfl
        · by_cases q4 : u = wd_ 40
          · subst q4
            rw [if_neg q1, if_neg q2, if_neg q3, if_pos rfl, if_neg n10, if_neg n11, if_neg n12, decide_eq_false q1, decide_eq_false q2, decide_eq_false q3]
            rfl
          · rw [if_neg q1, if_neg q2, if_neg q3, if_neg q4, decide_eq_false q1, decide_eq_false q2, decide_eq_false q3, decide_eq_false q4]
            simp only [Option.bind_some, bi_f, if_true]
            by_cases q5 : u = wd_ 41
            · rw [if_pos q5, if_pos q5]; rfl
            · by_cases q6 : u = wd_ 35
              · rw [if_neg q5, if_pos q6, if_neg q5, if_pos q6]; rfl
              · by_cases q7 : u = wd_ 36
                · rw [if_neg q5, if_neg q6, if_pos q7, if_neg q5, if_neg q6, if_pos q7]; rfl
                · rw [if_neg q5, if_neg q6, if_neg q7, if_neg q5, if_neg q6, if_neg q7]; rfl
  · rw [b2]
    by_cases q : w = 0
    · cases p <;> simp [q]
    · simp [q]
  · subst z1
    subst z2
    rfl

/-- from the shape on -/
theorem m_265 {σ : St} {n : Nat} {f : Nat → Nat} (hL : Ml σ n f) (h : σ.1 51 25 = iN 0) {one two : Nat} (p : Bool) (hp : p = true → one + 1 < two ∧ two + 9 = n ∧ k_dig (f (two + 8)) = true) : ∃ σ', x_Model_takeRequestLine_265 (iN one) (iN two) (bi p) σ = some σ' ∧ σ'.1 51 25 = iN (if p = false then 400 else if ¬ f (two + 6) = 49 then 505 else if q_m (sl f 0 one) = none then 501 else if ¬ f (one + 1) = 47 ∧ (decide (q_m (sl f 0 one) = some 5) && decide (sl f (one + 1) (two - (one + 1)) = [42])) = false then 400 else 0) ∧ (p = true → f (two + 6) = 49 → ¬ q_m (sl f 0 one) = none → ¬ (¬ f (one + 1) = 47 ∧ (decide (q_m (sl f 0 one) = some 5) && decide (sl f (one + 1) (two - (one + 1)) = [42])) = false) → Mg σ σ' f one two (oi ((q_m (sl f 0 one)).map m_offN))) := by
  have hn := hL.2.1
  unfold x_Model_takeRequestLine_265
  cases p
  · refine ⟨x_updR σ 51 25 400, ?_, ?_, fun z => by cases z⟩
    · rw [bi_f, m_blame0 h, Option.bind_some]
      exact if_neg (by simp [x_updR])
    · simp [x_updR]
      rfl
  · obtain ⟨l1, l2, hd⟩ := hp rfl
    have hb := hL.2.2 (two + 6) (by omega)
    have hb2 := hb.2
    rw [bi_t, m_blame1, Option.bind_some]
    obtain ⟨σ', b1, b2, b3⟩ := m_299 hL h (by decide) l1 l2 hd (decide (f (two + 6) = 49))
    refine ⟨σ', ?_, ?_, fun _ z1 z2 z3 => b3 rfl (by simpa using z1) z2 z3⟩
    · rw [← b1]
      by_cases q : f (two + 6) = 49
      · simp (disch := omega) only [iN_lt, iN_le, iN_eq, iN_add, iN_sub, iN_mul, iN_in, iN_clamp, iN_1a, iN_1e, iN_1l, iN_l1, iN_0e, iN_0l, iN_l0, iN_pred, iN_sub1, iN_1le, il_2, il_3, il_4, il_5, il_6, il_7, il_8, il_9, il_10, il_12, il_13, il_16, il_20, il_32, il_34, il_37, il_42, il_44, il_45, il_46, il_47, il_48, il_49, il_57, il_58, il_59, il_63, il_80, il_97, il_200, il_205, il_400, il_404, il_405, il_413, il_414, il_416, il_417, il_431, il_501, il_505, il_2000, if_pos, if_neg, Option.bind_some, x_let, x_bind2_some, x_opt, h, hb.1, q, decide_true, decide_false, bi_t, bi_f, i10, i1n, eq_self, if_true, if_false, bi_bt, x_b0, x_b1, Bool.true_and, Bool.false_and, Bool.and_true, Bool.and_false, Bool.and_self]
      · simp (disch := omega) only [iN_lt, iN_le, iN_eq, iN_add, iN_sub, iN_mul, iN_in, iN_clamp, iN_1a, iN_1e, iN_1l, iN_l1, iN_0e, iN_0l, iN_l0, iN_pred, iN_sub1, iN_1le, il_2, il_3, il_4, il_5, il_6, il_7, il_8, il_9, il_10, il_12, il_13, il_16, il_20, il_32, il_34, il_37, il_42, il_44, il_45, il_46, il_47, il_48, il_49, il_57, il_58, il_59, il_63, il_80, il_97, il_200, il_205, il_400, il_404, il_405, il_413, il_414, il_416, il_417, il_431, il_501, il_505, il_2000, if_pos, if_neg, Option.bind_some, x_let, x_bind2_some, x_opt, h, hb.1, q, decide_true, decide_false, bi_t, bi_f, i10, i1n, eq_self, if_true, if_false, bi_bt, x_b0, x_b1, Bool.true_and, Bool.false_and, Bool.and_true, Bool.and_false, Bool.and_self]
    · rw [b2]
      by_cases q : f (two + 6) = 49 <;> simp [q]
theorem m_229 {σ : St} {n : Nat} {f : Nat → Nat} (hL : Ml σ n f) {one two : Nat} (l1 : one < two) (l2 : two < n) (v : Bool) : x_Model_takeRequestLine_229 (iN one) (iN two) (bi v) σ = x_Model_takeRequestLine_265 (iN one) (iN two) (bi (decide (one ≤ 7) && ((decide (0 < one) && s_all k_tok f 0 one) && (v && (decide (0 < two - (one + 1)) && s_tgt f (one + 1) (two - (one + 1))))))) σ := by
  have hn := hL.2.1
  have e1 := m_isToken hL (d := one) (by omega)
  have e2 := m_isTarget hL (i := one + 1) (d := two - (one + 1)) (by omega)
  rw [show one + 1 + (two - (one + 1)) = two by omega] at e2
  unfold x_Model_takeRequestLine_229 x_Model_takeRequestLine_264
  rw [e1]
  cases q1 : (decide (0 < one) && s_all k_tok f 0 one)
  · rw [Bool.false_and, Bool.and_false]
    rfl
  · by_cases q2 : one ≤ 7
    · rw [decide_eq_true q2]
      cases v
      · simp (disch := omega) only [iN_lt, iN_le, iN_eq, iN_add, iN_sub, iN_mul, iN_in, iN_clamp, iN_1a, iN_1e, iN_1l, iN_l1, iN_0e, iN_0l, iN_l0, iN_pred, iN_sub1, iN_1le, il_2, il_3, il_4, il_5, il_6, il_7, il_8, il_9, il_10, il_12, il_13, il_16, il_20, il_32, il_34, il_37, il_42, il_44, il_45, il_46, il_47, il_48, il_49, il_57, il_58, il_59, il_63, il_80, il_97, il_200, il_205, il_400, il_404, il_405, il_413, il_414, il_416, il_417, il_431, il_501, il_505, il_2000, if_pos, if_neg, Option.bind_some, x_let, x_bind2_some, x_opt, decide_true, decide_false, bi_t, bi_f, i10, i1n, eq_self, if_true, if_false, bi_bt, x_b0, x_b1, Bool.true_and, Bool.false_and, Bool.and_true, Bool.and_false, Bool.and_self]
      · cases q3 : (decide (0 < two - (one + 1)) && s_tgt f (one + 1) (two - (one + 1))) <;> rw [q3] at e2 <;> simp (disch := omega) only [iN_lt, iN_le, iN_eq, iN_add, iN_sub, iN_mul, iN_in, iN_clamp, iN_1a, iN_1e, iN_1l, iN_l1, iN_0e, iN_0l, iN_l0, iN_pred, iN_sub1, iN_1le, il_2, il_3, il_4, il_5, il_6, il_7, il_8, il_9, il_10, il_12, il_13, il_16, il_20, il_32, il_34, il_37, il_42, il_44, il_45, il_46, il_47, il_48, il_49, il_57, il_58, il_59, il_63, il_80, il_97, il_200, il_205, il_400, il_404, il_405, il_413, il_414, il_416, il_417, il_431, il_501, il_505, il_2000, if_pos, if_neg, Option.bind_some, x_let, x_bind2_some, x_opt, e2, decide_true, decide_false, bi_t, bi_f, i10, i1n, eq_self, if_true, if_false, bi_bt, x_b0, x_b1, Bool.true_and, Bool.false_and, Bool.and_true, Bool.and_false, Bool.and_self]
    · rw [decide_eq_false q2]
      simp (disch := omega) only [iN_lt, iN_le, iN_eq, iN_add, iN_sub, iN_mul, iN_in, iN_clamp, iN_1a, iN_1e, iN_1l, iN_l1, iN_0e, iN_0l, iN_l0, iN_pred, iN_sub1, iN_1le, il_2, il_3, il_4, il_5, il_6, il_7, il_8, il_9, il_10, il_12, il_13, il_16, il_20, il_32, il_34, il_37, il_42, il_44, il_45, il_46, il_47, il_48, il_49, il_57, il_58, il_59, il_63, il_80, il_97, il_200, il_205, il_400, il_404, il_405, il_413, il_414, il_416, il_417, il_431, il_501, il_505, il_2000, if_pos, if_neg, Option.bind_some, x_let, x_bind2_some, x_opt, decide_true, decide_false, bi_t, bi_f, i10, i1n, eq_self, if_true, if_false, bi_bt, x_b0, x_b1, Bool.true_and, Bool.false_and, Bool.and_true, Bool.and_false, Bool.and_self]
theorem m_181 {σ : St} {n : Nat} {f : Nat → Nat} (hL : Ml σ n f) (one : Int32) {two : Nat} (l2 : two + 9 = n) : ∀ d k fuel, k + d = 5 → d + 1 < fuel → x_Model_takeRequestLine_181 fuel one (iN two) 1 (iN k) σ = x_Model_takeRequestLine_229 one (iN two) (bi (s_eq f ((wd_ 2).drop k) (two + 1 + k))) σ := by
  have hn := hL.2.1
  have hwl : (wd_ 2).length = 5 := by decide
  intro d
  induction d with
  | zero =>
    intro k fuel hk hf
    obtain ⟨z, rfl⟩ := x_fuelS (show 0 < fuel by omega)
    rw [x_Model_takeRequestLine_181, s_eq_nil (by omega)]
    simp (disch := omega) only [iN_lt, iN_le, iN_eq, iN_add, iN_sub, iN_mul, iN_in, iN_clamp, iN_1a, iN_1e, iN_1l, iN_l1, iN_0e, iN_0l, iN_l0, iN_pred, iN_sub1, iN_1le, il_2, il_3, il_4, il_5, il_6, il_7, il_8, il_9, il_10, il_12, il_13, il_16, il_20, il_32, il_34, il_37, il_42, il_44, il_45, il_46, il_47, il_48, il_49, il_57, il_58, il_59, il_63, il_80, il_97, il_200, il_205, il_400, il_404, il_405, il_413, il_414, il_416, il_417, il_431, il_501, il_505, il_2000, if_pos, if_neg, Option.bind_some, x_let, x_bind2_some, x_opt, decide_true, decide_false, bi_t, bi_f, i10, i1n, eq_self, if_true, if_false, bi_bt, x_b0, x_b1, Bool.true_and, Bool.false_and, Bool.and_true, Bool.and_false, Bool.and_self]
  | succ d ih =>
    intro k fuel hk hf
    obtain ⟨z, rfl⟩ := x_fuelS (show 0 < fuel by omega)
    obtain ⟨y, rfl⟩ := x_fuelS (show 0 < z by omega)
    have hb := hL.2.2 (two + 1 + k) (by omega)
    have hb2 := hb.2
    have hq : ∀ k, k < 5 → ltr (160 + k) = (wd_ 2).getD k 0 := by decide
    have e := ih (k + 1) (y + 1) (by omega) (by omega)
    have a3 := ltr_lt (160 + k) (by omega)
    rw [x_Model_takeRequestLine_181, s_eq_cons (by omega), ← hq k (by omega)]
    by_cases hc : f (two + 1 + k) = ltr (160 + k)
    · rw [hc, beq_self_eq_true, Bool.true_and, ← e]
      simp (disch := omega) only [iN_lt, iN_le, iN_eq, iN_add, iN_sub, iN_mul, iN_in, iN_clamp, iN_1a, iN_1e, iN_1l, iN_l1, iN_0e, iN_0l, iN_l0, iN_pred, iN_sub1, iN_1le, il_2, il_3, il_4, il_5, il_6, il_7, il_8, il_9, il_10, il_12, il_13, il_16, il_20, il_32, il_34, il_37, il_42, il_44, il_45, il_46, il_47, il_48, il_49, il_57, il_58, il_59, il_63, il_80, il_97, il_200, il_205, il_400, il_404, il_405, il_413, il_414, il_416, il_417, il_431, il_501, il_505, il_2000, if_pos, if_neg, Option.bind_some, x_let, x_bind2_some, x_opt, show (160 : Int32) = iN 160 from rfl, m_letter, hb.1, hc, x_Model_takeRequestLine_221, decide_true, decide_false, bi_t, bi_f, i10, i1n, eq_self, if_true, if_false, bi_bt, x_b0, x_b1, Bool.true_and, Bool.false_and, Bool.and_true, Bool.and_false, Bool.and_self]
    · rw [beq_eq_false_iff_ne.mpr hc, Bool.false_and]
      simp (disch := omega) only [iN_lt, iN_le, iN_eq, iN_add, iN_sub, iN_mul, iN_in, iN_clamp, iN_1a, iN_1e, iN_1l, iN_l1, iN_0e, iN_0l, iN_l0, iN_pred, iN_sub1, iN_1le, il_2, il_3, il_4, il_5, il_6, il_7, il_8, il_9, il_10, il_12, il_13, il_16, il_20, il_32, il_34, il_37, il_42, il_44, il_45, il_46, il_47, il_48, il_49, il_57, il_58, il_59, il_63, il_80, il_97, il_200, il_205, il_400, il_404, il_405, il_413, il_414, il_416, il_417, il_431, il_501, il_505, il_2000, if_pos, if_neg, Option.bind_some, x_let, x_bind2_some, x_opt, show (160 : Int32) = iN 160 from rfl, m_letter, hb.1, hc, x_Model_takeRequestLine_221, decide_true, decide_false, bi_t, bi_f, i10, i1n, eq_self, if_true, if_false, bi_bt, x_b0, x_b1, Bool.true_and, Bool.false_and, Bool.and_true, Bool.and_false, Bool.and_self]
      rw [x_Model_takeRequestLine_181]
      simp only [if_true, ite_self]
theorem m_176f {σ : St} (one two : Int32) : x_Model_takeRequestLine_176 one two 0 σ = x_Model_takeRequestLine_229 one two (bi false) σ := by
  unfold x_Model_takeRequestLine_176
  rw [show x_fuel = 4095 + 1 from rfl, x_Model_takeRequestLine_181]
  simp only [if_true, ite_self]
  rfl
theorem m_176 {σ : St} {n : Nat} {f : Nat → Nat} (hL : Ml σ n f) (one : Int32) {two : Nat} (l2 : two + 9 = n) : x_Model_takeRequestLine_176 one (iN two) 1 σ = x_Model_takeRequestLine_229 one (iN two) (bi (s_eq f (wd_ 2) (two + 1))) σ := by
  have := m_181 hL one l2 5 0 x_fuel (by omega) (by unfold x_fuel; omega)
  rw [List.drop_zero, Nat.add_zero] at this
  exact this
theorem m_102 {σ : St} {n : Nat} {f : Nat → Nat} (hL : Ml σ n f) (h : σ.1 51 25 = iN 0) {one two : Nat} (l1 : one < two) (l2 : two < n) : x_Model_takeRequestLine_102 (iN one) (iN two) 1 σ = x_Model_takeRequestLine_265 (iN one) (iN two) (bi (decide (one ≤ 7) && ((decide (0 < one) && s_all k_tok f 0 one) && ((decide (n - (two + 1) = 8) && s_ver f (two + 1)) && (decide (0 < two - (one + 1)) && s_tgt f (one + 1) (two - (one + 1))))))) σ := by
  have hn := hL.2.1
  have h10 := hL.1
  rw [← m_229 hL l1 l2]
  unfold x_Model_takeRequestLine_102
  rw [m_blame1, Option.bind_some, h, if_pos (by decide), h10]
  by_cases h9 : n - (two + 1) = 8
  · have b6 := hL.2.2 (two + 6) (by omega)
    have b7 := hL.2.2 (two + 7) (by omega)
    have b8 := hL.2.2 (two + 8) (by omega)
    have b72 := b7.2
    rw [decide_eq_true h9, Bool.true_and]
    unfold s_ver
    rw [show two + 1 + 5 = two + 6 by omega, show two + 1 + 6 = two + 7 by omega, show two + 1 + 7 = two + 8 by omega]
    cases q6 : k_dig (f (two + 6))
    · simp (disch := omega) only [iN_lt, iN_le, iN_eq, iN_add, iN_sub, iN_mul, iN_in, iN_clamp, iN_1a, iN_1e, iN_1l, iN_l1, iN_0e, iN_0l, iN_l0, iN_pred, iN_sub1, iN_1le, il_2, il_3, il_4, il_5, il_6, il_7, il_8, il_9, il_10, il_12, il_13, il_16, il_20, il_32, il_34, il_37, il_42, il_44, il_45, il_46, il_47, il_48, il_49, il_57, il_58, il_59, il_63, il_80, il_97, il_200, il_205, il_400, il_404, il_405, il_413, il_414, il_416, il_417, il_431, il_501, il_505, il_2000, if_pos, if_neg, Option.bind_some, x_let, x_bind2_some, x_opt, b6.1, m_dig _ b6.2, q6, x_Model_takeRequestLine_175, m_176f, decide_true, decide_false, bi_t, bi_f, i10, i1n, eq_self, if_true, if_false, bi_bt, x_b0, x_b1, Bool.true_and, Bool.false_and, Bool.and_true, Bool.and_false, Bool.and_self]
    · by_cases q7 : f (two + 7) = 46
      · cases q8 : k_dig (f (two + 8))
        · simp (disch := omega) only [iN_lt, iN_le, iN_eq, iN_add, iN_sub, iN_mul, iN_in, iN_clamp, iN_1a, iN_1e, iN_1l, iN_l1, iN_0e, iN_0l, iN_l0, iN_pred, iN_sub1, iN_1le, il_2, il_3, il_4, il_5, il_6, il_7, il_8, il_9, il_10, il_12, il_13, il_16, il_20, il_32, il_34, il_37, il_42, il_44, il_45, il_46, il_47, il_48, il_49, il_57, il_58, il_59, il_63, il_80, il_97, il_200, il_205, il_400, il_404, il_405, il_413, il_414, il_416, il_417, il_431, il_501, il_505, il_2000, if_pos, if_neg, Option.bind_some, x_let, x_bind2_some, x_opt, b6.1, m_dig _ b6.2, q6, b7.1, q7, b8.1, m_dig _ b8.2, q8, x_Model_takeRequestLine_175, m_176f, decide_true, decide_false, bi_t, bi_f, i10, i1n, eq_self, if_true, if_false, bi_bt, x_b0, x_b1, Bool.true_and, Bool.false_and, Bool.and_true, Bool.and_false, Bool.and_self]
        · simp (disch := omega) only [iN_lt, iN_le, iN_eq, iN_add, iN_sub, iN_mul, iN_in, iN_clamp, iN_1a, iN_1e, iN_1l, iN_l1, iN_0e, iN_0l, iN_l0, iN_pred, iN_sub1, iN_1le, il_2, il_3, il_4, il_5, il_6, il_7, il_8, il_9, il_10, il_12, il_13, il_16, il_20, il_32, il_34, il_37, il_42, il_44, il_45, il_46, il_47, il_48, il_49, il_57, il_58, il_59, il_63, il_80, il_97, il_200, il_205, il_400, il_404, il_405, il_413, il_414, il_416, il_417, il_431, il_501, il_505, il_2000, if_pos, if_neg, Option.bind_some, x_let, x_bind2_some, x_opt, b6.1, m_dig _ b6.2, q6, b7.1, q7, b8.1, m_dig _ b8.2, q8, m_176 hL (iN one) (show two + 9 = n by omega), decide_true, decide_false, bi_t, bi_f, i10, i1n, eq_self, if_true, if_false, bi_bt, x_b0, x_b1, Bool.true_and, Bool.false_and, Bool.and_true, Bool.and_false, Bool.and_self, beq_self_eq_true]
      · simp (disch := omega) only [iN_lt, iN_le, iN_eq, iN_add, iN_sub, iN_mul, iN_in, iN_clamp, iN_1a, iN_1e, iN_1l, iN_l1, iN_0e, iN_0l, iN_l0, iN_pred, iN_sub1, iN_1le, il_2, il_3, il_4, il_5, il_6, il_7, il_8, il_9, il_10, il_12, il_13, il_16, il_20, il_32, il_34, il_37, il_42, il_44, il_45, il_46, il_47, il_48, il_49, il_57, il_58, il_59, il_63, il_80, il_97, il_200, il_205, il_400, il_404, il_405, il_413, il_414, il_416, il_417, il_431, il_501, il_505, il_2000, if_pos, if_neg, Option.bind_some, x_let, x_bind2_some, x_opt, b6.1, m_dig _ b6.2, q6, b7.1, q7, x_Model_takeRequestLine_175, m_176f, decide_true, decide_false, bi_t, bi_f, i10, i1n, eq_self, if_true, if_false, bi_bt, x_b0, x_b1, Bool.true_and, Bool.false_and, Bool.and_true, Bool.and_false, Bool.and_self, nbeq]
  · rw [decide_eq_false h9, Bool.false_and]
    simp (disch := omega) only [iN_lt, iN_le, iN_eq, iN_add, iN_sub, iN_mul, iN_in, iN_clamp, iN_1a, iN_1e, iN_1l, iN_l1, iN_0e, iN_0l, iN_l0, iN_pred, iN_sub1, iN_1le, il_2, il_3, il_4, il_5, il_6, il_7, il_8, il_9, il_10, il_12, il_13, il_16, il_20, il_32, il_34, il_37, il_42, il_44, il_45, il_46, il_47, il_48, il_49, il_57, il_58, il_59, il_63, il_80, il_97, il_200, il_205, il_400, il_404, il_405, il_413, il_414, il_416, il_417, il_431, il_501, il_505, il_2000, if_pos, if_neg, Option.bind_some, x_let, x_bind2_some, x_opt, x_Model_takeRequestLine_175, m_176f]
theorem m_takeRL {σ : St} {n : Nat} {f : Nat → Nat} (hL : Ml σ n f) (h : σ.1 51 25 = iN 0) : ∃ σ', x_Model_takeRequestLine σ = some σ' ∧ σ'.1 51 25 = iN (q_req f n) ∧ (q_req f n = 0 → σ'.1 51 8 = 1 ∧ σ'.1 51 12 = oi ((q_m (sl f 0 (q_one f n))).map m_offN) ∧ σ'.1 51 15 = iN (f (n - 1) - 48) ∧ σ'.1 51 13 = iN (q_two f n - q_one f n - 1) ∧ (∀ j, j < q_two f n - q_one f n - 1 → σ'.2.1 58 j = iN (f (q_one f n + 1 + j))) ∧ σ'.1 51 17 = 0 ∧ σ'.1 51 16 = 0 ∧ σ'.1 51 21 = 0 ∧ σ'.1 51 22 = 0) := by
  have hn := hL.2.1
  have l1 := q_one_le f n
  obtain ⟨l2, l3, l4⟩ := q_two_le f n
  generalize hs : x_updR (x_updR (x_updR (x_updR (x_updR σ 51 17 0) 51 16 0) 51 21 0) 51 22 0) 51 15 1 = s0
  have hL0 : Ml s0 n f := by rw [← hs]; exact hL.of (by simp [x_updR]) rfl
  have h0 : s0.1 51 25 = iN 0 := by rw [← hs]; simp [x_updR]; exact h
  have e1 : x_Model_find (iN 32) 0 s0 = some (iN (q_one f n)) := m_find hL0 (b := 32) (i := 0) (by decide) (by omega)
  have start : x_Model_takeRequestLine σ = x_Model_takeRequestLine_57 (iN (q_one f n)) (iN (q_two f n)) s0 := by
    unfold x_Model_takeRequestLine
    simp only [x_let]
    rw [hs, show (32 : Int32) = iN 32 from rfl, e1, Option.bind_some, hL0.1]
    by_cases q : q_one f n < n
    · rw [if_neg (mt (iN_le (by omega) (by omega)).mp (by omega)), iN_1a, m_find hL0 (by decide) (by omega), Option.bind_some]
      unfold q_two
      rw [if_pos q]
    · rw [if_pos ((iN_le (by omega) (by omega)).mpr (by omega))]
      unfold q_two
      rw [if_neg q]
  rw [start]
  have bad : x_Model_takeRequestLine_101 (iN (q_one f n)) (iN (q_two f n)) s0 = some (x_updR s0 51 25 400) := by
    unfold x_Model_takeRequestLine_101 x_Model_takeRequestLine_102
    rw [m_blame0 h0, Option.bind_some]
    exact if_neg (by simp [x_updR])
  by_cases hc : q_two f n < n ∧ q_thr f n = n
  · have hlt := l4 hc.1
    have e3 : x_Model_find (iN 32) (iN (q_two f n + 1)) s0 = some (iN (q_thr f n)) := m_find hL0 (by decide) (by omega)
    have st2 : x_Model_takeRequestLine_57 (iN (q_one f n)) (iN (q_two f n)) s0 = x_Model_takeRequestLine_102 (iN (q_one f n)) (iN (q_two f n)) 1 s0 := by
      unfold x_Model_takeRequestLine_57 x_Model_takeRequestLine_79
      rw [hL0.1, show (32 : Int32) = iN 32 from rfl, iN_1a, e3, if_neg (mt (iN_le (by omega) (by omega)).mp (by omega)), Option.bind_some, hc.2, if_neg (mt (iN_le (by omega) (by omega)).mp (by omega)), if_pos rfl]
    rw [st2, m_102 hL0 h0 hlt hc.1]
    obtain ⟨σ', b1, b2, b3⟩ := m_265 hL0 h0 (one := q_one f n) (two := q_two f n) (q_shape f n) (fun z => by
      unfold q_shape at z
      simp only [Bool.and_eq_true, decide_eq_true_eq] at z
      obtain ⟨s1, ⟨s2, s3⟩, ⟨s4, s5⟩, s6, s7⟩ := z
      unfold s_ver at s5
      simp only [Bool.and_eq_true] at s5
      refine ⟨by omega, by omega, ?_⟩
      rw [show q_two f n + 8 = q_two f n + 1 + 7 by omega]
      exact s5.2.2.2)
    have hn3 : q_shape f n = true → n - 3 = q_two f n + 6 ∧ n - 1 = q_two f n + 8 := fun z => by
      unfold q_shape at z
      simp only [Bool.and_eq_true, decide_eq_true_eq] at z
      obtain ⟨s1, ⟨s2, s3⟩, ⟨s4, s5⟩, s6, s7⟩ := z
      omega
    refine ⟨σ', b1, ?_, fun z => ?_⟩
    · have hr : q_req f n = if q_shape f n = false then 400 else if ¬ f (n - 3) = 49 then 505 else if q_m (sl f 0 (q_one f n)) = none then 501 else if ¬ f (q_one f n + 1) = 47 ∧ q_star f n = false then 400 else 0 := by
        unfold q_req
        rw [if_neg (by simp [hc])]
      rw [b2, hr]
      cases q : q_shape f n
      · rfl
      · rw [(hn3 q).1]
        rfl
    · unfold q_req at z
      rw [if_neg (by simp [hc])] at z
      cases q : q_shape f n
      · rw [q] at z
        simp at z
      · rw [q, if_neg (by simp), (hn3 q).1] at z
        by_cases y1 : f (q_two f n + 6) = 49
        · rw [if_neg (by simp [y1])] at z
          by_cases y2 : q_m (sl f 0 (q_one f n)) = none
          · rw [if_pos y2] at z
            simp at z
          · rw [if_neg y2] at z
            by_cases y3 : ¬ f (q_one f n + 1) = 47 ∧ q_star f n = false
            · rw [if_pos y3] at z
              simp at z
            · obtain ⟨a1, a2, a3, a4, a5, a6, a7, a8, a9⟩ := b3 q y1 y2 y3
              rw [(hn3 q).2]
              refine ⟨a1, a2, a3, a4, a5, ?_, ?_, ?_, ?_⟩
              · rw [a6, ← hs]; simp [x_updR]
              · rw [a7, ← hs]; simp [x_updR]
              · rw [a8, ← hs]; simp [x_updR]
              · rw [a9, ← hs]; simp [x_updR]
        · rw [if_pos y1] at z
          simp at z
  · have e57 : x_Model_takeRequestLine_57 (iN (q_one f n)) (iN (q_two f n)) s0 = x_Model_takeRequestLine_101 (iN (q_one f n)) (iN (q_two f n)) s0 := by
      unfold x_Model_takeRequestLine_57 x_Model_takeRequestLine_79
      rw [hL0.1]
      by_cases q : q_two f n < n
      · have e3 : x_Model_find (iN 32) (iN (q_two f n + 1)) s0 = some (iN (q_thr f n)) := m_find hL0 (by decide) (by omega)
        have l5 := q_thr_le f n q
        rw [show (32 : Int32) = iN 32 from rfl, iN_1a, e3, if_neg (mt (iN_le (by omega) (by omega)).mp (by omega)), Option.bind_some, if_neg (mt (iN_le (by omega) (by omega)).mp (by omega)), if_neg (mt (iN_eq (by omega) (by omega)).mp (fun z => hc ⟨q, z⟩))]
      · rw [if_pos ((iN_le (by omega) (by omega)).mpr (by omega)), if_pos ((iN_le (by omega) (by omega)).mpr (by omega))]
    have eq400 : q_req f n = 400 := by
      unfold q_req
      rw [if_pos hc]
    rw [e57, bad, eq400]
    exact ⟨_, rfl, by simp [x_updR]; rfl, fun z => by simp at z⟩
