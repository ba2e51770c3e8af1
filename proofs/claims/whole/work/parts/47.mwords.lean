/-! the words of the reference -/
def ltrL : List Nat := [104, 111, 115, 116, 0, 116, 114, 97, 110, 115, 102, 101, 114, 45, 101, 110, 99, 111, 100, 105, 110, 103, 0, 99, 111, 110, 116, 101, 110, 116, 45, 108, 101, 110, 103, 116, 104, 0, 101, 120, 112, 101, 99, 116, 0, 99, 111, 110, 110, 101, 99, 116, 105, 111, 110, 0, 105, 102, 45, 110, 111, 110, 101, 45, 109, 97, 116, 99, 104, 0, 114, 97, 110, 103, 101, 0, 99, 104, 117, 110, 107, 101, 100, 0, 49, 48, 48, 45, 99, 111, 110, 116, 105, 110, 117, 101, 0, 99, 108, 111, 115, 101, 0, 107, 101, 101, 112, 45, 97, 108, 105, 118, 101, 0, 98, 121, 116, 101, 115, 61, 0, 71, 69, 84, 0, 72, 69, 65, 68, 0, 80, 85, 84, 0, 80, 79, 83, 84, 0, 68, 69, 76, 69, 84, 69, 0, 79, 80, 84, 73, 79, 78, 83, 0, 84, 82, 65, 67, 69, 0, 72, 84, 84, 80, 47, 49, 46, 49, 32, 0, 67, 111, 110, 116, 101, 110, 116, 45, 76, 101, 110, 103, 116, 104, 58, 32, 0, 69, 84, 97, 103, 58, 32, 0, 67, 111, 110, 116, 101, 110, 116, 45, 82, 97, 110, 103, 101, 58, 32, 98, 121, 116, 101, 115, 32, 0, 65, 108, 108, 111, 119, 58, 32, 71, 69, 84, 44, 32, 72, 69, 65, 68, 44, 32, 80, 85, 84, 44, 32, 80, 79, 83, 84, 44, 32, 68, 69, 76, 69, 84, 69, 44, 32, 79, 80, 84, 73, 79, 78, 83, 0, 67, 111, 110, 110, 101, 99, 116, 105, 111, 110, 58, 32, 99, 108, 111, 115, 101, 0, 67, 111, 110, 110, 101, 99, 116, 105, 111, 110, 58, 32, 107, 101, 101, 112, 45, 97, 108, 105, 118, 101, 0, 0, 0]
def ltr (k : Nat) : Nat := ltrL.getD k 0
set_option maxRecDepth 100000 in
theorem m_letter0 : ∀ k, k < 304 → x_Model_letter (iN k) ((fun _ _ => 0), (fun _ _ => 0), 0, none, 0) = some (iN (ltr k)) := by decide +kernel
theorem m_letter {k : Nat} (h : k < 304) (σ : St) : x_Model_letter (iN k) σ = some (iN (ltr k)) := m_letter0 k h
set_option maxRecDepth 100000 in
theorem ltr_lt : ∀ k, k < 304 → ltr k < 256 := by decide +kernel
/-- the word at w is u -/
def MW (w : Nat) (u : List Nat) : Prop := w + u.length < 304 ∧ (∀ k, k < u.length → ltr (w + k) = u.getD k 0 ∧ ¬ ltr (w + k) = 0) ∧ ltr (w + u.length) = 0
/-- a slice of a row of bytes -/
def sl (f : Nat → Nat) (i d : Nat) : List Nat := (List.range d).map (fun j => f (i + j))
theorem sl_len (f : Nat → Nat) (i d : Nat) : (sl f i d).length = d := by simp [sl]
theorem sl_at (f : Nat → Nat) (i d : Nat) {j : Nat} (h : j < d) : (sl f i d).getD j 0 = f (i + j) := by
  unfold sl
  rw [List.getD_eq_getElem?_getD, List.getElem?_map, List.getElem?_range h]
  rfl
theorem sl_congr {f g : Nat → Nat} {i i' d : Nat} (h : ∀ j, j < d → f (i + j) = g (i' + j)) : sl f i d = sl g i' d := by
  unfold sl
  apply List.map_congr_left
  intro a ha
  exact h a (List.mem_range.mp ha)
theorem s_eq_iff (g : Nat → Nat) : ∀ (u : List Nat) (i : Nat), s_eq g u i = true ↔ ∀ k, k < u.length → g (i + k) = u.getD k 0 := by
  intro u
  induction u with
  | nil => intro i; simp [s_eq]
  | cons c u ih =>
    intro i
    unfold s_eq
    rw [Bool.and_eq_true, beq_iff_eq, ih]
    constructor
    · intro h k hk
      cases k with
      | zero => simpa using h.1
      | succ k =>
        have := h.2 k (by simpa using hk)
        rw [show i + (k + 1) = i + 1 + k by omega, this]
        rfl
    · intro h
      refine ⟨by simpa using h 0 (by simp), fun k hk => ?_⟩
      have := h (k + 1) (by simpa using hk)
      rw [show i + 1 + k = i + (k + 1) by omega, this]
      rfl
theorem sl_iff (f : Nat → Nat) (i : Nat) (u : List Nat) (d : Nat) : (decide (d = u.length) && s_eq f u i) = decide (sl f i d = u) := by
  rw [Bool.eq_iff_iff, Bool.and_eq_true, decide_eq_true_iff, decide_eq_true_iff, s_eq_iff]
  constructor
  · intro h
    apply List.ext_getElem
    · rw [sl_len]; exact h.1
    · intro j h1 h2
      have := h.2 j h2
      rw [List.getD_eq_getElem?_getD, List.getElem?_eq_getElem h2, Option.getD_some] at this
      simp only [sl, List.getElem_map, List.getElem_range]
      exact this
  · intro h
    subst h
    rw [sl_len]
    exact ⟨rfl, fun k hk => (sl_at f i d hk).symm⟩
theorem sl_low (f : Nat → Nat) (i d : Nat) : (sl f i d).map k_low = sl (fun j => k_low (f j)) i d := by simp [sl]
/-- a text is a word, small or large letters -/
def u_is (u w : List Nat) : Bool := decide (u.map k_low = w)
theorem sl_is (f : Nat → Nat) (i : Nat) (w : List Nat) (d : Nat) : (decide (d = w.length) && s_eq (fun j => k_low (f j)) w i) = u_is (sl f i d) w := by
  rw [sl_iff, u_is, sl_low]
theorem m_ex0 {σ : St} {n : Nat} {f : Nat → Nat} (h : Ml σ n f) {w i d : Nat} {u : List Nat} (hw : MW w u) (hd : i + d ≤ n) : ∀ q k fuel, k + q = u.length → q + 1 < fuel → k ≤ d → x_Model_isExactly_6 (iN i) (iN (i + d)) (iN w) σ fuel 1 (iN k) = some (bi (decide (d = u.length) && s_eq f (u.drop k) (i + k))) := by
  obtain ⟨hL, hn, hR⟩ := h
  obtain ⟨w1, w2, w3⟩ := hw
  intro q
  induction q with
  | zero =>
    intro k fuel h1 hf hk
    obtain ⟨z, rfl⟩ := x_fuelS (show 0 < fuel by omega)
    have e : k = u.length := by omega
    subst e
    rw [s_eq_nil (Nat.le_refl _), Bool.and_true]
    simp (disch := omega) only [iN_lt, iN_le, iN_eq, iN_add, iN_sub, iN_mul, iN_in, iN_clamp, iN_1a, iN_1e, iN_1l, iN_l1, iN_0e, iN_0l, iN_l0, iN_pred, iN_sub1, iN_1le, il_2, il_3, il_4, il_5, il_6, il_7, il_8, il_9, il_10, il_12, il_13, il_16, il_20, il_32, il_34, il_37, il_42, il_44, il_45, il_46, il_47, il_48, il_49, il_57, il_58, il_59, il_63, il_80, il_97, il_200, il_205, il_400, il_404, il_405, il_413, il_414, il_416, il_417, il_431, il_501, il_505, il_2000, if_pos, if_neg, Option.bind_some, x_let, x_bind2_some, x_opt, x_Model_isExactly_6, x_Model_isExactly_63, m_letter, w3, decide_true, decide_false, bi_t, bi_f, i10, i1n, eq_self, if_true, if_false, bi_bt, x_b0, x_b1, Bool.true_and, Bool.false_and, Bool.and_true, Bool.and_false, Bool.and_self, show i + d - i = d by omega, eq_comm]
    exact _root_.rfl
  | succ q ih =>
    intro k fuel h1 hf hk
    obtain ⟨z, rfl⟩ := x_fuelS (show 0 < fuel by omega)
    obtain ⟨y, rfl⟩ := x_fuelS (show 0 < z by omega)
    have a1 := (w2 k (by omega)).1
    have a2 := (w2 k (by omega)).2
    have a3 := ltr_lt (w + k) (by omega)
    have a5 : (1 : Nat) ≤ 303 := by omega
    rw [s_eq_cons (by omega)]
    by_cases hkd : k < d
    · have hi := hR (i + k) (by omega)
      by_cases hc : f (i + k) = ltr (w + k)
      · have e := ih (k + 1) (y + 1) (by omega) (by omega) (by omega)
        rw [← a1, hc, beq_self_eq_true, Bool.true_and, ← e]
        rw [x_Model_isExactly_6]
        simp (disch := omega) only [iN_lt, iN_le, iN_eq, iN_add, iN_sub, iN_mul, iN_in, iN_clamp, iN_1a, iN_1e, iN_1l, iN_l1, iN_0e, iN_0l, iN_l0, iN_pred, iN_sub1, iN_1le, il_2, il_3, il_4, il_5, il_6, il_7, il_8, il_9, il_10, il_12, il_13, il_16, il_20, il_32, il_34, il_37, il_42, il_44, il_45, il_46, il_47, il_48, il_49, il_57, il_58, il_59, il_63, il_80, il_97, il_200, il_205, il_400, il_404, il_405, il_413, il_414, il_416, il_417, il_431, il_501, il_505, il_2000, if_pos, if_neg, Option.bind_some, x_let, x_bind2_some, x_opt, m_letter, hi.1, hi.2, hc, x_Model_isExactly_55, decide_true, decide_false, bi_t, bi_f, i10, i1n, eq_self, if_true, if_false, bi_bt, x_b0, x_b1, Bool.true_and, Bool.false_and, Bool.and_true, Bool.and_false, Bool.and_self]
      · have hb : (f (i + k) == u.getD k 0) = false := by rw [← a1]; exact beq_eq_false_iff_ne.mpr hc
        rw [hb, Bool.false_and, Bool.and_false]
        rw [x_Model_isExactly_6]
        have := hi.2
        simp (disch := omega) only [iN_lt, iN_le, iN_eq, iN_add, iN_sub, iN_mul, iN_in, iN_clamp, iN_1a, iN_1e, iN_1l, iN_l1, iN_0e, iN_0l, iN_l0, iN_pred, iN_sub1, iN_1le, il_2, il_3, il_4, il_5, il_6, il_7, il_8, il_9, il_10, il_12, il_13, il_16, il_20, il_32, il_34, il_37, il_42, il_44, il_45, il_46, il_47, il_48, il_49, il_57, il_58, il_59, il_63, il_80, il_97, il_200, il_205, il_400, il_404, il_405, il_413, il_414, il_416, il_417, il_431, il_501, il_505, il_2000, if_pos, if_neg, Option.bind_some, x_let, x_bind2_some, x_opt, m_letter, hi.1, x_Model_isExactly_55, x_Model_isExactly_54, decide_true, decide_false, bi_t, bi_f, i10, i1n, eq_self, if_true, if_false, bi_bt, x_b0, x_b1, Bool.true_and, Bool.false_and, Bool.and_true, Bool.and_false, Bool.and_self]
        rw [x_Model_isExactly_6]
        have b1 : w + (k + 1) < 304 := by omega
        have b3 := ltr_lt (w + (k + 1)) (by omega)
        simp (disch := omega) only [iN_lt, iN_le, iN_eq, iN_add, iN_sub, iN_mul, iN_in, iN_clamp, iN_1a, iN_1e, iN_1l, iN_l1, iN_0e, iN_0l, iN_l0, iN_pred, iN_sub1, iN_1le, il_2, il_3, il_4, il_5, il_6, il_7, il_8, il_9, il_10, il_12, il_13, il_16, il_20, il_32, il_34, il_37, il_42, il_44, il_45, il_46, il_47, il_48, il_49, il_57, il_58, il_59, il_63, il_80, il_97, il_200, il_205, il_400, il_404, il_405, il_413, il_414, il_416, il_417, il_431, il_501, il_505, il_2000, if_pos, if_neg, Option.bind_some, x_let, x_bind2_some, x_opt, m_letter, x_Model_isExactly_63, decide_true, decide_false, bi_t, bi_f, i10, i1n, eq_self, if_true, if_false, bi_bt, x_b0, x_b1, Bool.true_and, Bool.false_and, Bool.and_true, Bool.and_false, Bool.and_self]
        by_cases z : ltr (w + (k + 1)) = 0 <;> simp (disch := omega) only [iN_lt, iN_le, iN_eq, iN_add, iN_sub, iN_mul, iN_in, iN_clamp, iN_1a, iN_1e, iN_1l, iN_l1, iN_0e, iN_0l, iN_l0, iN_pred, iN_sub1, iN_1le, il_2, il_3, il_4, il_5, il_6, il_7, il_8, il_9, il_10, il_12, il_13, il_16, il_20, il_32, il_34, il_37, il_42, il_44, il_45, il_46, il_47, il_48, il_49, il_57, il_58, il_59, il_63, il_80, il_97, il_200, il_205, il_400, il_404, il_405, il_413, il_414, il_416, il_417, il_431, il_501, il_505, il_2000, if_pos, if_neg, Option.bind_some, x_let, x_bind2_some, x_opt, z, decide_true, decide_false, bi_t, bi_f, i10, i1n, eq_self, if_true, if_false, bi_bt, x_b0, x_b1, Bool.true_and, Bool.false_and, Bool.and_true, Bool.and_false, Bool.and_self, ite_self]
    · have e : (decide (d = u.length)) = false := decide_eq_false (by omega)
      rw [e, Bool.false_and]
      rw [x_Model_isExactly_6]
      simp (disch := omega) only [iN_lt, iN_le, iN_eq, iN_add, iN_sub, iN_mul, iN_in, iN_clamp, iN_1a, iN_1e, iN_1l, iN_l1, iN_0e, iN_0l, iN_l0, iN_pred, iN_sub1, iN_1le, il_2, il_3, il_4, il_5, il_6, il_7, il_8, il_9, il_10, il_12, il_13, il_16, il_20, il_32, il_34, il_37, il_42, il_44, il_45, il_46, il_47, il_48, il_49, il_57, il_58, il_59, il_63, il_80, il_97, il_200, il_205, il_400, il_404, il_405, il_413, il_414, il_416, il_417, il_431, il_501, il_505, il_2000, if_pos, if_neg, Option.bind_some, x_let, x_bind2_some, x_opt, m_letter, x_Model_isExactly_55, x_Model_isExactly_54, decide_true, decide_false, bi_t, bi_f, i10, i1n, eq_self, if_true, if_false, bi_bt, x_b0, x_b1, Bool.true_and, Bool.false_and, Bool.and_true, Bool.and_false, Bool.and_self]
      rw [x_Model_isExactly_6]
      have b1 : w + (k + 1) < 304 := by omega
      have b3 := ltr_lt (w + (k + 1)) (by omega)
      simp (disch := omega) only [iN_lt, iN_le, iN_eq, iN_add, iN_sub, iN_mul, iN_in, iN_clamp, iN_1a, iN_1e, iN_1l, iN_l1, iN_0e, iN_0l, iN_l0, iN_pred, iN_sub1, iN_1le, il_2, il_3, il_4, il_5, il_6, il_7, il_8, il_9, il_10, il_12, il_13, il_16, il_20, il_32, il_34, il_37, il_42, il_44, il_45, il_46, il_47, il_48, il_49, il_57, il_58, il_59, il_63, il_80, il_97, il_200, il_205, il_400, il_404, il_405, il_413, il_414, il_416, il_417, il_431, il_501, il_505, il_2000, if_pos, if_neg, Option.bind_some, x_let, x_bind2_some, x_opt, m_letter, x_Model_isExactly_63, decide_true, decide_false, bi_t, bi_f, i10, i1n, eq_self, if_true, if_false, bi_bt, x_b0, x_b1, Bool.true_and, Bool.false_and, Bool.and_true, Bool.and_false, Bool.and_self]
      by_cases z : ltr (w + (k + 1)) = 0 <;> simp (disch := omega) only [iN_lt, iN_le, iN_eq, iN_add, iN_sub, iN_mul, iN_in, iN_clamp, iN_1a, iN_1e, iN_1l, iN_l1, iN_0e, iN_0l, iN_l0, iN_pred, iN_sub1, iN_1le, il_2, il_3, il_4, il_5, il_6, il_7, il_8, il_9, il_10, il_12, il_13, il_16, il_20, il_32, il_34, il_37, il_42, il_44, il_45, il_46, il_47, il_48, il_49, il_57, il_58, il_59, il_63, il_80, il_97, il_200, il_205, il_400, il_404, il_405, il_413, il_414, il_416, il_417, il_431, il_501, il_505, il_2000, if_pos, if_neg, Option.bind_some, x_let, x_bind2_some, x_opt, z, decide_true, decide_false, bi_t, bi_f, i10, i1n, eq_self, if_true, if_false, bi_bt, x_b0, x_b1, Bool.true_and, Bool.false_and, Bool.and_true, Bool.and_false, Bool.and_self, ite_self]
theorem m_isExactly {σ : St} {n : Nat} {f : Nat → Nat} (h : Ml σ n f) {w i d : Nat} {u : List Nat} (hw : MW w u) (hd : i + d ≤ n) : x_Model_isExactly (iN i) (iN (i + d)) (iN w) σ = some (bi (decide (sl f i d = u))) := by
  have := m_ex0 h hw hd u.length 0 x_fuel (by omega) (by have := hw.1; unfold x_fuel; omega) (by omega)
  rw [List.drop_zero, Nat.add_zero, sl_iff] at this
  exact this
theorem m_wd0 {σ : St} {b : Nat} {f : Nat → Nat} {w d : Nat} {u : List Nat} (hR : Mr σ 59 b d f) (hw : MW w u) (hd : b + d ≤ 960) : ∀ q k fuel, k + q = u.length → q + 1 < fuel → k ≤ d → x_Model_isWord_6 (iN b) (iN (b + d)) (iN w) σ fuel 1 (iN k) = some (bi (decide (d = u.length) && s_eq (fun j => k_low (f j)) (u.drop k) (0 + k))) := by
  obtain ⟨w1, w2, w3⟩ := hw
  intro q
  induction q with
  | zero =>
    intro k fuel h1 hf hk
    obtain ⟨z, rfl⟩ := x_fuelS (show 0 < fuel by omega)
    have e : k = u.length := by omega
    subst e
    rw [s_eq_nil (Nat.le_refl _), Bool.and_true]
    simp (disch := omega) only [iN_lt, iN_le, iN_eq, iN_add, iN_sub, iN_mul, iN_in, iN_clamp, iN_1a, iN_1e, iN_1l, iN_l1, iN_0e, iN_0l, iN_l0, iN_pred, iN_sub1, iN_1le, il_2, il_3, il_4, il_5, il_6, il_7, il_8, il_9, il_10, il_12, il_13, il_16, il_20, il_32, il_34, il_37, il_42, il_44, il_45, il_46, il_47, il_48, il_49, il_57, il_58, il_59, il_63, il_80, il_97, il_200, il_205, il_400, il_404, il_405, il_413, il_414, il_416, il_417, il_431, il_501, il_505, il_2000, if_pos, if_neg, Option.bind_some, x_let, x_bind2_some, x_opt, x_Model_isWord_6, x_Model_isWord_66, m_letter, w3, decide_true, decide_false, bi_t, bi_f, i10, i1n, eq_self, if_true, if_false, bi_bt, x_b0, x_b1, Bool.true_and, Bool.false_and, Bool.and_true, Bool.and_false, Bool.and_self, show b + d - b = d by omega, eq_comm]
    exact _root_.rfl
  | succ q ih =>
    intro k fuel h1 hf hk
    obtain ⟨z, rfl⟩ := x_fuelS (show 0 < fuel by omega)
    obtain ⟨y, rfl⟩ := x_fuelS (show 0 < z by omega)
    have a1 := (w2 k (by omega)).1
    have a2 := (w2 k (by omega)).2
    have a3 := ltr_lt (w + k) (by omega)
    rw [s_eq_cons (by omega)]
    by_cases hkd : k < d
    · have hi := hR k hkd
      have hl := k_low_lt _ hi.2
      by_cases hc : k_low (f k) = ltr (w + k)
      · have e := ih (k + 1) (y + 1) (by omega) (by omega) (by omega)
        rw [← a1, Nat.zero_add, hc, beq_self_eq_true, Bool.true_and]
        rw [Nat.zero_add] at e
        rw [Nat.zero_add, ← e]
        rw [x_Model_isWord_6]
        simp (disch := omega) only [iN_lt, iN_le, iN_eq, iN_add, iN_sub, iN_mul, iN_in, iN_clamp, iN_1a, iN_1e, iN_1l, iN_l1, iN_0e, iN_0l, iN_l0, iN_pred, iN_sub1, iN_1le, il_2, il_3, il_4, il_5, il_6, il_7, il_8, il_9, il_10, il_12, il_13, il_16, il_20, il_32, il_34, il_37, il_42, il_44, il_45, il_46, il_47, il_48, il_49, il_57, il_58, il_59, il_63, il_80, il_97, il_200, il_205, il_400, il_404, il_405, il_413, il_414, il_416, il_417, il_431, il_501, il_505, il_2000, if_pos, if_neg, Option.bind_some, x_let, x_bind2_some, x_opt, m_letter, m_small, hi.1, hi.2, hc, x_Model_isWord_58, decide_true, decide_false, bi_t, bi_f, i10, i1n, eq_self, if_true, if_false, bi_bt, x_b0, x_b1, Bool.true_and, Bool.false_and, Bool.and_true, Bool.and_false, Bool.and_self]
      · have hb : (k_low (f (0 + k)) == u.getD k 0) = false := by rw [← a1, Nat.zero_add]; exact beq_eq_false_iff_ne.mpr hc
        rw [hb, Bool.false_and, Bool.and_false]
        rw [x_Model_isWord_6]
        have := hi.2
        simp (disch := omega) only [iN_lt, iN_le, iN_eq, iN_add, iN_sub, iN_mul, iN_in, iN_clamp, iN_1a, iN_1e, iN_1l, iN_l1, iN_0e, iN_0l, iN_l0, iN_pred, iN_sub1, iN_1le, il_2, il_3, il_4, il_5, il_6, il_7, il_8, il_9, il_10, il_12, il_13, il_16, il_20, il_32, il_34, il_37, il_42, il_44, il_45, il_46, il_47, il_48, il_49, il_57, il_58, il_59, il_63, il_80, il_97, il_200, il_205, il_400, il_404, il_405, il_413, il_414, il_416, il_417, il_431, il_501, il_505, il_2000, if_pos, if_neg, Option.bind_some, x_let, x_bind2_some, x_opt, m_letter, m_small, hi.1, x_Model_isWord_58, x_Model_isWord_57, decide_true, decide_false, bi_t, bi_f, i10, i1n, eq_self, if_true, if_false, bi_bt, x_b0, x_b1, Bool.true_and, Bool.false_and, Bool.and_true, Bool.and_false, Bool.and_self]
        rw [x_Model_isWord_6]
        have b1 : w + (k + 1) < 304 := by omega
        have b3 := ltr_lt (w + (k + 1)) (by omega)
        simp (disch := omega) only [iN_lt, iN_le, iN_eq, iN_add, iN_sub, iN_mul, iN_in, iN_clamp, iN_1a, iN_1e, iN_1l, iN_l1, iN_0e, iN_0l, iN_l0, iN_pred, iN_sub1, iN_1le, il_2, il_3, il_4, il_5, il_6, il_7, il_8, il_9, il_10, il_12, il_13, il_16, il_20, il_32, il_34, il_37, il_42, il_44, il_45, il_46, il_47, il_48, il_49, il_57, il_58, il_59, il_63, il_80, il_97, il_200, il_205, il_400, il_404, il_405, il_413, il_414, il_416, il_417, il_431, il_501, il_505, il_2000, if_pos, if_neg, Option.bind_some, x_let, x_bind2_some, x_opt, m_letter, x_Model_isWord_66, decide_true, decide_false, bi_t, bi_f, i10, i1n, eq_self, if_true, if_false, bi_bt, x_b0, x_b1, Bool.true_and, Bool.false_and, Bool.and_true, Bool.and_false, Bool.and_self]
        by_cases z : ltr (w + (k + 1)) = 0 <;> simp (disch := omega) only [iN_lt, iN_le, iN_eq, iN_add, iN_sub, iN_mul, iN_in, iN_clamp, iN_1a, iN_1e, iN_1l, iN_l1, iN_0e, iN_0l, iN_l0, iN_pred, iN_sub1, iN_1le, il_2, il_3, il_4, il_5, il_6, il_7, il_8, il_9, il_10, il_12, il_13, il_16, il_20, il_32, il_34, il_37, il_42, il_44, il_45, il_46, il_47, il_48, il_49, il_57, il_58, il_59, il_63, il_80, il_97, il_200, il_205, il_400, il_404, il_405, il_413, il_414, il_416, il_417, il_431, il_501, il_505, il_2000, if_pos, if_neg, Option.bind_some, x_let, x_bind2_some, x_opt, z, decide_true, decide_false, bi_t, bi_f, i10, i1n, eq_self, if_true, if_false, bi_bt, x_b0, x_b1, Bool.true_and, Bool.false_and, Bool.and_true, Bool.and_false, Bool.and_self, ite_self]
    · have e : (decide (d = u.length)) = false := decide_eq_false (by omega)
      rw [e, Bool.false_and]
      rw [x_Model_isWord_6]
      simp (disch := omega) only [iN_lt, iN_le, iN_eq, iN_add, iN_sub, iN_mul, iN_in, iN_clamp, iN_1a, iN_1e, iN_1l, iN_l1, iN_0e, iN_0l, iN_l0, iN_pred, iN_sub1, iN_1le, il_2, il_3, il_4, il_5, il_6, il_7, il_8, il_9, il_10, il_12, il_13, il_16, il_20, il_32, il_34, il_37, il_42, il_44, il_45, il_46, il_47, il_48, il_49, il_57, il_58, il_59, il_63, il_80, il_97, il_200, il_205, il_400, il_404, il_405, il_413, il_414, il_416, il_417, il_431, il_501, il_505, il_2000, if_pos, if_neg, Option.bind_some, x_let, x_bind2_some, x_opt, m_letter, x_Model_isWord_57, x_Model_isWord_58, decide_true, decide_false, bi_t, bi_f, i10, i1n, eq_self, if_true, if_false, bi_bt, x_b0, x_b1, Bool.true_and, Bool.false_and, Bool.and_true, Bool.and_false, Bool.and_self]
      rw [x_Model_isWord_6]
      have b1 : w + (k + 1) < 304 := by omega
      have b3 := ltr_lt (w + (k + 1)) (by omega)
      simp (disch := omega) only [iN_lt, iN_le, iN_eq, iN_add, iN_sub, iN_mul, iN_in, iN_clamp, iN_1a, iN_1e, iN_1l, iN_l1, iN_0e, iN_0l, iN_l0, iN_pred, iN_sub1, iN_1le, il_2, il_3, il_4, il_5, il_6, il_7, il_8, il_9, il_10, il_12, il_13, il_16, il_20, il_32, il_34, il_37, il_42, il_44, il_45, il_46, il_47, il_48, il_49, il_57, il_58, il_59, il_63, il_80, il_97, il_200, il_205, il_400, il_404, il_405, il_413, il_414, il_416, il_417, il_431, il_501, il_505, il_2000, if_pos, if_neg, Option.bind_some, x_let, x_bind2_some, x_opt, m_letter, x_Model_isWord_66, decide_true, decide_false, bi_t, bi_f, i10, i1n, eq_self, if_true, if_false, bi_bt, x_b0, x_b1, Bool.true_and, Bool.false_and, Bool.and_true, Bool.and_false, Bool.and_self]
      by_cases z : ltr (w + (k + 1)) = 0 <;> simp (disch := omega) only [iN_lt, iN_le, iN_eq, iN_add, iN_sub, iN_mul, iN_in, iN_clamp, iN_1a, iN_1e, iN_1l, iN_l1, iN_0e, iN_0l, iN_l0, iN_pred, iN_sub1, iN_1le, il_2, il_3, il_4, il_5, il_6, il_7, il_8, il_9, il_10, il_12, il_13, il_16, il_20, il_32, il_34, il_37, il_42, il_44, il_45, il_46, il_47, il_48, il_49, il_57, il_58, il_59, il_63, il_80, il_97, il_200, il_205, il_400, il_404, il_405, il_413, il_414, il_416, il_417, il_431, il_501, il_505, il_2000, if_pos, if_neg, Option.bind_some, x_let, x_bind2_some, x_opt, z, decide_true, decide_false, bi_t, bi_f, i10, i1n, eq_self, if_true, if_false, bi_bt, x_b0, x_b1, Bool.true_and, Bool.false_and, Bool.and_true, Bool.and_false, Bool.and_self, ite_self]
theorem m_isWord {σ : St} {b : Nat} {f : Nat → Nat} {w d : Nat} {u : List Nat} (hR : Mr σ 59 b d f) (hw : MW w u) (hd : b + d ≤ 960) : x_Model_isWord (iN b) (iN (b + d)) (iN w) σ = some (bi (u_is (sl f 0 d) u)) := by
  have := m_wd0 hR hw hd u.length 0 x_fuel (by omega) (by have := hw.1; unfold x_fuel; omega) (by omega)
  rw [List.drop_zero, Nat.add_zero, sl_is] at this
  exact this
theorem m_isBlank {σ : St} {b n : Nat} {f : Nat → Nat} (hR : Mr σ 59 b n f) {j : Nat} (hj : j < n) (h : b + n ≤ 960) : x_Model_isBlank (iN (b + j)) σ = some (bi (k_blank (f j))) := by
  have hi := hR j hj
  have := hi.2
  unfold x_Model_isBlank k_blank
  by_cases h1 : f j = 32
  · simp (disch := omega) only [iN_lt, iN_le, iN_eq, iN_add, iN_sub, iN_mul, iN_in, iN_clamp, iN_1a, iN_1e, iN_1l, iN_l1, iN_0e, iN_0l, iN_l0, iN_pred, iN_sub1, iN_1le, il_2, il_3, il_4, il_5, il_6, il_7, il_8, il_9, il_10, il_12, il_13, il_16, il_20, il_32, il_34, il_37, il_42, il_44, il_45, il_46, il_47, il_48, il_49, il_57, il_58, il_59, il_63, il_80, il_97, il_200, il_205, il_400, il_404, il_405, il_413, il_414, il_416, il_417, il_431, il_501, il_505, il_2000, if_pos, if_neg, Option.bind_some, x_let, x_bind2_some, x_opt, hi.1, h1]
    rfl
  · by_cases h2 : f j = 9 <;> simp (disch := omega) only [iN_lt, iN_le, iN_eq, iN_add, iN_sub, iN_mul, iN_in, iN_clamp, iN_1a, iN_1e, iN_1l, iN_l1, iN_0e, iN_0l, iN_l0, iN_pred, iN_sub1, iN_1le, il_2, il_3, il_4, il_5, il_6, il_7, il_8, il_9, il_10, il_12, il_13, il_16, il_20, il_32, il_34, il_37, il_42, il_44, il_45, il_46, il_47, il_48, il_49, il_57, il_58, il_59, il_63, il_80, il_97, il_200, il_205, il_400, il_404, il_405, il_413, il_414, il_416, il_417, il_431, il_501, il_505, il_2000, if_pos, if_neg, Option.bind_some, x_let, x_bind2_some, x_opt, hi.1, h1, h2] <;> simp [h1, h2, bi]
