/-! fields in the reference -/
def Mf (σ : St) (nf : Nat) (F : Nat → Ln) : Prop := σ.1 51 17 = iN nf ∧ nf ≤ 12 ∧ ∀ k, k < nf → f_ok (F k) ∧ σ.2.1 60 k = iN (f_c (F k)) ∧ σ.2.1 61 k = iN (F k).1 ∧ Mr σ 59 (80 * k) (F k).1 (F k).2
theorem Mf.of {σ σ' : St} {nf : Nat} {F : Nat → Ln} (h : Mf σ nf F) (e1 : σ'.1 51 17 = σ.1 51 17) (e2 : σ'.2.1 59 = σ.2.1 59) (e3 : σ'.2.1 60 = σ.2.1 60) (e4 : σ'.2.1 61 = σ.2.1 61) : Mf σ' nf F :=
  ⟨by rw [e1]; exact h.1, h.2.1, fun k hk => ⟨(h.2.2 k hk).1, by rw [e3]; exact (h.2.2 k hk).2.1, by rw [e4]; exact (h.2.2 k hk).2.2.1, (h.2.2 k hk).2.2.2.of e2⟩⟩
theorem Mr.part {σ : St} {a b n : Nat} {f : Nat → Nat} (h : Mr σ a b n f) {i d : Nat} (hd : i + d ≤ n) : Mr σ a (b + i) d (fun j => f (i + j)) := fun j hj => by
  have := h (i + j) (by omega)
  rw [show b + i + j = b + (i + j) by omega]
  exact this
theorem Mr.less {σ : St} {a b n : Nat} {f : Nat → Nat} (h : Mr σ a b n f) {d : Nat} (hd : d ≤ n) : Mr σ a b d f := fun j hj => h j (by omega)
theorem m_isNamed {σ : St} {nf : Nat} {F : Nat → Ln} (h : Mf σ nf F) {w k : Nat} {u : List Nat} (hw : MW w u) (hk : k < nf) : x_Model_isNamed (iN k) (iN w) σ = some (bi (f_nm (F k) u)) := by
  obtain ⟨h1, h2, h3⟩ := h
  obtain ⟨⟨a, b, c⟩, q2, q3, q4⟩ := h3 k hk
  have e := m_isWord (q4.less (d := f_c (F k)) (by omega)) hw (by omega)
  unfold x_Model_isNamed
  simp (disch := omega) only [iN_lt, iN_le, iN_eq, iN_add, iN_sub, iN_mul, iN_in, iN_clamp, iN_1a, iN_1e, iN_1l, iN_l1, iN_0e, iN_0l, iN_l0, iN_pred, iN_sub1, iN_1le, il_2, il_3, il_4, il_5, il_6, il_7, il_8, il_9, il_10, il_12, il_13, il_16, il_20, il_32, il_34, il_37, il_42, il_44, il_45, il_46, il_47, il_48, il_49, il_57, il_58, il_59, il_63, il_80, il_97, il_200, il_205, il_400, il_404, il_405, il_413, il_414, il_416, il_417, il_431, il_501, il_505, il_2000, if_pos, if_neg, Option.bind_some, x_let, x_bind2_some, x_opt, q2, e, decide_true, decide_false, bi_t, bi_f, i10, i1n, eq_self, if_true, if_false, bi_bt, x_b0, x_b1, Bool.true_and, Bool.false_and, Bool.and_true, Bool.and_false, Bool.and_self, f_nm]
theorem m_count0 {σ : St} {nf : Nat} {F : Nat → Ln} (h : Mf σ nf F) {w : Nat} {u : List Nat} (hw : MW w u) : ∀ d i c fuel, i + d = nf → d < fuel → c ≤ i → x_Model_count_4 (iN w) σ fuel (iN c) (iN i) = some (iN (c + f_cnt F u i d)) := by
  have h1 := h.1
  have h2 := h.2.1
  intro d
  induction d with
  | zero =>
    intro i c fuel h1 hf hc
    obtain ⟨k, rfl⟩ := x_fuelS (show 0 < fuel by omega)
    simp (disch := omega) only [iN_lt, iN_le, iN_eq, iN_add, iN_sub, iN_mul, iN_in, iN_clamp, iN_1a, iN_1e, iN_1l, iN_l1, iN_0e, iN_0l, iN_l0, iN_pred, iN_sub1, iN_1le, il_2, il_3, il_4, il_5, il_6, il_7, il_8, il_9, il_10, il_12, il_13, il_16, il_20, il_32, il_34, il_37, il_42, il_44, il_45, il_46, il_47, il_48, il_49, il_57, il_58, il_59, il_63, il_80, il_97, il_200, il_205, il_400, il_404, il_405, il_413, il_414, il_416, il_417, il_431, il_501, il_505, il_2000, if_pos, if_neg, Option.bind_some, x_let, x_bind2_some, x_opt, x_Model_count_4, h1, f_cnt, h.1, Nat.add_zero]
  | succ d ih =>
    intro i c fuel hi hf hc
    obtain ⟨k, rfl⟩ := x_fuelS (show 0 < fuel by omega)
    have e := m_isNamed h hw (show i < nf by omega)
    have e1 := ih (i + 1) c k (by omega) (by omega) (by omega)
    have e2 := ih (i + 1) (c + 1) k (by omega) (by omega) (by omega)
    cases hn : f_nm (F i) u <;> rw [hn] at e <;> simp (disch := omega) only [iN_lt, iN_le, iN_eq, iN_add, iN_sub, iN_mul, iN_in, iN_clamp, iN_1a, iN_1e, iN_1l, iN_l1, iN_0e, iN_0l, iN_l0, iN_pred, iN_sub1, iN_1le, il_2, il_3, il_4, il_5, il_6, il_7, il_8, il_9, il_10, il_12, il_13, il_16, il_20, il_32, il_34, il_37, il_42, il_44, il_45, il_46, il_47, il_48, il_49, il_57, il_58, il_59, il_63, il_80, il_97, il_200, il_205, il_400, il_404, il_405, il_413, il_414, il_416, il_417, il_431, il_501, il_505, il_2000, if_pos, if_neg, Option.bind_some, x_let, x_bind2_some, x_opt, x_Model_count_4, x_Model_count_28, f_cnt, h1, e, e1, e2, hn, Bool.false_eq_true, decide_true, decide_false, bi_t, bi_f, i10, i1n, eq_self, if_true, if_false, bi_bt, x_b0, x_b1, Bool.true_and, Bool.false_and, Bool.and_true, Bool.and_false, Bool.and_self] <;> simp [Nat.add_assoc]
theorem m_count {σ : St} {nf : Nat} {F : Nat → Ln} (h : Mf σ nf F) {w : Nat} {u : List Nat} (hw : MW w u) : x_Model_count (iN w) σ = some (iN (f_cnt F u 0 nf)) := by
  have := m_count0 h hw nf 0 0 x_fuel (by omega) (by have := h.2.1; unfold x_fuel; omega) (by omega)
  rw [Nat.zero_add] at this
  exact this
/-- the elements that the reference has noticed -/
def Me (σ : St) (E : List (List Nat)) : Prop := σ.1 51 26 = iN E.length ∧ ∀ k, k < E.length → ∃ b, σ.2.1 63 k = iN b ∧ σ.2.1 64 k = iN (b + (E.getD k []).length) ∧ b + (E.getD k []).length ≤ 960 ∧ Mr σ 59 b (E.getD k []).length (fun j => (E.getD k []).getD j 0) ∧ 0 < (E.getD k []).length
theorem Me.of {σ σ' : St} {E : List (List Nat)} (h : Me σ E) (e1 : σ'.1 51 26 = σ.1 51 26) (e2 : σ'.2.1 59 = σ.2.1 59) (e3 : σ'.2.1 63 = σ.2.1 63) (e4 : σ'.2.1 64 = σ.2.1 64) : Me σ' E :=
  ⟨by rw [e1]; exact h.1, fun k hk => by
    obtain ⟨b, p1, p2, p3, p4, p5⟩ := h.2 k hk
    exact ⟨b, by rw [e3]; exact p1, by rw [e4]; exact p2, p3, p4.of e2, p5⟩⟩
theorem m_notice1 {σ : St} {B n : Nat} {f : Nat → Nat} (hR : Mr σ 59 B n f) (hB : B + n ≤ 960) (a1 a2 : Int32) : ∀ d i fuel, i + d ≤ n → d < fuel → x_Model_notice_25 a1 a2 fuel (iN (B + i)) (iN (B + i + d)) σ = x_Model_notice_48 a1 a2 (iN (B + i)) (iN (B + s_back f i d)) σ := by
  intro d
  induction d with
  | zero =>
    intro i fuel h1 hf
    obtain ⟨k, rfl⟩ := x_fuelS (show 0 < fuel by omega)
    simp (disch := omega) only [iN_lt, iN_le, iN_eq, iN_add, iN_sub, iN_mul, iN_in, iN_clamp, iN_1a, iN_1e, iN_1l, iN_l1, iN_0e, iN_0l, iN_l0, iN_pred, iN_sub1, iN_1le, il_2, il_3, il_4, il_5, il_6, il_7, il_8, il_9, il_10, il_12, il_13, il_16, il_20, il_32, il_34, il_37, il_42, il_44, il_45, il_46, il_47, il_48, il_49, il_57, il_58, il_59, il_63, il_80, il_97, il_200, il_205, il_400, il_404, il_405, il_413, il_414, il_416, il_417, il_431, il_501, il_505, il_2000, if_pos, if_neg, Option.bind_some, x_let, x_bind2_some, x_opt, x_Model_notice_25, s_back, Nat.add_zero]
  | succ d ih =>
    intro i fuel h1 hf
    obtain ⟨k, rfl⟩ := x_fuelS (show 0 < fuel by omega)
    have e := m_isBlank hR (show i + d < n by omega) hB
    have e2 := ih i k (by omega) (by omega)
    rw [show B + (i + d) = B + i + (d + 1) - 1 by omega] at e
    rw [show B + i + d = B + i + (d + 1) - 1 by omega] at e2
    rw [x_Model_notice_25, s_back]
    cases hb : k_blank (f (i + d))
    · rw [hb] at e
      simp (disch := omega) only [iN_lt, iN_le, iN_eq, iN_add, iN_sub, iN_mul, iN_in, iN_clamp, iN_1a, iN_1e, iN_1l, iN_l1, iN_0e, iN_0l, iN_l0, iN_pred, iN_sub1, iN_1le, il_2, il_3, il_4, il_5, il_6, il_7, il_8, il_9, il_10, il_12, il_13, il_16, il_20, il_32, il_34, il_37, il_42, il_44, il_45, il_46, il_47, il_48, il_49, il_57, il_58, il_59, il_63, il_80, il_97, il_200, il_205, il_400, il_404, il_405, il_413, il_414, il_416, il_417, il_431, il_501, il_505, il_2000, if_pos, if_neg, Option.bind_some, x_let, x_bind2_some, x_opt, e, decide_true, decide_false, bi_t, bi_f, i10, i1n, eq_self, if_true, if_false, bi_bt, x_b0, x_b1, Bool.true_and, Bool.false_and, Bool.and_true, Bool.and_false, Bool.and_self, Bool.false_eq_true]
      rw [show B + i + (d + 1) = B + (i + d + 1) by omega]
    · rw [hb] at e
      simp (disch := omega) only [iN_lt, iN_le, iN_eq, iN_add, iN_sub, iN_mul, iN_in, iN_clamp, iN_1a, iN_1e, iN_1l, iN_l1, iN_0e, iN_0l, iN_l0, iN_pred, iN_sub1, iN_1le, il_2, il_3, il_4, il_5, il_6, il_7, il_8, il_9, il_10, il_12, il_13, il_16, il_20, il_32, il_34, il_37, il_42, il_44, il_45, il_46, il_47, il_48, il_49, il_57, il_58, il_59, il_63, il_80, il_97, il_200, il_205, il_400, il_404, il_405, il_413, il_414, il_416, il_417, il_431, il_501, il_505, il_2000, if_pos, if_neg, Option.bind_some, x_let, x_bind2_some, x_opt, e, e2, decide_true, decide_false, bi_t, bi_f, i10, i1n, eq_self, if_true, if_false, bi_bt, x_b0, x_b1, Bool.true_and, Bool.false_and, Bool.and_true, Bool.and_false, Bool.and_self]
theorem m_notice0 {σ : St} {B n : Nat} {f : Nat → Nat} (hR : Mr σ 59 B n f) (hB : B + n ≤ 960) (a1 a2 : Int32) : ∀ d i fuel, i + d ≤ n → d < fuel → x_Model_notice_5 a1 a2 fuel (iN (B + i)) (iN (B + i + d)) σ = x_Model_notice_48 a1 a2 (iN (B + s_first (fun c => !k_blank c) f i d)) (iN (B + s_back f (s_first (fun c => !k_blank c) f i d) (i + d - s_first (fun c => !k_blank c) f i d))) σ := by
  intro d
  induction d with
  | zero =>
    intro i fuel h1 hf
    obtain ⟨k, rfl⟩ := x_fuelS (show 0 < fuel by omega)
    have e := m_notice1 hR hB a1 a2 0 i x_fuel h1 (by unfold x_fuel; omega)
    rw [Nat.add_zero] at e
    simp (disch := omega) only [iN_lt, iN_le, iN_eq, iN_add, iN_sub, iN_mul, iN_in, iN_clamp, iN_1a, iN_1e, iN_1l, iN_l1, iN_0e, iN_0l, iN_l0, iN_pred, iN_sub1, iN_1le, il_2, il_3, il_4, il_5, il_6, il_7, il_8, il_9, il_10, il_12, il_13, il_16, il_20, il_32, il_34, il_37, il_42, il_44, il_45, il_46, il_47, il_48, il_49, il_57, il_58, il_59, il_63, il_80, il_97, il_200, il_205, il_400, il_404, il_405, il_413, il_414, il_416, il_417, il_431, il_501, il_505, il_2000, if_pos, if_neg, Option.bind_some, x_let, x_bind2_some, x_opt, x_Model_notice_5, s_first, Nat.add_zero, e, Nat.sub_self]
  | succ d ih =>
    intro i fuel h1 hf
    obtain ⟨k, rfl⟩ := x_fuelS (show 0 < fuel by omega)
    have e := m_isBlank hR (show i < n by omega) hB
    have e1 := m_notice1 hR hB a1 a2 (d + 1) i x_fuel h1 (by unfold x_fuel; omega)
    have e2 := ih (i + 1) k (by omega) (by omega)
    rw [show B + (i + 1) + d = B + i + (d + 1) by omega, show i + 1 + d = i + (d + 1) by omega] at e2
    cases hb : k_blank (f i)
    · rw [hb] at e
      simp (disch := omega) only [iN_lt, iN_le, iN_eq, iN_add, iN_sub, iN_mul, iN_in, iN_clamp, iN_1a, iN_1e, iN_1l, iN_l1, iN_0e, iN_0l, iN_l0, iN_pred, iN_sub1, iN_1le, il_2, il_3, il_4, il_5, il_6, il_7, il_8, il_9, il_10, il_12, il_13, il_16, il_20, il_32, il_34, il_37, il_42, il_44, il_45, il_46, il_47, il_48, il_49, il_57, il_58, il_59, il_63, il_80, il_97, il_200, il_205, il_400, il_404, il_405, il_413, il_414, il_416, il_417, il_431, il_501, il_505, il_2000, if_pos, if_neg, Option.bind_some, x_let, x_bind2_some, x_opt, x_Model_notice_5, s_first, e, e1, hb, decide_true, decide_false, bi_t, bi_f, i10, i1n, eq_self, if_true, if_false, bi_bt, x_b0, x_b1, Bool.true_and, Bool.false_and, Bool.and_true, Bool.and_false, Bool.and_self, Bool.not_false, show i + (d + 1) - i = d + 1 by omega]
    · rw [hb] at e
      simp (disch := omega) only [iN_lt, iN_le, iN_eq, iN_add, iN_sub, iN_mul, iN_in, iN_clamp, iN_1a, iN_1e, iN_1l, iN_l1, iN_0e, iN_0l, iN_l0, iN_pred, iN_sub1, iN_1le, il_2, il_3, il_4, il_5, il_6, il_7, il_8, il_9, il_10, il_12, il_13, il_16, il_20, il_32, il_34, il_37, il_42, il_44, il_45, il_46, il_47, il_48, il_49, il_57, il_58, il_59, il_63, il_80, il_97, il_200, il_205, il_400, il_404, il_405, il_413, il_414, il_416, il_417, il_431, il_501, il_505, il_2000, if_pos, if_neg, Option.bind_some, x_let, x_bind2_some, x_opt, x_Model_notice_5, s_first, e, hb, decide_true, decide_false, bi_t, bi_f, i10, i1n, eq_self, if_true, if_false, bi_bt, x_b0, x_b1, Bool.true_and, Bool.false_and, Bool.and_true, Bool.and_false, Bool.and_self, Bool.not_true, Bool.false_eq_true]
      rw [show B + i + 1 = B + (i + 1) by omega]
      exact e2
theorem Me.add {σ : St} {E : List (List Nat)} (h : Me σ E) {b d : Nat} {f : Nat → Nat} (hE : E.length < 512) (hb : b + d ≤ 960) (h0 : 0 < d) (hR : Mr σ 59 b d f) : ∃ σ', x_Model_notice_48 0 0 (iN b) (iN (b + d)) σ = some σ' ∧ Me σ' (E ++ [sl f 0 d]) := by
  obtain ⟨h1, h2⟩ := h
  refine ⟨x_updR (x_updM (x_updM σ 63 E.length (iN b)) 64 E.length (iN (b + d))) 51 26 (iN (E.length + 1)), ?_, ?_⟩
  · unfold x_Model_notice_48
    simp (disch := omega) only [iN_lt, iN_le, iN_eq, iN_add, iN_sub, iN_mul, iN_in, iN_clamp, iN_1a, iN_1e, iN_1l, iN_l1, iN_0e, iN_0l, iN_l0, iN_pred, iN_sub1, iN_1le, il_2, il_3, il_4, il_5, il_6, il_7, il_8, il_9, il_10, il_12, il_13, il_16, il_20, il_32, il_34, il_37, il_42, il_44, il_45, il_46, il_47, il_48, il_49, il_57, il_58, il_59, il_63, il_80, il_97, il_200, il_205, il_400, il_404, il_405, il_413, il_414, il_416, il_417, il_431, il_501, il_505, il_2000, if_pos, if_neg, Option.bind_some, x_let, x_bind2_some, x_opt, x_updM, x_updR, h1]
  · refine ⟨by simp [x_updR], fun k hk => ?_⟩
    rw [List.length_append, List.length_singleton] at hk
    by_cases hk2 : k < E.length
    · obtain ⟨b', p1, p2, p3, p4, p5⟩ := h2 k hk2
      have e : (E ++ [sl f 0 d]).getD k [] = E.getD k [] := by
        rw [List.getD_eq_getElem?_getD, List.getD_eq_getElem?_getD, List.getElem?_append_left hk2]
      rw [e]
      refine ⟨b', ?_, ?_, p3, p4, p5⟩
      · simp only [x_updR, x_updM]
        rw [if_neg (by omega), if_neg (by omega)]
        exact p1
      · simp only [x_updR, x_updM]
        rw [if_neg (by omega), if_neg (by omega)]
        exact p2
    · have e : k = E.length := by omega
      subst e
      have e : (E ++ [sl f 0 d]).getD E.length [] = sl f 0 d := by
        rw [List.getD_eq_getElem?_getD, List.getElem?_append_right (Nat.le_refl _), Nat.sub_self]
        rfl
      rw [e, sl_len]
      refine ⟨b, by simp [x_updR, x_updM], by simp [x_updR, x_updM], hb, fun j hj => ?_, h0⟩
      have := hR j hj
      show σ.2.1 59 (b + j) = iN ((sl f 0 d).getD j 0) ∧ (sl f 0 d).getD j 0 < 256
      rw [sl_at f 0 d hj, Nat.zero_add]
      exact this
theorem m_notice48 (a1 a2 l3 l4 : Int32) (σ : St) : x_Model_notice_48 a1 a2 l3 l4 σ = x_Model_notice_48 0 0 l3 l4 σ := rfl
theorem sl_sh (f : Nat → Nat) (i d : Nat) : sl (fun j => f (i + j)) 0 d = sl f i d := sl_congr (fun j _ => by rw [Nat.zero_add])
theorem m_notice {σ : St} {B n : Nat} {f : Nat → Nat} {E : List (List Nat)} (h : Me σ E) (hR : Mr σ 59 B n f) (hB : B + n ≤ 960) (hE : E.length < 512) {i t : Nat} (hi : i ≤ t) (ht : t ≤ n) : ∃ σ', x_Model_notice (iN (B + i)) (iN (B + t)) σ = some σ' ∧ Me σ' (E ++ s_note f i t) := by
  have e := m_notice0 hR hB (iN (B + i)) (iN (B + t)) (t - i) i x_fuel (by omega) (by unfold x_fuel; omega)
  rw [show B + i + (t - i) = B + t by omega, show i + (t - i) = t by omega] at e
  have l1 := s_b_le f i t hi
  have l2 := s_e_le f i t hi
  unfold x_Model_notice
  rw [e, m_notice48]
  show ∃ σ', x_Model_notice_48 0 0 (iN (B + s_b f i t)) (iN (B + s_e f i t)) σ = some σ' ∧ Me σ' (E ++ s_note f i t)
  unfold s_note
  by_cases hb : s_b f i t < s_e f i t
  · rw [if_pos hb]
    have q := Me.add h (b := B + s_b f i t) (d := s_e f i t - s_b f i t) (f := fun j => f (s_b f i t + j)) hE (by omega) (by omega) (hR.part (by omega))
    rw [show B + s_b f i t + (s_e f i t - s_b f i t) = B + s_e f i t by omega, sl_sh] at q
    exact q
  · rw [if_neg hb, List.append_nil]
    refine ⟨σ, ?_, h⟩
    unfold x_Model_notice_48
    simp (disch := omega) only [iN_lt, iN_le, iN_eq, iN_add, iN_sub, iN_mul, iN_in, iN_clamp, iN_1a, iN_1e, iN_1l, iN_l1, iN_0e, iN_0l, iN_l0, iN_pred, iN_sub1, iN_1le, il_2, il_3, il_4, il_5, il_6, il_7, il_8, il_9, il_10, il_12, il_13, il_16, il_20, il_32, il_34, il_37, il_42, il_44, il_45, il_46, il_47, il_48, il_49, il_57, il_58, il_59, il_63, il_80, il_97, il_200, il_205, il_400, il_404, il_405, il_413, il_414, il_416, il_417, il_431, il_501, il_505, il_2000, if_pos, if_neg, Option.bind_some, x_let, x_bind2_some, x_opt]
