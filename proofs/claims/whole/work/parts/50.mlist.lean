/-! lists of elements in the reference -/
theorem m_list32 {nf : Nat} {F : Nat → Ln} {w : Nat} {u : List Nat} (hw : MW w u) {k : Nat} (hk : k < nf) (hn : f_nm (F k) u = true) (bk : Int32 → St → Option St) : ∀ d i p fuel (E : List (List Nat)) (σ : St), Mf σ nf F → Me σ E → p + d = (F k).1 → i ≤ p → d + 1 < fuel → (E ++ s_el (F k).2 i p d).length < 512 → ∃ σ', x_Model_list_32 (iN w) bk fuel (iN k) (iN (80 * k + i)) (iN (80 * k + p)) σ = bk (iN (k + 1)) σ' ∧ Mf σ' nf F ∧ Me σ' (E ++ s_el (F k).2 i p d) := by
  intro d
  induction d with
  | zero =>
    intro i p fuel E σ hF hE hp hi hf hl
    obtain ⟨z, rfl⟩ := x_fuelS (show 0 < fuel by omega)
    obtain ⟨y, rfl⟩ := x_fuelS (show 0 < z by omega)
    obtain ⟨⟨a, b, c⟩, q2, q3, q4⟩ := hF.2.2 k hk
    have hnf := hF.2.1
    have e := m_isNamed hF hw hk
    rw [hn] at e
    rw [s_el, List.length_append] at hl
    obtain ⟨σ1, n1, n2⟩ := m_notice hE q4 (by omega) (by omega) hi (show p ≤ (F k).1 by omega)
    have fp := fp_Model_notice _ _ _ n1
    have hF1 : Mf σ1 nf F := hF.of (fp.1 _ _ (by simp)) (fp.2.1 _ (by simp)) (fp.2.1 _ (by simp)) (fp.2.1 _ (by simp))
    refine ⟨σ1, ?_, hF1, n2⟩
    obtain ⟨_, r2, r3, r4⟩ := hF1.2.2 k hk
    rw [x_Model_list_32]
    simp (disch := omega) only [iN_lt, iN_le, iN_eq, iN_add, iN_sub, iN_mul, iN_in, iN_clamp, iN_1a, iN_1e, iN_1l, iN_l1, iN_0e, iN_0l, iN_l0, iN_pred, iN_sub1, iN_1le, il_2, il_3, il_4, il_5, il_6, il_7, il_8, il_9, il_10, il_12, il_13, il_16, il_20, il_32, il_34, il_37, il_42, il_44, il_45, il_46, il_47, il_48, il_49, il_57, il_58, il_59, il_63, il_80, il_97, il_200, il_205, il_400, il_404, il_405, il_413, il_414, il_416, il_417, il_431, il_501, il_505, il_2000, if_pos, if_neg, Option.bind_some, x_let, x_bind2_some, x_opt, q3, e, n1, x_Model_list_85, x_Model_list_97, x_Model_list_103, decide_true, decide_false, bi_t, bi_f, i10, i1n, eq_self, if_true, if_false, bi_bt, x_b0, x_b1, Bool.true_and, Bool.false_and, Bool.and_true, Bool.and_false, Bool.and_self]
    rw [x_Model_list_32]
    simp (disch := omega) only [iN_lt, iN_le, iN_eq, iN_add, iN_sub, iN_mul, iN_in, iN_clamp, iN_1a, iN_1e, iN_1l, iN_l1, iN_0e, iN_0l, iN_l0, iN_pred, iN_sub1, iN_1le, il_2, il_3, il_4, il_5, il_6, il_7, il_8, il_9, il_10, il_12, il_13, il_16, il_20, il_32, il_34, il_37, il_42, il_44, il_45, il_46, il_47, il_48, il_49, il_57, il_58, il_59, il_63, il_80, il_97, il_200, il_205, il_400, il_404, il_405, il_413, il_414, il_416, il_417, il_431, il_501, il_505, il_2000, if_pos, if_neg, Option.bind_some, x_let, x_bind2_some, x_opt, r3, x_Model_list_103, decide_true, decide_false, bi_t, bi_f, i10, i1n, eq_self, if_true, if_false, bi_bt, x_b0, x_b1, Bool.true_and, Bool.false_and, Bool.and_true, Bool.and_false, Bool.and_self]
  | succ d ih =>
    intro i p fuel E σ hF hE hp hi hf hl
    obtain ⟨z, rfl⟩ := x_fuelS (show 0 < fuel by omega)
    obtain ⟨⟨a, b, c⟩, q2, q3, q4⟩ := hF.2.2 k hk
    have hnf := hF.2.1
    have e := m_isNamed hF hw hk
    rw [hn] at e
    have hb := q4 p (by omega)
    have hb2 := hb.2
    rw [s_el] at hl ⊢
    by_cases h44 : (F k).2 p = 44
    · rw [if_pos h44] at hl ⊢
      obtain ⟨σ1, n1, n2⟩ := m_notice hE q4 (by omega) (by simp at hl; omega) hi (show p ≤ (F k).1 by omega)
      have fp := fp_Model_notice _ _ _ n1
      have hF1 : Mf σ1 nf F := hF.of (fp.1 _ _ (by simp)) (fp.2.1 _ (by simp)) (fp.2.1 _ (by simp)) (fp.2.1 _ (by simp))
      rw [← List.append_assoc] at hl ⊢
      obtain ⟨σ2, m1, m2, m3⟩ := ih (p + 1) (p + 1) z (E ++ s_note (F k).2 i p) σ1 hF1 n2 (by omega) (Nat.le_refl _) (by omega) hl
      refine ⟨σ2, ?_, m2, m3⟩
      rw [← m1, x_Model_list_32]
      simp (disch := omega) only [iN_lt, iN_le, iN_eq, iN_add, iN_sub, iN_mul, iN_in, iN_clamp, iN_1a, iN_1e, iN_1l, iN_l1, iN_0e, iN_0l, iN_l0, iN_pred, iN_sub1, iN_1le, il_2, il_3, il_4, il_5, il_6, il_7, il_8, il_9, il_10, il_12, il_13, il_16, il_20, il_32, il_34, il_37, il_42, il_44, il_45, il_46, il_47, il_48, il_49, il_57, il_58, il_59, il_63, il_80, il_97, il_200, il_205, il_400, il_404, il_405, il_413, il_414, il_416, il_417, il_431, il_501, il_505, il_2000, if_pos, if_neg, Option.bind_some, x_let, x_bind2_some, x_opt, q3, e, n1, hb.1, h44, x_Model_list_85, x_Model_list_97, decide_true, decide_false, bi_t, bi_f, i10, i1n, eq_self, if_true, if_false, bi_bt, x_b0, x_b1, Bool.true_and, Bool.false_and, Bool.and_true, Bool.and_false, Bool.and_self, Nat.add_assoc]
    · rw [if_neg h44] at hl ⊢
      obtain ⟨σ2, m1, m2, m3⟩ := ih i (p + 1) z E σ hF hE (by omega) (by omega) (by omega) hl
      refine ⟨σ2, ?_, m2, m3⟩
      rw [← m1, x_Model_list_32]
      simp (disch := omega) only [iN_lt, iN_le, iN_eq, iN_add, iN_sub, iN_mul, iN_in, iN_clamp, iN_1a, iN_1e, iN_1l, iN_l1, iN_0e, iN_0l, iN_l0, iN_pred, iN_sub1, iN_1le, il_2, il_3, il_4, il_5, il_6, il_7, il_8, il_9, il_10, il_12, il_13, il_16, il_20, il_32, il_34, il_37, il_42, il_44, il_45, il_46, il_47, il_48, il_49, il_57, il_58, il_59, il_63, il_80, il_97, il_200, il_205, il_400, il_404, il_405, il_413, il_414, il_416, il_417, il_431, il_501, il_505, il_2000, if_pos, if_neg, Option.bind_some, x_let, x_bind2_some, x_opt, q3, e, hb.1, x_Model_list_97, decide_true, decide_false, bi_t, bi_f, i10, i1n, eq_self, if_true, if_false, bi_bt, x_b0, x_b1, Bool.true_and, Bool.false_and, Bool.and_true, Bool.and_false, Bool.and_self, Nat.add_assoc]
theorem m_list7 {nf : Nat} {F : Nat → Ln} {w : Nat} {u : List Nat} (hw : MW w u) : ∀ d k fuel (E : List (List Nat)) (σ : St), Mf σ nf F → Me σ E → k + d = nf → d < fuel → (E ++ f_els F u k d).length < 512 → ∃ σ', x_Model_list_7 (iN w) fuel (iN k) σ = some σ' ∧ Me σ' (E ++ f_els F u k d) := by
  intro d
  induction d with
  | zero =>
    intro k fuel E σ hF hE hk hf hl
    obtain ⟨z, rfl⟩ := x_fuelS (show 0 < fuel by omega)
    have hnf := hF.2.1
    refine ⟨σ, ?_, by rw [f_els, List.append_nil]; exact hE⟩
    rw [x_Model_list_7]
    simp (disch := omega) only [iN_lt, iN_le, iN_eq, iN_add, iN_sub, iN_mul, iN_in, iN_clamp, iN_1a, iN_1e, iN_1l, iN_l1, iN_0e, iN_0l, iN_l0, iN_pred, iN_sub1, iN_1le, il_2, il_3, il_4, il_5, il_6, il_7, il_8, il_9, il_10, il_12, il_13, il_16, il_20, il_32, il_34, il_37, il_42, il_44, il_45, il_46, il_47, il_48, il_49, il_57, il_58, il_59, il_63, il_80, il_97, il_200, il_205, il_400, il_404, il_405, il_413, il_414, il_416, il_417, il_431, il_501, il_505, il_2000, if_pos, if_neg, Option.bind_some, x_let, x_bind2_some, x_opt, hF.1]
  | succ d ih =>
    intro k fuel E σ hF hE hk hf hl
    obtain ⟨z, rfl⟩ := x_fuelS (show 0 < fuel by omega)
    have hnf := hF.2.1
    obtain ⟨⟨a, b, c⟩, q2, q3, q4⟩ := hF.2.2 k (by omega)
    have e := m_isNamed hF hw (show k < nf by omega)
    rw [f_els] at hl ⊢
    rw [x_Model_list_7]
    cases hn : f_nm (F k) u
    · rw [hn] at hl e
      simp only [Bool.false_eq_true, if_false, List.nil_append] at hl ⊢
      obtain ⟨σ2, m1, m2⟩ := ih (k + 1) z E σ hF hE (by omega) (by omega) hl
      refine ⟨σ2, ?_, m2⟩
      rw [← m1]
      simp (disch := omega) only [iN_lt, iN_le, iN_eq, iN_add, iN_sub, iN_mul, iN_in, iN_clamp, iN_1a, iN_1e, iN_1l, iN_l1, iN_0e, iN_0l, iN_l0, iN_pred, iN_sub1, iN_1le, il_2, il_3, il_4, il_5, il_6, il_7, il_8, il_9, il_10, il_12, il_13, il_16, il_20, il_32, il_34, il_37, il_42, il_44, il_45, il_46, il_47, il_48, il_49, il_57, il_58, il_59, il_63, il_80, il_97, il_200, il_205, il_400, il_404, il_405, il_413, il_414, il_416, il_417, il_431, il_501, il_505, il_2000, if_pos, if_neg, Option.bind_some, x_let, x_bind2_some, x_opt, hF.1, q2]
      rw [show x_fuel = 4095 + 1 from rfl, x_Model_list_32]
      simp (disch := omega) only [iN_lt, iN_le, iN_eq, iN_add, iN_sub, iN_mul, iN_in, iN_clamp, iN_1a, iN_1e, iN_1l, iN_l1, iN_0e, iN_0l, iN_l0, iN_pred, iN_sub1, iN_1le, il_2, il_3, il_4, il_5, il_6, il_7, il_8, il_9, il_10, il_12, il_13, il_16, il_20, il_32, il_34, il_37, il_42, il_44, il_45, il_46, il_47, il_48, il_49, il_57, il_58, il_59, il_63, il_80, il_97, il_200, il_205, il_400, il_404, il_405, il_413, il_414, il_416, il_417, il_431, il_501, il_505, il_2000, if_pos, if_neg, Option.bind_some, x_let, x_bind2_some, x_opt, q3, e, x_Model_list_103, decide_true, decide_false, bi_t, bi_f, i10, i1n, eq_self, if_true, if_false, bi_bt, x_b0, x_b1, Bool.true_and, Bool.false_and, Bool.and_true, Bool.and_false, Bool.and_self]
    · rw [hn] at hl
      simp only [if_true] at hl ⊢
      rw [← List.append_assoc] at hl ⊢
      obtain ⟨σ1, m1, m2, m3⟩ := m_list32 hw (show k < nf by omega) hn (x_Model_list_7 (iN w) z) ((F k).1 - (f_c (F k) + 1)) (f_c (F k) + 1) (f_c (F k) + 1) x_fuel E σ hF hE (by omega) (Nat.le_refl _) (by unfold x_fuel; omega) (by rw [List.length_append] at hl; unfold f_el at hl; omega)
      obtain ⟨σ2, o1, o2⟩ := ih (k + 1) z (E ++ f_el (F k)) σ1 m2 m3 (by omega) (by omega) hl
      refine ⟨σ2, ?_, o2⟩
      rw [← o1, ← m1]
      simp (disch := omega) only [iN_lt, iN_le, iN_eq, iN_add, iN_sub, iN_mul, iN_in, iN_clamp, iN_1a, iN_1e, iN_1l, iN_l1, iN_0e, iN_0l, iN_l0, iN_pred, iN_sub1, iN_1le, il_2, il_3, il_4, il_5, il_6, il_7, il_8, il_9, il_10, il_12, il_13, il_16, il_20, il_32, il_34, il_37, il_42, il_44, il_45, il_46, il_47, il_48, il_49, il_57, il_58, il_59, il_63, il_80, il_97, il_200, il_205, il_400, il_404, il_405, il_413, il_414, il_416, il_417, il_431, il_501, il_505, il_2000, if_pos, if_neg, Option.bind_some, x_let, x_bind2_some, x_opt, hF.1, q2, Nat.add_assoc]
theorem m_list {σ : St} {nf : Nat} {F : Nat → Ln} (h : Mf σ nf F) {w : Nat} {u : List Nat} (hw : MW w u) : ∃ σ', x_Model_list (iN w) σ = some σ' ∧ Me σ' (f_els F u 0 nf) := by
  have hl := f_els_len F u nf 0 (fun k _ hk => (h.2.2 k (by omega)).1)
  have hn := h.2.1
  have hF : Mf (x_updR σ 51 26 0) nf F := h.of (by simp [x_updR]) rfl rfl rfl
  have hE : Me (x_updR σ 51 26 0) [] := ⟨by simp [x_updR]; rfl, fun k hk => absurd hk (Nat.not_lt_zero k)⟩
  obtain ⟨σ', a, b⟩ := m_list7 hw nf 0 x_fuel [] (x_updR σ 51 26 0) hF hE (by omega) (by unfold x_fuel; omega) (by rw [List.nil_append]; omega)
  rw [List.nil_append] at b
  exact ⟨σ', a, b⟩
theorem Me.word {σ : St} {E : List (List Nat)} (h : Me σ E) {k w : Nat} {u : List Nat} (hw : MW w u) (hk : k < E.length) : x_Model_isWord (σ.2.1 63 k) (σ.2.1 64 k) (iN w) σ = some (bi (u_is (E.getD k []) u)) := by
  obtain ⟨b, p1, p2, p3, p4, p5⟩ := h.2 k hk
  rw [p1, p2, m_isWord p4 hw p3, sl_self]
theorem drop_any {α : Type} (p : α → Bool) (l : List α) (k : Nat) (dflt : α) (h : k < l.length) : (l.drop k).any p = (p (l.getD k dflt) || (l.drop (k + 1)).any p) := by
  rw [List.drop_eq_getElem_cons h, List.any_cons, List.getD_eq_getElem?_getD, List.getElem?_eq_getElem h]
  rfl
theorem m_has0 {E : List (List Nat)} (hl : E.length < 512) {w : Nat} {u : List Nat} (hw : MW w u) (a1 : Int32) {σ : St} (h : Me σ E) : ∀ d k p fuel, k + d = E.length → d < fuel → x_Model_has_10 a1 (iN w) fuel (bi p) (iN k) σ = some (bi (p || (E.drop k).any (fun v => u_is v u)), σ) := by
  intro d
  induction d with
  | zero =>
    intro k p fuel hk hf
    obtain ⟨z, rfl⟩ := x_fuelS (show 0 < fuel by omega)
    rw [List.drop_eq_nil_of_le (by omega), List.any_nil, Bool.or_false, x_Model_has_10]
    simp (disch := omega) only [iN_lt, iN_le, iN_eq, iN_add, iN_sub, iN_mul, iN_in, iN_clamp, iN_1a, iN_1e, iN_1l, iN_l1, iN_0e, iN_0l, iN_l0, iN_pred, iN_sub1, iN_1le, il_2, il_3, il_4, il_5, il_6, il_7, il_8, il_9, il_10, il_12, il_13, il_16, il_20, il_32, il_34, il_37, il_42, il_44, il_45, il_46, il_47, il_48, il_49, il_57, il_58, il_59, il_63, il_80, il_97, il_200, il_205, il_400, il_404, il_405, il_413, il_414, il_416, il_417, il_431, il_501, il_505, il_2000, if_pos, if_neg, Option.bind_some, x_let, x_bind2_some, x_opt, h.1, decide_true, decide_false, bi_t, bi_f, i10, i1n, eq_self, if_true, if_false, bi_bt, x_b0, x_b1, Bool.true_and, Bool.false_and, Bool.and_true, Bool.and_false, Bool.and_self]
  | succ d ih =>
    intro k p fuel hk hf
    obtain ⟨z, rfl⟩ := x_fuelS (show 0 < fuel by omega)
    have e := h.word hw (show k < E.length by omega)
    have e0 := ih (k + 1) false z (by omega) (by omega)
    have e1 := ih (k + 1) true z (by omega) (by omega)
    rw [bi_f] at e0
    rw [bi_t] at e1
    rw [drop_any _ E k [] (by omega), x_Model_has_10]
    cases p <;> cases hq : u_is (E.getD k []) u <;> rw [hq] at e <;> simp (disch := omega) only [iN_lt, iN_le, iN_eq, iN_add, iN_sub, iN_mul, iN_in, iN_clamp, iN_1a, iN_1e, iN_1l, iN_l1, iN_0e, iN_0l, iN_l0, iN_pred, iN_sub1, iN_1le, il_2, il_3, il_4, il_5, il_6, il_7, il_8, il_9, il_10, il_12, il_13, il_16, il_20, il_32, il_34, il_37, il_42, il_44, il_45, il_46, il_47, il_48, il_49, il_57, il_58, il_59, il_63, il_80, il_97, il_200, il_205, il_400, il_404, il_405, il_413, il_414, il_416, il_417, il_431, il_501, il_505, il_2000, if_pos, if_neg, Option.bind_some, x_let, x_bind2_some, x_opt, h.1, e, e0, e1, x_Model_has_45, x_Model_has_50, decide_true, decide_false, bi_t, bi_f, i10, i1n, eq_self, if_true, if_false, bi_bt, x_b0, x_b1, Bool.true_and, Bool.false_and, Bool.and_true, Bool.and_false, Bool.and_self, Bool.true_or, Bool.false_or]
theorem m_has {σ : St} {nf : Nat} {F : Nat → Ln} (h : Mf σ nf F) {w v : Nat} {u z : List Nat} (hw : MW w u) (hv : MW v z) : ∃ σ', x_Model_has (iN w) (iN v) σ = some (bi ((f_els F u 0 nf).any (fun x => u_is x z)), σ') := by
  obtain ⟨σ', a, b⟩ := m_list h hw
  have hl := f_els_len F u nf 0 (fun k _ hk => (h.2.2 k (by omega)).1)
  have hn := h.2.1
  refine ⟨σ', ?_⟩
  unfold x_Model_has
  rw [a, Option.bind_some]
  have := m_has0 (by omega) hv (iN w) b (f_els F u 0 nf).length 0 false x_fuel (by omega) (by unfold x_fuel; omega)
  rw [List.drop_zero, Bool.false_or] at this
  exact this
theorem m_num0 {σ : St} {B D : Nat} {f : Nat → Nat} (hR : Mr σ 59 B D f) (hB : B + D ≤ 960) (a1 : Int32) : ∀ d i v m fuel, i + d = D → d + 1 < fuel → v < 10 ^ m → m + d ≤ 9 → x_Model_numberAt_25 a1 (iN (B + D)) σ fuel 1 (iN v) (iN (B + i)) = some (oi (s_num f i d v)) := by
  intro d
  induction d with
  | zero =>
    intro i v m fuel h1 hf _ _
    obtain ⟨z, rfl⟩ := x_fuelS (show 0 < fuel by omega)
    rw [x_Model_numberAt_25, s_num]
    simp (disch := omega) only [iN_lt, iN_le, iN_eq, iN_add, iN_sub, iN_mul, iN_in, iN_clamp, iN_1a, iN_1e, iN_1l, iN_l1, iN_0e, iN_0l, iN_l0, iN_pred, iN_sub1, iN_1le, il_2, il_3, il_4, il_5, il_6, il_7, il_8, il_9, il_10, il_12, il_13, il_16, il_20, il_32, il_34, il_37, il_42, il_44, il_45, il_46, il_47, il_48, il_49, il_57, il_58, il_59, il_63, il_80, il_97, il_200, il_205, il_400, il_404, il_405, il_413, il_414, il_416, il_417, il_431, il_501, il_505, il_2000, if_pos, if_neg, Option.bind_some, x_let, x_bind2_some, x_opt, x_Model_numberAt_70, decide_true, decide_false, bi_t, bi_f, i10, i1n, eq_self, if_true, if_false, bi_bt, x_b0, x_b1, Bool.true_and, Bool.false_and, Bool.and_true, Bool.and_false, Bool.and_self, oi]
  | succ d ih =>
    intro i v m fuel h1 hf hv hm
    obtain ⟨z, rfl⟩ := x_fuelS (show 0 < fuel by omega)
    obtain ⟨y, rfl⟩ := x_fuelS (show 0 < z by omega)
    have hi := hR i (by omega)
    have hi2 := hi.2
    have hp : 10 ^ m ≤ 10 ^ 8 := Nat.pow_le_pow_right (by decide) (by omega)
    rw [s_num, x_Model_numberAt_25]
    cases hd : k_dig (f i)
    · simp (disch := omega) only [iN_lt, iN_le, iN_eq, iN_add, iN_sub, iN_mul, iN_in, iN_clamp, iN_1a, iN_1e, iN_1l, iN_l1, iN_0e, iN_0l, iN_l0, iN_pred, iN_sub1, iN_1le, il_2, il_3, il_4, il_5, il_6, il_7, il_8, il_9, il_10, il_12, il_13, il_16, il_20, il_32, il_34, il_37, il_42, il_44, il_45, il_46, il_47, il_48, il_49, il_57, il_58, il_59, il_63, il_80, il_97, il_200, il_205, il_400, il_404, il_405, il_413, il_414, il_416, il_417, il_431, il_501, il_505, il_2000, if_pos, if_neg, Option.bind_some, x_let, x_bind2_some, x_opt, m_dig, hi.1, hd, decide_true, decide_false, bi_t, bi_f, i10, i1n, eq_self, if_true, if_false, bi_bt, x_b0, x_b1, Bool.true_and, Bool.false_and, Bool.and_true, Bool.and_false, Bool.and_self, Bool.false_eq_true]
      rw [x_Model_numberAt_25]
      simp (disch := omega) only [iN_lt, iN_le, iN_eq, iN_add, iN_sub, iN_mul, iN_in, iN_clamp, iN_1a, iN_1e, iN_1l, iN_l1, iN_0e, iN_0l, iN_l0, iN_pred, iN_sub1, iN_1le, il_2, il_3, il_4, il_5, il_6, il_7, il_8, il_9, il_10, il_12, il_13, il_16, il_20, il_32, il_34, il_37, il_42, il_44, il_45, il_46, il_47, il_48, il_49, il_57, il_58, il_59, il_63, il_80, il_97, il_200, il_205, il_400, il_404, il_405, il_413, il_414, il_416, il_417, il_431, il_501, il_505, il_2000, if_pos, if_neg, Option.bind_some, x_let, x_bind2_some, x_opt, x_Model_numberAt_70, decide_true, decide_false, bi_t, bi_f, i10, i1n, eq_self, if_true, if_false, bi_bt, x_b0, x_b1, Bool.true_and, Bool.false_and, Bool.and_true, Bool.and_false, Bool.and_self, ite_self]
      rfl
    · have h48 : 48 ≤ f i ∧ f i ≤ 57 := by simpa [k_dig] using hd
      have e := ih (i + 1) (10 * v + (f i - 48)) (m + 1) (y + 1) (by omega) (by omega) (by rw [Nat.pow_succ]; omega) (by omega)
      simp (disch := omega) only [iN_lt, iN_le, iN_eq, iN_add, iN_sub, iN_mul, iN_in, iN_clamp, iN_1a, iN_1e, iN_1l, iN_l1, iN_0e, iN_0l, iN_l0, iN_pred, iN_sub1, iN_1le, il_2, il_3, il_4, il_5, il_6, il_7, il_8, il_9, il_10, il_12, il_13, il_16, il_20, il_32, il_34, il_37, il_42, il_44, il_45, il_46, il_47, il_48, il_49, il_57, il_58, il_59, il_63, il_80, il_97, il_200, il_205, il_400, il_404, il_405, il_413, il_414, il_416, il_417, il_431, il_501, il_505, il_2000, if_pos, if_neg, Option.bind_some, x_let, x_bind2_some, x_opt, m_dig, hi.1, hd, decide_true, decide_false, bi_t, bi_f, i10, i1n, eq_self, if_true, if_false, bi_bt, x_b0, x_b1, Bool.true_and, Bool.false_and, Bool.and_true, Bool.and_false, Bool.and_self, Nat.add_assoc]
      rw [show 10 * v + f i - 48 = 10 * v + (f i - 48) by omega]
      exact e
theorem m_numberAt {σ : St} {B d : Nat} {f : Nat → Nat} (hR : Mr σ 59 B d f) (hB : B + d ≤ 960) : x_Model_numberAt (iN B) (iN (B + d)) σ = some (oi (s_number f 0 d)) := by
  unfold x_Model_numberAt x_Model_numberAt_17 x_Model_numberAt_18 s_number
  by_cases h : 1 ≤ d ∧ d ≤ 9
  · have e := m_num0 hR hB (iN B) d 0 0 0 x_fuel (by omega) (by unfold x_fuel; omega) (by decide) (by omega)
    rw [Nat.add_zero, show iN 0 = (0 : Int32) from rfl] at e
    simp (disch := omega) only [iN_lt, iN_le, iN_eq, iN_add, iN_sub, iN_mul, iN_in, iN_clamp, iN_1a, iN_1e, iN_1l, iN_l1, iN_0e, iN_0l, iN_l0, iN_pred, iN_sub1, iN_1le, il_2, il_3, il_4, il_5, il_6, il_7, il_8, il_9, il_10, il_12, il_13, il_16, il_20, il_32, il_34, il_37, il_42, il_44, il_45, il_46, il_47, il_48, il_49, il_57, il_58, il_59, il_63, il_80, il_97, il_200, il_205, il_400, il_404, il_405, il_413, il_414, il_416, il_417, il_431, il_501, il_505, il_2000, if_pos, if_neg, Option.bind_some, x_let, x_bind2_some, x_opt, e]
  · have e : x_Model_numberAt_25 (iN B) (iN (B + d)) σ x_fuel 0 0 (iN B) = some (-1) := by
      rw [show x_fuel = 4095 + 1 from rfl, x_Model_numberAt_25]
      unfold x_Model_numberAt_70
      simp only [if_true, ite_self]
    rw [if_neg h]
    by_cases h0 : d = 0
    · subst h0
      rw [Nat.add_zero] at e ⊢
      simp (disch := omega) only [iN_lt, iN_le, iN_eq, iN_add, iN_sub, iN_mul, iN_in, iN_clamp, iN_1a, iN_1e, iN_1l, iN_l1, iN_0e, iN_0l, iN_l0, iN_pred, iN_sub1, iN_1le, il_2, il_3, il_4, il_5, il_6, il_7, il_8, il_9, il_10, il_12, il_13, il_16, il_20, il_32, il_34, il_37, il_42, il_44, il_45, il_46, il_47, il_48, il_49, il_57, il_58, il_59, il_63, il_80, il_97, il_200, il_205, il_400, il_404, il_405, il_413, il_414, il_416, il_417, il_431, il_501, il_505, il_2000, if_pos, if_neg, Option.bind_some, x_let, x_bind2_some, x_opt, e, oi]
    · simp (disch := omega) only [iN_lt, iN_le, iN_eq, iN_add, iN_sub, iN_mul, iN_in, iN_clamp, iN_1a, iN_1e, iN_1l, iN_l1, iN_0e, iN_0l, iN_l0, iN_pred, iN_sub1, iN_1le, il_2, il_3, il_4, il_5, il_6, il_7, il_8, il_9, il_10, il_12, il_13, il_16, il_20, il_32, il_34, il_37, il_42, il_44, il_45, il_46, il_47, il_48, il_49, il_57, il_58, il_59, il_63, il_80, il_97, il_200, il_205, il_400, il_404, il_405, il_413, il_414, il_416, il_417, il_431, il_501, il_505, il_2000, if_pos, if_neg, Option.bind_some, x_let, x_bind2_some, x_opt, e, oi]
