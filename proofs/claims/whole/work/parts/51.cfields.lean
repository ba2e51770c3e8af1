/-! fields in the class -/
theorem cw_isWord {σ : St} {o n : Nat} {f : Nat → Nat} (hG : Gt σ o n f) {w i d : Nat} (hw : w < 42) (h : i + d ≤ n) : x_Text_isWord o (iN i) (iN (i + d)) w σ = some (bi (u_is (sl f i d) (wd_ w))) := by
  rw [c_isWord hG hw h, sl_is]
theorem il_480 : (480 : Int32) = iN 480 := rfl
/-- the elements that the class has kept, in its text tn, tf -/
def Ce (σ : St) (tn : Nat) (tf : Nat → Nat) (E : List (List Nat)) : Prop := σ.1 31 8 = iN E.length ∧ E.length ≤ 480 ∧ ∀ k, k < E.length → ∃ b, σ.2.1 38 k = iN b ∧ σ.2.1 39 k = iN (b + (E.getD k []).length) ∧ b + (E.getD k []).length ≤ tn ∧ (∀ j, j < (E.getD k []).length → tf (b + j) = (E.getD k []).getD j 0) ∧ 0 < (E.getD k []).length
theorem Ce.of {σ σ' : St} {tn : Nat} {tf : Nat → Nat} {E : List (List Nat)} (h : Ce σ tn tf E) (e1 : σ'.1 31 8 = σ.1 31 8) (e3 : σ'.2.1 38 = σ.2.1 38) (e4 : σ'.2.1 39 = σ.2.1 39) : Ce σ' tn tf E :=
  ⟨by rw [e1]; exact h.1, h.2.1, fun k hk => by
    obtain ⟨b, p1, p2, p3⟩ := h.2.2 k hk
    exact ⟨b, by rw [e3]; exact p1, by rw [e4]; exact p2, p3⟩⟩
theorem c_keep {σ : St} {tn : Nat} {tf : Nat → Nat} {E : List (List Nat)} (h : Ce σ tn tf E) {b d : Nat} (ht : tn ≤ 960) (hE : E.length < 480) (hb : b + d ≤ tn) (h0 : 0 < d) : ∃ σ', x_Fields_keepElement (iN b) (iN (b + d)) σ = some σ' ∧ Ce σ' tn tf (E ++ [sl tf b d]) := by
  obtain ⟨h1, h3, h2⟩ := h
  refine ⟨x_updR (x_updM (x_updM σ 38 E.length (iN b)) 39 E.length (iN (b + d))) 31 8 (iN (E.length + 1)), ?_, ?_⟩
  · unfold x_Fields_keepElement
    simp (disch := omega) only [iN_lt, iN_le, iN_eq, iN_add, iN_sub, iN_mul, iN_in, iN_clamp, iN_1a, iN_1e, iN_1l, iN_l1, iN_0e, iN_0l, iN_l0, iN_pred, iN_sub1, iN_1le, il_2, il_3, il_4, il_5, il_6, il_7, il_8, il_9, il_10, il_12, il_13, il_16, il_20, il_32, il_34, il_37, il_42, il_44, il_45, il_46, il_47, il_48, il_49, il_57, il_58, il_59, il_63, il_80, il_97, il_200, il_205, il_400, il_404, il_405, il_413, il_414, il_416, il_417, il_431, il_501, il_505, il_2000, if_pos, if_neg, Option.bind_some, x_let, x_bind2_some, x_opt, x_updM, x_updR, h1, il_480, iN_m1, decide_true, decide_false, bi_t, bi_f, i10, i1n, eq_self, if_true, if_false, bi_bt, x_b0, x_b1, Bool.true_and, Bool.false_and, Bool.and_true, Bool.and_false, Bool.and_self]
  · refine ⟨by simp [x_updR], by simp; omega, fun k hk => ?_⟩
    rw [List.length_append, List.length_singleton] at hk
    by_cases hk2 : k < E.length
    · obtain ⟨b', p1, p2, p3⟩ := h2 k hk2
      have e : (E ++ [sl tf b d]).getD k [] = E.getD k [] := by
        rw [List.getD_eq_getElem?_getD, List.getD_eq_getElem?_getD, List.getElem?_append_left hk2]
      rw [e]
      refine ⟨b', ?_, ?_, p3⟩
      · simp only [x_updR, x_updM]
        rw [if_neg (by omega), if_neg (by omega)]
        exact p1
      · simp only [x_updR, x_updM]
        rw [if_neg (by omega), if_neg (by omega)]
        exact p2
    · have e : k = E.length := by omega
      subst e
      have e : (E ++ [sl tf b d]).getD E.length [] = sl tf b d := by
        rw [List.getD_eq_getElem?_getD, List.getElem?_append_right (Nat.le_refl _), Nat.sub_self]
        rfl
      rw [e, sl_len]
      exact ⟨b, by simp [x_updR, x_updM], by simp [x_updR, x_updM], hb, fun j hj => (sl_at tf b d hj).symm, h0⟩
theorem c_cut0 {tn o t : Nat} {tf f : Nat → Nat} (ht : tn ≤ 960) (hot : o + t ≤ tn) (hf : ∀ j, j < t → tf (o + j) = f j) (a1 : Int32) : ∀ d i p fuel (l3 l4 : Int32) (E : List (List Nat)) (σ : St), p + d = t → i ≤ p → d + 1 < fuel → Gt σ 32 tn tf → Ce σ tn tf E → (E ++ s_el f i p d).length ≤ 480 → (s_b f i p < p → l3 = iN (o + s_b f i p) ∧ l4 = iN (o + s_e f i p)) → (¬ s_b f i p < p → l3 = -1) → ∃ σ', x_Fields_cut_8 a1 (iN (o + t)) fuel l3 l4 (iN (o + p)) σ = some σ' ∧ Ce σ' tn tf (E ++ s_el f i p d) := by
  have keep : ∀ i p (l3 l4 : Int32) (E : List (List Nat)) (σ : St), i ≤ p → p ≤ t → Gt σ 32 tn tf → Ce σ tn tf E → (E ++ s_note f i p).length ≤ 480 → (s_b f i p < p → l3 = iN (o + s_b f i p) ∧ l4 = iN (o + s_e f i p)) → (¬ s_b f i p < p → l3 = -1) → ∃ σ', x_Fields_keepElement l3 l4 σ = some σ' ∧ Ce σ' tn tf (E ++ s_note f i p) := by
    intro i p l3 l4 E σ hi hp hG hE hl r1 r2
    by_cases hb : s_b f i p < p
    · obtain ⟨e1, e2⟩ := r1 hb
      have q := s_e_pos f hi hb
      have q2 := s_e_le f i p hi
      have en : s_note f i p = [sl tf (o + s_b f i p) (s_e f i p - s_b f i p)] := by
        unfold s_note
        rw [if_pos q]
        congr 1
        exact sl_congr (fun j hj => by rw [Nat.add_assoc, hf _ (by omega)])
      rw [en] at hl ⊢
      rw [List.length_append, List.length_singleton] at hl
      rw [e1, e2]
      have := c_keep hE (b := o + s_b f i p) (d := s_e f i p - s_b f i p) ht (by omega) (by omega) (by omega)
      rw [show o + s_b f i p + (s_e f i p - s_b f i p) = o + s_e f i p by omega] at this
      exact this
    · refine ⟨σ, ?_, ?_⟩
      · rw [r2 hb]
        unfold x_Fields_keepElement
        rw [if_pos rfl]
      · have en : s_note f i p = [] := by
          unfold s_note
          rw [if_neg (fun z => hb ((s_note_iff f hi).mp z))]
        rw [en, List.append_nil]
        exact hE
  intro d
  induction d with
  | zero =>
    intro i p fuel l3 l4 E σ hp hi hfu hG hE hl r1 r2
    obtain ⟨z, rfl⟩ := x_fuelS (show 0 < fuel by omega)
    obtain ⟨y, rfl⟩ := x_fuelS (show 0 < z by omega)
    rw [s_el] at hl ⊢
    obtain ⟨σ1, k1, k2⟩ := keep i p l3 l4 E σ hi (by omega) hG hE hl r1 r2
    refine ⟨σ1, ?_, k2⟩
    rw [x_Fields_cut_8]
    simp (disch := omega) only [iN_lt, iN_le, iN_eq, iN_add, iN_sub, iN_mul, iN_in, iN_clamp, iN_1a, iN_1e, iN_1l, iN_l1, iN_0e, iN_0l, iN_l0, iN_pred, iN_sub1, iN_1le, il_2, il_3, il_4, il_5, il_6, il_7, il_8, il_9, il_10, il_12, il_13, il_16, il_20, il_32, il_34, il_37, il_42, il_44, il_45, il_46, il_47, il_48, il_49, il_57, il_58, il_59, il_63, il_80, il_97, il_200, il_205, il_400, il_404, il_405, il_413, il_414, il_416, il_417, il_431, il_501, il_505, il_2000, if_pos, if_neg, Option.bind_some, x_let, x_bind2_some, x_opt, x_Fields_cut_34, x_Fields_cut_81, k1, decide_true, decide_false, bi_t, bi_f, i10, i1n, eq_self, if_true, if_false, bi_bt, x_b0, x_b1, Bool.true_and, Bool.false_and, Bool.and_true, Bool.and_false, Bool.and_self]
    rw [x_Fields_cut_8]
    simp (disch := omega) only [iN_lt, iN_le, iN_eq, iN_add, iN_sub, iN_mul, iN_in, iN_clamp, iN_1a, iN_1e, iN_1l, iN_l1, iN_0e, iN_0l, iN_l0, iN_pred, iN_sub1, iN_1le, il_2, il_3, il_4, il_5, il_6, il_7, il_8, il_9, il_10, il_12, il_13, il_16, il_20, il_32, il_34, il_37, il_42, il_44, il_45, il_46, il_47, il_48, il_49, il_57, il_58, il_59, il_63, il_80, il_97, il_200, il_205, il_400, il_404, il_405, il_413, il_414, il_416, il_417, il_431, il_501, il_505, il_2000, if_pos, if_neg, Option.bind_some, x_let, x_bind2_some, x_opt]
  | succ d ih =>
    intro i p fuel l3 l4 E σ hp hi hfu hG hE hl r1 r2
    obtain ⟨z, rfl⟩ := x_fuelS (show 0 < fuel by omega)
    have hg := hG.get (show o + p < tn by omega)
    have hb := hG.by (show o + p < tn by omega)
    rw [hf p (by omega)] at hg hb
    rw [s_el] at hl ⊢
    rw [x_Fields_cut_8]
    by_cases h44 : f p = 44
    · rw [if_pos h44] at hl ⊢
      rw [← List.append_assoc] at hl ⊢
      obtain ⟨σ1, k1, k2⟩ := keep i p l3 l4 E σ hi (by omega) hG hE (by rw [List.length_append] at hl; omega) r1 r2
      have fp := fp_Fields_keepElement _ _ _ k1
      have hn : s_b f (p + 1) (p + 1) = p + 1 := by
        have := s_b_le f (p + 1) (p + 1) (Nat.le_refl _)
        omega
      obtain ⟨σ2, m1, m2⟩ := ih (p + 1) (p + 1) z (-1) l4 (E ++ s_note f i p) σ1 (by omega) (Nat.le_refl _) (by omega) (hG.of (fp.1 _ _ (by simp)) (fp.2.1 _ (by simp))) k2 hl (fun q => by omega) (fun _ => rfl)
      refine ⟨σ2, ?_, m2⟩
      rw [← m1]
      simp (disch := omega) only [iN_lt, iN_le, iN_eq, iN_add, iN_sub, iN_mul, iN_in, iN_clamp, iN_1a, iN_1e, iN_1l, iN_l1, iN_0e, iN_0l, iN_l0, iN_pred, iN_sub1, iN_1le, il_2, il_3, il_4, il_5, il_6, il_7, il_8, il_9, il_10, il_12, il_13, il_16, il_20, il_32, il_34, il_37, il_42, il_44, il_45, il_46, il_47, il_48, il_49, il_57, il_58, il_59, il_63, il_80, il_97, il_200, il_205, il_400, il_404, il_405, il_413, il_414, il_416, il_417, il_431, il_501, il_505, il_2000, if_pos, if_neg, Option.bind_some, x_let, x_bind2_some, x_opt, hg, h44, x_Fields_cut_34, x_Fields_cut_81, k1, decide_true, decide_false, bi_t, bi_f, i10, i1n, eq_self, if_true, if_false, bi_bt, x_b0, x_b1, Bool.true_and, Bool.false_and, Bool.and_true, Bool.and_false, Bool.and_self, Nat.add_assoc]
    · rw [if_neg h44] at hl ⊢
      cases hk : k_blank (f p)
      · have hc : x_Text_isBlank (iN (f p)) = some (bi false) := by rw [c_blank _ hb, hk]
        by_cases hbp : s_b f i p < p
        · obtain ⟨e1, e2⟩ := r1 hbp
          have q1 := s_b_snoc f hi
          rw [if_pos hbp] at q1
          have q2 := s_e_snoc f hi hbp
          rw [hk] at q2
          have q3 := s_b_le f i p hi
          obtain ⟨σ2, m1, m2⟩ := ih i (p + 1) z l3 (iN (o + (p + 1))) E σ (by omega) (by omega) (by omega) hG hE hl (fun _ => by rw [q1, q2]; exact ⟨e1, rfl⟩) (fun q => by omega)
          refine ⟨σ2, ?_, m2⟩
          rw [← m1, e1]
          simp (disch := omega) only [iN_lt, iN_le, iN_eq, iN_add, iN_sub, iN_mul, iN_in, iN_clamp, iN_1a, iN_1e, iN_1l, iN_l1, iN_0e, iN_0l, iN_l0, iN_pred, iN_sub1, iN_1le, il_2, il_3, il_4, il_5, il_6, il_7, il_8, il_9, il_10, il_12, il_13, il_16, il_20, il_32, il_34, il_37, il_42, il_44, il_45, il_46, il_47, il_48, il_49, il_57, il_58, il_59, il_63, il_80, il_97, il_200, il_205, il_400, il_404, il_405, il_413, il_414, il_416, il_417, il_431, il_501, il_505, il_2000, if_pos, if_neg, Option.bind_some, x_let, x_bind2_some, x_opt, hg, hc, iN_m1, x_Fields_cut_34, x_Fields_cut_81, x_Fields_cut_74, decide_true, decide_false, bi_t, bi_f, i10, i1n, eq_self, if_true, if_false, bi_bt, x_b0, x_b1, Bool.true_and, Bool.false_and, Bool.and_true, Bool.and_false, Bool.and_self, Nat.add_assoc]
        · obtain ⟨q1, q2⟩ := s_e_new f hi hbp hk
          obtain ⟨σ2, m1, m2⟩ := ih i (p + 1) z (iN (o + p)) (iN (o + (p + 1))) E σ (by omega) (by omega) (by omega) hG hE hl (fun _ => by rw [q1, q2]; exact ⟨rfl, rfl⟩) (fun q => by omega)
          refine ⟨σ2, ?_, m2⟩
          rw [← m1, r2 hbp]
          simp (disch := omega) only [iN_lt, iN_le, iN_eq, iN_add, iN_sub, iN_mul, iN_in, iN_clamp, iN_1a, iN_1e, iN_1l, iN_l1, iN_0e, iN_0l, iN_l0, iN_pred, iN_sub1, iN_1le, il_2, il_3, il_4, il_5, il_6, il_7, il_8, il_9, il_10, il_12, il_13, il_16, il_20, il_32, il_34, il_37, il_42, il_44, il_45, il_46, il_47, il_48, il_49, il_57, il_58, il_59, il_63, il_80, il_97, il_200, il_205, il_400, il_404, il_405, il_413, il_414, il_416, il_417, il_431, il_501, il_505, il_2000, if_pos, if_neg, Option.bind_some, x_let, x_bind2_some, x_opt, hg, hc, x_Fields_cut_34, x_Fields_cut_81, x_Fields_cut_74, decide_true, decide_false, bi_t, bi_f, i10, i1n, eq_self, if_true, if_false, bi_bt, x_b0, x_b1, Bool.true_and, Bool.false_and, Bool.and_true, Bool.and_false, Bool.and_self, Nat.add_assoc]
      · have hc : x_Text_isBlank (iN (f p)) = some (bi true) := by rw [c_blank _ hb, hk]
        have q1 := s_b_snoc f hi
        rw [hk] at q1
        obtain ⟨σ2, m1, m2⟩ := ih i (p + 1) z l3 l4 E σ (by omega) (by omega) (by omega) hG hE hl (fun q => by
          by_cases hbp : s_b f i p < p
          · rw [if_pos hbp] at q1
            have q2 := s_e_snoc f hi hbp
            rw [hk] at q2
            rw [q1, q2]
            exact r1 hbp
          · rw [if_neg hbp] at q1
            simp at q1
            omega) (fun q => by
          by_cases hbp : s_b f i p < p
          · rw [if_pos hbp] at q1
            omega
          · exact r2 hbp)
        refine ⟨σ2, ?_, m2⟩
        rw [← m1]
        simp (disch := omega) only [iN_lt, iN_le, iN_eq, iN_add, iN_sub, iN_mul, iN_in, iN_clamp, iN_1a, iN_1e, iN_1l, iN_l1, iN_0e, iN_0l, iN_l0, iN_pred, iN_sub1, iN_1le, il_2, il_3, il_4, il_5, il_6, il_7, il_8, il_9, il_10, il_12, il_13, il_16, il_20, il_32, il_34, il_37, il_42, il_44, il_45, il_46, il_47, il_48, il_49, il_57, il_58, il_59, il_63, il_80, il_97, il_200, il_205, il_400, il_404, il_405, il_413, il_414, il_416, il_417, il_431, il_501, il_505, il_2000, if_pos, if_neg, Option.bind_some, x_let, x_bind2_some, x_opt, hg, hc, x_Fields_cut_34, x_Fields_cut_81, decide_true, decide_false, bi_t, bi_f, i10, i1n, eq_self, if_true, if_false, bi_bt, x_b0, x_b1, Bool.true_and, Bool.false_and, Bool.and_true, Bool.and_false, Bool.and_self, Nat.add_assoc]
/-- the fields that the class has taken -/
def Cf (σ : St) (nf : Nat) (F : Nat → Ln) (tn : Nat) (tf : Nat → Nat) : Prop := σ.1 31 5 = iN nf ∧ nf ≤ 12 ∧ Gt σ 32 tn tf ∧ tn ≤ 80 * nf ∧ ∀ k, k < nf → f_ok (F k) ∧ ∃ o, o + (F k).1 ≤ tn ∧ (∀ j, j < (F k).1 → tf (o + j) = (F k).2 j) ∧ σ.2.1 34 k = iN o ∧ σ.2.1 35 k = iN (o + f_c (F k)) ∧ σ.2.1 36 k = iN (o + f_vb (F k)) ∧ σ.2.1 37 k = iN (o + f_ve (F k))
theorem Cf.of {σ σ' : St} {nf tn : Nat} {F : Nat → Ln} {tf : Nat → Nat} (h : Cf σ nf F tn tf) (e1 : σ'.1 31 5 = σ.1 31 5) (e2 : σ'.1 32 1 = σ.1 32 1) (e3 : σ'.2.1 33 = σ.2.1 33) (e4 : σ'.2.1 34 = σ.2.1 34) (e5 : σ'.2.1 35 = σ.2.1 35) (e6 : σ'.2.1 36 = σ.2.1 36) (e7 : σ'.2.1 37 = σ.2.1 37) : Cf σ' nf F tn tf :=
  ⟨by rw [e1]; exact h.1, h.2.1, h.2.2.1.of e2 e3, h.2.2.2.1, fun k hk => by
    obtain ⟨a, o, b1, b2, b3, b4, b5, b6⟩ := h.2.2.2.2 k hk
    exact ⟨a, o, b1, b2, by rw [e4]; exact b3, by rw [e5]; exact b4, by rw [e6]; exact b5, by rw [e7]; exact b6⟩⟩
theorem Cf.named {σ : St} {nf tn : Nat} {F : Nat → Ln} {tf : Nat → Nat} (h : Cf σ nf F tn tf) {w k : Nat} (hw : w < 42) (hk : k < nf) : x_Text_isWord 32 (σ.2.1 34 k) (σ.2.1 35 k) w σ = some (bi (f_nm (F k) (wd_ w))) := by
  obtain ⟨⟨a1, a2, a3⟩, o, b1, b2, b3, b4, b5, b6⟩ := h.2.2.2.2 k hk
  rw [b3, b4, cw_isWord h.2.2.1 hw (by omega)]
  unfold f_nm
  rw [sl_congr (f := tf) (g := (F k).2) (i := o) (i' := 0) (fun j hj => by rw [Nat.zero_add]; exact b2 j (by omega))]
theorem c_count0 {σ : St} {nf tn : Nat} {F : Nat → Ln} {tf : Nat → Nat} (h : Cf σ nf F tn tf) {w : Nat} (hw : w < 42) : ∀ d i c fuel, i + d = nf → d < fuel → c ≤ i → x_Fields_countOf_4 w σ fuel (iN c) (iN i) = some (iN (c + f_cnt F (wd_ w) i d)) := by
  have h1 := h.1
  have h2 := h.2.1
  intro d
  induction d with
  | zero =>
    intro i c fuel hi hf hc
    obtain ⟨k, rfl⟩ := x_fuelS (show 0 < fuel by omega)
    rw [x_Fields_countOf_4]
    simp (disch := omega) only [iN_lt, iN_le, iN_eq, iN_add, iN_sub, iN_mul, iN_in, iN_clamp, iN_1a, iN_1e, iN_1l, iN_l1, iN_0e, iN_0l, iN_l0, iN_pred, iN_sub1, iN_1le, il_2, il_3, il_4, il_5, il_6, il_7, il_8, il_9, il_10, il_12, il_13, il_16, il_20, il_32, il_34, il_37, il_42, il_44, il_45, il_46, il_47, il_48, il_49, il_57, il_58, il_59, il_63, il_80, il_97, il_200, il_205, il_400, il_404, il_405, il_413, il_414, il_416, il_417, il_431, il_501, il_505, il_2000, if_pos, if_neg, Option.bind_some, x_let, x_bind2_some, x_opt, h1, f_cnt, Nat.add_zero]
  | succ d ih =>
    intro i c fuel hi hf hc
    obtain ⟨k, rfl⟩ := x_fuelS (show 0 < fuel by omega)
    have e := h.named hw (show i < nf by omega)
    have e1 := ih (i + 1) c k (by omega) (by omega) (by omega)
    have e2 := ih (i + 1) (c + 1) k (by omega) (by omega) (by omega)
    rw [x_Fields_countOf_4]
    cases hn : f_nm (F i) (wd_ w) <;> rw [hn] at e <;> simp (disch := omega) only [iN_lt, iN_le, iN_eq, iN_add, iN_sub, iN_mul, iN_in, iN_clamp, iN_1a, iN_1e, iN_1l, iN_l1, iN_0e, iN_0l, iN_l0, iN_pred, iN_sub1, iN_1le, il_2, il_3, il_4, il_5, il_6, il_7, il_8, il_9, il_10, il_12, il_13, il_16, il_20, il_32, il_34, il_37, il_42, il_44, il_45, il_46, il_47, il_48, il_49, il_57, il_58, il_59, il_63, il_80, il_97, il_200, il_205, il_400, il_404, il_405, il_413, il_414, il_416, il_417, il_431, il_501, il_505, il_2000, if_pos, if_neg, Option.bind_some, x_let, x_bind2_some, x_opt, x_Fields_countOf_38, f_cnt, h1, e, e1, e2, hn, Bool.false_eq_true, decide_true, decide_false, bi_t, bi_f, i10, i1n, eq_self, if_true, if_false, bi_bt, x_b0, x_b1, Bool.true_and, Bool.false_and, Bool.and_true, Bool.and_false, Bool.and_self] <;> simp [Nat.add_assoc]
theorem c_countOf {σ : St} {nf tn : Nat} {F : Nat → Ln} {tf : Nat → Nat} (h : Cf σ nf F tn tf) {w : Nat} (hw : w < 42) : x_Fields_countOf w σ = some (iN (f_cnt F (wd_ w) 0 nf)) := by
  have := c_count0 h hw nf 0 0 x_fuel (by omega) (by have := h.2.1; unfold x_fuel; omega) (by omega)
  rw [Nat.zero_add] at this
  exact this
theorem c_index0 {σ : St} {nf tn : Nat} {F : Nat → Ln} {tf : Nat → Nat} (h : Cf σ nf F tn tf) {w : Nat} (hw : w < 42) : ∀ d i fuel, i + d = nf → d < fuel → x_Fields_indexOf_2 w σ fuel (iN i) = some (if f_ix F (wd_ w) i d < nf then iN (f_ix F (wd_ w) i d) else -1) := by
  have h1 := h.1
  have h2 := h.2.1
  intro d
  induction d with
  | zero =>
    intro i fuel hi hf
    obtain ⟨k, rfl⟩ := x_fuelS (show 0 < fuel by omega)
    rw [x_Fields_indexOf_2, f_ix, if_neg (show ¬ i < nf by omega)]
    simp (disch := omega) only [iN_lt, iN_le, iN_eq, iN_add, iN_sub, iN_mul, iN_in, iN_clamp, iN_1a, iN_1e, iN_1l, iN_l1, iN_0e, iN_0l, iN_l0, iN_pred, iN_sub1, iN_1le, il_2, il_3, il_4, il_5, il_6, il_7, il_8, il_9, il_10, il_12, il_13, il_16, il_20, il_32, il_34, il_37, il_42, il_44, il_45, il_46, il_47, il_48, il_49, il_57, il_58, il_59, il_63, il_80, il_97, il_200, il_205, il_400, il_404, il_405, il_413, il_414, il_416, il_417, il_431, il_501, il_505, il_2000, if_pos, if_neg, Option.bind_some, x_let, x_bind2_some, x_opt, h1]
  | succ d ih =>
    intro i fuel hi hf
    obtain ⟨k, rfl⟩ := x_fuelS (show 0 < fuel by omega)
    have e := h.named hw (show i < nf by omega)
    have e1 := ih (i + 1) k (by omega) (by omega)
    rw [x_Fields_indexOf_2]
    cases hn : f_nm (F i) (wd_ w) <;> rw [hn] at e <;> simp (disch := omega) only [iN_lt, iN_le, iN_eq, iN_add, iN_sub, iN_mul, iN_in, iN_clamp, iN_1a, iN_1e, iN_1l, iN_l1, iN_0e, iN_0l, iN_l0, iN_pred, iN_sub1, iN_1le, il_2, il_3, il_4, il_5, il_6, il_7, il_8, il_9, il_10, il_12, il_13, il_16, il_20, il_32, il_34, il_37, il_42, il_44, il_45, il_46, il_47, il_48, il_49, il_57, il_58, il_59, il_63, il_80, il_97, il_200, il_205, il_400, il_404, il_405, il_413, il_414, il_416, il_417, il_431, il_501, il_505, il_2000, if_pos, if_neg, Option.bind_some, x_let, x_bind2_some, x_opt, f_ix, h1, e, e1, hn, Bool.false_eq_true, decide_true, decide_false, bi_t, bi_f, i10, i1n, eq_self, if_true, if_false, bi_bt, x_b0, x_b1, Bool.true_and, Bool.false_and, Bool.and_true, Bool.and_false, Bool.and_self]
theorem c_indexOf {σ : St} {nf tn : Nat} {F : Nat → Ln} {tf : Nat → Nat} (h : Cf σ nf F tn tf) {w : Nat} (hw : w < 42) : x_Fields_indexOf w σ = some (if f_ix F (wd_ w) 0 nf < nf then iN (f_ix F (wd_ w) 0 nf) else -1) :=
  c_index0 h hw nf 0 x_fuel (by omega) (by have := h.2.1; unfold x_fuel; omega)
theorem c_gather0 {nf tn : Nat} {F : Nat → Ln} {tf : Nat → Nat} {w : Nat} (hw : w < 42) : ∀ d k fuel (E : List (List Nat)) (σ : St), Cf σ nf F tn tf → Ce σ tn tf E → k + d = nf → d < fuel → (E ++ f_els F (wd_ w) k d).length ≤ 480 → ∃ σ', x_Fields_gather_7 w fuel (iN k) σ = some (iN (E ++ f_els F (wd_ w) k d).length, σ') ∧ Ce σ' tn tf (E ++ f_els F (wd_ w) k d) := by
  intro d
  induction d with
  | zero =>
    intro k fuel E σ hF hE hk hf hl
    obtain ⟨z, rfl⟩ := x_fuelS (show 0 < fuel by omega)
    have hnf := hF.2.1
    refine ⟨σ, ?_, by rw [f_els, List.append_nil]; exact hE⟩
    rw [x_Fields_gather_7, f_els, List.append_nil]
    simp (disch := omega) only [iN_lt, iN_le, iN_eq, iN_add, iN_sub, iN_mul, iN_in, iN_clamp, iN_1a, iN_1e, iN_1l, iN_l1, iN_0e, iN_0l, iN_l0, iN_pred, iN_sub1, iN_1le, il_2, il_3, il_4, il_5, il_6, il_7, il_8, il_9, il_10, il_12, il_13, il_16, il_20, il_32, il_34, il_37, il_42, il_44, il_45, il_46, il_47, il_48, il_49, il_57, il_58, il_59, il_63, il_80, il_97, il_200, il_205, il_400, il_404, il_405, il_413, il_414, il_416, il_417, il_431, il_501, il_505, il_2000, if_pos, if_neg, Option.bind_some, x_let, x_bind2_some, x_opt, hF.1, hE.1]
  | succ d ih =>
    intro k fuel E σ hF hE hk hf hl
    obtain ⟨z, rfl⟩ := x_fuelS (show 0 < fuel by omega)
    have hnf := hF.2.1
    have ht := hF.2.2.2.1
    obtain ⟨⟨a1, a2, a3⟩, o, b1, b2, b3, b4, b5, b6⟩ := hF.2.2.2.2 k (by omega)
    have e := hF.named hw (show k < nf by omega)
    rw [f_els] at hl ⊢
    rw [x_Fields_gather_7]
    cases hn : f_nm (F k) (wd_ w)
    · rw [hn] at hl e
      simp only [Bool.false_eq_true, if_false, List.nil_append] at hl ⊢
      obtain ⟨σ2, m1, m2⟩ := ih (k + 1) z E σ hF hE (by omega) (by omega) hl
      refine ⟨σ2, ?_, m2⟩
      rw [← m1]
      simp (disch := omega) only [iN_lt, iN_le, iN_eq, iN_add, iN_sub, iN_mul, iN_in, iN_clamp, iN_1a, iN_1e, iN_1l, iN_l1, iN_0e, iN_0l, iN_l0, iN_pred, iN_sub1, iN_1le, il_2, il_3, il_4, il_5, il_6, il_7, il_8, il_9, il_10, il_12, il_13, il_16, il_20, il_32, il_34, il_37, il_42, il_44, il_45, il_46, il_47, il_48, il_49, il_57, il_58, il_59, il_63, il_80, il_97, il_200, il_205, il_400, il_404, il_405, il_413, il_414, il_416, il_417, il_431, il_501, il_505, il_2000, if_pos, if_neg, Option.bind_some, x_let, x_bind2_some, x_opt, hF.1, e, x_Fields_gather_54, decide_true, decide_false, bi_t, bi_f, i10, i1n, eq_self, if_true, if_false, bi_bt, x_b0, x_b1, Bool.true_and, Bool.false_and, Bool.and_true, Bool.and_false, Bool.and_self]
    · rw [hn] at hl e
      simp only [if_true] at hl ⊢
      rw [← List.append_assoc] at hl ⊢
      have tr := s_el_trim (F k).2 (f_c (F k) + 1) (F k).1 (by omega)
      have l1 := s_b_le (F k).2 (f_c (F k) + 1) (F k).1 (by omega)
      have l2 := s_e_le (F k).2 (f_c (F k) + 1) (F k).1 (by omega)
      have sb : s_b (F k).2 (f_vb (F k)) (f_vb (F k)) = f_vb (F k) := by
        have := s_b_le (F k).2 (f_vb (F k)) (f_vb (F k)) (Nat.le_refl _)
        omega
      have hel : f_el (F k) = s_el (F k).2 (f_vb (F k)) (f_vb (F k)) (f_ve (F k) - f_vb (F k)) := tr
      have lv : f_vb (F k) ≤ f_ve (F k) ∧ f_ve (F k) ≤ (F k).1 := l2
      rw [hel] at hl ⊢
      obtain ⟨σ1, c1, c2⟩ := c_cut0 (tn := tn) (o := o) (t := f_ve (F k)) (tf := tf) (f := (F k).2) (by omega) (by omega) (fun j hj => b2 j (by omega)) (iN (o + f_vb (F k))) (f_ve (F k) - f_vb (F k)) (f_vb (F k)) (f_vb (F k)) x_fuel (-1) (-1) E σ (by omega) (Nat.le_refl _) (by unfold x_fuel; omega) hF.2.2.1 hE (by rw [List.length_append] at hl; omega) (fun q => by omega) (fun _ => rfl)
      have hc : x_Fields_cut (iN (o + f_vb (F k))) (iN (o + f_ve (F k))) σ = some σ1 := c1
      have fp := fp_Fields_cut _ _ _ hc
      have hF1 : Cf σ1 nf F tn tf := hF.of (fp.1 _ _ (by simp)) (fp.1 _ _ (by simp)) (fp.2.1 _ (by simp)) (fp.2.1 _ (by simp)) (fp.2.1 _ (by simp)) (fp.2.1 _ (by simp)) (fp.2.1 _ (by simp))
      obtain ⟨σ2, m1, m2⟩ := ih (k + 1) z _ σ1 hF1 c2 (by omega) (by omega) hl
      refine ⟨σ2, ?_, m2⟩
      rw [← m1]
      simp (disch := omega) only [iN_lt, iN_le, iN_eq, iN_add, iN_sub, iN_mul, iN_in, iN_clamp, iN_1a, iN_1e, iN_1l, iN_l1, iN_0e, iN_0l, iN_l0, iN_pred, iN_sub1, iN_1le, il_2, il_3, il_4, il_5, il_6, il_7, il_8, il_9, il_10, il_12, il_13, il_16, il_20, il_32, il_34, il_37, il_42, il_44, il_45, il_46, il_47, il_48, il_49, il_57, il_58, il_59, il_63, il_80, il_97, il_200, il_205, il_400, il_404, il_405, il_413, il_414, il_416, il_417, il_431, il_501, il_505, il_2000, if_pos, if_neg, Option.bind_some, x_let, x_bind2_some, x_opt, hF.1, e, b5, b6, hc, x_Fields_gather_54, decide_true, decide_false, bi_t, bi_f, i10, i1n, eq_self, if_true, if_false, bi_bt, x_b0, x_b1, Bool.true_and, Bool.false_and, Bool.and_true, Bool.and_false, Bool.and_self]
theorem c_gather {σ : St} {nf tn : Nat} {F : Nat → Ln} {tf : Nat → Nat} (h : Cf σ nf F tn tf) {w : Nat} (hw : w < 42) : ∃ σ', x_Fields_gather w σ = some (iN (f_els F (wd_ w) 0 nf).length, σ') ∧ Ce σ' tn tf (f_els F (wd_ w) 0 nf) := by
  have hl := f_els_len F (wd_ w) nf 0 (fun k _ hk => (h.2.2.2.2 k (by omega)).1)
  have hn := h.2.1
  have hF : Cf (x_updR σ 31 8 0) nf F tn tf := h.of (by simp [x_updR]) (by simp [x_updR]) rfl rfl rfl rfl rfl
  have hE : Ce (x_updR σ 31 8 0) tn tf [] := ⟨by simp [x_updR]; rfl, by simp, fun k hk => absurd hk (Nat.not_lt_zero k)⟩
  obtain ⟨σ', a, b⟩ := c_gather0 hw nf 0 x_fuel [] (x_updR σ 31 8 0) hF hE (by omega) (by unfold x_fuel; omega) (by rw [List.nil_append]; omega)
  rw [List.nil_append] at a b
  exact ⟨σ', a, b⟩
