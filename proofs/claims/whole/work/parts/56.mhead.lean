/-! the head's checks in the reference -/
theorem MW_0 : MW 0 (wd_ 5) := by unfold MW; decide
theorem MW_5 : MW 5 (wd_ 7) := by unfold MW; decide
theorem MW_23 : MW 23 (wd_ 8) := by unfold MW; decide
theorem MW_38 : MW 38 (wd_ 10) := by unfold MW; decide
theorem MW_45 : MW 45 (wd_ 12) := by unfold MW; decide
theorem MW_56 : MW 56 (wd_ 15) := by unfold MW; decide
theorem MW_70 : MW 70 (wd_ 17) := by unfold MW; decide
theorem MW_76 : MW 76 (wd_ 9) := by unfold MW; decide
theorem MW_84 : MW 84 (wd_ 11) := by unfold MW; decide
theorem MW_97 : MW 97 (wd_ 13) := by unfold MW; decide
theorem MW_103 : MW 103 (wd_ 14) := by unfold MW; decide
theorem MW_114 : MW 114 (wd_ 18) := by unfold MW; decide
theorem s_all_sl (p : Nat → Bool) (f : Nat → Nat) : ∀ d i, s_all p f i d = (sl f i d).all p := by
  intro d
  induction d with
  | zero => intro i; rfl
  | succ d ih =>
    intro i
    rw [s_all, ih (i + 1)]
    have : sl f i (d + 1) = f i :: sl f (i + 1) d := by
      apply List.ext_getElem
      · simp [sl]
      · intro j h1 h2
        cases j with
        | zero => simp [sl]
        | succ j => simp [sl]; congr 1; omega
    rw [this, List.all_cons]
theorem k_hst_eq (b : Nat) : k_hst b = (k_alpha b || (k_dig b || (decide (b = 45) || (decide (b = 46) || decide (b = 58))))) := by
  unfold k_hst
  rw [Bool.or_assoc]
  congr 2
  by_cases h1 : b = 45
  · subst h1; rfl
  · by_cases h2 : b = 46
    · subst h2; rfl
    · by_cases h3 : b = 58
      · subst h3; rfl
      · simp [h1, h2, h3]
def w_then (w : Nat) (p : Bool) (c : Nat) : Nat := if ¬ w = 0 then w else if p then 0 else c
theorem w_then_lt {w : Nat} {p : Bool} {c : Nat} (h : w < 1000) (hc : c < 1000) : w_then w p c < 1000 := by
  unfold w_then
  split
  · exact h
  · split
    · decide
    · exact hc
theorem w_then_t (w c : Nat) : w_then w true c = w := by
  unfold w_then
  split
  · rfl
  · rename_i h
    simp at h
    simp [h]
theorem w_then_2 (w c : Nat) (p q : Bool) : w_then (w_then w p c) q c = w_then w (p && q) c := by
  unfold w_then
  by_cases h : w = 0
  · cases p <;> cases q <;> by_cases hc : c = 0 <;> simp [h, hc]
  · simp [h]
theorem m_host109 {u : List Nat} {b : Nat} (hb : b + u.length ≤ 960) (h0 : 0 < u.length) (bk : Int32 → Int32 → St → Option St) (l1 : Int32) (l2 : Nat) : ∀ d k fuel w (σ : St), k + d = u.length → d < fuel → σ.1 51 25 = iN w → w < 1000 → σ.1 51 26 = 1 → σ.2.1 64 0 = iN (b + u.length) → Mr σ 59 b u.length (fun j => u.getD j 0) → ∃ σ', x_Model_checkHost_109 bk fuel l1 (iN l2) (iN (b + k)) σ = bk l1 (iN (l2 + 1)) σ' ∧ σ'.1 51 25 = iN (w_then w ((u.drop k).all k_hst) 400) ∧ xFp [(51, 25)] [] (false, false, false) σ σ' := by
  intro d
  induction d with
  | zero =>
    intro k fuel w σ hk hf hw hw2 h26 h64 hR
    obtain ⟨z, rfl⟩ := x_fuelS (show 0 < fuel by omega)
    refine ⟨σ, ?_, by rw [List.drop_eq_nil_of_le (by omega), List.all_nil, w_then_t]; exact hw, xFp.rf⟩
    rw [x_Model_checkHost_109, h26, if_neg (by decide), if_pos (show x_in 0 512 by decide), show (0 : Int32).toNatClampNeg = 0 from rfl, h64]
    simp (disch := omega) only [iN_lt, iN_le, iN_eq, iN_add, iN_sub, iN_mul, iN_in, iN_clamp, iN_1a, iN_1e, iN_1l, iN_l1, iN_0e, iN_0l, iN_l0, iN_pred, iN_sub1, iN_1le, il_2, il_3, il_4, il_5, il_6, il_7, il_8, il_9, il_10, il_12, il_13, il_16, il_20, il_32, il_34, il_37, il_42, il_44, il_45, il_46, il_47, il_48, il_49, il_57, il_58, il_59, il_63, il_80, il_97, il_200, il_205, il_400, il_404, il_405, il_413, il_414, il_416, il_417, il_431, il_501, il_505, il_2000, if_pos, if_neg, Option.bind_some, x_let, x_bind2_some, x_opt, x_Model_checkHost_189]
  | succ d ih =>
    intro k fuel w σ hk hf hw hw2 h26 h64 hR
    obtain ⟨z, rfl⟩ := x_fuelS (show 0 < fuel by omega)
    have hq := hR k (by omega)
    obtain ⟨s1, a1, a2, a3, a4⟩ := m_blame hw hw2 (k_hst (u.getD k 0)) (c := 400) (by decide)
    have ha2 : s1.1 51 25 = iN (w_then w (k_hst (u.getD k 0)) 400) := a2
    obtain ⟨σ', b1, b2, b3⟩ := ih (k + 1) z _ s1 (by omega) (by omega) ha2 (w_then_lt hw2 (by decide)) (by rw [a4.1 _ _ (by simp)]; exact h26) (by rw [a4.2.1 _ (by simp)]; exact h64) (hR.of (a4.2.1 _ (by simp)))
    refine ⟨σ', ?_, ?_, a4.tr b3⟩
    · rw [← b1, x_Model_checkHost_109, h26, if_neg (by decide), if_pos (show x_in 0 512 by decide), show (0 : Int32).toNatClampNeg = 0 from rfl, h64, if_neg (mt (iN_le (by omega) (by omega)).mp (by omega)), if_pos ((iN_in (by omega)).mpr (by omega)), iN_clamp (by omega), show σ.2.1 59 (b + k) = iN (u.getD k 0) from hq.1]
      unfold x_Model_checkHost_172 x_Model_checkHost_177
      simp only [x_let]
      have y : u.getD k 0 < 256 := hq.2
      rw [k_hst_eq] at a1
      generalize u.getD k 0 = c at a1 y ⊢
      rw [show (400 : Int32) = iN 400 from rfl, show iN (b + k) + (1 : Int32) = iN (b + (k + 1)) from iN_1a]
      cases ka : k_alpha c
      · cases kd : k_dig c
        · by_cases c1 : c = 45
          · rw [ka, kd, c1] at a1
            rw [m_alpha _ y, ka, Option.bind_some, bi_f, if_pos rfl, m_dig _ y, kd, Option.bind_some, bi_f, if_pos rfl, if_pos (show iN c = 45 by rw [c1]; rfl), show (1 : Int32) = bi (false || (false || (decide (45 = 45) || (decide (45 = 46) || decide (45 = 58))))) from rfl, a1]
            rfl
          · by_cases c2 : c = 46
            · rw [ka, kd, c2] at a1
              rw [m_alpha _ y, ka, Option.bind_some, bi_f, if_pos rfl, m_dig _ y, kd, Option.bind_some, bi_f, if_pos rfl, if_neg (show ¬ iN c = 45 from mt (iN_eq (b := 45) (by omega) (by omega)).mp c1), if_pos (show iN c = 46 by rw [c2]; rfl), show (1 : Int32) = bi (false || (false || (decide (46 = 45) || (decide (46 = 46) || decide (46 = 58))))) from rfl, a1]
              rfl
            · by_cases c3 : c = 58
              · rw [ka, kd, c3] at a1
                rw [m_alpha _ y, ka, Option.bind_some, bi_f, if_pos rfl, m_dig _ y, kd, Option.bind_some, bi_f, if_pos rfl, if_neg (show ¬ iN c = 45 from mt (iN_eq (b := 45) (by omega) (by omega)).mp c1), if_neg (show ¬ iN c = 46 from mt (iN_eq (b := 46) (by omega) (by omega)).mp c2), if_pos (show iN c = 58 by rw [c3]; rfl), show (1 : Int32) = bi (false || (false || (decide (58 = 45) || (decide (58 = 46) || decide (58 = 58))))) from rfl, a1]
                rfl
              · rw [ka, kd, decide_eq_false c1, decide_eq_false c2, decide_eq_false c3] at a1
                rw [m_alpha _ y, ka, Option.bind_some, bi_f, if_pos rfl, m_dig _ y, kd, Option.bind_some, bi_f, if_pos rfl, if_neg (show ¬ iN c = 45 from mt (iN_eq (b := 45) (by omega) (by omega)).mp c1), if_neg (show ¬ iN c = 46 from mt (iN_eq (b := 46) (by omega) (by omega)).mp c2), if_neg (show ¬ iN c = 58 from mt (iN_eq (b := 58) (by omega) (by omega)).mp c3), show (0 : Int32) = bi (false || (false || (false || (false || false)))) from rfl, a1]
                rfl
        · rw [ka, kd, Bool.true_or, Bool.false_or] at a1
          rw [m_alpha _ y, ka, Option.bind_some, bi_f, if_pos rfl, m_dig _ y, kd, Option.bind_some, if_neg (show ¬ bi true = 0 by decide), show (1 : Int32) = bi true from rfl, a1]
          rfl
      · rw [ka, Bool.true_or] at a1
        rw [m_alpha _ y, ka, Option.bind_some, if_neg (show ¬ bi true = 0 by decide), show (1 : Int32) = bi true from rfl, a1]
        rfl
    · rw [b2, drop_all _ u k 0 (by omega), w_then_2]
/-- all fields of this name have a host's value -/
def h_hs (F : Nat → Ln) : Nat → Nat → Bool
  | _, 0 => true
  | i, d + 1 => (!f_nm (F i) (wd_ 5) || (sl (F i).2 (f_vb (F i)) (f_ve (F i) - f_vb (F i))).all k_hst) && h_hs F (i + 1) d
theorem h_hs_0 (F : Nat → Ln) : ∀ d i, f_cnt F (wd_ 5) i d = 0 → h_hs F i d = true := by
  intro d
  induction d with
  | zero => intro i _; rfl
  | succ d ih =>
    intro i h
    rw [f_cnt] at h
    rw [h_hs]
    cases hn : f_nm (F i) (wd_ 5)
    · rw [hn] at h
      simp at h
      simp [ih (i + 1) h]
    · rw [hn] at h
      simp at h
theorem h_hs_1 (F : Nat → Ln) : ∀ d i, f_cnt F (wd_ 5) i d = 1 → h_hs F i d = (sl (F (f_ix F (wd_ 5) i d)).2 (f_vb (F (f_ix F (wd_ 5) i d))) (f_ve (F (f_ix F (wd_ 5) i d)) - f_vb (F (f_ix F (wd_ 5) i d)))).all k_hst := by
  intro d
  induction d with
  | zero => intro i h; rw [f_cnt] at h; cases h
  | succ d ih =>
    intro i h
    rw [f_cnt] at h
    rw [h_hs, f_ix]
    cases hn : f_nm (F i) (wd_ 5)
    · rw [hn] at h
      simp at h
      simp
      rw [ih (i + 1) h]
    · rw [hn] at h
      simp at h
      simp [h_hs_0 F d (i + 1) h]
theorem f_note (l : Ln) : s_note l.2 (f_c l + 1) l.1 = if f_vb l < f_ve l then [sl l.2 (f_vb l) (f_ve l - f_vb l)] else [] := rfl
/-- the value of one field, noticed alone -/
theorem m_value {σ : St} {nf : Nat} {F : Nat → Ln} (hF : Mf σ nf F) {k : Nat} (hk : k < nf) : ∃ σ', x_Model_notice (iN (80 * k + f_c (F k) + 1)) (iN (80 * k + (F k).1)) (x_updR σ 51 26 0) = some σ' ∧ Me σ' (if f_vb (F k) < f_ve (F k) then [sl (F k).2 (f_vb (F k)) (f_ve (F k) - f_vb (F k))] else []) ∧ xFp [(51, 26)] [63, 64] (false, false, false) σ σ' := by
  obtain ⟨⟨a, b, c⟩, q2, q3, q4⟩ := hF.2.2 k hk
  have hn := hF.2.1
  have hE : Me (x_updR σ 51 26 0) [] := ⟨by simp [x_updR]; rfl, fun k hk => absurd hk (Nat.not_lt_zero k)⟩
  obtain ⟨σ', n1, n2⟩ := m_notice hE (B := 80 * k) (n := (F k).1) (f := (F k).2) (q4.of rfl) (by omega) (by decide) (i := f_c (F k) + 1) (t := (F k).1) (by omega) (Nat.le_refl _)
  rw [List.nil_append, f_note] at n2
  rw [← Nat.add_assoc] at n1
  exact ⟨σ', n1, n2, (xFp.R rfl (by simp)).tr (fp_Model_notice _ _ _ n1)⟩
theorem m_host36 {nf : Nat} {F : Nat → Ln} : ∀ d k fuel w (σ : St), Mf σ nf F → k + d = nf → d < fuel → σ.1 51 25 = iN w → w < 1000 → ∃ σ', x_Model_checkHost_36 fuel 1 (iN k) σ = some σ' ∧ σ'.1 51 25 = iN (w_then w (h_hs F k d) 400) := by
  intro d
  induction d with
  | zero =>
    intro k fuel w σ hF hk hf hw hw2
    obtain ⟨z, rfl⟩ := x_fuelS (show 0 < fuel by omega)
    have hn := hF.2.1
    refine ⟨σ, ?_, by rw [h_hs, w_then_t]; exact hw⟩
    rw [x_Model_checkHost_36]
    simp (disch := omega) only [iN_lt, iN_le, iN_eq, iN_add, iN_sub, iN_mul, iN_in, iN_clamp, iN_1a, iN_1e, iN_1l, iN_l1, iN_0e, iN_0l, iN_l0, iN_pred, iN_sub1, iN_1le, il_2, il_3, il_4, il_5, il_6, il_7, il_8, il_9, il_10, il_12, il_13, il_16, il_20, il_32, il_34, il_37, il_42, il_44, il_45, il_46, il_47, il_48, il_49, il_57, il_58, il_59, il_63, il_80, il_97, il_200, il_205, il_400, il_404, il_405, il_413, il_414, il_416, il_417, il_431, il_501, il_505, il_2000, if_pos, if_neg, Option.bind_some, x_let, x_bind2_some, x_opt, hF.1]
  | succ d ih =>
    intro k fuel w σ hF hk hf hw hw2
    obtain ⟨z, rfl⟩ := x_fuelS (show 0 < fuel by omega)
    have hn := hF.2.1
    obtain ⟨⟨a, b, c⟩, q2, q3, q4⟩ := hF.2.2 k (by omega)
    have e := m_isNamed hF MW_0 (show k < nf by omega)
    rw [show iN 0 = (0 : Int32) from rfl] at e
    rw [h_hs]
    cases hnm : f_nm (F k) (wd_ 5)
    · rw [hnm] at e
      obtain ⟨σ', b1, b2⟩ := ih (k + 1) z w σ hF (by omega) (by omega) hw hw2
      refine ⟨σ', ?_, by simpa using b2⟩
      rw [← b1, x_Model_checkHost_36]
      simp (disch := omega) only [iN_lt, iN_le, iN_eq, iN_add, iN_sub, iN_mul, iN_in, iN_clamp, iN_1a, iN_1e, iN_1l, iN_l1, iN_0e, iN_0l, iN_l0, iN_pred, iN_sub1, iN_1le, il_2, il_3, il_4, il_5, il_6, il_7, il_8, il_9, il_10, il_12, il_13, il_16, il_20, il_32, il_34, il_37, il_42, il_44, il_45, il_46, il_47, il_48, il_49, il_57, il_58, il_59, il_63, il_80, il_97, il_200, il_205, il_400, il_404, il_405, il_413, il_414, il_416, il_417, il_431, il_501, il_505, il_2000, if_pos, if_neg, Option.bind_some, x_let, x_bind2_some, x_opt, hF.1, e, x_Model_checkHost_189, decide_true, decide_false, bi_t, bi_f, i10, i1n, eq_self, if_true, if_false, bi_bt, x_b0, x_b1, Bool.true_and, Bool.false_and, Bool.and_true, Bool.and_false, Bool.and_self]
    · rw [hnm] at e
      obtain ⟨s1, n1, n2, n3⟩ := m_value hF (show k < nf by omega)
      have hw1 : s1.1 51 25 = iN w := by rw [n3.1 _ _ (by simp)]; exact hw
      have hF1 : Mf s1 nf F := hF.of (n3.1 _ _ (by simp)) (n3.2.1 _ (by simp)) (n3.2.1 _ (by simp)) (n3.2.1 _ (by simp))
      have hv := f_v_le (hF.2.2 k (by omega)).1
      rw [x_Model_checkHost_36]
      rw [hF.1, if_neg (mt (iN_le (by omega) (by omega)).mp (by omega)), if_pos rfl, e, Option.bind_some, if_neg (show ¬ bi true = 0 by decide)]
      simp only [x_let]
      rw [if_pos ((iN_in (by omega)).mpr (by omega)), if_pos ((iN_in (by omega)).mpr (by omega)), iN_clamp (by omega), show (x_updR σ 51 26 0).2.1 60 k = iN (f_c (F k)) from q2, show (x_updR σ 51 26 0).2.1 61 k = iN (F k).1 from q3, show (80 : Int32) * iN k = iN (80 * k) from iN_mul 80 k, iN_add, iN_1a, iN_add, n1, Option.bind_some]
      by_cases hb : f_vb (F k) < f_ve (F k)
      · rw [if_pos hb] at n2
        obtain ⟨m1, m2⟩ := n2
        obtain ⟨b', p1, p2, p3, p4, p5⟩ := m2 0 (by simp)
        rw [show ([sl (F k).2 (f_vb (F k)) (f_ve (F k) - f_vb (F k))] : List (List Nat)).getD 0 [] = sl (F k).2 (f_vb (F k)) (f_ve (F k) - f_vb (F k)) from rfl] at p2 p3 p4 p5
        have m1' : s1.1 51 26 = 1 := m1
        obtain ⟨s2, c1, c2, c3⟩ := m_host109 p3 p5 (x_Model_checkHost_36 z) 1 k (sl (F k).2 (f_vb (F k)) (f_ve (F k) - f_vb (F k))).length 0 x_fuel w s1 (by omega) (by rw [sl_len]; unfold x_fuel; omega) hw1 hw2 m1' p2 p4
        rw [List.drop_zero] at c2
        obtain ⟨σ', b1, b2⟩ := ih (k + 1) z _ s2 (hF1.of (c3.1 _ _ (by simp)) (c3.2.1 _ (by simp)) (c3.2.1 _ (by simp)) (c3.2.1 _ (by simp))) (by omega) (by omega) c2 (w_then_lt hw2 (by decide))
        refine ⟨σ', ?_, by rw [b2, w_then_2]; rfl⟩
        rw [← b1, ← c1, m1', if_neg (by decide), if_pos (show x_in 0 512 by decide), show (0 : Int32).toNatClampNeg = 0 from rfl, p1, Nat.add_zero]
        rfl
      · rw [if_neg hb] at n2
        have m1' : s1.1 51 26 = 0 := n2.1
        obtain ⟨σ', b1, b2⟩ := ih (k + 1) z w s1 hF1 (by omega) (by omega) hw1 hw2
        have hs : sl (F k).2 (f_vb (F k)) (f_ve (F k) - f_vb (F k)) = [] := by
          rw [show f_ve (F k) - f_vb (F k) = 0 by omega]
          rfl
        refine ⟨σ', ?_, by rw [b2, hs]; simp⟩
        rw [← b1, m1', if_pos (by decide)]
        unfold x_Model_checkHost_108
        rw [show x_fuel = 4095 + 1 from rfl, x_Model_checkHost_109, m1', if_pos (by decide)]
        unfold x_Model_checkHost_189
        simp only [x_let]
        rw [iN_1a]
theorem m_checkHost {σ : St} {nf : Nat} {F : Nat → Ln} (hF : Mf σ nf F) (hw : σ.1 51 25 = iN 0) {mi : Nat} (hm : σ.1 51 15 = iN mi) (hmi : mi < 256) : ∃ σ', x_Model_checkHost σ = some σ' ∧ σ'.1 51 25 = iN (if h_host F nf (decide (mi = 0)) = false then 400 else 0) := by
  have e := m_count hF MW_0
  rw [show iN 0 = (0 : Int32) from rfl] at e
  have hle := f_cnt_le F (wd_ 5) nf 0
  have hn := hF.2.1
  have other : ∀ (s : St) c, Mf s nf F → ¬ c = 1 → c < 100 → x_Model_checkHost_36 x_fuel (iN c) 0 s = some s := by
    intro s c hs hc hc2
    rw [show x_fuel = 4095 + 1 from rfl, x_Model_checkHost_36]
    rw [if_neg (mt (iN_1e (by omega)).mp hc)]
    split <;> rfl
  have hF4 : Mf (x_updR σ 51 25 400) nf F := hF.of (by simp [x_updR]) rfl rfl rfl
  unfold x_Model_checkHost x_Model_checkHost_27 x_Model_checkHost_23 x_Model_checkHost_28
  rw [e, Option.bind_some]
  by_cases c2 : 2 ≤ f_cnt F (wd_ 5) 0 nf
  · refine ⟨x_updR σ 51 25 400, ?_, ?_⟩
    · rw [if_pos (show (2 : Int32) ≤ iN (f_cnt F (wd_ 5) 0 nf) from (iN_le (a := 2) (by omega) (by omega)).mpr c2), m_blame0 hw, Option.bind_some, other _ _ hF4 (by omega) (by omega)]
    · unfold h_host
      rw [decide_eq_false (show ¬ f_cnt F (wd_ 5) 0 nf ≤ 1 by omega)]
      simp [x_updR]
      rfl
  · rw [if_neg (show ¬ (2 : Int32) ≤ iN (f_cnt F (wd_ 5) 0 nf) from mt (iN_le (a := 2) (by omega) (by omega)).mp c2)]
    by_cases c0 : f_cnt F (wd_ 5) 0 nf = 0
    · rw [c0, if_neg (show ¬ (0 : Int32) < iN 0 by decide), hm]
      by_cases m0 : mi = 0
      · rw [if_pos ((iN_eq0 (by omega)).mpr m0), m_blame1, Option.bind_some, other _ _ hF (by omega) (by omega)]
        refine ⟨σ, rfl, ?_⟩
        unfold h_host
        rw [c0, decide_eq_true m0]
        simpa using hw
      · rw [if_neg (mt (iN_eq0 (by omega)).mp m0), m_blame0 hw, Option.bind_some, other _ _ hF4 (by omega) (by omega)]
        refine ⟨_, rfl, ?_⟩
        unfold h_host
        rw [c0, decide_eq_false m0]
        simp [x_updR]
        rfl
    · have c1 : f_cnt F (wd_ 5) 0 nf = 1 := by omega
      obtain ⟨σ', b1, b2⟩ := m_host36 nf 0 x_fuel 0 σ hF (by omega) (by unfold x_fuel; omega) hw (by decide)
      rw [c1, if_pos (show (0 : Int32) < iN 1 by decide), m_blame1, Option.bind_some]
      refine ⟨σ', b1, ?_⟩
      rw [b2, h_hs_1 F nf 0 c1, ← s_all_sl]
      unfold h_host w_then
      rw [c1]
      cases s_all k_hst (F (f_ix F (wd_ 5) 0 nf)).2 (f_vb (F (f_ix F (wd_ 5) 0 nf))) (f_ve (F (f_ix F (wd_ 5) 0 nf)) - f_vb (F (f_ix F (wd_ 5) 0 nf))) <;> rfl

theorem m_isW {σ : St} {E : List (List Nat)} (h : Me σ E) {k w : Nat} {u : List Nat} (hw : MW w u) (hk : k < E.length) : x_Model_isWord (σ.2.1 63 k) (σ.2.1 64 k) (iN w) σ = some (bi (u_is (E.getD k []) u)) := h.word hw hk
theorem m_checkCoding {σ : St} {nf : Nat} {F : Nat → Ln} (hF : Mf σ nf F) (hw : σ.1 51 25 = iN 0) {mi : Nat} (hm : σ.1 51 15 = iN mi) (hmi : mi < 256) (hc : ¬ f_cnt F (wd_ 7) 0 nf = 0) : ∃ σ', x_Model_checkCoding σ = some σ' ∧ σ'.1 51 25 = iN (h_te F nf (decide (mi = 0))) := by
  have e := m_count hF MW_23
  have hle := f_cnt_le F (wd_ 8) nf 0
  have hn := hF.2.1
  have st : x_Model_checkCoding σ = x_Model_checkCoding_22 (bi (!decide (mi = 0) && decide (f_cnt F (wd_ 8) 0 nf = 0))) σ := by
    unfold x_Model_checkCoding x_Model_checkCoding_21
    rw [hm, show (23 : Int32) = iN 23 from rfl, e, Option.bind_some]
    by_cases m0 : mi = 0
    · rw [if_pos ((iN_le0 (by omega)).mpr m0), decide_eq_true m0]
      rfl
    · rw [if_neg (mt (iN_le0 (by omega)).mp m0), decide_eq_false m0]
      by_cases c8 : f_cnt F (wd_ 8) 0 nf = 0
      · rw [if_pos ((iN_eq0 (by omega)).mpr c8), decide_eq_true c8]
        rfl
      · rw [if_neg (mt (iN_eq0 (by omega)).mp c8), decide_eq_false c8]
        rfl
  rw [st]
  unfold x_Model_checkCoding_22
  obtain ⟨s1, a1, a2, a3, a4⟩ := m_blame hw (by decide) (!decide (mi = 0) && decide (f_cnt F (wd_ 8) 0 nf = 0)) (c := 400) (by decide)
  rw [show (400 : Int32) = iN 400 from rfl, a1, Option.bind_some]
  have hF1 : Mf s1 nf F := hF.of (a4.1 _ _ (by simp)) (a4.2.1 _ (by simp)) (a4.2.1 _ (by simp)) (a4.2.1 _ (by simp))
  obtain ⟨s2, b1, b2⟩ := m_list hF1 MW_5
  have fp := fp_Model_list _ _ b1
  have hw2 : s2.1 51 25 = iN (w_then 0 (!decide (mi = 0) && decide (f_cnt F (wd_ 8) 0 nf = 0)) 400) := by rw [fp.1 _ _ (by simp)]; exact a2
  rw [show (5 : Int32) = iN 5 from rfl, b1, Option.bind_some]
  have hl := f_els_len F (wd_ 7) nf 0 (fun k _ hk => (hF.2.2 k (by omega)).1)
  have tail : ∀ p, ∃ σ', x_Model_checkCoding_77 (bi p) s2 = some σ' ∧ σ'.1 51 25 = iN (w_then (w_then (w_then 0 (!decide (mi = 0) && decide (f_cnt F (wd_ 8) 0 nf = 0)) 400) p 400) (decide ((f_els F (wd_ 7) 0 nf).length = 1)) 501) := by
    intro p
    unfold x_Model_checkCoding_77 x_Model_checkCoding_97
    obtain ⟨s3, c1, c2, c3, c4⟩ := m_blame hw2 (w_then_lt (by decide) (by decide)) p (c := 400) (by decide)
    rw [show (400 : Int32) = iN 400 from rfl, c1, Option.bind_some, c4.1 51 26 (by simp), b2.1]
    obtain ⟨s4, d1, d2, d3, d4⟩ := m_blame c2 (show (if ¬ w_then 0 (!decide (mi = 0) && decide (f_cnt F (wd_ 8) 0 nf = 0)) 400 = 0 then w_then 0 (!decide (mi = 0) && decide (f_cnt F (wd_ 8) 0 nf = 0)) 400 else if p then 0 else 400) < 1000 from w_then_lt (w_then_lt (by decide) (by decide)) (by decide)) (decide ((f_els F (wd_ 7) 0 nf).length = 1)) (c := 501) (by decide)
    refine ⟨s4, ?_, d2⟩
    by_cases q : (f_els F (wd_ 7) 0 nf).length = 1
    · rw [if_pos ((iN_1e (by omega)).mpr q)]
      rw [decide_eq_true q] at d1
      rw [show (501 : Int32) = iN 501 from rfl, show (1 : Int32) = bi true from rfl, d1]
      rfl
    · rw [if_neg (mt (iN_1e (by omega)).mp q)]
      rw [decide_eq_false q] at d1
      rw [show (501 : Int32) = iN 501 from rfl, show (0 : Int32) = bi false from rfl, d1]
      rfl
  unfold x_Model_checkCoding_76 h_te
  rw [if_neg hc, b2.1]
  generalize f_els F (wd_ 7) 0 nf = E at *
  by_cases z0 : E.length = 0
  · rw [z0, if_pos (show iN 0 ≤ 0 by decide), if_pos (Or.inl rfl)]
    obtain ⟨σ', t1, t2⟩ := tail false
    refine ⟨σ', t1, ?_⟩
    rw [t2, z0]
    cases decide (mi = 0) <;> by_cases c8 : f_cnt F (wd_ 8) 0 nf = 0 <;> simp [w_then, c8]
  · have ei := b2.word MW_76 (k := E.length - 1) (by omega)
    rw [if_neg (mt (iN_le0 (by omega)).mp z0), iN_sub1 (by omega), if_pos ((iN_in (by omega)).mpr (by omega)), if_pos ((iN_in (by omega)).mpr (by omega)), iN_clamp (by omega), show (76 : Int32) = iN 76 from rfl, ei, Option.bind_some]
    obtain ⟨σ', t1, t2⟩ := tail (u_is (E.getD (E.length - 1) []) (wd_ 9))
    cases hu : u_is (E.getD (E.length - 1) []) (wd_ 9)
    · rw [hu] at t1 t2
      refine ⟨σ', t1, ?_⟩
      rw [t2]
      cases decide (mi = 0) <;> by_cases c8 : f_cnt F (wd_ 8) 0 nf = 0 <;> simp [w_then, c8]
    · rw [hu] at t1 t2
      refine ⟨σ', t1, ?_⟩
      rw [t2]
      by_cases z1 : E.length = 1
      · clear tail hw2 a1 a2 a3 st e
        generalize f_cnt F (wd_ 8) 0 nf = n8
        cases decide (mi = 0) <;> cases n8 <;> simp [w_then, z1]
      · have z2 : 1 < E.length := by omega
        clear tail hw2 a1 a2 a3 st e
        generalize f_cnt F (wd_ 8) 0 nf = n8
        cases decide (mi = 0) <;> cases n8 <;> simp [w_then, z0, z1, z2]
theorem Me.num {σ : St} {E : List (List Nat)} (h : Me σ E) {k : Nat} (hk : k < E.length) : x_Model_numberAt (σ.2.1 63 k) (σ.2.1 64 k) σ = some (oi (u_num (E.getD k []))) ∧ ∀ v, u_num (E.getD k []) = some v → v < 1000000000 := by
  obtain ⟨b, p1, p2, p3, p4, p5⟩ := h.2 k hk
  refine ⟨?_, u_num_lt (fun j hj => (p4 j hj).2)⟩
  rw [p1, p2, m_numberAt p4 p3]
  rfl
/-- a loop that has found a fault -/
theorem m_len1 {E : List (List Nat)} (hl : E.length < 512) : ∀ d k fuel w (σ : St), Me σ E → k + d = E.length → d < fuel → σ.1 51 25 = iN w → w < 1000 → ¬ w = 0 → ∃ σ', x_Model_checkLength_27 fuel (iN k) σ = some σ' ∧ σ'.1 51 25 = iN w := by
  intro d
  induction d with
  | zero =>
    intro k fuel w σ hE hk hf hw hw2 hw0
    obtain ⟨z, rfl⟩ := x_fuelS (show 0 < fuel by omega)
    refine ⟨σ, ?_, hw⟩
    rw [x_Model_checkLength_27]
    unfold x_Model_checkLength_107
    rw [hE.1, if_pos ((iN_le (by omega) (by omega)).mpr (by omega)), m_blameW hw hw2 hw0, m_blameW hw hw2 hw0]
    split <;> rfl
  | succ d ih =>
    intro k fuel w σ hE hk hf hw hw2 hw0
    obtain ⟨z, rfl⟩ := x_fuelS (show 0 < fuel by omega)
    have en := (hE.num (show k < E.length by omega)).1
    generalize hv : oi (u_num (E.getD k [])) = v at en
    obtain ⟨σ', b1, b2⟩ := ih (k + 1) z w (x_updR σ 51 21 v) (hE.of (by simp [x_updR]) rfl rfl rfl) (by omega) (by omega) (by simp [x_updR]; exact hw) hw2 hw0
    refine ⟨σ', ?_, b2⟩
    rw [← b1, x_Model_checkLength_27]
    unfold x_Model_checkLength_73 x_Model_checkLength_69 x_Model_checkLength_74
    simp only [m_blameW hw hw2 hw0, Option.bind_some, x_let]
    rw [hE.1, if_neg (mt (iN_le (by omega) (by omega)).mp (by omega)), if_pos ((iN_in (by omega)).mpr (by omega)), if_pos ((iN_in (by omega)).mpr (by omega)), iN_clamp (by omega), en, Option.bind_some, iN_1a]
    simp only [ite_self]
theorem m_len0 {E : List (List Nat)} (hl : E.length < 512) {v : Nat} (hv : v < 1000000000) : ∀ d k fuel (σ : St), 0 < k → Me σ E → k + d = E.length → d < fuel → σ.1 51 25 = iN 0 → σ.1 51 21 = iN v → ∃ σ', x_Model_checkLength_27 fuel (iN k) σ = some σ' ∧ σ'.1 51 25 = iN (if (E.drop k).all (fun x => decide (u_num x = some v)) then h_num (some v) else 400) ∧ ((E.drop k).all (fun x => decide (u_num x = some v)) = true → σ'.1 51 21 = iN v) := by
  intro d
  induction d with
  | zero =>
    intro k fuel σ h0 hE hk hf hw hd
    obtain ⟨z, rfl⟩ := x_fuelS (show 0 < fuel by omega)
    rw [List.drop_eq_nil_of_le (by omega), List.all_nil, if_pos rfl, x_Model_checkLength_27]
    unfold x_Model_checkLength_107 h_num
    rw [hE.1, if_pos ((iN_le (by omega) (by omega)).mpr (by omega)), hd]
    by_cases q : 200 < v
    · rw [if_pos (show (200 : Int32) < iN v from (iN_lt (a := 200) (by omega) (by omega)).mpr q), m_blame0 hw, Option.bind_some]
      refine ⟨_, rfl, ?_, fun _ => ?_⟩
      · show (x_updR σ 51 25 413).1 51 25 = iN (if 200 < v then 413 else 0)
        rw [if_pos q]
        simp [x_updR]
        rfl
      · simp [x_updR]
        exact hd
    · rw [if_neg (show ¬ (200 : Int32) < iN v from mt (iN_lt (a := 200) (by omega) (by omega)).mp q), m_blame1, Option.bind_some]
      refine ⟨_, rfl, ?_, fun _ => hd⟩
      show σ.1 51 25 = iN (if 200 < v then 413 else 0)
      rw [if_neg q]
      exact hw
  | succ d ih =>
    intro k fuel σ h0 hE hk hf hw hd
    obtain ⟨z, rfl⟩ := x_fuelS (show 0 < fuel by omega)
    obtain ⟨en, el⟩ := hE.num (show k < E.length by omega)
    rw [drop_all _ E k [] (by omega)]
    have pre : x_Model_checkLength_27 (z + 1) (iN k) σ = x_Model_checkLength_74 (x_Model_checkLength_27 z) (iN k) (oi (u_num (E.getD k []))) (bi (decide (u_num (E.getD k []) = some v))) σ := by
      rw [x_Model_checkLength_27]
      unfold x_Model_checkLength_73 x_Model_checkLength_69
      rw [hE.1, if_neg (mt (iN_le (by omega) (by omega)).mp (by omega)), if_pos ((iN_in (by omega)).mpr (by omega)), if_pos ((iN_in (by omega)).mpr (by omega)), iN_clamp (by omega), en, Option.bind_some, if_neg (mt (iN_eq0 (by omega)).mp (show ¬ k = 0 by omega)), hd]
      cases hu : u_num (E.getD k []) with
      | none =>
        rw [if_pos (show oi none < 0 by decide)]
        rfl
      | some v2 =>
        have hv2 := el v2 hu
        rw [if_neg (show ¬ oi (some v2) < 0 from iN_lt0 (by omega))]
        by_cases q : v2 = v
        · subst q
          rw [if_pos (show oi (some v2) = iN v2 from rfl), decide_eq_true rfl]
          rfl
        · rw [if_neg (show ¬ oi (some v2) = iN v from mt (iN_eq (by omega) (by omega)).mp q), decide_eq_false (fun z => q (by simpa using z))]
          rfl
    rw [pre]
    unfold x_Model_checkLength_74
    by_cases q : u_num (E.getD k []) = some v
    · rw [q, decide_eq_true rfl, bi_t, m_blame1, Option.bind_some, Bool.true_and]
      simp only [x_let]
      rw [iN_1a]
      exact ih (k + 1) z _ (by omega) (hE.of (by simp [x_updR]) rfl rfl rfl) (by omega) (by omega) (by simp [x_updR]; exact hw) (by simp [x_updR]; rfl)
    · rw [decide_eq_false q, bi_f, m_blame0 hw, Option.bind_some, Bool.false_and]
      simp only [x_let]
      rw [iN_1a]
      obtain ⟨σ', b1, b2⟩ := m_len1 hl d (k + 1) z 400 (x_updR (x_updR σ 51 25 400) 51 21 (oi (u_num (E.getD k [])))) (hE.of (by simp [x_updR]) rfl rfl rfl) (by omega) (by omega) (by simp [x_updR]; rfl) (by decide) (by decide)
      exact ⟨σ', b1, by rw [b2]; rfl, fun z => by cases z⟩
theorem m_checkLength {σ : St} {nf : Nat} {F : Nat → Ln} (hF : Mf σ nf F) (hw : σ.1 51 25 = iN 0) (hc : ¬ f_cnt F (wd_ 8) 0 nf = 0) : ∃ σ', x_Model_checkLength σ = some σ' ∧ σ'.1 51 25 = iN (h_cl F nf) ∧ (h_cl F nf = 0 → σ'.1 51 21 = iN (h_len F nf)) := by
  have hn := hF.2.1
  obtain ⟨s1, b1, b2⟩ := m_list hF MW_23
  have fp := fp_Model_list _ _ b1
  have hw1 : s1.1 51 25 = iN 0 := by rw [fp.1 _ _ (by simp)]; exact hw
  have hl := f_els_len F (wd_ 8) nf 0 (fun k _ hk => (hF.2.2 k (by omega)).1)
  unfold x_Model_checkLength x_Model_checkLength_19 h_cl h_len
  rw [show (23 : Int32) = iN 23 from rfl, b1, Option.bind_some, b2.1, if_neg hc, if_neg hc]
  generalize f_els F (wd_ 8) 0 nf = E at *
  by_cases z0 : E.length = 0
  · have hE : E = [] := List.length_eq_zero_iff.mp z0
    rw [if_pos ((iN_le0 (by omega)).mpr z0), m_blame0 hw1, Option.bind_some]
    obtain ⟨σ', c1, c2⟩ := m_len1 (E := E) (by omega) 0 0 x_fuel 400 (x_updR s1 51 25 400) (b2.of (by simp [x_updR]) rfl rfl rfl) (by omega) (by decide) (by simp [x_updR]; rfl) (by decide) (by decide)
    refine ⟨σ', c1, ?_, ?_⟩
    · rw [c2, hE]
      rfl
    · rw [hE]
      intro z
      simp [h_num, u_num, s_number] at z
  · obtain ⟨en, el⟩ := b2.num (show 0 < E.length by omega)
    rw [if_neg (mt (iN_le0 (by omega)).mp z0), m_blame1, Option.bind_some, show x_fuel = 4095 + 1 from rfl, x_Model_checkLength_27]
    unfold x_Model_checkLength_73 x_Model_checkLength_69 x_Model_checkLength_74
    rw [b2.1, if_neg (show ¬ iN E.length ≤ 0 from mt (iN_le0 (by omega)).mp z0), if_pos (show x_in 0 512 by decide), if_pos (show x_in 0 512 by decide), show (0 : Int32).toNatClampNeg = 0 from rfl, en, Option.bind_some]
    cases hu : u_num (E.getD 0 []) with
    | none =>
      rw [if_pos (show oi none < 0 by decide), m_blame0 hw1, Option.bind_some]
      simp only [x_let]
      obtain ⟨σ', c1, c2⟩ := m_len1 (E := E) (by omega) (E.length - 1) 1 4095 400 (x_updR (x_updR s1 51 25 400) 51 21 (oi none)) (b2.of (by simp [x_updR]) rfl rfl rfl) (by omega) (by omega) (by simp [x_updR]; rfl) (by decide) (by decide)
      refine ⟨σ', c1, ?_, fun z => ?_⟩
      · rw [c2]
        unfold h_num
        simp
      · unfold h_num at z
        simp at z
    | some v =>
      have hv := el v hu
      rw [if_neg (show ¬ oi (some v) < 0 from iN_lt0 (by omega)), if_pos rfl, m_blame1, Option.bind_some]
      simp only [x_let]
      obtain ⟨σ', c1, c2, c3⟩ := m_len0 (E := E) (by omega) hv (E.length - 1) 1 4095 (x_updR s1 51 21 (oi (some v))) (by decide) (b2.of (by simp [x_updR]) rfl rfl rfl) (by omega) (by omega) (by simp [x_updR]; exact hw1) (by simp [x_updR]; rfl)
      refine ⟨σ', c1, c2, fun z => c3 ?_⟩
      by_cases q : (E.drop 1).all (fun x => decide (u_num x = some v)) = true
      · exact q
      · rw [if_neg q] at z
        cases z
