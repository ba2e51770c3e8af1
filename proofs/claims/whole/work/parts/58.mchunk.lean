/-! fields, trailers and chunks in the reference -/
theorem m_copyF {n : Nat} {f : Nat → Nat} (hn : n ≤ 80) {nf : Nat} (hnf : nf < 12) : ∀ d k fuel (σ : St), k + d = n → d < fuel → Ml σ n f → σ.1 51 17 = iN nf → (∀ j, j < k → σ.2.1 59 (80 * nf + j) = iN (f j)) → ∃ σ', x_Model_takeField_167 fuel (iN k) σ = some σ' ∧ (∀ j, j < n → σ'.2.1 59 (80 * nf + j) = iN (f j)) ∧ (∀ j, j < 80 * nf → σ'.2.1 59 j = σ.2.1 59 j) ∧ σ'.1 51 17 = iN (nf + 1) ∧ xFp [(51, 17)] [59] (false, false, false) σ σ' := by
  intro d
  induction d with
  | zero =>
    intro k fuel σ hk hf hL h17 hT
    obtain ⟨z, rfl⟩ := x_fuelS (show 0 < fuel by omega)
    rw [show k = n by omega] at hT ⊢
    refine ⟨x_updR σ 51 17 (iN (nf + 1)), ?_, hT, fun _ _ => rfl, by simp [x_updR], xFp.R rfl (by simp)⟩
    rw [x_Model_takeField_167]
    simp (disch := omega) only [iN_lt, iN_le, iN_eq, iN_add, iN_sub, iN_mul, iN_in, iN_clamp, iN_1a, iN_1e, iN_1l, iN_l1, iN_0e, iN_0l, iN_l0, iN_pred, iN_sub1, iN_1le, il_2, il_3, il_4, il_5, il_6, il_7, il_8, il_9, il_10, il_12, il_13, il_16, il_20, il_32, il_34, il_37, il_42, il_44, il_45, il_46, il_47, il_48, il_49, il_57, il_58, il_59, il_63, il_80, il_97, il_200, il_205, il_400, il_404, il_405, il_413, il_414, il_416, il_417, il_431, il_501, il_505, il_2000, if_pos, if_neg, Option.bind_some, x_let, x_bind2_some, x_opt, hL.1, h17]
  | succ d ih =>
    intro k fuel σ hk hf hL h17 hT
    obtain ⟨z, rfl⟩ := x_fuelS (show 0 < fuel by omega)
    have hb := hL.2.2 k (by omega)
    have hL1 : Ml (x_updM σ 59 (80 * nf + k) (iN (f k))) n f := hL.of rfl (by funext j; simp [x_updM])
    obtain ⟨σ', a1, a2, a3, a4, a5⟩ := ih (k + 1) z (x_updM σ 59 (80 * nf + k) (iN (f k))) (by omega) (by omega) hL1 h17 (fun j hj => by
      show (if 59 = 59 ∧ 80 * nf + j = 80 * nf + k then iN (f k) else σ.2.1 59 (80 * nf + j)) = _
      by_cases q : j = k
      · rw [if_pos ⟨rfl, by omega⟩, q]
      · rw [if_neg (fun z => q (by omega))]
        exact hT j (by omega))
    refine ⟨σ', ?_, a2, fun j hj => ?_, a4, (xFp.M rfl (by simp)).tr a5⟩
    · rw [← a1, x_Model_takeField_167]
      simp (disch := omega) only [iN_lt, iN_le, iN_eq, iN_add, iN_sub, iN_mul, iN_in, iN_clamp, iN_1a, iN_1e, iN_1l, iN_l1, iN_0e, iN_0l, iN_l0, iN_pred, iN_sub1, iN_1le, il_2, il_3, il_4, il_5, il_6, il_7, il_8, il_9, il_10, il_12, il_13, il_16, il_20, il_32, il_34, il_37, il_42, il_44, il_45, il_46, il_47, il_48, il_49, il_57, il_58, il_59, il_63, il_80, il_97, il_200, il_205, il_400, il_404, il_405, il_413, il_414, il_416, il_417, il_431, il_501, il_505, il_2000, if_pos, if_neg, Option.bind_some, x_let, x_bind2_some, x_opt, hL.1, h17, hb.1]
    · rw [a3 j hj]
      exact if_neg (fun z => by omega)
def t_full (st nf tr : Nat) : Bool := if st = 1 then decide (nf < 12) else decide (tr < 4)
theorem m_tf109 {σ : St} {n : Nat} {f : Nat → Nat} (hL : Ml σ n f) {nf : Nat} {F : Nat → Ln} (hF : Mf σ nf F) {st tr : Nat} (hst : st = 1 ∨ st = 5) (h8 : σ.1 51 8 = iN st) (h24 : st = 5 → σ.1 51 24 = iN tr) (htr : tr ≤ 4) {w : Nat} (hw : σ.1 51 25 = iN w) (hw2 : w < 1000) (hok : w = 0 → f_ok (n, f)) : ∃ σ', x_Model_takeField_109 (iN (f_c (n, f))) (bi (t_full st nf tr)) σ = some σ' ∧ σ'.1 51 25 = iN (w_then w (t_full st nf tr) 431) ∧ (w_then w (t_full st nf tr) 431 = 0 → (st = 1 → Mf σ' (nf + 1) (F_add F nf (n, f))) ∧ (st = 5 → σ'.1 51 24 = iN (tr + 1) ∧ Mf σ' nf F)) := by
  obtain ⟨s1, a1, a2, a3, a4⟩ := m_blame hw hw2 (t_full st nf tr) (c := 431) (by decide)
  have a2' : s1.1 51 25 = iN (w_then w (t_full st nf tr) 431) := a2
  have hn := hL.2.1
  have hnf := hF.2.1
  have hwl : w_then w (t_full st nf tr) 431 < 1000 := w_then_lt hw2 (by decide)
  unfold x_Model_takeField_109
  rw [show (431 : Int32) = iN 431 from rfl, a1, Option.bind_some, a2']
  by_cases q : w_then w (t_full st nf tr) 431 = 0
  · rw [if_pos ((iN_le0 (by omega)).mpr q)]
    have q1 : w = 0 ∧ t_full st nf tr = true := by
      unfold w_then at q
      by_cases z : w = 0
      · rw [if_neg (by simp [z])] at q
        cases hp : t_full st nf tr
        · rw [hp] at q
          simp at q
        · exact ⟨z, rfl⟩
      · rw [if_pos z] at q
        omega
    have e := a3 (Or.inr q1.2)
    subst e
    rw [h8]
    rcases hst with hst | hst
    · subst hst
      have hlt : nf < 12 := by simpa [t_full] using q1.2
      rw [if_neg (show ¬ iN 1 = 5 by decide), hF.1, if_pos ((iN_in (by omega)).mpr (by omega)), iN_clamp (by omega)]
      simp only [x_let]
      rw [show (x_updM s1 60 nf (iN (f_c (n, f)))).1 51 17 = iN nf from hF.1, show (x_updM s1 60 nf (iN (f_c (n, f)))).1 51 10 = iN n from hL.1, if_pos ((iN_in (by omega)).mpr (by omega)), iN_clamp (by omega)]
      generalize hs2 : x_updM (x_updM s1 60 nf (iN (f_c (n, f)))) 61 nf (iN n) = s2
      have hL2 : Ml s2 n f := by rw [← hs2]; exact hL.of rfl (by funext j; simp [x_updM])
      obtain ⟨σ', c1, c2, c3, c4, c5⟩ := m_copyF hn hlt n 0 x_fuel s2 (by omega) (by unfold x_fuel; omega) hL2 (by rw [← hs2]; exact hF.1) (fun j hj => absurd hj (Nat.not_lt_zero j))
      refine ⟨σ', c1, ?_, fun _ => ⟨fun _ => ⟨c4, by omega, fun k hk => ?_⟩, fun z => by omega⟩⟩
      · rw [c5.1 _ _ (by simp), ← hs2, q]
        show s1.1 51 25 = iN 0
        rw [hw, q1.1]
      · have e60 : σ'.2.1 60 = s2.2.1 60 := c5.2.1 _ (by simp)
        have e61 : σ'.2.1 61 = s2.2.1 61 := c5.2.1 _ (by simp)
        by_cases hk2 : k = nf
        · subst hk2
          rw [show F_add F k (n, f) k = (n, f) from if_pos rfl]
          refine ⟨hok q1.1, by rw [e60, ← hs2]; simp [x_updM], by rw [e61, ← hs2]; simp [x_updM], fun j hj => ⟨c2 j hj, (hL.2.2 j hj).2⟩⟩
        · rw [show F_add F nf (n, f) k = F k from if_neg hk2]
          obtain ⟨z1, z2, z3, z4⟩ := hF.2.2 k (by omega)
          refine ⟨z1, by rw [e60, ← hs2]; simp [x_updM, hk2]; exact z2, by rw [e61, ← hs2]; simp [x_updM, hk2]; exact z3, fun j hj => ?_⟩
          have hz := z1.1
          rw [c3 _ (by omega), ← hs2]
          exact z4 j hj
    · subst hst
      rw [if_pos (show iN 5 = 5 from rfl), h24 rfl]
      refine ⟨_, rfl, ?_, fun _ => ⟨fun z => by omega, fun _ => ⟨?_, ?_⟩⟩⟩
      · simp [x_updR]
        rw [hw, q, q1.1]
      · simp [x_updR]
        exact iN_1a
      · exact hF.of (by simp [x_updR]) rfl rfl rfl
  · rw [if_neg (mt (iN_le0 (by omega)).mp q)]
    exact ⟨s1, rfl, a2', fun z => absurd z q⟩
theorem m_tf40 {n : Nat} {f : Nat → Nat} {nf : Nat} {F : Nat → Ln} {st tr : Nat} (hst : st = 1 ∨ st = 5) (htr : tr ≤ 4) (l1 : Int32) : ∀ d k fuel w (σ : St), Ml σ n f → Mf σ nf F → σ.1 51 8 = iN st → (st = 5 → σ.1 51 24 = iN tr) → σ.1 51 25 = iN w → w < 1000 → n ≤ k + d → k ≤ n + 1 → (0 < d → k + d = n) → d < fuel → ∃ σ', x_Model_takeField_40 fuel l1 (iN k) σ = x_Model_takeField_109 l1 (bi (t_full st nf tr)) σ' ∧ σ'.1 51 25 = iN (w_then w (s_all k_shown f k d) 400) ∧ xFp [(51, 25)] [] (false, false, false) σ σ' := by
  intro d
  induction d with
  | zero =>
    intro k fuel w σ hL hF h8 h24 hw hw2 hk hk2 hk3 hf
    obtain ⟨z, rfl⟩ := x_fuelS (show 0 < fuel by omega)
    have hn := hL.2.1
    have hnf := hF.2.1
    refine ⟨σ, ?_, by rw [s_all, w_then_t]; exact hw, xFp.rf⟩
    rw [x_Model_takeField_40, hL.1, if_pos ((iN_le (by omega) (by omega)).mpr (by omega)), h8, hF.1]
    unfold t_full
    rcases hst with hst | hst
    · subst hst
      rw [if_pos (show iN 1 = 1 from rfl), if_pos rfl]
      by_cases q : nf < 12
      · rw [if_neg (show ¬ (12 : Int32) ≤ iN nf from mt (iN_le (a := 12) (by omega) (by omega)).mp (by omega)), decide_eq_true q]
        rfl
      · rw [if_pos (show (12 : Int32) ≤ iN nf from (iN_le (a := 12) (by omega) (by omega)).mpr (by omega)), decide_eq_false q]
        rfl
    · subst hst
      rw [if_neg (show ¬ iN 5 = 1 by decide), if_neg (show ¬ 5 = 1 by decide), h24 rfl]
      by_cases q : tr < 4
      · rw [if_neg (show ¬ (4 : Int32) ≤ iN tr from mt (iN_le (a := 4) (by omega) (by omega)).mp (by omega)), decide_eq_true q]
        rfl
      · rw [if_pos (show (4 : Int32) ≤ iN tr from (iN_le (a := 4) (by omega) (by omega)).mpr (by omega)), decide_eq_false q]
        rfl
  | succ d ih =>
    intro k fuel w σ hL hF h8 h24 hw hw2 hk hk2 hk3 hf
    obtain ⟨z, rfl⟩ := x_fuelS (show 0 < fuel by omega)
    have hn := hL.2.1
    have hkn := hk3 (by omega)
    have hb := hL.2.2 k (by omega)
    obtain ⟨s1, a1, a2, a3, a4⟩ := m_blame hw hw2 (k_shown (f k)) (c := 400) (by decide)
    have a2' : s1.1 51 25 = iN (w_then w (k_shown (f k)) 400) := a2
    obtain ⟨σ', b1, b2, b3⟩ := ih (k + 1) z _ s1 (hL.of (a4.1 _ _ (by simp)) (a4.2.1 _ (by simp))) (hF.of (a4.1 _ _ (by simp)) (a4.2.1 _ (by simp)) (a4.2.1 _ (by simp)) (a4.2.1 _ (by simp))) (by rw [a4.1 _ _ (by simp)]; exact h8) (fun z => by rw [a4.1 _ _ (by simp)]; exact h24 z) a2' (w_then_lt hw2 (by decide)) (by omega) (by omega) (fun _ => by omega) (by omega)
    refine ⟨σ', ?_, by rw [b2, w_then_2, s_all], a4.tr b3⟩
    rw [← b1, x_Model_takeField_40, hL.1, if_neg (mt (iN_le (by omega) (by omega)).mp (by omega)), if_pos ((iN_in (by omega)).mpr (by omega)), iN_clamp (by omega), hb.1, m_shown _ hb.2, Option.bind_some, show (400 : Int32) = iN 400 from rfl, a1, Option.bind_some]
    simp only [x_let]
    rw [iN_1a]
def t_code (f : Nat → Nat) (n st nf tr : Nat) : Nat := if q_colon f n = none then 400 else if t_full st nf tr then 0 else 431
theorem q_colon_ok {f : Nat → Nat} {n : Nat} (hn : n ≤ 80) (h : ¬ q_colon f n = none) : f_ok (n, f) := by
  unfold q_colon at h
  simp only at h
  by_cases q : s_first (fun c => c == 58) f 0 n < n ∧ 0 < s_first (fun c => c == 58) f 0 n ∧ s_all k_tok f 0 (s_first (fun c => c == 58) f 0 n) = true ∧ s_all k_shown f (s_first (fun c => c == 58) f 0 n + 1) (n - (s_first (fun c => c == 58) f 0 n + 1)) = true
  · exact ⟨hn, q.2.1, q.1⟩
  · rw [if_neg q] at h
    exact absurd rfl h
theorem m_takeField {σ : St} {n : Nat} {f : Nat → Nat} (hL : Ml σ n f) {nf : Nat} {F : Nat → Ln} (hF : Mf σ nf F) {st tr : Nat} (hst : st = 1 ∨ st = 5) (h8 : σ.1 51 8 = iN st) (h24 : st = 5 → σ.1 51 24 = iN tr) (htr : tr ≤ 4) (hw : σ.1 51 25 = iN 0) : ∃ σ', x_Model_takeField σ = some σ' ∧ σ'.1 51 25 = iN (t_code f n st nf tr) ∧ (t_code f n st nf tr = 0 → (st = 1 → Mf σ' (nf + 1) (F_add F nf (n, f))) ∧ (st = 5 → σ'.1 51 24 = iN (tr + 1) ∧ Mf σ' nf F)) := by
  have hn := hL.2.1
  have e1 : x_Model_find (iN 58) 0 σ = some (iN (f_c (n, f))) := m_find hL (b := 58) (i := 0) (by decide) (by omega)
  have hle : f_c (n, f) ≤ n := by
    have := (s_first_le (fun c => c == 58) f n 0).2
    unfold f_c
    simp only
    omega
  have st1 : x_Model_takeField σ = x_Model_takeField_30 (iN (f_c (n, f))) (bi (decide (f_c (n, f) < n) && (decide (0 < f_c (n, f)) && s_all k_tok f 0 (f_c (n, f))))) σ := by
    unfold x_Model_takeField x_Model_takeField_29
    rw [show (58 : Int32) = iN 58 from rfl, e1, Option.bind_some, hL.1]
    by_cases q : f_c (n, f) < n
    · rw [if_neg (mt (iN_le (by omega) (by omega)).mp (by omega)), m_isToken hL (by omega), Option.bind_some, decide_eq_true q]
      cases (decide (0 < f_c (n, f)) && s_all k_tok f 0 (f_c (n, f))) <;> rfl
    · rw [if_pos ((iN_le (by omega) (by omega)).mpr (by omega)), decide_eq_false q]
      rfl
  rw [st1]
  unfold x_Model_takeField_30
  obtain ⟨s1, a1, a2, a3, a4⟩ := m_blame hw (by decide) (decide (f_c (n, f) < n) && (decide (0 < f_c (n, f)) && s_all k_tok f 0 (f_c (n, f)))) (c := 400) (by decide)
  rw [show (400 : Int32) = iN 400 from rfl, a1, Option.bind_some]
  simp only [x_let]
  rw [iN_1a]
  have a2' : s1.1 51 25 = iN (w_then 0 (decide (f_c (n, f) < n) && (decide (0 < f_c (n, f)) && s_all k_tok f 0 (f_c (n, f)))) 400) := a2
  obtain ⟨s2, b1, b2, b3⟩ := m_tf40 (n := n) (f := f) (nf := nf) (F := F) hst htr (iN (f_c (n, f))) (n - (f_c (n, f) + 1)) (f_c (n, f) + 1) x_fuel _ s1 (hL.of (a4.1 _ _ (by simp)) (a4.2.1 _ (by simp))) (hF.of (a4.1 _ _ (by simp)) (a4.2.1 _ (by simp)) (a4.2.1 _ (by simp)) (a4.2.1 _ (by simp))) (by rw [a4.1 _ _ (by simp)]; exact h8) (fun z => by rw [a4.1 _ _ (by simp)]; exact h24 z) a2' (w_then_lt (by decide) (by decide)) (by omega) (by omega) (fun _ => by omega) (by unfold x_fuel; omega)
  rw [b1]
  rw [w_then_2] at b2
  have fp := a4.tr b3
  have hq : w_then 0 ((decide (f_c (n, f) < n) && (decide (0 < f_c (n, f)) && s_all k_tok f 0 (f_c (n, f)))) && s_all k_shown f (f_c (n, f) + 1) (n - (f_c (n, f) + 1))) 400 = if q_colon f n = none then 400 else 0 := by
    unfold w_then q_colon
    simp only
    show _ = if (if f_c (n, f) < n ∧ 0 < f_c (n, f) ∧ s_all k_tok f 0 (f_c (n, f)) = true ∧ s_all k_shown f (f_c (n, f) + 1) (n - (f_c (n, f) + 1)) = true then some (f_c (n, f)) else none) = none then 400 else 0
    by_cases y1 : f_c (n, f) < n <;> by_cases y2 : 0 < f_c (n, f) <;> cases s_all k_tok f 0 (f_c (n, f)) <;> cases s_all k_shown f (f_c (n, f) + 1) (n - (f_c (n, f) + 1)) <;> simp [y1, y2]
  rw [hq] at b2
  obtain ⟨σ', c1, c2, c3⟩ := m_tf109 (hL.of (fp.1 _ _ (by simp)) (fp.2.1 _ (by simp))) (hF.of (fp.1 _ _ (by simp)) (fp.2.1 _ (by simp)) (fp.2.1 _ (by simp)) (fp.2.1 _ (by simp))) hst (by rw [fp.1 _ _ (by simp)]; exact h8) (fun z => by rw [fp.1 _ _ (by simp)]; exact h24 z) htr b2 (by split <;> decide) (fun z => q_colon_ok hn (fun y => by rw [if_pos y] at z; cases z))
  have hc : w_then (if q_colon f n = none then 400 else 0) (t_full st nf tr) 431 = t_code f n st nf tr := by
    unfold w_then t_code
    by_cases y : q_colon f n = none
    · simp [y]
    · simp [y]
  rw [hc] at c2 c3
  exact ⟨σ', c1, c2, c3⟩
/-! chunk lines -/
def ck_tail (v : Int32) (σ : St) : Option St := if (200 : Int32) < ((σ.1 51 22) + v) then x_Model_takeChunkLine_137 v (0 : Int32) σ else x_Model_takeChunkLine_137 v (1 : Int32) σ
theorem m_ck1 {n : Nat} {f : Nat → Nat} {e v w : Nat} (he : e ≤ n) {σ : St} (hL : Ml σ n f) (hw : σ.1 51 25 = iN w) (hw2 : w < 1000) (hw0 : ¬ w = 0) : ∀ d k fuel, k + d = n → d < fuel → x_Model_takeChunkLine_33 fuel (iN e) (iN v) (iN k) σ = ck_tail (iN v) σ := by
  have hn := hL.2.1
  intro d
  induction d with
  | zero =>
    intro k fuel hk hf
    obtain ⟨z, rfl⟩ := x_fuelS (show 0 < fuel by omega)
    rw [x_Model_takeChunkLine_33, hL.1, if_pos ((iN_le (by omega) (by omega)).mpr (by omega))]
    rfl
  | succ d ih =>
    intro k fuel hk hf
    obtain ⟨z, rfl⟩ := x_fuelS (show 0 < fuel by omega)
    have hb := hL.2.2 k (by omega)
    rw [← ih (k + 1) z (by omega) (by omega), x_Model_takeChunkLine_33, hL.1, if_neg (mt (iN_le (by omega) (by omega)).mp (by omega))]
    unfold x_Model_takeChunkLine_76 x_Model_takeChunkLine_111 x_Model_takeChunkLine_112
    simp only [m_blameW hw hw2 hw0, Option.bind_some, x_let]
    by_cases q : e ≤ k
    · simp (disch := omega) only [iN_lt, iN_le, iN_eq, iN_add, iN_sub, iN_mul, iN_in, iN_clamp, iN_1a, iN_1e, iN_1l, iN_l1, iN_0e, iN_0l, iN_l0, iN_pred, iN_sub1, iN_1le, il_2, il_3, il_4, il_5, il_6, il_7, il_8, il_9, il_10, il_12, il_13, il_16, il_20, il_32, il_34, il_37, il_42, il_44, il_45, il_46, il_47, il_48, il_49, il_57, il_58, il_59, il_63, il_80, il_97, il_200, il_205, il_400, il_404, il_405, il_413, il_414, il_416, il_417, il_431, il_501, il_505, il_2000, if_pos, if_neg, Option.bind_some, x_let, x_bind2_some, x_opt, hb.1, m_shown _ hb.2]
    · have hw0' : ¬ iN w = 0 := mt (iN_eq0 (by omega)).mp hw0
      simp (disch := omega) only [iN_lt, iN_le, iN_eq, iN_add, iN_sub, iN_mul, iN_in, iN_clamp, iN_1a, iN_1e, iN_1l, iN_l1, iN_0e, iN_0l, iN_l0, iN_pred, iN_sub1, iN_1le, il_2, il_3, il_4, il_5, il_6, il_7, il_8, il_9, il_10, il_12, il_13, il_16, il_20, il_32, il_34, il_37, il_42, il_44, il_45, il_46, il_47, il_48, il_49, il_57, il_58, il_59, il_63, il_80, il_97, il_200, il_205, il_400, il_404, il_405, il_413, il_414, il_416, il_417, il_431, il_501, il_505, il_2000, if_pos, if_neg, Option.bind_some, x_let, x_bind2_some, x_opt, hb.1, m_hex _ hb.2, hw, hw0', ite_self, if_false]
theorem ck_L4 {σ : St} {n : Nat} {f : Nat → Nat} (h : Ml σ n f) : Ml (x_updR σ 51 25 400) n f := h.of (by simp [x_updR]) rfl
theorem ck_w4 (σ : St) : (x_updR σ 51 25 400).1 51 25 = iN 400 := by
  simp [x_updR]
  rfl
theorem m_ck2 {n : Nat} {f : Nat → Nat} {e v : Nat} (he : e ≤ n) {σ : St} (hL : Ml σ n f) (hw : σ.1 51 25 = iN 0) : ∀ d k fuel, e ≤ k → k + d = n → d < fuel → x_Model_takeChunkLine_33 fuel (iN e) (iN v) (iN k) σ = ck_tail (iN v) (if s_all k_shown f k d then σ else x_updR σ 51 25 400) := by
  have hn := hL.2.1
  intro d
  induction d with
  | zero =>
    intro k fuel hek hk hf
    obtain ⟨z, rfl⟩ := x_fuelS (show 0 < fuel by omega)
    rw [x_Model_takeChunkLine_33, hL.1, if_pos ((iN_le (by omega) (by omega)).mpr (by omega)), s_all, if_pos rfl]
    rfl
  | succ d ih =>
    intro k fuel hek hk hf
    obtain ⟨z, rfl⟩ := x_fuelS (show 0 < fuel by omega)
    have hb := hL.2.2 k (by omega)
    rw [x_Model_takeChunkLine_33, hL.1, if_neg (mt (iN_le (by omega) (by omega)).mp (by omega)), if_pos ((iN_le (by omega) (by omega)).mpr (by omega)), if_pos ((iN_in (by omega)).mpr (by omega)), iN_clamp (by omega), hb.1, m_shown _ hb.2, Option.bind_some, s_all]
    unfold x_Model_takeChunkLine_76 x_Model_takeChunkLine_111 x_Model_takeChunkLine_112
    cases k_shown (f k)
    · rw [bi_f, m_blame0 hw, Option.bind_some, if_pos ((iN_le (by omega) (by omega)).mpr (by omega)), Bool.false_and]
      simp only [x_let]
      rw [iN_1a, m_ck1 (w := 400) he (ck_L4 hL) (ck_w4 σ) (by decide) (by decide) d (k + 1) z (by omega) (by omega)]
      rfl
    · rw [bi_t, m_blame1, Option.bind_some, if_pos ((iN_le (by omega) (by omega)).mpr (by omega)), Bool.true_and]
      simp only [x_let]
      rw [iN_1a, ih (k + 1) z (by omega) (by omega) (by omega)]
theorem m_ck0 {n : Nat} {f : Nat → Nat} {e : Nat} (he : e ≤ n) {σ : St} (hL : Ml σ n f) (hw : σ.1 51 25 = iN 0) : ∀ d k fuel v m, k + d = e → n - k < fuel → v < 16 ^ m → m + d ≤ 3 → ∃ v', v' < 4096 ∧ (s_hex f k d v = some v' ∨ s_hex f k d v = none) ∧ x_Model_takeChunkLine_33 fuel (iN e) (iN v) (iN k) σ = ck_tail (iN v') (if (s_hex f k d v).isSome && s_all k_shown f e (n - e) then σ else x_updR σ 51 25 400) := by
  have hn := hL.2.1
  intro d
  induction d with
  | zero =>
    intro k fuel v m hk hf hv hm
    have hp : 16 ^ m ≤ 16 ^ 3 := Nat.pow_le_pow_right (by decide) (by omega)
    refine ⟨v, by omega, Or.inl rfl, ?_⟩
    have := m_ck2 he (v := v) hL hw (n - k) k fuel (by omega) (by omega) (by omega)
    rw [this, show k = e by omega]
    rfl
  | succ d ih =>
    intro k fuel v m hk hf hv hm
    obtain ⟨z, rfl⟩ := x_fuelS (show 0 < fuel by omega)
    have hp : 16 ^ m ≤ 16 ^ 2 := Nat.pow_le_pow_right (by decide) (by omega)
    have hb := hL.2.2 k (by omega)
    have h16 := k_hex_le _ hb.2
    rw [s_hex]
    have pre : x_Model_takeChunkLine_33 (z + 1) (iN e) (iN v) (iN k) σ = x_Model_takeChunkLine_76 (x_Model_takeChunkLine_33 z) (iN e) (iN v) (iN k) (bi (decide (k_hex (f k) < 16))) σ := by
      rw [x_Model_takeChunkLine_33, hL.1, if_neg (mt (iN_le (by omega) (by omega)).mp (by omega)), if_neg (mt (iN_le (by omega) (by omega)).mp (by omega)), if_pos ((iN_in (by omega)).mpr (by omega)), iN_clamp (by omega), hb.1, m_hex _ hb.2, Option.bind_some]
      by_cases q : k_hex (f k) < 16
      · rw [if_neg (fun y => (hx_lt0 h16).mp y q), decide_eq_true q]
        rfl
      · rw [if_pos ((hx_lt0 h16).mpr q), decide_eq_false q]
        rfl
    rw [pre]
    unfold x_Model_takeChunkLine_76 x_Model_takeChunkLine_111 x_Model_takeChunkLine_112
    by_cases q : k_hex (f k) < 16
    · rw [decide_eq_true q, bi_t, m_blame1, Option.bind_some, if_neg (mt (iN_le (by omega) (by omega)).mp (by omega)), hw, if_pos (show iN 0 = 0 from rfl), if_pos ((iN_in (by omega)).mpr (by omega)), iN_clamp (by omega), hb.1, m_hex _ hb.2, Option.bind_some, hx_iN q, if_pos q]
      simp only [x_let]
      rw [iN_1a, show (16 : Int32) * iN v = iN (16 * v) from iN_mul 16 v, iN_add]
      exact ih (k + 1) z (16 * v + k_hex (f k)) (m + 1) (by omega) (by omega) (by rw [Nat.pow_succ]; omega) (by omega)
    · rw [decide_eq_false q, bi_f, m_blame0 hw, Option.bind_some, if_neg (mt (iN_le (by omega) (by omega)).mp (by omega)), ck_w4, if_neg (show ¬ iN 400 = 0 by decide), if_neg q]
      refine ⟨v, by omega, Or.inr rfl, ?_⟩
      simp only [x_let]
      rw [iN_1a, m_ck1 (w := 400) he (ck_L4 hL) (ck_w4 σ) (by decide) (by decide) (n - (k + 1)) (k + 1) z (by omega) (by omega)]
      rfl
def ck_code (f : Nat → Nat) (n b : Nat) : Nat := match q_chunk f n with
  | none => 400
  | some v => if 200 < b + v then 413 else 0
theorem m_takeChunkLine {σ : St} {n : Nat} {f : Nat → Nat} (hL : Ml σ n f) (hw : σ.1 51 25 = iN 0) {b : Nat} (h22 : σ.1 51 22 = iN b) (hb : b ≤ 200) : ∃ σ', x_Model_takeChunkLine σ = some σ' ∧ σ'.1 51 25 = iN (ck_code f n b) ∧ (ck_code f n b = 0 → σ'.1 51 21 = oi (q_chunk f n) ∧ σ'.1 51 8 = if q_chunk f n = some 0 then 5 else 4) := by
  have hn := hL.2.1
  have e1 : x_Model_find (iN 59) 0 σ = some (iN (s_first (fun c => c == 59) f 0 n)) := m_find hL (b := 59) (i := 0) (by decide) (by omega)
  have hle := (s_first_le (fun c => c == 59) f n 0).2
  -- a tail with a fault
  have tb : ∀ v (s : St), s.1 51 25 = iN 400 → ∃ σ', ck_tail (iN v) s = some σ' ∧ σ'.1 51 25 = iN 400 := by
    intro v s hs
    unfold ck_tail x_Model_takeChunkLine_137
    simp only [m_blameW hs (by decide) (by decide), Option.bind_some, x_let]
    have : ∀ p : Prop, ∀ [Decidable p], ∃ σ', (if p then some (x_updR (x_updR s 51 21 (iN v)) 51 8 5) else some (x_updR (x_updR s 51 21 (iN v)) 51 8 4)) = some σ' ∧ σ'.1 51 25 = iN 400 := by
      intro p _
      by_cases hp : p
      · rw [if_pos hp]; exact ⟨_, rfl, by simp [x_updR]; exact hs⟩
      · rw [if_neg hp]; exact ⟨_, rfl, by simp [x_updR]; exact hs⟩
    simp only [ite_self]
    exact this _
  unfold x_Model_takeChunkLine x_Model_takeChunkLine_22
  rw [show (59 : Int32) = iN 59 from rfl, e1, Option.bind_some]
  have hq : q_chunk f n = if 1 ≤ s_first (fun c => c == 59) f 0 n ∧ s_first (fun c => c == 59) f 0 n ≤ 3 ∧ s_all k_shown f (s_first (fun c => c == 59) f 0 n) (n - s_first (fun c => c == 59) f 0 n) = true then s_hex f 0 (s_first (fun c => c == 59) f 0 n) 0 else none := rfl
  unfold ck_code
  rw [hq]
  generalize s_first (fun c => c == 59) f 0 n = e at *
  by_cases g : 1 ≤ e ∧ e ≤ 3
  · have st1 : (if iN e ≤ 0 then x_Model_takeChunkLine_23 (iN e) 0 σ else if (4 : Int32) ≤ iN e then x_Model_takeChunkLine_23 (iN e) 0 σ else x_Model_takeChunkLine_23 (iN e) 1 σ) = x_Model_takeChunkLine_33 x_fuel (iN e) (iN 0) (iN 0) σ := by
      rw [if_neg (mt (iN_le0 (by omega)).mp (by omega)), if_neg (show ¬ (4 : Int32) ≤ iN e from mt (iN_le (a := 4) (by omega) (by omega)).mp (by omega))]
      unfold x_Model_takeChunkLine_23
      rw [m_blame1, Option.bind_some]
      rfl
    rw [st1]
    obtain ⟨v', c1, c2, c3⟩ := m_ck0 (show e ≤ n by omega) hL hw e 0 x_fuel 0 0 (by omega) (by unfold x_fuel; omega) (by decide) (by omega)
    rw [c3]
    cases hs : s_all k_shown f e (n - e)
    · rw [show (if 1 ≤ e ∧ e ≤ 3 ∧ false = true then s_hex f 0 e 0 else none) = none from if_neg (by simp), Bool.and_false, if_neg (by simp)]
      obtain ⟨σ', d1, d2⟩ := tb v' (x_updR σ 51 25 400) (by simp [x_updR]; rfl)
      exact ⟨σ', d1, d2, fun z => by simp at z⟩
    · rw [show (if 1 ≤ e ∧ e ≤ 3 ∧ true = true then s_hex f 0 e 0 else none) = s_hex f 0 e 0 from if_pos ⟨g.1, g.2, rfl⟩, Bool.and_true]
      rcases c2 with c2 | c2
      · rw [c2, show (some v').isSome = true from rfl, if_pos rfl]
        unfold ck_tail x_Model_takeChunkLine_137
        rw [h22, iN_add]
        by_cases q : 200 < b + v'
        · rw [if_pos (show (200 : Int32) < iN (b + v') from (iN_lt (a := 200) (by omega) (by omega)).mpr q), m_blame0 hw, Option.bind_some]
          simp only [x_let]
          rw [show (if 200 < b + v' then 413 else 0) = 413 from if_pos q]
          by_cases q2 : iN v' ≤ 0
          · rw [if_pos q2]; exact ⟨_, rfl, by simp [x_updR]; rfl, fun z => by simp at z⟩
          · rw [if_neg q2]; exact ⟨_, rfl, by simp [x_updR]; rfl, fun z => by simp at z⟩
        · rw [if_neg (show ¬ (200 : Int32) < iN (b + v') from mt (iN_lt (a := 200) (by omega) (by omega)).mp q), m_blame1, Option.bind_some]
          simp only [x_let]
          rw [show (if 200 < b + v' then 413 else 0) = 0 from if_neg q]
          by_cases q2 : v' = 0
          · rw [if_pos ((iN_le0 (by omega)).mpr q2), q2]
            exact ⟨_, rfl, by simp [x_updR]; exact hw, fun _ => ⟨by simp [x_updR]; rfl, by simp [x_updR]⟩⟩
          · rw [if_neg (mt (iN_le0 (by omega)).mp q2)]
            exact ⟨_, rfl, by simp [x_updR]; exact hw, fun _ => ⟨by simp [x_updR]; rfl, by simp [x_updR, q2]⟩⟩
      · rw [c2, show (none : Option Nat).isSome = false from rfl, if_neg (by simp)]
        obtain ⟨σ', d1, d2⟩ := tb v' (x_updR σ 51 25 400) (by simp [x_updR]; rfl)
        exact ⟨σ', d1, d2, fun z => by simp at z⟩
  · rw [show (if 1 ≤ e ∧ e ≤ 3 ∧ s_all k_shown f e (n - e) = true then s_hex f 0 e 0 else none) = none from if_neg (fun z => g ⟨z.1, z.2.1⟩)]
    have st1 : (if iN e ≤ 0 then x_Model_takeChunkLine_23 (iN e) 0 σ else if (4 : Int32) ≤ iN e then x_Model_takeChunkLine_23 (iN e) 0 σ else x_Model_takeChunkLine_23 (iN e) 1 σ) = x_Model_takeChunkLine_33 x_fuel (iN e) (iN 0) (iN 0) (x_updR σ 51 25 400) := by
      have e23 : x_Model_takeChunkLine_23 (iN e) 0 σ = x_Model_takeChunkLine_33 x_fuel (iN e) (iN 0) (iN 0) (x_updR σ 51 25 400) := by
        unfold x_Model_takeChunkLine_23
        rw [m_blame0 hw, Option.bind_some]
        rfl
      by_cases q : e = 0
      · rw [if_pos ((iN_le0 (by omega)).mpr q)]
        exact e23
      · rw [if_neg (mt (iN_le0 (by omega)).mp q), if_pos (show (4 : Int32) ≤ iN e from (iN_le (a := 4) (by omega) (by omega)).mpr (by omega))]
        exact e23
    rw [st1, m_ck1 (w := 400) (show e ≤ n by omega) (ck_L4 hL) (ck_w4 σ) (by decide) (by decide) n 0 x_fuel (by omega) (by unfold x_fuel; omega)]
    obtain ⟨σ', d1, d2⟩ := tb 0 (x_updR σ 51 25 400) (by simp [x_updR]; rfl)
    exact ⟨σ', d1, d2, fun z => by simp at z⟩
