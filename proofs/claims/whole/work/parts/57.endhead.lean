/-! the end of a head -/
theorem h_cl_len {F : Nat → Ln} {nf : Nat} (h : h_cl F nf = 0) : h_len F nf ≤ 200 := by
  unfold h_cl at h
  unfold h_len
  by_cases c : f_cnt F (wd_ 8) 0 nf = 0
  · rw [if_pos c]; omega
  · rw [if_neg c] at h ⊢
    by_cases q : ((f_els F (wd_ 8) 0 nf).drop 1).all (fun v => decide (u_num v = u_num ((f_els F (wd_ 8) 0 nf).getD 0 []))) = true
    · rw [if_pos q] at h
      cases hu : u_num ((f_els F (wd_ 8) 0 nf).getD 0 []) with
      | none => simp
      | some v =>
        rw [hu] at h
        unfold h_num at h
        simp at h
        simpa using h
    · rw [if_neg q] at h
      cases h
theorem h_te_cl {F : Nat → Ln} {nf : Nat} {old : Bool} (h : h_te F nf old = 0) (hc : ¬ f_cnt F (wd_ 7) 0 nf = 0) : f_cnt F (wd_ 8) 0 nf = 0 := by
  unfold h_te at h
  rw [if_neg hc] at h
  by_cases q : old = true ∨ 0 < f_cnt F (wd_ 8) 0 nf
  · rw [if_pos q] at h
    cases h
  · omega
theorem h_te_val (F : Nat → Ln) (nf : Nat) (old : Bool) : h_te F nf old = 0 ∨ h_te F nf old = 400 ∨ h_te F nf old = 501 := by
  unfold h_te
  repeat' split
  all_goals simp
theorem h_cl_val (F : Nat → Ln) (nf : Nat) : h_cl F nf = 0 ∨ h_cl F nf = 400 ∨ h_cl F nf = 413 := by
  unfold h_cl h_num
  repeat' split
  all_goals simp
theorem h_ex_val (F : Nat → Ln) (nf : Nat) (old : Bool) : h_ex F nf old = 0 ∨ h_ex F nf old = 417 := by
  unfold h_ex
  repeat' split
  all_goals simp
theorem h_code_val (F : Nat → Ln) (nf : Nat) (old : Bool) : h_code F nf old = 0 ∨ h_code F nf old = 400 ∨ h_code F nf old = 413 ∨ h_code F nf old = 417 ∨ h_code F nf old = 501 := by
  unfold h_code
  have h1 := h_te_val F nf old
  have h2 := h_cl_val F nf
  have h3 := h_ex_val F nf old
  repeat' split
  all_goals omega
/-- what the end of the head answers in the class -/
def h_ans (F : Nat → Ln) (nf : Nat) (old : Bool) : Nat := if ¬ h_code F nf old = 0 then h_code F nf old else if h_chk F nf = false ∧ h_len F nf = 0 then 3 else if h_goes F nf old then 100 else 0
theorem c_eh44 (l1 : Int32) (σ : St) (h : ¬ l1 = 0) : x_Reader_endHead_44 l1 σ = some (l1, σ) := if_neg h
theorem c_endHead {σ : St} {nf tn : Nat} {F : Nat → Ln} {tf : Nat → Nat} (h : Cf σ nf F tn tf) {ld : Nat} (hd : σ.1 30 4 = iN ld) (hl : ld < 256) (h5 : σ.1 30 5 = 0) (h6 : σ.1 30 6 = 0) (h7 : σ.1 30 7 = 0) : ∃ σ', x_Reader_endHead σ = some (iN (h_ans F nf (decide (ld = 48))), σ') ∧ (h_code F nf (decide (ld = 48)) = 0 → σ'.1 30 8 = bi (h_last F nf (decide (ld = 48))) ∧ σ'.1 30 5 = bi (h_chk F nf) ∧ σ'.1 30 6 = iN (h_len F nf) ∧ (¬ (h_chk F nf = false ∧ h_len F nf = 0) → σ'.1 27 2 = if h_chk F nf then 3 else 2)) := by
  have cof : ∀ {R : List (Nat × Nat)} {s s' : St}, xFp R [38, 39] (false, false, false) s s' → (31, 5) ∉ R → (32, 1) ∉ R → Cf s nf F tn tf → Cf s' nf F tn tf := fun fp r1 r2 hc => hc.of (fp.1 _ _ r1) (fp.1 _ _ r2) (fp.2.1 _ (by simp)) (fp.2.1 _ (by simp)) (fp.2.1 _ (by simp)) (fp.2.1 _ (by simp)) (fp.2.1 _ (by simp))
  have nz : ∀ c, c < 1000 → ¬ c = 0 → ¬ iN c = 0 := fun c h1 h2 => mt (iN_eq0 (by omega)).mp h2
  have v1 := h_te_val F nf (decide (ld = 48))
  have v2 := h_cl_val F nf
  have v3 := h_ex_val F nf (decide (ld = 48))
  unfold x_Reader_endHead h_ans h_code
  rw [c_checkHost h hd hl, Option.bind_some]
  cases hh : h_host F nf (decide (ld = 48))
  · rw [if_pos rfl, if_neg (by decide)]
    unfold x_Reader_endHead_20 x_Reader_endHead_32
    rw [if_neg (by decide), if_neg (by decide), c_eh44 _ _ (by decide)]
    exact ⟨σ, rfl, fun z => by simp at z⟩
  · rw [if_neg (show ¬ true = false by decide), if_pos (show iN 0 = 0 from rfl)]
    simp only [Bool.true_eq_false, if_false]
    obtain ⟨s1, a1, a2⟩ := c_checkTE h hd hl h5
    have fp1 := fp_Request_checkTransferEncoding _ a1
    rw [a1, x_bind2_some]
    unfold x_Reader_endHead_20
    by_cases q1 : h_te F nf (decide (ld = 48)) = 0
    · rw [if_pos (show iN (h_te F nf (decide (ld = 48))) = 0 by rw [q1]; rfl)]
      simp only [q1, not_true, if_false]
      have h1 := cof fp1 (by simp) (by simp) h
      obtain ⟨s2, b1, b2⟩ := c_checkCL h1 (by rw [fp1.1 _ _ (by simp)]; exact h6)
      have fp2 := fp_Request_checkContentLength _ b1
      rw [b1, x_bind2_some]
      unfold x_Reader_endHead_32
      by_cases q2 : h_cl F nf = 0
      · rw [if_pos (show iN (h_cl F nf) = 0 by rw [q2]; rfl)]
        simp only [q2, not_true, if_false]
        have h2 := cof fp2 (by simp) (by simp) h1
        have hlen := h_cl_len q2
        have e5 : s2.1 30 5 = bi (h_chk F nf) := by rw [fp2.1 _ _ (by simp)]; exact a2 q1
        have e6 := b2 q2
        have e4 : s2.1 30 4 = iN ld := by rw [fp2.1 _ _ (by simp), fp1.1 _ _ (by simp)]; exact hd
        obtain ⟨s3, c1, c2⟩ := c_checkEx h2 e4 hl e5 e6 (by omega) (by rw [fp2.1 _ _ (by simp), fp1.1 _ _ (by simp)]; exact h7)
        have fp3 := fp_Request_checkExpect _ c1
        rw [c1, x_bind2_some]
        by_cases q3 : h_ex F nf (decide (ld = 48)) = 0
        · unfold x_Reader_endHead_44
          rw [if_pos (show iN (h_ex F nf (decide (ld = 48))) = 0 by rw [q3]; rfl)]
          simp only [q3, not_true, if_false, forall_const]
          obtain ⟨s4, d1, d2⟩ := c_readConn (cof fp3 (by simp) (by simp) h2) (by rw [fp3.1 _ _ (by simp)]; exact e4) hl
          have fp4 := fp_Request_readConnection _ d1
          have g5 : s4.1 30 5 = bi (h_chk F nf) := by rw [fp4.1 _ _ (by simp), fp3.1 _ _ (by simp)]; exact e5
          have g6 : s4.1 30 6 = iN (h_len F nf) := by rw [fp4.1 _ _ (by simp), fp3.1 _ _ (by simp)]; exact e6
          have g7 : s4.1 30 7 = bi (h_goes F nf (decide (ld = 48))) := by rw [fp4.1 _ _ (by simp)]; exact c2 q3
          rw [d1, Option.bind_some, g5, g6]
          have tail : ∀ k : Int32, ∃ σ', x_Reader_endHead_95 k s4 = some (iN (if h_goes F nf (decide (ld = 48)) then 100 else 0), σ') ∧ σ' = x_updR s4 27 2 k := by
            intro k
            unfold x_Reader_endHead_95
            simp only [x_let]
            rw [show (x_updR s4 27 2 k).1 30 7 = s4.1 30 7 by simp [x_updR], g7]
            cases h_goes F nf (decide (ld = 48)) <;> exact ⟨_, rfl, rfl⟩
          cases hk : h_chk F nf
          · rw [bi_f, if_pos rfl]
            by_cases q0 : h_len F nf = 0
            · rw [if_pos (show iN (h_len F nf) = 0 by rw [q0]; rfl)]
              simp only [q0, and_self, if_true, not_true, false_implies, and_true]
              exact ⟨s4, rfl, d2, by rw [g5, hk]; rfl, by rw [g6, q0]⟩
            · rw [if_neg (nz _ (by omega) q0)]
              unfold x_Reader_endHead_79
              rw [g5, hk, bi_f, if_pos rfl]
              obtain ⟨σ', t1, t2⟩ := tail 2
              simp only [q0, and_false, if_false, not_false_eq_true, true_implies]
              refine ⟨σ', t1, ?_⟩
              rw [t2]
              refine ⟨?_, ?_, ?_, ?_⟩
              · simp [x_updR]; exact d2
              · simp [x_updR]; rw [g5, hk]; rfl
              · simp [x_updR]; exact g6
              · simp [x_updR]
          · rw [bi_t, if_neg (show ¬ (1 : Int32) = 0 by decide)]
            unfold x_Reader_endHead_79
            rw [g5, hk, bi_t, if_neg (show ¬ (1 : Int32) = 0 by decide)]
            obtain ⟨σ', t1, t2⟩ := tail 3
            simp only [Bool.true_eq_false, false_and, if_false, not_false_eq_true, true_implies, if_true]
            refine ⟨σ', t1, ?_⟩
            rw [t2]
            refine ⟨?_, ?_, ?_, ?_⟩
            · simp [x_updR]; exact d2
            · simp [x_updR]; rw [g5, hk]; rfl
            · simp [x_updR]; exact g6
            · simp [x_updR]
        · rw [c_eh44 _ _ (nz _ (by omega) q3)]
          simp only [q3, not_false_eq_true, if_true]
          exact ⟨s3, rfl, fun z => absurd z (by simp)⟩
      · rw [if_neg (nz _ (by omega) q2), c_eh44 _ _ (nz _ (by omega) q2)]
        simp only [q2, not_false_eq_true, if_true]
        exact ⟨s2, rfl, fun z => absurd z (by simp)⟩
    · rw [if_neg (nz _ (by omega) q1)]
      unfold x_Reader_endHead_32
      rw [if_neg (nz _ (by omega) q1), c_eh44 _ _ (nz _ (by omega) q1)]
      simp only [q1, not_false_eq_true, if_true]
      exact ⟨s1, rfl, fun z => absurd z (by simp)⟩
/-- the reference's -/
theorem m_eh25 {σ : St} {nf : Nat} {F : Nat → Ln} (hF : Mf σ nf F) (hw : σ.1 51 25 = iN 0) {mi : Nat} (hm : σ.1 51 15 = iN mi) (hmi : mi < 256) (hdue : σ.1 51 21 = 0) : ∃ σ', x_Model_endHead_25 (bi (h_chk F nf)) σ = x_Model_endHead_50 (bi (h_chk F nf)) σ' ∧ σ'.1 51 25 = iN (if ¬ h_te F nf (decide (mi = 0)) = 0 then h_te F nf (decide (mi = 0)) else h_cl F nf) ∧ ((if ¬ h_te F nf (decide (mi = 0)) = 0 then h_te F nf (decide (mi = 0)) else h_cl F nf) = 0 → σ'.1 51 21 = iN (h_len F nf)) ∧ xFp [(51, 25), (51, 21), (51, 26)] [63, 64] (false, false, false) σ σ' := by
  have hle := f_cnt_le F (wd_ 8) nf 0
  have hn := hF.2.1
  unfold x_Model_endHead_25 h_chk
  by_cases hc : f_cnt F (wd_ 7) 0 nf = 0
  · rw [decide_eq_false (show ¬ 0 < f_cnt F (wd_ 7) 0 nf by omega), bi_f, if_pos rfl, show (23 : Int32) = iN 23 from rfl, m_count hF MW_23, Option.bind_some]
    have t0 : h_te F nf (decide (mi = 0)) = 0 := by unfold h_te; rw [if_pos hc]
    simp only [t0, not_true, if_false]
    by_cases c8 : f_cnt F (wd_ 8) 0 nf = 0
    · have l0 : h_cl F nf = 0 := by unfold h_cl; rw [if_pos c8]
      have l1 : h_len F nf = 0 := by unfold h_len; rw [if_pos c8]
      rw [if_pos ((iN_le0 (by omega)).mpr c8), l0, l1]
      exact ⟨σ, rfl, hw, fun _ => hdue, xFp.rf⟩
    · rw [if_neg (mt (iN_le0 (by omega)).mp c8)]
      obtain ⟨s1, a1, a2, a3⟩ := m_checkLength hF hw c8
      rw [a1, Option.bind_some]
      exact ⟨s1, rfl, a2, a3, fp_Model_checkLength _ a1⟩
  · rw [decide_eq_true (show 0 < f_cnt F (wd_ 7) 0 nf by omega), bi_t, if_neg (show ¬ (1 : Int32) = 0 by decide)]
    obtain ⟨s1, a1, a2⟩ := m_checkCoding hF hw hm hmi hc
    have fp := fp_Model_checkCoding _ a1
    rw [a1, Option.bind_some]
    refine ⟨s1, rfl, ?_, fun z => ?_, fp.sub (by simp) (by simp) (by simp)⟩
    · rw [a2]
      by_cases q : h_te F nf (decide (mi = 0)) = 0
      · have c8 := h_te_cl q hc
        have l0 : h_cl F nf = 0 := by unfold h_cl; rw [if_pos c8]
        simp [q, l0]
      · simp [q]
    · by_cases q : h_te F nf (decide (mi = 0)) = 0
      · have c8 := h_te_cl q hc
        have l1 : h_len F nf = 0 := by unfold h_len; rw [if_pos c8]
        rw [l1, fp.1 _ _ (by simp)]
        exact hdue
      · simp [q] at z
theorem m_eh78 {E : List (List Nat)} (hl : E.length < 512) (l1 l2 : Int32) {mi : Nat} (hmi : mi < 256) : ∀ d k fuel w (σ : St), Me σ E → k + d = E.length → d < fuel → σ.1 51 25 = iN w → w < 1000 → σ.1 51 15 = iN mi → ∃ σ', x_Model_endHead_78 fuel l1 l2 (iN k) σ = x_Model_endHead_124 l1 l2 σ' ∧ σ'.1 51 25 = iN (w_then w (decide (mi = 0) || (E.drop k).all (fun v => u_is v (wd_ 11))) 417) ∧ xFp [(51, 25)] [] (false, false, false) σ σ' := by
  intro d
  induction d with
  | zero =>
    intro k fuel w σ hE hk hf hw hw2 hm
    obtain ⟨z, rfl⟩ := x_fuelS (show 0 < fuel by omega)
    refine ⟨σ, ?_, by rw [List.drop_eq_nil_of_le (by omega), List.all_nil, Bool.or_true, w_then_t]; exact hw, xFp.rf⟩
    rw [x_Model_endHead_78, hE.1, if_pos ((iN_le (by omega) (by omega)).mpr (by omega))]
  | succ d ih =>
    intro k fuel w σ hE hk hf hw hw2 hm
    obtain ⟨z, rfl⟩ := x_fuelS (show 0 < fuel by omega)
    rw [x_Model_endHead_78, hE.1, if_neg (mt (iN_le (by omega) (by omega)).mp (by omega)), hm]
    by_cases m0 : mi = 0
    · rw [if_pos ((iN_le0 (by omega)).mpr m0), decide_eq_true m0, Bool.true_or, w_then_t]
      exact ⟨σ, rfl, hw, xFp.rf⟩
    · obtain ⟨s1, a1, a2, a3, a4⟩ := m_blame hw hw2 (u_is (E.getD k []) (wd_ 11)) (c := 417) (by decide)
      have a2' : s1.1 51 25 = iN (w_then w (u_is (E.getD k []) (wd_ 11)) 417) := a2
      rw [if_neg (mt (iN_le0 (by omega)).mp m0), if_pos ((iN_in (by omega)).mpr (by omega)), if_pos ((iN_in (by omega)).mpr (by omega)), iN_clamp (by omega), show (84 : Int32) = iN 84 from rfl, hE.word MW_84 (by omega), Option.bind_some, show (417 : Int32) = iN 417 from rfl, a1, Option.bind_some]
      simp only [x_let]
      rw [iN_1a]
      obtain ⟨σ', b1, b2, b3⟩ := ih (k + 1) z _ s1 (hE.of (a4.1 _ _ (by simp)) (a4.2.1 _ (by simp)) (a4.2.1 _ (by simp)) (a4.2.1 _ (by simp))) (by omega) (by omega) a2' (w_then_lt hw2 (by decide)) (by rw [a4.1 _ _ (by simp)]; exact hm)
      refine ⟨σ', b1, ?_, a4.tr b3⟩
      rw [b2, decide_eq_false m0, Bool.false_or, Bool.false_or, w_then_2, drop_all _ E k [] (by omega)]
theorem m_endHead {σ : St} {nf : Nat} {F : Nat → Ln} (hF : Mf σ nf F) (hw : σ.1 51 25 = iN 0) {mi : Nat} (hm : σ.1 51 15 = iN mi) (hmi : mi < 256) (hdue : σ.1 51 21 = 0) : ∃ σ', xFp [(51, 25), (51, 21), (51, 26), (51, 16)] [63, 64] (false, false, false) σ σ' ∧ σ'.1 51 25 = iN (h_code F nf (decide (mi = 0))) ∧ (¬ h_code F nf (decide (mi = 0)) = 0 → x_Model_endHead σ = some σ') ∧ (h_code F nf (decide (mi = 0)) = 0 → σ'.1 51 21 = iN (h_len F nf) ∧ x_Model_endHead σ = x_Model_endHead_175 (bi (h_chk F nf)) (bi (!decide (mi = 0) && decide (0 < (f_els F (wd_ 10) 0 nf).length))) (bi (h_last F nf (decide (mi = 0)))) σ') := by
  have hn := hF.2.1
  have hle := f_cnt_le F (wd_ 7) nf 0
  have mof : ∀ {R : List (Nat × Nat)} {s s' : St}, xFp R [63, 64] (false, false, false) s s' → (51, 17) ∉ R → Mf s nf F → Mf s' nf F := fun fp r1 hc => hc.of (fp.1 _ _ r1) (fp.2.1 _ (by simp)) (fp.2.1 _ (by simp)) (fp.2.1 _ (by simp))
  have v1 := h_te_val F nf (decide (mi = 0))
  have v2 := h_cl_val F nf
  have v3 := h_ex_val F nf (decide (mi = 0))
  obtain ⟨s1, a1, a2⟩ := m_checkHost hF hw hm hmi
  have fp1 := fp_Model_checkHost _ a1
  unfold x_Model_endHead
  rw [a1, Option.bind_some, a2]
  unfold h_code
  cases hh : h_host F nf (decide (mi = 0))
  · rw [hh] at a2
    refine ⟨s1, fp1.sub (by simp) (by simp) (by simp), a2, fun _ => ?_, fun z => by simp at z⟩
    exact if_neg (by decide)
  · simp only [Bool.true_eq_false, if_false]
    rw [if_pos (show iN 0 ≤ 0 by decide)]
    rw [hh] at a2
    have hF1 := mof fp1 (by simp) hF
    have hm1 : s1.1 51 15 = iN mi := by rw [fp1.1 _ _ (by simp)]; exact hm
    obtain ⟨s2, b1, b2, b3, b4⟩ := m_eh25 hF1 a2 hm1 hmi (by rw [fp1.1 _ _ (by simp)]; exact hdue)
    have hF2 := mof b4 (by simp) hF1
    have hm2 : s2.1 51 15 = iN mi := by rw [b4.1 _ _ (by simp)]; exact hm1
    have st1 : (Option.bind (x_Model_count (5 : Int32) s1) (fun r14 => (if r14 ≤ 0 then x_Model_endHead_25 (0 : Int32) s1 else x_Model_endHead_25 (1 : Int32) s1))) = x_Model_endHead_50 (bi (h_chk F nf)) s2 := by
      rw [← b1, show (5 : Int32) = iN 5 from rfl, m_count hF1 MW_5, Option.bind_some]
      unfold h_chk
      by_cases hc : f_cnt F (wd_ 7) 0 nf = 0
      · rw [if_pos ((iN_le0 (by omega)).mpr hc), decide_eq_false (show ¬ 0 < f_cnt F (wd_ 7) 0 nf by omega)]
        rfl
      · rw [if_neg (mt (iN_le0 (by omega)).mp hc), decide_eq_true (show 0 < f_cnt F (wd_ 7) 0 nf by omega)]
        rfl
    rw [st1]
    obtain ⟨s3, c1, c2⟩ := m_list hF2 MW_38
    have fp3 := fp_Model_list _ _ c1
    have hF3 := mof fp3 (by simp) hF2
    have hm3 : s3.1 51 15 = iN mi := by rw [fp3.1 _ _ (by simp)]; exact hm2
    have hl := f_els_len F (wd_ 10) nf 0 (fun k _ hk => (hF.2.2 k (by omega)).1)
    have st2 : x_Model_endHead_50 (bi (h_chk F nf)) s2 = x_Model_endHead_78 x_fuel (bi (h_chk F nf)) (bi (!decide (mi = 0) && decide (0 < (f_els F (wd_ 10) 0 nf).length))) 0 s3 := by
      unfold x_Model_endHead_50 x_Model_endHead_74 x_Model_endHead_75
      rw [show (38 : Int32) = iN 38 from rfl, c1, Option.bind_some, hm3, c2.1]
      by_cases m0 : mi = 0
      · rw [if_pos ((iN_le0 (by omega)).mpr m0), decide_eq_true m0]
        rfl
      · rw [if_neg (mt (iN_le0 (by omega)).mp m0), decide_eq_false m0]
        by_cases q : (f_els F (wd_ 10) 0 nf).length = 0
        · rw [if_pos ((iN_le0 (by omega)).mpr q), decide_eq_false (show ¬ 0 < (f_els F (wd_ 10) 0 nf).length by omega)]
          rfl
        · rw [if_neg (mt (iN_le0 (by omega)).mp q), decide_eq_true (show 0 < (f_els F (wd_ 10) 0 nf).length by omega)]
          rfl
    rw [st2]
    obtain ⟨s4, d1, d2, d3⟩ := m_eh78 (by omega) (bi (h_chk F nf)) (bi (!decide (mi = 0) && decide (0 < (f_els F (wd_ 10) 0 nf).length))) hmi (f_els F (wd_ 10) 0 nf).length 0 x_fuel _ s3 c2 (by omega) (by unfold x_fuel; omega) (show s3.1 51 25 = iN (if ¬ h_te F nf (decide (mi = 0)) = 0 then h_te F nf (decide (mi = 0)) else h_cl F nf) by rw [fp3.1 _ _ (by simp)]; exact b2) (by split <;> omega) hm3
    rw [List.drop_zero] at d2
    rw [show iN 0 = (0 : Int32) from rfl] at d1
    have hcode : w_then (if ¬ h_te F nf (decide (mi = 0)) = 0 then h_te F nf (decide (mi = 0)) else h_cl F nf) (decide (mi = 0) || (f_els F (wd_ 10) 0 nf).all (fun v => u_is v (wd_ 11))) 417 = if ¬ h_te F nf (decide (mi = 0)) = 0 then h_te F nf (decide (mi = 0)) else if ¬ h_cl F nf = 0 then h_cl F nf else h_ex F nf (decide (mi = 0)) := by
      unfold w_then h_ex
      by_cases q1 : h_te F nf (decide (mi = 0)) = 0
      · by_cases q2 : h_cl F nf = 0
        · simp only [q1, q2, not_true, if_false]
          cases decide (mi = 0)
          · simp
          · simp
        · simp [q1, q2]
      · simp [q1]
    rw [hcode] at d2
    rw [d1]
    have fpa : xFp [(51, 25), (51, 21), (51, 26), (51, 16)] [63, 64] (false, false, false) σ s4 := (((fp1.sub (by simp) (by simp) (by simp)).tr (b4.sub (by simp) (by simp) (by simp))).tr (fp3.sub (by simp) (by simp) (by simp))).tr (d3.sub (by simp) (by simp) (by simp))
    generalize hcd : (if ¬ h_te F nf (decide (mi = 0)) = 0 then h_te F nf (decide (mi = 0)) else if ¬ h_cl F nf = 0 then h_cl F nf else h_ex F nf (decide (mi = 0))) = code at d2
    have hcl : code < 1000 := by
      rw [← hcd]
      repeat' split
      all_goals omega
    by_cases q : code = 0
    · have hF4 : Mf s4 nf F := hF3.of (d3.1 _ _ (by simp)) (d3.2.1 _ (by simp)) (d3.2.1 _ (by simp)) (d3.2.1 _ (by simp))
      have hm4 : s4.1 51 15 = iN mi := by rw [d3.1 _ _ (by simp)]; exact hm3
      have hte : h_te F nf (decide (mi = 0)) = 0 := by
        by_cases z : h_te F nf (decide (mi = 0)) = 0
        · exact z
        · rw [if_pos z] at hcd
          omega
      have hcl0 : h_cl F nf = 0 := by
        by_cases z : h_cl F nf = 0
        · exact z
        · rw [if_neg (by simp [hte]), if_pos z] at hcd
          omega
      have hdue4 : s4.1 51 21 = iN (h_len F nf) := by
        rw [d3.1 _ _ (by simp), fp3.1 _ _ (by simp)]
        exact b3 (by simp [hte, hcl0])
      unfold x_Model_endHead_124 x_Model_endHead_170 x_Model_endHead_174
      obtain ⟨s5, e1⟩ := m_has hF4 MW_45 MW_97
      have fp5 := fp_Model_has _ _ _ e1
      rw [d2, if_pos (show iN code ≤ 0 by rw [q]; decide), show (45 : Int32) = iN 45 from rfl, show (97 : Int32) = iN 97 from rfl, e1, x_bind2_some, if_pos (bi_bit _)]
      simp only [x_let]
      generalize hs6 : x_updR s5 51 16 (bi ((f_els F (wd_ 12) 0 nf).any (fun x => u_is x (wd_ 13)))) = s6
      have fp6 : xFp [(51, 25), (51, 21), (51, 26), (51, 16)] [63, 64] (false, false, false) σ s6 := (fpa.tr (fp5.sub (by simp) (by simp) (by simp))).tr (xFp.R hs6.symm (by simp))
      have w6 : s6.1 51 25 = iN code := by rw [← hs6]; simp [x_updR]; rw [fp5.1 _ _ (by simp)]; exact d2
      have m6 : s6.1 51 15 = iN mi := by rw [← hs6]; simp [x_updR]; rw [fp5.1 _ _ (by simp)]; exact hm4
      have u6 : s6.1 51 21 = iN (h_len F nf) := by rw [← hs6]; simp [x_updR]; rw [fp5.1 _ _ (by simp)]; exact hdue4
      have l6 : s6.1 51 16 = bi ((f_els F (wd_ 12) 0 nf).any (fun x => u_is x (wd_ 13))) := by rw [← hs6]; simp [x_updR]
      have hF6 : Mf s6 nf F := mof (R := [(51, 25), (51, 21), (51, 26), (51, 16)]) fp6 (by simp) hF
      rw [l6, m6]
      unfold h_last
      cases hc : (f_els F (wd_ 12) 0 nf).any (fun x => u_is x (wd_ 13))
      · rw [bi_f, if_pos rfl]
        by_cases m0 : mi = 0
        · obtain ⟨s7, g1⟩ := m_has hF6 MW_45 MW_103
          have fp7 := fp_Model_has _ _ _ g1
          rw [if_pos (show iN mi = 0 by rw [m0]; rfl), show (103 : Int32) = iN 103 from rfl, g1, x_bind2_some, decide_eq_true m0]
          refine ⟨s7, fp6.tr (fp7.sub (by simp) (by simp) (by simp)), by rw [fp7.1 _ _ (by simp), w6], fun z => absurd q z, fun _ => ⟨by rw [fp7.1 _ _ (by simp)]; exact u6, ?_⟩⟩
          cases (f_els F (wd_ 12) 0 nf).any (fun x => u_is x (wd_ 14)) <;> rfl
        · rw [if_neg (mt (iN_eq0 (by omega)).mp m0), decide_eq_false m0]
          exact ⟨s6, fp6, w6, fun z => absurd q z, fun _ => ⟨u6, rfl⟩⟩
      · rw [bi_t, if_neg (show ¬ (1 : Int32) = 0 by decide)]
        exact ⟨s6, fp6, w6, fun z => absurd q z, fun _ => ⟨u6, rfl⟩⟩
    · refine ⟨s4, fpa, d2, fun _ => ?_, fun z => absurd z q⟩
      unfold x_Model_endHead_124
      exact if_neg (by rw [d2]; exact mt (iN_le0 (by omega)).mp q)
