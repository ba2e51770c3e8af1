/-! the class sends -/
def Rs_ok (R : Rs) : Prop := (100 < R.1 ∧ R.1 < 1000) ∧ R.2.1 < 1000 ∧ (∀ t, R.2.2.1 = some t → t < 1000000000) ∧ R.2.2.2.1 < 1000 ∧ R.2.2.2.2.1 < 1000 ∧ R.2.2.2.2.2.1 < 1000 ∧ (R.1 = 206 → 1 ≤ R.2.2.2.2.1) ∧ R.2.2.2.2.2.2.2.length ≤ 200
theorem rs0_ok {num : Nat} (h : 100 < num ∧ num < 1000) (h2 : ¬ num = 206) : Rs_ok (rs0 num) := ⟨h, by simp [rs0], fun t z => (by cases z), by simp [rs0], by simp [rs0], by simp [rs0], fun z => absurd z h2, by simp [rs0]⟩
theorem o_bd_len (B : List Nat) (i t : Nat) : (o_bd B i t).length ≤ B.length := by
  unfold o_bd
  rw [List.length_take, List.length_drop]
  omega
theorem Sb.set {S : Site} {chg : Nat} (h : Sb S chg) (r : Nat) {v : Option (Nat × List Nat)} (hv : ∀ mq B, v = some (mq, B) → mq = chg + 1 ∧ B.length ≤ 200) : Sb (s_set S r v) (chg + 1) := by
  intro k mq B hk hS
  by_cases q : k = r
  · subst q
    rw [s_set_eq] at hS
    have := hv mq B hS
    omega
  · rw [s_set_ne q] at hS
    have := h k mq B hk hS
    omega
theorem q_ans_ok {me : Nat} {P : List Nat} {F : Nat → Ln} {nf : Nat} {Bd : List Nat} {S : Site} {chg : Nat} (hb : Sb S chg) (hc : chg < 999999999) (hB : Bd.length ≤ 200) : Rs_ok (q_ans me P F nf Bd S chg).1 ∧ Sb (q_ans me P F nf Bd S chg).2.1 (q_ans me P F nf Bd S chg).2.2 ∧ chg ≤ (q_ans me P F nf Bd S chg).2.2 ∧ (q_ans me P F nf Bd S chg).2.2 ≤ chg + 1 := by
  have keep : ∀ R : Rs, Rs_ok R → Rs_ok (R, S, chg).1 ∧ Sb (R, S, chg).2.1 (R, S, chg).2.2 ∧ chg ≤ (R, S, chg).2.2 ∧ (R, S, chg).2.2 ≤ chg + 1 := fun R h => ⟨h, hb, Nat.le_refl _, Nat.le_succ _⟩
  have setR : ∀ (R : Rs) r v, Rs_ok R → (∀ mq B, v = some (mq, B) → mq = chg + 1 ∧ B.length ≤ 200) → Rs_ok (R, s_set S r v, chg + 1).1 ∧ Sb (R, s_set S r v, chg + 1).2.1 (R, s_set S r v, chg + 1).2.2 ∧ chg ≤ (R, s_set S r v, chg + 1).2.2 ∧ (R, s_set S r v, chg + 1).2.2 ≤ chg + 1 := fun R r v h hv => ⟨h, hb.set r hv, Nat.le_succ _, Nat.le_refl _⟩
  have hl := q_list_len S 8 0
  unfold q_ans
  by_cases m5 : me = 5
  · rw [if_pos m5]
    exact keep _ ⟨by simp, by simp, fun t z => (by cases z), by simp, by simp, by simp, fun z => (by cases z), by simp⟩
  · rw [if_neg m5]
    by_cases m6 : me = 6
    · rw [if_pos m6]
      exact keep _ ⟨by simp, by simp, fun t z => (by cases z), by simp, by simp, by simp, fun z => (by cases z), by simp⟩
    · rw [if_neg m6]
      by_cases c1 : me < 2 ∧ P.length = 1
      · rw [if_pos c1]
        refine keep _ ⟨by simp, by simp only; omega, fun t z => (by cases z), by simp, ?_, by simp, fun z => (by cases z), ?_⟩
        · show (if me = 0 then (q_list S 0 8).length else 0) < 1000
          split <;> omega
        · show (if me = 0 then q_list S 0 8 else []).length ≤ 200
          split
          · omega
          · simp
      · rw [if_neg c1]
        cases hr : q_res P with
        | none => exact keep _ (rs0_ok (by decide) (by decide))
        | some r =>
          have hr8 := q_res_lt hr
          show Rs_ok (if me < 2 then _ else _ : Rs × Site × Nat).1 ∧ _
          by_cases m2 : me < 2
          · simp only [m2, if_true]
            cases hS : S r with
            | none => exact keep _ (rs0_ok (by decide) (by decide))
            | some v =>
              obtain ⟨mq, B⟩ := v
              obtain ⟨k1, k2, k3⟩ := hb r mq B hr8 hS
              apply keep
              unfold q_read
              cases q_known F nf mq
              · simp only [Bool.false_eq_true, if_false]
                cases hq : (if me = 0 then q_rf F nf else none) with
                | none =>
                  refine ⟨by simp, by simp only; omega, fun t z => by cases z; omega, by simp, ?_, by simp, fun z => (by cases z), ?_⟩
                  · show (if me = 0 then B.length else 0) < 1000
                    split <;> omega
                  · show (if me = 0 then B else []).length ≤ 200
                    split
                    · exact k3
                    · simp
                | some v =>
                  obtain ⟨fi, la⟩ := v
                  have ok : rg_ok fi la := by
                    by_cases m0 : me = 0
                    · rw [if_pos m0] at hq; exact q_rf_ok hq
                    · rw [if_neg m0] at hq; cases hq
                  show Rs_ok (if q_far fi B.length = true then _ else _)
                  cases hf : q_far fi B.length
                  · have rl := rg_le ok hf
                    simp only [Bool.false_eq_true, if_false]
                    have hbl := o_bd_len B (q_fr fi la B.length) (q_ti fi la B.length)
                    exact ⟨by simp, by simp only; omega, fun t z => by cases z; omega, by simp only; omega, by simp only; omega, by simp only; omega, fun _ => rl.2.2, by simp only; omega⟩
                  · simp only [if_true]
                    exact ⟨by simp, by simp, fun t z => (by cases z), by simp, by simp, by simp only; omega, fun z => (by cases z), by simp⟩
              · simp only [if_true]
                exact ⟨by simp, by simp, fun t z => by cases z; omega, by simp, by simp, by simp, fun z => (by cases z), by simp⟩
          · simp only [m2, if_false]
            unfold q_chg
            by_cases m2' : me = 2
            · rw [if_pos m2']
              cases hS : S r with
              | none => exact setR _ r _ (rs0_ok (by decide) (by decide)) (fun mq B z => by cases z; exact ⟨rfl, hB⟩)
              | some v =>
                show Rs_ok (if q_star2 F nf = true then _ else _ : Rs × Site × Nat).1 ∧ _
                cases q_star2 F nf
                · simp only [Bool.false_eq_true, if_false]
                  exact setR _ r _ (rs0_ok (by decide) (by decide)) (fun mq B z => by cases z; exact ⟨rfl, hB⟩)
                · simp only [if_true]
                  exact keep _ (rs0_ok (by decide) (by decide))
            · rw [if_neg m2']
              cases hS : S r with
              | none => exact keep _ (rs0_ok (by decide) (by decide))
              | some v =>
                obtain ⟨mq, B⟩ := v
                show Rs_ok (if me = 3 then _ else _ : Rs × Site × Nat).1 ∧ _
                by_cases m3 : me = 3
                · simp only [m3, if_true]
                  by_cases q : 200 < B.length + Bd.length
                  · simp only [q, if_true]
                    exact keep _ (rs0_ok (by decide) (by decide))
                  · simp only [q, if_false]
                    exact setR _ r _ (rs0_ok (by decide) (by decide)) (fun mq B z => by cases z; exact ⟨rfl, by rw [List.length_append]; omega⟩)
                · simp only [m3, if_false]
                  exact setR _ r _ (rs0_ok (by decide) (by decide)) (fun mq B z => by cases z)
theorem c_restart (σ : St) : ∃ σ', x_Reader_restart σ = some σ' ∧ RC σ' cn0 := by
  refine ⟨_, rfl, ?_, ?_, ?_, ?_, ?_, ?_, ?_, ?_, ?_, ?_, ?_, ?_⟩
  · simp [x_updR]; rfl
  · simp [x_updR]; rfl
  · exact ⟨by simp [x_updR, x_updQ]; rfl, Nat.zero_le _, fun i hi => absurd hi (Nat.not_lt_zero i)⟩
  · exact ⟨by simp [x_updR, x_updQ]; rfl, Nat.zero_le _, fun i hi => absurd hi (Nat.not_lt_zero i)⟩
  · exact ⟨0, fun _ => 0, by simp [x_updR, x_updQ]; rfl, Nat.zero_le _, ⟨by simp [x_updR, x_updQ]; rfl, Nat.zero_le _, fun i hi => absurd hi (Nat.not_lt_zero i)⟩, Nat.zero_le _, fun k hk => absurd hk (Nat.not_lt_zero k)⟩
  · simp [x_updR]; rfl
  · intro _
    exact ⟨by simp [x_updR, x_updQ]; rfl, Nat.zero_le _, fun i hi => absurd hi (Nat.not_lt_zero i)⟩
  · intro _
    refine ⟨?_, ?_, ?_⟩ <;> simp [x_updR, x_updQ]
  · intro z
    exact absurd z (by simp [cn0])
  · intro z
    exact absurd z (by simp [cn0])
  · intro z
    exact absurd z (by simp [cn0])
  · intro z
    exact absurd z (by simp [cn0])
def RCo (σ : St) (oc : Option Cn) : Prop := match oc with
  | none => σ.1 27 2 = -1
  | some c => RC σ c
def RW (σ : St) (w : Wl) : Prop := Cs σ w.1 w.2.1 ∧ Co σ w.2.2.1 ∧ σ.1 0 4 = oi w.2.2.2
/-- an answer is written -/
theorem c_out {σ : St} {R : Rs} {c k : Bool} {O : List Nat} (hA : CA σ R) (ok : Rs_ok R ∨ R = rs0 100) (hO : Co σ O) : ∃ σ', x_Outbox_write (x_updR (x_updR σ 44 5 (bi c)) 44 6 (bi k)) = some σ' ∧ Co σ' (O ++ (if R.1 = 100 then o_sta 100 ++ wd_ 24 else o_all R c k)) ∧ xFp [(44, 5), (44, 6), (49, 1), (48, 1)] [50] (false, false, false) σ σ' := by
  obtain ⟨⟨x1, x2, x3, x4, x5, x6, x7⟩, B, y1, y2, y3, y4, y5, y6⟩ := hA
  generalize hs : x_updR (x_updR σ 44 5 (bi c)) 44 6 (bi k) = s
  have fp : xFp [(44, 5), (44, 6)] [] (false, false, false) σ s := (xFp.R rfl (by simp)).tr (xFp.R hs.symm (by simp))
  have o44 : σ.2.2.1 ≠ 44 := by
    rcases y3 with y3 | ⟨r, hr, y3⟩
    · rw [y3]; decide
    · omega
  have ok' : R.1 < 1000 ∧ R.2.1 < 1000 ∧ (∀ t, R.2.2.1 = some t → t < 1000000000) ∧ R.2.2.2.1 < 1000 ∧ R.2.2.2.2.1 < 1000 ∧ R.2.2.2.2.2.1 < 1000 ∧ (R.1 = 206 → 1 ≤ R.2.2.2.2.1) := by
    rcases ok with ⟨k1, k2, k3, k4, k5, k6, k7, k8⟩ | ok
    · exact ⟨k1.2, k2, k3, k4, k5, k6, k7⟩
    · rw [ok]
      exact ⟨by decide, by decide, fun t z => (by cases z), by decide, by decide, by decide, fun z => (by cases z)⟩
  obtain ⟨k1, k2, k3, k4, k5, k6, k7⟩ := ok'
  have hAn : An s R.1 R.2.1 R.2.2.1 R.2.2.2.1 R.2.2.2.2.1 R.2.2.2.2.2.1 R.2.2.2.2.2.2.1 c k := by
    refine ⟨⟨by rw [fp.1 _ _ (by simp)]; exact x1, k1⟩, ⟨by rw [fp.1 _ _ (by simp)]; exact x2, k3⟩, by rw [fp.1 _ _ (by simp)]; exact x3, by rw [← hs]; simp [x_updR], by rw [← hs]; simp [x_updR], ⟨by rw [fp.1 _ _ (by simp)]; exact x4, k2⟩, ⟨by rw [fp.1 _ _ (by simp)]; exact x5, k4⟩, ⟨by rw [fp.1 _ _ (by simp)]; exact x6, k5⟩, ⟨by rw [fp.1 _ _ (by simp)]; exact x7, k6⟩, k7⟩
  have hbo : s.2.2.1 = σ.2.2.1 := by rw [← hs]; rfl
  obtain ⟨σ', w1, w2⟩ := c_write hAn y1 y2 hbo (y4.of (fp.1 _ _ (by simp <;> omega)) (fp.2.1 _ (by simp))) y5 (hO.of (fp.1 _ _ (by simp)) (fp.1 _ _ (by simp)) (fp.2.1 _ (by simp)))
  refine ⟨σ', w1, ?_, (fp.sub (by simp) (by simp) (by simp)).tr ((fp_Outbox_write _ w1).sub (by simp) (by simp) (by simp))⟩
  by_cases q : R.1 = 100
  · have hR : R = rs0 100 := by
      rcases ok with ok | ok
      · have := ok.1.1
        omega
      · exact ok
    rw [if_pos q] at w2 ⊢
    rw [hR] at w2
    rw [hR] at y6
    have e : o_bd B (rs0 100).2.2.2.1 (rs0 100).2.2.2.2.1 = [] := o_bd_z B 0
    rw [e] at w2
    simpa only [List.append_nil, List.nil_append, rs0] using w2
  · rw [if_neg q] at w2 ⊢
    unfold o_all
    rw [y6]
    exact w2
theorem feed136 (j1 : Int64) (a2 : Int32) (bk : Int32 → Int32 → St → Option (Int32 × St)) (l4 : Int32) (k : Nat) (s : St) : x_PlainOrigin_feed_136 j1 a2 bk l4 (iN k) s = bk l4 (iN (k + 1)) s := by
  unfold x_PlainOrigin_feed_136
  simp only [x_let]
  rw [iN_1a]
theorem c_send {σ : St} {c : Cn} {w : Wl} {e : Nat} (hev : ev_ok e) (hR : e = 0 ∨ e = 100 → RC σ c) (hY : e = 3 → RY σ c ∧ c.2.2.2.1.1 < 7 ∧ c.2.2.2.1.2.1 ≤ 9 ∧ c.2.2.2.2.2.2.1.length ≤ 200) (hW : RW σ w) (hb : Sb w.1 w.2.1) (hc : w.2.1 < 999999999) (h4 : e = 100 → ∃ v : Nat, σ.1 30 4 = iN v ∧ v < 256) (j1 : Int64) (a2 : Int32) (bk : Int32 → Int32 → St → Option (Int32 × St)) (k4 k5 : Nat) : ∃ σ', x_PlainOrigin_feed_83 j1 a2 bk (iN k4) (iN k5) (iN e) σ = bk (iN (k4 + (fin e c w).2.2)) (iN (k5 + 1)) σ' ∧ RCo σ' (fin e c w).1 ∧ RW σ' (fin e c w).2.1 := by
  unfold x_PlainOrigin_feed_83 fin
  by_cases e0 : e = 0
  · rw [if_pos (show iN e = 0 by rw [e0]; rfl), if_pos e0, feed136]
    exact ⟨σ, rfl, hR (Or.inl e0), hW⟩
  · have he := (ev_ne hev).2.2
    rw [if_neg (mt (iN_eq0 (by omega)).mp e0), if_neg e0]
    unfold x_PlainOrigin_feed_127
    obtain ⟨w1, w2, w3⟩ := hW
    by_cases e3 : e = 3
    · rw [if_pos (show iN e = 3 by rw [e3]; rfl), if_pos e3]
      obtain ⟨⟨y1, ⟨tn, tf, y2⟩, y3, y4, y5, y6⟩, y7, y8, y9⟩ := hY e3
      obtain ⟨s1, b1, b2, b3⟩ := c_decide y2 w1 hb (by omega) y7 y3 y5 y1
      have fp := fp_Answer_decide _ b1
      obtain ⟨ok, sb, _, _⟩ := q_ans_ok (me := c.2.2.2.1.1) (P := rq_P c.2.2.2.1) (F := c.2.2.2.2.1.2) (nf := c.2.2.2.2.1.1) hb hc y9
      generalize hQ : q_ans c.2.2.2.1.1 (rq_P c.2.2.2.1) c.2.2.2.2.1.2 c.2.2.2.2.1.1 c.2.2.2.2.2.2.1 w.1 w.2.1 = Q at *
      have hO1 : Co s1 w.2.2.1 := w2.of (fp.1 _ _ (by simp)) (fp.1 _ _ (by simp)) (fp.2.1 _ (by simp))
      have hl1 : s1.1 30 8 = bi c.2.2.2.2.2.1 := by rw [fp.1 _ _ (by simp)]; exact y6
      have h41 : s1.1 30 4 = iN (c.2.2.2.1.2.1 + 48) := by rw [fp.1 _ _ (by simp)]; exact y4
      rw [b1, Option.bind_some]
      have e48 : decide (c.2.2.2.1.2.1 + 48 = 48) = decide (c.2.2.2.1.2.1 = 0) := decide_eq_decide.mpr (by omega)
      -- the words of the answer
      have key : ∃ σ', x_PlainOrigin_send (iN e) s1 = some σ' ∧ RCo σ' (if c.2.2.2.2.2.1 then none else some cn0) ∧ RW σ' (Q.2.1, Q.2.2, w.2.2.1 ++ o_all Q.1 c.2.2.2.2.2.1 (decide (c.2.2.2.1.2.1 = 0)), some Q.1.1) := by
        unfold x_PlainOrigin_send x_PlainOrigin_send_10
        rw [if_pos (show iN e = 3 by rw [e3]; rfl), if_neg (show ¬ (1 : Int32) = 0 by decide), hl1]
        unfold x_PlainOrigin_send_43 x_PlainOrigin_send_77
        rw [if_pos (bi_bit _)]
        simp only [x_let]
        rw [show (x_updR s1 44 5 (bi c.2.2.2.2.2.1)).1 44 5 = bi c.2.2.2.2.2.1 by simp [x_updR], c_isOld (show (x_updR s1 44 5 (bi c.2.2.2.2.2.1)).1 30 4 = iN (c.2.2.2.1.2.1 + 48) by simp [x_updR]; exact h41) (by omega), e48, Option.bind_some]
        have h78 : ∀ k, (¬ c.2.2.2.2.2.1 = true → k = decide (c.2.2.2.1.2.1 = 0)) → ∃ σ', x_PlainOrigin_send_78 (iN e) 1 (bi k) (x_updR s1 44 5 (bi c.2.2.2.2.2.1)) = some σ' ∧ RCo σ' (if c.2.2.2.2.2.1 then none else some cn0) ∧ RW σ' (Q.2.1, Q.2.2, w.2.2.1 ++ o_all Q.1 c.2.2.2.2.2.1 (decide (c.2.2.2.1.2.1 = 0)), some Q.1.1) := by
          intro k hk
          obtain ⟨s2, o1, o2, o3⟩ := c_out (c := c.2.2.2.2.2.1) (k := k) b2 (Or.inl ok) hO1
          rw [if_neg (show ¬ Q.1.1 = 100 by have := ok.1.1; omega)] at o2
          unfold x_PlainOrigin_send_78
          rw [if_pos (bi_bit _)]
          simp only [x_let]
          rw [o1, Option.bind_some]
          have fpw : xFp [(44, 5), (44, 6), (49, 1), (48, 1), (0, 4)] [50] (false, false, false) s1 (x_updR s2 0 4 (s2.1 44 2)) := (o3.sub (by simp) (by simp) (by simp)).tr (xFp.R rfl (by simp))
          have e44 : s2.1 44 2 = iN Q.1.1 := by rw [o3.1 _ _ (by simp)]; exact b2.1.1
          rw [e44] at fpw ⊢
          have e5 : s2.1 44 5 = bi c.2.2.2.2.2.1 := by
            have fpo := fp_Outbox_write _ o1
            rw [fpo.1 _ _ (by simp)]
            simp [x_updR]
          rw [show (x_updR s2 0 4 (iN Q.1.1)).1 44 5 = bi c.2.2.2.2.2.1 by simp [x_updR]; exact e5]
          have hso : o_all Q.1 c.2.2.2.2.2.1 k = o_all Q.1 c.2.2.2.2.2.1 (decide (c.2.2.2.1.2.1 = 0)) := by
            cases hl : c.2.2.2.2.2.1
            · rw [hk (by rw [hl]; simp)]
            · unfold o_all o_flds o_con
              rfl
          have hCs : Cs (x_updR s2 0 4 (iN Q.1.1)) Q.2.1 Q.2.2 := b3.fp fpw (by simp) (by simp)
          have hCo : Co (x_updR s2 0 4 (iN Q.1.1)) (w.2.2.1 ++ o_all Q.1 c.2.2.2.2.2.1 (decide (c.2.2.2.1.2.1 = 0))) := by
            rw [← hso]
            exact o2.of (by simp [x_updR]) (by simp [x_updR]) rfl
          cases hl : c.2.2.2.2.2.1
          · rw [if_pos (show bi false = 0 from rfl), if_neg (show ¬ (1 : Int32) = 0 by decide)]
            obtain ⟨s3, p1, p2⟩ := c_restart (x_updR s2 0 4 (iN Q.1.1))
            have fpr := fp_Reader_restart _ p1
            rw [hl] at hCo
            refine ⟨s3, by rw [p1, Option.bind_some], p2, hCs.fp fpr (by simp) (by simp), hCo.of (fpr.1 _ _ (by simp)) (fpr.1 _ _ (by simp)) (fpr.2.1 _ (by simp)), ?_⟩
            rw [fpr.1 _ _ (by simp)]
            simp [x_updR]
            rfl
          · rw [if_neg (show ¬ bi true = 0 by decide)]
            have fpc : xFp [(27, 2)] [] (false, false, false) (x_updR s2 0 4 (iN Q.1.1)) (x_updR (x_updR s2 0 4 (iN Q.1.1)) 27 2 (-1)) := xFp.R rfl (by simp)
            rw [hl] at hCo
            refine ⟨_, rfl, ?_, hCs.fp fpc (by simp) (by simp), hCo.of (fpc.1 _ _ (by simp)) (fpc.1 _ _ (by simp)) (fpc.2.1 _ (by simp)), ?_⟩
            · show (x_updR (x_updR s2 0 4 (iN Q.1.1)) 27 2 (-1)).1 27 2 = -1
              simp [x_updR]
            · rw [fpc.1 _ _ (by simp)]
              simp [x_updR]
              rfl
        cases hl : c.2.2.2.2.2.1
        · rw [if_pos (show bi false = 0 from rfl)]
          cases hd : decide (c.2.2.2.1.2.1 = 0)
          · rw [if_pos (show bi false = 0 from rfl)]
            have := h78 false (fun _ => hd.symm)
            rw [hl, hd] at this
            exact this
          · rw [if_neg (show ¬ bi true = 0 by decide)]
            have := h78 true (fun _ => hd.symm)
            rw [hl, hd] at this
            exact this
        · rw [if_neg (show ¬ bi true = 0 by decide)]
          have := h78 false (fun z => absurd hl z)
          rw [hl] at this
          exact this
      obtain ⟨σ', k1, k2, k3⟩ := key
      rw [k1, Option.bind_some]
      simp only [x_let]
      rw [iN_1a, feed136]
      exact ⟨σ', rfl, k2, k3⟩
    · rw [if_neg (show ¬ iN e = 3 from mt (iN_eq (b := 3) (by omega) (by decide)).mp e3), if_neg e3]
      obtain ⟨L, hL⟩ := w1.2.1
      obtain ⟨s1, b1, b2⟩ := c_begin0 hL e
      have fp := fp_Answer_begin _ _ b1
      have hO1 : Co s1 w.2.2.1 := w2.of (fp.1 _ _ (by simp)) (fp.1 _ _ (by simp)) (fp.2.1 _ (by simp))
      have hCs1 : Cs s1 w.1 w.2.1 := w1.fp fp (by simp) (by simp)
      rw [b1, Option.bind_some]
      unfold x_PlainOrigin_send x_PlainOrigin_send_10
      rw [if_neg (show ¬ iN e = 3 from mt (iN_eq (b := 3) (by omega) (by decide)).mp e3), if_pos (show (0 : Int32) = 0 from rfl)]
      have h78 : ∀ cl k, ∃ σ', x_PlainOrigin_send_78 (iN e) 0 (bi k) (x_updR s1 44 5 (bi cl)) = some σ' ∧ (cl = false → xFp [(44, 5), (44, 6), (49, 1), (48, 1), (0, 4)] [50] (false, false, false) s1 σ') ∧ (cl = true → σ'.1 27 2 = -1) ∧ RW σ' (w.1, w.2.1, w.2.2.1 ++ (if e = 100 then o_sta 100 ++ wd_ 24 else o_all (rs0 e) cl k), some e) := by
        intro cl k
        have oke : Rs_ok (rs0 e) ∨ rs0 e = rs0 100 := by
          by_cases h100 : e = 100
          · right; rw [h100]
          · left
            clear h4
            unfold ev_ok at hev
            exact rs0_ok (by omega) (by omega)
        obtain ⟨s2, o1, o2, o3⟩ := c_out (c := cl) (k := k) b2 oke hO1
        unfold x_PlainOrigin_send_78
        rw [if_pos (bi_bit _)]
        simp only [x_let]
        rw [o1, Option.bind_some]
        have fpw : xFp [(44, 5), (44, 6), (49, 1), (48, 1), (0, 4)] [50] (false, false, false) s1 (x_updR s2 0 4 (s2.1 44 2)) := (o3.sub (by simp) (by simp) (by simp)).tr (xFp.R rfl (by simp))
        have e44 : s2.1 44 2 = iN e := by rw [o3.1 _ _ (by simp)]; exact b2.1.1
        rw [e44] at fpw ⊢
        have e5 : s2.1 44 5 = bi cl := by
          have fpo := fp_Outbox_write _ o1
          rw [fpo.1 _ _ (by simp)]
          simp [x_updR]
        rw [show (x_updR s2 0 4 (iN e)).1 44 5 = bi cl by simp [x_updR]; exact e5]
        have hCs : Cs (x_updR s2 0 4 (iN e)) w.1 w.2.1 := hCs1.fp fpw (by simp) (by simp)
        have hCo : Co (x_updR s2 0 4 (iN e)) (w.2.2.1 ++ (if e = 100 then o_sta 100 ++ wd_ 24 else o_all (rs0 e) cl k)) := o2.of (by simp [x_updR]) (by simp [x_updR]) rfl
        cases cl
        · rw [if_pos (show bi false = 0 from rfl)]
          simp only [if_true]
          exact ⟨_, rfl, fun _ => fpw, fun z => (by cases z), hCs, hCo, by simp [x_updR]; rfl⟩
        · rw [if_neg (show ¬ bi true = 0 by decide)]
          have fpc : xFp [(27, 2)] [] (false, false, false) (x_updR s2 0 4 (iN e)) (x_updR (x_updR s2 0 4 (iN e)) 27 2 (-1)) := xFp.R rfl (by simp)
          refine ⟨_, rfl, fun z => (by cases z), fun _ => by simp [x_updR], hCs.fp fpc (by simp) (by simp), hCo.of (fpc.1 _ _ (by simp)) (fpc.1 _ _ (by simp)) (fpc.2.1 _ (by simp)), ?_⟩
          rw [fpc.1 _ _ (by simp)]
          simp [x_updR]
          rfl
      by_cases h100 : e = 100
      · obtain ⟨v, hv1, hv2⟩ := h4 h100
        have h41 : s1.1 30 4 = iN v := by rw [fp.1 _ _ (by simp)]; exact hv1
        rw [if_pos (show iN e = 100 by rw [h100]; rfl), if_pos h100]
        unfold x_PlainOrigin_send_43 x_PlainOrigin_send_77
        rw [if_pos (show x_bit 0 from Or.inl rfl)]
        simp only [x_let]
        rw [show (x_updR s1 44 5 0).1 44 5 = 0 by simp [x_updR], if_pos rfl, c_isOld (show (x_updR s1 44 5 0).1 30 4 = iN v by simp [x_updR]; exact h41) hv2, Option.bind_some]
        have hRC := hR (Or.inr h100)
        have fin2 : ∀ k, ∃ σ', (Option.bind (x_PlainOrigin_send_78 (iN e) 0 (bi k) (x_updR s1 44 5 0)) (fun s130 => x_PlainOrigin_feed_136 j1 a2 bk (iN k4 + 1) (iN k5) s130)) = bk (iN (k4 + 1)) (iN (k5 + 1)) σ' ∧ RCo σ' (some c) ∧ RW σ' (w.1, w.2.1, w.2.2.1 ++ (o_sta 100 ++ wd_ 24), some 100) := by
          intro k
          obtain ⟨s2, t1, t2, t3, t4⟩ := h78 false k
          have t1' : x_PlainOrigin_send_78 (iN e) 0 (bi k) (x_updR s1 44 5 0) = some s2 := t1
          rw [t1', Option.bind_some, iN_1a, feed136]
          rw [if_pos h100, h100] at t4
          have fpa : xFp [(44, 2), (44, 3), (44, 4), (44, 7), (44, 9), (44, 10), (44, 11), (44, 5), (44, 6), (49, 1), (48, 1), (0, 4)] [50] (true, false, false) σ s2 := (fp.sub (by simp) (by simp) (by simp)).tr ((t2 rfl).sub (by simp) (by simp) (by simp))
          refine ⟨s2, rfl, ?_, t4⟩
          obtain ⟨r1, r2, r3, r4, r5, r6, r7, r8, r9, r10, r11, r12⟩ := hRC
          exact ⟨by rw [fpa.1 _ _ (by simp)]; exact r1, by rw [fpa.1 _ _ (by simp)]; exact r2, r3.of (fpa.1 _ _ (by simp)) (fpa.2.1 _ (by simp)), r4.of (fpa.1 _ _ (by simp)) (fpa.2.1 _ (by simp)), cf_of r5 fpa (by simp) (by simp) (by simp) (by simp) (by simp) (by simp) (by simp), by rw [fpa.1 _ _ (by simp)]; exact r6, fun y => (r7 y).of (fpa.1 _ _ (by simp)) (fpa.2.1 _ (by simp)), fun y => by rw [fpa.1 _ _ (by simp), fpa.1 _ _ (by simp), fpa.1 _ _ (by simp)]; exact r8 y, fun y => ⟨by rw [fp_q fpa]; exact (r9 y).1, by rw [fpa.1 _ _ (by simp)]; exact (r9 y).2.1, (r9 y).2.2.of (fpa.1 _ _ (by simp)) (fpa.2.1 _ (by simp))⟩, fun y => by rw [fpa.1 _ _ (by simp)]; exact r10 y, fun y => by rw [fpa.1 _ _ (by simp)]; exact r11 y, fun y => by rw [fpa.1 _ _ (by simp)]; exact r12 y⟩
        cases decide (v = 48)
        · rw [if_pos (show bi false = 0 from rfl)]
          exact fin2 false
        · rw [if_neg (show ¬ bi true = 0 by decide)]
          exact fin2 true
      · rw [if_neg (show ¬ iN e = 100 from mt (iN_eq (b := 100) (by omega) (by decide)).mp h100), if_neg h100]
        unfold x_PlainOrigin_send_43 x_PlainOrigin_send_77
        rw [if_pos (show x_bit 1 from Or.inr rfl)]
        simp only [x_let]
        rw [show (x_updR s1 44 5 1).1 44 5 = 1 by simp [x_updR], if_neg (show ¬ (1 : Int32) = 0 by decide)]
        obtain ⟨s2, t1, t2, t3, t4⟩ := h78 true false
        have t1' : x_PlainOrigin_send_78 (iN e) 0 0 (x_updR s1 44 5 1) = some s2 := t1
        rw [t1', Option.bind_some, iN_1a, feed136]
        rw [if_neg h100] at t4
        exact ⟨s2, rfl, t3 rfl, t4⟩
