/-! a byte in the reference -/
theorem m_respE {σ : St} {O : List Nat} (hO : Mo σ O) (hb : O.length + 2000 < 2000000000) {num : Nat} (hn : 400 ≤ num ∧ num < 1000) (h5 : ¬ num = 405) (h6 : ¬ num = 416) (hl : σ.1 51 16 = 1) : ∃ σ', x_Model_respond (iN num) 0 (-1) (-1) 0 0 σ = some σ' ∧ Mo σ' (O ++ o_all (rs0 num) true false) ∧ σ'.1 51 7 = 0 ∧ σ'.1 51 29 = iN num ∧ σ'.1 51 30 = σ.1 51 30 + 1 := by
  obtain ⟨s1, a1, a2, a3, a6⟩ := m_sayStatus hO (by omega) (num := num) (by omega)
  have fp := fp_Model_sayStatus _ _ a1
  have hlen : (o_sta num).length ≤ 30 := by
    unfold o_sta
    have := dg_len num
    simp only [List.length_append, show (wd_ 21).length = 9 by decide, show (wd_ 22).length = 3 by decide]
    omega
  have h0 : Mw s1 s1 (O ++ o_sta num) 900 := ⟨a2, xFp.rf, by rw [List.length_append]; omega⟩
  obtain ⟨s2, b1, b2⟩ := mw_word h0 MW_170 (by decide) (by omega)
  obtain ⟨s3, c1, c2⟩ := mw_num b2 (v := 0) (by omega) (by omega)
  obtain ⟨s4, d1, d2⟩ := mw_end c2 (by omega)
  obtain ⟨s5, e1, e2⟩ := mw_word d2 MW_261 (by decide) (by omega)
  obtain ⟨s6, f1, f2⟩ := mw_end e2 (by omega)
  obtain ⟨s7, g1, g2⟩ := mw_end f2 (by omega)
  have c1' : x_Model_sayNumber 0 s2 = some s3 := c1
  have l4 : s4.1 51 16 = 1 := by rw [d2.2.1.1 _ _ (by simp), fp.1 _ _ (by simp)]; exact hl
  have l7 : s7.1 51 16 = 1 := by rw [g2.2.1.1 _ _ (by simp), fp.1 _ _ (by simp)]; exact hl
  refine ⟨x_updR s7 51 7 0, ?_, ?_, by simp [x_updR], ?_, ?_⟩
  · unfold x_Model_respond
    rw [a1, Option.bind_some, if_neg (show ¬ iN num = 204 from mt (iN_eq (b := 204) (by omega) (by omega)).mp (by omega)), if_neg (show ¬ iN num = 304 from mt (iN_eq (b := 304) (by omega) (by omega)).mp (by omega)), show (170 : Int32) = iN 170 from rfl, b1, Option.bind_some, c1', Option.bind_some, d1, Option.bind_some]
    unfold x_Model_respond_35 x_Model_respond_67 x_Model_respond_140
    rw [if_pos (show (-1 : Int32) < 0 by decide), if_neg (show ¬ iN num = 206 from mt (iN_eq (b := 206) (by omega) (by omega)).mp (by omega)), if_neg (show ¬ iN num = 416 from mt (iN_eq (b := 416) (by omega) (by omega)).mp h6), if_neg (show ¬ iN num = 405 from mt (iN_eq (b := 405) (by omega) (by omega)).mp h5), if_neg (show ¬ iN num = 204 from mt (iN_eq (b := 204) (by omega) (by omega)).mp (by omega))]
    unfold x_Model_respond_175 x_Model_respond_189 x_Model_respond_206
    rw [l4, if_neg (show ¬ (1 : Int32) = 0 by decide), if_neg (show ¬ (1 : Int32) = 0 by decide), show (261 : Int32) = iN 261 from rfl, e1, Option.bind_some, f1, Option.bind_some]
    unfold x_Model_respond_213
    rw [g1, Option.bind_some, l7, if_neg (show ¬ (1 : Int32) = 0 by decide)]
    rfl
  · have := g2.1
    have e : O ++ o_all (rs0 num) true false = O ++ o_sta num ++ wd_ 23 ++ dg 0 ++ wd_ 24 ++ (wd_ 30).take 17 ++ wd_ 24 ++ wd_ 24 := by
      unfold o_all o_flds o_len o_tag o_rng o_alw o_con rs0
      simp only
      rw [if_neg (by omega), if_neg (by omega), if_neg h6]
      simp only [if_true, Bool.false_eq_true, if_false, List.nil_append, List.append_nil, List.append_assoc]
      have e30 : ∀ X, wd_ 30 ++ X = (wd_ 30).take 17 ++ (wd_ 24 ++ X) := fun X => by rw [← List.append_assoc, wt_30]
      rw [e30]
    rw [e]
    exact this.of (by simp [x_updR]) rfl
  · simp [x_updR]
    rw [g2.2.1.1 _ _ (by simp)]
    exact a3
  · simp [x_updR]
    rw [g2.2.1.1 _ _ (by simp)]
    exact a6
def CE (c : Cn) : Prop := CD c ∧ (c.1 = 2 → c.2.1 = false ∧ c.2.2.1.1 = 0)
theorem rd_CE {c : Cn} (h : CE c) {b : Nat} (hb : b < 256) (he : (rd c b).1 = 0 ∨ (rd c b).1 = 100) : CE (rd c b).2 := by
  refine ⟨rd_CD h.1 hb he, ?_⟩
  obtain ⟨⟨⟨a1, _⟩, _⟩, h2⟩ := h
  unfold rd
  by_cases s2 : c.1 = 2
  · rw [if_pos s2]
    exact fun _ => h2 s2
  · rw [if_neg s2]
    by_cases s4 : c.1 = 4
    · rw [if_pos s4]
      intro z
      exfalso
      by_cases dd : 0 < c.2.2.2.2.2.2.2.1
      · rw [if_pos dd] at z
        simp at z
      · rw [if_neg dd] at z
        by_cases e : ¬ b = (if c.2.1 then 10 else 13)
        · rw [if_pos e] at z
          exact s2 z
        · rw [if_neg e] at z
          simp only at z
          split at z <;> omega
    · rw [if_neg s4]
      intro z
      by_cases hh : c.2.1 = true
      · rw [if_pos hh] at z ⊢
        by_cases e : b = 10
        · rw [if_pos e] at z ⊢
          unfold rl at z ⊢
          by_cases s0 : c.1 = 0
          · rw [if_pos s0] at z
            by_cases l0 : c.2.2.1.1 = 0
            · rw [if_pos l0] at z; simp at z
            · rw [if_neg l0] at z; simp at z
          · rw [if_neg s0] at z ⊢
            by_cases s1 : c.1 = 1
            · rw [if_pos s1] at z ⊢
              by_cases l0 : c.2.2.1.1 = 0
              · rw [if_pos l0]
                exact ⟨rfl, rfl⟩
              · rw [if_neg l0]
                exact ⟨rfl, rfl⟩
            · rw [if_neg s1] at z ⊢
              by_cases s3 : c.1 = 3
              · rw [if_pos s3]
                exact ⟨rfl, rfl⟩
              · rw [if_neg s3]
                by_cases l0 : c.2.2.1.1 = 0
                · rw [if_pos l0]; exact ⟨rfl, rfl⟩
                · rw [if_neg l0]; exact ⟨rfl, rfl⟩
        · rw [if_neg e] at z
          exact absurd z s2
      · exfalso
        rw [if_neg hh] at z
        by_cases e : b = 10
        · rw [if_pos e] at z; exact s2 z
        · rw [if_neg e] at z
          by_cases e2 : b = 13
          · rw [if_pos e2] at z; exact s2 z
          · rw [if_neg e2] at z
            by_cases e3 : c.2.2.1.1 < 80
            · rw [if_pos e3] at z; exact s2 z
            · rw [if_neg e3] at z; exact s2 z
def RM (σ : St) (c : Cn) : Prop := σ.1 51 7 = 1 ∧ σ.1 51 8 = iN c.1 ∧ σ.1 51 9 = bi c.2.1 ∧ Ml σ c.2.2.1.1 c.2.2.1.2 ∧ (1 ≤ c.1 → Mf σ c.2.2.2.2.1.1 c.2.2.2.2.1.2 ∧ σ.1 51 12 = iN (m_offN c.2.2.2.1.1) ∧ σ.1 51 15 = iN c.2.2.2.1.2.1 ∧ σ.1 51 13 = iN c.2.2.2.1.2.2.1 ∧ (∀ j, j < c.2.2.2.1.2.2.1 → σ.2.1 58 j = iN (c.2.2.2.1.2.2.2 j)) ∧ σ.1 51 22 = iN c.2.2.2.2.2.2.1.length ∧ (∀ j, j < c.2.2.2.2.2.2.1.length → σ.2.1 62 j = iN (c.2.2.2.2.2.2.1.getD j 0))) ∧ (c.1 = 1 → σ.1 51 21 = 0) ∧ (2 ≤ c.1 → σ.1 51 16 = bi c.2.2.2.2.2.1 ∧ σ.1 51 24 = iN c.2.2.2.2.2.2.2.2) ∧ (c.1 = 2 ∨ c.1 = 4 → σ.1 51 21 = iN c.2.2.2.2.2.2.2.1)
def RMo (σ : St) (oc : Option Cn) : Prop := match oc with
  | none => σ.1 51 7 = 0
  | some c => RM σ c
def MWr (σ : St) (w : Wl) : Prop := Ms σ w.1 w.2.1 ∧ Mo σ w.2.2.1 ∧ σ.1 51 29 = oi w.2.2.2
theorem MWr.fp {σ σ' : St} {w : Wl} {R : List (Nat × Nat)} {M : List Nat} {f : Bool × Bool × Bool} (h : MWr σ w) (fp : xFp R M f σ σ') (h1 : (51, 6) ∉ R) (h2 : (51, 31) ∉ R) (h3 : (51, 29) ∉ R) (m1 : 53 ∉ M) (m2 : 54 ∉ M) (m3 : 55 ∉ M) (m4 : 56 ∉ M) (m5 : 65 ∉ M) : MWr σ' w := ⟨h.1.of (fp.1 _ _ h1) (fp.2.1 _ m1) (fp.2.1 _ m2) (fp.2.1 _ m3) (fp.2.1 _ m4), h.2.1.of (fp.1 _ _ h2) (fp.2.1 _ m5), by rw [fp.1 _ _ h3]; exact h.2.2⟩
/-- what a byte leaves in the reference -/
def MS (σ σ1 : St) (e : Nat) (c : Cn) (w : Wl) : Prop := (e = 0 → RM σ1 c ∧ MWr σ1 w ∧ σ1.1 51 25 = iN 0 ∧ σ1.1 51 30 = σ.1 51 30) ∧ (e = 3 ∨ e = 100 → RMo σ1 (fin e c w).1 ∧ MWr σ1 (fin e c w).2.1 ∧ σ1.1 51 25 = iN 0 ∧ σ1.1 51 30 = σ.1 51 30 + 1) ∧ (400 ≤ e → σ1.1 51 25 = iN e ∧ MWr σ1 w ∧ σ1.1 51 30 = σ.1 51 30)
theorem MS.err {σ σ1 : St} {e : Nat} {c : Cn} {w : Wl} (he : 400 ≤ e) (h1 : σ1.1 51 25 = iN e) (h2 : MWr σ1 w) (h3 : σ1.1 51 30 = σ.1 51 30) : MS σ σ1 e c w := ⟨fun z => by omega, fun z => by omega, fun _ => ⟨h1, h2, h3⟩⟩
theorem MS.ok {σ σ1 : St} {c : Cn} {w : Wl} (h1 : RM σ1 c) (h2 : MWr σ1 w) (h3 : σ1.1 51 25 = iN 0) (h4 : σ1.1 51 30 = σ.1 51 30) : MS σ σ1 0 c w := ⟨fun _ => ⟨h1, h2, h3, h4⟩, fun z => by omega, fun z => by omega⟩
/-- a request is answered -/
theorem m_end {σ s : St} {c : Cn} {w : Wl} (hR : Mf s c.2.2.2.2.1.1 c.2.2.2.2.1.2 ∧ s.1 51 12 = iN (m_offN c.2.2.2.1.1) ∧ s.1 51 15 = iN c.2.2.2.1.2.1 ∧ s.1 51 13 = iN c.2.2.2.1.2.2.1 ∧ (∀ j, j < c.2.2.2.1.2.2.1 → s.2.1 58 j = iN (c.2.2.2.1.2.2.2 j)) ∧ s.1 51 22 = iN c.2.2.2.2.2.2.1.length ∧ (∀ j, j < c.2.2.2.2.2.2.1.length → s.2.1 62 j = iN (c.2.2.2.2.2.2.1.getD j 0))) (hl : s.1 51 16 = bi c.2.2.2.2.2.1) (rk : Rk c.2.2.2.1) (hB : c.2.2.2.2.2.2.1.length ≤ 200) (hW : MWr s w) (hb : Sb w.1 w.2.1) (hc : w.2.1 < 999999998) (hO : w.2.2.1.length + 2000 < 2000000000) (h25 : s.1 51 25 = iN 0) (h30 : s.1 51 30 = σ.1 51 30) (h9 : s.1 51 9 = 0) : ∃ σ1, x_Model_answer s = some σ1 ∧ (∀ σ2 : St, (σ2 = x_updR σ1 51 10 0 ∨ (σ2 = σ1 ∧ s.1 51 10 = 0)) → MS σ σ2 3 c w) := by
  obtain ⟨k1, k2, k3, k4, k5, k6⟩ := rk
  obtain ⟨f1, f2, f3, f4, f5, f6, f7⟩ := hR
  obtain ⟨w1, w2, w3⟩ := hW
  have off := m_offN_lt c.2.2.2.1.1 k1
  obtain ⟨σ1, a1, ⟨a2, a3, a4, a5, a6⟩, a7⟩ := m_answer f1 w2 hO (mi := c.2.2.2.1.2.1) (me := c.2.2.2.1.1) (last := c.2.2.2.2.2.1) ⟨hl, ⟨f3, by omega⟩, f2, by omega⟩ k1 w1 hb (by omega) f6 f7 hB f4 k3 (fun j hj => ⟨f5 j hj, k4 j hj⟩) k5 k6
  have fp := fp_Model_answer _ a1
  refine ⟨σ1, a1, fun σ2 hσ => ?_⟩
  have e10 : σ2.1 51 10 = 0 := by
    rcases hσ with hσ | ⟨hσ, h10⟩
    · rw [hσ]; simp [x_updR]
    · rw [hσ, fp.1 _ _ (by simp)]; exact h10
  have keep : ∀ j, ¬ j = 10 → σ2.1 51 j = σ1.1 51 j := by
    intro j hj
    rcases hσ with hσ | ⟨hσ, _⟩
    · rw [hσ]
      show (if 51 = 51 ∧ j = 10 then (0 : Int32) else σ1.1 51 j) = _
      rw [if_neg (fun z => hj z.2)]
    · rw [hσ]
  have keep2 : σ2.2 = σ1.2 := by
    rcases hσ with hσ | ⟨hσ, _⟩
    · rw [hσ]; rfl
    · rw [hσ]
  refine ⟨fun z => by omega, fun _ => ⟨?_, ⟨a3.of (keep 6 (by decide)) (by rw [keep2]) (by rw [keep2]) (by rw [keep2]) (by rw [keep2]), a2.of (keep 31 (by decide)) (by rw [keep2]), ?_⟩, ?_, ?_⟩, fun z => by omega⟩
  · show RMo σ2 (if c.2.2.2.2.2.1 = true then none else some cn0)
    cases hq : c.2.2.2.2.2.1
    · rw [hq] at a4
      refine ⟨by rw [keep 7 (by decide), a4]; rfl, by rw [keep 8 (by decide), a7]; rfl, ?_, ⟨by rw [e10]; rfl, Nat.zero_le _, fun j hj => absurd hj (Nat.not_lt_zero j)⟩, fun z => absurd z (by simp [cn0]), fun z => absurd z (by simp [cn0]), fun z => absurd z (by simp [cn0]), fun z => absurd z (by simp [cn0])⟩
      rw [keep 9 (by decide), fp.1 _ _ (by simp), h9]
      rfl
    · rw [hq] at a4
      show σ2.1 51 7 = 0
      rw [keep 7 (by decide), a4]
      rfl
  · show σ2.1 51 29 = _
    rw [keep 29 (by decide), a5]
    rfl
  · rw [keep 25 (by decide), fp.1 _ _ (by simp)]
    exact h25
  · rw [keep 30 (by decide), a6, h30]

/-- a line ends in the reference -/
theorem m_rl {σ0 σ : St} {st : Nat} {l : Ln} {q : Rq} {g : Nat × (Nat → Ln)} {x : Cx} {w : Wl} (h : RM σ (st, false, l, q, g, x)) (hc : CE (st, false, l, q, g, x)) (hst : st = 0 ∨ st = 1 ∨ st = 3 ∨ st = 5) (hW : MWr σ w) (hb : Sb w.1 w.2.1) (hch : w.2.1 < 999999998) (hO : w.2.2.1.length + 2000 < 2000000000) (h25 : σ.1 51 25 = iN 0) (h30 : σ.1 51 30 = σ0.1 51 30) : ∃ σ1, x_Model_takeLine σ = some σ1 ∧ MS σ0 (x_updR σ1 51 10 0) (rl st l q g x).1 (rl st l q g x).2 w := by
  obtain ⟨⟨⟨a1, a2, a3, a4, a5, a6, a7, a8, a9⟩, d0, d1⟩, _⟩ := hc
  simp only at a1 a2 a3 a4 a5 a6 a7 a8 a9 d0 d1
  obtain ⟨r1, r2, r3, r4, r5, r6, r7, r8⟩ := h
  simp only at r1 r2 r3 r4 r5 r6 r7 r8
  have hl0 : σ.1 51 10 = iN l.1 := r4.1
  -- the line is emptied
  have wr : ∀ {s : St}, MWr s w → MWr (x_updR s 51 10 0) w := fun hs => hs.fp (xFp.R (R := [(51, 10)]) (M := []) (F := (false, false, false)) rfl (by simp)) (by simp) (by simp) (by simp) (by simp) (by simp) (by simp) (by simp) (by simp)
  have uj : ∀ (s : St) j, ¬ j = 10 → (x_updR s 51 10 0).1 51 j = s.1 51 j := by
    intro s j hj
    show (if 51 = 51 ∧ j = 10 then (0 : Int32) else s.1 51 j) = _
    rw [if_neg (fun z => hj z.2)]
  have mfu : ∀ {s : St} {n : Nat} {F : Nat → Ln}, Mf s n F → Mf (x_updR s 51 10 0) n F := fun hs => hs.of (uj _ 17 (by decide)) rfl rfl rfl
  have ml0 : ∀ s : St, Ml (x_updR s 51 10 0) nl0.1 nl0.2 := fun s => ⟨by simp [x_updR]; rfl, Nat.zero_le _, fun j hj => absurd hj (Nat.not_lt_zero j)⟩
  unfold x_Model_takeLine rl
  rw [r2]
  rcases hst with hst | hst | hst | hst
  · subst hst
    rw [if_pos (rfl : (0 : Nat) = 0), if_pos (show iN 0 = 0 from rfl), hl0]
    by_cases n0 : l.1 = 0
    · rw [if_pos ((iN_le0 (by omega)).mpr n0), if_pos n0]
      refine ⟨σ, rfl, MS.ok ?_ (wr hW) (by rw [uj _ 25 (by decide)]; exact h25) (by rw [uj _ 30 (by decide)]; exact h30)⟩
      exact ⟨by rw [uj _ 7 (by decide)]; exact r1, by rw [uj _ 8 (by decide)]; exact r2, by rw [uj _ 9 (by decide)]; exact r3, ml0 σ, fun z => absurd z (by simp), fun z => absurd z (by simp), fun z => absurd z (by simp), fun z => absurd z (by simp)⟩
    · rw [if_neg (mt (iN_le0 (by omega)).mp n0), if_neg n0]
      obtain ⟨s1, b1, b2, b3⟩ := m_takeRL r4 h25
      have fp := fp_Model_takeRequestLine _ b1
      have hv := q_req_val l.2 l.1
      refine ⟨s1, by rw [b1, Option.bind_some], ?_⟩
      have hW1 : MWr s1 w := hW.fp fp (by simp) (by simp) (by simp) (by simp) (by simp) (by simp) (by simp) (by simp)
      have e30 : (x_updR s1 51 10 0).1 51 30 = σ0.1 51 30 := by rw [uj _ 30 (by decide), fp.1 _ _ (by simp)]; exact h30
      by_cases q0 : q_req l.2 l.1 = 0
      · obtain ⟨c1, c2, c3, c4, c5, c6, c7, c8, c9⟩ := b3 q0
        obtain ⟨k1, k2, k3, k4⟩ := q_req_ok a2 a3 q0
        rw [k2] at c2
        show MS σ0 (x_updR s1 51 10 0) (q_req l.2 l.1) _ w
        rw [q0]
        refine MS.ok ?_ (wr hW1) (by rw [uj _ 25 (by decide), b2, q0]) e30
        refine ⟨by rw [uj _ 7 (by decide), fp.1 _ _ (by simp)]; exact r1, by rw [uj _ 8 (by decide), c1]; rfl, by rw [uj _ 9 (by decide), fp.1 _ _ (by simp)]; exact r3, ml0 s1, fun _ => ⟨mfu ⟨c6, Nat.zero_le _, fun k hk => absurd hk (Nat.not_lt_zero k)⟩, by rw [uj _ 12 (by decide)]; exact c2, by rw [uj _ 15 (by decide)]; exact c3, by rw [uj _ 13 (by decide)]; exact c4, c5, by rw [uj _ 22 (by decide)]; exact c9, fun j hj => absurd hj (Nat.not_lt_zero j)⟩, fun _ => by rw [uj _ 21 (by decide)]; exact c8, fun z => absurd z (by simp), fun z => absurd z (by simp)⟩
      · exact MS.err (by omega) (by rw [uj _ 25 (by decide)]; exact b2) (wr hW1) e30
  · subst hst
    rw [if_neg (show ¬ (1 : Nat) = 0 by decide), if_pos (rfl : (1 : Nat) = 1), if_neg (show ¬ iN 1 = 0 by decide), if_neg (show ¬ iN 1 = 3 by decide), if_pos (show iN 1 = 1 from rfl), hl0]
    obtain ⟨f1, f2, f3, f4, f5, f6, f7⟩ := r5 (by simp)
    have rk := a4 (by simp)
    have hdue := r6 rfl
    obtain ⟨d11, d12⟩ := d1 rfl
    have rk9 := rk.2.1
    by_cases n0 : l.1 = 0
    · rw [if_pos ((iN_eq0 (by omega)).mpr n0), if_pos n0]
      obtain ⟨s, fp, w1, w2, w3⟩ := m_endHead f1 h25 f3 (by omega) hdue
      have hval := h_ans_val g.2 g.1 (decide (q.2.1 = 0))
      have hWs : MWr s w := hW.fp fp (by simp) (by simp) (by simp) (by simp) (by simp) (by simp) (by simp) (by simp)
      have e30 : s.1 51 30 = σ0.1 51 30 := by rw [fp.1 _ _ (by simp)]; exact h30
      by_cases c0 : h_code g.2 g.1 (decide (q.2.1 = 0)) = 0
      · obtain ⟨u1, u2⟩ := w3 c0
        rw [u2]
        unfold x_Model_endHead_175
        rw [if_pos (bi_bit _)]
        simp only [x_let]
        generalize hs1 : x_updR s 51 16 (bi (h_last g.2 g.1 (decide (q.2.1 = 0)))) = s1
        have fp1 : xFp [(51, 25), (51, 21), (51, 26), (51, 16)] [63, 64] (false, false, false) σ s1 := fp.tr (xFp.R hs1.symm (by simp))
        have u21 : s1.1 51 21 = iN (h_len g.2 g.1) := by rw [← hs1]; simp [x_updR]; exact u1
        have u16 : s1.1 51 16 = bi (h_last g.2 g.1 (decide (q.2.1 = 0))) := by rw [← hs1]; simp [x_updR]
        have u25 : s1.1 51 25 = iN 0 := by rw [← hs1]; simp [x_updR]; rw [w1, c0]
        have hcl : h_cl g.2 g.1 = 0 := by
          unfold h_code at c0
          by_cases y1 : h_host g.2 g.1 (decide (q.2.1 = 0)) = false
          · rw [if_pos y1] at c0; cases c0
          · rw [if_neg y1] at c0
            by_cases y2 : ¬ h_te g.2 g.1 (decide (q.2.1 = 0)) = 0
            · rw [if_pos y2] at c0; exact absurd c0 y2
            · rw [if_neg y2] at c0
              by_cases y3 : ¬ h_cl g.2 g.1 = 0
              · rw [if_pos y3] at c0; exact absurd c0 y3
              · omega
        have hlen := h_cl_len hcl
        have hW1 : MWr s1 w := hW.fp fp1 (by simp) (by simp) (by simp) (by simp) (by simp) (by simp) (by simp) (by simp)
        -- 211: what follows
        have tail : ∀ (t : St) (w' : Wl), xFp [(51, 31), (51, 29), (51, 30)] [65] (false, false, false) s1 t → MWr t w' → ¬ (h_chk g.2 g.1 = false ∧ h_len g.2 g.1 = 0) → ∃ σ1, x_Model_endHead_211 (bi (h_chk g.2 g.1)) t = some σ1 ∧ RM (x_updR σ1 51 10 0) (if h_chk g.2 g.1 then 3 else 2, false, nl0, q, g, (h_last g.2 g.1 (decide (q.2.1 = 0)), [], if h_chk g.2 g.1 then 0 else h_len g.2 g.1, 0)) ∧ MWr (x_updR σ1 51 10 0) w' ∧ (x_updR σ1 51 10 0).1 51 25 = iN 0 ∧ (x_updR σ1 51 10 0).1 51 30 = t.1 51 30 := by
          intro t w' ft hwt hno
          unfold x_Model_endHead_211 x_Model_endHead_226
          simp only [x_let]
          have st : (if bi (h_chk g.2 g.1) = 0 then (if bi (h_chk g.2 g.1) = 0 then (if (x_updR (x_updR t 51 24 0) 51 8 2).1 51 21 = 0 then (Option.bind (x_Model_answer (x_updR (x_updR t 51 24 0) 51 8 2)) (fun s241 => some s241)) else some (x_updR (x_updR t 51 24 0) 51 8 2)) else some (x_updR (x_updR t 51 24 0) 51 8 2)) else (if bi (h_chk g.2 g.1) = 0 then (if (x_updR (x_updR t 51 24 0) 51 8 3).1 51 21 = 0 then (Option.bind (x_Model_answer (x_updR (x_updR t 51 24 0) 51 8 3)) (fun s241 => some s241)) else some (x_updR (x_updR t 51 24 0) 51 8 3)) else some (x_updR (x_updR t 51 24 0) 51 8 3))) = some (x_updR (x_updR t 51 24 0) 51 8 (iN (if h_chk g.2 g.1 then 3 else 2))) := by
            cases hk : h_chk g.2 g.1
            · rw [if_pos (show bi false = 0 from rfl), if_pos (show bi false = 0 from rfl), show (x_updR (x_updR t 51 24 0) 51 8 2).1 51 21 = iN (h_len g.2 g.1) by simp [x_updR]; rw [ft.1 _ _ (by simp)]; exact u21, if_neg (mt (iN_eq0 (by omega)).mp (fun z => hno ⟨hk, z⟩))]
              rfl
            · rw [if_neg (show ¬ bi true = 0 by decide), if_neg (show ¬ bi true = 0 by decide)]
              rfl
          rw [st]
          refine ⟨_, rfl, ?_⟩
          generalize hs9 : x_updR (x_updR (x_updR t 51 24 0) 51 8 (iN (if h_chk g.2 g.1 then 3 else 2))) 51 10 0 = s9
          have f9 : xFp [(51, 24), (51, 8), (51, 10)] [] (false, false, false) t s9 := ((xFp.R rfl (by simp)).tr (xFp.R rfl (by simp))).tr (xFp.R hs9.symm (by simp))
          have fall : xFp [(51, 25), (51, 21), (51, 26), (51, 16), (51, 31), (51, 29), (51, 30), (51, 24), (51, 8), (51, 10)] [63, 64, 65] (false, false, false) σ s9 := ((fp1.sub (by simp) (by simp) (by simp)).tr (ft.sub (by simp) (by simp) (by simp))).tr (f9.sub (by simp) (by simp) (by simp))
          refine ⟨⟨by rw [fall.1 _ _ (by simp)]; exact r1, by rw [← hs9]; simp [x_updR], by rw [fall.1 _ _ (by simp)]; exact r3, ⟨by rw [← hs9]; simp [x_updR]; rfl, Nat.zero_le _, fun j hj => absurd hj (Nat.not_lt_zero j)⟩, fun _ => ⟨f1.of (fall.1 _ _ (by simp)) (fall.2.1 _ (by simp)) (fall.2.1 _ (by simp)) (fall.2.1 _ (by simp)), by rw [fall.1 _ _ (by simp)]; exact f2, by rw [fall.1 _ _ (by simp)]; exact f3, by rw [fall.1 _ _ (by simp)]; exact f4, fun j hj => by rw [fall.2.1 _ (by simp)]; exact f5 j hj, by rw [fall.1 _ _ (by simp), f6, d11], fun j hj => absurd hj (Nat.not_lt_zero j)⟩, fun z => ?_, fun _ => ⟨by rw [f9.1 _ _ (by simp), ft.1 _ _ (by simp)]; exact u16, by rw [← hs9]; simp [x_updR]; rfl⟩, fun z => ?_⟩, hwt.fp f9 (by simp) (by simp) (by simp) (by simp) (by simp) (by simp) (by simp) (by simp), by rw [f9.1 _ _ (by simp), ft.1 _ _ (by simp)]; exact u25, f9.1 _ _ (by simp)⟩
          · exfalso
            simp only at z
            split at z <;> omega
          · rw [f9.1 _ _ (by simp), ft.1 _ _ (by simp), u21]
            cases hk : h_chk g.2 g.1
            · rfl
            · simp [hk] at z
        by_cases hend : h_chk g.2 g.1 = false ∧ h_len g.2 g.1 = 0
        · have h3 : h_ans g.2 g.1 (decide (q.2.1 = 0)) = 3 := by
            unfold h_ans
            rw [if_neg (by simp [c0]), if_pos hend]
          obtain ⟨hk, hz⟩ := hend
          show ∃ σ1, _ ∧ MS σ0 (x_updR σ1 51 10 0) (h_ans g.2 g.1 (decide (q.2.1 = 0))) _ w
          rw [h3, hk]
          simp only [Bool.false_eq_true, if_false]
          have st : (Option.bind (if bi (!decide (q.2.1 = 0) && decide (0 < (f_els g.2 (wd_ 10) 0 g.1).length)) = 0 then x_Model_endHead_211 (bi false) s1 else if bi false = 0 then (if s1.1 51 21 ≤ 0 then x_Model_endHead_211 (bi false) s1 else x_Model_endHead_193 (bi false) s1) else x_Model_endHead_193 (bi false) s1) (fun s52 => some s52)) = x_Model_answer (x_updR (x_updR s1 51 24 0) 51 8 2) := by
            have e211 : x_Model_endHead_211 (bi false) s1 = x_Model_answer (x_updR (x_updR s1 51 24 0) 51 8 2) := by
              unfold x_Model_endHead_211 x_Model_endHead_226
              simp only [x_let]
              rw [if_pos (show bi false = 0 from rfl), if_pos (show bi false = 0 from rfl), show (x_updR (x_updR s1 51 24 0) 51 8 2).1 51 21 = 0 by simp [x_updR]; rw [u21, hz]; rfl, if_pos rfl]
              cases x_Model_answer (x_updR (x_updR s1 51 24 0) 51 8 2) <;> rfl
            rw [u21, if_pos (show bi false = 0 from rfl), if_pos ((iN_le0 (by omega)).mpr hz), ite_self, e211]
            cases x_Model_answer (x_updR (x_updR s1 51 24 0) 51 8 2) <;> rfl
          rw [st]
          generalize hs2 : x_updR (x_updR s1 51 24 0) 51 8 2 = s2
          have f2' : xFp [(51, 24), (51, 8)] [] (false, false, false) s1 s2 := (xFp.R rfl (by simp)).tr (xFp.R hs2.symm (by simp))
          have fall : xFp [(51, 25), (51, 21), (51, 26), (51, 16), (51, 24), (51, 8)] [63, 64] (false, false, false) σ s2 := (fp1.sub (by simp) (by simp) (by simp)).tr (f2'.sub (by simp) (by simp) (by simp))
          obtain ⟨σ1, t1, t2⟩ := m_end (σ := σ0) (s := s2) (c := (2, false, nl0, q, g, (h_last g.2 g.1 (decide (q.2.1 = 0)), [], h_len g.2 g.1, 0))) (w := w) ⟨f1.of (fall.1 _ _ (by simp)) (fall.2.1 _ (by simp)) (fall.2.1 _ (by simp)) (fall.2.1 _ (by simp)), by rw [fall.1 _ _ (by simp)]; exact f2, by rw [fall.1 _ _ (by simp)]; exact f3, by rw [fall.1 _ _ (by simp)]; exact f4, fun j hj => by rw [fall.2.1 _ (by simp)]; exact f5 j hj, by rw [fall.1 _ _ (by simp), f6, d11], fun j hj => absurd hj (Nat.not_lt_zero j)⟩ (by rw [f2'.1 _ _ (by simp)]; exact u16) rk (by simp) (hW.fp fall (by simp) (by simp) (by simp) (by simp) (by simp) (by simp) (by simp) (by simp)) hb hch hO (by rw [f2'.1 _ _ (by simp)]; exact u25) (by rw [fall.1 _ _ (by simp)]; exact h30) (by rw [fall.1 _ _ (by simp), r3]; rfl)
          exact ⟨σ1, t1, t2 _ (Or.inl rfl)⟩
        · have hans : h_ans g.2 g.1 (decide (q.2.1 = 0)) = if h_goes g.2 g.1 (decide (q.2.1 = 0)) then 100 else 0 := by
            unfold h_ans
            rw [if_neg (by simp [c0]), if_neg hend]
          show ∃ σ1, _ ∧ MS σ0 (x_updR σ1 51 10 0) (h_ans g.2 g.1 (decide (q.2.1 = 0))) _ w
          rw [hans]
          have sel : (if bi (!decide (q.2.1 = 0) && decide (0 < (f_els g.2 (wd_ 10) 0 g.1).length)) = 0 then x_Model_endHead_211 (bi (h_chk g.2 g.1)) s1 else if bi (h_chk g.2 g.1) = 0 then (if s1.1 51 21 ≤ 0 then x_Model_endHead_211 (bi (h_chk g.2 g.1)) s1 else x_Model_endHead_193 (bi (h_chk g.2 g.1)) s1) else x_Model_endHead_193 (bi (h_chk g.2 g.1)) s1) = if h_goes g.2 g.1 (decide (q.2.1 = 0)) then x_Model_endHead_193 (bi (h_chk g.2 g.1)) s1 else x_Model_endHead_211 (bi (h_chk g.2 g.1)) s1 := by
            unfold h_goes
            rw [u21]
            cases (!decide (q.2.1 = 0))
            · rfl
            · cases decide (0 < (f_els g.2 (wd_ 10) 0 g.1).length)
              · rfl
              · rw [if_neg (show ¬ bi (true && true) = 0 by decide)]
                cases hk : h_chk g.2 g.1
                · rw [if_pos (show bi false = 0 from rfl), if_neg (mt (iN_le0 (by omega)).mp (fun z => hend ⟨hk, z⟩)), decide_eq_true (show 0 < h_len g.2 g.1 from Nat.pos_of_ne_zero (fun z => hend ⟨hk, z⟩))]
                  rfl
                · rw [if_neg (show ¬ bi true = 0 by decide)]
                  rfl
          rw [sel]
          cases hg : h_goes g.2 g.1 (decide (q.2.1 = 0))
          · simp only [Bool.false_eq_true, if_false]
            obtain ⟨σ1, t1, t2, t3, t4, t5⟩ := tail s1 w xFp.rf hW1 hend
            refine ⟨σ1, by rw [t1, Option.bind_some], MS.ok t2 t3 t4 (by rw [t5, fp1.1 _ _ (by simp)]; exact h30)⟩
          · simp only [if_true]
            obtain ⟨t1, m1, m2, m3, m4⟩ := m_sayStatus hW1.2.1 (by omega) (num := 100) (by decide)
            have ft1 := fp_Model_sayStatus _ _ m1
            have hl30 : (o_sta 100).length ≤ 30 := by decide
            have hMw : Mw t1 t1 (w.2.2.1 ++ o_sta 100) 900 := ⟨m2, xFp.rf, by rw [List.length_append]; omega⟩
            obtain ⟨t2, n1, n2⟩ := mw_byte (n := 800) (hMw.less (by omega)) 13
            obtain ⟨t3, o1, o2⟩ := mw_byte (n := 700) (n2.less (by omega)) 10
            have ftt : xFp [(51, 31), (51, 29), (51, 30)] [65] (false, false, false) s1 t3 := (ft1.sub (by simp) (by simp) (by simp)).tr (o2.2.1.sub (by simp) (by simp) (by simp))
            have hW3 : MWr t3 (w.1, w.2.1, w.2.2.1 ++ (o_sta 100 ++ wd_ 24), some 100) := by
              refine ⟨hW1.1.of (ftt.1 _ _ (by simp)) (ftt.2.1 _ (by simp)) (ftt.2.1 _ (by simp)) (ftt.2.1 _ (by simp)) (ftt.2.1 _ (by simp)), ?_, ?_⟩
              · have := o2.1
                have e : w.2.2.1 ++ (o_sta 100 ++ wd_ 24) = w.2.2.1 ++ o_sta 100 ++ [13] ++ [10] := by
                  rw [show wd_ 24 = [13] ++ [10] by decide]
                  simp only [List.append_assoc]
                show Mo t3 (w.2.2.1 ++ (o_sta 100 ++ wd_ 24))
                rw [e]
                exact this
              · rw [o2.2.1.1 _ _ (by simp)]
                exact m3
            obtain ⟨σ1, z1, z2, z3, z4, z5⟩ := tail t3 _ ftt hW3 hend
            refine ⟨σ1, ?_, ?_⟩
            · unfold x_Model_endHead_193
              rw [show (100 : Int32) = iN 100 from rfl, m1, Option.bind_some, show (13 : Int32) = iN 13 from rfl, n1, Option.bind_some, show (10 : Int32) = iN 10 from rfl, o1, Option.bind_some, z1, Option.bind_some]
            · refine ⟨fun z => by omega, fun _ => ⟨z2, z3, z4, ?_⟩, fun z => by omega⟩
              rw [z5, o2.2.1.1 _ _ (by simp), m4, fp1.1 _ _ (by simp), h30]
      · rw [w2 c0]
        refine ⟨s, rfl, ?_⟩
        show MS σ0 (x_updR s 51 10 0) (h_ans g.2 g.1 (decide (q.2.1 = 0))) _ w
        have he : h_ans g.2 g.1 (decide (q.2.1 = 0)) = h_code g.2 g.1 (decide (q.2.1 = 0)) := by omega
        rw [he]
        exact MS.err (by omega) (by rw [uj _ 25 (by decide)]; exact w1) (wr hWs) (by rw [uj _ 30 (by decide)]; exact e30)
    · rw [if_neg (mt (iN_eq0 (by omega)).mp n0), if_neg n0]
      obtain ⟨s1, b1, b2, b3⟩ := m_takeField r4 f1 (st := 1) (tr := 0) (Or.inl rfl) r2 (fun z => (by cases z)) (by omega) h25
      have fp := fp_Model_takeField _ b1
      have hv := t_code_val l.2 l.1 1 g.1 0
      have hW1 : MWr s1 w := hW.fp fp (by simp) (by simp) (by simp) (by simp) (by simp) (by simp) (by simp) (by simp)
      have e30 : (x_updR s1 51 10 0).1 51 30 = σ0.1 51 30 := by rw [uj _ 30 (by decide), fp.1 _ _ (by simp)]; exact h30
      refine ⟨s1, by rw [b1, Option.bind_some], ?_⟩
      show MS σ0 (x_updR s1 51 10 0) (t_code l.2 l.1 1 g.1 0) _ w
      by_cases t0 : t_code l.2 l.1 1 g.1 0 = 0
      · have hF' := (b3 t0).1 rfl
        rw [t0] at b2 ⊢
        refine MS.ok ?_ (wr hW1) (by rw [uj _ 25 (by decide)]; exact b2) e30
        exact ⟨by rw [uj _ 7 (by decide), fp.1 _ _ (by simp)]; exact r1, by rw [uj _ 8 (by decide), fp.1 _ _ (by simp)]; exact r2, by rw [uj _ 9 (by decide), fp.1 _ _ (by simp)]; exact r3, ml0 s1, fun _ => ⟨mfu hF', by rw [uj _ 12 (by decide), fp.1 _ _ (by simp)]; exact f2, by rw [uj _ 15 (by decide), fp.1 _ _ (by simp)]; exact f3, by rw [uj _ 13 (by decide), fp.1 _ _ (by simp)]; exact f4, fun j hj => by show s1.2.1 58 j = _; rw [fp.2.1 _ (by simp)]; exact f5 j hj, by rw [uj _ 22 (by decide), fp.1 _ _ (by simp)]; exact f6, fun j hj => by show s1.2.1 62 j = _; rw [fp.2.1 _ (by simp)]; exact f7 j hj⟩, fun _ => by rw [uj _ 21 (by decide), fp.1 _ _ (by simp)]; exact hdue, fun z => absurd z (by simp), fun z => absurd z (by simp)⟩
      · exact MS.err (by omega) (by rw [uj _ 25 (by decide)]; exact b2) (wr hW1) e30
  · subst hst
    rw [if_neg (show ¬ (3 : Nat) = 0 by decide), if_neg (show ¬ (3 : Nat) = 1 by decide), if_pos (rfl : (3 : Nat) = 3), if_neg (show ¬ iN 3 = 0 by decide), if_pos (show iN 3 = 3 from rfl)]
    obtain ⟨f1, f2, f3, f4, f5, f6, f7⟩ := r5 (by simp)
    obtain ⟨g1, g2⟩ := r7 (by simp)
    obtain ⟨s1, b1, b2, b3⟩ := m_takeChunkLine r4 h25 f6 a5
    have fp := fp_Model_takeChunkLine _ b1
    have hv := ck_code_val l.2 l.1 x.2.1.length
    have hW1 : MWr s1 w := hW.fp fp (by simp) (by simp) (by simp) (by simp) (by simp) (by simp) (by simp) (by simp)
    have e30 : (x_updR s1 51 10 0).1 51 30 = σ0.1 51 30 := by rw [uj _ 30 (by decide), fp.1 _ _ (by simp)]; exact h30
    refine ⟨s1, by rw [b1, Option.bind_some], ?_⟩
    show MS σ0 (x_updR s1 51 10 0) (ck_code l.2 l.1 x.2.1.length) _ w
    by_cases t0 : ck_code l.2 l.1 x.2.1.length = 0
    · obtain ⟨u1, u2⟩ := b3 t0
      obtain ⟨v, v1, v2⟩ := ck_code_0 t0
      rw [t0] at b2 ⊢
      refine MS.ok ?_ (wr hW1) (by rw [uj _ 25 (by decide)]; exact b2) e30
      refine ⟨by rw [uj _ 7 (by decide), fp.1 _ _ (by simp)]; exact r1, ?_, by rw [uj _ 9 (by decide), fp.1 _ _ (by simp)]; exact r3, ml0 s1, fun _ => ⟨mfu (f1.of (fp.1 _ _ (by simp)) (fp.2.1 _ (by simp)) (fp.2.1 _ (by simp)) (fp.2.1 _ (by simp))), by rw [uj _ 12 (by decide), fp.1 _ _ (by simp)]; exact f2, by rw [uj _ 15 (by decide), fp.1 _ _ (by simp)]; exact f3, by rw [uj _ 13 (by decide), fp.1 _ _ (by simp)]; exact f4, fun j hj => by show s1.2.1 58 j = _; rw [fp.2.1 _ (by simp)]; exact f5 j hj, by rw [uj _ 22 (by decide), fp.1 _ _ (by simp)]; exact f6, fun j hj => by show s1.2.1 62 j = _; rw [fp.2.1 _ (by simp)]; exact f7 j hj⟩, fun z => ?_, fun _ => ⟨by rw [uj _ 16 (by decide), fp.1 _ _ (by simp)]; exact g1, by rw [uj _ 24 (by decide), fp.1 _ _ (by simp)]; exact g2⟩, fun _ => ?_⟩
      · rw [uj _ 8 (by decide), u2]
        show _ = iN (if q_chunk l.2 l.1 = some 0 then 5 else 4)
        split <;> rfl
      · exfalso
        simp only at z
        split at z <;> omega
      · rw [uj _ 21 (by decide), u1]
        show _ = iN ((q_chunk l.2 l.1).getD 0)
        rw [v1]
        rfl
    · exact MS.err (by omega) (by rw [uj _ 25 (by decide)]; exact b2) (wr hW1) e30
  · subst hst
    rw [if_neg (show ¬ (5 : Nat) = 0 by decide), if_neg (show ¬ (5 : Nat) = 1 by decide), if_neg (show ¬ (5 : Nat) = 3 by decide), if_neg (show ¬ iN 5 = 0 by decide), if_neg (show ¬ iN 5 = 3 by decide), hl0, if_neg (show ¬ iN 5 = 1 by decide)]
    obtain ⟨f1, f2, f3, f4, f5, f6, f7⟩ := r5 (by simp)
    obtain ⟨g1, g2⟩ := r7 (by simp)
    have rk := a4 (by simp)
    by_cases n0 : l.1 = 0
    · rw [if_pos ((iN_eq0 (by omega)).mpr n0), if_pos n0]
      obtain ⟨σ1, t1, t2⟩ := m_end (σ := σ0) (s := σ) (c := (5, false, nl0, q, g, x)) (w := w) ⟨f1, f2, f3, f4, f5, f6, f7⟩ g1 rk a5 hW hb hch hO h25 h30 (by rw [r3]; rfl)
      exact ⟨σ1, by rw [t1, Option.bind_some], t2 _ (Or.inl rfl)⟩
    · rw [if_neg (mt (iN_eq0 (by omega)).mp n0), if_neg n0]
      obtain ⟨s1, b1, b2, b3⟩ := m_takeField r4 f1 (st := 5) (tr := x.2.2.2) (Or.inr rfl) r2 (fun _ => g2) a8 h25
      have fp := fp_Model_takeField _ b1
      have et : t_code l.2 l.1 5 g.1 x.2.2.2 = t_code l.2 l.1 5 0 x.2.2.2 := by unfold t_code t_full; rfl
      rw [et] at b2 b3
      have hv := t_code_val l.2 l.1 5 0 x.2.2.2
      have hW1 : MWr s1 w := hW.fp fp (by simp) (by simp) (by simp) (by simp) (by simp) (by simp) (by simp) (by simp)
      have e30 : (x_updR s1 51 10 0).1 51 30 = σ0.1 51 30 := by rw [uj _ 30 (by decide), fp.1 _ _ (by simp)]; exact h30
      refine ⟨s1, by rw [b1, Option.bind_some], ?_⟩
      show MS σ0 (x_updR s1 51 10 0) (t_code l.2 l.1 5 0 x.2.2.2) _ w
      by_cases t0 : t_code l.2 l.1 5 0 x.2.2.2 = 0
      · obtain ⟨u1, u2⟩ := (b3 t0).2 rfl
        rw [t0] at b2 ⊢
        refine MS.ok ?_ (wr hW1) (by rw [uj _ 25 (by decide)]; exact b2) e30
        exact ⟨by rw [uj _ 7 (by decide), fp.1 _ _ (by simp)]; exact r1, by rw [uj _ 8 (by decide), fp.1 _ _ (by simp)]; exact r2, by rw [uj _ 9 (by decide), fp.1 _ _ (by simp)]; exact r3, ml0 s1, fun _ => ⟨mfu u2, by rw [uj _ 12 (by decide), fp.1 _ _ (by simp)]; exact f2, by rw [uj _ 15 (by decide), fp.1 _ _ (by simp)]; exact f3, by rw [uj _ 13 (by decide), fp.1 _ _ (by simp)]; exact f4, fun j hj => by show s1.2.1 58 j = _; rw [fp.2.1 _ (by simp)]; exact f5 j hj, by rw [uj _ 22 (by decide), fp.1 _ _ (by simp)]; exact f6, fun j hj => by show s1.2.1 62 j = _; rw [fp.2.1 _ (by simp)]; exact f7 j hj⟩, fun z => absurd z (by simp), fun _ => ⟨by rw [uj _ 16 (by decide), fp.1 _ _ (by simp)]; exact g1, by rw [uj _ 24 (by decide)]; exact u1⟩, fun z => absurd z (by simp)⟩
      · exact MS.err (by omega) (by rw [uj _ 25 (by decide)]; exact b2) (wr hW1) e30
/-- a byte comes to the reference -/
theorem m_rd {σ : St} {c : Cn} {w : Wl} (h : RM σ c) (hc : CE c) {b : Nat} (hbb : b < 256) (hW : MWr σ w) (hb : Sb w.1 w.2.1) (hch : w.2.1 < 999999998) (hO : w.2.2.1.length + 2000 < 2000000000) (h25 : σ.1 51 25 = iN 0) : ∃ σ1, x_Model_take (iN b) σ = some σ1 ∧ MS σ σ1 (rd c b).1 (rd c b).2 w := by
  have hCE := hc
  obtain ⟨⟨⟨a1, a2, a3, a4, a5, a6, a7, a8, a9⟩, d0, d1⟩, d2⟩ := hc
  obtain ⟨st, hf, l, q, g, x⟩ := c
  have hRM := h
  obtain ⟨r1, r2, r3, r4, r5, r6, r7, r8⟩ := h
  simp only at a1 a2 a3 a4 a5 a6 a7 a8 a9 d0 d1 d2 r1 r2 r3 r4 r5 r6 r7 r8
  have hl0 : σ.1 51 10 = iN l.1 := r4.1
  unfold x_Model_take rd
  simp only
  rw [r2]
  -- a byte of a body
  have body : ∀ {due : Nat}, σ.1 51 21 = iN due → 0 < due → x.2.1.length + due ≤ 200 → 1 ≤ st → ∃ s, x_Model_take_23 (iN b) σ = (if (s.1 51 8) = (2 : Int32) then (if (s.1 51 21) = 0 then (Option.bind (x_Model_answer s) (fun s69 => some s69)) else some s) else some s) ∧ xFp [(51, 22), (51, 21)] [62] (false, false, false) σ s ∧ s.1 51 22 = iN (x.2.1 ++ [b]).length ∧ s.1 51 21 = iN (due - 1) ∧ (∀ j, j < (x.2.1 ++ [b]).length → s.2.1 62 j = iN ((x.2.1 ++ [b]).getD j 0)) := by
    intro due e21 hd hl hs
    obtain ⟨f1, f2, f3, f4, f5, f6, f7⟩ := r5 hs
    refine ⟨x_updR (x_updR (x_updM σ 62 x.2.1.length (iN b)) 51 22 (iN (x.2.1.length + 1))) 51 21 (iN (due - 1)), ?_, ((xFp.M rfl (by simp)).tr (xFp.R rfl (by simp))).tr (xFp.R rfl (by simp)), ?_, by simp [x_updR], ?_⟩
    · unfold x_Model_take_23
      simp only [x_let]
      rw [f6, if_pos ((iN_in (by omega)).mpr (by omega)), iN_clamp (by omega), show (x_updM σ 62 x.2.1.length (iN b)).1 51 22 = iN x.2.1.length from f6, iN_1a, show (x_updR (x_updM σ 62 x.2.1.length (iN b)) 51 22 (iN (x.2.1.length + 1))).1 51 21 = iN due by simp [x_updR, x_updM]; exact e21, iN_sub1 (by omega)]
    · simp [x_updR]
    · intro j hj
      rw [List.length_append, List.length_singleton] at hj
      rw [getD_app]
      show (if 62 = 62 ∧ j = x.2.1.length then iN b else σ.2.1 62 j) = _
      by_cases e : j = x.2.1.length
      · rw [if_pos ⟨rfl, e⟩, if_pos e]
      · rw [if_neg (fun z => e z.2), if_neg e]
        exact f7 j (by omega)
  by_cases s2 : st = 2
  · rw [if_pos (show iN st = 2 by rw [s2]; rfl), if_pos s2]
    have hdue := a6 s2
    have hl := a7 (Or.inl s2)
    have e21 := r8 (Or.inl s2)
    obtain ⟨f1, f2, f3, f4, f5, f6, f7⟩ := r5 (by omega)
    obtain ⟨g1, g2⟩ := r7 (by omega)
    obtain ⟨d21, d22⟩ := d2 s2
    obtain ⟨s, b1, b2, b3, b4, b5⟩ := body e21 hdue hl (by omega)
    rw [b1, b2.1 51 8 (by simp), r2, if_pos (show iN st = 2 by rw [s2]; rfl), b4]
    have hWs : MWr s w := hW.fp b2 (by simp) (by simp) (by simp) (by simp) (by simp) (by simp) (by simp) (by simp)
    have hR' : Mf s g.1 g.2 ∧ s.1 51 12 = iN (m_offN q.1) ∧ s.1 51 15 = iN q.2.1 ∧ s.1 51 13 = iN q.2.2.1 ∧ (∀ j, j < q.2.2.1 → s.2.1 58 j = iN (q.2.2.2 j)) ∧ s.1 51 22 = iN (x.2.1 ++ [b]).length ∧ (∀ j, j < (x.2.1 ++ [b]).length → s.2.1 62 j = iN ((x.2.1 ++ [b]).getD j 0)) := ⟨f1.of (b2.1 _ _ (by simp)) (b2.2.1 _ (by simp)) (b2.2.1 _ (by simp)) (b2.2.1 _ (by simp)), by rw [b2.1 _ _ (by simp)]; exact f2, by rw [b2.1 _ _ (by simp)]; exact f3, by rw [b2.1 _ _ (by simp)]; exact f4, fun j hj => by rw [b2.2.1 _ (by simp)]; exact f5 j hj, b3, b5⟩
    by_cases e1 : x.2.2.1 = 1
    · rw [if_pos (show iN (x.2.2.1 - 1) = 0 by rw [e1]; rfl)]
      simp only [e1, if_true]
      obtain ⟨σ1, t1, t2⟩ := m_end (σ := σ) (s := s) (c := (2, hf, l, q, g, (x.1, x.2.1 ++ [b], 0, x.2.2.2))) (w := w) hR' (by rw [b2.1 _ _ (by simp)]; exact g1) (a4 (by omega)) (by simp; omega) hWs hb hch hO (by rw [b2.1 _ _ (by simp)]; exact h25) (b2.1 _ _ (by simp)) (by rw [b2.1 _ _ (by simp), r3, d21]; rfl)
      exact ⟨σ1, by rw [t1, Option.bind_some], t2 _ (Or.inr ⟨rfl, by rw [b2.1 _ _ (by simp), hl0, d22]; rfl⟩)⟩
    · rw [if_neg (mt (iN_eq0 (by omega)).mp (by omega))]
      simp only [e1, if_false]
      refine ⟨s, rfl, MS.ok ?_ hWs (by rw [b2.1 _ _ (by simp)]; exact h25) (b2.1 _ _ (by simp))⟩
      exact ⟨by rw [b2.1 _ _ (by simp)]; exact r1, by rw [b2.1 _ _ (by simp), r2, s2], by rw [b2.1 _ _ (by simp)]; exact r3, r4.of (b2.1 _ _ (by simp)) (b2.2.1 _ (by simp)), fun _ => hR', fun z => absurd z (by simp), fun _ => ⟨by rw [b2.1 _ _ (by simp)]; exact g1, by rw [b2.1 _ _ (by simp)]; exact g2⟩, fun _ => b4⟩
  · rw [if_neg (show ¬ iN st = 2 from mt (iN_eq (b := 2) (by omega) (by decide)).mp s2), if_neg s2]
    by_cases s4 : st = 4
    · rw [if_pos (show iN st = 4 by rw [s4]; rfl), if_pos s4]
      have hl := a7 (Or.inr s4)
      have e21 := r8 (Or.inr s4)
      obtain ⟨f1, f2, f3, f4, f5, f6, f7⟩ := r5 (by omega)
      obtain ⟨g1, g2⟩ := r7 (by omega)
      rw [e21]
      by_cases dd : 0 < x.2.2.1
      · rw [if_neg (mt (iN_le0 (by omega)).mp (by omega)), if_pos dd]
        obtain ⟨s, b1, b2, b3, b4, b5⟩ := body e21 dd hl (by omega)
        rw [b1, b2.1 51 8 (by simp), r2, if_neg (show ¬ iN st = 2 from mt (iN_eq (b := 2) (by omega) (by decide)).mp s2)]
        have hWs : MWr s w := hW.fp b2 (by simp) (by simp) (by simp) (by simp) (by simp) (by simp) (by simp) (by simp)
        refine ⟨s, rfl, MS.ok ?_ hWs (by rw [b2.1 _ _ (by simp)]; exact h25) (b2.1 _ _ (by simp))⟩
        exact ⟨by rw [b2.1 _ _ (by simp)]; exact r1, by rw [b2.1 _ _ (by simp), r2, s4], by rw [b2.1 _ _ (by simp)]; exact r3, r4.of (b2.1 _ _ (by simp)) (b2.2.1 _ (by simp)), fun _ => ⟨f1.of (b2.1 _ _ (by simp)) (b2.2.1 _ (by simp)) (b2.2.1 _ (by simp)) (b2.2.1 _ (by simp)), by rw [b2.1 _ _ (by simp)]; exact f2, by rw [b2.1 _ _ (by simp)]; exact f3, by rw [b2.1 _ _ (by simp)]; exact f4, fun j hj => by rw [b2.2.1 _ (by simp)]; exact f5 j hj, b3, b5⟩, fun z => absurd z (by simp), fun _ => ⟨by rw [b2.1 _ _ (by simp)]; exact g1, by rw [b2.1 _ _ (by simp)]; exact g2⟩, fun _ => b4⟩
      · rw [if_pos ((iN_le0 (by omega)).mpr (by omega)), if_neg dd]
        unfold x_Model_take_75
        rw [r2, if_pos (show iN st = 4 by rw [s4]; rfl), r3]
        have st1 : (if bi hf = 0 then x_Model_take_99 (iN b) (13 : Int32) (iN b) σ else x_Model_take_99 (iN b) (10 : Int32) (iN b) σ) = x_Model_take_99 (iN b) (iN (if hf then 10 else 13)) (iN b) σ := by
          cases hf <;> rfl
        have hk : (if hf = true then 10 else 13) < 256 := by split <;> omega
        rw [st1]
        unfold x_Model_take_99 x_Model_take_107 x_Model_take_126
        by_cases e : ¬ b = (if hf = true then 10 else 13)
        · rw [if_neg (mt (iN_eq (by omega) (by omega)).mp e), if_pos e, m_blame0 h25, Option.bind_some]
          simp only [x_let]
          have fin2 : ∀ k0 : Int32, ∃ σ1, (if (x_updR (x_updR σ 51 25 400) 51 8 k0).1 51 9 = 0 then some (x_updR (x_updR (x_updR σ 51 25 400) 51 8 k0) 51 9 1) else some (x_updR (x_updR (x_updR σ 51 25 400) 51 8 k0) 51 9 0)) = some σ1 ∧ σ1.1 51 25 = iN 400 ∧ xFp [(51, 25), (51, 8), (51, 9)] [] (false, false, false) σ σ1 := by
            intro k0
            have f1 : xFp [(51, 25), (51, 8), (51, 9)] [] (false, false, false) σ (x_updR (x_updR σ 51 25 400) 51 8 k0) := (xFp.R rfl (by simp)).tr (xFp.R rfl (by simp))
            by_cases hz : (x_updR (x_updR σ 51 25 400) 51 8 k0).1 51 9 = 0
            · rw [if_pos hz]
              exact ⟨_, rfl, by simp [x_updR]; rfl, f1.tr (xFp.R rfl (by simp))⟩
            · rw [if_neg hz]
              exact ⟨_, rfl, by simp [x_updR]; rfl, f1.tr (xFp.R rfl (by simp))⟩
          by_cases h9 : (x_updR σ 51 25 400).1 51 9 = 0
          · rw [if_pos h9]
            obtain ⟨σ1, t1, t2, t3⟩ := fin2 4
            exact ⟨σ1, t1, MS.err (by omega) t2 (hW.fp t3 (by simp) (by simp) (by simp) (by simp) (by simp) (by simp) (by simp) (by simp)) (t3.1 _ _ (by simp))⟩
          · rw [if_neg h9]
            obtain ⟨σ1, t1, t2, t3⟩ := fin2 3
            exact ⟨σ1, t1, MS.err (by omega) t2 (hW.fp t3 (by simp) (by simp) (by simp) (by simp) (by simp) (by simp) (by simp) (by simp)) (t3.1 _ _ (by simp))⟩
        · have e' : b = (if hf = true then 10 else 13) := Decidable.not_not.mp e
          rw [if_pos (show iN b = iN (if hf = true then 10 else 13) by rw [e']), if_neg e, m_blame1, Option.bind_some, r3]
          simp only [x_let]
          cases hf
          · rw [if_pos (show bi false = 0 from rfl), show (x_updR σ 51 8 4).1 51 9 = 0 by simp [x_updR]; rw [r3]; rfl, if_pos rfl]
            have f2' : xFp [(51, 8), (51, 9)] [] (false, false, false) σ (x_updR (x_updR σ 51 8 4) 51 9 1) := (xFp.R rfl (by simp)).tr (xFp.R rfl (by simp))
            refine ⟨_, rfl, MS.ok ?_ (hW.fp f2' (by simp) (by simp) (by simp) (by simp) (by simp) (by simp) (by simp) (by simp)) (by rw [f2'.1 _ _ (by simp)]; exact h25) (f2'.1 _ _ (by simp))⟩
            exact ⟨by rw [f2'.1 _ _ (by simp)]; exact r1, by simp [x_updR]; rfl, by simp [x_updR]; rfl, r4.of (f2'.1 _ _ (by simp)) (f2'.2.1 _ (by simp)), fun _ => ⟨f1.of (f2'.1 _ _ (by simp)) (f2'.2.1 _ (by simp)) (f2'.2.1 _ (by simp)) (f2'.2.1 _ (by simp)), by rw [f2'.1 _ _ (by simp)]; exact f2, by rw [f2'.1 _ _ (by simp)]; exact f3, by rw [f2'.1 _ _ (by simp)]; exact f4, fun j hj => by rw [f2'.2.1 _ (by simp)]; exact f5 j hj, by rw [f2'.1 _ _ (by simp)]; exact f6, fun j hj => by rw [f2'.2.1 _ (by simp)]; exact f7 j hj⟩, fun z => absurd z (by simp), fun _ => ⟨by rw [f2'.1 _ _ (by simp)]; exact g1, by rw [f2'.1 _ _ (by simp)]; exact g2⟩, fun _ => by rw [f2'.1 _ _ (by simp)]; exact e21⟩
          · rw [if_neg (show ¬ bi true = 0 by decide), show (x_updR σ 51 8 3).1 51 9 = 1 by simp [x_updR]; rw [r3]; rfl, if_neg (show ¬ (1 : Int32) = 0 by decide)]
            have f2' : xFp [(51, 8), (51, 9)] [] (false, false, false) σ (x_updR (x_updR σ 51 8 3) 51 9 0) := (xFp.R rfl (by simp)).tr (xFp.R rfl (by simp))
            refine ⟨_, rfl, MS.ok ?_ (hW.fp f2' (by simp) (by simp) (by simp) (by simp) (by simp) (by simp) (by simp) (by simp)) (by rw [f2'.1 _ _ (by simp)]; exact h25) (f2'.1 _ _ (by simp))⟩
            exact ⟨by rw [f2'.1 _ _ (by simp)]; exact r1, by simp [x_updR]; rfl, by simp [x_updR]; rfl, r4.of (f2'.1 _ _ (by simp)) (f2'.2.1 _ (by simp)), fun _ => ⟨f1.of (f2'.1 _ _ (by simp)) (f2'.2.1 _ (by simp)) (f2'.2.1 _ (by simp)) (f2'.2.1 _ (by simp)), by rw [f2'.1 _ _ (by simp)]; exact f2, by rw [f2'.1 _ _ (by simp)]; exact f3, by rw [f2'.1 _ _ (by simp)]; exact f4, fun j hj => by rw [f2'.2.1 _ (by simp)]; exact f5 j hj, by rw [f2'.1 _ _ (by simp)]; exact f6, fun j hj => by rw [f2'.2.1 _ (by simp)]; exact f7 j hj⟩, fun z => absurd z (by simp), fun _ => ⟨by rw [f2'.1 _ _ (by simp)]; exact g1, by rw [f2'.1 _ _ (by simp)]; exact g2⟩, fun z => absurd z (by simp)⟩
    · rw [if_neg (show ¬ iN st = 4 from mt (iN_eq (b := 4) (by omega) (by decide)).mp s4), if_neg s4]
      unfold x_Model_take_75
      rw [r2, if_neg (show ¬ iN st = 4 from mt (iN_eq (b := 4) (by omega) (by decide)).mp s4), r3]
      cases hf
      · rw [if_pos (show bi false = 0 from rfl), if_neg (show ¬ false = true by decide)]
        by_cases e : b = 10
        · rw [if_neg (show ¬ iN b = 13 by rw [e]; decide), if_pos (show iN b = 10 by rw [e]; rfl), if_pos e]
          unfold x_Model_take_223 x_Model_take_244 x_Model_take_274
          have w4 : (x_updR σ 51 25 400).1 51 25 = iN 400 := ck_w4 σ
          have f4 : xFp [(51, 25)] [] (false, false, false) σ (x_updR σ 51 25 400) := xFp.R rfl (by simp)
          have run : (Option.bind (x_Model_blame 0 400 σ) (fun s226 => (if (80 : Int32) ≤ (s226.1 51 10) then (if (s226.1 51 8) = 0 then (Option.bind (x_Model_blame 0 414 s226) (fun s274 => (if (s274.1 51 25) = 0 then (if x_in (s274.1 51 10) 80 then (x_let (x_updM s274 57 (s274.1 51 10).toNatClampNeg (iN b)) (fun (s293 : St) => (x_let (x_updR s293 51 10 ((s293.1 51 10) + (1 : Int32))) (fun (s301 : St) => some s301)))) else none) else some s274))) else (if (s226.1 51 8) = (3 : Int32) then (Option.bind (x_Model_blame 0 400 s226) (fun s274 => (if (s274.1 51 25) = 0 then (if x_in (s274.1 51 10) 80 then (x_let (x_updM s274 57 (s274.1 51 10).toNatClampNeg (iN b)) (fun (s293 : St) => (x_let (x_updR s293 51 10 ((s293.1 51 10) + (1 : Int32))) (fun (s301 : St) => some s301)))) else none) else some s274))) else (Option.bind (x_Model_blame 0 431 s226) (fun s274 => (if (s274.1 51 25) = 0 then (if x_in (s274.1 51 10) 80 then (x_let (x_updM s274 57 (s274.1 51 10).toNatClampNeg (iN b)) (fun (s293 : St) => (x_let (x_updR s293 51 10 ((s293.1 51 10) + (1 : Int32))) (fun (s301 : St) => some s301)))) else none) else some s274))))) else (if (s226.1 51 8) = 0 then (Option.bind (x_Model_blame 1 414 s226) (fun s274 => (if (s274.1 51 25) = 0 then (if x_in (s274.1 51 10) 80 then (x_let (x_updM s274 57 (s274.1 51 10).toNatClampNeg (iN b)) (fun (s293 : St) => (x_let (x_updR s293 51 10 ((s293.1 51 10) + (1 : Int32))) (fun (s301 : St) => some s301)))) else none) else some s274))) else (if (s226.1 51 8) = (3 : Int32) then (Option.bind (x_Model_blame 1 400 s226) (fun s274 => (if (s274.1 51 25) = 0 then (if x_in (s274.1 51 10) 80 then (x_let (x_updM s274 57 (s274.1 51 10).toNatClampNeg (iN b)) (fun (s293 : St) => (x_let (x_updR s293 51 10 ((s293.1 51 10) + (1 : Int32))) (fun (s301 : St) => some s301)))) else none) else some s274))) else (Option.bind (x_Model_blame 1 431 s226) (fun s274 => (if (s274.1 51 25) = 0 then (if x_in (s274.1 51 10) 80 then (x_let (x_updM s274 57 (s274.1 51 10).toNatClampNeg (iN b)) (fun (s293 : St) => (x_let (x_updR s293 51 10 ((s293.1 51 10) + (1 : Int32))) (fun (s301 : St) => some s301)))) else none) else some s274)))))))) = some (x_updR σ 51 25 400) := by
            rw [m_blame0 h25, Option.bind_some]
            simp only [m_blameW w4 (by decide) (by decide), Option.bind_some]
            simp only [w4, show (iN 400 = 0) = False from eq_false (by decide), if_false, ite_self]
          refine ⟨_, run, MS.err (by omega) w4 (hW.fp f4 (by simp) (by simp) (by simp) (by simp) (by simp) (by simp) (by simp) (by simp)) (f4.1 _ _ (by simp))⟩
        · rw [if_neg e]
          by_cases e2 : b = 13
          · rw [if_pos (show iN b = 13 by rw [e2]; rfl), if_pos e2]
            have f2' : xFp [(51, 9)] [] (false, false, false) σ (x_updR σ 51 9 1) := xFp.R rfl (by simp)
            refine ⟨_, rfl, MS.ok ?_ (hW.fp f2' (by simp) (by simp) (by simp) (by simp) (by simp) (by simp) (by simp) (by simp)) (by rw [f2'.1 _ _ (by simp)]; exact h25) (f2'.1 _ _ (by simp))⟩
            exact ⟨by rw [f2'.1 _ _ (by simp)]; exact r1, by rw [f2'.1 _ _ (by simp)]; exact r2, by simp [x_updR]; rfl, r4.of (f2'.1 _ _ (by simp)) (f2'.2.1 _ (by simp)), fun y => ⟨(r5 y).1.of (f2'.1 _ _ (by simp)) (f2'.2.1 _ (by simp)) (f2'.2.1 _ (by simp)) (f2'.2.1 _ (by simp)), by rw [f2'.1 _ _ (by simp)]; exact (r5 y).2.1, by rw [f2'.1 _ _ (by simp)]; exact (r5 y).2.2.1, by rw [f2'.1 _ _ (by simp)]; exact (r5 y).2.2.2.1, fun j hj => by rw [f2'.2.1 _ (by simp)]; exact (r5 y).2.2.2.2.1 j hj, by rw [f2'.1 _ _ (by simp)]; exact (r5 y).2.2.2.2.2.1, fun j hj => by rw [f2'.2.1 _ (by simp)]; exact (r5 y).2.2.2.2.2.2 j hj⟩, fun z => by rw [f2'.1 _ _ (by simp)]; exact r6 z, fun z => ⟨by rw [f2'.1 _ _ (by simp)]; exact (r7 z).1, by rw [f2'.1 _ _ (by simp)]; exact (r7 z).2⟩, fun z => by rw [f2'.1 _ _ (by simp)]; exact r8 z⟩
          · rw [if_neg (show ¬ iN b = 13 from mt (iN_eq (b := 13) (by omega) (by decide)).mp e2), if_neg (show ¬ iN b = 10 from mt (iN_eq (b := 10) (by omega) (by decide)).mp e), if_neg e2]
            unfold x_Model_take_223
            rw [m_blame1, Option.bind_some, hl0]
            by_cases e3 : l.1 < 80
            · rw [if_neg (show ¬ (80 : Int32) ≤ iN l.1 from mt (iN_le (a := 80) (by omega) (by omega)).mp (by omega)), if_pos e3]
              have run : x_Model_take_244 (iN b) 1 σ = some (x_updR (x_updM σ 57 l.1 (iN b)) 51 10 (iN (l.1 + 1))) := by
                unfold x_Model_take_244 x_Model_take_274
                simp only [m_blame1, Option.bind_some, ite_self]
                rw [if_pos (show σ.1 51 25 = 0 from h25), hl0, if_pos ((iN_in (by omega)).mpr e3), iN_clamp (by omega)]
                simp only [x_let]
                rw [show (x_updM σ 57 l.1 (iN b)).1 51 10 = iN l.1 from hl0, iN_1a]
              have f2' : xFp [(51, 10)] [57] (false, false, false) σ (x_updR (x_updM σ 57 l.1 (iN b)) 51 10 (iN (l.1 + 1))) := (xFp.M rfl (by simp)).tr (xFp.R rfl (by simp))
              refine ⟨_, run, MS.ok ?_ (hW.fp f2' (by simp) (by simp) (by simp) (by simp) (by simp) (by simp) (by simp) (by simp)) (by rw [f2'.1 _ _ (by simp)]; exact h25) (f2'.1 _ _ (by simp))⟩
              refine ⟨by rw [f2'.1 _ _ (by simp)]; exact r1, by rw [f2'.1 _ _ (by simp)]; exact r2, by rw [f2'.1 _ _ (by simp)]; exact r3, ⟨by simp [x_updR], by simp only; omega, fun j hj => ?_⟩, fun y => ⟨(r5 y).1.of (f2'.1 _ _ (by simp)) (f2'.2.1 _ (by simp)) (f2'.2.1 _ (by simp)) (f2'.2.1 _ (by simp)), by rw [f2'.1 _ _ (by simp)]; exact (r5 y).2.1, by rw [f2'.1 _ _ (by simp)]; exact (r5 y).2.2.1, by rw [f2'.1 _ _ (by simp)]; exact (r5 y).2.2.2.1, fun j hj => by rw [f2'.2.1 _ (by simp)]; exact (r5 y).2.2.2.2.1 j hj, by rw [f2'.1 _ _ (by simp)]; exact (r5 y).2.2.2.2.2.1, fun j hj => by rw [f2'.2.1 _ (by simp)]; exact (r5 y).2.2.2.2.2.2 j hj⟩, fun z => by rw [f2'.1 _ _ (by simp)]; exact r6 z, fun z => ⟨by rw [f2'.1 _ _ (by simp)]; exact (r7 z).1, by rw [f2'.1 _ _ (by simp)]; exact (r7 z).2⟩, fun z => by rw [f2'.1 _ _ (by simp)]; exact r8 z⟩
              have hj' : j < l.1 + 1 := hj
              show (if 57 = 57 ∧ j = l.1 then iN b else σ.2.1 57 j) = iN (if j = l.1 then b else l.2 j) ∧ (if j = l.1 then b else l.2 j) < 256
              by_cases ee : j = l.1
              · rw [if_pos ⟨rfl, ee⟩, if_pos ee]
                exact ⟨rfl, hbb⟩
              · rw [if_neg (fun z => ee z.2), if_neg ee]
                exact r4.2.2 j (by omega)
            · rw [if_pos (show (80 : Int32) ≤ iN l.1 from (iN_le (a := 80) (by omega) (by omega)).mpr (by omega)), if_neg e3]
              have hq : q_tooLong st = 414 ∨ q_tooLong st = 400 ∨ q_tooLong st = 431 := by
                unfold q_tooLong
                split
                · simp
                · split <;> simp
              have bl : ∀ c : Nat, (c = 414 ∨ c = 400 ∨ c = 431) → ∃ σ1, x_Model_take_274 (iN b) (iN c) 0 σ = some σ1 ∧ σ1.1 51 25 = iN c ∧ xFp [(51, 25)] [] (false, false, false) σ σ1 := by
                intro c hcc
                have w4 : (x_updR σ 51 25 (iN c)).1 51 25 = iN c := by simp [x_updR]
                refine ⟨_, ?_, w4, xFp.R rfl (by simp)⟩
                unfold x_Model_take_274
                rw [m_blame0 h25, Option.bind_some, w4, if_neg (mt (iN_eq0 (by omega)).mp (by omega))]
              have run : x_Model_take_244 (iN b) 0 σ = x_Model_take_274 (iN b) (iN (q_tooLong st)) 0 σ := by
                unfold x_Model_take_244 q_tooLong
                rw [r2]
                by_cases s0 : st = 0
                · rw [if_pos (show iN st = 0 by rw [s0]; rfl), if_pos s0]; rfl
                · rw [if_neg (mt (iN_eq0 (by omega)).mp s0), if_neg s0]
                  by_cases s3 : st = 3
                  · rw [if_pos (show iN st = 3 by rw [s3]; rfl), if_pos s3]; rfl
                  · rw [if_neg (show ¬ iN st = 3 from mt (iN_eq (b := 3) (by omega) (by decide)).mp s3), if_neg s3]; rfl
              obtain ⟨σ1, t1, t2, t3⟩ := bl (q_tooLong st) hq
              rw [run]
              exact ⟨σ1, t1, MS.err (by omega) t2 (hW.fp t3 (by simp) (by simp) (by simp) (by simp) (by simp) (by simp) (by simp) (by simp)) (t3.1 _ _ (by simp))⟩
      · rw [if_neg (show ¬ bi true = 0 by decide), if_pos (rfl : true = true)]
        unfold x_Model_take_167
        by_cases e : b = 10
        · rw [if_pos (show iN b = 10 by rw [e]; rfl), if_pos e, m_blame1, Option.bind_some]
          simp only [x_let]
          have f2' : xFp [(51, 9)] [] (false, false, false) σ (x_updR σ 51 9 0) := xFp.R rfl (by simp)
          rw [f2'.1 51 25 (by simp), if_pos (show σ.1 51 25 = 0 from h25)]
          have hRM2 : RM (x_updR σ 51 9 0) (st, false, l, q, g, x) := ⟨by rw [f2'.1 _ _ (by simp)]; exact r1, by rw [f2'.1 _ _ (by simp)]; exact r2, by simp [x_updR]; rfl, r4.of (f2'.1 _ _ (by simp)) (f2'.2.1 _ (by simp)), fun y => ⟨(r5 y).1.of (f2'.1 _ _ (by simp)) (f2'.2.1 _ (by simp)) (f2'.2.1 _ (by simp)) (f2'.2.1 _ (by simp)), by rw [f2'.1 _ _ (by simp)]; exact (r5 y).2.1, by rw [f2'.1 _ _ (by simp)]; exact (r5 y).2.2.1, by rw [f2'.1 _ _ (by simp)]; exact (r5 y).2.2.2.1, fun j hj => by rw [f2'.2.1 _ (by simp)]; exact (r5 y).2.2.2.2.1 j hj, by rw [f2'.1 _ _ (by simp)]; exact (r5 y).2.2.2.2.2.1, fun j hj => by rw [f2'.2.1 _ (by simp)]; exact (r5 y).2.2.2.2.2.2 j hj⟩, fun z => by rw [f2'.1 _ _ (by simp)]; exact r6 z, fun z => ⟨by rw [f2'.1 _ _ (by simp)]; exact (r7 z).1, by rw [f2'.1 _ _ (by simp)]; exact (r7 z).2⟩, fun z => by rw [f2'.1 _ _ (by simp)]; exact r8 z⟩
          have hCE2 : CE (st, false, l, q, g, x) := ⟨⟨⟨a1, a2, a3, a4, a5, a6, a7, a8, a9⟩, d0, d1⟩, fun z => absurd z s2⟩
          obtain ⟨σ1, t1, t2⟩ := m_rl (σ0 := σ) hRM2 hCE2 (by omega) (hW.fp f2' (by simp) (by simp) (by simp) (by simp) (by simp) (by simp) (by simp) (by simp)) hb hch hO (by rw [f2'.1 _ _ (by simp)]; exact h25) (f2'.1 _ _ (by simp))
          rw [t1, Option.bind_some]
          exact ⟨_, rfl, t2⟩
        · rw [if_neg (show ¬ iN b = 10 from mt (iN_eq (b := 10) (by omega) (by decide)).mp e), if_neg e, m_blame0 h25, Option.bind_some]
          simp only [x_let]
          have f2' : xFp [(51, 25), (51, 9)] [] (false, false, false) σ (x_updR (x_updR σ 51 25 400) 51 9 0) := (xFp.R rfl (by simp)).tr (xFp.R rfl (by simp))
          have w4 : (x_updR (x_updR σ 51 25 400) 51 9 0).1 51 25 = iN 400 := by simp [x_updR]; rfl
          rw [w4, if_neg (show ¬ iN 400 = 0 by decide)]
          exact ⟨_, rfl, MS.err (by omega) w4 (hW.fp f2' (by simp) (by simp) (by simp) (by simp) (by simp) (by simp) (by simp) (by simp)) (f2'.1 _ _ (by simp))⟩
