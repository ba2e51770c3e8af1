/-! a byte in the class -/
def CD (c : Cn) : Prop := CC c ∧ (c.1 = 0 → c.2.2.2.2.2 = (false, [], 0, 0) ∧ c.2.2.2.2.1.1 = 0) ∧ (c.1 = 1 → c.2.2.2.2.2.2.1 = [] ∧ c.2.2.2.2.2.2.2.2 = 0)
theorem rd_CD {c : Cn} (h : CD c) {b : Nat} (hb : b < 256) (he : (rd c b).1 = 0 ∨ (rd c b).1 = 100) : CD (rd c b).2 := by
  obtain ⟨⟨a1, a2, a3, a4, a5, a6, a7, a8, a9⟩, d0, d1⟩ := h
  unfold rd at he ⊢
  by_cases s2 : c.1 = 2
  · rw [if_pos s2] at he ⊢
    have ne1 : ¬ c.2.2.2.2.2.2.2.1 = 1 := by
      intro z
      simp only [z, if_true] at he
      omega
    have := a6 s2
    have := a7 (Or.inl s2)
    refine ⟨⟨by simp, a2, a3, fun _ => a4 (by omega), by simp; omega, fun _ => by simp; omega, fun _ => by simp; omega, a8, a9⟩, fun z => by simp at z, fun z => by simp at z⟩
  · rw [if_neg s2] at he ⊢
    by_cases s4 : c.1 = 4
    · rw [if_pos s4] at he ⊢
      have := a7 (Or.inr s4)
      by_cases dd : 0 < c.2.2.2.2.2.2.2.1
      · rw [if_pos dd] at he ⊢
        exact ⟨⟨by simp, a2, a3, fun _ => a4 (by omega), by simp; omega, fun z => by simp at z, fun _ => by simp; omega, a8, a9⟩, fun z => by simp at z, fun z => by simp at z⟩
      · rw [if_neg dd] at he ⊢
        by_cases e : ¬ b = (if c.2.1 then 10 else 13)
        · rw [if_pos e] at he
          simp at he
        · rw [if_neg e]
          cases hh : c.2.1
          · exact ⟨⟨by simp, a2, a3, fun _ => a4 (by omega), a5, fun z => by simp at z, fun _ => this, a8, a9⟩, fun z => by simp at z, fun z => by simp at z⟩
          · exact ⟨⟨by simp, a2, a3, fun _ => a4 (by omega), a5, fun z => by simp at z, fun z => by simp at z, a8, a9⟩, fun z => by simp at z, fun z => by simp at z⟩
    · rw [if_neg s4] at he ⊢
      by_cases hh : c.2.1 = true
      · rw [if_pos hh] at he ⊢
        by_cases e : b = 10
        · rw [if_pos e] at he ⊢
          have hCC : CC (c.1, c.2.1, c.2.2.1, c.2.2.2.1, c.2.2.2.2.1, c.2.2.2.2.2) := ⟨a1, a2, a3, a4, a5, a6, a7, a8, a9⟩
          refine ⟨rl_CC hCC (fun z => (d0 z).1) (fun z => (d1 z).1) (by omega) (by omega), ?_, ?_⟩
          · unfold rl
            intro z
            by_cases s0 : c.1 = 0
            · rw [if_pos s0] at z ⊢
              by_cases l0 : c.2.2.1.1 = 0
              · rw [if_pos l0]
                exact d0 s0
              · rw [if_neg l0] at z
                simp at z
            · rw [if_neg s0] at z
              by_cases s1 : c.1 = 1
              · rw [if_pos s1] at z
                by_cases l0 : c.2.2.1.1 = 0
                · rw [if_pos l0] at z
                  simp only at z
                  split at z <;> omega
                · rw [if_neg l0] at z
                  simp at z
              · rw [if_neg s1] at z
                by_cases s3 : c.1 = 3
                · rw [if_pos s3] at z
                  simp only at z
                  split at z <;> omega
                · rw [if_neg s3] at z
                  by_cases l0 : c.2.2.1.1 = 0
                  · rw [if_pos l0] at z; exact absurd z s0
                  · rw [if_neg l0] at z; exact absurd z s0
          · unfold rl
            intro z
            by_cases s0 : c.1 = 0
            · rw [if_pos s0] at z ⊢
              by_cases l0 : c.2.2.1.1 = 0
              · rw [if_pos l0] at z
                simp at z
              · rw [if_neg l0]
                exact ⟨rfl, rfl⟩
            · rw [if_neg s0] at z ⊢
              by_cases s1 : c.1 = 1
              · rw [if_pos s1] at z ⊢
                by_cases l0 : c.2.2.1.1 = 0
                · rw [if_pos l0] at z
                  simp only at z
                  split at z <;> omega
                · rw [if_neg l0]
                  exact d1 s1
              · rw [if_neg s1] at z
                by_cases s3 : c.1 = 3
                · rw [if_pos s3] at z
                  simp only at z
                  split at z <;> omega
                · rw [if_neg s3] at z
                  by_cases l0 : c.2.2.1.1 = 0
                  · rw [if_pos l0] at z; exact absurd z s1
                  · rw [if_neg l0] at z; exact absurd z s1
        · rw [if_neg e] at he
          simp at he
      · rw [if_neg hh] at he ⊢
        by_cases e : b = 10
        · rw [if_pos e] at he
          simp at he
        · rw [if_neg e] at he ⊢
          by_cases e2 : b = 13
          · rw [if_pos e2]
            exact ⟨⟨a1, a2, a3, a4, a5, a6, a7, a8, a9⟩, d0, d1⟩
          · rw [if_neg e2] at he ⊢
            by_cases e3 : c.2.2.1.1 < 80
            · rw [if_pos e3]
              refine ⟨⟨a1, by simp; omega, fun j hj => ?_, a4, a5, a6, a7, a8, a9⟩, d0, d1⟩
              show (if j = c.2.2.1.1 then b else c.2.2.1.2 j) < 256
              split
              · exact hb
              · have hj' : j < c.2.2.1.1 + 1 := hj
                exact a3 j (by omega)
            · rw [if_neg e3] at he
              simp only at he
              unfold q_tooLong at he
              split at he
              · omega
              · split at he <;> omega
def RC (σ : St) (c : Cn) : Prop := σ.1 27 2 = iN c.1 ∧ σ.1 27 3 = bi c.2.1 ∧ Gt σ 28 c.2.2.1.1 c.2.2.1.2 ∧ GL σ 42 c.2.2.2.2.2.2.1 ∧ (∃ tn tf, Cf σ c.2.2.2.2.1.1 c.2.2.2.2.1.2 tn tf) ∧ σ.1 27 5 = iN c.2.2.2.2.2.2.2.2 ∧ (c.1 = 0 → GL σ 40 []) ∧ (c.1 ≤ 1 → σ.1 30 5 = 0 ∧ σ.1 30 6 = 0 ∧ σ.1 30 7 = 0) ∧ (1 ≤ c.1 → σ.2.2.2.1 = some c.2.2.2.1.1 ∧ σ.1 30 4 = iN (c.2.2.2.1.2.1 + 48) ∧ GL σ 40 (rq_P c.2.2.2.1)) ∧ (2 ≤ c.1 → σ.1 30 8 = bi c.2.2.2.2.2.1) ∧ (c.1 = 2 → σ.1 30 6 = iN (c.2.2.2.2.2.2.1.length + c.2.2.2.2.2.2.2.1)) ∧ (c.1 = 4 → σ.1 27 4 = iN c.2.2.2.2.2.2.2.1)
/-- a request is read to its end -/
def RY (σ : St) (c : Cn) : Prop := GL σ 42 c.2.2.2.2.2.2.1 ∧ (∃ tn tf, Cf σ c.2.2.2.2.1.1 c.2.2.2.2.1.2 tn tf) ∧ σ.2.2.2.1 = some c.2.2.2.1.1 ∧ σ.1 30 4 = iN (c.2.2.2.1.2.1 + 48) ∧ GL σ 40 (rq_P c.2.2.2.1) ∧ σ.1 30 8 = bi c.2.2.2.2.2.1
abbrev rdR : List (Nat × Nat) := [(42, 1), (27, 3), (27, 2), (27, 4), (28, 1), (27, 5), (30, 4), (40, 1), (32, 1), (31, 5), (31, 8), (30, 8), (30, 7), (30, 6), (30, 5)]
abbrev rdM : List Nat := [43, 29, 41, 33, 34, 35, 36, 37, 38, 39]
theorem cf_of {σ σ' : St} {nf : Nat} {F : Nat → Ln} {R : List (Nat × Nat)} {M : List Nat} {f : Bool × Bool × Bool} (h : ∃ tn tf, Cf σ nf F tn tf) (fp : xFp R M f σ σ') (h1 : (31, 5) ∉ R) (h2 : (32, 1) ∉ R) (h3 : 33 ∉ M) (h4 : 34 ∉ M) (h5 : 35 ∉ M) (h6 : 36 ∉ M) (h7 : 37 ∉ M) : ∃ tn tf, Cf σ' nf F tn tf := by
  obtain ⟨tn, tf, h⟩ := h
  exact ⟨tn, tf, h.of (fp.1 _ _ h1) (fp.1 _ _ h2) (fp.2.1 _ h3) (fp.2.1 _ h4) (fp.2.1 _ h5) (fp.2.1 _ h6) (fp.2.1 _ h7)⟩
theorem fp_q {σ σ' : St} {R : List (Nat × Nat)} {M : List Nat} {a c : Bool} (fp : xFp R M (a, false, c) σ σ') : σ'.2.2.2.1 = σ.2.2.2.1 := by
  have := fp.2.2.2.1
  simpa using this
theorem ev_ne {e : Nat} (h : ev_ok e) : ¬ iN e = 2 ∧ ¬ iN e = 1 ∧ e < 600 := by
  unfold ev_ok at h
  refine ⟨mt (iN_eq (b := 2) (by omega) (by decide)).mp (by omega), mt (iN_eq (b := 1) (by omega) (by decide)).mp (by omega), by omega⟩
theorem feed68 (j1 : Int64) (a2 : Int32) (bk : Int32 → Int32 → St → Option (Int32 × St)) (l4 l5 : Int32) {e : Nat} (h : ev_ok e) (s : St) : x_PlainOrigin_feed_68 j1 a2 bk l4 l5 (iN e) s = x_PlainOrigin_feed_83 j1 a2 bk l4 l5 (iN e) s := if_neg (ev_ne h).1
theorem c_rl {σ : St} {st : Nat} {l : Ln} {q : Rq} {g : Nat × (Nat → Ln)} {x : Cx} (h : RC σ (st, false, l, q, g, x)) (hc : CD (st, false, l, q, g, x)) (hst : st = 0 ∨ st = 1 ∨ st = 3 ∨ st = 5) (j1 : Int64) (a2 : Int32) (bk : Int32 → Int32 → St → Option (Int32 × St)) (l4 l5 : Int32) : ∃ σ1, (x_bind2 (x_Reader_endLine σ) (fun r63 s63 => x_PlainOrigin_feed_68 j1 a2 bk l4 l5 r63 s63)) = x_PlainOrigin_feed_83 j1 a2 bk l4 l5 (iN (rl st l q g x).1) σ1 ∧ ((rl st l q g x).1 = 0 ∨ (rl st l q g x).1 = 100 → RC σ1 (rl st l q g x).2) ∧ ((rl st l q g x).1 = 3 → RY σ1 (rl st l q g x).2) ∧ xFp rdR rdM (false, true, false) σ σ1 := by
  have hev := rl_val st l q g x
  obtain ⟨⟨a1, a2', a3, a4, a5, a6, a7, a8, a9⟩, d0, d1⟩ := hc
  simp only at a1 a2' a3 a4 a5 a6 a7 a8 a9 d0 d1
  obtain ⟨r1, r2, r3, r4, r5, r6, r7, r8, r9, r10, r11, r12⟩ := h
  simp only at r1 r2 r3 r4 r5 r6 r7 r8 r9 r10 r11 r12
  have cl : ∀ (s : St) (e : Int32), ∃ s', x_Reader_endLine_103 e s = some (e, s') ∧ (∀ f, Gt s' 28 0 f) ∧ xFp [(28, 1)] [] (false, false, false) s s' := by
    intro s e
    obtain ⟨s', b1, b2⟩ := c_clear s 28
    refine ⟨s', ?_, b2, fp_Bytes_clear _ _ b1⟩
    unfold x_Reader_endLine_103
    rw [b1, Option.bind_some]
  have hl0 : σ.1 28 1 = iN l.1 := r3.1
  have l80 := a2'
  unfold rl at hev ⊢
  unfold x_Reader_endLine
  rw [r1]
  rcases hst with hst | hst | hst | hst
  · subst hst
    rw [if_pos (rfl : (0 : Nat) = 0)] at hev ⊢
    rw [if_pos (show iN 0 = 0 from rfl)]
    unfold x_Reader_endRequestLine
    rw [hl0]
    by_cases n0 : l.1 = 0
    · rw [if_pos n0] at hev ⊢
      rw [if_pos ((iN_eq0 (by omega)).mpr n0), x_bind2_some]
      obtain ⟨s1, c1, c2, c3⟩ := cl σ 0
      rw [c1, x_bind2_some]
      refine ⟨s1, feed68 j1 a2 bk l4 l5 ev_0 s1, fun _ => ?_, fun z => (by cases z), c3.sub (by simp) (by simp) (by simp)⟩
      refine ⟨by rw [c3.1 _ _ (by simp)]; exact r1, by rw [c3.1 _ _ (by simp)]; exact r2, c2 _, r4.of (c3.1 _ _ (by simp)) (c3.2.1 _ (by simp)), cf_of r5 c3 (by simp) (by simp) (by simp) (by simp) (by simp) (by simp) (by simp), by rw [c3.1 _ _ (by simp)]; exact r6, fun _ => (r7 rfl).of (c3.1 _ _ (by simp)) (c3.2.1 _ (by simp)), fun _ => ?_, fun z => absurd z (by simp), fun z => absurd z (by simp), fun z => absurd z (by simp), fun z => absurd z (by simp)⟩
      rw [c3.1 30 5 (by simp), c3.1 30 6 (by simp), c3.1 30 7 (by simp)]
      exact r8 (by simp)
    · rw [if_neg n0] at hev ⊢
      rw [if_neg (mt (iN_eq0 (by omega)).mp n0)]
      obtain ⟨s1, b1, b2⟩ := c_takeLine r3 l80 (r7 rfl)
      have fp1 := fp_Request_takeLine _ _ b1
      rw [b1, x_bind2_some]
      by_cases q0 : q_req l.2 l.1 = 0
      · obtain ⟨m1, m2, m3⟩ := b2 q0
        obtain ⟨k1, k2, k3, k4⟩ := q_req_ok l80 a3 q0
        rw [if_pos (show iN (q_req l.2 l.1) = 0 by rw [q0]; rfl)]
        simp only [x_let]
        rw [x_bind2_some]
        obtain ⟨s2, c1, c2, c3⟩ := cl (x_updR s1 27 2 1) (iN (q_req l.2 l.1))
        rw [c1, x_bind2_some]
        have fpu : xFp [(27, 2)] [] (false, false, false) s1 (x_updR s1 27 2 1) := xFp.R rfl (by simp)
        have fpa : xFp rdR rdM (false, true, false) σ s2 := ((fp1.sub (by simp) (by simp) (by simp)).tr (fpu.sub (by simp) (by simp) (by simp))).tr (c3.sub (by simp) (by simp) (by simp))
        refine ⟨s2, feed68 j1 a2 bk l4 l5 hev s2, fun _ => ?_, fun z => (by rw [q0] at z; cases z), fpa⟩
        have keep : ∀ k j, (k, j) ≠ (28, 1) → (k, j) ≠ (27, 2) → s2.1 k j = s1.1 k j := by
          intro k j h1 h2
          rw [c3.1 k j (by simpa using h1), fpu.1 k j (by simpa using h2)]
        obtain ⟨d01, d02⟩ := d0 rfl
        have hcf : ∃ tn tf, Cf s2 0 fl0.2 tn tf := by
          obtain ⟨tn, tf, hcf⟩ := r5
          rw [d02] at hcf
          have h2 := (hcf.of (fp1.1 31 5 (by simp)) (fp1.1 32 1 (by simp)) (fp1.2.1 33 (by simp)) (fp1.2.1 34 (by simp)) (fp1.2.1 35 (by simp)) (fp1.2.1 36 (by simp)) (fp1.2.1 37 (by simp)))
          have h3 : Cf s2 0 g.2 tn tf := h2.of (keep 31 5 (by decide) (by decide)) (keep 32 1 (by decide) (by decide)) (by rw [c3.2.1 33 (by simp)]; rfl) (by rw [c3.2.1 34 (by simp)]; rfl) (by rw [c3.2.1 35 (by simp)]; rfl) (by rw [c3.2.1 36 (by simp)]; rfl) (by rw [c3.2.1 37 (by simp)]; rfl)
          exact ⟨tn, tf, h3.1, h3.2.1, h3.2.2.1, h3.2.2.2.1, fun k hk => absurd hk (Nat.not_lt_zero k)⟩
        refine ⟨?_, ?_, c2 _, ?_, hcf, ?_, fun z => absurd z (by simp), fun _ => ?_, fun _ => ⟨?_, ?_, ?_⟩, fun z => absurd z (by simp), fun z => absurd z (by simp), fun z => absurd z (by simp)⟩
        · rw [c3.1 27 2 (by simp)]; simp [x_updR]; rfl
        · rw [keep 27 3 (by decide) (by decide), fp1.1 27 3 (by simp)]; exact r2
        · rw [d01] at r4
          exact (r4.of (fp1.1 42 1 (by simp)) (fp1.2.1 43 (by simp))).of (keep 42 1 (by decide) (by decide)) (by rw [c3.2.1 43 (by simp)]; rfl)
        · rw [keep 27 5 (by decide) (by decide), fp1.1 27 5 (by simp), r6, d01]
        · rw [keep 30 5 (by decide) (by decide), keep 30 6 (by decide) (by decide), keep 30 7 (by decide) (by decide), fp1.1 30 5 (by simp), fp1.1 30 6 (by simp), fp1.1 30 7 (by simp)]
          exact r8 (by simp)
        · rw [fp_q c3]
          show s1.2.2.2.1 = _
          rw [m1, k2]
        · rw [keep 30 4 (by decide) (by decide), m2, k3]
        · show GL s2 40 (rq_P (rq_of l.2 l.1))
          rw [k4]
          exact m3.of (keep 40 1 (by decide) (by decide)) (by rw [c3.2.1 41 (by simp)]; rfl)
      · have hq := q_req_val l.2 l.1
        rw [if_neg (mt (iN_eq0 (by omega)).mp q0), x_bind2_some]
        obtain ⟨s2, c1, c2, c3⟩ := cl s1 (iN (q_req l.2 l.1))
        rw [c1, x_bind2_some]
        refine ⟨s2, feed68 j1 a2 bk l4 l5 hev s2, fun z => ?_, fun z => ?_, (fp1.sub (by simp) (by simp) (by simp)).tr (c3.sub (by simp) (by simp) (by simp))⟩
        · exfalso
          simp only at z
          omega
        · exfalso
          simp only at z
          omega
  · subst hst
    rw [if_neg (show ¬ (1 : Nat) = 0 by decide), if_pos (rfl : (1 : Nat) = 1)] at hev ⊢
    rw [if_neg (show ¬ iN 1 = 0 by decide), if_pos (show iN 1 = 1 from rfl), hl0]
    unfold x_Reader_endLine_72
    obtain ⟨p1, p2, p3⟩ := r9 (by simp)
    obtain ⟨p4, p5, p6⟩ := r8 (by simp)
    obtain ⟨d11, d12⟩ := d1 rfl
    have rk := a4 (by simp)
    by_cases n0 : l.1 = 0
    · rw [if_pos n0] at hev ⊢
      rw [if_pos ((iN_eq0 (by omega)).mpr n0)]
      obtain ⟨s1, c1, c2, c3⟩ := cl σ 2
      rw [c1, x_bind2_some]
      obtain ⟨tn, tf, hcf⟩ := cf_of r5 c3 (by simp) (by simp) (by simp) (by simp) (by simp) (by simp) (by simp)
      have hm9 := rk.2.1
      have e48 : decide (q.2.1 + 48 = 48) = decide (q.2.1 = 0) := decide_eq_decide.mpr (by omega)
      obtain ⟨s2, b1, b2⟩ := c_endHead hcf (ld := q.2.1 + 48) (by rw [c3.1 _ _ (by simp)]; exact p2) (by omega) (by rw [c3.1 _ _ (by simp)]; exact p4) (by rw [c3.1 _ _ (by simp)]; exact p5) (by rw [c3.1 _ _ (by simp)]; exact p6)
      have fp2 := fp_Reader_endHead _ b1
      rw [e48] at b1 b2
      unfold x_PlainOrigin_feed_68
      rw [if_pos rfl, b1, x_bind2_some]
      have fpa : xFp rdR rdM (false, true, false) σ s2 := (c3.sub (by simp) (by simp) (by simp)).tr (fp2.sub (by simp) (by simp) (by simp))
      have hcf2 := cf_of ⟨tn, tf, hcf⟩ fp2 (by simp) (by simp) (by simp) (by simp) (by simp) (by simp) (by simp)
      have hB2 : GL s2 42 [] := by
        rw [d11] at r4
        exact (r4.of (c3.1 42 1 (by simp)) (c3.2.1 43 (by simp))).of (fp2.1 42 1 (by simp)) (fp2.2.1 43 (by simp))
      have hP2 : GL s2 40 (rq_P q) := (p3.of (c3.1 40 1 (by simp)) (c3.2.1 41 (by simp))).of (fp2.1 40 1 (by simp)) (fp2.2.1 41 (by simp))
      have hq2 : s2.2.2.2.1 = some q.1 := by rw [fp_q fp2, fp_q c3]; exact p1
      have h42 : s2.1 30 4 = iN (q.2.1 + 48) := by rw [fp2.1 _ _ (by simp), c3.1 _ _ (by simp)]; exact p2
      have hv := h_ans_val g.2 g.1 (decide (q.2.1 = 0))
      refine ⟨s2, rfl, fun z => ?_, fun z => ?_, fpa⟩
      · have hc0 : h_code g.2 g.1 (decide (q.2.1 = 0)) = 0 := by
          simp only at z
          omega
        obtain ⟨w1, w2, w3, w4⟩ := b2 hc0
        have n3 : ¬ (h_chk g.2 g.1 = false ∧ h_len g.2 g.1 = 0) := by
          intro y
          have : h_ans g.2 g.1 (decide (q.2.1 = 0)) = 3 := by
            unfold h_ans
            rw [if_neg (by simp [hc0]), if_pos y]
          simp only at z
          omega
        have w4' := w4 n3
        refine ⟨?_, ?_, ?_, hB2, hcf2, ?_, fun y => ?_, fun y => ?_, fun _ => ⟨hq2, h42, hP2⟩, fun _ => w1, fun y => ?_, fun y => ?_⟩
        · show s2.1 27 2 = iN (if h_chk g.2 g.1 = true then 3 else 2)
          rw [w4']
          cases h_chk g.2 g.1 <;> rfl
        · rw [fp2.1 _ _ (by simp), c3.1 _ _ (by simp)]; exact r2
        · exact (c2 _).of (fp2.1 _ _ (by simp)) (fp2.2.1 _ (by simp))
        · rw [fp2.1 _ _ (by simp), c3.1 _ _ (by simp), r6, d12]
        · exfalso
          cases hk : h_chk g.2 g.1 <;> simp [hk] at y
        · exfalso
          cases hk : h_chk g.2 g.1 <;> simp [hk] at y
        · cases hk : h_chk g.2 g.1
          · simp only [Bool.false_eq_true, if_false, List.length_nil, Nat.zero_add]
            exact w3
          · simp [hk] at y
        · exfalso
          cases hk : h_chk g.2 g.1 <;> simp [hk] at y
      · have hc0 : h_code g.2 g.1 (decide (q.2.1 = 0)) = 0 := by
          simp only at z
          omega
        obtain ⟨w1, w2, w3, w4⟩ := b2 hc0
        exact ⟨hB2, hcf2, hq2, h42, hP2, w1⟩
    · rw [if_neg n0] at hev ⊢
      rw [if_neg (mt (iN_eq0 (by omega)).mp n0)]
      obtain ⟨tn, tf, hcf⟩ := r5
      rcases c_take hcf r3 l80 with ⟨b1, b2⟩ | ⟨b1, ok, ⟨b2, b3⟩ | ⟨b2, s1, tn', tf', b3, b4⟩⟩
      · have ht : t_code l.2 l.1 1 g.1 0 = 400 := by unfold t_code; rw [if_pos b2]
        rw [b1, x_bind2_some]
        obtain ⟨s2, c1, c2, c3⟩ := cl σ 400
        rw [c1, x_bind2_some]
        simp only [ht] at hev ⊢
        refine ⟨s2, feed68 j1 a2 bk l4 l5 hev s2, fun z => (by omega), fun z => (by omega), c3.sub (by simp) (by simp) (by simp)⟩
      · have ht : t_code l.2 l.1 1 g.1 0 = 431 := by
          unfold t_code
          rw [if_neg (by rw [b1]; simp)]
          simp [t_full, b3]
        rw [b2, x_bind2_some]
        obtain ⟨s2, c1, c2, c3⟩ := cl σ 431
        rw [c1, x_bind2_some]
        simp only [ht] at hev ⊢
        refine ⟨s2, feed68 j1 a2 bk l4 l5 hev s2, fun z => (by omega), fun z => (by omega), c3.sub (by simp) (by simp) (by simp)⟩
      · have ht : t_code l.2 l.1 1 g.1 0 = 0 := by
          unfold t_code
          rw [if_neg (by rw [b1]; simp)]
          simp [t_full, b2]
        have fp1 := fp_Fields_take _ _ b3
        rw [b3, x_bind2_some]
        obtain ⟨s2, c1, c2, c3⟩ := cl s1 0
        rw [c1, x_bind2_some]
        simp only [ht] at hev ⊢
        refine ⟨s2, feed68 j1 a2 bk l4 l5 hev s2, fun _ => ?_, fun z => (by omega), (fp1.sub (by simp) (by simp) (by simp)).tr (c3.sub (by simp) (by simp) (by simp))⟩
        have keep : ∀ k j, (k, j) ≠ (28, 1) → (k, j) ≠ (32, 1) → (k, j) ≠ (31, 5) → s2.1 k j = σ.1 k j := by
          intro k j h1 h2 h3
          rw [c3.1 k j (by simpa using h1), fp1.1 k j (by simp at h2 h3 ⊢; exact ⟨h2, h3⟩)]
        refine ⟨by rw [keep 27 2 (by decide) (by decide) (by decide)]; exact r1, by rw [keep 27 3 (by decide) (by decide) (by decide)]; exact r2, c2 _, r4.of (keep 42 1 (by decide) (by decide) (by decide)) (by rw [c3.2.1 43 (by simp), fp1.2.1 43 (by simp)]), cf_of ⟨tn', tf', b4⟩ c3 (by simp) (by simp) (by simp) (by simp) (by simp) (by simp) (by simp), by rw [keep 27 5 (by decide) (by decide) (by decide)]; exact r6, fun z => absurd z (by simp), fun _ => ?_, fun _ => ⟨?_, ?_, ?_⟩, fun z => absurd z (by simp), fun z => absurd z (by simp), fun z => absurd z (by simp)⟩
        · rw [keep 30 5 (by decide) (by decide) (by decide), keep 30 6 (by decide) (by decide) (by decide), keep 30 7 (by decide) (by decide) (by decide)]
          exact r8 (by simp)
        · rw [fp_q c3, fp_q fp1]; exact p1
        · rw [keep 30 4 (by decide) (by decide) (by decide)]; exact p2
        · exact p3.of (keep 40 1 (by decide) (by decide) (by decide)) (by rw [c3.2.1 41 (by simp), fp1.2.1 41 (by simp)])
  · subst hst
    rw [if_neg (show ¬ (3 : Nat) = 0 by decide), if_neg (show ¬ (3 : Nat) = 1 by decide), if_pos (rfl : (3 : Nat) = 3)] at hev ⊢
    rw [if_neg (show ¬ iN 3 = 0 by decide), if_neg (show ¬ iN 3 = 1 by decide), if_neg (show ¬ iN 3 = 2 by decide), if_pos (show iN 3 = 3 from rfl)]
    obtain ⟨p1, p2, p3⟩ := r9 (by simp)
    have p8 := r10 (by simp)
    unfold x_Reader_endChunkLine
    rw [c_chunkSize r3, Option.bind_some, show σ.1 42 1 = iN x.2.1.length from r4.1]
    have done : ∀ (e : Nat) (s : St), ev_ok e → xFp [(27, 4), (27, 2)] [] (false, false, false) σ s → e = ck_code l.2 l.1 x.2.1.length → (e = 0 → s.1 27 2 = iN (if q_chunk l.2 l.1 = some 0 then 5 else 4) ∧ s.1 27 4 = iN ((q_chunk l.2 l.1).getD 0)) → ∃ σ1, (x_bind2 (x_bind2 (some (iN e, s)) (fun r77 s77 => x_Reader_endLine_103 r77 s77)) (fun r63 s63 => x_PlainOrigin_feed_68 j1 a2 bk l4 l5 r63 s63)) = x_PlainOrigin_feed_83 j1 a2 bk l4 l5 (iN e) σ1 ∧ (e = 0 ∨ e = 100 → RC σ1 (if q_chunk l.2 l.1 = some 0 then 5 else 4, false, nl0, q, g, (x.1, x.2.1, (q_chunk l.2 l.1).getD 0, x.2.2.2))) ∧ (e = 3 → RY σ1 (if q_chunk l.2 l.1 = some 0 then 5 else 4, false, nl0, q, g, (x.1, x.2.1, (q_chunk l.2 l.1).getD 0, x.2.2.2))) ∧ xFp rdR rdM (false, true, false) σ σ1 := by
      intro e s he fp ee h0
      have hcv := ck_code_val l.2 l.1 x.2.1.length
      rw [x_bind2_some]
      obtain ⟨s2, c1, c2, c3⟩ := cl s (iN e)
      rw [c1, x_bind2_some]
      refine ⟨s2, feed68 j1 a2 bk l4 l5 he s2, fun z => ?_, fun z => (by omega), (fp.sub (by simp) (by simp) (by simp)).tr (c3.sub (by simp) (by simp) (by simp))⟩
      have e0 : e = 0 := by omega
      obtain ⟨h1, h2⟩ := h0 e0
      have keep : ∀ k j, (k, j) ≠ (28, 1) → (k, j) ≠ (27, 4) → (k, j) ≠ (27, 2) → s2.1 k j = σ.1 k j := by
        intro k j h1 h2 h3
        rw [c3.1 k j (by simpa using h1), fp.1 k j (by simp at h2 h3 ⊢; exact ⟨h2, h3⟩)]
      refine ⟨by rw [c3.1 27 2 (by simp)]; exact h1, by rw [keep 27 3 (by decide) (by decide) (by decide)]; exact r2, c2 _, r4.of (keep 42 1 (by decide) (by decide) (by decide)) (by rw [c3.2.1 43 (by simp), fp.2.1 43 (by simp)]), cf_of (cf_of r5 fp (by simp) (by simp) (by simp) (by simp) (by simp) (by simp) (by simp)) c3 (by simp) (by simp) (by simp) (by simp) (by simp) (by simp) (by simp), by rw [keep 27 5 (by decide) (by decide) (by decide)]; exact r6, fun y => ?_, fun y => ?_, fun _ => ⟨?_, ?_, ?_⟩, fun _ => ?_, fun y => ?_, fun y => ?_⟩
      · exfalso
        simp only at y
        split at y <;> omega
      · exfalso
        simp only at y
        split at y <;> omega
      · rw [fp_q c3, fp_q fp]; exact p1
      · rw [keep 30 4 (by decide) (by decide) (by decide)]; exact p2
      · exact p3.of (keep 40 1 (by decide) (by decide) (by decide)) (by rw [c3.2.1 41 (by simp), fp.2.1 41 (by simp)])
      · rw [keep 30 8 (by decide) (by decide) (by decide)]; exact p8
      · exfalso
        simp only at y
        split at y <;> omega
      · rw [c3.1 27 4 (by simp)]; exact h2
    cases hq : q_chunk l.2 l.1 with
    | none =>
      have ce : ck_code l.2 l.1 x.2.1.length = 400 := by unfold ck_code; rw [hq]
      rw [if_pos (show oi none = -1 from rfl)]
      have := done 400 σ ev_400 xFp.rf ce.symm (fun z => by cases z)
      rw [hq] at this
      simp only [ce]
      exact this
    | some v =>
      have v9 : v < 4096 := by
        unfold q_chunk at hq
        simp only at hq
        split at hq
        · rename_i hh
          have := s_hex_lt _ _ _ 0 0 v (by decide) hq
          have h2 : 16 ^ (0 + s_first (fun c => c == 59) l.2 0 l.1) ≤ 16 ^ 3 := Nat.pow_le_pow_right (by decide) (by omega)
          omega
        · cases hq
      rw [if_neg (show ¬ oi (some v) = -1 from iN_m1 (by omega)), show oi (some v) = iN v from rfl, iN_add]
      by_cases q2 : 200 < x.2.1.length + v
      · have ce : ck_code l.2 l.1 x.2.1.length = 413 := by unfold ck_code; rw [hq]; exact if_pos q2
        rw [if_neg (show ¬ iN (x.2.1.length + v) ≤ 200 from mt (iN_le (b := 200) (by omega) (by omega)).mp (by omega))]
        have := done 413 σ (by unfold ev_ok; omega) xFp.rf ce.symm (fun z => by cases z)
        rw [hq] at this
        simp only [ce]
        exact this
      · have ce : ck_code l.2 l.1 x.2.1.length = 0 := by unfold ck_code; rw [hq]; exact if_neg q2
        rw [if_pos (show iN (x.2.1.length + v) ≤ 200 from (iN_le (b := 200) (by omega) (by omega)).mpr (by omega))]
        simp only [x_let]
        have f4 : xFp [(27, 4), (27, 2)] [] (false, false, false) σ (x_updR σ 27 4 (iN v)) := xFp.R rfl (by simp)
        by_cases v0 : v = 0
        · have := done 0 (x_updR (x_updR σ 27 4 (iN v)) 27 2 5) ev_0 (f4.tr (xFp.R rfl (by simp))) ce.symm (fun _ => by rw [hq, if_pos (by rw [v0])]; exact ⟨by simp [x_updR]; rfl, by simp [x_updR]⟩)
          rw [if_pos (show iN v = 0 by rw [v0]; rfl)]
          rw [hq] at this
          simp only [ce]
          obtain ⟨σ1, t1, t2, t3, t4⟩ := this
          exact ⟨σ1, t1, fun _ => t2 (Or.inl rfl), fun z => t3 z, t4⟩
        · have := done 0 (x_updR (x_updR σ 27 4 (iN v)) 27 2 4) ev_0 (f4.tr (xFp.R rfl (by simp))) ce.symm (fun _ => by rw [hq, if_neg (fun z => v0 (by simpa using z))]; exact ⟨by simp [x_updR]; rfl, by simp [x_updR]⟩)
          rw [if_neg (mt (iN_eq0 (by omega)).mp v0)]
          rw [hq] at this
          simp only [ce]
          obtain ⟨σ1, t1, t2, t3, t4⟩ := this
          exact ⟨σ1, t1, fun _ => t2 (Or.inl rfl), fun z => t3 z, t4⟩
  · subst hst
    rw [if_neg (show ¬ (5 : Nat) = 0 by decide), if_neg (show ¬ (5 : Nat) = 1 by decide), if_neg (show ¬ (5 : Nat) = 3 by decide)] at hev ⊢
    rw [if_neg (show ¬ iN 5 = 0 by decide), if_neg (show ¬ iN 5 = 1 by decide), if_neg (show ¬ iN 5 = 2 by decide), if_neg (show ¬ iN 5 = 3 by decide)]
    obtain ⟨p1, p2, p3⟩ := r9 (by simp)
    have p8 := r10 (by simp)
    unfold x_Reader_endLine_84 x_Reader_endLine_102
    rw [hl0]
    by_cases n0 : l.1 = 0
    · rw [if_pos n0] at hev ⊢
      rw [if_pos ((iN_eq0 (by omega)).mpr n0)]
      obtain ⟨s2, c1, c2, c3⟩ := cl σ 3
      rw [c1, x_bind2_some]
      refine ⟨s2, feed68 j1 a2 bk l4 l5 hev s2, fun z => (by simp at z), fun _ => ?_, c3.sub (by simp) (by simp) (by simp)⟩
      exact ⟨r4.of (c3.1 _ _ (by simp)) (c3.2.1 _ (by simp)), cf_of r5 c3 (by simp) (by simp) (by simp) (by simp) (by simp) (by simp) (by simp), by rw [fp_q c3]; exact p1, by rw [c3.1 _ _ (by simp)]; exact p2, p3.of (c3.1 _ _ (by simp)) (c3.2.1 _ (by simp)), by rw [c3.1 _ _ (by simp)]; exact p8⟩
    · rw [if_neg n0] at hev ⊢
      rw [if_neg (mt (iN_eq0 (by omega)).mp n0)]
      unfold x_Reader_endTrailer
      rw [c_colonOf r3, Option.bind_some]
      cases hq : q_colon l.2 l.1 with
      | none =>
        have ht : t_code l.2 l.1 5 0 x.2.2.2 = 400 := by unfold t_code; rw [if_pos hq]
        rw [if_pos (show oi none = -1 from rfl), x_bind2_some]
        obtain ⟨s2, c1, c2, c3⟩ := cl σ 400
        rw [c1, x_bind2_some]
        simp only [ht] at hev ⊢
        refine ⟨s2, feed68 j1 a2 bk l4 l5 hev s2, fun z => (by omega), fun z => (by omega), c3.sub (by simp) (by simp) (by simp)⟩
      | some v =>
        have hv : v < 2147483648 := by
          have : v ≤ l.1 := by
            unfold q_colon at hq
            simp only at hq
            split at hq
            · rename_i hh
              cases hq
              omega
            · cases hq
          omega
        rw [if_neg (show ¬ oi (some v) = -1 from iN_m1 hv)]
        simp only [x_let]
        rw [r6, iN_1a, show (x_updR σ 27 5 (iN (x.2.2.2 + 1))).1 27 5 = iN (x.2.2.2 + 1) by simp [x_updR]]
        have f5 : xFp [(27, 5)] [] (false, false, false) σ (x_updR σ 27 5 (iN (x.2.2.2 + 1))) := xFp.R rfl (by simp)
        by_cases q4 : x.2.2.2 < 4
        · have ht : t_code l.2 l.1 5 0 x.2.2.2 = 0 := by
            unfold t_code
            rw [if_neg (by rw [hq]; simp)]
            simp [t_full, q4]
          rw [if_pos (show iN (x.2.2.2 + 1) ≤ 4 from (iN_le (b := 4) (by omega) (by omega)).mpr (by omega)), x_bind2_some]
          obtain ⟨s2, c1, c2, c3⟩ := cl (x_updR σ 27 5 (iN (x.2.2.2 + 1))) 0
          rw [c1, x_bind2_some]
          simp only [ht] at hev ⊢
          refine ⟨s2, feed68 j1 a2 bk l4 l5 hev s2, fun _ => ?_, fun z => (by omega), (f5.sub (by simp) (by simp) (by simp)).tr (c3.sub (by simp) (by simp) (by simp))⟩
          have keep : ∀ k j, (k, j) ≠ (28, 1) → (k, j) ≠ (27, 5) → s2.1 k j = σ.1 k j := by
            intro k j h1 h2
            rw [c3.1 k j (by simpa using h1), f5.1 k j (by simpa using h2)]
          refine ⟨by rw [keep 27 2 (by decide) (by decide)]; exact r1, by rw [keep 27 3 (by decide) (by decide)]; exact r2, c2 _, r4.of (keep 42 1 (by decide) (by decide)) (by rw [c3.2.1 43 (by simp)]; rfl), cf_of (cf_of r5 f5 (by simp) (by simp) (by simp) (by simp) (by simp) (by simp) (by simp)) c3 (by simp) (by simp) (by simp) (by simp) (by simp) (by simp) (by simp), ?_, fun y => absurd y (by simp), fun y => absurd y (by simp), fun _ => ⟨?_, ?_, ?_⟩, fun _ => ?_, fun y => absurd y (by simp), fun y => absurd y (by simp)⟩
          · rw [c3.1 27 5 (by simp)]; simp [x_updR]
          · rw [fp_q c3]; exact p1
          · rw [keep 30 4 (by decide) (by decide)]; exact p2
          · exact p3.of (keep 40 1 (by decide) (by decide)) (by rw [c3.2.1 41 (by simp)]; rfl)
          · rw [keep 30 8 (by decide) (by decide)]; exact p8
        · have ht : t_code l.2 l.1 5 0 x.2.2.2 = 431 := by
            unfold t_code
            rw [if_neg (by rw [hq]; simp)]
            simp [t_full, q4]
          rw [if_neg (show ¬ iN (x.2.2.2 + 1) ≤ 4 from mt (iN_le (b := 4) (by omega) (by omega)).mp (by omega)), x_bind2_some]
          obtain ⟨s2, c1, c2, c3⟩ := cl (x_updR σ 27 5 (iN (x.2.2.2 + 1))) 431
          rw [c1, x_bind2_some]
          simp only [ht] at hev ⊢
          refine ⟨s2, feed68 j1 a2 bk l4 l5 hev s2, fun z => (by omega), fun z => (by omega), (f5.sub (by simp) (by simp) (by simp)).tr (c3.sub (by simp) (by simp) (by simp))⟩

theorem c_rd {σ : St} {c : Cn} (h : RC σ c) (hc : CD c) {b : Nat} (hb : b < 256) (j1 : Int64) (a2 : Int32) (bk : Int32 → Int32 → St → Option (Int32 × St)) (l4 l5 : Int32) : ∃ σ1, (x_bind2 (x_Reader_take (iN b) σ) (fun r48 s48 => (if r48 = (1 : Int32) then (x_bind2 (x_Reader_endLine s48) (fun r63 s63 => x_PlainOrigin_feed_68 j1 a2 bk l4 l5 r63 s63)) else x_PlainOrigin_feed_68 j1 a2 bk l4 l5 r48 s48))) = x_PlainOrigin_feed_83 j1 a2 bk l4 l5 (iN (rd c b).1) σ1 ∧ ((rd c b).1 = 0 ∨ (rd c b).1 = 100 → RC σ1 (rd c b).2) ∧ ((rd c b).1 = 3 → RY σ1 (rd c b).2) ∧ xFp rdR rdM (false, true, false) σ σ1 := by
  have hev := rd_val c b
  have hCD := hc
  obtain ⟨⟨a1, a2', a3, a4, a5, a6, a7, a8, a9⟩, d0, d1⟩ := hc
  obtain ⟨st, hf, l, q, g, x⟩ := c
  have hRC := h
  obtain ⟨r1, r2, r3, r4, r5, r6, r7, r8, r9, r10, r11, r12⟩ := h
  simp only at a1 a2' a3 a4 a5 a6 a7 a8 a9 d0 d1 r1 r2 r3 r4 r5 r6 r7 r8 r9 r10 r11 r12
  have go : ∀ (e : Nat) (s : St), ev_ok e → (if iN e = (1 : Int32) then (x_bind2 (x_Reader_endLine s) (fun r63 s63 => x_PlainOrigin_feed_68 j1 a2 bk l4 l5 r63 s63)) else x_PlainOrigin_feed_68 j1 a2 bk l4 l5 (iN e) s) = x_PlainOrigin_feed_83 j1 a2 bk l4 l5 (iN e) s := by
    intro e s he
    rw [if_neg (ev_ne he).2.1, feed68 j1 a2 bk l4 l5 he s]
  have ns : ∀ k : Nat, k ≤ 5 → ¬ iN k = -1 := fun k hk => iN_m1 (by omega)
  unfold rd at hev ⊢
  unfold x_Reader_take
  simp only at hev ⊢
  rw [r1, if_neg (ns st a1)]
  by_cases s2 : st = 2
  · rw [if_pos s2] at hev ⊢
    rw [if_pos (show iN st = 2 by rw [s2]; rfl)]
    have hdue := a6 s2
    have hl := a7 (Or.inl s2)
    have hal : aln 43 = 200 := by decide
    obtain ⟨s1, b1, b2⟩ := r4.add hb (by rw [hal]; omega)
    have fp := fp_Bytes_add _ _ _ b1
    unfold x_Reader_takeBodyByte
    rw [b1, Option.bind_some, show s1.1 42 1 = iN (x.2.1.length + 1) by have := b2.1; rw [List.length_append, List.length_singleton] at this; exact this, fp.1 30 6 (by simp), r11 s2]
    obtain ⟨p1, p2, p3⟩ := r9 (by omega)
    have p8 := r10 (by omega)
    have fpa : xFp rdR rdM (false, true, false) σ s1 := fp.sub (by simp) (by simp) (by simp)
    by_cases d1' : x.2.2.1 = 1
    · rw [if_neg (mt (iN_lt (by omega) (by omega)).mp (by omega)), x_bind2_some, x_bind2_some]
      simp only [d1', if_true] at hev ⊢
      refine ⟨s1, go 3 s1 hev, fun z => (by omega), fun _ => ⟨b2, cf_of r5 fp (by simp) (by simp) (by simp) (by simp) (by simp) (by simp) (by simp), by rw [fp_q fp]; exact p1, by rw [fp.1 _ _ (by simp)]; exact p2, p3.of (fp.1 _ _ (by simp)) (fp.2.1 _ (by simp)), by rw [fp.1 _ _ (by simp)]; exact p8⟩, fpa⟩
    · rw [if_pos ((iN_lt (by omega) (by omega)).mpr (by omega)), x_bind2_some, x_bind2_some]
      simp only [d1', if_false] at hev ⊢
      refine ⟨s1, go 0 s1 hev, fun _ => ?_, fun z => (by omega), fpa⟩
      refine ⟨by rw [fp.1 _ _ (by simp), r1, s2], by rw [fp.1 _ _ (by simp)]; exact r2, r3.of (fp.1 _ _ (by simp)) (fp.2.1 _ (by simp)), b2, cf_of r5 fp (by simp) (by simp) (by simp) (by simp) (by simp) (by simp) (by simp), by rw [fp.1 _ _ (by simp)]; exact r6, fun y => absurd y (by simp), fun y => absurd y (by simp), fun _ => ⟨by rw [fp_q fp]; exact p1, by rw [fp.1 _ _ (by simp)]; exact p2, p3.of (fp.1 _ _ (by simp)) (fp.2.1 _ (by simp))⟩, fun _ => by rw [fp.1 _ _ (by simp)]; exact p8, fun _ => ?_, fun y => absurd y (by simp)⟩
      rw [fp.1 30 6 (by simp), r11 s2]
      simp only [List.length_append, List.length_singleton]
      rw [show x.2.1.length + 1 + (x.2.2.1 - 1) = x.2.1.length + x.2.2.1 by omega]
  · rw [if_neg s2] at hev ⊢
    rw [if_neg (show ¬ iN st = 2 from mt (iN_eq (b := 2) (by omega) (by decide)).mp s2)]
    by_cases s4 : st = 4
    · rw [if_pos s4] at hev ⊢
      rw [if_pos (show iN st = 4 by rw [s4]; rfl)]
      have hl := a7 (Or.inr s4)
      obtain ⟨p1, p2, p3⟩ := r9 (by omega)
      have p8 := r10 (by omega)
      have p12 := r12 s4
      unfold x_Reader_takeChunkByte
      rw [p12, r2]
      by_cases dd : 0 < x.2.2.1
      · rw [if_pos dd] at hev ⊢
        rw [if_neg (mt (iN_le0 (by omega)).mp (by omega))]
        have hal : aln 43 = 200 := by decide
        obtain ⟨s1, b1, b2⟩ := r4.add hb (by rw [hal]; omega)
        have fp := fp_Bytes_add _ _ _ b1
        rw [b1, Option.bind_some]
        simp only [x_let]
        rw [fp.1 27 4 (by simp), p12, iN_sub1 (by omega), x_bind2_some, x_bind2_some]
        have fp2 : xFp [(27, 4)] [] (false, false, false) s1 (x_updR s1 27 4 (iN (x.2.2.1 - 1))) := xFp.R rfl (by simp)
        refine ⟨_, go 0 _ ev_0, fun _ => ?_, fun z => (by omega), (fp.sub (by simp) (by simp) (by simp)).tr (fp2.sub (by simp) (by simp) (by simp))⟩
        have keep : ∀ k j, (k, j) ≠ (42, 1) → (k, j) ≠ (27, 4) → (x_updR s1 27 4 (iN (x.2.2.1 - 1))).1 k j = σ.1 k j := by
          intro k j h1 h2
          rw [fp2.1 k j (by simpa using h2), fp.1 k j (by simpa using h1)]
        refine ⟨by rw [keep 27 2 (by decide) (by decide), r1, s4], by rw [keep 27 3 (by decide) (by decide)]; exact r2, r3.of (keep 28 1 (by decide) (by decide)) (by show s1.2.1 29 = _; rw [fp.2.1 29 (by simp)]), b2.of (by simp [x_updR]) rfl, cf_of (cf_of r5 fp (by simp) (by simp) (by simp) (by simp) (by simp) (by simp) (by simp)) fp2 (by simp) (by simp) (by simp) (by simp) (by simp) (by simp) (by simp), by rw [keep 27 5 (by decide) (by decide)]; exact r6, fun y => absurd y (by simp), fun y => absurd y (by simp), fun _ => ⟨?_, by rw [keep 30 4 (by decide) (by decide)]; exact p2, p3.of (keep 40 1 (by decide) (by decide)) (by show s1.2.1 41 = _; rw [fp.2.1 41 (by simp)])⟩, fun _ => by rw [keep 30 8 (by decide) (by decide)]; exact p8, fun y => absurd y (by simp), fun _ => by simp [x_updR]⟩
        show s1.2.2.2.1 = _
        rw [fp_q fp]
        exact p1
      · rw [if_neg dd] at hev ⊢
        rw [if_pos ((iN_le0 (by omega)).mpr (by omega))]
        have st1 : (if bi hf = 0 then x_Reader_takeChunkByte_45 (iN b) (13 : Int32) (iN b) σ else x_Reader_takeChunkByte_45 (iN b) (10 : Int32) (iN b) σ) = x_Reader_takeChunkByte_45 (iN b) (iN (if hf then 10 else 13)) (iN b) σ := by
          cases hf <;> rfl
        have hk : (if hf = true then 10 else 13) < 256 := by split <;> omega
        rw [st1]
        unfold x_Reader_takeChunkByte_45
        by_cases e : ¬ b = (if hf = true then 10 else 13)
        · rw [if_pos e] at hev ⊢
          rw [if_neg (mt (iN_eq (by omega) (by omega)).mp e), x_bind2_some, x_bind2_some]
          exact ⟨σ, go 400 σ ev_400, fun z => (by omega), fun z => (by omega), xFp.rf⟩
        · rw [if_neg e] at hev ⊢
          have e' : b = (if hf = true then 10 else 13) := Decidable.not_not.mp e
          rw [if_pos (show iN b = iN (if hf = true then 10 else 13) by rw [e']), r2]
          unfold x_Reader_takeChunkByte_64
          cases hf
          · rw [if_pos (show bi false = 0 from rfl), r2, if_pos (show bi false = 0 from rfl)]
            simp only [x_let]
            rw [x_bind2_some, x_bind2_some]
            have fp2 : xFp [(27, 3)] [] (false, false, false) σ (x_updR σ 27 3 1) := xFp.R rfl (by simp)
            refine ⟨_, go 0 _ ev_0, fun _ => ?_, fun z => (by omega), fp2.sub (by simp) (by simp) (by simp)⟩
            refine ⟨by rw [fp2.1 _ _ (by simp), r1, s4]; rfl, by simp [x_updR]; rfl, r3.of (fp2.1 _ _ (by simp)) (fp2.2.1 _ (by simp)), r4.of (fp2.1 _ _ (by simp)) (fp2.2.1 _ (by simp)), cf_of r5 fp2 (by simp) (by simp) (by simp) (by simp) (by simp) (by simp) (by simp), by rw [fp2.1 _ _ (by simp)]; exact r6, fun y => absurd y (by simp), fun y => absurd y (by simp), fun _ => ⟨by rw [fp_q fp2]; exact p1, by rw [fp2.1 _ _ (by simp)]; exact p2, p3.of (fp2.1 _ _ (by simp)) (fp2.2.1 _ (by simp))⟩, fun _ => by rw [fp2.1 _ _ (by simp)]; exact p8, fun y => absurd y (by simp), fun _ => by rw [fp2.1 _ _ (by simp)]; exact p12⟩
          · rw [if_neg (show ¬ bi true = 0 by decide)]
            simp only [x_let]
            rw [show (x_updR σ 27 2 3).1 27 3 = bi true by simp [x_updR]; exact r2, if_neg (show ¬ bi true = 0 by decide), x_bind2_some, x_bind2_some]
            have fp2 : xFp [(27, 2), (27, 3)] [] (false, false, false) σ (x_updR (x_updR σ 27 2 3) 27 3 0) := (xFp.R rfl (by simp)).tr (xFp.R rfl (by simp))
            refine ⟨_, go 0 _ ev_0, fun _ => ?_, fun z => (by omega), fp2.sub (by simp) (by simp) (by simp)⟩
            refine ⟨by simp [x_updR]; rfl, by simp [x_updR]; rfl, r3.of (fp2.1 _ _ (by simp)) (fp2.2.1 _ (by simp)), r4.of (fp2.1 _ _ (by simp)) (fp2.2.1 _ (by simp)), cf_of r5 fp2 (by simp) (by simp) (by simp) (by simp) (by simp) (by simp) (by simp), by rw [fp2.1 _ _ (by simp)]; exact r6, fun y => absurd y (by simp), fun y => absurd y (by simp), fun _ => ⟨by rw [fp_q fp2]; exact p1, by rw [fp2.1 _ _ (by simp)]; exact p2, p3.of (fp2.1 _ _ (by simp)) (fp2.2.1 _ (by simp))⟩, fun _ => by rw [fp2.1 _ _ (by simp)]; exact p8, fun y => absurd y (by simp), fun y => absurd y (by simp)⟩
    · rw [if_neg s4] at hev ⊢
      rw [if_neg (show ¬ iN st = 4 from mt (iN_eq (b := 4) (by omega) (by decide)).mp s4)]
      unfold x_Reader_takeLineByte
      rw [r2]
      cases hf
      · rw [if_neg (show ¬ false = true by decide)] at hev ⊢
        rw [if_pos (show bi false = 0 from rfl)]
        by_cases e : b = 10
        · rw [if_pos e] at hev ⊢
          rw [if_pos (show iN b = 10 by rw [e]; rfl), x_bind2_some, x_bind2_some]
          exact ⟨σ, go 400 σ ev_400, fun z => (by omega), fun z => (by omega), xFp.rf⟩
        · rw [if_neg e] at hev ⊢
          rw [if_neg (show ¬ iN b = 10 from mt (iN_eq (b := 10) (by omega) (by decide)).mp e)]
          by_cases e2 : b = 13
          · rw [if_pos e2] at hev ⊢
            rw [if_pos (show iN b = 13 by rw [e2]; rfl)]
            simp only [x_let]
            rw [x_bind2_some, x_bind2_some]
            have fp2 : xFp [(27, 3)] [] (false, false, false) σ (x_updR σ 27 3 1) := xFp.R rfl (by simp)
            refine ⟨_, go 0 _ ev_0, fun _ => ?_, fun z => (by omega), fp2.sub (by simp) (by simp) (by simp)⟩
            refine ⟨by rw [fp2.1 _ _ (by simp), r1], by simp [x_updR]; rfl, r3.of (fp2.1 _ _ (by simp)) (fp2.2.1 _ (by simp)), r4.of (fp2.1 _ _ (by simp)) (fp2.2.1 _ (by simp)), cf_of r5 fp2 (by simp) (by simp) (by simp) (by simp) (by simp) (by simp) (by simp), by rw [fp2.1 _ _ (by simp)]; exact r6, fun y => (r7 y).of (fp2.1 _ _ (by simp)) (fp2.2.1 _ (by simp)), fun y => by rw [fp2.1 _ _ (by simp), fp2.1 _ _ (by simp), fp2.1 _ _ (by simp)]; exact r8 y, fun y => ⟨by rw [fp_q fp2]; exact (r9 y).1, by rw [fp2.1 _ _ (by simp)]; exact (r9 y).2.1, (r9 y).2.2.of (fp2.1 _ _ (by simp)) (fp2.2.1 _ (by simp))⟩, fun y => by rw [fp2.1 _ _ (by simp)]; exact r10 y, fun y => absurd y s2, fun y => absurd y s4⟩
          · rw [if_neg e2] at hev ⊢
            rw [if_neg (show ¬ iN b = 13 from mt (iN_eq (b := 13) (by omega) (by decide)).mp e2), show σ.1 28 1 = iN l.1 from r3.1]
            by_cases e3 : l.1 < 80
            · rw [if_pos e3] at hev ⊢
              rw [if_pos (show iN l.1 < 80 from (iN_lt (b := 80) (by omega) (by decide)).mpr e3)]
              have hal : aln 29 = 80 := by decide
              obtain ⟨s1, b1, b2⟩ := c_add r3 hb (by rw [hal]; exact e3)
              have fp2 := fp_Bytes_add _ _ _ b1
              rw [b1, Option.bind_some, x_bind2_some, x_bind2_some]
              refine ⟨_, go 0 _ ev_0, fun _ => ?_, fun z => (by omega), fp2.sub (by simp) (by simp) (by simp)⟩
              refine ⟨by rw [fp2.1 _ _ (by simp), r1], by rw [fp2.1 _ _ (by simp)]; exact r2, b2, r4.of (fp2.1 _ _ (by simp)) (fp2.2.1 _ (by simp)), cf_of r5 fp2 (by simp) (by simp) (by simp) (by simp) (by simp) (by simp) (by simp), by rw [fp2.1 _ _ (by simp)]; exact r6, fun y => (r7 y).of (fp2.1 _ _ (by simp)) (fp2.2.1 _ (by simp)), fun y => by rw [fp2.1 _ _ (by simp), fp2.1 _ _ (by simp), fp2.1 _ _ (by simp)]; exact r8 y, fun y => ⟨by rw [fp_q fp2]; exact (r9 y).1, by rw [fp2.1 _ _ (by simp)]; exact (r9 y).2.1, (r9 y).2.2.of (fp2.1 _ _ (by simp)) (fp2.2.1 _ (by simp))⟩, fun y => by rw [fp2.1 _ _ (by simp)]; exact r10 y, fun y => absurd y s2, fun y => absurd y s4⟩
            · rw [if_neg e3] at hev ⊢
              rw [if_neg (show ¬ iN l.1 < 80 from mt (iN_lt (b := 80) (by omega) (by decide)).mp e3)]
              have tl : x_Reader_tooLong σ = some (iN (q_tooLong st)) := by
                unfold x_Reader_tooLong q_tooLong
                rw [r1]
                by_cases s0 : st = 0
                · rw [if_pos (show iN st = 0 by rw [s0]; rfl), if_pos s0]; rfl
                · rw [if_neg (mt (iN_eq0 (by omega)).mp s0), if_neg s0]
                  by_cases s3 : st = 3
                  · rw [if_pos (show iN st = 3 by rw [s3]; rfl), if_pos s3]; rfl
                  · rw [if_neg (show ¬ iN st = 3 from mt (iN_eq (b := 3) (by omega) (by decide)).mp s3), if_neg s3]; rfl
              rw [tl, Option.bind_some, x_bind2_some, x_bind2_some]
              have hq : q_tooLong st = 414 ∨ q_tooLong st = 400 ∨ q_tooLong st = 431 := by
                unfold q_tooLong
                split
                · simp
                · split <;> simp
              exact ⟨σ, go _ σ hev, fun z => by simp only at z; omega, fun z => by simp only at z; omega, xFp.rf⟩
      · rw [if_pos (rfl : true = true)] at hev ⊢
        rw [if_neg (show ¬ bi true = 0 by decide)]
        simp only [x_let]
        have fp2 : xFp [(27, 3)] [] (false, false, false) σ (x_updR σ 27 3 0) := xFp.R rfl (by simp)
        by_cases e : b = 10
        · rw [if_pos e] at hev ⊢
          rw [if_pos (show iN b = 10 by rw [e]; rfl), x_bind2_some, x_bind2_some, if_pos rfl]
          have hRC2 : RC (x_updR σ 27 3 0) (st, false, l, q, g, x) := ⟨by rw [fp2.1 _ _ (by simp), r1], by simp [x_updR]; rfl, r3.of (fp2.1 _ _ (by simp)) (fp2.2.1 _ (by simp)), r4.of (fp2.1 _ _ (by simp)) (fp2.2.1 _ (by simp)), cf_of r5 fp2 (by simp) (by simp) (by simp) (by simp) (by simp) (by simp) (by simp), by rw [fp2.1 _ _ (by simp)]; exact r6, fun y => (r7 y).of (fp2.1 _ _ (by simp)) (fp2.2.1 _ (by simp)), fun y => by rw [fp2.1 _ _ (by simp), fp2.1 _ _ (by simp), fp2.1 _ _ (by simp)]; exact r8 y, fun y => ⟨by rw [fp_q fp2]; exact (r9 y).1, by rw [fp2.1 _ _ (by simp)]; exact (r9 y).2.1, (r9 y).2.2.of (fp2.1 _ _ (by simp)) (fp2.2.1 _ (by simp))⟩, fun y => by rw [fp2.1 _ _ (by simp)]; exact r10 y, fun y => absurd y s2, fun y => absurd y s4⟩
          have hCD2 : CD (st, false, l, q, g, x) := hCD
          obtain ⟨σ1, t1, t2, t3, t4⟩ := c_rl hRC2 hCD2 (by omega) j1 a2 bk l4 l5
          exact ⟨σ1, t1, t2, t3, (fp2.sub (by simp) (by simp) (by simp)).tr t4⟩
        · rw [if_neg e] at hev ⊢
          rw [if_neg (show ¬ iN b = 10 from mt (iN_eq (b := 10) (by omega) (by decide)).mp e), x_bind2_some, x_bind2_some]
          exact ⟨_, go 400 _ ev_400, fun z => (by omega), fun z => (by omega), fp2.sub (by simp) (by simp) (by simp)⟩
