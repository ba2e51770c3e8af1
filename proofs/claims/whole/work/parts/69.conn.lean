/-! a connection, and a byte that comes -/
abbrev Rq : Type := Nat × Nat × Nat × (Nat → Nat)
abbrev Cx : Type := Bool × List Nat × Nat × Nat
abbrev Cn : Type := Nat × Bool × Ln × Rq × (Nat × (Nat → Ln)) × Cx
abbrev Wl : Type := Site × Nat × List Nat × Option Nat
def nl0 : Ln := (0, fun _ => 0)
def rq0 : Rq := (0, 0, 0, fun _ => 0)
def fl0 : Nat × (Nat → Ln) := (0, fun _ => nl0)
def cn0 : Cn := (0, false, nl0, rq0, fl0, (false, [], 0, 0))
def rq_P (q : Rq) : List Nat := q_dec q.2.2.2 q.2.2.1 q.2.2.1 0
def rq_of (f : Nat → Nat) (n : Nat) : Rq := ((q_m (sl f 0 (q_one f n))).getD 0, f (n - 1) - 48, q_two f n - q_one f n - 1, fun j => f (q_one f n + 1 + j))
def q_tooLong (st : Nat) : Nat := if st = 0 then 414 else if st = 3 then 400 else 431
/-- the end of a line: the event, and what is then read -/
def rl (st : Nat) (l : Ln) (q : Rq) (g : Nat × (Nat → Ln)) (x : Cx) : Nat × Cn :=
  if st = 0 then (if l.1 = 0 then (0, (0, false, nl0, q, g, x)) else (q_req l.2 l.1, (1, false, nl0, rq_of l.2 l.1, fl0, (false, [], 0, 0))))
  else if st = 1 then (if l.1 = 0 then
      (h_ans g.2 g.1 (decide (q.2.1 = 0)), (if h_chk g.2 g.1 then 3 else 2, false, nl0, q, g, (h_last g.2 g.1 (decide (q.2.1 = 0)), [], if h_chk g.2 g.1 then 0 else h_len g.2 g.1, 0)))
    else (t_code l.2 l.1 1 g.1 0, (1, false, nl0, q, (g.1 + 1, F_add g.2 g.1 l), x)))
  else if st = 3 then (ck_code l.2 l.1 x.2.1.length, (if q_chunk l.2 l.1 = some 0 then 5 else 4, false, nl0, q, g, (x.1, x.2.1, (q_chunk l.2 l.1).getD 0, x.2.2.2)))
  else (if l.1 = 0 then (3, (st, false, nl0, q, g, x)) else (t_code l.2 l.1 5 0 x.2.2.2, (st, false, nl0, q, g, (x.1, x.2.1, x.2.2.1, x.2.2.2 + 1))))
def rd (c : Cn) (b : Nat) : Nat × Cn :=
  if c.1 = 2 then (if c.2.2.2.2.2.2.2.1 = 1 then 3 else 0, (2, c.2.1, c.2.2.1, c.2.2.2.1, c.2.2.2.2.1, (c.2.2.2.2.2.1, c.2.2.2.2.2.2.1 ++ [b], c.2.2.2.2.2.2.2.1 - 1, c.2.2.2.2.2.2.2.2)))
  else if c.1 = 4 then
    (if 0 < c.2.2.2.2.2.2.2.1 then (0, (4, c.2.1, c.2.2.1, c.2.2.2.1, c.2.2.2.2.1, (c.2.2.2.2.2.1, c.2.2.2.2.2.2.1 ++ [b], c.2.2.2.2.2.2.2.1 - 1, c.2.2.2.2.2.2.2.2)))
    else if ¬ b = (if c.2.1 then 10 else 13) then (400, c)
    else (0, (if c.2.1 then 3 else 4, !c.2.1, c.2.2)))
  else if c.2.1 then (if b = 10 then rl c.1 c.2.2.1 c.2.2.2.1 c.2.2.2.2.1 c.2.2.2.2.2 else (400, c))
  else if b = 10 then (400, c)
  else if b = 13 then (0, (c.1, true, c.2.2))
  else if c.2.2.1.1 < 80 then (0, (c.1, false, (c.2.2.1.1 + 1, fun i => if i = c.2.2.1.1 then b else c.2.2.1.2 i), c.2.2.2))
  else (q_tooLong c.1, c)
/-- a response, if the event is one -/
def fin (ev : Nat) (c : Cn) (w : Wl) : Option Cn × Wl × Nat :=
  if ev = 0 then (some c, w, 0)
  else if ev = 3 then ((if c.2.2.2.2.2.1 then none else some cn0), ((q_ans c.2.2.2.1.1 (rq_P c.2.2.2.1) c.2.2.2.2.1.2 c.2.2.2.2.1.1 c.2.2.2.2.2.2.1 w.1 w.2.1).2.1, (q_ans c.2.2.2.1.1 (rq_P c.2.2.2.1) c.2.2.2.2.1.2 c.2.2.2.2.1.1 c.2.2.2.2.2.2.1 w.1 w.2.1).2.2, w.2.2.1 ++ o_all (q_ans c.2.2.2.1.1 (rq_P c.2.2.2.1) c.2.2.2.2.1.2 c.2.2.2.2.1.1 c.2.2.2.2.2.2.1 w.1 w.2.1).1 c.2.2.2.2.2.1 (decide (c.2.2.2.1.2.1 = 0)), some (q_ans c.2.2.2.1.1 (rq_P c.2.2.2.1) c.2.2.2.2.1.2 c.2.2.2.2.1.1 c.2.2.2.2.2.2.1 w.1 w.2.1).1.1), 1)
  else if ev = 100 then (some c, (w.1, w.2.1, w.2.2.1 ++ (o_sta 100 ++ wd_ 24), some 100), 1)
  else (none, (w.1, w.2.1, w.2.2.1 ++ o_all (rs0 ev) true false, some ev), 1)
def Rk (q : Rq) : Prop := q.1 < 7 ∧ q.2.1 ≤ 9 ∧ q.2.2.1 ≤ 80 ∧ (∀ j, j < q.2.2.1 → q.2.2.2 j < 256) ∧ s_tgt q.2.2.2 0 q.2.2.1 = true ∧ (¬ q.1 = 5 → (rq_P q).getD 0 0 = 47)
def CC (c : Cn) : Prop := c.1 ≤ 5 ∧ c.2.2.1.1 ≤ 80 ∧ (∀ j, j < c.2.2.1.1 → c.2.2.1.2 j < 256) ∧ (1 ≤ c.1 → Rk c.2.2.2.1) ∧ c.2.2.2.2.2.2.1.length ≤ 200 ∧ (c.1 = 2 → 0 < c.2.2.2.2.2.2.2.1) ∧ (c.1 = 2 ∨ c.1 = 4 → c.2.2.2.2.2.2.1.length + c.2.2.2.2.2.2.2.1 ≤ 200) ∧ c.2.2.2.2.2.2.2.2 ≤ 4 ∧ c.2.2.2.2.1.1 ≤ 12
theorem s_tgt_congr {f g : Nat → Nat} : ∀ d i i', (∀ j, j < d → f (i + j) = g (i' + j)) → s_tgt f i d = s_tgt g i' d := by
  intro d
  induction d with
  | zero => intro i i' _; rfl
  | succ d ih =>
    intro i i' h
    have h0 := h 0 (by omega)
    rw [Nat.add_zero, Nat.add_zero] at h0
    have hh := ih (i + 1) (i' + 1) (fun j hj => by rw [show i + 1 + j = i + (j + 1) by omega, show i' + 1 + j = i' + (j + 1) by omega]; exact h (j + 1) (by omega))
    rw [s_tgt, s_tgt, h0, hh]
    by_cases d1 : 1 < d
    · rw [h 1 (by omega), h 2 (by omega)]
    · simp only [d1, decide_false, Bool.false_and]
theorem q_dec_shift (f : Nat → Nat) (o t : Nat) (h : o ≤ t) : ∀ z i, q_dec f t z (o + i) = q_dec (fun j => f (o + j)) (t - o) z i := by
  intro z
  induction z with
  | zero => intro i; rfl
  | succ z ih =>
    intro i
    rw [q_dec, q_dec]
    have e1 := ih (i + 1)
    have e3 := ih (i + 3)
    rw [show o + i + 1 = o + (i + 1) by omega, show o + i + 3 = o + (i + 3) by omega, e1, e3, show o + i + 2 = o + (i + 2) by omega]
    by_cases q : t ≤ o + i
    · rw [if_pos q, if_pos (show t - o ≤ i by omega)]
    · rw [if_neg q, if_neg (show ¬ t - o ≤ i by omega)]
theorem q_req_ok {f : Nat → Nat} {n : Nat} (hn : n ≤ 80) (hb : ∀ j, j < n → f j < 256) (h : q_req f n = 0) : Rk (rq_of f n) ∧ q_m (sl f 0 (q_one f n)) = some (rq_of f n).1 ∧ f (n - 1) = (rq_of f n).2.1 + 48 ∧ rq_P (rq_of f n) = q_dec f (q_two f n) (q_two f n - (q_one f n + 1)) (q_one f n + 1) := by
  unfold q_req at h
  by_cases c1 : q_two f n < n ∧ q_thr f n = n
  · rw [if_neg (by simp [c1])] at h
    cases hs : q_shape f n
    · rw [hs] at h
      simp at h
    · rw [hs, if_neg (by simp)] at h
      by_cases c2 : f (n - 3) = 49
      · rw [if_neg (by simp [c2])] at h
        cases hm : q_m (sl f 0 (q_one f n)) with
        | none => rw [hm] at h; simp at h
        | some m =>
          rw [hm, if_neg (by simp)] at h
          by_cases c3 : ¬ f (q_one f n + 1) = 47 ∧ q_star f n = false
          · rw [if_pos c3] at h
            cases h
          · obtain ⟨l2, l3, l4⟩ := q_two_le f n
            unfold q_shape at hs
            simp only [Bool.and_eq_true, decide_eq_true_eq] at hs
            obtain ⟨s1, ⟨s2, s3⟩, ⟨s4, s5⟩, s6, s7⟩ := hs
            unfold s_ver at s5
            simp only [Bool.and_eq_true] at s5
            have hd := s5.2.2.2
            rw [show q_two f n + 1 + 7 = n - 1 by omega] at hd
            have hd2 : 48 ≤ f (n - 1) ∧ f (n - 1) ≤ 57 := by simpa [k_dig] using hd
            have hlt := l4 c1.1
            have hP : rq_P (rq_of f n) = q_dec f (q_two f n) (q_two f n - (q_one f n + 1)) (q_one f n + 1) := by
              have := q_dec_shift f (q_one f n + 1) (q_two f n) (by omega) (q_two f n - (q_one f n + 1)) 0
              rw [Nat.add_zero] at this
              rw [this]
              unfold rq_P rq_of
              simp only
              rw [show q_two f n - q_one f n - 1 = q_two f n - (q_one f n + 1) by omega]
            refine ⟨⟨?_, ?_, ?_, ?_, ?_, ?_⟩, ?_, ?_, hP⟩
            · show (q_m (sl f 0 (q_one f n))).getD 0 < 7
              rw [hm]
              exact q_m_lt hm
            · show f (n - 1) - 48 ≤ 9
              omega
            · show q_two f n - q_one f n - 1 ≤ 80
              omega
            · intro j hj
              have hj' : j < q_two f n - q_one f n - 1 := hj
              exact hb (q_one f n + 1 + j) (by omega)
            · show s_tgt (fun j => f (q_one f n + 1 + j)) 0 (q_two f n - q_one f n - 1) = true
              rw [show q_two f n - q_one f n - 1 = q_two f n - (q_one f n + 1) by omega, s_tgt_congr (g := f) (q_two f n - (q_one f n + 1)) 0 (q_one f n + 1) (fun j _ => by rw [Nat.zero_add])]
              exact s7
            · intro m5
              have m5' : ¬ m = 5 := fun z => m5 (by show (q_m (sl f 0 (q_one f n))).getD 0 = 5; rw [hm, z]; rfl)
              have h47 : f (q_one f n + 1) = 47 := by
                by_cases z : f (q_one f n + 1) = 47
                · exact z
                · exfalso
                  apply c3
                  refine ⟨z, ?_⟩
                  unfold q_star
                  rw [hm, decide_eq_false (fun y => m5' (by simpa using y))]
                  rfl
              rw [hP]
              obtain ⟨z, hz⟩ : ∃ z, q_two f n - (q_one f n + 1) = z + 1 := ⟨q_two f n - (q_one f n + 1) - 1, by omega⟩
              rw [hz, q_dec, if_neg (show ¬ q_two f n ≤ q_one f n + 1 by omega), h47, if_neg (by decide), if_neg (by decide)]
              rfl
            · show some m = some ((q_m (sl f 0 (q_one f n))).getD 0)
              rw [hm]
              rfl
            · show f (n - 1) = f (n - 1) - 48 + 48
              omega
      · rw [if_pos c2] at h
        cases h
  · rw [if_pos c1] at h
    cases h
theorem q_req_val (f : Nat → Nat) (n : Nat) : q_req f n = 0 ∨ q_req f n = 400 ∨ q_req f n = 501 ∨ q_req f n = 505 := by
  unfold q_req
  repeat' split
  all_goals omega
theorem t_code_val (f : Nat → Nat) (n st nf tr : Nat) : t_code f n st nf tr = 0 ∨ t_code f n st nf tr = 400 ∨ t_code f n st nf tr = 431 := by
  unfold t_code
  repeat' split
  all_goals omega
theorem ck_code_val (f : Nat → Nat) (n b : Nat) : ck_code f n b = 0 ∨ ck_code f n b = 400 ∨ ck_code f n b = 413 := by
  unfold ck_code
  repeat' split
  all_goals omega
theorem ck_code_0 {f : Nat → Nat} {n b : Nat} (h : ck_code f n b = 0) : ∃ v, q_chunk f n = some v ∧ b + v ≤ 200 := by
  unfold ck_code at h
  cases hq : q_chunk f n with
  | none => rw [hq] at h; cases h
  | some v =>
    rw [hq] at h
    refine ⟨v, rfl, ?_⟩
    by_cases q : 200 < b + v
    · simp only [q, if_true] at h
      cases h
    · omega
theorem h_ans_val (F : Nat → Ln) (nf : Nat) (old : Bool) : (h_code F nf old = 0 ∧ (h_ans F nf old = 0 ∨ h_ans F nf old = 3 ∨ h_ans F nf old = 100)) ∨ (¬ h_code F nf old = 0 ∧ h_ans F nf old = h_code F nf old ∧ (h_ans F nf old = 400 ∨ h_ans F nf old = 413 ∨ h_ans F nf old = 417 ∨ h_ans F nf old = 501)) := by
  have := h_code_val F nf old
  unfold h_ans
  by_cases q : h_code F nf old = 0
  · left
    refine ⟨q, ?_⟩
    rw [if_neg (by simp [q])]
    repeat' split
    all_goals simp
  · right
    rw [if_pos q]
    omega
/-- the events that a byte can bring -/
def ev_ok (e : Nat) : Prop := e = 0 ∨ e = 3 ∨ e = 100 ∨ (400 ≤ e ∧ e < 600 ∧ ¬ e = 405 ∧ ¬ e = 416)
theorem rl_val (st : Nat) (l : Ln) (q : Rq) (g : Nat × (Nat → Ln)) (x : Cx) : ev_ok (rl st l q g x).1 := by
  unfold rl
  by_cases s0 : st = 0
  · rw [if_pos s0]
    by_cases l0 : l.1 = 0
    · rw [if_pos l0]
      exact Or.inl rfl
    · rw [if_neg l0]
      have := q_req_val l.2 l.1
      show ev_ok (q_req l.2 l.1)
      unfold ev_ok
      omega
  · rw [if_neg s0]
    by_cases s1 : st = 1
    · rw [if_pos s1]
      by_cases l0 : l.1 = 0
      · rw [if_pos l0]
        have := h_ans_val g.2 g.1 (decide (q.2.1 = 0))
        show ev_ok (h_ans g.2 g.1 (decide (q.2.1 = 0)))
        unfold ev_ok
        omega
      · rw [if_neg l0]
        have := t_code_val l.2 l.1 1 g.1 0
        show ev_ok (t_code l.2 l.1 1 g.1 0)
        unfold ev_ok
        omega
    · rw [if_neg s1]
      by_cases s3 : st = 3
      · rw [if_pos s3]
        have := ck_code_val l.2 l.1 x.2.1.length
        show ev_ok (ck_code l.2 l.1 x.2.1.length)
        unfold ev_ok
        omega
      · rw [if_neg s3]
        by_cases l0 : l.1 = 0
        · rw [if_pos l0]
          exact Or.inr (Or.inl rfl)
        · rw [if_neg l0]
          have := t_code_val l.2 l.1 5 0 x.2.2.2
          show ev_ok (t_code l.2 l.1 5 0 x.2.2.2)
          unfold ev_ok
          omega
theorem ev_400 : ev_ok 400 := by unfold ev_ok; omega
theorem ev_0 : ev_ok 0 := Or.inl rfl
theorem rd_val (c : Cn) (b : Nat) : ev_ok (rd c b).1 := by
  unfold rd
  by_cases s2 : c.1 = 2
  · rw [if_pos s2]
    show ev_ok (if c.2.2.2.2.2.2.2.1 = 1 then 3 else 0)
    split
    · exact Or.inr (Or.inl rfl)
    · exact ev_0
  · rw [if_neg s2]
    by_cases s4 : c.1 = 4
    · rw [if_pos s4]
      by_cases d : 0 < c.2.2.2.2.2.2.2.1
      · rw [if_pos d]; exact ev_0
      · rw [if_neg d]
        by_cases e : ¬ b = (if c.2.1 then 10 else 13)
        · rw [if_pos e]; exact ev_400
        · rw [if_neg e]; exact ev_0
    · rw [if_neg s4]
      by_cases h : c.2.1 = true
      · rw [if_pos h]
        by_cases e : b = 10
        · rw [if_pos e]; exact rl_val _ _ _ _ _
        · rw [if_neg e]; exact ev_400
      · rw [if_neg h]
        by_cases e : b = 10
        · rw [if_pos e]; exact ev_400
        · rw [if_neg e]
          by_cases e2 : b = 13
          · rw [if_pos e2]; exact ev_0
          · rw [if_neg e2]
            by_cases e3 : c.2.2.1.1 < 80
            · rw [if_pos e3]; exact ev_0
            · rw [if_neg e3]
              show ev_ok (q_tooLong c.1)
              unfold q_tooLong ev_ok
              repeat' split
              all_goals omega
/-- what is read stays within its bounds -/
theorem rl_CC {st : Nat} {hf : Bool} {l : Ln} {q : Rq} {g : Nat × (Nat → Ln)} {x : Cx} (h : CC (st, hf, l, q, g, x)) (h0 : st = 0 → x = (false, [], 0, 0)) (h1 : st = 1 → x.2.1 = []) (he : (rl st l q g x).1 = 0 ∨ (rl st l q g x).1 = 3 ∨ (rl st l q g x).1 = 100) : ¬ (rl st l q g x).1 = 3 → CC (rl st l q g x).2 := by
  obtain ⟨a1, a2, a3, a4, a5, a6, a7, a8, a9⟩ := h
  simp only at a1 a2 a3 a4 a5 a6 a7 a8 a9
  intro n3
  unfold rl at he n3 ⊢
  by_cases s0 : st = 0
  · rw [if_pos s0] at he n3 ⊢
    by_cases l0 : l.1 = 0
    · rw [if_pos l0] at he n3 ⊢
      exact ⟨Nat.zero_le _, Nat.zero_le _, fun j hj => absurd hj (Nat.not_lt_zero j), fun z => absurd z (by simp), a5, fun z => by simp at z, fun z => by simp at z, a8, a9⟩
    · rw [if_neg l0] at he n3 ⊢
      have hq : q_req l.2 l.1 = 0 := by
        have := q_req_val l.2 l.1
        simp only at he
        omega
      exact ⟨by simp, Nat.zero_le _, fun j hj => absurd hj (Nat.not_lt_zero j), fun _ => (q_req_ok a2 a3 hq).1, by simp, fun z => by simp at z, fun z => by simp at z, by simp, by simp [fl0]⟩
  · rw [if_neg s0] at he n3 ⊢
    by_cases s1 : st = 1
    · rw [if_pos s1] at he n3 ⊢
      by_cases l0 : l.1 = 0
      · rw [if_pos l0] at he n3 ⊢
        have hv := h_ans_val g.2 g.1 (decide (q.2.1 = 0))
        have hc : h_code g.2 g.1 (decide (q.2.1 = 0)) = 0 := by
          simp only at he
          omega
        have hcl : h_cl g.2 g.1 = 0 := by
          unfold h_code at hc
          by_cases y1 : h_host g.2 g.1 (decide (q.2.1 = 0)) = false
          · rw [if_pos y1] at hc; cases hc
          · rw [if_neg y1] at hc
            by_cases y2 : ¬ h_te g.2 g.1 (decide (q.2.1 = 0)) = 0
            · rw [if_pos y2] at hc; exact absurd hc y2
            · rw [if_neg y2] at hc
              by_cases y3 : ¬ h_cl g.2 g.1 = 0
              · rw [if_pos y3] at hc; exact absurd hc y3
              · omega
        have hlen := h_cl_len hcl
        have n3' : ¬ (h_chk g.2 g.1 = false ∧ h_len g.2 g.1 = 0) := by
          intro z
          apply n3
          show h_ans g.2 g.1 (decide (q.2.1 = 0)) = 3
          unfold h_ans
          rw [if_neg (by simp [hc]), if_pos z]
        refine ⟨?_, Nat.zero_le _, fun j hj => absurd hj (Nat.not_lt_zero j), fun _ => a4 (by omega), by simp, ?_, ?_, by simp, a9⟩
        · show (if h_chk g.2 g.1 = true then 3 else 2) ≤ 5
          split <;> omega
        · cases hk : h_chk g.2 g.1
          · intro _
            simp only [Bool.false_eq_true, if_false]
            exact Nat.pos_of_ne_zero (fun z => n3' ⟨hk, z⟩)
          · intro z
            simp at z
        · cases hk : h_chk g.2 g.1
          · intro _
            simpa using hlen
          · intro z
            simp at z
      · rw [if_neg l0] at he n3 ⊢
        have ht : t_code l.2 l.1 1 g.1 0 = 0 := by
          have := t_code_val l.2 l.1 1 g.1 0
          simp only at he
          omega
        have hnf : g.1 < 12 := by
          unfold t_code at ht
          by_cases y : q_colon l.2 l.1 = none
          · rw [if_pos y] at ht; cases ht
          · rw [if_neg y] at ht
            by_cases y2 : t_full 1 g.1 0 = true
            · simpa [t_full] using y2
            · rw [if_neg y2] at ht; cases ht
        exact ⟨by simp, Nat.zero_le _, fun j hj => absurd hj (Nat.not_lt_zero j), fun _ => a4 (by omega), a5, fun z => by simp at z, fun z => by simp at z, a8, hnf⟩
    · rw [if_neg s1] at he n3 ⊢
      by_cases s3 : st = 3
      · rw [if_pos s3] at he n3 ⊢
        have hk : ck_code l.2 l.1 x.2.1.length = 0 := by
          have := ck_code_val l.2 l.1 x.2.1.length
          simp only at he
          omega
        obtain ⟨v, v1, v2⟩ := ck_code_0 hk
        refine ⟨?_, Nat.zero_le _, fun j hj => absurd hj (Nat.not_lt_zero j), fun _ => a4 (by omega), a5, ?_, ?_, a8, a9⟩
        · show (if q_chunk l.2 l.1 = some 0 then 5 else 4) ≤ 5
          split <;> omega
        · show (if q_chunk l.2 l.1 = some 0 then 5 else 4) = 2 → _
          split <;> intro z <;> omega
        · intro _
          show x.2.1.length + (q_chunk l.2 l.1).getD 0 ≤ 200
          rw [v1]
          exact v2
      · rw [if_neg s3] at he n3 ⊢
        by_cases l0 : l.1 = 0
        · rw [if_pos l0] at n3
          exact absurd rfl n3
        · rw [if_neg l0] at he n3 ⊢
          have ht : t_code l.2 l.1 5 0 x.2.2.2 = 0 := by
            have := t_code_val l.2 l.1 5 0 x.2.2.2
            simp only at he
            omega
          have htr : x.2.2.2 < 4 := by
            unfold t_code at ht
            by_cases y : q_colon l.2 l.1 = none
            · rw [if_pos y] at ht; cases ht
            · rw [if_neg y] at ht
              by_cases y2 : t_full 5 0 x.2.2.2 = true
              · simpa [t_full] using y2
              · rw [if_neg y2] at ht; cases ht
          exact ⟨a1, Nat.zero_le _, fun j hj => absurd hj (Nat.not_lt_zero j), fun z => a4 z, a5, a6, a7, htr, a9⟩
