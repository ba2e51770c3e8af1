/-! answers: what they are -/
abbrev Site : Type := Nat → Option (Nat × List Nat)
abbrev Rs : Type := Nat × Nat × Option Nat × Nat × Nat × Nat × Bool × List Nat
def rs0 (num : Nat) : Rs := (num, 0, none, 0, 0, 0, false, [])
def f_val (l : Ln) : List Nat := sl l.2 (f_vb l) (f_ve l - f_vb l)
def q_known (F : Nat → Ln) (nf mq : Nat) : Bool := (f_els F (wd_ 15) 0 nf).any (fun u => u_is u (wd_ 16) || u_tag u mq)
def q_star2 (F : Nat → Ln) (nf : Nat) : Bool := (f_els F (wd_ 15) 0 nf).any (fun u => u_is u (wd_ 16))
def rg_d (u : List Nat) : Nat := s_first (fun c => c == 45) (fun j => u.getD j 0) 6 (u.length - 6)
def rg_a (u : List Nat) : Option Nat := s_number (fun j => u.getD j 0) 6 (rg_d u - 6)
def rg_b (u : List Nat) : Option Nat := s_number (fun j => u.getD j 0) (rg_d u + 1) (u.length - (rg_d u + 1))
/-- the range that a value tells: first, last -/
def q_rg (u : List Nat) : Option (Option Nat × Option Nat) :=
  if 6 ≤ u.length ∧ u_is (sl (fun j => u.getD j 0) 0 6) (wd_ 18) = true ∧ rg_d u < u.length then
    (if rg_d u = 6 then (match rg_b u with
      | none => none
      | some b => if 0 < b then some (none, some b) else none)
    else (match rg_a u with
      | none => none
      | some a => if rg_d u + 1 = u.length then some (some a, none) else (match rg_b u with
        | none => none
        | some b => if a ≤ b then some (some a, some b) else none)))
  else none
def q_rf (F : Nat → Ln) (nf : Nat) : Option (Option Nat × Option Nat) := if f_cnt F (wd_ 17) 0 nf = 1 then q_rg (f_val (F (f_ix F (wd_ 17) 0 nf))) else none
def q_far (fi : Option Nat) (n : Nat) : Bool := decide (n = 0) || (match fi with
  | none => false
  | some a => decide (n ≤ a))
def q_fr (fi la : Option Nat) (n : Nat) : Nat := match fi with
  | none => n - la.getD 0
  | some a => a
def q_ti (fi la : Option Nat) (n : Nat) : Nat := match fi with
  | none => n
  | some _ => (match la with
    | none => n
    | some b => if b + 1 < n then b + 1 else n)
def q_read (me mq : Nat) (B : List Nat) (F : Nat → Ln) (nf : Nat) : Rs :=
  if q_known F nf mq then (304, 0, some mq, 0, 0, 0, false, [])
  else match (if me = 0 then q_rf F nf else none) with
    | none => (200, B.length, some mq, 0, if me = 0 then B.length else 0, 0, false, if me = 0 then B else [])
    | some (fi, la) => if q_far fi B.length then (416, 0, none, 0, 0, B.length, false, []) else (206, q_ti fi la B.length - q_fr fi la B.length, some mq, q_fr fi la B.length, q_ti fi la B.length, B.length, false, o_bd B (q_fr fi la B.length) (q_ti fi la B.length))
def q_res (P : List Nat) : Option Nat := if P.length = 2 ∧ 97 ≤ P.getD 1 0 ∧ P.getD 1 0 ≤ 104 then some (P.getD 1 0 - 97) else none
def q_list (S : Site) : Nat → Nat → List Nat
  | _, 0 => []
  | r, d + 1 => (if (S r).isSome then [97 + r] else []) ++ q_list S (r + 1) d
def s_set (S : Site) (r : Nat) (v : Option (Nat × List Nat)) : Site := fun k => if k = r then v else S k
def q_chg (me r : Nat) (Bd : List Nat) (F : Nat → Ln) (nf : Nat) (S : Site) (chg : Nat) : Rs × Site × Nat :=
  if me = 2 then (match S r with
    | none => (rs0 201, s_set S r (some (chg + 1, Bd)), chg + 1)
    | some _ => if q_star2 F nf then (rs0 412, S, chg) else (rs0 204, s_set S r (some (chg + 1, Bd)), chg + 1))
  else (match S r with
    | none => (rs0 404, S, chg)
    | some (_, B) => if me = 3 then (if 200 < B.length + Bd.length then (rs0 413, S, chg) else (rs0 204, s_set S r (some (chg + 1, B ++ Bd)), chg + 1)) else (rs0 204, s_set S r none, chg + 1))
def q_ans (me : Nat) (P : List Nat) (F : Nat → Ln) (nf : Nat) (Bd : List Nat) (S : Site) (chg : Nat) : Rs × Site × Nat :=
  if me = 5 then ((204, 0, none, 0, 0, 0, true, []), S, chg)
  else if me = 6 then ((405, 0, none, 0, 0, 0, true, []), S, chg)
  else if me < 2 ∧ P.length = 1 then ((200, (q_list S 0 8).length, none, 0, if me = 0 then (q_list S 0 8).length else 0, 0, false, if me = 0 then q_list S 0 8 else []), S, chg)
  else match q_res P with
    | none => (rs0 404, S, chg)
    | some r => if me < 2 then (match S r with
        | none => (rs0 404, S, chg)
        | some (mq, B) => (q_read me mq B F nf, S, chg))
      else q_chg me r Bd F nf S chg
def Sb (S : Site) (chg : Nat) : Prop := ∀ r mq B, r < 8 → S r = some (mq, B) → 1 ≤ mq ∧ mq ≤ chg ∧ B.length ≤ 200
theorem o_bd_all (B : List Nat) : o_bd B 0 B.length = B := by simp [o_bd]
theorem o_bd_z (B : List Nat) (i : Nat) : o_bd B i 0 = [] := o_bd_nil (Nat.zero_le _)
theorem u_star {u : List Nat} : u_is u (wd_ 16) = (decide (u.length = 1) && decide (u.getD 0 0 = 42)) := by
  unfold u_is
  rw [show wd_ 16 = [42] by decide, Bool.eq_iff_iff, decide_eq_true_iff, Bool.and_eq_true, decide_eq_true_iff, decide_eq_true_iff]
  cases u with
  | nil => simp
  | cons c t =>
    cases t with
    | nil =>
      simp
      unfold k_low
      split <;> omega
    | cons c2 t => simp
/-! the class's answers -/
def Ax (σ : St) (num told : Nat) (tag : Option Nat) (frm til whole : Nat) (a : Bool) : Prop := σ.1 44 2 = iN num ∧ σ.1 44 3 = oi tag ∧ σ.1 44 4 = bi a ∧ σ.1 44 7 = iN told ∧ σ.1 44 9 = iN frm ∧ σ.1 44 10 = iN til ∧ σ.1 44 11 = iN whole
def Cs (σ : St) (S : Site) (chg : Nat) : Prop := σ.1 1 1 = iN chg ∧ (∃ L, GL σ 46 L) ∧ ∀ r, r < 8 → (S r = none → σ.1 (3 + 3 * r) 1 = -1) ∧ ∀ mq B, S r = some (mq, B) → σ.1 (3 + 3 * r) 1 = iN mq ∧ GL σ (3 + 3 * r + 1) B
/-- the answer R stands in the class -/
def CA (σ : St) (R : Rs) : Prop := Ax σ R.1 R.2.1 R.2.2.1 R.2.2.2.1 R.2.2.2.2.1 R.2.2.2.2.2.1 R.2.2.2.2.2.2.1 ∧ ∃ B, xB σ.2.2.1 ∧ (σ.2.2.1 ≠ 48 ∧ σ.2.2.1 ≠ 49 ∧ σ.2.2.1 + 1 ≠ 50) ∧ (σ.2.2.1 = 46 ∨ ∃ r, r < 8 ∧ σ.2.2.1 = 3 + 3 * r + 1) ∧ GL σ σ.2.2.1 B ∧ R.2.2.2.2.1 ≤ B.length ∧ R.2.2.2.2.2.2.2 = o_bd B R.2.2.2.1 R.2.2.2.2.1
theorem c_begin (num : Nat) (σ : St) : ∃ σ', x_Answer_begin (iN num) σ = some σ' ∧ Ax σ' num 0 none 0 0 0 false ∧ σ'.2.2.1 = 46 := by
  refine ⟨_, rfl, ⟨?_, ?_, ?_, ?_, ?_, ?_, ?_⟩, rfl⟩ <;> simp [x_updR, x_updB] <;> rfl
theorem xB46 : xB 46 := by decide
theorem c_begin0 {σ : St} {L : List Nat} (hL : GL σ 46 L) (num : Nat) : ∃ σ', x_Answer_begin (iN num) σ = some σ' ∧ CA σ' (rs0 num) := by
  obtain ⟨σ', a1, a2, a3⟩ := c_begin num σ
  have fp := fp_Answer_begin _ _ a1
  refine ⟨σ', a1, a2, L, ?_⟩
  rw [a3]
  exact ⟨xB46, by decide, Or.inl rfl, hL.of (fp.1 _ _ (by simp)) (fp.2.1 _ (by simp)), Nat.zero_le _, (o_bd_z L 0).symm⟩
theorem c_known0 {σ : St} {tn : Nat} {tf : Nat → Nat} {E : List (List Nat)} (hG : Gt σ 32 tn tf) (h : Ce σ tn tf E) {mq : Nat} (hm : mq < 2147483648) : ∀ d k fuel, k + d = E.length → d < fuel → x_Answer_isKnown_10 (iN mq) fuel (iN E.length) (iN k) σ = some (bi ((E.drop k).any (fun u => u_is u (wd_ 16) || u_tag u mq)), σ) := by
  have h3 := h.2.1
  intro d
  induction d with
  | zero =>
    intro k fuel hk hf
    obtain ⟨z, rfl⟩ := x_fuelS (show 0 < fuel by omega)
    rw [List.drop_eq_nil_of_le (by omega), List.any_nil, x_Answer_isKnown_10, if_pos ((iN_le (by omega) (by omega)).mpr (by omega))]
    rfl
  | succ d ih =>
    intro k fuel hk hf
    obtain ⟨z, rfl⟩ := x_fuelS (show 0 < fuel by omega)
    rw [drop_any _ E k [] (by omega), x_Answer_isKnown_10, if_neg (mt (iN_le (by omega) (by omega)).mp (by omega)), c_elementIs hG h (by decide) (by omega), Option.bind_some, c_elementIsTag hG h (by omega) hm, Option.bind_some]
    simp only [x_let]
    rw [iN_1a, ih (k + 1) z (by omega) (by omega)]
    cases u_is (E.getD k []) (wd_ 16) <;> cases u_tag (E.getD k []) mq <;> rfl
theorem c_isKnown {σ : St} {nf tn : Nat} {F : Nat → Ln} {tf : Nat → Nat} (h : Cf σ nf F tn tf) {mq : Nat} (hm : mq < 2147483648) : ∃ σ', x_Answer_isKnown (iN mq) σ = some (bi (q_known F nf mq), σ') := by
  obtain ⟨σ', a, b⟩ := c_gather h (w := 15) (by decide)
  have fp := fp_Fields_gather _ _ a
  refine ⟨σ', ?_⟩
  unfold x_Answer_isKnown
  rw [a, x_bind2_some]
  have := c_known0 (h.2.2.1.of (fp.1 _ _ (by simp)) (fp.2.1 _ (by simp))) b hm (f_els F (wd_ 15) 0 nf).length 0 x_fuel (by omega) (by have := b.2.1; unfold x_fuel; omega)
  rw [List.drop_zero] at this
  exact this
theorem f_val_len (l : Ln) : (f_val l).length = f_ve l - f_vb l := sl_len _ _ _
theorem f_val_at (l : Ln) {j : Nat} (h : j < f_ve l - f_vb l) : (f_val l).getD j 0 = l.2 (f_vb l + j) := sl_at _ _ _ h
theorem c_range {σ : St} {nf tn : Nat} {F : Nat → Ln} {tf : Nat → Nat} (h : Cf σ nf F tn tf) : ∃ σ', x_Range_take σ = some (bi (q_rf F nf).isSome, σ') ∧ ∀ fi la, q_rf F nf = some (fi, la) → σ'.1 45 0 = oi fi ∧ σ'.1 45 1 = oi la := by
  have e1 := c_indexOf h (w := 17) (by decide)
  have e2 := c_countOf h (w := 17) (by decide)
  have hn := h.2.1
  have hle := f_cnt_le F (wd_ 17) nf 0
  have hix := f_ix_cnt F (wd_ 17) nf 0
  have hixl := (f_ix_le F (wd_ 17) nf 0).2
  unfold x_Range_take q_rf
  rw [e1, Option.bind_some]
  by_cases c0 : f_cnt F (wd_ 17) 0 nf = 0
  · have i0 := hix.mp c0
    rw [if_neg (show ¬ f_ix F (wd_ 17) 0 nf < nf by omega), if_pos rfl, if_neg (by omega)]
    exact ⟨σ, rfl, fun fi la z => by cases z⟩
  · have hx : f_ix F (wd_ 17) 0 nf < nf := by
      have := mt hix.mpr c0
      omega
    rw [if_pos hx, if_neg (iN_m1 (by omega)), e2, Option.bind_some]
    by_cases c1 : f_cnt F (wd_ 17) 0 nf = 1
    · rw [if_pos ((iN_1le (by omega)).mpr (by omega)), if_pos c1]
      obtain ⟨ok, o, b1, b2, b3, b4, b5, b6⟩ := h.2.2.2.2 _ hx
      obtain ⟨v1, v2, v3⟩ := f_v_le ok
      have ht := h.2.2.1.le
      generalize f_ix F (wd_ 17) 0 nf = ix at *
      generalize hl : F ix = l at *
      have hvl := f_val_len l
      simp only [x_let]
      rw [if_pos ((iN_in (by omega)).mpr (by omega)), if_pos ((iN_in (by omega)).mpr (by omega)), iN_clamp (by omega), b5, b6, show (6 : Int32) = iN 6 from rfl, iN_add]
      have gv : ∀ j, j < (f_val l).length → tf (o + f_vb l + j) = (f_val l).getD j 0 := fun j hj => by
        rw [f_val_at l (by omega), Nat.add_assoc, b2 _ (by omega)]
      have hbd : o + f_ve l = o + f_vb l + (f_val l).length := by omega
      rw [hbd]
      generalize hob : o + f_vb l = p at *
      generalize f_val l = u at *
      unfold q_rg
      by_cases q6 : 6 ≤ u.length
      · rw [if_neg (mt (iN_lt (by omega) (by omega)).mp (by omega)), iN_sub (by omega), show p + 6 - 6 = p by omega]
        have ew := cw_isWord h.2.2.1 (w := 18) (i := p) (d := 6) (by decide) (by omega)
        rw [sl_congr (f := tf) (g := fun j => u.getD j 0) (i := p) (i' := 0) (fun j hj => by rw [Nat.zero_add]; exact gv j (by omega))] at ew
        rw [ew, Option.bind_some]
        cases hw : u_is (sl (fun j => u.getD j 0) 0 6) (wd_ 18)
        · rw [if_pos (show bi false = 0 from rfl), if_neg (fun z => by simp at z)]
          exact ⟨σ, rfl, fun fi la z => by cases z⟩
        · rw [if_neg (show ¬ bi true = 0 by decide)]
          have ef := c_find h.2.2.1 (b := 45) (i := p + 6) (d := u.length - 6) (by decide) (by omega)
          have ed : s_first (fun c => c == 45) tf (p + 6) (u.length - 6) = p + rg_d u := by
            have := s_first_congr (f := tf) (g := fun j => u.getD j 0) (fun c => c == 45) (u.length - 6) (p + 6) 6 (fun j hj => by rw [Nat.add_assoc]; exact gv (6 + j) (by omega))
            unfold rg_d
            omega
          have dl := s_first_le (fun c => c == 45) (fun j => u.getD j 0) (u.length - 6) 6
          have dl1 : 6 ≤ rg_d u ∧ rg_d u ≤ u.length := by unfold rg_d; omega
          rw [ed, show p + 6 + (u.length - 6) = p + u.length by omega] at ef
          rw [show (45 : Int32) = iN 45 from rfl, ef, Option.bind_some]
          have na := c_number h.2.2.1 (i := p + 6) (d := rg_d u - 6) (by omega)
          rw [show p + 6 + (rg_d u - 6) = p + rg_d u by omega, s_number_congr (f := tf) (g := fun j => u.getD j 0) (i := p + 6) (i' := 6) (fun j hj => by rw [Nat.add_assoc]; exact gv (6 + j) (by omega))] at na
          rw [na, Option.bind_some]
          have by9 : ∀ i d, i + d ≤ u.length → ∀ v, s_number (fun j => u.getD j 0) i d = some v → v < 1000000000 := fun i d hid v hv => s_number_lt (fun j a1 a2 => by
            have := h.2.2.1.by (show p + j < tn by omega)
            rw [gv j (by omega)] at this
            exact this) hv
          have la9 := by9 6 (rg_d u - 6) (by omega)
          have hna : s_number (fun j => u.getD j 0) 6 (rg_d u - 6) = rg_a u := rfl
          rw [hna] at la9 ⊢
          generalize hs4 : x_updR σ 45 0 (oi (rg_a u)) = s4
          have hG4 : Gt s4 32 tn tf := by rw [← hs4]; exact h.2.2.1.of (by simp [x_updR]) rfl
          have nb : x_Text_number 32 (iN (p + rg_d u + 1)) (iN (p + u.length)) s4 = some (if rg_d u < u.length then oi (rg_b u) else -1) := by
            by_cases q : rg_d u < u.length
            · have := c_number hG4 (i := p + rg_d u + 1) (d := u.length - (rg_d u + 1)) (by omega)
              rw [show p + rg_d u + 1 + (u.length - (rg_d u + 1)) = p + u.length by omega, s_number_congr (f := tf) (g := fun j => u.getD j 0) (i := p + rg_d u + 1) (i' := rg_d u + 1) (fun j hj => by rw [show p + rg_d u + 1 + j = p + (rg_d u + 1 + j) by omega]; exact gv _ (by omega))] at this
              rw [if_pos q]
              exact this
            · rw [if_neg q]
              exact c_numberX (by omega) (by omega)
          rw [iN_1a, nb, Option.bind_some]
          by_cases q : rg_d u < u.length
          · have lb9 := by9 (rg_d u + 1) (u.length - (rg_d u + 1)) (by omega)
            have hnb : s_number (fun j => u.getD j 0) (rg_d u + 1) (u.length - (rg_d u + 1)) = rg_b u := rfl
            rw [hnb] at lb9
            rw [if_pos q, if_pos (show 6 ≤ u.length ∧ true = true ∧ rg_d u < u.length from ⟨q6, rfl, q⟩)]
            generalize hs5 : x_updR s4 45 1 (oi (rg_b u)) = s5
            have k0 : s5.1 45 0 = oi (rg_a u) := by rw [← hs5, ← hs4]; simp [x_updR]
            have k1 : s5.1 45 1 = oi (rg_b u) := by rw [← hs5]; simp [x_updR]
            rw [k0, k1]
            by_cases d6 : rg_d u = 6
            · rw [if_pos (show iN (p + rg_d u) = iN (p + 6) by rw [d6]), if_pos d6]
              have ra : rg_a u = none := by unfold rg_a; rw [d6]; rfl
              cases hb : rg_b u with
              | none =>
                rw [if_pos (show oi none ≤ 0 by decide)]
                exact ⟨s5, rfl, fun fi la z => by cases z⟩
              | some b =>
                have hb9 := lb9 b hb
                by_cases b0 : 0 < b
                · rw [if_neg (show ¬ oi (some b) ≤ 0 from mt (iN_le0 (by omega)).mp (by omega))]
                  simp only [b0, if_true]
                  refine ⟨s5, rfl, fun fi la z => ?_⟩
                  cases z
                  exact ⟨by rw [k0, ra], by rw [k1, hb]⟩
                · rw [if_pos (show oi (some b) ≤ 0 from (iN_le0 (by omega)).mpr (by omega))]
                  simp only [b0, if_false]
                  exact ⟨s5, rfl, fun fi la z => by cases z⟩
            · rw [if_neg (mt (iN_eq (by omega) (by omega)).mp (by omega)), if_neg d6]
              cases ha : rg_a u with
              | none =>
                rw [if_pos (show oi none = -1 from rfl), if_pos (show oi none = -1 from rfl), ite_self]
                exact ⟨s5, rfl, fun fi la z => by cases z⟩
              | some a =>
                have ha9 := la9 a ha
                rw [if_neg (show ¬ oi (some a) = -1 from iN_m1 (by omega)), if_neg (show ¬ oi (some a) = -1 from iN_m1 (by omega))]
                by_cases de : rg_d u + 1 = u.length
                · rw [if_pos (show iN (p + rg_d u + 1) = iN (p + u.length) by rw [← de, Nat.add_assoc])]
                  have rb : rg_b u = none := by unfold rg_b; rw [de, Nat.sub_self]; rfl
                  simp only [de, if_true]
                  refine ⟨s5, rfl, fun fi la z => ?_⟩
                  cases z
                  exact ⟨by rw [k0, ha], by rw [k1, rb]⟩
                · rw [if_neg (mt (iN_eq (by omega) (by omega)).mp (by omega))]
                  simp only [de, if_false]
                  cases hb : rg_b u with
                  | none =>
                    rw [if_pos (show oi none < oi (some a) from iN_m1lt (by omega))]
                    exact ⟨s5, rfl, fun fi la z => by cases z⟩
                  | some b =>
                    have hb9 := lb9 b hb
                    by_cases ab : a ≤ b
                    · rw [if_neg (show ¬ oi (some b) < oi (some a) from mt (iN_lt (by omega) (by omega)).mp (by omega))]
                      simp only [ab, if_true]
                      refine ⟨s5, rfl, fun fi la z => ?_⟩
                      cases z
                      exact ⟨by rw [k0, ha], by rw [k1, hb]⟩
                    · rw [if_pos (show oi (some b) < oi (some a) from (iN_lt (by omega) (by omega)).mpr (by omega))]
                      simp only [ab, if_false]
                      exact ⟨s5, rfl, fun fi la z => by cases z⟩
          · rw [if_neg q, if_neg (show ¬ (6 ≤ u.length ∧ true = true ∧ rg_d u < u.length) from fun z => q z.2.2)]
            generalize hs5 : x_updR s4 45 1 (-1) = s5
            have k0 : s5.1 45 0 = oi (rg_a u) := by rw [← hs5, ← hs4]; simp [x_updR]
            have k1 : s5.1 45 1 = -1 := by rw [← hs5]; simp [x_updR]
            rw [k0, k1, if_pos (show (-1 : Int32) ≤ 0 by decide), if_neg (show ¬ iN (p + rg_d u + 1) = iN (p + u.length) from mt (iN_eq (by omega) (by omega)).mp (by omega))]
            have fin : (if oi (rg_a u) = -1 then some ((0 : Int32), s5) else (if (-1 : Int32) < oi (rg_a u) then some ((0 : Int32), s5) else some ((1 : Int32), s5))) = some (0, s5) := by
              cases ha : rg_a u with
              | none => rfl
              | some a =>
                rw [if_neg (show ¬ oi (some a) = -1 from iN_m1 (by have := la9 a ha; omega)), if_pos (show (-1 : Int32) < oi (some a) from iN_m1lt (by have := la9 a ha; omega))]
            rw [fin, ite_self]
            exact ⟨s5, rfl, fun fi la z => by cases z⟩
      · rw [if_pos ((iN_lt (by omega) (by omega)).mpr (by omega)), if_neg (fun z => q6 z.1)]
        exact ⟨σ, rfl, fun fi la z => by cases z⟩
    · rw [if_neg (mt (iN_1le (by omega)).mp (by omega)), if_neg c1]
      exact ⟨σ, rfl, fun fi la z => by cases z⟩
