/-! the head: what its checks answer -/
def h_host (F : Nat → Ln) (nf : Nat) (old : Bool) : Bool := decide (f_cnt F (wd_ 5) 0 nf ≤ 1) && ((decide (f_cnt F (wd_ 5) 0 nf = 1) || old) && (decide (f_cnt F (wd_ 5) 0 nf = 0) || s_all k_hst (F (f_ix F (wd_ 5) 0 nf)).2 (f_vb (F (f_ix F (wd_ 5) 0 nf))) (f_ve (F (f_ix F (wd_ 5) 0 nf)) - f_vb (F (f_ix F (wd_ 5) 0 nf)))))
def h_chk (F : Nat → Ln) (nf : Nat) : Bool := decide (0 < f_cnt F (wd_ 7) 0 nf)
def h_te (F : Nat → Ln) (nf : Nat) (old : Bool) : Nat :=
  if f_cnt F (wd_ 7) 0 nf = 0 then 0
  else if old = true ∨ 0 < f_cnt F (wd_ 8) 0 nf then 400
  else if (f_els F (wd_ 7) 0 nf).length = 0 ∨ u_is ((f_els F (wd_ 7) 0 nf).getD ((f_els F (wd_ 7) 0 nf).length - 1) []) (wd_ 9) = false then 400
  else if 1 < (f_els F (wd_ 7) 0 nf).length then 501 else 0
def h_num (o : Option Nat) : Nat := match o with
  | none => 400
  | some v => if 200 < v then 413 else 0
def h_cl (F : Nat → Ln) (nf : Nat) : Nat :=
  if f_cnt F (wd_ 8) 0 nf = 0 then 0
  else if ((f_els F (wd_ 8) 0 nf).drop 1).all (fun v => decide (u_num v = u_num ((f_els F (wd_ 8) 0 nf).getD 0 []))) then h_num (u_num ((f_els F (wd_ 8) 0 nf).getD 0 [])) else 400
def h_len (F : Nat → Ln) (nf : Nat) : Nat := if f_cnt F (wd_ 8) 0 nf = 0 then 0 else (u_num ((f_els F (wd_ 8) 0 nf).getD 0 [])).getD 0
def h_ex (F : Nat → Ln) (nf : Nat) (old : Bool) : Nat := if old = true then 0 else if (f_els F (wd_ 10) 0 nf).all (fun v => u_is v (wd_ 11)) then 0 else 417
def h_goes (F : Nat → Ln) (nf : Nat) (old : Bool) : Bool := !old && (decide (0 < (f_els F (wd_ 10) 0 nf).length) && (h_chk F nf || decide (0 < h_len F nf)))
def h_last (F : Nat → Ln) (nf : Nat) (old : Bool) : Bool := (f_els F (wd_ 12) 0 nf).any (fun x => u_is x (wd_ 13)) || (old && !(f_els F (wd_ 12) 0 nf).any (fun x => u_is x (wd_ 14)))
def h_code (F : Nat → Ln) (nf : Nat) (old : Bool) : Nat := if h_host F nf old = false then 400 else if ¬ h_te F nf old = 0 then h_te F nf old else if ¬ h_cl F nf = 0 then h_cl F nf else h_ex F nf old
theorem drop_all {α : Type} (p : α → Bool) (l : List α) (k : Nat) (dflt : α) (h : k < l.length) : (l.drop k).all p = (p (l.getD k dflt) && (l.drop (k + 1)).all p) := by
  rw [List.drop_eq_getElem_cons h, List.all_cons, List.getD_eq_getElem?_getD, List.getElem?_eq_getElem h]
  rfl
theorem c_isOld {σ : St} {ld : Nat} (h : σ.1 30 4 = iN ld) (hl : ld < 256) : x_Request_isOld σ = some (bi (decide (ld = 48))) := by
  unfold x_Request_isOld
  by_cases q : ld = 48 <;> simp (disch := omega) only [iN_lt, iN_le, iN_eq, iN_add, iN_sub, iN_mul, iN_in, iN_clamp, iN_1a, iN_1e, iN_1l, iN_l1, iN_0e, iN_0l, iN_l0, iN_pred, iN_sub1, iN_1le, il_2, il_3, il_4, il_5, il_6, il_7, il_8, il_9, il_10, il_12, il_13, il_16, il_20, il_32, il_34, il_37, il_42, il_44, il_45, il_46, il_47, il_48, il_49, il_57, il_58, il_59, il_63, il_80, il_97, il_200, il_205, il_400, il_404, il_405, il_413, il_414, il_416, il_417, il_431, il_501, il_505, il_2000, if_pos, if_neg, Option.bind_some, x_let, x_bind2_some, x_opt, h, q, decide_true, decide_false, bi_t, bi_f, i10, i1n, eq_self, if_true, if_false, bi_bt, x_b0, x_b1, Bool.true_and, Bool.false_and, Bool.and_true, Bool.and_false, Bool.and_self]
theorem s_all_congr {f g : Nat → Nat} (p : Nat → Bool) : ∀ d i i', (∀ j, j < d → f (i + j) = g (i' + j)) → s_all p f i d = s_all p g i' d := by
  intro d
  induction d with
  | zero => intro i i' _; rfl
  | succ d ih =>
    intro i i' h
    have h0 := h 0 (by omega)
    rw [Nat.add_zero, Nat.add_zero] at h0
    rw [s_all, s_all, h0, ih (i + 1) (i' + 1) (fun j hj => by rw [show i + 1 + j = i + (j + 1) by omega, show i' + 1 + j = i' + (j + 1) by omega]; exact h (j + 1) (by omega))]
theorem f_v_le {l : Ln} (h : f_ok l) : f_c l + 1 ≤ f_vb l ∧ f_vb l ≤ f_ve l ∧ f_ve l ≤ l.1 := by
  obtain ⟨a, b, c⟩ := h
  have l1 := s_b_le l.2 (f_c l + 1) l.1 (by omega)
  have l2 := s_e_le l.2 (f_c l + 1) l.1 (by omega)
  exact ⟨l1.1, l2.1, l2.2⟩
theorem c_checkHost {σ : St} {nf tn : Nat} {F : Nat → Ln} {tf : Nat → Nat} (h : Cf σ nf F tn tf) {ld : Nat} (hd : σ.1 30 4 = iN ld) (hl : ld < 256) : x_Request_checkHost σ = some (iN (if h_host F nf (decide (ld = 48)) = false then 400 else 0)) := by
  have e1 := c_countOf h (w := 5) (by decide)
  have e2 := c_indexOf h (w := 5) (by decide)
  have e3 := c_isOld hd hl
  have hn := h.2.1
  have hle := f_cnt_le F (wd_ 5) nf 0
  have hix := f_ix_cnt F (wd_ 5) nf 0
  have hixl := (f_ix_le F (wd_ 5) nf 0).2
  unfold x_Request_checkHost x_Request_checkHost_30 x_Request_checkHost_76 x_Request_checkHost_81 h_host
  by_cases c0 : f_cnt F (wd_ 5) 0 nf = 0
  · have i0 := hix.mp c0
    rw [Nat.zero_add] at i0
    rw [if_neg (by omega)] at e2
    rw [e1, e2, e3, c0]
    cases decide (ld = 48)
    · simp (disch := omega) only [iN_lt, iN_le, iN_eq, iN_add, iN_sub, iN_mul, iN_in, iN_clamp, iN_1a, iN_1e, iN_1l, iN_l1, iN_0e, iN_0l, iN_l0, iN_pred, iN_sub1, iN_1le, il_2, il_3, il_4, il_5, il_6, il_7, il_8, il_9, il_10, il_12, il_13, il_16, il_20, il_32, il_34, il_37, il_42, il_44, il_45, il_46, il_47, il_48, il_49, il_57, il_58, il_59, il_63, il_80, il_97, il_200, il_205, il_400, il_404, il_405, il_413, il_414, il_416, il_417, il_431, il_501, il_505, il_2000, if_pos, if_neg, Option.bind_some, x_let, x_bind2_some, x_opt, decide_true, decide_false, bi_t, bi_f, i10, i1n, eq_self, if_true, if_false, bi_bt, x_b0, x_b1, Bool.true_and, Bool.false_and, Bool.and_true, Bool.and_false, Bool.and_self]
      rfl
    · simp (disch := omega) only [iN_lt, iN_le, iN_eq, iN_add, iN_sub, iN_mul, iN_in, iN_clamp, iN_1a, iN_1e, iN_1l, iN_l1, iN_0e, iN_0l, iN_l0, iN_pred, iN_sub1, iN_1le, il_2, il_3, il_4, il_5, il_6, il_7, il_8, il_9, il_10, il_12, il_13, il_16, il_20, il_32, il_34, il_37, il_42, il_44, il_45, il_46, il_47, il_48, il_49, il_57, il_58, il_59, il_63, il_80, il_97, il_200, il_205, il_400, il_404, il_405, il_413, il_414, il_416, il_417, il_431, il_501, il_505, il_2000, if_pos, if_neg, Option.bind_some, x_let, x_bind2_some, x_opt, decide_true, decide_false, bi_t, bi_f, i10, i1n, eq_self, if_true, if_false, bi_bt, x_b0, x_b1, Bool.true_and, Bool.false_and, Bool.and_true, Bool.and_false, Bool.and_self]
      rfl
  · have hx : f_ix F (wd_ 5) 0 nf < nf := by
      have := mt hix.mpr c0
      omega
    rw [if_pos hx] at e2
    obtain ⟨ok, o, b1, b2, b3, b4, b5, b6⟩ := h.2.2.2.2 _ hx
    obtain ⟨v1, v2, v3⟩ := f_v_le ok
    generalize f_ix F (wd_ 5) 0 nf = ix at *
    have hh := c_isHost h.2.2.1 (i := o + f_vb (F ix)) (d := f_ve (F ix) - f_vb (F ix)) (by omega)
    rw [show o + f_vb (F ix) + (f_ve (F ix) - f_vb (F ix)) = o + f_ve (F ix) by omega, s_all_congr (f := tf) (g := (F ix).2) k_hst (f_ve (F ix) - f_vb (F ix)) (o + f_vb (F ix)) (f_vb (F ix)) (fun j hj => by rw [Nat.add_assoc]; exact b2 _ (by omega))] at hh
    rw [e1, e2]
    by_cases c1 : f_cnt F (wd_ 5) 0 nf = 1
    · rw [c1]
      cases hs : s_all k_hst (F ix).2 (f_vb (F ix)) (f_ve (F ix) - f_vb (F ix)) <;> rw [hs] at hh <;> simp (disch := omega) only [iN_lt, iN_le, iN_eq, iN_add, iN_sub, iN_mul, iN_in, iN_clamp, iN_1a, iN_1e, iN_1l, iN_l1, iN_0e, iN_0l, iN_l0, iN_pred, iN_sub1, iN_1le, il_2, il_3, il_4, il_5, il_6, il_7, il_8, il_9, il_10, il_12, il_13, il_16, il_20, il_32, il_34, il_37, il_42, il_44, il_45, il_46, il_47, il_48, il_49, il_57, il_58, il_59, il_63, il_80, il_97, il_200, il_205, il_400, il_404, il_405, il_413, il_414, il_416, il_417, il_431, il_501, il_505, il_2000, if_pos, if_neg, Option.bind_some, x_let, x_bind2_some, x_opt, iN_m1, b5, b6, hh, decide_true, decide_false, bi_t, bi_f, i10, i1n, eq_self, if_true, if_false, bi_bt, x_b0, x_b1, Bool.true_and, Bool.false_and, Bool.and_true, Bool.and_false, Bool.and_self, Bool.true_or, Bool.false_or, Nat.reduceEqDiff, Nat.reduceLeDiff, decide_true, decide_false] <;> rfl
    · rw [decide_eq_false (show ¬ f_cnt F (wd_ 5) 0 nf ≤ 1 by omega)]
      simp (disch := omega) only [iN_lt, iN_le, iN_eq, iN_add, iN_sub, iN_mul, iN_in, iN_clamp, iN_1a, iN_1e, iN_1l, iN_l1, iN_0e, iN_0l, iN_l0, iN_pred, iN_sub1, iN_1le, il_2, il_3, il_4, il_5, il_6, il_7, il_8, il_9, il_10, il_12, il_13, il_16, il_20, il_32, il_34, il_37, il_42, il_44, il_45, il_46, il_47, il_48, il_49, il_57, il_58, il_59, il_63, il_80, il_97, il_200, il_205, il_400, il_404, il_405, il_413, il_414, il_416, il_417, il_431, il_501, il_505, il_2000, if_pos, if_neg, Option.bind_some, x_let, x_bind2_some, x_opt, decide_true, decide_false, bi_t, bi_f, i10, i1n, eq_self, if_true, if_false, bi_bt, x_b0, x_b1, Bool.true_and, Bool.false_and, Bool.and_true, Bool.and_false, Bool.and_self]
theorem c_checkTE {σ : St} {nf tn : Nat} {F : Nat → Ln} {tf : Nat → Nat} (h : Cf σ nf F tn tf) {ld : Nat} (hd : σ.1 30 4 = iN ld) (hl : ld < 256) (h5 : σ.1 30 5 = 0) : ∃ σ', x_Request_checkTransferEncoding σ = some (iN (h_te F nf (decide (ld = 48))), σ') ∧ (h_te F nf (decide (ld = 48)) = 0 → σ'.1 30 5 = bi (h_chk F nf)) := by
  have e1 := c_countOf h (w := 7) (by decide)
  have e2 := c_countOf h (w := 8) (by decide)
  have e3 := c_isOld hd hl
  have hn := h.2.1
  have hle := f_cnt_le F (wd_ 7) nf 0
  have hle8 := f_cnt_le F (wd_ 8) nf 0
  unfold x_Request_checkTransferEncoding h_te h_chk
  rw [e1, Option.bind_some]
  by_cases c0 : f_cnt F (wd_ 7) 0 nf = 0
  · rw [c0, if_pos (show iN 0 = 0 from rfl)]
    exact ⟨σ, rfl, fun _ => h5⟩
  · rw [if_neg (mt (iN_eq0 (by omega)).mp c0), e3, Option.bind_some, if_neg c0]
    by_cases ho : ld = 48
    · rw [decide_eq_true ho, if_pos (Or.inl rfl), bi_t, if_neg (by decide)]
      exact ⟨σ, rfl, fun z => by simp at z⟩
    · rw [decide_eq_false ho, bi_f, if_pos rfl, e2, Option.bind_some]
      by_cases c8 : 0 < f_cnt F (wd_ 8) 0 nf
      · rw [if_neg (mt (iN_le0 (by omega)).mp (by omega)), if_pos (Or.inr c8)]
        exact ⟨σ, rfl, fun z => by simp at z⟩
      · rw [if_pos ((iN_le0 (by omega)).mpr (by omega)), if_neg (show ¬ (false = true ∨ 0 < f_cnt F (wd_ 8) 0 nf) from fun z => by rcases z with z | z; (· cases z); exact c8 z)]
        obtain ⟨s1, g1, g2⟩ := c_gather h (w := 7) (by decide)
        have fp := fp_Fields_gather _ _ g1
        have hG1 := h.2.2.1.of (fp.1 32 1 (by simp)) (fp.2.1 33 (by simp))
        have hlen := g2.2.1
        rw [g1, x_bind2_some]
        generalize f_els F (wd_ 7) 0 nf = E at *
        by_cases z0 : E.length = 0
        · rw [z0, show iN 0 - (1 : Int32) = -1 by decide, c_elementIsM, Option.bind_some, if_pos rfl, if_pos (Or.inl rfl)]
          exact ⟨s1, rfl, fun z => by simp at z⟩
        · have ei := c_elementIs hG1 g2 (w := 9) (k := E.length - 1) (by decide) (by omega)
          rw [iN_sub1 (by omega), ei, Option.bind_some]
          cases hu : u_is (E.getD (E.length - 1) []) (wd_ 9)
          · rw [bi_f, if_pos rfl, if_pos (Or.inr rfl)]
            exact ⟨s1, rfl, fun z => by simp at z⟩
          · rw [bi_t, if_neg (show ¬ (1 : Int32) = 0 by decide), if_neg (show ¬ (E.length = 0 ∨ true = false) from fun z => by rcases z with z | z; (· exact z0 z); exact absurd z (by decide))]
            by_cases z1 : 1 < E.length
            · rw [if_neg (mt (iN_1le (by omega)).mp (by omega)), if_pos z1]
              exact ⟨s1, rfl, fun z => by simp at z⟩
            · rw [if_pos ((iN_1le (by omega)).mpr (by omega)), if_neg z1]
              refine ⟨_, rfl, fun _ => ?_⟩
              rw [decide_eq_true (show 0 < f_cnt F (wd_ 7) 0 nf by omega)]
              simp [x_updR]
              rfl
theorem u_num_lt {u : List Nat} (hb : ∀ j, j < u.length → u.getD j 0 < 256) : ∀ v, u_num u = some v → v < 1000000000 := fun v hv => s_number_lt (fun j _ h2 => hb j (by omega)) hv
theorem Ce.by {σ : St} {tn : Nat} {tf : Nat → Nat} {E : List (List Nat)} (hG : Gt σ 32 tn tf) (h : Ce σ tn tf E) (k : Nat) : ∀ j, j < (E.getD k []).length → (E.getD k []).getD j 0 < 256 := by
  intro j hj
  by_cases hk : k < E.length
  · obtain ⟨b, p1, p2, p3, p4, p5⟩ := h.2.2 k hk
    have := hG.by (show b + j < tn by omega)
    rw [p4 j hj] at this
    exact this
  · rw [List.getD_eq_getElem?_getD, List.getElem?_eq_none (by omega)] at hj
    exact absurd hj (Nat.not_lt_zero _)
theorem c_cl0 {σ : St} {tn : Nat} {tf : Nat → Nat} {E : List (List Nat)} (hG : Gt σ 32 tn tf) (h : Ce σ tn tf E) : ∀ d k fuel, k + d = E.length → d < fuel → ∃ σ', x_Request_checkContentLength_35 fuel (iN E.length) (oi (u_num (E.getD 0 []))) (iN k) σ = some (iN (if (E.drop k).all (fun v => decide (u_num v = u_num (E.getD 0 []))) then h_num (u_num (E.getD 0 [])) else 400), σ') ∧ ((if (E.drop k).all (fun v => decide (u_num v = u_num (E.getD 0 []))) then h_num (u_num (E.getD 0 [])) else 400) = 0 → σ'.1 30 6 = iN ((u_num (E.getD 0 [])).getD 0)) := by
  have h3 := h.2.1
  have hv := u_num_lt (Ce.by hG h 0)
  intro d
  induction d with
  | zero =>
    intro k fuel hk hf
    obtain ⟨z, rfl⟩ := x_fuelS (show 0 < fuel by omega)
    rw [List.drop_eq_nil_of_le (by omega), List.all_nil, if_pos rfl, x_Request_checkContentLength_35, if_pos ((iN_le (by omega) (by omega)).mpr (by omega))]
    cases hu : u_num (E.getD 0 []) with
    | none =>
      rw [if_pos (show oi none = -1 from rfl)]
      exact ⟨σ, rfl, fun z => by simp [h_num] at z⟩
    | some v =>
      have := hv v hu
      rw [if_neg (show ¬ oi (some v) = -1 from iN_m1 (by omega))]
      show ∃ σ' : St, (if iN v ≤ 200 then _ else _) = some (iN (if 200 < v then 413 else 0), σ') ∧ ((if 200 < v then 413 else 0) = 0 → σ'.1 30 6 = iN v)
      by_cases q : 200 < v
      · rw [if_neg (show ¬ iN v ≤ 200 from mt (iN_le (b := 200) (by omega) (by omega)).mp (by omega)), if_pos q]
        exact ⟨σ, rfl, fun z => by simp at z⟩
      · rw [if_pos (show iN v ≤ 200 from (iN_le (b := 200) (by omega) (by omega)).mpr (by omega)), if_neg q]
        exact ⟨_, rfl, fun _ => by simp [x_updR]; rfl⟩
  | succ d ih =>
    intro k fuel hk hf
    obtain ⟨z, rfl⟩ := x_fuelS (show 0 < fuel by omega)
    have e := c_elementNumber hG h (show k < E.length by omega)
    have hvk := u_num_lt (Ce.by hG h k)
    rw [drop_all _ E k [] (by omega), x_Request_checkContentLength_35, if_neg (mt (iN_le (by omega) (by omega)).mp (by omega)), e, Option.bind_some]
    have heq : oi (u_num (E.getD k [])) = oi (u_num (E.getD 0 [])) ↔ u_num (E.getD k []) = u_num (E.getD 0 []) := by
      cases hu : u_num (E.getD 0 []) with
      | none => exact oi_m1 (fun v q => by have := hvk v q; omega)
      | some v => exact oi_iN (fun v q => by have := hvk v q; omega) (by have := hv v hu; omega)
    by_cases q : u_num (E.getD k []) = u_num (E.getD 0 [])
    · rw [if_pos (heq.mpr q), decide_eq_true q, Bool.true_and]
      obtain ⟨σ', a, b⟩ := ih (k + 1) z (by omega) (by omega)
      refine ⟨σ', ?_, b⟩
      simp only [x_let]
      rw [iN_1a]
      exact a
    · rw [if_neg (mt heq.mp q), decide_eq_false q, Bool.false_and]
      exact ⟨σ, rfl, fun z => by simp at z⟩
theorem c_checkCL {σ : St} {nf tn : Nat} {F : Nat → Ln} {tf : Nat → Nat} (h : Cf σ nf F tn tf) (h6 : σ.1 30 6 = 0) : ∃ σ', x_Request_checkContentLength σ = some (iN (h_cl F nf), σ') ∧ (h_cl F nf = 0 → σ'.1 30 6 = iN (h_len F nf)) := by
  have e1 := c_countOf h (w := 8) (by decide)
  have hn := h.2.1
  have hle := f_cnt_le F (wd_ 8) nf 0
  unfold x_Request_checkContentLength h_cl h_len
  rw [e1, Option.bind_some]
  by_cases c0 : f_cnt F (wd_ 8) 0 nf = 0
  · rw [c0, if_pos (show iN 0 = 0 from rfl)]
    exact ⟨σ, rfl, fun _ => h6⟩
  · rw [if_neg (mt (iN_eq0 (by omega)).mp c0), if_neg c0, if_neg c0]
    obtain ⟨s1, g1, g2⟩ := c_gather h (w := 8) (by decide)
    have fp := fp_Fields_gather _ _ g1
    have hG1 := h.2.2.1.of (fp.1 32 1 (by simp)) (fp.2.1 33 (by simp))
    have hlen := g2.2.1
    rw [g1, x_bind2_some]
    generalize f_els F (wd_ 8) 0 nf = E at *
    by_cases z0 : E.length = 0
    · have hE : E = [] := List.length_eq_zero_iff.mp z0
      have en := c_elementNumberX g2 (k := 0) (by omega) (by decide)
      rw [show iN 0 = (0 : Int32) from rfl] at en
      rw [en, Option.bind_some, z0, hE]
      rw [show x_fuel = 4095 + 1 from rfl, x_Request_checkContentLength_35]
      exact ⟨s1, rfl, fun z => by simp [h_num, u_num, s_number] at z⟩
    · have en := c_elementNumber hG1 g2 (k := 0) (by omega)
      rw [show iN 0 = (0 : Int32) from rfl] at en
      rw [en, Option.bind_some]
      exact c_cl0 hG1 g2 (E.length - 1) 1 x_fuel (by omega) (by unfold x_fuel; omega)
theorem c_ex0 {σ : St} {tn : Nat} {tf : Nat → Nat} {E : List (List Nat)} (hG : Gt σ 32 tn tf) (h : Ce σ tn tf E) {chk : Bool} {len : Nat} (h5 : σ.1 30 5 = bi chk) (h6 : σ.1 30 6 = iN len) (hlen : len < 1000) : ∀ d k fuel, k + d = E.length → d < fuel → ∃ σ', x_Request_checkExpect_21 fuel (iN E.length) (iN k) σ = some (iN (if (E.drop k).all (fun v => u_is v (wd_ 11)) then 0 else 417), σ') ∧ ((if (E.drop k).all (fun v => u_is v (wd_ 11)) then 0 else 417) = 0 → σ'.1 30 7 = bi (decide (0 < E.length) && (chk || decide (0 < len)))) := by
  have h3 := h.2.1
  intro d
  induction d with
  | zero =>
    intro k fuel hk hf
    obtain ⟨z, rfl⟩ := x_fuelS (show 0 < fuel by omega)
    rw [List.drop_eq_nil_of_le (by omega), List.all_nil, if_pos rfl, x_Request_checkExpect_21, if_pos ((iN_le (by omega) (by omega)).mpr (by omega))]
    unfold x_Request_checkExpect_68
    simp only [x_let]
    by_cases q0 : E.length = 0
    · rw [if_pos ((iN_le0 (by omega)).mpr q0), decide_eq_false (show ¬ 0 < E.length by omega)]
      exact ⟨_, rfl, fun _ => by simp [x_updR]; rfl⟩
    · rw [if_neg (mt (iN_le0 (by omega)).mp q0), decide_eq_true (show 0 < E.length by omega), h5, h6]
      cases chk
      · by_cases q1 : len = 0
        · rw [if_pos (show bi false = 0 from rfl), if_pos ((iN_le0 (by omega)).mpr q1), decide_eq_false (show ¬ 0 < len by omega)]
          exact ⟨_, rfl, fun _ => by simp [x_updR]; rfl⟩
        · rw [if_pos (show bi false = 0 from rfl), if_neg (mt (iN_le0 (by omega)).mp q1), decide_eq_true (show 0 < len by omega)]
          exact ⟨_, rfl, fun _ => by simp [x_updR]; rfl⟩
      · rw [if_neg (by decide)]
        exact ⟨_, rfl, fun _ => by simp [x_updR]; rfl⟩
  | succ d ih =>
    intro k fuel hk hf
    obtain ⟨z, rfl⟩ := x_fuelS (show 0 < fuel by omega)
    have e := c_elementIs hG h (w := 11) (by decide) (show k < E.length by omega)
    rw [drop_all _ E k [] (by omega), x_Request_checkExpect_21, if_neg (mt (iN_le (by omega) (by omega)).mp (by omega)), e, Option.bind_some]
    cases q : u_is (E.getD k []) (wd_ 11)
    · rw [Bool.false_and]
      exact ⟨σ, rfl, fun z => by simp at z⟩
    · rw [Bool.true_and, bi_t, if_neg (by decide)]
      obtain ⟨σ', a, b⟩ := ih (k + 1) z (by omega) (by omega)
      refine ⟨σ', ?_, b⟩
      simp only [x_let]
      rw [iN_1a]
      exact a
theorem c_checkEx {σ : St} {nf tn : Nat} {F : Nat → Ln} {tf : Nat → Nat} (h : Cf σ nf F tn tf) {ld : Nat} (hd : σ.1 30 4 = iN ld) (hl : ld < 256) (h5 : σ.1 30 5 = bi (h_chk F nf)) (h6 : σ.1 30 6 = iN (h_len F nf)) (hlen : h_len F nf < 1000) (h7 : σ.1 30 7 = 0) : ∃ σ', x_Request_checkExpect σ = some (iN (h_ex F nf (decide (ld = 48))), σ') ∧ (h_ex F nf (decide (ld = 48)) = 0 → σ'.1 30 7 = bi (h_goes F nf (decide (ld = 48)))) := by
  unfold x_Request_checkExpect h_ex h_goes
  rw [c_isOld hd hl, Option.bind_some]
  by_cases ho : ld = 48
  · rw [decide_eq_true ho, bi_t, if_neg (by decide), if_pos rfl]
    exact ⟨σ, rfl, fun _ => h7⟩
  · rw [decide_eq_false ho, bi_f, if_pos rfl, if_neg (by simp)]
    obtain ⟨s1, g1, g2⟩ := c_gather h (w := 10) (by decide)
    have fp := fp_Fields_gather _ _ g1
    have hG1 := h.2.2.1.of (fp.1 32 1 (by simp)) (fp.2.1 33 (by simp))
    have hE := g2.2.1
    rw [g1, x_bind2_some]
    have := c_ex0 hG1 g2 (chk := h_chk F nf) (len := h_len F nf) (by rw [fp.1 _ _ (by simp)]; exact h5) (by rw [fp.1 _ _ (by simp)]; exact h6) hlen (f_els F (wd_ 10) 0 nf).length 0 x_fuel (by omega) (by unfold x_fuel; omega)
    rw [List.drop_zero] at this
    exact this
theorem c_readConn {σ : St} {nf tn : Nat} {F : Nat → Ln} {tf : Nat → Nat} (h : Cf σ nf F tn tf) {ld : Nat} (hd : σ.1 30 4 = iN ld) (hl : ld < 256) : ∃ σ', x_Request_readConnection σ = some σ' ∧ σ'.1 30 8 = bi (h_last F nf (decide (ld = 48))) := by
  obtain ⟨s1, a1⟩ := c_hasElement h (w := 12) (v := 13) (by decide) (by decide)
  have fp := fp_Fields_hasElement _ _ _ a1
  have h1 : Cf s1 nf F tn tf := h.of (fp.1 _ _ (by simp)) (fp.1 _ _ (by simp)) (fp.2.1 _ (by simp)) (fp.2.1 _ (by simp)) (fp.2.1 _ (by simp)) (fp.2.1 _ (by simp)) (fp.2.1 _ (by simp))
  have hd1 : s1.1 30 4 = iN ld := by rw [fp.1 _ _ (by simp)]; exact hd
  obtain ⟨s2, a2⟩ := c_hasElement h1 (w := 12) (v := 14) (by decide) (by decide)
  unfold x_Request_readConnection h_last
  rw [a1, x_bind2_some]
  cases (f_els F (wd_ 12) 0 nf).any (fun x => u_is x (wd_ 13))
  · rw [bi_f, if_pos rfl, c_isOld hd1 hl, Option.bind_some]
    by_cases ho : ld = 48
    · rw [decide_eq_true ho, bi_t, if_neg (by decide), a2, x_bind2_some]
      cases (f_els F (wd_ 12) 0 nf).any (fun x => u_is x (wd_ 14))
      · rw [bi_f, if_pos rfl]
        exact ⟨_, rfl, by simp [x_updR]; rfl⟩
      · rw [bi_t, if_neg (by decide)]
        exact ⟨_, rfl, by simp [x_updR]; rfl⟩
    · rw [decide_eq_false ho, bi_f, if_pos rfl]
      exact ⟨_, rfl, by simp [x_updR]; rfl⟩
  · rw [bi_t, if_neg (by decide)]
    exact ⟨_, rfl, by simp [x_updR]; rfl⟩
