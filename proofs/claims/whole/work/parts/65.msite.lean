/-! the reference's site and answers -/
def Ms (σ : St) (S : Site) (chg : Nat) : Prop := σ.1 51 6 = iN chg ∧ ∀ r, r < 8 → (S r = none → σ.2.1 53 r = 0) ∧ ∀ mq B, S r = some (mq, B) → σ.2.1 53 r = 1 ∧ σ.2.1 54 r = iN mq ∧ σ.2.1 55 r = iN B.length ∧ ∀ i, i < B.length → σ.2.1 56 (200 * r + i) = iN (B.getD i 0)
theorem Ms.of {σ σ' : St} {S : Site} {chg : Nat} (h : Ms σ S chg) (e0 : σ'.1 51 6 = σ.1 51 6) (e1 : σ'.2.1 53 = σ.2.1 53) (e2 : σ'.2.1 54 = σ.2.1 54) (e3 : σ'.2.1 55 = σ.2.1 55) (e4 : σ'.2.1 56 = σ.2.1 56) : Ms σ' S chg :=
  ⟨by rw [e0]; exact h.1, fun r hr => by rw [e1, e2, e3, e4]; exact h.2 r hr⟩
theorem Ms.there {σ : St} {S : Site} {chg : Nat} (h : Ms σ S chg) {r : Nat} (hr : r < 8) : σ.2.1 53 r = bi (S r).isSome := by
  cases hS : S r with
  | none => exact (h.2 r hr).1 hS
  | some v => exact ((h.2 r hr).2 v.1 v.2 hS).1
/-- the code of a path -/
def rcode (M : List Nat) : Int32 := if M.getD 0 0 = 47 then (if M.length = 1 then -2 else oi (q_res M)) else -1
theorem m_res141 (σ : St) {M : List Nat} (hl : M.length ≤ 80) (hb : ∀ i, M.getD i 0 < 256) : x_Model_resource_141 σ (iN M.length) (iN (M.getD 0 0)) (iN (M.getD 1 0)) = some (rcode M) := by
  have b0 := hb 0
  have b1 := hb 1
  unfold x_Model_resource_141 rcode q_res x_Model_within
  by_cases q0 : M.getD 0 0 = 47
  · rw [if_pos (show iN (M.getD 0 0) = 47 by rw [q0]; rfl), if_pos q0]
    by_cases q1 : M.length = 1
    · rw [if_pos (show iN M.length = 1 by rw [q1]; rfl), if_pos q1]
    · rw [if_neg (mt (iN_1e (by omega)).mp q1), if_neg q1]
      by_cases q2 : M.length = 2
      · rw [if_pos (show iN M.length = 2 by rw [q2]; rfl)]
        by_cases q3 : 97 ≤ M.getD 1 0
        · rw [if_neg (show ¬ iN (M.getD 1 0) < 97 from mt (iN_lt (b := 97) (by omega) (by omega)).mp (by omega))]
          by_cases q4 : M.getD 1 0 ≤ 104
          · rw [if_neg (show ¬ (104 : Int32) < iN (M.getD 1 0) from mt (iN_lt (a := 104) (by omega) (by omega)).mp (by omega)), if_pos (show M.length = 2 ∧ 97 ≤ M.getD 1 0 ∧ M.getD 1 0 ≤ 104 from ⟨q2, q3, q4⟩), show iN (M.getD 1 0) - (97 : Int32) = iN (M.getD 1 0 - 97) from iN_sub (b := 97) q3]
            rfl
          · rw [if_pos (show (104 : Int32) < iN (M.getD 1 0) from (iN_lt (a := 104) (by omega) (by omega)).mpr (by omega)), if_neg (show ¬ (M.length = 2 ∧ 97 ≤ M.getD 1 0 ∧ M.getD 1 0 ≤ 104) from fun z => q4 z.2.2)]
            rfl
        · rw [if_pos (show iN (M.getD 1 0) < 97 from (iN_lt (b := 97) (by omega) (by omega)).mpr (by omega)), if_neg (show ¬ (M.length = 2 ∧ 97 ≤ M.getD 1 0 ∧ M.getD 1 0 ≤ 104) from fun z => q3 z.2.1)]
          rfl
      · rw [if_neg (show ¬ iN M.length = 2 from mt (iN_eq (b := 2) (by omega) (by omega)).mp q2), if_neg (show ¬ (M.length = 2 ∧ 97 ≤ M.getD 1 0 ∧ M.getD 1 0 ≤ 104) from fun z => q2 z.1)]
        rfl
  · rw [if_neg (show ¬ iN (M.getD 0 0) = 47 from mt (iN_eq (b := 47) (by omega) (by omega)).mp q0), if_neg q0]
theorem m_res0 {σ : St} {tn : Nat} {tg : Nat → Nat} (h13 : σ.1 51 13 = iN tn) (ht : tn ≤ 80) (hT : ∀ j, j < tn → σ.2.1 58 j = iN (tg j) ∧ tg j < 256) : ∀ z k fuel (L : List Nat), k ≤ tn → tn - k ≤ z → z < fuel → s_tgt tg k (tn - k) = true → L.length + (tn - k) ≤ 80 → (∀ i, L.getD i 0 < 256) → x_Model_resource_9 σ fuel (iN L.length) (iN (L.getD 0 0)) (iN (L.getD 1 0)) (iN k) = some (rcode (L ++ q_dec tg tn z k)) := by
  intro z
  induction z with
  | zero =>
    intro k fuel L hk hz hf hv hl hb
    obtain ⟨y, rfl⟩ := x_fuelS (show 0 < fuel by omega)
    rw [x_Model_resource_9, h13, if_pos ((iN_le (by omega) (by omega)).mpr (by omega)), q_dec, List.append_nil, m_res141 σ (by omega) hb]
  | succ z ih =>
    intro k fuel L hk hz hf hv hl hb
    obtain ⟨y, rfl⟩ := x_fuelS (show 0 < fuel by omega)
    rw [x_Model_resource_9, h13, q_dec]
    by_cases h1 : tn ≤ k
    · rw [if_pos ((iN_le (by omega) (by omega)).mpr h1), if_pos h1, List.append_nil, m_res141 σ (by omega) hb]
    · rw [if_neg (mt (iN_le (by omega) (by omega)).mp h1), if_neg h1]
      have hq := hT k (by omega)
      have hq2 := hq.2
      obtain ⟨d, hd⟩ : ∃ d, tn - k = d + 1 := ⟨tn - k - 1, by omega⟩
      rw [hd] at hv
      obtain ⟨v1, v2⟩ := s_tgt_step hv
      by_cases h2 : tg k = 63
      · rw [if_pos h2, List.append_nil]
        have := m_res141 σ (M := L) (by omega) hb
        simp (disch := omega) only [iN_lt, iN_le, iN_eq, iN_add, iN_sub, iN_mul, iN_in, iN_clamp, iN_1a, iN_1e, iN_1l, iN_l1, iN_0e, iN_0l, iN_l0, iN_pred, iN_sub1, iN_1le, il_2, il_3, il_4, il_5, il_6, il_7, il_8, il_9, il_10, il_12, il_13, il_16, il_20, il_32, il_34, il_37, il_42, il_44, il_45, il_46, il_47, il_48, il_49, il_57, il_58, il_59, il_63, il_80, il_97, il_200, il_205, il_400, il_404, il_405, il_413, il_414, il_416, il_417, il_431, il_501, il_505, il_2000, if_pos, if_neg, Option.bind_some, x_let, x_bind2_some, x_opt, hq.1, h2, this, decide_true, decide_false, bi_t, bi_f, i10, i1n, eq_self, if_true, if_false, bi_bt, x_b0, x_b1, Bool.true_and, Bool.false_and, Bool.and_true, Bool.and_false, Bool.and_self]
      · rw [if_neg h2]
        have step : ∀ b, b < 256 → (∀ i, (L ++ [b]).getD i 0 < 256) ∧ (∀ l5 : Int32, x_Model_resource_92 σ (x_Model_resource_9 σ y) (iN L.length) (iN (L.getD 0 0)) (iN (L.getD 1 0)) (iN k) l5 (iN b) = if l5 = 0 then x_Model_resource_9 σ y (iN (L ++ [b]).length) (iN ((L ++ [b]).getD 0 0)) (iN ((L ++ [b]).getD 1 0)) (iN (k + 1)) else x_Model_resource_9 σ y (iN (L ++ [b]).length) (iN ((L ++ [b]).getD 0 0)) (iN ((L ++ [b]).getD 1 0)) (iN (k + 3))) := by
          intro b hbb
          refine ⟨fun i => by rw [getD_app]; split; (· exact hbb); exact hb i, fun l5 => ?_⟩
          rw [getD_app, getD_app, List.length_append, List.length_singleton]
          unfold x_Model_resource_92 x_Model_resource_104 x_Model_resource_116 x_Model_resource_136
          simp only [x_let]
          rw [iN_1a, iN_1a, show iN k + (3 : Int32) = iN (k + 3) from iN_add k 3]
          by_cases n0 : L.length = 0
          · rw [if_pos (show iN L.length = 0 by rw [n0]; rfl), if_neg (show ¬ iN L.length = 1 by rw [n0]; decide), if_pos (show 0 = L.length from n0.symm), if_neg (show ¬ 1 = L.length by omega)]
          · rw [if_neg (mt (iN_eq0 (by omega)).mp n0), if_neg (show ¬ 0 = L.length by omega)]
            by_cases n1 : L.length = 1
            · rw [if_pos (show iN L.length = 1 by rw [n1]; rfl), if_pos (show 1 = L.length from n1.symm)]
            · rw [if_neg (mt (iN_1e (by omega)).mp n1), if_neg (show ¬ 1 = L.length by omega)]
        by_cases h3 : tg k = 37
        · obtain ⟨w1, w2, w3⟩ := v2 h3
          obtain ⟨d2, hd2⟩ : ∃ d2, d = d2 + 2 := ⟨d - 2, by omega⟩
          subst hd2
          have v4 := (s_tgt_step (s_tgt_step v1).1).1
          have q1 := hT (k + 1) (by omega)
          have q2 := hT (k + 2) (by omega)
          obtain ⟨st1, st2⟩ := step (16 * k_hex (tg (k + 1)) + k_hex (tg (k + 2))) (by omega)
          have e := ih (k + 3) y (L ++ [16 * k_hex (tg (k + 1)) + k_hex (tg (k + 2))]) (by omega) (by omega) (by omega) (by rw [show tn - (k + 3) = d2 by omega]; exact v4) (by rw [List.length_append, List.length_singleton]; omega) st1
          rw [if_pos h3, List.append_cons, ← e]
          have st3 := st2 1
          rw [if_neg (show ¬ (1 : Int32) = 0 by decide)] at st3
          rw [← st3]
          unfold x_Model_resource_47
          simp (disch := omega) only [iN_lt, iN_le, iN_eq, iN_add, iN_sub, iN_mul, iN_in, iN_clamp, iN_1a, iN_1e, iN_1l, iN_l1, iN_0e, iN_0l, iN_l0, iN_pred, iN_sub1, iN_1le, il_2, il_3, il_4, il_5, il_6, il_7, il_8, il_9, il_10, il_12, il_13, il_16, il_20, il_32, il_34, il_37, il_42, il_44, il_45, il_46, il_47, il_48, il_49, il_57, il_58, il_59, il_63, il_80, il_97, il_200, il_205, il_400, il_404, il_405, il_413, il_414, il_416, il_417, il_431, il_501, il_505, il_2000, if_pos, if_neg, Option.bind_some, x_let, x_bind2_some, x_opt, hq.1, h3, q1.1, q2.1, m_hex _ q1.2, m_hex _ q2.2, hx_iN w2, hx_iN w3, decide_true, decide_false, bi_t, bi_f, i10, i1n, eq_self, if_true, if_false, bi_bt, x_b0, x_b1, Bool.true_and, Bool.false_and, Bool.and_true, Bool.and_false, Bool.and_self]
        · obtain ⟨st1, st2⟩ := step (tg k) hq.2
          have e := ih (k + 1) y (L ++ [tg k]) (by omega) (by omega) (by omega) (by rw [show tn - (k + 1) = d by omega]; exact v1) (by rw [List.length_append, List.length_singleton]; omega) st1
          rw [if_neg h3, List.append_cons, ← e]
          have st3 := st2 0
          rw [if_pos rfl] at st3
          rw [← st3]
          unfold x_Model_resource_47
          simp (disch := omega) only [iN_lt, iN_le, iN_eq, iN_add, iN_sub, iN_mul, iN_in, iN_clamp, iN_1a, iN_1e, iN_1l, iN_l1, iN_0e, iN_0l, iN_l0, iN_pred, iN_sub1, iN_1le, il_2, il_3, il_4, il_5, il_6, il_7, il_8, il_9, il_10, il_12, il_13, il_16, il_20, il_32, il_34, il_37, il_42, il_44, il_45, il_46, il_47, il_48, il_49, il_57, il_58, il_59, il_63, il_80, il_97, il_200, il_205, il_400, il_404, il_405, il_413, il_414, il_416, il_417, il_431, il_501, il_505, il_2000, if_pos, if_neg, Option.bind_some, x_let, x_bind2_some, x_opt, hq.1, decide_true, decide_false, bi_t, bi_f, i10, i1n, eq_self, if_true, if_false, bi_bt, x_b0, x_b1, Bool.true_and, Bool.false_and, Bool.and_true, Bool.and_false, Bool.and_self]
theorem m_resource {σ : St} {tn : Nat} {tg : Nat → Nat} (h13 : σ.1 51 13 = iN tn) (ht : tn ≤ 80) (hT : ∀ j, j < tn → σ.2.1 58 j = iN (tg j) ∧ tg j < 256) (hv : s_tgt tg 0 tn = true) : x_Model_resource σ = some (rcode (q_dec tg tn tn 0)) :=
  m_res0 h13 ht hT tn 0 x_fuel [] (by omega) (by omega) (by unfold x_fuel; omega) hv (by simp; omega) (fun i => by simp)
theorem m_known0 {E : List (List Nat)} (hl : E.length < 512) {σ : St} (h : Me σ E) {r mq : Nat} (hr : r < 8) (hmk : σ.2.1 54 r = iN mq) (hm : mq < 1000000000) : ∀ d k p fuel, k + d = E.length → d < fuel → x_Model_isKnown_10 (iN r) fuel (bi p) (iN k) σ = some (bi (p || (E.drop k).any (fun u => u_is u (wd_ 16) || u_tag u mq)), σ) := by
  intro d
  induction d with
  | zero =>
    intro k p fuel hk hf
    obtain ⟨z, rfl⟩ := x_fuelS (show 0 < fuel by omega)
    rw [List.drop_eq_nil_of_le (by omega), List.any_nil, Bool.or_false, x_Model_isKnown_10]
    simp (disch := omega) only [iN_lt, iN_le, iN_eq, iN_add, iN_sub, iN_mul, iN_in, iN_clamp, iN_1a, iN_1e, iN_1l, iN_l1, iN_0e, iN_0l, iN_l0, iN_pred, iN_sub1, iN_1le, il_2, il_3, il_4, il_5, il_6, il_7, il_8, il_9, il_10, il_12, il_13, il_16, il_20, il_32, il_34, il_37, il_42, il_44, il_45, il_46, il_47, il_48, il_49, il_57, il_58, il_59, il_63, il_80, il_97, il_200, il_205, il_400, il_404, il_405, il_413, il_414, il_416, il_417, il_431, il_501, il_505, il_2000, if_pos, if_neg, Option.bind_some, x_let, x_bind2_some, x_opt, h.1, decide_true, decide_false, bi_t, bi_f, i10, i1n, eq_self, if_true, if_false, bi_bt, x_b0, x_b1, Bool.true_and, Bool.false_and, Bool.and_true, Bool.and_false, Bool.and_self]
  | succ d ih =>
    intro k p fuel hk hf
    obtain ⟨z, rfl⟩ := x_fuelS (show 0 < fuel by omega)
    obtain ⟨b, p1, p2, p3, p4, p5⟩ := h.2 k (by omega)
    have e0 := ih (k + 1) false z (by omega) (by omega)
    have e1 := ih (k + 1) true z (by omega) (by omega)
    rw [drop_any _ E k [] (by omega), x_Model_isKnown_10]
    generalize E.getD k [] = u at p1 p2 p3 p4 p5 ⊢
    rw [u_star]
    have fin : ∀ s t : Bool, x_Model_isKnown_137 (iN r) (x_Model_isKnown_10 (iN r) z) (bi p) (iN k) (bi s) (bi t) σ = some (bi (p || ((s || t) || (E.drop (k + 1)).any (fun u => u_is u (wd_ 16) || u_tag u mq))), σ) := by
      intro s t
      unfold x_Model_isKnown_137 x_Model_isKnown_153 x_Model_isKnown_158
      simp only [x_let]
      rw [iN_1a]
      cases p
      · cases s
        · cases t
          · exact e0
          · exact e1
        · exact e1
      · exact e1
    have y0 := p4 0 p5
    rw [Nat.add_zero] at y0
    have y02 : u.getD 0 0 < 256 := y0.2
    -- the tag
    have tg : ∀ s : Bool, x_Model_isKnown_60 (iN r) (x_Model_isKnown_10 (iN r) z) (bi p) (iN k) (iN b) (iN (b + u.length)) (bi s) σ = x_Model_isKnown_137 (iN r) (x_Model_isKnown_10 (iN r) z) (bi p) (iN k) (bi s) (bi (u_tag u mq)) σ := by
      intro s
      unfold x_Model_isKnown_60 x_Model_isKnown_136 u_tag
      by_cases q2 : 2 < u.length
      · have ye := p4 (u.length - 1) (by omega)
        have y1 := p4 1 (by omega)
        have ye2 : u.getD (u.length - 1) 0 < 256 := ye.2
        have y12 : u.getD 1 0 < 256 := y1.2
        have en := m_numberAt (p4.part (i := 1) (d := u.length - 2) (by omega)) (by omega)
        rw [show b + 1 + (u.length - 2) = b + u.length - 1 by omega] at en
        rw [show s_number (fun j => (fun j => u.getD j 0) (1 + j)) 0 (u.length - 2) = s_number (fun j => u.getD j 0) 1 (u.length - 2) from s_number_congr (fun j _ => by rw [Nat.zero_add])] at en
        have o1 := oi_iN (o := s_number (fun j => u.getD j 0) 1 (u.length - 2)) (m := mq) (fun v hv => by have := s_number_lt2 hv; omega) (by omega)
        rw [show b + (u.length - 1) = b + u.length - 1 by omega] at ye
        have ye1 : σ.2.1 59 (b + u.length - 1) = iN (u.getD (u.length - 1) 0) := ye.1
        have y11 : σ.2.1 59 (b + 1) = iN (u.getD 1 0) := y1.1
        have y01 : σ.2.1 59 b = iN (u.getD 0 0) := y0.1
        by_cases c0 : u.getD 0 0 = 34
        · by_cases c1 : u.getD (u.length - 1) 0 = 34
          · by_cases c2 : u.getD 1 0 = 48
            · simp (disch := omega) only [iN_lt, iN_le, iN_eq, iN_add, iN_sub, iN_mul, iN_in, iN_clamp, iN_1a, iN_1e, iN_1l, iN_l1, iN_0e, iN_0l, iN_l0, iN_pred, iN_sub1, iN_1le, il_2, il_3, il_4, il_5, il_6, il_7, il_8, il_9, il_10, il_12, il_13, il_16, il_20, il_32, il_34, il_37, il_42, il_44, il_45, il_46, il_47, il_48, il_49, il_57, il_58, il_59, il_63, il_80, il_97, il_200, il_205, il_400, il_404, il_405, il_413, il_414, il_416, il_417, il_431, il_501, il_505, il_2000, if_pos, if_neg, Option.bind_some, x_let, x_bind2_some, x_opt, y01, ye1, y11, c0, c1, c2, q2, show b + u.length - b = u.length by omega, decide_true, decide_false, bi_t, bi_f, i10, i1n, eq_self, if_true, if_false, bi_bt, x_b0, x_b1, Bool.true_and, Bool.false_and, Bool.and_true, Bool.and_false, Bool.and_self, nbeq, Bool.not_true]
            · by_cases c3 : s_number (fun j => u.getD j 0) 1 (u.length - 2) = some mq
              · simp (disch := omega) only [iN_lt, iN_le, iN_eq, iN_add, iN_sub, iN_mul, iN_in, iN_clamp, iN_1a, iN_1e, iN_1l, iN_l1, iN_0e, iN_0l, iN_l0, iN_pred, iN_sub1, iN_1le, il_2, il_3, il_4, il_5, il_6, il_7, il_8, il_9, il_10, il_12, il_13, il_16, il_20, il_32, il_34, il_37, il_42, il_44, il_45, il_46, il_47, il_48, il_49, il_57, il_58, il_59, il_63, il_80, il_97, il_200, il_205, il_400, il_404, il_405, il_413, il_414, il_416, il_417, il_431, il_501, il_505, il_2000, if_pos, if_neg, Option.bind_some, x_let, x_bind2_some, x_opt, y01, ye1, y11, c0, c1, c2, c3, o1.mpr c3, q2, show b + u.length - b = u.length by omega, en, hmk, decide_true, decide_false, bi_t, bi_f, i10, i1n, eq_self, if_true, if_false, bi_bt, x_b0, x_b1, Bool.true_and, Bool.false_and, Bool.and_true, Bool.and_false, Bool.and_self, nbeq, Bool.not_false, show oi (some mq) = iN mq from rfl]
              · simp (disch := omega) only [iN_lt, iN_le, iN_eq, iN_add, iN_sub, iN_mul, iN_in, iN_clamp, iN_1a, iN_1e, iN_1l, iN_l1, iN_0e, iN_0l, iN_l0, iN_pred, iN_sub1, iN_1le, il_2, il_3, il_4, il_5, il_6, il_7, il_8, il_9, il_10, il_12, il_13, il_16, il_20, il_32, il_34, il_37, il_42, il_44, il_45, il_46, il_47, il_48, il_49, il_57, il_58, il_59, il_63, il_80, il_97, il_200, il_205, il_400, il_404, il_405, il_413, il_414, il_416, il_417, il_431, il_501, il_505, il_2000, if_pos, if_neg, Option.bind_some, x_let, x_bind2_some, x_opt, y01, ye1, y11, c0, c1, c2, c3, mt o1.mp c3, q2, show b + u.length - b = u.length by omega, en, hmk, decide_true, decide_false, bi_t, bi_f, i10, i1n, eq_self, if_true, if_false, bi_bt, x_b0, x_b1, Bool.true_and, Bool.false_and, Bool.and_true, Bool.and_false, Bool.and_self, nbeq, Bool.not_false]
          · simp (disch := omega) only [iN_lt, iN_le, iN_eq, iN_add, iN_sub, iN_mul, iN_in, iN_clamp, iN_1a, iN_1e, iN_1l, iN_l1, iN_0e, iN_0l, iN_l0, iN_pred, iN_sub1, iN_1le, il_2, il_3, il_4, il_5, il_6, il_7, il_8, il_9, il_10, il_12, il_13, il_16, il_20, il_32, il_34, il_37, il_42, il_44, il_45, il_46, il_47, il_48, il_49, il_57, il_58, il_59, il_63, il_80, il_97, il_200, il_205, il_400, il_404, il_405, il_413, il_414, il_416, il_417, il_431, il_501, il_505, il_2000, if_pos, if_neg, Option.bind_some, x_let, x_bind2_some, x_opt, y01, ye1, c0, c1, q2, show b + u.length - b = u.length by omega, decide_true, decide_false, bi_t, bi_f, i10, i1n, eq_self, if_true, if_false, bi_bt, x_b0, x_b1, Bool.true_and, Bool.false_and, Bool.and_true, Bool.and_false, Bool.and_self, nbeq]
        · simp (disch := omega) only [iN_lt, iN_le, iN_eq, iN_add, iN_sub, iN_mul, iN_in, iN_clamp, iN_1a, iN_1e, iN_1l, iN_l1, iN_0e, iN_0l, iN_l0, iN_pred, iN_sub1, iN_1le, il_2, il_3, il_4, il_5, il_6, il_7, il_8, il_9, il_10, il_12, il_13, il_16, il_20, il_32, il_34, il_37, il_42, il_44, il_45, il_46, il_47, il_48, il_49, il_57, il_58, il_59, il_63, il_80, il_97, il_200, il_205, il_400, il_404, il_405, il_413, il_414, il_416, il_417, il_431, il_501, il_505, il_2000, if_pos, if_neg, Option.bind_some, x_let, x_bind2_some, x_opt, y01, c0, q2, show b + u.length - b = u.length by omega, decide_true, decide_false, bi_t, bi_f, i10, i1n, eq_self, if_true, if_false, bi_bt, x_b0, x_b1, Bool.true_and, Bool.false_and, Bool.and_true, Bool.and_false, Bool.and_self, nbeq]
      · simp (disch := omega) only [iN_lt, iN_le, iN_eq, iN_add, iN_sub, iN_mul, iN_in, iN_clamp, iN_1a, iN_1e, iN_1l, iN_l1, iN_0e, iN_0l, iN_l0, iN_pred, iN_sub1, iN_1le, il_2, il_3, il_4, il_5, il_6, il_7, il_8, il_9, il_10, il_12, il_13, il_16, il_20, il_32, il_34, il_37, il_42, il_44, il_45, il_46, il_47, il_48, il_49, il_57, il_58, il_59, il_63, il_80, il_97, il_200, il_205, il_400, il_404, il_405, il_413, il_414, il_416, il_417, il_431, il_501, il_505, il_2000, if_pos, if_neg, Option.bind_some, x_let, x_bind2_some, x_opt, q2, show b + u.length - b = u.length by omega, decide_true, decide_false, bi_t, bi_f, i10, i1n, eq_self, if_true, if_false, bi_bt, x_b0, x_b1, Bool.true_and, Bool.false_and, Bool.and_true, Bool.and_false, Bool.and_self]
    by_cases q1 : u.length = 1
    · rw [decide_eq_true q1, Bool.true_and]
      by_cases c : u.getD 0 0 = 42
      · rw [decide_eq_true c, ← fin, ← tg]
        have y01 : σ.2.1 59 b = iN 42 := by rw [← c]; exact y0.1
        simp (disch := omega) only [iN_lt, iN_le, iN_eq, iN_add, iN_sub, iN_mul, iN_in, iN_clamp, iN_1a, iN_1e, iN_1l, iN_l1, iN_0e, iN_0l, iN_l0, iN_pred, iN_sub1, iN_1le, il_2, il_3, il_4, il_5, il_6, il_7, il_8, il_9, il_10, il_12, il_13, il_16, il_20, il_32, il_34, il_37, il_42, il_44, il_45, il_46, il_47, il_48, il_49, il_57, il_58, il_59, il_63, il_80, il_97, il_200, il_205, il_400, il_404, il_405, il_413, il_414, il_416, il_417, il_431, il_501, il_505, il_2000, if_pos, if_neg, Option.bind_some, x_let, x_bind2_some, x_opt, h.1, p1, p2, y01, q1, show b + 1 - b = 1 by omega, decide_true, decide_false, bi_t, bi_f, i10, i1n, eq_self, if_true, if_false, bi_bt, x_b0, x_b1, Bool.true_and, Bool.false_and, Bool.and_true, Bool.and_false, Bool.and_self]
      · rw [decide_eq_false c, ← fin, ← tg]
        have y01 : σ.2.1 59 b = iN (u.getD 0 0) := y0.1
        unfold x_Model_isKnown_59
        simp (disch := omega) only [iN_lt, iN_le, iN_eq, iN_add, iN_sub, iN_mul, iN_in, iN_clamp, iN_1a, iN_1e, iN_1l, iN_l1, iN_0e, iN_0l, iN_l0, iN_pred, iN_sub1, iN_1le, il_2, il_3, il_4, il_5, il_6, il_7, il_8, il_9, il_10, il_12, il_13, il_16, il_20, il_32, il_34, il_37, il_42, il_44, il_45, il_46, il_47, il_48, il_49, il_57, il_58, il_59, il_63, il_80, il_97, il_200, il_205, il_400, il_404, il_405, il_413, il_414, il_416, il_417, il_431, il_501, il_505, il_2000, if_pos, if_neg, Option.bind_some, x_let, x_bind2_some, x_opt, h.1, p1, p2, y01, q1, show b + 1 - b = 1 by omega, decide_true, decide_false, bi_t, bi_f, i10, i1n, eq_self, if_true, if_false, bi_bt, x_b0, x_b1, Bool.true_and, Bool.false_and, Bool.and_true, Bool.and_false, Bool.and_self]
    · rw [decide_eq_false q1, Bool.false_and, ← fin, ← tg]
      unfold x_Model_isKnown_59
      simp (disch := omega) only [iN_lt, iN_le, iN_eq, iN_add, iN_sub, iN_mul, iN_in, iN_clamp, iN_1a, iN_1e, iN_1l, iN_l1, iN_0e, iN_0l, iN_l0, iN_pred, iN_sub1, iN_1le, il_2, il_3, il_4, il_5, il_6, il_7, il_8, il_9, il_10, il_12, il_13, il_16, il_20, il_32, il_34, il_37, il_42, il_44, il_45, il_46, il_47, il_48, il_49, il_57, il_58, il_59, il_63, il_80, il_97, il_200, il_205, il_400, il_404, il_405, il_413, il_414, il_416, il_417, il_431, il_501, il_505, il_2000, if_pos, if_neg, Option.bind_some, x_let, x_bind2_some, x_opt, h.1, p1, p2, show b + u.length - b = u.length by omega, decide_true, decide_false, bi_t, bi_f, i10, i1n, eq_self, if_true, if_false, bi_bt, x_b0, x_b1, Bool.true_and, Bool.false_and, Bool.and_true, Bool.and_false, Bool.and_self]
theorem m_isKnown {σ : St} {nf : Nat} {F : Nat → Ln} (hF : Mf σ nf F) {r mq : Nat} (hr : r < 8) (hmk : σ.2.1 54 r = iN mq) (hm : mq < 1000000000) : ∃ σ', x_Model_isKnown (iN r) σ = some (bi (q_known F nf mq), σ') := by
  obtain ⟨σ', a, b⟩ := m_list hF MW_56
  have fp := fp_Model_list _ _ a
  have hl := f_els_len F (wd_ 15) nf 0 (fun k _ hk => (hF.2.2 k (by omega)).1)
  have hn := hF.2.1
  refine ⟨σ', ?_⟩
  unfold x_Model_isKnown
  rw [show (56 : Int32) = iN 56 from rfl, a, Option.bind_some]
  have := m_known0 (by omega) b hr (by rw [fp.2.1 _ (by simp)]; exact hmk) hm (f_els F (wd_ 15) 0 nf).length 0 false x_fuel (by omega) (by unfold x_fuel; omega)
  rw [List.drop_zero, Bool.false_or] at this
  exact this
theorem m_star0 {E : List (List Nat)} (hl : E.length < 512) {σ : St} (h : Me σ E) : ∀ d k p fuel, k + d = E.length → d < fuel → x_Model_hasStar_10 fuel (bi p) (iN k) σ = some (bi (p || (E.drop k).any (fun u => u_is u (wd_ 16))), σ) := by
  intro d
  induction d with
  | zero =>
    intro k p fuel hk hf
    obtain ⟨z, rfl⟩ := x_fuelS (show 0 < fuel by omega)
    rw [List.drop_eq_nil_of_le (by omega), List.any_nil, Bool.or_false, x_Model_hasStar_10]
    simp (disch := omega) only [iN_lt, iN_le, iN_eq, iN_add, iN_sub, iN_mul, iN_in, iN_clamp, iN_1a, iN_1e, iN_1l, iN_l1, iN_0e, iN_0l, iN_l0, iN_pred, iN_sub1, iN_1le, il_2, il_3, il_4, il_5, il_6, il_7, il_8, il_9, il_10, il_12, il_13, il_16, il_20, il_32, il_34, il_37, il_42, il_44, il_45, il_46, il_47, il_48, il_49, il_57, il_58, il_59, il_63, il_80, il_97, il_200, il_205, il_400, il_404, il_405, il_413, il_414, il_416, il_417, il_431, il_501, il_505, il_2000, if_pos, if_neg, Option.bind_some, x_let, x_bind2_some, x_opt, h.1, decide_true, decide_false, bi_t, bi_f, i10, i1n, eq_self, if_true, if_false, bi_bt, x_b0, x_b1, Bool.true_and, Bool.false_and, Bool.and_true, Bool.and_false, Bool.and_self]
  | succ d ih =>
    intro k p fuel hk hf
    obtain ⟨z, rfl⟩ := x_fuelS (show 0 < fuel by omega)
    obtain ⟨b, p1, p2, p3, p4, p5⟩ := h.2 k (by omega)
    have e0 := ih (k + 1) false z (by omega) (by omega)
    have e1 := ih (k + 1) true z (by omega) (by omega)
    rw [bi_f] at e0
    rw [bi_t] at e1
    rw [drop_any _ E k [] (by omega), x_Model_hasStar_10]
    generalize E.getD k [] = u at p1 p2 p3 p4 p5 ⊢
    rw [u_star]
    have y0 := p4 0 p5
    rw [Nat.add_zero] at y0
    have y02 : u.getD 0 0 < 256 := y0.2
    have y01 : σ.2.1 59 b = iN (u.getD 0 0) := y0.1
    cases p
    · by_cases q1 : u.length = 1
      · by_cases c : u.getD 0 0 = 42
        · simp (disch := omega) only [iN_lt, iN_le, iN_eq, iN_add, iN_sub, iN_mul, iN_in, iN_clamp, iN_1a, iN_1e, iN_1l, iN_l1, iN_0e, iN_0l, iN_l0, iN_pred, iN_sub1, iN_1le, il_2, il_3, il_4, il_5, il_6, il_7, il_8, il_9, il_10, il_12, il_13, il_16, il_20, il_32, il_34, il_37, il_42, il_44, il_45, il_46, il_47, il_48, il_49, il_57, il_58, il_59, il_63, il_80, il_97, il_200, il_205, il_400, il_404, il_405, il_413, il_414, il_416, il_417, il_431, il_501, il_505, il_2000, if_pos, if_neg, Option.bind_some, x_let, x_bind2_some, x_opt, h.1, p1, p2, y01, c, q1, show b + 1 - b = 1 by omega, x_Model_hasStar_55, x_Model_hasStar_60, e1, decide_true, decide_false, bi_t, bi_f, i10, i1n, eq_self, if_true, if_false, bi_bt, x_b0, x_b1, Bool.true_and, Bool.false_and, Bool.and_true, Bool.and_false, Bool.and_self, Bool.true_or, Bool.false_or]
        · simp (disch := omega) only [iN_lt, iN_le, iN_eq, iN_add, iN_sub, iN_mul, iN_in, iN_clamp, iN_1a, iN_1e, iN_1l, iN_l1, iN_0e, iN_0l, iN_l0, iN_pred, iN_sub1, iN_1le, il_2, il_3, il_4, il_5, il_6, il_7, il_8, il_9, il_10, il_12, il_13, il_16, il_20, il_32, il_34, il_37, il_42, il_44, il_45, il_46, il_47, il_48, il_49, il_57, il_58, il_59, il_63, il_80, il_97, il_200, il_205, il_400, il_404, il_405, il_413, il_414, il_416, il_417, il_431, il_501, il_505, il_2000, if_pos, if_neg, Option.bind_some, x_let, x_bind2_some, x_opt, h.1, p1, p2, y01, c, q1, show b + 1 - b = 1 by omega, x_Model_hasStar_59, x_Model_hasStar_60, e0, decide_true, decide_false, bi_t, bi_f, i10, i1n, eq_self, if_true, if_false, bi_bt, x_b0, x_b1, Bool.true_and, Bool.false_and, Bool.and_true, Bool.and_false, Bool.and_self, Bool.true_or, Bool.false_or]
      · simp (disch := omega) only [iN_lt, iN_le, iN_eq, iN_add, iN_sub, iN_mul, iN_in, iN_clamp, iN_1a, iN_1e, iN_1l, iN_l1, iN_0e, iN_0l, iN_l0, iN_pred, iN_sub1, iN_1le, il_2, il_3, il_4, il_5, il_6, il_7, il_8, il_9, il_10, il_12, il_13, il_16, il_20, il_32, il_34, il_37, il_42, il_44, il_45, il_46, il_47, il_48, il_49, il_57, il_58, il_59, il_63, il_80, il_97, il_200, il_205, il_400, il_404, il_405, il_413, il_414, il_416, il_417, il_431, il_501, il_505, il_2000, if_pos, if_neg, Option.bind_some, x_let, x_bind2_some, x_opt, h.1, p1, p2, q1, show b + u.length - b = u.length by omega, x_Model_hasStar_59, x_Model_hasStar_60, e0, decide_true, decide_false, bi_t, bi_f, i10, i1n, eq_self, if_true, if_false, bi_bt, x_b0, x_b1, Bool.true_and, Bool.false_and, Bool.and_true, Bool.and_false, Bool.and_self, Bool.true_or, Bool.false_or]
    · simp (disch := omega) only [iN_lt, iN_le, iN_eq, iN_add, iN_sub, iN_mul, iN_in, iN_clamp, iN_1a, iN_1e, iN_1l, iN_l1, iN_0e, iN_0l, iN_l0, iN_pred, iN_sub1, iN_1le, il_2, il_3, il_4, il_5, il_6, il_7, il_8, il_9, il_10, il_12, il_13, il_16, il_20, il_32, il_34, il_37, il_42, il_44, il_45, il_46, il_47, il_48, il_49, il_57, il_58, il_59, il_63, il_80, il_97, il_200, il_205, il_400, il_404, il_405, il_413, il_414, il_416, il_417, il_431, il_501, il_505, il_2000, if_pos, if_neg, Option.bind_some, x_let, x_bind2_some, x_opt, h.1, x_Model_hasStar_55, x_Model_hasStar_60, e1, decide_true, decide_false, bi_t, bi_f, i10, i1n, eq_self, if_true, if_false, bi_bt, x_b0, x_b1, Bool.true_and, Bool.false_and, Bool.and_true, Bool.and_false, Bool.and_self, Bool.true_or]
theorem m_hasStar {σ : St} {nf : Nat} {F : Nat → Ln} (hF : Mf σ nf F) : ∃ σ', x_Model_hasStar σ = some (bi (q_star2 F nf), σ') := by
  obtain ⟨σ', a, b⟩ := m_list hF MW_56
  have hl := f_els_len F (wd_ 15) nf 0 (fun k _ hk => (hF.2.2 k (by omega)).1)
  have hn := hF.2.1
  refine ⟨σ', ?_⟩
  unfold x_Model_hasStar
  rw [show (56 : Int32) = iN 56 from rfl, a, Option.bind_some]
  have := m_star0 (by omega) b (f_els F (wd_ 15) 0 nf).length 0 false x_fuel (by omega) (by unfold x_fuel; omega)
  rw [List.drop_zero, Bool.false_or] at this
  exact this
