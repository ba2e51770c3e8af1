/-! elements of the class, and taking a field -/
def u_num (u : List Nat) : Option Nat := s_number (fun j => u.getD j 0) 0 u.length
def u_tag (u : List Nat) (m : Nat) : Bool := decide (2 < u.length) && (u.getD 0 0 == 34 && (u.getD (u.length - 1) 0 == 34 && (!(u.getD 1 0 == 48) && decide (s_number (fun j => u.getD j 0) 1 (u.length - 2) = some m))))
theorem s_num_congr {f g : Nat → Nat} : ∀ d i i' v, (∀ j, j < d → f (i + j) = g (i' + j)) → s_num f i d v = s_num g i' d v := by
  intro d
  induction d with
  | zero => intro i i' v _; rfl
  | succ d ih =>
    intro i i' v h
    have h0 := h 0 (by omega)
    rw [Nat.add_zero, Nat.add_zero] at h0
    rw [s_num, s_num, h0, ih (i + 1) (i' + 1) _ (fun j hj => by rw [show i + 1 + j = i + (j + 1) by omega, show i' + 1 + j = i' + (j + 1) by omega]; exact h (j + 1) (by omega))]
theorem s_number_congr {f g : Nat → Nat} {d i i' : Nat} (h : ∀ j, j < d → f (i + j) = g (i' + j)) : s_number f i d = s_number g i' d := by
  unfold s_number
  rw [s_num_congr d i i' 0 h]
theorem s_number_lt {f : Nat → Nat} {i d v : Nat} (hb : ∀ j, i ≤ j → j < i + d → f j < 256) (h : s_number f i d = some v) : v < 1000000000 := by
  unfold s_number at h
  by_cases q : 1 ≤ d ∧ d ≤ 9
  · rw [if_pos q] at h
    have := s_num_lt f d i 0 0 v hb (by decide) h
    have h2 : 10 ^ (0 + d) ≤ 10 ^ 9 := Nat.pow_le_pow_right (by decide) (by omega)
    omega
  · rw [if_neg q] at h
    cases h
theorem oi_iN {o : Option Nat} {m : Nat} (h : ∀ v, o = some v → v < 2147483648) (hm : m < 2147483648) : oi o = iN m ↔ o = some m := by
  cases o with
  | none => simp [oi, iN_m1' hm]
  | some v => simp [oi, iN_eq (h v rfl) hm]
theorem oi_m1 {o : Option Nat} (h : ∀ v, o = some v → v < 2147483648) : oi o = -1 ↔ o = none := by
  cases o with
  | none => simp [oi]
  | some v => simp [oi, iN_m1 (h v rfl)]
theorem c_elementIs {σ : St} {tn : Nat} {tf : Nat → Nat} {E : List (List Nat)} (hG : Gt σ 32 tn tf) (h : Ce σ tn tf E) {w k : Nat} (hw : w < 42) (hk : k < E.length) : x_Fields_elementIs (iN k) w σ = some (bi (u_is (E.getD k []) (wd_ w))) := by
  obtain ⟨b, p1, p2, p3, p4, p5⟩ := h.2.2 k hk
  have h3 := h.2.1
  have e := cw_isWord hG hw p3
  rw [sl_congr (f := tf) (g := fun j => (E.getD k []).getD j 0) (i := b) (i' := 0) (fun j hj => by rw [Nat.zero_add]; exact p4 j hj), sl_self] at e
  unfold x_Fields_elementIs
  cases hq : u_is (E.getD k []) (wd_ w) <;> rw [hq] at e <;> simp (disch := omega) only [iN_lt, iN_le, iN_eq, iN_add, iN_sub, iN_mul, iN_in, iN_clamp, iN_1a, iN_1e, iN_1l, iN_l1, iN_0e, iN_0l, iN_l0, iN_pred, iN_sub1, iN_1le, il_2, il_3, il_4, il_5, il_6, il_7, il_8, il_9, il_10, il_12, il_13, il_16, il_20, il_32, il_34, il_37, il_42, il_44, il_45, il_46, il_47, il_48, il_49, il_57, il_58, il_59, il_63, il_80, il_97, il_200, il_205, il_400, il_404, il_405, il_413, il_414, il_416, il_417, il_431, il_501, il_505, il_2000, if_pos, if_neg, Option.bind_some, x_let, x_bind2_some, x_opt, h.1, p1, p2, e, decide_true, decide_false, bi_t, bi_f, i10, i1n, eq_self, if_true, if_false, bi_bt, x_b0, x_b1, Bool.true_and, Bool.false_and, Bool.and_true, Bool.and_false, Bool.and_self]
theorem c_elementIsM {σ : St} (w : Nat) : x_Fields_elementIs (-1) w σ = some 0 := by
  unfold x_Fields_elementIs
  rw [if_pos (by decide)]
theorem c_elementNumber {σ : St} {tn : Nat} {tf : Nat → Nat} {E : List (List Nat)} (hG : Gt σ 32 tn tf) (h : Ce σ tn tf E) {k : Nat} (hk : k < E.length) : x_Fields_elementNumber (iN k) σ = some (oi (u_num (E.getD k []))) := by
  obtain ⟨b, p1, p2, p3, p4, p5⟩ := h.2.2 k hk
  have h3 := h.2.1
  have e := c_number hG p3
  rw [s_number_congr (f := tf) (g := fun j => (E.getD k []).getD j 0) (i := b) (i' := 0) (fun j hj => by rw [Nat.zero_add]; exact p4 j hj)] at e
  unfold x_Fields_elementNumber u_num
  simp (disch := omega) only [iN_lt, iN_le, iN_eq, iN_add, iN_sub, iN_mul, iN_in, iN_clamp, iN_1a, iN_1e, iN_1l, iN_l1, iN_0e, iN_0l, iN_l0, iN_pred, iN_sub1, iN_1le, il_2, il_3, il_4, il_5, il_6, il_7, il_8, il_9, il_10, il_12, il_13, il_16, il_20, il_32, il_34, il_37, il_42, il_44, il_45, il_46, il_47, il_48, il_49, il_57, il_58, il_59, il_63, il_80, il_97, il_200, il_205, il_400, il_404, il_405, il_413, il_414, il_416, il_417, il_431, il_501, il_505, il_2000, if_pos, if_neg, Option.bind_some, x_let, x_bind2_some, x_opt, h.1, p1, p2, e]
theorem c_elementNumberX {σ : St} {tn : Nat} {tf : Nat → Nat} {E : List (List Nat)} (h : Ce σ tn tf E) {k : Nat} (hk : E.length ≤ k) (hk2 : k < 2147483648) : x_Fields_elementNumber (iN k) σ = some (-1) := by
  have h3 := h.2.1
  unfold x_Fields_elementNumber
  simp (disch := omega) only [iN_lt, iN_le, iN_eq, iN_add, iN_sub, iN_mul, iN_in, iN_clamp, iN_1a, iN_1e, iN_1l, iN_l1, iN_0e, iN_0l, iN_l0, iN_pred, iN_sub1, iN_1le, il_2, il_3, il_4, il_5, il_6, il_7, il_8, il_9, il_10, il_12, il_13, il_16, il_20, il_32, il_34, il_37, il_42, il_44, il_45, il_46, il_47, il_48, il_49, il_57, il_58, il_59, il_63, il_80, il_97, il_200, il_205, il_400, il_404, il_405, il_413, il_414, il_416, il_417, il_431, il_501, il_505, il_2000, if_pos, if_neg, Option.bind_some, x_let, x_bind2_some, x_opt, h.1]
theorem c_elementIsTag {σ : St} {tn : Nat} {tf : Nat → Nat} {E : List (List Nat)} (hG : Gt σ 32 tn tf) (h : Ce σ tn tf E) {k m : Nat} (hk : k < E.length) (hm : m < 2147483648) : x_Fields_elementIsTag (iN k) (iN m) σ = some (bi (u_tag (E.getD k []) m)) := by
  obtain ⟨b, p1, p2, p3, p4, p5⟩ := h.2.2 k hk
  have h3 := h.2.1
  have ht := hG.le
  generalize E.getD k [] = u at p1 p2 p3 p4 p5 ⊢
  have g0 := hG.get (show b + 0 < tn by omega)
  have g1 := hG.get (show b + (u.length - 1) < tn by omega)
  have y0 := hG.by (show b + 0 < tn by omega)
  have y1 := hG.by (show b + (u.length - 1) < tn by omega)
  rw [p4 0 p5] at g0 y0
  rw [p4 _ (show u.length - 1 < u.length by omega)] at g1 y1
  rw [Nat.add_zero] at g0
  unfold x_Fields_elementIsTag u_tag
  by_cases h2 : 2 < u.length
  · have g2 := hG.get (show b + 1 < tn by omega)
    have y2 := hG.by (show b + 1 < tn by omega)
    rw [p4 1 (by omega)] at g2 y2
    have e := c_number hG (i := b + 1) (d := u.length - 2) (by omega)
    rw [s_number_congr (f := tf) (g := fun j => u.getD j 0) (i := b + 1) (i' := 1) (fun j hj => by rw [Nat.add_assoc]; exact p4 (1 + j) (by omega)), show b + 1 + (u.length - 2) = b + u.length - 1 by omega] at e
    rw [show b + (u.length - 1) = b + u.length - 1 by omega] at g1
    have o1 := oi_iN (o := s_number (fun j => u.getD j 0) 1 (u.length - 2)) (m := m) (fun v hv => by
      have := s_number_lt (fun j a1 a2 => by
        have := hG.by (show b + j < tn by omega)
        rw [p4 j (by omega)] at this
        exact this) hv
      omega) hm
    by_cases c0 : u.getD 0 0 = 34 <;> by_cases c1 : u.getD (u.length - 1) 0 = 34 <;> by_cases c2 : u.getD 1 0 = 48 <;> simp (disch := omega) only [iN_lt, iN_le, iN_eq, iN_add, iN_sub, iN_mul, iN_in, iN_clamp, iN_1a, iN_1e, iN_1l, iN_l1, iN_0e, iN_0l, iN_l0, iN_pred, iN_sub1, iN_1le, il_2, il_3, il_4, il_5, il_6, il_7, il_8, il_9, il_10, il_12, il_13, il_16, il_20, il_32, il_34, il_37, il_42, il_44, il_45, il_46, il_47, il_48, il_49, il_57, il_58, il_59, il_63, il_80, il_97, il_200, il_205, il_400, il_404, il_405, il_413, il_414, il_416, il_417, il_431, il_501, il_505, il_2000, if_pos, if_neg, Option.bind_some, x_let, x_bind2_some, x_opt, h.1, p1, p2, g0, g1, g2, e, c0, c1, c2, h2, o1, decide_true, decide_false, bi_t, bi_f, i10, i1n, eq_self, if_true, if_false, bi_bt, x_b0, x_b1, Bool.true_and, Bool.false_and, Bool.and_true, Bool.and_false, Bool.and_self, nbeq, decide_true, decide_false, Bool.not_true, Bool.not_false]
  · have e := c_numberX (σ := σ) (o := 32) (i := b + 1) (t := b + u.length - 1) (by omega) (by omega)
    obtain ⟨r, g2⟩ : ∃ r, x_Bytes_get 32 (iN (b + 1)) σ = some r := by
      by_cases q : b + 1 < tn
      · exact ⟨_, hG.get q⟩
      · exact ⟨_, hG.getX (by omega) (by omega)⟩
    rw [show b + (u.length - 1) = b + u.length - 1 by omega] at g1
    rw [decide_eq_false h2, Bool.false_and]
    by_cases c0 : u.getD 0 0 = 34 <;> by_cases c1 : u.getD (u.length - 1) 0 = 34 <;> by_cases c2 : r = iN 48 <;> simp (disch := omega) only [iN_lt, iN_le, iN_eq, iN_add, iN_sub, iN_mul, iN_in, iN_clamp, iN_1a, iN_1e, iN_1l, iN_l1, iN_0e, iN_0l, iN_l0, iN_pred, iN_sub1, iN_1le, il_2, il_3, il_4, il_5, il_6, il_7, il_8, il_9, il_10, il_12, il_13, il_16, il_20, il_32, il_34, il_37, il_42, il_44, il_45, il_46, il_47, il_48, il_49, il_57, il_58, il_59, il_63, il_80, il_97, il_200, il_205, il_400, il_404, il_405, il_413, il_414, il_416, il_417, il_431, il_501, il_505, il_2000, if_pos, if_neg, Option.bind_some, x_let, x_bind2_some, x_opt, h.1, p1, p2, g0, g1, g2, e, c0, c1, c2, iN_m1', decide_true, decide_false, bi_t, bi_f, i10, i1n, eq_self, if_true, if_false, bi_bt, x_b0, x_b1, Bool.true_and, Bool.false_and, Bool.and_true, Bool.and_false, Bool.and_self]
theorem c_hasElement0 {σ : St} {tn : Nat} {tf : Nat → Nat} {E : List (List Nat)} (hG : Gt σ 32 tn tf) (h : Ce σ tn tf E) {v : Nat} (hv : v < 42) (w : Nat) : ∀ d k fuel, k + d = E.length → d < fuel → x_Fields_hasElement_9 w v fuel (iN E.length) (iN k) σ = some (bi ((E.drop k).any (fun x => u_is x (wd_ v))), σ) := by
  have h3 := h.2.1
  intro d
  induction d with
  | zero =>
    intro k fuel hk hf
    obtain ⟨z, rfl⟩ := x_fuelS (show 0 < fuel by omega)
    rw [List.drop_eq_nil_of_le (by omega), List.any_nil, x_Fields_hasElement_9]
    simp (disch := omega) only [iN_lt, iN_le, iN_eq, iN_add, iN_sub, iN_mul, iN_in, iN_clamp, iN_1a, iN_1e, iN_1l, iN_l1, iN_0e, iN_0l, iN_l0, iN_pred, iN_sub1, iN_1le, il_2, il_3, il_4, il_5, il_6, il_7, il_8, il_9, il_10, il_12, il_13, il_16, il_20, il_32, il_34, il_37, il_42, il_44, il_45, il_46, il_47, il_48, il_49, il_57, il_58, il_59, il_63, il_80, il_97, il_200, il_205, il_400, il_404, il_405, il_413, il_414, il_416, il_417, il_431, il_501, il_505, il_2000, if_pos, if_neg, Option.bind_some, x_let, x_bind2_some, x_opt, decide_true, decide_false, bi_t, bi_f, i10, i1n, eq_self, if_true, if_false, bi_bt, x_b0, x_b1, Bool.true_and, Bool.false_and, Bool.and_true, Bool.and_false, Bool.and_self]
  | succ d ih =>
    intro k fuel hk hf
    obtain ⟨z, rfl⟩ := x_fuelS (show 0 < fuel by omega)
    have e := c_elementIs hG h hv (show k < E.length by omega)
    have e0 := ih (k + 1) z (by omega) (by omega)
    rw [drop_any _ E k [] (by omega), x_Fields_hasElement_9]
    cases hq : u_is (E.getD k []) (wd_ v) <;> rw [hq] at e <;> simp (disch := omega) only [iN_lt, iN_le, iN_eq, iN_add, iN_sub, iN_mul, iN_in, iN_clamp, iN_1a, iN_1e, iN_1l, iN_l1, iN_0e, iN_0l, iN_l0, iN_pred, iN_sub1, iN_1le, il_2, il_3, il_4, il_5, il_6, il_7, il_8, il_9, il_10, il_12, il_13, il_16, il_20, il_32, il_34, il_37, il_42, il_44, il_45, il_46, il_47, il_48, il_49, il_57, il_58, il_59, il_63, il_80, il_97, il_200, il_205, il_400, il_404, il_405, il_413, il_414, il_416, il_417, il_431, il_501, il_505, il_2000, if_pos, if_neg, Option.bind_some, x_let, x_bind2_some, x_opt, e, e0, decide_true, decide_false, bi_t, bi_f, i10, i1n, eq_self, if_true, if_false, bi_bt, x_b0, x_b1, Bool.true_and, Bool.false_and, Bool.and_true, Bool.and_false, Bool.and_self, Bool.true_or, Bool.false_or]
theorem c_hasElement {σ : St} {nf tn : Nat} {F : Nat → Ln} {tf : Nat → Nat} (h : Cf σ nf F tn tf) {w v : Nat} (hw : w < 42) (hv : v < 42) : ∃ σ', x_Fields_hasElement w v σ = some (bi ((f_els F (wd_ w) 0 nf).any (fun x => u_is x (wd_ v))), σ') := by
  obtain ⟨σ', a, b⟩ := c_gather h hw
  have fp := fp_Fields_gather _ _ a
  refine ⟨σ', ?_⟩
  unfold x_Fields_hasElement
  rw [a]
  rw [x_bind2_some]
  have := c_hasElement0 (h.2.2.1.of (fp.1 _ _ (by simp)) (fp.2.1 _ (by simp))) b hv w (f_els F (wd_ w) 0 nf).length 0 x_fuel (by omega) (by have := b.2.1; unfold x_fuel; omega)
  rw [List.drop_zero] at this
  exact this
theorem s_first_congr {f g : Nat → Nat} (p : Nat → Bool) : ∀ d i i', (∀ j, j < d → f (i + j) = g (i' + j)) → s_first p f i d + i' = s_first p g i' d + i := by
  intro d
  induction d with
  | zero => intro i i' _; rw [s_first, s_first]; omega
  | succ d ih =>
    intro i i' h
    have h0 := h 0 (by omega)
    rw [Nat.add_zero, Nat.add_zero] at h0
    have := ih (i + 1) (i' + 1) (fun j hj => by rw [show i + 1 + j = i + (j + 1) by omega, show i' + 1 + j = i' + (j + 1) by omega]; exact h (j + 1) (by omega))
    rw [s_first, s_first, h0]
    by_cases q : p (g i') = true
    · rw [if_pos q, if_pos q]; omega
    · rw [if_neg q, if_neg q]; omega
theorem s_back_congr {f g : Nat → Nat} (i i' : Nat) : ∀ d, (∀ j, j < d → f (i + j) = g (i' + j)) → s_back f i d + i' = s_back g i' d + i := by
  intro d
  induction d with
  | zero => intro _; rw [s_back, s_back]; omega
  | succ d ih =>
    intro h
    have h0 := h d (by omega)
    have := ih (fun j hj => h j (by omega))
    rw [s_back, s_back, h0]
    by_cases q : k_blank (g (i' + d)) = true
    · rw [if_pos q, if_pos q]; omega
    · rw [if_neg q, if_neg q]; omega
def F_add (F : Nat → Ln) (nf : Nat) (l : Ln) : Nat → Ln := fun k => if k = nf then l else F k
theorem c_take {σ : St} {nf tn : Nat} {F : Nat → Ln} {tf : Nat → Nat} (h : Cf σ nf F tn tf) {n : Nat} {f : Nat → Nat} (hL : Gt σ 28 n f) (hn : n ≤ 80) : x_Fields_take 28 σ = some (400, σ) ∧ q_colon f n = none ∨ q_colon f n = some (f_c (n, f)) ∧ f_ok (n, f) ∧ (x_Fields_take 28 σ = some (431, σ) ∧ nf = 12 ∨ nf < 12 ∧ ∃ σ' tn' tf', x_Fields_take 28 σ = some (0, σ') ∧ Cf σ' (nf + 1) (F_add F nf (n, f)) tn' tf') := by
  have hc := c_colonOf hL
  unfold x_Fields_take
  obtain ⟨h1, h2, h3, h4, h5⟩ := h
  have hq : q_colon f n = none ∨ q_colon f n = some (f_c (n, f)) ∧ f_c (n, f) < n ∧ 0 < f_c (n, f) := by
    unfold q_colon f_c
    simp only
    by_cases q : s_first (fun c => c == 58) f 0 n < n ∧ 0 < s_first (fun c => c == 58) f 0 n ∧ s_all k_tok f 0 (s_first (fun c => c == 58) f 0 n) = true ∧ s_all k_shown f (s_first (fun c => c == 58) f 0 n + 1) (n - (s_first (fun c => c == 58) f 0 n + 1)) = true
    · rw [if_pos q]; exact Or.inr ⟨rfl, q.1, q.2.1⟩
    · rw [if_neg q]; exact Or.inl rfl
  rcases hq with hq | ⟨hq, hc1, hc2⟩
  · left
    refine ⟨?_, hq⟩
    rw [hc, hq]
    simp (disch := omega) only [iN_lt, iN_le, iN_eq, iN_add, iN_sub, iN_mul, iN_in, iN_clamp, iN_1a, iN_1e, iN_1l, iN_l1, iN_0e, iN_0l, iN_l0, iN_pred, iN_sub1, iN_1le, il_2, il_3, il_4, il_5, il_6, il_7, il_8, il_9, il_10, il_12, il_13, il_16, il_20, il_32, il_34, il_37, il_42, il_44, il_45, il_46, il_47, il_48, il_49, il_57, il_58, il_59, il_63, il_80, il_97, il_200, il_205, il_400, il_404, il_405, il_413, il_414, il_416, il_417, il_431, il_501, il_505, il_2000, if_pos, if_neg, Option.bind_some, x_let, x_bind2_some, x_opt, oi, decide_true, decide_false, bi_t, bi_f, i10, i1n, eq_self, if_true, if_false, bi_bt, x_b0, x_b1, Bool.true_and, Bool.false_and, Bool.and_true, Bool.and_false, Bool.and_self]
  · right
    refine ⟨hq, ⟨hn, hc2, hc1⟩, ?_⟩
    rw [hc, hq]
    by_cases hnf : nf = 12
    · left
      refine ⟨?_, hnf⟩
      subst hnf
      simp (disch := omega) only [iN_lt, iN_le, iN_eq, iN_add, iN_sub, iN_mul, iN_in, iN_clamp, iN_1a, iN_1e, iN_1l, iN_l1, iN_0e, iN_0l, iN_l0, iN_pred, iN_sub1, iN_1le, il_2, il_3, il_4, il_5, il_6, il_7, il_8, il_9, il_10, il_12, il_13, il_16, il_20, il_32, il_34, il_37, il_42, il_44, il_45, il_46, il_47, il_48, il_49, il_57, il_58, il_59, il_63, il_80, il_97, il_200, il_205, il_400, il_404, il_405, il_413, il_414, il_416, il_417, il_431, il_501, il_505, il_2000, if_pos, if_neg, Option.bind_some, x_let, x_bind2_some, x_opt, oi, iN_m1, h1, decide_true, decide_false, bi_t, bi_f, i10, i1n, eq_self, if_true, if_false, bi_bt, x_b0, x_b1, Bool.true_and, Bool.false_and, Bool.and_true, Bool.and_false, Bool.and_self]
    · right
      refine ⟨by omega, ?_⟩
      have hal : aln 33 = 960 := by decide
      obtain ⟨σ1, a1, a2⟩ := c_addAll h3 hL (by omega) (by rw [hal]; omega)
      have fp := fp_Bytes_addAll _ _ _ a1
      generalize hg : (fun j => if tn ≤ j then f (j - tn) else tf j) = tg at a2
      have tg1 : ∀ j, j < n → tg (tn + j) = f j := fun j hj => by
        rw [← hg]
        show (if tn ≤ tn + j then f (tn + j - tn) else tf (tn + j)) = f j
        rw [if_pos (by omega), show tn + j - tn = j by omega]
      have tg2 : ∀ j, j < tn → tg j = tf j := fun j hj => by
        rw [← hg]
        show (if tn ≤ j then f (j - tn) else tf j) = tf j
        rw [if_neg (by omega)]
      have lvb := s_b_le f (f_c (n, f) + 1) n (by omega)
      have lve := s_e_le f (f_c (n, f) + 1) n (by omega)
      have sk := c_skip a2 (i := tn + f_c (n, f) + 1) (d := n - (f_c (n, f) + 1)) (by omega)
      have ek : s_first (fun c => !k_blank c) tg (tn + f_c (n, f) + 1) (n - (f_c (n, f) + 1)) = tn + f_vb (n, f) := by
        have := s_first_congr (f := tg) (g := f) (fun c => !k_blank c) (n - (f_c (n, f) + 1)) (tn + f_c (n, f) + 1) (f_c (n, f) + 1) (fun j hj => by rw [show tn + f_c (n, f) + 1 + j = tn + (f_c (n, f) + 1 + j) by omega]; exact tg1 _ (by omega))
        unfold f_vb s_b
        simp only
        omega
      rw [ek, show tn + f_c (n, f) + 1 + (n - (f_c (n, f) + 1)) = tn + n by omega] at sk
      have hvb : f_vb (n, f) ≤ n := lvb.2
      have hve : f_vb (n, f) ≤ f_ve (n, f) ∧ f_ve (n, f) ≤ n := lve
      have e5 : σ1.1 31 5 = iN nf := by rw [fp.1 _ _ (by simp)]; exact h1
      have ed : s_back tg (tn + f_vb (n, f)) (n - f_vb (n, f)) = tn + f_ve (n, f) := by
        have := s_back_congr (f := tg) (g := f) (tn + f_vb (n, f)) (f_vb (n, f)) (n - f_vb (n, f)) (fun j hj => by rw [show tn + f_vb (n, f) + j = tn + (f_vb (n, f) + j) by omega]; exact tg1 _ (by omega))
        unfold f_ve s_e
        unfold f_vb at this ⊢
        simp only at this ⊢
        omega
      generalize hs3 : x_updM (x_updM (x_updM σ1 34 nf (iN tn)) 35 nf (iN (tn + f_c (n, f)))) 36 nf (iN (tn + f_vb (n, f))) = s3
      have g3 : Gt s3 32 (tn + n) tg := a2.of (by rw [← hs3]; rfl) (by rw [← hs3]; funext j; simp [x_updM])
      have dr := c_drop g3 (i := tn + f_vb (n, f)) (d := n - f_vb (n, f)) (by omega)
      rw [ed, show tn + f_vb (n, f) + (n - f_vb (n, f)) = tn + n by omega] at dr
      have e35 : s3.1 31 5 = iN nf := by rw [← hs3]; exact e5
      have e31 : s3.1 32 1 = iN (tn + n) := g3.1
      refine ⟨x_updR (x_updM s3 37 nf (iN (tn + f_ve (n, f)))) 31 5 (iN (nf + 1)), tn + n, tg, ?_, ?_⟩
      · simp (disch := omega) only [iN_lt, iN_le, iN_eq, iN_add, iN_sub, iN_mul, iN_in, iN_clamp, iN_1a, iN_1e, iN_1l, iN_l1, iN_0e, iN_0l, iN_l0, iN_pred, iN_sub1, iN_1le, il_2, il_3, il_4, il_5, il_6, il_7, il_8, il_9, il_10, il_12, il_13, il_16, il_20, il_32, il_34, il_37, il_42, il_44, il_45, il_46, il_47, il_48, il_49, il_57, il_58, il_59, il_63, il_80, il_97, il_200, il_205, il_400, il_404, il_405, il_413, il_414, il_416, il_417, il_431, il_501, il_505, il_2000, if_pos, if_neg, Option.bind_some, x_let, x_bind2_some, x_opt, oi, iN_m1, h1, h3.1, a1, a2.1, sk, e5, decide_true, decide_false, bi_t, bi_f, i10, i1n, eq_self, if_true, if_false, bi_bt, x_b0, x_b1, Bool.true_and, Bool.false_and, Bool.and_true, Bool.and_false, Bool.and_self]
        have u1 : (x_updM σ1 34 nf (iN tn)).1 31 5 = iN nf := e5
        have u2 : (x_updM (x_updM σ1 34 nf (iN tn)) 35 nf (iN (tn + f_c (n, f)))).1 31 5 = iN nf := e5
        have u3 : (x_updM s3 37 nf (iN (tn + f_ve (n, f)))).1 31 5 = iN nf := e35
        simp (disch := omega) only [iN_lt, iN_le, iN_eq, iN_add, iN_sub, iN_mul, iN_in, iN_clamp, iN_1a, iN_1e, iN_1l, iN_l1, iN_0e, iN_0l, iN_l0, iN_pred, iN_sub1, iN_1le, il_2, il_3, il_4, il_5, il_6, il_7, il_8, il_9, il_10, il_12, il_13, il_16, il_20, il_32, il_34, il_37, il_42, il_44, il_45, il_46, il_47, il_48, il_49, il_57, il_58, il_59, il_63, il_80, il_97, il_200, il_205, il_400, il_404, il_405, il_413, il_414, il_416, il_417, il_431, il_501, il_505, il_2000, if_pos, if_neg, Option.bind_some, x_let, x_bind2_some, x_opt, u1, u2, hs3, e35, e31, dr, u3, decide_true, decide_false, bi_t, bi_f, i10, i1n, eq_self, if_true, if_false, bi_bt, x_b0, x_b1, Bool.true_and, Bool.false_and, Bool.and_true, Bool.and_false, Bool.and_self]
      · refine ⟨by simp [x_updR], by omega, g3.of (by simp [x_updR, x_updM]) (by funext j; simp [x_updR, x_updM]), by omega, fun k hk => ?_⟩
        by_cases hk2 : k = nf
        · subst hk2
          have : F_add F k (n, f) k = (n, f) := if_pos rfl
          rw [this]
          refine ⟨⟨hn, hc2, hc1⟩, tn, Nat.le_refl _, fun j hj => tg1 j hj, ?_, ?_, ?_, ?_⟩ <;> rw [← hs3] <;> simp [x_updR, x_updM]
        · have : F_add F nf (n, f) k = F k := if_neg hk2
          rw [this]
          obtain ⟨z, o, b1, b2, b3, b4, b5, b6⟩ := h5 k (by omega)
          refine ⟨z, o, by omega, fun j hj => by rw [tg2 _ (by omega)]; exact b2 j hj, ?_, ?_, ?_, ?_⟩ <;> rw [← hs3] <;> simp [x_updR, x_updM, hk2]
          · rw [fp.2.1 _ (by simp)]; exact b3
          · rw [fp.2.1 _ (by simp)]; exact b4
          · rw [fp.2.1 _ (by simp)]; exact b5
          · rw [fp.2.1 _ (by simp)]; exact b6
