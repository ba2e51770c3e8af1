/-! the request line -/
def GL (σ : St) (o : Nat) (L : List Nat) : Prop := Gt σ o L.length (fun i => L.getD i 0)
theorem getD_app {L : List Nat} {b : Nat} (i : Nat) : (L ++ [b]).getD i 0 = if i = L.length then b else L.getD i 0 := by
  rcases Nat.lt_trichotomy i L.length with h | h | h
  · rw [if_neg (by omega), List.getD_eq_getElem?_getD, List.getD_eq_getElem?_getD, List.getElem?_append_left h]
  · subst h
    rw [if_pos rfl, List.getD_eq_getElem?_getD, List.getElem?_append_right (Nat.le_refl _), Nat.sub_self]
    rfl
  · rw [if_neg (by omega), List.getD_eq_getElem?_getD, List.getD_eq_getElem?_getD, List.getElem?_eq_none (by simp; omega), List.getElem?_eq_none (by omega)]
theorem GL.add {σ : St} {o : Nat} {L : List Nat} (h : GL σ o L) {b : Nat} (hb : b < 256) (hn : L.length < aln (o + 1)) : ∃ σ', x_Bytes_add o (iN b) σ = some σ' ∧ GL σ' o (L ++ [b]) := by
  obtain ⟨σ', e, g⟩ := c_add h hb hn
  refine ⟨σ', e, ?_⟩
  unfold GL
  rw [List.length_append, List.length_singleton]
  exact g.ext (fun i _ => (getD_app i).symm)
theorem GL.of {σ σ' : St} {o : Nat} {L : List Nat} (h : GL σ o L) (h1 : σ'.1 o 1 = σ.1 o 1) (h2 : σ'.2.1 (o + 1) = σ.2.1 (o + 1)) : GL σ' o L := Gt.of h h1 h2
def q_m (u : List Nat) : Option Nat := if u = wd_ 37 then some 0 else if u = wd_ 38 then some 1 else if u = wd_ 39 then some 2 else if u = wd_ 40 then some 3 else if u = wd_ 41 then some 4 else if u = wd_ 35 then some 5 else if u = wd_ 36 then some 6 else none
theorem ce_isExactly {σ : St} {o n : Nat} {f : Nat → Nat} (hG : Gt σ o n f) {w i d : Nat} (hw : w < 42) (h : i + d ≤ n) : x_Text_isExactly o (iN i) (iN (i + d)) w σ = some (bi (decide (sl f i d = wd_ w))) := by
  rw [c_isExactly hG hw h, sl_iff]
theorem c_methodStep {σ : St} {o n : Nat} {f : Nat → Nat} (hG : Gt σ o n f) {d : Nat} (hd : d ≤ n) {k : Nat} (hk : k < 7) (z : Nat) : x_Method_find_2 o 0 (iN d) σ (z + 1) (iN k) = if sl f 0 d = wd_ (x_mword k) then some (some k) else x_Method_find_2 o 0 (iN d) σ z (iN (k + 1)) := by
  have e := ce_isExactly hG (w := x_mword k) (i := 0) (d := d) (x_mword_lt hk) (by omega)
  rw [Nat.zero_add, show iN 0 = (0 : Int32) from rfl] at e
  rw [x_Method_find_2]
  by_cases h : sl f 0 d = wd_ (x_mword k)
  · rw [h] at e
    simp (disch := omega) only [iN_lt, iN_le, iN_eq, iN_add, iN_sub, iN_mul, iN_in, iN_clamp, iN_1a, iN_1e, iN_1l, iN_l1, iN_0e, iN_0l, iN_l0, iN_pred, iN_sub1, iN_1le, il_2, il_3, il_4, il_5, il_6, il_7, il_8, il_9, il_10, il_12, il_13, il_16, il_20, il_32, il_34, il_37, il_42, il_44, il_45, il_46, il_47, il_48, il_49, il_57, il_58, il_59, il_63, il_80, il_97, il_200, il_205, il_400, il_404, il_405, il_413, il_414, il_416, il_417, il_431, il_501, il_505, il_2000, if_pos, if_neg, Option.bind_some, x_let, x_bind2_some, x_opt, show Int32.ofNat 7 = iN 7 from rfl, e, h, decide_true, decide_false, bi_t, bi_f, i10, i1n, eq_self, if_true, if_false, bi_bt, x_b0, x_b1, Bool.true_and, Bool.false_and, Bool.and_true, Bool.and_false, Bool.and_self]
  · rw [decide_eq_false h] at e
    simp (disch := omega) only [iN_lt, iN_le, iN_eq, iN_add, iN_sub, iN_mul, iN_in, iN_clamp, iN_1a, iN_1e, iN_1l, iN_l1, iN_0e, iN_0l, iN_l0, iN_pred, iN_sub1, iN_1le, il_2, il_3, il_4, il_5, il_6, il_7, il_8, il_9, il_10, il_12, il_13, il_16, il_20, il_32, il_34, il_37, il_42, il_44, il_45, il_46, il_47, il_48, il_49, il_57, il_58, il_59, il_63, il_80, il_97, il_200, il_205, il_400, il_404, il_405, il_413, il_414, il_416, il_417, il_431, il_501, il_505, il_2000, if_pos, if_neg, Option.bind_some, x_let, x_bind2_some, x_opt, show Int32.ofNat 7 = iN 7 from rfl, e, h, decide_true, decide_false, bi_t, bi_f, i10, i1n, eq_self, if_true, if_false, bi_bt, x_b0, x_b1, Bool.true_and, Bool.false_and, Bool.and_true, Bool.and_false, Bool.and_self]
theorem c_method {σ : St} {o n : Nat} {f : Nat → Nat} (hG : Gt σ o n f) {d : Nat} (hd : d ≤ n) : x_Method_find o 0 (iN d) σ = some (q_m (sl f 0 d)) := by
  unfold x_Method_find
  rw [show x_fuel = 4088 + 1 + 1 + 1 + 1 + 1 + 1 + 1 + 1 from rfl, show (0 : Int32) = iN 0 from rfl]
  rw [show x_Method_find_2 o (iN 0) = x_Method_find_2 o 0 from rfl]
  rw [c_methodStep hG hd (by decide), c_methodStep hG hd (by decide), c_methodStep hG hd (by decide), c_methodStep hG hd (by decide), c_methodStep hG hd (by decide), c_methodStep hG hd (by decide), c_methodStep hG hd (by decide)]
  rw [x_Method_find_2, if_pos (show Int32.ofNat 7 ≤ iN (6 + 1) by decide)]
  unfold q_m
  simp only [show x_mword 0 = 37 from rfl, show x_mword (0 + 1) = 38 from rfl, show x_mword (0 + 1 + 1) = 39 from rfl, show x_mword (0 + 1 + 1 + 1) = 40 from rfl, show x_mword (0 + 1 + 1 + 1 + 1) = 41 from rfl, show x_mword (0 + 1 + 1 + 1 + 1 + 1) = 35 from rfl, show x_mword (0 + 1 + 1 + 1 + 1 + 1 + 1) = 36 from rfl]
  repeat' split
  all_goals rfl
/-- the bytes of a path, escapes read -/
def q_dec (f : Nat → Nat) (t : Nat) : Nat → Nat → List Nat
  | 0, _ => []
  | z + 1, i => if t ≤ i then [] else if f i = 63 then [] else if f i = 37 then (16 * k_hex (f (i + 1)) + k_hex (f (i + 2))) :: q_dec f t z (i + 3) else f i :: q_dec f t z (i + 1)
theorem q_dec_len (f : Nat → Nat) (t : Nat) : ∀ z i, (q_dec f t z i).length ≤ t - i := by
  intro z
  induction z with
  | zero => intro i; exact Nat.zero_le _
  | succ z ih =>
    intro i
    rw [q_dec]
    by_cases h1 : t ≤ i
    · rw [if_pos h1]; exact Nat.zero_le _
    · rw [if_neg h1]
      by_cases h2 : f i = 63
      · rw [if_pos h2]; exact Nat.zero_le _
      · rw [if_neg h2]
        by_cases h3 : f i = 37
        · rw [if_pos h3, List.length_cons]
          have := ih (i + 3)
          omega
        · rw [if_neg h3, List.length_cons]
          have := ih (i + 1)
          omega
theorem s_tgt_step {f : Nat → Nat} {i d : Nat} (h : s_tgt f i (d + 1) = true) : s_tgt f (i + 1) d = true ∧ (f i = 37 → 1 < d ∧ k_hex (f (i + 1)) < 16 ∧ k_hex (f (i + 2)) < 16) := by
  rw [s_tgt, Bool.and_eq_true] at h
  refine ⟨h.2, fun q => ?_⟩
  rw [if_pos q] at h
  simp at h
  exact ⟨h.1.1.1, h.1.1.2, h.1.2⟩
theorem k_hex_ne {b : Nat} (h : k_hex b < 16) : ¬ b = 63 := by
  intro q
  rw [q] at h
  exact absurd h (by decide)
theorem k_hex_ne2 {b : Nat} (h : k_hex b < 16) : ¬ b = 37 := by
  intro q
  rw [q] at h
  exact absurd h (by decide)
theorem hx_iN {v : Nat} (h : v < 16) : hx v = iN v := if_pos h
theorem c_path0 {n : Nat} {f : Nat → Nat} (hn : n ≤ 80) (a2 : Int32) {t q : Nat} (ht : t ≤ n) : ∀ z i fuel (L : List Nat) (σ : St), Gt σ 28 n f → GL σ 40 L → i ≤ t → t - i ≤ z → z < fuel → s_tgt f i (t - i) = true → s_first (fun c => c == 63) f i (t - i) = q → L.length + (t - i) ≤ 80 → ∃ σ', x_Request_takePath_3 28 a2 (iN q) fuel (iN i) σ = some σ' ∧ GL σ' 40 (L ++ q_dec f t z i) := by
  intro z
  induction z with
  | zero =>
    intro i fuel L σ hG hL hi hz hf hv hq hl
    obtain ⟨y, rfl⟩ := x_fuelS (show 0 < fuel by omega)
    have e : i = t := by omega
    subst e
    rw [Nat.sub_self, s_first] at hq
    refine ⟨σ, ?_, by rw [q_dec, List.append_nil]; exact hL⟩
    rw [x_Request_takePath_3]
    simp (disch := omega) only [iN_lt, iN_le, iN_eq, iN_add, iN_sub, iN_mul, iN_in, iN_clamp, iN_1a, iN_1e, iN_1l, iN_l1, iN_0e, iN_0l, iN_l0, iN_pred, iN_sub1, iN_1le, il_2, il_3, il_4, il_5, il_6, il_7, il_8, il_9, il_10, il_12, il_13, il_16, il_20, il_32, il_34, il_37, il_42, il_44, il_45, il_46, il_47, il_48, il_49, il_57, il_58, il_59, il_63, il_80, il_97, il_200, il_205, il_400, il_404, il_405, il_413, il_414, il_416, il_417, il_431, il_501, il_505, il_2000, if_pos, if_neg, Option.bind_some, x_let, x_bind2_some, x_opt]
  | succ z ih =>
    intro i fuel L σ hG hL hi hz hf hv hq hl
    obtain ⟨y, rfl⟩ := x_fuelS (show 0 < fuel by omega)
    have hal : aln 41 = 80 := by decide
    by_cases h1 : t ≤ i
    · have e : i = t := by omega
      subst e
      rw [Nat.sub_self, s_first] at hq
      refine ⟨σ, ?_, by rw [q_dec, if_pos h1, List.append_nil]; exact hL⟩
      rw [x_Request_takePath_3]
      simp (disch := omega) only [iN_lt, iN_le, iN_eq, iN_add, iN_sub, iN_mul, iN_in, iN_clamp, iN_1a, iN_1e, iN_1l, iN_l1, iN_0e, iN_0l, iN_l0, iN_pred, iN_sub1, iN_1le, il_2, il_3, il_4, il_5, il_6, il_7, il_8, il_9, il_10, il_12, il_13, il_16, il_20, il_32, il_34, il_37, il_42, il_44, il_45, il_46, il_47, il_48, il_49, il_57, il_58, il_59, il_63, il_80, il_97, il_200, il_205, il_400, il_404, il_405, il_413, il_414, il_416, il_417, il_431, il_501, il_505, il_2000, if_pos, if_neg, Option.bind_some, x_let, x_bind2_some, x_opt]
    · rw [q_dec, if_neg h1]
      have hb := hG.by (show i < n by omega)
      have hg := hG.get (show i < n by omega)
      obtain ⟨d, hd⟩ : ∃ d, t - i = d + 1 := ⟨t - i - 1, by omega⟩
      rw [hd] at hv hq
      rw [s_first] at hq
      obtain ⟨v1, v2⟩ := s_tgt_step hv
      by_cases h2 : f i = 63
      · rw [h2] at hq
        simp at hq
        refine ⟨σ, ?_, by rw [if_pos h2, List.append_nil]; exact hL⟩
        rw [x_Request_takePath_3]
        simp (disch := omega) only [iN_lt, iN_le, iN_eq, iN_add, iN_sub, iN_mul, iN_in, iN_clamp, iN_1a, iN_1e, iN_1l, iN_l1, iN_0e, iN_0l, iN_l0, iN_pred, iN_sub1, iN_1le, il_2, il_3, il_4, il_5, il_6, il_7, il_8, il_9, il_10, il_12, il_13, il_16, il_20, il_32, il_34, il_37, il_42, il_44, il_45, il_46, il_47, il_48, il_49, il_57, il_58, il_59, il_63, il_80, il_97, il_200, il_205, il_400, il_404, il_405, il_413, il_414, il_416, il_417, il_431, il_501, il_505, il_2000, if_pos, if_neg, Option.bind_some, x_let, x_bind2_some, x_opt]
      · have hq2 : s_first (fun c => c == 63) f (i + 1) d = q := by
          rw [if_neg (by simpa using h2)] at hq
          exact hq
        have hqi := s_first_le (fun c => c == 63) f d (i + 1)
        rw [if_neg h2]
        by_cases h3 : f i = 37
        · obtain ⟨w1, w2, w3⟩ := v2 h3
          obtain ⟨d2, hd2⟩ : ∃ d2, d = d2 + 2 := ⟨d - 2, by omega⟩
          subst hd2
          have v3 := (s_tgt_step v1).1
          have v4 := (s_tgt_step v3).1
          have hq3 : s_first (fun c => c == 63) f (i + 3) d2 = q := by
            rw [show d2 + 2 = d2 + 1 + 1 from rfl, s_first, s_first] at hq2
            rw [if_neg (by simpa using k_hex_ne w2), if_neg (by simpa using k_hex_ne w3)] at hq2
            exact hq2
          have hqi3 := s_first_le (fun c => c == 63) f d2 (i + 3)
          have b1 := hG.by (show i + 1 < n by omega)
          have b2 := hG.by (show i + 2 < n by omega)
          have g1 := hG.get (show i + 1 < n by omega)
          have g2 := hG.get (show i + 2 < n by omega)
          obtain ⟨σ1, a1, a2'⟩ := hL.add (b := 16 * k_hex (f (i + 1)) + k_hex (f (i + 2))) (by omega) (by rw [hal]; omega)
          have fp := fp_Bytes_add _ _ _ a1
          obtain ⟨σ2, m1, m2⟩ := ih (i + 3) y _ σ1 (hG.of (fp.1 _ _ (by simp)) (fp.2.1 _ (by simp))) a2' (by omega) (by omega) (by omega) (by rw [show t - (i + 3) = d2 by omega]; exact v4) (by rw [show t - (i + 3) = d2 by omega]; exact hq3) (by rw [List.length_append, List.length_singleton]; omega)
          refine ⟨σ2, ?_, by rw [if_pos h3, List.append_cons]; exact m2⟩
          rw [← m1, x_Request_takePath_3]
          simp (disch := omega) only [iN_lt, iN_le, iN_eq, iN_add, iN_sub, iN_mul, iN_in, iN_clamp, iN_1a, iN_1e, iN_1l, iN_l1, iN_0e, iN_0l, iN_l0, iN_pred, iN_sub1, iN_1le, il_2, il_3, il_4, il_5, il_6, il_7, il_8, il_9, il_10, il_12, il_13, il_16, il_20, il_32, il_34, il_37, il_42, il_44, il_45, il_46, il_47, il_48, il_49, il_57, il_58, il_59, il_63, il_80, il_97, il_200, il_205, il_400, il_404, il_405, il_413, il_414, il_416, il_417, il_431, il_501, il_505, il_2000, if_pos, if_neg, Option.bind_some, x_let, x_bind2_some, x_opt, hg, h3, g1, g2, c_hex _ b1, c_hex _ b2, hx_iN w2, hx_iN w3, x_Request_takePath_55, a1, Nat.add_assoc, Nat.reduceAdd, decide_true, decide_false, bi_t, bi_f, i10, i1n, eq_self, if_true, if_false, bi_bt, x_b0, x_b1, Bool.true_and, Bool.false_and, Bool.and_true, Bool.and_false, Bool.and_self]
        · obtain ⟨σ1, a1, a2'⟩ := hL.add (b := f i) hb (by rw [hal]; omega)
          have fp := fp_Bytes_add _ _ _ a1
          obtain ⟨σ2, m1, m2⟩ := ih (i + 1) y _ σ1 (hG.of (fp.1 _ _ (by simp)) (fp.2.1 _ (by simp))) a2' (by omega) (by omega) (by omega) (by rw [show t - (i + 1) = d by omega]; exact v1) (by rw [show t - (i + 1) = d by omega]; exact hq2) (by rw [List.length_append, List.length_singleton]; omega)
          refine ⟨σ2, ?_, by rw [if_neg h3, List.append_cons]; exact m2⟩
          rw [← m1, x_Request_takePath_3]
          simp (disch := omega) only [iN_lt, iN_le, iN_eq, iN_add, iN_sub, iN_mul, iN_in, iN_clamp, iN_1a, iN_1e, iN_1l, iN_l1, iN_0e, iN_0l, iN_l0, iN_pred, iN_sub1, iN_1le, il_2, il_3, il_4, il_5, il_6, il_7, il_8, il_9, il_10, il_12, il_13, il_16, il_20, il_32, il_34, il_37, il_42, il_44, il_45, il_46, il_47, il_48, il_49, il_57, il_58, il_59, il_63, il_80, il_97, il_200, il_205, il_400, il_404, il_405, il_413, il_414, il_416, il_417, il_431, il_501, il_505, il_2000, if_pos, if_neg, Option.bind_some, x_let, x_bind2_some, x_opt, hg, x_Request_takePath_55, a1]
/-- the three spaces -/
def q_one (f : Nat → Nat) (n : Nat) : Nat := s_first (fun c => c == 32) f 0 n
def q_two (f : Nat → Nat) (n : Nat) : Nat := if q_one f n < n then s_first (fun c => c == 32) f (q_one f n + 1) (n - (q_one f n + 1)) else n
def q_thr (f : Nat → Nat) (n : Nat) : Nat := s_first (fun c => c == 32) f (q_two f n + 1) (n - (q_two f n + 1))
theorem q_one_le (f : Nat → Nat) (n : Nat) : q_one f n ≤ n := by
  have := (s_first_le (fun c => c == 32) f n 0).2
  unfold q_one
  omega
theorem q_two_le (f : Nat → Nat) (n : Nat) : q_one f n ≤ q_two f n ∧ q_two f n ≤ n ∧ (q_two f n < n → q_one f n < q_two f n) := by
  have h1 := q_one_le f n
  unfold q_two
  by_cases h : q_one f n < n
  · rw [if_pos h]
    have := s_first_le (fun c => c == 32) f (n - (q_one f n + 1)) (q_one f n + 1)
    omega
  · rw [if_neg h]
    omega
theorem q_thr_le (f : Nat → Nat) (n : Nat) (h : q_two f n < n) : q_thr f n ≤ n := by
  have := s_first_le (fun c => c == 32) f (n - (q_two f n + 1)) (q_two f n + 1)
  unfold q_thr
  omega
def q_shape (f : Nat → Nat) (n : Nat) : Bool := decide (q_one f n ≤ 7) && ((decide (0 < q_one f n) && s_all k_tok f 0 (q_one f n)) && ((decide (n - (q_two f n + 1) = 8) && s_ver f (q_two f n + 1)) && (decide (0 < q_two f n - (q_one f n + 1)) && s_tgt f (q_one f n + 1) (q_two f n - (q_one f n + 1)))))
def q_star (f : Nat → Nat) (n : Nat) : Bool := decide (q_m (sl f 0 (q_one f n)) = some 5) && decide (sl f (q_one f n + 1) (q_two f n - (q_one f n + 1)) = [42])
/-- 0, or the number of the error -/
def q_req (f : Nat → Nat) (n : Nat) : Nat :=
  if ¬ (q_two f n < n ∧ q_thr f n = n) then 400
  else if q_shape f n = false then 400
  else if ¬ f (n - 3) = 49 then 505
  else if q_m (sl f 0 (q_one f n)) = none then 501
  else if ¬ f (q_one f n + 1) = 47 ∧ q_star f n = false then 400
  else 0
theorem q_m_lt {u : List Nat} {m : Nat} (h : q_m u = some m) : m < 7 := by
  unfold q_m at h
  repeat (split at h; · cases h; decide)
  cases h
theorem x_e7_lt {m : Nat} (h : m < 7) : x_e7 (some m) := by
  simp [x_e7, h]
def c_tail (n one two : Int32) (σ : St) (r114 : Option Nat) : Option (Int32 × St) := x_let (x_updQ σ r114) (fun (s117 : St) => (if s117.2.2.2.1 = none then some ((501 : Int32), s117) else (if x_e7 s117.2.2.2.1 then (if s117.2.2.2.1 = (some 5) then (Option.bind (x_Text_isExactly 28 (one + (1 : Int32)) two 4 s117) (fun r149 => (if r149 = 0 then x_Request_takeLine_159 28 n one two s117 else x_Request_takeLine_160 28 n one two (1 : Int32) s117))) else x_Request_takeLine_159 28 n one two s117) else none)))
theorem c_tailN (n one two : Int32) (σ : St) : c_tail n one two σ none = some (501, x_updQ σ none) := rfl
theorem c_tailS {n one two : Int32} {σ : St} {m : Nat} (hm : m < 7) {r : Bool} (hx : x_Text_isExactly 28 (one + (1 : Int32)) two 4 (x_updQ σ (some m)) = some (bi r)) : c_tail n one two σ (some m) = x_Request_takeLine_160 28 n one two (bi (decide (m = 5) && r)) (x_updQ σ (some m)) := by
  unfold c_tail x_Request_takeLine_159
  simp only [x_let]
  rw [show (x_updQ σ (some m)).2.2.2.1 = some m from rfl, if_neg (by simp), if_pos (x_e7_lt hm), hx]
  by_cases h5 : m = 5
  · rw [if_pos (by rw [h5]), decide_eq_true h5, Option.bind_some]
    cases r <;> rfl
  · rw [if_neg (fun z => h5 (by simpa using z)), decide_eq_false h5]
    rfl
theorem c_pre {σ : St} {n : Nat} {f : Nat → Nat} (hG : Gt σ 28 n f) (hn : n ≤ 80) {one two : Nat} (l1 : one ≤ 7) (l2 : one < two) (l3 : two + 8 < n) (f1 : x_Text_find 28 (iN 32) 0 (iN n) σ = some (iN one)) (f2 : x_Text_find 28 (iN 32) (iN (one + 1)) (iN n) σ = some (iN two)) (f3 : x_Text_find 28 (iN 32) (iN (two + 1)) (iN n) σ = some (iN n)) (t1 : x_Text_isToken 28 0 (iN one) σ = some 1) (t2 : x_Text_isVersion 28 (iN (two + 1)) (iN n) σ = some 1) (t3 : x_Text_isTarget 28 (iN (one + 1)) (iN two) σ = some 1) : x_Request_takeLine 28 σ = if f (n - 3) = 49 then (Option.bind (x_Method_find 28 0 (iN one) σ) (fun r => c_tail (iN n) (iN one) (iN two) σ r)) else some (505, σ) := by
  have b3 := hG.by (show n - 3 < n by omega)
  have g3 := hG.get (show n - 3 < n by omega)
  have e3 : (iN n - (3 : Int32)) = iN (n - 3) := iN_sub (b := 3) (by omega)
  unfold x_Request_takeLine c_tail
  simp only [x_let]
  rw [hG.1, show (32 : Int32) = iN 32 from rfl, f1, Option.bind_some, iN_1a, f2, Option.bind_some, if_neg (mt (iN_le (by omega) (by omega)).mp (by omega)), iN_1a, f3, Option.bind_some, if_pos ((iN_le (by omega) (by omega)).mpr (by omega)), if_neg (show ¬ (7 : Int32) < iN one from mt (iN_lt (a := 7) (by omega) (by omega)).mp (by omega)), t1, Option.bind_some, if_neg (by decide), t2, Option.bind_some, if_neg (by decide), t3, Option.bind_some, if_neg (by decide), e3, g3, Option.bind_some]
  by_cases h5 : f (n - 3) = 49
  · rw [if_pos h5, if_pos (show iN (f (n - 3)) = 49 by rw [h5]; rfl)]
  · rw [if_neg h5, if_neg (show ¬ iN (f (n - 3)) = 49 from mt (iN_eq (b := 49) (by omega) (by omega)).mp h5)]
set_option maxHeartbeats 2000000 in
theorem c_takeLine {σ : St} {n : Nat} {f : Nat → Nat} (hG : Gt σ 28 n f) (hn : n ≤ 80) (hP : GL σ 40 []) : ∃ σ', x_Request_takeLine 28 σ = some (iN (q_req f n), σ') ∧ (q_req f n = 0 → σ'.2.2.2.1 = q_m (sl f 0 (q_one f n)) ∧ σ'.1 30 4 = iN (f (n - 1)) ∧ GL σ' 40 (q_dec f (q_two f n) (q_two f n - (q_one f n + 1)) (q_one f n + 1))) := by
  have l1 := q_one_le f n
  obtain ⟨l2, l3, l4⟩ := q_two_le f n
  have f1 := c_find hG (b := 32) (i := 0) (d := n) (by decide) (by omega)
  rw [Nat.zero_add, show iN 32 = (32 : Int32) from rfl, show iN 0 = (0 : Int32) from rfl] at f1
  have f2 : x_Text_find 28 (iN 32) (iN (q_one f n + 1)) (iN n) σ = some (iN (q_two f n)) := by
    unfold q_two
    by_cases h : q_one f n < n
    · rw [if_pos h]
      have := c_find hG (b := 32) (i := q_one f n + 1) (d := n - (q_one f n + 1)) (by decide) (by omega)
      rw [show q_one f n + 1 + (n - (q_one f n + 1)) = n by omega] at this
      exact this
    · rw [if_neg h]
      exact c_findX (by omega) (by omega)
  have f1' : x_Text_find 28 (iN 32) 0 (iN n) σ = some (iN (q_one f n)) := f1
  unfold q_req
  by_cases h1 : q_two f n < n
  · have f3 : x_Text_find 28 (iN 32) (iN (q_two f n + 1)) (iN n) σ = some (iN (q_thr f n)) := by
      have := c_find hG (b := 32) (i := q_two f n + 1) (d := n - (q_two f n + 1)) (by decide) (by omega)
      rw [show q_two f n + 1 + (n - (q_two f n + 1)) = n by omega] at this
      exact this
    have l5 := q_thr_le f n h1
    by_cases h2 : q_thr f n = n
    · rw [if_neg (by simp [h1, h2])]
      have t1 := c_isToken hG (i := 0) (d := q_one f n) (by omega)
      rw [Nat.zero_add, show iN 0 = (0 : Int32) from rfl] at t1
      have t2 := c_isVersion hG (i := q_two f n + 1) (d := n - (q_two f n + 1)) (by omega)
      rw [show q_two f n + 1 + (n - (q_two f n + 1)) = n by omega] at t2
      have hlt := l4 h1
      have t3 := c_isTarget hG (i := q_one f n + 1) (d := q_two f n - (q_one f n + 1)) (by omega)
      rw [show q_one f n + 1 + (q_two f n - (q_one f n + 1)) = q_two f n by omega] at t3
      cases hs : q_shape f n
      · refine ⟨σ, ?_, fun z => by simp at z⟩
        rw [if_pos rfl]
        unfold q_shape at hs
        by_cases s1 : q_one f n ≤ 7
        · rw [decide_eq_true s1, Bool.true_and] at hs
          cases s2 : (decide (0 < q_one f n) && s_all k_tok f 0 (q_one f n))
          · rw [s2] at t1
            unfold x_Request_takeLine
            simp only [x_let]
            rw [hG.1, show (32 : Int32) = iN 32 from rfl, f1', Option.bind_some, iN_1a, f2, Option.bind_some, if_neg (mt (iN_le (by omega) (by omega)).mp (by omega)), iN_1a, f3, Option.bind_some, if_pos ((iN_le (by omega) (by omega)).mpr (by omega)), if_neg (show ¬ (7 : Int32) < iN (q_one f n) from mt (iN_lt (a := 7) (by omega) (by omega)).mp (by omega)), t1, Option.bind_some, bi_f, if_pos rfl]
            rfl
          · cases s3 : (decide (n - (q_two f n + 1) = 8) && s_ver f (q_two f n + 1))
            · rw [s2] at t1
              rw [s3] at t2
              unfold x_Request_takeLine
              simp only [x_let]
              rw [hG.1, show (32 : Int32) = iN 32 from rfl, f1', Option.bind_some, iN_1a, f2, Option.bind_some, if_neg (mt (iN_le (by omega) (by omega)).mp (by omega)), iN_1a, f3, Option.bind_some, if_pos ((iN_le (by omega) (by omega)).mpr (by omega)), if_neg (show ¬ (7 : Int32) < iN (q_one f n) from mt (iN_lt (a := 7) (by omega) (by omega)).mp (by omega)), t1, Option.bind_some, bi_t, if_neg (show ¬ (1 : Int32) = 0 by decide), t2, Option.bind_some, bi_f, if_pos rfl]
              rfl
            · rw [s2, s3, Bool.true_and, Bool.true_and] at hs
              rw [s2] at t1
              rw [s3] at t2
              rw [hs] at t3
              unfold x_Request_takeLine
              simp only [x_let]
              rw [hG.1, show (32 : Int32) = iN 32 from rfl, f1', Option.bind_some, iN_1a, f2, Option.bind_some, if_neg (mt (iN_le (by omega) (by omega)).mp (by omega)), iN_1a, f3, Option.bind_some, if_pos ((iN_le (by omega) (by omega)).mpr (by omega)), if_neg (show ¬ (7 : Int32) < iN (q_one f n) from mt (iN_lt (a := 7) (by omega) (by omega)).mp (by omega)), t1, Option.bind_some, bi_t, if_neg (show ¬ (1 : Int32) = 0 by decide), t2, Option.bind_some, bi_t, if_neg (show ¬ (1 : Int32) = 0 by decide), t3, Option.bind_some, bi_f, if_pos rfl]
              rfl
        · unfold x_Request_takeLine
          simp only [x_let]
          rw [hG.1, show (32 : Int32) = iN 32 from rfl, f1', Option.bind_some, iN_1a, f2, Option.bind_some, if_neg (mt (iN_le (by omega) (by omega)).mp (by omega)), iN_1a, f3, Option.bind_some, if_pos ((iN_le (by omega) (by omega)).mpr (by omega)), if_pos (show (7 : Int32) < iN (q_one f n) from (iN_lt (a := 7) (by omega) (by omega)).mpr (by omega))]
          rfl
      · rw [if_neg (by simp)]
        unfold q_shape at hs
        simp only [Bool.and_eq_true, decide_eq_true_eq] at hs
        obtain ⟨s1, ⟨s2, s3⟩, ⟨s4, s5⟩, s6, s7⟩ := hs
        rw [decide_eq_true s2, s3] at t1
        rw [decide_eq_true s4, s5] at t2
        rw [decide_eq_true s6, s7] at t3
        have pre := c_pre hG hn s1 hlt (by omega) f1' f2 (by rw [h2] at f3; exact f3) t1 t2 t3
        rw [pre]
        by_cases h5 : f (n - 3) = 49
        · rw [if_pos h5, if_neg (by simp [h5])]
          have hm := c_method hG (d := q_one f n) (by omega)
          rw [hm, Option.bind_some]
          cases hq : q_m (sl f 0 (q_one f n)) with
          | none =>
            refine ⟨x_updQ σ none, ?_, fun z => by simp at z⟩
            rw [if_pos rfl, c_tailN]
            rfl
          | some m =>
            have hm7 := q_m_lt hq
            rw [if_neg (by simp)]
            have hG1 : Gt (x_updQ σ (some m)) 28 n f := hG.of rfl rfl
            have hP1 : GL (x_updQ σ (some m)) 40 [] := hP.of rfl rfl
            have gb := hG1.get (show q_one f n + 1 < n by omega)
            have bb := hG.by (show q_one f n + 1 < n by omega)
            have ex := ce_isExactly hG1 (w := 4) (i := q_one f n + 1) (d := q_two f n - (q_one f n + 1)) (by decide) (by omega)
            rw [show q_one f n + 1 + (q_two f n - (q_one f n + 1)) = q_two f n by omega, ← iN_1a] at ex
            have ge := hG1.get (show n - 1 < n by omega)
            have good : ∃ σ', x_Request_takeLine_183 28 (iN n) (iN (q_one f n)) (iN (q_two f n)) (x_updQ σ (some m)) = some (0, σ') ∧ (σ'.2.2.2.1 = some m ∧ σ'.1 30 4 = iN (f (n - 1)) ∧ GL σ' 40 (q_dec f (q_two f n) (q_two f n - (q_one f n + 1)) (q_one f n + 1))) := by
              generalize hs2 : x_updR (x_updQ σ (some m)) 30 4 (iN (f (n - 1))) = s2
              have hG2 : Gt s2 28 n f := by rw [← hs2]; exact hG1.of (by simp [x_updR]) rfl
              have hP2 : GL s2 40 [] := by rw [← hs2]; exact hP1.of (by simp [x_updR]) rfl
              have ff := c_find hG2 (b := 63) (i := q_one f n + 1) (d := q_two f n - (q_one f n + 1)) (by decide) (by omega)
              rw [show q_one f n + 1 + (q_two f n - (q_one f n + 1)) = q_two f n by omega] at ff
              obtain ⟨σ', p1, p2⟩ := c_path0 hn (iN (q_one f n + 1)) (t := q_two f n) (q := s_first (fun c => c == 63) f (q_one f n + 1) (q_two f n - (q_one f n + 1))) (by omega) (q_two f n - (q_one f n + 1)) (q_one f n + 1) x_fuel [] s2 hG2 hP2 (by omega) (Nat.le_refl _) (by unfold x_fuel; omega) s7 rfl (by simp; omega)
              have p1' : x_Request_takePath 28 (iN (q_one f n + 1)) (iN (s_first (fun c => c == 63) f (q_one f n + 1) (q_two f n - (q_one f n + 1)))) s2 = some σ' := p1
              have fp := fp_Request_takePath _ _ _ _ p1'
              refine ⟨σ', ?_, ?_, ?_, p2⟩
              · unfold x_Request_takeLine_183
                simp (disch := omega) only [iN_lt, iN_le, iN_eq, iN_add, iN_sub, iN_mul, iN_in, iN_clamp, iN_1a, iN_1e, iN_1l, iN_l1, iN_0e, iN_0l, iN_l0, iN_pred, iN_sub1, iN_1le, il_2, il_3, il_4, il_5, il_6, il_7, il_8, il_9, il_10, il_12, il_13, il_16, il_20, il_32, il_34, il_37, il_42, il_44, il_45, il_46, il_47, il_48, il_49, il_57, il_58, il_59, il_63, il_80, il_97, il_200, il_205, il_400, il_404, il_405, il_413, il_414, il_416, il_417, il_431, il_501, il_505, il_2000, if_pos, if_neg, Option.bind_some, x_let, x_bind2_some, x_opt, ge, hs2, ff, p1']
              · have := fp.2.2.2.1
                simp at this
                rw [this, ← hs2]
                rfl
              · rw [fp.1 _ _ (by simp), ← hs2]
                simp [x_updR]
            obtain ⟨σ', k1, k2, k3, k4⟩ := good
            have key : ∀ r, x_Request_takeLine_160 28 (iN n) (iN (q_one f n)) (iN (q_two f n)) (bi r) (x_updQ σ (some m)) = if ¬ f (q_one f n + 1) = 47 ∧ r = false then some (400, x_updQ σ (some m)) else some (0, σ') := by
              intro r
              unfold x_Request_takeLine_160
              by_cases h47 : f (q_one f n + 1) = 47
              · simp (disch := omega) only [iN_lt, iN_le, iN_eq, iN_add, iN_sub, iN_mul, iN_in, iN_clamp, iN_1a, iN_1e, iN_1l, iN_l1, iN_0e, iN_0l, iN_l0, iN_pred, iN_sub1, iN_1le, il_2, il_3, il_4, il_5, il_6, il_7, il_8, il_9, il_10, il_12, il_13, il_16, il_20, il_32, il_34, il_37, il_42, il_44, il_45, il_46, il_47, il_48, il_49, il_57, il_58, il_59, il_63, il_80, il_97, il_200, il_205, il_400, il_404, il_405, il_413, il_414, il_416, il_417, il_431, il_501, il_505, il_2000, if_pos, if_neg, Option.bind_some, x_let, x_bind2_some, x_opt, gb, h47, k1, decide_true, decide_false, bi_t, bi_f, i10, i1n, eq_self, if_true, if_false, bi_bt, x_b0, x_b1, Bool.true_and, Bool.false_and, Bool.and_true, Bool.and_false, Bool.and_self]
                simp
              · cases r
                · simp (disch := omega) only [iN_lt, iN_le, iN_eq, iN_add, iN_sub, iN_mul, iN_in, iN_clamp, iN_1a, iN_1e, iN_1l, iN_l1, iN_0e, iN_0l, iN_l0, iN_pred, iN_sub1, iN_1le, il_2, il_3, il_4, il_5, il_6, il_7, il_8, il_9, il_10, il_12, il_13, il_16, il_20, il_32, il_34, il_37, il_42, il_44, il_45, il_46, il_47, il_48, il_49, il_57, il_58, il_59, il_63, il_80, il_97, il_200, il_205, il_400, il_404, il_405, il_413, il_414, il_416, il_417, il_431, il_501, il_505, il_2000, if_pos, if_neg, Option.bind_some, x_let, x_bind2_some, x_opt, gb, decide_true, decide_false, bi_t, bi_f, i10, i1n, eq_self, if_true, if_false, bi_bt, x_b0, x_b1, Bool.true_and, Bool.false_and, Bool.and_true, Bool.and_false, Bool.and_self]
                  simp [h47]
                · simp (disch := omega) only [iN_lt, iN_le, iN_eq, iN_add, iN_sub, iN_mul, iN_in, iN_clamp, iN_1a, iN_1e, iN_1l, iN_l1, iN_0e, iN_0l, iN_l0, iN_pred, iN_sub1, iN_1le, il_2, il_3, il_4, il_5, il_6, il_7, il_8, il_9, il_10, il_12, il_13, il_16, il_20, il_32, il_34, il_37, il_42, il_44, il_45, il_46, il_47, il_48, il_49, il_57, il_58, il_59, il_63, il_80, il_97, il_200, il_205, il_400, il_404, il_405, il_413, il_414, il_416, il_417, il_431, il_501, il_505, il_2000, if_pos, if_neg, Option.bind_some, x_let, x_bind2_some, x_opt, gb, k1, decide_true, decide_false, bi_t, bi_f, i10, i1n, eq_self, if_true, if_false, bi_bt, x_b0, x_b1, Bool.true_and, Bool.false_and, Bool.and_true, Bool.and_false, Bool.and_self]
                  simp
            have hst : q_star f n = (decide (m = 5) && decide (sl f (q_one f n + 1) (q_two f n - (q_one f n + 1)) = wd_ 4)) := by
              unfold q_star
              rw [hq, show wd_ 4 = [42] by decide]
              congr 1
              simp
            rw [c_tailS hm7 ex, ← hst, key]
            by_cases hz : ¬ f (q_one f n + 1) = 47 ∧ q_star f n = false
            · rw [if_pos hz, if_pos hz]
              exact ⟨_, rfl, fun z => by simp at z⟩
            · rw [if_neg hz, if_neg hz]
              exact ⟨_, rfl, fun _ => ⟨k2, k3, k4⟩⟩
        · rw [if_neg h5, if_pos h5]
          exact ⟨σ, rfl, fun z => by simp at z⟩
    · rw [if_pos (by simp [h2])]
      refine ⟨σ, ?_, fun z => by simp at z⟩
      unfold x_Request_takeLine
      simp only [x_let]
      rw [hG.1, show (32 : Int32) = iN 32 from rfl, f1', Option.bind_some, iN_1a, f2, Option.bind_some, if_neg (mt (iN_le (by omega) (by omega)).mp (by omega)), iN_1a, f3, Option.bind_some, if_neg (mt (iN_le (by omega) (by omega)).mp (by omega))]
      rfl
  · rw [if_pos (by simp [h1])]
    refine ⟨σ, ?_, fun z => by simp at z⟩
    unfold x_Request_takeLine
    simp only [x_let]
    rw [hG.1, show (32 : Int32) = iN 32 from rfl, f1', Option.bind_some, iN_1a, f2, Option.bind_some, if_pos ((iN_le (by omega) (by omega)).mpr (by omega))]
    rfl
