/-! literals, and single steps -/
theorem x_bind2_some {α γ β : Type} (a : α) (c : γ) (f : α → γ → Option β) : x_bind2 (some (a, c)) f = f a c := rfl
theorem nbeq (a b : Nat) : (a == b) = decide (a = b) := by
  by_cases h : a = b <;> simp [h]
theorem il_2 : (2 : Int32) = iN 2 := rfl
theorem il_3 : (3 : Int32) = iN 3 := rfl
theorem il_4 : (4 : Int32) = iN 4 := rfl
theorem il_5 : (5 : Int32) = iN 5 := rfl
theorem il_6 : (6 : Int32) = iN 6 := rfl
theorem il_7 : (7 : Int32) = iN 7 := rfl
theorem il_8 : (8 : Int32) = iN 8 := rfl
theorem il_9 : (9 : Int32) = iN 9 := rfl
theorem il_10 : (10 : Int32) = iN 10 := rfl
theorem il_12 : (12 : Int32) = iN 12 := rfl
theorem il_13 : (13 : Int32) = iN 13 := rfl
theorem il_16 : (16 : Int32) = iN 16 := rfl
theorem il_20 : (20 : Int32) = iN 20 := rfl
theorem il_32 : (32 : Int32) = iN 32 := rfl
theorem il_34 : (34 : Int32) = iN 34 := rfl
theorem il_37 : (37 : Int32) = iN 37 := rfl
theorem il_42 : (42 : Int32) = iN 42 := rfl
theorem il_44 : (44 : Int32) = iN 44 := rfl
theorem il_45 : (45 : Int32) = iN 45 := rfl
theorem il_46 : (46 : Int32) = iN 46 := rfl
theorem il_47 : (47 : Int32) = iN 47 := rfl
theorem il_48 : (48 : Int32) = iN 48 := rfl
theorem il_49 : (49 : Int32) = iN 49 := rfl
theorem il_57 : (57 : Int32) = iN 57 := rfl
theorem il_58 : (58 : Int32) = iN 58 := rfl
theorem il_59 : (59 : Int32) = iN 59 := rfl
theorem il_63 : (63 : Int32) = iN 63 := rfl
theorem il_80 : (80 : Int32) = iN 80 := rfl
theorem il_97 : (97 : Int32) = iN 97 := rfl
theorem il_200 : (200 : Int32) = iN 200 := rfl
theorem il_205 : (205 : Int32) = iN 205 := rfl
theorem il_400 : (400 : Int32) = iN 400 := rfl
theorem il_404 : (404 : Int32) = iN 404 := rfl
theorem il_405 : (405 : Int32) = iN 405 := rfl
theorem il_413 : (413 : Int32) = iN 413 := rfl
theorem il_414 : (414 : Int32) = iN 414 := rfl
theorem il_416 : (416 : Int32) = iN 416 := rfl
theorem il_417 : (417 : Int32) = iN 417 := rfl
theorem il_431 : (431 : Int32) = iN 431 := rfl
theorem il_501 : (501 : Int32) = iN 501 := rfl
theorem il_505 : (505 : Int32) = iN 505 := rfl
theorem il_2000 : (2000 : Int32) = iN 2000 := rfl
theorem iN_1a {a : Nat} : iN a + (1 : Int32) = iN (a + 1) := iN_add a 1
theorem iN_1e {a : Nat} (h : a < 2147483648) : iN a = (1 : Int32) ↔ a = 1 := iN_eq (b := 1) h (by omega)
theorem iN_1l {a : Nat} (h : a < 2147483648) : iN a < (1 : Int32) ↔ a < 1 := iN_lt (b := 1) h (by omega)
theorem iN_l1 {a : Nat} (h : a < 2147483648) : (1 : Int32) < iN a ↔ 1 < a := iN_lt (a := 1) (by omega) h
theorem iN_1le {a : Nat} (h : a < 2147483648) : iN a ≤ (1 : Int32) ↔ a ≤ 1 := iN_le (b := 1) h (by omega)
theorem iN_0e {a : Nat} (h : a < 2147483648) : iN a = (0 : Int32) ↔ a = 0 := iN_eq0 h
theorem iN_0l {a : Nat} (h : a < 2147483648) : iN a ≤ (0 : Int32) ↔ a = 0 := iN_le0 h
theorem iN_l0 {a : Nat} (h : a < 2147483648) : iN a < (0 : Int32) ↔ a < 0 := iN_lt (b := 0) h (by omega)
theorem iN_sub1 {a : Nat} (h : 1 ≤ a) : iN a - (1 : Int32) = iN (a - 1) := iN_sub (b := 1) h

theorem m_find0 {σ : St} {n : Nat} {f : Nat → Nat} (hL : σ.1 51 10 = iN n) (hn : n ≤ 80) (hR : ∀ j, j < n → σ.2.1 57 j = iN (f j) ∧ f j < 256) {b : Nat} (hb : b < 256) (a2 : Int32) : ∀ d i fuel, i + d = n → d < fuel → x_Model_find_2 (iN b) a2 σ fuel (iN i) = some (iN (s_first (fun c => c == b) f i d)) := by
  intro d
  induction d with
  | zero =>
    intro i fuel h1 hf
    obtain ⟨k, rfl⟩ := x_fuelS (show 0 < fuel by omega)
    unfold s_first
    simp (disch := omega) only [iN_lt, iN_le, iN_eq, iN_add, iN_sub, iN_mul, iN_in, iN_clamp, iN_1a, iN_1e, iN_1l, iN_l1, iN_0e, iN_0l, iN_l0, iN_pred, iN_sub1, iN_1le, il_2, il_3, il_4, il_5, il_6, il_7, il_8, il_9, il_10, il_12, il_13, il_16, il_20, il_32, il_34, il_37, il_42, il_44, il_45, il_46, il_47, il_48, il_49, il_57, il_58, il_59, il_63, il_80, il_97, il_200, il_205, il_400, il_404, il_405, il_413, il_414, il_416, il_417, il_431, il_501, il_505, il_2000, if_pos, if_neg, Option.bind_some, x_let, x_bind2_some, x_opt, x_Model_find_2, hL]
  | succ d ih =>
    intro i fuel h1 hf
    obtain ⟨k, rfl⟩ := x_fuelS (show 0 < fuel by omega)
    have hi := (hR i (by omega)).1
    have hi2 := (hR i (by omega)).2
    unfold s_first
    simp (disch := omega) only [iN_lt, iN_le, iN_eq, iN_add, iN_sub, iN_mul, iN_in, iN_clamp, iN_1a, iN_1e, iN_1l, iN_l1, iN_0e, iN_0l, iN_l0, iN_pred, iN_sub1, iN_1le, il_2, il_3, il_4, il_5, il_6, il_7, il_8, il_9, il_10, il_12, il_13, il_16, il_20, il_32, il_34, il_37, il_42, il_44, il_45, il_46, il_47, il_48, il_49, il_57, il_58, il_59, il_63, il_80, il_97, il_200, il_205, il_400, il_404, il_405, il_413, il_414, il_416, il_417, il_431, il_501, il_505, il_2000, if_pos, if_neg, Option.bind_some, x_let, x_bind2_some, x_opt, x_Model_find_2, hL, hi, ih]
    by_cases hc : f i = b
    · simp [hc]
    · simp [hc]
theorem i10 : ((1 : Int32) = 0) = False := eq_false (by decide)
theorem i1n {p : Prop} [Decidable p] : (if p then some (1 : Int32) else some (0 : Int32)) = some (bi (decide p)) := by
  by_cases h : p <;> simp [h, bi]
theorem bi_bt (p : Bool) : x_bit (bi p) = True := eq_true (bi_bit p)
theorem x_b0 : x_bit 0 = True := eq_true (Or.inl rfl)
theorem x_b1 : x_bit 1 = True := eq_true (Or.inr rfl)
/-- a row of bytes in an array of the reference: array a, from b on, n bytes f -/
def Mr (σ : St) (a b n : Nat) (f : Nat → Nat) : Prop := ∀ j, j < n → σ.2.1 a (b + j) = iN (f j) ∧ f j < 256
theorem Mr.of {σ σ' : St} {a b n : Nat} {f : Nat → Nat} (h : Mr σ a b n f) (e : σ'.2.1 a = σ.2.1 a) : Mr σ' a b n f := fun j hj => by rw [e]; exact h j hj
/-- the line of the reference -/
def Ml (σ : St) (n : Nat) (f : Nat → Nat) : Prop := σ.1 51 10 = iN n ∧ n ≤ 80 ∧ ∀ j, j < n → σ.2.1 57 j = iN (f j) ∧ f j < 256
theorem Ml.of {σ σ' : St} {n : Nat} {f : Nat → Nat} (h : Ml σ n f) (e1 : σ'.1 51 10 = σ.1 51 10) (e2 : σ'.2.1 57 = σ.2.1 57) : Ml σ' n f := ⟨by rw [e1]; exact h.1, h.2.1, fun j hj => by rw [e2]; exact h.2.2 j hj⟩
theorem m_find {σ : St} {n : Nat} {f : Nat → Nat} (h : Ml σ n f) {b i : Nat} (hb : b < 256) (hi : i ≤ n) : x_Model_find (iN b) (iN i) σ = some (iN (s_first (fun c => c == b) f i (n - i))) := by
  have h2 := h.2.1
  exact m_find0 h.1 h.2.1 h.2.2 hb _ (n - i) i x_fuel (by omega) (by unfold x_fuel; omega)
theorem m_tok0 {σ : St} {n : Nat} {f : Nat → Nat} (h : Ml σ n f) : ∀ d i p fuel, i + d ≤ n → d < fuel → x_Model_isToken_12 (iN (i + d)) σ fuel (bi p) (iN i) = some (bi (p && s_all k_tok f i d)) := by
  obtain ⟨hL, hn, hR⟩ := h
  intro d
  induction d with
  | zero =>
    intro i p fuel h1 hf
    obtain ⟨k, rfl⟩ := x_fuelS (show 0 < fuel by omega)
    simp (disch := omega) only [iN_lt, iN_le, iN_eq, iN_add, iN_sub, iN_mul, iN_in, iN_clamp, iN_1a, iN_1e, iN_1l, iN_l1, iN_0e, iN_0l, iN_l0, iN_pred, iN_sub1, iN_1le, il_2, il_3, il_4, il_5, il_6, il_7, il_8, il_9, il_10, il_12, il_13, il_16, il_20, il_32, il_34, il_37, il_42, il_44, il_45, il_46, il_47, il_48, il_49, il_57, il_58, il_59, il_63, il_80, il_97, il_200, il_205, il_400, il_404, il_405, il_413, il_414, il_416, il_417, il_431, il_501, il_505, il_2000, if_pos, if_neg, Option.bind_some, x_let, x_bind2_some, x_opt, x_Model_isToken_12, Nat.add_zero, decide_true, decide_false, bi_t, bi_f, i10, i1n, eq_self, if_true, if_false, bi_bt, x_b0, x_b1, Bool.true_and, Bool.false_and, Bool.and_true, Bool.and_false, Bool.and_self, s_all]
  | succ d ih =>
    intro i p fuel h1 hf
    obtain ⟨k, rfl⟩ := x_fuelS (show 0 < fuel by omega)
    have hi := (hR i (by omega)).1
    have hi2 := (hR i (by omega)).2
    have e0 := ih (i + 1) false k (by omega) (by omega)
    have e1 := ih (i + 1) true k (by omega) (by omega)
    rw [bi_f, show i + 1 + d = i + (d + 1) by omega] at e0
    rw [bi_t, show i + 1 + d = i + (d + 1) by omega] at e1
    cases p <;> cases hk : k_tok (f i) <;> simp (disch := omega) only [iN_lt, iN_le, iN_eq, iN_add, iN_sub, iN_mul, iN_in, iN_clamp, iN_1a, iN_1e, iN_1l, iN_l1, iN_0e, iN_0l, iN_l0, iN_pred, iN_sub1, iN_1le, il_2, il_3, il_4, il_5, il_6, il_7, il_8, il_9, il_10, il_12, il_13, il_16, il_20, il_32, il_34, il_37, il_42, il_44, il_45, il_46, il_47, il_48, il_49, il_57, il_58, il_59, il_63, il_80, il_97, il_200, il_205, il_400, il_404, il_405, il_413, il_414, il_416, il_417, il_431, il_501, il_505, il_2000, if_pos, if_neg, Option.bind_some, x_let, x_bind2_some, x_opt, x_Model_isToken_12, x_Model_isToken_37, x_Model_isToken_38, s_all, hi, m_tok, hk, e0, e1, decide_true, decide_false, bi_t, bi_f, i10, i1n, eq_self, if_true, if_false, bi_bt, x_b0, x_b1, Bool.true_and, Bool.false_and, Bool.and_true, Bool.and_false, Bool.and_self]
theorem m_isToken {σ : St} {n : Nat} {f : Nat → Nat} (h : Ml σ n f) {d : Nat} (hd : d ≤ n) : x_Model_isToken (iN d) σ = some (bi (decide (0 < d) && s_all k_tok f 0 d)) := by
  have h2 := h.2.1
  have e0 := m_tok0 h d 0 false x_fuel (by omega) (by unfold x_fuel; omega)
  have e1 := m_tok0 h d 0 true x_fuel (by omega) (by unfold x_fuel; omega)
  rw [bi_f, Nat.zero_add, show iN 0 = (0 : Int32) from rfl] at e0
  rw [bi_t, Nat.zero_add, show iN 0 = (0 : Int32) from rfl] at e1
  unfold x_Model_isToken x_Model_isToken_9
  by_cases h0 : d = 0
  · subst h0
    simp (disch := omega) only [iN_lt, iN_le, iN_eq, iN_add, iN_sub, iN_mul, iN_in, iN_clamp, iN_1a, iN_1e, iN_1l, iN_l1, iN_0e, iN_0l, iN_l0, iN_pred, iN_sub1, iN_1le, il_2, il_3, il_4, il_5, il_6, il_7, il_8, il_9, il_10, il_12, il_13, il_16, il_20, il_32, il_34, il_37, il_42, il_44, il_45, il_46, il_47, il_48, il_49, il_57, il_58, il_59, il_63, il_80, il_97, il_200, il_205, il_400, il_404, il_405, il_413, il_414, il_416, il_417, il_431, il_501, il_505, il_2000, if_pos, if_neg, Option.bind_some, x_let, x_bind2_some, x_opt, e0, e1, Nat.lt_irrefl, decide_false, decide_true, decide_false, bi_t, bi_f, i10, i1n, eq_self, if_true, if_false, bi_bt, x_b0, x_b1, Bool.true_and, Bool.false_and, Bool.and_true, Bool.and_false, Bool.and_self]
  · simp (disch := omega) only [iN_lt, iN_le, iN_eq, iN_add, iN_sub, iN_mul, iN_in, iN_clamp, iN_1a, iN_1e, iN_1l, iN_l1, iN_0e, iN_0l, iN_l0, iN_pred, iN_sub1, iN_1le, il_2, il_3, il_4, il_5, il_6, il_7, il_8, il_9, il_10, il_12, il_13, il_16, il_20, il_32, il_34, il_37, il_42, il_44, il_45, il_46, il_47, il_48, il_49, il_57, il_58, il_59, il_63, il_80, il_97, il_200, il_205, il_400, il_404, il_405, il_413, il_414, il_416, il_417, il_431, il_501, il_505, il_2000, if_pos, if_neg, Option.bind_some, x_let, x_bind2_some, x_opt, e0, e1, show 0 < d by omega, decide_true, decide_true, decide_false, bi_t, bi_f, i10, i1n, eq_self, if_true, if_false, bi_bt, x_b0, x_b1, Bool.true_and, Bool.false_and, Bool.and_true, Bool.and_false, Bool.and_self]
theorem hx_lt0 {v : Nat} (h : v ≤ 16) : hx v < 0 ↔ ¬ v < 16 := by
  unfold hx
  by_cases hv : v < 16
  · rw [if_pos hv]
    constructor
    · intro q
      exact absurd q (iN_lt0 (by omega))
    · intro q
      omega
  · rw [if_neg hv]
    constructor
    · intro q
      exact hv
    · intro q
      decide
theorem k_tgt37 : k_tgt 37 = false := by decide
theorem m_tgt0 {σ : St} {n : Nat} {f : Nat → Nat} (h : Ml σ n f) (a1 : Int32) : ∀ d i p fuel, i + d ≤ n → d < fuel → x_Model_isTarget_14 a1 (iN (i + d)) σ fuel (bi p) (iN i) = some (bi (p && s_tgt f i d)) := by
  obtain ⟨hL, hn, hR⟩ := h
  intro d
  induction d with
  | zero =>
    intro i p fuel h1 hf
    obtain ⟨k, rfl⟩ := x_fuelS (show 0 < fuel by omega)
    simp (disch := omega) only [iN_lt, iN_le, iN_eq, iN_add, iN_sub, iN_mul, iN_in, iN_clamp, iN_1a, iN_1e, iN_1l, iN_l1, iN_0e, iN_0l, iN_l0, iN_pred, iN_sub1, iN_1le, il_2, il_3, il_4, il_5, il_6, il_7, il_8, il_9, il_10, il_12, il_13, il_16, il_20, il_32, il_34, il_37, il_42, il_44, il_45, il_46, il_47, il_48, il_49, il_57, il_58, il_59, il_63, il_80, il_97, il_200, il_205, il_400, il_404, il_405, il_413, il_414, il_416, il_417, il_431, il_501, il_505, il_2000, if_pos, if_neg, Option.bind_some, x_let, x_bind2_some, x_opt, x_Model_isTarget_14, Nat.add_zero, decide_true, decide_false, bi_t, bi_f, i10, i1n, eq_self, if_true, if_false, bi_bt, x_b0, x_b1, Bool.true_and, Bool.false_and, Bool.and_true, Bool.and_false, Bool.and_self, s_tgt]
  | succ d ih =>
    intro i p fuel h1 hf
    obtain ⟨k, rfl⟩ := x_fuelS (show 0 < fuel by omega)
    have hi := (hR i (by omega)).1
    have hi2 := (hR i (by omega)).2
    have e0 := ih (i + 1) false k (by omega) (by omega)
    have e1 := ih (i + 1) true k (by omega) (by omega)
    rw [bi_f, show i + 1 + d = i + (d + 1) by omega] at e0
    rw [bi_t, show i + 1 + d = i + (d + 1) by omega] at e1
    by_cases h37 : f i = 37
    · have ht : x_Model_isTargetByte (iN 37) = some (bi false) := m_tgt 37 (by decide)
      by_cases hd : 1 < d
      · have q1 := hR (i + 1) (by omega)
        have q2 := hR (i + 2) (by omega)
        have q3 := k_hex_le _ q1.2
        have q4 := k_hex_le _ q2.2
        by_cases g1 : k_hex (f (i + 1)) < 16 <;> by_cases g2 : k_hex (f (i + 2)) < 16 <;> cases p <;> simp (disch := omega) only [iN_lt, iN_le, iN_eq, iN_add, iN_sub, iN_mul, iN_in, iN_clamp, iN_1a, iN_1e, iN_1l, iN_l1, iN_0e, iN_0l, iN_l0, iN_pred, iN_sub1, iN_1le, il_2, il_3, il_4, il_5, il_6, il_7, il_8, il_9, il_10, il_12, il_13, il_16, il_20, il_32, il_34, il_37, il_42, il_44, il_45, il_46, il_47, il_48, il_49, il_57, il_58, il_59, il_63, il_80, il_97, il_200, il_205, il_400, il_404, il_405, il_413, il_414, il_416, il_417, il_431, il_501, il_505, il_2000, if_pos, if_neg, Option.bind_some, x_let, x_bind2_some, x_opt, x_Model_isTarget_14, x_Model_isTarget_74, x_Model_isTarget_75, x_Model_isTarget_99, x_Model_isTarget_103, x_Model_isTarget_104, s_tgt, hi, m_hex, q1.1, q2.1, q1.2, q2.2, h37, hd, g1, g2, ht, hx_lt0, decide_true, decide_false, not_true, not_false_eq_true, e0, e1, decide_true, decide_false, bi_t, bi_f, i10, i1n, eq_self, if_true, if_false, bi_bt, x_b0, x_b1, Bool.true_and, Bool.false_and, Bool.and_true, Bool.and_false, Bool.and_self]
      · cases p <;> simp (disch := omega) only [iN_lt, iN_le, iN_eq, iN_add, iN_sub, iN_mul, iN_in, iN_clamp, iN_1a, iN_1e, iN_1l, iN_l1, iN_0e, iN_0l, iN_l0, iN_pred, iN_sub1, iN_1le, il_2, il_3, il_4, il_5, il_6, il_7, il_8, il_9, il_10, il_12, il_13, il_16, il_20, il_32, il_34, il_37, il_42, il_44, il_45, il_46, il_47, il_48, il_49, il_57, il_58, il_59, il_63, il_80, il_97, il_200, il_205, il_400, il_404, il_405, il_413, il_414, il_416, il_417, il_431, il_501, il_505, il_2000, if_pos, if_neg, Option.bind_some, x_let, x_bind2_some, x_opt, x_Model_isTarget_14, x_Model_isTarget_74, x_Model_isTarget_75, x_Model_isTarget_99, x_Model_isTarget_103, x_Model_isTarget_104, s_tgt, hi, h37, hd, ht, decide_true, decide_false, e0, e1, decide_true, decide_false, bi_t, bi_f, i10, i1n, eq_self, if_true, if_false, bi_bt, x_b0, x_b1, Bool.true_and, Bool.false_and, Bool.and_true, Bool.and_false, Bool.and_self]
    · cases p <;> cases hk : k_tgt (f i) <;> simp (disch := omega) only [iN_lt, iN_le, iN_eq, iN_add, iN_sub, iN_mul, iN_in, iN_clamp, iN_1a, iN_1e, iN_1l, iN_l1, iN_0e, iN_0l, iN_l0, iN_pred, iN_sub1, iN_1le, il_2, il_3, il_4, il_5, il_6, il_7, il_8, il_9, il_10, il_12, il_13, il_16, il_20, il_32, il_34, il_37, il_42, il_44, il_45, il_46, il_47, il_48, il_49, il_57, il_58, il_59, il_63, il_80, il_97, il_200, il_205, il_400, il_404, il_405, il_413, il_414, il_416, il_417, il_431, il_501, il_505, il_2000, if_pos, if_neg, Option.bind_some, x_let, x_bind2_some, x_opt, x_Model_isTarget_14, x_Model_isTarget_74, x_Model_isTarget_75, x_Model_isTarget_99, x_Model_isTarget_103, x_Model_isTarget_104, s_tgt, hi, h37, m_tgt, hk, e0, e1, decide_true, decide_false, bi_t, bi_f, i10, i1n, eq_self, if_true, if_false, bi_bt, x_b0, x_b1, Bool.true_and, Bool.false_and, Bool.and_true, Bool.and_false, Bool.and_self]
theorem m_isTarget {σ : St} {n : Nat} {f : Nat → Nat} (h : Ml σ n f) {i d : Nat} (hd : i + d ≤ n) : x_Model_isTarget (iN i) (iN (i + d)) σ = some (bi (decide (0 < d) && s_tgt f i d)) := by
  have h2 := h.2.1
  have e0 := m_tgt0 h (iN i) d i false x_fuel (by omega) (by unfold x_fuel; omega)
  have e1 := m_tgt0 h (iN i) d i true x_fuel (by omega) (by unfold x_fuel; omega)
  rw [bi_f] at e0
  rw [bi_t] at e1
  unfold x_Model_isTarget x_Model_isTarget_10
  by_cases h0 : d = 0
  · subst h0
    simp (disch := omega) only [iN_lt, iN_le, iN_eq, iN_add, iN_sub, iN_mul, iN_in, iN_clamp, iN_1a, iN_1e, iN_1l, iN_l1, iN_0e, iN_0l, iN_l0, iN_pred, iN_sub1, iN_1le, il_2, il_3, il_4, il_5, il_6, il_7, il_8, il_9, il_10, il_12, il_13, il_16, il_20, il_32, il_34, il_37, il_42, il_44, il_45, il_46, il_47, il_48, il_49, il_57, il_58, il_59, il_63, il_80, il_97, il_200, il_205, il_400, il_404, il_405, il_413, il_414, il_416, il_417, il_431, il_501, il_505, il_2000, if_pos, if_neg, Option.bind_some, x_let, x_bind2_some, x_opt, e0, e1, Nat.lt_irrefl, decide_false, decide_true, decide_false, bi_t, bi_f, i10, i1n, eq_self, if_true, if_false, bi_bt, x_b0, x_b1, Bool.true_and, Bool.false_and, Bool.and_true, Bool.and_false, Bool.and_self]
  · simp (disch := omega) only [iN_lt, iN_le, iN_eq, iN_add, iN_sub, iN_mul, iN_in, iN_clamp, iN_1a, iN_1e, iN_1l, iN_l1, iN_0e, iN_0l, iN_l0, iN_pred, iN_sub1, iN_1le, il_2, il_3, il_4, il_5, il_6, il_7, il_8, il_9, il_10, il_12, il_13, il_16, il_20, il_32, il_34, il_37, il_42, il_44, il_45, il_46, il_47, il_48, il_49, il_57, il_58, il_59, il_63, il_80, il_97, il_200, il_205, il_400, il_404, il_405, il_413, il_414, il_416, il_417, il_431, il_501, il_505, il_2000, if_pos, if_neg, Option.bind_some, x_let, x_bind2_some, x_opt, e0, e1, show 0 < d by omega, decide_true, decide_true, decide_false, bi_t, bi_f, i10, i1n, eq_self, if_true, if_false, bi_bt, x_b0, x_b1, Bool.true_and, Bool.false_and, Bool.and_true, Bool.and_false, Bool.and_self]
