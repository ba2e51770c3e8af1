/-! elements and fields: what they are -/
def s_b (f : Nat → Nat) (i t : Nat) : Nat := s_first (fun c => !k_blank c) f i (t - i)
def s_e (f : Nat → Nat) (i t : Nat) : Nat := s_back f (s_b f i t) (t - s_b f i t)
def s_note (f : Nat → Nat) (i t : Nat) : List (List Nat) := if s_b f i t < s_e f i t then [sl f (s_b f i t) (s_e f i t - s_b f i t)] else []
/-- the elements between i and k + d, where i .. k has been seen and holds no comma -/
def s_el (f : Nat → Nat) : Nat → Nat → Nat → List (List Nat)
  | i, k, 0 => s_note f i k
  | i, k, d + 1 => if f k = 44 then s_note f i k ++ s_el f (k + 1) (k + 1) d else s_el f i (k + 1) d
theorem s_b_le (f : Nat → Nat) (i t : Nat) (h : i ≤ t) : i ≤ s_b f i t ∧ s_b f i t ≤ t := by
  have := s_first_le (fun c => !k_blank c) f (t - i) i
  unfold s_b
  omega
theorem s_e_le (f : Nat → Nat) (i t : Nat) (h : i ≤ t) : s_b f i t ≤ s_e f i t ∧ s_e f i t ≤ t := by
  have h1 := s_b_le f i t h
  have := s_back_le f (s_b f i t) (t - s_b f i t)
  unfold s_e
  omega
theorem s_b_stop (f : Nat → Nat) {i t : Nat} (h : s_b f i t < t) (hi : i ≤ t) : k_blank (f (s_b f i t)) = false := by
  have := s_first_hit (fun c => !k_blank c) f (t - i) i (by unfold s_b at h; omega)
  unfold s_b
  simpa using this
theorem s_first_snoc (p : Nat → Bool) (f : Nat → Nat) : ∀ d i, s_first p f i (d + 1) = if s_first p f i d < i + d then s_first p f i d else if p (f (i + d)) then i + d else i + d + 1 := by
  intro d
  induction d with
  | zero =>
    intro i
    simp [s_first]
  | succ d ih =>
    intro i
    rw [s_first]
    by_cases hp : p (f i) = true
    · rw [if_pos hp]
      have : s_first p f i (d + 1) = i := by rw [s_first, if_pos hp]
      rw [this, if_pos (by omega)]
    · rw [if_neg hp, ih (i + 1)]
      have : s_first p f i (d + 1) = s_first p f (i + 1) d := by rw [s_first, if_neg hp]
      rw [this, show i + 1 + d = i + (d + 1) by omega]
/-- one more byte behind -/
theorem s_b_snoc (f : Nat → Nat) {i t : Nat} (h : i ≤ t) : s_b f i (t + 1) = if s_b f i t < t then s_b f i t else if k_blank (f t) then t + 1 else t := by
  unfold s_b
  rw [show t + 1 - i = t - i + 1 by omega, s_first_snoc, show i + (t - i) = t by omega]
  cases k_blank (f t) <;> simp
theorem s_e_snoc (f : Nat → Nat) {i t : Nat} (h : i ≤ t) (hb : s_b f i t < t) : s_e f i (t + 1) = if k_blank (f t) then s_e f i t else t + 1 := by
  unfold s_e
  rw [s_b_snoc f h, if_pos hb, show t + 1 - s_b f i t = t - s_b f i t + 1 by omega, s_back, show s_b f i t + (t - s_b f i t) = t by omega]
theorem s_e_new (f : Nat → Nat) {i t : Nat} (h : i ≤ t) (hb : ¬ s_b f i t < t) (hk : k_blank (f t) = false) : s_b f i (t + 1) = t ∧ s_e f i (t + 1) = t + 1 := by
  have e : s_b f i (t + 1) = t := by
    rw [s_b_snoc f h, if_neg hb, hk]
    rfl
  refine ⟨e, ?_⟩
  unfold s_e
  rw [e, show t + 1 - t = 0 + 1 by omega, s_back, Nat.add_zero, hk]
  rfl
theorem s_e_pos (f : Nat → Nat) {i t : Nat} (h : i ≤ t) (hb : s_b f i t < t) : s_b f i t < s_e f i t := by
  have hs := s_b_stop f hb h
  unfold s_e
  generalize s_b f i t = b at hs hb ⊢
  obtain ⟨d, rfl⟩ : ∃ d, t = b + (d + 1) := ⟨t - b - 1, by omega⟩
  rw [show b + (d + 1) - b = d + 1 by omega]
  clear hb h
  induction d with
  | zero =>
    rw [s_back, Nat.add_zero, hs]
    exact Nat.lt_succ_self b
  | succ d ih =>
    rw [s_back]
    by_cases hq : k_blank (f (b + (d + 1))) = true
    · rw [if_pos hq]; exact ih
    · rw [if_neg hq]; omega
theorem s_note_iff (f : Nat → Nat) {i t : Nat} (h : i ≤ t) : s_b f i t < s_e f i t ↔ s_b f i t < t := by
  have := s_e_le f i t h
  exact ⟨fun q => by omega, fun q => s_e_pos f h q⟩
theorem s_note_len (f : Nat → Nat) {i t : Nat} (h : i ≤ t) : 2 * (s_note f i t).length ≤ t - i + 1 := by
  unfold s_note
  by_cases q : s_b f i t < s_e f i t
  · rw [if_pos q]
    have h1 := s_b_le f i t h
    have h2 := s_e_le f i t h
    simp
    omega
  · rw [if_neg q]
    simp
theorem s_el_len (f : Nat → Nat) : ∀ d i k, i ≤ k → 2 * (s_el f i k d).length ≤ k - i + d + 1 := by
  intro d
  induction d with
  | zero => intro i k h; exact s_note_len f h
  | succ d ih =>
    intro i k h
    rw [s_el]
    by_cases q : f k = 44
    · rw [if_pos q, List.length_append]
      have h1 := s_note_len f h
      have h2 := ih (k + 1) (k + 1) (Nat.le_refl _)
      omega
    · rw [if_neg q]
      have := ih i (k + 1) (by omega)
      omega
/-- blanks before -/
theorem s_note_l (f : Nat → Nat) {i t : Nat} (h : i < t) (hk : k_blank (f i) = true) : s_note f i t = s_note f (i + 1) t := by
  have e : s_b f i t = s_b f (i + 1) t := by
    unfold s_b
    rw [show t - i = t - (i + 1) + 1 by omega, s_first, hk]
    rfl
  unfold s_note s_e
  rw [e]
theorem s_note_nil (f : Nat → Nat) (i : Nat) : s_note f i i = [] := by
  have h1 := s_e_le f i i (Nat.le_refl _)
  have h2 := s_b_le f i i (Nat.le_refl _)
  unfold s_note
  rw [if_neg (by omega)]
theorem s_el_l (f : Nat → Nat) : ∀ d i k, i < k → k_blank (f i) = true → s_el f i k d = s_el f (i + 1) k d := by
  intro d
  induction d with
  | zero => intro i k h hk; exact s_note_l f h hk
  | succ d ih =>
    intro i k h hk
    rw [s_el, s_el, s_note_l f h hk, ih i (k + 1) (by omega) hk]
theorem s_el_skip (f : Nat → Nat) : ∀ d i, s_el f i i d = s_el f (s_first (fun c => !k_blank c) f i d) (s_first (fun c => !k_blank c) f i d) (i + d - s_first (fun c => !k_blank c) f i d) := by
  intro d
  induction d with
  | zero => intro i; rw [s_first, Nat.add_zero, Nat.sub_self]
  | succ d ih =>
    intro i
    rw [s_first]
    cases hk : k_blank (f i)
    · simp
    · have h44 : ¬ f i = 44 := by
        intro q
        rw [q] at hk
        exact absurd hk (by decide)
      rw [s_el, if_neg h44, s_el_l f d i (i + 1) (by omega) hk, ih (i + 1)]
      simp
      rw [show i + 1 + d = i + (d + 1) by omega]
/-- blanks behind -/
theorem s_note_r (f : Nat → Nat) {i t : Nat} (h : i ≤ t) (hk : k_blank (f t) = true) : s_note f i (t + 1) = s_note f i t := by
  unfold s_note
  have a := s_note_iff f h
  have b := s_note_iff f (show i ≤ t + 1 by omega)
  have e := s_b_snoc f h
  by_cases hb : s_b f i t < t
  · rw [if_pos hb] at e
    have e2 := s_e_snoc f h hb
    rw [if_pos hk] at e2
    rw [e2, e]
  · rw [if_neg hb, if_pos hk] at e
    rw [if_neg (fun z => by have := b.mp z; omega), if_neg (fun z => hb (a.mp z))]
theorem s_el_r (f : Nat → Nat) : ∀ d i k, i ≤ k → k_blank (f (k + d)) = true → s_el f i k (d + 1) = s_el f i k d := by
  intro d
  induction d with
  | zero =>
    intro i k h hk
    have h44 : ¬ f k = 44 := by
      intro q
      rw [Nat.add_zero, q] at hk
      exact absurd hk (by decide)
    show (if f k = 44 then s_note f i k ++ s_el f (k + 1) (k + 1) 0 else s_el f i (k + 1) 0) = s_note f i k
    rw [if_neg h44, s_el, s_note_r f h hk]
  | succ d ih =>
    intro i k h hk
    rw [s_el]
    conv => rhs; rw [s_el]
    rw [ih (k + 1) (k + 1) (Nat.le_refl _) (by rw [show k + 1 + d = k + (d + 1) by omega]; exact hk), ih i (k + 1) (by omega) (by rw [show k + 1 + d = k + (d + 1) by omega]; exact hk)]
theorem s_el_drop (f : Nat → Nat) (i : Nat) : ∀ d, s_el f i i d = s_el f i i (s_back f i d - i) := by
  intro d
  induction d with
  | zero => rw [s_back, Nat.sub_self]
  | succ d ih =>
    rw [s_back]
    by_cases hk : k_blank (f (i + d)) = true
    · rw [if_pos hk, s_el_r f d i i (Nat.le_refl _) hk, ih]
    · rw [if_neg hk, show i + d + 1 - i = d + 1 by omega]
/-- the elements of a value with and without its outer blanks -/
theorem s_el_trim (f : Nat → Nat) (i t : Nat) (h : i ≤ t) : s_el f i i (t - i) = s_el f (s_b f i t) (s_b f i t) (s_e f i t - s_b f i t) := by
  rw [s_el_skip f (t - i) i, show i + (t - i) = t by omega]
  exact s_el_drop f _ _
/-! lines of fields -/
abbrev Ln : Type := Nat × (Nat → Nat)
def f_c (l : Ln) : Nat := s_first (fun c => c == 58) l.2 0 l.1
def f_nm (l : Ln) (w : List Nat) : Bool := u_is (sl l.2 0 (f_c l)) w
def f_el (l : Ln) : List (List Nat) := s_el l.2 (f_c l + 1) (f_c l + 1) (l.1 - (f_c l + 1))
def f_vb (l : Ln) : Nat := s_b l.2 (f_c l + 1) l.1
def f_ve (l : Ln) : Nat := s_e l.2 (f_c l + 1) l.1
def f_els (F : Nat → Ln) (w : List Nat) : Nat → Nat → List (List Nat)
  | _, 0 => []
  | i, d + 1 => (if f_nm (F i) w then f_el (F i) else []) ++ f_els F w (i + 1) d
def f_cnt (F : Nat → Ln) (w : List Nat) : Nat → Nat → Nat
  | _, 0 => 0
  | i, d + 1 => (if f_nm (F i) w then 1 else 0) + f_cnt F w (i + 1) d
def f_ix (F : Nat → Ln) (w : List Nat) : Nat → Nat → Nat
  | i, 0 => i
  | i, d + 1 => if f_nm (F i) w then i else f_ix F w (i + 1) d
/-- a line that is a field -/
def f_ok (l : Ln) : Prop := l.1 ≤ 80 ∧ 0 < f_c l ∧ f_c l < l.1
theorem f_cnt_le (F : Nat → Ln) (w : List Nat) : ∀ d i, f_cnt F w i d ≤ d := by
  intro d
  induction d with
  | zero => intro i; exact Nat.le_refl _
  | succ d ih =>
    intro i
    rw [f_cnt]
    have := ih (i + 1)
    cases f_nm (F i) w <;> simp <;> omega
theorem f_ix_le (F : Nat → Ln) (w : List Nat) : ∀ d i, i ≤ f_ix F w i d ∧ f_ix F w i d ≤ i + d := by
  intro d
  induction d with
  | zero => intro i; exact ⟨Nat.le_refl _, Nat.le_refl _⟩
  | succ d ih =>
    intro i
    rw [f_ix]
    have := ih (i + 1)
    cases f_nm (F i) w <;> simp <;> omega
theorem f_ix_cnt (F : Nat → Ln) (w : List Nat) : ∀ d i, f_cnt F w i d = 0 ↔ f_ix F w i d = i + d := by
  intro d
  induction d with
  | zero => intro i; simp [f_cnt, f_ix]
  | succ d ih =>
    intro i
    rw [f_cnt, f_ix]
    have := ih (i + 1)
    cases f_nm (F i) w
    · simp
      omega
    · simp
theorem f_ix_nm (F : Nat → Ln) (w : List Nat) : ∀ d i, f_ix F w i d < i + d → f_nm (F (f_ix F w i d)) w = true := by
  intro d
  induction d with
  | zero => intro i h; rw [f_ix] at h; omega
  | succ d ih =>
    intro i h
    rw [f_ix] at h ⊢
    cases hn : f_nm (F i) w
    · simp [hn] at h ⊢
      exact ih (i + 1) (by omega)
    · simp [hn]
theorem f_els_len (F : Nat → Ln) (w : List Nat) : ∀ d i, (∀ k, i ≤ k → k < i + d → f_ok (F k)) → (f_els F w i d).length ≤ 39 * d := by
  intro d
  induction d with
  | zero => intro i _; exact Nat.le_refl _
  | succ d ih =>
    intro i h
    rw [f_els, List.length_append]
    have h1 := ih (i + 1) (fun k a b => h k (by omega) (by omega))
    have h2 := h i (Nat.le_refl _) (by omega)
    obtain ⟨a, b, c⟩ := h2
    have h3 := s_el_len (F i).2 ((F i).1 - (f_c (F i) + 1)) (f_c (F i) + 1) (f_c (F i) + 1) (Nat.le_refl _)
    have h4 : (if f_nm (F i) w = true then f_el (F i) else []).length ≤ 39 := by
      cases f_nm (F i) w
      · simp
      · simp [f_el]
        omega
    omega
theorem sl_self (u : List Nat) : sl (fun j => u.getD j 0) 0 u.length = u := by
  apply List.ext_getElem
  · rw [sl_len]
  · intro j h1 h2
    simp only [sl, List.getElem_map, List.getElem_range, Nat.zero_add]
    rw [List.getD_eq_getElem?_getD, List.getElem?_eq_getElem h2, Option.getD_some]
