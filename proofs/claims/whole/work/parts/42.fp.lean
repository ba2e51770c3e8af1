def xFp (R : List (Nat × Nat)) (M : List Nat) (F : Bool × Bool × Bool) (σ τ : St) : Prop := (∀ k j, (k, j) ∉ R → τ.1 k j = σ.1 k j) ∧ (∀ k, k ∉ M → τ.2.1 k = σ.2.1 k) ∧ (F.1 = true ∨ τ.2.2.1 = σ.2.2.1) ∧ (F.2.1 = true ∨ τ.2.2.2.1 = σ.2.2.2.1) ∧ (F.2.2 = true ∨ τ.2.2.2.2 = σ.2.2.2.2)
theorem xFp.rf {R : List (Nat × Nat)} {M : List Nat} {F : Bool × Bool × Bool} {σ : St} : xFp R M F σ σ := ⟨fun _ _ _ => rfl, fun _ _ => rfl, Or.inr rfl, Or.inr rfl, Or.inr rfl⟩
theorem xFp.or {b : Bool} {α : Type} {x y z : α} (h1 : b = true ∨ y = x) (h2 : b = true ∨ z = y) : b = true ∨ z = x := by
  rcases h1 with h1 | h1
  · exact Or.inl h1
  · rcases h2 with h2 | h2
    · exact Or.inl h2
    · exact Or.inr (h2.trans h1)
theorem xFp.tr {R : List (Nat × Nat)} {M : List Nat} {F : Bool × Bool × Bool} {σ τ υ : St} (h1 : xFp R M F σ τ) (h2 : xFp R M F τ υ) : xFp R M F σ υ := ⟨fun k j h => (h2.1 k j h).trans (h1.1 k j h), fun k h => (h2.2.1 k h).trans (h1.2.1 k h), xFp.or h1.2.2.1 h2.2.2.1, xFp.or h1.2.2.2.1 h2.2.2.2.1, xFp.or h1.2.2.2.2 h2.2.2.2.2⟩
theorem xFp.sub {R R' : List (Nat × Nat)} {M M' : List Nat} {F F' : Bool × Bool × Bool} {σ τ : St} (h : xFp R M F σ τ) (hR : ∀ q ∈ R, q ∈ R') (hM : ∀ q ∈ M, q ∈ M') (hF : (F.1 = true → F'.1 = true) ∧ (F.2.1 = true → F'.2.1 = true) ∧ (F.2.2 = true → F'.2.2 = true)) : xFp R' M' F' σ τ :=
  ⟨fun k j q => h.1 k j (fun z => q (hR _ z)), fun k q => h.2.1 k (fun z => q (hM _ z)), h.2.2.1.imp hF.1 id, h.2.2.2.1.imp hF.2.1 id, h.2.2.2.2.imp hF.2.2 id⟩
theorem xFp.R {R : List (Nat × Nat)} {M : List Nat} {F : Bool × Bool × Bool} {σ τ : St} {k j : Nat} {v : Int32} (e : τ = x_updR σ k j v) (h : (k, j) ∈ R) : xFp R M F σ τ := by
  subst e
  refine ⟨fun k' j' q => if_neg (fun z => q (by rw [z.1, z.2]; exact h)), fun _ _ => rfl, Or.inr rfl, Or.inr rfl, Or.inr rfl⟩
theorem xFp.M {R : List (Nat × Nat)} {M : List Nat} {F : Bool × Bool × Bool} {σ τ : St} {k j : Nat} {v : Int32} (e : τ = x_updM σ k j v) (h : k ∈ M) : xFp R M F σ τ := by
  subst e
  refine ⟨fun _ _ _ => rfl, fun k' q => funext fun j' => if_neg (fun z => q (by rw [z.1]; exact h)), Or.inr rfl, Or.inr rfl, Or.inr rfl⟩
theorem xFp.B {R : List (Nat × Nat)} {M : List Nat} {q : Bool × Bool} {σ τ : St} {v : Nat} (e : τ = x_updB σ v) : xFp R M (true, q) σ τ := by
  subst e
  exact ⟨fun _ _ _ => rfl, fun _ _ => rfl, Or.inl rfl, Or.inr rfl, Or.inr rfl⟩
theorem xFp.Q {R : List (Nat × Nat)} {M : List Nat} {b l : Bool} {σ τ : St} {v : Option Nat} (e : τ = x_updQ σ v) : xFp R M (b, true, l) σ τ := by
  subst e
  exact ⟨fun _ _ _ => rfl, fun _ _ => rfl, Or.inr rfl, Or.inl rfl, Or.inr rfl⟩
theorem xS_cases {k : Nat} (h : xS k) : k = 3 ∨ k = 6 ∨ k = 9 ∨ k = 12 ∨ k = 15 ∨ k = 18 ∨ k = 21 ∨ k = 24 := by
  have hk := xS_lt h
  have h1 : (List.range 67).all (fun k => shp k != 8 || (k == 3 || k == 6 || k == 9 || k == 12 || k == 15 || k == 18 || k == 21 || k == 24)) = true := by decide
  have h2 := List.all_eq_true.mp h1 k (List.mem_range.mpr hk)
  simpa [h.1, or_assoc] using h2
theorem x_iteE {α : Type} {c : Prop} [Decidable c] {a b : Option α} {r : α} (h : (if c then a else b) = some r) : (c ∧ a = some r) ∨ (¬ c ∧ b = some r) := by
  by_cases hc : c
  · rw [if_pos hc] at h
    exact Or.inl ⟨hc, h⟩
  · rw [if_neg hc] at h
    exact Or.inr ⟨hc, h⟩

set_option maxHeartbeats 4000000 in
set_option maxRecDepth 100000 in
theorem fp_Bytes_add (o0 : Nat) (a1 : Int32) (σ : St) {σ' : St} (hE : x_Bytes_add o0 a1 σ = some σ') : xFp [(o0, 1)] [(o0 + 1)] (false, false, false) σ σ' := by
  unfold x_Bytes_add at hE
  have hf : xFp [(o0, 1)] [(o0 + 1)] (false, false, false) σ σ := xFp.rf
  rcases x_iteE hE with ⟨hc, hE⟩ | ⟨hc, hE⟩
  · have e1 := Option.some.inj hE
    rw [← e1]
    exact hf
  · obtain ⟨hg, hE⟩ := x_guard hE
    obtain ⟨s21, el, hE⟩ := x_letE hE
    have hf := hf.tr (xFp.M el (by simp))
    obtain ⟨s29, el, hE⟩ := x_letE hE
    have hf := hf.tr (xFp.R el (by simp))
    have e1 := Option.some.inj hE
    rw [← e1]
    exact hf

set_option maxHeartbeats 4000000 in
set_option maxRecDepth 100000 in
theorem fp_Bytes_clear (o0 : Nat) (σ : St) {σ' : St} (hE : x_Bytes_clear o0 σ = some σ') : xFp [(o0, 1)] [] (false, false, false) σ σ' := by
  unfold x_Bytes_clear at hE
  have hf : xFp [(o0, 1)] [] (false, false, false) σ σ := xFp.rf
  obtain ⟨s2, el, hE⟩ := x_letE hE
  have hf := hf.tr (xFp.R el (by simp))
  have e1 := Option.some.inj hE
  rw [← e1]
  exact hf

set_option maxHeartbeats 4000000 in
set_option maxRecDepth 100000 in
theorem fp_Bytes_addAll (o0 : Nat) (o1 : Nat) (σ : St) {σ' : St} (hE : x_Bytes_addAll o0 o1 σ = some σ') : xFp [(o0, 1)] [(o0 + 1)] (false, false, false) σ σ' := by
  have jn2 : ∀ (n : Nat) (l2 : Int32) (σ : St), x_Bytes_addAll_2 o0 o1 n l2 σ = some σ' → xFp [(o0, 1)] [(o0 + 1)] (false, false, false) σ σ' := by
    intro n
    induction n with
    | zero => intro l2 σ hE; rw [x_Bytes_addAll_2] at hE; cases hE
    | succ n ih =>
      intro l2 σ hE
      rw [x_Bytes_addAll_2] at hE
      have hf : xFp [(o0, 1)] [(o0 + 1)] (false, false, false) σ σ := xFp.rf
      rcases x_iteE hE with ⟨hc, hE⟩ | ⟨hc, hE⟩
      · have e1 := Option.some.inj hE
        rw [← e1]
        exact hf
      · obtain ⟨r13, hC, hE⟩ := x_bind hE
        obtain ⟨s16, hC, hE⟩ := x_bind hE
        have hf := hf.tr ((fp_Bytes_add _ _ _ hC).sub (by simp) (by simp) (by decide))
        obtain ⟨v19, el, hE⟩ := x_letE hE
        exact hf.tr (ih _ _ hE)
  unfold x_Bytes_addAll at hE
  have hf : xFp [(o0, 1)] [(o0 + 1)] (false, false, false) σ σ := xFp.rf
  exact hf.tr (jn2 x_fuel _ _ hE)

set_option maxHeartbeats 4000000 in
set_option maxRecDepth 100000 in
theorem fp_Fields_clear (σ : St) {σ' : St} (hE : x_Fields_clear σ = some σ') : xFp [(32, 1), (31, 5), (31, 8)] [] (false, false, false) σ σ' := by
  unfold x_Fields_clear at hE
  have hf : xFp [(32, 1), (31, 5), (31, 8)] [] (false, false, false) σ σ := xFp.rf
  obtain ⟨s4, hC, hE⟩ := x_bind hE
  have hf := hf.tr ((fp_Bytes_clear _ _ hC).sub (by simp) (by simp) (by decide))
  obtain ⟨s9, el, hE⟩ := x_letE hE
  have hf := hf.tr (xFp.R el (by simp))
  obtain ⟨s14, el, hE⟩ := x_letE hE
  have hf := hf.tr (xFp.R el (by simp))
  have e1 := Option.some.inj hE
  rw [← e1]
  exact hf

set_option maxHeartbeats 4000000 in
set_option maxRecDepth 100000 in
theorem fp_Fields_take (o1 : Nat) (σ : St) {r : Int32} {σ' : St} (hE : x_Fields_take o1 σ = some (r, σ')) : xFp [(32, 1), (31, 5)] [33, 34, 35, 36, 37] (false, false, false) σ σ' := by
  unfold x_Fields_take at hE
  have hf : xFp [(32, 1), (31, 5)] [33, 34, 35, 36, 37] (false, false, false) σ σ := xFp.rf
  obtain ⟨r1, hC, hE⟩ := x_bind hE
  rcases x_iteE hE with ⟨hc, hE⟩ | ⟨hc, hE⟩
  · obtain ⟨-, e2⟩ := x_pair hE
    rw [← e2]
    exact hf
  · rcases x_iteE hE with ⟨hc, hE⟩ | ⟨hc, hE⟩
    · obtain ⟨v34, el, hE⟩ := x_letE hE
      obtain ⟨s40, hC, hE⟩ := x_bind hE
      have hf := hf.tr ((fp_Bytes_addAll _ _ _ hC).sub (by simp) (by simp) (by decide))
      obtain ⟨r59, hC, hE⟩ := x_bind hE
      obtain ⟨hg, hE⟩ := x_guard hE
      obtain ⟨s73, el, hE⟩ := x_letE hE
      have hf := hf.tr (xFp.M el (by simp))
      obtain ⟨hg, hE⟩ := x_guard hE
      obtain ⟨s85, el, hE⟩ := x_letE hE
      have hf := hf.tr (xFp.M el (by simp))
      obtain ⟨hg, hE⟩ := x_guard hE
      obtain ⟨s96, el, hE⟩ := x_letE hE
      have hf := hf.tr (xFp.M el (by simp))
      obtain ⟨r118, hC, hE⟩ := x_bind hE
      obtain ⟨hg, hE⟩ := x_guard hE
      obtain ⟨s121, el, hE⟩ := x_letE hE
      have hf := hf.tr (xFp.M el (by simp))
      obtain ⟨s129, el, hE⟩ := x_letE hE
      have hf := hf.tr (xFp.R el (by simp))
      obtain ⟨-, e2⟩ := x_pair hE
      rw [← e2]
      exact hf
    · obtain ⟨-, e2⟩ := x_pair hE
      rw [← e2]
      exact hf

set_option maxHeartbeats 4000000 in
set_option maxRecDepth 100000 in
theorem fp_Fields_keepElement (a1 : Int32) (a2 : Int32) (σ : St) {σ' : St} (hE : x_Fields_keepElement a1 a2 σ = some σ') : xFp [(31, 8)] [38, 39] (false, false, false) σ σ' := by
  unfold x_Fields_keepElement at hE
  have hf : xFp [(31, 8)] [38, 39] (false, false, false) σ σ := xFp.rf
  rcases x_iteE hE with ⟨hc, hE⟩ | ⟨hc, hE⟩
  · have e1 := Option.some.inj hE
    rw [← e1]
    exact hf
  · rcases x_iteE hE with ⟨hc, hE⟩ | ⟨hc, hE⟩
    · have e1 := Option.some.inj hE
      rw [← e1]
      exact hf
    · obtain ⟨hg, hE⟩ := x_guard hE
      obtain ⟨s24, el, hE⟩ := x_letE hE
      have hf := hf.tr (xFp.M el (by simp))
      obtain ⟨hg, hE⟩ := x_guard hE
      obtain ⟨s34, el, hE⟩ := x_letE hE
      have hf := hf.tr (xFp.M el (by simp))
      obtain ⟨s42, el, hE⟩ := x_letE hE
      have hf := hf.tr (xFp.R el (by simp))
      have e1 := Option.some.inj hE
      rw [← e1]
      exact hf

set_option maxHeartbeats 4000000 in
set_option maxRecDepth 100000 in
theorem fp_Fields_cut (a1 : Int32) (a2 : Int32) (σ : St) {σ' : St} (hE : x_Fields_cut a1 a2 σ = some σ') : xFp [(31, 8)] [38, 39] (false, false, false) σ σ' := by
  have jn81 : ∀ (bk8 : Int32 → Int32 → Int32 → St → Option St) (hbk8 : ∀ (l3 : Int32) (l4 : Int32) (l5 : Int32) (σ : St), bk8 l3 l4 l5 σ = some σ' → xFp [(31, 8)] [38, 39] (false, false, false) σ σ') (l3 : Int32) (l4 : Int32) (l5 : Int32) (σ : St), x_Fields_cut_81 a1 a2 bk8 l3 l4 l5 σ = some σ' → xFp [(31, 8)] [38, 39] (false, false, false) σ σ' := by
    intro bk8 hbk8 l3 l4 l5 σ hE
    unfold x_Fields_cut_81 at hE
    have hf : xFp [(31, 8)] [38, 39] (false, false, false) σ σ := xFp.rf
    obtain ⟨v81, el, hE⟩ := x_letE hE
    exact hf.tr (hbk8 _ _ _ _ hE)
  have jn74 : ∀ (bk8 : Int32 → Int32 → Int32 → St → Option St) (hbk8 : ∀ (l3 : Int32) (l4 : Int32) (l5 : Int32) (σ : St), bk8 l3 l4 l5 σ = some σ' → xFp [(31, 8)] [38, 39] (false, false, false) σ σ') (l5 : Int32) (k0 : Int32) (σ : St), x_Fields_cut_74 a1 a2 bk8 l5 k0 σ = some σ' → xFp [(31, 8)] [38, 39] (false, false, false) σ σ' := by
    intro bk8 hbk8 l5 k0 σ hE
    unfold x_Fields_cut_74 at hE
    have hf : xFp [(31, 8)] [38, 39] (false, false, false) σ σ := xFp.rf
    obtain ⟨v79, el, hE⟩ := x_letE hE
    exact hf.tr (jn81 _ hbk8 _ _ _ _ hE)
  have jn34 : ∀ (bk8 : Int32 → Int32 → Int32 → St → Option St) (hbk8 : ∀ (l3 : Int32) (l4 : Int32) (l5 : Int32) (σ : St), bk8 l3 l4 l5 σ = some σ' → xFp [(31, 8)] [38, 39] (false, false, false) σ σ') (l3 : Int32) (l4 : Int32) (l5 : Int32) (k0 : Int32) (σ : St), x_Fields_cut_34 a1 a2 bk8 l3 l4 l5 k0 σ = some σ' → xFp [(31, 8)] [38, 39] (false, false, false) σ σ' := by
    intro bk8 hbk8 l3 l4 l5 k0 σ hE
    unfold x_Fields_cut_34 at hE
    have hf : xFp [(31, 8)] [38, 39] (false, false, false) σ σ := xFp.rf
    rcases x_iteE hE with ⟨hc, hE⟩ | ⟨hc, hE⟩
    · obtain ⟨s47, hC, hE⟩ := x_bind hE
      have hf := hf.tr ((fp_Fields_keepElement _ _ _ hC).sub (by simp) (by simp) (by decide))
      exact hf.tr (jn81 _ hbk8 _ _ _ _ hE)
    · obtain ⟨r57, hC, hE⟩ := x_bind hE
      rcases x_iteE hE with ⟨hc, hE⟩ | ⟨hc, hE⟩
      · rcases x_iteE hE with ⟨hc, hE⟩ | ⟨hc, hE⟩
        · exact hf.tr (jn74 _ hbk8 _ _ _ hE)
        · exact hf.tr (jn74 _ hbk8 _ _ _ hE)
      · exact hf.tr (jn81 _ hbk8 _ _ _ _ hE)
  have jn8 : ∀ (n : Nat) (l3 : Int32) (l4 : Int32) (l5 : Int32) (σ : St), x_Fields_cut_8 a1 a2 n l3 l4 l5 σ = some σ' → xFp [(31, 8)] [38, 39] (false, false, false) σ σ' := by
    intro n
    induction n with
    | zero => intro l3 l4 l5 σ hE; rw [x_Fields_cut_8] at hE; cases hE
    | succ n ih =>
      intro l3 l4 l5 σ hE
      rw [x_Fields_cut_8] at hE
      have hf : xFp [(31, 8)] [38, 39] (false, false, false) σ σ := xFp.rf
      rcases x_iteE hE with ⟨hc, hE⟩ | ⟨hc, hE⟩
      · have e1 := Option.some.inj hE
        rw [← e1]
        exact hf
      · rcases x_iteE hE with ⟨hc, hE⟩ | ⟨hc, hE⟩
        · exact hf.tr (jn34 _ ih _ _ _ _ _ hE)
        · obtain ⟨r26, hC, hE⟩ := x_bind hE
          exact hf.tr (jn34 _ ih _ _ _ _ _ hE)
  unfold x_Fields_cut at hE
  have hf : xFp [(31, 8)] [38, 39] (false, false, false) σ σ := xFp.rf
  exact hf.tr (jn8 x_fuel _ _ _ _ hE)

set_option maxHeartbeats 4000000 in
set_option maxRecDepth 100000 in
theorem fp_Fields_gather (w1 : Nat) (σ : St) {r : Int32} {σ' : St} (hE : x_Fields_gather w1 σ = some (r, σ')) : xFp [(31, 8)] [38, 39] (false, false, false) σ σ' := by
  have jn54 : ∀ (bk7 : Int32 → St → Option (Int32 × St)) (hbk7 : ∀ (l2 : Int32) (σ : St), bk7 l2 σ = some (r, σ') → xFp [(31, 8)] [38, 39] (false, false, false) σ σ') (l2 : Int32) (σ : St), x_Fields_gather_54 w1 bk7 l2 σ = some (r, σ') → xFp [(31, 8)] [38, 39] (false, false, false) σ σ' := by
    intro bk7 hbk7 l2 σ hE
    unfold x_Fields_gather_54 at hE
    have hf : xFp [(31, 8)] [38, 39] (false, false, false) σ σ := xFp.rf
    obtain ⟨v54, el, hE⟩ := x_letE hE
    exact hf.tr (hbk7 _ _ hE)
  have jn7 : ∀ (n : Nat) (l2 : Int32) (σ : St), x_Fields_gather_7 w1 n l2 σ = some (r, σ') → xFp [(31, 8)] [38, 39] (false, false, false) σ σ' := by
    intro n
    induction n with
    | zero => intro l2 σ hE; rw [x_Fields_gather_7] at hE; cases hE
    | succ n ih =>
      intro l2 σ hE
      rw [x_Fields_gather_7] at hE
      have hf : xFp [(31, 8)] [38, 39] (false, false, false) σ σ := xFp.rf
      rcases x_iteE hE with ⟨hc, hE⟩ | ⟨hc, hE⟩
      · obtain ⟨-, e2⟩ := x_pair hE
        rw [← e2]
        exact hf
      · obtain ⟨hg, hE⟩ := x_guard hE
        obtain ⟨hg, hE⟩ := x_guard hE
        obtain ⟨r32, hC, hE⟩ := x_bind hE
        rcases x_iteE hE with ⟨hc, hE⟩ | ⟨hc, hE⟩
        · exact hf.tr (jn54 _ ih _ _ hE)
        · obtain ⟨hg, hE⟩ := x_guard hE
          obtain ⟨hg, hE⟩ := x_guard hE
          obtain ⟨s51, hC, hE⟩ := x_bind hE
          have hf := hf.tr ((fp_Fields_cut _ _ _ hC).sub (by simp) (by simp) (by decide))
          exact hf.tr (jn54 _ ih _ _ hE)
  unfold x_Fields_gather at hE
  have hf : xFp [(31, 8)] [38, 39] (false, false, false) σ σ := xFp.rf
  obtain ⟨s2, el, hE⟩ := x_letE hE
  have hf := hf.tr (xFp.R el (by simp))
  exact hf.tr (jn7 x_fuel _ _ hE)

set_option maxHeartbeats 4000000 in
set_option maxRecDepth 100000 in
theorem fp_Fields_hasElement (w1 : Nat) (w2 : Nat) (σ : St) {r : Int32} {σ' : St} (hE : x_Fields_hasElement w1 w2 σ = some (r, σ')) : xFp [(31, 8)] [38, 39] (false, false, false) σ σ' := by
  have jn9 : ∀ (n : Nat) (l3 : Int32) (l4 : Int32) (σ : St), x_Fields_hasElement_9 w1 w2 n l3 l4 σ = some (r, σ') → xFp [(31, 8)] [38, 39] (false, false, false) σ σ' := by
    intro n
    induction n with
    | zero => intro l3 l4 σ hE; rw [x_Fields_hasElement_9] at hE; cases hE
    | succ n ih =>
      intro l3 l4 σ hE
      rw [x_Fields_hasElement_9] at hE
      have hf : xFp [(31, 8)] [38, 39] (false, false, false) σ σ := xFp.rf
      rcases x_iteE hE with ⟨hc, hE⟩ | ⟨hc, hE⟩
      · obtain ⟨-, e2⟩ := x_pair hE
        rw [← e2]
        exact hf
      · obtain ⟨r19, hC, hE⟩ := x_bind hE
        rcases x_iteE hE with ⟨hc, hE⟩ | ⟨hc, hE⟩
        · obtain ⟨v27, el, hE⟩ := x_letE hE
          exact hf.tr (ih _ _ _ hE)
        · obtain ⟨-, e2⟩ := x_pair hE
          rw [← e2]
          exact hf
  unfold x_Fields_hasElement at hE
  have hf : xFp [(31, 8)] [38, 39] (false, false, false) σ σ := xFp.rf
  obtain ⟨r2, s2, hC, hE⟩ := x_bind2E hE
  have hf := hf.tr ((fp_Fields_gather _ _ hC).sub (by simp) (by simp) (by decide))
  exact hf.tr (jn9 x_fuel _ _ _ hE)

set_option maxHeartbeats 4000000 in
set_option maxRecDepth 100000 in
theorem fp_Request_clear (σ : St) {σ' : St} (hE : x_Request_clear σ = some σ') : xFp [(32, 1), (31, 5), (31, 8), (40, 1), (42, 1), (30, 4), (30, 5), (30, 6), (30, 7), (30, 8)] [] (false, true, false) σ σ' := by
  unfold x_Request_clear at hE
  have hf : xFp [(32, 1), (31, 5), (31, 8), (40, 1), (42, 1), (30, 4), (30, 5), (30, 6), (30, 7), (30, 8)] [] (false, true, false) σ σ := xFp.rf
  obtain ⟨s4, hC, hE⟩ := x_bind hE
  have hf := hf.tr ((fp_Fields_clear _ hC).sub (by simp) (by simp) (by decide))
  obtain ⟨s11, hC, hE⟩ := x_bind hE
  have hf := hf.tr ((fp_Bytes_clear _ _ hC).sub (by simp) (by simp) (by decide))
  obtain ⟨s18, hC, hE⟩ := x_bind hE
  have hf := hf.tr ((fp_Bytes_clear _ _ hC).sub (by simp) (by simp) (by decide))
  obtain ⟨s23, el, hE⟩ := x_letE hE
  have hf := hf.tr (xFp.Q el)
  obtain ⟨s28, el, hE⟩ := x_letE hE
  have hf := hf.tr (xFp.R el (by simp))
  obtain ⟨s33, el, hE⟩ := x_letE hE
  have hf := hf.tr (xFp.R el (by simp))
  obtain ⟨s38, el, hE⟩ := x_letE hE
  have hf := hf.tr (xFp.R el (by simp))
  obtain ⟨s43, el, hE⟩ := x_letE hE
  have hf := hf.tr (xFp.R el (by simp))
  obtain ⟨s48, el, hE⟩ := x_letE hE
  have hf := hf.tr (xFp.R el (by simp))
  have e1 := Option.some.inj hE
  rw [← e1]
  exact hf

set_option maxHeartbeats 4000000 in
set_option maxRecDepth 100000 in
theorem fp_Request_takePath (o1 : Nat) (a2 : Int32) (a3 : Int32) (σ : St) {σ' : St} (hE : x_Request_takePath o1 a2 a3 σ = some σ') : xFp [(40, 1)] [41] (false, false, false) σ σ' := by
  have jn55 : ∀ (bk3 : Int32 → St → Option St) (hbk3 : ∀ (l4 : Int32) (σ : St), bk3 l4 σ = some σ' → xFp [(40, 1)] [41] (false, false, false) σ σ') (l4 : Int32) (l5 : Int32) (σ : St), x_Request_takePath_55 o1 a2 a3 bk3 l4 l5 σ = some σ' → xFp [(40, 1)] [41] (false, false, false) σ σ' := by
    intro bk3 hbk3 l4 l5 σ hE
    unfold x_Request_takePath_55 at hE
    have hf : xFp [(40, 1)] [41] (false, false, false) σ σ := xFp.rf
    obtain ⟨s61, hC, hE⟩ := x_bind hE
    have hf := hf.tr ((fp_Bytes_add _ _ _ hC).sub (by simp) (by simp) (by decide))
    obtain ⟨v64, el, hE⟩ := x_letE hE
    exact hf.tr (hbk3 _ _ hE)
  have jn3 : ∀ (n : Nat) (l4 : Int32) (σ : St), x_Request_takePath_3 o1 a2 a3 n l4 σ = some σ' → xFp [(40, 1)] [41] (false, false, false) σ σ' := by
    intro n
    induction n with
    | zero => intro l4 σ hE; rw [x_Request_takePath_3] at hE; cases hE
    | succ n ih =>
      intro l4 σ hE
      rw [x_Request_takePath_3] at hE
      have hf : xFp [(40, 1)] [41] (false, false, false) σ σ := xFp.rf
      rcases x_iteE hE with ⟨hc, hE⟩ | ⟨hc, hE⟩
      · have e1 := Option.some.inj hE
        rw [← e1]
        exact hf
      · obtain ⟨r12, hC, hE⟩ := x_bind hE
        rcases x_iteE hE with ⟨hc, hE⟩ | ⟨hc, hE⟩
        · obtain ⟨r31, hC, hE⟩ := x_bind hE
          obtain ⟨r34, hC, hE⟩ := x_bind hE
          obtain ⟨r43, hC, hE⟩ := x_bind hE
          obtain ⟨r46, hC, hE⟩ := x_bind hE
          obtain ⟨v50, el, hE⟩ := x_letE hE
          obtain ⟨v52, el, hE⟩ := x_letE hE
          exact hf.tr (jn55 _ ih _ _ _ hE)
        · exact hf.tr (jn55 _ ih _ _ _ hE)
  unfold x_Request_takePath at hE
  have hf : xFp [(40, 1)] [41] (false, false, false) σ σ := xFp.rf
  exact hf.tr (jn3 x_fuel _ _ hE)

set_option maxHeartbeats 4000000 in
set_option maxRecDepth 100000 in
theorem fp_Request_checkTransferEncoding (σ : St) {r : Int32} {σ' : St} (hE : x_Request_checkTransferEncoding σ = some (r, σ')) : xFp [(31, 8), (30, 5)] [38, 39] (false, false, false) σ σ' := by
  unfold x_Request_checkTransferEncoding at hE
  have hf : xFp [(31, 8), (30, 5)] [38, 39] (false, false, false) σ σ := xFp.rf
  obtain ⟨r6, hC, hE⟩ := x_bind hE
  rcases x_iteE hE with ⟨hc, hE⟩ | ⟨hc, hE⟩
  · obtain ⟨-, e2⟩ := x_pair hE
    rw [← e2]
    exact hf
  · obtain ⟨r15, hC, hE⟩ := x_bind hE
    rcases x_iteE hE with ⟨hc, hE⟩ | ⟨hc, hE⟩
    · obtain ⟨r27, hC, hE⟩ := x_bind hE
      rcases x_iteE hE with ⟨hc, hE⟩ | ⟨hc, hE⟩
      · obtain ⟨r43, s43, hC, hE⟩ := x_bind2E hE
        have hf := hf.tr ((fp_Fields_gather _ _ hC).sub (by simp) (by simp) (by decide))
        obtain ⟨r56, hC, hE⟩ := x_bind hE
        rcases x_iteE hE with ⟨hc, hE⟩ | ⟨hc, hE⟩
        · obtain ⟨-, e2⟩ := x_pair hE
          rw [← e2]
          exact hf
        · rcases x_iteE hE with ⟨hc, hE⟩ | ⟨hc, hE⟩
          · obtain ⟨s77, el, hE⟩ := x_letE hE
            have hf := hf.tr (xFp.R el (by simp))
            obtain ⟨-, e2⟩ := x_pair hE
            rw [← e2]
            exact hf
          · obtain ⟨-, e2⟩ := x_pair hE
            rw [← e2]
            exact hf
      · obtain ⟨-, e2⟩ := x_pair hE
        rw [← e2]
        exact hf
    · obtain ⟨-, e2⟩ := x_pair hE
      rw [← e2]
      exact hf

set_option maxHeartbeats 4000000 in
set_option maxRecDepth 100000 in
theorem fp_Request_checkContentLength (σ : St) {r : Int32} {σ' : St} (hE : x_Request_checkContentLength σ = some (r, σ')) : xFp [(30, 6), (31, 8)] [38, 39] (false, false, false) σ σ' := by
  have jn35 : ∀ (n : Nat) (l1 : Int32) (l2 : Int32) (l3 : Int32) (σ : St), x_Request_checkContentLength_35 n l1 l2 l3 σ = some (r, σ') → xFp [(30, 6), (31, 8)] [38, 39] (false, false, false) σ σ' := by
    intro n
    induction n with
    | zero => intro l1 l2 l3 σ hE; rw [x_Request_checkContentLength_35] at hE; cases hE
    | succ n ih =>
      intro l1 l2 l3 σ hE
      rw [x_Request_checkContentLength_35] at hE
      have hf : xFp [(30, 6), (31, 8)] [38, 39] (false, false, false) σ σ := xFp.rf
      rcases x_iteE hE with ⟨hc, hE⟩ | ⟨hc, hE⟩
      · rcases x_iteE hE with ⟨hc, hE⟩ | ⟨hc, hE⟩
        · obtain ⟨-, e2⟩ := x_pair hE
          rw [← e2]
          exact hf
        · rcases x_iteE hE with ⟨hc, hE⟩ | ⟨hc, hE⟩
          · obtain ⟨s84, el, hE⟩ := x_letE hE
            have hf := hf.tr (xFp.R el (by simp))
            obtain ⟨-, e2⟩ := x_pair hE
            rw [← e2]
            exact hf
          · obtain ⟨-, e2⟩ := x_pair hE
            rw [← e2]
            exact hf
      · obtain ⟨r45, hC, hE⟩ := x_bind hE
        rcases x_iteE hE with ⟨hc, hE⟩ | ⟨hc, hE⟩
        · obtain ⟨v56, el, hE⟩ := x_letE hE
          exact hf.tr (ih _ _ _ _ hE)
        · obtain ⟨-, e2⟩ := x_pair hE
          rw [← e2]
          exact hf
  unfold x_Request_checkContentLength at hE
  have hf : xFp [(30, 6), (31, 8)] [38, 39] (false, false, false) σ σ := xFp.rf
  obtain ⟨r6, hC, hE⟩ := x_bind hE
  rcases x_iteE hE with ⟨hc, hE⟩ | ⟨hc, hE⟩
  · obtain ⟨-, e2⟩ := x_pair hE
    rw [← e2]
    exact hf
  · obtain ⟨r20, s20, hC, hE⟩ := x_bind2E hE
    have hf := hf.tr ((fp_Fields_gather _ _ hC).sub (by simp) (by simp) (by decide))
    obtain ⟨r29, hC, hE⟩ := x_bind hE
    exact hf.tr (jn35 x_fuel _ _ _ _ hE)

set_option maxHeartbeats 4000000 in
set_option maxRecDepth 100000 in
theorem fp_Request_checkExpect (σ : St) {r : Int32} {σ' : St} (hE : x_Request_checkExpect σ = some (r, σ')) : xFp [(30, 7), (31, 8)] [38, 39] (false, false, false) σ σ' := by
  have jn68 : ∀ (σ : St), x_Request_checkExpect_68 σ = some (r, σ') → xFp [(30, 7), (31, 8)] [38, 39] (false, false, false) σ σ' := by
    intro σ hE
    unfold x_Request_checkExpect_68 at hE
    have hf : xFp [(30, 7), (31, 8)] [38, 39] (false, false, false) σ σ := xFp.rf
    obtain ⟨s73, el, hE⟩ := x_letE hE
    have hf := hf.tr (xFp.R el (by simp))
    obtain ⟨-, e2⟩ := x_pair hE
    rw [← e2]
    exact hf
  have jn21 : ∀ (n : Nat) (l1 : Int32) (l2 : Int32) (σ : St), x_Request_checkExpect_21 n l1 l2 σ = some (r, σ') → xFp [(30, 7), (31, 8)] [38, 39] (false, false, false) σ σ' := by
    intro n
    induction n with
    | zero => intro l1 l2 σ hE; rw [x_Request_checkExpect_21] at hE; cases hE
    | succ n ih =>
      intro l1 l2 σ hE
      rw [x_Request_checkExpect_21] at hE
      have hf : xFp [(30, 7), (31, 8)] [38, 39] (false, false, false) σ σ := xFp.rf
      rcases x_iteE hE with ⟨hc, hE⟩ | ⟨hc, hE⟩
      · rcases x_iteE hE with ⟨hc, hE⟩ | ⟨hc, hE⟩
        · obtain ⟨s73, el, hE⟩ := x_letE hE
          have hf := hf.tr (xFp.R el (by simp))
          obtain ⟨-, e2⟩ := x_pair hE
          rw [← e2]
          exact hf
        · rcases x_iteE hE with ⟨hc, hE⟩ | ⟨hc, hE⟩
          · rcases x_iteE hE with ⟨hc, hE⟩ | ⟨hc, hE⟩
            · obtain ⟨s73, el, hE⟩ := x_letE hE
              have hf := hf.tr (xFp.R el (by simp))
              obtain ⟨-, e2⟩ := x_pair hE
              rw [← e2]
              exact hf
            · exact hf.tr (jn68 _ hE)
          · exact hf.tr (jn68 _ hE)
      · obtain ⟨r33, hC, hE⟩ := x_bind hE
        rcases x_iteE hE with ⟨hc, hE⟩ | ⟨hc, hE⟩
        · obtain ⟨-, e2⟩ := x_pair hE
          rw [← e2]
          exact hf
        · obtain ⟨v43, el, hE⟩ := x_letE hE
          exact hf.tr (ih _ _ _ hE)
  unfold x_Request_checkExpect at hE
  have hf : xFp [(30, 7), (31, 8)] [38, 39] (false, false, false) σ σ := xFp.rf
  obtain ⟨r1, hC, hE⟩ := x_bind hE
  rcases x_iteE hE with ⟨hc, hE⟩ | ⟨hc, hE⟩
  · obtain ⟨r15, s15, hC, hE⟩ := x_bind2E hE
    have hf := hf.tr ((fp_Fields_gather _ _ hC).sub (by simp) (by simp) (by decide))
    exact hf.tr (jn21 x_fuel _ _ _ hE)
  · obtain ⟨-, e2⟩ := x_pair hE
    rw [← e2]
    exact hf

set_option maxHeartbeats 4000000 in
set_option maxRecDepth 100000 in
theorem fp_Request_readConnection (σ : St) {σ' : St} (hE : x_Request_readConnection σ = some σ') : xFp [(31, 8), (30, 8)] [38, 39] (false, false, false) σ σ' := by
  unfold x_Request_readConnection at hE
  have hf : xFp [(31, 8), (30, 8)] [38, 39] (false, false, false) σ σ := xFp.rf
  obtain ⟨r9, s9, hC, hE⟩ := x_bind2E hE
  have hf := hf.tr ((fp_Fields_hasElement _ _ _ hC).sub (by simp) (by simp) (by decide))
  rcases x_iteE hE with ⟨hc, hE⟩ | ⟨hc, hE⟩
  · obtain ⟨r16, hC, hE⟩ := x_bind hE
    rcases x_iteE hE with ⟨hc, hE⟩ | ⟨hc, hE⟩
    · obtain ⟨s41, el, hE⟩ := x_letE hE
      have hf := hf.tr (xFp.R el (by simp))
      have e1 := Option.some.inj hE
      rw [← e1]
      exact hf
    · obtain ⟨r30, s30, hC, hE⟩ := x_bind2E hE
      have hf := hf.tr ((fp_Fields_hasElement _ _ _ hC).sub (by simp) (by simp) (by decide))
      rcases x_iteE hE with ⟨hc, hE⟩ | ⟨hc, hE⟩
      · obtain ⟨s41, el, hE⟩ := x_letE hE
        have hf := hf.tr (xFp.R el (by simp))
        have e1 := Option.some.inj hE
        rw [← e1]
        exact hf
      · obtain ⟨s41, el, hE⟩ := x_letE hE
        have hf := hf.tr (xFp.R el (by simp))
        have e1 := Option.some.inj hE
        rw [← e1]
        exact hf
  · obtain ⟨s41, el, hE⟩ := x_letE hE
    have hf := hf.tr (xFp.R el (by simp))
    have e1 := Option.some.inj hE
    rw [← e1]
    exact hf

set_option maxHeartbeats 4000000 in
set_option maxRecDepth 100000 in
theorem fp_Request_takeLine (o1 : Nat) (σ : St) {r : Int32} {σ' : St} (hE : x_Request_takeLine o1 σ = some (r, σ')) : xFp [(30, 4), (40, 1)] [41] (false, true, false) σ σ' := by
  have jn183 : ∀ (l2 : Int32) (l3 : Int32) (l4 : Int32) (σ : St), x_Request_takeLine_183 o1 l2 l3 l4 σ = some (r, σ') → xFp [(30, 4), (40, 1)] [41] (false, true, false) σ σ' := by
    intro l2 l3 l4 σ hE
    unfold x_Request_takeLine_183 at hE
    have hf : xFp [(30, 4), (40, 1)] [41] (false, true, false) σ σ := xFp.rf
    obtain ⟨r188, hC, hE⟩ := x_bind hE
    obtain ⟨s191, el, hE⟩ := x_letE hE
    have hf := hf.tr (xFp.R el (by simp))
    obtain ⟨r207, hC, hE⟩ := x_bind hE
    obtain ⟨s210, hC, hE⟩ := x_bind hE
    have hf := hf.tr ((fp_Request_takePath _ _ _ _ hC).sub (by simp) (by simp) (by decide))
    obtain ⟨-, e2⟩ := x_pair hE
    rw [← e2]
    exact hf
  have jn160 : ∀ (l2 : Int32) (l3 : Int32) (l4 : Int32) (k0 : Int32) (σ : St), x_Request_takeLine_160 o1 l2 l3 l4 k0 σ = some (r, σ') → xFp [(30, 4), (40, 1)] [41] (false, true, false) σ σ' := by
    intro l2 l3 l4 k0 σ hE
    unfold x_Request_takeLine_160 at hE
    have hf : xFp [(30, 4), (40, 1)] [41] (false, true, false) σ σ := xFp.rf
    obtain ⟨r166, hC, hE⟩ := x_bind hE
    rcases x_iteE hE with ⟨hc, hE⟩ | ⟨hc, hE⟩
    · exact hf.tr (jn183 _ _ _ _ hE)
    · rcases x_iteE hE with ⟨hc, hE⟩ | ⟨hc, hE⟩
      · obtain ⟨-, e2⟩ := x_pair hE
        rw [← e2]
        exact hf
      · exact hf.tr (jn183 _ _ _ _ hE)
  have jn159 : ∀ (l2 : Int32) (l3 : Int32) (l4 : Int32) (σ : St), x_Request_takeLine_159 o1 l2 l3 l4 σ = some (r, σ') → xFp [(30, 4), (40, 1)] [41] (false, true, false) σ σ' := by
    intro l2 l3 l4 σ hE
    unfold x_Request_takeLine_159 at hE
    have hf : xFp [(30, 4), (40, 1)] [41] (false, true, false) σ σ := xFp.rf
    exact hf.tr (jn160 _ _ _ _ _ hE)
  unfold x_Request_takeLine at hE
  have hf : xFp [(30, 4), (40, 1)] [41] (false, true, false) σ σ := xFp.rf
  obtain ⟨v4, el, hE⟩ := x_letE hE
  obtain ⟨r10, hC, hE⟩ := x_bind hE
  obtain ⟨r21, hC, hE⟩ := x_bind hE
  rcases x_iteE hE with ⟨hc, hE⟩ | ⟨hc, hE⟩
  · obtain ⟨-, e2⟩ := x_pair hE
    rw [← e2]
    exact hf
  · obtain ⟨r40, hC, hE⟩ := x_bind hE
    rcases x_iteE hE with ⟨hc, hE⟩ | ⟨hc, hE⟩
    · rcases x_iteE hE with ⟨hc, hE⟩ | ⟨hc, hE⟩
      · obtain ⟨-, e2⟩ := x_pair hE
        rw [← e2]
        exact hf
      · obtain ⟨r60, hC, hE⟩ := x_bind hE
        rcases x_iteE hE with ⟨hc, hE⟩ | ⟨hc, hE⟩
        · obtain ⟨-, e2⟩ := x_pair hE
          rw [← e2]
          exact hf
        · obtain ⟨r72, hC, hE⟩ := x_bind hE
          rcases x_iteE hE with ⟨hc, hE⟩ | ⟨hc, hE⟩
          · obtain ⟨-, e2⟩ := x_pair hE
            rw [← e2]
            exact hf
          · obtain ⟨r84, hC, hE⟩ := x_bind hE
            rcases x_iteE hE with ⟨hc, hE⟩ | ⟨hc, hE⟩
            · obtain ⟨-, e2⟩ := x_pair hE
              rw [← e2]
              exact hf
            · obtain ⟨r98, hC, hE⟩ := x_bind hE
              rcases x_iteE hE with ⟨hc, hE⟩ | ⟨hc, hE⟩
              · obtain ⟨r114, hC, hE⟩ := x_bind hE
                obtain ⟨s117, el, hE⟩ := x_letE hE
                have hf := hf.tr (xFp.Q el)
                rcases x_iteE hE with ⟨hc, hE⟩ | ⟨hc, hE⟩
                · obtain ⟨-, e2⟩ := x_pair hE
                  rw [← e2]
                  exact hf
                · obtain ⟨hg, hE⟩ := x_guard hE
                  rcases x_iteE hE with ⟨hc, hE⟩ | ⟨hc, hE⟩
                  · obtain ⟨r149, hC, hE⟩ := x_bind hE
                    rcases x_iteE hE with ⟨hc, hE⟩ | ⟨hc, hE⟩
                    · exact hf.tr (jn159 _ _ _ _ hE)
                    · exact hf.tr (jn160 _ _ _ _ _ hE)
                  · exact hf.tr (jn159 _ _ _ _ hE)
              · obtain ⟨-, e2⟩ := x_pair hE
                rw [← e2]
                exact hf
    · obtain ⟨-, e2⟩ := x_pair hE
      rw [← e2]
      exact hf

set_option maxHeartbeats 4000000 in
set_option maxRecDepth 100000 in
theorem fp_Reader_restart (σ : St) {σ' : St} (hE : x_Reader_restart σ = some σ') : xFp [(28, 1), (32, 1), (31, 5), (31, 8), (40, 1), (42, 1), (30, 4), (30, 5), (30, 6), (30, 7), (30, 8), (27, 2), (27, 3), (27, 4), (27, 5)] [] (false, true, false) σ σ' := by
  unfold x_Reader_restart at hE
  have hf : xFp [(28, 1), (32, 1), (31, 5), (31, 8), (40, 1), (42, 1), (30, 4), (30, 5), (30, 6), (30, 7), (30, 8), (27, 2), (27, 3), (27, 4), (27, 5)] [] (false, true, false) σ σ := xFp.rf
  obtain ⟨s4, hC, hE⟩ := x_bind hE
  have hf := hf.tr ((fp_Bytes_clear _ _ hC).sub (by simp) (by simp) (by decide))
  obtain ⟨s11, hC, hE⟩ := x_bind hE
  have hf := hf.tr ((fp_Request_clear _ hC).sub (by simp) (by simp) (by decide))
  obtain ⟨s16, el, hE⟩ := x_letE hE
  have hf := hf.tr (xFp.R el (by simp))
  obtain ⟨s21, el, hE⟩ := x_letE hE
  have hf := hf.tr (xFp.R el (by simp))
  obtain ⟨s26, el, hE⟩ := x_letE hE
  have hf := hf.tr (xFp.R el (by simp))
  obtain ⟨s31, el, hE⟩ := x_letE hE
  have hf := hf.tr (xFp.R el (by simp))
  have e1 := Option.some.inj hE
  rw [← e1]
  exact hf

set_option maxHeartbeats 4000000 in
set_option maxRecDepth 100000 in
theorem fp_Reader_takeBodyByte (a1 : Int32) (σ : St) {r : Int32} {σ' : St} (hE : x_Reader_takeBodyByte a1 σ = some (r, σ')) : xFp [(42, 1)] [43] (false, false, false) σ σ' := by
  unfold x_Reader_takeBodyByte at hE
  have hf : xFp [(42, 1)] [43] (false, false, false) σ σ := xFp.rf
  obtain ⟨s8, hC, hE⟩ := x_bind hE
  have hf := hf.tr ((fp_Bytes_add _ _ _ hC).sub (by simp) (by simp) (by decide))
  rcases x_iteE hE with ⟨hc, hE⟩ | ⟨hc, hE⟩
  · obtain ⟨-, e2⟩ := x_pair hE
    rw [← e2]
    exact hf
  · obtain ⟨-, e2⟩ := x_pair hE
    rw [← e2]
    exact hf

set_option maxHeartbeats 4000000 in
set_option maxRecDepth 100000 in
theorem fp_Reader_takeChunkByte (a1 : Int32) (σ : St) {r : Int32} {σ' : St} (hE : x_Reader_takeChunkByte a1 σ = some (r, σ')) : xFp [(27, 3), (27, 2), (42, 1), (27, 4)] [43] (false, false, false) σ σ' := by
  have jn64 : ∀ (σ : St), x_Reader_takeChunkByte_64 a1 σ = some (r, σ') → xFp [(27, 3), (27, 2), (42, 1), (27, 4)] [43] (false, false, false) σ σ' := by
    intro σ hE
    unfold x_Reader_takeChunkByte_64 at hE
    have hf : xFp [(27, 3), (27, 2), (42, 1), (27, 4)] [43] (false, false, false) σ σ := xFp.rf
    rcases x_iteE hE with ⟨hc, hE⟩ | ⟨hc, hE⟩
    · obtain ⟨s77, el, hE⟩ := x_letE hE
      have hf := hf.tr (xFp.R el (by simp))
      obtain ⟨-, e2⟩ := x_pair hE
      rw [← e2]
      exact hf
    · obtain ⟨s77, el, hE⟩ := x_letE hE
      have hf := hf.tr (xFp.R el (by simp))
      obtain ⟨-, e2⟩ := x_pair hE
      rw [← e2]
      exact hf
  have jn45 : ∀ (k0 : Int32) (k1 : Int32) (σ : St), x_Reader_takeChunkByte_45 a1 k0 k1 σ = some (r, σ') → xFp [(27, 3), (27, 2), (42, 1), (27, 4)] [43] (false, false, false) σ σ' := by
    intro k0 k1 σ hE
    unfold x_Reader_takeChunkByte_45 at hE
    have hf : xFp [(27, 3), (27, 2), (42, 1), (27, 4)] [43] (false, false, false) σ σ := xFp.rf
    rcases x_iteE hE with ⟨hc, hE⟩ | ⟨hc, hE⟩
    · rcases x_iteE hE with ⟨hc, hE⟩ | ⟨hc, hE⟩
      · exact hf.tr (jn64 _ hE)
      · obtain ⟨s61, el, hE⟩ := x_letE hE
        have hf := hf.tr (xFp.R el (by simp))
        exact hf.tr (jn64 _ hE)
    · obtain ⟨-, e2⟩ := x_pair hE
      rw [← e2]
      exact hf
  unfold x_Reader_takeChunkByte at hE
  have hf : xFp [(27, 3), (27, 2), (42, 1), (27, 4)] [43] (false, false, false) σ σ := xFp.rf
  rcases x_iteE hE with ⟨hc, hE⟩ | ⟨hc, hE⟩
  · rcases x_iteE hE with ⟨hc, hE⟩ | ⟨hc, hE⟩
    · exact hf.tr (jn45 _ _ _ hE)
    · exact hf.tr (jn45 _ _ _ hE)
  · obtain ⟨s15, hC, hE⟩ := x_bind hE
    have hf := hf.tr ((fp_Bytes_add _ _ _ hC).sub (by simp) (by simp) (by decide))
    obtain ⟨s25, el, hE⟩ := x_letE hE
    have hf := hf.tr (xFp.R el (by simp))
    obtain ⟨-, e2⟩ := x_pair hE
    rw [← e2]
    exact hf

set_option maxHeartbeats 4000000 in
set_option maxRecDepth 100000 in
theorem fp_Reader_takeLineByte (a1 : Int32) (σ : St) {r : Int32} {σ' : St} (hE : x_Reader_takeLineByte a1 σ = some (r, σ')) : xFp [(27, 3), (28, 1)] [29] (false, false, false) σ σ' := by
  unfold x_Reader_takeLineByte at hE
  have hf : xFp [(27, 3), (28, 1)] [29] (false, false, false) σ σ := xFp.rf
  rcases x_iteE hE with ⟨hc, hE⟩ | ⟨hc, hE⟩
  · rcases x_iteE hE with ⟨hc, hE⟩ | ⟨hc, hE⟩
    · obtain ⟨-, e2⟩ := x_pair hE
      rw [← e2]
      exact hf
    · rcases x_iteE hE with ⟨hc, hE⟩ | ⟨hc, hE⟩
      · obtain ⟨s44, el, hE⟩ := x_letE hE
        have hf := hf.tr (xFp.R el (by simp))
        obtain ⟨-, e2⟩ := x_pair hE
        rw [← e2]
        exact hf
      · rcases x_iteE hE with ⟨hc, hE⟩ | ⟨hc, hE⟩
        · obtain ⟨s71, hC, hE⟩ := x_bind hE
          have hf := hf.tr ((fp_Bytes_add _ _ _ hC).sub (by simp) (by simp) (by decide))
          obtain ⟨-, e2⟩ := x_pair hE
          rw [← e2]
          exact hf
        · obtain ⟨r62, hC, hE⟩ := x_bind hE
          obtain ⟨-, e2⟩ := x_pair hE
          rw [← e2]
          exact hf
  · obtain ⟨s9, el, hE⟩ := x_letE hE
    have hf := hf.tr (xFp.R el (by simp))
    rcases x_iteE hE with ⟨hc, hE⟩ | ⟨hc, hE⟩
    · obtain ⟨-, e2⟩ := x_pair hE
      rw [← e2]
      exact hf
    · obtain ⟨-, e2⟩ := x_pair hE
      rw [← e2]
      exact hf

set_option maxHeartbeats 4000000 in
set_option maxRecDepth 100000 in
theorem fp_Reader_take (a1 : Int32) (σ : St) {r : Int32} {σ' : St} (hE : x_Reader_take a1 σ = some (r, σ')) : xFp [(42, 1), (27, 3), (27, 2), (27, 4), (28, 1)] [43, 29] (false, false, false) σ σ' := by
  unfold x_Reader_take at hE
  have hf : xFp [(42, 1), (27, 3), (27, 2), (27, 4), (28, 1)] [43, 29] (false, false, false) σ σ := xFp.rf
  rcases x_iteE hE with ⟨hc, hE⟩ | ⟨hc, hE⟩
  · obtain ⟨-, e2⟩ := x_pair hE
    rw [← e2]
    exact hf
  · rcases x_iteE hE with ⟨hc, hE⟩ | ⟨hc, hE⟩
    · obtain ⟨r44, s44, hC, hE⟩ := x_bind2E hE
      have hf := hf.tr ((fp_Reader_takeBodyByte _ _ hC).sub (by simp) (by simp) (by decide))
      obtain ⟨-, e2⟩ := x_pair hE
      rw [← e2]
      exact hf
    · rcases x_iteE hE with ⟨hc, hE⟩ | ⟨hc, hE⟩
      · obtain ⟨r50, s50, hC, hE⟩ := x_bind2E hE
        have hf := hf.tr ((fp_Reader_takeChunkByte _ _ hC).sub (by simp) (by simp) (by decide))
        obtain ⟨-, e2⟩ := x_pair hE
        rw [← e2]
        exact hf
      · obtain ⟨r56, s56, hC, hE⟩ := x_bind2E hE
        have hf := hf.tr ((fp_Reader_takeLineByte _ _ hC).sub (by simp) (by simp) (by decide))
        obtain ⟨-, e2⟩ := x_pair hE
        rw [← e2]
        exact hf

set_option maxHeartbeats 4000000 in
set_option maxRecDepth 100000 in
theorem fp_Reader_endRequestLine (σ : St) {r : Int32} {σ' : St} (hE : x_Reader_endRequestLine σ = some (r, σ')) : xFp [(30, 4), (40, 1), (27, 2)] [41] (false, true, false) σ σ' := by
  unfold x_Reader_endRequestLine at hE
  have hf : xFp [(30, 4), (40, 1), (27, 2)] [41] (false, true, false) σ σ := xFp.rf
  rcases x_iteE hE with ⟨hc, hE⟩ | ⟨hc, hE⟩
  · obtain ⟨-, e2⟩ := x_pair hE
    rw [← e2]
    exact hf
  · obtain ⟨r20, s20, hC, hE⟩ := x_bind2E hE
    have hf := hf.tr ((fp_Request_takeLine _ _ hC).sub (by simp) (by simp) (by decide))
    rcases x_iteE hE with ⟨hc, hE⟩ | ⟨hc, hE⟩
    · obtain ⟨s30, el, hE⟩ := x_letE hE
      have hf := hf.tr (xFp.R el (by simp))
      obtain ⟨-, e2⟩ := x_pair hE
      rw [← e2]
      exact hf
    · obtain ⟨-, e2⟩ := x_pair hE
      rw [← e2]
      exact hf

set_option maxHeartbeats 4000000 in
set_option maxRecDepth 100000 in
theorem fp_Reader_endTrailer (σ : St) {r : Int32} {σ' : St} (hE : x_Reader_endTrailer σ = some (r, σ')) : xFp [(27, 5)] [] (false, false, false) σ σ' := by
  unfold x_Reader_endTrailer at hE
  have hf : xFp [(27, 5)] [] (false, false, false) σ σ := xFp.rf
  obtain ⟨r4, hC, hE⟩ := x_bind hE
  rcases x_iteE hE with ⟨hc, hE⟩ | ⟨hc, hE⟩
  · obtain ⟨-, e2⟩ := x_pair hE
    rw [← e2]
    exact hf
  · obtain ⟨s22, el, hE⟩ := x_letE hE
    have hf := hf.tr (xFp.R el (by simp))
    rcases x_iteE hE with ⟨hc, hE⟩ | ⟨hc, hE⟩
    · obtain ⟨-, e2⟩ := x_pair hE
      rw [← e2]
      exact hf
    · obtain ⟨-, e2⟩ := x_pair hE
      rw [← e2]
      exact hf

set_option maxHeartbeats 4000000 in
set_option maxRecDepth 100000 in
theorem fp_Reader_endChunkLine (σ : St) {r : Int32} {σ' : St} (hE : x_Reader_endChunkLine σ = some (r, σ')) : xFp [(27, 4), (27, 2)] [] (false, false, false) σ σ' := by
  unfold x_Reader_endChunkLine at hE
  have hf : xFp [(27, 4), (27, 2)] [] (false, false, false) σ σ := xFp.rf
  obtain ⟨r4, hC, hE⟩ := x_bind hE
  rcases x_iteE hE with ⟨hc, hE⟩ | ⟨hc, hE⟩
  · obtain ⟨-, e2⟩ := x_pair hE
    rw [← e2]
    exact hf
  · rcases x_iteE hE with ⟨hc, hE⟩ | ⟨hc, hE⟩
    · obtain ⟨s41, el, hE⟩ := x_letE hE
      have hf := hf.tr (xFp.R el (by simp))
      rcases x_iteE hE with ⟨hc, hE⟩ | ⟨hc, hE⟩
      · obtain ⟨s54, el, hE⟩ := x_letE hE
        have hf := hf.tr (xFp.R el (by simp))
        obtain ⟨-, e2⟩ := x_pair hE
        rw [← e2]
        exact hf
      · obtain ⟨s54, el, hE⟩ := x_letE hE
        have hf := hf.tr (xFp.R el (by simp))
        obtain ⟨-, e2⟩ := x_pair hE
        rw [← e2]
        exact hf
    · obtain ⟨-, e2⟩ := x_pair hE
      rw [← e2]
      exact hf

set_option maxHeartbeats 4000000 in
set_option maxRecDepth 100000 in
theorem fp_Reader_endLine (σ : St) {r : Int32} {σ' : St} (hE : x_Reader_endLine σ = some (r, σ')) : xFp [(28, 1), (27, 5), (30, 4), (40, 1), (27, 2), (32, 1), (31, 5), (27, 4)] [41, 33, 34, 35, 36, 37] (false, true, false) σ σ' := by
  have jn103 : ∀ (l1 : Int32) (σ : St), x_Reader_endLine_103 l1 σ = some (r, σ') → xFp [(28, 1), (27, 5), (30, 4), (40, 1), (27, 2), (32, 1), (31, 5), (27, 4)] [41, 33, 34, 35, 36, 37] (false, true, false) σ σ' := by
    intro l1 σ hE
    unfold x_Reader_endLine_103 at hE
    have hf : xFp [(28, 1), (27, 5), (30, 4), (40, 1), (27, 2), (32, 1), (31, 5), (27, 4)] [41, 33, 34, 35, 36, 37] (false, true, false) σ σ := xFp.rf
    obtain ⟨s107, hC, hE⟩ := x_bind hE
    have hf := hf.tr ((fp_Bytes_clear _ _ hC).sub (by simp) (by simp) (by decide))
    obtain ⟨-, e2⟩ := x_pair hE
    rw [← e2]
    exact hf
  have jn72 : ∀ (k0 : Int32) (σ : St), x_Reader_endLine_72 k0 σ = some (r, σ') → xFp [(28, 1), (27, 5), (30, 4), (40, 1), (27, 2), (32, 1), (31, 5), (27, 4)] [41, 33, 34, 35, 36, 37] (false, true, false) σ σ' := by
    intro k0 σ hE
    unfold x_Reader_endLine_72 at hE
    have hf : xFp [(28, 1), (27, 5), (30, 4), (40, 1), (27, 2), (32, 1), (31, 5), (27, 4)] [41, 33, 34, 35, 36, 37] (false, true, false) σ σ := xFp.rf
    exact hf.tr (jn103 _ _ hE)
  have jn102 : ∀ (k0 : Int32) (σ : St), x_Reader_endLine_102 k0 σ = some (r, σ') → xFp [(28, 1), (27, 5), (30, 4), (40, 1), (27, 2), (32, 1), (31, 5), (27, 4)] [41, 33, 34, 35, 36, 37] (false, true, false) σ σ' := by
    intro k0 σ hE
    unfold x_Reader_endLine_102 at hE
    have hf : xFp [(28, 1), (27, 5), (30, 4), (40, 1), (27, 2), (32, 1), (31, 5), (27, 4)] [41, 33, 34, 35, 36, 37] (false, true, false) σ σ := xFp.rf
    exact hf.tr (jn103 _ _ hE)
  have jn84 : ∀ (σ : St), x_Reader_endLine_84 σ = some (r, σ') → xFp [(28, 1), (27, 5), (30, 4), (40, 1), (27, 2), (32, 1), (31, 5), (27, 4)] [41, 33, 34, 35, 36, 37] (false, true, false) σ σ' := by
    intro σ hE
    unfold x_Reader_endLine_84 at hE
    have hf : xFp [(28, 1), (27, 5), (30, 4), (40, 1), (27, 2), (32, 1), (31, 5), (27, 4)] [41, 33, 34, 35, 36, 37] (false, true, false) σ σ := xFp.rf
    rcases x_iteE hE with ⟨hc, hE⟩ | ⟨hc, hE⟩
    · exact hf.tr (jn102 _ _ hE)
    · obtain ⟨r99, s99, hC, hE⟩ := x_bind2E hE
      have hf := hf.tr ((fp_Reader_endTrailer _ hC).sub (by simp) (by simp) (by decide))
      exact hf.tr (jn102 _ _ hE)
  unfold x_Reader_endLine at hE
  have hf : xFp [(28, 1), (27, 5), (30, 4), (40, 1), (27, 2), (32, 1), (31, 5), (27, 4)] [41, 33, 34, 35, 36, 37] (false, true, false) σ σ := xFp.rf
  rcases x_iteE hE with ⟨hc, hE⟩ | ⟨hc, hE⟩
  · obtain ⟨r37, s37, hC, hE⟩ := x_bind2E hE
    have hf := hf.tr ((fp_Reader_endRequestLine _ hC).sub (by simp) (by simp) (by decide))
    exact hf.tr (jn103 _ _ hE)
  · rcases x_iteE hE with ⟨hc, hE⟩ | ⟨hc, hE⟩
    · rcases x_iteE hE with ⟨hc, hE⟩ | ⟨hc, hE⟩
      · exact hf.tr (jn72 _ _ hE)
      · obtain ⟨r69, s69, hC, hE⟩ := x_bind2E hE
        have hf := hf.tr ((fp_Fields_take _ _ hC).sub (by simp) (by simp) (by decide))
        exact hf.tr (jn72 _ _ hE)
    · rcases x_iteE hE with ⟨hc, hE⟩ | ⟨hc, hE⟩
      · exact hf.tr (jn84 _ hE)
      · rcases x_iteE hE with ⟨hc, hE⟩ | ⟨hc, hE⟩
        · obtain ⟨r77, s77, hC, hE⟩ := x_bind2E hE
          have hf := hf.tr ((fp_Reader_endChunkLine _ hC).sub (by simp) (by simp) (by decide))
          exact hf.tr (jn103 _ _ hE)
        · exact hf.tr (jn84 _ hE)

set_option maxHeartbeats 4000000 in
set_option maxRecDepth 100000 in
theorem fp_Reader_endHead (σ : St) {r : Int32} {σ' : St} (hE : x_Reader_endHead σ = some (r, σ')) : xFp [(27, 2), (31, 8), (30, 8), (30, 7), (30, 6), (30, 5)] [38, 39] (false, false, false) σ σ' := by
  have jn95 : ∀ (k0 : Int32) (σ : St), x_Reader_endHead_95 k0 σ = some (r, σ') → xFp [(27, 2), (31, 8), (30, 8), (30, 7), (30, 6), (30, 5)] [38, 39] (false, false, false) σ σ' := by
    intro k0 σ hE
    unfold x_Reader_endHead_95 at hE
    have hf : xFp [(27, 2), (31, 8), (30, 8), (30, 7), (30, 6), (30, 5)] [38, 39] (false, false, false) σ σ := xFp.rf
    obtain ⟨s95, el, hE⟩ := x_letE hE
    have hf := hf.tr (xFp.R el (by simp))
    rcases x_iteE hE with ⟨hc, hE⟩ | ⟨hc, hE⟩
    · obtain ⟨-, e2⟩ := x_pair hE
      rw [← e2]
      exact hf
    · obtain ⟨-, e2⟩ := x_pair hE
      rw [← e2]
      exact hf
  have jn79 : ∀ (σ : St), x_Reader_endHead_79 σ = some (r, σ') → xFp [(27, 2), (31, 8), (30, 8), (30, 7), (30, 6), (30, 5)] [38, 39] (false, false, false) σ σ' := by
    intro σ hE
    unfold x_Reader_endHead_79 at hE
    have hf : xFp [(27, 2), (31, 8), (30, 8), (30, 7), (30, 6), (30, 5)] [38, 39] (false, false, false) σ σ := xFp.rf
    rcases x_iteE hE with ⟨hc, hE⟩ | ⟨hc, hE⟩
    · exact hf.tr (jn95 _ _ hE)
    · exact hf.tr (jn95 _ _ hE)
  have jn44 : ∀ (l1 : Int32) (σ : St), x_Reader_endHead_44 l1 σ = some (r, σ') → xFp [(27, 2), (31, 8), (30, 8), (30, 7), (30, 6), (30, 5)] [38, 39] (false, false, false) σ σ' := by
    intro l1 σ hE
    unfold x_Reader_endHead_44 at hE
    have hf : xFp [(27, 2), (31, 8), (30, 8), (30, 7), (30, 6), (30, 5)] [38, 39] (false, false, false) σ σ := xFp.rf
    rcases x_iteE hE with ⟨hc, hE⟩ | ⟨hc, hE⟩
    · obtain ⟨s54, hC, hE⟩ := x_bind hE
      have hf := hf.tr ((fp_Request_readConnection _ hC).sub (by simp) (by simp) (by decide))
      rcases x_iteE hE with ⟨hc, hE⟩ | ⟨hc, hE⟩
      · rcases x_iteE hE with ⟨hc, hE⟩ | ⟨hc, hE⟩
        · obtain ⟨-, e2⟩ := x_pair hE
          rw [← e2]
          exact hf
        · exact hf.tr (jn79 _ hE)
      · exact hf.tr (jn79 _ hE)
    · obtain ⟨-, e2⟩ := x_pair hE
      rw [← e2]
      exact hf
  have jn32 : ∀ (l1 : Int32) (σ : St), x_Reader_endHead_32 l1 σ = some (r, σ') → xFp [(27, 2), (31, 8), (30, 8), (30, 7), (30, 6), (30, 5)] [38, 39] (false, false, false) σ σ' := by
    intro l1 σ hE
    unfold x_Reader_endHead_32 at hE
    have hf : xFp [(27, 2), (31, 8), (30, 8), (30, 7), (30, 6), (30, 5)] [38, 39] (false, false, false) σ σ := xFp.rf
    rcases x_iteE hE with ⟨hc, hE⟩ | ⟨hc, hE⟩
    · obtain ⟨r40, s40, hC, hE⟩ := x_bind2E hE
      have hf := hf.tr ((fp_Request_checkExpect _ hC).sub (by simp) (by simp) (by decide))
      exact hf.tr (jn44 _ _ hE)
    · exact hf.tr (jn44 _ _ hE)
  have jn20 : ∀ (l1 : Int32) (σ : St), x_Reader_endHead_20 l1 σ = some (r, σ') → xFp [(27, 2), (31, 8), (30, 8), (30, 7), (30, 6), (30, 5)] [38, 39] (false, false, false) σ σ' := by
    intro l1 σ hE
    unfold x_Reader_endHead_20 at hE
    have hf : xFp [(27, 2), (31, 8), (30, 8), (30, 7), (30, 6), (30, 5)] [38, 39] (false, false, false) σ σ := xFp.rf
    rcases x_iteE hE with ⟨hc, hE⟩ | ⟨hc, hE⟩
    · obtain ⟨r28, s28, hC, hE⟩ := x_bind2E hE
      have hf := hf.tr ((fp_Request_checkContentLength _ hC).sub (by simp) (by simp) (by decide))
      exact hf.tr (jn32 _ _ hE)
    · exact hf.tr (jn32 _ _ hE)
  unfold x_Reader_endHead at hE
  have hf : xFp [(27, 2), (31, 8), (30, 8), (30, 7), (30, 6), (30, 5)] [38, 39] (false, false, false) σ σ := xFp.rf
  obtain ⟨r4, hC, hE⟩ := x_bind hE
  rcases x_iteE hE with ⟨hc, hE⟩ | ⟨hc, hE⟩
  · obtain ⟨r16, s16, hC, hE⟩ := x_bind2E hE
    have hf := hf.tr ((fp_Request_checkTransferEncoding _ hC).sub (by simp) (by simp) (by decide))
    exact hf.tr (jn20 _ _ hE)
  · exact hf.tr (jn20 _ _ hE)

set_option maxHeartbeats 4000000 in
set_option maxRecDepth 100000 in
theorem fp_Site_replace (o1 : Nat) (σ : St) {r : Int32} {σ' : St} (hE : x_Site_replace o1 σ = some (r, σ')) : xFp [((o1 + 1), 1), (1, 1), (o1, 1), (31, 8)] [(o1 + 2), 38, 39] (false, false, false) σ σ' := by
  have jn27 : ∀ (l3 : Int32) (σ : St), x_Site_replace_27 o1 l3 σ = some (r, σ') → xFp [((o1 + 1), 1), (1, 1), (o1, 1), (31, 8)] [(o1 + 2), 38, 39] (false, false, false) σ σ' := by
    intro l3 σ hE
    unfold x_Site_replace_27 at hE
    have hf : xFp [((o1 + 1), 1), (1, 1), (o1, 1), (31, 8)] [(o1 + 2), 38, 39] (false, false, false) σ σ := xFp.rf
    obtain ⟨s31, hC, hE⟩ := x_bind hE
    have hf := hf.tr ((fp_Bytes_clear _ _ hC).sub (by simp) (by simp) (by decide))
    obtain ⟨s42, hC, hE⟩ := x_bind hE
    have hf := hf.tr ((fp_Bytes_addAll _ _ _ hC).sub (by simp) (by simp) (by decide))
    obtain ⟨s52, el, hE⟩ := x_letE hE
    have hf := hf.tr (xFp.R el (by simp))
    obtain ⟨s60, el, hE⟩ := x_letE hE
    have hf := hf.tr (xFp.R el (by simp))
    rcases x_iteE hE with ⟨hc, hE⟩ | ⟨hc, hE⟩
    · obtain ⟨-, e2⟩ := x_pair hE
      rw [← e2]
      exact hf
    · obtain ⟨-, e2⟩ := x_pair hE
      rw [← e2]
      exact hf
  unfold x_Site_replace at hE
  have hf : xFp [((o1 + 1), 1), (1, 1), (o1, 1), (31, 8)] [(o1 + 2), 38, 39] (false, false, false) σ σ := xFp.rf
  obtain ⟨r1, hC, hE⟩ := x_bind hE
  rcases x_iteE hE with ⟨hc, hE⟩ | ⟨hc, hE⟩
  · exact hf.tr (jn27 _ _ hE)
  · obtain ⟨r17, s17, hC, hE⟩ := x_bind2E hE
    have hf := hf.tr ((fp_Fields_hasElement _ _ _ hC).sub (by simp) (by simp) (by decide))
    rcases x_iteE hE with ⟨hc, hE⟩ | ⟨hc, hE⟩
    · exact hf.tr (jn27 _ _ hE)
    · obtain ⟨-, e2⟩ := x_pair hE
      rw [← e2]
      exact hf

set_option maxHeartbeats 4000000 in
set_option maxRecDepth 100000 in
theorem fp_Site_extend (o1 : Nat) (σ : St) {r : Int32} {σ' : St} (hE : x_Site_extend o1 σ = some (r, σ')) : xFp [((o1 + 1), 1), (1, 1), (o1, 1)] [(o1 + 2)] (false, false, false) σ σ' := by
  unfold x_Site_extend at hE
  have hf : xFp [((o1 + 1), 1), (1, 1), (o1, 1)] [(o1 + 2)] (false, false, false) σ σ := xFp.rf
  obtain ⟨r1, hC, hE⟩ := x_bind hE
  rcases x_iteE hE with ⟨hc, hE⟩ | ⟨hc, hE⟩
  · obtain ⟨-, e2⟩ := x_pair hE
    rw [← e2]
    exact hf
  · rcases x_iteE hE with ⟨hc, hE⟩ | ⟨hc, hE⟩
    · obtain ⟨s44, hC, hE⟩ := x_bind hE
      have hf := hf.tr ((fp_Bytes_addAll _ _ _ hC).sub (by simp) (by simp) (by decide))
      obtain ⟨s54, el, hE⟩ := x_letE hE
      have hf := hf.tr (xFp.R el (by simp))
      obtain ⟨s62, el, hE⟩ := x_letE hE
      have hf := hf.tr (xFp.R el (by simp))
      obtain ⟨-, e2⟩ := x_pair hE
      rw [← e2]
      exact hf
    · obtain ⟨-, e2⟩ := x_pair hE
      rw [← e2]
      exact hf

set_option maxHeartbeats 4000000 in
set_option maxRecDepth 100000 in
theorem fp_Site_remove (o1 : Nat) (σ : St) {r : Int32} {σ' : St} (hE : x_Site_remove o1 σ = some (r, σ')) : xFp [((o1 + 1), 1), (o1, 1), (1, 1)] [] (false, false, false) σ σ' := by
  unfold x_Site_remove at hE
  have hf : xFp [((o1 + 1), 1), (o1, 1), (1, 1)] [] (false, false, false) σ σ := xFp.rf
  obtain ⟨r1, hC, hE⟩ := x_bind hE
  rcases x_iteE hE with ⟨hc, hE⟩ | ⟨hc, hE⟩
  · obtain ⟨-, e2⟩ := x_pair hE
    rw [← e2]
    exact hf
  · obtain ⟨s15, hC, hE⟩ := x_bind hE
    have hf := hf.tr ((fp_Bytes_clear _ _ hC).sub (by simp) (by simp) (by decide))
    obtain ⟨s20, el, hE⟩ := x_letE hE
    have hf := hf.tr (xFp.R el (by simp))
    obtain ⟨s30, el, hE⟩ := x_letE hE
    have hf := hf.tr (xFp.R el (by simp))
    obtain ⟨-, e2⟩ := x_pair hE
    rw [← e2]
    exact hf

set_option maxHeartbeats 4000000 in
set_option maxRecDepth 100000 in
theorem fp_Range_take (σ : St) {r : Int32} {σ' : St} (hE : x_Range_take σ = some (r, σ')) : xFp [(45, 0), (45, 1)] [] (false, false, false) σ σ' := by
  unfold x_Range_take at hE
  have hf : xFp [(45, 0), (45, 1)] [] (false, false, false) σ σ := xFp.rf
  obtain ⟨r3, hC, hE⟩ := x_bind hE
  rcases x_iteE hE with ⟨hc, hE⟩ | ⟨hc, hE⟩
  · obtain ⟨-, e2⟩ := x_pair hE
    rw [← e2]
    exact hf
  · obtain ⟨r15, hC, hE⟩ := x_bind hE
    rcases x_iteE hE with ⟨hc, hE⟩ | ⟨hc, hE⟩
    · obtain ⟨hg, hE⟩ := x_guard hE
      obtain ⟨v38, el, hE⟩ := x_letE hE
      obtain ⟨hg, hE⟩ := x_guard hE
      obtain ⟨v46, el, hE⟩ := x_letE hE
      rcases x_iteE hE with ⟨hc, hE⟩ | ⟨hc, hE⟩
      · obtain ⟨-, e2⟩ := x_pair hE
        rw [← e2]
        exact hf
      · obtain ⟨r65, hC, hE⟩ := x_bind hE
        rcases x_iteE hE with ⟨hc, hE⟩ | ⟨hc, hE⟩
        · obtain ⟨-, e2⟩ := x_pair hE
          rw [← e2]
          exact hf
        · obtain ⟨r80, hC, hE⟩ := x_bind hE
          obtain ⟨r91, hC, hE⟩ := x_bind hE
          obtain ⟨s94, el, hE⟩ := x_letE hE
          have hf := hf.tr (xFp.R el (by simp))
          obtain ⟨r105, hC, hE⟩ := x_bind hE
          obtain ⟨s108, el, hE⟩ := x_letE hE
          have hf := hf.tr (xFp.R el (by simp))
          rcases x_iteE hE with ⟨hc, hE⟩ | ⟨hc, hE⟩
          · rcases x_iteE hE with ⟨hc, hE⟩ | ⟨hc, hE⟩
            · obtain ⟨-, e2⟩ := x_pair hE
              rw [← e2]
              exact hf
            · obtain ⟨-, e2⟩ := x_pair hE
              rw [← e2]
              exact hf
          · rcases x_iteE hE with ⟨hc, hE⟩ | ⟨hc, hE⟩
            · rcases x_iteE hE with ⟨hc, hE⟩ | ⟨hc, hE⟩
              · obtain ⟨-, e2⟩ := x_pair hE
                rw [← e2]
                exact hf
              · obtain ⟨-, e2⟩ := x_pair hE
                rw [← e2]
                exact hf
            · rcases x_iteE hE with ⟨hc, hE⟩ | ⟨hc, hE⟩
              · obtain ⟨-, e2⟩ := x_pair hE
                rw [← e2]
                exact hf
              · rcases x_iteE hE with ⟨hc, hE⟩ | ⟨hc, hE⟩
                · obtain ⟨-, e2⟩ := x_pair hE
                  rw [← e2]
                  exact hf
                · obtain ⟨-, e2⟩ := x_pair hE
                  rw [← e2]
                  exact hf
    · obtain ⟨-, e2⟩ := x_pair hE
      rw [← e2]
      exact hf

set_option maxHeartbeats 4000000 in
set_option maxRecDepth 100000 in
theorem fp_Answer_begin (a1 : Int32) (σ : St) {σ' : St} (hE : x_Answer_begin a1 σ = some σ') : xFp [(44, 2), (44, 3), (44, 4), (44, 7), (44, 9), (44, 10), (44, 11)] [] (true, false, false) σ σ' := by
  unfold x_Answer_begin at hE
  have hf : xFp [(44, 2), (44, 3), (44, 4), (44, 7), (44, 9), (44, 10), (44, 11)] [] (true, false, false) σ σ := xFp.rf
  obtain ⟨s2, el, hE⟩ := x_letE hE
  have hf := hf.tr (xFp.R el (by simp))
  obtain ⟨s7, el, hE⟩ := x_letE hE
  have hf := hf.tr (xFp.R el (by simp))
  obtain ⟨s12, el, hE⟩ := x_letE hE
  have hf := hf.tr (xFp.R el (by simp))
  obtain ⟨s17, el, hE⟩ := x_letE hE
  have hf := hf.tr (xFp.R el (by simp))
  obtain ⟨s25, el, hE⟩ := x_letE hE
  have hf := hf.tr (xFp.B el)
  obtain ⟨s30, el, hE⟩ := x_letE hE
  have hf := hf.tr (xFp.R el (by simp))
  obtain ⟨s35, el, hE⟩ := x_letE hE
  have hf := hf.tr (xFp.R el (by simp))
  obtain ⟨s40, el, hE⟩ := x_letE hE
  have hf := hf.tr (xFp.R el (by simp))
  have e1 := Option.some.inj hE
  rw [← e1]
  exact hf

set_option maxHeartbeats 4000000 in
set_option maxRecDepth 100000 in
theorem fp_Answer_isKnown (a2 : Int32) (σ : St) {r : Int32} {σ' : St} (hE : x_Answer_isKnown a2 σ = some (r, σ')) : xFp [(31, 8)] [38, 39] (false, false, false) σ σ' := by
  have jn10 : ∀ (n : Nat) (l3 : Int32) (l4 : Int32) (σ : St), x_Answer_isKnown_10 a2 n l3 l4 σ = some (r, σ') → xFp [(31, 8)] [38, 39] (false, false, false) σ σ' := by
    intro n
    induction n with
    | zero => intro l3 l4 σ hE; rw [x_Answer_isKnown_10] at hE; cases hE
    | succ n ih =>
      intro l3 l4 σ hE
      rw [x_Answer_isKnown_10] at hE
      have hf : xFp [(31, 8)] [38, 39] (false, false, false) σ σ := xFp.rf
      rcases x_iteE hE with ⟨hc, hE⟩ | ⟨hc, hE⟩
      · obtain ⟨-, e2⟩ := x_pair hE
        rw [← e2]
        exact hf
      · obtain ⟨r21, hC, hE⟩ := x_bind hE
        rcases x_iteE hE with ⟨hc, hE⟩ | ⟨hc, hE⟩
        · obtain ⟨r31, hC, hE⟩ := x_bind hE
          rcases x_iteE hE with ⟨hc, hE⟩ | ⟨hc, hE⟩
          · obtain ⟨v39, el, hE⟩ := x_letE hE
            exact hf.tr (ih _ _ _ hE)
          · obtain ⟨-, e2⟩ := x_pair hE
            rw [← e2]
            exact hf
        · obtain ⟨-, e2⟩ := x_pair hE
          rw [← e2]
          exact hf
  unfold x_Answer_isKnown at hE
  have hf : xFp [(31, 8)] [38, 39] (false, false, false) σ σ := xFp.rf
  obtain ⟨r3, s3, hC, hE⟩ := x_bind2E hE
  have hf := hf.tr ((fp_Fields_gather _ _ hC).sub (by simp) (by simp) (by decide))
  exact hf.tr (jn10 x_fuel _ _ _ hE)

set_option maxHeartbeats 4000000 in
set_option maxRecDepth 100000 in
theorem fp_Answer_show (m1 : Option Nat) (o2 : Nat) (σ : St) {σ' : St} (hE : x_Answer_show m1 o2 σ = some σ') : xFp [(44, 2), (44, 3), (44, 4), (44, 7), (44, 9), (44, 10), (44, 11)] [] (true, false, false) σ σ' := by
  unfold x_Answer_show at hE
  have hf : xFp [(44, 2), (44, 3), (44, 4), (44, 7), (44, 9), (44, 10), (44, 11)] [] (true, false, false) σ σ := xFp.rf
  obtain ⟨s4, hC, hE⟩ := x_bind hE
  have hf := hf.tr ((fp_Answer_begin _ _ hC).sub (by simp) (by simp) (by decide))
  obtain ⟨s9, el, hE⟩ := x_letE hE
  have hf := hf.tr (xFp.B el)
  obtain ⟨s17, el, hE⟩ := x_letE hE
  have hf := hf.tr (xFp.R el (by simp))
  obtain ⟨hg, hE⟩ := x_guard hE
  rcases x_iteE hE with ⟨hc, hE⟩ | ⟨hc, hE⟩
  · obtain ⟨s36, el, hE⟩ := x_letE hE
    have hf := hf.tr (xFp.R el (by simp))
    have e1 := Option.some.inj hE
    rw [← e1]
    exact hf
  · obtain ⟨s36, el, hE⟩ := x_letE hE
    have hf := hf.tr (xFp.R el (by simp))
    have e1 := Option.some.inj hE
    rw [← e1]
    exact hf

set_option maxHeartbeats 4000000 in
set_option maxRecDepth 100000 in
theorem fp_Answer_showRange (o1 : Nat) (σ : St) {σ' : St} (hE : x_Answer_showRange o1 σ = some σ') : xFp [(44, 2), (44, 3), (44, 4), (44, 7), (44, 9), (44, 10), (44, 11)] [] (true, false, false) σ σ' := by
  have jn20 : ∀ (l2 : Int32) (σ : St), x_Answer_showRange_20 o1 l2 σ = some σ' → xFp [(44, 2), (44, 3), (44, 4), (44, 7), (44, 9), (44, 10), (44, 11)] [] (true, false, false) σ σ' := by
    intro l2 σ hE
    unfold x_Answer_showRange_20 at hE
    have hf : xFp [(44, 2), (44, 3), (44, 4), (44, 7), (44, 9), (44, 10), (44, 11)] [] (true, false, false) σ σ := xFp.rf
    obtain ⟨s24, hC, hE⟩ := x_bind hE
    have hf := hf.tr ((fp_Answer_begin _ _ hC).sub (by simp) (by simp) (by decide))
    obtain ⟨s29, el, hE⟩ := x_letE hE
    have hf := hf.tr (xFp.R el (by simp))
    have e1 := Option.some.inj hE
    rw [← e1]
    exact hf
  have jn129 : ∀ (σ : St), x_Answer_showRange_129 o1 σ = some σ' → xFp [(44, 2), (44, 3), (44, 4), (44, 7), (44, 9), (44, 10), (44, 11)] [] (true, false, false) σ σ' := by
    intro σ hE
    unfold x_Answer_showRange_129 at hE
    have hf : xFp [(44, 2), (44, 3), (44, 4), (44, 7), (44, 9), (44, 10), (44, 11)] [] (true, false, false) σ σ := xFp.rf
    obtain ⟨s139, el, hE⟩ := x_letE hE
    have hf := hf.tr (xFp.R el (by simp))
    have e1 := Option.some.inj hE
    rw [← e1]
    exact hf
  have jn126 : ∀ (k0 : Int32) (σ : St), x_Answer_showRange_126 o1 k0 σ = some σ' → xFp [(44, 2), (44, 3), (44, 4), (44, 7), (44, 9), (44, 10), (44, 11)] [] (true, false, false) σ σ' := by
    intro k0 σ hE
    unfold x_Answer_showRange_126 at hE
    have hf : xFp [(44, 2), (44, 3), (44, 4), (44, 7), (44, 9), (44, 10), (44, 11)] [] (true, false, false) σ σ := xFp.rf
    obtain ⟨s126, el, hE⟩ := x_letE hE
    have hf := hf.tr (xFp.R el (by simp))
    exact hf.tr (jn129 _ hE)
  unfold x_Answer_showRange at hE
  have hf : xFp [(44, 2), (44, 3), (44, 4), (44, 7), (44, 9), (44, 10), (44, 11)] [] (true, false, false) σ σ := xFp.rf
  obtain ⟨v4, el, hE⟩ := x_letE hE
  rcases x_iteE hE with ⟨hc, hE⟩ | ⟨hc, hE⟩
  · exact hf.tr (jn20 _ _ hE)
  · rcases x_iteE hE with ⟨hc, hE⟩ | ⟨hc, hE⟩
    · obtain ⟨s37, hC, hE⟩ := x_bind hE
      have hf := hf.tr ((fp_Answer_begin _ _ hC).sub (by simp) (by simp) (by decide))
      obtain ⟨s42, el, hE⟩ := x_letE hE
      have hf := hf.tr (xFp.R el (by simp))
      obtain ⟨s47, el, hE⟩ := x_letE hE
      have hf := hf.tr (xFp.B el)
      rcases x_iteE hE with ⟨hc, hE⟩ | ⟨hc, hE⟩
      · obtain ⟨s75, el, hE⟩ := x_letE hE
        have hf := hf.tr (xFp.R el (by simp))
        obtain ⟨s80, el, hE⟩ := x_letE hE
        have hf := hf.tr (xFp.R el (by simp))
        exact hf.tr (jn129 _ hE)
      · obtain ⟨s94, el, hE⟩ := x_letE hE
        have hf := hf.tr (xFp.R el (by simp))
        rcases x_iteE hE with ⟨hc, hE⟩ | ⟨hc, hE⟩
        · exact hf.tr (jn126 _ _ hE)
        · exact hf.tr (jn126 _ _ hE)
    · exact hf.tr (jn20 _ _ hE)

set_option maxHeartbeats 4000000 in
set_option maxRecDepth 100000 in
theorem fp_Answer_read (o2 : Nat) (σ : St) {σ' : St} (hE : x_Answer_read o2 σ = some σ') : xFp [(44, 3), (44, 2), (44, 4), (44, 7), (44, 9), (44, 10), (44, 11), (31, 8), (45, 0), (45, 1)] [38, 39] (true, false, false) σ σ' := by
  have jn87 : ∀ (σ : St), x_Answer_read_87 o2 σ = some σ' → xFp [(44, 3), (44, 2), (44, 4), (44, 7), (44, 9), (44, 10), (44, 11), (31, 8), (45, 0), (45, 1)] [38, 39] (true, false, false) σ σ' := by
    intro σ hE
    unfold x_Answer_read_87 at hE
    have hf : xFp [(44, 3), (44, 2), (44, 4), (44, 7), (44, 9), (44, 10), (44, 11), (31, 8), (45, 0), (45, 1)] [38, 39] (true, false, false) σ σ := xFp.rf
    rcases x_iteE hE with ⟨hc, hE⟩ | ⟨hc, hE⟩
    · obtain ⟨s106, el, hE⟩ := x_letE hE
      have hf := hf.tr (xFp.R el (by simp))
      have e1 := Option.some.inj hE
      rw [← e1]
      exact hf
    · obtain ⟨s106, el, hE⟩ := x_letE hE
      have hf := hf.tr (xFp.R el (by simp))
      have e1 := Option.some.inj hE
      rw [← e1]
      exact hf
  have jn75 : ∀ (σ : St), x_Answer_read_75 o2 σ = some σ' → xFp [(44, 3), (44, 2), (44, 4), (44, 7), (44, 9), (44, 10), (44, 11), (31, 8), (45, 0), (45, 1)] [38, 39] (true, false, false) σ σ' := by
    intro σ hE
    unfold x_Answer_read_75 at hE
    have hf : xFp [(44, 3), (44, 2), (44, 4), (44, 7), (44, 9), (44, 10), (44, 11), (31, 8), (45, 0), (45, 1)] [38, 39] (true, false, false) σ σ := xFp.rf
    obtain ⟨s84, hC, hE⟩ := x_bind hE
    have hf := hf.tr ((fp_Answer_show _ _ _ hC).sub (by simp) (by simp) (by decide))
    exact hf.tr (jn87 _ hE)
  unfold x_Answer_read at hE
  have hf : xFp [(44, 3), (44, 2), (44, 4), (44, 7), (44, 9), (44, 10), (44, 11), (31, 8), (45, 0), (45, 1)] [38, 39] (true, false, false) σ σ := xFp.rf
  obtain ⟨r1, hC, hE⟩ := x_bind hE
  rcases x_iteE hE with ⟨hc, hE⟩ | ⟨hc, hE⟩
  · obtain ⟨s11, hC, hE⟩ := x_bind hE
    have hf := hf.tr ((fp_Answer_begin _ _ hC).sub (by simp) (by simp) (by decide))
    have e1 := Option.some.inj hE
    rw [← e1]
    exact hf
  · obtain ⟨r24, s24, hC, hE⟩ := x_bind2E hE
    have hf := hf.tr ((fp_Answer_isKnown _ _ hC).sub (by simp) (by simp) (by decide))
    rcases x_iteE hE with ⟨hc, hE⟩ | ⟨hc, hE⟩
    · obtain ⟨hg, hE⟩ := x_guard hE
      rcases x_iteE hE with ⟨hc, hE⟩ | ⟨hc, hE⟩
      · obtain ⟨r58, s58, hC, hE⟩ := x_bind2E hE
        have hf := hf.tr ((fp_Range_take _ hC).sub (by simp) (by simp) (by decide))
        rcases x_iteE hE with ⟨hc, hE⟩ | ⟨hc, hE⟩
        · exact hf.tr (jn75 _ hE)
        · obtain ⟨s69, hC, hE⟩ := x_bind hE
          have hf := hf.tr ((fp_Answer_showRange _ _ hC).sub (by simp) (by simp) (by decide))
          exact hf.tr (jn87 _ hE)
      · exact hf.tr (jn75 _ hE)
    · obtain ⟨s34, hC, hE⟩ := x_bind hE
      have hf := hf.tr ((fp_Answer_begin _ _ hC).sub (by simp) (by simp) (by decide))
      exact hf.tr (jn87 _ hE)

set_option maxHeartbeats 4000000 in
set_option maxRecDepth 100000 in
theorem fp_Answer_list (σ : St) {σ' : St} (hE : x_Answer_list σ = some σ') : xFp [(46, 1)] [47] (false, false, false) σ σ' := by
  have jn38 : ∀ (bk9 : Int32 → St → Option St) (hbk9 : ∀ (l2 : Int32) (σ : St), bk9 l2 σ = some σ' → xFp [(46, 1)] [47] (false, false, false) σ σ') (l2 : Int32) (σ : St), x_Answer_list_38 bk9 l2 σ = some σ' → xFp [(46, 1)] [47] (false, false, false) σ σ' := by
    intro bk9 hbk9 l2 σ hE
    unfold x_Answer_list_38 at hE
    have hf : xFp [(46, 1)] [47] (false, false, false) σ σ := xFp.rf
    obtain ⟨v38, el, hE⟩ := x_letE hE
    exact hf.tr (hbk9 _ _ hE)
  have jn9 : ∀ (n : Nat) (l2 : Int32) (σ : St), x_Answer_list_9 n l2 σ = some σ' → xFp [(46, 1)] [47] (false, false, false) σ σ' := by
    intro n
    induction n with
    | zero => intro l2 σ hE; rw [x_Answer_list_9] at hE; cases hE
    | succ n ih =>
      intro l2 σ hE
      rw [x_Answer_list_9] at hE
      have hf : xFp [(46, 1)] [47] (false, false, false) σ σ := xFp.rf
      rcases x_iteE hE with ⟨hc, hE⟩ | ⟨hc, hE⟩
      · have e1 := Option.some.inj hE
        rw [← e1]
        exact hf
      · obtain ⟨hg, hE⟩ := x_guard hE
        obtain ⟨hgS, hE⟩ := x_guard hE
        obtain ⟨r21, hC, hE⟩ := x_bind hE
        rcases x_iteE hE with ⟨hc, hE⟩ | ⟨hc, hE⟩
        · exact hf.tr (jn38 _ ih _ _ hE)
        · obtain ⟨s35, hC, hE⟩ := x_bind hE
          have hf := hf.tr ((fp_Bytes_add _ _ _ hC).sub (by simp) (by simp) (by decide))
          exact hf.tr (jn38 _ ih _ _ hE)
  unfold x_Answer_list at hE
  have hf : xFp [(46, 1)] [47] (false, false, false) σ σ := xFp.rf
  obtain ⟨s4, hC, hE⟩ := x_bind hE
  have hf := hf.tr ((fp_Bytes_clear _ _ hC).sub (by simp) (by simp) (by decide))
  exact hf.tr (jn9 x_fuel _ _ hE)

set_option maxHeartbeats 4000000 in
set_option maxRecDepth 100000 in
theorem fp_Answer_decide (σ : St) {σ' : St} (hE : x_Answer_decide σ = some σ') : xFp [(44, 2), (44, 3), (44, 4), (44, 7), (44, 9), (44, 10), (44, 11), (4, 1), (7, 1), (10, 1), (13, 1), (16, 1), (19, 1), (22, 1), (25, 1), (1, 1), (3, 1), (6, 1), (9, 1), (12, 1), (15, 1), (18, 1), (21, 1), (24, 1), (31, 8), (45, 0), (45, 1), (46, 1)] [5, 8, 11, 14, 17, 20, 23, 26, 38, 39, 47] (true, false, false) σ σ' := by
  have jn36 : ∀ (k0 : Int32) (σ : St), x_Answer_decide_36 k0 σ = some σ' → xFp [(44, 2), (44, 3), (44, 4), (44, 7), (44, 9), (44, 10), (44, 11), (4, 1), (7, 1), (10, 1), (13, 1), (16, 1), (19, 1), (22, 1), (25, 1), (1, 1), (3, 1), (6, 1), (9, 1), (12, 1), (15, 1), (18, 1), (21, 1), (24, 1), (31, 8), (45, 0), (45, 1), (46, 1)] [5, 8, 11, 14, 17, 20, 23, 26, 38, 39, 47] (true, false, false) σ σ' := by
    intro k0 σ hE
    unfold x_Answer_decide_36 at hE
    have hf : xFp [(44, 2), (44, 3), (44, 4), (44, 7), (44, 9), (44, 10), (44, 11), (4, 1), (7, 1), (10, 1), (13, 1), (16, 1), (19, 1), (22, 1), (25, 1), (1, 1), (3, 1), (6, 1), (9, 1), (12, 1), (15, 1), (18, 1), (21, 1), (24, 1), (31, 8), (45, 0), (45, 1), (46, 1)] [5, 8, 11, 14, 17, 20, 23, 26, 38, 39, 47] (true, false, false) σ σ := xFp.rf
    obtain ⟨s36, hC, hE⟩ := x_bind hE
    have hf := hf.tr ((fp_Answer_begin _ _ hC).sub (by simp) (by simp) (by decide))
    obtain ⟨s41, el, hE⟩ := x_letE hE
    have hf := hf.tr (xFp.R el (by simp))
    have e1 := Option.some.inj hE
    rw [← e1]
    exact hf
  have jn19 : ∀ (l3 : Option Nat) (σ : St), x_Answer_decide_19 l3 σ = some σ' → xFp [(44, 2), (44, 3), (44, 4), (44, 7), (44, 9), (44, 10), (44, 11), (4, 1), (7, 1), (10, 1), (13, 1), (16, 1), (19, 1), (22, 1), (25, 1), (1, 1), (3, 1), (6, 1), (9, 1), (12, 1), (15, 1), (18, 1), (21, 1), (24, 1), (31, 8), (45, 0), (45, 1), (46, 1)] [5, 8, 11, 14, 17, 20, 23, 26, 38, 39, 47] (true, false, false) σ σ' := by
    intro l3 σ hE
    unfold x_Answer_decide_19 at hE
    have hf : xFp [(44, 2), (44, 3), (44, 4), (44, 7), (44, 9), (44, 10), (44, 11), (4, 1), (7, 1), (10, 1), (13, 1), (16, 1), (19, 1), (22, 1), (25, 1), (1, 1), (3, 1), (6, 1), (9, 1), (12, 1), (15, 1), (18, 1), (21, 1), (24, 1), (31, 8), (45, 0), (45, 1), (46, 1)] [5, 8, 11, 14, 17, 20, 23, 26, 38, 39, 47] (true, false, false) σ σ := xFp.rf
    obtain ⟨hg, hE⟩ := x_guard hE
    rcases x_iteE hE with ⟨hc, hE⟩ | ⟨hc, hE⟩
    · exact hf.tr (jn36 _ _ hE)
    · exact hf.tr (jn36 _ _ hE)
  have jn109 : ∀ (l3 : Option Nat) (l4 : Int32) (l5 : Option Nat) (σ : St), x_Answer_decide_109 l3 l4 l5 σ = some σ' → xFp [(44, 2), (44, 3), (44, 4), (44, 7), (44, 9), (44, 10), (44, 11), (4, 1), (7, 1), (10, 1), (13, 1), (16, 1), (19, 1), (22, 1), (25, 1), (1, 1), (3, 1), (6, 1), (9, 1), (12, 1), (15, 1), (18, 1), (21, 1), (24, 1), (31, 8), (45, 0), (45, 1), (46, 1)] [5, 8, 11, 14, 17, 20, 23, 26, 38, 39, 47] (true, false, false) σ σ' := by
    intro l3 l4 l5 σ hE
    unfold x_Answer_decide_109 at hE
    have hf : xFp [(44, 2), (44, 3), (44, 4), (44, 7), (44, 9), (44, 10), (44, 11), (4, 1), (7, 1), (10, 1), (13, 1), (16, 1), (19, 1), (22, 1), (25, 1), (1, 1), (3, 1), (6, 1), (9, 1), (12, 1), (15, 1), (18, 1), (21, 1), (24, 1), (31, 8), (45, 0), (45, 1), (46, 1)] [5, 8, 11, 14, 17, 20, 23, 26, 38, 39, 47] (true, false, false) σ σ := xFp.rf
    rcases x_optE hE with ⟨hq, hE⟩ | ⟨o111, hq, hE⟩
    · obtain ⟨s118, hC, hE⟩ := x_bind hE
      have hf := hf.tr ((fp_Answer_begin _ _ hC).sub (by simp) (by simp) (by decide))
      have e1 := Option.some.inj hE
      rw [← e1]
      exact hf
    · rcases x_iteE hE with ⟨hc, hE⟩ | ⟨hc, hE⟩
      · obtain ⟨hg, hE⟩ := x_guard hE
        rcases x_iteE hE with ⟨hc, hE⟩ | ⟨hc, hE⟩
        · obtain ⟨hgS, hE⟩ := x_guard hE
          obtain ⟨r151, s151, hC, hE⟩ := x_bind2E hE
          have hf := hf.tr ((fp_Site_replace _ _ hC).sub (by rcases xS_cases hgS with rfl | rfl | rfl | rfl | rfl | rfl | rfl | rfl <;> simp) (by rcases xS_cases hgS with rfl | rfl | rfl | rfl | rfl | rfl | rfl | rfl <;> simp) (by decide))
          obtain ⟨s154, hC, hE⟩ := x_bind hE
          have hf := hf.tr ((fp_Answer_begin _ _ hC).sub (by simp) (by simp) (by decide))
          have e1 := Option.some.inj hE
          rw [← e1]
          exact hf
        · obtain ⟨hg, hE⟩ := x_guard hE
          rcases x_iteE hE with ⟨hc, hE⟩ | ⟨hc, hE⟩
          · obtain ⟨hgS, hE⟩ := x_guard hE
            obtain ⟨r172, s172, hC, hE⟩ := x_bind2E hE
            have hf := hf.tr ((fp_Site_extend _ _ hC).sub (by rcases xS_cases hgS with rfl | rfl | rfl | rfl | rfl | rfl | rfl | rfl <;> simp) (by rcases xS_cases hgS with rfl | rfl | rfl | rfl | rfl | rfl | rfl | rfl <;> simp) (by decide))
            obtain ⟨s175, hC, hE⟩ := x_bind hE
            have hf := hf.tr ((fp_Answer_begin _ _ hC).sub (by simp) (by simp) (by decide))
            have e1 := Option.some.inj hE
            rw [← e1]
            exact hf
          · obtain ⟨hgS, hE⟩ := x_guard hE
            obtain ⟨r185, s185, hC, hE⟩ := x_bind2E hE
            have hf := hf.tr ((fp_Site_remove _ _ hC).sub (by rcases xS_cases hgS with rfl | rfl | rfl | rfl | rfl | rfl | rfl | rfl <;> simp) (by rcases xS_cases hgS with rfl | rfl | rfl | rfl | rfl | rfl | rfl | rfl <;> simp) (by decide))
            obtain ⟨s188, hC, hE⟩ := x_bind hE
            have hf := hf.tr ((fp_Answer_begin _ _ hC).sub (by simp) (by simp) (by decide))
            have e1 := Option.some.inj hE
            rw [← e1]
            exact hf
      · obtain ⟨hgS, hE⟩ := x_guard hE
        obtain ⟨s133, hC, hE⟩ := x_bind hE
        have hf := hf.tr ((fp_Answer_read _ _ hC).sub (by simp) (by simp) (by decide))
        have e1 := Option.some.inj hE
        rw [← e1]
        exact hf
  have jn64 : ∀ (l3 : Option Nat) (k0 : Int32) (σ : St), x_Answer_decide_64 l3 k0 σ = some σ' → xFp [(44, 2), (44, 3), (44, 4), (44, 7), (44, 9), (44, 10), (44, 11), (4, 1), (7, 1), (10, 1), (13, 1), (16, 1), (19, 1), (22, 1), (25, 1), (1, 1), (3, 1), (6, 1), (9, 1), (12, 1), (15, 1), (18, 1), (21, 1), (24, 1), (31, 8), (45, 0), (45, 1), (46, 1)] [5, 8, 11, 14, 17, 20, 23, 26, 38, 39, 47] (true, false, false) σ σ' := by
    intro l3 k0 σ hE
    unfold x_Answer_decide_64 at hE
    have hf : xFp [(44, 2), (44, 3), (44, 4), (44, 7), (44, 9), (44, 10), (44, 11), (4, 1), (7, 1), (10, 1), (13, 1), (16, 1), (19, 1), (22, 1), (25, 1), (1, 1), (3, 1), (6, 1), (9, 1), (12, 1), (15, 1), (18, 1), (21, 1), (24, 1), (31, 8), (45, 0), (45, 1), (46, 1)] [5, 8, 11, 14, 17, 20, 23, 26, 38, 39, 47] (true, false, false) σ σ := xFp.rf
    obtain ⟨r71, hC, hE⟩ := x_bind hE
    rcases x_iteE hE with ⟨hc, hE⟩ | ⟨hc, hE⟩
    · exact hf.tr (jn109 _ _ _ _ hE)
    · rcases x_iteE hE with ⟨hc, hE⟩ | ⟨hc, hE⟩
      · obtain ⟨s94, hC, hE⟩ := x_bind hE
        have hf := hf.tr ((fp_Answer_list _ hC).sub (by simp) (by simp) (by decide))
        obtain ⟨s103, hC, hE⟩ := x_bind hE
        have hf := hf.tr ((fp_Answer_show _ _ _ hC).sub (by simp) (by simp) (by decide))
        have e1 := Option.some.inj hE
        rw [← e1]
        exact hf
      · exact hf.tr (jn109 _ _ _ _ hE)
  have jn59 : ∀ (l3 : Option Nat) (σ : St), x_Answer_decide_59 l3 σ = some σ' → xFp [(44, 2), (44, 3), (44, 4), (44, 7), (44, 9), (44, 10), (44, 11), (4, 1), (7, 1), (10, 1), (13, 1), (16, 1), (19, 1), (22, 1), (25, 1), (1, 1), (3, 1), (6, 1), (9, 1), (12, 1), (15, 1), (18, 1), (21, 1), (24, 1), (31, 8), (45, 0), (45, 1), (46, 1)] [5, 8, 11, 14, 17, 20, 23, 26, 38, 39, 47] (true, false, false) σ σ' := by
    intro l3 σ hE
    unfold x_Answer_decide_59 at hE
    have hf : xFp [(44, 2), (44, 3), (44, 4), (44, 7), (44, 9), (44, 10), (44, 11), (4, 1), (7, 1), (10, 1), (13, 1), (16, 1), (19, 1), (22, 1), (25, 1), (1, 1), (3, 1), (6, 1), (9, 1), (12, 1), (15, 1), (18, 1), (21, 1), (24, 1), (31, 8), (45, 0), (45, 1), (46, 1)] [5, 8, 11, 14, 17, 20, 23, 26, 38, 39, 47] (true, false, false) σ σ := xFp.rf
    exact hf.tr (jn64 _ _ _ hE)
  unfold x_Answer_decide at hE
  have hf : xFp [(44, 2), (44, 3), (44, 4), (44, 7), (44, 9), (44, 10), (44, 11), (4, 1), (7, 1), (10, 1), (13, 1), (16, 1), (19, 1), (22, 1), (25, 1), (1, 1), (3, 1), (6, 1), (9, 1), (12, 1), (15, 1), (18, 1), (21, 1), (24, 1), (31, 8), (45, 0), (45, 1), (46, 1)] [5, 8, 11, 14, 17, 20, 23, 26, 38, 39, 47] (true, false, false) σ σ := xFp.rf
  obtain ⟨hg, hE⟩ := x_guard hE
  rcases x_iteE hE with ⟨hc, hE⟩ | ⟨hc, hE⟩
  · exact hf.tr (jn19 _ _ hE)
  · obtain ⟨hg, hE⟩ := x_guard hE
    rcases x_iteE hE with ⟨hc, hE⟩ | ⟨hc, hE⟩
    · exact hf.tr (jn19 _ _ hE)
    · obtain ⟨hg, hE⟩ := x_guard hE
      rcases x_iteE hE with ⟨hc, hE⟩ | ⟨hc, hE⟩
      · exact hf.tr (jn59 _ _ hE)
      · obtain ⟨hg, hE⟩ := x_guard hE
        rcases x_iteE hE with ⟨hc, hE⟩ | ⟨hc, hE⟩
        · exact hf.tr (jn59 _ _ hE)
        · exact hf.tr (jn64 _ _ _ hE)

set_option maxHeartbeats 4000000 in
set_option maxRecDepth 100000 in
theorem fp_Outbox_empty (σ : St) {σ' : St} (hE : x_Outbox_empty σ = some σ') : xFp [(49, 1), (48, 1)] [] (false, false, false) σ σ' := by
  unfold x_Outbox_empty at hE
  have hf : xFp [(49, 1), (48, 1)] [] (false, false, false) σ σ := xFp.rf
  obtain ⟨s4, hC, hE⟩ := x_bind hE
  have hf := hf.tr ((fp_Bytes_clear _ _ hC).sub (by simp) (by simp) (by decide))
  obtain ⟨s9, el, hE⟩ := x_letE hE
  have hf := hf.tr (xFp.R el (by simp))
  have e1 := Option.some.inj hE
  rw [← e1]
  exact hf

set_option maxHeartbeats 4000000 in
set_option maxRecDepth 100000 in
theorem fp_Outbox_writeByte (a1 : Int32) (σ : St) {σ' : St} (hE : x_Outbox_writeByte a1 σ = some σ') : xFp [(49, 1), (48, 1)] [50] (false, false, false) σ σ' := by
  unfold x_Outbox_writeByte at hE
  have hf : xFp [(49, 1), (48, 1)] [50] (false, false, false) σ σ := xFp.rf
  obtain ⟨s5, hC, hE⟩ := x_bind hE
  have hf := hf.tr ((fp_Bytes_add _ _ _ hC).sub (by simp) (by simp) (by decide))
  obtain ⟨s15, el, hE⟩ := x_letE hE
  have hf := hf.tr (xFp.R el (by simp))
  have e1 := Option.some.inj hE
  rw [← e1]
  exact hf

set_option maxHeartbeats 4000000 in
set_option maxRecDepth 100000 in
theorem fp_Outbox_writeText (w1 : Nat) (σ : St) {σ' : St} (hE : x_Outbox_writeText w1 σ = some σ') : xFp [(49, 1), (48, 1)] [50] (false, false, false) σ σ' := by
  have jn2 : ∀ (n : Nat) (l2 : Int32) (σ : St), x_Outbox_writeText_2 w1 n l2 σ = some σ' → xFp [(49, 1), (48, 1)] [50] (false, false, false) σ σ' := by
    intro n
    induction n with
    | zero => intro l2 σ hE; rw [x_Outbox_writeText_2] at hE; cases hE
    | succ n ih =>
      intro l2 σ hE
      rw [x_Outbox_writeText_2] at hE
      have hf : xFp [(49, 1), (48, 1)] [50] (false, false, false) σ σ := xFp.rf
      obtain ⟨r4, hC, hE⟩ := x_bind hE
      rcases x_iteE hE with ⟨hc, hE⟩ | ⟨hc, hE⟩
      · have e1 := Option.some.inj hE
        rw [← e1]
        exact hf
      · obtain ⟨r13, hC, hE⟩ := x_bind hE
        obtain ⟨s16, hC, hE⟩ := x_bind hE
        have hf := hf.tr ((fp_Outbox_writeByte _ _ hC).sub (by simp) (by simp) (by decide))
        obtain ⟨v19, el, hE⟩ := x_letE hE
        exact hf.tr (ih _ _ hE)
  unfold x_Outbox_writeText at hE
  have hf : xFp [(49, 1), (48, 1)] [50] (false, false, false) σ σ := xFp.rf
  exact hf.tr (jn2 x_fuel _ _ hE)

set_option maxHeartbeats 4000000 in
set_option maxRecDepth 100000 in
theorem fp_Outbox_writeNumber (a1 : Int32) (σ : St) {σ' : St} (hE : x_Outbox_writeNumber a1 σ = some σ') : xFp [(49, 1), (48, 1)] [50] (false, false, false) σ σ' := by
  have jn31 : ∀ (n : Nat) (l2 : Int32) (l3 : Int32) (σ : St), x_Outbox_writeNumber_31 a1 n l2 l3 σ = some σ' → xFp [(49, 1), (48, 1)] [50] (false, false, false) σ σ' := by
    intro n
    induction n with
    | zero => intro l2 l3 σ hE; rw [x_Outbox_writeNumber_31] at hE; cases hE
    | succ n ih =>
      intro l2 l3 σ hE
      rw [x_Outbox_writeNumber_31] at hE
      have hf : xFp [(49, 1), (48, 1)] [50] (false, false, false) σ σ := xFp.rf
      rcases x_iteE hE with ⟨hc, hE⟩ | ⟨hc, hE⟩
      · have e1 := Option.some.inj hE
        rw [← e1]
        exact hf
      · rcases x_iteE hE with ⟨hc, hE⟩ | ⟨hc, hE⟩
        · have e1 := Option.some.inj hE
          rw [← e1]
          exact hf
        · obtain ⟨hg, hE⟩ := x_guard hE
          obtain ⟨s51, hC, hE⟩ := x_bind hE
          have hf := hf.tr ((fp_Outbox_writeByte _ _ hC).sub (by simp) (by simp) (by decide))
          obtain ⟨v58, el, hE⟩ := x_letE hE
          obtain ⟨v59, el, hE⟩ := x_letE hE
          exact hf.tr (ih _ _ _ hE)
  have jn29 : ∀ (l2 : Int32) (σ : St), x_Outbox_writeNumber_29 a1 l2 σ = some σ' → xFp [(49, 1), (48, 1)] [50] (false, false, false) σ σ' := by
    intro l2 σ hE
    unfold x_Outbox_writeNumber_29 at hE
    have hf : xFp [(49, 1), (48, 1)] [50] (false, false, false) σ σ := xFp.rf
    exact hf.tr (jn31 x_fuel _ _ _ hE)
  have jn4 : ∀ (n : Nat) (l2 : Int32) (l3 : Int32) (σ : St), x_Outbox_writeNumber_4 a1 n l2 l3 σ = some σ' → xFp [(49, 1), (48, 1)] [50] (false, false, false) σ σ' := by
    intro n
    induction n with
    | zero => intro l2 l3 σ hE; rw [x_Outbox_writeNumber_4] at hE; cases hE
    | succ n ih =>
      intro l2 l3 σ hE
      rw [x_Outbox_writeNumber_4] at hE
      have hf : xFp [(49, 1), (48, 1)] [50] (false, false, false) σ σ := xFp.rf
      rcases x_iteE hE with ⟨hc, hE⟩ | ⟨hc, hE⟩
      · exact hf.tr (jn29 _ _ hE)
      · obtain ⟨hg, hE⟩ := x_guard hE
        rcases x_iteE hE with ⟨hc, hE⟩ | ⟨hc, hE⟩
        · exact hf.tr (jn29 _ _ hE)
        · obtain ⟨v22, el, hE⟩ := x_letE hE
          obtain ⟨v23, el, hE⟩ := x_letE hE
          exact hf.tr (ih _ _ _ hE)
  unfold x_Outbox_writeNumber at hE
  have hf : xFp [(49, 1), (48, 1)] [50] (false, false, false) σ σ := xFp.rf
  exact hf.tr (jn4 x_fuel _ _ _ hE)

set_option maxHeartbeats 4000000 in
set_option maxRecDepth 100000 in
theorem fp_Outbox_writeRange (σ : St) {σ' : St} (hE : x_Outbox_writeRange σ = some σ') : xFp [(49, 1), (48, 1)] [50] (false, false, false) σ σ' := by
  have jn49 : ∀ (σ : St), x_Outbox_writeRange_49 σ = some σ' → xFp [(49, 1), (48, 1)] [50] (false, false, false) σ σ' := by
    intro σ hE
    unfold x_Outbox_writeRange_49 at hE
    have hf : xFp [(49, 1), (48, 1)] [50] (false, false, false) σ σ := xFp.rf
    obtain ⟨s52, hC, hE⟩ := x_bind hE
    have hf := hf.tr ((fp_Outbox_writeByte _ _ hC).sub (by simp) (by simp) (by decide))
    obtain ⟨s60, hC, hE⟩ := x_bind hE
    have hf := hf.tr ((fp_Outbox_writeNumber _ _ hC).sub (by simp) (by simp) (by decide))
    obtain ⟨s66, hC, hE⟩ := x_bind hE
    have hf := hf.tr ((fp_Outbox_writeText _ _ hC).sub (by simp) (by simp) (by decide))
    have e1 := Option.some.inj hE
    rw [← e1]
    exact hf
  unfold x_Outbox_writeRange at hE
  have hf : xFp [(49, 1), (48, 1)] [50] (false, false, false) σ σ := xFp.rf
  obtain ⟨s3, hC, hE⟩ := x_bind hE
  have hf := hf.tr ((fp_Outbox_writeText _ _ hC).sub (by simp) (by simp) (by decide))
  rcases x_iteE hE with ⟨hc, hE⟩ | ⟨hc, hE⟩
  · obtain ⟨s21, hC, hE⟩ := x_bind hE
    have hf := hf.tr ((fp_Outbox_writeNumber _ _ hC).sub (by simp) (by simp) (by decide))
    obtain ⟨s27, hC, hE⟩ := x_bind hE
    have hf := hf.tr ((fp_Outbox_writeByte _ _ hC).sub (by simp) (by simp) (by decide))
    obtain ⟨s37, hC, hE⟩ := x_bind hE
    have hf := hf.tr ((fp_Outbox_writeNumber _ _ hC).sub (by simp) (by simp) (by decide))
    exact hf.tr (jn49 _ hE)
  · obtain ⟨s46, hC, hE⟩ := x_bind hE
    have hf := hf.tr ((fp_Outbox_writeByte _ _ hC).sub (by simp) (by simp) (by decide))
    exact hf.tr (jn49 _ hE)

set_option maxHeartbeats 4000000 in
set_option maxRecDepth 100000 in
theorem fp_Outbox_writeFields (σ : St) {σ' : St} (hE : x_Outbox_writeFields σ = some σ') : xFp [(49, 1), (48, 1)] [50] (false, false, false) σ σ' := by
  have jn118 : ∀ (σ : St), x_Outbox_writeFields_118 σ = some σ' → xFp [(49, 1), (48, 1)] [50] (false, false, false) σ σ' := by
    intro σ hE
    unfold x_Outbox_writeFields_118 at hE
    have hf : xFp [(49, 1), (48, 1)] [50] (false, false, false) σ σ := xFp.rf
    rcases x_iteE hE with ⟨hc, hE⟩ | ⟨hc, hE⟩
    · rcases x_iteE hE with ⟨hc, hE⟩ | ⟨hc, hE⟩
      · have e1 := Option.some.inj hE
        rw [← e1]
        exact hf
      · obtain ⟨s144, hC, hE⟩ := x_bind hE
        have hf := hf.tr ((fp_Outbox_writeText _ _ hC).sub (by simp) (by simp) (by decide))
        have e1 := Option.some.inj hE
        rw [← e1]
        exact hf
    · obtain ⟨s128, hC, hE⟩ := x_bind hE
      have hf := hf.tr ((fp_Outbox_writeText _ _ hC).sub (by simp) (by simp) (by decide))
      have e1 := Option.some.inj hE
      rw [← e1]
      exact hf
  have jn93 : ∀ (σ : St), x_Outbox_writeFields_93 σ = some σ' → xFp [(49, 1), (48, 1)] [50] (false, false, false) σ σ' := by
    intro σ hE
    unfold x_Outbox_writeFields_93 at hE
    have hf : xFp [(49, 1), (48, 1)] [50] (false, false, false) σ σ := xFp.rf
    rcases x_iteE hE with ⟨hc, hE⟩ | ⟨hc, hE⟩
    · exact hf.tr (jn118 _ hE)
    · obtain ⟨s103, hC, hE⟩ := x_bind hE
      have hf := hf.tr ((fp_Outbox_writeText _ _ hC).sub (by simp) (by simp) (by decide))
      obtain ⟨s109, hC, hE⟩ := x_bind hE
      have hf := hf.tr ((fp_Outbox_writeText _ _ hC).sub (by simp) (by simp) (by decide))
      obtain ⟨s115, hC, hE⟩ := x_bind hE
      have hf := hf.tr ((fp_Outbox_writeText _ _ hC).sub (by simp) (by simp) (by decide))
      exact hf.tr (jn118 _ hE)
  have jn88 : ∀ (σ : St), x_Outbox_writeFields_88 σ = some σ' → xFp [(49, 1), (48, 1)] [50] (false, false, false) σ σ' := by
    intro σ hE
    unfold x_Outbox_writeFields_88 at hE
    have hf : xFp [(49, 1), (48, 1)] [50] (false, false, false) σ σ := xFp.rf
    obtain ⟨s90, hC, hE⟩ := x_bind hE
    have hf := hf.tr ((fp_Outbox_writeRange _ hC).sub (by simp) (by simp) (by decide))
    exact hf.tr (jn93 _ hE)
  have jn68 : ∀ (σ : St), x_Outbox_writeFields_68 σ = some σ' → xFp [(49, 1), (48, 1)] [50] (false, false, false) σ σ' := by
    intro σ hE
    unfold x_Outbox_writeFields_68 at hE
    have hf : xFp [(49, 1), (48, 1)] [50] (false, false, false) σ σ := xFp.rf
    rcases x_iteE hE with ⟨hc, hE⟩ | ⟨hc, hE⟩
    · exact hf.tr (jn88 _ hE)
    · rcases x_iteE hE with ⟨hc, hE⟩ | ⟨hc, hE⟩
      · exact hf.tr (jn88 _ hE)
      · exact hf.tr (jn93 _ hE)
  have jn40 : ∀ (σ : St), x_Outbox_writeFields_40 σ = some σ' → xFp [(49, 1), (48, 1)] [50] (false, false, false) σ σ' := by
    intro σ hE
    unfold x_Outbox_writeFields_40 at hE
    have hf : xFp [(49, 1), (48, 1)] [50] (false, false, false) σ σ := xFp.rf
    rcases x_iteE hE with ⟨hc, hE⟩ | ⟨hc, hE⟩
    · exact hf.tr (jn68 _ hE)
    · obtain ⟨s51, hC, hE⟩ := x_bind hE
      have hf := hf.tr ((fp_Outbox_writeText _ _ hC).sub (by simp) (by simp) (by decide))
      obtain ⟨s59, hC, hE⟩ := x_bind hE
      have hf := hf.tr ((fp_Outbox_writeNumber _ _ hC).sub (by simp) (by simp) (by decide))
      obtain ⟨s65, hC, hE⟩ := x_bind hE
      have hf := hf.tr ((fp_Outbox_writeText _ _ hC).sub (by simp) (by simp) (by decide))
      exact hf.tr (jn68 _ hE)
  unfold x_Outbox_writeFields at hE
  have hf : xFp [(49, 1), (48, 1)] [50] (false, false, false) σ σ := xFp.rf
  rcases x_iteE hE with ⟨hc, hE⟩ | ⟨hc, hE⟩
  · exact hf.tr (jn40 _ hE)
  · rcases x_iteE hE with ⟨hc, hE⟩ | ⟨hc, hE⟩
    · exact hf.tr (jn40 _ hE)
    · obtain ⟨s23, hC, hE⟩ := x_bind hE
      have hf := hf.tr ((fp_Outbox_writeText _ _ hC).sub (by simp) (by simp) (by decide))
      obtain ⟨s31, hC, hE⟩ := x_bind hE
      have hf := hf.tr ((fp_Outbox_writeNumber _ _ hC).sub (by simp) (by simp) (by decide))
      obtain ⟨s37, hC, hE⟩ := x_bind hE
      have hf := hf.tr ((fp_Outbox_writeText _ _ hC).sub (by simp) (by simp) (by decide))
      exact hf.tr (jn40 _ hE)

set_option maxHeartbeats 4000000 in
set_option maxRecDepth 100000 in
theorem fp_Outbox_write (σ : St) {σ' : St} (hE : x_Outbox_write σ = some σ') : xFp [(49, 1), (48, 1)] [50] (false, false, false) σ σ' := by
  have jn45 : ∀ (n : Nat) (l2 : Int32) (σ : St), x_Outbox_write_45 n l2 σ = some σ' → xFp [(49, 1), (48, 1)] [50] (false, false, false) σ σ' := by
    intro n
    induction n with
    | zero => intro l2 σ hE; rw [x_Outbox_write_45] at hE; cases hE
    | succ n ih =>
      intro l2 σ hE
      rw [x_Outbox_write_45] at hE
      have hf : xFp [(49, 1), (48, 1)] [50] (false, false, false) σ σ := xFp.rf
      rcases x_iteE hE with ⟨hc, hE⟩ | ⟨hc, hE⟩
      · have e1 := Option.some.inj hE
        rw [← e1]
        exact hf
      · obtain ⟨hg, hE⟩ := x_guard hE
        obtain ⟨r59, hC, hE⟩ := x_bind hE
        obtain ⟨s62, hC, hE⟩ := x_bind hE
        have hf := hf.tr ((fp_Outbox_writeByte _ _ hC).sub (by simp) (by simp) (by decide))
        obtain ⟨v65, el, hE⟩ := x_letE hE
        exact hf.tr (ih _ _ hE)
  have jn34 : ∀ (σ : St), x_Outbox_write_34 σ = some σ' → xFp [(49, 1), (48, 1)] [50] (false, false, false) σ σ' := by
    intro σ hE
    unfold x_Outbox_write_34 at hE
    have hf : xFp [(49, 1), (48, 1)] [50] (false, false, false) σ σ := xFp.rf
    obtain ⟨s37, hC, hE⟩ := x_bind hE
    have hf := hf.tr ((fp_Outbox_writeText _ _ hC).sub (by simp) (by simp) (by decide))
    obtain ⟨v44, el, hE⟩ := x_letE hE
    exact hf.tr (jn45 x_fuel _ _ hE)
  unfold x_Outbox_write at hE
  have hf : xFp [(49, 1), (48, 1)] [50] (false, false, false) σ σ := xFp.rf
  obtain ⟨s3, hC, hE⟩ := x_bind hE
  have hf := hf.tr ((fp_Outbox_writeText _ _ hC).sub (by simp) (by simp) (by decide))
  obtain ⟨s11, hC, hE⟩ := x_bind hE
  have hf := hf.tr ((fp_Outbox_writeNumber _ _ hC).sub (by simp) (by simp) (by decide))
  obtain ⟨s17, hC, hE⟩ := x_bind hE
  have hf := hf.tr ((fp_Outbox_writeText _ _ hC).sub (by simp) (by simp) (by decide))
  rcases x_iteE hE with ⟨hc, hE⟩ | ⟨hc, hE⟩
  · exact hf.tr (jn34 _ hE)
  · obtain ⟨s31, hC, hE⟩ := x_bind hE
    have hf := hf.tr ((fp_Outbox_writeFields _ hC).sub (by simp) (by simp) (by decide))
    exact hf.tr (jn34 _ hE)

set_option maxHeartbeats 4000000 in
set_option maxRecDepth 100000 in
theorem fp_PlainOrigin_send (a1 : Int32) (σ : St) {σ' : St} (hE : x_PlainOrigin_send a1 σ = some σ') : xFp [(44, 6), (49, 1), (48, 1), (0, 4), (28, 1), (32, 1), (31, 5), (31, 8), (40, 1), (42, 1), (30, 4), (30, 5), (30, 6), (30, 7), (30, 8), (27, 2), (27, 3), (27, 4), (27, 5), (44, 5)] [50] (false, true, false) σ σ' := by
  have jn78 : ∀ (l2 : Int32) (k0 : Int32) (σ : St), x_PlainOrigin_send_78 a1 l2 k0 σ = some σ' → xFp [(44, 6), (49, 1), (48, 1), (0, 4), (28, 1), (32, 1), (31, 5), (31, 8), (40, 1), (42, 1), (30, 4), (30, 5), (30, 6), (30, 7), (30, 8), (27, 2), (27, 3), (27, 4), (27, 5), (44, 5)] [50] (false, true, false) σ σ' := by
    intro l2 k0 σ hE
    unfold x_PlainOrigin_send_78 at hE
    have hf : xFp [(44, 6), (49, 1), (48, 1), (0, 4), (28, 1), (32, 1), (31, 5), (31, 8), (40, 1), (42, 1), (30, 4), (30, 5), (30, 6), (30, 7), (30, 8), (27, 2), (27, 3), (27, 4), (27, 5), (44, 5)] [50] (false, true, false) σ σ := xFp.rf
    obtain ⟨hg, hE⟩ := x_guard hE
    obtain ⟨s78, el, hE⟩ := x_letE hE
    have hf := hf.tr (xFp.R el (by simp))
    obtain ⟨s89, hC, hE⟩ := x_bind hE
    have hf := hf.tr ((fp_Outbox_write _ hC).sub (by simp) (by simp) (by decide))
    obtain ⟨s100, el, hE⟩ := x_letE hE
    have hf := hf.tr (xFp.R el (by simp))
    rcases x_iteE hE with ⟨hc, hE⟩ | ⟨hc, hE⟩
    · rcases x_iteE hE with ⟨hc, hE⟩ | ⟨hc, hE⟩
      · have e1 := Option.some.inj hE
        rw [← e1]
        exact hf
      · obtain ⟨s132, hC, hE⟩ := x_bind hE
        have hf := hf.tr ((fp_Reader_restart _ hC).sub (by simp) (by simp) (by decide))
        have e1 := Option.some.inj hE
        rw [← e1]
        exact hf
    · obtain ⟨s118, el, hE⟩ := x_letE hE
      have hf := hf.tr (xFp.R el (by simp))
      have e1 := Option.some.inj hE
      rw [← e1]
      exact hf
  have jn77 : ∀ (l2 : Int32) (σ : St), x_PlainOrigin_send_77 a1 l2 σ = some σ' → xFp [(44, 6), (49, 1), (48, 1), (0, 4), (28, 1), (32, 1), (31, 5), (31, 8), (40, 1), (42, 1), (30, 4), (30, 5), (30, 6), (30, 7), (30, 8), (27, 2), (27, 3), (27, 4), (27, 5), (44, 5)] [50] (false, true, false) σ σ' := by
    intro l2 σ hE
    unfold x_PlainOrigin_send_77 at hE
    have hf : xFp [(44, 6), (49, 1), (48, 1), (0, 4), (28, 1), (32, 1), (31, 5), (31, 8), (40, 1), (42, 1), (30, 4), (30, 5), (30, 6), (30, 7), (30, 8), (27, 2), (27, 3), (27, 4), (27, 5), (44, 5)] [50] (false, true, false) σ σ := xFp.rf
    exact hf.tr (jn78 _ _ _ hE)
  have jn43 : ∀ (l2 : Int32) (k0 : Int32) (σ : St), x_PlainOrigin_send_43 a1 l2 k0 σ = some σ' → xFp [(44, 6), (49, 1), (48, 1), (0, 4), (28, 1), (32, 1), (31, 5), (31, 8), (40, 1), (42, 1), (30, 4), (30, 5), (30, 6), (30, 7), (30, 8), (27, 2), (27, 3), (27, 4), (27, 5), (44, 5)] [50] (false, true, false) σ σ' := by
    intro l2 k0 σ hE
    unfold x_PlainOrigin_send_43 at hE
    have hf : xFp [(44, 6), (49, 1), (48, 1), (0, 4), (28, 1), (32, 1), (31, 5), (31, 8), (40, 1), (42, 1), (30, 4), (30, 5), (30, 6), (30, 7), (30, 8), (27, 2), (27, 3), (27, 4), (27, 5), (44, 5)] [50] (false, true, false) σ σ := xFp.rf
    obtain ⟨hg, hE⟩ := x_guard hE
    obtain ⟨s43, el, hE⟩ := x_letE hE
    have hf := hf.tr (xFp.R el (by simp))
    rcases x_iteE hE with ⟨hc, hE⟩ | ⟨hc, hE⟩
    · obtain ⟨r67, hC, hE⟩ := x_bind hE
      rcases x_iteE hE with ⟨hc, hE⟩ | ⟨hc, hE⟩
      · exact hf.tr (jn77 _ _ hE)
      · exact hf.tr (jn78 _ _ _ hE)
    · exact hf.tr (jn77 _ _ hE)
  have jn10 : ∀ (k0 : Int32) (σ : St), x_PlainOrigin_send_10 a1 k0 σ = some σ' → xFp [(44, 6), (49, 1), (48, 1), (0, 4), (28, 1), (32, 1), (31, 5), (31, 8), (40, 1), (42, 1), (30, 4), (30, 5), (30, 6), (30, 7), (30, 8), (27, 2), (27, 3), (27, 4), (27, 5), (44, 5)] [50] (false, true, false) σ σ' := by
    intro k0 σ hE
    unfold x_PlainOrigin_send_10 at hE
    have hf : xFp [(44, 6), (49, 1), (48, 1), (0, 4), (28, 1), (32, 1), (31, 5), (31, 8), (40, 1), (42, 1), (30, 4), (30, 5), (30, 6), (30, 7), (30, 8), (27, 2), (27, 3), (27, 4), (27, 5), (44, 5)] [50] (false, true, false) σ σ := xFp.rf
    rcases x_iteE hE with ⟨hc, hE⟩ | ⟨hc, hE⟩
    · rcases x_iteE hE with ⟨hc, hE⟩ | ⟨hc, hE⟩
      · exact hf.tr (jn43 _ _ _ hE)
      · exact hf.tr (jn43 _ _ _ hE)
    · exact hf.tr (jn43 _ _ _ hE)
  unfold x_PlainOrigin_send at hE
  have hf : xFp [(44, 6), (49, 1), (48, 1), (0, 4), (28, 1), (32, 1), (31, 5), (31, 8), (40, 1), (42, 1), (30, 4), (30, 5), (30, 6), (30, 7), (30, 8), (27, 2), (27, 3), (27, 4), (27, 5), (44, 5)] [50] (false, true, false) σ σ := xFp.rf
  rcases x_iteE hE with ⟨hc, hE⟩ | ⟨hc, hE⟩
  · exact hf.tr (jn10 _ _ hE)
  · exact hf.tr (jn10 _ _ hE)

set_option maxHeartbeats 4000000 in
set_option maxRecDepth 100000 in
theorem fp_PlainOrigin_feed (j1 : Int64) (a2 : Int32) (σ : St) {r : Int32} {σ' : St} (hE : x_PlainOrigin_feed j1 a2 σ = some (r, σ')) : xFp [(44, 6), (49, 1), (48, 1), (0, 4), (28, 1), (32, 1), (31, 5), (31, 8), (40, 1), (42, 1), (30, 4), (30, 5), (30, 6), (30, 7), (30, 8), (27, 2), (27, 3), (27, 4), (27, 5), (44, 5), (44, 2), (44, 3), (44, 4), (44, 7), (44, 9), (44, 10), (44, 11), (4, 1), (7, 1), (10, 1), (13, 1), (16, 1), (19, 1), (22, 1), (25, 1), (1, 1), (3, 1), (6, 1), (9, 1), (12, 1), (15, 1), (18, 1), (21, 1), (24, 1), (45, 0), (45, 1), (46, 1)] [50, 5, 8, 11, 14, 17, 20, 23, 26, 38, 39, 47, 43, 29, 41, 33, 34, 35, 36, 37] (true, true, false) σ σ' := by
  have jn10 : ∀ (σ : St), x_PlainOrigin_feed_10 j1 a2 σ = some (r, σ') → xFp [(44, 6), (49, 1), (48, 1), (0, 4), (28, 1), (32, 1), (31, 5), (31, 8), (40, 1), (42, 1), (30, 4), (30, 5), (30, 6), (30, 7), (30, 8), (27, 2), (27, 3), (27, 4), (27, 5), (44, 5), (44, 2), (44, 3), (44, 4), (44, 7), (44, 9), (44, 10), (44, 11), (4, 1), (7, 1), (10, 1), (13, 1), (16, 1), (19, 1), (22, 1), (25, 1), (1, 1), (3, 1), (6, 1), (9, 1), (12, 1), (15, 1), (18, 1), (21, 1), (24, 1), (45, 0), (45, 1), (46, 1)] [50, 5, 8, 11, 14, 17, 20, 23, 26, 38, 39, 47, 43, 29, 41, 33, 34, 35, 36, 37] (true, true, false) σ σ' := by
    intro σ hE
    unfold x_PlainOrigin_feed_10 at hE
    have hf : xFp [(44, 6), (49, 1), (48, 1), (0, 4), (28, 1), (32, 1), (31, 5), (31, 8), (40, 1), (42, 1), (30, 4), (30, 5), (30, 6), (30, 7), (30, 8), (27, 2), (27, 3), (27, 4), (27, 5), (44, 5), (44, 2), (44, 3), (44, 4), (44, 7), (44, 9), (44, 10), (44, 11), (4, 1), (7, 1), (10, 1), (13, 1), (16, 1), (19, 1), (22, 1), (25, 1), (1, 1), (3, 1), (6, 1), (9, 1), (12, 1), (15, 1), (18, 1), (21, 1), (24, 1), (45, 0), (45, 1), (46, 1)] [50, 5, 8, 11, 14, 17, 20, 23, 26, 38, 39, 47, 43, 29, 41, 33, 34, 35, 36, 37] (true, true, false) σ σ := xFp.rf
    cases hE
  have jn136 : ∀ (bk26 : Int32 → Int32 → St → Option (Int32 × St)) (hbk26 : ∀ (l4 : Int32) (l5 : Int32) (σ : St), bk26 l4 l5 σ = some (r, σ') → xFp [(44, 6), (49, 1), (48, 1), (0, 4), (28, 1), (32, 1), (31, 5), (31, 8), (40, 1), (42, 1), (30, 4), (30, 5), (30, 6), (30, 7), (30, 8), (27, 2), (27, 3), (27, 4), (27, 5), (44, 5), (44, 2), (44, 3), (44, 4), (44, 7), (44, 9), (44, 10), (44, 11), (4, 1), (7, 1), (10, 1), (13, 1), (16, 1), (19, 1), (22, 1), (25, 1), (1, 1), (3, 1), (6, 1), (9, 1), (12, 1), (15, 1), (18, 1), (21, 1), (24, 1), (45, 0), (45, 1), (46, 1)] [50, 5, 8, 11, 14, 17, 20, 23, 26, 38, 39, 47, 43, 29, 41, 33, 34, 35, 36, 37] (true, true, false) σ σ') (l4 : Int32) (l5 : Int32) (σ : St), x_PlainOrigin_feed_136 j1 a2 bk26 l4 l5 σ = some (r, σ') → xFp [(44, 6), (49, 1), (48, 1), (0, 4), (28, 1), (32, 1), (31, 5), (31, 8), (40, 1), (42, 1), (30, 4), (30, 5), (30, 6), (30, 7), (30, 8), (27, 2), (27, 3), (27, 4), (27, 5), (44, 5), (44, 2), (44, 3), (44, 4), (44, 7), (44, 9), (44, 10), (44, 11), (4, 1), (7, 1), (10, 1), (13, 1), (16, 1), (19, 1), (22, 1), (25, 1), (1, 1), (3, 1), (6, 1), (9, 1), (12, 1), (15, 1), (18, 1), (21, 1), (24, 1), (45, 0), (45, 1), (46, 1)] [50, 5, 8, 11, 14, 17, 20, 23, 26, 38, 39, 47, 43, 29, 41, 33, 34, 35, 36, 37] (true, true, false) σ σ' := by
    intro bk26 hbk26 l4 l5 σ hE
    unfold x_PlainOrigin_feed_136 at hE
    have hf : xFp [(44, 6), (49, 1), (48, 1), (0, 4), (28, 1), (32, 1), (31, 5), (31, 8), (40, 1), (42, 1), (30, 4), (30, 5), (30, 6), (30, 7), (30, 8), (27, 2), (27, 3), (27, 4), (27, 5), (44, 5), (44, 2), (44, 3), (44, 4), (44, 7), (44, 9), (44, 10), (44, 11), (4, 1), (7, 1), (10, 1), (13, 1), (16, 1), (19, 1), (22, 1), (25, 1), (1, 1), (3, 1), (6, 1), (9, 1), (12, 1), (15, 1), (18, 1), (21, 1), (24, 1), (45, 0), (45, 1), (46, 1)] [50, 5, 8, 11, 14, 17, 20, 23, 26, 38, 39, 47, 43, 29, 41, 33, 34, 35, 36, 37] (true, true, false) σ σ := xFp.rf
    obtain ⟨v136, el, hE⟩ := x_letE hE
    exact hf.tr (hbk26 _ _ _ hE)
  have jn127 : ∀ (bk26 : Int32 → Int32 → St → Option (Int32 × St)) (hbk26 : ∀ (l4 : Int32) (l5 : Int32) (σ : St), bk26 l4 l5 σ = some (r, σ') → xFp [(44, 6), (49, 1), (48, 1), (0, 4), (28, 1), (32, 1), (31, 5), (31, 8), (40, 1), (42, 1), (30, 4), (30, 5), (30, 6), (30, 7), (30, 8), (27, 2), (27, 3), (27, 4), (27, 5), (44, 5), (44, 2), (44, 3), (44, 4), (44, 7), (44, 9), (44, 10), (44, 11), (4, 1), (7, 1), (10, 1), (13, 1), (16, 1), (19, 1), (22, 1), (25, 1), (1, 1), (3, 1), (6, 1), (9, 1), (12, 1), (15, 1), (18, 1), (21, 1), (24, 1), (45, 0), (45, 1), (46, 1)] [50, 5, 8, 11, 14, 17, 20, 23, 26, 38, 39, 47, 43, 29, 41, 33, 34, 35, 36, 37] (true, true, false) σ σ') (l4 : Int32) (l5 : Int32) (l6 : Int32) (σ : St), x_PlainOrigin_feed_127 j1 a2 bk26 l4 l5 l6 σ = some (r, σ') → xFp [(44, 6), (49, 1), (48, 1), (0, 4), (28, 1), (32, 1), (31, 5), (31, 8), (40, 1), (42, 1), (30, 4), (30, 5), (30, 6), (30, 7), (30, 8), (27, 2), (27, 3), (27, 4), (27, 5), (44, 5), (44, 2), (44, 3), (44, 4), (44, 7), (44, 9), (44, 10), (44, 11), (4, 1), (7, 1), (10, 1), (13, 1), (16, 1), (19, 1), (22, 1), (25, 1), (1, 1), (3, 1), (6, 1), (9, 1), (12, 1), (15, 1), (18, 1), (21, 1), (24, 1), (45, 0), (45, 1), (46, 1)] [50, 5, 8, 11, 14, 17, 20, 23, 26, 38, 39, 47, 43, 29, 41, 33, 34, 35, 36, 37] (true, true, false) σ σ' := by
    intro bk26 hbk26 l4 l5 l6 σ hE
    unfold x_PlainOrigin_feed_127 at hE
    have hf : xFp [(44, 6), (49, 1), (48, 1), (0, 4), (28, 1), (32, 1), (31, 5), (31, 8), (40, 1), (42, 1), (30, 4), (30, 5), (30, 6), (30, 7), (30, 8), (27, 2), (27, 3), (27, 4), (27, 5), (44, 5), (44, 2), (44, 3), (44, 4), (44, 7), (44, 9), (44, 10), (44, 11), (4, 1), (7, 1), (10, 1), (13, 1), (16, 1), (19, 1), (22, 1), (25, 1), (1, 1), (3, 1), (6, 1), (9, 1), (12, 1), (15, 1), (18, 1), (21, 1), (24, 1), (45, 0), (45, 1), (46, 1)] [50, 5, 8, 11, 14, 17, 20, 23, 26, 38, 39, 47, 43, 29, 41, 33, 34, 35, 36, 37] (true, true, false) σ σ := xFp.rf
    obtain ⟨s130, hC, hE⟩ := x_bind hE
    have hf := hf.tr ((fp_PlainOrigin_send _ _ hC).sub (by simp) (by simp) (by decide))
    obtain ⟨v133, el, hE⟩ := x_letE hE
    exact hf.tr (jn136 _ hbk26 _ _ _ hE)
  have jn83 : ∀ (bk26 : Int32 → Int32 → St → Option (Int32 × St)) (hbk26 : ∀ (l4 : Int32) (l5 : Int32) (σ : St), bk26 l4 l5 σ = some (r, σ') → xFp [(44, 6), (49, 1), (48, 1), (0, 4), (28, 1), (32, 1), (31, 5), (31, 8), (40, 1), (42, 1), (30, 4), (30, 5), (30, 6), (30, 7), (30, 8), (27, 2), (27, 3), (27, 4), (27, 5), (44, 5), (44, 2), (44, 3), (44, 4), (44, 7), (44, 9), (44, 10), (44, 11), (4, 1), (7, 1), (10, 1), (13, 1), (16, 1), (19, 1), (22, 1), (25, 1), (1, 1), (3, 1), (6, 1), (9, 1), (12, 1), (15, 1), (18, 1), (21, 1), (24, 1), (45, 0), (45, 1), (46, 1)] [50, 5, 8, 11, 14, 17, 20, 23, 26, 38, 39, 47, 43, 29, 41, 33, 34, 35, 36, 37] (true, true, false) σ σ') (l4 : Int32) (l5 : Int32) (l6 : Int32) (σ : St), x_PlainOrigin_feed_83 j1 a2 bk26 l4 l5 l6 σ = some (r, σ') → xFp [(44, 6), (49, 1), (48, 1), (0, 4), (28, 1), (32, 1), (31, 5), (31, 8), (40, 1), (42, 1), (30, 4), (30, 5), (30, 6), (30, 7), (30, 8), (27, 2), (27, 3), (27, 4), (27, 5), (44, 5), (44, 2), (44, 3), (44, 4), (44, 7), (44, 9), (44, 10), (44, 11), (4, 1), (7, 1), (10, 1), (13, 1), (16, 1), (19, 1), (22, 1), (25, 1), (1, 1), (3, 1), (6, 1), (9, 1), (12, 1), (15, 1), (18, 1), (21, 1), (24, 1), (45, 0), (45, 1), (46, 1)] [50, 5, 8, 11, 14, 17, 20, 23, 26, 38, 39, 47, 43, 29, 41, 33, 34, 35, 36, 37] (true, true, false) σ σ' := by
    intro bk26 hbk26 l4 l5 l6 σ hE
    unfold x_PlainOrigin_feed_83 at hE
    have hf : xFp [(44, 6), (49, 1), (48, 1), (0, 4), (28, 1), (32, 1), (31, 5), (31, 8), (40, 1), (42, 1), (30, 4), (30, 5), (30, 6), (30, 7), (30, 8), (27, 2), (27, 3), (27, 4), (27, 5), (44, 5), (44, 2), (44, 3), (44, 4), (44, 7), (44, 9), (44, 10), (44, 11), (4, 1), (7, 1), (10, 1), (13, 1), (16, 1), (19, 1), (22, 1), (25, 1), (1, 1), (3, 1), (6, 1), (9, 1), (12, 1), (15, 1), (18, 1), (21, 1), (24, 1), (45, 0), (45, 1), (46, 1)] [50, 5, 8, 11, 14, 17, 20, 23, 26, 38, 39, 47, 43, 29, 41, 33, 34, 35, 36, 37] (true, true, false) σ σ := xFp.rf
    rcases x_iteE hE with ⟨hc, hE⟩ | ⟨hc, hE⟩
    · exact hf.tr (jn136 _ hbk26 _ _ _ hE)
    · rcases x_iteE hE with ⟨hc, hE⟩ | ⟨hc, hE⟩
      · obtain ⟨s112, hC, hE⟩ := x_bind hE
        have hf := hf.tr ((fp_Answer_decide _ hC).sub (by simp) (by simp) (by decide))
        exact hf.tr (jn127 _ hbk26 _ _ _ _ hE)
      · obtain ⟨s124, hC, hE⟩ := x_bind hE
        have hf := hf.tr ((fp_Answer_begin _ _ hC).sub (by simp) (by simp) (by decide))
        exact hf.tr (jn127 _ hbk26 _ _ _ _ hE)
  have jn68 : ∀ (bk26 : Int32 → Int32 → St → Option (Int32 × St)) (hbk26 : ∀ (l4 : Int32) (l5 : Int32) (σ : St), bk26 l4 l5 σ = some (r, σ') → xFp [(44, 6), (49, 1), (48, 1), (0, 4), (28, 1), (32, 1), (31, 5), (31, 8), (40, 1), (42, 1), (30, 4), (30, 5), (30, 6), (30, 7), (30, 8), (27, 2), (27, 3), (27, 4), (27, 5), (44, 5), (44, 2), (44, 3), (44, 4), (44, 7), (44, 9), (44, 10), (44, 11), (4, 1), (7, 1), (10, 1), (13, 1), (16, 1), (19, 1), (22, 1), (25, 1), (1, 1), (3, 1), (6, 1), (9, 1), (12, 1), (15, 1), (18, 1), (21, 1), (24, 1), (45, 0), (45, 1), (46, 1)] [50, 5, 8, 11, 14, 17, 20, 23, 26, 38, 39, 47, 43, 29, 41, 33, 34, 35, 36, 37] (true, true, false) σ σ') (l4 : Int32) (l5 : Int32) (l6 : Int32) (σ : St), x_PlainOrigin_feed_68 j1 a2 bk26 l4 l5 l6 σ = some (r, σ') → xFp [(44, 6), (49, 1), (48, 1), (0, 4), (28, 1), (32, 1), (31, 5), (31, 8), (40, 1), (42, 1), (30, 4), (30, 5), (30, 6), (30, 7), (30, 8), (27, 2), (27, 3), (27, 4), (27, 5), (44, 5), (44, 2), (44, 3), (44, 4), (44, 7), (44, 9), (44, 10), (44, 11), (4, 1), (7, 1), (10, 1), (13, 1), (16, 1), (19, 1), (22, 1), (25, 1), (1, 1), (3, 1), (6, 1), (9, 1), (12, 1), (15, 1), (18, 1), (21, 1), (24, 1), (45, 0), (45, 1), (46, 1)] [50, 5, 8, 11, 14, 17, 20, 23, 26, 38, 39, 47, 43, 29, 41, 33, 34, 35, 36, 37] (true, true, false) σ σ' := by
    intro bk26 hbk26 l4 l5 l6 σ hE
    unfold x_PlainOrigin_feed_68 at hE
    have hf : xFp [(44, 6), (49, 1), (48, 1), (0, 4), (28, 1), (32, 1), (31, 5), (31, 8), (40, 1), (42, 1), (30, 4), (30, 5), (30, 6), (30, 7), (30, 8), (27, 2), (27, 3), (27, 4), (27, 5), (44, 5), (44, 2), (44, 3), (44, 4), (44, 7), (44, 9), (44, 10), (44, 11), (4, 1), (7, 1), (10, 1), (13, 1), (16, 1), (19, 1), (22, 1), (25, 1), (1, 1), (3, 1), (6, 1), (9, 1), (12, 1), (15, 1), (18, 1), (21, 1), (24, 1), (45, 0), (45, 1), (46, 1)] [50, 5, 8, 11, 14, 17, 20, 23, 26, 38, 39, 47, 43, 29, 41, 33, 34, 35, 36, 37] (true, true, false) σ σ := xFp.rf
    rcases x_iteE hE with ⟨hc, hE⟩ | ⟨hc, hE⟩
    · obtain ⟨r78, s78, hC, hE⟩ := x_bind2E hE
      have hf := hf.tr ((fp_Reader_endHead _ hC).sub (by simp) (by simp) (by decide))
      exact hf.tr (jn83 _ hbk26 _ _ _ _ hE)
    · exact hf.tr (jn83 _ hbk26 _ _ _ _ hE)
  have jn26 : ∀ (n : Nat) (l4 : Int32) (l5 : Int32) (σ : St), x_PlainOrigin_feed_26 j1 a2 n l4 l5 σ = some (r, σ') → xFp [(44, 6), (49, 1), (48, 1), (0, 4), (28, 1), (32, 1), (31, 5), (31, 8), (40, 1), (42, 1), (30, 4), (30, 5), (30, 6), (30, 7), (30, 8), (27, 2), (27, 3), (27, 4), (27, 5), (44, 5), (44, 2), (44, 3), (44, 4), (44, 7), (44, 9), (44, 10), (44, 11), (4, 1), (7, 1), (10, 1), (13, 1), (16, 1), (19, 1), (22, 1), (25, 1), (1, 1), (3, 1), (6, 1), (9, 1), (12, 1), (15, 1), (18, 1), (21, 1), (24, 1), (45, 0), (45, 1), (46, 1)] [50, 5, 8, 11, 14, 17, 20, 23, 26, 38, 39, 47, 43, 29, 41, 33, 34, 35, 36, 37] (true, true, false) σ σ' := by
    intro n
    induction n with
    | zero => intro l4 l5 σ hE; rw [x_PlainOrigin_feed_26] at hE; cases hE
    | succ n ih =>
      intro l4 l5 σ hE
      rw [x_PlainOrigin_feed_26] at hE
      have hf : xFp [(44, 6), (49, 1), (48, 1), (0, 4), (28, 1), (32, 1), (31, 5), (31, 8), (40, 1), (42, 1), (30, 4), (30, 5), (30, 6), (30, 7), (30, 8), (27, 2), (27, 3), (27, 4), (27, 5), (44, 5), (44, 2), (44, 3), (44, 4), (44, 7), (44, 9), (44, 10), (44, 11), (4, 1), (7, 1), (10, 1), (13, 1), (16, 1), (19, 1), (22, 1), (25, 1), (1, 1), (3, 1), (6, 1), (9, 1), (12, 1), (15, 1), (18, 1), (21, 1), (24, 1), (45, 0), (45, 1), (46, 1)] [50, 5, 8, 11, 14, 17, 20, 23, 26, 38, 39, 47, 43, 29, 41, 33, 34, 35, 36, 37] (true, true, false) σ σ := xFp.rf
      rcases x_iteE hE with ⟨hc, hE⟩ | ⟨hc, hE⟩
      · obtain ⟨-, e2⟩ := x_pair hE
        rw [← e2]
        exact hf
      · obtain ⟨r48, s48, hC, hE⟩ := x_bind2E hE
        have hf := hf.tr ((fp_Reader_take _ _ hC).sub (by simp) (by simp) (by decide))
        rcases x_iteE hE with ⟨hc, hE⟩ | ⟨hc, hE⟩
        · obtain ⟨r63, s63, hC, hE⟩ := x_bind2E hE
          have hf := hf.tr ((fp_Reader_endLine _ hC).sub (by simp) (by simp) (by decide))
          exact hf.tr (jn68 _ ih _ _ _ _ hE)
        · exact hf.tr (jn68 _ ih _ _ _ _ hE)
  unfold x_PlainOrigin_feed at hE
  have hf : xFp [(44, 6), (49, 1), (48, 1), (0, 4), (28, 1), (32, 1), (31, 5), (31, 8), (40, 1), (42, 1), (30, 4), (30, 5), (30, 6), (30, 7), (30, 8), (27, 2), (27, 3), (27, 4), (27, 5), (44, 5), (44, 2), (44, 3), (44, 4), (44, 7), (44, 9), (44, 10), (44, 11), (4, 1), (7, 1), (10, 1), (13, 1), (16, 1), (19, 1), (22, 1), (25, 1), (1, 1), (3, 1), (6, 1), (9, 1), (12, 1), (15, 1), (18, 1), (21, 1), (24, 1), (45, 0), (45, 1), (46, 1)] [50, 5, 8, 11, 14, 17, 20, 23, 26, 38, 39, 47, 43, 29, 41, 33, 34, 35, 36, 37] (true, true, false) σ σ := xFp.rf
  rcases x_iteE hE with ⟨hc, hE⟩ | ⟨hc, hE⟩
  · exact hf.tr (jn10 _ hE)
  · rcases x_iteE hE with ⟨hc, hE⟩ | ⟨hc, hE⟩
    · exact hf.tr (jn26 x_fuel _ _ _ hE)
    · exact hf.tr (jn10 _ hE)

set_option maxHeartbeats 4000000 in
set_option maxRecDepth 100000 in
theorem fp_PlainOrigin_connect (σ : St) {σ' : St} (hE : x_PlainOrigin_connect σ = some σ') : xFp [(28, 1), (32, 1), (31, 5), (31, 8), (40, 1), (42, 1), (30, 4), (30, 5), (30, 6), (30, 7), (30, 8), (27, 2), (27, 3), (27, 4), (27, 5), (49, 1), (48, 1), (0, 4)] [] (false, true, false) σ σ' := by
  unfold x_PlainOrigin_connect at hE
  have hf : xFp [(28, 1), (32, 1), (31, 5), (31, 8), (40, 1), (42, 1), (30, 4), (30, 5), (30, 6), (30, 7), (30, 8), (27, 2), (27, 3), (27, 4), (27, 5), (49, 1), (48, 1), (0, 4)] [] (false, true, false) σ σ := xFp.rf
  obtain ⟨s4, hC, hE⟩ := x_bind hE
  have hf := hf.tr ((fp_Reader_restart _ hC).sub (by simp) (by simp) (by decide))
  obtain ⟨s11, hC, hE⟩ := x_bind hE
  have hf := hf.tr ((fp_Outbox_empty _ hC).sub (by simp) (by simp) (by decide))
  obtain ⟨s16, el, hE⟩ := x_letE hE
  have hf := hf.tr (xFp.R el (by simp))
  have e1 := Option.some.inj hE
  rw [← e1]
  exact hf

set_option maxHeartbeats 4000000 in
set_option maxRecDepth 100000 in
theorem fp_PlainOrigin_drain (σ : St) {r : Int32} {σ' : St} (hE : x_PlainOrigin_drain σ = some (r, σ')) : xFp [(49, 1), (48, 1)] [] (false, false, false) σ σ' := by
  unfold x_PlainOrigin_drain at hE
  have hf : xFp [(49, 1), (48, 1)] [] (false, false, false) σ σ := xFp.rf
  obtain ⟨v7, el, hE⟩ := x_letE hE
  obtain ⟨s12, hC, hE⟩ := x_bind hE
  have hf := hf.tr ((fp_Outbox_empty _ hC).sub (by simp) (by simp) (by decide))
  obtain ⟨-, e2⟩ := x_pair hE
  rw [← e2]
  exact hf

set_option maxHeartbeats 4000000 in
set_option maxRecDepth 100000 in
theorem fp_Model_blame (a1 : Int32) (a2 : Int32) (σ : St) {σ' : St} (hE : x_Model_blame a1 a2 σ = some σ') : xFp [(51, 25)] [] (false, false, false) σ σ' := by
  unfold x_Model_blame at hE
  have hf : xFp [(51, 25)] [] (false, false, false) σ σ := xFp.rf
  rcases x_iteE hE with ⟨hc, hE⟩ | ⟨hc, hE⟩
  · rcases x_iteE hE with ⟨hc, hE⟩ | ⟨hc, hE⟩
    · obtain ⟨s20, el, hE⟩ := x_letE hE
      have hf := hf.tr (xFp.R el (by simp))
      have e1 := Option.some.inj hE
      rw [← e1]
      exact hf
    · obtain ⟨s20, el, hE⟩ := x_letE hE
      have hf := hf.tr (xFp.R el (by simp))
      have e1 := Option.some.inj hE
      rw [← e1]
      exact hf
  · obtain ⟨s20, el, hE⟩ := x_letE hE
    have hf := hf.tr (xFp.R el (by simp))
    have e1 := Option.some.inj hE
    rw [← e1]
    exact hf

set_option maxHeartbeats 4000000 in
set_option maxRecDepth 100000 in
theorem fp_Model_notice (a1 : Int32) (a2 : Int32) (σ : St) {σ' : St} (hE : x_Model_notice a1 a2 σ = some σ') : xFp [(51, 26)] [63, 64] (false, false, false) σ σ' := by
  have jn48 : ∀ (l3 : Int32) (l4 : Int32) (σ : St), x_Model_notice_48 a1 a2 l3 l4 σ = some σ' → xFp [(51, 26)] [63, 64] (false, false, false) σ σ' := by
    intro l3 l4 σ hE
    unfold x_Model_notice_48 at hE
    have hf : xFp [(51, 26)] [63, 64] (false, false, false) σ σ := xFp.rf
    rcases x_iteE hE with ⟨hc, hE⟩ | ⟨hc, hE⟩
    · have e1 := Option.some.inj hE
      rw [← e1]
      exact hf
    · obtain ⟨hg, hE⟩ := x_guard hE
      obtain ⟨s63, el, hE⟩ := x_letE hE
      have hf := hf.tr (xFp.M el (by simp))
      obtain ⟨hg, hE⟩ := x_guard hE
      obtain ⟨s74, el, hE⟩ := x_letE hE
      have hf := hf.tr (xFp.M el (by simp))
      obtain ⟨s82, el, hE⟩ := x_letE hE
      have hf := hf.tr (xFp.R el (by simp))
      have e1 := Option.some.inj hE
      rw [← e1]
      exact hf
  have jn25 : ∀ (n : Nat) (l3 : Int32) (l4 : Int32) (σ : St), x_Model_notice_25 a1 a2 n l3 l4 σ = some σ' → xFp [(51, 26)] [63, 64] (false, false, false) σ σ' := by
    intro n
    induction n with
    | zero => intro l3 l4 σ hE; rw [x_Model_notice_25] at hE; cases hE
    | succ n ih =>
      intro l3 l4 σ hE
      rw [x_Model_notice_25] at hE
      have hf : xFp [(51, 26)] [63, 64] (false, false, false) σ σ := xFp.rf
      rcases x_iteE hE with ⟨hc, hE⟩ | ⟨hc, hE⟩
      · exact hf.tr (jn48 _ _ _ hE)
      · obtain ⟨r36, hC, hE⟩ := x_bind hE
        rcases x_iteE hE with ⟨hc, hE⟩ | ⟨hc, hE⟩
        · exact hf.tr (jn48 _ _ _ hE)
        · obtain ⟨v42, el, hE⟩ := x_letE hE
          exact hf.tr (ih _ _ _ hE)
  have jn5 : ∀ (n : Nat) (l3 : Int32) (l4 : Int32) (σ : St), x_Model_notice_5 a1 a2 n l3 l4 σ = some σ' → xFp [(51, 26)] [63, 64] (false, false, false) σ σ' := by
    intro n
    induction n with
    | zero => intro l3 l4 σ hE; rw [x_Model_notice_5] at hE; cases hE
    | succ n ih =>
      intro l3 l4 σ hE
      rw [x_Model_notice_5] at hE
      have hf : xFp [(51, 26)] [63, 64] (false, false, false) σ σ := xFp.rf
      rcases x_iteE hE with ⟨hc, hE⟩ | ⟨hc, hE⟩
      · exact hf.tr (jn25 x_fuel _ _ _ hE)
      · obtain ⟨r13, hC, hE⟩ := x_bind hE
        rcases x_iteE hE with ⟨hc, hE⟩ | ⟨hc, hE⟩
        · exact hf.tr (jn25 x_fuel _ _ _ hE)
        · obtain ⟨v19, el, hE⟩ := x_letE hE
          exact hf.tr (ih _ _ _ hE)
  unfold x_Model_notice at hE
  have hf : xFp [(51, 26)] [63, 64] (false, false, false) σ σ := xFp.rf
  exact hf.tr (jn5 x_fuel _ _ _ hE)

set_option maxHeartbeats 4000000 in
set_option maxRecDepth 100000 in
theorem fp_Model_list (a1 : Int32) (σ : St) {σ' : St} (hE : x_Model_list a1 σ = some σ') : xFp [(51, 26)] [63, 64] (false, false, false) σ σ' := by
  have jn103 : ∀ (bk7 : Int32 → St → Option St) (hbk7 : ∀ (l2 : Int32) (σ : St), bk7 l2 σ = some σ' → xFp [(51, 26)] [63, 64] (false, false, false) σ σ') (l2 : Int32) (σ : St), x_Model_list_103 a1 bk7 l2 σ = some σ' → xFp [(51, 26)] [63, 64] (false, false, false) σ σ' := by
    intro bk7 hbk7 l2 σ hE
    unfold x_Model_list_103 at hE
    have hf : xFp [(51, 26)] [63, 64] (false, false, false) σ σ := xFp.rf
    obtain ⟨v103, el, hE⟩ := x_letE hE
    exact hf.tr (hbk7 _ _ hE)
  have jn97 : ∀ (bk7 : Int32 → St → Option St) (hbk7 : ∀ (l2 : Int32) (σ : St), bk7 l2 σ = some σ' → xFp [(51, 26)] [63, 64] (false, false, false) σ σ') (bk32 : Int32 → Int32 → Int32 → St → Option St) (hbk32 : ∀ (l2 : Int32) (l3 : Int32) (l4 : Int32) (σ : St), bk32 l2 l3 l4 σ = some σ' → xFp [(51, 26)] [63, 64] (false, false, false) σ σ') (l2 : Int32) (l3 : Int32) (l4 : Int32) (σ : St), x_Model_list_97 a1 bk7 bk32 l2 l3 l4 σ = some σ' → xFp [(51, 26)] [63, 64] (false, false, false) σ σ' := by
    intro bk7 hbk7 bk32 hbk32 l2 l3 l4 σ hE
    unfold x_Model_list_97 at hE
    have hf : xFp [(51, 26)] [63, 64] (false, false, false) σ σ := xFp.rf
    obtain ⟨v97, el, hE⟩ := x_letE hE
    exact hf.tr (hbk32 _ _ _ _ hE)
  have jn85 : ∀ (bk7 : Int32 → St → Option St) (hbk7 : ∀ (l2 : Int32) (σ : St), bk7 l2 σ = some σ' → xFp [(51, 26)] [63, 64] (false, false, false) σ σ') (bk32 : Int32 → Int32 → Int32 → St → Option St) (hbk32 : ∀ (l2 : Int32) (l3 : Int32) (l4 : Int32) (σ : St), bk32 l2 l3 l4 σ = some σ' → xFp [(51, 26)] [63, 64] (false, false, false) σ σ') (l2 : Int32) (l3 : Int32) (l4 : Int32) (σ : St), x_Model_list_85 a1 bk7 bk32 l2 l3 l4 σ = some σ' → xFp [(51, 26)] [63, 64] (false, false, false) σ σ' := by
    intro bk7 hbk7 bk32 hbk32 l2 l3 l4 σ hE
    unfold x_Model_list_85 at hE
    have hf : xFp [(51, 26)] [63, 64] (false, false, false) σ σ := xFp.rf
    obtain ⟨s89, hC, hE⟩ := x_bind hE
    have hf := hf.tr ((fp_Model_notice _ _ _ hC).sub (by simp) (by simp) (by decide))
    obtain ⟨v96, el, hE⟩ := x_letE hE
    exact hf.tr (jn97 _ hbk7 _ hbk32 _ _ _ _ hE)
  have jn32 : ∀ (bk7 : Int32 → St → Option St) (hbk7 : ∀ (l2 : Int32) (σ : St), bk7 l2 σ = some σ' → xFp [(51, 26)] [63, 64] (false, false, false) σ σ') (n : Nat) (l2 : Int32) (l3 : Int32) (l4 : Int32) (σ : St), x_Model_list_32 a1 bk7 n l2 l3 l4 σ = some σ' → xFp [(51, 26)] [63, 64] (false, false, false) σ σ' := by
    intro bk7 hbk7 n
    induction n with
    | zero => intro l2 l3 l4 σ hE; rw [x_Model_list_32] at hE; cases hE
    | succ n ih =>
      intro l2 l3 l4 σ hE
      rw [x_Model_list_32] at hE
      have hf : xFp [(51, 26)] [63, 64] (false, false, false) σ σ := xFp.rf
      obtain ⟨hg, hE⟩ := x_guard hE
      rcases x_iteE hE with ⟨hc, hE⟩ | ⟨hc, hE⟩
      · exact hf.tr (jn103 _ hbk7 _ _ hE)
      · obtain ⟨r51, hC, hE⟩ := x_bind hE
        rcases x_iteE hE with ⟨hc, hE⟩ | ⟨hc, hE⟩
        · exact hf.tr (jn103 _ hbk7 _ _ hE)
        · obtain ⟨hg, hE⟩ := x_guard hE
          rcases x_iteE hE with ⟨hc, hE⟩ | ⟨hc, hE⟩
          · exact hf.tr (jn85 _ hbk7 _ ih _ _ _ _ hE)
          · obtain ⟨hg, hE⟩ := x_guard hE
            rcases x_iteE hE with ⟨hc, hE⟩ | ⟨hc, hE⟩
            · exact hf.tr (jn85 _ hbk7 _ ih _ _ _ _ hE)
            · exact hf.tr (jn97 _ hbk7 _ ih _ _ _ _ hE)
  have jn7 : ∀ (n : Nat) (l2 : Int32) (σ : St), x_Model_list_7 a1 n l2 σ = some σ' → xFp [(51, 26)] [63, 64] (false, false, false) σ σ' := by
    intro n
    induction n with
    | zero => intro l2 σ hE; rw [x_Model_list_7] at hE; cases hE
    | succ n ih =>
      intro l2 σ hE
      rw [x_Model_list_7] at hE
      have hf : xFp [(51, 26)] [63, 64] (false, false, false) σ σ := xFp.rf
      rcases x_iteE hE with ⟨hc, hE⟩ | ⟨hc, hE⟩
      · have e1 := Option.some.inj hE
        rw [← e1]
        exact hf
      · obtain ⟨hg, hE⟩ := x_guard hE
        obtain ⟨v28, el, hE⟩ := x_letE hE
        exact hf.tr (jn32 _ ih x_fuel _ _ _ _ hE)
  unfold x_Model_list at hE
  have hf : xFp [(51, 26)] [63, 64] (false, false, false) σ σ := xFp.rf
  obtain ⟨s2, el, hE⟩ := x_letE hE
  have hf := hf.tr (xFp.R el (by simp))
  exact hf.tr (jn7 x_fuel _ _ hE)

set_option maxHeartbeats 4000000 in
set_option maxRecDepth 100000 in
theorem fp_Model_has (a1 : Int32) (a2 : Int32) (σ : St) {r : Int32} {σ' : St} (hE : x_Model_has a1 a2 σ = some (r, σ')) : xFp [(51, 26)] [63, 64] (false, false, false) σ σ' := by
  have jn50 : ∀ (bk10 : Int32 → Int32 → St → Option (Int32 × St)) (hbk10 : ∀ (l3 : Int32) (l4 : Int32) (σ : St), bk10 l3 l4 σ = some (r, σ') → xFp [(51, 26)] [63, 64] (false, false, false) σ σ') (l4 : Int32) (k0 : Int32) (σ : St), x_Model_has_50 a1 a2 bk10 l4 k0 σ = some (r, σ') → xFp [(51, 26)] [63, 64] (false, false, false) σ σ' := by
    intro bk10 hbk10 l4 k0 σ hE
    unfold x_Model_has_50 at hE
    have hf : xFp [(51, 26)] [63, 64] (false, false, false) σ σ := xFp.rf
    obtain ⟨v51, el, hE⟩ := x_letE hE
    exact hf.tr (hbk10 _ _ _ hE)
  have jn45 : ∀ (bk10 : Int32 → Int32 → St → Option (Int32 × St)) (hbk10 : ∀ (l3 : Int32) (l4 : Int32) (σ : St), bk10 l3 l4 σ = some (r, σ') → xFp [(51, 26)] [63, 64] (false, false, false) σ σ') (l4 : Int32) (σ : St), x_Model_has_45 a1 a2 bk10 l4 σ = some (r, σ') → xFp [(51, 26)] [63, 64] (false, false, false) σ σ' := by
    intro bk10 hbk10 l4 σ hE
    unfold x_Model_has_45 at hE
    have hf : xFp [(51, 26)] [63, 64] (false, false, false) σ σ := xFp.rf
    exact hf.tr (jn50 _ hbk10 _ _ _ hE)
  have jn10 : ∀ (n : Nat) (l3 : Int32) (l4 : Int32) (σ : St), x_Model_has_10 a1 a2 n l3 l4 σ = some (r, σ') → xFp [(51, 26)] [63, 64] (false, false, false) σ σ' := by
    intro n
    induction n with
    | zero => intro l3 l4 σ hE; rw [x_Model_has_10] at hE; cases hE
    | succ n ih =>
      intro l3 l4 σ hE
      rw [x_Model_has_10] at hE
      have hf : xFp [(51, 26)] [63, 64] (false, false, false) σ σ := xFp.rf
      rcases x_iteE hE with ⟨hc, hE⟩ | ⟨hc, hE⟩
      · obtain ⟨hg, hE⟩ := x_guard hE
        obtain ⟨-, e2⟩ := x_pair hE
        rw [← e2]
        exact hf
      · rcases x_iteE hE with ⟨hc, hE⟩ | ⟨hc, hE⟩
        · obtain ⟨hg, hE⟩ := x_guard hE
          obtain ⟨hg, hE⟩ := x_guard hE
          obtain ⟨r39, hC, hE⟩ := x_bind hE
          rcases x_iteE hE with ⟨hc, hE⟩ | ⟨hc, hE⟩
          · exact hf.tr (jn50 _ ih _ _ _ hE)
          · exact hf.tr (jn45 _ ih _ _ hE)
        · exact hf.tr (jn45 _ ih _ _ hE)
  unfold x_Model_has at hE
  have hf : xFp [(51, 26)] [63, 64] (false, false, false) σ σ := xFp.rf
  obtain ⟨s2, hC, hE⟩ := x_bind hE
  have hf := hf.tr ((fp_Model_list _ _ hC).sub (by simp) (by simp) (by decide))
  exact hf.tr (jn10 x_fuel _ _ _ hE)

set_option maxHeartbeats 4000000 in
set_option maxRecDepth 100000 in
theorem fp_Model_takeRequestLine (σ : St) {σ' : St} (hE : x_Model_takeRequestLine σ = some σ') : xFp [(51, 8), (51, 25), (51, 12), (51, 15), (51, 13), (51, 17), (51, 16), (51, 21), (51, 22)] [58] (false, false, false) σ σ' := by
  have jn558 : ∀ (n : Nat) (l1 : Int32) (l7 : Int32) (σ : St), x_Model_takeRequestLine_558 n l1 l7 σ = some σ' → xFp [(51, 8), (51, 25), (51, 12), (51, 15), (51, 13), (51, 17), (51, 16), (51, 21), (51, 22)] [58] (false, false, false) σ σ' := by
    intro n
    induction n with
    | zero => intro l1 l7 σ hE; rw [x_Model_takeRequestLine_558] at hE; cases hE
    | succ n ih =>
      intro l1 l7 σ hE
      rw [x_Model_takeRequestLine_558] at hE
      have hf : xFp [(51, 8), (51, 25), (51, 12), (51, 15), (51, 13), (51, 17), (51, 16), (51, 21), (51, 22)] [58] (false, false, false) σ σ := xFp.rf
      rcases x_iteE hE with ⟨hc, hE⟩ | ⟨hc, hE⟩
      · obtain ⟨s593, el, hE⟩ := x_letE hE
        have hf := hf.tr (xFp.R el (by simp))
        have e1 := Option.some.inj hE
        rw [← e1]
        exact hf
      · obtain ⟨hg, hE⟩ := x_guard hE
        obtain ⟨hg, hE⟩ := x_guard hE
        obtain ⟨s584, el, hE⟩ := x_letE hE
        have hf := hf.tr (xFp.M el (by simp))
        obtain ⟨v585, el, hE⟩ := x_letE hE
        exact hf.tr (ih _ _ _ hE)
  have jn510 : ∀ (l1 : Int32) (l2 : Int32) (l5 : Int32) (k0 : Int32) (σ : St), x_Model_takeRequestLine_510 l1 l2 l5 k0 σ = some σ' → xFp [(51, 8), (51, 25), (51, 12), (51, 15), (51, 13), (51, 17), (51, 16), (51, 21), (51, 22)] [58] (false, false, false) σ σ' := by
    intro l1 l2 l5 k0 σ hE
    unfold x_Model_takeRequestLine_510 at hE
    have hf : xFp [(51, 8), (51, 25), (51, 12), (51, 15), (51, 13), (51, 17), (51, 16), (51, 21), (51, 22)] [58] (false, false, false) σ σ := xFp.rf
    obtain ⟨s513, hC, hE⟩ := x_bind hE
    have hf := hf.tr ((fp_Model_blame _ _ _ hC).sub (by simp) (by simp) (by decide))
    rcases x_iteE hE with ⟨hc, hE⟩ | ⟨hc, hE⟩
    · obtain ⟨s527, el, hE⟩ := x_letE hE
      have hf := hf.tr (xFp.R el (by simp))
      obtain ⟨hg, hE⟩ := x_guard hE
      obtain ⟨s543, el, hE⟩ := x_letE hE
      have hf := hf.tr (xFp.R el (by simp))
      obtain ⟨s552, el, hE⟩ := x_letE hE
      have hf := hf.tr (xFp.R el (by simp))
      exact hf.tr (jn558 x_fuel _ _ _ hE)
    · have e1 := Option.some.inj hE
      rw [← e1]
      exact hf
  have jn505 : ∀ (l1 : Int32) (l2 : Int32) (l5 : Int32) (σ : St), x_Model_takeRequestLine_505 l1 l2 l5 σ = some σ' → xFp [(51, 8), (51, 25), (51, 12), (51, 15), (51, 13), (51, 17), (51, 16), (51, 21), (51, 22)] [58] (false, false, false) σ σ' := by
    intro l1 l2 l5 σ hE
    unfold x_Model_takeRequestLine_505 at hE
    have hf : xFp [(51, 8), (51, 25), (51, 12), (51, 15), (51, 13), (51, 17), (51, 16), (51, 21), (51, 22)] [58] (false, false, false) σ σ := xFp.rf
    exact hf.tr (jn510 _ _ _ _ _ hE)
  have jn484 : ∀ (l1 : Int32) (l2 : Int32) (l5 : Int32) (k0 : Int32) (σ : St), x_Model_takeRequestLine_484 l1 l2 l5 k0 σ = some σ' → xFp [(51, 8), (51, 25), (51, 12), (51, 15), (51, 13), (51, 17), (51, 16), (51, 21), (51, 22)] [58] (false, false, false) σ σ' := by
    intro l1 l2 l5 k0 σ hE
    unfold x_Model_takeRequestLine_484 at hE
    have hf : xFp [(51, 8), (51, 25), (51, 12), (51, 15), (51, 13), (51, 17), (51, 16), (51, 21), (51, 22)] [58] (false, false, false) σ σ := xFp.rf
    rcases x_iteE hE with ⟨hc, hE⟩ | ⟨hc, hE⟩
    · obtain ⟨hg, hE⟩ := x_guard hE
      rcases x_iteE hE with ⟨hc, hE⟩ | ⟨hc, hE⟩
      · exact hf.tr (jn505 _ _ _ _ hE)
      · exact hf.tr (jn510 _ _ _ _ _ hE)
    · exact hf.tr (jn505 _ _ _ _ hE)
  have jn483 : ∀ (l1 : Int32) (l2 : Int32) (l5 : Int32) (σ : St), x_Model_takeRequestLine_483 l1 l2 l5 σ = some σ' → xFp [(51, 8), (51, 25), (51, 12), (51, 15), (51, 13), (51, 17), (51, 16), (51, 21), (51, 22)] [58] (false, false, false) σ σ' := by
    intro l1 l2 l5 σ hE
    unfold x_Model_takeRequestLine_483 at hE
    have hf : xFp [(51, 8), (51, 25), (51, 12), (51, 15), (51, 13), (51, 17), (51, 16), (51, 21), (51, 22)] [58] (false, false, false) σ σ := xFp.rf
    exact hf.tr (jn484 _ _ _ _ _ hE)
  have jn445 : ∀ (l1 : Int32) (l2 : Int32) (l5 : Int32) (k0 : Int32) (σ : St), x_Model_takeRequestLine_445 l1 l2 l5 k0 σ = some σ' → xFp [(51, 8), (51, 25), (51, 12), (51, 15), (51, 13), (51, 17), (51, 16), (51, 21), (51, 22)] [58] (false, false, false) σ σ' := by
    intro l1 l2 l5 k0 σ hE
    unfold x_Model_takeRequestLine_445 at hE
    have hf : xFp [(51, 8), (51, 25), (51, 12), (51, 15), (51, 13), (51, 17), (51, 16), (51, 21), (51, 22)] [58] (false, false, false) σ σ := xFp.rf
    obtain ⟨s448, hC, hE⟩ := x_bind hE
    have hf := hf.tr ((fp_Model_blame _ _ _ hC).sub (by simp) (by simp) (by decide))
    rcases x_iteE hE with ⟨hc, hE⟩ | ⟨hc, hE⟩
    · obtain ⟨hg, hE⟩ := x_guard hE
      rcases x_iteE hE with ⟨hc, hE⟩ | ⟨hc, hE⟩
      · rcases x_iteE hE with ⟨hc, hE⟩ | ⟨hc, hE⟩
        · exact hf.tr (jn484 _ _ _ _ _ hE)
        · exact hf.tr (jn483 _ _ _ _ hE)
      · exact hf.tr (jn483 _ _ _ _ hE)
    · exact hf.tr (jn483 _ _ _ _ hE)
  have jn432 : ∀ (l1 : Int32) (l2 : Int32) (k0 : Int32) (σ : St), x_Model_takeRequestLine_432 l1 l2 k0 σ = some σ' → xFp [(51, 8), (51, 25), (51, 12), (51, 15), (51, 13), (51, 17), (51, 16), (51, 21), (51, 22)] [58] (false, false, false) σ σ' := by
    intro l1 l2 k0 σ hE
    unfold x_Model_takeRequestLine_432 at hE
    have hf : xFp [(51, 8), (51, 25), (51, 12), (51, 15), (51, 13), (51, 17), (51, 16), (51, 21), (51, 22)] [58] (false, false, false) σ σ := xFp.rf
    rcases x_iteE hE with ⟨hc, hE⟩ | ⟨hc, hE⟩
    · exact hf.tr (jn445 _ _ _ _ _ hE)
    · exact hf.tr (jn445 _ _ _ _ _ hE)
  have jn374 : ∀ (l1 : Int32) (l2 : Int32) (k0 : Int32) (σ : St), x_Model_takeRequestLine_374 l1 l2 k0 σ = some σ' → xFp [(51, 8), (51, 25), (51, 12), (51, 15), (51, 13), (51, 17), (51, 16), (51, 21), (51, 22)] [58] (false, false, false) σ σ' := by
    intro l1 l2 k0 σ hE
    unfold x_Model_takeRequestLine_374 at hE
    have hf : xFp [(51, 8), (51, 25), (51, 12), (51, 15), (51, 13), (51, 17), (51, 16), (51, 21), (51, 22)] [58] (false, false, false) σ σ := xFp.rf
    obtain ⟨r382, hC, hE⟩ := x_bind hE
    rcases x_iteE hE with ⟨hc, hE⟩ | ⟨hc, hE⟩
    · obtain ⟨r400, hC, hE⟩ := x_bind hE
      rcases x_iteE hE with ⟨hc, hE⟩ | ⟨hc, hE⟩
      · obtain ⟨r418, hC, hE⟩ := x_bind hE
        rcases x_iteE hE with ⟨hc, hE⟩ | ⟨hc, hE⟩
        · exact hf.tr (jn432 _ _ _ _ hE)
        · exact hf.tr (jn432 _ _ _ _ hE)
      · exact hf.tr (jn432 _ _ _ _ hE)
    · exact hf.tr (jn432 _ _ _ _ hE)
  have jn299 : ∀ (l1 : Int32) (l2 : Int32) (k0 : Int32) (σ : St), x_Model_takeRequestLine_299 l1 l2 k0 σ = some σ' → xFp [(51, 8), (51, 25), (51, 12), (51, 15), (51, 13), (51, 17), (51, 16), (51, 21), (51, 22)] [58] (false, false, false) σ σ' := by
    intro l1 l2 k0 σ hE
    unfold x_Model_takeRequestLine_299 at hE
    have hf : xFp [(51, 8), (51, 25), (51, 12), (51, 15), (51, 13), (51, 17), (51, 16), (51, 21), (51, 22)] [58] (false, false, false) σ σ := xFp.rf
    obtain ⟨s302, hC, hE⟩ := x_bind hE
    have hf := hf.tr ((fp_Model_blame _ _ _ hC).sub (by simp) (by simp) (by decide))
    obtain ⟨r310, hC, hE⟩ := x_bind hE
    rcases x_iteE hE with ⟨hc, hE⟩ | ⟨hc, hE⟩
    · obtain ⟨r326, hC, hE⟩ := x_bind hE
      rcases x_iteE hE with ⟨hc, hE⟩ | ⟨hc, hE⟩
      · obtain ⟨r343, hC, hE⟩ := x_bind hE
        rcases x_iteE hE with ⟨hc, hE⟩ | ⟨hc, hE⟩
        · obtain ⟨r361, hC, hE⟩ := x_bind hE
          rcases x_iteE hE with ⟨hc, hE⟩ | ⟨hc, hE⟩
          · exact hf.tr (jn374 _ _ _ _ hE)
          · exact hf.tr (jn374 _ _ _ _ hE)
        · exact hf.tr (jn374 _ _ _ _ hE)
      · exact hf.tr (jn374 _ _ _ _ hE)
    · exact hf.tr (jn374 _ _ _ _ hE)
  have jn265 : ∀ (l1 : Int32) (l2 : Int32) (k0 : Int32) (σ : St), x_Model_takeRequestLine_265 l1 l2 k0 σ = some σ' → xFp [(51, 8), (51, 25), (51, 12), (51, 15), (51, 13), (51, 17), (51, 16), (51, 21), (51, 22)] [58] (false, false, false) σ σ' := by
    intro l1 l2 k0 σ hE
    unfold x_Model_takeRequestLine_265 at hE
    have hf : xFp [(51, 8), (51, 25), (51, 12), (51, 15), (51, 13), (51, 17), (51, 16), (51, 21), (51, 22)] [58] (false, false, false) σ σ := xFp.rf
    obtain ⟨s268, hC, hE⟩ := x_bind hE
    have hf := hf.tr ((fp_Model_blame _ _ _ hC).sub (by simp) (by simp) (by decide))
    rcases x_iteE hE with ⟨hc, hE⟩ | ⟨hc, hE⟩
    · obtain ⟨hg, hE⟩ := x_guard hE
      rcases x_iteE hE with ⟨hc, hE⟩ | ⟨hc, hE⟩
      · exact hf.tr (jn299 _ _ _ _ hE)
      · exact hf.tr (jn299 _ _ _ _ hE)
    · have e1 := Option.some.inj hE
      rw [← e1]
      exact hf
  have jn264 : ∀ (l1 : Int32) (l2 : Int32) (σ : St), x_Model_takeRequestLine_264 l1 l2 σ = some σ' → xFp [(51, 8), (51, 25), (51, 12), (51, 15), (51, 13), (51, 17), (51, 16), (51, 21), (51, 22)] [58] (false, false, false) σ σ' := by
    intro l1 l2 σ hE
    unfold x_Model_takeRequestLine_264 at hE
    have hf : xFp [(51, 8), (51, 25), (51, 12), (51, 15), (51, 13), (51, 17), (51, 16), (51, 21), (51, 22)] [58] (false, false, false) σ σ := xFp.rf
    exact hf.tr (jn265 _ _ _ _ hE)
  have jn229 : ∀ (l1 : Int32) (l2 : Int32) (l4 : Int32) (σ : St), x_Model_takeRequestLine_229 l1 l2 l4 σ = some σ' → xFp [(51, 8), (51, 25), (51, 12), (51, 15), (51, 13), (51, 17), (51, 16), (51, 21), (51, 22)] [58] (false, false, false) σ σ' := by
    intro l1 l2 l4 σ hE
    unfold x_Model_takeRequestLine_229 at hE
    have hf : xFp [(51, 8), (51, 25), (51, 12), (51, 15), (51, 13), (51, 17), (51, 16), (51, 21), (51, 22)] [58] (false, false, false) σ σ := xFp.rf
    obtain ⟨r232, hC, hE⟩ := x_bind hE
    rcases x_iteE hE with ⟨hc, hE⟩ | ⟨hc, hE⟩
    · exact hf.tr (jn264 _ _ _ hE)
    · rcases x_iteE hE with ⟨hc, hE⟩ | ⟨hc, hE⟩
      · exact hf.tr (jn264 _ _ _ hE)
      · rcases x_iteE hE with ⟨hc, hE⟩ | ⟨hc, hE⟩
        · exact hf.tr (jn264 _ _ _ hE)
        · obtain ⟨r254, hC, hE⟩ := x_bind hE
          rcases x_iteE hE with ⟨hc, hE⟩ | ⟨hc, hE⟩
          · exact hf.tr (jn264 _ _ _ hE)
          · exact hf.tr (jn265 _ _ _ _ hE)
  have jn221 : ∀ (bk181 : Int32 → Int32 → Int32 → Int32 → St → Option St) (hbk181 : ∀ (l1 : Int32) (l2 : Int32) (l4 : Int32) (l5 : Int32) (σ : St), bk181 l1 l2 l4 l5 σ = some σ' → xFp [(51, 8), (51, 25), (51, 12), (51, 15), (51, 13), (51, 17), (51, 16), (51, 21), (51, 22)] [58] (false, false, false) σ σ') (l1 : Int32) (l2 : Int32) (l5 : Int32) (k0 : Int32) (σ : St), x_Model_takeRequestLine_221 bk181 l1 l2 l5 k0 σ = some σ' → xFp [(51, 8), (51, 25), (51, 12), (51, 15), (51, 13), (51, 17), (51, 16), (51, 21), (51, 22)] [58] (false, false, false) σ σ' := by
    intro bk181 hbk181 l1 l2 l5 k0 σ hE
    unfold x_Model_takeRequestLine_221 at hE
    have hf : xFp [(51, 8), (51, 25), (51, 12), (51, 15), (51, 13), (51, 17), (51, 16), (51, 21), (51, 22)] [58] (false, false, false) σ σ := xFp.rf
    obtain ⟨v223, el, hE⟩ := x_letE hE
    exact hf.tr (hbk181 _ _ _ _ _ hE)
  have jn181 : ∀ (n : Nat) (l1 : Int32) (l2 : Int32) (l4 : Int32) (l5 : Int32) (σ : St), x_Model_takeRequestLine_181 n l1 l2 l4 l5 σ = some σ' → xFp [(51, 8), (51, 25), (51, 12), (51, 15), (51, 13), (51, 17), (51, 16), (51, 21), (51, 22)] [58] (false, false, false) σ σ' := by
    intro n
    induction n with
    | zero => intro l1 l2 l4 l5 σ hE; rw [x_Model_takeRequestLine_181] at hE; cases hE
    | succ n ih =>
      intro l1 l2 l4 l5 σ hE
      rw [x_Model_takeRequestLine_181] at hE
      have hf : xFp [(51, 8), (51, 25), (51, 12), (51, 15), (51, 13), (51, 17), (51, 16), (51, 21), (51, 22)] [58] (false, false, false) σ σ := xFp.rf
      rcases x_iteE hE with ⟨hc, hE⟩ | ⟨hc, hE⟩
      · exact hf.tr (jn229 _ _ _ _ hE)
      · rcases x_iteE hE with ⟨hc, hE⟩ | ⟨hc, hE⟩
        · exact hf.tr (jn229 _ _ _ _ hE)
        · obtain ⟨hg, hE⟩ := x_guard hE
          obtain ⟨r210, hC, hE⟩ := x_bind hE
          rcases x_iteE hE with ⟨hc, hE⟩ | ⟨hc, hE⟩
          · exact hf.tr (jn221 _ ih _ _ _ _ _ hE)
          · exact hf.tr (jn221 _ ih _ _ _ _ _ hE)
  have jn176 : ∀ (l1 : Int32) (l2 : Int32) (k0 : Int32) (σ : St), x_Model_takeRequestLine_176 l1 l2 k0 σ = some σ' → xFp [(51, 8), (51, 25), (51, 12), (51, 15), (51, 13), (51, 17), (51, 16), (51, 21), (51, 22)] [58] (false, false, false) σ σ' := by
    intro l1 l2 k0 σ hE
    unfold x_Model_takeRequestLine_176 at hE
    have hf : xFp [(51, 8), (51, 25), (51, 12), (51, 15), (51, 13), (51, 17), (51, 16), (51, 21), (51, 22)] [58] (false, false, false) σ σ := xFp.rf
    exact hf.tr (jn181 x_fuel _ _ _ _ _ hE)
  have jn175 : ∀ (l1 : Int32) (l2 : Int32) (σ : St), x_Model_takeRequestLine_175 l1 l2 σ = some σ' → xFp [(51, 8), (51, 25), (51, 12), (51, 15), (51, 13), (51, 17), (51, 16), (51, 21), (51, 22)] [58] (false, false, false) σ σ' := by
    intro l1 l2 σ hE
    unfold x_Model_takeRequestLine_175 at hE
    have hf : xFp [(51, 8), (51, 25), (51, 12), (51, 15), (51, 13), (51, 17), (51, 16), (51, 21), (51, 22)] [58] (false, false, false) σ σ := xFp.rf
    exact hf.tr (jn176 _ _ _ _ hE)
  have jn102 : ∀ (l1 : Int32) (l2 : Int32) (k0 : Int32) (σ : St), x_Model_takeRequestLine_102 l1 l2 k0 σ = some σ' → xFp [(51, 8), (51, 25), (51, 12), (51, 15), (51, 13), (51, 17), (51, 16), (51, 21), (51, 22)] [58] (false, false, false) σ σ' := by
    intro l1 l2 k0 σ hE
    unfold x_Model_takeRequestLine_102 at hE
    have hf : xFp [(51, 8), (51, 25), (51, 12), (51, 15), (51, 13), (51, 17), (51, 16), (51, 21), (51, 22)] [58] (false, false, false) σ σ := xFp.rf
    obtain ⟨s105, hC, hE⟩ := x_bind hE
    have hf := hf.tr ((fp_Model_blame _ _ _ hC).sub (by simp) (by simp) (by decide))
    rcases x_iteE hE with ⟨hc, hE⟩ | ⟨hc, hE⟩
    · rcases x_iteE hE with ⟨hc, hE⟩ | ⟨hc, hE⟩
      · obtain ⟨hg, hE⟩ := x_guard hE
        obtain ⟨r136, hC, hE⟩ := x_bind hE
        rcases x_iteE hE with ⟨hc, hE⟩ | ⟨hc, hE⟩
        · exact hf.tr (jn175 _ _ _ hE)
        · obtain ⟨hg, hE⟩ := x_guard hE
          rcases x_iteE hE with ⟨hc, hE⟩ | ⟨hc, hE⟩
          · obtain ⟨hg, hE⟩ := x_guard hE
            obtain ⟨r165, hC, hE⟩ := x_bind hE
            rcases x_iteE hE with ⟨hc, hE⟩ | ⟨hc, hE⟩
            · exact hf.tr (jn175 _ _ _ hE)
            · exact hf.tr (jn176 _ _ _ _ hE)
          · exact hf.tr (jn175 _ _ _ hE)
      · exact hf.tr (jn175 _ _ _ hE)
    · have e1 := Option.some.inj hE
      rw [← e1]
      exact hf
  have jn101 : ∀ (l1 : Int32) (l2 : Int32) (σ : St), x_Model_takeRequestLine_101 l1 l2 σ = some σ' → xFp [(51, 8), (51, 25), (51, 12), (51, 15), (51, 13), (51, 17), (51, 16), (51, 21), (51, 22)] [58] (false, false, false) σ σ' := by
    intro l1 l2 σ hE
    unfold x_Model_takeRequestLine_101 at hE
    have hf : xFp [(51, 8), (51, 25), (51, 12), (51, 15), (51, 13), (51, 17), (51, 16), (51, 21), (51, 22)] [58] (false, false, false) σ σ := xFp.rf
    exact hf.tr (jn102 _ _ _ _ hE)
  have jn79 : ∀ (l1 : Int32) (l2 : Int32) (k0 : Int32) (σ : St), x_Model_takeRequestLine_79 l1 l2 k0 σ = some σ' → xFp [(51, 8), (51, 25), (51, 12), (51, 15), (51, 13), (51, 17), (51, 16), (51, 21), (51, 22)] [58] (false, false, false) σ σ' := by
    intro l1 l2 k0 σ hE
    unfold x_Model_takeRequestLine_79 at hE
    have hf : xFp [(51, 8), (51, 25), (51, 12), (51, 15), (51, 13), (51, 17), (51, 16), (51, 21), (51, 22)] [58] (false, false, false) σ σ := xFp.rf
    rcases x_iteE hE with ⟨hc, hE⟩ | ⟨hc, hE⟩
    · exact hf.tr (jn101 _ _ _ hE)
    · rcases x_iteE hE with ⟨hc, hE⟩ | ⟨hc, hE⟩
      · exact hf.tr (jn102 _ _ _ _ hE)
      · exact hf.tr (jn101 _ _ _ hE)
  have jn57 : ∀ (l1 : Int32) (k0 : Int32) (σ : St), x_Model_takeRequestLine_57 l1 k0 σ = some σ' → xFp [(51, 8), (51, 25), (51, 12), (51, 15), (51, 13), (51, 17), (51, 16), (51, 21), (51, 22)] [58] (false, false, false) σ σ' := by
    intro l1 k0 σ hE
    unfold x_Model_takeRequestLine_57 at hE
    have hf : xFp [(51, 8), (51, 25), (51, 12), (51, 15), (51, 13), (51, 17), (51, 16), (51, 21), (51, 22)] [58] (false, false, false) σ σ := xFp.rf
    rcases x_iteE hE with ⟨hc, hE⟩ | ⟨hc, hE⟩
    · exact hf.tr (jn79 _ _ _ _ hE)
    · obtain ⟨r72, hC, hE⟩ := x_bind hE
      exact hf.tr (jn79 _ _ _ _ hE)
  unfold x_Model_takeRequestLine at hE
  have hf : xFp [(51, 8), (51, 25), (51, 12), (51, 15), (51, 13), (51, 17), (51, 16), (51, 21), (51, 22)] [58] (false, false, false) σ σ := xFp.rf
  obtain ⟨s2, el, hE⟩ := x_letE hE
  have hf := hf.tr (xFp.R el (by simp))
  obtain ⟨s7, el, hE⟩ := x_letE hE
  have hf := hf.tr (xFp.R el (by simp))
  obtain ⟨s12, el, hE⟩ := x_letE hE
  have hf := hf.tr (xFp.R el (by simp))
  obtain ⟨s17, el, hE⟩ := x_letE hE
  have hf := hf.tr (xFp.R el (by simp))
  obtain ⟨s22, el, hE⟩ := x_letE hE
  have hf := hf.tr (xFp.R el (by simp))
  obtain ⟨r29, hC, hE⟩ := x_bind hE
  rcases x_iteE hE with ⟨hc, hE⟩ | ⟨hc, hE⟩
  · exact hf.tr (jn57 _ _ _ hE)
  · obtain ⟨r47, hC, hE⟩ := x_bind hE
    exact hf.tr (jn57 _ _ _ hE)

set_option maxHeartbeats 4000000 in
set_option maxRecDepth 100000 in
theorem fp_Model_takeField (σ : St) {σ' : St} (hE : x_Model_takeField σ = some σ') : xFp [(51, 17), (51, 25), (51, 24)] [59, 60, 61] (false, false, false) σ σ' := by
  have jn167 : ∀ (n : Nat) (l2 : Int32) (σ : St), x_Model_takeField_167 n l2 σ = some σ' → xFp [(51, 17), (51, 25), (51, 24)] [59, 60, 61] (false, false, false) σ σ' := by
    intro n
    induction n with
    | zero => intro l2 σ hE; rw [x_Model_takeField_167] at hE; cases hE
    | succ n ih =>
      intro l2 σ hE
      rw [x_Model_takeField_167] at hE
      have hf : xFp [(51, 17), (51, 25), (51, 24)] [59, 60, 61] (false, false, false) σ σ := xFp.rf
      rcases x_iteE hE with ⟨hc, hE⟩ | ⟨hc, hE⟩
      · obtain ⟨s208, el, hE⟩ := x_letE hE
        have hf := hf.tr (xFp.R el (by simp))
        have e1 := Option.some.inj hE
        rw [← e1]
        exact hf
      · obtain ⟨hg, hE⟩ := x_guard hE
        obtain ⟨hg, hE⟩ := x_guard hE
        obtain ⟨s194, el, hE⟩ := x_letE hE
        have hf := hf.tr (xFp.M el (by simp))
        obtain ⟨v195, el, hE⟩ := x_letE hE
        exact hf.tr (ih _ _ hE)
  have jn109 : ∀ (l1 : Int32) (k0 : Int32) (σ : St), x_Model_takeField_109 l1 k0 σ = some σ' → xFp [(51, 17), (51, 25), (51, 24)] [59, 60, 61] (false, false, false) σ σ' := by
    intro l1 k0 σ hE
    unfold x_Model_takeField_109 at hE
    have hf : xFp [(51, 17), (51, 25), (51, 24)] [59, 60, 61] (false, false, false) σ σ := xFp.rf
    obtain ⟨s112, hC, hE⟩ := x_bind hE
    have hf := hf.tr ((fp_Model_blame _ _ _ hC).sub (by simp) (by simp) (by decide))
    rcases x_iteE hE with ⟨hc, hE⟩ | ⟨hc, hE⟩
    · rcases x_iteE hE with ⟨hc, hE⟩ | ⟨hc, hE⟩
      · obtain ⟨s138, el, hE⟩ := x_letE hE
        have hf := hf.tr (xFp.R el (by simp))
        have e1 := Option.some.inj hE
        rw [← e1]
        exact hf
      · obtain ⟨hg, hE⟩ := x_guard hE
        obtain ⟨s151, el, hE⟩ := x_letE hE
        have hf := hf.tr (xFp.M el (by simp))
        obtain ⟨hg, hE⟩ := x_guard hE
        obtain ⟨s164, el, hE⟩ := x_letE hE
        have hf := hf.tr (xFp.M el (by simp))
        exact hf.tr (jn167 x_fuel _ _ hE)
    · have e1 := Option.some.inj hE
      rw [← e1]
      exact hf
  have jn40 : ∀ (n : Nat) (l1 : Int32) (l2 : Int32) (σ : St), x_Model_takeField_40 n l1 l2 σ = some σ' → xFp [(51, 17), (51, 25), (51, 24)] [59, 60, 61] (false, false, false) σ σ' := by
    intro n
    induction n with
    | zero => intro l1 l2 σ hE; rw [x_Model_takeField_40] at hE; cases hE
    | succ n ih =>
      intro l1 l2 σ hE
      rw [x_Model_takeField_40] at hE
      have hf : xFp [(51, 17), (51, 25), (51, 24)] [59, 60, 61] (false, false, false) σ σ := xFp.rf
      rcases x_iteE hE with ⟨hc, hE⟩ | ⟨hc, hE⟩
      · rcases x_iteE hE with ⟨hc, hE⟩ | ⟨hc, hE⟩
        · rcases x_iteE hE with ⟨hc, hE⟩ | ⟨hc, hE⟩
          · exact hf.tr (jn109 _ _ _ hE)
          · exact hf.tr (jn109 _ _ _ hE)
        · rcases x_iteE hE with ⟨hc, hE⟩ | ⟨hc, hE⟩
          · exact hf.tr (jn109 _ _ _ hE)
          · exact hf.tr (jn109 _ _ _ hE)
      · obtain ⟨hg, hE⟩ := x_guard hE
        obtain ⟨r55, hC, hE⟩ := x_bind hE
        obtain ⟨s61, hC, hE⟩ := x_bind hE
        have hf := hf.tr ((fp_Model_blame _ _ _ hC).sub (by simp) (by simp) (by decide))
        obtain ⟨v64, el, hE⟩ := x_letE hE
        exact hf.tr (ih _ _ _ hE)
  have jn30 : ∀ (l1 : Int32) (k0 : Int32) (σ : St), x_Model_takeField_30 l1 k0 σ = some σ' → xFp [(51, 17), (51, 25), (51, 24)] [59, 60, 61] (false, false, false) σ σ' := by
    intro l1 k0 σ hE
    unfold x_Model_takeField_30 at hE
    have hf : xFp [(51, 17), (51, 25), (51, 24)] [59, 60, 61] (false, false, false) σ σ := xFp.rf
    obtain ⟨s33, hC, hE⟩ := x_bind hE
    have hf := hf.tr ((fp_Model_blame _ _ _ hC).sub (by simp) (by simp) (by decide))
    obtain ⟨v39, el, hE⟩ := x_letE hE
    exact hf.tr (jn40 x_fuel _ _ _ hE)
  have jn29 : ∀ (l1 : Int32) (σ : St), x_Model_takeField_29 l1 σ = some σ' → xFp [(51, 17), (51, 25), (51, 24)] [59, 60, 61] (false, false, false) σ σ' := by
    intro l1 σ hE
    unfold x_Model_takeField_29 at hE
    have hf : xFp [(51, 17), (51, 25), (51, 24)] [59, 60, 61] (false, false, false) σ σ := xFp.rf
    exact hf.tr (jn30 _ _ _ hE)
  unfold x_Model_takeField at hE
  have hf : xFp [(51, 17), (51, 25), (51, 24)] [59, 60, 61] (false, false, false) σ σ := xFp.rf
  obtain ⟨r4, hC, hE⟩ := x_bind hE
  rcases x_iteE hE with ⟨hc, hE⟩ | ⟨hc, hE⟩
  · exact hf.tr (jn29 _ _ hE)
  · obtain ⟨r19, hC, hE⟩ := x_bind hE
    rcases x_iteE hE with ⟨hc, hE⟩ | ⟨hc, hE⟩
    · exact hf.tr (jn29 _ _ hE)
    · exact hf.tr (jn30 _ _ _ hE)

set_option maxHeartbeats 4000000 in
set_option maxRecDepth 100000 in
theorem fp_Model_checkHost (σ : St) {σ' : St} (hE : x_Model_checkHost σ = some σ') : xFp [(51, 25), (51, 26)] [63, 64] (false, false, false) σ σ' := by
  have jn189 : ∀ (bk36 : Int32 → Int32 → St → Option St) (hbk36 : ∀ (l1 : Int32) (l2 : Int32) (σ : St), bk36 l1 l2 σ = some σ' → xFp [(51, 25), (51, 26)] [63, 64] (false, false, false) σ σ') (l1 : Int32) (l2 : Int32) (σ : St), x_Model_checkHost_189 bk36 l1 l2 σ = some σ' → xFp [(51, 25), (51, 26)] [63, 64] (false, false, false) σ σ' := by
    intro bk36 hbk36 l1 l2 σ hE
    unfold x_Model_checkHost_189 at hE
    have hf : xFp [(51, 25), (51, 26)] [63, 64] (false, false, false) σ σ := xFp.rf
    obtain ⟨v189, el, hE⟩ := x_letE hE
    exact hf.tr (hbk36 _ _ _ hE)
  have jn177 : ∀ (bk36 : Int32 → Int32 → St → Option St) (hbk36 : ∀ (l1 : Int32) (l2 : Int32) (σ : St), bk36 l1 l2 σ = some σ' → xFp [(51, 25), (51, 26)] [63, 64] (false, false, false) σ σ') (bk109 : Int32 → Int32 → Int32 → St → Option St) (hbk109 : ∀ (l1 : Int32) (l2 : Int32) (l3 : Int32) (σ : St), bk109 l1 l2 l3 σ = some σ' → xFp [(51, 25), (51, 26)] [63, 64] (false, false, false) σ σ') (l1 : Int32) (l2 : Int32) (l3 : Int32) (k0 : Int32) (σ : St), x_Model_checkHost_177 bk36 bk109 l1 l2 l3 k0 σ = some σ' → xFp [(51, 25), (51, 26)] [63, 64] (false, false, false) σ σ' := by
    intro bk36 hbk36 bk109 hbk109 l1 l2 l3 k0 σ hE
    unfold x_Model_checkHost_177 at hE
    have hf : xFp [(51, 25), (51, 26)] [63, 64] (false, false, false) σ σ := xFp.rf
    obtain ⟨s180, hC, hE⟩ := x_bind hE
    have hf := hf.tr ((fp_Model_blame _ _ _ hC).sub (by simp) (by simp) (by decide))
    obtain ⟨v183, el, hE⟩ := x_letE hE
    exact hf.tr (hbk109 _ _ _ _ hE)
  have jn172 : ∀ (bk36 : Int32 → Int32 → St → Option St) (hbk36 : ∀ (l1 : Int32) (l2 : Int32) (σ : St), bk36 l1 l2 σ = some σ' → xFp [(51, 25), (51, 26)] [63, 64] (false, false, false) σ σ') (bk109 : Int32 → Int32 → Int32 → St → Option St) (hbk109 : ∀ (l1 : Int32) (l2 : Int32) (l3 : Int32) (σ : St), bk109 l1 l2 l3 σ = some σ' → xFp [(51, 25), (51, 26)] [63, 64] (false, false, false) σ σ') (l1 : Int32) (l2 : Int32) (l3 : Int32) (σ : St), x_Model_checkHost_172 bk36 bk109 l1 l2 l3 σ = some σ' → xFp [(51, 25), (51, 26)] [63, 64] (false, false, false) σ σ' := by
    intro bk36 hbk36 bk109 hbk109 l1 l2 l3 σ hE
    unfold x_Model_checkHost_172 at hE
    have hf : xFp [(51, 25), (51, 26)] [63, 64] (false, false, false) σ σ := xFp.rf
    exact hf.tr (jn177 _ hbk36 _ hbk109 _ _ _ _ _ hE)
  have jn109 : ∀ (bk36 : Int32 → Int32 → St → Option St) (hbk36 : ∀ (l1 : Int32) (l2 : Int32) (σ : St), bk36 l1 l2 σ = some σ' → xFp [(51, 25), (51, 26)] [63, 64] (false, false, false) σ σ') (n : Nat) (l1 : Int32) (l2 : Int32) (l3 : Int32) (σ : St), x_Model_checkHost_109 bk36 n l1 l2 l3 σ = some σ' → xFp [(51, 25), (51, 26)] [63, 64] (false, false, false) σ σ' := by
    intro bk36 hbk36 n
    induction n with
    | zero => intro l1 l2 l3 σ hE; rw [x_Model_checkHost_109] at hE; cases hE
    | succ n ih =>
      intro l1 l2 l3 σ hE
      rw [x_Model_checkHost_109] at hE
      have hf : xFp [(51, 25), (51, 26)] [63, 64] (false, false, false) σ σ := xFp.rf
      rcases x_iteE hE with ⟨hc, hE⟩ | ⟨hc, hE⟩
      · exact hf.tr (jn189 _ hbk36 _ _ _ hE)
      · obtain ⟨hg, hE⟩ := x_guard hE
        rcases x_iteE hE with ⟨hc, hE⟩ | ⟨hc, hE⟩
        · exact hf.tr (jn189 _ hbk36 _ _ _ hE)
        · obtain ⟨hg, hE⟩ := x_guard hE
          obtain ⟨v132, el, hE⟩ := x_letE hE
          obtain ⟨r137, hC, hE⟩ := x_bind hE
          rcases x_iteE hE with ⟨hc, hE⟩ | ⟨hc, hE⟩
          · obtain ⟨r145, hC, hE⟩ := x_bind hE
            rcases x_iteE hE with ⟨hc, hE⟩ | ⟨hc, hE⟩
            · rcases x_iteE hE with ⟨hc, hE⟩ | ⟨hc, hE⟩
              · exact hf.tr (jn172 _ hbk36 _ ih _ _ _ _ hE)
              · rcases x_iteE hE with ⟨hc, hE⟩ | ⟨hc, hE⟩
                · exact hf.tr (jn172 _ hbk36 _ ih _ _ _ _ hE)
                · rcases x_iteE hE with ⟨hc, hE⟩ | ⟨hc, hE⟩
                  · exact hf.tr (jn172 _ hbk36 _ ih _ _ _ _ hE)
                  · exact hf.tr (jn177 _ hbk36 _ ih _ _ _ _ _ hE)
            · exact hf.tr (jn172 _ hbk36 _ ih _ _ _ _ hE)
          · exact hf.tr (jn172 _ hbk36 _ ih _ _ _ _ hE)
  have jn108 : ∀ (bk36 : Int32 → Int32 → St → Option St) (hbk36 : ∀ (l1 : Int32) (l2 : Int32) (σ : St), bk36 l1 l2 σ = some σ' → xFp [(51, 25), (51, 26)] [63, 64] (false, false, false) σ σ') (l1 : Int32) (l2 : Int32) (k0 : Int32) (σ : St), x_Model_checkHost_108 bk36 l1 l2 k0 σ = some σ' → xFp [(51, 25), (51, 26)] [63, 64] (false, false, false) σ σ' := by
    intro bk36 hbk36 l1 l2 k0 σ hE
    unfold x_Model_checkHost_108 at hE
    have hf : xFp [(51, 25), (51, 26)] [63, 64] (false, false, false) σ σ := xFp.rf
    exact hf.tr (jn109 _ hbk36 x_fuel _ _ _ _ hE)
  have jn36 : ∀ (n : Nat) (l1 : Int32) (l2 : Int32) (σ : St), x_Model_checkHost_36 n l1 l2 σ = some σ' → xFp [(51, 25), (51, 26)] [63, 64] (false, false, false) σ σ' := by
    intro n
    induction n with
    | zero => intro l1 l2 σ hE; rw [x_Model_checkHost_36] at hE; cases hE
    | succ n ih =>
      intro l1 l2 σ hE
      rw [x_Model_checkHost_36] at hE
      have hf : xFp [(51, 25), (51, 26)] [63, 64] (false, false, false) σ σ := xFp.rf
      rcases x_iteE hE with ⟨hc, hE⟩ | ⟨hc, hE⟩
      · have e1 := Option.some.inj hE
        rw [← e1]
        exact hf
      · rcases x_iteE hE with ⟨hc, hE⟩ | ⟨hc, hE⟩
        · obtain ⟨r52, hC, hE⟩ := x_bind hE
          rcases x_iteE hE with ⟨hc, hE⟩ | ⟨hc, hE⟩
          · exact hf.tr (jn189 _ ih _ _ _ hE)
          · obtain ⟨s60, el, hE⟩ := x_letE hE
            have hf := hf.tr (xFp.R el (by simp))
            obtain ⟨hg, hE⟩ := x_guard hE
            obtain ⟨hg, hE⟩ := x_guard hE
            obtain ⟨s88, hC, hE⟩ := x_bind hE
            have hf := hf.tr ((fp_Model_notice _ _ _ hC).sub (by simp) (by simp) (by decide))
            rcases x_iteE hE with ⟨hc, hE⟩ | ⟨hc, hE⟩
            · exact hf.tr (jn108 _ ih _ _ _ _ hE)
            · obtain ⟨hg, hE⟩ := x_guard hE
              exact hf.tr (jn108 _ ih _ _ _ _ hE)
        · have e1 := Option.some.inj hE
          rw [← e1]
          exact hf
  have jn28 : ∀ (l1 : Int32) (k0 : Int32) (σ : St), x_Model_checkHost_28 l1 k0 σ = some σ' → xFp [(51, 25), (51, 26)] [63, 64] (false, false, false) σ σ' := by
    intro l1 k0 σ hE
    unfold x_Model_checkHost_28 at hE
    have hf : xFp [(51, 25), (51, 26)] [63, 64] (false, false, false) σ σ := xFp.rf
    obtain ⟨s31, hC, hE⟩ := x_bind hE
    have hf := hf.tr ((fp_Model_blame _ _ _ hC).sub (by simp) (by simp) (by decide))
    exact hf.tr (jn36 x_fuel _ _ _ hE)
  have jn27 : ∀ (l1 : Int32) (σ : St), x_Model_checkHost_27 l1 σ = some σ' → xFp [(51, 25), (51, 26)] [63, 64] (false, false, false) σ σ' := by
    intro l1 σ hE
    unfold x_Model_checkHost_27 at hE
    have hf : xFp [(51, 25), (51, 26)] [63, 64] (false, false, false) σ σ := xFp.rf
    exact hf.tr (jn28 _ _ _ hE)
  have jn23 : ∀ (l1 : Int32) (σ : St), x_Model_checkHost_23 l1 σ = some σ' → xFp [(51, 25), (51, 26)] [63, 64] (false, false, false) σ σ' := by
    intro l1 σ hE
    unfold x_Model_checkHost_23 at hE
    have hf : xFp [(51, 25), (51, 26)] [63, 64] (false, false, false) σ σ := xFp.rf
    exact hf.tr (jn28 _ _ _ hE)
  unfold x_Model_checkHost at hE
  have hf : xFp [(51, 25), (51, 26)] [63, 64] (false, false, false) σ σ := xFp.rf
  obtain ⟨r2, hC, hE⟩ := x_bind hE
  rcases x_iteE hE with ⟨hc, hE⟩ | ⟨hc, hE⟩
  · exact hf.tr (jn27 _ _ hE)
  · rcases x_iteE hE with ⟨hc, hE⟩ | ⟨hc, hE⟩
    · exact hf.tr (jn23 _ _ hE)
    · rcases x_iteE hE with ⟨hc, hE⟩ | ⟨hc, hE⟩
      · exact hf.tr (jn23 _ _ hE)
      · exact hf.tr (jn27 _ _ hE)

set_option maxHeartbeats 4000000 in
set_option maxRecDepth 100000 in
theorem fp_Model_checkCoding (σ : St) {σ' : St} (hE : x_Model_checkCoding σ = some σ') : xFp [(51, 25), (51, 26)] [63, 64] (false, false, false) σ σ' := by
  have jn97 : ∀ (k0 : Int32) (σ : St), x_Model_checkCoding_97 k0 σ = some σ' → xFp [(51, 25), (51, 26)] [63, 64] (false, false, false) σ σ' := by
    intro k0 σ hE
    unfold x_Model_checkCoding_97 at hE
    have hf : xFp [(51, 25), (51, 26)] [63, 64] (false, false, false) σ σ := xFp.rf
    obtain ⟨s100, hC, hE⟩ := x_bind hE
    have hf := hf.tr ((fp_Model_blame _ _ _ hC).sub (by simp) (by simp) (by decide))
    have e1 := Option.some.inj hE
    rw [← e1]
    exact hf
  have jn77 : ∀ (k0 : Int32) (σ : St), x_Model_checkCoding_77 k0 σ = some σ' → xFp [(51, 25), (51, 26)] [63, 64] (false, false, false) σ σ' := by
    intro k0 σ hE
    unfold x_Model_checkCoding_77 at hE
    have hf : xFp [(51, 25), (51, 26)] [63, 64] (false, false, false) σ σ := xFp.rf
    obtain ⟨s80, hC, hE⟩ := x_bind hE
    have hf := hf.tr ((fp_Model_blame _ _ _ hC).sub (by simp) (by simp) (by decide))
    rcases x_iteE hE with ⟨hc, hE⟩ | ⟨hc, hE⟩
    · exact hf.tr (jn97 _ _ hE)
    · exact hf.tr (jn97 _ _ hE)
  have jn76 : ∀ (σ : St), x_Model_checkCoding_76 σ = some σ' → xFp [(51, 25), (51, 26)] [63, 64] (false, false, false) σ σ' := by
    intro σ hE
    unfold x_Model_checkCoding_76 at hE
    have hf : xFp [(51, 25), (51, 26)] [63, 64] (false, false, false) σ σ := xFp.rf
    exact hf.tr (jn77 _ _ hE)
  have jn22 : ∀ (k0 : Int32) (σ : St), x_Model_checkCoding_22 k0 σ = some σ' → xFp [(51, 25), (51, 26)] [63, 64] (false, false, false) σ σ' := by
    intro k0 σ hE
    unfold x_Model_checkCoding_22 at hE
    have hf : xFp [(51, 25), (51, 26)] [63, 64] (false, false, false) σ σ := xFp.rf
    obtain ⟨s25, hC, hE⟩ := x_bind hE
    have hf := hf.tr ((fp_Model_blame _ _ _ hC).sub (by simp) (by simp) (by decide))
    obtain ⟨s30, hC, hE⟩ := x_bind hE
    have hf := hf.tr ((fp_Model_list _ _ hC).sub (by simp) (by simp) (by decide))
    rcases x_iteE hE with ⟨hc, hE⟩ | ⟨hc, hE⟩
    · exact hf.tr (jn76 _ hE)
    · obtain ⟨hg, hE⟩ := x_guard hE
      obtain ⟨hg, hE⟩ := x_guard hE
      obtain ⟨r66, hC, hE⟩ := x_bind hE
      rcases x_iteE hE with ⟨hc, hE⟩ | ⟨hc, hE⟩
      · exact hf.tr (jn76 _ hE)
      · exact hf.tr (jn77 _ _ hE)
  have jn21 : ∀ (σ : St), x_Model_checkCoding_21 σ = some σ' → xFp [(51, 25), (51, 26)] [63, 64] (false, false, false) σ σ' := by
    intro σ hE
    unfold x_Model_checkCoding_21 at hE
    have hf : xFp [(51, 25), (51, 26)] [63, 64] (false, false, false) σ σ := xFp.rf
    exact hf.tr (jn22 _ _ hE)
  unfold x_Model_checkCoding at hE
  have hf : xFp [(51, 25), (51, 26)] [63, 64] (false, false, false) σ σ := xFp.rf
  rcases x_iteE hE with ⟨hc, hE⟩ | ⟨hc, hE⟩
  · exact hf.tr (jn21 _ hE)
  · obtain ⟨r11, hC, hE⟩ := x_bind hE
    rcases x_iteE hE with ⟨hc, hE⟩ | ⟨hc, hE⟩
    · exact hf.tr (jn22 _ _ hE)
    · exact hf.tr (jn21 _ hE)

set_option maxHeartbeats 4000000 in
set_option maxRecDepth 100000 in
theorem fp_Model_checkLength (σ : St) {σ' : St} (hE : x_Model_checkLength σ = some σ') : xFp [(51, 25), (51, 21), (51, 26)] [63, 64] (false, false, false) σ σ' := by
  have jn107 : ∀ (k0 : Int32) (σ : St), x_Model_checkLength_107 k0 σ = some σ' → xFp [(51, 25), (51, 21), (51, 26)] [63, 64] (false, false, false) σ σ' := by
    intro k0 σ hE
    unfold x_Model_checkLength_107 at hE
    have hf : xFp [(51, 25), (51, 21), (51, 26)] [63, 64] (false, false, false) σ σ := xFp.rf
    obtain ⟨s110, hC, hE⟩ := x_bind hE
    have hf := hf.tr ((fp_Model_blame _ _ _ hC).sub (by simp) (by simp) (by decide))
    have e1 := Option.some.inj hE
    rw [← e1]
    exact hf
  have jn74 : ∀ (bk27 : Int32 → St → Option St) (hbk27 : ∀ (l1 : Int32) (σ : St), bk27 l1 σ = some σ' → xFp [(51, 25), (51, 21), (51, 26)] [63, 64] (false, false, false) σ σ') (l1 : Int32) (l2 : Int32) (k0 : Int32) (σ : St), x_Model_checkLength_74 bk27 l1 l2 k0 σ = some σ' → xFp [(51, 25), (51, 21), (51, 26)] [63, 64] (false, false, false) σ σ' := by
    intro bk27 hbk27 l1 l2 k0 σ hE
    unfold x_Model_checkLength_74 at hE
    have hf : xFp [(51, 25), (51, 21), (51, 26)] [63, 64] (false, false, false) σ σ := xFp.rf
    obtain ⟨s77, hC, hE⟩ := x_bind hE
    have hf := hf.tr ((fp_Model_blame _ _ _ hC).sub (by simp) (by simp) (by decide))
    obtain ⟨s82, el, hE⟩ := x_letE hE
    have hf := hf.tr (xFp.R el (by simp))
    obtain ⟨v85, el, hE⟩ := x_letE hE
    exact hf.tr (hbk27 _ _ hE)
  have jn73 : ∀ (bk27 : Int32 → St → Option St) (hbk27 : ∀ (l1 : Int32) (σ : St), bk27 l1 σ = some σ' → xFp [(51, 25), (51, 21), (51, 26)] [63, 64] (false, false, false) σ σ') (l1 : Int32) (l2 : Int32) (σ : St), x_Model_checkLength_73 bk27 l1 l2 σ = some σ' → xFp [(51, 25), (51, 21), (51, 26)] [63, 64] (false, false, false) σ σ' := by
    intro bk27 hbk27 l1 l2 σ hE
    unfold x_Model_checkLength_73 at hE
    have hf : xFp [(51, 25), (51, 21), (51, 26)] [63, 64] (false, false, false) σ σ := xFp.rf
    exact hf.tr (jn74 _ hbk27 _ _ _ _ hE)
  have jn69 : ∀ (bk27 : Int32 → St → Option St) (hbk27 : ∀ (l1 : Int32) (σ : St), bk27 l1 σ = some σ' → xFp [(51, 25), (51, 21), (51, 26)] [63, 64] (false, false, false) σ σ') (l1 : Int32) (l2 : Int32) (σ : St), x_Model_checkLength_69 bk27 l1 l2 σ = some σ' → xFp [(51, 25), (51, 21), (51, 26)] [63, 64] (false, false, false) σ σ' := by
    intro bk27 hbk27 l1 l2 σ hE
    unfold x_Model_checkLength_69 at hE
    have hf : xFp [(51, 25), (51, 21), (51, 26)] [63, 64] (false, false, false) σ σ := xFp.rf
    exact hf.tr (jn74 _ hbk27 _ _ _ _ hE)
  have jn27 : ∀ (n : Nat) (l1 : Int32) (σ : St), x_Model_checkLength_27 n l1 σ = some σ' → xFp [(51, 25), (51, 21), (51, 26)] [63, 64] (false, false, false) σ σ' := by
    intro n
    induction n with
    | zero => intro l1 σ hE; rw [x_Model_checkLength_27] at hE; cases hE
    | succ n ih =>
      intro l1 σ hE
      rw [x_Model_checkLength_27] at hE
      have hf : xFp [(51, 25), (51, 21), (51, 26)] [63, 64] (false, false, false) σ σ := xFp.rf
      rcases x_iteE hE with ⟨hc, hE⟩ | ⟨hc, hE⟩
      · rcases x_iteE hE with ⟨hc, hE⟩ | ⟨hc, hE⟩
        · exact hf.tr (jn107 _ _ hE)
        · exact hf.tr (jn107 _ _ hE)
      · obtain ⟨hg, hE⟩ := x_guard hE
        obtain ⟨hg, hE⟩ := x_guard hE
        obtain ⟨r48, hC, hE⟩ := x_bind hE
        rcases x_iteE hE with ⟨hc, hE⟩ | ⟨hc, hE⟩
        · exact hf.tr (jn73 _ ih _ _ _ hE)
        · rcases x_iteE hE with ⟨hc, hE⟩ | ⟨hc, hE⟩
          · exact hf.tr (jn69 _ ih _ _ _ hE)
          · rcases x_iteE hE with ⟨hc, hE⟩ | ⟨hc, hE⟩
            · exact hf.tr (jn69 _ ih _ _ _ hE)
            · exact hf.tr (jn73 _ ih _ _ _ hE)
  have jn19 : ∀ (k0 : Int32) (σ : St), x_Model_checkLength_19 k0 σ = some σ' → xFp [(51, 25), (51, 21), (51, 26)] [63, 64] (false, false, false) σ σ' := by
    intro k0 σ hE
    unfold x_Model_checkLength_19 at hE
    have hf : xFp [(51, 25), (51, 21), (51, 26)] [63, 64] (false, false, false) σ σ := xFp.rf
    obtain ⟨s22, hC, hE⟩ := x_bind hE
    have hf := hf.tr ((fp_Model_blame _ _ _ hC).sub (by simp) (by simp) (by decide))
    exact hf.tr (jn27 x_fuel _ _ hE)
  unfold x_Model_checkLength at hE
  have hf : xFp [(51, 25), (51, 21), (51, 26)] [63, 64] (false, false, false) σ σ := xFp.rf
  obtain ⟨s3, hC, hE⟩ := x_bind hE
  have hf := hf.tr ((fp_Model_list _ _ hC).sub (by simp) (by simp) (by decide))
  rcases x_iteE hE with ⟨hc, hE⟩ | ⟨hc, hE⟩
  · exact hf.tr (jn19 _ _ hE)
  · exact hf.tr (jn19 _ _ hE)

set_option maxHeartbeats 4000000 in
set_option maxRecDepth 100000 in
theorem fp_Model_say (a1 : Int32) (σ : St) {σ' : St} (hE : x_Model_say a1 σ = some σ') : xFp [(51, 31)] [65] (false, false, false) σ σ' := by
  have jn20 : ∀ (σ : St), x_Model_say_20 a1 σ = some σ' → xFp [(51, 31)] [65] (false, false, false) σ σ' := by
    intro σ hE
    unfold x_Model_say_20 at hE
    have hf : xFp [(51, 31)] [65] (false, false, false) σ σ := xFp.rf
    obtain ⟨s27, el, hE⟩ := x_letE hE
    have hf := hf.tr (xFp.R el (by simp))
    have e1 := Option.some.inj hE
    rw [← e1]
    exact hf
  unfold x_Model_say at hE
  have hf : xFp [(51, 31)] [65] (false, false, false) σ σ := xFp.rf
  rcases x_iteE hE with ⟨hc, hE⟩ | ⟨hc, hE⟩
  · exact hf.tr (jn20 _ hE)
  · obtain ⟨hg, hE⟩ := x_guard hE
    obtain ⟨s19, el, hE⟩ := x_letE hE
    have hf := hf.tr (xFp.M el (by simp))
    exact hf.tr (jn20 _ hE)

set_option maxHeartbeats 4000000 in
set_option maxRecDepth 100000 in
theorem fp_Model_sayWord (a1 : Int32) (σ : St) {σ' : St} (hE : x_Model_sayWord a1 σ = some σ') : xFp [(51, 31)] [65] (false, false, false) σ σ' := by
  have jn2 : ∀ (n : Nat) (l2 : Int32) (σ : St), x_Model_sayWord_2 a1 n l2 σ = some σ' → xFp [(51, 31)] [65] (false, false, false) σ σ' := by
    intro n
    induction n with
    | zero => intro l2 σ hE; rw [x_Model_sayWord_2] at hE; cases hE
    | succ n ih =>
      intro l2 σ hE
      rw [x_Model_sayWord_2] at hE
      have hf : xFp [(51, 31)] [65] (false, false, false) σ σ := xFp.rf
      obtain ⟨r4, hC, hE⟩ := x_bind hE
      rcases x_iteE hE with ⟨hc, hE⟩ | ⟨hc, hE⟩
      · have e1 := Option.some.inj hE
        rw [← e1]
        exact hf
      · obtain ⟨r13, hC, hE⟩ := x_bind hE
        obtain ⟨s16, hC, hE⟩ := x_bind hE
        have hf := hf.tr ((fp_Model_say _ _ hC).sub (by simp) (by simp) (by decide))
        obtain ⟨v19, el, hE⟩ := x_letE hE
        exact hf.tr (ih _ _ hE)
  unfold x_Model_sayWord at hE
  have hf : xFp [(51, 31)] [65] (false, false, false) σ σ := xFp.rf
  exact hf.tr (jn2 x_fuel _ _ hE)

set_option maxHeartbeats 4000000 in
set_option maxRecDepth 100000 in
theorem fp_Model_sayNumber (a1 : Int32) (σ : St) {σ' : St} (hE : x_Model_sayNumber a1 σ = some σ') : xFp [(51, 31)] [65] (false, false, false) σ σ' := by
  have jn18 : ∀ (n : Nat) (l2 : Int32) (σ : St), x_Model_sayNumber_18 a1 n l2 σ = some σ' → xFp [(51, 31)] [65] (false, false, false) σ σ' := by
    intro n
    induction n with
    | zero => intro l2 σ hE; rw [x_Model_sayNumber_18] at hE; cases hE
    | succ n ih =>
      intro l2 σ hE
      rw [x_Model_sayNumber_18] at hE
      have hf : xFp [(51, 31)] [65] (false, false, false) σ σ := xFp.rf
      rcases x_iteE hE with ⟨hc, hE⟩ | ⟨hc, hE⟩
      · have e1 := Option.some.inj hE
        rw [← e1]
        exact hf
      · obtain ⟨hg, hE⟩ := x_guard hE
        obtain ⟨s32, hC, hE⟩ := x_bind hE
        have hf := hf.tr ((fp_Model_say _ _ hC).sub (by simp) (by simp) (by decide))
        obtain ⟨v39, el, hE⟩ := x_letE hE
        exact hf.tr (ih _ _ hE)
  have jn2 : ∀ (n : Nat) (l2 : Int32) (σ : St), x_Model_sayNumber_2 a1 n l2 σ = some σ' → xFp [(51, 31)] [65] (false, false, false) σ σ' := by
    intro n
    induction n with
    | zero => intro l2 σ hE; rw [x_Model_sayNumber_2] at hE; cases hE
    | succ n ih =>
      intro l2 σ hE
      rw [x_Model_sayNumber_2] at hE
      have hf : xFp [(51, 31)] [65] (false, false, false) σ σ := xFp.rf
      obtain ⟨hg, hE⟩ := x_guard hE
      rcases x_iteE hE with ⟨hc, hE⟩ | ⟨hc, hE⟩
      · exact hf.tr (jn18 x_fuel _ _ hE)
      · obtain ⟨v14, el, hE⟩ := x_letE hE
        exact hf.tr (ih _ _ hE)
  unfold x_Model_sayNumber at hE
  have hf : xFp [(51, 31)] [65] (false, false, false) σ σ := xFp.rf
  exact hf.tr (jn2 x_fuel _ _ hE)

set_option maxHeartbeats 4000000 in
set_option maxRecDepth 100000 in
theorem fp_Model_endSaying (σ : St) {σ' : St} (hE : x_Model_endSaying σ = some σ') : xFp [(51, 31)] [65] (false, false, false) σ σ' := by
  unfold x_Model_endSaying at hE
  have hf : xFp [(51, 31)] [65] (false, false, false) σ σ := xFp.rf
  obtain ⟨s3, hC, hE⟩ := x_bind hE
  have hf := hf.tr ((fp_Model_say _ _ hC).sub (by simp) (by simp) (by decide))
  obtain ⟨s9, hC, hE⟩ := x_bind hE
  have hf := hf.tr ((fp_Model_say _ _ hC).sub (by simp) (by simp) (by decide))
  have e1 := Option.some.inj hE
  rw [← e1]
  exact hf

set_option maxHeartbeats 4000000 in
set_option maxRecDepth 100000 in
theorem fp_Model_sayStatus (a1 : Int32) (σ : St) {σ' : St} (hE : x_Model_sayStatus a1 σ = some σ') : xFp [(51, 31), (51, 29), (51, 30)] [65] (false, false, false) σ σ' := by
  unfold x_Model_sayStatus at hE
  have hf : xFp [(51, 31), (51, 29), (51, 30)] [65] (false, false, false) σ σ := xFp.rf
  obtain ⟨s4, hC, hE⟩ := x_bind hE
  have hf := hf.tr ((fp_Model_sayWord _ _ hC).sub (by simp) (by simp) (by decide))
  obtain ⟨s9, hC, hE⟩ := x_bind hE
  have hf := hf.tr ((fp_Model_sayNumber _ _ hC).sub (by simp) (by simp) (by decide))
  obtain ⟨s15, hC, hE⟩ := x_bind hE
  have hf := hf.tr ((fp_Model_say _ _ hC).sub (by simp) (by simp) (by decide))
  obtain ⟨s19, hC, hE⟩ := x_bind hE
  have hf := hf.tr ((fp_Model_endSaying _ hC).sub (by simp) (by simp) (by decide))
  obtain ⟨s24, el, hE⟩ := x_letE hE
  have hf := hf.tr (xFp.R el (by simp))
  obtain ⟨s34, el, hE⟩ := x_letE hE
  have hf := hf.tr (xFp.R el (by simp))
  have e1 := Option.some.inj hE
  rw [← e1]
  exact hf

set_option maxHeartbeats 4000000 in
set_option maxRecDepth 100000 in
theorem fp_Model_respond (a1 : Int32) (a2 : Int32) (a3 : Int32) (a4 : Int32) (a5 : Int32) (a6 : Int32) (σ : St) {σ' : St} (hE : x_Model_respond a1 a2 a3 a4 a5 a6 σ = some σ') : xFp [(51, 31), (51, 7), (51, 29), (51, 30)] [65] (false, false, false) σ σ' := by
  have jn213 : ∀ (σ : St), x_Model_respond_213 a1 a2 a3 a4 a5 a6 σ = some σ' → xFp [(51, 31), (51, 7), (51, 29), (51, 30)] [65] (false, false, false) σ σ' := by
    intro σ hE
    unfold x_Model_respond_213 at hE
    have hf : xFp [(51, 31), (51, 7), (51, 29), (51, 30)] [65] (false, false, false) σ σ := xFp.rf
    obtain ⟨s214, hC, hE⟩ := x_bind hE
    have hf := hf.tr ((fp_Model_endSaying _ hC).sub (by simp) (by simp) (by decide))
    rcases x_iteE hE with ⟨hc, hE⟩ | ⟨hc, hE⟩
    · obtain ⟨s230, el, hE⟩ := x_letE hE
      have hf := hf.tr (xFp.R el (by simp))
      have e1 := Option.some.inj hE
      rw [← e1]
      exact hf
    · obtain ⟨s230, el, hE⟩ := x_letE hE
      have hf := hf.tr (xFp.R el (by simp))
      have e1 := Option.some.inj hE
      rw [← e1]
      exact hf
  have jn206 : ∀ (k0 : Int32) (σ : St), x_Model_respond_206 a1 a2 a3 a4 a5 a6 k0 σ = some σ' → xFp [(51, 31), (51, 7), (51, 29), (51, 30)] [65] (false, false, false) σ σ' := by
    intro k0 σ hE
    unfold x_Model_respond_206 at hE
    have hf : xFp [(51, 31), (51, 7), (51, 29), (51, 30)] [65] (false, false, false) σ σ := xFp.rf
    obtain ⟨s206, hC, hE⟩ := x_bind hE
    have hf := hf.tr ((fp_Model_sayWord _ _ hC).sub (by simp) (by simp) (by decide))
    obtain ⟨s210, hC, hE⟩ := x_bind hE
    have hf := hf.tr ((fp_Model_endSaying _ hC).sub (by simp) (by simp) (by decide))
    exact hf.tr (jn213 _ hE)
  have jn189 : ∀ (σ : St), x_Model_respond_189 a1 a2 a3 a4 a5 a6 σ = some σ' → xFp [(51, 31), (51, 7), (51, 29), (51, 30)] [65] (false, false, false) σ σ' := by
    intro σ hE
    unfold x_Model_respond_189 at hE
    have hf : xFp [(51, 31), (51, 7), (51, 29), (51, 30)] [65] (false, false, false) σ σ := xFp.rf
    rcases x_iteE hE with ⟨hc, hE⟩ | ⟨hc, hE⟩
    · exact hf.tr (jn206 _ _ hE)
    · exact hf.tr (jn206 _ _ hE)
  have jn175 : ∀ (σ : St), x_Model_respond_175 a1 a2 a3 a4 a5 a6 σ = some σ' → xFp [(51, 31), (51, 7), (51, 29), (51, 30)] [65] (false, false, false) σ σ' := by
    intro σ hE
    unfold x_Model_respond_175 at hE
    have hf : xFp [(51, 31), (51, 7), (51, 29), (51, 30)] [65] (false, false, false) σ σ := xFp.rf
    rcases x_iteE hE with ⟨hc, hE⟩ | ⟨hc, hE⟩
    · rcases x_iteE hE with ⟨hc, hE⟩ | ⟨hc, hE⟩
      · exact hf.tr (jn189 _ hE)
      · exact hf.tr (jn213 _ hE)
    · exact hf.tr (jn189 _ hE)
  have jn164 : ∀ (σ : St), x_Model_respond_164 a1 a2 a3 a4 a5 a6 σ = some σ' → xFp [(51, 31), (51, 7), (51, 29), (51, 30)] [65] (false, false, false) σ σ' := by
    intro σ hE
    unfold x_Model_respond_164 at hE
    have hf : xFp [(51, 31), (51, 7), (51, 29), (51, 30)] [65] (false, false, false) σ σ := xFp.rf
    obtain ⟨s168, hC, hE⟩ := x_bind hE
    have hf := hf.tr ((fp_Model_sayWord _ _ hC).sub (by simp) (by simp) (by decide))
    obtain ⟨s172, hC, hE⟩ := x_bind hE
    have hf := hf.tr ((fp_Model_endSaying _ hC).sub (by simp) (by simp) (by decide))
    exact hf.tr (jn175 _ hE)
  have jn140 : ∀ (σ : St), x_Model_respond_140 a1 a2 a3 a4 a5 a6 σ = some σ' → xFp [(51, 31), (51, 7), (51, 29), (51, 30)] [65] (false, false, false) σ σ' := by
    intro σ hE
    unfold x_Model_respond_140 at hE
    have hf : xFp [(51, 31), (51, 7), (51, 29), (51, 30)] [65] (false, false, false) σ σ := xFp.rf
    rcases x_iteE hE with ⟨hc, hE⟩ | ⟨hc, hE⟩
    · exact hf.tr (jn164 _ hE)
    · rcases x_iteE hE with ⟨hc, hE⟩ | ⟨hc, hE⟩
      · rcases x_iteE hE with ⟨hc, hE⟩ | ⟨hc, hE⟩
        · exact hf.tr (jn164 _ hE)
        · exact hf.tr (jn175 _ hE)
      · exact hf.tr (jn175 _ hE)
  have jn124 : ∀ (σ : St), x_Model_respond_124 a1 a2 a3 a4 a5 a6 σ = some σ' → xFp [(51, 31), (51, 7), (51, 29), (51, 30)] [65] (false, false, false) σ σ' := by
    intro σ hE
    unfold x_Model_respond_124 at hE
    have hf : xFp [(51, 31), (51, 7), (51, 29), (51, 30)] [65] (false, false, false) σ σ := xFp.rf
    obtain ⟨s127, hC, hE⟩ := x_bind hE
    have hf := hf.tr ((fp_Model_say _ _ hC).sub (by simp) (by simp) (by decide))
    obtain ⟨s133, hC, hE⟩ := x_bind hE
    have hf := hf.tr ((fp_Model_sayNumber _ _ hC).sub (by simp) (by simp) (by decide))
    obtain ⟨s137, hC, hE⟩ := x_bind hE
    have hf := hf.tr ((fp_Model_endSaying _ hC).sub (by simp) (by simp) (by decide))
    exact hf.tr (jn140 _ hE)
  have jn81 : ∀ (σ : St), x_Model_respond_81 a1 a2 a3 a4 a5 a6 σ = some σ' → xFp [(51, 31), (51, 7), (51, 29), (51, 30)] [65] (false, false, false) σ σ' := by
    intro σ hE
    unfold x_Model_respond_81 at hE
    have hf : xFp [(51, 31), (51, 7), (51, 29), (51, 30)] [65] (false, false, false) σ σ := xFp.rf
    obtain ⟨s85, hC, hE⟩ := x_bind hE
    have hf := hf.tr ((fp_Model_sayWord _ _ hC).sub (by simp) (by simp) (by decide))
    rcases x_iteE hE with ⟨hc, hE⟩ | ⟨hc, hE⟩
    · obtain ⟨s98, hC, hE⟩ := x_bind hE
      have hf := hf.tr ((fp_Model_sayNumber _ _ hC).sub (by simp) (by simp) (by decide))
      obtain ⟨s104, hC, hE⟩ := x_bind hE
      have hf := hf.tr ((fp_Model_say _ _ hC).sub (by simp) (by simp) (by decide))
      obtain ⟨s112, hC, hE⟩ := x_bind hE
      have hf := hf.tr ((fp_Model_sayNumber _ _ hC).sub (by simp) (by simp) (by decide))
      exact hf.tr (jn124 _ hE)
    · obtain ⟨s121, hC, hE⟩ := x_bind hE
      have hf := hf.tr ((fp_Model_say _ _ hC).sub (by simp) (by simp) (by decide))
      exact hf.tr (jn124 _ hE)
  have jn67 : ∀ (σ : St), x_Model_respond_67 a1 a2 a3 a4 a5 a6 σ = some σ' → xFp [(51, 31), (51, 7), (51, 29), (51, 30)] [65] (false, false, false) σ σ' := by
    intro σ hE
    unfold x_Model_respond_67 at hE
    have hf : xFp [(51, 31), (51, 7), (51, 29), (51, 30)] [65] (false, false, false) σ σ := xFp.rf
    rcases x_iteE hE with ⟨hc, hE⟩ | ⟨hc, hE⟩
    · exact hf.tr (jn81 _ hE)
    · rcases x_iteE hE with ⟨hc, hE⟩ | ⟨hc, hE⟩
      · exact hf.tr (jn81 _ hE)
      · exact hf.tr (jn140 _ hE)
  have jn35 : ∀ (σ : St), x_Model_respond_35 a1 a2 a3 a4 a5 a6 σ = some σ' → xFp [(51, 31), (51, 7), (51, 29), (51, 30)] [65] (false, false, false) σ σ' := by
    intro σ hE
    unfold x_Model_respond_35 at hE
    have hf : xFp [(51, 31), (51, 7), (51, 29), (51, 30)] [65] (false, false, false) σ σ := xFp.rf
    rcases x_iteE hE with ⟨hc, hE⟩ | ⟨hc, hE⟩
    · exact hf.tr (jn67 _ hE)
    · obtain ⟨s43, hC, hE⟩ := x_bind hE
      have hf := hf.tr ((fp_Model_sayWord _ _ hC).sub (by simp) (by simp) (by decide))
      obtain ⟨s49, hC, hE⟩ := x_bind hE
      have hf := hf.tr ((fp_Model_say _ _ hC).sub (by simp) (by simp) (by decide))
      obtain ⟨s54, hC, hE⟩ := x_bind hE
      have hf := hf.tr ((fp_Model_sayNumber _ _ hC).sub (by simp) (by simp) (by decide))
      obtain ⟨s60, hC, hE⟩ := x_bind hE
      have hf := hf.tr ((fp_Model_say _ _ hC).sub (by simp) (by simp) (by decide))
      obtain ⟨s64, hC, hE⟩ := x_bind hE
      have hf := hf.tr ((fp_Model_endSaying _ hC).sub (by simp) (by simp) (by decide))
      exact hf.tr (jn67 _ hE)
  unfold x_Model_respond at hE
  have hf : xFp [(51, 31), (51, 7), (51, 29), (51, 30)] [65] (false, false, false) σ σ := xFp.rf
  obtain ⟨s2, hC, hE⟩ := x_bind hE
  have hf := hf.tr ((fp_Model_sayStatus _ _ hC).sub (by simp) (by simp) (by decide))
  rcases x_iteE hE with ⟨hc, hE⟩ | ⟨hc, hE⟩
  · exact hf.tr (jn35 _ hE)
  · rcases x_iteE hE with ⟨hc, hE⟩ | ⟨hc, hE⟩
    · exact hf.tr (jn35 _ hE)
    · obtain ⟨s23, hC, hE⟩ := x_bind hE
      have hf := hf.tr ((fp_Model_sayWord _ _ hC).sub (by simp) (by simp) (by decide))
      obtain ⟨s28, hC, hE⟩ := x_bind hE
      have hf := hf.tr ((fp_Model_sayNumber _ _ hC).sub (by simp) (by simp) (by decide))
      obtain ⟨s32, hC, hE⟩ := x_bind hE
      have hf := hf.tr ((fp_Model_endSaying _ hC).sub (by simp) (by simp) (by decide))
      exact hf.tr (jn35 _ hE)

set_option maxHeartbeats 4000000 in
set_option maxRecDepth 100000 in
theorem fp_Model_tellSite (σ : St) {σ' : St} (hE : x_Model_tellSite σ = some σ') : xFp [(51, 31), (51, 7), (51, 29), (51, 30)] [65] (false, false, false) σ σ' := by
  have jn79 : ∀ (bk47 : Int32 → St → Option St) (hbk47 : ∀ (l2 : Int32) (σ : St), bk47 l2 σ = some σ' → xFp [(51, 31), (51, 7), (51, 29), (51, 30)] [65] (false, false, false) σ σ') (l2 : Int32) (σ : St), x_Model_tellSite_79 bk47 l2 σ = some σ' → xFp [(51, 31), (51, 7), (51, 29), (51, 30)] [65] (false, false, false) σ σ' := by
    intro bk47 hbk47 l2 σ hE
    unfold x_Model_tellSite_79 at hE
    have hf : xFp [(51, 31), (51, 7), (51, 29), (51, 30)] [65] (false, false, false) σ σ := xFp.rf
    obtain ⟨v79, el, hE⟩ := x_letE hE
    exact hf.tr (hbk47 _ _ hE)
  have jn47 : ∀ (n : Nat) (l2 : Int32) (σ : St), x_Model_tellSite_47 n l2 σ = some σ' → xFp [(51, 31), (51, 7), (51, 29), (51, 30)] [65] (false, false, false) σ σ' := by
    intro n
    induction n with
    | zero => intro l2 σ hE; rw [x_Model_tellSite_47] at hE; cases hE
    | succ n ih =>
      intro l2 σ hE
      rw [x_Model_tellSite_47] at hE
      have hf : xFp [(51, 31), (51, 7), (51, 29), (51, 30)] [65] (false, false, false) σ σ := xFp.rf
      rcases x_iteE hE with ⟨hc, hE⟩ | ⟨hc, hE⟩
      · have e1 := Option.some.inj hE
        rw [← e1]
        exact hf
      · obtain ⟨hg, hE⟩ := x_guard hE
        rcases x_iteE hE with ⟨hc, hE⟩ | ⟨hc, hE⟩
        · exact hf.tr (jn79 _ ih _ _ hE)
        · rcases x_iteE hE with ⟨hc, hE⟩ | ⟨hc, hE⟩
          · obtain ⟨s76, hC, hE⟩ := x_bind hE
            have hf := hf.tr ((fp_Model_say _ _ hC).sub (by simp) (by simp) (by decide))
            exact hf.tr (jn79 _ ih _ _ hE)
          · exact hf.tr (jn79 _ ih _ _ hE)
  have jn26 : ∀ (bk4 : Int32 → Int32 → St → Option St) (hbk4 : ∀ (l1 : Int32) (l2 : Int32) (σ : St), bk4 l1 l2 σ = some σ' → xFp [(51, 31), (51, 7), (51, 29), (51, 30)] [65] (false, false, false) σ σ') (l2 : Int32) (k0 : Int32) (σ : St), x_Model_tellSite_26 bk4 l2 k0 σ = some σ' → xFp [(51, 31), (51, 7), (51, 29), (51, 30)] [65] (false, false, false) σ σ' := by
    intro bk4 hbk4 l2 k0 σ hE
    unfold x_Model_tellSite_26 at hE
    have hf : xFp [(51, 31), (51, 7), (51, 29), (51, 30)] [65] (false, false, false) σ σ := xFp.rf
    obtain ⟨v27, el, hE⟩ := x_letE hE
    exact hf.tr (hbk4 _ _ _ hE)
  have jn4 : ∀ (n : Nat) (l1 : Int32) (l2 : Int32) (σ : St), x_Model_tellSite_4 n l1 l2 σ = some σ' → xFp [(51, 31), (51, 7), (51, 29), (51, 30)] [65] (false, false, false) σ σ' := by
    intro n
    induction n with
    | zero => intro l1 l2 σ hE; rw [x_Model_tellSite_4] at hE; cases hE
    | succ n ih =>
      intro l1 l2 σ hE
      rw [x_Model_tellSite_4] at hE
      have hf : xFp [(51, 31), (51, 7), (51, 29), (51, 30)] [65] (false, false, false) σ σ := xFp.rf
      rcases x_iteE hE with ⟨hc, hE⟩ | ⟨hc, hE⟩
      · obtain ⟨s42, hC, hE⟩ := x_bind hE
        have hf := hf.tr ((fp_Model_respond _ _ _ _ _ _ _ hC).sub (by simp) (by simp) (by decide))
        exact hf.tr (jn47 x_fuel _ _ hE)
      · obtain ⟨hg, hE⟩ := x_guard hE
        rcases x_iteE hE with ⟨hc, hE⟩ | ⟨hc, hE⟩
        · exact hf.tr (jn26 _ ih _ _ _ hE)
        · exact hf.tr (jn26 _ ih _ _ _ hE)
  unfold x_Model_tellSite at hE
  have hf : xFp [(51, 31), (51, 7), (51, 29), (51, 30)] [65] (false, false, false) σ σ := xFp.rf
  exact hf.tr (jn4 x_fuel _ _ _ hE)

set_option maxHeartbeats 4000000 in
set_option maxRecDepth 100000 in
theorem fp_Model_isKnown (a1 : Int32) (σ : St) {r : Int32} {σ' : St} (hE : x_Model_isKnown a1 σ = some (r, σ')) : xFp [(51, 26)] [63, 64] (false, false, false) σ σ' := by
  have jn158 : ∀ (bk10 : Int32 → Int32 → St → Option (Int32 × St)) (hbk10 : ∀ (l2 : Int32) (l3 : Int32) (σ : St), bk10 l2 l3 σ = some (r, σ') → xFp [(51, 26)] [63, 64] (false, false, false) σ σ') (l3 : Int32) (k0 : Int32) (σ : St), x_Model_isKnown_158 a1 bk10 l3 k0 σ = some (r, σ') → xFp [(51, 26)] [63, 64] (false, false, false) σ σ' := by
    intro bk10 hbk10 l3 k0 σ hE
    unfold x_Model_isKnown_158 at hE
    have hf : xFp [(51, 26)] [63, 64] (false, false, false) σ σ := xFp.rf
    obtain ⟨v159, el, hE⟩ := x_letE hE
    exact hf.tr (hbk10 _ _ _ hE)
  have jn153 : ∀ (bk10 : Int32 → Int32 → St → Option (Int32 × St)) (hbk10 : ∀ (l2 : Int32) (l3 : Int32) (σ : St), bk10 l2 l3 σ = some (r, σ') → xFp [(51, 26)] [63, 64] (false, false, false) σ σ') (l3 : Int32) (σ : St), x_Model_isKnown_153 a1 bk10 l3 σ = some (r, σ') → xFp [(51, 26)] [63, 64] (false, false, false) σ σ' := by
    intro bk10 hbk10 l3 σ hE
    unfold x_Model_isKnown_153 at hE
    have hf : xFp [(51, 26)] [63, 64] (false, false, false) σ σ := xFp.rf
    exact hf.tr (jn158 _ hbk10 _ _ _ hE)
  have jn137 : ∀ (bk10 : Int32 → Int32 → St → Option (Int32 × St)) (hbk10 : ∀ (l2 : Int32) (l3 : Int32) (σ : St), bk10 l2 l3 σ = some (r, σ') → xFp [(51, 26)] [63, 64] (false, false, false) σ σ') (l2 : Int32) (l3 : Int32) (l6 : Int32) (k0 : Int32) (σ : St), x_Model_isKnown_137 a1 bk10 l2 l3 l6 k0 σ = some (r, σ') → xFp [(51, 26)] [63, 64] (false, false, false) σ σ' := by
    intro bk10 hbk10 l2 l3 l6 k0 σ hE
    unfold x_Model_isKnown_137 at hE
    have hf : xFp [(51, 26)] [63, 64] (false, false, false) σ σ := xFp.rf
    rcases x_iteE hE with ⟨hc, hE⟩ | ⟨hc, hE⟩
    · rcases x_iteE hE with ⟨hc, hE⟩ | ⟨hc, hE⟩
      · rcases x_iteE hE with ⟨hc, hE⟩ | ⟨hc, hE⟩
        · exact hf.tr (jn158 _ hbk10 _ _ _ hE)
        · exact hf.tr (jn153 _ hbk10 _ _ hE)
      · exact hf.tr (jn153 _ hbk10 _ _ hE)
    · exact hf.tr (jn153 _ hbk10 _ _ hE)
  have jn136 : ∀ (bk10 : Int32 → Int32 → St → Option (Int32 × St)) (hbk10 : ∀ (l2 : Int32) (l3 : Int32) (σ : St), bk10 l2 l3 σ = some (r, σ') → xFp [(51, 26)] [63, 64] (false, false, false) σ σ') (l2 : Int32) (l3 : Int32) (l6 : Int32) (σ : St), x_Model_isKnown_136 a1 bk10 l2 l3 l6 σ = some (r, σ') → xFp [(51, 26)] [63, 64] (false, false, false) σ σ' := by
    intro bk10 hbk10 l2 l3 l6 σ hE
    unfold x_Model_isKnown_136 at hE
    have hf : xFp [(51, 26)] [63, 64] (false, false, false) σ σ := xFp.rf
    exact hf.tr (jn137 _ hbk10 _ _ _ _ _ hE)
  have jn60 : ∀ (bk10 : Int32 → Int32 → St → Option (Int32 × St)) (hbk10 : ∀ (l2 : Int32) (l3 : Int32) (σ : St), bk10 l2 l3 σ = some (r, σ') → xFp [(51, 26)] [63, 64] (false, false, false) σ σ') (l2 : Int32) (l3 : Int32) (l4 : Int32) (l5 : Int32) (k0 : Int32) (σ : St), x_Model_isKnown_60 a1 bk10 l2 l3 l4 l5 k0 σ = some (r, σ') → xFp [(51, 26)] [63, 64] (false, false, false) σ σ' := by
    intro bk10 hbk10 l2 l3 l4 l5 k0 σ hE
    unfold x_Model_isKnown_60 at hE
    have hf : xFp [(51, 26)] [63, 64] (false, false, false) σ σ := xFp.rf
    rcases x_iteE hE with ⟨hc, hE⟩ | ⟨hc, hE⟩
    · exact hf.tr (jn136 _ hbk10 _ _ _ _ hE)
    · obtain ⟨hg, hE⟩ := x_guard hE
      rcases x_iteE hE with ⟨hc, hE⟩ | ⟨hc, hE⟩
      · obtain ⟨hg, hE⟩ := x_guard hE
        rcases x_iteE hE with ⟨hc, hE⟩ | ⟨hc, hE⟩
        · obtain ⟨hg, hE⟩ := x_guard hE
          rcases x_iteE hE with ⟨hc, hE⟩ | ⟨hc, hE⟩
          · exact hf.tr (jn136 _ hbk10 _ _ _ _ hE)
          · obtain ⟨r120, hC, hE⟩ := x_bind hE
            obtain ⟨hg, hE⟩ := x_guard hE
            rcases x_iteE hE with ⟨hc, hE⟩ | ⟨hc, hE⟩
            · exact hf.tr (jn137 _ hbk10 _ _ _ _ _ hE)
            · exact hf.tr (jn136 _ hbk10 _ _ _ _ hE)
        · exact hf.tr (jn136 _ hbk10 _ _ _ _ hE)
      · exact hf.tr (jn136 _ hbk10 _ _ _ _ hE)
  have jn59 : ∀ (bk10 : Int32 → Int32 → St → Option (Int32 × St)) (hbk10 : ∀ (l2 : Int32) (l3 : Int32) (σ : St), bk10 l2 l3 σ = some (r, σ') → xFp [(51, 26)] [63, 64] (false, false, false) σ σ') (l2 : Int32) (l3 : Int32) (l4 : Int32) (l5 : Int32) (σ : St), x_Model_isKnown_59 a1 bk10 l2 l3 l4 l5 σ = some (r, σ') → xFp [(51, 26)] [63, 64] (false, false, false) σ σ' := by
    intro bk10 hbk10 l2 l3 l4 l5 σ hE
    unfold x_Model_isKnown_59 at hE
    have hf : xFp [(51, 26)] [63, 64] (false, false, false) σ σ := xFp.rf
    exact hf.tr (jn60 _ hbk10 _ _ _ _ _ _ hE)
  have jn10 : ∀ (n : Nat) (l2 : Int32) (l3 : Int32) (σ : St), x_Model_isKnown_10 a1 n l2 l3 σ = some (r, σ') → xFp [(51, 26)] [63, 64] (false, false, false) σ σ' := by
    intro n
    induction n with
    | zero => intro l2 l3 σ hE; rw [x_Model_isKnown_10] at hE; cases hE
    | succ n ih =>
      intro l2 l3 σ hE
      rw [x_Model_isKnown_10] at hE
      have hf : xFp [(51, 26)] [63, 64] (false, false, false) σ σ := xFp.rf
      rcases x_iteE hE with ⟨hc, hE⟩ | ⟨hc, hE⟩
      · obtain ⟨hg, hE⟩ := x_guard hE
        obtain ⟨-, e2⟩ := x_pair hE
        rw [← e2]
        exact hf
      · obtain ⟨hg, hE⟩ := x_guard hE
        obtain ⟨v24, el, hE⟩ := x_letE hE
        obtain ⟨hg, hE⟩ := x_guard hE
        obtain ⟨v32, el, hE⟩ := x_letE hE
        rcases x_iteE hE with ⟨hc, hE⟩ | ⟨hc, hE⟩
        · obtain ⟨hg, hE⟩ := x_guard hE
          rcases x_iteE hE with ⟨hc, hE⟩ | ⟨hc, hE⟩
          · exact hf.tr (jn60 _ ih _ _ _ _ _ _ hE)
          · exact hf.tr (jn59 _ ih _ _ _ _ _ hE)
        · exact hf.tr (jn59 _ ih _ _ _ _ _ hE)
  unfold x_Model_isKnown at hE
  have hf : xFp [(51, 26)] [63, 64] (false, false, false) σ σ := xFp.rf
  obtain ⟨s3, hC, hE⟩ := x_bind hE
  have hf := hf.tr ((fp_Model_list _ _ hC).sub (by simp) (by simp) (by decide))
  exact hf.tr (jn10 x_fuel _ _ _ hE)

set_option maxHeartbeats 4000000 in
set_option maxRecDepth 100000 in
theorem fp_Model_tell (a1 : Int32) (σ : St) {σ' : St} (hE : x_Model_tell a1 σ = some σ') : xFp [(51, 31), (51, 7), (51, 29), (51, 30), (51, 26)] [65, 63, 64] (false, false, false) σ σ' := by
  have jn509 : ∀ (n : Nat) (l4 : Int32) (l6 : Int32) (σ : St), x_Model_tell_509 a1 n l4 l6 σ = some σ' → xFp [(51, 31), (51, 7), (51, 29), (51, 30), (51, 26)] [65, 63, 64] (false, false, false) σ σ' := by
    intro n
    induction n with
    | zero => intro l4 l6 σ hE; rw [x_Model_tell_509] at hE; cases hE
    | succ n ih =>
      intro l4 l6 σ hE
      rw [x_Model_tell_509] at hE
      have hf : xFp [(51, 31), (51, 7), (51, 29), (51, 30), (51, 26)] [65, 63, 64] (false, false, false) σ σ := xFp.rf
      rcases x_iteE hE with ⟨hc, hE⟩ | ⟨hc, hE⟩
      · have e1 := Option.some.inj hE
        rw [← e1]
        exact hf
      · rcases x_iteE hE with ⟨hc, hE⟩ | ⟨hc, hE⟩
        · obtain ⟨hg, hE⟩ := x_guard hE
          obtain ⟨s539, hC, hE⟩ := x_bind hE
          have hf := hf.tr ((fp_Model_say _ _ hC).sub (by simp) (by simp) (by decide))
          obtain ⟨v542, el, hE⟩ := x_letE hE
          exact hf.tr (ih _ _ _ hE)
        · have e1 := Option.some.inj hE
          rw [← e1]
          exact hf
  have jn465 : ∀ (l2 : Int32) (l3 : Int32) (l4 : Int32) (l5 : Int32) (σ : St), x_Model_tell_465 a1 l2 l3 l4 l5 σ = some σ' → xFp [(51, 31), (51, 7), (51, 29), (51, 30), (51, 26)] [65, 63, 64] (false, false, false) σ σ' := by
    intro l2 l3 l4 l5 σ hE
    unfold x_Model_tell_465 at hE
    have hf : xFp [(51, 31), (51, 7), (51, 29), (51, 30), (51, 26)] [65, 63, 64] (false, false, false) σ σ := xFp.rf
    rcases x_iteE hE with ⟨hc, hE⟩ | ⟨hc, hE⟩
    · obtain ⟨s482, hC, hE⟩ := x_bind hE
      have hf := hf.tr ((fp_Model_respond _ _ _ _ _ _ _ hC).sub (by simp) (by simp) (by decide))
      have e1 := Option.some.inj hE
      rw [← e1]
      exact hf
    · obtain ⟨hg, hE⟩ := x_guard hE
      obtain ⟨s503, hC, hE⟩ := x_bind hE
      have hf := hf.tr ((fp_Model_respond _ _ _ _ _ _ _ hC).sub (by simp) (by simp) (by decide))
      exact hf.tr (jn509 x_fuel _ _ _ hE)
  have jn463 : ∀ (l2 : Int32) (l3 : Int32) (l5 : Int32) (k0 : Int32) (σ : St), x_Model_tell_463 a1 l2 l3 l5 k0 σ = some σ' → xFp [(51, 31), (51, 7), (51, 29), (51, 30), (51, 26)] [65, 63, 64] (false, false, false) σ σ' := by
    intro l2 l3 l5 k0 σ hE
    unfold x_Model_tell_463 at hE
    have hf : xFp [(51, 31), (51, 7), (51, 29), (51, 30), (51, 26)] [65, 63, 64] (false, false, false) σ σ := xFp.rf
    exact hf.tr (jn465 _ _ _ _ _ hE)
  have jn462 : ∀ (l2 : Int32) (l3 : Int32) (l5 : Int32) (σ : St), x_Model_tell_462 a1 l2 l3 l5 σ = some σ' → xFp [(51, 31), (51, 7), (51, 29), (51, 30), (51, 26)] [65, 63, 64] (false, false, false) σ σ' := by
    intro l2 l3 l5 σ hE
    unfold x_Model_tell_462 at hE
    have hf : xFp [(51, 31), (51, 7), (51, 29), (51, 30), (51, 26)] [65, 63, 64] (false, false, false) σ σ := xFp.rf
    exact hf.tr (jn463 _ _ _ _ _ hE)
  have jn436 : ∀ (l2 : Int32) (l5 : Int32) (l11 : Int32) (l12 : Int32) (l14 : Int32) (k0 : Int32) (σ : St), x_Model_tell_436 a1 l2 l5 l11 l12 l14 k0 σ = some σ' → xFp [(51, 31), (51, 7), (51, 29), (51, 30), (51, 26)] [65, 63, 64] (false, false, false) σ σ' := by
    intro l2 l5 l11 l12 l14 k0 σ hE
    unfold x_Model_tell_436 at hE
    have hf : xFp [(51, 31), (51, 7), (51, 29), (51, 30), (51, 26)] [65, 63, 64] (false, false, false) σ σ := xFp.rf
    rcases x_iteE hE with ⟨hc, hE⟩ | ⟨hc, hE⟩
    · exact hf.tr (jn462 _ _ _ _ hE)
    · rcases x_iteE hE with ⟨hc, hE⟩ | ⟨hc, hE⟩
      · exact hf.tr (jn462 _ _ _ _ hE)
      · rcases x_iteE hE with ⟨hc, hE⟩ | ⟨hc, hE⟩
        · exact hf.tr (jn462 _ _ _ _ hE)
        · exact hf.tr (jn463 _ _ _ _ _ hE)
  have jn409 : ∀ (l2 : Int32) (l11 : Int32) (l12 : Int32) (l13 : Int32) (l14 : Int32) (k0 : Int32) (σ : St), x_Model_tell_409 a1 l2 l11 l12 l13 l14 k0 σ = some σ' → xFp [(51, 31), (51, 7), (51, 29), (51, 30), (51, 26)] [65, 63, 64] (false, false, false) σ σ' := by
    intro l2 l11 l12 l13 l14 k0 σ hE
    unfold x_Model_tell_409 at hE
    have hf : xFp [(51, 31), (51, 7), (51, 29), (51, 30), (51, 26)] [65, 63, 64] (false, false, false) σ σ := xFp.rf
    rcases x_iteE hE with ⟨hc, hE⟩ | ⟨hc, hE⟩
    · rcases x_iteE hE with ⟨hc, hE⟩ | ⟨hc, hE⟩
      · exact hf.tr (jn436 _ _ _ _ _ _ _ hE)
      · exact hf.tr (jn436 _ _ _ _ _ _ _ hE)
    · exact hf.tr (jn436 _ _ _ _ _ _ _ hE)
  have jn400 : ∀ (l2 : Int32) (l11 : Int32) (l12 : Int32) (l13 : Int32) (l14 : Int32) (σ : St), x_Model_tell_400 a1 l2 l11 l12 l13 l14 σ = some σ' → xFp [(51, 31), (51, 7), (51, 29), (51, 30), (51, 26)] [65, 63, 64] (false, false, false) σ σ' := by
    intro l2 l11 l12 l13 l14 σ hE
    unfold x_Model_tell_400 at hE
    have hf : xFp [(51, 31), (51, 7), (51, 29), (51, 30), (51, 26)] [65, 63, 64] (false, false, false) σ σ := xFp.rf
    exact hf.tr (jn409 _ _ _ _ _ _ _ hE)
  have jn406 : ∀ (l2 : Int32) (l11 : Int32) (l12 : Int32) (l13 : Int32) (l14 : Int32) (σ : St), x_Model_tell_406 a1 l2 l11 l12 l13 l14 σ = some σ' → xFp [(51, 31), (51, 7), (51, 29), (51, 30), (51, 26)] [65, 63, 64] (false, false, false) σ σ' := by
    intro l2 l11 l12 l13 l14 σ hE
    unfold x_Model_tell_406 at hE
    have hf : xFp [(51, 31), (51, 7), (51, 29), (51, 30), (51, 26)] [65, 63, 64] (false, false, false) σ σ := xFp.rf
    exact hf.tr (jn409 _ _ _ _ _ _ _ hE)
  have jn378 : ∀ (l2 : Int32) (l3 : Int32) (l4 : Int32) (l5 : Int32) (l11 : Int32) (l12 : Int32) (l13 : Int32) (l14 : Int32) (k0 : Int32) (σ : St), x_Model_tell_378 a1 l2 l3 l4 l5 l11 l12 l13 l14 k0 σ = some σ' → xFp [(51, 31), (51, 7), (51, 29), (51, 30), (51, 26)] [65, 63, 64] (false, false, false) σ σ' := by
    intro l2 l3 l4 l5 l11 l12 l13 l14 k0 σ hE
    unfold x_Model_tell_378 at hE
    have hf : xFp [(51, 31), (51, 7), (51, 29), (51, 30), (51, 26)] [65, 63, 64] (false, false, false) σ σ := xFp.rf
    rcases x_iteE hE with ⟨hc, hE⟩ | ⟨hc, hE⟩
    · exact hf.tr (jn465 _ _ _ _ _ hE)
    · rcases x_iteE hE with ⟨hc, hE⟩ | ⟨hc, hE⟩
      · exact hf.tr (jn400 _ _ _ _ _ _ hE)
      · rcases x_iteE hE with ⟨hc, hE⟩ | ⟨hc, hE⟩
        · exact hf.tr (jn406 _ _ _ _ _ _ hE)
        · rcases x_iteE hE with ⟨hc, hE⟩ | ⟨hc, hE⟩
          · exact hf.tr (jn406 _ _ _ _ _ _ hE)
          · exact hf.tr (jn400 _ _ _ _ _ _ hE)
  have jn377 : ∀ (l2 : Int32) (l3 : Int32) (l4 : Int32) (l5 : Int32) (l11 : Int32) (l12 : Int32) (l13 : Int32) (l14 : Int32) (σ : St), x_Model_tell_377 a1 l2 l3 l4 l5 l11 l12 l13 l14 σ = some σ' → xFp [(51, 31), (51, 7), (51, 29), (51, 30), (51, 26)] [65, 63, 64] (false, false, false) σ σ' := by
    intro l2 l3 l4 l5 l11 l12 l13 l14 σ hE
    unfold x_Model_tell_377 at hE
    have hf : xFp [(51, 31), (51, 7), (51, 29), (51, 30), (51, 26)] [65, 63, 64] (false, false, false) σ σ := xFp.rf
    exact hf.tr (jn378 _ _ _ _ _ _ _ _ _ _ hE)
  have jn373 : ∀ (l2 : Int32) (l3 : Int32) (l4 : Int32) (l5 : Int32) (l11 : Int32) (l12 : Int32) (l13 : Int32) (l14 : Int32) (σ : St), x_Model_tell_373 a1 l2 l3 l4 l5 l11 l12 l13 l14 σ = some σ' → xFp [(51, 31), (51, 7), (51, 29), (51, 30), (51, 26)] [65, 63, 64] (false, false, false) σ σ' := by
    intro l2 l3 l4 l5 l11 l12 l13 l14 σ hE
    unfold x_Model_tell_373 at hE
    have hf : xFp [(51, 31), (51, 7), (51, 29), (51, 30), (51, 26)] [65, 63, 64] (false, false, false) σ σ := xFp.rf
    exact hf.tr (jn378 _ _ _ _ _ _ _ _ _ _ hE)
  have jn331 : ∀ (l2 : Int32) (l3 : Int32) (l4 : Int32) (l5 : Int32) (l10 : Int32) (l11 : Int32) (l12 : Int32) (l13 : Int32) (k0 : Int32) (σ : St), x_Model_tell_331 a1 l2 l3 l4 l5 l10 l11 l12 l13 k0 σ = some σ' → xFp [(51, 31), (51, 7), (51, 29), (51, 30), (51, 26)] [65, 63, 64] (false, false, false) σ σ' := by
    intro l2 l3 l4 l5 l10 l11 l12 l13 k0 σ hE
    unfold x_Model_tell_331 at hE
    have hf : xFp [(51, 31), (51, 7), (51, 29), (51, 30), (51, 26)] [65, 63, 64] (false, false, false) σ σ := xFp.rf
    rcases x_iteE hE with ⟨hc, hE⟩ | ⟨hc, hE⟩
    · exact hf.tr (jn377 _ _ _ _ _ _ _ _ _ hE)
    · rcases x_iteE hE with ⟨hc, hE⟩ | ⟨hc, hE⟩
      · exact hf.tr (jn377 _ _ _ _ _ _ _ _ _ hE)
      · rcases x_iteE hE with ⟨hc, hE⟩ | ⟨hc, hE⟩
        · exact hf.tr (jn377 _ _ _ _ _ _ _ _ _ hE)
        · rcases x_iteE hE with ⟨hc, hE⟩ | ⟨hc, hE⟩
          · rcases x_iteE hE with ⟨hc, hE⟩ | ⟨hc, hE⟩
            · exact hf.tr (jn377 _ _ _ _ _ _ _ _ _ hE)
            · exact hf.tr (jn373 _ _ _ _ _ _ _ _ _ hE)
          · rcases x_iteE hE with ⟨hc, hE⟩ | ⟨hc, hE⟩
            · exact hf.tr (jn373 _ _ _ _ _ _ _ _ _ hE)
            · rcases x_iteE hE with ⟨hc, hE⟩ | ⟨hc, hE⟩
              · exact hf.tr (jn377 _ _ _ _ _ _ _ _ _ hE)
              · exact hf.tr (jn373 _ _ _ _ _ _ _ _ _ hE)
  have jn330 : ∀ (l2 : Int32) (l3 : Int32) (l4 : Int32) (l5 : Int32) (l10 : Int32) (l11 : Int32) (l12 : Int32) (l13 : Int32) (σ : St), x_Model_tell_330 a1 l2 l3 l4 l5 l10 l11 l12 l13 σ = some σ' → xFp [(51, 31), (51, 7), (51, 29), (51, 30), (51, 26)] [65, 63, 64] (false, false, false) σ σ' := by
    intro l2 l3 l4 l5 l10 l11 l12 l13 σ hE
    unfold x_Model_tell_330 at hE
    have hf : xFp [(51, 31), (51, 7), (51, 29), (51, 30), (51, 26)] [65, 63, 64] (false, false, false) σ σ := xFp.rf
    exact hf.tr (jn331 _ _ _ _ _ _ _ _ _ _ hE)
  have jn305 : ∀ (l2 : Int32) (l3 : Int32) (l4 : Int32) (l5 : Int32) (l8 : Int32) (l9 : Int32) (l10 : Int32) (l11 : Int32) (l12 : Int32) (k0 : Int32) (σ : St), x_Model_tell_305 a1 l2 l3 l4 l5 l8 l9 l10 l11 l12 k0 σ = some σ' → xFp [(51, 31), (51, 7), (51, 29), (51, 30), (51, 26)] [65, 63, 64] (false, false, false) σ σ' := by
    intro l2 l3 l4 l5 l8 l9 l10 l11 l12 k0 σ hE
    unfold x_Model_tell_305 at hE
    have hf : xFp [(51, 31), (51, 7), (51, 29), (51, 30), (51, 26)] [65, 63, 64] (false, false, false) σ σ := xFp.rf
    rcases x_iteE hE with ⟨hc, hE⟩ | ⟨hc, hE⟩
    · exact hf.tr (jn330 _ _ _ _ _ _ _ _ _ hE)
    · rcases x_iteE hE with ⟨hc, hE⟩ | ⟨hc, hE⟩
      · exact hf.tr (jn330 _ _ _ _ _ _ _ _ _ hE)
      · obtain ⟨r324, hC, hE⟩ := x_bind hE
        exact hf.tr (jn331 _ _ _ _ _ _ _ _ _ _ hE)
  have jn304 : ∀ (l2 : Int32) (l3 : Int32) (l4 : Int32) (l5 : Int32) (l8 : Int32) (l9 : Int32) (l10 : Int32) (l11 : Int32) (l12 : Int32) (σ : St), x_Model_tell_304 a1 l2 l3 l4 l5 l8 l9 l10 l11 l12 σ = some σ' → xFp [(51, 31), (51, 7), (51, 29), (51, 30), (51, 26)] [65, 63, 64] (false, false, false) σ σ' := by
    intro l2 l3 l4 l5 l8 l9 l10 l11 l12 σ hE
    unfold x_Model_tell_304 at hE
    have hf : xFp [(51, 31), (51, 7), (51, 29), (51, 30), (51, 26)] [65, 63, 64] (false, false, false) σ σ := xFp.rf
    exact hf.tr (jn305 _ _ _ _ _ _ _ _ _ _ _ hE)
  have jn278 : ∀ (l2 : Int32) (l3 : Int32) (l4 : Int32) (l5 : Int32) (l7 : Int32) (l8 : Int32) (l9 : Int32) (l10 : Int32) (l11 : Int32) (k0 : Int32) (σ : St), x_Model_tell_278 a1 l2 l3 l4 l5 l7 l8 l9 l10 l11 k0 σ = some σ' → xFp [(51, 31), (51, 7), (51, 29), (51, 30), (51, 26)] [65, 63, 64] (false, false, false) σ σ' := by
    intro l2 l3 l4 l5 l7 l8 l9 l10 l11 k0 σ hE
    unfold x_Model_tell_278 at hE
    have hf : xFp [(51, 31), (51, 7), (51, 29), (51, 30), (51, 26)] [65, 63, 64] (false, false, false) σ σ := xFp.rf
    rcases x_iteE hE with ⟨hc, hE⟩ | ⟨hc, hE⟩
    · exact hf.tr (jn304 _ _ _ _ _ _ _ _ _ _ hE)
    · rcases x_iteE hE with ⟨hc, hE⟩ | ⟨hc, hE⟩
      · exact hf.tr (jn304 _ _ _ _ _ _ _ _ _ _ hE)
      · obtain ⟨r298, hC, hE⟩ := x_bind hE
        exact hf.tr (jn305 _ _ _ _ _ _ _ _ _ _ _ hE)
  have jn262 : ∀ (l2 : Int32) (l3 : Int32) (l4 : Int32) (l5 : Int32) (l7 : Int32) (l8 : Int32) (l9 : Int32) (l10 : Int32) (k0 : Int32) (σ : St), x_Model_tell_262 a1 l2 l3 l4 l5 l7 l8 l9 l10 k0 σ = some σ' → xFp [(51, 31), (51, 7), (51, 29), (51, 30), (51, 26)] [65, 63, 64] (false, false, false) σ σ' := by
    intro l2 l3 l4 l5 l7 l8 l9 l10 k0 σ hE
    unfold x_Model_tell_262 at hE
    have hf : xFp [(51, 31), (51, 7), (51, 29), (51, 30), (51, 26)] [65, 63, 64] (false, false, false) σ σ := xFp.rf
    rcases x_iteE hE with ⟨hc, hE⟩ | ⟨hc, hE⟩
    · exact hf.tr (jn278 _ _ _ _ _ _ _ _ _ _ _ hE)
    · exact hf.tr (jn278 _ _ _ _ _ _ _ _ _ _ _ hE)
  have jn245 : ∀ (l2 : Int32) (l3 : Int32) (l4 : Int32) (l5 : Int32) (l7 : Int32) (l8 : Int32) (l9 : Int32) (k0 : Int32) (σ : St), x_Model_tell_245 a1 l2 l3 l4 l5 l7 l8 l9 k0 σ = some σ' → xFp [(51, 31), (51, 7), (51, 29), (51, 30), (51, 26)] [65, 63, 64] (false, false, false) σ σ' := by
    intro l2 l3 l4 l5 l7 l8 l9 k0 σ hE
    unfold x_Model_tell_245 at hE
    have hf : xFp [(51, 31), (51, 7), (51, 29), (51, 30), (51, 26)] [65, 63, 64] (false, false, false) σ σ := xFp.rf
    rcases x_iteE hE with ⟨hc, hE⟩ | ⟨hc, hE⟩
    · exact hf.tr (jn262 _ _ _ _ _ _ _ _ _ _ hE)
    · exact hf.tr (jn262 _ _ _ _ _ _ _ _ _ _ hE)
  have jn244 : ∀ (l2 : Int32) (l3 : Int32) (l4 : Int32) (l5 : Int32) (l7 : Int32) (l8 : Int32) (l9 : Int32) (σ : St), x_Model_tell_244 a1 l2 l3 l4 l5 l7 l8 l9 σ = some σ' → xFp [(51, 31), (51, 7), (51, 29), (51, 30), (51, 26)] [65, 63, 64] (false, false, false) σ σ' := by
    intro l2 l3 l4 l5 l7 l8 l9 σ hE
    unfold x_Model_tell_244 at hE
    have hf : xFp [(51, 31), (51, 7), (51, 29), (51, 30), (51, 26)] [65, 63, 64] (false, false, false) σ σ := xFp.rf
    exact hf.tr (jn245 _ _ _ _ _ _ _ _ _ hE)
  have jn208 : ∀ (l2 : Int32) (l3 : Int32) (l4 : Int32) (l5 : Int32) (l7 : Int32) (l8 : Int32) (l9 : Int32) (σ : St), x_Model_tell_208 a1 l2 l3 l4 l5 l7 l8 l9 σ = some σ' → xFp [(51, 31), (51, 7), (51, 29), (51, 30), (51, 26)] [65, 63, 64] (false, false, false) σ σ' := by
    intro l2 l3 l4 l5 l7 l8 l9 σ hE
    unfold x_Model_tell_208 at hE
    have hf : xFp [(51, 31), (51, 7), (51, 29), (51, 30), (51, 26)] [65, 63, 64] (false, false, false) σ σ := xFp.rf
    rcases x_iteE hE with ⟨hc, hE⟩ | ⟨hc, hE⟩
    · exact hf.tr (jn244 _ _ _ _ _ _ _ _ hE)
    · rcases x_iteE hE with ⟨hc, hE⟩ | ⟨hc, hE⟩
      · exact hf.tr (jn244 _ _ _ _ _ _ _ _ hE)
      · obtain ⟨r234, hC, hE⟩ := x_bind hE
        rcases x_iteE hE with ⟨hc, hE⟩ | ⟨hc, hE⟩
        · exact hf.tr (jn244 _ _ _ _ _ _ _ _ hE)
        · exact hf.tr (jn245 _ _ _ _ _ _ _ _ _ hE)
  have jn183 : ∀ (n : Nat) (l2 : Int32) (l3 : Int32) (l4 : Int32) (l5 : Int32) (l7 : Int32) (l8 : Int32) (l9 : Int32) (σ : St), x_Model_tell_183 a1 n l2 l3 l4 l5 l7 l8 l9 σ = some σ' → xFp [(51, 31), (51, 7), (51, 29), (51, 30), (51, 26)] [65, 63, 64] (false, false, false) σ σ' := by
    intro n
    induction n with
    | zero => intro l2 l3 l4 l5 l7 l8 l9 σ hE; rw [x_Model_tell_183] at hE; cases hE
    | succ n ih =>
      intro l2 l3 l4 l5 l7 l8 l9 σ hE
      rw [x_Model_tell_183] at hE
      have hf : xFp [(51, 31), (51, 7), (51, 29), (51, 30), (51, 26)] [65, 63, 64] (false, false, false) σ σ := xFp.rf
      rcases x_iteE hE with ⟨hc, hE⟩ | ⟨hc, hE⟩
      · exact hf.tr (jn208 _ _ _ _ _ _ _ _ hE)
      · obtain ⟨hg, hE⟩ := x_guard hE
        rcases x_iteE hE with ⟨hc, hE⟩ | ⟨hc, hE⟩
        · exact hf.tr (jn208 _ _ _ _ _ _ _ _ hE)
        · obtain ⟨v202, el, hE⟩ := x_letE hE
          exact hf.tr (ih _ _ _ _ _ _ _ _ hE)
  have jn177 : ∀ (l2 : Int32) (l3 : Int32) (l4 : Int32) (l5 : Int32) (l7 : Int32) (k0 : Int32) (σ : St), x_Model_tell_177 a1 l2 l3 l4 l5 l7 k0 σ = some σ' → xFp [(51, 31), (51, 7), (51, 29), (51, 30), (51, 26)] [65, 63, 64] (false, false, false) σ σ' := by
    intro l2 l3 l4 l5 l7 k0 σ hE
    unfold x_Model_tell_177 at hE
    have hf : xFp [(51, 31), (51, 7), (51, 29), (51, 30), (51, 26)] [65, 63, 64] (false, false, false) σ σ := xFp.rf
    exact hf.tr (jn183 x_fuel _ _ _ _ _ _ _ _ hE)
  have jn158 : ∀ (l2 : Int32) (l3 : Int32) (l4 : Int32) (l5 : Int32) (k0 : Int32) (σ : St), x_Model_tell_158 a1 l2 l3 l4 l5 k0 σ = some σ' → xFp [(51, 31), (51, 7), (51, 29), (51, 30), (51, 26)] [65, 63, 64] (false, false, false) σ σ' := by
    intro l2 l3 l4 l5 k0 σ hE
    unfold x_Model_tell_158 at hE
    have hf : xFp [(51, 31), (51, 7), (51, 29), (51, 30), (51, 26)] [65, 63, 64] (false, false, false) σ σ := xFp.rf
    rcases x_iteE hE with ⟨hc, hE⟩ | ⟨hc, hE⟩
    · exact hf.tr (jn177 _ _ _ _ _ _ _ hE)
    · obtain ⟨hg, hE⟩ := x_guard hE
      exact hf.tr (jn177 _ _ _ _ _ _ _ hE)
  have jn87 : ∀ (n : Nat) (l2 : Int32) (l3 : Int32) (l4 : Int32) (l5 : Int32) (l6 : Int32) (σ : St), x_Model_tell_87 a1 n l2 l3 l4 l5 l6 σ = some σ' → xFp [(51, 31), (51, 7), (51, 29), (51, 30), (51, 26)] [65, 63, 64] (false, false, false) σ σ' := by
    intro n
    induction n with
    | zero => intro l2 l3 l4 l5 l6 σ hE; rw [x_Model_tell_87] at hE; cases hE
    | succ n ih =>
      intro l2 l3 l4 l5 l6 σ hE
      rw [x_Model_tell_87] at hE
      have hf : xFp [(51, 31), (51, 7), (51, 29), (51, 30), (51, 26)] [65, 63, 64] (false, false, false) σ σ := xFp.rf
      obtain ⟨r92, hC, hE⟩ := x_bind hE
      rcases x_iteE hE with ⟨hc, hE⟩ | ⟨hc, hE⟩
      · obtain ⟨v98, el, hE⟩ := x_letE hE
        exact hf.tr (ih _ _ _ _ _ _ hE)
      · obtain ⟨s106, el, hE⟩ := x_letE hE
        have hf := hf.tr (xFp.R el (by simp))
        obtain ⟨hg, hE⟩ := x_guard hE
        obtain ⟨hg, hE⟩ := x_guard hE
        obtain ⟨s138, hC, hE⟩ := x_bind hE
        have hf := hf.tr ((fp_Model_notice _ _ _ hC).sub (by simp) (by simp) (by decide))
        rcases x_iteE hE with ⟨hc, hE⟩ | ⟨hc, hE⟩
        · exact hf.tr (jn158 _ _ _ _ _ _ hE)
        · obtain ⟨hg, hE⟩ := x_guard hE
          exact hf.tr (jn158 _ _ _ _ _ _ hE)
  unfold x_Model_tell at hE
  have hf : xFp [(51, 31), (51, 7), (51, 29), (51, 30), (51, 26)] [65, 63, 64] (false, false, false) σ σ := xFp.rf
  obtain ⟨hg, hE⟩ := x_guard hE
  rcases x_iteE hE with ⟨hc, hE⟩ | ⟨hc, hE⟩
  · obtain ⟨s18, hC, hE⟩ := x_bind hE
    have hf := hf.tr ((fp_Model_respond _ _ _ _ _ _ _ hC).sub (by simp) (by simp) (by decide))
    have e1 := Option.some.inj hE
    rw [← e1]
    exact hf
  · obtain ⟨r24, s24, hC, hE⟩ := x_bind2E hE
    have hf := hf.tr ((fp_Model_isKnown _ _ hC).sub (by simp) (by simp) (by decide))
    rcases x_iteE hE with ⟨hc, hE⟩ | ⟨hc, hE⟩
    · obtain ⟨hg, hE⟩ := x_guard hE
      obtain ⟨v54, el, hE⟩ := x_letE hE
      rcases x_iteE hE with ⟨hc, hE⟩ | ⟨hc, hE⟩
      · obtain ⟨r77, hC, hE⟩ := x_bind hE
        rcases x_iteE hE with ⟨hc, hE⟩ | ⟨hc, hE⟩
        · exact hf.tr (jn87 x_fuel _ _ _ _ _ _ hE)
        · exact hf.tr (jn465 _ _ _ _ _ hE)
      · exact hf.tr (jn465 _ _ _ _ _ hE)
    · obtain ⟨hg, hE⟩ := x_guard hE
      obtain ⟨s44, hC, hE⟩ := x_bind hE
      have hf := hf.tr ((fp_Model_respond _ _ _ _ _ _ _ hC).sub (by simp) (by simp) (by decide))
      have e1 := Option.some.inj hE
      rw [← e1]
      exact hf

set_option maxHeartbeats 4000000 in
set_option maxRecDepth 100000 in
theorem fp_Model_hasStar (σ : St) {r : Int32} {σ' : St} (hE : x_Model_hasStar σ = some (r, σ')) : xFp [(51, 26)] [63, 64] (false, false, false) σ σ' := by
  have jn60 : ∀ (bk10 : Int32 → Int32 → St → Option (Int32 × St)) (hbk10 : ∀ (l1 : Int32) (l2 : Int32) (σ : St), bk10 l1 l2 σ = some (r, σ') → xFp [(51, 26)] [63, 64] (false, false, false) σ σ') (l2 : Int32) (k0 : Int32) (σ : St), x_Model_hasStar_60 bk10 l2 k0 σ = some (r, σ') → xFp [(51, 26)] [63, 64] (false, false, false) σ σ' := by
    intro bk10 hbk10 l2 k0 σ hE
    unfold x_Model_hasStar_60 at hE
    have hf : xFp [(51, 26)] [63, 64] (false, false, false) σ σ := xFp.rf
    obtain ⟨v61, el, hE⟩ := x_letE hE
    exact hf.tr (hbk10 _ _ _ hE)
  have jn55 : ∀ (bk10 : Int32 → Int32 → St → Option (Int32 × St)) (hbk10 : ∀ (l1 : Int32) (l2 : Int32) (σ : St), bk10 l1 l2 σ = some (r, σ') → xFp [(51, 26)] [63, 64] (false, false, false) σ σ') (l2 : Int32) (σ : St), x_Model_hasStar_55 bk10 l2 σ = some (r, σ') → xFp [(51, 26)] [63, 64] (false, false, false) σ σ' := by
    intro bk10 hbk10 l2 σ hE
    unfold x_Model_hasStar_55 at hE
    have hf : xFp [(51, 26)] [63, 64] (false, false, false) σ σ := xFp.rf
    exact hf.tr (jn60 _ hbk10 _ _ _ hE)
  have jn59 : ∀ (bk10 : Int32 → Int32 → St → Option (Int32 × St)) (hbk10 : ∀ (l1 : Int32) (l2 : Int32) (σ : St), bk10 l1 l2 σ = some (r, σ') → xFp [(51, 26)] [63, 64] (false, false, false) σ σ') (l2 : Int32) (σ : St), x_Model_hasStar_59 bk10 l2 σ = some (r, σ') → xFp [(51, 26)] [63, 64] (false, false, false) σ σ' := by
    intro bk10 hbk10 l2 σ hE
    unfold x_Model_hasStar_59 at hE
    have hf : xFp [(51, 26)] [63, 64] (false, false, false) σ σ := xFp.rf
    exact hf.tr (jn60 _ hbk10 _ _ _ hE)
  have jn10 : ∀ (n : Nat) (l1 : Int32) (l2 : Int32) (σ : St), x_Model_hasStar_10 n l1 l2 σ = some (r, σ') → xFp [(51, 26)] [63, 64] (false, false, false) σ σ' := by
    intro n
    induction n with
    | zero => intro l1 l2 σ hE; rw [x_Model_hasStar_10] at hE; cases hE
    | succ n ih =>
      intro l1 l2 σ hE
      rw [x_Model_hasStar_10] at hE
      have hf : xFp [(51, 26)] [63, 64] (false, false, false) σ σ := xFp.rf
      rcases x_iteE hE with ⟨hc, hE⟩ | ⟨hc, hE⟩
      · obtain ⟨hg, hE⟩ := x_guard hE
        obtain ⟨-, e2⟩ := x_pair hE
        rw [← e2]
        exact hf
      · rcases x_iteE hE with ⟨hc, hE⟩ | ⟨hc, hE⟩
        · obtain ⟨hg, hE⟩ := x_guard hE
          obtain ⟨hg, hE⟩ := x_guard hE
          rcases x_iteE hE with ⟨hc, hE⟩ | ⟨hc, hE⟩
          · obtain ⟨hg, hE⟩ := x_guard hE
            obtain ⟨hg, hE⟩ := x_guard hE
            rcases x_iteE hE with ⟨hc, hE⟩ | ⟨hc, hE⟩
            · exact hf.tr (jn55 _ ih _ _ hE)
            · exact hf.tr (jn59 _ ih _ _ hE)
          · exact hf.tr (jn59 _ ih _ _ hE)
        · exact hf.tr (jn55 _ ih _ _ hE)
  unfold x_Model_hasStar at hE
  have hf : xFp [(51, 26)] [63, 64] (false, false, false) σ σ := xFp.rf
  obtain ⟨s3, hC, hE⟩ := x_bind hE
  have hf := hf.tr ((fp_Model_list _ _ hC).sub (by simp) (by simp) (by decide))
  exact hf.tr (jn10 x_fuel _ _ _ hE)

set_option maxHeartbeats 4000000 in
set_option maxRecDepth 100000 in
theorem fp_Model_change (a1 : Int32) (σ : St) {σ' : St} (hE : x_Model_change a1 σ = some σ') : xFp [(51, 31), (51, 7), (51, 29), (51, 30), (51, 6), (51, 26)] [65, 53, 54, 55, 56, 63, 64] (false, false, false) σ σ' := by
  have jn224 : ∀ (l3 : Int32) (σ : St), x_Model_change_224 a1 l3 σ = some σ' → xFp [(51, 31), (51, 7), (51, 29), (51, 30), (51, 6), (51, 26)] [65, 53, 54, 55, 56, 63, 64] (false, false, false) σ σ' := by
    intro l3 σ hE
    unfold x_Model_change_224 at hE
    have hf : xFp [(51, 31), (51, 7), (51, 29), (51, 30), (51, 6), (51, 26)] [65, 53, 54, 55, 56, 63, 64] (false, false, false) σ σ := xFp.rf
    obtain ⟨s231, hC, hE⟩ := x_bind hE
    have hf := hf.tr ((fp_Model_respond _ _ _ _ _ _ _ hC).sub (by simp) (by simp) (by decide))
    have e1 := Option.some.inj hE
    rw [← e1]
    exact hf
  have jn203 : ∀ (l3 : Int32) (k0 : Int32) (k1 : Int32) (σ : St), x_Model_change_203 a1 l3 k0 k1 σ = some σ' → xFp [(51, 31), (51, 7), (51, 29), (51, 30), (51, 6), (51, 26)] [65, 53, 54, 55, 56, 63, 64] (false, false, false) σ σ' := by
    intro l3 k0 k1 σ hE
    unfold x_Model_change_203 at hE
    have hf : xFp [(51, 31), (51, 7), (51, 29), (51, 30), (51, 6), (51, 26)] [65, 53, 54, 55, 56, 63, 64] (false, false, false) σ σ := xFp.rf
    obtain ⟨hg, hE⟩ := x_guard hE
    obtain ⟨s203, el, hE⟩ := x_letE hE
    have hf := hf.tr (xFp.M el (by simp))
    obtain ⟨s211, el, hE⟩ := x_letE hE
    have hf := hf.tr (xFp.R el (by simp))
    obtain ⟨hg, hE⟩ := x_guard hE
    obtain ⟨s223, el, hE⟩ := x_letE hE
    have hf := hf.tr (xFp.M el (by simp))
    exact hf.tr (jn224 _ _ hE)
  have jn132 : ∀ (n : Nat) (l3 : Int32) (l4 : Int32) (l5 : Int32) (σ : St), x_Model_change_132 a1 n l3 l4 l5 σ = some σ' → xFp [(51, 31), (51, 7), (51, 29), (51, 30), (51, 6), (51, 26)] [65, 53, 54, 55, 56, 63, 64] (false, false, false) σ σ' := by
    intro n
    induction n with
    | zero => intro l3 l4 l5 σ hE; rw [x_Model_change_132] at hE; cases hE
    | succ n ih =>
      intro l3 l4 l5 σ hE
      rw [x_Model_change_132] at hE
      have hf : xFp [(51, 31), (51, 7), (51, 29), (51, 30), (51, 6), (51, 26)] [65, 53, 54, 55, 56, 63, 64] (false, false, false) σ σ := xFp.rf
      rcases x_iteE hE with ⟨hc, hE⟩ | ⟨hc, hE⟩
      · obtain ⟨hg, hE⟩ := x_guard hE
        obtain ⟨s182, el, hE⟩ := x_letE hE
        have hf := hf.tr (xFp.M el (by simp))
        rcases x_iteE hE with ⟨hc, hE⟩ | ⟨hc, hE⟩
        · exact hf.tr (jn203 _ _ _ _ hE)
        · exact hf.tr (jn203 _ _ _ _ hE)
      · obtain ⟨hg, hE⟩ := x_guard hE
        obtain ⟨hg, hE⟩ := x_guard hE
        obtain ⟨s163, el, hE⟩ := x_letE hE
        have hf := hf.tr (xFp.M el (by simp))
        obtain ⟨v164, el, hE⟩ := x_letE hE
        exact hf.tr (ih _ _ _ _ hE)
  have jn127 : ∀ (l3 : Int32) (k0 : Int32) (σ : St), x_Model_change_127 a1 l3 k0 σ = some σ' → xFp [(51, 31), (51, 7), (51, 29), (51, 30), (51, 6), (51, 26)] [65, 53, 54, 55, 56, 63, 64] (false, false, false) σ σ' := by
    intro l3 k0 σ hE
    unfold x_Model_change_127 at hE
    have hf : xFp [(51, 31), (51, 7), (51, 29), (51, 30), (51, 6), (51, 26)] [65, 53, 54, 55, 56, 63, 64] (false, false, false) σ σ := xFp.rf
    exact hf.tr (jn132 x_fuel _ _ _ _ hE)
  have jn100 : ∀ (l3 : Int32) (σ : St), x_Model_change_100 a1 l3 σ = some σ' → xFp [(51, 31), (51, 7), (51, 29), (51, 30), (51, 6), (51, 26)] [65, 53, 54, 55, 56, 63, 64] (false, false, false) σ σ' := by
    intro l3 σ hE
    unfold x_Model_change_100 at hE
    have hf : xFp [(51, 31), (51, 7), (51, 29), (51, 30), (51, 6), (51, 26)] [65, 53, 54, 55, 56, 63, 64] (false, false, false) σ σ := xFp.rf
    rcases x_iteE hE with ⟨hc, hE⟩ | ⟨hc, hE⟩
    · exact hf.tr (jn224 _ _ hE)
    · rcases x_iteE hE with ⟨hc, hE⟩ | ⟨hc, hE⟩
      · obtain ⟨hg, hE⟩ := x_guard hE
        exact hf.tr (jn127 _ _ _ hE)
      · exact hf.tr (jn127 _ _ _ hE)
  have jn99 : ∀ (k0 : Int32) (σ : St), x_Model_change_99 a1 k0 σ = some σ' → xFp [(51, 31), (51, 7), (51, 29), (51, 30), (51, 6), (51, 26)] [65, 53, 54, 55, 56, 63, 64] (false, false, false) σ σ' := by
    intro k0 σ hE
    unfold x_Model_change_99 at hE
    have hf : xFp [(51, 31), (51, 7), (51, 29), (51, 30), (51, 6), (51, 26)] [65, 53, 54, 55, 56, 63, 64] (false, false, false) σ σ := xFp.rf
    exact hf.tr (jn100 _ _ hE)
  have jn96 : ∀ (σ : St), x_Model_change_96 a1 σ = some σ' → xFp [(51, 31), (51, 7), (51, 29), (51, 30), (51, 6), (51, 26)] [65, 53, 54, 55, 56, 63, 64] (false, false, false) σ σ' := by
    intro σ hE
    unfold x_Model_change_96 at hE
    have hf : xFp [(51, 31), (51, 7), (51, 29), (51, 30), (51, 6), (51, 26)] [65, 53, 54, 55, 56, 63, 64] (false, false, false) σ σ := xFp.rf
    exact hf.tr (jn99 _ _ hE)
  have jn49 : ∀ (k0 : Int32) (σ : St), x_Model_change_49 a1 k0 σ = some σ' → xFp [(51, 31), (51, 7), (51, 29), (51, 30), (51, 6), (51, 26)] [65, 53, 54, 55, 56, 63, 64] (false, false, false) σ σ' := by
    intro k0 σ hE
    unfold x_Model_change_49 at hE
    have hf : xFp [(51, 31), (51, 7), (51, 29), (51, 30), (51, 6), (51, 26)] [65, 53, 54, 55, 56, 63, 64] (false, false, false) σ σ := xFp.rf
    exact hf.tr (jn100 _ _ hE)
  have jn48 : ∀ (l3 : Int32) (σ : St), x_Model_change_48 a1 l3 σ = some σ' → xFp [(51, 31), (51, 7), (51, 29), (51, 30), (51, 6), (51, 26)] [65, 53, 54, 55, 56, 63, 64] (false, false, false) σ σ' := by
    intro l3 σ hE
    unfold x_Model_change_48 at hE
    have hf : xFp [(51, 31), (51, 7), (51, 29), (51, 30), (51, 6), (51, 26)] [65, 53, 54, 55, 56, 63, 64] (false, false, false) σ σ := xFp.rf
    exact hf.tr (jn49 _ _ hE)
  have jn20 : ∀ (l2 : Int32) (k0 : Int32) (σ : St), x_Model_change_20 a1 l2 k0 σ = some σ' → xFp [(51, 31), (51, 7), (51, 29), (51, 30), (51, 6), (51, 26)] [65, 53, 54, 55, 56, 63, 64] (false, false, false) σ σ' := by
    intro l2 k0 σ hE
    unfold x_Model_change_20 at hE
    have hf : xFp [(51, 31), (51, 7), (51, 29), (51, 30), (51, 6), (51, 26)] [65, 53, 54, 55, 56, 63, 64] (false, false, false) σ σ := xFp.rf
    rcases x_iteE hE with ⟨hc, hE⟩ | ⟨hc, hE⟩
    · rcases x_iteE hE with ⟨hc, hE⟩ | ⟨hc, hE⟩
      · exact hf.tr (jn48 _ _ hE)
      · obtain ⟨r36, s36, hC, hE⟩ := x_bind2E hE
        have hf := hf.tr ((fp_Model_hasStar _ hC).sub (by simp) (by simp) (by decide))
        rcases x_iteE hE with ⟨hc, hE⟩ | ⟨hc, hE⟩
        · exact hf.tr (jn48 _ _ hE)
        · exact hf.tr (jn49 _ _ hE)
    · rcases x_iteE hE with ⟨hc, hE⟩ | ⟨hc, hE⟩
      · exact hf.tr (jn99 _ _ hE)
      · rcases x_iteE hE with ⟨hc, hE⟩ | ⟨hc, hE⟩
        · obtain ⟨hg, hE⟩ := x_guard hE
          rcases x_iteE hE with ⟨hc, hE⟩ | ⟨hc, hE⟩
          · exact hf.tr (jn96 _ hE)
          · exact hf.tr (jn99 _ _ hE)
        · exact hf.tr (jn96 _ hE)
  unfold x_Model_change at hE
  have hf : xFp [(51, 31), (51, 7), (51, 29), (51, 30), (51, 6), (51, 26)] [65, 53, 54, 55, 56, 63, 64] (false, false, false) σ σ := xFp.rf
  obtain ⟨hg, hE⟩ := x_guard hE
  obtain ⟨v6, el, hE⟩ := x_letE hE
  rcases x_iteE hE with ⟨hc, hE⟩ | ⟨hc, hE⟩
  · exact hf.tr (jn20 _ _ _ hE)
  · exact hf.tr (jn20 _ _ _ hE)

set_option maxHeartbeats 4000000 in
set_option maxRecDepth 100000 in
theorem fp_Model_answer (σ : St) {σ' : St} (hE : x_Model_answer σ = some σ') : xFp [(51, 31), (51, 7), (51, 29), (51, 30), (51, 6), (51, 26), (51, 8)] [65, 53, 54, 55, 56, 63, 64] (false, false, false) σ σ' := by
  have jn101 : ∀ (l1 : Int32) (l2 : Int32) (σ : St), x_Model_answer_101 l1 l2 σ = some σ' → xFp [(51, 31), (51, 7), (51, 29), (51, 30), (51, 6), (51, 26), (51, 8)] [65, 53, 54, 55, 56, 63, 64] (false, false, false) σ σ' := by
    intro l1 l2 σ hE
    unfold x_Model_answer_101 at hE
    have hf : xFp [(51, 31), (51, 7), (51, 29), (51, 30), (51, 6), (51, 26), (51, 8)] [65, 53, 54, 55, 56, 63, 64] (false, false, false) σ σ := xFp.rf
    rcases x_iteE hE with ⟨hc, hE⟩ | ⟨hc, hE⟩
    · rcases x_iteE hE with ⟨hc, hE⟩ | ⟨hc, hE⟩
      · obtain ⟨s134, hC, hE⟩ := x_bind hE
        have hf := hf.tr ((fp_Model_change _ _ hC).sub (by simp) (by simp) (by decide))
        have e1 := Option.some.inj hE
        rw [← e1]
        exact hf
      · obtain ⟨s126, hC, hE⟩ := x_bind hE
        have hf := hf.tr ((fp_Model_tell _ _ hC).sub (by simp) (by simp) (by decide))
        have e1 := Option.some.inj hE
        rw [← e1]
        exact hf
    · obtain ⟨s114, hC, hE⟩ := x_bind hE
      have hf := hf.tr ((fp_Model_respond _ _ _ _ _ _ _ hC).sub (by simp) (by simp) (by decide))
      have e1 := Option.some.inj hE
      rw [← e1]
      exact hf
  have jn33 : ∀ (l1 : Int32) (k0 : Int32) (σ : St), x_Model_answer_33 l1 k0 σ = some σ' → xFp [(51, 31), (51, 7), (51, 29), (51, 30), (51, 6), (51, 26), (51, 8)] [65, 53, 54, 55, 56, 63, 64] (false, false, false) σ σ' := by
    intro l1 k0 σ hE
    unfold x_Model_answer_33 at hE
    have hf : xFp [(51, 31), (51, 7), (51, 29), (51, 30), (51, 6), (51, 26), (51, 8)] [65, 53, 54, 55, 56, 63, 64] (false, false, false) σ σ := xFp.rf
    rcases x_iteE hE with ⟨hc, hE⟩ | ⟨hc, hE⟩
    · obtain ⟨s53, hC, hE⟩ := x_bind hE
      have hf := hf.tr ((fp_Model_respond _ _ _ _ _ _ _ hC).sub (by simp) (by simp) (by decide))
      have e1 := Option.some.inj hE
      rw [← e1]
      exact hf
    · rcases x_iteE hE with ⟨hc, hE⟩ | ⟨hc, hE⟩
      · obtain ⟨s78, hC, hE⟩ := x_bind hE
        have hf := hf.tr ((fp_Model_respond _ _ _ _ _ _ _ hC).sub (by simp) (by simp) (by decide))
        have e1 := Option.some.inj hE
        rw [← e1]
        exact hf
      · rcases x_iteE hE with ⟨hc, hE⟩ | ⟨hc, hE⟩
        · rcases x_iteE hE with ⟨hc, hE⟩ | ⟨hc, hE⟩
          · exact hf.tr (jn101 _ _ _ hE)
          · obtain ⟨s95, hC, hE⟩ := x_bind hE
            have hf := hf.tr ((fp_Model_tellSite _ hC).sub (by simp) (by simp) (by decide))
            have e1 := Option.some.inj hE
            rw [← e1]
            exact hf
        · exact hf.tr (jn101 _ _ _ hE)
  have jn28 : ∀ (l1 : Int32) (σ : St), x_Model_answer_28 l1 σ = some σ' → xFp [(51, 31), (51, 7), (51, 29), (51, 30), (51, 6), (51, 26), (51, 8)] [65, 53, 54, 55, 56, 63, 64] (false, false, false) σ σ' := by
    intro l1 σ hE
    unfold x_Model_answer_28 at hE
    have hf : xFp [(51, 31), (51, 7), (51, 29), (51, 30), (51, 6), (51, 26), (51, 8)] [65, 53, 54, 55, 56, 63, 64] (false, false, false) σ σ := xFp.rf
    exact hf.tr (jn33 _ _ _ hE)
  unfold x_Model_answer at hE
  have hf : xFp [(51, 31), (51, 7), (51, 29), (51, 30), (51, 6), (51, 26), (51, 8)] [65, 53, 54, 55, 56, 63, 64] (false, false, false) σ σ := xFp.rf
  obtain ⟨s2, el, hE⟩ := x_letE hE
  have hf := hf.tr (xFp.R el (by simp))
  obtain ⟨r6, hC, hE⟩ := x_bind hE
  rcases x_iteE hE with ⟨hc, hE⟩ | ⟨hc, hE⟩
  · exact hf.tr (jn28 _ _ hE)
  · rcases x_iteE hE with ⟨hc, hE⟩ | ⟨hc, hE⟩
    · exact hf.tr (jn28 _ _ hE)
    · exact hf.tr (jn33 _ _ _ hE)

set_option maxHeartbeats 4000000 in
set_option maxRecDepth 100000 in
theorem fp_Model_endHead (σ : St) {σ' : St} (hE : x_Model_endHead σ = some σ') : xFp [(51, 8), (51, 31), (51, 7), (51, 29), (51, 30), (51, 6), (51, 26), (51, 24), (51, 16), (51, 25), (51, 21)] [65, 53, 54, 55, 56, 63, 64] (false, false, false) σ σ' := by
  have jn226 : ∀ (l1 : Int32) (k0 : Int32) (σ : St), x_Model_endHead_226 l1 k0 σ = some σ' → xFp [(51, 8), (51, 31), (51, 7), (51, 29), (51, 30), (51, 6), (51, 26), (51, 24), (51, 16), (51, 25), (51, 21)] [65, 53, 54, 55, 56, 63, 64] (false, false, false) σ σ' := by
    intro l1 k0 σ hE
    unfold x_Model_endHead_226 at hE
    have hf : xFp [(51, 8), (51, 31), (51, 7), (51, 29), (51, 30), (51, 6), (51, 26), (51, 24), (51, 16), (51, 25), (51, 21)] [65, 53, 54, 55, 56, 63, 64] (false, false, false) σ σ := xFp.rf
    obtain ⟨s226, el, hE⟩ := x_letE hE
    have hf := hf.tr (xFp.R el (by simp))
    rcases x_iteE hE with ⟨hc, hE⟩ | ⟨hc, hE⟩
    · rcases x_iteE hE with ⟨hc, hE⟩ | ⟨hc, hE⟩
      · obtain ⟨s241, hC, hE⟩ := x_bind hE
        have hf := hf.tr ((fp_Model_answer _ hC).sub (by simp) (by simp) (by decide))
        have e1 := Option.some.inj hE
        rw [← e1]
        exact hf
      · have e1 := Option.some.inj hE
        rw [← e1]
        exact hf
    · have e1 := Option.some.inj hE
      rw [← e1]
      exact hf
  have jn211 : ∀ (l1 : Int32) (σ : St), x_Model_endHead_211 l1 σ = some σ' → xFp [(51, 8), (51, 31), (51, 7), (51, 29), (51, 30), (51, 6), (51, 26), (51, 24), (51, 16), (51, 25), (51, 21)] [65, 53, 54, 55, 56, 63, 64] (false, false, false) σ σ' := by
    intro l1 σ hE
    unfold x_Model_endHead_211 at hE
    have hf : xFp [(51, 8), (51, 31), (51, 7), (51, 29), (51, 30), (51, 6), (51, 26), (51, 24), (51, 16), (51, 25), (51, 21)] [65, 53, 54, 55, 56, 63, 64] (false, false, false) σ σ := xFp.rf
    obtain ⟨s213, el, hE⟩ := x_letE hE
    have hf := hf.tr (xFp.R el (by simp))
    rcases x_iteE hE with ⟨hc, hE⟩ | ⟨hc, hE⟩
    · exact hf.tr (jn226 _ _ _ hE)
    · exact hf.tr (jn226 _ _ _ hE)
  have jn193 : ∀ (l1 : Int32) (σ : St), x_Model_endHead_193 l1 σ = some σ' → xFp [(51, 8), (51, 31), (51, 7), (51, 29), (51, 30), (51, 6), (51, 26), (51, 24), (51, 16), (51, 25), (51, 21)] [65, 53, 54, 55, 56, 63, 64] (false, false, false) σ σ' := by
    intro l1 σ hE
    unfold x_Model_endHead_193 at hE
    have hf : xFp [(51, 8), (51, 31), (51, 7), (51, 29), (51, 30), (51, 6), (51, 26), (51, 24), (51, 16), (51, 25), (51, 21)] [65, 53, 54, 55, 56, 63, 64] (false, false, false) σ σ := xFp.rf
    obtain ⟨s196, hC, hE⟩ := x_bind hE
    have hf := hf.tr ((fp_Model_sayStatus _ _ hC).sub (by simp) (by simp) (by decide))
    obtain ⟨s202, hC, hE⟩ := x_bind hE
    have hf := hf.tr ((fp_Model_say _ _ hC).sub (by simp) (by simp) (by decide))
    obtain ⟨s208, hC, hE⟩ := x_bind hE
    have hf := hf.tr ((fp_Model_say _ _ hC).sub (by simp) (by simp) (by decide))
    exact hf.tr (jn211 _ _ hE)
  have jn175 : ∀ (l1 : Int32) (l2 : Int32) (k0 : Int32) (σ : St), x_Model_endHead_175 l1 l2 k0 σ = some σ' → xFp [(51, 8), (51, 31), (51, 7), (51, 29), (51, 30), (51, 6), (51, 26), (51, 24), (51, 16), (51, 25), (51, 21)] [65, 53, 54, 55, 56, 63, 64] (false, false, false) σ σ' := by
    intro l1 l2 k0 σ hE
    unfold x_Model_endHead_175 at hE
    have hf : xFp [(51, 8), (51, 31), (51, 7), (51, 29), (51, 30), (51, 6), (51, 26), (51, 24), (51, 16), (51, 25), (51, 21)] [65, 53, 54, 55, 56, 63, 64] (false, false, false) σ σ := xFp.rf
    obtain ⟨hg, hE⟩ := x_guard hE
    obtain ⟨s175, el, hE⟩ := x_letE hE
    have hf := hf.tr (xFp.R el (by simp))
    rcases x_iteE hE with ⟨hc, hE⟩ | ⟨hc, hE⟩
    · exact hf.tr (jn211 _ _ hE)
    · rcases x_iteE hE with ⟨hc, hE⟩ | ⟨hc, hE⟩
      · rcases x_iteE hE with ⟨hc, hE⟩ | ⟨hc, hE⟩
        · exact hf.tr (jn211 _ _ hE)
        · exact hf.tr (jn193 _ _ hE)
      · exact hf.tr (jn193 _ _ hE)
  have jn170 : ∀ (l1 : Int32) (l2 : Int32) (σ : St), x_Model_endHead_170 l1 l2 σ = some σ' → xFp [(51, 8), (51, 31), (51, 7), (51, 29), (51, 30), (51, 6), (51, 26), (51, 24), (51, 16), (51, 25), (51, 21)] [65, 53, 54, 55, 56, 63, 64] (false, false, false) σ σ' := by
    intro l1 l2 σ hE
    unfold x_Model_endHead_170 at hE
    have hf : xFp [(51, 8), (51, 31), (51, 7), (51, 29), (51, 30), (51, 6), (51, 26), (51, 24), (51, 16), (51, 25), (51, 21)] [65, 53, 54, 55, 56, 63, 64] (false, false, false) σ σ := xFp.rf
    exact hf.tr (jn175 _ _ _ _ hE)
  have jn174 : ∀ (l1 : Int32) (l2 : Int32) (σ : St), x_Model_endHead_174 l1 l2 σ = some σ' → xFp [(51, 8), (51, 31), (51, 7), (51, 29), (51, 30), (51, 6), (51, 26), (51, 24), (51, 16), (51, 25), (51, 21)] [65, 53, 54, 55, 56, 63, 64] (false, false, false) σ σ' := by
    intro l1 l2 σ hE
    unfold x_Model_endHead_174 at hE
    have hf : xFp [(51, 8), (51, 31), (51, 7), (51, 29), (51, 30), (51, 6), (51, 26), (51, 24), (51, 16), (51, 25), (51, 21)] [65, 53, 54, 55, 56, 63, 64] (false, false, false) σ σ := xFp.rf
    exact hf.tr (jn175 _ _ _ _ hE)
  have jn124 : ∀ (l1 : Int32) (l2 : Int32) (σ : St), x_Model_endHead_124 l1 l2 σ = some σ' → xFp [(51, 8), (51, 31), (51, 7), (51, 29), (51, 30), (51, 6), (51, 26), (51, 24), (51, 16), (51, 25), (51, 21)] [65, 53, 54, 55, 56, 63, 64] (false, false, false) σ σ' := by
    intro l1 l2 σ hE
    unfold x_Model_endHead_124 at hE
    have hf : xFp [(51, 8), (51, 31), (51, 7), (51, 29), (51, 30), (51, 6), (51, 26), (51, 24), (51, 16), (51, 25), (51, 21)] [65, 53, 54, 55, 56, 63, 64] (false, false, false) σ σ := xFp.rf
    rcases x_iteE hE with ⟨hc, hE⟩ | ⟨hc, hE⟩
    · obtain ⟨r138, s138, hC, hE⟩ := x_bind2E hE
      have hf := hf.tr ((fp_Model_has _ _ _ hC).sub (by simp) (by simp) (by decide))
      obtain ⟨hg, hE⟩ := x_guard hE
      obtain ⟨s141, el, hE⟩ := x_letE hE
      have hf := hf.tr (xFp.R el (by simp))
      rcases x_iteE hE with ⟨hc, hE⟩ | ⟨hc, hE⟩
      · rcases x_iteE hE with ⟨hc, hE⟩ | ⟨hc, hE⟩
        · obtain ⟨r164, s164, hC, hE⟩ := x_bind2E hE
          have hf := hf.tr ((fp_Model_has _ _ _ hC).sub (by simp) (by simp) (by decide))
          rcases x_iteE hE with ⟨hc, hE⟩ | ⟨hc, hE⟩
          · exact hf.tr (jn170 _ _ _ hE)
          · exact hf.tr (jn174 _ _ _ hE)
        · exact hf.tr (jn174 _ _ _ hE)
      · exact hf.tr (jn170 _ _ _ hE)
    · have e1 := Option.some.inj hE
      rw [← e1]
      exact hf
  have jn78 : ∀ (n : Nat) (l1 : Int32) (l2 : Int32) (l3 : Int32) (σ : St), x_Model_endHead_78 n l1 l2 l3 σ = some σ' → xFp [(51, 8), (51, 31), (51, 7), (51, 29), (51, 30), (51, 6), (51, 26), (51, 24), (51, 16), (51, 25), (51, 21)] [65, 53, 54, 55, 56, 63, 64] (false, false, false) σ σ' := by
    intro n
    induction n with
    | zero => intro l1 l2 l3 σ hE; rw [x_Model_endHead_78] at hE; cases hE
    | succ n ih =>
      intro l1 l2 l3 σ hE
      rw [x_Model_endHead_78] at hE
      have hf : xFp [(51, 8), (51, 31), (51, 7), (51, 29), (51, 30), (51, 6), (51, 26), (51, 24), (51, 16), (51, 25), (51, 21)] [65, 53, 54, 55, 56, 63, 64] (false, false, false) σ σ := xFp.rf
      rcases x_iteE hE with ⟨hc, hE⟩ | ⟨hc, hE⟩
      · exact hf.tr (jn124 _ _ _ hE)
      · rcases x_iteE hE with ⟨hc, hE⟩ | ⟨hc, hE⟩
        · exact hf.tr (jn124 _ _ _ hE)
        · obtain ⟨hg, hE⟩ := x_guard hE
          obtain ⟨hg, hE⟩ := x_guard hE
          obtain ⟨r109, hC, hE⟩ := x_bind hE
          obtain ⟨s115, hC, hE⟩ := x_bind hE
          have hf := hf.tr ((fp_Model_blame _ _ _ hC).sub (by simp) (by simp) (by decide))
          obtain ⟨v118, el, hE⟩ := x_letE hE
          exact hf.tr (ih _ _ _ _ hE)
  have jn75 : ∀ (l1 : Int32) (k0 : Int32) (σ : St), x_Model_endHead_75 l1 k0 σ = some σ' → xFp [(51, 8), (51, 31), (51, 7), (51, 29), (51, 30), (51, 6), (51, 26), (51, 24), (51, 16), (51, 25), (51, 21)] [65, 53, 54, 55, 56, 63, 64] (false, false, false) σ σ' := by
    intro l1 k0 σ hE
    unfold x_Model_endHead_75 at hE
    have hf : xFp [(51, 8), (51, 31), (51, 7), (51, 29), (51, 30), (51, 6), (51, 26), (51, 24), (51, 16), (51, 25), (51, 21)] [65, 53, 54, 55, 56, 63, 64] (false, false, false) σ σ := xFp.rf
    exact hf.tr (jn78 x_fuel _ _ _ _ hE)
  have jn74 : ∀ (l1 : Int32) (σ : St), x_Model_endHead_74 l1 σ = some σ' → xFp [(51, 8), (51, 31), (51, 7), (51, 29), (51, 30), (51, 6), (51, 26), (51, 24), (51, 16), (51, 25), (51, 21)] [65, 53, 54, 55, 56, 63, 64] (false, false, false) σ σ' := by
    intro l1 σ hE
    unfold x_Model_endHead_74 at hE
    have hf : xFp [(51, 8), (51, 31), (51, 7), (51, 29), (51, 30), (51, 6), (51, 26), (51, 24), (51, 16), (51, 25), (51, 21)] [65, 53, 54, 55, 56, 63, 64] (false, false, false) σ σ := xFp.rf
    exact hf.tr (jn75 _ _ _ hE)
  have jn50 : ∀ (l1 : Int32) (σ : St), x_Model_endHead_50 l1 σ = some σ' → xFp [(51, 8), (51, 31), (51, 7), (51, 29), (51, 30), (51, 6), (51, 26), (51, 24), (51, 16), (51, 25), (51, 21)] [65, 53, 54, 55, 56, 63, 64] (false, false, false) σ σ' := by
    intro l1 σ hE
    unfold x_Model_endHead_50 at hE
    have hf : xFp [(51, 8), (51, 31), (51, 7), (51, 29), (51, 30), (51, 6), (51, 26), (51, 24), (51, 16), (51, 25), (51, 21)] [65, 53, 54, 55, 56, 63, 64] (false, false, false) σ σ := xFp.rf
    obtain ⟨s53, hC, hE⟩ := x_bind hE
    have hf := hf.tr ((fp_Model_list _ _ hC).sub (by simp) (by simp) (by decide))
    rcases x_iteE hE with ⟨hc, hE⟩ | ⟨hc, hE⟩
    · exact hf.tr (jn74 _ _ hE)
    · rcases x_iteE hE with ⟨hc, hE⟩ | ⟨hc, hE⟩
      · exact hf.tr (jn74 _ _ hE)
      · exact hf.tr (jn75 _ _ _ hE)
  have jn25 : ∀ (k0 : Int32) (σ : St), x_Model_endHead_25 k0 σ = some σ' → xFp [(51, 8), (51, 31), (51, 7), (51, 29), (51, 30), (51, 6), (51, 26), (51, 24), (51, 16), (51, 25), (51, 21)] [65, 53, 54, 55, 56, 63, 64] (false, false, false) σ σ' := by
    intro k0 σ hE
    unfold x_Model_endHead_25 at hE
    have hf : xFp [(51, 8), (51, 31), (51, 7), (51, 29), (51, 30), (51, 6), (51, 26), (51, 24), (51, 16), (51, 25), (51, 21)] [65, 53, 54, 55, 56, 63, 64] (false, false, false) σ σ := xFp.rf
    rcases x_iteE hE with ⟨hc, hE⟩ | ⟨hc, hE⟩
    · obtain ⟨r40, hC, hE⟩ := x_bind hE
      rcases x_iteE hE with ⟨hc, hE⟩ | ⟨hc, hE⟩
      · exact hf.tr (jn50 _ _ hE)
      · obtain ⟨s47, hC, hE⟩ := x_bind hE
        have hf := hf.tr ((fp_Model_checkLength _ hC).sub (by simp) (by simp) (by decide))
        exact hf.tr (jn50 _ _ hE)
    · obtain ⟨s31, hC, hE⟩ := x_bind hE
      have hf := hf.tr ((fp_Model_checkCoding _ hC).sub (by simp) (by simp) (by decide))
      exact hf.tr (jn50 _ _ hE)
  unfold x_Model_endHead at hE
  have hf : xFp [(51, 8), (51, 31), (51, 7), (51, 29), (51, 30), (51, 6), (51, 26), (51, 24), (51, 16), (51, 25), (51, 21)] [65, 53, 54, 55, 56, 63, 64] (false, false, false) σ σ := xFp.rf
  obtain ⟨s1, hC, hE⟩ := x_bind hE
  have hf := hf.tr ((fp_Model_checkHost _ hC).sub (by simp) (by simp) (by decide))
  rcases x_iteE hE with ⟨hc, hE⟩ | ⟨hc, hE⟩
  · obtain ⟨r14, hC, hE⟩ := x_bind hE
    rcases x_iteE hE with ⟨hc, hE⟩ | ⟨hc, hE⟩
    · exact hf.tr (jn25 _ _ hE)
    · exact hf.tr (jn25 _ _ hE)
  · have e1 := Option.some.inj hE
    rw [← e1]
    exact hf

set_option maxHeartbeats 4000000 in
set_option maxRecDepth 100000 in
theorem fp_Model_takeChunkLine (σ : St) {σ' : St} (hE : x_Model_takeChunkLine σ = some σ') : xFp [(51, 25), (51, 21), (51, 8)] [] (false, false, false) σ σ' := by
  have jn137 : ∀ (l2 : Int32) (k0 : Int32) (σ : St), x_Model_takeChunkLine_137 l2 k0 σ = some σ' → xFp [(51, 25), (51, 21), (51, 8)] [] (false, false, false) σ σ' := by
    intro l2 k0 σ hE
    unfold x_Model_takeChunkLine_137 at hE
    have hf : xFp [(51, 25), (51, 21), (51, 8)] [] (false, false, false) σ σ := xFp.rf
    obtain ⟨s140, hC, hE⟩ := x_bind hE
    have hf := hf.tr ((fp_Model_blame _ _ _ hC).sub (by simp) (by simp) (by decide))
    obtain ⟨s145, el, hE⟩ := x_letE hE
    have hf := hf.tr (xFp.R el (by simp))
    rcases x_iteE hE with ⟨hc, hE⟩ | ⟨hc, hE⟩
    · obtain ⟨s158, el, hE⟩ := x_letE hE
      have hf := hf.tr (xFp.R el (by simp))
      have e1 := Option.some.inj hE
      rw [← e1]
      exact hf
    · obtain ⟨s158, el, hE⟩ := x_letE hE
      have hf := hf.tr (xFp.R el (by simp))
      have e1 := Option.some.inj hE
      rw [← e1]
      exact hf
  have jn112 : ∀ (bk33 : Int32 → Int32 → Int32 → St → Option St) (hbk33 : ∀ (l1 : Int32) (l2 : Int32) (l3 : Int32) (σ : St), bk33 l1 l2 l3 σ = some σ' → xFp [(51, 25), (51, 21), (51, 8)] [] (false, false, false) σ σ') (l1 : Int32) (l3 : Int32) (k0 : Int32) (σ : St), x_Model_takeChunkLine_112 bk33 l1 l3 k0 σ = some σ' → xFp [(51, 25), (51, 21), (51, 8)] [] (false, false, false) σ σ' := by
    intro bk33 hbk33 l1 l3 k0 σ hE
    unfold x_Model_takeChunkLine_112 at hE
    have hf : xFp [(51, 25), (51, 21), (51, 8)] [] (false, false, false) σ σ := xFp.rf
    obtain ⟨v113, el, hE⟩ := x_letE hE
    exact hf.tr (hbk33 _ _ _ _ hE)
  have jn111 : ∀ (bk33 : Int32 → Int32 → Int32 → St → Option St) (hbk33 : ∀ (l1 : Int32) (l2 : Int32) (l3 : Int32) (σ : St), bk33 l1 l2 l3 σ = some σ' → xFp [(51, 25), (51, 21), (51, 8)] [] (false, false, false) σ σ') (l1 : Int32) (l2 : Int32) (l3 : Int32) (σ : St), x_Model_takeChunkLine_111 bk33 l1 l2 l3 σ = some σ' → xFp [(51, 25), (51, 21), (51, 8)] [] (false, false, false) σ σ' := by
    intro bk33 hbk33 l1 l2 l3 σ hE
    unfold x_Model_takeChunkLine_111 at hE
    have hf : xFp [(51, 25), (51, 21), (51, 8)] [] (false, false, false) σ σ := xFp.rf
    exact hf.tr (jn112 _ hbk33 _ _ _ _ hE)
  have jn76 : ∀ (bk33 : Int32 → Int32 → Int32 → St → Option St) (hbk33 : ∀ (l1 : Int32) (l2 : Int32) (l3 : Int32) (σ : St), bk33 l1 l2 l3 σ = some σ' → xFp [(51, 25), (51, 21), (51, 8)] [] (false, false, false) σ σ') (l1 : Int32) (l2 : Int32) (l3 : Int32) (k0 : Int32) (σ : St), x_Model_takeChunkLine_76 bk33 l1 l2 l3 k0 σ = some σ' → xFp [(51, 25), (51, 21), (51, 8)] [] (false, false, false) σ σ' := by
    intro bk33 hbk33 l1 l2 l3 k0 σ hE
    unfold x_Model_takeChunkLine_76 at hE
    have hf : xFp [(51, 25), (51, 21), (51, 8)] [] (false, false, false) σ σ := xFp.rf
    obtain ⟨s79, hC, hE⟩ := x_bind hE
    have hf := hf.tr ((fp_Model_blame _ _ _ hC).sub (by simp) (by simp) (by decide))
    rcases x_iteE hE with ⟨hc, hE⟩ | ⟨hc, hE⟩
    · exact hf.tr (jn111 _ hbk33 _ _ _ _ hE)
    · rcases x_iteE hE with ⟨hc, hE⟩ | ⟨hc, hE⟩
      · obtain ⟨hg, hE⟩ := x_guard hE
        obtain ⟨r104, hC, hE⟩ := x_bind hE
        exact hf.tr (jn112 _ hbk33 _ _ _ _ hE)
      · exact hf.tr (jn111 _ hbk33 _ _ _ _ hE)
  have jn33 : ∀ (n : Nat) (l1 : Int32) (l2 : Int32) (l3 : Int32) (σ : St), x_Model_takeChunkLine_33 n l1 l2 l3 σ = some σ' → xFp [(51, 25), (51, 21), (51, 8)] [] (false, false, false) σ σ' := by
    intro n
    induction n with
    | zero => intro l1 l2 l3 σ hE; rw [x_Model_takeChunkLine_33] at hE; cases hE
    | succ n ih =>
      intro l1 l2 l3 σ hE
      rw [x_Model_takeChunkLine_33] at hE
      have hf : xFp [(51, 25), (51, 21), (51, 8)] [] (false, false, false) σ σ := xFp.rf
      rcases x_iteE hE with ⟨hc, hE⟩ | ⟨hc, hE⟩
      · rcases x_iteE hE with ⟨hc, hE⟩ | ⟨hc, hE⟩
        · exact hf.tr (jn137 _ _ _ hE)
        · exact hf.tr (jn137 _ _ _ hE)
      · rcases x_iteE hE with ⟨hc, hE⟩ | ⟨hc, hE⟩
        · obtain ⟨hg, hE⟩ := x_guard hE
          obtain ⟨r73, hC, hE⟩ := x_bind hE
          exact hf.tr (jn76 _ ih _ _ _ _ _ hE)
        · obtain ⟨hg, hE⟩ := x_guard hE
          obtain ⟨r53, hC, hE⟩ := x_bind hE
          rcases x_iteE hE with ⟨hc, hE⟩ | ⟨hc, hE⟩
          · exact hf.tr (jn76 _ ih _ _ _ _ _ hE)
          · exact hf.tr (jn76 _ ih _ _ _ _ _ hE)
  have jn23 : ∀ (l1 : Int32) (k0 : Int32) (σ : St), x_Model_takeChunkLine_23 l1 k0 σ = some σ' → xFp [(51, 25), (51, 21), (51, 8)] [] (false, false, false) σ σ' := by
    intro l1 k0 σ hE
    unfold x_Model_takeChunkLine_23 at hE
    have hf : xFp [(51, 25), (51, 21), (51, 8)] [] (false, false, false) σ σ := xFp.rf
    obtain ⟨s26, hC, hE⟩ := x_bind hE
    have hf := hf.tr ((fp_Model_blame _ _ _ hC).sub (by simp) (by simp) (by decide))
    exact hf.tr (jn33 x_fuel _ _ _ _ hE)
  have jn22 : ∀ (l1 : Int32) (σ : St), x_Model_takeChunkLine_22 l1 σ = some σ' → xFp [(51, 25), (51, 21), (51, 8)] [] (false, false, false) σ σ' := by
    intro l1 σ hE
    unfold x_Model_takeChunkLine_22 at hE
    have hf : xFp [(51, 25), (51, 21), (51, 8)] [] (false, false, false) σ σ := xFp.rf
    exact hf.tr (jn23 _ _ _ hE)
  unfold x_Model_takeChunkLine at hE
  have hf : xFp [(51, 25), (51, 21), (51, 8)] [] (false, false, false) σ σ := xFp.rf
  obtain ⟨r4, hC, hE⟩ := x_bind hE
  rcases x_iteE hE with ⟨hc, hE⟩ | ⟨hc, hE⟩
  · exact hf.tr (jn22 _ _ hE)
  · rcases x_iteE hE with ⟨hc, hE⟩ | ⟨hc, hE⟩
    · exact hf.tr (jn22 _ _ hE)
    · exact hf.tr (jn23 _ _ _ hE)

set_option maxHeartbeats 4000000 in
set_option maxRecDepth 100000 in
theorem fp_Model_takeLine (σ : St) {σ' : St} (hE : x_Model_takeLine σ = some σ') : xFp [(51, 8), (51, 25), (51, 12), (51, 15), (51, 13), (51, 17), (51, 16), (51, 21), (51, 22), (51, 31), (51, 7), (51, 29), (51, 30), (51, 6), (51, 26), (51, 24)] [58, 65, 53, 54, 55, 56, 63, 64, 59, 60, 61] (false, false, false) σ σ' := by
  unfold x_Model_takeLine at hE
  have hf : xFp [(51, 8), (51, 25), (51, 12), (51, 15), (51, 13), (51, 17), (51, 16), (51, 21), (51, 22), (51, 31), (51, 7), (51, 29), (51, 30), (51, 6), (51, 26), (51, 24)] [58, 65, 53, 54, 55, 56, 63, 64, 59, 60, 61] (false, false, false) σ σ := xFp.rf
  rcases x_iteE hE with ⟨hc, hE⟩ | ⟨hc, hE⟩
  · rcases x_iteE hE with ⟨hc, hE⟩ | ⟨hc, hE⟩
    · have e1 := Option.some.inj hE
      rw [← e1]
      exact hf
    · obtain ⟨s15, hC, hE⟩ := x_bind hE
      have hf := hf.tr ((fp_Model_takeRequestLine _ hC).sub (by simp) (by simp) (by decide))
      have e1 := Option.some.inj hE
      rw [← e1]
      exact hf
  · rcases x_iteE hE with ⟨hc, hE⟩ | ⟨hc, hE⟩
    · obtain ⟨s30, hC, hE⟩ := x_bind hE
      have hf := hf.tr ((fp_Model_takeChunkLine _ hC).sub (by simp) (by simp) (by decide))
      have e1 := Option.some.inj hE
      rw [← e1]
      exact hf
    · rcases x_iteE hE with ⟨hc, hE⟩ | ⟨hc, hE⟩
      · rcases x_iteE hE with ⟨hc, hE⟩ | ⟨hc, hE⟩
        · obtain ⟨s52, hC, hE⟩ := x_bind hE
          have hf := hf.tr ((fp_Model_endHead _ hC).sub (by simp) (by simp) (by decide))
          have e1 := Option.some.inj hE
          rw [← e1]
          exact hf
        · obtain ⟨s59, hC, hE⟩ := x_bind hE
          have hf := hf.tr ((fp_Model_answer _ hC).sub (by simp) (by simp) (by decide))
          have e1 := Option.some.inj hE
          rw [← e1]
          exact hf
      · obtain ⟨s66, hC, hE⟩ := x_bind hE
        have hf := hf.tr ((fp_Model_takeField _ hC).sub (by simp) (by simp) (by decide))
        have e1 := Option.some.inj hE
        rw [← e1]
        exact hf

set_option maxHeartbeats 4000000 in
set_option maxRecDepth 100000 in
theorem fp_Model_take (a1 : Int32) (σ : St) {σ' : St} (hE : x_Model_take a1 σ = some σ') : xFp [(51, 22), (51, 21), (51, 31), (51, 7), (51, 29), (51, 30), (51, 6), (51, 26), (51, 8), (51, 25), (51, 10), (51, 9), (51, 12), (51, 15), (51, 13), (51, 17), (51, 16), (51, 24)] [62, 65, 53, 54, 55, 56, 63, 64, 57, 58, 59, 60, 61] (false, false, false) σ σ' := by
  have jn23 : ∀ (σ : St), x_Model_take_23 a1 σ = some σ' → xFp [(51, 22), (51, 21), (51, 31), (51, 7), (51, 29), (51, 30), (51, 6), (51, 26), (51, 8), (51, 25), (51, 10), (51, 9), (51, 12), (51, 15), (51, 13), (51, 17), (51, 16), (51, 24)] [62, 65, 53, 54, 55, 56, 63, 64, 57, 58, 59, 60, 61] (false, false, false) σ σ' := by
    intro σ hE
    unfold x_Model_take_23 at hE
    have hf : xFp [(51, 22), (51, 21), (51, 31), (51, 7), (51, 29), (51, 30), (51, 6), (51, 26), (51, 8), (51, 25), (51, 10), (51, 9), (51, 12), (51, 15), (51, 13), (51, 17), (51, 16), (51, 24)] [62, 65, 53, 54, 55, 56, 63, 64, 57, 58, 59, 60, 61] (false, false, false) σ σ := xFp.rf
    obtain ⟨hg, hE⟩ := x_guard hE
    obtain ⟨s32, el, hE⟩ := x_letE hE
    have hf := hf.tr (xFp.M el (by simp))
    obtain ⟨s40, el, hE⟩ := x_letE hE
    have hf := hf.tr (xFp.R el (by simp))
    obtain ⟨s50, el, hE⟩ := x_letE hE
    have hf := hf.tr (xFp.R el (by simp))
    rcases x_iteE hE with ⟨hc, hE⟩ | ⟨hc, hE⟩
    · rcases x_iteE hE with ⟨hc, hE⟩ | ⟨hc, hE⟩
      · obtain ⟨s69, hC, hE⟩ := x_bind hE
        have hf := hf.tr ((fp_Model_answer _ hC).sub (by simp) (by simp) (by decide))
        have e1 := Option.some.inj hE
        rw [← e1]
        exact hf
      · have e1 := Option.some.inj hE
        rw [← e1]
        exact hf
    · have e1 := Option.some.inj hE
      rw [← e1]
      exact hf
  have jn274 : ∀ (k0 : Int32) (k1 : Int32) (σ : St), x_Model_take_274 a1 k0 k1 σ = some σ' → xFp [(51, 22), (51, 21), (51, 31), (51, 7), (51, 29), (51, 30), (51, 6), (51, 26), (51, 8), (51, 25), (51, 10), (51, 9), (51, 12), (51, 15), (51, 13), (51, 17), (51, 16), (51, 24)] [62, 65, 53, 54, 55, 56, 63, 64, 57, 58, 59, 60, 61] (false, false, false) σ σ' := by
    intro k0 k1 σ hE
    unfold x_Model_take_274 at hE
    have hf : xFp [(51, 22), (51, 21), (51, 31), (51, 7), (51, 29), (51, 30), (51, 6), (51, 26), (51, 8), (51, 25), (51, 10), (51, 9), (51, 12), (51, 15), (51, 13), (51, 17), (51, 16), (51, 24)] [62, 65, 53, 54, 55, 56, 63, 64, 57, 58, 59, 60, 61] (false, false, false) σ σ := xFp.rf
    obtain ⟨s274, hC, hE⟩ := x_bind hE
    have hf := hf.tr ((fp_Model_blame _ _ _ hC).sub (by simp) (by simp) (by decide))
    rcases x_iteE hE with ⟨hc, hE⟩ | ⟨hc, hE⟩
    · obtain ⟨hg, hE⟩ := x_guard hE
      obtain ⟨s293, el, hE⟩ := x_letE hE
      have hf := hf.tr (xFp.M el (by simp))
      obtain ⟨s301, el, hE⟩ := x_letE hE
      have hf := hf.tr (xFp.R el (by simp))
      have e1 := Option.some.inj hE
      rw [← e1]
      exact hf
    · have e1 := Option.some.inj hE
      rw [← e1]
      exact hf
  have jn244 : ∀ (k0 : Int32) (σ : St), x_Model_take_244 a1 k0 σ = some σ' → xFp [(51, 22), (51, 21), (51, 31), (51, 7), (51, 29), (51, 30), (51, 6), (51, 26), (51, 8), (51, 25), (51, 10), (51, 9), (51, 12), (51, 15), (51, 13), (51, 17), (51, 16), (51, 24)] [62, 65, 53, 54, 55, 56, 63, 64, 57, 58, 59, 60, 61] (false, false, false) σ σ' := by
    intro k0 σ hE
    unfold x_Model_take_244 at hE
    have hf : xFp [(51, 22), (51, 21), (51, 31), (51, 7), (51, 29), (51, 30), (51, 6), (51, 26), (51, 8), (51, 25), (51, 10), (51, 9), (51, 12), (51, 15), (51, 13), (51, 17), (51, 16), (51, 24)] [62, 65, 53, 54, 55, 56, 63, 64, 57, 58, 59, 60, 61] (false, false, false) σ σ := xFp.rf
    rcases x_iteE hE with ⟨hc, hE⟩ | ⟨hc, hE⟩
    · exact hf.tr (jn274 _ _ _ hE)
    · rcases x_iteE hE with ⟨hc, hE⟩ | ⟨hc, hE⟩
      · exact hf.tr (jn274 _ _ _ hE)
      · exact hf.tr (jn274 _ _ _ hE)
  have jn223 : ∀ (k0 : Int32) (σ : St), x_Model_take_223 a1 k0 σ = some σ' → xFp [(51, 22), (51, 21), (51, 31), (51, 7), (51, 29), (51, 30), (51, 6), (51, 26), (51, 8), (51, 25), (51, 10), (51, 9), (51, 12), (51, 15), (51, 13), (51, 17), (51, 16), (51, 24)] [62, 65, 53, 54, 55, 56, 63, 64, 57, 58, 59, 60, 61] (false, false, false) σ σ' := by
    intro k0 σ hE
    unfold x_Model_take_223 at hE
    have hf : xFp [(51, 22), (51, 21), (51, 31), (51, 7), (51, 29), (51, 30), (51, 6), (51, 26), (51, 8), (51, 25), (51, 10), (51, 9), (51, 12), (51, 15), (51, 13), (51, 17), (51, 16), (51, 24)] [62, 65, 53, 54, 55, 56, 63, 64, 57, 58, 59, 60, 61] (false, false, false) σ σ := xFp.rf
    obtain ⟨s226, hC, hE⟩ := x_bind hE
    have hf := hf.tr ((fp_Model_blame _ _ _ hC).sub (by simp) (by simp) (by decide))
    rcases x_iteE hE with ⟨hc, hE⟩ | ⟨hc, hE⟩
    · exact hf.tr (jn244 _ _ hE)
    · exact hf.tr (jn244 _ _ hE)
  have jn167 : ∀ (k0 : Int32) (σ : St), x_Model_take_167 a1 k0 σ = some σ' → xFp [(51, 22), (51, 21), (51, 31), (51, 7), (51, 29), (51, 30), (51, 6), (51, 26), (51, 8), (51, 25), (51, 10), (51, 9), (51, 12), (51, 15), (51, 13), (51, 17), (51, 16), (51, 24)] [62, 65, 53, 54, 55, 56, 63, 64, 57, 58, 59, 60, 61] (false, false, false) σ σ' := by
    intro k0 σ hE
    unfold x_Model_take_167 at hE
    have hf : xFp [(51, 22), (51, 21), (51, 31), (51, 7), (51, 29), (51, 30), (51, 6), (51, 26), (51, 8), (51, 25), (51, 10), (51, 9), (51, 12), (51, 15), (51, 13), (51, 17), (51, 16), (51, 24)] [62, 65, 53, 54, 55, 56, 63, 64, 57, 58, 59, 60, 61] (false, false, false) σ σ := xFp.rf
    obtain ⟨s170, hC, hE⟩ := x_bind hE
    have hf := hf.tr ((fp_Model_blame _ _ _ hC).sub (by simp) (by simp) (by decide))
    obtain ⟨s175, el, hE⟩ := x_letE hE
    have hf := hf.tr (xFp.R el (by simp))
    rcases x_iteE hE with ⟨hc, hE⟩ | ⟨hc, hE⟩
    · obtain ⟨s186, hC, hE⟩ := x_bind hE
      have hf := hf.tr ((fp_Model_takeLine _ hC).sub (by simp) (by simp) (by decide))
      obtain ⟨s191, el, hE⟩ := x_letE hE
      have hf := hf.tr (xFp.R el (by simp))
      have e1 := Option.some.inj hE
      rw [← e1]
      exact hf
    · have e1 := Option.some.inj hE
      rw [← e1]
      exact hf
  have jn126 : ∀ (k0 : Int32) (σ : St), x_Model_take_126 a1 k0 σ = some σ' → xFp [(51, 22), (51, 21), (51, 31), (51, 7), (51, 29), (51, 30), (51, 6), (51, 26), (51, 8), (51, 25), (51, 10), (51, 9), (51, 12), (51, 15), (51, 13), (51, 17), (51, 16), (51, 24)] [62, 65, 53, 54, 55, 56, 63, 64, 57, 58, 59, 60, 61] (false, false, false) σ σ' := by
    intro k0 σ hE
    unfold x_Model_take_126 at hE
    have hf : xFp [(51, 22), (51, 21), (51, 31), (51, 7), (51, 29), (51, 30), (51, 6), (51, 26), (51, 8), (51, 25), (51, 10), (51, 9), (51, 12), (51, 15), (51, 13), (51, 17), (51, 16), (51, 24)] [62, 65, 53, 54, 55, 56, 63, 64, 57, 58, 59, 60, 61] (false, false, false) σ σ := xFp.rf
    obtain ⟨s126, el, hE⟩ := x_letE hE
    have hf := hf.tr (xFp.R el (by simp))
    rcases x_iteE hE with ⟨hc, hE⟩ | ⟨hc, hE⟩
    · obtain ⟨s142, el, hE⟩ := x_letE hE
      have hf := hf.tr (xFp.R el (by simp))
      have e1 := Option.some.inj hE
      rw [← e1]
      exact hf
    · obtain ⟨s142, el, hE⟩ := x_letE hE
      have hf := hf.tr (xFp.R el (by simp))
      have e1 := Option.some.inj hE
      rw [← e1]
      exact hf
  have jn107 : ∀ (k0 : Int32) (σ : St), x_Model_take_107 a1 k0 σ = some σ' → xFp [(51, 22), (51, 21), (51, 31), (51, 7), (51, 29), (51, 30), (51, 6), (51, 26), (51, 8), (51, 25), (51, 10), (51, 9), (51, 12), (51, 15), (51, 13), (51, 17), (51, 16), (51, 24)] [62, 65, 53, 54, 55, 56, 63, 64, 57, 58, 59, 60, 61] (false, false, false) σ σ' := by
    intro k0 σ hE
    unfold x_Model_take_107 at hE
    have hf : xFp [(51, 22), (51, 21), (51, 31), (51, 7), (51, 29), (51, 30), (51, 6), (51, 26), (51, 8), (51, 25), (51, 10), (51, 9), (51, 12), (51, 15), (51, 13), (51, 17), (51, 16), (51, 24)] [62, 65, 53, 54, 55, 56, 63, 64, 57, 58, 59, 60, 61] (false, false, false) σ σ := xFp.rf
    obtain ⟨s110, hC, hE⟩ := x_bind hE
    have hf := hf.tr ((fp_Model_blame _ _ _ hC).sub (by simp) (by simp) (by decide))
    rcases x_iteE hE with ⟨hc, hE⟩ | ⟨hc, hE⟩
    · exact hf.tr (jn126 _ _ hE)
    · exact hf.tr (jn126 _ _ hE)
  have jn99 : ∀ (k0 : Int32) (k1 : Int32) (σ : St), x_Model_take_99 a1 k0 k1 σ = some σ' → xFp [(51, 22), (51, 21), (51, 31), (51, 7), (51, 29), (51, 30), (51, 6), (51, 26), (51, 8), (51, 25), (51, 10), (51, 9), (51, 12), (51, 15), (51, 13), (51, 17), (51, 16), (51, 24)] [62, 65, 53, 54, 55, 56, 63, 64, 57, 58, 59, 60, 61] (false, false, false) σ σ' := by
    intro k0 k1 σ hE
    unfold x_Model_take_99 at hE
    have hf : xFp [(51, 22), (51, 21), (51, 31), (51, 7), (51, 29), (51, 30), (51, 6), (51, 26), (51, 8), (51, 25), (51, 10), (51, 9), (51, 12), (51, 15), (51, 13), (51, 17), (51, 16), (51, 24)] [62, 65, 53, 54, 55, 56, 63, 64, 57, 58, 59, 60, 61] (false, false, false) σ σ := xFp.rf
    rcases x_iteE hE with ⟨hc, hE⟩ | ⟨hc, hE⟩
    · exact hf.tr (jn107 _ _ hE)
    · exact hf.tr (jn107 _ _ hE)
  have jn75 : ∀ (σ : St), x_Model_take_75 a1 σ = some σ' → xFp [(51, 22), (51, 21), (51, 31), (51, 7), (51, 29), (51, 30), (51, 6), (51, 26), (51, 8), (51, 25), (51, 10), (51, 9), (51, 12), (51, 15), (51, 13), (51, 17), (51, 16), (51, 24)] [62, 65, 53, 54, 55, 56, 63, 64, 57, 58, 59, 60, 61] (false, false, false) σ σ' := by
    intro σ hE
    unfold x_Model_take_75 at hE
    have hf : xFp [(51, 22), (51, 21), (51, 31), (51, 7), (51, 29), (51, 30), (51, 6), (51, 26), (51, 8), (51, 25), (51, 10), (51, 9), (51, 12), (51, 15), (51, 13), (51, 17), (51, 16), (51, 24)] [62, 65, 53, 54, 55, 56, 63, 64, 57, 58, 59, 60, 61] (false, false, false) σ σ := xFp.rf
    rcases x_iteE hE with ⟨hc, hE⟩ | ⟨hc, hE⟩
    · rcases x_iteE hE with ⟨hc, hE⟩ | ⟨hc, hE⟩
      · exact hf.tr (jn99 _ _ _ hE)
      · exact hf.tr (jn99 _ _ _ hE)
    · rcases x_iteE hE with ⟨hc, hE⟩ | ⟨hc, hE⟩
      · rcases x_iteE hE with ⟨hc, hE⟩ | ⟨hc, hE⟩
        · obtain ⟨s205, el, hE⟩ := x_letE hE
          have hf := hf.tr (xFp.R el (by simp))
          have e1 := Option.some.inj hE
          rw [← e1]
          exact hf
        · rcases x_iteE hE with ⟨hc, hE⟩ | ⟨hc, hE⟩
          · exact hf.tr (jn223 _ _ hE)
          · exact hf.tr (jn223 _ _ hE)
      · rcases x_iteE hE with ⟨hc, hE⟩ | ⟨hc, hE⟩
        · exact hf.tr (jn167 _ _ hE)
        · exact hf.tr (jn167 _ _ hE)
  unfold x_Model_take at hE
  have hf : xFp [(51, 22), (51, 21), (51, 31), (51, 7), (51, 29), (51, 30), (51, 6), (51, 26), (51, 8), (51, 25), (51, 10), (51, 9), (51, 12), (51, 15), (51, 13), (51, 17), (51, 16), (51, 24)] [62, 65, 53, 54, 55, 56, 63, 64, 57, 58, 59, 60, 61] (false, false, false) σ σ := xFp.rf
  rcases x_iteE hE with ⟨hc, hE⟩ | ⟨hc, hE⟩
  · exact hf.tr (jn23 _ hE)
  · rcases x_iteE hE with ⟨hc, hE⟩ | ⟨hc, hE⟩
    · rcases x_iteE hE with ⟨hc, hE⟩ | ⟨hc, hE⟩
      · exact hf.tr (jn75 _ hE)
      · exact hf.tr (jn23 _ hE)
    · exact hf.tr (jn75 _ hE)

set_option maxHeartbeats 4000000 in
set_option maxRecDepth 100000 in
theorem fp_Model_feed (j1 : Int64) (a2 : Int32) (σ : St) {r : Int32} {σ' : St} (hE : x_Model_feed j1 a2 σ = some (r, σ')) : xFp [(51, 22), (51, 21), (51, 31), (51, 7), (51, 29), (51, 30), (51, 6), (51, 26), (51, 8), (51, 25), (51, 10), (51, 9), (51, 12), (51, 15), (51, 13), (51, 17), (51, 16), (51, 24), (51, 1)] [62, 65, 53, 54, 55, 56, 63, 64, 57, 58, 59, 60, 61] (false, false, false) σ σ' := by
  have jn96 : ∀ (bk37 : Int32 → Int32 → St → Option (Int32 × St)) (hbk37 : ∀ (l4 : Int32) (l5 : Int32) (σ : St), bk37 l4 l5 σ = some (r, σ') → xFp [(51, 22), (51, 21), (51, 31), (51, 7), (51, 29), (51, 30), (51, 6), (51, 26), (51, 8), (51, 25), (51, 10), (51, 9), (51, 12), (51, 15), (51, 13), (51, 17), (51, 16), (51, 24), (51, 1)] [62, 65, 53, 54, 55, 56, 63, 64, 57, 58, 59, 60, 61] (false, false, false) σ σ') (l4 : Int32) (l5 : Int32) (σ : St), x_Model_feed_96 j1 a2 bk37 l4 l5 σ = some (r, σ') → xFp [(51, 22), (51, 21), (51, 31), (51, 7), (51, 29), (51, 30), (51, 6), (51, 26), (51, 8), (51, 25), (51, 10), (51, 9), (51, 12), (51, 15), (51, 13), (51, 17), (51, 16), (51, 24), (51, 1)] [62, 65, 53, 54, 55, 56, 63, 64, 57, 58, 59, 60, 61] (false, false, false) σ σ' := by
    intro bk37 hbk37 l4 l5 σ hE
    unfold x_Model_feed_96 at hE
    have hf : xFp [(51, 22), (51, 21), (51, 31), (51, 7), (51, 29), (51, 30), (51, 6), (51, 26), (51, 8), (51, 25), (51, 10), (51, 9), (51, 12), (51, 15), (51, 13), (51, 17), (51, 16), (51, 24), (51, 1)] [62, 65, 53, 54, 55, 56, 63, 64, 57, 58, 59, 60, 61] (false, false, false) σ σ := xFp.rf
    obtain ⟨v96, el, hE⟩ := x_letE hE
    exact hf.tr (hbk37 _ _ _ hE)
  have jn37 : ∀ (n : Nat) (l4 : Int32) (l5 : Int32) (σ : St), x_Model_feed_37 j1 a2 n l4 l5 σ = some (r, σ') → xFp [(51, 22), (51, 21), (51, 31), (51, 7), (51, 29), (51, 30), (51, 6), (51, 26), (51, 8), (51, 25), (51, 10), (51, 9), (51, 12), (51, 15), (51, 13), (51, 17), (51, 16), (51, 24), (51, 1)] [62, 65, 53, 54, 55, 56, 63, 64, 57, 58, 59, 60, 61] (false, false, false) σ σ' := by
    intro n
    induction n with
    | zero => intro l4 l5 σ hE; rw [x_Model_feed_37] at hE; cases hE
    | succ n ih =>
      intro l4 l5 σ hE
      rw [x_Model_feed_37] at hE
      have hf : xFp [(51, 22), (51, 21), (51, 31), (51, 7), (51, 29), (51, 30), (51, 6), (51, 26), (51, 8), (51, 25), (51, 10), (51, 9), (51, 12), (51, 15), (51, 13), (51, 17), (51, 16), (51, 24), (51, 1)] [62, 65, 53, 54, 55, 56, 63, 64, 57, 58, 59, 60, 61] (false, false, false) σ σ := xFp.rf
      rcases x_iteE hE with ⟨hc, hE⟩ | ⟨hc, hE⟩
      · obtain ⟨-, e2⟩ := x_pair hE
        rw [← e2]
        exact hf
      · rcases x_iteE hE with ⟨hc, hE⟩ | ⟨hc, hE⟩
        · exact hf.tr (jn96 _ ih _ _ _ hE)
        · obtain ⟨s63, hC, hE⟩ := x_bind hE
          have hf := hf.tr ((fp_Model_take _ _ hC).sub (by simp) (by simp) (by decide))
          rcases x_iteE hE with ⟨hc, hE⟩ | ⟨hc, hE⟩
          · exact hf.tr (jn96 _ ih _ _ _ hE)
          · obtain ⟨s75, el, hE⟩ := x_letE hE
            have hf := hf.tr (xFp.R el (by simp))
            obtain ⟨s88, hC, hE⟩ := x_bind hE
            have hf := hf.tr ((fp_Model_respond _ _ _ _ _ _ _ hC).sub (by simp) (by simp) (by decide))
            obtain ⟨s93, el, hE⟩ := x_letE hE
            have hf := hf.tr (xFp.R el (by simp))
            exact hf.tr (jn96 _ ih _ _ _ hE)
  have jn16 : ∀ (k0 : Int32) (σ : St), x_Model_feed_16 j1 a2 k0 σ = some (r, σ') → xFp [(51, 22), (51, 21), (51, 31), (51, 7), (51, 29), (51, 30), (51, 6), (51, 26), (51, 8), (51, 25), (51, 10), (51, 9), (51, 12), (51, 15), (51, 13), (51, 17), (51, 16), (51, 24), (51, 1)] [62, 65, 53, 54, 55, 56, 63, 64, 57, 58, 59, 60, 61] (false, false, false) σ σ' := by
    intro k0 σ hE
    unfold x_Model_feed_16 at hE
    have hf : xFp [(51, 22), (51, 21), (51, 31), (51, 7), (51, 29), (51, 30), (51, 6), (51, 26), (51, 8), (51, 25), (51, 10), (51, 9), (51, 12), (51, 15), (51, 13), (51, 17), (51, 16), (51, 24), (51, 1)] [62, 65, 53, 54, 55, 56, 63, 64, 57, 58, 59, 60, 61] (false, false, false) σ σ := xFp.rf
    obtain ⟨s16, el, hE⟩ := x_letE hE
    have hf := hf.tr (xFp.R el (by simp))
    rcases x_iteE hE with ⟨hc, hE⟩ | ⟨hc, hE⟩
    · obtain ⟨v32, el, hE⟩ := x_letE hE
      exact hf.tr (jn37 x_fuel _ _ _ hE)
    · obtain ⟨-, e2⟩ := x_pair hE
      rw [← e2]
      exact hf
  unfold x_Model_feed at hE
  have hf : xFp [(51, 22), (51, 21), (51, 31), (51, 7), (51, 29), (51, 30), (51, 6), (51, 26), (51, 8), (51, 25), (51, 10), (51, 9), (51, 12), (51, 15), (51, 13), (51, 17), (51, 16), (51, 24), (51, 1)] [62, 65, 53, 54, 55, 56, 63, 64, 57, 58, 59, 60, 61] (false, false, false) σ σ := xFp.rf
  obtain ⟨r5, hC, hE⟩ := x_bind hE
  rcases x_iteE hE with ⟨hc, hE⟩ | ⟨hc, hE⟩
  · exact hf.tr (jn16 _ _ hE)
  · exact hf.tr (jn16 _ _ hE)

set_option maxHeartbeats 4000000 in
set_option maxRecDepth 100000 in
theorem fp_Model_isOpen (σ : St) {r : Int32} {σ' : St} (hE : x_Model_isOpen σ = some (r, σ')) : xFp [(51, 1)] [] (false, false, false) σ σ' := by
  unfold x_Model_isOpen at hE
  have hf : xFp [(51, 1)] [] (false, false, false) σ σ := xFp.rf
  obtain ⟨s2, el, hE⟩ := x_letE hE
  have hf := hf.tr (xFp.R el (by simp))
  obtain ⟨hg, hE⟩ := x_guard hE
  obtain ⟨-, e2⟩ := x_pair hE
  rw [← e2]
  exact hf

set_option maxHeartbeats 4000000 in
set_option maxRecDepth 100000 in
theorem fp_Model_connect (σ : St) {σ' : St} (hE : x_Model_connect σ = some σ') : xFp [(51, 1), (51, 7), (51, 8), (51, 9), (51, 10), (51, 31), (51, 29)] [] (false, false, false) σ σ' := by
  unfold x_Model_connect at hE
  have hf : xFp [(51, 1), (51, 7), (51, 8), (51, 9), (51, 10), (51, 31), (51, 29)] [] (false, false, false) σ σ := xFp.rf
  obtain ⟨s2, el, hE⟩ := x_letE hE
  have hf := hf.tr (xFp.R el (by simp))
  obtain ⟨s7, el, hE⟩ := x_letE hE
  have hf := hf.tr (xFp.R el (by simp))
  obtain ⟨s12, el, hE⟩ := x_letE hE
  have hf := hf.tr (xFp.R el (by simp))
  obtain ⟨s17, el, hE⟩ := x_letE hE
  have hf := hf.tr (xFp.R el (by simp))
  obtain ⟨s22, el, hE⟩ := x_letE hE
  have hf := hf.tr (xFp.R el (by simp))
  obtain ⟨s27, el, hE⟩ := x_letE hE
  have hf := hf.tr (xFp.R el (by simp))
  obtain ⟨s32, el, hE⟩ := x_letE hE
  have hf := hf.tr (xFp.R el (by simp))
  have e1 := Option.some.inj hE
  rw [← e1]
  exact hf

set_option maxHeartbeats 4000000 in
set_option maxRecDepth 100000 in
theorem fp_Model_sent (σ : St) {r : Int32} {σ' : St} (hE : x_Model_sent σ = some (r, σ')) : xFp [(51, 1)] [] (false, false, false) σ σ' := by
  unfold x_Model_sent at hE
  have hf : xFp [(51, 1)] [] (false, false, false) σ σ := xFp.rf
  obtain ⟨s2, el, hE⟩ := x_letE hE
  have hf := hf.tr (xFp.R el (by simp))
  obtain ⟨-, e2⟩ := x_pair hE
  rw [← e2]
  exact hf

set_option maxHeartbeats 4000000 in
set_option maxRecDepth 100000 in
theorem fp_Model_out (a1 : Int32) (σ : St) {r : Int64} {σ' : St} (hE : x_Model_out a1 σ = some (r, σ')) : xFp [(51, 1)] [] (false, false, false) σ σ' := by
  have jn72 : ∀ (bk26 : Int64 → Int32 → St → Option (Int64 × St)) (hbk26 : ∀ (l2 : Int64) (l4 : Int32) (σ : St), bk26 l2 l4 σ = some (r, σ') → xFp [(51, 1)] [] (false, false, false) σ σ') (l4 : Int32) (k0 : Int32) (k1 : Int64) (σ : St), x_Model_out_72 a1 bk26 l4 k0 k1 σ = some (r, σ') → xFp [(51, 1)] [] (false, false, false) σ σ' := by
    intro bk26 hbk26 l4 k0 k1 σ hE
    unfold x_Model_out_72 at hE
    have hf : xFp [(51, 1)] [] (false, false, false) σ σ := xFp.rf
    obtain ⟨v74, el, hE⟩ := x_letE hE
    obtain ⟨v75, el, hE⟩ := x_letE hE
    exact hf.tr (hbk26 _ _ _ hE)
  have jn26 : ∀ (n : Nat) (l2 : Int64) (l4 : Int32) (σ : St), x_Model_out_26 a1 n l2 l4 σ = some (r, σ') → xFp [(51, 1)] [] (false, false, false) σ σ' := by
    intro n
    induction n with
    | zero => intro l2 l4 σ hE; rw [x_Model_out_26] at hE; cases hE
    | succ n ih =>
      intro l2 l4 σ hE
      rw [x_Model_out_26] at hE
      have hf : xFp [(51, 1)] [] (false, false, false) σ σ := xFp.rf
      rcases x_iteE hE with ⟨hc, hE⟩ | ⟨hc, hE⟩
      · obtain ⟨-, e2⟩ := x_pair hE
        rw [← e2]
        exact hf
      · rcases x_iteE hE with ⟨hc, hE⟩ | ⟨hc, hE⟩
        · rcases x_iteE hE with ⟨hc, hE⟩ | ⟨hc, hE⟩
          · exact hf.tr (jn72 _ ih _ _ _ _ hE)
          · obtain ⟨hg, hE⟩ := x_guard hE
            exact hf.tr (jn72 _ ih _ _ _ _ hE)
        · obtain ⟨-, e2⟩ := x_pair hE
          rw [← e2]
          exact hf
  have jn17 : ∀ (k0 : Int32) (σ : St), x_Model_out_17 a1 k0 σ = some (r, σ') → xFp [(51, 1)] [] (false, false, false) σ σ' := by
    intro k0 σ hE
    unfold x_Model_out_17 at hE
    have hf : xFp [(51, 1)] [] (false, false, false) σ σ := xFp.rf
    obtain ⟨s17, el, hE⟩ := x_letE hE
    have hf := hf.tr (xFp.R el (by simp))
    exact hf.tr (jn26 x_fuel _ _ _ hE)
  unfold x_Model_out at hE
  have hf : xFp [(51, 1)] [] (false, false, false) σ σ := xFp.rf
  obtain ⟨r6, hC, hE⟩ := x_bind hE
  rcases x_iteE hE with ⟨hc, hE⟩ | ⟨hc, hE⟩
  · exact hf.tr (jn17 _ _ hE)
  · exact hf.tr (jn17 _ _ hE)

set_option maxHeartbeats 4000000 in
set_option maxRecDepth 100000 in
theorem fp_Model_drain (σ : St) {r : Int32} {σ' : St} (hE : x_Model_drain σ = some (r, σ')) : xFp [(51, 1), (51, 31)] [] (false, false, false) σ σ' := by
  unfold x_Model_drain at hE
  have hf : xFp [(51, 1), (51, 31)] [] (false, false, false) σ σ := xFp.rf
  obtain ⟨s2, el, hE⟩ := x_letE hE
  have hf := hf.tr (xFp.R el (by simp))
  obtain ⟨v9, el, hE⟩ := x_letE hE
  obtain ⟨s12, el, hE⟩ := x_letE hE
  have hf := hf.tr (xFp.R el (by simp))
  obtain ⟨-, e2⟩ := x_pair hE
  rw [← e2]
  exact hf

set_option maxHeartbeats 4000000 in
set_option maxRecDepth 100000 in
theorem fp_Model_status (σ : St) {r : Int32} {σ' : St} (hE : x_Model_status σ = some (r, σ')) : xFp [(51, 1)] [] (false, false, false) σ σ' := by
  unfold x_Model_status at hE
  have hf : xFp [(51, 1)] [] (false, false, false) σ σ := xFp.rf
  obtain ⟨s2, el, hE⟩ := x_letE hE
  have hf := hf.tr (xFp.R el (by simp))
  obtain ⟨-, e2⟩ := x_pair hE
  rw [← e2]
  exact hf

set_option maxHeartbeats 4000000 in
set_option maxRecDepth 100000 in
theorem fp_Model_reading (σ : St) {r : Int32} {σ' : St} (hE : x_Model_reading σ = some (r, σ')) : xFp [(51, 1)] [] (false, false, false) σ σ' := by
  unfold x_Model_reading at hE
  have hf : xFp [(51, 1)] [] (false, false, false) σ σ := xFp.rf
  obtain ⟨s2, el, hE⟩ := x_letE hE
  have hf := hf.tr (xFp.R el (by simp))
  rcases x_iteE hE with ⟨hc, hE⟩ | ⟨hc, hE⟩
  · obtain ⟨-, e2⟩ := x_pair hE
    rw [← e2]
    exact hf
  · obtain ⟨-, e2⟩ := x_pair hE
    rw [← e2]
    exact hf

set_option maxHeartbeats 4000000 in
set_option maxRecDepth 100000 in
theorem fp_Model_size (a1 : Int32) (σ : St) {r : Int32} {σ' : St} (hE : x_Model_size a1 σ = some (r, σ')) : xFp [(51, 1)] [] (false, false, false) σ σ' := by
  have jn16 : ∀ (k0 : Int32) (σ : St), x_Model_size_16 a1 k0 σ = some (r, σ') → xFp [(51, 1)] [] (false, false, false) σ σ' := by
    intro k0 σ hE
    unfold x_Model_size_16 at hE
    have hf : xFp [(51, 1)] [] (false, false, false) σ σ := xFp.rf
    obtain ⟨s16, el, hE⟩ := x_letE hE
    have hf := hf.tr (xFp.R el (by simp))
    rcases x_iteE hE with ⟨hc, hE⟩ | ⟨hc, hE⟩
    · obtain ⟨hg, hE⟩ := x_guard hE
      rcases x_iteE hE with ⟨hc, hE⟩ | ⟨hc, hE⟩
      · obtain ⟨-, e2⟩ := x_pair hE
        rw [← e2]
        exact hf
      · obtain ⟨hg, hE⟩ := x_guard hE
        obtain ⟨-, e2⟩ := x_pair hE
        rw [← e2]
        exact hf
    · obtain ⟨-, e2⟩ := x_pair hE
      rw [← e2]
      exact hf
  unfold x_Model_size at hE
  have hf : xFp [(51, 1)] [] (false, false, false) σ σ := xFp.rf
  obtain ⟨r5, hC, hE⟩ := x_bind hE
  rcases x_iteE hE with ⟨hc, hE⟩ | ⟨hc, hE⟩
  · exact hf.tr (jn16 _ _ hE)
  · exact hf.tr (jn16 _ _ hE)

set_option maxHeartbeats 4000000 in
set_option maxRecDepth 100000 in
theorem fp_Model_at (a1 : Int32) (a2 : Int32) (σ : St) {r : Int32} {σ' : St} (hE : x_Model_at a1 a2 σ = some (r, σ')) : xFp [(51, 1)] [] (false, false, false) σ σ' := by
  have jn43 : ∀ (k0 : Int32) (σ : St), x_Model_at_43 a1 a2 k0 σ = some (r, σ') → xFp [(51, 1)] [] (false, false, false) σ σ' := by
    intro k0 σ hE
    unfold x_Model_at_43 at hE
    have hf : xFp [(51, 1)] [] (false, false, false) σ σ := xFp.rf
    obtain ⟨s43, el, hE⟩ := x_letE hE
    have hf := hf.tr (xFp.R el (by simp))
    rcases x_iteE hE with ⟨hc, hE⟩ | ⟨hc, hE⟩
    · obtain ⟨hg, hE⟩ := x_guard hE
      obtain ⟨-, e2⟩ := x_pair hE
      rw [← e2]
      exact hf
    · obtain ⟨-, e2⟩ := x_pair hE
      rw [← e2]
      exact hf
  have jn38 : ∀ (σ : St), x_Model_at_38 a1 a2 σ = some (r, σ') → xFp [(51, 1)] [] (false, false, false) σ σ' := by
    intro σ hE
    unfold x_Model_at_38 at hE
    have hf : xFp [(51, 1)] [] (false, false, false) σ σ := xFp.rf
    exact hf.tr (jn43 _ _ hE)
  unfold x_Model_at at hE
  have hf : xFp [(51, 1)] [] (false, false, false) σ σ := xFp.rf
  obtain ⟨r5, hC, hE⟩ := x_bind hE
  rcases x_iteE hE with ⟨hc, hE⟩ | ⟨hc, hE⟩
  · exact hf.tr (jn43 _ _ hE)
  · obtain ⟨hg, hE⟩ := x_guard hE
    rcases x_iteE hE with ⟨hc, hE⟩ | ⟨hc, hE⟩
    · exact hf.tr (jn38 _ hE)
    · rcases x_iteE hE with ⟨hc, hE⟩ | ⟨hc, hE⟩
      · exact hf.tr (jn38 _ hE)
      · obtain ⟨hg, hE⟩ := x_guard hE
        rcases x_iteE hE with ⟨hc, hE⟩ | ⟨hc, hE⟩
        · exact hf.tr (jn43 _ _ hE)
        · exact hf.tr (jn38 _ hE)

set_option maxHeartbeats 4000000 in
set_option maxRecDepth 100000 in
theorem fp_Model_mark (a1 : Int32) (σ : St) {r : Int32} {σ' : St} (hE : x_Model_mark a1 σ = some (r, σ')) : xFp [(51, 1)] [] (false, false, false) σ σ' := by
  have jn16 : ∀ (k0 : Int32) (σ : St), x_Model_mark_16 a1 k0 σ = some (r, σ') → xFp [(51, 1)] [] (false, false, false) σ σ' := by
    intro k0 σ hE
    unfold x_Model_mark_16 at hE
    have hf : xFp [(51, 1)] [] (false, false, false) σ σ := xFp.rf
    obtain ⟨s16, el, hE⟩ := x_letE hE
    have hf := hf.tr (xFp.R el (by simp))
    rcases x_iteE hE with ⟨hc, hE⟩ | ⟨hc, hE⟩
    · obtain ⟨hg, hE⟩ := x_guard hE
      rcases x_iteE hE with ⟨hc, hE⟩ | ⟨hc, hE⟩
      · obtain ⟨-, e2⟩ := x_pair hE
        rw [← e2]
        exact hf
      · obtain ⟨hg, hE⟩ := x_guard hE
        obtain ⟨-, e2⟩ := x_pair hE
        rw [← e2]
        exact hf
    · obtain ⟨-, e2⟩ := x_pair hE
      rw [← e2]
      exact hf
  unfold x_Model_mark at hE
  have hf : xFp [(51, 1)] [] (false, false, false) σ σ := xFp.rf
  obtain ⟨r5, hC, hE⟩ := x_bind hE
  rcases x_iteE hE with ⟨hc, hE⟩ | ⟨hc, hE⟩
  · exact hf.tr (jn16 _ _ hE)
  · exact hf.tr (jn16 _ _ hE)

set_option maxHeartbeats 4000000 in
set_option maxRecDepth 100000 in
theorem fp_Model_changes (σ : St) {r : Int32} {σ' : St} (hE : x_Model_changes σ = some (r, σ')) : xFp [(51, 1)] [] (false, false, false) σ σ' := by
  unfold x_Model_changes at hE
  have hf : xFp [(51, 1)] [] (false, false, false) σ σ := xFp.rf
  obtain ⟨s2, el, hE⟩ := x_letE hE
  have hf := hf.tr (xFp.R el (by simp))
  obtain ⟨-, e2⟩ := x_pair hE
  rw [← e2]
  exact hf
