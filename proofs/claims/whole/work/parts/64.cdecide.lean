/-! the class's site -/
theorem q_list_len (S : Site) : ∀ d r, (q_list S r d).length ≤ d := by
  intro d
  induction d with
  | zero => intro r; exact Nat.le_refl _
  | succ d ih =>
    intro r
    rw [q_list, List.length_append]
    have := ih (r + 1)
    split <;> simp <;> omega
theorem c_list0 {S : Site} {chg : Nat} (hb : Sb S chg) (hc : chg < 1000000000) : ∀ d r fuel (L : List Nat) (σ : St), r + d = 8 → d < fuel → Cs σ S chg → GL σ 46 L → L.length ≤ r → ∃ σ', x_Answer_list_9 fuel (iN r) σ = some σ' ∧ GL σ' 46 (L ++ q_list S r d) := by
  intro d
  induction d with
  | zero =>
    intro r fuel L σ hr hf hs hL hl
    obtain ⟨z, rfl⟩ := x_fuelS (show 0 < fuel by omega)
    refine ⟨σ, ?_, by rw [q_list, List.append_nil]; exact hL⟩
    rw [x_Answer_list_9, if_pos (show (8 : Int32) ≤ iN r from (iN_le (a := 8) (by omega) (by omega)).mpr (by omega))]
  | succ d ih =>
    intro r fuel L σ hr hf hs hL hl
    obtain ⟨z, rfl⟩ := x_fuelS (show 0 < fuel by omega)
    have hal : aln 47 = 8 := by decide
    rw [x_Answer_list_9, if_neg (show ¬ (8 : Int32) ≤ iN r from mt (iN_le (a := 8) (by omega) (by omega)).mp (by omega)), if_pos ((iN_in (by omega)).mpr (by omega))]
    rw [show (if xS (3 + 3 * (iN r).toNatClampNeg) then (Option.bind (x_Resource_isThere (3 + 3 * (iN r).toNatClampNeg) σ) (fun r21 => (if r21 = 0 then x_Answer_list_38 (x_Answer_list_9 z) (iN r) σ else (Option.bind (x_Bytes_add 46 ((97 : Int32) + iN r) σ) (fun s35 => x_Answer_list_38 (x_Answer_list_9 z) (iN r) s35))))) else none) = (Option.bind (x_Resource_isThere (3 + 3 * r) σ) (fun r21 => (if r21 = 0 then x_Answer_list_38 (x_Answer_list_9 z) (iN r) σ else (Option.bind (x_Bytes_add 46 ((97 : Int32) + iN r) σ) (fun s35 => x_Answer_list_38 (x_Answer_list_9 z) (iN r) s35))))) from by simp only [iN_clamp (show r < 2147483648 by omega)]; exact if_pos (xB_r r (by omega)).2]
    rw [c_there hs hb hc (by omega), Option.bind_some, q_list, show (97 : Int32) = iN 97 from rfl, iN_add]
    unfold x_Answer_list_38
    simp only [x_let]
    rw [iN_1a]
    cases hq : (S r).isSome
    · rw [if_pos (show bi false = 0 from rfl)]
      exact ih (r + 1) z L σ (by omega) (by omega) hs hL (by omega)
    · obtain ⟨s1, a1, a2⟩ := hL.add (b := 97 + r) (by omega) (by rw [hal]; omega)
      have fp := fp_Bytes_add _ _ _ a1
      rw [if_neg (show ¬ bi true = 0 by decide), a1, Option.bind_some]
      have hs1 : Cs s1 S chg := hs.of (fp.1 _ _ (by simp)) (fun L hL => ⟨_, a2⟩) (fun r hr => ⟨fp.1 _ _ (by simp <;> omega), fp.1 _ _ (by simp <;> omega), fp.2.1 _ (by simp <;> omega)⟩)
      obtain ⟨s2, b1, b2⟩ := ih (r + 1) z _ s1 (by omega) (by omega) hs1 a2 (by simp; omega)
      refine ⟨s2, b1, ?_⟩
      rw [List.append_assoc] at b2
      exact b2
theorem c_list {σ : St} {S : Site} {chg : Nat} (hs : Cs σ S chg) (hb : Sb S chg) (hc : chg < 1000000000) : ∃ σ', x_Answer_list σ = some σ' ∧ GL σ' 46 (q_list S 0 8) := by
  obtain ⟨s1, a1, a2⟩ := c_clear σ 46
  have fp := fp_Bytes_clear _ _ a1
  have g : GL s1 46 [] := a2 _
  have hs1 : Cs s1 S chg := hs.of (fp.1 _ _ (by simp)) (fun L hL => ⟨_, g⟩) (fun r hr => ⟨fp.1 _ _ (by simp <;> omega), fp.1 _ _ (by simp <;> omega), fp.2.1 _ (by simp)⟩)
  obtain ⟨s2, b1, b2⟩ := c_list0 hb hc 8 0 x_fuel [] s1 (by omega) (by unfold x_fuel; omega) hs1 g (by simp)
  refine ⟨s2, ?_, b2⟩
  unfold x_Answer_list
  rw [a1, Option.bind_some]
  exact b1
theorem getD_app2 (A B : List Nat) (j : Nat) : (A ++ B).getD j 0 = if A.length ≤ j then B.getD (j - A.length) 0 else A.getD j 0 := by
  by_cases h : A.length ≤ j
  · rw [if_pos h, List.getD_eq_getElem?_getD, List.getD_eq_getElem?_getD, List.getElem?_append_right h]
  · rw [if_neg h, List.getD_eq_getElem?_getD, List.getD_eq_getElem?_getD, List.getElem?_append_left (by omega)]
theorem GL.addAll {σ : St} {o p : Nat} {A B : List Nat} (hA : GL σ o A) (hB : GL σ p B) (hop : o ≠ p ∧ o + 1 ≠ p + 1 ∧ o ≠ p + 1) (hn : A.length + B.length ≤ aln (o + 1)) : ∃ σ', x_Bytes_addAll o p σ = some σ' ∧ GL σ' o (A ++ B) := by
  obtain ⟨σ', a1, a2⟩ := c_addAll hA hB hop hn
  refine ⟨σ', a1, ?_⟩
  unfold GL
  rw [List.length_append]
  exact a2.ext (fun j _ => (getD_app2 A B j).symm)
theorem aln_r : ∀ r, r < 8 → aln (3 + 3 * r + 1 + 1) = 200 := by decide
theorem s_set_eq (S : Site) (r : Nat) (v : Option (Nat × List Nat)) : s_set S r v r = v := if_pos rfl
theorem s_set_ne {S : Site} {r k : Nat} {v : Option (Nat × List Nat)} (h : ¬ k = r) : s_set S r v k = S k := if_neg h
/-- one resource changed -/
theorem Cs.set {σ σ' : St} {S : Site} {chg : Nat} (h : Cs σ S chg) {r : Nat} (hr : r < 8) {v : Option (Nat × List Nat)} (e1 : σ'.1 1 1 = iN (chg + 1)) (e2 : σ'.1 46 1 = σ.1 46 1) (e2' : σ'.2.1 47 = σ.2.1 47) (e3 : ∀ k, k < 8 → ¬ k = r → σ'.1 (3 + 3 * k) 1 = σ.1 (3 + 3 * k) 1 ∧ σ'.1 (3 + 3 * k + 1) 1 = σ.1 (3 + 3 * k + 1) 1 ∧ σ'.2.1 (3 + 3 * k + 1 + 1) = σ.2.1 (3 + 3 * k + 1 + 1)) (e4 : (v = none → σ'.1 (3 + 3 * r) 1 = -1) ∧ ∀ mq B, v = some (mq, B) → σ'.1 (3 + 3 * r) 1 = iN mq ∧ GL σ' (3 + 3 * r + 1) B) : Cs σ' (s_set S r v) (chg + 1) := by
  refine ⟨e1, ?_, fun k hk => ?_⟩
  · obtain ⟨L, hL⟩ := h.2.1
    exact ⟨L, hL.of e2 e2'⟩
  · by_cases q : k = r
    · subst q
      rw [s_set_eq]
      exact e4
    · rw [s_set_ne q]
      obtain ⟨f1, f2, f3⟩ := e3 k hk q
      exact ⟨fun z => by rw [f1]; exact (h.2.2 k hk).1 z, fun mq B z => ⟨by rw [f1]; exact ((h.2.2 k hk).2 mq B z).1, ((h.2.2 k hk).2 mq B z).2.of f2 f3⟩⟩
theorem c_replace27 {σ : St} {S : Site} {chg : Nat} (hs : Cs σ S chg) {Bd : List Nat} (hB : GL σ 42 Bd) {r : Nat} (hr : r < 8) (l3 : Int32) : ∃ σ', x_Site_replace_27 (3 + 3 * r) l3 σ = some (if l3 = 0 then 201 else 204, σ') ∧ Cs σ' (s_set S r (some (chg + 1, Bd))) (chg + 1) := by
  have hBl : Bd.length ≤ 200 := by
    have := Gt.le hB
    have h2 := hB.2.1
    have : aln (42 + 1) = 200 := by decide
    omega
  obtain ⟨s1, a1, a2⟩ := c_clear σ (3 + 3 * r + 1)
  have fp1 := fp_Bytes_clear _ _ a1
  have g1 : GL s1 (3 + 3 * r + 1) [] := a2 _
  have hB1 : GL s1 42 Bd := hB.of (fp1.1 _ _ (by simp <;> omega)) (fp1.2.1 _ (by simp))
  obtain ⟨s2, b1, b2⟩ := g1.addAll hB1 (by omega) (by rw [aln_r r hr]; simp; omega)
  rw [List.nil_append] at b2
  have fp2 := fp_Bytes_addAll _ _ _ b1
  have ec : s2.1 1 1 = iN chg := by rw [fp2.1 _ _ (by simp <;> omega), fp1.1 _ _ (by simp <;> omega)]; exact hs.1
  have run : x_Site_replace_27 (3 + 3 * r) l3 σ = some (if l3 = 0 then 201 else 204, x_updR (x_updR s2 1 1 (iN (chg + 1))) (3 + 3 * r) 1 (iN (chg + 1))) := by
    unfold x_Site_replace_27
    rw [a1, Option.bind_some, b1, Option.bind_some]
    simp only [x_let]
    rw [ec, iN_1a, show (x_updR s2 1 1 (iN (chg + 1))).1 1 1 = iN (chg + 1) by simp [x_updR]]
    split <;> rfl
  refine ⟨_, run, hs.set hr ?_ ?_ ?_ ?_ ⟨fun z => (by cases z), fun mq B z => ?_⟩⟩
  · simp only [x_updR]
    rw [if_neg (by omega), if_pos (by simp)]
  · simp only [x_updR]
    rw [if_neg (by omega), if_neg (by omega), fp2.1 _ _ (by simp <;> omega), fp1.1 _ _ (by simp <;> omega)]
  · show s2.2.1 47 = σ.2.1 47
    rw [fp2.2.1 _ (by simp <;> omega), fp1.2.1 _ (by simp)]
  · intro k hk hkr
    refine ⟨?_, ?_, ?_⟩
    · simp only [x_updR]
      rw [if_neg (by omega), if_neg (by omega), fp2.1 _ _ (by simp <;> omega), fp1.1 _ _ (by simp <;> omega)]
    · simp only [x_updR]
      rw [if_neg (by omega), if_neg (by omega), fp2.1 _ _ (by simp <;> omega), fp1.1 _ _ (by simp <;> omega)]
    · show s2.2.1 (3 + 3 * k + 1 + 1) = σ.2.1 (3 + 3 * k + 1 + 1)
      rw [fp2.2.1 _ (by simp <;> omega), fp1.2.1 _ (by simp)]
  · cases z
    refine ⟨by simp [x_updR], b2.of ?_ rfl⟩
    simp only [x_updR]
    rw [if_neg (by omega), if_neg (by omega)]
theorem c_replace {σ : St} {nf tn : Nat} {F : Nat → Ln} {tf : Nat → Nat} (h : Cf σ nf F tn tf) {S : Site} {chg : Nat} (hs : Cs σ S chg) (hb : Sb S chg) (hc : chg < 1000000000) {Bd : List Nat} (hB : GL σ 42 Bd) {r : Nat} (hr : r < 8) : ∃ num σ', x_Site_replace (3 + 3 * r) σ = some (iN num, σ') ∧ (q_chg 2 r Bd F nf S chg).1 = rs0 num ∧ Cs σ' (q_chg 2 r Bd F nf S chg).2.1 (q_chg 2 r Bd F nf S chg).2.2 := by
  unfold x_Site_replace q_chg
  rw [c_there hs hb hc hr, Option.bind_some, if_pos rfl]
  cases hS : S r with
  | none =>
    obtain ⟨σ', a1, a2⟩ := c_replace27 hs hB hr 0
    rw [if_pos (show bi (none : Option (Nat × List Nat)).isSome = 0 from rfl)]
    exact ⟨201, σ', a1, rfl, a2⟩
  | some v =>
    obtain ⟨s1, b1⟩ := c_hasElement h (w := 19) (v := 20) (by decide) (by decide)
    have fp := fp_Fields_hasElement _ _ _ b1
    rw [if_neg (show ¬ bi (some v).isSome = 0 from (by decide : ¬ bi true = 0)), b1, x_bind2_some]
    have e : (f_els F (wd_ 19) 0 nf).any (fun x => u_is x (wd_ 20)) = q_star2 F nf := rfl
    rw [e]
    have hs1 : Cs s1 S chg := hs.fp fp (by simp) (by simp)
    cases hq : q_star2 F nf
    · obtain ⟨σ', a1, a2⟩ := c_replace27 hs1 (hB.of (fp.1 _ _ (by simp)) (fp.2.1 _ (by simp))) hr 1
      rw [if_pos (show bi false = 0 from rfl)]
      exact ⟨204, σ', a1, rfl, a2⟩
    · rw [if_neg (show ¬ bi true = 0 by decide)]
      exact ⟨412, s1, rfl, rfl, hs1⟩
theorem c_extend {σ : St} (F : Nat → Ln) (nf : Nat) {S : Site} {chg : Nat} (hs : Cs σ S chg) (hb : Sb S chg) (hc : chg < 1000000000) {Bd : List Nat} (hB : GL σ 42 Bd) {r : Nat} (hr : r < 8) : ∃ num σ', x_Site_extend (3 + 3 * r) σ = some (iN num, σ') ∧ (q_chg 3 r Bd F nf S chg).1 = rs0 num ∧ Cs σ' (q_chg 3 r Bd F nf S chg).2.1 (q_chg 3 r Bd F nf S chg).2.2 := by
  have hBl : Bd.length ≤ 200 := by
    have h2 := hB.2.1
    have : aln (42 + 1) = 200 := by decide
    omega
  unfold x_Site_extend q_chg
  rw [c_there hs hb hc hr, Option.bind_some, if_neg (show ¬ 3 = 2 by decide)]
  cases hS : S r with
  | none =>
    rw [if_pos (show bi (none : Option (Nat × List Nat)).isSome = 0 from rfl)]
    exact ⟨404, σ, rfl, rfl, hs⟩
  | some v =>
    obtain ⟨mq, B⟩ := v
    obtain ⟨m1, m2, m3⟩ := hb r mq B hr hS
    obtain ⟨k1, k2⟩ := (hs.2.2 r hr).2 mq B hS
    rw [if_neg (show ¬ bi (some (mq, B)).isSome = 0 from (by decide : ¬ bi true = 0)), show σ.1 (3 + 3 * r + 1) 1 = iN B.length from k2.1, show σ.1 42 1 = iN Bd.length from hB.1, iN_add]
    simp only [if_true]
    by_cases q : 200 < B.length + Bd.length
    · rw [if_neg (show ¬ iN (B.length + Bd.length) ≤ 200 from mt (iN_le (b := 200) (by omega) (by omega)).mp (by omega))]
      simp only [q, if_true]
      exact ⟨413, σ, rfl, rfl, hs⟩
    · rw [if_pos (show iN (B.length + Bd.length) ≤ 200 from (iN_le (b := 200) (by omega) (by omega)).mpr (by omega))]
      simp only [q, if_false]
      obtain ⟨s2, b1, b2⟩ := k2.addAll hB (by omega) (by rw [aln_r r hr]; omega)
      have fp2 := fp_Bytes_addAll _ _ _ b1
      have ec : s2.1 1 1 = iN chg := by rw [fp2.1 _ _ (by simp <;> omega)]; exact hs.1
      rw [b1, Option.bind_some]
      simp only [x_let]
      rw [ec, iN_1a, show (x_updR s2 1 1 (iN (chg + 1))).1 1 1 = iN (chg + 1) by simp [x_updR]]
      refine ⟨204, _, rfl, rfl, hs.set hr ?_ ?_ ?_ ?_ ⟨fun z => (by cases z), fun mq' B' z => ?_⟩⟩
      · simp only [x_updR]
        rw [if_neg (by omega), if_pos (by simp)]
      · simp only [x_updR]
        rw [if_neg (by omega), if_neg (by omega), fp2.1 _ _ (by simp <;> omega)]
      · show s2.2.1 47 = σ.2.1 47
        rw [fp2.2.1 _ (by simp <;> omega)]
      · intro k hk hkr
        refine ⟨?_, ?_, ?_⟩
        · simp only [x_updR]
          rw [if_neg (by omega), if_neg (by omega), fp2.1 _ _ (by simp <;> omega)]
        · simp only [x_updR]
          rw [if_neg (by omega), if_neg (by omega), fp2.1 _ _ (by simp <;> omega)]
        · show s2.2.1 (3 + 3 * k + 1 + 1) = σ.2.1 (3 + 3 * k + 1 + 1)
          rw [fp2.2.1 _ (by simp <;> omega)]
      · cases z
        refine ⟨by simp [x_updR], b2.of ?_ rfl⟩
        simp only [x_updR]
        rw [if_neg (by omega), if_neg (by omega)]
theorem c_remove {σ : St} (F : Nat → Ln) (nf : Nat) (Bd : List Nat) {S : Site} {chg : Nat} (hs : Cs σ S chg) (hb : Sb S chg) (hc : chg < 1000000000) {r : Nat} (hr : r < 8) : ∃ num σ', x_Site_remove (3 + 3 * r) σ = some (iN num, σ') ∧ (q_chg 4 r Bd F nf S chg).1 = rs0 num ∧ Cs σ' (q_chg 4 r Bd F nf S chg).2.1 (q_chg 4 r Bd F nf S chg).2.2 := by
  unfold x_Site_remove q_chg
  rw [c_there hs hb hc hr, Option.bind_some, if_neg (show ¬ 4 = 2 by decide)]
  cases hS : S r with
  | none =>
    rw [if_pos (show bi (none : Option (Nat × List Nat)).isSome = 0 from rfl)]
    exact ⟨404, σ, rfl, rfl, hs⟩
  | some v =>
    obtain ⟨mq, B⟩ := v
    rw [if_neg (show ¬ bi (some (mq, B)).isSome = 0 from (by decide : ¬ bi true = 0))]
    simp only [show ¬ 4 = 3 by decide, if_false]
    obtain ⟨s1, a1, a2⟩ := c_clear σ (3 + 3 * r + 1)
    have fp1 := fp_Bytes_clear _ _ a1
    have ec : (x_updR s1 (3 + 3 * r) 1 (-1)).1 1 1 = iN chg := by
      simp only [x_updR]
      rw [if_neg (by omega), fp1.1 _ _ (by simp <;> omega)]
      exact hs.1
    rw [a1, Option.bind_some]
    simp only [x_let]
    rw [ec, iN_1a]
    refine ⟨204, _, rfl, rfl, hs.set hr ?_ ?_ ?_ ?_ ⟨fun _ => ?_, fun mq' B' z => (by cases z)⟩⟩
    · simp [x_updR]
    · simp only [x_updR]
      rw [if_neg (by omega), if_neg (by omega), fp1.1 _ _ (by simp <;> omega)]
    · show s1.2.1 47 = σ.2.1 47
      rw [fp1.2.1 _ (by simp)]
    · intro k hk hkr
      refine ⟨?_, ?_, ?_⟩
      · simp only [x_updR]
        rw [if_neg (by omega), if_neg (by omega), fp1.1 _ _ (by simp <;> omega)]
      · simp only [x_updR]
        rw [if_neg (by omega), if_neg (by omega), fp1.1 _ _ (by simp <;> omega)]
      · show s1.2.1 (3 + 3 * k + 1 + 1) = σ.2.1 (3 + 3 * k + 1 + 1)
        rw [fp1.2.1 _ (by simp)]
    · simp only [x_updR]
      rw [if_neg (by omega), if_pos (by simp)]
theorem c_siteFind {σ : St} {P : List Nat} (hP : GL σ 40 P) : x_Site_find 40 σ = some ((q_res P).map (fun r => 3 + 3 * r)) := by
  have hl := Gt.le hP
  have hc : σ.1 40 1 = iN P.length := hP.1
  unfold x_Site_find q_res
  by_cases q : P.length = 2
  · have hg := Gt.get hP (show 1 < P.length by omega)
    have hb := Gt.by hP (show 1 < P.length by omega)
    rw [show (1 : Int32) = iN 1 from rfl, hg, Option.bind_some]
    simp only [x_let] at hb ⊢
    rw [hc, if_pos (show iN P.length = 2 by rw [q]; rfl)]
    generalize P.getD 1 0 = c at hb ⊢
    by_cases q1 : 97 ≤ c
    · rw [show iN c - (97 : Int32) = iN (c - 97) from iN_sub (b := 97) q1, if_neg (iN_lt0 (by omega))]
      by_cases q2 : c ≤ 104
      · rw [if_neg (show ¬ (8 : Int32) ≤ iN (c - 97) from mt (iN_le (a := 8) (by omega) (by omega)).mp (by omega)), if_pos ((iN_in (by omega)).mpr (by omega)), iN_clamp (by omega), if_pos ⟨q, q1, q2⟩]
        rfl
      · rw [if_pos (show (8 : Int32) ≤ iN (c - 97) from (iN_le (a := 8) (by omega) (by omega)).mpr (by omega)), if_neg (fun z => q2 z.2.2)]
        rfl
    · rw [if_pos (show iN c - (97 : Int32) < 0 from iN_subneg2 (b := 97) (by omega) (by decide)), if_neg (fun z => q1 z.2.1)]
      rfl
  · have hg : ∃ v, x_Bytes_get 40 (iN 1) σ = some v := by
      by_cases q1 : 1 < P.length
      · exact ⟨_, Gt.get hP q1⟩
      · exact ⟨_, Gt.getX hP (by omega) (by decide)⟩
    obtain ⟨v, hv⟩ := hg
    rw [show (1 : Int32) = iN 1 from rfl, hv, Option.bind_some]
    simp only [x_let]
    rw [hc, if_neg (show ¬ iN P.length = 2 from mt (iN_eq (b := 2) (by omega) (by omega)).mp q), if_neg (fun z => q z.1)]
    rfl
theorem q_res_lt {P : List Nat} {r : Nat} (h : q_res P = some r) : r < 8 := by
  unfold q_res at h
  by_cases q : P.length = 2 ∧ 97 ≤ P.getD 1 0 ∧ P.getD 1 0 ≤ 104
  · rw [if_pos q] at h
    cases h
    omega
  · rw [if_neg q] at h
    cases h
theorem CA.new {σ s : St} {S : Site} {chg : Nat} (hs : Cs s S chg) (num : Nat) : ∃ σ', x_Answer_begin (iN num) s = some σ' ∧ CA σ' (rs0 num) ∧ Cs σ' S chg := by
  obtain ⟨L, hL⟩ := hs.2.1
  obtain ⟨σ', a1, a2⟩ := c_begin0 hL num
  exact ⟨σ', a1, a2, hs.fp (fp_Answer_begin _ _ a1) (by simp) (by simp)⟩
theorem c_decide {σ : St} {nf tn : Nat} {F : Nat → Ln} {tf : Nat → Nat} (h : Cf σ nf F tn tf) {S : Site} {chg : Nat} (hs : Cs σ S chg) (hb : Sb S chg) (hc : chg < 1000000000) {me : Nat} (hm : me < 7) (hq : σ.2.2.2.1 = some me) {P Bd : List Nat} (hP : GL σ 40 P) (hB : GL σ 42 Bd) : ∃ σ', x_Answer_decide σ = some σ' ∧ CA σ' (q_ans me P F nf Bd S chg).1 ∧ Cs σ' (q_ans me P F nf Bd S chg).2.1 (q_ans me P F nf Bd S chg).2.2 := by
  have ne : ∀ k, ¬ me = k → ¬ some me = some k := fun k hk z => hk (by simpa using z)
  have hPl := Gt.le hP
  have e7 := x_e7_lt hm
  have allow : ∀ num, ∃ σ', x_Answer_decide_36 (iN num) σ = some σ' ∧ CA σ' (num, 0, none, 0, 0, 0, true, []) ∧ Cs σ' S chg := by
    intro num
    obtain ⟨L, hL⟩ := hs.2.1
    obtain ⟨s1, a1, ⟨d1, d2, d3, d4, d5, d6, d7⟩, a3⟩ := c_begin num σ
    have fp := fp_Answer_begin _ _ a1
    have run : x_Answer_decide_36 (iN num) σ = some (x_updR s1 44 4 1) := by
      unfold x_Answer_decide_36
      rw [a1, Option.bind_some]
      rfl
    have hL1 : GL s1 46 L := hL.of (fp.1 _ _ (by simp)) (fp.2.1 _ (by simp))
    refine ⟨_, run, ⟨⟨by simp [x_updR]; exact d1, by simp [x_updR]; exact d2, by simp [x_updR]; rfl, by simp [x_updR]; exact d4, by simp [x_updR]; exact d5, by simp [x_updR]; exact d6, by simp [x_updR]; exact d7⟩, L, ?_⟩, (hs.fp fp (by simp) (by simp)).fp (xFp.R (R := [(44, 4)]) (M := []) (F := (false, false, false)) rfl (by simp)) (by simp) (by simp)⟩
    rw [show (x_updR s1 44 4 1).2.2.1 = 46 from a3]
    exact ⟨xB46, by decide, Or.inl rfl, hL1.of (by simp [x_updR]) rfl, Nat.zero_le _, (o_bd_z L 0).symm⟩
  unfold x_Answer_decide q_ans
  rw [hq, if_pos e7]
  by_cases m5 : me = 5
  · obtain ⟨σ', a1, a2⟩ := allow 204
    rw [if_pos (show some me = some 5 by rw [m5]), if_pos m5]
    unfold x_Answer_decide_19
    rw [if_pos e7, if_pos (show some me = some 5 by rw [m5])]
    exact ⟨σ', a1, a2⟩
  · rw [if_neg (ne 5 m5), if_pos e7, if_neg m5]
    by_cases m6 : me = 6
    · obtain ⟨σ', a1, a2⟩ := allow 405
      rw [if_pos (show some me = some 6 by rw [m6]), if_pos m6]
      unfold x_Answer_decide_19
      rw [if_pos e7, if_neg (ne 5 m5)]
      exact ⟨σ', a1, a2⟩
    · rw [if_neg (ne 6 m6), if_pos e7, if_neg m6]
      have st : (if some me = some 0 then x_Answer_decide_59 (some me) σ else if x_e7 (some me) then (if some me = some 1 then x_Answer_decide_59 (some me) σ else x_Answer_decide_64 (some me) 0 σ) else none) = x_Answer_decide_64 (some me) (bi (decide (me < 2))) σ := by
        unfold x_Answer_decide_59
        by_cases m0 : me = 0
        · rw [if_pos (show some me = some 0 by rw [m0]), decide_eq_true (show me < 2 by omega)]
          rfl
        · rw [if_neg (ne 0 m0), if_pos e7]
          by_cases m1 : me = 1
          · rw [if_pos (show some me = some 1 by rw [m1]), decide_eq_true (show me < 2 by omega)]
            rfl
          · rw [if_neg (ne 1 m1), decide_eq_false (show ¬ me < 2 by omega)]
            rfl
      rw [st]
      unfold x_Answer_decide_64
      rw [c_siteFind hP, Option.bind_some, show σ.1 40 1 = iN P.length from hP.1]
      have rest : ¬ (me < 2 ∧ P.length = 1) → ∃ σ', x_Answer_decide_109 (some me) (bi (decide (me < 2))) ((q_res P).map (fun r => 3 + 3 * r)) σ = some σ' ∧ CA σ' (match q_res P with
          | none => (rs0 404, S, chg)
          | some r => if me < 2 then (match S r with
              | none => (rs0 404, S, chg)
              | some (mq, B) => (q_read me mq B F nf, S, chg))
            else q_chg me r Bd F nf S chg).1 ∧ Cs σ' (match q_res P with
          | none => (rs0 404, S, chg)
          | some r => if me < 2 then (match S r with
              | none => (rs0 404, S, chg)
              | some (mq, B) => (q_read me mq B F nf, S, chg))
            else q_chg me r Bd F nf S chg).2.1 (match q_res P with
          | none => (rs0 404, S, chg)
          | some r => if me < 2 then (match S r with
              | none => (rs0 404, S, chg)
              | some (mq, B) => (q_read me mq B F nf, S, chg))
            else q_chg me r Bd F nf S chg).2.2 := by
        intro _
        unfold x_Answer_decide_109
        cases hr : q_res P with
        | none =>
          obtain ⟨σ', a1, a2, a3⟩ := CA.new (σ := σ) hs 404
          refine ⟨σ', ?_, a2, a3⟩
          show (Option.bind (x_Answer_begin (404 : Int32) σ) (fun s118 => some s118)) = some σ'
          rw [show (404 : Int32) = iN 404 from rfl, a1, Option.bind_some]
        | some r =>
          have hr8 := q_res_lt hr
          have hxS := (xB_r r hr8).2
          simp only [Option.map_some, x_opt]
          by_cases m2 : me < 2
          · rw [decide_eq_true m2]
            simp only [m2, if_true]
            obtain ⟨σ', a1, a2⟩ := c_read h hs hb hc hm hq hr8
            have fp := fp_Answer_read _ _ a1
            refine ⟨σ', ?_, ?_, ?_⟩
            · rw [if_neg (show ¬ bi true = 0 by decide), if_pos hxS, a1, Option.bind_some]
            · cases hS : S r with
              | none => rw [hS] at a2; exact a2
              | some v => rw [hS] at a2; exact a2
            · have := hs.fp fp (by simp) (by simp)
              cases hS : S r with
              | none => exact this
              | some v => exact this
          · rw [decide_eq_false m2, if_pos (show bi false = 0 from rfl), if_pos e7]
            simp only [m2, if_false]
            have fin : ∀ {num : Nat} {s : St} {S' : Site} {chg' : Nat} {Q : Rs × Site × Nat}, Q.1 = rs0 num → Cs s Q.2.1 Q.2.2 → ∃ σ', (Option.bind (x_Answer_begin (iN num) s) (fun s154 => some s154)) = some σ' ∧ CA σ' Q.1 ∧ Cs σ' Q.2.1 Q.2.2 := by
              intro num s S' chg' Q h1 h2
              obtain ⟨σ', a1, a2, a3⟩ := CA.new (σ := σ) h2 num
              refine ⟨σ', ?_, by rw [h1]; exact a2, a3⟩
              rw [a1, Option.bind_some]
            by_cases e2 : me = 2
            · subst e2
              rw [if_pos rfl, if_pos hxS]
              obtain ⟨num, s1, a1, a2, a3⟩ := c_replace h hs hb hc hB hr8
              rw [a1, x_bind2_some]
              exact fin (S' := S) (chg' := chg) a2 a3
            · rw [if_neg (ne 2 e2), if_pos e7]
              by_cases e3 : me = 3
              · subst e3
                rw [if_pos rfl, if_pos hxS]
                obtain ⟨num, s1, a1, a2, a3⟩ := c_extend F nf hs hb hc hB hr8
                rw [a1, x_bind2_some]
                exact fin (S' := S) (chg' := chg) a2 a3
              · have e4 : me = 4 := by omega
                subst e4
                rw [if_neg (ne 3 e3), if_pos hxS]
                obtain ⟨num, s1, a1, a2, a3⟩ := c_remove F nf Bd hs hb hc hr8
                rw [a1, x_bind2_some]
                exact fin (S' := S) (chg' := chg) a2 a3
      by_cases m2 : me < 2
      · by_cases p1 : P.length = 1
        · rw [if_pos (show me < 2 ∧ P.length = 1 from ⟨m2, p1⟩), decide_eq_true m2, if_neg (show ¬ bi true = 0 by decide), if_pos (show iN P.length = 1 by rw [p1]; rfl)]
          obtain ⟨s1, a1, a2⟩ := c_list hs hb hc
          have fp1 := fp_Answer_list _ a1
          have hs1 : Cs s1 S chg := hs.of (fp1.1 _ _ (by simp)) (fun L hL => ⟨_, a2⟩) (fun r hr => ⟨fp1.1 _ _ (by simp <;> omega), fp1.1 _ _ (by simp <;> omega), fp1.2.1 _ (by simp <;> omega)⟩)
          obtain ⟨s2, b1, b2, b3⟩ := c_show a2 (by decide) hm
          have fp2 := fp_Answer_show _ _ _ b1
          refine ⟨s2, ?_, ⟨b2, q_list S 0 8, ?_⟩, hs1.fp fp2 (by simp) (by simp)⟩
          · rw [a1, Option.bind_some, b1, Option.bind_some]
          · rw [b3]
            refine ⟨xB46, by decide, Or.inl rfl, a2.of (fp2.1 _ _ (by simp)) (fp2.2.1 _ (by simp)), ?_, ?_⟩
            · show (if me = 0 then (q_list S 0 8).length else 0) ≤ (q_list S 0 8).length
              split <;> omega
            · show (if me = 0 then q_list S 0 8 else []) = o_bd (q_list S 0 8) 0 (if me = 0 then (q_list S 0 8).length else 0)
              by_cases m0 : me = 0
              · rw [if_pos m0, if_pos m0, o_bd_all]
              · rw [if_neg m0, if_neg m0, o_bd_z]
        · have hno : ¬ (me < 2 ∧ P.length = 1) := fun z => p1 z.2
          rw [if_neg hno]
          obtain ⟨σ', a1, a2⟩ := rest hno
          rw [decide_eq_true m2] at a1 ⊢
          rw [if_neg (show ¬ bi true = 0 by decide), if_neg (show ¬ iN P.length = 1 from mt (iN_1e (by omega)).mp p1)]
          exact ⟨σ', a1, a2⟩
      · have hno : ¬ (me < 2 ∧ P.length = 1) := fun z => m2 z.1
        rw [if_neg hno]
        obtain ⟨σ', a1, a2⟩ := rest hno
        rw [decide_eq_false m2] at a1 ⊢
        rw [if_pos (show bi false = 0 from rfl)]
        exact ⟨σ', a1, a2⟩
