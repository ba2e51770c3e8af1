/-! the reference tells and changes -/
theorem m_87 {σ : St} {nf : Nat} {F : Nat → Ln} (hF : Mf σ nf F) (a1 l2 l3 l4 l5 : Int32) : ∀ d k fuel, k + d = nf → d < fuel → f_ix F (wd_ 17) k d < nf → ∃ s b, xFp [(51, 26)] [63, 64] (false, false, false) σ s ∧ b + (f_val (F (f_ix F (wd_ 17) k d))).length ≤ 960 ∧ Mr s 59 b (f_val (F (f_ix F (wd_ 17) k d))).length (fun j => (f_val (F (f_ix F (wd_ 17) k d))).getD j 0) ∧ x_Model_tell_87 a1 fuel l2 l3 l4 l5 (iN k) σ = x_Model_tell_183 a1 x_fuel l2 l3 l4 l5 (iN b) (iN (b + (f_val (F (f_ix F (wd_ 17) k d))).length)) (iN b) s := by
  have hn := hF.2.1
  intro d
  induction d with
  | zero =>
    intro k fuel hk hf hx
    rw [f_ix] at hx
    omega
  | succ d ih =>
    intro k fuel hk hf hx
    obtain ⟨z, rfl⟩ := x_fuelS (show 0 < fuel by omega)
    have e := m_isNamed hF MW_70 (show k < nf by omega)
    rw [f_ix] at hx ⊢
    cases hnm : f_nm (F k) (wd_ 17)
    · rw [hnm] at hx e
      simp only [Bool.false_eq_true, if_false] at hx ⊢
      obtain ⟨s, b, h1, h2, h3, h4⟩ := ih (k + 1) z (by omega) (by omega) hx
      refine ⟨s, b, h1, h2, h3, ?_⟩
      rw [← h4, x_Model_tell_87, show (70 : Int32) = iN 70 from rfl, e, Option.bind_some, if_pos (show bi false = 0 from rfl)]
      simp only [x_let]
      rw [iN_1a]
    · rw [hnm] at e
      simp only [if_true]
      obtain ⟨⟨a, b, c⟩, q2, q3, q4⟩ := hF.2.2 k (by omega)
      obtain ⟨s1, n1, n2, n3⟩ := m_value hF (show k < nf by omega)
      have hv := f_v_le (hF.2.2 k (by omega)).1
      have run : x_Model_tell_87 a1 (z + 1) l2 l3 l4 l5 (iN k) σ = if (s1.1 51 26) ≤ 0 then x_Model_tell_158 a1 l2 l3 l4 l5 (0 : Int32) s1 else (if x_in (0 : Int32) 512 then x_Model_tell_158 a1 l2 l3 l4 l5 (s1.2.1 63 (0 : Int32).toNatClampNeg) s1 else none) := by
        rw [x_Model_tell_87, show (70 : Int32) = iN 70 from rfl, e, Option.bind_some, if_neg (show ¬ bi true = 0 by decide)]
        simp only [x_let]
        rw [if_pos ((iN_in (by omega)).mpr (by omega)), if_pos ((iN_in (by omega)).mpr (by omega)), iN_clamp (by omega), show (x_updR σ 51 26 0).2.1 60 k = iN (f_c (F k)) from q2, show (x_updR σ 51 26 0).2.1 61 k = iN (F k).1 from q3, show (80 : Int32) * iN k = iN (80 * k) from iN_mul 80 k, iN_add, iN_1a, iN_add, n1, Option.bind_some]
      by_cases hb : f_vb (F k) < f_ve (F k)
      · rw [if_pos hb] at n2
        obtain ⟨m1, m2⟩ := n2
        obtain ⟨b', p1, p2, p3, p4, p5⟩ := m2 0 (by simp)
        rw [show ([sl (F k).2 (f_vb (F k)) (f_ve (F k) - f_vb (F k))] : List (List Nat)).getD 0 [] = f_val (F k) from rfl] at p2 p3 p4 p5
        have m1' : s1.1 51 26 = 1 := m1
        refine ⟨s1, b', n3, p3, p4, ?_⟩
        rw [run, m1', if_neg (by decide), if_pos (show x_in 0 512 by decide), show (0 : Int32).toNatClampNeg = 0 from rfl, p1]
        unfold x_Model_tell_158 x_Model_tell_177
        rw [m1', if_neg (by decide), if_pos (show x_in 0 512 by decide), show (0 : Int32).toNatClampNeg = 0 from rfl, p2]
      · rw [if_neg hb] at n2
        have m1' : s1.1 51 26 = 0 := n2.1
        have hs : (f_val (F k)).length = 0 := by rw [f_val_len]; omega
        refine ⟨s1, 0, n3, by omega, fun j hj => by omega, ?_⟩
        rw [run, m1', if_pos (by decide), hs]
        unfold x_Model_tell_158 x_Model_tell_177
        rw [m1', if_pos (by decide)]
        rfl
theorem Mv.fp {σ σ' : St} {last : Bool} {mi me : Nat} {R : List (Nat × Nat)} {M : List Nat} {f : Bool × Bool × Bool} (h : Mv σ last mi me) (fp : xFp R M f σ σ') (h1 : (51, 16) ∉ R) (h2 : (51, 15) ∉ R) (h3 : (51, 12) ∉ R) : Mv σ' last mi me := ⟨by rw [fp.1 _ _ h1]; exact h.1, ⟨by rw [fp.1 _ _ h2]; exact h.2.1.1, h.2.1.2⟩, by rw [fp.1 _ _ h3]; exact h.2.2.1, h.2.2.2⟩
theorem MR.pre {σ s σ' : St} {O : List Nat} {R : Rs} {last : Bool} {mi : Nat} {S : Site} {chg : Nat} (h : MR s σ' O R last mi S chg) (e : s.1 51 30 = σ.1 51 30) : MR σ σ' O R last mi S chg := ⟨h.1, h.2.1, h.2.2.1, h.2.2.2.1, by rw [h.2.2.2.2, e]⟩
theorem m_tell {σ : St} {nf : Nat} {F : Nat → Ln} (hF : Mf σ nf F) {O : List Nat} (hO : Mo σ O) (hb : O.length + 2000 < 2000000000) {mi me : Nat} {last : Bool} (hV : Mv σ last mi (m_offN me)) (hm : me < 2) {S : Site} {chg : Nat} (hs : Ms σ S chg) (hSb : Sb S chg) (hc : chg < 1000000000) {r : Nat} (hr : r < 8) : ∃ σ', x_Model_tell (iN r) σ = some σ' ∧ MR σ σ' O (match S r with
    | none => rs0 404
    | some (mq, B) => q_read me mq B F nf) last mi S chg := by
  have hn := hF.2.1
  have off : m_offN me = 121 ↔ me = 0 := by
    rcases (show me = 0 ∨ me = 1 by omega) with h | h <;> rw [h] <;> decide
  have al : ∀ num, ¬ num = 405 → m_alw num (m_offN me) = false := by
    intro num hnum
    unfold m_alw
    rw [decide_eq_false hnum]
    rcases (show me = 0 ∨ me = 1 by omega) with h | h <;> rw [h] <;> simp [m_offN]
  have hin : x_in (iN r) 8 := (iN_in (by omega)).mpr hr
  unfold x_Model_tell
  simp only [if_pos hin, iN_clamp (show r < 2147483648 by omega)]
  rw [hs.there hr]
  cases hS : S r with
  | none =>
    rw [if_pos (show bi (none : Option (Nat × List Nat)).isSome = 0 from rfl)]
    obtain ⟨σ', a1, a2⟩ := m_rsp hO hb hV (num := 404) (by decide) (by decide) hs (al 404 (by decide)).symm
    refine ⟨σ', ?_, a2⟩
    rw [show (404 : Int32) = iN 404 from rfl, a1, Option.bind_some]
  | some v =>
    obtain ⟨mq, B⟩ := v
    obtain ⟨k1, k2, k3⟩ := hSb r mq B hr hS
    obtain ⟨g1, g2, g3, g4⟩ := (hs.2 r hr).2 mq B hS
    rw [if_neg (show ¬ bi (some (mq, B)).isSome = 0 from (by decide : ¬ bi true = 0))]
    obtain ⟨s1, a1⟩ := m_isKnown hF hr g2 (by omega)
    have fp1 := fp_Model_isKnown _ _ a1
    rw [a1, x_bind2_some]
    have hO1 : Mo s1 O := hO.of (fp1.1 _ _ (by simp)) (fp1.2.1 _ (by simp))
    have hV1 : Mv s1 last mi (m_offN me) := hV.fp fp1 (by simp) (by simp) (by simp)
    have hs1 : Ms s1 S chg := hs.of (fp1.1 _ _ (by simp)) (fp1.2.1 _ (by simp)) (fp1.2.1 _ (by simp)) (fp1.2.1 _ (by simp)) (fp1.2.1 _ (by simp))
    have hF1 : Mf s1 nf F := hF.of (fp1.1 _ _ (by simp)) (fp1.2.1 _ (by simp)) (fp1.2.1 _ (by simp)) (fp1.2.1 _ (by simp))
    have e30 : s1.1 51 30 = σ.1 51 30 := fp1.1 _ _ (by simp)
    show ∃ σ', _ ∧ MR σ σ' O (q_read me mq B F nf) last mi S chg
    unfold q_read
    cases hk : q_known F nf mq
    · rw [if_pos (show bi false = 0 from rfl)]
      simp only [x_let, Bool.false_eq_true, if_false]
      rw [fp1.2.1 55 (by simp), g3, hV1.2.2.1]
      -- all of it
      have whole : ∃ σ', x_Model_tell_465 (iN r) (iN B.length) 0 (iN B.length) 200 s1 = some σ' ∧ MR σ σ' O (200, B.length, some mq, 0, if me = 0 then B.length else 0, 0, false, if me = 0 then B else []) last mi S chg := by
        obtain ⟨σ', b1, b2⟩ := m_465 hO1 hb hV1 hs1 hSb hc hr hS (num := 200) (fr := 0) (ti := B.length) (frm := 0) (til := if me = 0 then B.length else 0) (Or.inl rfl) (Nat.zero_le _) (Nat.le_refl _) (fun z => by cases z) 0 (fun z => by cases z)
        refine ⟨σ', b1, ?_⟩
        rw [o_bd_all, Nat.sub_zero] at b2
        by_cases m0 : me = 0
        · rw [if_pos (off.mpr m0)] at b2
          simp only [m0, if_true] at b2 ⊢
          exact b2.pre e30
        · rw [if_neg (mt off.mp m0)] at b2
          simp only [m0, if_false] at b2 ⊢
          exact b2.pre e30
      by_cases m0 : me = 0
      · rw [if_pos (show iN (m_offN me) = 121 by rw [off.mpr m0]; rfl), show (70 : Int32) = iN 70 from rfl, m_count hF1 MW_70, Option.bind_some]
        simp only [m0, if_true] at whole ⊢
        unfold q_rf
        by_cases c1 : f_cnt F (wd_ 17) 0 nf = 1
        · rw [if_pos (show iN (f_cnt F (wd_ 17) 0 nf) = 1 by rw [c1]; rfl)]
          simp only [c1, if_true]
          have hx : f_ix F (wd_ 17) 0 nf < nf := by
            have := mt (f_ix_cnt F (wd_ 17) nf 0).mpr (by omega)
            have := (f_ix_le F (wd_ 17) nf 0).2
            omega
          obtain ⟨s2, b, c2, c3, c4, c5⟩ := m_87 hF1 (iN r) (iN B.length) 0 (iN B.length) 200 nf 0 x_fuel (by omega) (by unfold x_fuel; omega) hx
          rw [show iN 0 = (0 : Int32) from rfl] at c5
          rw [c5, m_form c3 c4 k3]
          have hO2 : Mo s2 O := hO1.of (c2.1 _ _ (by simp)) (c2.2.1 _ (by simp))
          have hV2 : Mv s2 last mi (m_offN me) := hV1.fp c2 (by simp) (by simp) (by simp)
          have hs2 : Ms s2 S chg := hs1.of (c2.1 _ _ (by simp)) (c2.2.1 _ (by simp)) (c2.2.1 _ (by simp)) (c2.2.1 _ (by simp)) (c2.2.1 _ (by simp))
          have e302 : s2.1 51 30 = σ.1 51 30 := by rw [c2.1 _ _ (by simp)]; exact e30
          cases hq : q_rg (f_val (F (f_ix F (wd_ 17) 0 nf))) with
          | none =>
            obtain ⟨σ', b1, b2⟩ := m_465 hO2 hb hV2 hs2 hSb hc hr hS (num := 200) (fr := 0) (ti := B.length) (frm := 0) (til := B.length) (Or.inl rfl) (Nat.zero_le _) (Nat.le_refl _) (fun z => by cases z) 0 (fun z => by cases z)
            rw [o_bd_all, Nat.sub_zero, if_pos (off.mpr m0)] at b2
            exact ⟨σ', b1, b2.pre e302⟩
          | some v =>
            obtain ⟨fi, la⟩ := v
            have ok := q_rg_ok hq
            show ∃ σ', x_Model_tell_465 (iN r) (iN B.length) (iN (q_fr fi la B.length)) (iN (q_ti fi la B.length)) (iN (if q_far fi B.length then 416 else 206)) s2 = some σ' ∧ MR σ σ' O (if q_far fi B.length = true then (416, 0, none, 0, 0, B.length, false, []) else (206, q_ti fi la B.length - q_fr fi la B.length, some mq, q_fr fi la B.length, q_ti fi la B.length, B.length, false, o_bd B (q_fr fi la B.length) (q_ti fi la B.length))) last mi S chg
            cases hfar : q_far fi B.length
            · have rl := rg_le ok hfar
              obtain ⟨σ', b1, b2⟩ := m_465 hO2 hb hV2 hs2 hSb hc hr hS (num := 206) (fr := q_fr fi la B.length) (ti := q_ti fi la B.length) (frm := q_fr fi la B.length) (til := q_ti fi la B.length) (Or.inr rfl) rl.1 rl.2.1 (fun _ => ⟨rfl, rfl, rl.2.2⟩) B.length (fun _ => rfl)
              rw [if_pos (off.mpr m0)] at b2
              exact ⟨σ', b1, b2.pre e302⟩
            · obtain ⟨σ', b1, b2, b3, b4, b5⟩ := m_respond hO2 (by omega) hV2 (num := 416) (told := 0) (whole := B.length) (frm := 0) (til := 0) (tag := none) (by decide) (by decide) (by omega) (-1) 0 (fun t z => by cases z) (fun z => by cases z)
              have fp := fp_Model_respond _ _ _ _ _ _ _ b1
              have b1' : x_Model_respond (416 : Int32) 0 (-1) (-1) 0 (iN B.length) s2 = some σ' := b1
              refine ⟨σ', ?_, ?_, hs2.of (fp.1 _ _ (by simp)) (fp.2.1 _ (by simp)) (fp.2.1 _ (by simp)) (fp.2.1 _ (by simp)) (fp.2.1 _ (by simp)), b3, b4, by rw [b5, e302]⟩
              · unfold x_Model_tell_465
                rw [if_pos (show iN (if true = true then 416 else 206) = 416 from rfl), b1', Option.bind_some]
              · rw [al 416 (by decide)] at b2
                unfold o_all
                simp only [if_true, List.append_nil]
                exact b2
        · have hcl := f_cnt_le F (wd_ 17) nf 0
          rw [if_neg (mt (iN_1e (by omega)).mp c1)]
          simp only [c1, if_false]
          exact whole
      · rw [if_neg (show ¬ iN (m_offN me) = 121 from fun z => m0 (off.mp ((iN_eq (b := 121) (by have := m_offN_lt me (by omega); omega) (by decide)).mp z)))]
        simp only [m0, if_false] at whole ⊢
        exact whole
    · rw [if_neg (show ¬ bi true = 0 by decide), fp1.2.1 54 (by simp), g2]
      simp only [if_true]
      obtain ⟨σ', b1, b2, b3, b4, b5⟩ := m_respond hO1 (by omega) hV1 (num := 304) (told := 0) (whole := 0) (frm := 0) (til := 0) (tag := some mq) (by decide) (by decide) (by decide) (-1) 0 (fun t z => by cases z; omega) (fun z => by cases z)
      have fp := fp_Model_respond _ _ _ _ _ _ _ b1
      have b1' : x_Model_respond (304 : Int32) 0 (iN mq) (-1) 0 0 s1 = some σ' := b1
      refine ⟨σ', ?_, ?_, hs1.of (fp.1 _ _ (by simp)) (fp.2.1 _ (by simp)) (fp.2.1 _ (by simp)) (fp.2.1 _ (by simp)) (fp.2.1 _ (by simp)), b3, b4, by rw [b5, e30]⟩
      · rw [b1', Option.bind_some]
      · rw [al 304 (by decide)] at b2
        unfold o_all
        simp only [List.append_nil]
        exact b2
/-- the body is copied into a resource -/
theorem m_132 {Bd : List Nat} {r at_ : Nat} (hr : r < 8) (ha : at_ + Bd.length ≤ 200) (l3 : Int32) : ∀ d i fuel (σ : St), i + d = Bd.length → d < fuel → σ.1 51 22 = iN Bd.length → (∀ j, j < Bd.length → σ.2.1 62 j = iN (Bd.getD j 0)) → (∀ j, j < i → σ.2.1 56 (200 * r + at_ + j) = iN (Bd.getD j 0)) → ∃ s y, x_Model_change_132 (iN r) fuel l3 (iN at_) (iN i) σ = x_Model_change_132 (iN r) (y + 1) l3 (iN at_) (iN Bd.length) s ∧ xFp [] [56] (false, false, false) σ s ∧ (∀ j, j < Bd.length → s.2.1 56 (200 * r + at_ + j) = iN (Bd.getD j 0)) ∧ (∀ p, (p < 200 * r + at_ ∨ 200 * r + at_ + Bd.length ≤ p) → s.2.1 56 p = σ.2.1 56 p) := by
  intro d
  induction d with
  | zero =>
    intro i fuel σ hi hf h22 hB hC
    obtain ⟨z, rfl⟩ := x_fuelS (show 0 < fuel by omega)
    rw [show i = Bd.length by omega] at hC ⊢
    exact ⟨σ, z, rfl, xFp.rf, hC, fun _ _ => rfl⟩
  | succ d ih =>
    intro i fuel σ hi hf h22 hB hC
    obtain ⟨z, rfl⟩ := x_fuelS (show 0 < fuel by omega)
    generalize hs1 : x_updM σ 56 (200 * r + at_ + i) (iN (Bd.getD i 0)) = s1
    obtain ⟨s, y, e1, e2, e3, e4⟩ := ih (i + 1) z s1 (by omega) (by omega) (by rw [← hs1]; exact h22) (fun j hj => by rw [← hs1]; simp [x_updM]; exact hB j hj) (fun j hj => by
      rw [← hs1]
      show (if 56 = 56 ∧ 200 * r + at_ + j = 200 * r + at_ + i then iN (Bd.getD i 0) else σ.2.1 56 (200 * r + at_ + j)) = _
      by_cases q : j = i
      · rw [if_pos ⟨rfl, by omega⟩, q]
      · rw [if_neg (fun z => q (by omega))]
        exact hC j (by omega))
    refine ⟨s, y, ?_, (xFp.M hs1.symm (by simp)).tr e2, e3, fun p hp => ?_⟩
    · rw [← e1, x_Model_change_132, h22, if_neg (mt (iN_le (by omega) (by omega)).mp (by omega)), if_pos ((iN_in (by omega)).mpr (by omega)), show (200 : Int32) * iN r = iN (200 * r) from iN_mul 200 r, iN_add, iN_add, if_pos ((iN_in (by omega)).mpr (by omega)), iN_clamp (by omega), iN_clamp (by omega), hB i (by omega), hs1]
      simp only [x_let]
      rw [iN_1a]
    · rw [e4 p hp, ← hs1]
      exact if_neg (fun z => by omega)
theorem nar_0 : vp_nar .boolean (0 : Int32) = 0 := rfl
theorem nar_1 : vp_nar .boolean (1 : Int32) = 1 := rfl
/-- a resource changes and is answered -/
theorem m_done {σ : St} {O : List Nat} (hO : Mo σ O) (hb : O.length + 2000 < 2000000000) {mi me : Nat} {last : Bool} (hV : Mv σ last mi (m_offN me)) (hm : me < 5) {S : Site} {chg : Nat} (hs : Ms σ S chg) (hSb : Sb S chg) (hc : chg + 1 < 1000000000) {r : Nat} (hr : r < 8) {Bd A : List Nat} (h22 : σ.1 51 22 = iN Bd.length) (hB : ∀ j, j < Bd.length → σ.2.1 62 j = iN (Bd.getD j 0)) (hA : ∀ j, j < A.length → σ.2.1 56 (200 * r + j) = iN (A.getD j 0)) (hl : A.length + Bd.length ≤ 200) {num : Nat} (hnum : num = 201 ∨ num = 204) : ∃ σ', x_Model_change_127 (iN r) (iN num) (iN A.length) σ = some σ' ∧ MR σ σ' O (rs0 num) last mi (s_set S r (if me = 4 then none else some (chg + 1, A ++ Bd))) (chg + 1) := by
  have off : m_offN me = 139 ↔ me = 4 := by
    rcases (show me = 0 ∨ me = 1 ∨ me = 2 ∨ me = 3 ∨ me = 4 by omega) with h | h | h | h | h <;> rw [h] <;> decide
  have off2 := m_offN_lt me (by omega)
  have al : m_alw num (m_offN me) = false := by
    unfold m_alw
    have : ¬ m_offN me = 146 := mt (m_offN_5 me (by omega)).mp (by omega)
    rw [decide_eq_false this, decide_eq_false (show ¬ num = 405 by omega)]
    simp
  obtain ⟨s1, y, e1, e2, e3, e4⟩ := m_132 (Bd := Bd) hr (at_ := A.length) hl (iN num) Bd.length 0 x_fuel σ (by omega) (by unfold x_fuel; omega) h22 hB (fun j hj => absurd hj (Nat.not_lt_zero j))
  unfold x_Model_change_127
  rw [show (0 : Int32) = iN 0 from rfl, e1, x_Model_change_132, e2.1 51 22 (by simp), h22, if_pos ((iN_le (by omega) (by omega)).mpr (Nat.le_refl _)), if_pos ((iN_in (by omega)).mpr (by omega)), iN_clamp (by omega), iN_add]
  simp only [x_let]
  rw [show (x_updM s1 55 r (iN (A.length + Bd.length))).1 51 12 = iN (m_offN me) by show s1.1 51 12 = _; rw [e2.1 51 12 (by simp)]; exact hV.2.2.1]
  have e6 : s1.1 51 6 = iN chg := by rw [e2.1 _ _ (by simp)]; exact hs.1
  -- the last steps
  have fin : ∀ t : Bool, (t = true ↔ ¬ me = 4) → ∃ σ', x_Model_change_203 (iN r) (iN num) (bi t) (iN r) (x_updM s1 55 r (iN (A.length + Bd.length))) = some σ' ∧ MR σ σ' O (rs0 num) last mi (s_set S r (if me = 4 then none else some (chg + 1, A ++ Bd))) (chg + 1) := by
    intro t ht
    unfold x_Model_change_203 x_Model_change_224
    have hin : x_in (iN r) 8 := (iN_in (by omega)).mpr hr
    simp only [if_pos hin, iN_clamp (show r < 2147483648 by omega), x_let]
    rw [show vp_nar .boolean (bi t) = bi t by cases t; (· exact nar_0); exact nar_1]
    rw [show (x_updM (x_updM s1 55 r (iN (A.length + Bd.length))) 53 r (bi t)).1 51 6 = iN chg from e6, iN_1a]
    generalize hs2 : x_updR (x_updM (x_updM s1 55 r (iN (A.length + Bd.length))) 53 r (bi t)) 51 6 (iN (chg + 1)) = s2
    rw [show s2.1 51 6 = iN (chg + 1) by rw [← hs2]; simp [x_updR]]
    generalize hs3 : x_updM s2 54 r (iN (chg + 1)) = s3
    have r1 : ∀ j, ¬ j = 6 → s3.1 51 j = σ.1 51 j := by
      intro j hj
      rw [← hs3, ← hs2]
      show (if 51 = 51 ∧ j = 6 then iN (chg + 1) else s1.1 51 j) = _
      rw [if_neg (fun z => hj z.2), e2.1 _ _ (by simp)]
    have c53 : ∀ k, s3.2.1 53 k = if k = r then bi t else σ.2.1 53 k := by
      intro k
      rw [← hs3, ← hs2]
      simp only [x_updM, x_updR, e2.2.1 53 (by simp)]
      by_cases q : k = r <;> simp [q]
    have c54 : ∀ k, s3.2.1 54 k = if k = r then iN (chg + 1) else σ.2.1 54 k := by
      intro k
      rw [← hs3, ← hs2]
      simp only [x_updM, x_updR, e2.2.1 54 (by simp)]
      by_cases q : k = r <;> simp [q]
    have c55 : ∀ k, s3.2.1 55 k = if k = r then iN (A.length + Bd.length) else σ.2.1 55 k := by
      intro k
      rw [← hs3, ← hs2]
      simp only [x_updM, x_updR, e2.2.1 55 (by simp)]
      by_cases q : k = r <;> simp [q]
    have c56 : s3.2.1 56 = s1.2.1 56 := by
      rw [← hs3, ← hs2]
      funext k
      simp [x_updM, x_updR]
    have hO3 : Mo s3 O := hO.of (r1 31 (by decide)) (by rw [← hs3, ← hs2]; funext k; simp [x_updM, x_updR, e2.2.1 65 (by simp)])
    have hV3 : Mv s3 last mi (m_offN me) := ⟨by rw [r1 16 (by decide)]; exact hV.1, ⟨by rw [r1 15 (by decide)]; exact hV.2.1.1, hV.2.1.2⟩, by rw [r1 12 (by decide)]; exact hV.2.2.1, hV.2.2.2⟩
    have hs3' : Ms s3 (s_set S r (if me = 4 then none else some (chg + 1, A ++ Bd))) (chg + 1) := by
      refine ⟨by rw [← hs3, ← hs2]; simp [x_updM, x_updR], fun k hk => ?_⟩
      by_cases q : k = r
      · subst q
        rw [s_set_eq, c53, c54, c55, c56, if_pos rfl, if_pos rfl, if_pos rfl]
        by_cases m4 : me = 4
        · rw [if_pos m4]
          refine ⟨fun _ => ?_, fun mq B z => by cases z⟩
          cases t
          · rfl
          · exact absurd m4 (ht.mp rfl)
        · rw [if_neg m4]
          refine ⟨fun z => (by cases z), fun mq B z => ?_⟩
          cases z
          refine ⟨by rw [ht.mpr m4]; rfl, rfl, by rw [List.length_append], fun i hi => ?_⟩
          rw [List.length_append] at hi
          rw [getD_app2]
          by_cases w : A.length ≤ i
          · rw [if_pos w]
            have := e3 (i - A.length) (by omega)
            rw [show 200 * k + A.length + (i - A.length) = 200 * k + i by omega] at this
            exact this
          · rw [if_neg w, e4 _ (by omega)]
            exact hA i (by omega)
      · rw [s_set_ne q, c53, c54, c55, c56, if_neg q, if_neg q, if_neg q]
        refine ⟨(hs.2 k hk).1, fun mq B z => ?_⟩
        obtain ⟨w1, w2, w3, w4⟩ := (hs.2 k hk).2 mq B z
        have hbl := (hSb k mq B hk z).2.2
        refine ⟨w1, w2, w3, fun i hi => ?_⟩
        rw [e4 _ (by omega)]
        exact w4 i hi
    obtain ⟨σ', f1, f2⟩ := m_rsp hO3 hb hV3 (num := num) (by omega) (by omega) hs3' al.symm
    refine ⟨σ', ?_, f2.pre (r1 30 (by decide))⟩
    rw [f1, Option.bind_some]
  by_cases m4 : me = 4
  · rw [if_pos (show iN (m_offN me) = 139 by rw [off.mpr m4]; rfl)]
    exact fin false ⟨fun z => (by cases z), fun z => absurd m4 z⟩
  · rw [if_neg (show ¬ iN (m_offN me) = 139 from mt (iN_eq (b := 139) (by omega) (by decide)).mp (mt off.mp m4))]
    exact fin true ⟨fun _ => m4, fun _ => rfl⟩

theorem m_change {σ : St} {nf : Nat} {F : Nat → Ln} (hF : Mf σ nf F) {O : List Nat} (hO : Mo σ O) (hb : O.length + 2000 < 2000000000) {mi me : Nat} {last : Bool} (hV : Mv σ last mi (m_offN me)) (hm : 2 ≤ me ∧ me < 5) {S : Site} {chg : Nat} (hs : Ms σ S chg) (hSb : Sb S chg) (hc : chg + 1 < 1000000000) {r : Nat} (hr : r < 8) {Bd : List Nat} (h22 : σ.1 51 22 = iN Bd.length) (hB : ∀ j, j < Bd.length → σ.2.1 62 j = iN (Bd.getD j 0)) (hl : Bd.length ≤ 200) : ∃ σ', x_Model_change (iN r) σ = some σ' ∧ MR σ σ' O (q_chg me r Bd F nf S chg).1 last mi (q_chg me r Bd F nf S chg).2.1 (q_chg me r Bd F nf S chg).2.2 := by
  have hin : x_in (iN r) 8 := (iN_in (by omega)).mpr hr
  have off2 := m_offN_lt me (by omega)
  have al : ∀ num, ¬ num = 405 → m_alw num (m_offN me) = false := by
    intro num hnum
    unfold m_alw
    have : ¬ m_offN me = 146 := mt (m_offN_5 me (by omega)).mp (by omega)
    rw [decide_eq_false this, decide_eq_false hnum]
    simp
  -- only an answer
  have ans : ∀ (s : St) num, 205 ≤ num → num < 1000 → ¬ num = 405 → ¬ num = 206 → Mo s O → Mv s last mi (m_offN me) → Ms s S chg → s.1 51 30 = σ.1 51 30 → ∃ σ', x_Model_change_100 (iN r) (iN num) s = some σ' ∧ MR σ σ' O (rs0 num) last mi S chg := by
    intro s num n1 n2 n3 n4 h1 h2 h3 h4
    obtain ⟨σ', a1, a2⟩ := m_rsp h1 hb h2 (num := num) n2 n4 h3 (al num n3).symm
    refine ⟨σ', ?_, a2.pre h4⟩
    unfold x_Model_change_100 x_Model_change_224
    rw [if_pos (show (205 : Int32) ≤ iN num from (iN_le (a := 205) (by omega) (by omega)).mpr n1), a1, Option.bind_some]
  unfold x_Model_change
  rw [if_pos hin]
  simp only [x_let]
  rw [iN_clamp (show r < 2147483648 by omega), hs.there hr]
  have st : (if bi (S r).isSome = 0 then x_Model_change_20 (iN r) (bi (S r).isSome) 201 σ else x_Model_change_20 (iN r) (bi (S r).isSome) 204 σ) = x_Model_change_20 (iN r) (bi (S r).isSome) (iN (if (S r).isSome then 204 else 201)) σ := by
    cases (S r).isSome <;> rfl
  rw [st]
  unfold x_Model_change_20 x_Model_change_48 x_Model_change_49 x_Model_change_99 x_Model_change_96 x_Model_change_99
  rw [hV.2.2.1]
  have o2 : m_offN me = 130 ↔ me = 2 := by
    rcases (show me = 2 ∨ me = 3 ∨ me = 4 by omega) with h | h | h <;> rw [h] <;> decide
  have o3 : m_offN me = 134 ↔ me = 3 := by
    rcases (show me = 2 ∨ me = 3 ∨ me = 4 by omega) with h | h | h <;> rw [h] <;> decide
  -- PUT and DELETE begin at 0
  have put : ∀ (s : St) num, (num = 201 ∨ num = 204) → ¬ me = 3 → Mo s O → Mv s last mi (m_offN me) → Ms s S chg → s.1 51 30 = σ.1 51 30 → s.1 51 22 = iN Bd.length → s.2.1 62 = σ.2.1 62 → ∃ σ', x_Model_change_100 (iN r) (iN num) s = some σ' ∧ MR σ σ' O (rs0 num) last mi (s_set S r (if me = 4 then none else some (chg + 1, Bd))) (chg + 1) := by
    intro s num hnum m3 h1 h2 h3 h4 h5 h6
    obtain ⟨σ', a1, a2⟩ := m_done h1 hb h2 (by omega) h3 hSb hc hr (A := []) h5 (by rw [h6]; exact hB) (fun j hj => absurd hj (Nat.not_lt_zero j)) (by simp; omega) hnum
    rw [List.nil_append] at a2
    refine ⟨σ', ?_, a2.pre h4⟩
    unfold x_Model_change_100
    rw [if_neg (show ¬ (205 : Int32) ≤ iN num from mt (iN_le (a := 205) (by omega) (by omega)).mp (by omega)), h2.2.2.1, if_neg (show ¬ iN (m_offN me) = 134 from mt (iN_eq (b := 134) (by omega) (by decide)).mp (mt o3.mp m3))]
    exact a1
  unfold q_chg
  by_cases m2 : me = 2
  · rw [if_pos (show iN (m_offN me) = 130 by rw [o2.mpr m2]; rfl), if_pos m2]
    cases hS : S r with
    | none =>
      rw [if_pos (show bi (none : Option (Nat × List Nat)).isSome = 0 from rfl)]
      obtain ⟨σ', a1, a2⟩ := put σ 201 (Or.inl rfl) (by omega) hO hV hs rfl h22 rfl
      rw [if_neg (by omega)] at a2
      exact ⟨σ', a1, a2⟩
    | some v =>
      rw [if_neg (show ¬ bi (some v).isSome = 0 from (by decide : ¬ bi true = 0))]
      obtain ⟨s1, b1⟩ := m_hasStar hF
      have fp := fp_Model_hasStar _ b1
      have hO1 : Mo s1 O := hO.of (fp.1 _ _ (by simp)) (fp.2.1 _ (by simp))
      have hV1 : Mv s1 last mi (m_offN me) := hV.fp fp (by simp) (by simp) (by simp)
      have hs1 : Ms s1 S chg := hs.of (fp.1 _ _ (by simp)) (fp.2.1 _ (by simp)) (fp.2.1 _ (by simp)) (fp.2.1 _ (by simp)) (fp.2.1 _ (by simp))
      rw [b1, x_bind2_some]
      show ∃ σ', _ ∧ MR σ σ' O (if q_star2 F nf = true then (rs0 412, S, chg) else (rs0 204, s_set S r (some (chg + 1, Bd)), chg + 1)).1 last mi (if q_star2 F nf = true then (rs0 412, S, chg) else (rs0 204, s_set S r (some (chg + 1, Bd)), chg + 1)).2.1 (if q_star2 F nf = true then (rs0 412, S, chg) else (rs0 204, s_set S r (some (chg + 1, Bd)), chg + 1)).2.2
      cases hq : q_star2 F nf
      · rw [if_pos (show bi false = 0 from rfl)]
        obtain ⟨σ', a1, a2⟩ := put s1 204 (Or.inr rfl) (by omega) hO1 hV1 hs1 (fp.1 _ _ (by simp)) (by rw [fp.1 _ _ (by simp)]; exact h22) (fp.2.1 _ (by simp))
        rw [if_neg (show ¬ me = 4 by omega)] at a2
        exact ⟨σ', a1, a2⟩
      · rw [if_neg (show ¬ bi true = 0 by decide)]
        exact ans s1 412 (by decide) (by decide) (by decide) (by decide) hO1 hV1 hs1 (fp.1 _ _ (by simp))
  · rw [if_neg (show ¬ iN (m_offN me) = 130 from mt (iN_eq (b := 130) (by omega) (by decide)).mp (mt o2.mp m2)), if_neg m2]
    cases hS : S r with
    | none =>
      rw [if_pos (show bi (none : Option (Nat × List Nat)).isSome = 0 from rfl)]
      exact ans σ 404 (by decide) (by decide) (by decide) (by decide) hO hV hs rfl
    | some v =>
      obtain ⟨mq, B⟩ := v
      obtain ⟨k1, k2, k3⟩ := hSb r mq B hr hS
      obtain ⟨g1, g2, g3, g4⟩ := (hs.2 r hr).2 mq B hS
      rw [if_neg (show ¬ bi (some (mq, B)).isSome = 0 from (by decide : ¬ bi true = 0))]
      by_cases m3 : me = 3
      · rw [if_pos (show iN (m_offN me) = 134 by rw [o3.mpr m3]; rfl), if_pos hin, iN_clamp (show r < 2147483648 by omega), g3, h22, iN_add]
        simp only [m3, if_true]
        by_cases q : 200 < B.length + Bd.length
        · rw [if_neg (show ¬ iN (B.length + Bd.length) ≤ 200 from mt (iN_le (b := 200) (by omega) (by omega)).mp (by omega))]
          simp only [q, if_true]
          exact ans σ 413 (by decide) (by decide) (by decide) (by decide) hO hV hs rfl
        · rw [if_pos (show iN (B.length + Bd.length) ≤ 200 from (iN_le (b := 200) (by omega) (by omega)).mpr (by omega))]
          simp only [q, if_false]
          obtain ⟨σ', a1, a2⟩ := m_done hO hb hV (by omega) hs hSb hc hr (A := B) h22 hB g4 (by omega) (Or.inr rfl)
          rw [if_neg (show ¬ me = 4 by omega)] at a2
          refine ⟨σ', ?_, a2⟩
          unfold x_Model_change_100
          rw [if_neg (show ¬ (205 : Int32) ≤ 204 by decide), hV.2.2.1, if_pos (show iN (m_offN me) = 134 by rw [o3.mpr m3]; rfl), if_pos hin, iN_clamp (show r < 2147483648 by omega), g3]
          exact a1
      · have m4 : me = 4 := by omega
        rw [if_neg (show ¬ iN (m_offN me) = 134 from mt (iN_eq (b := 134) (by omega) (by decide)).mp (mt o3.mp m3))]
        simp only [m3, if_false]
        obtain ⟨σ', a1, a2⟩ := put σ 204 (Or.inr rfl) m3 hO hV hs rfl h22 rfl
        rw [if_pos m4] at a2
        exact ⟨σ', a1, a2⟩
theorem m_answer {σ : St} {nf : Nat} {F : Nat → Ln} (hF : Mf σ nf F) {O : List Nat} (hO : Mo σ O) (hb : O.length + 2000 < 2000000000) {mi me : Nat} {last : Bool} (hV : Mv σ last mi (m_offN me)) (hm : me < 7) {S : Site} {chg : Nat} (hs : Ms σ S chg) (hSb : Sb S chg) (hc : chg + 1 < 1000000000) {Bd : List Nat} (h22 : σ.1 51 22 = iN Bd.length) (hB : ∀ j, j < Bd.length → σ.2.1 62 j = iN (Bd.getD j 0)) (hl : Bd.length ≤ 200) {tn : Nat} {tg : Nat → Nat} (h13 : σ.1 51 13 = iN tn) (ht : tn ≤ 80) (hT : ∀ j, j < tn → σ.2.1 58 j = iN (tg j) ∧ tg j < 256) (hv : s_tgt tg 0 tn = true) (h47 : ¬ me = 5 → (q_dec tg tn tn 0).getD 0 0 = 47) : ∃ σ', x_Model_answer σ = some σ' ∧ MR σ σ' O (q_ans me (q_dec tg tn tn 0) F nf Bd S chg).1 last mi (q_ans me (q_dec tg tn tn 0) F nf Bd S chg).2.1 (q_ans me (q_dec tg tn tn 0) F nf Bd S chg).2.2 ∧ σ'.1 51 8 = 0 := by
  have off2 := m_offN_lt me hm
  have key : ∃ σ', x_Model_answer σ = some σ' ∧ MR σ σ' O (q_ans me (q_dec tg tn tn 0) F nf Bd S chg).1 last mi (q_ans me (q_dec tg tn tn 0) F nf Bd S chg).2.1 (q_ans me (q_dec tg tn tn 0) F nf Bd S chg).2.2 ∧ xFp [(51, 31), (51, 7), (51, 29), (51, 30), (51, 6), (51, 26)] [65, 53, 54, 55, 56, 63, 64] (false, false, false) (x_updR σ 51 8 0) σ' := by
    generalize hs2 : x_updR σ 51 8 0 = s2
    have r1 : ∀ j, ¬ j = 8 → s2.1 51 j = σ.1 51 j := by
      intro j hj
      rw [← hs2]
      show (if 51 = 51 ∧ j = 8 then (0 : Int32) else σ.1 51 j) = _
      rw [if_neg (fun z => hj z.2)]
    have r2 : s2.2 = σ.2 := by rw [← hs2]; rfl
    have hF2 : Mf s2 nf F := hF.of (r1 17 (by decide)) (by rw [r2]) (by rw [r2]) (by rw [r2])
    have hO2 : Mo s2 O := hO.of (r1 31 (by decide)) (by rw [r2])
    have hV2 : Mv s2 last mi (m_offN me) := ⟨by rw [r1 16 (by decide)]; exact hV.1, ⟨by rw [r1 15 (by decide)]; exact hV.2.1.1, hV.2.1.2⟩, by rw [r1 12 (by decide)]; exact hV.2.2.1, hV.2.2.2⟩
    have hS2 : Ms s2 S chg := hs.of (r1 6 (by decide)) (by rw [r2]) (by rw [r2]) (by rw [r2]) (by rw [r2])
    have e30 : s2.1 51 30 = σ.1 51 30 := r1 30 (by decide)
    have hres := m_resource (σ := s2) (tn := tn) (tg := tg) (by rw [r1 13 (by decide)]; exact h13) ht (fun j hj => by rw [r2]; exact hT j hj) hv
    generalize q_dec tg tn tn 0 = P at h47 hres ⊢
    have st : x_Model_answer σ = x_Model_answer_33 (rcode P) (bi (decide (me < 2))) s2 := by
      unfold x_Model_answer x_Model_answer_28
      simp only [x_let]
      rw [hs2, hres, Option.bind_some, hV2.2.2.1]
      have o0 : ∀ k, k < 7 → (m_offN k = 121 ↔ k = 0) ∧ (m_offN k = 125 ↔ k = 1) := by decide
      obtain ⟨o1, o2⟩ := o0 me hm
      by_cases m0 : me = 0
      · rw [if_pos (show iN (m_offN me) = 121 by rw [o1.mpr m0]; rfl), decide_eq_true (show me < 2 by omega)]
        rfl
      · rw [if_neg (show ¬ iN (m_offN me) = 121 from mt (iN_eq (b := 121) (by omega) (by decide)).mp (mt o1.mp m0))]
        by_cases m1 : me = 1
        · rw [if_pos (show iN (m_offN me) = 125 by rw [o2.mpr m1]; rfl), decide_eq_true (show me < 2 by omega)]
          rfl
        · rw [if_neg (show ¬ iN (m_offN me) = 125 from mt (iN_eq (b := 125) (by omega) (by decide)).mp (mt o2.mp m1)), decide_eq_false (show ¬ me < 2 by omega)]
          rfl
    rw [st]
    have o5 : ∀ k, k < 7 → (m_offN k = 146 ↔ k = 5) ∧ (m_offN k = 154 ↔ k = 6) := by decide
    obtain ⟨o51, o61⟩ := o5 me hm
    have resp : ∀ num a, ¬ num = 206 → num < 1000 → a = m_alw num (m_offN me) → ∃ σ', (Option.bind (x_Model_respond (iN num) 0 (-1) (-1) 0 0 s2) (fun s53 => some s53)) = some σ' ∧ MR σ σ' O (num, 0, none, 0, 0, 0, a, []) last mi S chg ∧ xFp [(51, 31), (51, 7), (51, 29), (51, 30), (51, 6), (51, 26)] [65, 53, 54, 55, 56, 63, 64] (false, false, false) s2 σ' := by
      intro num a n1 n2 n3
      obtain ⟨σ', a1, a2⟩ := m_rsp hO2 hb hV2 (num := num) n2 n1 hS2 n3
      exact ⟨σ', by rw [a1, Option.bind_some], a2.pre e30, (fp_Model_respond _ _ _ _ _ _ _ a1).sub (by simp) (by simp) (by simp)⟩
    unfold x_Model_answer_33 q_ans
    rw [hV2.2.2.1]
    by_cases m5 : me = 5
    · rw [if_pos (show iN (m_offN me) = 146 by rw [o51.mpr m5]; rfl)]
      simp only [m5, if_true]
      exact resp 204 true (by decide) (by decide) (by rw [m5]; decide)
    · rw [if_neg (show ¬ iN (m_offN me) = 146 from mt (iN_eq (b := 146) (by omega) (by decide)).mp (mt o51.mp m5))]
      simp only [m5, if_false]
      have h47' := h47 m5
      by_cases m6 : me = 6
      · rw [if_pos (show iN (m_offN me) = 154 by rw [o61.mpr m6]; rfl)]
        simp only [m6, if_true]
        exact resp 405 true (by decide) (by decide) (by rw [m6]; decide)
      · rw [if_neg (show ¬ iN (m_offN me) = 154 from mt (iN_eq (b := 154) (by omega) (by decide)).mp (mt o61.mp m6))]
        simp only [m6, if_false]
        have al4 : false = m_alw 404 (m_offN me) := by unfold m_alw; simp
        have rest : P.length ≠ 1 ∨ 2 ≤ me → ∃ σ', x_Model_answer_101 (rcode P) (bi (decide (me < 2))) s2 = some σ' ∧ MR σ σ' O (match (if P.length = 1 then none else q_res P) with
            | none => (rs0 404, S, chg)
            | some r => if me < 2 then (match S r with
                | none => (rs0 404, S, chg)
                | some (mq, B) => (q_read me mq B F nf, S, chg))
              else q_chg me r Bd F nf S chg).1 last mi (match (if P.length = 1 then none else q_res P) with
            | none => (rs0 404, S, chg)
            | some r => if me < 2 then (match S r with
                | none => (rs0 404, S, chg)
                | some (mq, B) => (q_read me mq B F nf, S, chg))
              else q_chg me r Bd F nf S chg).2.1 (match (if P.length = 1 then none else q_res P) with
            | none => (rs0 404, S, chg)
            | some r => if me < 2 then (match S r with
                | none => (rs0 404, S, chg)
                | some (mq, B) => (q_read me mq B F nf, S, chg))
              else q_chg me r Bd F nf S chg).2.2 ∧ xFp [(51, 31), (51, 7), (51, 29), (51, 30), (51, 6), (51, 26)] [65, 53, 54, 55, 56, 63, 64] (false, false, false) s2 σ' := by
          intro _
          unfold x_Model_answer_101 rcode
          rw [if_pos h47']
          by_cases p1 : P.length = 1
          · simp only [p1, if_true]
            rw [if_neg (show ¬ (0 : Int32) ≤ -2 by decide)]
            exact resp 404 false (by decide) (by decide) al4
          · simp only [p1, if_false]
            cases hr : q_res P with
            | none =>
              rw [if_neg (show ¬ (0 : Int32) ≤ oi none by decide)]
              exact resp 404 false (by decide) (by decide) al4
            | some r =>
              have hr8 := q_res_lt hr
              rw [show oi (some r) = iN r from rfl, if_pos (iN_ge0 (by omega))]
              by_cases m2 : me < 2
              · rw [decide_eq_true m2, if_neg (show ¬ bi true = 0 by decide)]
                simp only [m2, if_true]
                obtain ⟨σ', a1, a2⟩ := m_tell hF2 hO2 hb hV2 m2 hS2 hSb (by omega) hr8
                refine ⟨σ', by rw [a1, Option.bind_some], ?_, (fp_Model_tell _ _ a1).sub (by simp) (by simp) (by simp)⟩
                cases hS : S r with
                | none => rw [hS] at a2; exact a2.pre e30
                | some v => rw [hS] at a2; exact a2.pre e30
              · rw [decide_eq_false m2, if_pos (show bi false = 0 from rfl)]
                simp only [m2, if_false]
                obtain ⟨σ', a1, a2⟩ := m_change hF2 hO2 hb hV2 (by omega) hS2 hSb hc hr8 (by rw [r1 22 (by decide)]; exact h22) (by rw [r2]; exact hB) hl
                exact ⟨σ', by rw [a1, Option.bind_some], a2.pre e30, (fp_Model_change _ _ a1).sub (by simp) (by simp) (by simp)⟩
        have rc2 : rcode P = -2 ↔ P.length = 1 := by
          unfold rcode
          rw [if_pos h47']
          by_cases p1 : P.length = 1
          · rw [if_pos p1]; exact ⟨fun _ => p1, fun _ => rfl⟩
          · rw [if_neg p1]
            refine ⟨fun z => ?_, fun z => absurd z p1⟩
            exfalso
            cases hr : q_res P with
            | none => rw [hr] at z; exact absurd z (by decide)
            | some r =>
              have hr8 := q_res_lt hr
              rw [hr] at z
              have : ∀ r, r < 8 → ¬ iN r = -2 := by decide
              exact this r hr8 z
        have nq : P.length = 1 → q_res P = none := by
          intro p1
          unfold q_res
          rw [if_neg (by omega)]
        by_cases p1 : P.length = 1
        · rw [if_pos (rc2.mpr p1)]
          by_cases m2 : me < 2
          · rw [decide_eq_true m2, if_neg (show ¬ bi true = 0 by decide), if_pos ⟨m2, p1⟩]
            obtain ⟨σ', a1, a2⟩ := m_tellSite hO2 hb hV2 hS2 0 (if me = 0 then (q_list S 0 8).length else 0)
            have o0 : m_offN me = 121 ↔ me = 0 := by
              rcases (show me = 0 ∨ me = 1 by omega) with h | h <;> rw [h] <;> decide
            refine ⟨σ', by rw [a1, Option.bind_some], ?_, (fp_Model_tellSite _ a1).sub (by simp) (by simp) (by simp)⟩
            by_cases m0 : me = 0
            · rw [if_pos (o0.mpr m0)] at a2
              simp only [m0, if_true] at a2 ⊢
              exact a2.pre e30
            · rw [if_neg (mt o0.mp m0)] at a2
              simp only [m0, if_false] at a2 ⊢
              exact a2.pre e30
          · rw [decide_eq_false m2, if_pos (show bi false = 0 from rfl), if_neg (show ¬ (me < 2 ∧ P.length = 1) from fun z => m2 z.1)]
            have := rest (Or.inr (by omega))
            rw [decide_eq_false m2, if_pos p1] at this
            rw [nq p1]
            exact this
        · rw [if_neg (mt rc2.mp p1), if_neg (show ¬ (me < 2 ∧ P.length = 1) from fun z => p1 z.2)]
          have := rest (Or.inl p1)
          rw [if_neg p1] at this
          exact this
  obtain ⟨σ', a1, a2, a3⟩ := key
  refine ⟨σ', a1, a2, ?_⟩
  rw [a3.1 _ _ (by simp)]
  simp [x_updR]
