/-! the calls that may throw -/
theorem l_out0 {σ s : St} {O : List Nat} (hC : Co σ O) (hM : Mo s O) (hs1 : s.1 51 1 = 0) (hO : O.length < 2000000000) {a : Nat} (ha : a < 250) : ∀ d fuel fuel' (v : Int64), d ≤ 8 → d < fuel → d < fuel' → ∃ r, x_PlainOrigin_out_27 (iN a) σ fuel v (if d = 0 then -1 else iN (d - 1)) = some r ∧ x_Model_out_26 (iN a) fuel' v (if d = 0 then -1 else iN (d - 1)) s = some (r, s) := by
  intro d
  induction d with
  | zero =>
    intro fuel fuel' v h8 hf hf'
    obtain ⟨z, rfl⟩ := x_fuelS (show 0 < fuel by omega)
    obtain ⟨z', rfl⟩ := x_fuelS (show 0 < fuel' by omega)
    refine ⟨v, ?_, ?_⟩
    · rw [if_pos rfl, x_PlainOrigin_out_27, if_pos (by decide)]
    · rw [if_pos rfl, x_Model_out_26, if_pos (by decide)]
  | succ d ih =>
    intro fuel fuel' v h8 hf hf'
    obtain ⟨z, rfl⟩ := x_fuelS (show 0 < fuel by omega)
    obtain ⟨z', rfl⟩ := x_fuelS (show 0 < fuel' by omega)
    rw [if_neg (show ¬ d + 1 = 0 by omega), show d + 1 - 1 = d by omega, x_PlainOrigin_out_27, x_Model_out_26, if_neg (iN_lt0 (by omega)), if_neg (iN_lt0 (by omega)), show (8 : Int32) * iN a = iN (8 * a) from iN_mul 8 a, iN_add, hs1, if_pos rfl, hM.1]
    have hpred : iN d + ((-1) : Int32) = if d = 0 then -1 else iN (d - 1) := by
      by_cases d0 : d = 0
      · rw [if_pos d0, d0]
        rfl
      · rw [if_neg d0, iN_pred (by omega)]
    have hG : Gt σ 49 (O.take 2000).length (fun i => (O.take 2000).getD i 0) := hC.2
    have hl : (O.take 2000).length = min 2000 O.length := List.length_take
    by_cases q : 8 * a + d < O.length
    · have e : (O.take 2000).getD (8 * a + d) 0 = O.getD (8 * a + d) 0 := by
        rw [List.getD_eq_getElem?_getD, List.getD_eq_getElem?_getD, List.getElem?_take_of_lt (by omega)]
      have hg := hG.get (show 8 * a + d < (O.take 2000).length by omega)
      have hb := hG.by (show 8 * a + d < (O.take 2000).length by omega)
      simp only [e] at hg hb
      have hm := hM.2 (8 * a + d) (by omega) q
      rw [hg, Option.bind_some, if_neg (iN_m1 (by omega)), if_neg (mt (iN_le (by omega) (by omega)).mp (by omega)), if_pos ((iN_in (by omega)).mpr (by omega)), iN_clamp (by omega), hm]
      unfold x_PlainOrigin_out_67 x_Model_out_72
      simp only [x_let]
      rw [hpred]
      exact ih z z' _ (by omega) (by omega) (by omega)
    · have hg := hG.getX (show (O.take 2000).length ≤ 8 * a + d by omega) (by omega)
      rw [hg, Option.bind_some, if_pos rfl, if_pos ((iN_le (by omega) (by omega)).mpr (by omega))]
      unfold x_PlainOrigin_out_67 x_Model_out_72
      simp only [x_let]
      rw [hpred]
      exact ih z z' _ (by omega) (by omega) (by omega)
theorem l_out {I : St → Prop} {t : Nat} {σ : St} (h : OI t σ) (ht : t < 900000) (hI : ∀ s, OI t s → I s) (n : Int32) : xl_out I σ n := by
  have h' := h
  obtain ⟨oc, w, h1, h2, h3, h4, h5, h6, h7⟩ := h
  unfold xl_out
  by_cases hn : n < 0
  · right
    refine ⟨0, x_updR σ 51 1 1, ?_, ?_, ?_, hI _ (h'.code 1)⟩
    · unfold z_PlainOrigin_out
      rw [if_pos hn]
      rfl
    · unfold x_Model_out x_Model_within
      rw [if_pos hn, Option.bind_some, if_pos rfl]
      unfold x_Model_out_17
      simp only [x_let]
      rw [show x_fuel = 4095 + 1 from rfl, x_Model_out_26, if_neg (show ¬ (7 : Int32) < 0 by decide), show (x_updR σ 51 1 1).1 51 1 = 1 by simp [x_updR], if_neg (show ¬ (1 : Int32) = 0 by decide)]
    · unfold x_Model_thrown
      simp [x_updR]
  · obtain ⟨a, a1, a2⟩ := i32_nat hn
    subst a2
    by_cases ha : a < 250
    · left
      have hO := h6.2.2
      obtain ⟨r, e1, e2⟩ := l_out0 (s := x_updR σ 51 1 0) h2.2.1 (h4.2.1.of (upd51 σ 0 (show ¬ 31 = 1 by decide)) rfl) (by simp [x_updR]) (by omega) ha 8 x_fuel x_fuel 0 (by omega) (by unfold x_fuel; omega) (by unfold x_fuel; omega)
      rw [if_neg (by decide), show iN (8 - 1) = (7 : Int32) from rfl] at e1 e2
      have run : x_PlainOriginLaw_out (iN a) σ = some (0, x_updL σ r) := by
        unfold x_PlainOriginLaw_out x_PlainOrigin_out
        rw [if_neg hn, if_pos (show iN a < 250 from (iN_lt (b := 250) (by omega) (by decide)).mpr ha), e1, Option.bind_some, if_pos (show x_in 0 1 by decide)]
        rfl
      obtain ⟨r2, f1, f2⟩ := l_out0 (s := x_updR (x_updL σ r) 51 1 0) h2.2.1 (h4.2.1.of (upd51 (x_updL σ r) 0 (show ¬ 31 = 1 by decide)) rfl) (by simp [x_updR]) (by omega) ha 8 x_fuel x_fuel 0 (by omega) (by unfold x_fuel; omega) (by unfold x_fuel; omega)
      rw [if_neg (by decide), show iN (8 - 1) = (7 : Int32) from rfl] at f1 f2
      have er : r2 = r := by
        rw [e1] at f1
        exact (Option.some.inj f1).symm
      rw [er] at f2
      refine ⟨x_updL σ r, r, x_updR (x_updL σ r) 51 1 0, run, ?_, ?_, rfl, hI _ ((h'.out r).code 0)⟩
      · unfold x_Model_out x_Model_within
        rw [if_neg hn, if_neg (show ¬ (249 : Int32) < iN a from mt (iN_lt (a := 249) (by decide) (by omega)).mp (by omega)), Option.bind_some, if_neg (show ¬ (1 : Int32) = 0 by decide)]
        unfold x_Model_out_17
        simp only [x_let]
        exact f2
      · unfold x_Model_thrown
        simp [x_updR]
    · right
      refine ⟨0, x_updR σ 51 1 1, ?_, ?_, ?_, hI _ (h'.code 1)⟩
      · unfold z_PlainOrigin_out
        rw [if_neg hn, if_neg (show ¬ iN a < 250 from mt (iN_lt (b := 250) (by omega) (by decide)).mp ha)]
        rfl
      · unfold x_Model_out x_Model_within
        rw [if_neg hn, if_pos (show (249 : Int32) < iN a from (iN_lt (a := 249) (by decide) (by omega)).mpr (by omega)), Option.bind_some, if_pos rfl]
        unfold x_Model_out_17
        simp only [x_let]
        rw [show x_fuel = 4095 + 1 from rfl, x_Model_out_26, if_neg (show ¬ (7 : Int32) < 0 by decide), show (x_updR σ 51 1 1).1 51 1 = 1 by simp [x_updR], if_neg (show ¬ (1 : Int32) = 0 by decide)]
      · unfold x_Model_thrown
        simp [x_updR]
/-- a resource's number, or none -/
theorem l_res (n : Int32) : (∃ r, r < 8 ∧ n = iN r) ∨ (z_PlainOrigin_resourceOf n = some () ∧ x_Model_within n 0 7 = some 0) := by
  by_cases hn : n < 0
  · right
    unfold z_PlainOrigin_resourceOf x_Model_within
    rw [if_pos hn, if_pos hn]
    exact ⟨rfl, rfl⟩
  · obtain ⟨a, a1, a2⟩ := i32_nat hn
    by_cases ha : a < 8
    · exact Or.inl ⟨a, ha, a2⟩
    · right
      subst a2
      unfold z_PlainOrigin_resourceOf x_Model_within
      rw [if_neg hn, if_neg (show ¬ iN a < 8 from mt (iN_lt (b := 8) (by omega) (by decide)).mp ha), if_neg hn, if_pos (show (7 : Int32) < iN a from (iN_lt (a := 7) (by decide) (by omega)).mpr (by omega))]
      exact ⟨rfl, rfl⟩
theorem l_resOf (σ : St) {r : Nat} (hr : r < 8) : x_PlainOrigin_resourceOf (iN r) σ = some (3 + 3 * r) ∧ x_Model_within (iN r) 0 7 = some 1 := by
  unfold x_PlainOrigin_resourceOf x_Model_within
  rw [if_neg (iN_lt0 (by omega)), if_pos (show iN r < 8 from (iN_lt (b := 8) (by omega) (by decide)).mpr hr), if_pos ((iN_in (by omega)).mpr hr), iN_clamp (by omega), if_neg (iN_lt0 (by omega)), if_neg (show ¬ (7 : Int32) < iN r from mt (iN_lt (a := 7) (by decide) (by omega)).mp (by omega))]
  exact ⟨rfl, rfl⟩
theorem l_size {I : St → Prop} {t : Nat} {σ : St} (h : OI t σ) (ht : t < 900000) (hI : ∀ s, OI t s → I s) (n : Int32) : xl_size I σ n := by
  have h' := h
  obtain ⟨oc, w, h1, h2, h3, h4, h5, ⟨h6, h6b, h6c⟩, h7⟩ := h
  unfold xl_size
  rcases l_res n with ⟨r, hr, rfl⟩ | ⟨z1, z2⟩
  · left
    obtain ⟨x1, x2⟩ := l_resOf σ hr
    have hxS := (xB_r r hr).2
    have hth := c_there h2.1 h6 (by omega) hr
    have hin : x_in (iN r) 8 := (iN_in (by omega)).mpr hr
    have key : ∃ v, x_PlainOrigin_size (iN r) σ = some v ∧ ∀ s : St, s.2.1 = σ.2.1 → s.1 51 1 = 0 → (if x_in (iN r) 8 then (if (s.2.1 53 (iN r).toNatClampNeg) = 0 then some (((-1) : Int32), s) else (if x_in (iN r) 8 then some (s.2.1 55 (iN r).toNatClampNeg, s) else none)) else none) = some (v, s) := by
      unfold x_PlainOrigin_size
      rw [x1, Option.bind_some, if_pos hxS, hth, Option.bind_some]
      cases hS : w.1 r with
      | none =>
        refine ⟨-1, by rw [if_pos (show bi (none : Option (Nat × List Nat)).isSome = 0 from rfl)], fun s hs _ => ?_⟩
        simp only [if_pos hin, iN_clamp (show r < 2147483648 by omega)]
        rw [hs, (h4.1.2 r hr).1 hS, if_pos rfl]
      | some v =>
        obtain ⟨mq, B⟩ := v
        obtain ⟨k1, k2⟩ := (h2.1.2.2 r hr).2 mq B hS
        obtain ⟨g1, g2, g3, g4⟩ := (h4.1.2 r hr).2 mq B hS
        refine ⟨iN B.length, ?_, fun s hs _ => ?_⟩
        · rw [if_neg (show ¬ bi (some (mq, B)).isSome = 0 from (by decide : ¬ bi true = 0)), if_pos hxS]
          exact congrArg some k2.1
        · simp only [if_pos hin, iN_clamp (show r < 2147483648 by omega)]
          rw [hs, g1, g3, if_neg (show ¬ (1 : Int32) = 0 by decide)]
    obtain ⟨v, e1, e2⟩ := key
    refine ⟨x_updL σ (Int32.toInt64 v), v, x_updR (x_updL σ (Int32.toInt64 v)) 51 1 0, ?_, ?_, ?_, rfl, hI _ ((h'.out _).code 0)⟩
    · unfold x_PlainOriginLaw_size
      rw [e1, Option.bind_some, if_pos (show x_in 0 1 by decide)]
      rfl
    · unfold x_Model_size
      rw [x2, Option.bind_some, if_neg (show ¬ (1 : Int32) = 0 by decide)]
      unfold x_Model_size_16
      simp only [x_let]
      rw [show (x_updR (x_updL σ (Int32.toInt64 v)) 51 1 0).1 51 1 = 0 by simp [x_updR], if_pos (show (0 : Int32) ≤ 0 by decide)]
      exact e2 _ rfl (by simp [x_updR])
    · unfold x_Model_thrown
      simp [x_updR]
  · right
    refine ⟨0, x_updR σ 51 1 1, by unfold z_PlainOrigin_size; rw [if_pos z1], ?_, ?_, hI _ (h'.code 1)⟩
    · unfold x_Model_size
      rw [z2, Option.bind_some, if_pos rfl]
      unfold x_Model_size_16
      simp only [x_let]
      rw [show (x_updR σ 51 1 1).1 51 1 = 1 by simp [x_updR], if_neg (show ¬ (1 : Int32) ≤ 0 by decide)]
    · unfold x_Model_thrown
      simp [x_updR]
theorem l_mark {I : St → Prop} {t : Nat} {σ : St} (h : OI t σ) (ht : t < 900000) (hI : ∀ s, OI t s → I s) (n : Int32) : xl_mark I σ n := by
  have h' := h
  obtain ⟨oc, w, h1, h2, h3, h4, h5, ⟨h6, h6b, h6c⟩, h7⟩ := h
  unfold xl_mark
  rcases l_res n with ⟨r, hr, rfl⟩ | ⟨z1, z2⟩
  · left
    obtain ⟨x1, x2⟩ := l_resOf σ hr
    have hxS := (xB_r r hr).2
    have hin : x_in (iN r) 8 := (iN_in (by omega)).mpr hr
    have key : ∃ v, x_PlainOrigin_mark (iN r) σ = some v ∧ ∀ s : St, s.2.1 = σ.2.1 → (if x_in (iN r) 8 then (if (s.2.1 53 (iN r).toNatClampNeg) = 0 then some (((-1) : Int32), s) else (if x_in (iN r) 8 then some (s.2.1 54 (iN r).toNatClampNeg, s) else none)) else none) = some (v, s) := by
      unfold x_PlainOrigin_mark
      rw [x1, Option.bind_some, if_pos hxS]
      cases hS : w.1 r with
      | none =>
        refine ⟨-1, congrArg some ((h2.1.2.2 r hr).1 hS), fun s hs => ?_⟩
        simp only [if_pos hin, iN_clamp (show r < 2147483648 by omega)]
        rw [hs, (h4.1.2 r hr).1 hS, if_pos rfl]
      | some v =>
        obtain ⟨mq, B⟩ := v
        obtain ⟨k1, k2⟩ := (h2.1.2.2 r hr).2 mq B hS
        obtain ⟨g1, g2, g3, g4⟩ := (h4.1.2 r hr).2 mq B hS
        refine ⟨iN mq, congrArg some k1, fun s hs => ?_⟩
        simp only [if_pos hin, iN_clamp (show r < 2147483648 by omega)]
        rw [hs, g1, g2, if_neg (show ¬ (1 : Int32) = 0 by decide)]
    obtain ⟨v, e1, e2⟩ := key
    refine ⟨x_updL σ (Int32.toInt64 v), v, x_updR (x_updL σ (Int32.toInt64 v)) 51 1 0, ?_, ?_, ?_, rfl, hI _ ((h'.out _).code 0)⟩
    · unfold x_PlainOriginLaw_mark
      rw [e1, Option.bind_some, if_pos (show x_in 0 1 by decide)]
      rfl
    · unfold x_Model_mark
      rw [x2, Option.bind_some, if_neg (show ¬ (1 : Int32) = 0 by decide)]
      unfold x_Model_mark_16
      simp only [x_let]
      rw [show (x_updR (x_updL σ (Int32.toInt64 v)) 51 1 0).1 51 1 = 0 by simp [x_updR], if_pos (show (0 : Int32) ≤ 0 by decide)]
      exact e2 _ rfl
    · unfold x_Model_thrown
      simp [x_updR]
  · right
    refine ⟨0, x_updR σ 51 1 1, by unfold z_PlainOrigin_mark; rw [if_pos z1], ?_, ?_, hI _ (h'.code 1)⟩
    · unfold x_Model_mark
      rw [z2, Option.bind_some, if_pos rfl]
      unfold x_Model_mark_16
      simp only [x_let]
      rw [show (x_updR σ 51 1 1).1 51 1 = 1 by simp [x_updR], if_neg (show ¬ (1 : Int32) ≤ 0 by decide)]
    · unfold x_Model_thrown
      simp [x_updR]
theorem l_at {I : St → Prop} {t : Nat} {σ : St} (h : OI t σ) (ht : t < 900000) (hI : ∀ s, OI t s → I s) (n i : Int32) : xl_at I σ n i := by
  have h' := h
  obtain ⟨oc, w, h1, h2, h3, h4, h5, ⟨h6, h6b, h6c⟩, h7⟩ := h
  unfold xl_at
  have thr : ∀ k : Int32, ¬ k ≤ 0 → ∀ n i : Int32, x_Model_at_43 n i k σ = some (0, x_updR σ 51 1 k) := by
    intro k hk n i
    unfold x_Model_at_43
    simp only [x_let]
    rw [show (x_updR σ 51 1 k).1 51 1 = k by simp [x_updR], if_neg hk]
  rcases l_res n with ⟨r, hr, rfl⟩ | ⟨z1, z2⟩
  · obtain ⟨x1, x2⟩ := l_resOf σ hr
    have hxS := (xB_r r hr).2
    have hth := c_there h2.1 h6 (by omega) hr
    have hin : x_in (iN r) 8 := (iN_in (by omega)).mpr hr
    have two : z_PlainOrigin_atN (iN r) i σ = some () → x_Model_at (iN r) i σ = x_Model_at_38 (iN r) i σ → ∃ b σ2, z_PlainOrigin_atN (iN r) i σ = some () ∧ x_Model_at (iN r) i σ = some (b, σ2) ∧ x_Model_thrown σ2 = some 2 ∧ I σ2 := by
      intro p1 p2
      refine ⟨0, x_updR σ 51 1 2, p1, ?_, ?_, hI _ (h'.code 2)⟩
      · rw [p2]
        exact thr 2 (by decide) _ _
      · unfold x_Model_thrown
        simp [x_updR]
    cases hS : w.1 r with
    | none =>
      right; right
      apply two
      · unfold z_PlainOrigin_atN
        rw [x1, Option.bind_some, if_pos hxS, hth, Option.bind_some, hS, if_pos (show bi (none : Option (Nat × List Nat)).isSome = 0 from rfl)]
        rfl
      · unfold x_Model_at
        rw [x2, Option.bind_some, if_neg (show ¬ (1 : Int32) = 0 by decide)]
        simp only [if_pos hin, iN_clamp (show r < 2147483648 by omega)]
        rw [(h4.1.2 r hr).1 hS, if_pos rfl]
    | some v =>
      obtain ⟨mq, B⟩ := v
      obtain ⟨k1, k2⟩ := (h2.1.2.2 r hr).2 mq B hS
      obtain ⟨g1, g2, g3, g4⟩ := (h4.1.2 r hr).2 mq B hS
      have hbl := (h6 r mq B hr hS).2.2
      by_cases hi : i < 0
      · right; right
        apply two
        · unfold z_PlainOrigin_atN
          rw [x1, Option.bind_some, if_pos hxS, hth, Option.bind_some, hS, if_neg (show ¬ bi (some (mq, B)).isSome = 0 from (by decide : ¬ bi true = 0)), if_pos hi]
          rfl
        · unfold x_Model_at
          rw [x2, Option.bind_some, if_neg (show ¬ (1 : Int32) = 0 by decide)]
          simp only [if_pos hin, iN_clamp (show r < 2147483648 by omega)]
          rw [g1, if_neg (show ¬ (1 : Int32) = 0 by decide), if_pos hi]
      · obtain ⟨m, m1, rfl⟩ := i32_nat hi
        by_cases hm : m < B.length
        · left
          have hg := Gt.get k2 hm
          refine ⟨x_updL σ (Int32.toInt64 (iN (B.getD m 0))), iN (B.getD m 0), x_updR (x_updL σ (Int32.toInt64 (iN (B.getD m 0)))) 51 1 0, ?_, ?_, ?_, rfl, hI _ ((h'.out _).code 0)⟩
          · unfold x_PlainOriginLaw_at x_PlainOrigin_at
            rw [x1, Option.bind_some, if_pos hxS, hth, Option.bind_some, hS, if_neg (show ¬ bi (some (mq, B)).isSome = 0 from (by decide : ¬ bi true = 0)), if_neg hi, if_pos hxS, show σ.1 (3 + 3 * r + 1) 1 = iN B.length from k2.1, if_pos ((iN_lt (by omega) (by omega)).mpr hm), if_pos hxS, hg, Option.bind_some, Option.bind_some, if_pos (show x_in 0 1 by decide)]
            rfl
          · unfold x_Model_at
            rw [x2, Option.bind_some, if_neg (show ¬ (1 : Int32) = 0 by decide)]
            simp only [if_pos hin, iN_clamp (show r < 2147483648 by omega)]
            rw [show (x_updL σ (Int32.toInt64 (iN (B.getD m 0)))).2.1 53 r = 1 from g1, show (x_updL σ (Int32.toInt64 (iN (B.getD m 0)))).2.1 55 r = iN B.length from g3, if_neg (show ¬ (1 : Int32) = 0 by decide), if_neg hi, if_pos ((iN_lt (by omega) (by omega)).mpr hm)]
            unfold x_Model_at_43
            simp only [x_let]
            rw [show (x_updR (x_updL σ (Int32.toInt64 (iN (B.getD m 0)))) 51 1 0).1 51 1 = 0 by simp [x_updR], if_pos (show (0 : Int32) ≤ 0 by decide), show (200 : Int32) * iN r = iN (200 * r) from iN_mul 200 r, iN_add, if_pos ((iN_in (by omega)).mpr (by omega)), iN_clamp (by omega)]
            rw [show (x_updR (x_updL σ (Int32.toInt64 (iN (B.getD m 0)))) 51 1 0).2.1 56 (200 * r + m) = iN (B.getD m 0) from g4 m hm]
          · unfold x_Model_thrown
            simp [x_updR]
        · right; right
          apply two
          · unfold z_PlainOrigin_atN
            rw [x1, Option.bind_some, if_pos hxS, hth, Option.bind_some, hS, if_neg (show ¬ bi (some (mq, B)).isSome = 0 from (by decide : ¬ bi true = 0)), if_neg hi, if_pos hxS, show σ.1 (3 + 3 * r + 1) 1 = iN B.length from k2.1, if_neg (mt (iN_lt (by omega) (by omega)).mp hm)]
            rfl
          · unfold x_Model_at
            rw [x2, Option.bind_some, if_neg (show ¬ (1 : Int32) = 0 by decide)]
            simp only [if_pos hin, iN_clamp (show r < 2147483648 by omega)]
            rw [g1, if_neg (show ¬ (1 : Int32) = 0 by decide), if_neg hi, g3, if_neg (mt (iN_lt (by omega) (by omega)).mp hm)]
  · right; left
    refine ⟨0, x_updR σ 51 1 1, by unfold z_PlainOrigin_at; rw [if_pos z1], ?_, ?_, hI _ (h'.code 1)⟩
    · unfold x_Model_at
      rw [z2, Option.bind_some, if_pos rfl]
      exact thr 1 (by decide) _ _
    · unfold x_Model_thrown
      simp [x_updR]
theorem l_feed {I : St → Prop} {t : Nat} {σ : St} (h : OI t σ) (ht : t + 8 < 900000) (hI : ∀ s, OI (t + 8) s → I s) (j : Int64) (n : Int32) : xl_feed I σ j n := by
  have h' := h
  obtain ⟨oc, w, h1, h2, h3, h4, h5, h6, h7⟩ := h
  unfold xl_feed
  have bad : z_PlainOrigin_feed j n = some () → x_Model_within n 0 8 = some 0 → ∃ b σ2, z_PlainOrigin_feed j n = some () ∧ x_Model_feed j n σ = some (b, σ2) ∧ x_Model_thrown σ2 = some 1 ∧ I σ2 := by
    intro p1 p2
    refine ⟨0, x_updR σ 51 1 1, p1, ?_, ?_, hI _ ((h'.code 1).mono (by omega))⟩
    · unfold x_Model_feed
      rw [p2, Option.bind_some, if_pos rfl]
      unfold x_Model_feed_16
      simp only [x_let]
      rw [show (x_updR σ 51 1 1).1 51 1 = 1 by simp [x_updR], if_neg (show ¬ (1 : Int32) ≤ 0 by decide)]
    · unfold x_Model_thrown
      simp [x_updR]
  by_cases hn : n < 0
  · right
    apply bad
    · unfold z_PlainOrigin_feed
      rw [if_pos hn]
      rfl
    · unfold x_Model_within
      rw [if_pos hn]
  · obtain ⟨m, m1, rfl⟩ := i32_nat hn
    by_cases hm : m ≤ 8
    · left
      obtain ⟨s1, a1, a2, a3, a4, a5⟩ := c_feed0 j hm m 0 x_fuel σ oc w 0 t (by omega) (by unfold x_fuel; omega) h1 h2 h5 h6 (by omega)
      rw [show iN 0 = (0 : Int32) from rfl, Nat.zero_add] at a1
      have runc : x_PlainOrigin_feed j (iN m) σ = some (iN (fds j m 0 oc w).2.2, s1) := by
        unfold x_PlainOrigin_feed
        rw [if_neg hn, if_pos (show iN m ≤ 8 from (iN_le (b := 8) (by omega) (by decide)).mpr hm)]
        exact a1
      have fpc := fp_PlainOrigin_feed _ _ _ runc
      generalize hs2 : x_updL s1 (Int32.toInt64 (iN (fds j m 0 oc w).2.2)) = s2
      have runl : x_PlainOriginLaw_feed j (iN m) σ = some (0, s2) := by
        unfold x_PlainOriginLaw_feed
        rw [runc, x_bind2_some, if_pos (show x_in 0 1 by decide), ← hs2]
        rfl
      generalize hs3 : x_updR s2 51 1 0 = s3
      have gm : Mg2 σ s3 := by
        refine ⟨fun j hj => ?_, fun k hk1 hk2 => ?_⟩
        · rw [← hs3, upd51 s2 0 hj, ← hs2]
          show s1.1 51 j = σ.1 51 j
          exact fpc.1 _ _ (by simp)
        · rw [← hs3, ← hs2]
          show s1.2.1 k = σ.2.1 k
          exact fpc.2.1 _ (by simp; omega)
      have gc : Cg s1 s3 := by
        rw [← hs3, ← hs2]
        exact ⟨fun k j hk => if_neg (fun z => by omega), fun _ _ => rfl, rfl⟩
      obtain ⟨s4, b1, b2, b3, b4, b5, b6⟩ := m_feed0 j hm (s3.1 51 30) m 0 x_fuel s3 oc w t (by omega) (by unfold x_fuel; omega) (h3.mg gm) (h4.mg gm) h5 h6 (by omega) (by rw [gm.1 _ (by decide)]; exact h7)
      rw [show iN 0 = (0 : Int32) from rfl] at b1
      have runm : x_Model_feed j (iN m) s2 = some (s4.1 51 30 - s3.1 51 30, s4) := by
        unfold x_Model_feed x_Model_within
        rw [if_neg hn, if_neg (show ¬ (8 : Int32) < iN m from mt (iN_lt (a := 8) (by decide) (by omega)).mp (by omega)), Option.bind_some, if_neg (show ¬ (1 : Int32) = 0 by decide)]
        unfold x_Model_feed_16
        simp only [x_let]
        rw [hs3, show s3.1 51 1 = 0 by rw [← hs3]; simp [x_updR], if_pos (show (0 : Int32) ≤ 0 by decide)]
        exact b1
      have fpm := fp_Model_feed _ _ _ runm
      have eb : s4.1 51 30 - s3.1 51 30 = iN (fds j m 0 oc w).2.2 := by
        rw [b5, Int32.add_comm]
        exact Int32.add_sub_cancel _ _
      have gc2 : Cg s2 s4 := ⟨fun k j hk => fpm.1 _ _ (by simp; omega), fun k hk => fpm.2.1 _ (by simp; omega), fp_q fpm⟩
      have gc1 : Cg s1 s2 := by
        rw [← hs2]
        exact ⟨fun _ _ _ => rfl, fun _ _ => rfl, rfl⟩
      refine ⟨s2, s4.1 51 30 - s3.1 51 30, s4, runl, runm, ?_, ?_, hI _ ⟨(fds j m 0 oc w).1, (fds j m 0 oc w).2.1, (a2.cg gc1).cg gc2, (a3.cg gc1).cg gc2, b2, b3, a4, ?_, b4⟩⟩
      · unfold x_Model_thrown
        have h1s : s4.1 51 1 = 0 := by
          rw [b6, ← hs3]
          simp [x_updR]
        rw [h1s]
      · rw [eb]
        have := fpm.2.2.2.2
        simp at this
        rw [this, ← hs2]
        rfl
      · exact ⟨a5.1, by have := a5.2.1; omega, by have := a5.2.2; omega⟩
    · right
      apply bad
      · unfold z_PlainOrigin_feed
        rw [if_neg hn, if_neg (show ¬ iN m ≤ 8 from mt (iN_le (b := 8) (by omega) (by decide)).mp hm)]
        rfl
      · unfold x_Model_within
        rw [if_neg hn, if_pos (show (8 : Int32) < iN m from (iN_lt (a := 8) (by decide) (by omega)).mpr (by omega))]
/-- the law holds -/
theorem whole_law : xLaw (fun t σ => OI (8 * t) σ) := by
  refine ⟨OI_0, fun t σ ht h => ?_⟩
  have up : ∀ s, OI (8 * t) s → OI (8 * (t + 1)) s := fun s hs => hs.mono (by omega)
  exact ⟨fun j n => l_feed h (by omega) (fun s hs => hs.mono (by omega)) j n, l_isOpen h up, l_connect h up, l_sent h up, fun n => l_out h (by omega) up n, l_drain h up, l_status h up, l_reading h up, fun n => l_size h (by omega) up n, fun n i => l_at h (by omega) up n i, fun n => l_mark h (by omega) up n, l_changes h up, up σ h⟩
