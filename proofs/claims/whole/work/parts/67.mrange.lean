/-! ranges in the reference -/
theorem dm_eq {u : List Nat} (h6 : 6 ≤ u.length) (hw : u_is (sl (fun j => u.getD j 0) 0 6) (wd_ 18) = true) : s_first (fun c => c == 45) (fun j => u.getD j 0) 0 u.length = rg_d u := by
  have key : ∀ j, j < 6 → ¬ u.getD j 0 = 45 := by
    intro j hj q
    unfold u_is at hw
    rw [decide_eq_true_iff] at hw
    have h2 := congrArg (fun l => l.getD j 0) hw
    simp only [sl_low] at h2
    rw [sl_at _ 0 6 hj, Nat.zero_add, q] at h2
    have : ∀ j, j < 6 → ¬ k_low 45 = (wd_ 18).getD j 0 := by decide
    exact this j hj h2
  have step : ∀ i d, i < 6 → s_first (fun c => c == 45) (fun j => u.getD j 0) i (d + 1) = s_first (fun c => c == 45) (fun j => u.getD j 0) (i + 1) d := by
    intro i d hi
    rw [s_first, if_neg]
    simpa using key i hi
  unfold rg_d
  obtain ⟨m, hm⟩ : ∃ m, u.length = m + 1 + 1 + 1 + 1 + 1 + 1 := ⟨u.length - 6, by omega⟩
  rw [hm, step 0 _ (by decide), step 1 _ (by decide), step 2 _ (by decide), step 3 _ (by decide), step 4 _ (by decide), step 5 _ (by decide)]
  rfl
/-- the form of a range is known -/
theorem m_378 {σ : St} {r n : Nat} (hn : n ≤ 200) {fi la : Option Nat} (ok : rg_ok fi la) (l3 l4 l5 : Int32) : x_Model_tell_378 (iN r) (iN n) l3 l4 l5 (bi fi.isSome) (bi (fi.isNone || la.isSome)) (iN (fi.getD 0)) (iN (la.getD 0)) 1 σ = x_Model_tell_465 (iN r) (iN n) (iN (q_fr fi la n)) (iN (q_ti fi la n)) (iN (if q_far fi n then 416 else 206)) σ := by
  have h409 : ∀ k0 : Int32, x_Model_tell_409 (iN r) (iN n) (bi fi.isSome) (bi (fi.isNone || la.isSome)) (iN (fi.getD 0)) (iN (la.getD 0)) k0 σ = x_Model_tell_465 (iN r) (iN n) (iN (q_fr fi la n)) (iN (q_ti fi la n)) k0 σ := by
    intro k0
    unfold x_Model_tell_409 x_Model_tell_436 x_Model_tell_462 x_Model_tell_463
    rcases ok with ⟨rfl, b, rfl, b0, b9⟩ | ⟨a, rfl, a9, hl⟩
    · simp only [Option.isSome_none, Option.isSome_some, Option.isNone_none, Option.getD_some, Option.getD_none, Bool.true_or, Bool.or_self, bi_f, bi_t, if_true, q_fr, q_ti]
      by_cases q : n ≤ b
      · have e : iN n - iN b ≤ 0 := by
          have := iN_subneg q (by omega)
          rw [Int32.lt_iff_toInt_lt] at this
          rw [Int32.le_iff_toInt_le]
          omega
        rw [if_pos e, show n - b = 0 by omega, show iN 0 = (0 : Int32) from rfl]
      · rw [iN_sub (show b ≤ n by omega), if_neg (mt (iN_le0 (by omega)).mp (by omega))]
    · rcases hl with rfl | ⟨b, rfl, ab, b9⟩
      · simp only [Option.isSome_none, Option.isSome_some, Option.isNone_some, Option.getD_some, Option.getD_none, Bool.or_self, bi_f, bi_t, if_true, i10, if_false, q_fr, q_ti]
      · simp only [Option.isSome_some, Option.isNone_some, Option.getD_some, Bool.false_or, bi_t, i10, if_false, q_fr, q_ti]
        rw [iN_1a]
        by_cases q : b + 1 < n
        · rw [if_neg (mt (iN_le (by omega) (by omega)).mp (by omega)), if_pos q]
        · rw [if_pos ((iN_le (by omega) (by omega)).mpr (by omega)), if_neg q]
  unfold x_Model_tell_378 x_Model_tell_400 x_Model_tell_406
  rw [if_neg (show ¬ (1 : Int32) = 0 by decide), h409, h409]
  unfold q_far
  by_cases n0 : n = 0
  · rw [if_pos (show iN n = 0 by rw [n0]; rfl), decide_eq_true n0]
    simp only [Bool.true_or, if_true]
    rfl
  · rw [if_neg (mt (iN_eq0 (by omega)).mp n0), decide_eq_false n0]
    rcases ok with ⟨rfl, b, rfl, b0, b9⟩ | ⟨a, rfl, a9, hl⟩
    · simp only [Option.isSome_none, bi_f, if_true, Bool.or_self, Bool.false_eq_true, if_false]
      rfl
    · simp only [Option.isSome_some, bi_t, i10, if_false, Option.getD_some, Bool.false_or, decide_eq_true_eq]
      by_cases q : n ≤ a
      · rw [if_neg (mt (iN_lt (by omega) (by omega)).mp (by omega)), if_pos q]
        rfl
      · rw [if_pos ((iN_lt (by omega) (by omega)).mpr (by omega)), if_neg q]
        rfl
/-- no range: the tail -/
theorem m_378n {σ : St} (a1 l2 l3 l4 l5 l11 l12 l13 l14 : Int32) : x_Model_tell_377 a1 l2 l3 l4 l5 l11 l12 l13 l14 σ = x_Model_tell_465 a1 l2 l3 l4 l5 σ := by
  unfold x_Model_tell_377 x_Model_tell_378
  rw [if_pos rfl]
theorem m_331a {σ : St} (a1 l2 l3 l4 l5 l12 k0 : Int32) : x_Model_tell_331 a1 l2 l3 l4 l5 1 0 l12 0 k0 σ = if k0 < 0 then x_Model_tell_465 a1 l2 l3 l4 l5 σ else if k0 ≤ 0 then x_Model_tell_465 a1 l2 l3 l4 l5 σ else x_Model_tell_378 a1 l2 l3 l4 l5 0 l12 0 k0 1 σ := by
  unfold x_Model_tell_331 x_Model_tell_373
  simp only [m_378n, i10, if_false, if_true, show ((0 : Int32) < 0) = False from eq_false (by decide)]
theorem m_331b {σ : St} (a1 l2 l3 l4 l5 l13 k0 : Int32) : x_Model_tell_331 a1 l2 l3 l4 l5 1 1 1 l13 k0 σ = if l13 < 0 then x_Model_tell_465 a1 l2 l3 l4 l5 σ else if k0 < 0 then x_Model_tell_465 a1 l2 l3 l4 l5 σ else if k0 < l13 then x_Model_tell_465 a1 l2 l3 l4 l5 σ else x_Model_tell_378 a1 l2 l3 l4 l5 1 1 l13 k0 1 σ := by
  unfold x_Model_tell_331 x_Model_tell_373
  simp only [m_378n, i10, if_false]
theorem m_331c {σ : St} (a1 l2 l3 l4 l5 l13 : Int32) : x_Model_tell_331 a1 l2 l3 l4 l5 1 1 0 l13 0 σ = if l13 < 0 then x_Model_tell_465 a1 l2 l3 l4 l5 σ else x_Model_tell_378 a1 l2 l3 l4 l5 1 0 l13 0 1 σ := by
  unfold x_Model_tell_331 x_Model_tell_373
  simp only [m_378n, i10, if_false, if_true, show ((0 : Int32) < 0) = False from eq_false (by decide)]
theorem m_331n {σ : St} (a1 l2 l3 l4 l5 l11 l12 l13 k0 : Int32) : x_Model_tell_331 a1 l2 l3 l4 l5 0 l11 l12 l13 k0 σ = x_Model_tell_465 a1 l2 l3 l4 l5 σ := by
  unfold x_Model_tell_331
  rw [if_pos rfl, m_378n]
theorem m_245n {σ : St} (a1 l2 l3 l4 l5 l7 l8 l9 : Int32) : x_Model_tell_245 a1 l2 l3 l4 l5 l7 l8 l9 0 σ = x_Model_tell_465 a1 l2 l3 l4 l5 σ := by
  unfold x_Model_tell_245 x_Model_tell_262 x_Model_tell_278 x_Model_tell_304 x_Model_tell_305 x_Model_tell_330
  simp only [if_true, m_331n, ite_self]
theorem m_183 {σ : St} {u : List Nat} {b : Nat} (hb : b + u.length ≤ 960) (hR : Mr σ 59 b u.length (fun j => u.getD j 0)) (a1 l2 l3 l4 l5 : Int32) : ∀ d k fuel, k + d = u.length → d < fuel → x_Model_tell_183 a1 fuel l2 l3 l4 l5 (iN b) (iN (b + u.length)) (iN (b + k)) σ = x_Model_tell_208 a1 l2 l3 l4 l5 (iN b) (iN (b + u.length)) (iN (b + s_first (fun c => c == 45) (fun j => u.getD j 0) k d)) σ := by
  intro d
  induction d with
  | zero =>
    intro k fuel hk hf
    obtain ⟨z, rfl⟩ := x_fuelS (show 0 < fuel by omega)
    rw [x_Model_tell_183, if_pos ((iN_le (by omega) (by omega)).mpr (by omega)), s_first]
  | succ d ih =>
    intro k fuel hk hf
    obtain ⟨z, rfl⟩ := x_fuelS (show 0 < fuel by omega)
    have y := hR k (by omega)
    have y1 : σ.2.1 59 (b + k) = iN (u.getD k 0) := y.1
    have y2 : u.getD k 0 < 256 := y.2
    rw [x_Model_tell_183, if_neg (mt (iN_le (by omega) (by omega)).mp (by omega)), if_pos ((iN_in (by omega)).mpr (by omega)), iN_clamp (by omega), y1, s_first]
    simp only [x_let]
    by_cases q : u.getD k 0 = 45
    · rw [if_pos (show iN (u.getD k 0) = 45 by rw [q]; rfl), if_pos (by simpa using q)]
    · rw [if_neg (show ¬ iN (u.getD k 0) = 45 from mt (iN_eq (b := 45) (by omega) (by omega)).mp q), if_neg (by simpa using q), iN_1a]
      exact ih (k + 1) z (by omega) (by omega)
/-- the whole reading of a range's value -/
theorem m_form {σ : St} {u : List Nat} {b : Nat} (hb : b + u.length ≤ 960) (hR : Mr σ 59 b u.length (fun j => u.getD j 0)) {r n : Nat} (hn : n ≤ 200) (l3 l4 l5 : Int32) : x_Model_tell_183 (iN r) x_fuel (iN n) l3 l4 l5 (iN b) (iN (b + u.length)) (iN b) σ = match q_rg u with
    | none => x_Model_tell_465 (iN r) (iN n) l3 l4 l5 σ
    | some (fi, la) => x_Model_tell_465 (iN r) (iN n) (iN (q_fr fi la n)) (iN (q_ti fi la n)) (iN (if q_far fi n then 416 else 206)) σ := by
  have e1 := m_183 hb hR (iN r) (iN n) l3 l4 l5 u.length 0 x_fuel (by omega) (by unfold x_fuel; omega)
  rw [Nat.add_zero] at e1
  rw [e1]
  have dl := s_first_le (fun c => c == 45) (fun j => u.getD j 0) u.length 0
  rw [Nat.zero_add] at dl
  have dd : u_is (sl (fun j => u.getD j 0) 0 6) (wd_ 18) = true → 6 ≤ u.length → s_first (fun c => c == 45) (fun j => u.getD j 0) 0 u.length = rg_d u := fun h1 h2 => dm_eq h2 h1
  generalize hdm : s_first (fun c => c == 45) (fun j => u.getD j 0) 0 u.length = dm at dl dd ⊢
  unfold x_Model_tell_208 x_Model_tell_244
  rw [m_245n]
  by_cases c : 6 ≤ u.length ∧ u_is (sl (fun j => u.getD j 0) 0 6) (wd_ 18) = true ∧ rg_d u < u.length
  · obtain ⟨c1, c2, c3⟩ := c
    have ed := dd c2 c1
    have d6 : 6 ≤ rg_d u := (s_first_le (fun c => c == 45) (fun j => u.getD j 0) (u.length - 6) 6).1
    have ew := m_isWord (hR.less (d := 6) c1) MW_114 (by omega)
    rw [c2] at ew
    rw [ed, if_neg (mt (iN_le (by omega) (by omega)).mp (by omega)), iN_sub (by omega), show b + rg_d u - b = rg_d u by omega, if_neg (show ¬ iN (rg_d u) ≤ 5 from mt (iN_le (b := 5) (by omega) (by omega)).mp (by omega)), show (6 : Int32) = iN 6 from rfl, iN_add, show (114 : Int32) = iN 114 from rfl, ew, Option.bind_some, if_neg (show ¬ bi true = 0 by decide)]
    -- the two numbers
    have ea := m_numberAt (hR.part (i := 6) (d := rg_d u - 6) (by omega)) (by omega)
    rw [show b + 6 + (rg_d u - 6) = b + rg_d u by omega, show s_number (fun j => (fun j => u.getD j 0) (6 + j)) 0 (rg_d u - 6) = rg_a u from s_number_congr (fun j _ => by rw [Nat.zero_add])] at ea
    have eb := m_numberAt (hR.part (i := rg_d u + 1) (d := u.length - (rg_d u + 1)) (by omega)) (by omega)
    rw [show b + (rg_d u + 1) + (u.length - (rg_d u + 1)) = b + u.length by omega, show s_number (fun j => (fun j => u.getD j 0) (rg_d u + 1 + j)) 0 (u.length - (rg_d u + 1)) = rg_b u from s_number_congr (fun j _ => by rw [Nat.zero_add])] at eb
    rw [← Nat.add_assoc] at eb
    unfold x_Model_tell_245 x_Model_tell_262
    rw [show (6 : Int32) = iN 6 from rfl, iN_add, iN_1a]
    have la9 : ∀ v, rg_a u = some v → v < 1000000000 := fun v hv => s_number_lt2 hv
    have lb9 : ∀ v, rg_b u = some v → v < 1000000000 := fun v hv => s_number_lt2 hv
    have hq : q_rg u = (if rg_d u = 6 then (match rg_b u with
      | none => none
      | some b => if 0 < b then some (none, some b) else none)
    else (match rg_a u with
      | none => none
      | some a => if rg_d u + 1 = u.length then some (some a, none) else (match rg_b u with
        | none => none
        | some b => if a ≤ b then some (some a, some b) else none))) := by
      unfold q_rg
      exact if_pos ⟨c1, c2, c3⟩
    have h305 : ∀ (hb2 : Bool) (k0 : Int32), x_Model_tell_305 (iN r) (iN n) l3 l4 l5 (iN (b + u.length)) (iN (b + rg_d u)) 1 (bi hb2) (bi (decide (rg_d u + 1 < u.length))) k0 σ = if rg_d u + 1 < u.length then x_Model_tell_331 (iN r) (iN n) l3 l4 l5 1 (bi hb2) 1 k0 (oi (rg_b u)) σ else x_Model_tell_331 (iN r) (iN n) l3 l4 l5 1 (bi hb2) 0 k0 0 σ := by
      intro hb2 k0
      unfold x_Model_tell_305 x_Model_tell_330
      rw [if_neg (show ¬ (1 : Int32) = 0 by decide)]
      by_cases q : rg_d u + 1 < u.length
      · rw [decide_eq_true q, if_neg (show ¬ bi true = 0 by decide), iN_1a, eb, Option.bind_some, if_pos q]
        rfl
      · rw [decide_eq_false q, if_pos (show bi false = 0 from rfl), if_neg q]
        rfl
    have hB : (if iN (b + u.length) ≤ iN (b + rg_d u + 1) then (0 : Int32) else 1) = bi (decide (rg_d u + 1 < u.length)) := by
      by_cases q : rg_d u + 1 < u.length
      · rw [if_neg (mt (iN_le (by omega) (by omega)).mp (by omega)), decide_eq_true q]
        rfl
      · rw [if_pos ((iN_le (by omega) (by omega)).mpr (by omega)), decide_eq_false q]
        rfl
    have h262 : ∀ k0 : Int32, (if iN (b + u.length) ≤ iN (b + rg_d u + 1) then x_Model_tell_278 (iN r) (iN n) l3 l4 l5 (iN b) (iN (b + u.length)) (iN (b + rg_d u)) 1 k0 (0 : Int32) σ else x_Model_tell_278 (iN r) (iN n) l3 l4 l5 (iN b) (iN (b + u.length)) (iN (b + rg_d u)) 1 k0 (1 : Int32) σ) = x_Model_tell_278 (iN r) (iN n) l3 l4 l5 (iN b) (iN (b + u.length)) (iN (b + rg_d u)) 1 k0 (bi (decide (rg_d u + 1 < u.length))) σ := by
      intro k0
      rw [← hB]
      split <;> rfl
    rw [h262, h262]
    unfold x_Model_tell_278 x_Model_tell_304
    simp only [i10, if_false, if_true]
    rw [show (6 : Int32) = iN 6 from rfl, iN_add, ea, Option.bind_some]
    rw [show (x_Model_tell_305 (iN r) (iN n) l3 l4 l5 (iN (b + u.length)) (iN (b + rg_d u)) 1 0 (bi (decide (rg_d u + 1 < u.length))) 0 σ) = _ from h305 false 0, show (x_Model_tell_305 (iN r) (iN n) l3 l4 l5 (iN (b + u.length)) (iN (b + rg_d u)) 1 1 (bi (decide (rg_d u + 1 < u.length))) (oi (rg_a u)) σ) = _ from h305 true (oi (rg_a u)), hq]
    rw [bi_f, bi_t, m_331a, m_331a, m_331b, m_331c]
    by_cases e6 : rg_d u = 6
    · rw [if_pos (show iN (b + rg_d u) ≤ iN (b + 6) by rw [e6]; exact (iN_le (by omega) (by omega)).mpr (Nat.le_refl _)), if_pos e6]
      by_cases q : rg_d u + 1 < u.length
      · rw [if_pos q]
        cases hbv : rg_b u with
        | none =>
          rw [if_pos (show oi none < 0 by decide)]
        | some v =>
          have := lb9 v hbv
          rw [if_neg (show ¬ oi (some v) < 0 from iN_lt0 (by omega))]
          by_cases v0 : 0 < v
          · rw [if_neg (show ¬ oi (some v) ≤ 0 from mt (iN_le0 (by omega)).mp (by omega))]
            simp only [v0, if_true]
            exact m_378 hn (Or.inl ⟨rfl, v, rfl, v0, this⟩) l3 l4 l5
          · rw [if_pos (show oi (some v) ≤ 0 from (iN_le0 (by omega)).mpr (by omega))]
            simp only [v0, if_false]
      · rw [if_neg q]
        have hbn : rg_b u = none := by
          unfold rg_b
          rw [show u.length - (rg_d u + 1) = 0 by omega]
          rfl
        rw [hbn, if_neg (show ¬ (0 : Int32) < 0 by decide), if_pos (show (0 : Int32) ≤ 0 by decide)]
    · rw [if_neg (mt (iN_le (by omega) (by omega)).mp (by omega)), if_neg e6]
      cases hav : rg_a u with
      | none =>
        rw [if_pos (show oi none < 0 by decide), if_pos (show oi none < 0 by decide), ite_self]
      | some a =>
        have ha9 := la9 a hav
        rw [if_neg (show ¬ oi (some a) < 0 from iN_lt0 (by omega)), if_neg (show ¬ oi (some a) < 0 from iN_lt0 (by omega))]
        by_cases q : rg_d u + 1 < u.length
        · rw [if_pos q]
          simp only [show ¬ rg_d u + 1 = u.length by omega, if_false]
          cases hbv : rg_b u with
          | none =>
            rw [if_pos (show oi none < 0 by decide)]
          | some v =>
            have := lb9 v hbv
            rw [if_neg (show ¬ oi (some v) < 0 from iN_lt0 (by omega))]
            by_cases av : a ≤ v
            · rw [if_neg (show ¬ oi (some v) < oi (some a) from mt (iN_lt (by omega) (by omega)).mp (by omega))]
              simp only [av, if_true]
              exact m_378 hn (Or.inr ⟨a, rfl, ha9, Or.inr ⟨v, rfl, av, this⟩⟩) l3 l4 l5
            · rw [if_pos (show oi (some v) < oi (some a) from (iN_lt (by omega) (by omega)).mpr (by omega))]
              simp only [av, if_false]
        · rw [if_neg q]
          simp only [show rg_d u + 1 = u.length by omega, if_true]
          exact m_378 hn (Or.inr ⟨a, rfl, ha9, Or.inl rfl⟩) l3 l4 l5
  · have hq : q_rg u = none := by unfold q_rg; rw [if_neg c]
    rw [hq]
    show _ = x_Model_tell_465 (iN r) (iN n) l3 l4 l5 σ
    by_cases q1 : u.length ≤ dm
    · rw [if_pos ((iN_le (by omega) (by omega)).mpr (by omega))]
    · rw [if_neg (mt (iN_le (by omega) (by omega)).mp (by omega)), iN_sub (by omega), show b + dm - b = dm by omega]
      by_cases q2 : dm ≤ 5
      · rw [if_pos (show iN dm ≤ 5 from (iN_le (b := 5) (by omega) (by omega)).mpr q2)]
      · rw [if_neg (show ¬ iN dm ≤ 5 from mt (iN_le (b := 5) (by omega) (by omega)).mp q2), show (6 : Int32) = iN 6 from rfl, iN_add, show (114 : Int32) = iN 114 from rfl, m_isWord (hR.less (d := 6) (by omega)) MW_114 (by omega), Option.bind_some]
        cases hw : u_is (sl (fun j => u.getD j 0) 0 6) (wd_ 18)
        · rfl
        · have := dd hw (by omega)
          exact absurd ⟨by omega, hw, by omega⟩ c
