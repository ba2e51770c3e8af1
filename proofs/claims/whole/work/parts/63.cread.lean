/-! the class decides -/
theorem s_num_lt2 (f : Nat → Nat) : ∀ d i v m w, v < 10 ^ m → s_num f i d v = some w → w < 10 ^ (m + d) := by
  intro d
  induction d with
  | zero => intro i v m w hv h; unfold s_num at h; cases h; exact hv
  | succ d ih =>
    intro i v m w hv h
    unfold s_num at h
    by_cases hd : k_dig (f i) = true
    · rw [if_pos hd] at h
      have h9 : f i - 48 ≤ 9 := by
        simp [k_dig] at hd
        omega
      have := ih (i + 1) _ (m + 1) w (by rw [Nat.pow_succ]; omega) h
      rw [show m + (d + 1) = m + 1 + d by omega]
      exact this
    · rw [if_neg hd] at h
      cases h
theorem s_number_lt2 {f : Nat → Nat} {i d v : Nat} (h : s_number f i d = some v) : v < 1000000000 := by
  unfold s_number at h
  by_cases q : 1 ≤ d ∧ d ≤ 9
  · rw [if_pos q] at h
    have := s_num_lt2 f d i 0 0 v (by decide) h
    have h2 : 10 ^ (0 + d) ≤ 10 ^ 9 := Nat.pow_le_pow_right (by decide) (by omega)
    omega
  · rw [if_neg q] at h
    cases h
/-- a range that is told -/
def rg_ok (fi la : Option Nat) : Prop := (fi = none ∧ ∃ b, la = some b ∧ 0 < b ∧ b < 1000000000) ∨ ∃ a, fi = some a ∧ a < 1000000000 ∧ (la = none ∨ ∃ b, la = some b ∧ a ≤ b ∧ b < 1000000000)
theorem q_rg_ok {u : List Nat} {fi la : Option Nat} (h : q_rg u = some (fi, la)) : rg_ok fi la := by
  unfold q_rg at h
  by_cases c : 6 ≤ u.length ∧ u_is (sl (fun j => u.getD j 0) 0 6) (wd_ 18) = true ∧ rg_d u < u.length
  · rw [if_pos c] at h
    by_cases d6 : rg_d u = 6
    · rw [if_pos d6] at h
      cases hb : rg_b u with
      | none => rw [hb] at h; cases h
      | some b =>
        rw [hb] at h
        by_cases b0 : 0 < b
        · simp only [b0, if_true] at h
          cases h
          exact Or.inl ⟨rfl, b, rfl, b0, s_number_lt2 hb⟩
        · simp only [b0, if_false] at h
          cases h
    · rw [if_neg d6] at h
      cases ha : rg_a u with
      | none => rw [ha] at h; cases h
      | some a =>
        rw [ha] at h
        by_cases de : rg_d u + 1 = u.length
        · simp only [de, if_true] at h
          cases h
          exact Or.inr ⟨a, rfl, s_number_lt2 ha, Or.inl rfl⟩
        · simp only [de, if_false] at h
          cases hb : rg_b u with
          | none => rw [hb] at h; cases h
          | some b =>
            rw [hb] at h
            by_cases ab : a ≤ b
            · simp only [ab, if_true] at h
              cases h
              exact Or.inr ⟨a, rfl, s_number_lt2 ha, Or.inr ⟨b, rfl, ab, s_number_lt2 hb⟩⟩
            · simp only [ab, if_false] at h
              cases h
  · rw [if_neg c] at h
    cases h
theorem q_rf_ok {F : Nat → Ln} {nf : Nat} {fi la : Option Nat} (h : q_rf F nf = some (fi, la)) : rg_ok fi la := by
  unfold q_rf at h
  by_cases c : f_cnt F (wd_ 17) 0 nf = 1
  · rw [if_pos c] at h
    exact q_rg_ok h
  · rw [if_neg c] at h
    cases h
theorem iN_subneg {a b : Nat} (h : a ≤ b) (hb : b < 1073741824) : ¬ (0 : Int32) < iN a - iN b := by
  rw [Int32.lt_iff_toInt_lt, Int32.toInt_sub, iN_toInt (by omega), iN_toInt (by omega), show (0 : Int32).toInt = 0 from rfl, Int.bmod_eq_of_le (by omega) (by omega)]
  omega
theorem iN_subneg2 {a b : Nat} (h : a < b) (hb : b < 1073741824) : iN a - iN b < (0 : Int32) := by
  rw [Int32.lt_iff_toInt_lt, Int32.toInt_sub, iN_toInt (by omega), iN_toInt (by omega), show (0 : Int32).toInt = 0 from rfl, Int.bmod_eq_of_le (by omega) (by omega)]
  omega
theorem rg_le {fi la : Option Nat} {n : Nat} (h : rg_ok fi la) (hf : q_far fi n = false) : q_fr fi la n ≤ q_ti fi la n ∧ q_ti fi la n ≤ n ∧ 1 ≤ q_ti fi la n := by
  unfold q_far at hf
  rcases h with ⟨rfl, b, rfl, b0, b9⟩ | ⟨a, rfl, a9, hl⟩
  · simp at hf
    simp [q_fr, q_ti]
    omega
  · simp at hf
    rcases hl with rfl | ⟨b, rfl, ab, b9⟩
    · simp [q_fr, q_ti]
      omega
    · simp [q_fr, q_ti]
      split <;> omega
theorem c_showRange {σ : St} {o : Nat} {B : List Nat} (hB : GL σ o B) (hl : B.length ≤ 200) (ho : o ≠ 44 ∧ o ≠ 45) {fi la : Option Nat} (hr : rg_ok fi la) (h0 : σ.1 45 0 = oi fi) (h1 : σ.1 45 1 = oi la) : ∃ σ', x_Answer_showRange o σ = some σ' ∧ (q_far fi B.length = true → Ax σ' 416 0 none 0 0 B.length false ∧ σ'.2.2.1 = 46) ∧ (q_far fi B.length = false → Ax σ' 206 (q_ti fi la B.length - q_fr fi la B.length) none (q_fr fi la B.length) (q_ti fi la B.length) B.length false ∧ σ'.2.2.1 = o) := by
  have hc : σ.1 o 1 = iN B.length := hB.1
  unfold x_Answer_showRange x_Answer_showRange_20
  simp only [x_let]
  rw [hc, h0]
  have far : ∃ σ', (Option.bind (x_Answer_begin (416 : Int32) σ) (fun s24 => some (x_updR s24 44 11 (iN B.length)))) = some σ' ∧ Ax σ' 416 0 none 0 0 B.length false ∧ σ'.2.2.1 = 46 := by
    obtain ⟨s1, a1, ⟨b1, b2, b3, b4, b5, b6, b7⟩, a3⟩ := c_begin 416 σ
    refine ⟨x_updR s1 44 11 (iN B.length), ?_, ⟨?_, ?_, ?_, ?_, ?_, ?_, ?_⟩, a3⟩
    · rw [show (416 : Int32) = iN 416 from rfl, a1, Option.bind_some]
    all_goals simp [x_updR]
    all_goals assumption
  by_cases n0 : B.length = 0
  · rw [if_pos ((iN_eq0 (by omega)).mpr n0)]
    obtain ⟨σ', f1, f2⟩ := far
    refine ⟨σ', f1, fun _ => f2, fun z => ?_⟩
    unfold q_far at z
    rw [decide_eq_true n0] at z
    simp at z
  · rw [if_neg (mt (iN_eq0 (by omega)).mp n0)]
    have hlt : oi fi < iN B.length ↔ q_far fi B.length = false := by
      unfold q_far
      rw [decide_eq_false n0, Bool.false_or]
      rcases hr with ⟨rfl, _⟩ | ⟨a, rfl, a9, _⟩
      · simp
        exact iN_m1lt (by omega)
      · show iN a < iN B.length ↔ decide (B.length ≤ a) = false
        rw [iN_lt (by omega) (by omega), decide_eq_false_iff_not]
        omega
    cases hq : q_far fi B.length
    · rw [if_pos (hlt.mpr hq)]
      have rl := rg_le hr hq
      obtain ⟨s1, a1, ⟨b1, b2, b3, b4, b5, b6, b7⟩, a3⟩ := c_begin 206 σ
      have fp := fp_Answer_begin _ _ a1
      rw [show (206 : Int32) = iN 206 from rfl, a1, Option.bind_some]
      have k0 : (x_updB (x_updR s1 44 11 (iN B.length)) o).1 45 0 = oi fi := by simp [x_updB, x_updR]; rw [fp.1 _ _ (by simp)]; exact h0
      have k1 : (x_updB (x_updR s1 44 11 (iN B.length)) o).1 45 1 = oi la := by simp [x_updB, x_updR]; rw [fp.1 _ _ (by simp)]; exact h1
      rw [k0, k1]
      generalize hs2 : x_updB (x_updR s1 44 11 (iN B.length)) o = s2 at k0 k1
      have fin : ∀ fr ti, fr ≤ ti → ti ≤ B.length → ∃ σ', x_Answer_showRange_129 o (x_updR (x_updR s2 44 9 (iN fr)) 44 10 (iN ti)) = some σ' ∧ Ax σ' 206 (ti - fr) none fr ti B.length false ∧ σ'.2.2.1 = o := by
        intro fr ti l1 l2
        unfold x_Answer_showRange_129
        simp only [x_let]
        rw [show (x_updR (x_updR s2 44 9 (iN fr)) 44 10 (iN ti)).1 44 10 = iN ti by simp [x_updR], show (x_updR (x_updR s2 44 9 (iN fr)) 44 10 (iN ti)).1 44 9 = iN fr by simp [x_updR], iN_sub l1]
        refine ⟨_, rfl, ⟨?_, ?_, ?_, ?_, ?_, ?_, ?_⟩, by rw [← hs2]; rfl⟩ <;> rw [← hs2] <;> simp [x_updR, x_updB]
        all_goals assumption
      rcases hr with ⟨rfl, b, rfl, b0, b9⟩ | ⟨a, rfl, a9, hla⟩
      · rw [if_pos (show oi none = -1 from rfl)]
        have e : (if (0 : Int32) < iN B.length - oi (some b) then iN B.length - oi (some b) else 0) = iN (B.length - b) := by
          by_cases q : B.length ≤ b
          · rw [if_neg (show ¬ (0 : Int32) < iN B.length - oi (some b) from iN_subneg q (by omega)), show B.length - b = 0 by omega]
            rfl
          · rw [show iN B.length - oi (some b) = iN (B.length - b) from iN_sub (by omega), if_pos (show (0 : Int32) < iN (B.length - b) from (iN_lt (a := 0) (by omega) (by omega)).mpr (by omega))]
        rw [e]
        obtain ⟨σ', f1, f2⟩ := fin (B.length - b) B.length (by omega) (Nat.le_refl _)
        exact ⟨σ', f1, fun z => (by cases z), fun _ => f2⟩
      · rw [if_neg (show ¬ oi (some a) = -1 from iN_m1 (by omega))]
        unfold x_Answer_showRange_126
        simp only [x_let]
        rw [show (x_updR s2 44 9 (oi (some a))).1 45 1 = oi la by simp [x_updR]; exact k1]
        rcases hla with rfl | ⟨b, rfl, ab, b9⟩
        · rw [if_pos (show oi none = -1 from rfl)]
          obtain ⟨σ', f1, f2⟩ := fin a B.length rl.1 (Nat.le_refl _)
          exact ⟨σ', f1, fun z => (by cases z), fun _ => f2⟩
        · rw [if_neg (show ¬ oi (some b) = -1 from iN_m1 (by omega))]
          have e : (if iN B.length < oi (some b) + 1 then iN B.length else oi (some b) + 1) = iN (q_ti (some a) (some b) B.length) := by
            rw [show oi (some b) + (1 : Int32) = iN (b + 1) from iN_1a]
            unfold q_ti
            simp only
            by_cases q : b + 1 < B.length
            · rw [if_neg (mt (iN_lt (by omega) (by omega)).mp (by omega)), if_pos q]
            · rw [if_neg q]
              by_cases q2 : B.length < b + 1
              · rw [if_pos ((iN_lt (by omega) (by omega)).mpr q2)]
              · rw [if_neg (mt (iN_lt (by omega) (by omega)).mp q2), show b + 1 = B.length by omega]
          rw [e]
          obtain ⟨σ', f1, f2⟩ := fin a _ rl.1 rl.2.1
          exact ⟨σ', f1, fun z => (by cases z), fun _ => f2⟩
    · rw [if_neg (mt hlt.mp (by rw [hq]; simp))]
      obtain ⟨σ', f1, f2⟩ := far
      exact ⟨σ', f1, fun _ => f2, fun z => (by cases z)⟩
theorem c_show {σ : St} {o : Nat} {B : List Nat} (hB : GL σ o B) (ho : o ≠ 44) {me : Nat} (hm : me < 7) : ∃ σ', x_Answer_show (some me) o σ = some σ' ∧ Ax σ' 200 B.length none 0 (if me = 0 then B.length else 0) 0 false ∧ σ'.2.2.1 = o := by
  obtain ⟨s1, a1, ⟨b1, b2, b3, b4, b5, b6, b7⟩, a3⟩ := c_begin 200 σ
  have fp := fp_Answer_begin _ _ a1
  have hc : s1.1 o 1 = iN B.length := by rw [fp.1 _ _ (by simp <;> omega)]; exact hB.1
  unfold x_Answer_show
  rw [show (200 : Int32) = iN 200 from rfl, a1, Option.bind_some]
  simp only [x_let]
  rw [show (x_updB s1 o).1 o 1 = iN B.length from hc, show (x_updR (x_updB s1 o) 44 7 (iN B.length)).1 o 1 = iN B.length by simp [x_updR, ho]; exact hc, if_pos (x_e7_lt hm)]
  by_cases m0 : me = 0
  · rw [if_pos (show some me = some 0 by rw [m0]), if_pos m0]
    refine ⟨_, rfl, ⟨?_, ?_, ?_, ?_, ?_, ?_, ?_⟩, rfl⟩ <;> simp [x_updR, x_updB]
    all_goals assumption
  · rw [if_neg (fun z => m0 (by simpa using z)), if_neg m0]
    refine ⟨_, rfl, ⟨?_, ?_, ?_, ?_, ?_, ?_, ?_⟩, rfl⟩ <;> simp [x_updR, x_updB]
    all_goals first | assumption | rfl
theorem xB_r : ∀ r, r < 8 → xB (3 + 3 * r + 1) ∧ xS (3 + 3 * r) := by decide
theorem c_there {σ : St} {S : Site} {chg : Nat} (hs : Cs σ S chg) (hb : Sb S chg) (hc : chg < 1000000000) {r : Nat} (hr : r < 8) : x_Resource_isThere (3 + 3 * r) σ = some (bi (S r).isSome) := by
  obtain ⟨h1, h2⟩ := hs.2.2 r hr
  unfold x_Resource_isThere
  cases hq : S r with
  | none => rw [h1 hq]; rfl
  | some v =>
    obtain ⟨mq, B⟩ := v
    have := hb r mq B hr hq
    rw [(h2 mq B hq).1, if_neg (iN_m1 (by omega))]
    rfl
theorem Cs.of {σ σ' : St} {S : Site} {chg : Nat} (h : Cs σ S chg) (e1 : σ'.1 1 1 = σ.1 1 1) (e2 : ∀ L, GL σ 46 L → ∃ L', GL σ' 46 L') (e3 : ∀ r, r < 8 → σ'.1 (3 + 3 * r) 1 = σ.1 (3 + 3 * r) 1 ∧ σ'.1 (3 + 3 * r + 1) 1 = σ.1 (3 + 3 * r + 1) 1 ∧ σ'.2.1 (3 + 3 * r + 1 + 1) = σ.2.1 (3 + 3 * r + 1 + 1)) : Cs σ' S chg :=
  ⟨by rw [e1]; exact h.1, by obtain ⟨L, hL⟩ := h.2.1; exact e2 L hL, fun r hr => ⟨fun z => by rw [(e3 r hr).1]; exact (h.2.2 r hr).1 z, fun mq B z => ⟨by rw [(e3 r hr).1]; exact ((h.2.2 r hr).2 mq B z).1, ((h.2.2 r hr).2 mq B z).2.of (e3 r hr).2.1 (e3 r hr).2.2⟩⟩⟩
theorem Cs.fp {σ σ' : St} {S : Site} {chg : Nat} {R : List (Nat × Nat)} {M : List Nat} {f : Bool × Bool × Bool} (h : Cs σ S chg) (fp : xFp R M f σ σ') (hR : ∀ q ∈ R, 30 ≤ q.1 ∧ q.1 ≠ 46 ∨ q.1 = 0 ∨ 27 ≤ q.1 ∧ q.1 ≠ 46) (hM : ∀ q ∈ M, 28 ≤ q ∧ q ≠ 47) : Cs σ' S chg := by
  have k1 : ∀ k, k < 27 → ¬ k = 0 → ∀ j, (k, j) ∉ R := fun k hk h0 j z => by have := hR _ z; simp at this; omega
  have k2 : ∀ j, (46, j) ∉ R := fun j z => by have := hR _ z; simp at this
  refine h.of (fp.1 _ _ (k1 1 (by decide) (by decide) 1)) (fun L hL => ⟨L, hL.of (fp.1 _ _ (k2 1)) (fp.2.1 _ (fun z => by have := hM _ z; omega))⟩) (fun r hr => ⟨fp.1 _ _ (k1 _ (by omega) (by omega) 1), fp.1 _ _ (k1 _ (by omega) (by omega) 1), fp.2.1 _ (fun z => by have := hM _ z; omega)⟩)
theorem c_read {σ : St} {nf tn : Nat} {F : Nat → Ln} {tf : Nat → Nat} (h : Cf σ nf F tn tf) {S : Site} {chg : Nat} (hs : Cs σ S chg) (hb : Sb S chg) (hc : chg < 1000000000) {me : Nat} (hm : me < 7) (hq : σ.2.2.2.1 = some me) {r : Nat} (hr : r < 8) : ∃ σ', x_Answer_read (3 + 3 * r) σ = some σ' ∧ CA σ' (match S r with
    | none => rs0 404
    | some (mq, B) => q_read me mq B F nf) := by
  obtain ⟨L, hL⟩ := hs.2.1
  obtain ⟨g1, g2⟩ := hs.2.2 r hr
  obtain ⟨x1, x2⟩ := xB_r r hr
  unfold x_Answer_read
  rw [c_there hs hb hc hr, Option.bind_some]
  cases hS : S r with
  | none =>
    obtain ⟨s1, a1, a2⟩ := c_begin0 hL 404
    refine ⟨s1, ?_, a2⟩
    rw [if_pos (show bi (none : Option (Nat × List Nat)).isSome = 0 from rfl), show (404 : Int32) = iN 404 from rfl, a1, Option.bind_some]
  | some v =>
    obtain ⟨mq, B⟩ := v
    obtain ⟨m1, m2, m3⟩ := hb r mq B hr hS
    obtain ⟨k1, k2⟩ := g2 mq B hS
    rw [if_neg (show ¬ bi (some (mq, B)).isSome = 0 from (by decide : ¬ bi true = 0)), k1]
    obtain ⟨s1, a1⟩ := c_isKnown h (mq := mq) (by omega)
    have fp1 := fp_Answer_isKnown _ _ a1
    rw [a1, x_bind2_some]
    have c1 : s1.1 (3 + 3 * r) 1 = iN mq := by rw [fp1.1 _ _ (by simp <;> omega)]; exact k1
    have cB : GL s1 (3 + 3 * r + 1) B := k2.of (fp1.1 _ _ (by simp <;> omega)) (fp1.2.1 _ (by simp <;> omega))
    have hq1 : s1.2.2.2.1 = some me := by
      have := fp1.2.2.2.1
      simp at this
      rw [this, hq]
    show ∃ σ', _ ∧ CA σ' (q_read me mq B F nf)
    unfold q_read
    cases hk : q_known F nf mq
    · rw [if_pos (show bi false = 0 from rfl), hq1, if_pos (x_e7_lt hm)]
      simp only [Bool.false_eq_true, if_false]
      -- the whole content
      have whole : ∀ s, s.1 (3 + 3 * r) 1 = iN mq → GL s (3 + 3 * r + 1) B → s.2.2.2.1 = some me → ∃ σ', x_Answer_read_75 (3 + 3 * r) s = some σ' ∧ CA σ' (200, B.length, some mq, 0, if me = 0 then B.length else 0, 0, false, if me = 0 then B else []) := by
        intro s e1 e2 e3
        obtain ⟨s2, b1, ⟨d1, d2, d3, d4, d5, d6, d7⟩, b3⟩ := c_show e2 (by omega) hm
        have fp2 := fp_Answer_show _ _ _ b1
        unfold x_Answer_read_75 x_Answer_read_87
        rw [e3, b1, Option.bind_some, d1, if_neg (show ¬ iN 200 = 416 by decide), fp2.1 _ _ (by simp <;> omega), e1]
        refine ⟨_, rfl, ⟨by simp [x_updR]; exact d1, by simp [x_updR]; rfl, by simp [x_updR]; exact d3, by simp [x_updR]; exact d4, by simp [x_updR]; exact d5, by simp [x_updR]; exact d6, by simp [x_updR]; exact d7⟩, B, ?_⟩
        rw [show (x_updR s2 44 3 (iN mq)).2.2.1 = 3 + 3 * r + 1 from b3]
        refine ⟨x1, by omega, Or.inr ⟨r, hr, rfl⟩, (e2.of (fp2.1 _ _ (by simp <;> omega)) (fp2.2.1 _ (by simp))).of (by simp [x_updR] <;> omega) rfl, ?_, ?_⟩
        · show (if me = 0 then B.length else 0) ≤ B.length
          split <;> omega
        · show (if me = 0 then B else []) = o_bd B 0 (if me = 0 then B.length else 0)
          by_cases m0 : me = 0
          · rw [if_pos m0, if_pos m0, o_bd_all]
          · rw [if_neg m0, if_neg m0, o_bd_z]
      by_cases m0 : me = 0
      · rw [if_pos (show some me = some 0 by rw [m0])]
        have hF1 : Cf s1 nf F tn tf := h.of (fp1.1 _ _ (by simp)) (fp1.1 _ _ (by simp)) (fp1.2.1 _ (by simp)) (fp1.2.1 _ (by simp)) (fp1.2.1 _ (by simp)) (fp1.2.1 _ (by simp)) (fp1.2.1 _ (by simp))
        obtain ⟨s2, b1, b2⟩ := c_range hF1
        have fp2 := fp_Range_take _ b1
        rw [b1, x_bind2_some]
        have c2 : s2.1 (3 + 3 * r) 1 = iN mq := by rw [fp2.1 _ _ (by simp <;> omega)]; exact c1
        have cB2 : GL s2 (3 + 3 * r + 1) B := cB.of (fp2.1 _ _ (by simp <;> omega)) (fp2.2.1 _ (by simp))
        have hq2 : s2.2.2.2.1 = some me := by
          have := fp2.2.2.2.1
          simp at this
          rw [this, hq1]
        simp only [m0, if_true]
        have whole2 := whole s2 c2 cB2 hq2
        simp only [m0, if_true] at whole2
        cases hrf : q_rf F nf with
        | none =>
          rw [if_pos (show bi (none : Option (Option Nat × Option Nat)).isSome = 0 from rfl)]
          exact whole2
        | some v =>
          obtain ⟨fi, la⟩ := v
          obtain ⟨e0, e1⟩ := b2 fi la hrf
          have ok := q_rf_ok hrf
          rw [if_neg (show ¬ bi (some (fi, la)).isSome = 0 from (by decide : ¬ bi true = 0))]
          obtain ⟨s3, d1, d2, d3⟩ := c_showRange cB2 m3 (by omega) ok e0 e1
          have fp3 := fp_Answer_showRange _ _ d1
          rw [d1, Option.bind_some]
          unfold x_Answer_read_87
          show ∃ σ', _ ∧ CA σ' (if q_far fi B.length = true then _ else _)
          cases hfar : q_far fi B.length
          · obtain ⟨⟨w1, w2, w3, w4, w5, w6, w7⟩, w8⟩ := d3 hfar
            have rl := rg_le ok hfar
            rw [w1, if_neg (show ¬ iN 206 = 416 by decide), fp3.1 _ _ (by simp <;> omega), c2]
            refine ⟨_, rfl, ⟨by simp [x_updR]; exact w1, by simp [x_updR]; rfl, by simp [x_updR]; exact w3, by simp [x_updR]; exact w4, by simp [x_updR]; exact w5, by simp [x_updR]; exact w6, by simp [x_updR]; exact w7⟩, B, ?_⟩
            rw [show (x_updR s3 44 3 (iN mq)).2.2.1 = 3 + 3 * r + 1 from w8]
            exact ⟨x1, by omega, Or.inr ⟨r, hr, rfl⟩, (cB2.of (fp3.1 _ _ (by simp <;> omega)) (fp3.2.1 _ (by simp))).of (by simp [x_updR] <;> omega) rfl, rl.2.1, rfl⟩
          · obtain ⟨⟨w1, w2, w3, w4, w5, w6, w7⟩, w8⟩ := d2 hfar
            rw [w1, if_pos (show iN 416 = 416 from rfl)]
            refine ⟨_, rfl, ⟨by simp [x_updR]; exact w1, by simp [x_updR]; rfl, by simp [x_updR]; exact w3, by simp [x_updR]; exact w4, by simp [x_updR]; exact w5, by simp [x_updR]; exact w6, by simp [x_updR]; exact w7⟩, L, ?_⟩
            rw [show (x_updR s3 44 3 (-1)).2.2.1 = 46 from w8]
            have hL3 : GL s3 46 L := ((hL.of (fp1.1 _ _ (by simp)) (fp1.2.1 _ (by simp))).of (fp2.1 _ _ (by simp)) (fp2.2.1 _ (by simp))).of (fp3.1 _ _ (by simp)) (fp3.2.1 _ (by simp))
            exact ⟨xB46, by decide, Or.inl rfl, hL3.of (by simp [x_updR]) rfl, Nat.zero_le _, (o_bd_z L 0).symm⟩
      · rw [if_neg (fun z => m0 (by simpa using z))]
        simp only [m0, if_false]
        have whole2 := whole s1 c1 cB hq1
        simp only [m0, if_false] at whole2
        exact whole2
    · rw [if_neg (show ¬ bi true = 0 by decide)]
      simp only [if_true]
      obtain ⟨s2, b1, ⟨d1, d2, d3, d4, d5, d6, d7⟩, b3⟩ := c_begin 304 s1
      have fp2 := fp_Answer_begin _ _ b1
      unfold x_Answer_read_87
      rw [show (304 : Int32) = iN 304 from rfl, b1, Option.bind_some, d1, if_neg (show ¬ iN 304 = 416 by decide), fp2.1 _ _ (by simp <;> omega), c1]
      refine ⟨_, rfl, ⟨by simp [x_updR]; exact d1, by simp [x_updR]; rfl, by simp [x_updR]; exact d3, by simp [x_updR]; exact d4, by simp [x_updR]; exact d5, by simp [x_updR]; exact d6, by simp [x_updR]; exact d7⟩, L, ?_⟩
      rw [show (x_updR s2 44 3 (iN mq)).2.2.1 = 46 from b3]
      have hL3 : GL s2 46 L := (hL.of (fp1.1 _ _ (by simp)) (fp1.2.1 _ (by simp))).of (fp2.1 _ _ (by simp)) (fp2.2.1 _ (by simp))
      exact ⟨xB46, by decide, Or.inl rfl, hL3.of (by simp [x_updR]) rfl, Nat.zero_le _, (o_bd_z L 0).symm⟩
