/-! the reference answers -/
def o_all (R : Rs) (last old : Bool) : List Nat := o_sta R.1 ++ (o_flds R.1 R.2.1 R.2.2.1 R.2.2.2.1 R.2.2.2.2.1 R.2.2.2.2.2.1 R.2.2.2.2.2.2.1 last old ++ (wd_ 24 ++ R.2.2.2.2.2.2.2))
theorem o_hd_len (num told : Nat) (tag : Option Nat) (frm til whole : Nat) (a c k : Bool) : (o_sta num ++ (o_flds num told tag frm til whole a c k ++ wd_ 24)).length ≤ 250 := by
  have l1 : (o_sta num).length ≤ 22 := by
    unfold o_sta
    have := dg_len num
    simp only [List.length_append, show (wd_ 21).length = 9 by decide, show (wd_ 22).length = 3 by decide]
    omega
  have l2 : (o_len num told).length ≤ 28 := by
    unfold o_len
    have := dg_len told
    split
    · simp
    · simp only [List.length_append, show (wd_ 23).length = 16 by decide, show (wd_ 24).length = 2 by decide]
      omega
  have l3 : (o_tag tag).length ≤ 20 := by
    unfold o_tag
    cases tag with
    | none => simp
    | some t =>
      have := dg_len t
      simp only [List.length_append, show (wd_ 25).length = 7 by decide, show (wd_ 26).length = 3 by decide]
      omega
  have l4 : (o_rng num frm til whole).length ≤ 55 := by
    unfold o_rng
    have := dg_len frm
    have := dg_len (til - 1)
    have := dg_len whole
    split
    · simp only [List.length_append, List.length_singleton, show (wd_ 27).length = 21 by decide, show (wd_ 24).length = 2 by decide]
      omega
    · split
      · simp only [List.length_append, List.length_singleton, show (wd_ 27).length = 21 by decide, show (wd_ 24).length = 2 by decide]
        omega
      · simp
  have l5 : (o_alw a).length ≤ 46 := by cases a <;> decide
  have l6 : (o_con c k).length ≤ 24 := by cases c <;> cases k <;> decide
  unfold o_flds
  simp only [List.length_append, show (wd_ 24).length = 2 by decide]
  omega
/-- what a response leaves -/
def MR (σ σ' : St) (O : List Nat) (R : Rs) (last : Bool) (mi : Nat) (S : Site) (chg : Nat) : Prop := Mo σ' (O ++ o_all R last (decide (mi = 0))) ∧ Ms σ' S chg ∧ σ'.1 51 7 = bi (!last) ∧ σ'.1 51 29 = iN R.1 ∧ σ'.1 51 30 = σ.1 51 30 + 1
theorem m_rsp {σ : St} {O : List Nat} (hO : Mo σ O) (hb : O.length + 2000 < 2000000000) {num mi me : Nat} {last : Bool} (hV : Mv σ last mi me) (hnum : num < 1000) (h206 : ¬ num = 206) {S : Site} {chg : Nat} (hs : Ms σ S chg) {a : Bool} (ha : a = m_alw num me) : ∃ σ', x_Model_respond (iN num) 0 (-1) (-1) 0 0 σ = some σ' ∧ MR σ σ' O (num, 0, none, 0, 0, 0, a, []) last mi S chg := by
  obtain ⟨σ', a1, a2, a3, a4, a5⟩ := m_respond hO (by omega) hV hnum (told := 0) (whole := 0) (frm := 0) (til := 0) (tag := none) (by decide) (by decide) (-1) 0 (fun t z => by cases z) (fun z => absurd z h206)
  have fp := fp_Model_respond _ _ _ _ _ _ _ a1
  refine ⟨σ', a1, ?_, hs.of (fp.1 _ _ (by simp)) (fp.2.1 _ (by simp)) (fp.2.1 _ (by simp)) (fp.2.1 _ (by simp)) (fp.2.1 _ (by simp)), a3, a4, a5⟩
  unfold o_all
  rw [List.append_nil, ha]
  exact a2
theorem m_ts4 {σ : St} {S : Site} {chg : Nat} (hs : Ms σ S chg) : ∀ d r fuel c, r + d = 8 → d < fuel → c ≤ r → x_Model_tellSite_4 fuel (iN c) (iN r) σ = (Option.bind (x_Model_respond (200 : Int32) (iN (c + (q_list S r d).length)) ((-1) : Int32) ((-1) : Int32) (0 : Int32) (0 : Int32) σ) (fun s42 => x_Model_tellSite_47 x_fuel (0 : Int32) s42)) := by
  intro d
  induction d with
  | zero =>
    intro r fuel c hr hf hc
    obtain ⟨z, rfl⟩ := x_fuelS (show 0 < fuel by omega)
    rw [x_Model_tellSite_4, if_pos (show (8 : Int32) ≤ iN r from (iN_le (a := 8) (by omega) (by omega)).mpr (by omega))]
    rfl
  | succ d ih =>
    intro r fuel c hr hf hc
    obtain ⟨z, rfl⟩ := x_fuelS (show 0 < fuel by omega)
    rw [x_Model_tellSite_4, if_neg (show ¬ (8 : Int32) ≤ iN r from mt (iN_le (a := 8) (by omega) (by omega)).mp (by omega)), if_pos ((iN_in (by omega)).mpr (by omega)), iN_clamp (by omega), hs.there (by omega), q_list]
    unfold x_Model_tellSite_26
    simp only [x_let]
    rw [iN_1a, iN_1a, ih (r + 1) z c (by omega) (by omega) (by omega), ih (r + 1) z (c + 1) (by omega) (by omega) (by omega)]
    cases (S r).isSome
    · rfl
    · rw [if_neg (show ¬ bi true = 0 by decide)]
      simp only [if_true, List.length_append, List.length_singleton]
      rw [show c + 1 + (q_list S (r + 1) d).length = c + (1 + (q_list S (r + 1) d).length) by omega]
theorem m_ts47 {σ0 : St} {S : Site} {chg : Nat} (hs : Ms σ0 S chg) {me : Nat} (hm : σ0.1 51 12 = iN me) (hm2 : me < 1000) : ∀ d r fuel σ O n, r + d = 8 → d < fuel → Mw σ0 σ O (n + d) → ∃ σ', x_Model_tellSite_47 fuel (iN r) σ = some σ' ∧ Mw σ0 σ' (O ++ (if me = 121 then q_list S r d else [])) n := by
  intro d
  induction d with
  | zero =>
    intro r fuel σ O n hr hf h
    obtain ⟨z, rfl⟩ := x_fuelS (show 0 < fuel by omega)
    refine ⟨σ, ?_, by rw [q_list, ite_self, List.append_nil]; exact h⟩
    rw [x_Model_tellSite_47, if_pos (show (8 : Int32) ≤ iN r from (iN_le (a := 8) (by omega) (by omega)).mpr (by omega))]
  | succ d ih =>
    intro r fuel σ O n hr hf h
    obtain ⟨z, rfl⟩ := x_fuelS (show 0 < fuel by omega)
    have e53 : σ.2.1 53 r = bi (S r).isSome := by rw [h.2.1.2.1 _ (by simp)]; exact hs.there (by omega)
    rw [x_Model_tellSite_47, if_neg (show ¬ (8 : Int32) ≤ iN r from mt (iN_le (a := 8) (by omega) (by omega)).mp (by omega)), if_pos ((iN_in (by omega)).mpr (by omega)), iN_clamp (by omega), e53, h.2.1.1 51 12 (by simp), hm, q_list]
    unfold x_Model_tellSite_79
    simp only [x_let]
    rw [iN_1a]
    cases hS : (S r).isSome
    · rw [if_pos (show bi false = 0 from rfl)]
      exact ih (r + 1) z σ O n (by omega) (by omega) (h.less (by omega))
    · rw [if_neg (show ¬ bi true = 0 by decide)]
      by_cases m0 : me = 121
      · rw [if_pos (show iN me = 121 by rw [m0]; rfl), show (97 : Int32) = iN 97 from rfl, iN_add]
        obtain ⟨s1, a1, a2⟩ := mw_byte (n := n + d) h (97 + r)
        rw [a1, Option.bind_some]
        obtain ⟨s2, b1, b2⟩ := ih (r + 1) z s1 _ n (by omega) (by omega) a2
        refine ⟨s2, b1, ?_⟩
        simp only [m0, if_true] at b2 ⊢
        rw [List.append_assoc] at b2
        exact b2
      · rw [if_neg (show ¬ iN me = 121 from mt (iN_eq (b := 121) (by omega) (by omega)).mp m0)]
        have := ih (r + 1) z σ O n (by omega) (by omega) (h.less (by omega))
        simp only [m0, if_false] at this ⊢
        exact this
theorem m_tellSite {σ : St} {O : List Nat} (hO : Mo σ O) (hb : O.length + 2000 < 2000000000) {mi me : Nat} {last : Bool} (hV : Mv σ last mi me) {S : Site} {chg : Nat} (hs : Ms σ S chg) (frm til : Nat) : ∃ σ', x_Model_tellSite σ = some σ' ∧ MR σ σ' O (200, (q_list S 0 8).length, none, frm, til, 0, false, if me = 121 then q_list S 0 8 else []) last mi S chg := by
  have hl := q_list_len S 8 0
  have e := m_ts4 hs 8 0 x_fuel 0 (by omega) (by unfold x_fuel; omega) (by omega)
  unfold x_Model_tellSite
  rw [show (0 : Int32) = iN 0 from rfl, e, Nat.zero_add]
  obtain ⟨s1, a1, a2, a3, a4, a5⟩ := m_respond hO (by omega) hV (num := 200) (told := (q_list S 0 8).length) (whole := 0) (frm := frm) (til := til) (tag := none) (by decide) (by omega) (by decide) (-1) 0 (fun t z => by cases z) (fun z => by cases z)
  have fp := fp_Model_respond _ _ _ _ _ _ _ a1
  have a1' : x_Model_respond (200 : Int32) (iN (q_list S 0 8).length) (-1) (-1) 0 0 σ = some s1 := a1
  rw [a1', Option.bind_some]
  have hs1 : Ms s1 S chg := hs.of (fp.1 _ _ (by simp)) (fp.2.1 _ (by simp)) (fp.2.1 _ (by simp)) (fp.2.1 _ (by simp)) (fp.2.1 _ (by simp))
  have hlen := o_hd_len 200 (q_list S 0 8).length none frm til 0 (m_alw 200 me) last (decide (mi = 0))
  obtain ⟨s2, b1, b2⟩ := m_ts47 hs1 (me := me) (by rw [fp.1 _ _ (by simp)]; exact hV.2.2.1) hV.2.2.2 8 0 x_fuel s1 _ 10 (by omega) (by unfold x_fuel; omega) ⟨a2, xFp.rf, by rw [List.length_append]; omega⟩
  refine ⟨s2, b1, ?_, hs1.of (b2.2.1.1 _ _ (by simp)) (b2.2.1.2.1 _ (by simp)) (b2.2.1.2.1 _ (by simp)) (b2.2.1.2.1 _ (by simp)) (b2.2.1.2.1 _ (by simp)), by rw [b2.2.1.1 _ _ (by simp)]; exact a3, by rw [b2.2.1.1 _ _ (by simp)]; exact a4, by rw [b2.2.1.1 _ _ (by simp)]; exact a5⟩
  have := b2.1
  rw [show m_alw 200 me = false by unfold m_alw; simp] at this
  unfold o_all
  simpa only [List.append_assoc] using this
theorem m_509 {σ0 : St} {S : Site} {chg : Nat} (hs : Ms σ0 S chg) {me : Nat} (hm : σ0.1 51 12 = iN me) (hm2 : me < 1000) {r : Nat} (hr : r < 8) {mq : Nat} {B : List Nat} (hS : S r = some (mq, B)) (hBl : B.length ≤ 200) {ti : Nat} (ht : ti ≤ B.length) : ∀ d i fuel σ O n, (i + d = ti ∨ d = 0 ∧ ti ≤ i ∧ i < 1000) → d < fuel → Mw σ0 σ O (n + d) → ∃ σ', x_Model_tell_509 (iN r) fuel (iN ti) (iN i) σ = some σ' ∧ Mw σ0 σ' (O ++ (if me = 121 then o_bd B i ti else [])) n := by
  intro d
  induction d with
  | zero =>
    intro i fuel σ O n hi hf h
    obtain ⟨z, rfl⟩ := x_fuelS (show 0 < fuel by omega)
    refine ⟨σ, ?_, by rw [o_bd_nil (by omega), ite_self, List.append_nil]; exact h⟩
    rw [x_Model_tell_509, if_pos ((iN_le (by omega) (by omega)).mpr (by omega))]
  | succ d ih =>
    intro i fuel σ O n hi hf h
    obtain ⟨z, rfl⟩ := x_fuelS (show 0 < fuel by omega)
    have e56 : σ.2.1 56 (200 * r + i) = iN (B.getD i 0) := by rw [h.2.1.2.1 _ (by simp)]; exact ((hs.2 r hr).2 mq B hS).2.2.2 i (by omega)
    rw [x_Model_tell_509, if_neg (mt (iN_le (by omega) (by omega)).mp (by omega)), h.2.1.1 51 12 (by simp), hm]
    by_cases m0 : me = 121
    · rw [if_pos (show iN me = 121 by rw [m0]; rfl), show (200 : Int32) * iN r = iN (200 * r) from iN_mul 200 r, iN_add, if_pos ((iN_in (by omega)).mpr (by omega)), iN_clamp (by omega), e56]
      obtain ⟨s1, a1, a2⟩ := mw_byte (n := n + d) h (B.getD i 0)
      rw [a1, Option.bind_some]
      simp only [x_let]
      rw [iN_1a]
      obtain ⟨s2, b1, b2⟩ := ih (i + 1) z s1 _ n (by omega) (by omega) a2
      refine ⟨s2, b1, ?_⟩
      simp only [m0, if_true] at b2 ⊢
      rw [o_bd_cons (by omega) ht]
      rw [List.append_assoc] at b2
      exact b2
    · rw [if_neg (show ¬ iN me = 121 from mt (iN_eq (b := 121) (by omega) (by omega)).mp m0)]
      simp only [m0, if_false, List.append_nil]
      exact ⟨σ, rfl, h.less (by omega)⟩
/-- a part of a resource is told -/
theorem m_465 {σ : St} {O : List Nat} (hO : Mo σ O) (hb : O.length + 2000 < 2000000000) {mi me : Nat} {last : Bool} (hV : Mv σ last mi me) {S : Site} {chg : Nat} (hs : Ms σ S chg) (hSb : Sb S chg) (hc : chg < 1000000000) {r mq : Nat} {B : List Nat} (hr : r < 8) (hS : S r = some (mq, B)) {num fr ti frm til : Nat} (hn : num = 200 ∨ num = 206) (hf : fr ≤ ti) (ht : ti ≤ B.length) (h206 : num = 206 → frm = fr ∧ til = ti ∧ 1 ≤ ti) (whole : Nat) (hw : num = 206 → whole = B.length) : ∃ σ', x_Model_tell_465 (iN r) (iN B.length) (iN fr) (iN ti) (iN num) σ = some σ' ∧ MR σ σ' O (num, ti - fr, some mq, frm, til, whole, false, if me = 121 then o_bd B fr ti else []) last mi S chg := by
  obtain ⟨k1, k2, k3⟩ := hSb r mq B hr hS
  have e54 := ((hs.2 r hr).2 mq B hS).2.1
  have hal : m_alw num me = false := by
    unfold m_alw
    rcases hn with rfl | rfl <;> simp
  unfold x_Model_tell_465
  rw [if_neg (show ¬ iN num = 416 by rcases hn with rfl | rfl <;> decide), if_pos ((iN_in (by omega)).mpr (by omega)), iN_clamp (by omega), e54, iN_sub hf]
  obtain ⟨s1, a1, a2, a3, a4, a5⟩ := m_respond hO (by omega) hV (num := num) (told := ti - fr) (whole := B.length) (frm := fr) (til := ti) (tag := some mq) (by omega) (by omega) (by omega) (iN fr) (iN ti) (fun t z => by cases z; omega) (fun z => ⟨⟨rfl, by omega⟩, rfl, by omega, (h206 z).2.2⟩)
  have fp := fp_Model_respond _ _ _ _ _ _ _ a1
  have a1' : x_Model_respond (iN num) (iN (ti - fr)) (iN mq) (iN fr) (iN ti) (iN B.length) σ = some s1 := a1
  rw [a1', Option.bind_some]
  have hs1 : Ms s1 S chg := hs.of (fp.1 _ _ (by simp)) (fp.2.1 _ (by simp)) (fp.2.1 _ (by simp)) (fp.2.1 _ (by simp)) (fp.2.1 _ (by simp))
  have hlen := o_hd_len num (ti - fr) (some mq) fr ti B.length (m_alw num me) last (decide (mi = 0))
  obtain ⟨s2, b1, b2⟩ := m_509 hs1 (me := me) (by rw [fp.1 _ _ (by simp)]; exact hV.2.2.1) hV.2.2.2 hr hS k3 ht (ti - fr) fr x_fuel s1 _ 10 (by omega) (by unfold x_fuel; omega) ⟨a2, xFp.rf, by rw [List.length_append]; omega⟩
  refine ⟨s2, b1, ?_, hs1.of (b2.2.1.1 _ _ (by simp)) (b2.2.1.2.1 _ (by simp)) (b2.2.1.2.1 _ (by simp)) (b2.2.1.2.1 _ (by simp)) (b2.2.1.2.1 _ (by simp)), by rw [b2.2.1.1 _ _ (by simp)]; exact a3, by rw [b2.2.1.1 _ _ (by simp)]; exact a4, by rw [b2.2.1.1 _ _ (by simp)]; exact a5⟩
  have := b2.1
  have er : o_rng num fr ti B.length = o_rng num frm til whole := by
    rcases hn with h | h
    · unfold o_rng
      subst h
      rfl
    · obtain ⟨z1, z2, _⟩ := h206 h
      rw [z1, z2, hw h]
  unfold o_all
  unfold o_flds at this ⊢
  rw [hal, er] at this
  simpa only [List.append_assoc] using this
