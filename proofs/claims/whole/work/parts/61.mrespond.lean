/-! a response of the reference -/
theorem MW_160 : MW 160 (wd_ 21) := by unfold MW; decide
theorem MW_170 : MW 170 (wd_ 23) := by unfold MW; decide
theorem MW_187 : MW 187 [69, 84, 97, 103, 58, 32] := by unfold MW; decide
theorem MW_194 : MW 194 (wd_ 27) := by unfold MW; decide
theorem MW_216 : MW 216 (wd_ 28 ++ wd_ 29) := by unfold MW; decide
theorem MW_261 : MW 261 ((wd_ 30).take 17) := by unfold MW; decide
theorem MW_279 : MW 279 ((wd_ 31).take 22) := by unfold MW; decide
theorem wt_30 : (wd_ 30).take 17 ++ wd_ 24 = wd_ 30 := by decide
theorem wt_31 : (wd_ 31).take 22 ++ wd_ 24 = wd_ 31 := by decide
theorem wt_25 : [69, 84, 97, 103, 58, 32] ++ [34] = wd_ 25 := by decide
theorem wt_26 : [34] ++ wd_ 24 = wd_ 26 := by decide
theorem wt_22 : [32] ++ wd_ 24 = wd_ 22 := by decide
theorem m_sayStatus {σ : St} {O : List Nat} (hO : Mo σ O) (hb : O.length + 1000 < 2000000000) {num : Nat} (hn : num < 1000) : ∃ σ', x_Model_sayStatus (iN num) σ = some σ' ∧ Mo σ' (O ++ o_sta num) ∧ σ'.1 51 29 = iN num ∧ σ'.1 51 30 = σ.1 51 30 + 1 := by
  have h0 : Mw σ σ O 900 := ⟨hO, xFp.rf, by omega⟩
  obtain ⟨s1, a1, a2⟩ := mw_word h0 MW_160 (by decide) (by omega)
  obtain ⟨s2, b1, b2⟩ := mw_num a2 (v := num) (by omega) (by omega)
  obtain ⟨s3, c1, c2⟩ := mw_byte (n := 800) (b2.less (by omega)) 32
  obtain ⟨s4, d1, d2⟩ := mw_end c2 (by omega)
  refine ⟨x_updR (x_updR s4 51 29 (iN num)) 51 30 (σ.1 51 30 + 1), ?_, ?_, ?_, ?_⟩
  · unfold x_Model_sayStatus
    rw [show (160 : Int32) = iN 160 from rfl, a1, Option.bind_some, b1, Option.bind_some, show (32 : Int32) = iN 32 from rfl, c1, Option.bind_some, d1, Option.bind_some]
    simp only [x_let]
    rw [show (x_updR s4 51 29 (iN num)).1 51 30 = s4.1 51 30 by simp [x_updR], d2.2.1.1 51 30 (by simp)]
  · have := d2.1
    have e : O ++ o_sta num = O ++ wd_ 21 ++ dg num ++ [32] ++ wd_ 24 := by
      unfold o_sta
      rw [← wt_22]
      simp only [List.append_assoc]
    rw [e]
    exact this.of (by simp [x_updR]) rfl
  · simp [x_updR]
  · simp [x_updR]
/-- the rest of a response -/
def Mv (σ0 : St) (last : Bool) (mi me : Nat) : Prop := σ0.1 51 16 = bi last ∧ (σ0.1 51 15 = iN mi ∧ mi < 1000) ∧ (σ0.1 51 12 = iN me ∧ me < 1000)
section MRS
variable {σ0 : St} {num told : Nat} {tag : Option Nat} {frm til whole : Nat} {last : Bool} {mi me : Nat}
theorem mz_213 (hV : Mv σ0 last mi me) (a1 a2 a3 a4 a5 a6 : Int32) {σ : St} {O : List Nat} {n : Nat} (h : Mw σ0 σ O n) (hn : 100 ≤ n) : ∃ σ', x_Model_respond_213 a1 a2 a3 a4 a5 a6 σ = some σ' ∧ Mo σ' (O ++ wd_ 24) ∧ σ'.1 51 7 = bi (!last) ∧ xFp [(51, 31), (51, 7)] [65] (false, false, false) σ0 σ' := by
  obtain ⟨s1, b1, b2⟩ := mw_end h (by omega)
  unfold x_Model_respond_213
  rw [b1, Option.bind_some, b2.2.1.1 51 16 (by simp), hV.1]
  simp only [x_let]
  cases last
  · exact ⟨_, rfl, b2.1.of (by simp [x_updR]) rfl, by simp [x_updR]; rfl, (b2.2.1.sub (by simp) (by simp) (by simp)).tr (xFp.R rfl (by simp))⟩
  · exact ⟨_, rfl, b2.1.of (by simp [x_updR]) rfl, by simp [x_updR]; rfl, (b2.2.1.sub (by simp) (by simp) (by simp)).tr (xFp.R rfl (by simp))⟩
theorem mz_175 (hV : Mv σ0 last mi me) (a1 a2 a3 a4 a5 a6 : Int32) {σ : St} {O : List Nat} {n : Nat} (h : Mw σ0 σ O n) (hn : 200 ≤ n) : ∃ σ', x_Model_respond_175 a1 a2 a3 a4 a5 a6 σ = some σ' ∧ Mo σ' (O ++ (o_con last (decide (mi = 0)) ++ wd_ 24)) ∧ σ'.1 51 7 = bi (!last) ∧ xFp [(51, 31), (51, 7)] [65] (false, false, false) σ0 σ' := by
  have hV' := hV
  obtain ⟨v1, ⟨v2, v3⟩, v4, v5⟩ := hV
  unfold x_Model_respond_175 x_Model_respond_189 x_Model_respond_206 o_con
  rw [h.2.1.1 51 16 (by simp), h.2.1.1 51 15 (by simp), v1, v2]
  cases hl : last
  · by_cases m0 : mi = 0
    · obtain ⟨s1, b1, b2⟩ := mw_word h MW_279 (by decide) (by omega)
      obtain ⟨s2, c1, c2⟩ := mw_end b2 (by omega)
      obtain ⟨s3, d1, d2, d3, d4⟩ := mz_213 hV' a1 a2 a3 a4 a5 a6 c2 (by omega)
      refine ⟨s3, ?_, ?_, by rw [hl] at d3; exact d3, d4⟩
      · rw [if_pos (show bi false = 0 from rfl), if_pos (show iN mi = 0 by rw [m0]; rfl), if_pos (show bi false = 0 from rfl), show (279 : Int32) = iN 279 from rfl, b1, Option.bind_some, c1, Option.bind_some, d1]
      · rw [decide_eq_true m0]
        rw [List.append_assoc, List.append_assoc, ← List.append_assoc (List.take 22 (wd_ 31)), wt_31] at d2
        exact d2
    · obtain ⟨s3, d1, d2, d3, d4⟩ := mz_213 hV' a1 a2 a3 a4 a5 a6 h (by omega)
      refine ⟨s3, ?_, ?_, by rw [hl] at d3; exact d3, d4⟩
      · rw [if_pos (show bi false = 0 from rfl), if_neg (mt (iN_eq0 (by omega)).mp m0), d1]
      · rw [decide_eq_false m0]
        exact d2
  · obtain ⟨s1, b1, b2⟩ := mw_word h MW_261 (by decide) (by omega)
    obtain ⟨s2, c1, c2⟩ := mw_end b2 (by omega)
    obtain ⟨s3, d1, d2, d3, d4⟩ := mz_213 hV' a1 a2 a3 a4 a5 a6 c2 (by omega)
    refine ⟨s3, ?_, ?_, by rw [hl] at d3; exact d3, d4⟩
    · rw [if_neg (show ¬ bi true = 0 by decide), if_neg (show ¬ bi true = 0 by decide), show (261 : Int32) = iN 261 from rfl, b1, Option.bind_some, c1, Option.bind_some, d1]
    · rw [List.append_assoc, List.append_assoc, ← List.append_assoc (List.take 17 (wd_ 30)), wt_30] at d2
      exact d2
def m_alw (num me : Nat) : Bool := decide (num = 405) || (decide (num = 204) && decide (me = 146))
theorem mz_140 (hV : Mv σ0 last mi me) (hnum : num < 1000) (a2 a3 a4 a5 a6 : Int32) {σ : St} {O : List Nat} {n : Nat} (h : Mw σ0 σ O n) (hn : 300 ≤ n) : ∃ σ', x_Model_respond_140 (iN num) a2 a3 a4 a5 a6 σ = some σ' ∧ Mo σ' (O ++ (o_alw (m_alw num me) ++ (o_con last (decide (mi = 0)) ++ wd_ 24))) ∧ σ'.1 51 7 = bi (!last) ∧ xFp [(51, 31), (51, 7)] [65] (false, false, false) σ0 σ' := by
  have hV' := hV
  obtain ⟨v1, ⟨v2, v3⟩, v4, v5⟩ := hV
  have yes : ∃ σ', x_Model_respond_164 (iN num) a2 a3 a4 a5 a6 σ = some σ' ∧ Mo σ' (O ++ (o_alw true ++ (o_con last (decide (mi = 0)) ++ wd_ 24))) ∧ σ'.1 51 7 = bi (!last) ∧ xFp [(51, 31), (51, 7)] [65] (false, false, false) σ0 σ' := by
    obtain ⟨s1, b1, b2⟩ := mw_word h MW_216 (by decide) (by omega)
    obtain ⟨s2, c1, c2⟩ := mw_end b2 (by omega)
    obtain ⟨s3, d1, d2, d3, d4⟩ := mz_175 hV' (iN num) a2 a3 a4 a5 a6 c2 (by omega)
    refine ⟨s3, ?_, ?_, d3, d4⟩
    · unfold x_Model_respond_164
      rw [show (216 : Int32) = iN 216 from rfl, b1, Option.bind_some, c1, Option.bind_some, d1]
    · simpa only [List.append_assoc, o_alw, if_true] using d2
  have no := mz_175 hV' (iN num) a2 a3 a4 a5 a6 h (by omega)
  unfold x_Model_respond_140 m_alw
  rw [h.2.1.1 51 12 (by simp), v4]
  by_cases q5 : num = 405
  · rw [if_pos (show iN num = 405 by rw [q5]; rfl), decide_eq_true q5]
    exact yes
  · rw [if_neg (show ¬ iN num = 405 from mt (iN_eq (b := 405) (by omega) (by omega)).mp q5), decide_eq_false q5]
    by_cases q4 : num = 204
    · rw [if_pos (show iN num = 204 by rw [q4]; rfl), decide_eq_true q4]
      by_cases qm : me = 146
      · rw [if_pos (show iN me = 146 by rw [qm]; rfl), decide_eq_true qm]
        exact yes
      · rw [if_neg (show ¬ iN me = 146 from mt (iN_eq (b := 146) (by omega) (by omega)).mp qm), decide_eq_false qm]
        exact no
    · rw [if_neg (show ¬ iN num = 204 from mt (iN_eq (b := 204) (by omega) (by omega)).mp q4), decide_eq_false q4]
      exact no
theorem mz_67 (hV : Mv σ0 last mi me) (hnum : num < 1000) (hw : whole < 1000) (a2 a3 a4 a5 : Int32) (hr : num = 206 → (a4 = iN frm ∧ frm < 1000) ∧ (a5 = iN til ∧ til < 1000 ∧ 1 ≤ til)) {σ : St} {O : List Nat} {n : Nat} (h : Mw σ0 σ O n) (hn : 500 ≤ n) : ∃ σ', x_Model_respond_67 (iN num) a2 a3 a4 a5 (iN whole) σ = some σ' ∧ Mo σ' (O ++ (o_rng num frm til whole ++ (o_alw (m_alw num me) ++ (o_con last (decide (mi = 0)) ++ wd_ 24)))) ∧ σ'.1 51 7 = bi (!last) ∧ xFp [(51, 31), (51, 7)] [65] (false, false, false) σ0 σ' := by
  unfold x_Model_respond_67 o_rng
  by_cases q : num = 206
  · obtain ⟨⟨r1, r2⟩, r3, r4, r5⟩ := hr q
    obtain ⟨s1, b1, b2⟩ := mw_word h MW_194 (by decide) (by omega)
    obtain ⟨s2, c1, c2⟩ := mw_num b2 (v := frm) (by omega) (by omega)
    obtain ⟨s3, d1, d2⟩ := mw_byte (n := n - 80) (c2.less (by omega)) 45
    obtain ⟨s4, e1, e2⟩ := mw_num d2 (v := til - 1) (by omega) (by omega)
    obtain ⟨s5, f1, f2⟩ := mw_byte (n := n - 100) (e2.less (by omega)) 47
    obtain ⟨s6, g1, g2⟩ := mw_num f2 (v := whole) (by omega) (by omega)
    obtain ⟨s7, i1, i2⟩ := mw_end g2 (by omega)
    obtain ⟨s8, j1, j2, j3, j4⟩ := mz_140 hV hnum a2 a3 a4 a5 (iN whole) i2 (by omega)
    refine ⟨s8, ?_, by rw [if_pos q]; simpa only [List.append_assoc] using j2, j3, j4⟩
    rw [if_pos (show iN num = 206 by rw [q]; rfl)]
    unfold x_Model_respond_81 x_Model_respond_124
    rw [show (194 : Int32) = iN 194 from rfl, b1, Option.bind_some, if_pos (show iN num = 206 by rw [q]; rfl), r1, c1, Option.bind_some, show (45 : Int32) = iN 45 from rfl, d1, Option.bind_some, r3, iN_sub1 r5, e1, Option.bind_some, show (47 : Int32) = iN 47 from rfl, f1, Option.bind_some, g1, Option.bind_some, i1, Option.bind_some, ← r1, ← r3, j1]
  · rw [if_neg (show ¬ iN num = 206 from mt (iN_eq (b := 206) (by omega) (by omega)).mp q)]
    by_cases q4 : num = 416
    · obtain ⟨s1, b1, b2⟩ := mw_word h MW_194 (by decide) (by omega)
      obtain ⟨s3, d1, d2⟩ := mw_byte (n := n - 80) (b2.less (by omega)) 42
      obtain ⟨s5, f1, f2⟩ := mw_byte (n := n - 100) (d2.less (by omega)) 47
      obtain ⟨s6, g1, g2⟩ := mw_num f2 (v := whole) (by omega) (by omega)
      obtain ⟨s7, i1, i2⟩ := mw_end g2 (by omega)
      obtain ⟨s8, j1, j2, j3, j4⟩ := mz_140 hV hnum a2 a3 a4 a5 (iN whole) i2 (by omega)
      refine ⟨s8, ?_, by rw [if_neg q, if_pos q4]; simpa only [List.append_assoc] using j2, j3, j4⟩
      rw [if_pos (show iN num = 416 by rw [q4]; rfl)]
      unfold x_Model_respond_81 x_Model_respond_124
      rw [show (194 : Int32) = iN 194 from rfl, b1, Option.bind_some, if_neg (show ¬ iN num = 206 from mt (iN_eq (b := 206) (by omega) (by omega)).mp q), show (42 : Int32) = iN 42 from rfl, d1, Option.bind_some, show (47 : Int32) = iN 47 from rfl, f1, Option.bind_some, g1, Option.bind_some, i1, Option.bind_some, j1]
    · rw [if_neg (show ¬ iN num = 416 from mt (iN_eq (b := 416) (by omega) (by omega)).mp q4), if_neg q, if_neg q4]
      exact mz_140 hV hnum a2 a3 a4 a5 (iN whole) h (by omega)
theorem mz_35 (hV : Mv σ0 last mi me) (hnum : num < 1000) (hw : whole < 1000) (a2 a4 a5 : Int32) (ht : ∀ t, tag = some t → t < 1000000000) (hr : num = 206 → (a4 = iN frm ∧ frm < 1000) ∧ (a5 = iN til ∧ til < 1000 ∧ 1 ≤ til)) {σ : St} {O : List Nat} {n : Nat} (h : Mw σ0 σ O n) (hn : 600 ≤ n) : ∃ σ', x_Model_respond_35 (iN num) a2 (oi tag) a4 a5 (iN whole) σ = some σ' ∧ Mo σ' (O ++ (o_tag tag ++ (o_rng num frm til whole ++ (o_alw (m_alw num me) ++ (o_con last (decide (mi = 0)) ++ wd_ 24))))) ∧ σ'.1 51 7 = bi (!last) ∧ xFp [(51, 31), (51, 7)] [65] (false, false, false) σ0 σ' := by
  unfold x_Model_respond_35
  cases hq : tag with
  | none =>
    rw [if_pos (show oi none < 0 by decide)]
    exact mz_67 hV hnum hw a2 (oi none) a4 a5 hr h (by omega)
  | some t =>
    have hv := ht t hq
    rw [if_neg (show ¬ oi (some t) < 0 from iN_lt0 (by omega))]
    obtain ⟨s1, b1, b2⟩ := mw_word h MW_187 (by decide) (by omega)
    obtain ⟨s2, c1, c2⟩ := mw_byte (n := n - 65) (b2.less (by omega)) 34
    obtain ⟨s3, d1, d2⟩ := mw_num c2 (v := t) (by omega) (by omega)
    obtain ⟨s4, e1, e2⟩ := mw_byte (n := n - 80) (d2.less (by omega)) 34
    obtain ⟨s5, f1, f2⟩ := mw_end e2 (by omega)
    obtain ⟨s6, g1, g2, g3, g4⟩ := mz_67 hV hnum hw a2 (oi (some t)) a4 a5 hr f2 (by omega)
    refine ⟨s6, ?_, ?_, g3, g4⟩
    · rw [show (187 : Int32) = iN 187 from rfl, b1, Option.bind_some, show (34 : Int32) = iN 34 from rfl, c1, Option.bind_some, show oi (some t) = iN t from rfl, d1, Option.bind_some, e1, Option.bind_some, f1, Option.bind_some]
      exact g1
    · have e25 : ∀ X, wd_ 25 ++ X = [69, 84, 97, 103, 58, 32] ++ ([34] ++ X) := fun X => by rw [← List.append_assoc, wt_25]
      have e26 : ∀ X, wd_ 26 ++ X = [34] ++ (wd_ 24 ++ X) := fun X => by rw [← List.append_assoc, wt_26]
      unfold o_tag
      simp only [List.append_assoc, e25, e26]
      simpa only [List.append_assoc] using g2
end MRS
theorem m_respond {σ : St} {O : List Nat} (hO : Mo σ O) (hb : O.length + 1000 < 2000000000) {num told whole frm til mi me : Nat} {tag : Option Nat} {last : Bool} (hV : Mv σ last mi me) (hnum : num < 1000) (htd : told < 1000) (hw : whole < 1000) (a4 a5 : Int32) (ht : ∀ t, tag = some t → t < 1000000000) (hr : num = 206 → (a4 = iN frm ∧ frm < 1000) ∧ (a5 = iN til ∧ til < 1000 ∧ 1 ≤ til)) : ∃ σ', x_Model_respond (iN num) (iN told) (oi tag) a4 a5 (iN whole) σ = some σ' ∧ Mo σ' (O ++ (o_sta num ++ (o_flds num told tag frm til whole (m_alw num me) last (decide (mi = 0)) ++ wd_ 24))) ∧ σ'.1 51 7 = bi (!last) ∧ σ'.1 51 29 = iN num ∧ σ'.1 51 30 = σ.1 51 30 + 1 := by
  obtain ⟨s1, a1, a2, a3, a6⟩ := m_sayStatus hO hb hnum
  have fp := fp_Model_sayStatus _ _ a1
  have hl : (o_sta num).length ≤ 30 := by
    unfold o_sta
    have := dg_len num
    simp only [List.length_append, show (wd_ 21).length = 9 by decide, show (wd_ 22).length = 3 by decide]
    omega
  have h0 : Mw s1 s1 (O ++ o_sta num) 900 := ⟨a2, xFp.rf, by rw [List.length_append]; omega⟩
  have hV1 : Mv s1 last mi me := ⟨by rw [fp.1 _ _ (by simp)]; exact hV.1, ⟨by rw [fp.1 _ _ (by simp)]; exact hV.2.1.1, hV.2.1.2⟩, by rw [fp.1 _ _ (by simp)]; exact hV.2.2.1, hV.2.2.2⟩
  have fin : ∀ {s : St} {O' : List Nat} {n : Nat}, Mw s1 s O' n → 600 ≤ n → ∃ σ', x_Model_respond_35 (iN num) (iN told) (oi tag) a4 a5 (iN whole) s = some σ' ∧ Mo σ' (O' ++ (o_tag tag ++ (o_rng num frm til whole ++ (o_alw (m_alw num me) ++ (o_con last (decide (mi = 0)) ++ wd_ 24))))) ∧ σ'.1 51 7 = bi (!last) ∧ σ'.1 51 29 = iN num ∧ σ'.1 51 30 = σ.1 51 30 + 1 := by
    intro s O' n hs hn
    obtain ⟨s2, b1, b2, b3, b4⟩ := mz_35 hV1 hnum hw (iN told) a4 a5 ht hr hs hn
    exact ⟨s2, b1, b2, b3, by rw [b4.1 _ _ (by simp)]; exact a3, by rw [b4.1 _ _ (by simp)]; exact a6⟩
  unfold x_Model_respond o_flds o_len
  rw [a1, Option.bind_some]
  by_cases q : num = 204
  · rw [if_pos (show iN num = 204 by rw [q]; rfl), if_pos (Or.inl q)]
    obtain ⟨s2, b1, b2, b3⟩ := fin h0 (by omega)
    exact ⟨s2, b1, by simpa only [List.append_assoc, List.nil_append] using b2, b3⟩
  · rw [if_neg (show ¬ iN num = 204 from mt (iN_eq (b := 204) (by omega) (by omega)).mp q)]
    by_cases q3 : num = 304
    · rw [if_pos (show iN num = 304 by rw [q3]; rfl), if_pos (Or.inr q3)]
      obtain ⟨s2, b1, b2, b3⟩ := fin h0 (by omega)
      exact ⟨s2, b1, by simpa only [List.append_assoc, List.nil_append] using b2, b3⟩
    · rw [if_neg (show ¬ iN num = 304 from mt (iN_eq (b := 304) (by omega) (by omega)).mp q3), if_neg (fun z => by rcases z with z | z; (· exact q z); exact q3 z)]
      obtain ⟨s2, c1, c2⟩ := mw_word h0 MW_170 (by decide) (by omega)
      obtain ⟨s3, d1, d2⟩ := mw_num c2 (v := told) (by omega) (by omega)
      obtain ⟨s4, e1, e2⟩ := mw_end d2 (by omega)
      obtain ⟨s5, b1, b2, b3⟩ := fin e2 (by omega)
      refine ⟨s5, ?_, by simpa only [List.append_assoc] using b2, b3⟩
      rw [show (170 : Int32) = iN 170 from rfl, c1, Option.bind_some, d1, Option.bind_some, e1, Option.bind_some, b1]
