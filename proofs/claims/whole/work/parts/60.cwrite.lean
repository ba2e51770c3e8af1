/-! a response, as bytes -/
def o_sta (num : Nat) : List Nat := wd_ 21 ++ (dg num ++ wd_ 22)
def o_len (num told : Nat) : List Nat := if num = 204 ∨ num = 304 then [] else wd_ 23 ++ (dg told ++ wd_ 24)
def o_tag (tag : Option Nat) : List Nat := match tag with
  | none => []
  | some t => wd_ 25 ++ (dg t ++ wd_ 26)
def o_rng (num frm til whole : Nat) : List Nat := if num = 206 then wd_ 27 ++ (dg frm ++ ([45] ++ (dg (til - 1) ++ ([47] ++ (dg whole ++ wd_ 24))))) else if num = 416 then wd_ 27 ++ ([42] ++ ([47] ++ (dg whole ++ wd_ 24))) else []
def o_alw (a : Bool) : List Nat := if a then wd_ 28 ++ (wd_ 29 ++ wd_ 24) else []
def o_con (c k : Bool) : List Nat := if c then wd_ 30 else if k then wd_ 31 else []
def o_flds (num told : Nat) (tag : Option Nat) (frm til whole : Nat) (a c k : Bool) : List Nat := o_len num told ++ (o_tag tag ++ (o_rng num frm til whole ++ (o_alw a ++ o_con c k)))
/-- the class's answer -/
def An (σ : St) (num told : Nat) (tag : Option Nat) (frm til whole : Nat) (a c k : Bool) : Prop := (σ.1 44 2 = iN num ∧ num < 1000) ∧ (σ.1 44 3 = oi tag ∧ ∀ t, tag = some t → t < 1000000000) ∧ σ.1 44 4 = bi a ∧ σ.1 44 5 = bi c ∧ σ.1 44 6 = bi k ∧ (σ.1 44 7 = iN told ∧ told < 1000) ∧ (σ.1 44 9 = iN frm ∧ frm < 1000) ∧ (σ.1 44 10 = iN til ∧ til < 1000) ∧ (σ.1 44 11 = iN whole ∧ whole < 1000) ∧ (num = 206 → 1 ≤ til)
section CWR
variable {σ0 : St} {num told : Nat} {tag : Option Nat} {frm til whole : Nat} {a c k : Bool}
theorem cw_118 (hA : An σ0 num told tag frm til whole a c k) {σ : St} {O : List Nat} (h : Cw σ0 σ O) : ∃ σ', x_Outbox_writeFields_118 σ = some σ' ∧ Cw σ0 σ' (O ++ o_con c k) := by
  obtain ⟨⟨n1, n2⟩, ⟨t1, t2⟩, a1, c1, k1, _⟩ := hA
  unfold x_Outbox_writeFields_118 o_con
  rw [h.2.1 44 5 (by simp), h.2.1 44 6 (by simp), c1, k1]
  obtain ⟨s1, b1, b2⟩ := cw_text h (w := 30) (by decide)
  obtain ⟨s2, d1, d2⟩ := cw_text h (w := 31) (by decide)
  cases c
  · cases k
    · exact ⟨σ, rfl, by simpa using h⟩
    · refine ⟨s2, ?_, d2⟩
      rw [d1]
      rfl
  · refine ⟨s1, ?_, b2⟩
    rw [b1]
    rfl
theorem cw_93 (hA : An σ0 num told tag frm til whole a c k) {σ : St} {O : List Nat} (h : Cw σ0 σ O) : ∃ σ', x_Outbox_writeFields_93 σ = some σ' ∧ Cw σ0 σ' (O ++ (o_alw a ++ o_con c k)) := by
  have hA' := hA
  obtain ⟨⟨n1, n2⟩, ⟨t1, t2⟩, a1, c1, k1, _⟩ := hA
  unfold x_Outbox_writeFields_93 o_alw
  rw [h.2.1 44 4 (by simp), a1]
  cases a
  · obtain ⟨s1, b1, b2⟩ := cw_118 hA' h
    exact ⟨s1, b1, b2⟩
  · obtain ⟨s1, b1, b2⟩ := cw_text h (w := 28) (by decide)
    obtain ⟨s2, d1, d2⟩ := cw_text b2 (w := 29) (by decide)
    obtain ⟨s3, e1, e2⟩ := cw_text d2 (w := 24) (by decide)
    obtain ⟨s4, f1, f2⟩ := cw_118 hA' e2
    refine ⟨s4, ?_, by simpa only [List.append_assoc, if_true] using f2⟩
    rw [if_neg (show ¬ bi true = 0 by decide), b1, Option.bind_some, d1, Option.bind_some, e1, Option.bind_some, f1]
theorem cw_68 (hA : An σ0 num told tag frm til whole a c k) {σ : St} {O : List Nat} (h : Cw σ0 σ O) : ∃ σ', x_Outbox_writeFields_68 σ = some σ' ∧ Cw σ0 σ' (O ++ (o_rng num frm til whole ++ (o_alw a ++ o_con c k))) := by
  have hA' := hA
  obtain ⟨⟨n1, n2⟩, ⟨t1, t2⟩, a1, c1, k1, ⟨l1, l2⟩, ⟨f1, f2⟩, ⟨g1, g2⟩, ⟨w1, w2⟩, x1⟩ := hA
  unfold x_Outbox_writeFields_68 x_Outbox_writeFields_88 o_rng
  rw [h.2.1 44 2 (by simp), n1]
  by_cases q : num = 206
  · have hx := x1 q
    obtain ⟨s1, b1, b2⟩ := cw_text h (w := 27) (by decide)
    obtain ⟨s2, d1, d2⟩ := cw_num b2 (v := frm) (by omega)
    obtain ⟨s3, e1, e2⟩ := cw_byte d2 (b := 45) (by decide)
    obtain ⟨s4, p1, p2⟩ := cw_num e2 (v := til - 1) (by omega)
    obtain ⟨s5, q1, q2⟩ := cw_byte p2 (b := 47) (by decide)
    obtain ⟨s6, r1, r2⟩ := cw_num q2 (v := whole) (by omega)
    obtain ⟨s7, u1, u2⟩ := cw_text r2 (w := 24) (by decide)
    obtain ⟨s8, v1, v2⟩ := cw_93 hA' u2
    refine ⟨s8, ?_, by rw [if_pos q]; simpa only [List.append_assoc] using v2⟩
    rw [if_pos (show iN num = 206 by rw [q]; rfl)]
    unfold x_Outbox_writeRange x_Outbox_writeRange_49
    rw [b1, Option.bind_some, b2.2.1 44 2 (by simp), n1, if_pos (show iN num = 206 by rw [q]; rfl), b2.2.1 44 9 (by simp), f1, d1, Option.bind_some, show (45 : Int32) = iN 45 from rfl, e1, Option.bind_some, e2.2.1 44 10 (by simp), g1, iN_sub1 hx, p1, Option.bind_some, show (47 : Int32) = iN 47 from rfl, q1, Option.bind_some, q2.2.1 44 11 (by simp), w1, r1, Option.bind_some, u1, Option.bind_some, Option.bind_some, v1]
  · rw [if_neg (show ¬ iN num = 206 from mt (iN_eq (b := 206) (by omega) (by omega)).mp q)]
    by_cases q4 : num = 416
    · obtain ⟨s1, b1, b2⟩ := cw_text h (w := 27) (by decide)
      obtain ⟨s2, d1, d2⟩ := cw_byte b2 (b := 42) (by decide)
      obtain ⟨s5, q1, q2⟩ := cw_byte d2 (b := 47) (by decide)
      obtain ⟨s6, r1, r2⟩ := cw_num q2 (v := whole) (by omega)
      obtain ⟨s7, u1, u2⟩ := cw_text r2 (w := 24) (by decide)
      obtain ⟨s8, v1, v2⟩ := cw_93 hA' u2
      refine ⟨s8, ?_, by rw [if_neg q, if_pos q4]; simpa only [List.append_assoc] using v2⟩
      rw [if_pos (show iN num = 416 by rw [q4]; rfl)]
      unfold x_Outbox_writeRange x_Outbox_writeRange_49
      rw [b1, Option.bind_some, b2.2.1 44 2 (by simp), n1, if_neg (show ¬ iN num = 206 from mt (iN_eq (b := 206) (by omega) (by omega)).mp q), show (42 : Int32) = iN 42 from rfl, d1, Option.bind_some, show (47 : Int32) = iN 47 from rfl, q1, Option.bind_some, q2.2.1 44 11 (by simp), w1, r1, Option.bind_some, u1, Option.bind_some, Option.bind_some, v1]
    · rw [if_neg (show ¬ iN num = 416 from mt (iN_eq (b := 416) (by omega) (by omega)).mp q4), if_neg q, if_neg q4]
      exact cw_93 hA' h
theorem cw_40 (hA : An σ0 num told tag frm til whole a c k) {σ : St} {O : List Nat} (h : Cw σ0 σ O) : ∃ σ', x_Outbox_writeFields_40 σ = some σ' ∧ Cw σ0 σ' (O ++ (o_tag tag ++ (o_rng num frm til whole ++ (o_alw a ++ o_con c k)))) := by
  have hA' := hA
  obtain ⟨⟨n1, n2⟩, ⟨t1, t2⟩, a1, c1, k1, ⟨l1, l2⟩, ⟨f1, f2⟩, ⟨g1, g2⟩, ⟨w1, w2⟩, x1⟩ := hA
  unfold x_Outbox_writeFields_40
  rw [h.2.1 44 3 (by simp), t1]
  cases ht : tag with
  | none =>
    rw [if_pos (show oi none = -1 from rfl)]
    exact cw_68 hA' h
  | some t =>
    have hv := t2 t ht
    rw [if_neg (show ¬ oi (some t) = -1 from iN_m1 (by omega))]
    obtain ⟨s1, b1, b2⟩ := cw_text h (w := 25) (by decide)
    obtain ⟨s2, d1, d2⟩ := cw_num b2 (v := t) (by omega)
    obtain ⟨s3, e1, e2⟩ := cw_text d2 (w := 26) (by decide)
    obtain ⟨s4, v1, v2⟩ := cw_68 hA' e2
    refine ⟨s4, ?_, by simpa only [List.append_assoc, o_tag] using v2⟩
    rw [b1, Option.bind_some, b2.2.1 44 3 (by simp), t1, ht, show oi (some t) = iN t from rfl, d1, Option.bind_some, e1, Option.bind_some, v1]
theorem cw_fields (hA : An σ0 num told tag frm til whole a c k) {σ : St} {O : List Nat} (h : Cw σ0 σ O) : ∃ σ', x_Outbox_writeFields σ = some σ' ∧ Cw σ0 σ' (O ++ o_flds num told tag frm til whole a c k) := by
  have hA' := hA
  obtain ⟨⟨n1, n2⟩, ⟨t1, t2⟩, a1, c1, k1, ⟨l1, l2⟩, ⟨f1, f2⟩, ⟨g1, g2⟩, ⟨w1, w2⟩, x1⟩ := hA
  unfold x_Outbox_writeFields o_flds o_len
  rw [h.2.1 44 2 (by simp), n1]
  by_cases q : num = 204
  · rw [if_pos (show iN num = 204 by rw [q]; rfl), if_pos (Or.inl q)]
    exact cw_40 hA' h
  · rw [if_neg (show ¬ iN num = 204 from mt (iN_eq (b := 204) (by omega) (by omega)).mp q)]
    by_cases q3 : num = 304
    · rw [if_pos (show iN num = 304 by rw [q3]; rfl), if_pos (Or.inr q3)]
      exact cw_40 hA' h
    · rw [if_neg (show ¬ iN num = 304 from mt (iN_eq (b := 304) (by omega) (by omega)).mp q3), if_neg (fun z => by rcases z with z | z; (· exact q z); exact q3 z)]
      obtain ⟨s1, b1, b2⟩ := cw_text h (w := 23) (by decide)
      obtain ⟨s2, d1, d2⟩ := cw_num b2 (v := told) (by omega)
      obtain ⟨s3, e1, e2⟩ := cw_text d2 (w := 24) (by decide)
      obtain ⟨s4, v1, v2⟩ := cw_40 hA' e2
      refine ⟨s4, ?_, by simpa only [List.append_assoc] using v2⟩
      rw [b1, Option.bind_some, b2.2.1 44 7 (by simp), l1, d1, Option.bind_some, e1, Option.bind_some, v1]
/-- the part of a body -/
def o_bd (B : List Nat) (frm til : Nat) : List Nat := (B.drop frm).take (til - frm)
theorem o_bd_cons {B : List Nat} {i t : Nat} (h : i < t) (ht : t ≤ B.length) : o_bd B i t = B.getD i 0 :: o_bd B (i + 1) t := by
  unfold o_bd
  rw [List.drop_eq_getElem_cons (show i < B.length by omega), show t - i = t - (i + 1) + 1 by omega, List.take_succ_cons, List.getD_eq_getElem?_getD, List.getElem?_eq_getElem (show i < B.length by omega)]
  rfl
theorem o_bd_nil {B : List Nat} {i t : Nat} (h : t ≤ i) : o_bd B i t = [] := by
  unfold o_bd
  rw [show t - i = 0 by omega, List.take_zero]
theorem cw_45 {o : Nat} {B : List Nat} (ho : xB o) (hne : o ≠ 48 ∧ o ≠ 49 ∧ o + 1 ≠ 50) (h10 : σ0.1 44 10 = iN til) (htl : til < 1000) (hbo : σ0.2.2.1 = o) (hB : GL σ0 o B) (ht : til ≤ B.length) : ∀ d i fuel σ O, (i + d = til ∨ d = 0 ∧ til ≤ i ∧ i < 1000) → d < fuel → Cw σ0 σ O → ∃ σ', x_Outbox_write_45 fuel (iN i) σ = some σ' ∧ Cw σ0 σ' (O ++ o_bd B i til) := by
  intro d
  induction d with
  | zero =>
    intro i fuel σ O hi hf h
    obtain ⟨z, rfl⟩ := x_fuelS (show 0 < fuel by omega)
    refine ⟨σ, ?_, by rw [o_bd_nil (by omega), List.append_nil]; exact h⟩
    rw [x_Outbox_write_45, h.2.1 44 10 (by simp), h10, if_pos ((iN_le (by omega) (by omega)).mpr (by omega))]
  | succ d ih =>
    intro i fuel σ O hi hf h
    obtain ⟨z, rfl⟩ := x_fuelS (show 0 < fuel by omega)
    have hbo' : σ.2.2.1 = o := by
      have := h.2.2.2.1
      simp at this
      rw [this, hbo]
    have hB' : GL σ o B := hB.of (h.2.1 o 1 (by simp; omega)) (h.2.2.1 (o + 1) (by simp; omega))
    have hg := Gt.get hB' (show i < B.length by omega)
    have hb := Gt.by hB' (show i < B.length by omega)
    obtain ⟨s1, a1, a2⟩ := cw_byte h hb
    obtain ⟨s2, b1, b2⟩ := ih (i + 1) z s1 _ (by omega) (by omega) a2
    refine ⟨s2, ?_, ?_⟩
    · rw [x_Outbox_write_45, h.2.1 44 10 (by simp), h10, if_neg (mt (iN_le (by omega) (by omega)).mp (by omega)), hbo', if_pos ho, hg, Option.bind_some, a1, Option.bind_some]
      simp only [x_let]
      rw [iN_1a, b1]
    · rw [o_bd_cons (by omega) ht]
      rw [List.append_assoc] at b2
      exact b2
theorem c_write (hA : An σ0 num told tag frm til whole a c k) {o : Nat} {B O : List Nat} (ho : xB o) (hne : o ≠ 48 ∧ o ≠ 49 ∧ o + 1 ≠ 50) (hbo : σ0.2.2.1 = o) (hB : GL σ0 o B) (ht : til ≤ B.length) (hO : Co σ0 O) : ∃ σ', x_Outbox_write σ0 = some σ' ∧ Co σ' (O ++ (o_sta num ++ ((if num = 100 then [] else o_flds num told tag frm til whole a c k) ++ (wd_ 24 ++ o_bd B frm til)))) := by
  have hA' := hA
  obtain ⟨⟨n1, n2⟩, ⟨t1, t2⟩, a1, c1, k1, ⟨l1, l2⟩, ⟨f1, f2⟩, ⟨g1, g2⟩, ⟨w1, w2⟩, x1⟩ := hA
  have h0 : Cw σ0 σ0 O := ⟨hO, xFp.rf⟩
  have tl : ∀ σ O, Cw σ0 σ O → ∃ σ', x_Outbox_write_34 σ = some σ' ∧ Cw σ0 σ' (O ++ (wd_ 24 ++ o_bd B frm til)) := by
    intro σ O h
    obtain ⟨s1, b1, b2⟩ := cw_text h (w := 24) (by decide)
    obtain ⟨s2, d1, d2⟩ := cw_45 ho hne g1 g2 hbo hB ht (til - frm) frm x_fuel s1 _ (by omega) (by unfold x_fuel; omega) b2
    refine ⟨s2, ?_, by rw [List.append_assoc] at d2; exact d2⟩
    unfold x_Outbox_write_34
    rw [b1, Option.bind_some]
    simp only [x_let]
    rw [b2.2.1 44 9 (by simp), f1, d1]
  obtain ⟨s1, b1, b2⟩ := cw_text h0 (w := 21) (by decide)
  obtain ⟨s2, d1, d2⟩ := cw_num b2 (v := num) (by omega)
  obtain ⟨s3, e1, e2⟩ := cw_text d2 (w := 22) (by decide)
  unfold x_Outbox_write o_sta
  rw [b1, Option.bind_some, b2.2.1 44 2 (by simp), n1, d1, Option.bind_some, e1, Option.bind_some, e2.2.1 44 2 (by simp), n1]
  by_cases q : num = 100
  · obtain ⟨s4, p1, p2⟩ := tl _ _ e2
    rw [if_pos (show iN num = 100 by rw [q]; rfl), if_pos q]
    exact ⟨s4, p1, by simpa only [List.append_assoc, List.nil_append] using p2.1⟩
  · obtain ⟨s4, p1, p2⟩ := cw_fields hA' e2
    obtain ⟨s5, q1, q2⟩ := tl _ _ p2
    rw [if_neg (show ¬ iN num = 100 from mt (iN_eq (b := 100) (by omega) (by omega)).mp q), if_neg q, p1, Option.bind_some]
    exact ⟨s5, q1, by simpa only [List.append_assoc] using q2.1⟩
end CWR
