/-! the calls -/
def Cg (σ σ' : St) : Prop := (∀ k j, k < 51 → σ'.1 k j = σ.1 k j) ∧ (∀ k, k < 51 → σ'.2.1 k = σ.2.1 k) ∧ σ'.2.2.2.1 = σ.2.2.2.1
def Mg2 (σ σ' : St) : Prop := (∀ j, ¬ j = 1 → σ'.1 51 j = σ.1 51 j) ∧ (∀ k, 53 ≤ k → k < 66 → σ'.2.1 k = σ.2.1 k)
theorem Gt.cg {σ σ' : St} (g : Cg σ σ') {o n : Nat} {f : Nat → Nat} (h : Gt σ o n f) (ho : o + 1 < 51) : Gt σ' o n f := h.of (g.1 _ _ (by omega)) (g.2.1 _ ho)
theorem GL.cg {σ σ' : St} (g : Cg σ σ') {o : Nat} {L : List Nat} (h : GL σ o L) (ho : o + 1 < 51) : GL σ' o L := Gt.cg g h ho
theorem RC.cg {σ σ' : St} (g : Cg σ σ') {c : Cn} (h : RC σ c) : RC σ' c := by
  obtain ⟨r1, r2, r3, r4, ⟨tn, tf, r5⟩, r6, r7, r8, r9, r10, r11, r12⟩ := h
  refine ⟨by rw [g.1 _ _ (by decide)]; exact r1, by rw [g.1 _ _ (by decide)]; exact r2, r3.cg g (by decide), r4.cg g (by decide), ⟨tn, tf, r5.of (g.1 _ _ (by decide)) (g.1 _ _ (by decide)) (g.2.1 _ (by decide)) (g.2.1 _ (by decide)) (g.2.1 _ (by decide)) (g.2.1 _ (by decide)) (g.2.1 _ (by decide))⟩, by rw [g.1 _ _ (by decide)]; exact r6, fun z => (r7 z).cg g (by decide), fun z => by rw [g.1 30 5 (by decide), g.1 30 6 (by decide), g.1 30 7 (by decide)]; exact r8 z, fun z => ⟨by rw [g.2.2]; exact (r9 z).1, by rw [g.1 _ _ (by decide)]; exact (r9 z).2.1, (r9 z).2.2.cg g (by decide)⟩, fun z => by rw [g.1 _ _ (by decide)]; exact r10 z, fun z => by rw [g.1 _ _ (by decide)]; exact r11 z, fun z => by rw [g.1 _ _ (by decide)]; exact r12 z⟩
theorem RCo.cg {σ σ' : St} (g : Cg σ σ') {oc : Option Cn} (h : RCo σ oc) : RCo σ' oc := by
  cases oc with
  | none => show σ'.1 27 2 = -1; rw [g.1 _ _ (by decide)]; exact h
  | some c => exact RC.cg g h
theorem RW.cg {σ σ' : St} (g : Cg σ σ') {w : Wl} (h : RW σ w) : RW σ' w := by
  obtain ⟨h1, h2, h3⟩ := h
  refine ⟨h1.of (g.1 _ _ (by decide)) (fun L hL => ⟨L, hL.cg g (by decide)⟩) (fun r hr => ⟨g.1 _ _ (by omega), g.1 _ _ (by omega), g.2.1 _ (by omega)⟩), h2.of (g.1 _ _ (by decide)) (g.1 _ _ (by decide)) (g.2.1 _ (by decide)), by rw [g.1 _ _ (by decide)]; exact h3⟩
theorem RMo.mg {σ σ' : St} (g : Mg2 σ σ') {oc : Option Cn} (h : RMo σ oc) : RMo σ' oc := by
  cases oc with
  | none => show σ'.1 51 7 = 0; rw [g.1 _ (by decide)]; exact h
  | some c =>
    obtain ⟨r1, r2, r3, r4, r5, r6, r7, r8⟩ := h
    exact ⟨by rw [g.1 _ (by decide)]; exact r1, by rw [g.1 _ (by decide)]; exact r2, by rw [g.1 _ (by decide)]; exact r3, r4.of (g.1 _ (by decide)) (g.2 _ (by decide) (by decide)), fun y => ⟨(r5 y).1.of (g.1 _ (by decide)) (g.2 _ (by decide) (by decide)) (g.2 _ (by decide) (by decide)) (g.2 _ (by decide) (by decide)), by rw [g.1 _ (by decide)]; exact (r5 y).2.1, by rw [g.1 _ (by decide)]; exact (r5 y).2.2.1, by rw [g.1 _ (by decide)]; exact (r5 y).2.2.2.1, fun j hj => by rw [g.2 _ (by decide) (by decide)]; exact (r5 y).2.2.2.2.1 j hj, by rw [g.1 _ (by decide)]; exact (r5 y).2.2.2.2.2.1, fun j hj => by rw [g.2 _ (by decide) (by decide)]; exact (r5 y).2.2.2.2.2.2 j hj⟩, fun z => by rw [g.1 _ (by decide)]; exact r6 z, fun z => ⟨by rw [g.1 _ (by decide)]; exact (r7 z).1, by rw [g.1 _ (by decide)]; exact (r7 z).2⟩, fun z => by rw [g.1 _ (by decide)]; exact r8 z⟩
theorem MWr.mg {σ σ' : St} (g : Mg2 σ σ') {w : Wl} (h : MWr σ w) : MWr σ' w := ⟨h.1.of (g.1 _ (by decide)) (g.2 _ (by decide) (by decide)) (g.2 _ (by decide) (by decide)) (g.2 _ (by decide) (by decide)) (g.2 _ (by decide) (by decide)), h.2.1.of (g.1 _ (by decide)) (g.2 _ (by decide) (by decide)), by rw [g.1 _ (by decide)]; exact h.2.2⟩
/-- only the reference's code changes -/
theorem OI.code {t : Nat} {σ : St} (h : OI t σ) (v : Int32) : OI t (x_updR σ 51 1 v) := by
  obtain ⟨oc, w, h1, h2, h3, h4, h5, h6, h7⟩ := h
  have gc : Cg σ (x_updR σ 51 1 v) := ⟨fun k j hk => if_neg (fun z => by omega), fun _ _ => rfl, rfl⟩
  have gm : Mg2 σ (x_updR σ 51 1 v) := ⟨fun j hj => if_neg (fun z => hj z.2), fun _ _ _ => rfl⟩
  exact ⟨oc, w, h1.cg gc, h2.cg gc, h3.mg gm, h4.mg gm, h5, h6, by rw [gm.1 _ (by decide)]; exact h7⟩
theorem OI.out {t : Nat} {σ : St} (h : OI t σ) (v : Int64) : OI t (x_updL σ v) := by
  obtain ⟨oc, w, h1, h2, h3, h4, h5, h6, h7⟩ := h
  have gc : Cg σ (x_updL σ v) := ⟨fun _ _ _ => rfl, fun _ _ => rfl, rfl⟩
  have gm : Mg2 σ (x_updL σ v) := ⟨fun _ _ => rfl, fun _ _ _ => rfl⟩
  exact ⟨oc, w, h1.cg gc, h2.cg gc, h3.mg gm, h4.mg gm, h5, h6, h7⟩
theorem OI.mono {t t' : Nat} {σ : St} (h : OI t σ) (ht : t ≤ t') : OI t' σ := by
  obtain ⟨oc, w, h1, h2, h3, h4, h5, ⟨h6, h7, h8⟩, h9⟩ := h
  exact ⟨oc, w, h1, h2, h3, h4, h5, ⟨h6, by omega, by omega⟩, h9⟩
theorem i32_nat {n : Int32} (h : ¬ n < 0) : ∃ r : Nat, r < 2147483648 ∧ n = iN r := by
  refine ⟨n.toNatClampNeg, ?_, ?_⟩
  · have := Int32.toInt_lt n
    have h2 : (n.toNatClampNeg : Int) = max n.toInt 0 := by
      show ((n.toInt.toNat : Nat) : Int) = max n.toInt 0
      omega
    omega
  · have h0 : 0 ≤ n.toInt := by
      rw [Int32.lt_iff_toInt_lt] at h
      have : (0 : Int32).toInt = 0 := rfl
      omega
    have hl := Int32.toInt_lt n
    rw [← Int32.toInt_inj]
    have e : (n.toNatClampNeg : Int) = n.toInt := by
      show ((n.toInt.toNat : Nat) : Int) = n.toInt
      omega
    rw [iN_toInt (by omega), e]
theorem upd51 (σ : St) (v : Int32) {j : Nat} (h : ¬ j = 1) : (x_updR σ 51 1 v).1 51 j = σ.1 51 j := if_neg (fun z => h z.2)
theorem OI_0 : OI 0 x_s0 := by
  refine ⟨some cn0, (fun _ => none, 0, [], none), ?_, ?_, ?_, ?_, fun c hc => ?_, ?_, rfl⟩
  · refine ⟨rfl, rfl, ⟨rfl, Nat.zero_le _, fun i hi => absurd hi (Nat.not_lt_zero i)⟩, ⟨rfl, Nat.zero_le _, fun i hi => absurd hi (Nat.not_lt_zero i)⟩, ⟨0, fun _ => 0, rfl, Nat.zero_le _, ⟨rfl, Nat.zero_le _, fun i hi => absurd hi (Nat.not_lt_zero i)⟩, Nat.zero_le _, fun k hk => absurd hk (Nat.not_lt_zero k)⟩, rfl, fun _ => ⟨rfl, Nat.zero_le _, fun i hi => absurd hi (Nat.not_lt_zero i)⟩, fun _ => ⟨rfl, rfl, rfl⟩, fun z => absurd z (by decide), fun z => absurd z (by decide), fun z => absurd z (by decide), fun z => absurd z (by decide)⟩
  · refine ⟨⟨rfl, ⟨[], rfl, Nat.zero_le _, fun i hi => absurd hi (Nat.not_lt_zero i)⟩, fun r hr => ⟨fun _ => ?_, fun mq B z => by cases z⟩⟩, ⟨rfl, ⟨rfl, Nat.zero_le _, fun i hi => absurd hi (Nat.not_lt_zero i)⟩⟩, rfl⟩
    have : ∀ r, r < 8 → x_s0.1 (3 + 3 * r) 1 = -1 := by decide
    exact this r hr
  · exact ⟨rfl, rfl, rfl, ⟨rfl, Nat.zero_le _, fun j hj => absurd hj (Nat.not_lt_zero j)⟩, fun z => absurd z (by decide), fun z => absurd z (by decide), fun z => absurd z (by decide), fun z => absurd z (by decide)⟩
  · exact ⟨⟨rfl, fun r hr => ⟨fun _ => rfl, fun mq B z => by cases z⟩⟩, ⟨rfl, fun i _ hi => absurd hi (Nat.not_lt_zero i)⟩, rfl⟩
  · cases hc
    exact cn0_CE
  · exact ⟨fun r mq B _ z => (by cases z), Nat.le_refl _, by simp⟩
theorem l_isOpen {I : St → Prop} {t : Nat} {σ : St} (h : OI t σ) (hI : ∀ s, OI t s → I s) : xl_isOpen I σ := by
  have h' := h
  obtain ⟨oc, w, h1, h2, h3, h4, h5, h6, h7⟩ := h
  unfold xl_isOpen x_PlainOrigin_isOpen x_Model_isOpen
  simp only [x_let]
  rw [upd51 σ 0 (show ¬ 7 = 1 by decide)]
  cases oc with
  | none =>
    have a1 : σ.1 27 2 = -1 := h1
    have a2 : σ.1 51 7 = 0 := h3
    rw [a1, a2, if_pos rfl, if_pos (Or.inl rfl)]
    exact ⟨_, _, rfl, rfl, hI _ (h'.code 0)⟩
  | some c =>
    have a1 : σ.1 27 2 = iN c.1 := h1.1
    have a2 : σ.1 51 7 = 1 := h3.1
    have := (h5 c rfl).1.1.1
    rw [a1, a2, if_neg (iN_m1 (by omega)), if_pos (Or.inr rfl)]
    exact ⟨_, _, rfl, rfl, hI _ (h'.code 0)⟩
theorem l_reading {I : St → Prop} {t : Nat} {σ : St} (h : OI t σ) (hI : ∀ s, OI t s → I s) : xl_reading I σ := by
  have h' := h
  obtain ⟨oc, w, h1, h2, h3, h4, h5, h6, h7⟩ := h
  unfold xl_reading x_PlainOrigin_reading x_Model_reading
  simp only [x_let]
  rw [upd51 σ 0 (show ¬ 7 = 1 by decide), upd51 σ 0 (show ¬ 8 = 1 by decide)]
  cases oc with
  | none =>
    have a1 : σ.1 27 2 = -1 := h1
    have a2 : σ.1 51 7 = 0 := h3
    rw [a1, a2, if_pos rfl]
    exact ⟨_, _, rfl, rfl, hI _ (h'.code 0)⟩
  | some c =>
    have a1 : σ.1 27 2 = iN c.1 := h1.1
    have a2 : σ.1 51 7 = 1 := h3.1
    have a3 : σ.1 51 8 = iN c.1 := h3.2.1
    rw [a1, a2, a3, if_neg (show ¬ (1 : Int32) = 0 by decide)]
    exact ⟨_, _, rfl, rfl, hI _ (h'.code 0)⟩
theorem l_sent {I : St → Prop} {t : Nat} {σ : St} (h : OI t σ) (hI : ∀ s, OI t s → I s) : xl_sent I σ := by
  have h' := h
  obtain ⟨oc, w, h1, h2, h3, h4, h5, h6, h7⟩ := h
  unfold xl_sent x_PlainOrigin_sent x_Model_sent
  simp only [x_let]
  rw [upd51 σ 0 (show ¬ 31 = 1 by decide), h2.2.1.1, h4.2.1.1]
  exact ⟨_, _, rfl, rfl, hI _ (h'.code 0)⟩
theorem l_status {I : St → Prop} {t : Nat} {σ : St} (h : OI t σ) (hI : ∀ s, OI t s → I s) : xl_status I σ := by
  have h' := h
  obtain ⟨oc, w, h1, h2, h3, h4, h5, h6, h7⟩ := h
  unfold xl_status x_PlainOrigin_status x_Model_status
  simp only [x_let]
  rw [upd51 σ 0 (show ¬ 29 = 1 by decide), h2.2.2, h4.2.2]
  exact ⟨_, _, rfl, rfl, hI _ (h'.code 0)⟩
theorem l_changes {I : St → Prop} {t : Nat} {σ : St} (h : OI t σ) (hI : ∀ s, OI t s → I s) : xl_changes I σ := by
  have h' := h
  obtain ⟨oc, w, h1, h2, h3, h4, h5, h6, h7⟩ := h
  unfold xl_changes x_PlainOrigin_changes x_Model_changes
  simp only [x_let]
  rw [upd51 σ 0 (show ¬ 6 = 1 by decide), h2.1.1, h4.1.1]
  exact ⟨_, _, rfl, rfl, hI _ (h'.code 0)⟩
theorem c_empty (σ : St) : ∃ σ', x_Outbox_empty σ = some σ' ∧ Co σ' [] := by
  refine ⟨_, rfl, ?_, ?_, Nat.zero_le _, fun i hi => absurd hi (Nat.not_lt_zero i)⟩
  · simp [x_updR]
    rfl
  · simp [x_updR]
    rfl
theorem l_drain {I : St → Prop} {t : Nat} {σ : St} (h : OI t σ) (hI : ∀ s, OI t s → I s) : xl_drain I σ := by
  obtain ⟨oc, w, h1, h2, h3, h4, h5, ⟨h6, h6b, h6c⟩, h7⟩ := h
  obtain ⟨s1, e1, e2⟩ := c_empty σ
  have fp1 := fp_Outbox_empty _ e1
  generalize hs2 : x_updR (x_updR s1 51 1 0) 51 31 0 = s2
  have fp2 : xFp [(51, 1), (51, 31)] [] (false, false, false) s1 s2 := (xFp.R rfl (by simp)).tr (xFp.R hs2.symm (by simp))
  have gc : Cg s1 s2 := ⟨fun k j hk => fp2.1 _ _ (by simp; omega), fun k hk => fp2.2.1 _ (by simp), fp_q fp2⟩
  have gm1 : Mg2 σ s1 := ⟨fun j _ => fp1.1 _ _ (by simp), fun k _ _ => fp1.2.1 _ (by simp)⟩
  have o31 : s1.1 51 31 = iN w.2.2.1.length := by rw [gm1.1 _ (by decide)]; exact h4.2.1.1
  refine ⟨iN w.2.2.1.length, s1, s2, ?_, ?_, hI s2 ⟨oc, (w.1, w.2.1, [], w.2.2.2), ?_, ?_, ?_, ?_, h5, ⟨h6, h6b, by simp⟩, ?_⟩⟩
  · unfold x_PlainOrigin_drain
    simp only [x_let]
    rw [e1, Option.bind_some, h2.2.1.1]
  · unfold x_Model_drain
    simp only [x_let]
    rw [upd51 s1 0 (show ¬ 31 = 1 by decide), o31, hs2]
  · apply RCo.cg gc
    cases oc with
    | none => show s1.1 27 2 = -1; rw [fp1.1 _ _ (by simp)]; exact h1
    | some c =>
      obtain ⟨r1, r2, r3, r4, r5, r6, r7, r8, r9, r10, r11, r12⟩ := h1
      exact ⟨by rw [fp1.1 _ _ (by simp)]; exact r1, by rw [fp1.1 _ _ (by simp)]; exact r2, r3.of (fp1.1 _ _ (by simp)) (fp1.2.1 _ (by simp)), r4.of (fp1.1 _ _ (by simp)) (fp1.2.1 _ (by simp)), cf_of r5 fp1 (by simp) (by simp) (by simp) (by simp) (by simp) (by simp) (by simp), by rw [fp1.1 _ _ (by simp)]; exact r6, fun y => (r7 y).of (fp1.1 _ _ (by simp)) (fp1.2.1 _ (by simp)), fun y => by rw [fp1.1 30 5 (by simp), fp1.1 30 6 (by simp), fp1.1 30 7 (by simp)]; exact r8 y, fun y => ⟨by rw [fp_q fp1]; exact (r9 y).1, by rw [fp1.1 _ _ (by simp)]; exact (r9 y).2.1, (r9 y).2.2.of (fp1.1 _ _ (by simp)) (fp1.2.1 _ (by simp))⟩, fun y => by rw [fp1.1 _ _ (by simp)]; exact r10 y, fun y => by rw [fp1.1 _ _ (by simp)]; exact r11 y, fun y => by rw [fp1.1 _ _ (by simp)]; exact r12 y⟩
  · apply RW.cg gc
    exact ⟨h2.1.fp fp1 (by simp) (by simp), e2, by rw [fp1.1 _ _ (by simp)]; exact h2.2.2⟩
  · have h3' := h3.mg gm1
    cases oc with
    | none => show s2.1 51 7 = 0; rw [fp2.1 _ _ (by simp)]; exact h3'
    | some c =>
      obtain ⟨r1, r2, r3, r4, r5, r6, r7, r8⟩ := h3'
      exact ⟨by rw [fp2.1 _ _ (by simp)]; exact r1, by rw [fp2.1 _ _ (by simp)]; exact r2, by rw [fp2.1 _ _ (by simp)]; exact r3, r4.of (fp2.1 _ _ (by simp)) (fp2.2.1 _ (by simp)), fun y => ⟨(r5 y).1.of (fp2.1 _ _ (by simp)) (fp2.2.1 _ (by simp)) (fp2.2.1 _ (by simp)) (fp2.2.1 _ (by simp)), by rw [fp2.1 _ _ (by simp)]; exact (r5 y).2.1, by rw [fp2.1 _ _ (by simp)]; exact (r5 y).2.2.1, by rw [fp2.1 _ _ (by simp)]; exact (r5 y).2.2.2.1, fun j hj => by rw [fp2.2.1 _ (by simp)]; exact (r5 y).2.2.2.2.1 j hj, by rw [fp2.1 _ _ (by simp)]; exact (r5 y).2.2.2.2.2.1, fun j hj => by rw [fp2.2.1 _ (by simp)]; exact (r5 y).2.2.2.2.2.2 j hj⟩, fun z => by rw [fp2.1 _ _ (by simp)]; exact r6 z, fun z => ⟨by rw [fp2.1 _ _ (by simp)]; exact (r7 z).1, by rw [fp2.1 _ _ (by simp)]; exact (r7 z).2⟩, fun z => by rw [fp2.1 _ _ (by simp)]; exact r8 z⟩
  · have h4' := h4.mg gm1
    exact ⟨h4'.1.of (fp2.1 _ _ (by simp)) (fp2.2.1 _ (by simp)) (fp2.2.1 _ (by simp)) (fp2.2.1 _ (by simp)) (fp2.2.1 _ (by simp)), ⟨by rw [← hs2]; simp [x_updR]; rfl, fun i _ hi => absurd hi (Nat.not_lt_zero i)⟩, by rw [fp2.1 _ _ (by simp)]; exact h4'.2.2⟩
  · rw [fp2.1 _ _ (by simp), gm1.1 _ (by decide)]
    exact h7
theorem l_connect {I : St → Prop} {t : Nat} {σ : St} (h : OI t σ) (hI : ∀ s, OI t s → I s) : xl_connect I σ := by
  obtain ⟨oc, w, h1, h2, h3, h4, h5, ⟨h6, h6b, h6c⟩, h7⟩ := h
  obtain ⟨s1, a1, a2⟩ := c_restart σ
  obtain ⟨s2, b1, b2⟩ := c_empty s1
  have fp1 := fp_Reader_restart _ a1
  have fp2 := fp_Outbox_empty _ b1
  generalize hs3 : x_updR s2 0 4 (-1) = s3
  have fp3 : xFp [(0, 4)] [] (false, false, false) s2 s3 := xFp.R hs3.symm (by simp)
  have run : x_PlainOrigin_connect σ = some s3 := by
    unfold x_PlainOrigin_connect
    rw [a1, Option.bind_some, b1, Option.bind_some]
    simp only [x_let]
    rw [hs3]
  generalize hs4 : x_updR (x_updR (x_updR (x_updR (x_updR (x_updR (x_updR s3 51 1 0) 51 7 1) 51 8 0) 51 9 0) 51 10 0) 51 31 0) 51 29 (-1) = s4
  have run2 : x_Model_connect s3 = some s4 := by
    unfold x_Model_connect
    simp only [x_let]
    rw [hs4]
  have fp4 := fp_Model_connect _ run2
  have fpc := fp_PlainOrigin_connect _ run
  have gc : Cg s3 s4 := ⟨fun k j hk => fp4.1 _ _ (by simp; omega), fun k hk => fp4.2.1 _ (by simp), fp_q fp4⟩
  refine ⟨s3, s4, run, run2, hI s4 ⟨some cn0, (w.1, w.2.1, [], none), ?_, ?_, ?_, ?_, fun c hc => ?_, ⟨h6, h6b, by simp⟩, ?_⟩⟩
  · apply RCo.cg gc
    obtain ⟨r1, r2, r3, r4, r5, r6, r7, r8, r9, r10, r11, r12⟩ := a2
    have fp23 : xFp [(49, 1), (48, 1), (0, 4)] [] (false, false, false) s1 s3 := (fp2.sub (by simp) (by simp) (by simp)).tr (fp3.sub (by simp) (by simp) (by simp))
    exact ⟨by rw [fp23.1 _ _ (by simp)]; exact r1, by rw [fp23.1 _ _ (by simp)]; exact r2, r3.of (fp23.1 _ _ (by simp)) (fp23.2.1 _ (by simp)), r4.of (fp23.1 _ _ (by simp)) (fp23.2.1 _ (by simp)), cf_of r5 fp23 (by simp) (by simp) (by simp) (by simp) (by simp) (by simp) (by simp), by rw [fp23.1 _ _ (by simp)]; exact r6, fun y => (r7 y).of (fp23.1 _ _ (by simp)) (fp23.2.1 _ (by simp)), fun y => by rw [fp23.1 30 5 (by simp), fp23.1 30 6 (by simp), fp23.1 30 7 (by simp)]; exact r8 y, fun y => absurd y (by decide), fun y => absurd y (by decide), fun y => absurd y (by decide), fun y => absurd y (by decide)⟩
  · apply RW.cg gc
    exact ⟨((h2.1.fp fp1 (by simp) (by simp)).fp fp2 (by simp) (by simp)).fp fp3 (by simp) (by simp), b2.of (fp3.1 _ _ (by simp)) (fp3.1 _ _ (by simp)) (fp3.2.1 _ (by simp)), by rw [← hs3]; simp [x_updR]; rfl⟩
  · refine ⟨?_, ?_, ?_, ⟨?_, Nat.zero_le _, fun j hj => absurd hj (Nat.not_lt_zero j)⟩, fun z => absurd z (by decide), fun z => absurd z (by decide), fun z => absurd z (by decide), fun z => absurd z (by decide)⟩
    · rw [← hs4]; simp [x_updR]
    · rw [← hs4]; simp [x_updR]; rfl
    · rw [← hs4]; simp [x_updR]; rfl
    · rw [← hs4]; simp [x_updR]; rfl
  · refine ⟨(h4.1.of (fpc.1 _ _ (by simp)) (fpc.2.1 _ (by simp)) (fpc.2.1 _ (by simp)) (fpc.2.1 _ (by simp)) (fpc.2.1 _ (by simp))).of (fp4.1 _ _ (by simp)) (fp4.2.1 _ (by simp)) (fp4.2.1 _ (by simp)) (fp4.2.1 _ (by simp)) (fp4.2.1 _ (by simp)), ⟨?_, fun i _ hi => absurd hi (Nat.not_lt_zero i)⟩, ?_⟩
    · rw [← hs4]; simp [x_updR]; rfl
    · rw [← hs4]; simp [x_updR]; rfl
  · cases hc
    exact cn0_CE
  · rw [fp4.1 _ _ (by simp), fpc.1 _ _ (by simp)]
    exact h7
