/-! bytes of a word -/
theorem by255 : ∀ i, i < 32 → (255#32 : BitVec 32).getLsbD i = decide (i < 8) := by decide
theorem by255b : ∀ i, i < 64 → (255#64 : BitVec 64).getLsbD i = decide (i < 8) := by decide
theorem by_bv (v : BitVec 64) (n : Nat) (hn : n ≤ 56) : (BitVec.signExtend 32 (v >>> n)) &&& 255#32 = (BitVec.signExtend 32 (v.sshiftRight n)) &&& 255#32 := by
  apply BitVec.eq_of_getLsbD_eq
  intro i hi
  rw [BitVec.getLsbD_and, BitVec.getLsbD_and, by255 i hi]
  by_cases h8 : i < 8
  · rw [decide_eq_true h8, Bool.and_true, Bool.and_true, BitVec.getLsbD_signExtend, BitVec.getLsbD_signExtend]
    simp only [hi, decide_true, Bool.true_and, show i < 64 by omega, if_true, BitVec.getLsbD_ushiftRight, BitVec.getLsbD_sshiftRight]
    simp [show ¬ 64 ≤ i by omega, show n + i < 64 by omega]
  · rw [decide_eq_false h8, Bool.and_false, Bool.and_false]
theorem by_and (x : BitVec 64) : BitVec.signExtend 32 (x &&& 255#64) = BitVec.signExtend 32 x &&& 255#32 := by
  apply BitVec.eq_of_getLsbD_eq
  intro i hi
  rw [BitVec.getLsbD_and, BitVec.getLsbD_signExtend, BitVec.getLsbD_signExtend, by255 i hi]
  simp only [hi, decide_true, Bool.true_and, show i < 64 by omega, if_true, BitVec.getLsbD_and, by255b i (by omega)]
def cby (j1 : Int64) (l5 : Int32) : Int32 := ((Int64.toInt32 ((Int64.toUInt64 j1 >>> ((Int32.toInt64 ((8 : Int32) * l5)).toUInt64 &&& Int64.toUInt64 63)).toInt64)) &&& (255 : Int32))
def mby (j1 : Int64) (l5 : Int32) : Int32 := Int64.toInt32 ((j1 >>> (Int32.toInt64 ((8 : Int32) * l5) &&& 63)) &&& (255 : Int64))
theorem by_fin {j : Int64} {u : UInt64} {s : Int64} {n : Nat} (hn : n ≤ 56) (e1 : (Int64.toUInt64 j >>> u).toInt64.toBitVec = j.toBitVec >>> n) (e2 : (j >>> s).toBitVec = j.toBitVec.sshiftRight n) : ((Int64.toInt32 ((Int64.toUInt64 j >>> u).toInt64)) &&& (255 : Int32)) = Int64.toInt32 ((j >>> s) &&& (255 : Int64)) := by
  apply Int32.toBitVec_inj.mp
  rw [Int32.toBitVec_and, Int64.toBitVec_toInt32, Int64.toBitVec_toInt32, Int64.toBitVec_and, e1, e2]
  show BitVec.signExtend 32 (j.toBitVec >>> n) &&& 255#32 = BitVec.signExtend 32 (j.toBitVec.sshiftRight n &&& 255#64)
  rw [by_and, by_bv j.toBitVec n hn]
theorem by_eq (j : Int64) : ∀ k, k < 8 → cby j (iN k) = mby j (iN k) := by
  intro k hk
  unfold cby mby
  rcases (show k = 0 ∨ k = 1 ∨ k = 2 ∨ k = 3 ∨ k = 4 ∨ k = 5 ∨ k = 6 ∨ k = 7 by omega) with h | h | h | h | h | h | h | h <;> subst h
  · rw [show (Int32.toInt64 ((8 : Int32) * iN 0)).toUInt64 &&& Int64.toUInt64 63 = 0 by decide, show Int32.toInt64 ((8 : Int32) * iN 0) &&& 63 = 0 by decide]
    exact by_fin (n := 0) (by decide) (by simp) (by simp)
  · rw [show (Int32.toInt64 ((8 : Int32) * iN 1)).toUInt64 &&& Int64.toUInt64 63 = 8 by decide, show Int32.toInt64 ((8 : Int32) * iN 1) &&& 63 = 8 by decide]
    exact by_fin (n := 8) (by decide) (by simp) (by simp)
  · rw [show (Int32.toInt64 ((8 : Int32) * iN 2)).toUInt64 &&& Int64.toUInt64 63 = 16 by decide, show Int32.toInt64 ((8 : Int32) * iN 2) &&& 63 = 16 by decide]
    exact by_fin (n := 16) (by decide) (by simp) (by simp)
  · rw [show (Int32.toInt64 ((8 : Int32) * iN 3)).toUInt64 &&& Int64.toUInt64 63 = 24 by decide, show Int32.toInt64 ((8 : Int32) * iN 3) &&& 63 = 24 by decide]
    exact by_fin (n := 24) (by decide) (by simp) (by simp)
  · rw [show (Int32.toInt64 ((8 : Int32) * iN 4)).toUInt64 &&& Int64.toUInt64 63 = 32 by decide, show Int32.toInt64 ((8 : Int32) * iN 4) &&& 63 = 32 by decide]
    exact by_fin (n := 32) (by decide) (by simp) (by simp)
  · rw [show (Int32.toInt64 ((8 : Int32) * iN 5)).toUInt64 &&& Int64.toUInt64 63 = 40 by decide, show Int32.toInt64 ((8 : Int32) * iN 5) &&& 63 = 40 by decide]
    exact by_fin (n := 40) (by decide) (by simp) (by simp)
  · rw [show (Int32.toInt64 ((8 : Int32) * iN 6)).toUInt64 &&& Int64.toUInt64 63 = 48 by decide, show Int32.toInt64 ((8 : Int32) * iN 6) &&& 63 = 48 by decide]
    exact by_fin (n := 48) (by decide) (by simp) (by simp)
  · rw [show (Int32.toInt64 ((8 : Int32) * iN 7)).toUInt64 &&& Int64.toUInt64 63 = 56 by decide, show Int32.toInt64 ((8 : Int32) * iN 7) &&& 63 = 56 by decide]
    exact by_fin (n := 56) (by decide) (by simp) (by simp)
theorem by_iN (y : Int32) : ∃ b, b < 256 ∧ (y &&& (255 : Int32)) = iN b := by
  refine ⟨(y &&& (255 : Int32)).toBitVec.toNat, ?_, ?_⟩
  · rw [Int32.toBitVec_and, BitVec.toNat_and]
    have : y.toBitVec.toNat &&& (255 : Int32).toBitVec.toNat ≤ 255 := Nat.and_le_right
    omega
  · apply Int32.toBitVec_inj.mp
    show _ = BitVec.ofNat 32 _
    rw [BitVec.ofNat_toNat]
    simp
/-- the byte k of a word -/
theorem by_byte (j : Int64) {k : Nat} (hk : k < 8) : ∃ b, b < 256 ∧ cby j (iN k) = iN b ∧ mby j (iN k) = iN b := by
  obtain ⟨b, b1, b2⟩ := by_iN (Int64.toInt32 ((Int64.toUInt64 j >>> ((Int32.toInt64 ((8 : Int32) * iN k)).toUInt64 &&& Int64.toUInt64 63)).toInt64))
  exact ⟨b, b1, b2, by rw [← by_eq j k hk]; exact b2⟩
/-! the invariant -/
def wb (w : Wl) (t : Nat) : Prop := Sb w.1 w.2.1 ∧ w.2.1 ≤ t ∧ w.2.2.1.length ≤ 1000 * t
def OI (t : Nat) (σ : St) : Prop := ∃ (oc : Option Cn) (w : Wl), RCo σ oc ∧ RW σ w ∧ RMo σ oc ∧ MWr σ w ∧ (∀ c, oc = some c → CE c) ∧ wb w t ∧ σ.1 51 25 = iN 0
theorem o_all_len (R : Rs) (h : Rs_ok R) (l o : Bool) : (o_all R l o).length ≤ 500 := by
  have h1 := o_hd_len R.1 R.2.1 R.2.2.1 R.2.2.2.1 R.2.2.2.2.1 R.2.2.2.2.2.1 R.2.2.2.2.2.2.1 l o
  have h2 := h.2.2.2.2.2.2.2
  unfold o_all
  simp only [List.length_append] at h1 ⊢
  omega
theorem fin_wb {e : Nat} {c : Cn} {w : Wl} {t : Nat} (he : ev_ok e) (h : wb w t) (ht : t < 900000) (hB : e = 3 → c.2.2.2.2.2.2.1.length ≤ 200) : wb (fin e c w).2.1 (t + 1) := by
  obtain ⟨h1, h2, h3⟩ := h
  unfold fin
  by_cases e0 : e = 0
  · rw [if_pos e0]
    exact ⟨h1, by simp only; omega, by simp only; omega⟩
  · rw [if_neg e0]
    by_cases e3 : e = 3
    · rw [if_pos e3]
      obtain ⟨q1, q2, q3, q4⟩ := q_ans_ok (me := c.2.2.2.1.1) (P := rq_P c.2.2.2.1) (F := c.2.2.2.2.1.2) (nf := c.2.2.2.2.1.1) h1 (by omega) (hB e3)
      have hl := o_all_len _ q1 c.2.2.2.2.2.1 (decide (c.2.2.2.1.2.1 = 0))
      refine ⟨q2, by simp only; omega, ?_⟩
      simp only [List.length_append]
      omega
    · rw [if_neg e3]
      by_cases e1 : e = 100
      · rw [if_pos e1]
        have : (o_sta 100 ++ wd_ 24).length ≤ 30 := by decide
        refine ⟨h1, by simp only; omega, ?_⟩
        show (w.2.2.1 ++ (o_sta 100 ++ wd_ 24)).length ≤ 1000 * (t + 1)
        rw [List.length_append]
        omega
      · rw [if_neg e1]
        unfold ev_ok at he
        have hl := o_all_len (rs0 e) (rs0_ok (by omega) (by omega)) true false
        refine ⟨h1, by simp only; omega, ?_⟩
        show (w.2.2.1 ++ o_all (rs0 e) true false).length ≤ 1000 * (t + 1)
        rw [List.length_append]
        omega
theorem cn0_CE : CE cn0 := ⟨⟨⟨by decide, by decide, fun j hj => absurd hj (Nat.not_lt_zero j), fun z => absurd z (by decide), by decide, fun z => absurd z (by decide), fun z => absurd z (by decide), by decide, by decide⟩, fun _ => ⟨rfl, rfl⟩, fun z => absurd z (by decide)⟩, fun z => absurd z (by decide)⟩

theorem rd_100 {c : Cn} {b : Nat} (h : (rd c b).1 = 100) : 2 ≤ (rd c b).2.1 := by
  unfold rd at h ⊢
  by_cases s2 : c.1 = 2
  · rw [if_pos s2]
    exact Nat.le_refl 2
  · rw [if_neg s2] at h ⊢
    by_cases s4 : c.1 = 4
    · rw [if_pos s4] at h
      by_cases dd : 0 < c.2.2.2.2.2.2.2.1
      · rw [if_pos dd] at h; simp at h
      · rw [if_neg dd] at h
        by_cases e : ¬ b = (if c.2.1 then 10 else 13)
        · rw [if_pos e] at h; simp at h
        · rw [if_neg e] at h; simp at h
    · rw [if_neg s4] at h ⊢
      by_cases hh : c.2.1 = true
      · rw [if_pos hh] at h ⊢
        by_cases e : b = 10
        · rw [if_pos e] at h ⊢
          unfold rl at h ⊢
          by_cases s0 : c.1 = 0
          · rw [if_pos s0] at h
            by_cases l0 : c.2.2.1.1 = 0
            · rw [if_pos l0] at h; simp at h
            · rw [if_neg l0] at h
              have := q_req_val c.2.2.1.2 c.2.2.1.1
              simp only at h
              omega
          · rw [if_neg s0] at h ⊢
            by_cases s1 : c.1 = 1
            · rw [if_pos s1] at h ⊢
              by_cases l0 : c.2.2.1.1 = 0
              · rw [if_pos l0]
                show 2 ≤ (if h_chk c.2.2.2.2.1.2 c.2.2.2.2.1.1 = true then 3 else 2)
                split <;> omega
              · rw [if_neg l0] at h
                have := t_code_val c.2.2.1.2 c.2.2.1.1 1 c.2.2.2.2.1.1 0
                simp only at h
                omega
            · rw [if_neg s1] at h
              by_cases s3 : c.1 = 3
              · rw [if_pos s3] at h
                have := ck_code_val c.2.2.1.2 c.2.2.1.1 c.2.2.2.2.2.2.1.length
                simp only at h
                omega
              · rw [if_neg s3] at h
                by_cases l0 : c.2.2.1.1 = 0
                · rw [if_pos l0] at h; simp at h
                · rw [if_neg l0] at h
                  have := t_code_val c.2.2.1.2 c.2.2.1.1 5 0 c.2.2.2.2.2.2.2.2
                  simp only at h
                  omega
        · rw [if_neg e] at h; simp at h
      · rw [if_neg hh] at h
        by_cases e : b = 10
        · rw [if_pos e] at h; simp at h
        · rw [if_neg e] at h
          by_cases e2 : b = 13
          · rw [if_pos e2] at h; simp at h
          · rw [if_neg e2] at h
            by_cases e3 : c.2.2.1.1 < 80
            · rw [if_pos e3] at h; simp at h
            · rw [if_neg e3] at h
              simp only at h
              unfold q_tooLong at h
              split at h
              · omega
              · split at h <;> omega
theorem rd_3 {c : Cn} (hc : CE c) {b : Nat} (h : (rd c b).1 = 3) : Rk (rd c b).2.2.2.2.1 ∧ (rd c b).2.2.2.2.2.2.2.1.length ≤ 200 := by
  obtain ⟨⟨⟨a1, a2, a3, a4, a5, a6, a7, a8, a9⟩, d0, d1⟩, d2⟩ := hc
  unfold rd at h ⊢
  by_cases s2 : c.1 = 2
  · rw [if_pos s2]
    have := a6 s2
    have := a7 (Or.inl s2)
    refine ⟨a4 (by omega), ?_⟩
    show (c.2.2.2.2.2.2.1 ++ [b]).length ≤ 200
    rw [List.length_append, List.length_singleton]
    omega
  · rw [if_neg s2] at h ⊢
    by_cases s4 : c.1 = 4
    · rw [if_pos s4] at h
      by_cases dd : 0 < c.2.2.2.2.2.2.2.1
      · rw [if_pos dd] at h; simp at h
      · rw [if_neg dd] at h
        by_cases e : ¬ b = (if c.2.1 then 10 else 13)
        · rw [if_pos e] at h; simp at h
        · rw [if_neg e] at h; simp at h
    · rw [if_neg s4] at h ⊢
      by_cases hh : c.2.1 = true
      · rw [if_pos hh] at h ⊢
        by_cases e : b = 10
        · rw [if_pos e] at h ⊢
          unfold rl at h ⊢
          by_cases s0 : c.1 = 0
          · rw [if_pos s0] at h
            by_cases l0 : c.2.2.1.1 = 0
            · rw [if_pos l0] at h; simp at h
            · rw [if_neg l0] at h
              have := q_req_val c.2.2.1.2 c.2.2.1.1
              simp only at h
              omega
          · rw [if_neg s0] at h ⊢
            by_cases s1 : c.1 = 1
            · rw [if_pos s1] at h ⊢
              by_cases l0 : c.2.2.1.1 = 0
              · rw [if_pos l0]
                exact ⟨a4 (by omega), by simp⟩
              · rw [if_neg l0] at h
                have := t_code_val c.2.2.1.2 c.2.2.1.1 1 c.2.2.2.2.1.1 0
                simp only at h
                omega
            · rw [if_neg s1] at h ⊢
              by_cases s3 : c.1 = 3
              · rw [if_pos s3] at h
                have := ck_code_val c.2.2.1.2 c.2.2.1.1 c.2.2.2.2.2.2.1.length
                simp only at h
                omega
              · rw [if_neg s3] at h ⊢
                by_cases l0 : c.2.2.1.1 = 0
                · rw [if_pos l0]
                  exact ⟨a4 (by omega), a5⟩
                · rw [if_neg l0] at h
                  have := t_code_val c.2.2.1.2 c.2.2.1.1 5 0 c.2.2.2.2.2.2.2.2
                  simp only at h
                  omega
        · rw [if_neg e] at h; simp at h
      · rw [if_neg hh] at h
        by_cases e : b = 10
        · rw [if_pos e] at h; simp at h
        · rw [if_neg e] at h
          by_cases e2 : b = 13
          · rw [if_pos e2] at h; simp at h
          · rw [if_neg e2] at h
            by_cases e3 : c.2.2.1.1 < 80
            · rw [if_pos e3] at h; simp at h
            · rw [if_neg e3] at h
              simp only at h
              unfold q_tooLong at h
              split at h
              · omega
              · split at h <;> omega
/-- what a feed of d bytes does, from byte k on -/
def byt (j : Int64) (k : Nat) : Nat := (cby j (iN k)).toNatClampNeg
def fds (j : Int64) : Nat → Nat → Option Cn → Wl → Option Cn × Wl × Nat
  | 0, _, oc, w => (oc, w, 0)
  | d + 1, k, oc, w => match oc with
    | none => (none, w, 0)
    | some c => ((fds j d (k + 1) (fin (rd c (byt j k)).1 (rd c (byt j k)).2 w).1 (fin (rd c (byt j k)).1 (rd c (byt j k)).2 w).2.1).1, (fds j d (k + 1) (fin (rd c (byt j k)).1 (rd c (byt j k)).2 w).1 (fin (rd c (byt j k)).1 (rd c (byt j k)).2 w).2.1).2.1, (fin (rd c (byt j k)).1 (rd c (byt j k)).2 w).2.2 + (fds j d (k + 1) (fin (rd c (byt j k)).1 (rd c (byt j k)).2 w).1 (fin (rd c (byt j k)).1 (rd c (byt j k)).2 w).2.1).2.2)
theorem byt_eq (j : Int64) {k : Nat} (hk : k < 8) : byt j k < 256 ∧ cby j (iN k) = iN (byt j k) ∧ mby j (iN k) = iN (byt j k) := by
  obtain ⟨b, b1, b2, b3⟩ := by_byte j hk
  have : byt j k = b := by
    unfold byt
    rw [b2, iN_clamp (by omega)]
  rw [this]
  exact ⟨b1, b2, b3⟩
theorem fin_CE {e : Nat} {c' : Cn} {w : Wl} (h0 : e = 0 ∨ e = 100 → CE c') : ∀ c, (fin e c' w).1 = some c → CE c := by
  intro c hc
  unfold fin at hc
  by_cases e0 : e = 0
  · rw [if_pos e0] at hc
    cases hc
    exact h0 (Or.inl e0)
  · rw [if_neg e0] at hc
    by_cases e3 : e = 3
    · rw [if_pos e3] at hc
      simp only at hc
      split at hc
      · cases hc
      · cases hc
        exact cn0_CE
    · rw [if_neg e3] at hc
      by_cases e1 : e = 100
      · rw [if_pos e1] at hc
        cases hc
        exact h0 (Or.inr e1)
      · rw [if_neg e1] at hc
        cases hc
theorem c_feed0 (j : Int64) {n : Nat} (hn : n ≤ 8) : ∀ d k fuel (σ : St) oc w k4 t, k + d = n → d < fuel → RCo σ oc → RW σ w → (∀ c, oc = some c → CE c) → wb w t → t + d < 900000 → ∃ σ', x_PlainOrigin_feed_26 j (iN n) fuel (iN k4) (iN k) σ = some (iN (k4 + (fds j d k oc w).2.2), σ') ∧ RCo σ' (fds j d k oc w).1 ∧ RW σ' (fds j d k oc w).2.1 ∧ (∀ c, (fds j d k oc w).1 = some c → CE c) ∧ wb (fds j d k oc w).2.1 (t + d) := by
  intro d
  induction d with
  | zero =>
    intro k fuel σ oc w k4 t hk hf hR hW hC hb ht
    obtain ⟨z, rfl⟩ := x_fuelS (show 0 < fuel by omega)
    refine ⟨σ, ?_, hR, hW, hC, hb⟩
    rw [x_PlainOrigin_feed_26, if_pos ((iN_le (by omega) (by omega)).mpr (by omega))]
    rfl
  | succ d ih =>
    intro k fuel σ oc w k4 t hk hf hR hW hC hb ht
    obtain ⟨z, rfl⟩ := x_fuelS (show 0 < fuel by omega)
    obtain ⟨y1, y2, y3⟩ := byt_eq j (show k < 8 by omega)
    have run : x_PlainOrigin_feed_26 j (iN n) (z + 1) (iN k4) (iN k) σ = (x_bind2 (x_Reader_take (iN (byt j k)) σ) (fun r48 s48 => (if r48 = (1 : Int32) then (x_bind2 (x_Reader_endLine s48) (fun r63 s63 => x_PlainOrigin_feed_68 j (iN n) (x_PlainOrigin_feed_26 j (iN n) z) (iN k4) (iN k) r63 s63)) else x_PlainOrigin_feed_68 j (iN n) (x_PlainOrigin_feed_26 j (iN n) z) (iN k4) (iN k) r48 s48))) := by
      rw [← y2, x_PlainOrigin_feed_26, if_neg (mt (iN_le (by omega) (by omega)).mp (by omega))]
      rfl
    rw [run]
    cases oc with
    | none =>
      have h27 : σ.1 27 2 = -1 := hR
      have ht0 : x_Reader_take (iN (byt j k)) σ = some (0, σ) := by
        unfold x_Reader_take
        rw [h27, if_pos rfl]
      rw [ht0, x_bind2_some, if_neg (show ¬ (0 : Int32) = 1 by decide)]
      have f68 : x_PlainOrigin_feed_68 j (iN n) (x_PlainOrigin_feed_26 j (iN n) z) (iN k4) (iN k) 0 σ = x_PlainOrigin_feed_26 j (iN n) z (iN k4) (iN (k + 1)) σ := by
        unfold x_PlainOrigin_feed_68 x_PlainOrigin_feed_83
        rw [if_neg (show ¬ (0 : Int32) = 2 by decide), if_pos rfl, feed136]
      rw [f68]
      obtain ⟨σ', a1, a2, a3, a4, a5⟩ := ih (k + 1) z σ none w k4 t (by omega) (by omega) hR hW hC hb (by omega)
      have fn : ∀ d k, fds j d k none w = (none, w, 0) := by
        intro d k
        cases d <;> rfl
      rw [fn] at a1 a2 a3 a4 a5
      rw [fn]
      exact ⟨σ', a1, a2, a3, a4, a5.1, by have := a5.2.1; omega, by have := a5.2.2; omega⟩
    | some c =>
      have hCE := hC c rfl
      obtain ⟨σ1, b1, b2, b3, b4⟩ := c_rd hR hCE.1 y1 j (iN n) (x_PlainOrigin_feed_26 j (iN n) z) (iN k4) (iN k)
      rw [b1]
      have hev := rd_val c (byt j k)
      obtain ⟨w1, w2, w3⟩ := hW
      have hW1 : RW σ1 w := ⟨w1.fp b4 (by simp) (by simp), w2.of (b4.1 _ _ (by simp)) (b4.1 _ _ (by simp)) (b4.2.1 _ (by simp)), by rw [b4.1 _ _ (by simp)]; exact w3⟩
      have hCE' : (rd c (byt j k)).1 = 0 ∨ (rd c (byt j k)).1 = 100 → CE (rd c (byt j k)).2 := fun he => rd_CE hCE y1 he
      obtain ⟨hb1, hb2, hb3⟩ := hb
      obtain ⟨σ2, e1, e2, e3⟩ := c_send (σ := σ1) (c := (rd c (byt j k)).2) (w := w) hev b2 (fun he => ⟨b3 he, (rd_3 hCE he).1.1, (rd_3 hCE he).1.2.1, (rd_3 hCE he).2⟩) hW1 hb1 (by omega) (fun he => by
        have hr := b2 (Or.inr he)
        have h2 := rd_100 he
        have hce := hCE' (Or.inr he)
        have rk := hce.1.1.2.2.2.1 (by omega)
        have hm := rk.2.1
        exact ⟨_, (hr.2.2.2.2.2.2.2.2.1 (by omega)).2.1, by omega⟩) j (iN n) (x_PlainOrigin_feed_26 j (iN n) z) k4 k
      rw [e1]
      have hwb := fin_wb (c := (rd c (byt j k)).2) hev ⟨hb1, hb2, hb3⟩ (by omega) (fun he => (rd_3 hCE he).2)
      obtain ⟨σ', a1, a2, a3, a4, a5⟩ := ih (k + 1) z σ2 _ _ (k4 + (fin (rd c (byt j k)).1 (rd c (byt j k)).2 w).2.2) (t + 1) (by omega) (by omega) e2 e3 (fin_CE hCE') hwb (by omega)
      refine ⟨σ', ?_, a2, a3, a4, by rw [show t + (d + 1) = t + 1 + d by omega]; exact a5⟩
      rw [a1, Nat.add_assoc]
      rfl
theorem m_feed0 (j : Int64) {n : Nat} (hn : n ≤ 8) (l4 : Int32) : ∀ d k fuel (σ : St) oc w t, k + d = n → d < fuel → RMo σ oc → MWr σ w → (∀ c, oc = some c → CE c) → wb w t → t + d < 900000 → σ.1 51 25 = iN 0 → ∃ σ', x_Model_feed_37 j (iN n) fuel l4 (iN k) σ = some (σ'.1 51 30 - l4, σ') ∧ RMo σ' (fds j d k oc w).1 ∧ MWr σ' (fds j d k oc w).2.1 ∧ σ'.1 51 25 = iN 0 ∧ σ'.1 51 30 = σ.1 51 30 + iN (fds j d k oc w).2.2 ∧ σ'.1 51 1 = σ.1 51 1 := by
  intro d
  induction d with
  | zero =>
    intro k fuel σ oc w t hk hf hR hW hC hb ht h25
    obtain ⟨z, rfl⟩ := x_fuelS (show 0 < fuel by omega)
    refine ⟨σ, ?_, hR, hW, h25, ?_, rfl⟩
    · rw [x_Model_feed_37, if_pos ((iN_le (by omega) (by omega)).mpr (by omega))]
    · show σ.1 51 30 = σ.1 51 30 + 0
      rw [Int32.add_zero]
  | succ d ih =>
    intro k fuel σ oc w t hk hf hR hW hC hb ht h25
    obtain ⟨z, rfl⟩ := x_fuelS (show 0 < fuel by omega)
    obtain ⟨y1, y2, y3⟩ := byt_eq j (show k < 8 by omega)
    have f96 : ∀ s : St, x_Model_feed_96 j (iN n) (x_Model_feed_37 j (iN n) z) l4 (iN k) s = x_Model_feed_37 j (iN n) z l4 (iN (k + 1)) s := by
      intro s
      unfold x_Model_feed_96
      simp only [x_let]
      rw [iN_1a]
    have y3' : Int64.toInt32 ((j >>> (Int32.toInt64 ((8 : Int32) * iN k) &&& 63)) &&& (255 : Int64)) = iN (byt j k) := y3
    rw [x_Model_feed_37, if_neg (mt (iN_le (by omega) (by omega)).mp (by omega)), y3']
    simp only [f96]
    cases oc with
    | none =>
      have h7 : σ.1 51 7 = 0 := hR
      rw [h7, if_pos rfl]
      obtain ⟨σ', a1, a2, a3, a4, a5, a6⟩ := ih (k + 1) z σ none w t (by omega) (by omega) hR hW hC hb (by omega) h25
      have fn : ∀ d k, fds j d k none w = (none, w, 0) := by
        intro d k
        cases d <;> rfl
      rw [fn] at a2 a3 a5
      rw [fn]
      exact ⟨σ', a1, a2, a3, a4, a5, a6⟩
    | some c =>
      have hCE := hC c rfl
      have hRM : RM σ c := hR
      obtain ⟨hb1, hb2, hb3⟩ := hb
      rw [hRM.1, if_neg (show ¬ (1 : Int32) = 0 by decide)]
      obtain ⟨σ1, b1, b2, b3, b4⟩ := m_rd hRM hCE y1 hW hb1 (by omega) (by omega) h25
      have hev := rd_val c (byt j k)
      have hCE' : (rd c (byt j k)).1 = 0 ∨ (rd c (byt j k)).1 = 100 → CE (rd c (byt j k)).2 := fun he => rd_CE hCE y1 he
      have hwb := fin_wb (c := (rd c (byt j k)).2) (w := w) hev ⟨hb1, hb2, hb3⟩ (by omega) (fun he => (rd_3 hCE he).2)
      rw [b1, Option.bind_some]
      -- one byte done
      have step : ∃ σ2, (if (σ1.1 51 25) ≤ 0 then x_Model_feed_37 j (iN n) z l4 (iN (k + 1)) σ1 else (x_let (x_updR σ1 51 16 (1 : Int32)) (fun (s75 : St) => (Option.bind (x_Model_respond (s75.1 51 25) (0 : Int32) ((-1) : Int32) ((-1) : Int32) (0 : Int32) (0 : Int32) s75) (fun s88 => (x_let (x_updR s88 51 25 (0 : Int32)) (fun (s93 : St) => x_Model_feed_37 j (iN n) z l4 (iN (k + 1)) s93))))))) = x_Model_feed_37 j (iN n) z l4 (iN (k + 1)) σ2 ∧ RMo σ2 (fin (rd c (byt j k)).1 (rd c (byt j k)).2 w).1 ∧ MWr σ2 (fin (rd c (byt j k)).1 (rd c (byt j k)).2 w).2.1 ∧ σ2.1 51 25 = iN 0 ∧ σ2.1 51 30 = σ.1 51 30 + iN (fin (rd c (byt j k)).1 (rd c (byt j k)).2 w).2.2 ∧ σ2.1 51 1 = σ.1 51 1 := by
        have fpt : σ1.1 51 1 = σ.1 51 1 := (fp_Model_take _ _ b1).1 _ _ (by simp)
        generalize hE : (rd c (byt j k)).1 = e at *
        generalize (rd c (byt j k)).2 = c' at *
        unfold ev_ok at hev
        rcases hev with e0 | e3 | e1 | ⟨e4, e5, e6, n416⟩
        · subst e0
          obtain ⟨p1, p2, p3, p4⟩ := b2 rfl
          rw [p3, if_pos (show iN 0 ≤ 0 by decide)]
          refine ⟨σ1, rfl, p1, p2, p3, ?_, fpt⟩
          show σ1.1 51 30 = σ.1 51 30 + 0
          rw [p4, Int32.add_zero]
        · subst e3
          obtain ⟨p1, p2, p3, p4⟩ := b3 (Or.inl rfl)
          rw [p3, if_pos (show iN 0 ≤ 0 by decide)]
          exact ⟨σ1, rfl, p1, p2, p3, p4, fpt⟩
        · subst e1
          obtain ⟨p1, p2, p3, p4⟩ := b3 (Or.inr rfl)
          rw [p3, if_pos (show iN 0 ≤ 0 by decide)]
          exact ⟨σ1, rfl, p1, p2, p3, p4, fpt⟩
        · obtain ⟨p1, p2, p3⟩ := b4 e4
          have fE : fin e c' w = (none, (w.1, w.2.1, w.2.2.1 ++ o_all (rs0 e) true false, some e), 1) := by
            unfold fin
            rw [if_neg (by omega), if_neg (by omega), if_neg (by omega)]
          rw [p1, if_neg (mt (iN_le0 (by omega)).mp (by omega))]
          simp only [x_let]
          generalize hs : x_updR σ1 51 16 1 = s
          have fp0 : xFp [(51, 16)] [] (false, false, false) σ1 s := xFp.R hs.symm (by simp)
          have hWs := p2.fp fp0 (by simp) (by simp) (by simp) (by simp) (by simp) (by simp) (by simp) (by simp)
          obtain ⟨s2, q1, q2, q3, q4, q5⟩ := m_respE hWs.2.1 (by omega) (num := e) (by omega) e6 n416 (by rw [← hs]; simp [x_updR])
          have fp2 := fp_Model_respond _ _ _ _ _ _ _ q1
          rw [fp0.1 51 25 (by simp), p1, q1, Option.bind_some]
          have fp3 : xFp [(51, 25)] [] (false, false, false) s2 (x_updR s2 51 25 0) := xFp.R rfl (by simp)
          refine ⟨x_updR s2 51 25 0, rfl, ?_, ?_, by simp [x_updR]; rfl, ?_, by rw [fp3.1 _ _ (by simp), fp2.1 _ _ (by simp), fp0.1 _ _ (by simp)]; exact fpt⟩
          · rw [fE]
            show (x_updR s2 51 25 0).1 51 7 = 0
            rw [fp3.1 _ _ (by simp)]
            exact q3
          · rw [fE]
            exact ⟨(hWs.1.of (fp2.1 _ _ (by simp)) (fp2.2.1 _ (by simp)) (fp2.2.1 _ (by simp)) (fp2.2.1 _ (by simp)) (fp2.2.1 _ (by simp))).of (fp3.1 _ _ (by simp)) (fp3.2.1 _ (by simp)) (fp3.2.1 _ (by simp)) (fp3.2.1 _ (by simp)) (fp3.2.1 _ (by simp)), q2.of (fp3.1 _ _ (by simp)) (fp3.2.1 _ (by simp)), by rw [fp3.1 _ _ (by simp)]; exact q4⟩
          · rw [fE, fp3.1 _ _ (by simp), q5, fp0.1 _ _ (by simp), p3]
            rfl
      obtain ⟨σ2, s1, s2, s3, s4, s5, s6⟩ := step
      rw [s1]
      obtain ⟨σ', a1, a2, a3, a4, a5, a6⟩ := ih (k + 1) z σ2 _ _ (t + 1) (by omega) (by omega) s2 s3 (fin_CE hCE') hwb (by omega) s4
      refine ⟨σ', a1, a2, a3, a4, ?_, by rw [a6, s6]⟩
      rw [a5, s5, Int32.add_assoc, iN_add]
      rfl
