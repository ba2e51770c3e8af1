abbrev xG : Type := va_G × (Nat → Nat) × (Nat → ClassId) × (Nat → Nat) × (Nat → Nat) × (Nat → Nat)
abbrev St : Type := (Nat → Nat → Int32) × (Nat → Nat → Int32) × Nat × Option Nat × Int64
def shpL : List Nat := [13, 9, 3, 8, 4, 0, 8, 4, 0, 8, 4, 0, 8, 4, 0, 8, 4, 0, 8, 4, 0, 8, 4, 0, 8, 4, 0, 7, 4, 0, 6, 5, 4, 0, 0, 0, 0, 0, 0, 0, 4, 0, 4, 0, 11, 10, 4, 0, 12, 4, 0, 14, 2, 1, 0, 0, 0, 0, 0, 0, 0, 0, 0, 0, 0, 0, 2]
def alnL : List Nat := [0, 0, 8, 0, 0, 200, 0, 0, 200, 0, 0, 200, 0, 0, 200, 0, 0, 200, 0, 0, 200, 0, 0, 200, 0, 0, 200, 0, 0, 80, 0, 0, 0, 960, 12, 12, 12, 12, 480, 480, 0, 80, 0, 200, 0, 0, 0, 8, 0, 0, 2000, 0, 38, 8, 8, 8, 1600, 80, 80, 960, 12, 12, 200, 512, 512, 2000, 1]
def shp (k : Nat) : Nat := shpL.getD k 99
def aln (k : Nat) : Nat := alnL.getD k 0
def x_words : List Int64 := [(7021802314326568808), (7954814286170583918), (7133815533667118947), (7795014547545550447), (8675340705828662885), (7957687920190776688), (31084746153092462), (3271142129223427689), (7021675217369194861), (7959382690864916334), (3256155517606978923), (7310870969309884259), (7710274108523307776), (8532470133660083557), (4427994409562407013), (4703244552109377280), (5715068289341718596), (6072343532956308563), (5642809484591956037), (19495721226207315), (3543824036068086856), (7954892334481735712), (7526754601086496116), (4208439391363801146), (7954892334481735712), (4207883150624435572), (9134078837744160), (5125160660592520257), (4918288444145030213), (5773663463009165356), (5495873825248924495), (6075442896923087941), (7957652735263657801), (4210425200352912750), (4827970347006190368), (8028075781016940143), (3274228415361727086), (435778317409)]
def x_long (σ : St) (k i : Nat) : Int64 := if k = 66 then σ.2.2.2.2 else x_words.getD i 0
def xcl (G : xG) (σ : St) (k : Nat) : va_E := match shp k with
  | 0 => .inl (G.2.2.1 0, aln k, .inl (σ.2.1 k))
  | 1 => .inl (G.2.2.1 1, aln k, .inl (σ.2.1 k))
  | 2 => .inl (G.2.2.1 2, aln k, .inr (.inl (x_long σ k)))
  | 3 => .inl (G.2.2.1 3, aln k, .inr (.inr (.inr (.inr (fun i => some (G.2.1 (3 + 3 * i)))))))
  | 4 => .inr (0, [.ref (G.2.1 (k + 1)), .int (σ.1 k 1)])
  | 5 => .inr (1, [.ref (G.2.1 (k + 1)), .ref (G.2.1 (k + 3)), .ref (G.2.1 (k + 4)), .ref (G.2.1 (k + 5)), .ref (G.2.1 (k + 6)), .int (σ.1 k 5), .ref (G.2.1 (k + 7)), .ref (G.2.1 (k + 8)), .int (σ.1 k 8)])
  | 6 => .inr (2, [.ref (G.2.1 (k + 1)), .ref (G.2.1 (k + 10)), .ref (G.2.1 (k + 12)), va_re G.2.2.2.2.1 σ.2.2.2.1, .int (σ.1 k 4), .int (σ.1 k 5), .int (σ.1 k 6), .int (σ.1 k 7), .int (σ.1 k 8)])
  | 7 => .inr (3, [.ref (G.2.1 (k + 1)), .ref (G.2.1 (k + 3)), .int (σ.1 k 2), .int (σ.1 k 3), .int (σ.1 k 4), .int (σ.1 k 5)])
  | 8 => .inr (4, [.ref (G.2.1 (k + 1)), .int (σ.1 k 1)])
  | 9 => .inr (5, [.ref (G.2.1 (k + 1)), .int (σ.1 k 1)])
  | 10 => .inr (6, [.int (σ.1 k 0), .int (σ.1 k 1)])
  | 11 => .inr (7, [.ref (G.2.1 (k + 1)), .ref (G.2.1 (k + 2)), .int (σ.1 k 2), .int (σ.1 k 3), .int (σ.1 k 4), .int (σ.1 k 5), .int (σ.1 k 6), .int (σ.1 k 7), .ref (G.2.1 σ.2.2.1), .int (σ.1 k 9), .int (σ.1 k 10), .int (σ.1 k 11)])
  | 12 => .inr (8, [.ref (G.2.1 (k + 1)), .int (σ.1 k 1)])
  | 13 => .inr (9, [.ref (G.2.1 (k + 1)), .ref (G.2.1 (k + 27)), .ref (G.2.1 (k + 44)), .ref (G.2.1 (k + 48)), .int (σ.1 k 4)])
  | 14 => .inr (10, [.ref (G.2.1 (k + 1)), .int (σ.1 k 1), .ref (G.2.1 (k + 2)), .ref (G.2.1 (k + 3)), .ref (G.2.1 (k + 4)), .ref (G.2.1 (k + 5)), .int (σ.1 k 6), .int (σ.1 k 7), .int (σ.1 k 8), .int (σ.1 k 9), .int (σ.1 k 10), .ref (G.2.1 (k + 6)), .int (σ.1 k 12), .int (σ.1 k 13), .ref (G.2.1 (k + 7)), .int (σ.1 k 15), .int (σ.1 k 16), .int (σ.1 k 17), .ref (G.2.1 (k + 8)), .ref (G.2.1 (k + 9)), .ref (G.2.1 (k + 10)), .int (σ.1 k 21), .int (σ.1 k 22), .ref (G.2.1 (k + 11)), .int (σ.1 k 24), .int (σ.1 k 25), .int (σ.1 k 26), .ref (G.2.1 (k + 12)), .ref (G.2.1 (k + 13)), .int (σ.1 k 29), .int (σ.1 k 30), .int (σ.1 k 31), .ref (G.2.1 (k + 14))])
  | _ => .inl (0, 0, .inl (fun _ => 0))
def wd (G : xG) (σ : St) : va_W := (List.range 67).map (fun k => (G.2.1 k, xcl G σ k))
def xw (G : xG) (σ : St) (H : Heap) : Prop := va_P G.1 xCl (wd G σ) H
theorem x_at {G : xG} {σ : St} {k : Nat} {e : va_E} (hk : k < 67) (he : xcl G σ k = e) : (wd G σ)[k]? = some (G.2.1 k, e) := by
  unfold wd
  rw [List.getElem?_map, List.getElem?_range hk, ← he]
  rfl
theorem x_of {G : xG} {σ : St} {k : Nat} {q : Nat × va_E} (h : (wd G σ)[k]? = some q) : k < 67 ∧ q = (G.2.1 k, xcl G σ k) := by
  have hk : k < 67 := by
    have h1 := (List.getElem?_eq_some_iff.mp h).1
    simpa [wd] using h1
  refine ⟨hk, ?_⟩
  have h2 := x_at (G := G) (σ := σ) hk rfl
  exact (Option.some.inj (h.symm.trans h2))
def xA (G : xG) : Nat → Prop := fun q => ∃ k, k < 67 ∧ q = G.2.1 k
def xInj (G : xG) : Prop := ∀ i j, i < 67 → j < 67 → G.2.1 i = G.2.1 j → i = j
theorem x_D {G : xG} (hI : xInj G) (σ : St) : va_D (xA G) (wd G σ) := by
  refine ⟨fun i j p q hp hq he => ?_, fun k q hk => ?_⟩
  · obtain ⟨h1, rfl⟩ := x_of hp
    obtain ⟨h2, rfl⟩ := x_of hq
    exact hI i j h1 h2 he
  · obtain ⟨h1, rfl⟩ := x_of hk
    exact ⟨k, h1, rfl⟩
def x_updR (σ : St) (k j : Nat) (v : Int32) : St := (fun a b => if a = k ∧ b = j then v else σ.1 a b, σ.2)
def x_updM (σ : St) (k i : Nat) (v : Int32) : St := (σ.1, (fun a b => if a = k ∧ b = i then v else σ.2.1 a b), σ.2.2)
def x_updB (σ : St) (b : Nat) : St := (σ.1, σ.2.1, b, σ.2.2.2)
def x_updQ (σ : St) (q : Option Nat) : St := (σ.1, σ.2.1, σ.2.2.1, q, σ.2.2.2.2)
theorem xcl_congr {G : xG} {σ τ : St} {k : Nat} (h1 : σ.1 k = τ.1 k) (h2 : σ.2.1 k = τ.2.1 k) (h3 : σ.2.2 = τ.2.2) : xcl G σ k = xcl G τ k := by
  have h4 : x_long σ k = x_long τ k := by
    funext i
    unfold x_long
    rw [h3]
  unfold xcl
  rw [h4]
  simp only [h1, h2, h3]
theorem wd_upd {G : xG} {σ τ : St} {k : Nat} {e : va_E} (hk : k < 67) (he : xcl G τ k = e) (ho : ∀ j, j ≠ k → xcl G τ j = xcl G σ j) : (wd G σ).set k (G.2.1 k, e) = wd G τ := by
  apply List.ext_getElem?
  intro i
  by_cases hi : i < 67
  · by_cases hik : i = k
    · subst hik
      rw [List.getElem?_set_self (by simpa [wd] using hk), x_at hk he]
    · rw [List.getElem?_set_ne (fun h => hik h.symm), x_at (G := G) (σ := σ) hi rfl, x_at (G := G) (σ := τ) hi rfl, ho i hik]
  · rw [List.getElem?_eq_none (by simp [wd]; omega), List.getElem?_eq_none (by simp [wd]; omega)]
theorem x_updR_ne {σ : St} {k j k' : Nat} {v : Int32} (h : k' ≠ k) : (x_updR σ k j v).1 k' = σ.1 k' := by
  funext b
  show (if k' = k ∧ b = j then v else σ.1 k' b) = σ.1 k' b
  rw [if_neg (fun q => h q.1)]
theorem x_updM_ne {σ : St} {k j k' : Nat} {v : Int32} (h : k' ≠ k) : (x_updM σ k j v).2.1 k' = σ.2.1 k' := by
  funext b
  show (if k' = k ∧ b = j then v else σ.2.1 k' b) = σ.2.1 k' b
  rw [if_neg (fun q => h q.1)]
theorem x_updM_eq {σ : St} {k j : Nat} {v : Int32} : (x_updM σ k j v).2.1 k = upd (σ.2.1 k) j v := by
  funext b
  show (if k = k ∧ b = j then v else σ.2.1 k b) = if b = j then v else σ.2.1 k b
  by_cases h : b = j
  · rw [if_pos ⟨rfl, h⟩, if_pos h]
  · rw [if_neg (fun q => h q.2), if_neg h]
theorem x_setR {G : xG} {σ : St} {k j ci : Nat} {v : Int32} {fs : List Value} {H : Heap} (hw : va_P G.1 xCl ((wd G σ).set k (G.2.1 k, .inr (ci, fs.set j (.int v)))) H) (hk : k < 67) (h1 : xcl G (x_updR σ k j v) k = .inr (ci, fs.set j (.int v))) : xw G (x_updR σ k j v) H := by
  unfold xw
  rw [← wd_upd hk h1 (fun j' h => xcl_congr (x_updR_ne h) rfl rfl)]
  exact hw
theorem x_setM {G : xG} {σ : St} {k i : Nat} {v : Int32} {H : Heap} (hw : va_P G.1 xCl ((wd G σ).set k (G.2.1 k, .inl (G.2.2.1 0, aln k, .inl (upd (σ.2.1 k) i v)))) H) (hk : k < 67) (hs : shp k = 0) : xw G (x_updM σ k i v) H := by
  unfold xw
  rw [← wd_upd (σ := σ) (τ := x_updM σ k i v) hk (e := .inl (G.2.2.1 0, aln k, .inl (upd (σ.2.1 k) i v))) (by unfold xcl; rw [hs, x_updM_eq]; rfl) (fun j' h => xcl_congr (σ := x_updM σ k i v) (τ := σ) rfl (x_updM_ne h) rfl)]
  exact hw
theorem x_setZ {G : xG} {σ : St} {k i : Nat} {v : Int32} {H : Heap} (hw : va_P G.1 xCl ((wd G σ).set k (G.2.1 k, .inl (G.2.2.1 1, aln k, .inl (upd (σ.2.1 k) i v)))) H) (hk : k < 67) (hs : shp k = 1) : xw G (x_updM σ k i v) H := by
  unfold xw
  rw [← wd_upd (σ := σ) (τ := x_updM σ k i v) hk (e := .inl (G.2.2.1 1, aln k, .inl (upd (σ.2.1 k) i v))) (by unfold xcl; rw [hs, x_updM_eq]; rfl) (fun j' h => xcl_congr (σ := x_updM σ k i v) (τ := σ) rfl (x_updM_ne h) rfl)]
  exact hw
abbrev xB (k : Nat) : Prop := shp k = 4 ∧ shp (k + 1) = 0
abbrev xS (k : Nat) : Prop := shp k = 8 ∧ shp (k + 1) = 4 ∧ shp (k + 1 + 1) = 0
theorem shp_lt {k c : Nat} (h : shp k = c) (hc : c ≠ 99) : k < 67 := by
  rcases Nat.lt_or_ge k 67 with q | q
  · exact q
  · exfalso
    apply hc
    rw [← h]
    unfold shp
    rw [List.getD_eq_getElem?_getD, List.getElem?_eq_none (by simpa [shpL] using q)]
    rfl
theorem xB_s {k : Nat} (h : xB k) : shp k = 4 := h.1
theorem xB_s1 {k : Nat} (h : xB k) : shp (k + 1) = 0 := h.2
theorem xB_lt {k : Nat} (h : xB k) : k < 67 := shp_lt h.1 (by decide)
theorem xB_lt1 {k : Nat} (h : xB k) : k + 1 < 67 := shp_lt h.2 (by decide)
theorem xS_s {k : Nat} (h : xS k) : shp k = 8 := h.1
theorem xS_b {k : Nat} (h : xS k) : xB (k + 1) := h.2
theorem xS_lt {k : Nat} (h : xS k) : k < 67 := shp_lt h.1 (by decide)
theorem x_one {c k0 : Nat} (hd : (List.range 67).all (fun k => shp k != c || k == k0) = true) (hc : c ≠ 99) {k : Nat} (h : shp k = c) : k = k0 := by
  have hk := shp_lt h hc
  have h1 := List.all_eq_true.mp hd k (List.mem_range.mpr hk)
  simpa [h] using h1
theorem x_one11 {k : Nat} (h : shp k = 11) : k = 44 := x_one (by decide) (by decide) h
theorem x_one6 {k : Nat} (h : shp k = 6) : k = 30 := x_one (by decide) (by decide) h
theorem xcl_B (G : xG) (σ : St) {k : Nat} (h : shp k = 4) : xcl G σ k = .inr (0, [.ref (G.2.1 (k + 1)), .int (σ.1 k 1)]) := by unfold xcl; rw [h]; rfl
theorem xcl_I (G : xG) (σ : St) {k : Nat} (h : shp k = 0) : xcl G σ k = .inl (G.2.2.1 0, aln k, .inl (σ.2.1 k)) := by unfold xcl; rw [h]; rfl
theorem x_putB {G : xG} {σ : St} {k : Nat} {v : Int32} (h : shp k = 4) : xcl G (x_updR σ k 1 v) k = .inr (0, [.ref (G.2.1 (k + 1)), .int (σ.1 k 1)].set 1 (.int v)) := by
  unfold xcl
  rw [h]
  simp [x_updR]
theorem xcl_S (G : xG) (σ : St) {k : Nat} (h : shp k = 8) : xcl G σ k = .inr (4, [.ref (G.2.1 (k + 1)), .int (σ.1 k 1)]) := by unfold xcl; rw [h]; rfl
theorem x_putS {G : xG} {σ : St} {k : Nat} {v : Int32} (h : shp k = 8) : xcl G (x_updR σ k 1 v) k = .inr (4, [.ref (G.2.1 (k + 1)), .int (σ.1 k 1)].set 1 (.int v)) := by
  unfold xcl
  rw [h]
  simp [x_updR]
theorem xcl_0 (G : xG) (σ : St) : xcl G σ 0 = .inr (9, [.ref (G.2.1 1), .ref (G.2.1 27), .ref (G.2.1 44), .ref (G.2.1 48), .int (σ.1 0 4)]) := rfl
theorem xcl_1 (G : xG) (σ : St) : xcl G σ 1 = .inr (5, [.ref (G.2.1 2), .int (σ.1 1 1)]) := rfl
theorem xcl_2 (G : xG) (σ : St) : xcl G σ 2 = .inl (G.2.2.1 3, 8, .inr (.inr (.inr (.inr (fun i => some (G.2.1 (3 + 3 * i))))))) := rfl
theorem xcl_3 (G : xG) (σ : St) : xcl G σ 3 = .inr (4, [.ref (G.2.1 4), .int (σ.1 3 1)]) := rfl
theorem xcl_4 (G : xG) (σ : St) : xcl G σ 4 = .inr (0, [.ref (G.2.1 5), .int (σ.1 4 1)]) := rfl
theorem xcl_5 (G : xG) (σ : St) : xcl G σ 5 = .inl (G.2.2.1 0, 200, .inl (σ.2.1 5)) := rfl
theorem xcl_6 (G : xG) (σ : St) : xcl G σ 6 = .inr (4, [.ref (G.2.1 7), .int (σ.1 6 1)]) := rfl
theorem xcl_7 (G : xG) (σ : St) : xcl G σ 7 = .inr (0, [.ref (G.2.1 8), .int (σ.1 7 1)]) := rfl
theorem xcl_8 (G : xG) (σ : St) : xcl G σ 8 = .inl (G.2.2.1 0, 200, .inl (σ.2.1 8)) := rfl
theorem xcl_9 (G : xG) (σ : St) : xcl G σ 9 = .inr (4, [.ref (G.2.1 10), .int (σ.1 9 1)]) := rfl
theorem xcl_10 (G : xG) (σ : St) : xcl G σ 10 = .inr (0, [.ref (G.2.1 11), .int (σ.1 10 1)]) := rfl
theorem xcl_11 (G : xG) (σ : St) : xcl G σ 11 = .inl (G.2.2.1 0, 200, .inl (σ.2.1 11)) := rfl
theorem xcl_12 (G : xG) (σ : St) : xcl G σ 12 = .inr (4, [.ref (G.2.1 13), .int (σ.1 12 1)]) := rfl
theorem xcl_13 (G : xG) (σ : St) : xcl G σ 13 = .inr (0, [.ref (G.2.1 14), .int (σ.1 13 1)]) := rfl
theorem xcl_14 (G : xG) (σ : St) : xcl G σ 14 = .inl (G.2.2.1 0, 200, .inl (σ.2.1 14)) := rfl
theorem xcl_15 (G : xG) (σ : St) : xcl G σ 15 = .inr (4, [.ref (G.2.1 16), .int (σ.1 15 1)]) := rfl
theorem xcl_16 (G : xG) (σ : St) : xcl G σ 16 = .inr (0, [.ref (G.2.1 17), .int (σ.1 16 1)]) := rfl
theorem xcl_17 (G : xG) (σ : St) : xcl G σ 17 = .inl (G.2.2.1 0, 200, .inl (σ.2.1 17)) := rfl
theorem xcl_18 (G : xG) (σ : St) : xcl G σ 18 = .inr (4, [.ref (G.2.1 19), .int (σ.1 18 1)]) := rfl
theorem xcl_19 (G : xG) (σ : St) : xcl G σ 19 = .inr (0, [.ref (G.2.1 20), .int (σ.1 19 1)]) := rfl
theorem xcl_20 (G : xG) (σ : St) : xcl G σ 20 = .inl (G.2.2.1 0, 200, .inl (σ.2.1 20)) := rfl
theorem xcl_21 (G : xG) (σ : St) : xcl G σ 21 = .inr (4, [.ref (G.2.1 22), .int (σ.1 21 1)]) := rfl
theorem xcl_22 (G : xG) (σ : St) : xcl G σ 22 = .inr (0, [.ref (G.2.1 23), .int (σ.1 22 1)]) := rfl
theorem xcl_23 (G : xG) (σ : St) : xcl G σ 23 = .inl (G.2.2.1 0, 200, .inl (σ.2.1 23)) := rfl
theorem xcl_24 (G : xG) (σ : St) : xcl G σ 24 = .inr (4, [.ref (G.2.1 25), .int (σ.1 24 1)]) := rfl
theorem xcl_25 (G : xG) (σ : St) : xcl G σ 25 = .inr (0, [.ref (G.2.1 26), .int (σ.1 25 1)]) := rfl
theorem xcl_26 (G : xG) (σ : St) : xcl G σ 26 = .inl (G.2.2.1 0, 200, .inl (σ.2.1 26)) := rfl
theorem xcl_27 (G : xG) (σ : St) : xcl G σ 27 = .inr (3, [.ref (G.2.1 28), .ref (G.2.1 30), .int (σ.1 27 2), .int (σ.1 27 3), .int (σ.1 27 4), .int (σ.1 27 5)]) := rfl
theorem xcl_28 (G : xG) (σ : St) : xcl G σ 28 = .inr (0, [.ref (G.2.1 29), .int (σ.1 28 1)]) := rfl
theorem xcl_29 (G : xG) (σ : St) : xcl G σ 29 = .inl (G.2.2.1 0, 80, .inl (σ.2.1 29)) := rfl
theorem xcl_30 (G : xG) (σ : St) : xcl G σ 30 = .inr (2, [.ref (G.2.1 31), .ref (G.2.1 40), .ref (G.2.1 42), va_re G.2.2.2.2.1 σ.2.2.2.1, .int (σ.1 30 4), .int (σ.1 30 5), .int (σ.1 30 6), .int (σ.1 30 7), .int (σ.1 30 8)]) := rfl
theorem xcl_31 (G : xG) (σ : St) : xcl G σ 31 = .inr (1, [.ref (G.2.1 32), .ref (G.2.1 34), .ref (G.2.1 35), .ref (G.2.1 36), .ref (G.2.1 37), .int (σ.1 31 5), .ref (G.2.1 38), .ref (G.2.1 39), .int (σ.1 31 8)]) := rfl
theorem xcl_32 (G : xG) (σ : St) : xcl G σ 32 = .inr (0, [.ref (G.2.1 33), .int (σ.1 32 1)]) := rfl
theorem xcl_33 (G : xG) (σ : St) : xcl G σ 33 = .inl (G.2.2.1 0, 960, .inl (σ.2.1 33)) := rfl
theorem xcl_34 (G : xG) (σ : St) : xcl G σ 34 = .inl (G.2.2.1 0, 12, .inl (σ.2.1 34)) := rfl
theorem xcl_35 (G : xG) (σ : St) : xcl G σ 35 = .inl (G.2.2.1 0, 12, .inl (σ.2.1 35)) := rfl
theorem xcl_36 (G : xG) (σ : St) : xcl G σ 36 = .inl (G.2.2.1 0, 12, .inl (σ.2.1 36)) := rfl
theorem xcl_37 (G : xG) (σ : St) : xcl G σ 37 = .inl (G.2.2.1 0, 12, .inl (σ.2.1 37)) := rfl
theorem xcl_38 (G : xG) (σ : St) : xcl G σ 38 = .inl (G.2.2.1 0, 480, .inl (σ.2.1 38)) := rfl
theorem xcl_39 (G : xG) (σ : St) : xcl G σ 39 = .inl (G.2.2.1 0, 480, .inl (σ.2.1 39)) := rfl
theorem xcl_40 (G : xG) (σ : St) : xcl G σ 40 = .inr (0, [.ref (G.2.1 41), .int (σ.1 40 1)]) := rfl
theorem xcl_41 (G : xG) (σ : St) : xcl G σ 41 = .inl (G.2.2.1 0, 80, .inl (σ.2.1 41)) := rfl
theorem xcl_42 (G : xG) (σ : St) : xcl G σ 42 = .inr (0, [.ref (G.2.1 43), .int (σ.1 42 1)]) := rfl
theorem xcl_43 (G : xG) (σ : St) : xcl G σ 43 = .inl (G.2.2.1 0, 200, .inl (σ.2.1 43)) := rfl
theorem xcl_44 (G : xG) (σ : St) : xcl G σ 44 = .inr (7, [.ref (G.2.1 45), .ref (G.2.1 46), .int (σ.1 44 2), .int (σ.1 44 3), .int (σ.1 44 4), .int (σ.1 44 5), .int (σ.1 44 6), .int (σ.1 44 7), .ref (G.2.1 σ.2.2.1), .int (σ.1 44 9), .int (σ.1 44 10), .int (σ.1 44 11)]) := rfl
theorem xcl_45 (G : xG) (σ : St) : xcl G σ 45 = .inr (6, [.int (σ.1 45 0), .int (σ.1 45 1)]) := rfl
theorem xcl_46 (G : xG) (σ : St) : xcl G σ 46 = .inr (0, [.ref (G.2.1 47), .int (σ.1 46 1)]) := rfl
theorem xcl_47 (G : xG) (σ : St) : xcl G σ 47 = .inl (G.2.2.1 0, 8, .inl (σ.2.1 47)) := rfl
theorem xcl_48 (G : xG) (σ : St) : xcl G σ 48 = .inr (8, [.ref (G.2.1 49), .int (σ.1 48 1)]) := rfl
theorem xcl_49 (G : xG) (σ : St) : xcl G σ 49 = .inr (0, [.ref (G.2.1 50), .int (σ.1 49 1)]) := rfl
theorem xcl_50 (G : xG) (σ : St) : xcl G σ 50 = .inl (G.2.2.1 0, 2000, .inl (σ.2.1 50)) := rfl
theorem xcl_51 (G : xG) (σ : St) : xcl G σ 51 = .inr (10, [.ref (G.2.1 52), .int (σ.1 51 1), .ref (G.2.1 53), .ref (G.2.1 54), .ref (G.2.1 55), .ref (G.2.1 56), .int (σ.1 51 6), .int (σ.1 51 7), .int (σ.1 51 8), .int (σ.1 51 9), .int (σ.1 51 10), .ref (G.2.1 57), .int (σ.1 51 12), .int (σ.1 51 13), .ref (G.2.1 58), .int (σ.1 51 15), .int (σ.1 51 16), .int (σ.1 51 17), .ref (G.2.1 59), .ref (G.2.1 60), .ref (G.2.1 61), .int (σ.1 51 21), .int (σ.1 51 22), .ref (G.2.1 62), .int (σ.1 51 24), .int (σ.1 51 25), .int (σ.1 51 26), .ref (G.2.1 63), .ref (G.2.1 64), .int (σ.1 51 29), .int (σ.1 51 30), .int (σ.1 51 31), .ref (G.2.1 65)]) := rfl
theorem xcl_52 (G : xG) (σ : St) : xcl G σ 52 = .inl (G.2.2.1 2, 38, .inr (.inl (x_long σ 52))) := rfl
theorem xcl_53 (G : xG) (σ : St) : xcl G σ 53 = .inl (G.2.2.1 1, 8, .inl (σ.2.1 53)) := rfl
theorem xcl_54 (G : xG) (σ : St) : xcl G σ 54 = .inl (G.2.2.1 0, 8, .inl (σ.2.1 54)) := rfl
theorem xcl_55 (G : xG) (σ : St) : xcl G σ 55 = .inl (G.2.2.1 0, 8, .inl (σ.2.1 55)) := rfl
theorem xcl_56 (G : xG) (σ : St) : xcl G σ 56 = .inl (G.2.2.1 0, 1600, .inl (σ.2.1 56)) := rfl
theorem xcl_57 (G : xG) (σ : St) : xcl G σ 57 = .inl (G.2.2.1 0, 80, .inl (σ.2.1 57)) := rfl
theorem xcl_58 (G : xG) (σ : St) : xcl G σ 58 = .inl (G.2.2.1 0, 80, .inl (σ.2.1 58)) := rfl
theorem xcl_59 (G : xG) (σ : St) : xcl G σ 59 = .inl (G.2.2.1 0, 960, .inl (σ.2.1 59)) := rfl
theorem xcl_60 (G : xG) (σ : St) : xcl G σ 60 = .inl (G.2.2.1 0, 12, .inl (σ.2.1 60)) := rfl
theorem xcl_61 (G : xG) (σ : St) : xcl G σ 61 = .inl (G.2.2.1 0, 12, .inl (σ.2.1 61)) := rfl
theorem xcl_62 (G : xG) (σ : St) : xcl G σ 62 = .inl (G.2.2.1 0, 200, .inl (σ.2.1 62)) := rfl
theorem xcl_63 (G : xG) (σ : St) : xcl G σ 63 = .inl (G.2.2.1 0, 512, .inl (σ.2.1 63)) := rfl
theorem xcl_64 (G : xG) (σ : St) : xcl G σ 64 = .inl (G.2.2.1 0, 512, .inl (σ.2.1 64)) := rfl
theorem xcl_65 (G : xG) (σ : St) : xcl G σ 65 = .inl (G.2.2.1 0, 2000, .inl (σ.2.1 65)) := rfl
theorem xcl_66 (G : xG) (σ : St) : xcl G σ 66 = .inl (G.2.2.1 2, 1, .inr (.inl (x_long σ 66))) := rfl
theorem x_setB {G : xG} {σ : St} {b ci j : Nat} {fs : List Value} {H : Heap} (hw : va_P G.1 xCl ((wd G σ).set 44 (G.2.1 44, .inr (ci, fs.set j (.ref (G.2.1 b))))) H) (h1 : xcl G (x_updB σ b) 44 = .inr (ci, fs.set j (.ref (G.2.1 b)))) : xw G (x_updB σ b) H := by
  unfold xw
  rw [← wd_upd (by decide) h1 (fun k h => ?_)]
  · exact hw
  · have h4 : x_long (x_updB σ b) k = x_long σ k := rfl
    unfold xcl
    rw [h4]
    split <;> first | rfl | (rename_i q; exact absurd (x_one11 q) h)
theorem x_setQ {G : xG} {σ : St} {o : Option Nat} {ci j : Nat} {fs : List Value} {H : Heap} (hw : va_P G.1 xCl ((wd G σ).set 30 (G.2.1 30, .inr (ci, fs.set j (va_re G.2.2.2.2.1 o)))) H) (h1 : xcl G (x_updQ σ o) 30 = .inr (ci, fs.set j (va_re G.2.2.2.2.1 o))) : xw G (x_updQ σ o) H := by
  unfold xw
  rw [← wd_upd (by decide) h1 (fun k h => ?_)]
  · exact hw
  · have h4 : x_long (x_updQ σ o) k = x_long σ k := rfl
    unfold xcl
    rw [h4]
    split <;> first | rfl | (rename_i q; exact absurd (x_one6 q) h)
theorem x_nq (ad : Nat → Nat) (o : Option Nat) {C : String} : narrow (.object C) (va_re ad o) = va_re ad o := by cases o <;> rfl
theorem x_fq (ad : Nat → Nat) (o : Option Nat) {C : String} : fits (.object C) (va_re ad o) = true := by cases o <;> rfl
theorem x_split {c P : Prop} [Decidable c] (a : c → P) (b : ¬ c → P) : P := if h : c then a h else b h
def x_opt {α β : Type} (q : Option α) (a : β) (f : α → β) : β := match q with
  | none => a
  | some x => f x
theorem x_optE {α β : Type} {q : Option α} {a : β} {f : α → β} {b : β} (h : x_opt q a f = b) : (q = none ∧ a = b) ∨ ∃ x, q = some x ∧ f x = b := by
  cases q with
  | none => exact Or.inl ⟨rfl, h⟩
  | some x => exact Or.inr ⟨x, rfl, h⟩
def x_let {α β : Type} (a : α) (f : α → β) : β := f a
theorem x_letE {α β : Type} {a : α} {f : α → β} {b : β} (h : x_let a f = b) : ∃ v, v = a ∧ f v = b := ⟨a, rfl, h⟩
theorem x_letT {α β : Type} {a v : α} {f : α → β} {b : β} (e : v = a) (h : x_let a f = b) : f v = b := by subst e; exact h
theorem x_bind {α β : Type} {a : Option α} {f : α → Option β} {b : β} (h : Option.bind a f = some b) : ∃ v, a = some v ∧ f v = some b := by
  cases a with
  | none => cases h
  | some v => exact ⟨v, rfl, h⟩
def x_bind2 {α γ β : Type} (a : Option (α × γ)) (f : α → γ → Option β) : Option β := match a with
  | none => none
  | some q => f q.1 q.2
theorem x_bind2E {α γ β : Type} {a : Option (α × γ)} {f : α → γ → Option β} {b : β} (h : x_bind2 a f = some b) : ∃ v w, a = some (v, w) ∧ f v w = some b := by
  cases a with
  | none => cases h
  | some q => exact ⟨q.1, q.2, rfl, h⟩
theorem x_guard {α : Type} {c : Prop} [Decidable c] {a : Option α} {b : α} (h : (if c then a else none) = some b) : c ∧ a = some b := by
  by_cases hc : c
  · rw [if_pos hc] at h; exact ⟨hc, h⟩
  · rw [if_neg hc] at h; cases h
theorem x_pair {α β : Type} {a c : α} {b d : β} (h : some (a, b) = some (c, d)) : a = c ∧ b = d := by
  have h1 := Option.some.inj h
  exact ⟨congrArg Prod.fst h1, congrArg Prod.snd h1⟩
theorem x_inc {x k : Int32} {n : Int} (v : Int32) (e : v = x + k) (h : Int32.ofInt n = k) : x + Int32.ofInt n = v := by rw [h, e]
abbrev x_in (i : Int32) (n : Nat) : Prop := ¬ (i < 0 ∨ n ≤ i.toNatClampNeg)
abbrev x_bit (v : Int32) : Prop := v = 0 ∨ v = 1
theorem x_nz {v : Int32} (h : x_bit v) : narrow .boolean (.int v) = .int v := by
  rcases h with rfl | rfl <;> rfl
theorem x_fz {v : Int32} (h : x_bit v) : fits .boolean (.int v) = true := by
  rcases h with rfl | rfl <;> rfl
abbrev x_ch (v : Int32) : Prop := (v.toUInt32 % 65536).toInt32 = v
abbrev x_by (v : Int32) : Prop := v.toInt8.toInt32 = v
theorem x_nc {v : Int32} (h : x_ch v) : narrow .char (.int v) = .int v := by
  have h1 := pk_nc v
  rw [h] at h1
  exact h1
theorem x_ny {v : Int32} (h : x_by v) : narrow .byte (.int v) = .int v := by
  have h1 := pk_nb v
  rw [h] at h1
  exact h1
abbrev x_e7 (o : Option Nat) : Prop := o.all (fun i => decide (i < 7)) = true
theorem x_acmpE {ad : Nat → Nat} {o1 o2 : Option Nat} (hinj : ∀ i j, i < 7 → j < 7 → ad i = ad j → i = j) (h1 : x_e7 o1) (h2 : x_e7 o2) (h : o1.map ad = o2.map ad) : o1 = o2 := by
  cases o1 with
  | none => cases o2 with
    | none => rfl
    | some j => cases h
  | some i => cases o2 with
    | none => cases h
    | some j =>
      have e := hinj i j (by simpa [x_e7] using h1) (by simpa [x_e7] using h2) (Option.some.inj h)
      rw [e]
theorem x_cat_i (v : Int32) : (Value.int v).category = 1 := rfl
theorem x_cat_r (a : Nat) : (Value.ref a).category = 1 := rfl
theorem x_cat_l (v : Int64) : (Value.long v).category = 2 := rfl
theorem x_cat_rf (o : Option Nat) : (va_rf o).category = 1 := by cases o <;> rfl
theorem x_cat_re (ad : Nat → Nat) (o : Option Nat) : (va_re ad o).category = 1 := by cases o <;> rfl
theorem x_inlt {i : Int32} {n : Nat} (h : x_in i n) : i.toNatClampNeg < n := Nat.not_le.mp fun q => h (Or.inr q)
section XQ
variable {p : Program} {l : Launch} {e : Env} {R : Room} {s : State} {m : MethodId} {args : Array Value} {below : List Frame} {meth : Method} {c : Code} {H : Heap} {locs : List Loc} {cells slots : Nat} {Q : State → Prop}
variable {cc : ByteArray} {pc : Nat} {ls : Array Slot} {rest : List Value}
theorem x_aloadq_n (hexec : p.tables.exec = Jvm.exec) (hb : c.code = cc) {k : Fin 4} {i : Nat} {v : Value} (hdg : decode cc pc = .ok (.aload_n k, 1)) (hi : (k : Nat) = i) (hl : ls[i]? = some (.val v)) (hv : v = .null ∨ ∃ a, v = .ref a)
    (kk : W p l e R s m args below meth c H locs cells slots Q (F0 m (pc + 1) ls (v :: rest))) : W p l e R s m args below meth c H locs cells slots Q (F0 m pc ls rest) := by
  rcases hv with rfl | ⟨a, rfl⟩
  · exact lv_aload_nN hexec hb hdg hi hl kk
  · exact lv_aload_n hexec hb hdg hi hl kk
theorem x_aloadq (hexec : p.tables.exec = Jvm.exec) (hb : c.code = cc) {i : Nat} {v : Value} (hdg : decode cc pc = .ok (.aload i, 2)) (hl : ls[i]? = some (.val v)) (hv : v = .null ∨ ∃ a, v = .ref a)
    (kk : W p l e R s m args below meth c H locs cells slots Q (F0 m (pc + 2) ls (v :: rest))) : W p l e R s m args below meth c H locs cells slots Q (F0 m pc ls rest) := by
  rcases hv with rfl | ⟨a, rfl⟩
  · exact lv_aloadN hexec hb hdg hl kk
  · exact lv_aload hexec hb hdg hl kk
theorem x_astoreq_n (hexec : p.tables.exec = Jvm.exec) (hb : c.code = cc) {k : Fin 4} {i nL : Nat} {v : Value} {lv lv' : List (Nat × Value)} (hdg : decode cc pc = .ok (.astore_n k, 1)) (hi : (k : Nat) = i) (h : lv_has ls nL lv) (hn : i < nL) (hl : (i, v) :: lv.filter (fun q => !(q.1 == i) && !(q.1 + 1 == i && q.2.category == 2)) = lv') (hv : v = .null ∨ ∃ a, v = .ref a)
    (kk : ∀ ls' : Array Slot, lv_has ls' nL lv' → W p l e R s m args below meth c H locs cells slots Q (F0 m (pc + 1) ls' rest)) : W p l e R s m args below meth c H locs cells slots Q (F0 m pc ls (v :: rest)) := by
  rcases hv with rfl | ⟨a, rfl⟩
  · exact lv_astore_nN hexec hb hdg hi h hn hl kk
  · exact lv_astore_n hexec hb hdg hi h hn hl kk
theorem x_astoreq (hexec : p.tables.exec = Jvm.exec) (hb : c.code = cc) {i nL : Nat} {v : Value} {lv lv' : List (Nat × Value)} (hdg : decode cc pc = .ok (.astore i, 2)) (h : lv_has ls nL lv) (hn : i < nL) (hl : (i, v) :: lv.filter (fun q => !(q.1 == i) && !(q.1 + 1 == i && q.2.category == 2)) = lv') (hv : v = .null ∨ ∃ a, v = .ref a)
    (kk : ∀ ls' : Array Slot, lv_has ls' nL lv' → W p l e R s m args below meth c H locs cells slots Q (F0 m (pc + 2) ls' rest)) : W p l e R s m args below meth c H locs cells slots Q (F0 m pc ls (v :: rest)) := by
  rcases hv with rfl | ⟨a, rfl⟩
  · exact lv_astoreN hexec hb hdg h hn hl kk
  · exact lv_astore hexec hb hdg h hn hl kk
theorem x_acmp_ne (hexec : p.tables.exec = Jvm.exec) (hb : c.code = cc) {ad : Nat → Nat} {o1 o2 : Option Nat} {off : Int} {tgt : Nat} (hinj : ∀ i j, i < 7 → j < 7 → ad i = ad j → i = j) (h1 : x_e7 o1) (h2 : x_e7 o2) (hdg : decode cc pc = .ok (.if_acmp .ne off, 3)) (ht : (pc : Int) + off = (tgt : Int))
    (kt : ¬ o1 = o2 → W p l e R s m args below meth c H locs cells slots Q (F0 m tgt ls rest)) (kf : o1 = o2 → W p l e R s m args below meth c H locs cells slots Q (F0 m (pc + 3) ls rest)) : W p l e R s m args below meth c H locs cells slots Q (F0 m pc ls (va_re ad o2 :: va_re ad o1 :: rest)) := by
  rw [va_re_rf, va_re_rf]
  exact lv_acmp_ne hexec hb hdg ht (fun h => kt (fun q => h (by rw [q]))) (fun h => kf (x_acmpE hinj h1 h2 h))
theorem x_acmp_eq (hexec : p.tables.exec = Jvm.exec) (hb : c.code = cc) {ad : Nat → Nat} {o1 o2 : Option Nat} {off : Int} {tgt : Nat} (hinj : ∀ i j, i < 7 → j < 7 → ad i = ad j → i = j) (h1 : x_e7 o1) (h2 : x_e7 o2) (hdg : decode cc pc = .ok (.if_acmp .eq off, 3)) (ht : (pc : Int) + off = (tgt : Int))
    (kt : o1 = o2 → W p l e R s m args below meth c H locs cells slots Q (F0 m tgt ls rest)) (kf : ¬ o1 = o2 → W p l e R s m args below meth c H locs cells slots Q (F0 m (pc + 3) ls rest)) : W p l e R s m args below meth c H locs cells slots Q (F0 m pc ls (va_re ad o2 :: va_re ad o1 :: rest)) := by
  rw [va_re_rf, va_re_rf]
  exact lv_acmp_eq hexec hb hdg ht (fun h => kt (x_acmpE hinj h1 h2 h)) (fun h => kf (fun q => h (by rw [q])))
theorem x_ifnullE (hexec : p.tables.exec = Jvm.exec) (hb : c.code = cc) {ad : Nat → Nat} {o : Option Nat} {off : Int} {tgt : Nat} (hdg : decode cc pc = .ok (.ifnull off, 3)) (ht : (pc : Int) + off = (tgt : Int))
    (kt : o = none → W p l e R s m args below meth c H locs cells slots Q (F0 m tgt ls rest)) (kf : ¬ o = none → W p l e R s m args below meth c H locs cells slots Q (F0 m (pc + 3) ls rest)) : W p l e R s m args below meth c H locs cells slots Q (F0 m pc ls (va_re ad o :: rest)) := by
  cases o with
  | none => exact lv_ifnullN hexec hb hdg ht (kt rfl)
  | some i => exact lv_ifnull hexec hb hdg (kf (fun q => by cases q))
theorem x_ifnonnullE (hexec : p.tables.exec = Jvm.exec) (hb : c.code = cc) {ad : Nat → Nat} {o : Option Nat} {off : Int} {tgt : Nat} (hdg : decode cc pc = .ok (.ifnonnull off, 3)) (ht : (pc : Int) + off = (tgt : Int))
    (kt : ¬ o = none → W p l e R s m args below meth c H locs cells slots Q (F0 m tgt ls rest)) (kf : o = none → W p l e R s m args below meth c H locs cells slots Q (F0 m (pc + 3) ls rest)) : W p l e R s m args below meth c H locs cells slots Q (F0 m pc ls (va_re ad o :: rest)) := by
  cases o with
  | none => exact lv_ifnonnullN hexec hb hdg (kf rfl)
  | some i => exact lv_ifnonnull hexec hb hdg ht (kt (fun q => by cases q))
end XQ
def x_fuel : Nat := 4096
def x_tys (G : xG) : List (ClassId × FieldType) := [(G.2.2.1 0, .int), (G.2.2.1 1, .boolean), (G.2.2.1 2, .long), (G.2.2.1 3, .object "PlainOrigin$Resource")]
def gw_F : List (String × Nat × String × String × String × String) := [("PlainOrigin$Site", 24, "PlainOrigin$Bytes", "count", "I", "PlainOrigin"), ("PlainOrigin$Fields", 55, "PlainOrigin$Bytes", "count", "I", "PlainOrigin"), ("PlainOrigin$Answer", 85, "PlainOrigin$Bytes", "count", "I", "PlainOrigin"), ("PlainOrigin$Request", 55, "PlainOrigin$Bytes", "count", "I", "PlainOrigin"), ("PlainOrigin$Reader", 61, "PlainOrigin$Bytes", "count", "I", "PlainOrigin"), ("PlainOrigin", 113, "PlainOrigin$Bytes", "count", "I", "PlainOrigin"), ("PlainOrigin$Text", 66, "PlainOrigin$Bytes", "count", "I", "PlainOrigin"), ("PlainOrigin$Site", 48, "PlainOrigin$Resource", "content", "LPlainOrigin$Bytes;", "PlainOrigin"), ("PlainOrigin$Answer", 146, "PlainOrigin$Resource", "content", "LPlainOrigin$Bytes;", "PlainOrigin"), ("PlainOrigin", 110, "PlainOrigin$Resource", "content", "LPlainOrigin$Bytes;", "PlainOrigin"), ("PlainOrigin$Site", 65, "PlainOrigin$Resource", "tag", "I", "PlainOrigin"), ("PlainOrigin$Answer", 137, "PlainOrigin$Resource", "tag", "I", "PlainOrigin"), ("PlainOrigin", 121, "PlainOrigin$Resource", "tag", "I", "PlainOrigin"), ("PlainOrigin$Answer", 120, "PlainOrigin$Site", "resources", "[LPlainOrigin$Resource;", "PlainOrigin"), ("PlainOrigin", 129, "PlainOrigin$Site", "resources", "[LPlainOrigin$Resource;", "PlainOrigin"), ("PlainOrigin", 124, "PlainOrigin$Site", "changeCount", "I", "PlainOrigin"), ("PlainOrigin$Range", 20, "PlainOrigin$Fields", "text", "LPlainOrigin$Bytes;", "PlainOrigin"), ("PlainOrigin$Request", 115, "PlainOrigin$Fields", "text", "LPlainOrigin$Bytes;", "PlainOrigin"), ("PlainOrigin$Range", 24, "PlainOrigin$Fields", "valueFrom", "[I", "PlainOrigin"), ("PlainOrigin$Request", 118, "PlainOrigin$Fields", "valueFrom", "[I", "PlainOrigin"), ("PlainOrigin$Range", 28, "PlainOrigin$Fields", "valueTo", "[I", "PlainOrigin"), ("PlainOrigin$Request", 122, "PlainOrigin$Fields", "valueTo", "[I", "PlainOrigin"), ("PlainOrigin$Site", 32, "PlainOrigin$Request", "fields", "LPlainOrigin$Fields;", "PlainOrigin"), ("PlainOrigin$Answer", 133, "PlainOrigin$Request", "fields", "LPlainOrigin$Fields;", "PlainOrigin"), ("PlainOrigin$Reader", 74, "PlainOrigin$Request", "fields", "LPlainOrigin$Fields;", "PlainOrigin"), ("PlainOrigin$Answer", 76, "PlainOrigin$Request", "path", "LPlainOrigin$Bytes;", "PlainOrigin"), ("PlainOrigin$Site", 55, "PlainOrigin$Request", "body", "LPlainOrigin$Bytes;", "PlainOrigin"), ("PlainOrigin$Reader", 55, "PlainOrigin$Request", "body", "LPlainOrigin$Bytes;", "PlainOrigin"), ("PlainOrigin$Answer", 53, "PlainOrigin$Request", "method", "LPlainOrigin$Method;", "PlainOrigin"), ("PlainOrigin$Reader", 116, "PlainOrigin$Request", "isChunked", "Z", "PlainOrigin"), ("PlainOrigin$Reader", 64, "PlainOrigin$Request", "bodyLength", "I", "PlainOrigin"), ("PlainOrigin$Reader", 119, "PlainOrigin$Request", "awaitsContinue", "Z", "PlainOrigin"), ("PlainOrigin", 133, "PlainOrigin$Request", "isLast", "Z", "PlainOrigin"), ("PlainOrigin", 59, "PlainOrigin$Reader", "request", "LPlainOrigin$Request;", "PlainOrigin"), ("PlainOrigin", 74, "PlainOrigin$Reader", "stage", "I", "PlainOrigin"), ("PlainOrigin$Answer", 171, "PlainOrigin$Range", "first", "I", "PlainOrigin"), ("PlainOrigin$Answer", 174, "PlainOrigin$Range", "last", "I", "PlainOrigin"), ("PlainOrigin$Outbox", 33, "PlainOrigin$Answer", "number", "I", "PlainOrigin"), ("PlainOrigin", 152, "PlainOrigin$Answer", "number", "I", "PlainOrigin"), ("PlainOrigin$Outbox", 70, "PlainOrigin$Answer", "tag", "I", "PlainOrigin"), ("PlainOrigin$Outbox", 80, "PlainOrigin$Answer", "allows", "Z", "PlainOrigin"), ("PlainOrigin$Outbox", 88, "PlainOrigin$Answer", "closes", "Z", "PlainOrigin"), ("PlainOrigin", 139, "PlainOrigin$Answer", "closes", "Z", "PlainOrigin"), ("PlainOrigin$Outbox", 93, "PlainOrigin$Answer", "keepsAlive", "Z", "PlainOrigin"), ("PlainOrigin", 145, "PlainOrigin$Answer", "keepsAlive", "Z", "PlainOrigin"), ("PlainOrigin$Outbox", 67, "PlainOrigin$Answer", "toldLength", "I", "PlainOrigin"), ("PlainOrigin$Outbox", 55, "PlainOrigin$Answer", "body", "LPlainOrigin$Bytes;", "PlainOrigin"), ("PlainOrigin$Outbox", 49, "PlainOrigin$Answer", "from", "I", "PlainOrigin"), ("PlainOrigin$Outbox", 52, "PlainOrigin$Answer", "to", "I", "PlainOrigin"), ("PlainOrigin$Outbox", 100, "PlainOrigin$Answer", "wholeLength", "I", "PlainOrigin"), ("PlainOrigin", 91, "PlainOrigin$Outbox", "kept", "LPlainOrigin$Bytes;", "PlainOrigin"), ("PlainOrigin", 83, "PlainOrigin$Outbox", "total", "I", "PlainOrigin"), ("PlainOrigin$Method", 48, "PlainOrigin", "METHODS", "[LPlainOrigin$Method;", "PlainOrigin")]
def gw_M : List (String × Nat × MethodName × String) := [("PlainOrigin$Answer", 11, ⟨"PlainOrigin$Range", "<init>", "()V"⟩, "PlainOrigin")]
def gw (U : State) : Prop := (∀ q ∈ gw_F, va_Nw (.fieldLinkNest q.1 q.2.1 q.2.2.1 q.2.2.2.1 q.2.2.2.2.1 q.2.2.2.2.2) U) ∧ ∀ q ∈ gw_M, va_Nw (.methodLinkNest q.1 q.2.1 q.2.2.1 q.2.2.2) U
theorem gw.warm {s U : State} (hW : s.WarmedH U.vm) (h : gw s) : gw U := ⟨fun q hq => va_Nw.warmF hW (h.1 q hq), fun q hq => va_Nw.warmM hW (h.2 q hq)⟩
theorem gw.same {u U : State} (hv : u.vm = U.vm) (h : gw u) : gw U := ⟨fun q hq => va_Nw.same rfl hv (h.1 q hq), fun q hq => va_Nw.same rfl hv (h.2 q hq)⟩
theorem nf_0 : ("PlainOrigin$Site", 24, "PlainOrigin$Bytes", "count", "I", "PlainOrigin") ∈ gw_F := List.mem_of_getElem? (i := 0) rfl
theorem nf_1 : ("PlainOrigin$Fields", 55, "PlainOrigin$Bytes", "count", "I", "PlainOrigin") ∈ gw_F := List.mem_of_getElem? (i := 1) rfl
theorem nf_2 : ("PlainOrigin$Answer", 85, "PlainOrigin$Bytes", "count", "I", "PlainOrigin") ∈ gw_F := List.mem_of_getElem? (i := 2) rfl
theorem nf_3 : ("PlainOrigin$Request", 55, "PlainOrigin$Bytes", "count", "I", "PlainOrigin") ∈ gw_F := List.mem_of_getElem? (i := 3) rfl
theorem nf_4 : ("PlainOrigin$Reader", 61, "PlainOrigin$Bytes", "count", "I", "PlainOrigin") ∈ gw_F := List.mem_of_getElem? (i := 4) rfl
theorem nf_5 : ("PlainOrigin", 113, "PlainOrigin$Bytes", "count", "I", "PlainOrigin") ∈ gw_F := List.mem_of_getElem? (i := 5) rfl
theorem nf_6 : ("PlainOrigin$Text", 66, "PlainOrigin$Bytes", "count", "I", "PlainOrigin") ∈ gw_F := List.mem_of_getElem? (i := 6) rfl
theorem nf_7 : ("PlainOrigin$Site", 48, "PlainOrigin$Resource", "content", "LPlainOrigin$Bytes;", "PlainOrigin") ∈ gw_F := List.mem_of_getElem? (i := 7) rfl
theorem nf_8 : ("PlainOrigin$Answer", 146, "PlainOrigin$Resource", "content", "LPlainOrigin$Bytes;", "PlainOrigin") ∈ gw_F := List.mem_of_getElem? (i := 8) rfl
theorem nf_9 : ("PlainOrigin", 110, "PlainOrigin$Resource", "content", "LPlainOrigin$Bytes;", "PlainOrigin") ∈ gw_F := List.mem_of_getElem? (i := 9) rfl
theorem nf_10 : ("PlainOrigin$Site", 65, "PlainOrigin$Resource", "tag", "I", "PlainOrigin") ∈ gw_F := List.mem_of_getElem? (i := 10) rfl
theorem nf_11 : ("PlainOrigin$Answer", 137, "PlainOrigin$Resource", "tag", "I", "PlainOrigin") ∈ gw_F := List.mem_of_getElem? (i := 11) rfl
theorem nf_12 : ("PlainOrigin", 121, "PlainOrigin$Resource", "tag", "I", "PlainOrigin") ∈ gw_F := List.mem_of_getElem? (i := 12) rfl
theorem nf_13 : ("PlainOrigin$Answer", 120, "PlainOrigin$Site", "resources", "[LPlainOrigin$Resource;", "PlainOrigin") ∈ gw_F := List.mem_of_getElem? (i := 13) rfl
theorem nf_14 : ("PlainOrigin", 129, "PlainOrigin$Site", "resources", "[LPlainOrigin$Resource;", "PlainOrigin") ∈ gw_F := List.mem_of_getElem? (i := 14) rfl
theorem nf_15 : ("PlainOrigin", 124, "PlainOrigin$Site", "changeCount", "I", "PlainOrigin") ∈ gw_F := List.mem_of_getElem? (i := 15) rfl
theorem nf_16 : ("PlainOrigin$Range", 20, "PlainOrigin$Fields", "text", "LPlainOrigin$Bytes;", "PlainOrigin") ∈ gw_F := List.mem_of_getElem? (i := 16) rfl
theorem nf_17 : ("PlainOrigin$Request", 115, "PlainOrigin$Fields", "text", "LPlainOrigin$Bytes;", "PlainOrigin") ∈ gw_F := List.mem_of_getElem? (i := 17) rfl
theorem nf_18 : ("PlainOrigin$Range", 24, "PlainOrigin$Fields", "valueFrom", "[I", "PlainOrigin") ∈ gw_F := List.mem_of_getElem? (i := 18) rfl
theorem nf_19 : ("PlainOrigin$Request", 118, "PlainOrigin$Fields", "valueFrom", "[I", "PlainOrigin") ∈ gw_F := List.mem_of_getElem? (i := 19) rfl
theorem nf_20 : ("PlainOrigin$Range", 28, "PlainOrigin$Fields", "valueTo", "[I", "PlainOrigin") ∈ gw_F := List.mem_of_getElem? (i := 20) rfl
theorem nf_21 : ("PlainOrigin$Request", 122, "PlainOrigin$Fields", "valueTo", "[I", "PlainOrigin") ∈ gw_F := List.mem_of_getElem? (i := 21) rfl
theorem nf_22 : ("PlainOrigin$Site", 32, "PlainOrigin$Request", "fields", "LPlainOrigin$Fields;", "PlainOrigin") ∈ gw_F := List.mem_of_getElem? (i := 22) rfl
theorem nf_23 : ("PlainOrigin$Answer", 133, "PlainOrigin$Request", "fields", "LPlainOrigin$Fields;", "PlainOrigin") ∈ gw_F := List.mem_of_getElem? (i := 23) rfl
theorem nf_24 : ("PlainOrigin$Reader", 74, "PlainOrigin$Request", "fields", "LPlainOrigin$Fields;", "PlainOrigin") ∈ gw_F := List.mem_of_getElem? (i := 24) rfl
theorem nf_25 : ("PlainOrigin$Answer", 76, "PlainOrigin$Request", "path", "LPlainOrigin$Bytes;", "PlainOrigin") ∈ gw_F := List.mem_of_getElem? (i := 25) rfl
theorem nf_26 : ("PlainOrigin$Site", 55, "PlainOrigin$Request", "body", "LPlainOrigin$Bytes;", "PlainOrigin") ∈ gw_F := List.mem_of_getElem? (i := 26) rfl
theorem nf_27 : ("PlainOrigin$Reader", 55, "PlainOrigin$Request", "body", "LPlainOrigin$Bytes;", "PlainOrigin") ∈ gw_F := List.mem_of_getElem? (i := 27) rfl
theorem nf_28 : ("PlainOrigin$Answer", 53, "PlainOrigin$Request", "method", "LPlainOrigin$Method;", "PlainOrigin") ∈ gw_F := List.mem_of_getElem? (i := 28) rfl
theorem nf_29 : ("PlainOrigin$Reader", 116, "PlainOrigin$Request", "isChunked", "Z", "PlainOrigin") ∈ gw_F := List.mem_of_getElem? (i := 29) rfl
theorem nf_30 : ("PlainOrigin$Reader", 64, "PlainOrigin$Request", "bodyLength", "I", "PlainOrigin") ∈ gw_F := List.mem_of_getElem? (i := 30) rfl
theorem nf_31 : ("PlainOrigin$Reader", 119, "PlainOrigin$Request", "awaitsContinue", "Z", "PlainOrigin") ∈ gw_F := List.mem_of_getElem? (i := 31) rfl
theorem nf_32 : ("PlainOrigin", 133, "PlainOrigin$Request", "isLast", "Z", "PlainOrigin") ∈ gw_F := List.mem_of_getElem? (i := 32) rfl
theorem nf_33 : ("PlainOrigin", 59, "PlainOrigin$Reader", "request", "LPlainOrigin$Request;", "PlainOrigin") ∈ gw_F := List.mem_of_getElem? (i := 33) rfl
theorem nf_34 : ("PlainOrigin", 74, "PlainOrigin$Reader", "stage", "I", "PlainOrigin") ∈ gw_F := List.mem_of_getElem? (i := 34) rfl
theorem nf_35 : ("PlainOrigin$Answer", 171, "PlainOrigin$Range", "first", "I", "PlainOrigin") ∈ gw_F := List.mem_of_getElem? (i := 35) rfl
theorem nf_36 : ("PlainOrigin$Answer", 174, "PlainOrigin$Range", "last", "I", "PlainOrigin") ∈ gw_F := List.mem_of_getElem? (i := 36) rfl
theorem nf_37 : ("PlainOrigin$Outbox", 33, "PlainOrigin$Answer", "number", "I", "PlainOrigin") ∈ gw_F := List.mem_of_getElem? (i := 37) rfl
theorem nf_38 : ("PlainOrigin", 152, "PlainOrigin$Answer", "number", "I", "PlainOrigin") ∈ gw_F := List.mem_of_getElem? (i := 38) rfl
theorem nf_39 : ("PlainOrigin$Outbox", 70, "PlainOrigin$Answer", "tag", "I", "PlainOrigin") ∈ gw_F := List.mem_of_getElem? (i := 39) rfl
theorem nf_40 : ("PlainOrigin$Outbox", 80, "PlainOrigin$Answer", "allows", "Z", "PlainOrigin") ∈ gw_F := List.mem_of_getElem? (i := 40) rfl
theorem nf_41 : ("PlainOrigin$Outbox", 88, "PlainOrigin$Answer", "closes", "Z", "PlainOrigin") ∈ gw_F := List.mem_of_getElem? (i := 41) rfl
theorem nf_42 : ("PlainOrigin", 139, "PlainOrigin$Answer", "closes", "Z", "PlainOrigin") ∈ gw_F := List.mem_of_getElem? (i := 42) rfl
theorem nf_43 : ("PlainOrigin$Outbox", 93, "PlainOrigin$Answer", "keepsAlive", "Z", "PlainOrigin") ∈ gw_F := List.mem_of_getElem? (i := 43) rfl
theorem nf_44 : ("PlainOrigin", 145, "PlainOrigin$Answer", "keepsAlive", "Z", "PlainOrigin") ∈ gw_F := List.mem_of_getElem? (i := 44) rfl
theorem nf_45 : ("PlainOrigin$Outbox", 67, "PlainOrigin$Answer", "toldLength", "I", "PlainOrigin") ∈ gw_F := List.mem_of_getElem? (i := 45) rfl
theorem nf_46 : ("PlainOrigin$Outbox", 55, "PlainOrigin$Answer", "body", "LPlainOrigin$Bytes;", "PlainOrigin") ∈ gw_F := List.mem_of_getElem? (i := 46) rfl
theorem nf_47 : ("PlainOrigin$Outbox", 49, "PlainOrigin$Answer", "from", "I", "PlainOrigin") ∈ gw_F := List.mem_of_getElem? (i := 47) rfl
theorem nf_48 : ("PlainOrigin$Outbox", 52, "PlainOrigin$Answer", "to", "I", "PlainOrigin") ∈ gw_F := List.mem_of_getElem? (i := 48) rfl
theorem nf_49 : ("PlainOrigin$Outbox", 100, "PlainOrigin$Answer", "wholeLength", "I", "PlainOrigin") ∈ gw_F := List.mem_of_getElem? (i := 49) rfl
theorem nf_50 : ("PlainOrigin", 91, "PlainOrigin$Outbox", "kept", "LPlainOrigin$Bytes;", "PlainOrigin") ∈ gw_F := List.mem_of_getElem? (i := 50) rfl
theorem nf_51 : ("PlainOrigin", 83, "PlainOrigin$Outbox", "total", "I", "PlainOrigin") ∈ gw_F := List.mem_of_getElem? (i := 51) rfl
theorem nf_52 : ("PlainOrigin$Method", 48, "PlainOrigin", "METHODS", "[LPlainOrigin$Method;", "PlainOrigin") ∈ gw_F := List.mem_of_getElem? (i := 52) rfl
theorem nl_0 {s : State} {args : Array Value} (hG : gw s) : (Cond.fieldLinkNest "PlainOrigin$Site" 24 "PlainOrigin$Bytes" "count" "I" "PlainOrigin").before args s = true := va_tabs (c := .fieldLinkNest "PlainOrigin$Site" 24 "PlainOrigin$Bytes" "count" "I" "PlainOrigin") rfl rfl (hG.1 ("PlainOrigin$Site", 24, "PlainOrigin$Bytes", "count", "I", "PlainOrigin") nf_0)
theorem nl_1 {s : State} {args : Array Value} (hG : gw s) : (Cond.fieldLinkNest "PlainOrigin$Fields" 55 "PlainOrigin$Bytes" "count" "I" "PlainOrigin").before args s = true := va_tabs (c := .fieldLinkNest "PlainOrigin$Fields" 55 "PlainOrigin$Bytes" "count" "I" "PlainOrigin") rfl rfl (hG.1 ("PlainOrigin$Fields", 55, "PlainOrigin$Bytes", "count", "I", "PlainOrigin") nf_1)
theorem nl_2 {s : State} {args : Array Value} (hG : gw s) : (Cond.fieldLinkNest "PlainOrigin$Answer" 85 "PlainOrigin$Bytes" "count" "I" "PlainOrigin").before args s = true := va_tabs (c := .fieldLinkNest "PlainOrigin$Answer" 85 "PlainOrigin$Bytes" "count" "I" "PlainOrigin") rfl rfl (hG.1 ("PlainOrigin$Answer", 85, "PlainOrigin$Bytes", "count", "I", "PlainOrigin") nf_2)
theorem nl_3 {s : State} {args : Array Value} (hG : gw s) : (Cond.fieldLinkNest "PlainOrigin$Request" 55 "PlainOrigin$Bytes" "count" "I" "PlainOrigin").before args s = true := va_tabs (c := .fieldLinkNest "PlainOrigin$Request" 55 "PlainOrigin$Bytes" "count" "I" "PlainOrigin") rfl rfl (hG.1 ("PlainOrigin$Request", 55, "PlainOrigin$Bytes", "count", "I", "PlainOrigin") nf_3)
theorem nl_4 {s : State} {args : Array Value} (hG : gw s) : (Cond.fieldLinkNest "PlainOrigin$Reader" 61 "PlainOrigin$Bytes" "count" "I" "PlainOrigin").before args s = true := va_tabs (c := .fieldLinkNest "PlainOrigin$Reader" 61 "PlainOrigin$Bytes" "count" "I" "PlainOrigin") rfl rfl (hG.1 ("PlainOrigin$Reader", 61, "PlainOrigin$Bytes", "count", "I", "PlainOrigin") nf_4)
theorem nl_5 {s : State} {args : Array Value} (hG : gw s) : (Cond.fieldLinkNest "PlainOrigin" 113 "PlainOrigin$Bytes" "count" "I" "PlainOrigin").before args s = true := va_tabs (c := .fieldLinkNest "PlainOrigin" 113 "PlainOrigin$Bytes" "count" "I" "PlainOrigin") rfl rfl (hG.1 ("PlainOrigin", 113, "PlainOrigin$Bytes", "count", "I", "PlainOrigin") nf_5)
theorem nl_6 {s : State} {args : Array Value} (hG : gw s) : (Cond.fieldLinkNest "PlainOrigin$Text" 66 "PlainOrigin$Bytes" "count" "I" "PlainOrigin").before args s = true := va_tabs (c := .fieldLinkNest "PlainOrigin$Text" 66 "PlainOrigin$Bytes" "count" "I" "PlainOrigin") rfl rfl (hG.1 ("PlainOrigin$Text", 66, "PlainOrigin$Bytes", "count", "I", "PlainOrigin") nf_6)
theorem nl_7 {s : State} {args : Array Value} (hG : gw s) : (Cond.fieldLinkNest "PlainOrigin$Site" 48 "PlainOrigin$Resource" "content" "LPlainOrigin$Bytes;" "PlainOrigin").before args s = true := va_tabs (c := .fieldLinkNest "PlainOrigin$Site" 48 "PlainOrigin$Resource" "content" "LPlainOrigin$Bytes;" "PlainOrigin") rfl rfl (hG.1 ("PlainOrigin$Site", 48, "PlainOrigin$Resource", "content", "LPlainOrigin$Bytes;", "PlainOrigin") nf_7)
theorem nl_8 {s : State} {args : Array Value} (hG : gw s) : (Cond.fieldLinkNest "PlainOrigin$Answer" 146 "PlainOrigin$Resource" "content" "LPlainOrigin$Bytes;" "PlainOrigin").before args s = true := va_tabs (c := .fieldLinkNest "PlainOrigin$Answer" 146 "PlainOrigin$Resource" "content" "LPlainOrigin$Bytes;" "PlainOrigin") rfl rfl (hG.1 ("PlainOrigin$Answer", 146, "PlainOrigin$Resource", "content", "LPlainOrigin$Bytes;", "PlainOrigin") nf_8)
theorem nl_9 {s : State} {args : Array Value} (hG : gw s) : (Cond.fieldLinkNest "PlainOrigin" 110 "PlainOrigin$Resource" "content" "LPlainOrigin$Bytes;" "PlainOrigin").before args s = true := va_tabs (c := .fieldLinkNest "PlainOrigin" 110 "PlainOrigin$Resource" "content" "LPlainOrigin$Bytes;" "PlainOrigin") rfl rfl (hG.1 ("PlainOrigin", 110, "PlainOrigin$Resource", "content", "LPlainOrigin$Bytes;", "PlainOrigin") nf_9)
theorem nl_10 {s : State} {args : Array Value} (hG : gw s) : (Cond.fieldLinkNest "PlainOrigin$Site" 65 "PlainOrigin$Resource" "tag" "I" "PlainOrigin").before args s = true := va_tabs (c := .fieldLinkNest "PlainOrigin$Site" 65 "PlainOrigin$Resource" "tag" "I" "PlainOrigin") rfl rfl (hG.1 ("PlainOrigin$Site", 65, "PlainOrigin$Resource", "tag", "I", "PlainOrigin") nf_10)
theorem nl_11 {s : State} {args : Array Value} (hG : gw s) : (Cond.fieldLinkNest "PlainOrigin$Answer" 137 "PlainOrigin$Resource" "tag" "I" "PlainOrigin").before args s = true := va_tabs (c := .fieldLinkNest "PlainOrigin$Answer" 137 "PlainOrigin$Resource" "tag" "I" "PlainOrigin") rfl rfl (hG.1 ("PlainOrigin$Answer", 137, "PlainOrigin$Resource", "tag", "I", "PlainOrigin") nf_11)
theorem nl_12 {s : State} {args : Array Value} (hG : gw s) : (Cond.fieldLinkNest "PlainOrigin" 121 "PlainOrigin$Resource" "tag" "I" "PlainOrigin").before args s = true := va_tabs (c := .fieldLinkNest "PlainOrigin" 121 "PlainOrigin$Resource" "tag" "I" "PlainOrigin") rfl rfl (hG.1 ("PlainOrigin", 121, "PlainOrigin$Resource", "tag", "I", "PlainOrigin") nf_12)
theorem nl_13 {s : State} {args : Array Value} (hG : gw s) : (Cond.fieldLinkNest "PlainOrigin$Answer" 120 "PlainOrigin$Site" "resources" "[LPlainOrigin$Resource;" "PlainOrigin").before args s = true := va_tabs (c := .fieldLinkNest "PlainOrigin$Answer" 120 "PlainOrigin$Site" "resources" "[LPlainOrigin$Resource;" "PlainOrigin") rfl rfl (hG.1 ("PlainOrigin$Answer", 120, "PlainOrigin$Site", "resources", "[LPlainOrigin$Resource;", "PlainOrigin") nf_13)
theorem nl_14 {s : State} {args : Array Value} (hG : gw s) : (Cond.fieldLinkNest "PlainOrigin" 129 "PlainOrigin$Site" "resources" "[LPlainOrigin$Resource;" "PlainOrigin").before args s = true := va_tabs (c := .fieldLinkNest "PlainOrigin" 129 "PlainOrigin$Site" "resources" "[LPlainOrigin$Resource;" "PlainOrigin") rfl rfl (hG.1 ("PlainOrigin", 129, "PlainOrigin$Site", "resources", "[LPlainOrigin$Resource;", "PlainOrigin") nf_14)
theorem nl_15 {s : State} {args : Array Value} (hG : gw s) : (Cond.fieldLinkNest "PlainOrigin" 124 "PlainOrigin$Site" "changeCount" "I" "PlainOrigin").before args s = true := va_tabs (c := .fieldLinkNest "PlainOrigin" 124 "PlainOrigin$Site" "changeCount" "I" "PlainOrigin") rfl rfl (hG.1 ("PlainOrigin", 124, "PlainOrigin$Site", "changeCount", "I", "PlainOrigin") nf_15)
theorem nl_16 {s : State} {args : Array Value} (hG : gw s) : (Cond.fieldLinkNest "PlainOrigin$Range" 20 "PlainOrigin$Fields" "text" "LPlainOrigin$Bytes;" "PlainOrigin").before args s = true := va_tabs (c := .fieldLinkNest "PlainOrigin$Range" 20 "PlainOrigin$Fields" "text" "LPlainOrigin$Bytes;" "PlainOrigin") rfl rfl (hG.1 ("PlainOrigin$Range", 20, "PlainOrigin$Fields", "text", "LPlainOrigin$Bytes;", "PlainOrigin") nf_16)
theorem nl_17 {s : State} {args : Array Value} (hG : gw s) : (Cond.fieldLinkNest "PlainOrigin$Request" 115 "PlainOrigin$Fields" "text" "LPlainOrigin$Bytes;" "PlainOrigin").before args s = true := va_tabs (c := .fieldLinkNest "PlainOrigin$Request" 115 "PlainOrigin$Fields" "text" "LPlainOrigin$Bytes;" "PlainOrigin") rfl rfl (hG.1 ("PlainOrigin$Request", 115, "PlainOrigin$Fields", "text", "LPlainOrigin$Bytes;", "PlainOrigin") nf_17)
theorem nl_18 {s : State} {args : Array Value} (hG : gw s) : (Cond.fieldLinkNest "PlainOrigin$Range" 24 "PlainOrigin$Fields" "valueFrom" "[I" "PlainOrigin").before args s = true := va_tabs (c := .fieldLinkNest "PlainOrigin$Range" 24 "PlainOrigin$Fields" "valueFrom" "[I" "PlainOrigin") rfl rfl (hG.1 ("PlainOrigin$Range", 24, "PlainOrigin$Fields", "valueFrom", "[I", "PlainOrigin") nf_18)
theorem nl_19 {s : State} {args : Array Value} (hG : gw s) : (Cond.fieldLinkNest "PlainOrigin$Request" 118 "PlainOrigin$Fields" "valueFrom" "[I" "PlainOrigin").before args s = true := va_tabs (c := .fieldLinkNest "PlainOrigin$Request" 118 "PlainOrigin$Fields" "valueFrom" "[I" "PlainOrigin") rfl rfl (hG.1 ("PlainOrigin$Request", 118, "PlainOrigin$Fields", "valueFrom", "[I", "PlainOrigin") nf_19)
theorem nl_20 {s : State} {args : Array Value} (hG : gw s) : (Cond.fieldLinkNest "PlainOrigin$Range" 28 "PlainOrigin$Fields" "valueTo" "[I" "PlainOrigin").before args s = true := va_tabs (c := .fieldLinkNest "PlainOrigin$Range" 28 "PlainOrigin$Fields" "valueTo" "[I" "PlainOrigin") rfl rfl (hG.1 ("PlainOrigin$Range", 28, "PlainOrigin$Fields", "valueTo", "[I", "PlainOrigin") nf_20)
theorem nl_21 {s : State} {args : Array Value} (hG : gw s) : (Cond.fieldLinkNest "PlainOrigin$Request" 122 "PlainOrigin$Fields" "valueTo" "[I" "PlainOrigin").before args s = true := va_tabs (c := .fieldLinkNest "PlainOrigin$Request" 122 "PlainOrigin$Fields" "valueTo" "[I" "PlainOrigin") rfl rfl (hG.1 ("PlainOrigin$Request", 122, "PlainOrigin$Fields", "valueTo", "[I", "PlainOrigin") nf_21)
theorem nl_22 {s : State} {args : Array Value} (hG : gw s) : (Cond.fieldLinkNest "PlainOrigin$Site" 32 "PlainOrigin$Request" "fields" "LPlainOrigin$Fields;" "PlainOrigin").before args s = true := va_tabs (c := .fieldLinkNest "PlainOrigin$Site" 32 "PlainOrigin$Request" "fields" "LPlainOrigin$Fields;" "PlainOrigin") rfl rfl (hG.1 ("PlainOrigin$Site", 32, "PlainOrigin$Request", "fields", "LPlainOrigin$Fields;", "PlainOrigin") nf_22)
theorem nl_23 {s : State} {args : Array Value} (hG : gw s) : (Cond.fieldLinkNest "PlainOrigin$Answer" 133 "PlainOrigin$Request" "fields" "LPlainOrigin$Fields;" "PlainOrigin").before args s = true := va_tabs (c := .fieldLinkNest "PlainOrigin$Answer" 133 "PlainOrigin$Request" "fields" "LPlainOrigin$Fields;" "PlainOrigin") rfl rfl (hG.1 ("PlainOrigin$Answer", 133, "PlainOrigin$Request", "fields", "LPlainOrigin$Fields;", "PlainOrigin") nf_23)
theorem nl_24 {s : State} {args : Array Value} (hG : gw s) : (Cond.fieldLinkNest "PlainOrigin$Reader" 74 "PlainOrigin$Request" "fields" "LPlainOrigin$Fields;" "PlainOrigin").before args s = true := va_tabs (c := .fieldLinkNest "PlainOrigin$Reader" 74 "PlainOrigin$Request" "fields" "LPlainOrigin$Fields;" "PlainOrigin") rfl rfl (hG.1 ("PlainOrigin$Reader", 74, "PlainOrigin$Request", "fields", "LPlainOrigin$Fields;", "PlainOrigin") nf_24)
theorem nl_25 {s : State} {args : Array Value} (hG : gw s) : (Cond.fieldLinkNest "PlainOrigin$Answer" 76 "PlainOrigin$Request" "path" "LPlainOrigin$Bytes;" "PlainOrigin").before args s = true := va_tabs (c := .fieldLinkNest "PlainOrigin$Answer" 76 "PlainOrigin$Request" "path" "LPlainOrigin$Bytes;" "PlainOrigin") rfl rfl (hG.1 ("PlainOrigin$Answer", 76, "PlainOrigin$Request", "path", "LPlainOrigin$Bytes;", "PlainOrigin") nf_25)
theorem nl_26 {s : State} {args : Array Value} (hG : gw s) : (Cond.fieldLinkNest "PlainOrigin$Site" 55 "PlainOrigin$Request" "body" "LPlainOrigin$Bytes;" "PlainOrigin").before args s = true := va_tabs (c := .fieldLinkNest "PlainOrigin$Site" 55 "PlainOrigin$Request" "body" "LPlainOrigin$Bytes;" "PlainOrigin") rfl rfl (hG.1 ("PlainOrigin$Site", 55, "PlainOrigin$Request", "body", "LPlainOrigin$Bytes;", "PlainOrigin") nf_26)
theorem nl_27 {s : State} {args : Array Value} (hG : gw s) : (Cond.fieldLinkNest "PlainOrigin$Reader" 55 "PlainOrigin$Request" "body" "LPlainOrigin$Bytes;" "PlainOrigin").before args s = true := va_tabs (c := .fieldLinkNest "PlainOrigin$Reader" 55 "PlainOrigin$Request" "body" "LPlainOrigin$Bytes;" "PlainOrigin") rfl rfl (hG.1 ("PlainOrigin$Reader", 55, "PlainOrigin$Request", "body", "LPlainOrigin$Bytes;", "PlainOrigin") nf_27)
theorem nl_28 {s : State} {args : Array Value} (hG : gw s) : (Cond.fieldLinkNest "PlainOrigin$Answer" 53 "PlainOrigin$Request" "method" "LPlainOrigin$Method;" "PlainOrigin").before args s = true := va_tabs (c := .fieldLinkNest "PlainOrigin$Answer" 53 "PlainOrigin$Request" "method" "LPlainOrigin$Method;" "PlainOrigin") rfl rfl (hG.1 ("PlainOrigin$Answer", 53, "PlainOrigin$Request", "method", "LPlainOrigin$Method;", "PlainOrigin") nf_28)
theorem nl_29 {s : State} {args : Array Value} (hG : gw s) : (Cond.fieldLinkNest "PlainOrigin$Reader" 116 "PlainOrigin$Request" "isChunked" "Z" "PlainOrigin").before args s = true := va_tabs (c := .fieldLinkNest "PlainOrigin$Reader" 116 "PlainOrigin$Request" "isChunked" "Z" "PlainOrigin") rfl rfl (hG.1 ("PlainOrigin$Reader", 116, "PlainOrigin$Request", "isChunked", "Z", "PlainOrigin") nf_29)
theorem nl_30 {s : State} {args : Array Value} (hG : gw s) : (Cond.fieldLinkNest "PlainOrigin$Reader" 64 "PlainOrigin$Request" "bodyLength" "I" "PlainOrigin").before args s = true := va_tabs (c := .fieldLinkNest "PlainOrigin$Reader" 64 "PlainOrigin$Request" "bodyLength" "I" "PlainOrigin") rfl rfl (hG.1 ("PlainOrigin$Reader", 64, "PlainOrigin$Request", "bodyLength", "I", "PlainOrigin") nf_30)
theorem nl_31 {s : State} {args : Array Value} (hG : gw s) : (Cond.fieldLinkNest "PlainOrigin$Reader" 119 "PlainOrigin$Request" "awaitsContinue" "Z" "PlainOrigin").before args s = true := va_tabs (c := .fieldLinkNest "PlainOrigin$Reader" 119 "PlainOrigin$Request" "awaitsContinue" "Z" "PlainOrigin") rfl rfl (hG.1 ("PlainOrigin$Reader", 119, "PlainOrigin$Request", "awaitsContinue", "Z", "PlainOrigin") nf_31)
theorem nl_32 {s : State} {args : Array Value} (hG : gw s) : (Cond.fieldLinkNest "PlainOrigin" 133 "PlainOrigin$Request" "isLast" "Z" "PlainOrigin").before args s = true := va_tabs (c := .fieldLinkNest "PlainOrigin" 133 "PlainOrigin$Request" "isLast" "Z" "PlainOrigin") rfl rfl (hG.1 ("PlainOrigin", 133, "PlainOrigin$Request", "isLast", "Z", "PlainOrigin") nf_32)
theorem nl_33 {s : State} {args : Array Value} (hG : gw s) : (Cond.fieldLinkNest "PlainOrigin" 59 "PlainOrigin$Reader" "request" "LPlainOrigin$Request;" "PlainOrigin").before args s = true := va_tabs (c := .fieldLinkNest "PlainOrigin" 59 "PlainOrigin$Reader" "request" "LPlainOrigin$Request;" "PlainOrigin") rfl rfl (hG.1 ("PlainOrigin", 59, "PlainOrigin$Reader", "request", "LPlainOrigin$Request;", "PlainOrigin") nf_33)
theorem nl_34 {s : State} {args : Array Value} (hG : gw s) : (Cond.fieldLinkNest "PlainOrigin" 74 "PlainOrigin$Reader" "stage" "I" "PlainOrigin").before args s = true := va_tabs (c := .fieldLinkNest "PlainOrigin" 74 "PlainOrigin$Reader" "stage" "I" "PlainOrigin") rfl rfl (hG.1 ("PlainOrigin", 74, "PlainOrigin$Reader", "stage", "I", "PlainOrigin") nf_34)
theorem nl_35 {s : State} {args : Array Value} (hG : gw s) : (Cond.fieldLinkNest "PlainOrigin$Answer" 171 "PlainOrigin$Range" "first" "I" "PlainOrigin").before args s = true := va_tabs (c := .fieldLinkNest "PlainOrigin$Answer" 171 "PlainOrigin$Range" "first" "I" "PlainOrigin") rfl rfl (hG.1 ("PlainOrigin$Answer", 171, "PlainOrigin$Range", "first", "I", "PlainOrigin") nf_35)
theorem nl_36 {s : State} {args : Array Value} (hG : gw s) : (Cond.fieldLinkNest "PlainOrigin$Answer" 174 "PlainOrigin$Range" "last" "I" "PlainOrigin").before args s = true := va_tabs (c := .fieldLinkNest "PlainOrigin$Answer" 174 "PlainOrigin$Range" "last" "I" "PlainOrigin") rfl rfl (hG.1 ("PlainOrigin$Answer", 174, "PlainOrigin$Range", "last", "I", "PlainOrigin") nf_36)
theorem nl_37 {s : State} {args : Array Value} (hG : gw s) : (Cond.fieldLinkNest "PlainOrigin$Outbox" 33 "PlainOrigin$Answer" "number" "I" "PlainOrigin").before args s = true := va_tabs (c := .fieldLinkNest "PlainOrigin$Outbox" 33 "PlainOrigin$Answer" "number" "I" "PlainOrigin") rfl rfl (hG.1 ("PlainOrigin$Outbox", 33, "PlainOrigin$Answer", "number", "I", "PlainOrigin") nf_37)
theorem nl_38 {s : State} {args : Array Value} (hG : gw s) : (Cond.fieldLinkNest "PlainOrigin" 152 "PlainOrigin$Answer" "number" "I" "PlainOrigin").before args s = true := va_tabs (c := .fieldLinkNest "PlainOrigin" 152 "PlainOrigin$Answer" "number" "I" "PlainOrigin") rfl rfl (hG.1 ("PlainOrigin", 152, "PlainOrigin$Answer", "number", "I", "PlainOrigin") nf_38)
theorem nl_39 {s : State} {args : Array Value} (hG : gw s) : (Cond.fieldLinkNest "PlainOrigin$Outbox" 70 "PlainOrigin$Answer" "tag" "I" "PlainOrigin").before args s = true := va_tabs (c := .fieldLinkNest "PlainOrigin$Outbox" 70 "PlainOrigin$Answer" "tag" "I" "PlainOrigin") rfl rfl (hG.1 ("PlainOrigin$Outbox", 70, "PlainOrigin$Answer", "tag", "I", "PlainOrigin") nf_39)
theorem nl_40 {s : State} {args : Array Value} (hG : gw s) : (Cond.fieldLinkNest "PlainOrigin$Outbox" 80 "PlainOrigin$Answer" "allows" "Z" "PlainOrigin").before args s = true := va_tabs (c := .fieldLinkNest "PlainOrigin$Outbox" 80 "PlainOrigin$Answer" "allows" "Z" "PlainOrigin") rfl rfl (hG.1 ("PlainOrigin$Outbox", 80, "PlainOrigin$Answer", "allows", "Z", "PlainOrigin") nf_40)
theorem nl_41 {s : State} {args : Array Value} (hG : gw s) : (Cond.fieldLinkNest "PlainOrigin$Outbox" 88 "PlainOrigin$Answer" "closes" "Z" "PlainOrigin").before args s = true := va_tabs (c := .fieldLinkNest "PlainOrigin$Outbox" 88 "PlainOrigin$Answer" "closes" "Z" "PlainOrigin") rfl rfl (hG.1 ("PlainOrigin$Outbox", 88, "PlainOrigin$Answer", "closes", "Z", "PlainOrigin") nf_41)
theorem nl_42 {s : State} {args : Array Value} (hG : gw s) : (Cond.fieldLinkNest "PlainOrigin" 139 "PlainOrigin$Answer" "closes" "Z" "PlainOrigin").before args s = true := va_tabs (c := .fieldLinkNest "PlainOrigin" 139 "PlainOrigin$Answer" "closes" "Z" "PlainOrigin") rfl rfl (hG.1 ("PlainOrigin", 139, "PlainOrigin$Answer", "closes", "Z", "PlainOrigin") nf_42)
theorem nl_43 {s : State} {args : Array Value} (hG : gw s) : (Cond.fieldLinkNest "PlainOrigin$Outbox" 93 "PlainOrigin$Answer" "keepsAlive" "Z" "PlainOrigin").before args s = true := va_tabs (c := .fieldLinkNest "PlainOrigin$Outbox" 93 "PlainOrigin$Answer" "keepsAlive" "Z" "PlainOrigin") rfl rfl (hG.1 ("PlainOrigin$Outbox", 93, "PlainOrigin$Answer", "keepsAlive", "Z", "PlainOrigin") nf_43)
theorem nl_44 {s : State} {args : Array Value} (hG : gw s) : (Cond.fieldLinkNest "PlainOrigin" 145 "PlainOrigin$Answer" "keepsAlive" "Z" "PlainOrigin").before args s = true := va_tabs (c := .fieldLinkNest "PlainOrigin" 145 "PlainOrigin$Answer" "keepsAlive" "Z" "PlainOrigin") rfl rfl (hG.1 ("PlainOrigin", 145, "PlainOrigin$Answer", "keepsAlive", "Z", "PlainOrigin") nf_44)
theorem nl_45 {s : State} {args : Array Value} (hG : gw s) : (Cond.fieldLinkNest "PlainOrigin$Outbox" 67 "PlainOrigin$Answer" "toldLength" "I" "PlainOrigin").before args s = true := va_tabs (c := .fieldLinkNest "PlainOrigin$Outbox" 67 "PlainOrigin$Answer" "toldLength" "I" "PlainOrigin") rfl rfl (hG.1 ("PlainOrigin$Outbox", 67, "PlainOrigin$Answer", "toldLength", "I", "PlainOrigin") nf_45)
theorem nl_46 {s : State} {args : Array Value} (hG : gw s) : (Cond.fieldLinkNest "PlainOrigin$Outbox" 55 "PlainOrigin$Answer" "body" "LPlainOrigin$Bytes;" "PlainOrigin").before args s = true := va_tabs (c := .fieldLinkNest "PlainOrigin$Outbox" 55 "PlainOrigin$Answer" "body" "LPlainOrigin$Bytes;" "PlainOrigin") rfl rfl (hG.1 ("PlainOrigin$Outbox", 55, "PlainOrigin$Answer", "body", "LPlainOrigin$Bytes;", "PlainOrigin") nf_46)
theorem nl_47 {s : State} {args : Array Value} (hG : gw s) : (Cond.fieldLinkNest "PlainOrigin$Outbox" 49 "PlainOrigin$Answer" "from" "I" "PlainOrigin").before args s = true := va_tabs (c := .fieldLinkNest "PlainOrigin$Outbox" 49 "PlainOrigin$Answer" "from" "I" "PlainOrigin") rfl rfl (hG.1 ("PlainOrigin$Outbox", 49, "PlainOrigin$Answer", "from", "I", "PlainOrigin") nf_47)
theorem nl_48 {s : State} {args : Array Value} (hG : gw s) : (Cond.fieldLinkNest "PlainOrigin$Outbox" 52 "PlainOrigin$Answer" "to" "I" "PlainOrigin").before args s = true := va_tabs (c := .fieldLinkNest "PlainOrigin$Outbox" 52 "PlainOrigin$Answer" "to" "I" "PlainOrigin") rfl rfl (hG.1 ("PlainOrigin$Outbox", 52, "PlainOrigin$Answer", "to", "I", "PlainOrigin") nf_48)
theorem nl_49 {s : State} {args : Array Value} (hG : gw s) : (Cond.fieldLinkNest "PlainOrigin$Outbox" 100 "PlainOrigin$Answer" "wholeLength" "I" "PlainOrigin").before args s = true := va_tabs (c := .fieldLinkNest "PlainOrigin$Outbox" 100 "PlainOrigin$Answer" "wholeLength" "I" "PlainOrigin") rfl rfl (hG.1 ("PlainOrigin$Outbox", 100, "PlainOrigin$Answer", "wholeLength", "I", "PlainOrigin") nf_49)
theorem nl_50 {s : State} {args : Array Value} (hG : gw s) : (Cond.fieldLinkNest "PlainOrigin" 91 "PlainOrigin$Outbox" "kept" "LPlainOrigin$Bytes;" "PlainOrigin").before args s = true := va_tabs (c := .fieldLinkNest "PlainOrigin" 91 "PlainOrigin$Outbox" "kept" "LPlainOrigin$Bytes;" "PlainOrigin") rfl rfl (hG.1 ("PlainOrigin", 91, "PlainOrigin$Outbox", "kept", "LPlainOrigin$Bytes;", "PlainOrigin") nf_50)
theorem nl_51 {s : State} {args : Array Value} (hG : gw s) : (Cond.fieldLinkNest "PlainOrigin" 83 "PlainOrigin$Outbox" "total" "I" "PlainOrigin").before args s = true := va_tabs (c := .fieldLinkNest "PlainOrigin" 83 "PlainOrigin$Outbox" "total" "I" "PlainOrigin") rfl rfl (hG.1 ("PlainOrigin", 83, "PlainOrigin$Outbox", "total", "I", "PlainOrigin") nf_51)
theorem nl_52 {s : State} {args : Array Value} (hG : gw s) : (Cond.fieldLinkNest "PlainOrigin$Method" 48 "PlainOrigin" "METHODS" "[LPlainOrigin$Method;" "PlainOrigin").before args s = true := va_tabs (c := .fieldLinkNest "PlainOrigin$Method" 48 "PlainOrigin" "METHODS" "[LPlainOrigin$Method;" "PlainOrigin") rfl rfl (hG.1 ("PlainOrigin$Method", 48, "PlainOrigin", "METHODS", "[LPlainOrigin$Method;", "PlainOrigin") nf_52)
def nStr : Nat := 42
def sbytL : List (List Int32) := [[110, 32, 105, 115, 32, 110, 111, 116, 32, 48, 32, 46, 46, 32, 56], [33, 35, 36, 37, 38, 39, 42, 43, 45, 46, 94, 95, 96, 124, 126], [72, 84, 84, 80, 47], [45, 46, 95, 126, 33, 36, 38, 39, 40, 41, 42, 43, 44, 59, 61, 58, 64, 47, 63], [42], [104, 111, 115, 116], [46, 45, 58], [116, 114, 97, 110, 115, 102, 101, 114, 45, 101, 110, 99, 111, 100, 105, 110, 103], [99, 111, 110, 116, 101, 110, 116, 45, 108, 101, 110, 103, 116, 104], [99, 104, 117, 110, 107, 101, 100], [101, 120, 112, 101, 99, 116], [49, 48, 48, 45, 99, 111, 110, 116, 105, 110, 117, 101], [99, 111, 110, 110, 101, 99, 116, 105, 111, 110], [99, 108, 111, 115, 101], [107, 101, 101, 112, 45, 97, 108, 105, 118, 101], [105, 102, 45, 110, 111, 110, 101, 45, 109, 97, 116, 99, 104], [42], [114, 97, 110, 103, 101], [98, 121, 116, 101, 115, 61], [105, 102, 45, 110, 111, 110, 101, 45, 109, 97, 116, 99, 104], [42], [72, 84, 84, 80, 47, 49, 46, 49, 32], [32, 13, 10], [67, 111, 110, 116, 101, 110, 116, 45, 76, 101, 110, 103, 116, 104, 58, 32], [13, 10], [69, 84, 97, 103, 58, 32, 34], [34, 13, 10], [67, 111, 110, 116, 101, 110, 116, 45, 82, 97, 110, 103, 101, 58, 32, 98, 121, 116, 101, 115, 32], [65, 108, 108, 111, 119, 58, 32], [71, 69, 84, 44, 32, 72, 69, 65, 68, 44, 32, 80, 85, 84, 44, 32, 80, 79, 83, 84, 44, 32, 68, 69, 76, 69, 84, 69, 44, 32, 79, 80, 84, 73, 79, 78, 83], [67, 111, 110, 110, 101, 99, 116, 105, 111, 110, 58, 32, 99, 108, 111, 115, 101, 13, 10], [67, 111, 110, 110, 101, 99, 116, 105, 111, 110, 58, 32, 107, 101, 101, 112, 45, 97, 108, 105, 118, 101, 13, 10], [105, 32, 105, 115, 32, 110, 111, 116, 32, 48, 32, 46, 46, 32, 50, 52, 57], [116, 104, 101, 114, 101, 32, 105, 115, 32, 110, 111, 32, 115, 117, 99, 104, 32, 114, 101, 115, 111, 117, 114, 99, 101], [116, 104, 101, 114, 101, 32, 105, 115, 32, 110, 111, 32, 115, 117, 99, 104, 32, 98, 121, 116, 101], [79, 80, 84, 73, 79, 78, 83], [84, 82, 65, 67, 69], [71, 69, 84], [72, 69, 65, 68], [80, 85, 84], [80, 79, 83, 84], [68, 69, 76, 69, 84, 69]]
def slen (i : Nat) : Nat := (sbytL.getD i []).length
def sbyt (i j : Nat) : Int32 := (sbytL.getD i []).getD j 0
def gw_S : List (String × Nat × String × Nat) := [("PlainOrigin", 43, "n is not 0 .. 8", 0), ("PlainOrigin$Text", 40, "!#$%&'*+-.^_`|~", 1), ("PlainOrigin$Text", 55, "HTTP/", 2), ("PlainOrigin$Text", 50, "-._~!$&'()*+,;=:@/?", 3), ("PlainOrigin$Request", 86, "*", 4), ("PlainOrigin$Request", 102, "host", 5), ("PlainOrigin$Text", 61, ".-:", 6), ("PlainOrigin$Request", 128, "transfer-encoding", 7), ("PlainOrigin$Request", 130, "content-length", 8), ("PlainOrigin$Request", 135, "chunked", 9), ("PlainOrigin$Request", 144, "expect", 10), ("PlainOrigin$Request", 146, "100-continue", 11), ("PlainOrigin$Request", 148, "connection", 12), ("PlainOrigin$Request", 150, "close", 13), ("PlainOrigin$Request", 156, "keep-alive", 14), ("PlainOrigin$Answer", 153, "if-none-match", 15), ("PlainOrigin$Answer", 161, "*", 16), ("PlainOrigin$Range", 9, "range", 17), ("PlainOrigin$Range", 31, "bytes=", 18), ("PlainOrigin$Site", 38, "if-none-match", 19), ("PlainOrigin$Site", 40, "*", 20), ("PlainOrigin$Outbox", 27, "HTTP/1.1 ", 21), ("PlainOrigin$Outbox", 41, " \r\n", 22), ("PlainOrigin$Outbox", 65, "Content-Length: ", 23), ("PlainOrigin$Outbox", 47, "\r\n", 24), ("PlainOrigin$Outbox", 73, "ETag: \"", 25), ("PlainOrigin$Outbox", 75, "\"\r\n", 26), ("PlainOrigin$Outbox", 98, "Content-Range: bytes ", 27), ("PlainOrigin$Outbox", 84, "Allow: ", 28), ("PlainOrigin$Outbox", 86, "GET, HEAD, PUT, POST, DELETE, OPTIONS", 29), ("PlainOrigin$Outbox", 91, "Connection: close\r\n", 30), ("PlainOrigin$Outbox", 96, "Connection: keep-alive\r\n", 31), ("PlainOrigin", 88, "i is not 0 .. 249", 32), ("PlainOrigin", 127, "there is no such resource", 33), ("PlainOrigin", 118, "there is no such byte", 34), ("PlainOrigin$Method", 67, "OPTIONS", 35), ("PlainOrigin$Method", 68, "TRACE", 36), ("PlainOrigin$Method", 59, "GET", 37), ("PlainOrigin$Method", 63, "HEAD", 38), ("PlainOrigin$Method", 64, "PUT", 39), ("PlainOrigin$Method", 65, "POST", 40), ("PlainOrigin$Method", 66, "DELETE", 41)]
theorem sr_0 : ("PlainOrigin", 43, "n is not 0 .. 8", 0) ∈ gw_S := List.mem_of_getElem? (i := 0) rfl
theorem sr_1 : ("PlainOrigin$Text", 40, "!#$%&'*+-.^_`|~", 1) ∈ gw_S := List.mem_of_getElem? (i := 1) rfl
theorem sr_2 : ("PlainOrigin$Text", 55, "HTTP/", 2) ∈ gw_S := List.mem_of_getElem? (i := 2) rfl
theorem sr_3 : ("PlainOrigin$Text", 50, "-._~!$&'()*+,;=:@/?", 3) ∈ gw_S := List.mem_of_getElem? (i := 3) rfl
theorem sr_4 : ("PlainOrigin$Request", 86, "*", 4) ∈ gw_S := List.mem_of_getElem? (i := 4) rfl
theorem sr_5 : ("PlainOrigin$Request", 102, "host", 5) ∈ gw_S := List.mem_of_getElem? (i := 5) rfl
theorem sr_6 : ("PlainOrigin$Text", 61, ".-:", 6) ∈ gw_S := List.mem_of_getElem? (i := 6) rfl
theorem sr_7 : ("PlainOrigin$Request", 128, "transfer-encoding", 7) ∈ gw_S := List.mem_of_getElem? (i := 7) rfl
theorem sr_8 : ("PlainOrigin$Request", 130, "content-length", 8) ∈ gw_S := List.mem_of_getElem? (i := 8) rfl
theorem sr_9 : ("PlainOrigin$Request", 135, "chunked", 9) ∈ gw_S := List.mem_of_getElem? (i := 9) rfl
theorem sr_10 : ("PlainOrigin$Request", 144, "expect", 10) ∈ gw_S := List.mem_of_getElem? (i := 10) rfl
theorem sr_11 : ("PlainOrigin$Request", 146, "100-continue", 11) ∈ gw_S := List.mem_of_getElem? (i := 11) rfl
theorem sr_12 : ("PlainOrigin$Request", 148, "connection", 12) ∈ gw_S := List.mem_of_getElem? (i := 12) rfl
theorem sr_13 : ("PlainOrigin$Request", 150, "close", 13) ∈ gw_S := List.mem_of_getElem? (i := 13) rfl
theorem sr_14 : ("PlainOrigin$Request", 156, "keep-alive", 14) ∈ gw_S := List.mem_of_getElem? (i := 14) rfl
theorem sr_15 : ("PlainOrigin$Answer", 153, "if-none-match", 15) ∈ gw_S := List.mem_of_getElem? (i := 15) rfl
theorem sr_16 : ("PlainOrigin$Answer", 161, "*", 16) ∈ gw_S := List.mem_of_getElem? (i := 16) rfl
theorem sr_17 : ("PlainOrigin$Range", 9, "range", 17) ∈ gw_S := List.mem_of_getElem? (i := 17) rfl
theorem sr_18 : ("PlainOrigin$Range", 31, "bytes=", 18) ∈ gw_S := List.mem_of_getElem? (i := 18) rfl
theorem sr_19 : ("PlainOrigin$Site", 38, "if-none-match", 19) ∈ gw_S := List.mem_of_getElem? (i := 19) rfl
theorem sr_20 : ("PlainOrigin$Site", 40, "*", 20) ∈ gw_S := List.mem_of_getElem? (i := 20) rfl
theorem sr_21 : ("PlainOrigin$Outbox", 27, "HTTP/1.1 ", 21) ∈ gw_S := List.mem_of_getElem? (i := 21) rfl
theorem sr_22 : ("PlainOrigin$Outbox", 41, " \r\n", 22) ∈ gw_S := List.mem_of_getElem? (i := 22) rfl
theorem sr_23 : ("PlainOrigin$Outbox", 65, "Content-Length: ", 23) ∈ gw_S := List.mem_of_getElem? (i := 23) rfl
theorem sr_24 : ("PlainOrigin$Outbox", 47, "\r\n", 24) ∈ gw_S := List.mem_of_getElem? (i := 24) rfl
theorem sr_25 : ("PlainOrigin$Outbox", 73, "ETag: \"", 25) ∈ gw_S := List.mem_of_getElem? (i := 25) rfl
theorem sr_26 : ("PlainOrigin$Outbox", 75, "\"\r\n", 26) ∈ gw_S := List.mem_of_getElem? (i := 26) rfl
theorem sr_27 : ("PlainOrigin$Outbox", 98, "Content-Range: bytes ", 27) ∈ gw_S := List.mem_of_getElem? (i := 27) rfl
theorem sr_28 : ("PlainOrigin$Outbox", 84, "Allow: ", 28) ∈ gw_S := List.mem_of_getElem? (i := 28) rfl
theorem sr_29 : ("PlainOrigin$Outbox", 86, "GET, HEAD, PUT, POST, DELETE, OPTIONS", 29) ∈ gw_S := List.mem_of_getElem? (i := 29) rfl
theorem sr_30 : ("PlainOrigin$Outbox", 91, "Connection: close\r\n", 30) ∈ gw_S := List.mem_of_getElem? (i := 30) rfl
theorem sr_31 : ("PlainOrigin$Outbox", 96, "Connection: keep-alive\r\n", 31) ∈ gw_S := List.mem_of_getElem? (i := 31) rfl
theorem sr_32 : ("PlainOrigin", 88, "i is not 0 .. 249", 32) ∈ gw_S := List.mem_of_getElem? (i := 32) rfl
theorem sr_33 : ("PlainOrigin", 127, "there is no such resource", 33) ∈ gw_S := List.mem_of_getElem? (i := 33) rfl
theorem sr_34 : ("PlainOrigin", 118, "there is no such byte", 34) ∈ gw_S := List.mem_of_getElem? (i := 34) rfl
theorem sr_35 : ("PlainOrigin$Method", 67, "OPTIONS", 35) ∈ gw_S := List.mem_of_getElem? (i := 35) rfl
theorem sr_36 : ("PlainOrigin$Method", 68, "TRACE", 36) ∈ gw_S := List.mem_of_getElem? (i := 36) rfl
theorem sr_37 : ("PlainOrigin$Method", 59, "GET", 37) ∈ gw_S := List.mem_of_getElem? (i := 37) rfl
theorem sr_38 : ("PlainOrigin$Method", 63, "HEAD", 38) ∈ gw_S := List.mem_of_getElem? (i := 38) rfl
theorem sr_39 : ("PlainOrigin$Method", 64, "PUT", 39) ∈ gw_S := List.mem_of_getElem? (i := 39) rfl
theorem sr_40 : ("PlainOrigin$Method", 65, "POST", 40) ∈ gw_S := List.mem_of_getElem? (i := 40) rfl
theorem sr_41 : ("PlainOrigin$Method", 66, "DELETE", 41) ∈ gw_S := List.mem_of_getElem? (i := 41) rfl
def x_mwL : List Nat := [37, 38, 39, 40, 41, 35, 36]
def x_mword (i : Nat) : Nat := x_mwL.getD i 0
theorem x_mword_lt {i : Nat} (h : i < 7) : x_mword i < nStr := by
  have h1 : (List.range 7).all (fun i => decide (x_mword i < nStr)) = true := by decide
  exact of_decide_eq_true (List.all_eq_true.mp h1 i (List.mem_range.mpr h))
def x_mnm (i : Nat) : String := ["GET", "HEAD", "PUT", "POST", "DELETE", "OPTIONS", "TRACE"].getD i ""
def x_fm (G : xG) : Option Nat := if G.2.2.2.2.2 1001 = 0 then none else some (G.2.2.2.2.2 1002)
def xKh (G : xG) (A : Nat → Prop) (U : State) (H : Heap) : Prop :=
  (∀ i, i < nStr → va_O "java/lang/String" (G.2.2.2.1 i) A U H ∧ va_OF "java/lang/String" "coder" "B" (.int 0) (G.2.2.2.1 i) A U H ∧ va_OF "java/lang/String" "value" "[B" (.ref (G.2.2.2.2.2 i)) (G.2.2.2.1 i) A U H ∧ va_T .byte (G.2.2.2.2.2 i) (slen i) (fun j => .int (sbyt i j)) A U H)
  ∧ va_Z "java/lang/String" "COMPACT_STRINGS" "Z" (.int 1) A U H
  ∧ va_Z "jdk/internal/util/Preconditions" "SIOOBE_FORMATTER" "Ljava/util/function/BiFunction;" (va_rf (x_fm G)) A U H
  ∧ (∀ q ∈ gw_S, vk_R q.1 q.2.1 q.2.2.1 (G.2.2.2.1 q.2.2.2) U)
  ∧ (∀ i, i < 7 → va_Z "PlainOrigin$Method" (x_mnm i) "LPlainOrigin$Method;" (.ref (G.2.2.2.2.1 i)) A U H ∧ va_OF "PlainOrigin$Method" "word" "Ljava/lang/String;" (.ref (G.2.2.2.1 (x_mword i))) (G.2.2.2.2.1 i) A U H)
  ∧ (∀ i j, i < 7 → j < 7 → G.2.2.2.2.1 i = G.2.2.2.2.1 j → i = j)
  ∧ va_Z "PlainOrigin" "METHODS" "[LPlainOrigin$Method;" (.ref (G.2.2.2.2.2 1000)) A U H
  ∧ va_T (.object "PlainOrigin$Method") (G.2.2.2.2.2 1000) 7 (fun j => .ref (G.2.2.2.2.1 j)) A U H
def xKn (G : xG) (U : State) : Prop := xKh G (xA G) U U.heap
theorem xKn.go {G : xG} {s U : State} {H : Heap} {locs : List Loc} (h : xKn G s) (hS : va_S (xA G) s.heap H locs) (hU : U.heap = H) (hW : s.WarmedH U.vm) : xKn G U := by
  unfold xKn
  rw [hU]
  obtain ⟨h1, h2, h3, h4, h5, h6, h7, h8⟩ := h
  have hv := hW.alike
  exact ⟨fun i hi => ⟨va_O.moved hv ((h1 i hi).1.kept hS.2.1), va_OF.moved hv ((h1 i hi).2.1.kept hS.2.1), va_OF.moved hv ((h1 i hi).2.2.1.kept hS.2.1), va_T.moved hv ((h1 i hi).2.2.2.kept hS.2.1)⟩, va_Z.moved hv (h2.kept hS.2.1), va_Z.moved hv (h3.kept hS.2.1), fun q hq => vk_R.warm hW (h4 q hq),
    fun i hi => ⟨va_Z.moved hv ((h5 i hi).1.kept hS.2.1), va_OF.moved hv ((h5 i hi).2.kept hS.2.1)⟩, h6, va_Z.moved hv (h7.kept hS.2.1), va_T.moved hv (h8.kept hS.2.1)⟩
theorem xKn.same {G : xG} {s U : State} (hh : U.heap = s.heap) (hv : U.vm = s.vm) (h : xKn G s) : xKn G U := by
  unfold xKn
  rw [hh]
  obtain ⟨h1, h2, h3, h4, h5, h6, h7, h8⟩ := h
  have ha : s.vm.Alike U.vm := by rw [hv]; exact Vm.Alike.refl s.vm
  exact ⟨fun i hi => ⟨va_O.moved ha (h1 i hi).1, va_OF.moved ha (h1 i hi).2.1, va_OF.moved ha (h1 i hi).2.2.1, va_T.moved ha (h1 i hi).2.2.2⟩, va_Z.moved ha h2, va_Z.moved ha h3, fun q hq => vk_R.same hv (h4 q hq),
    fun i hi => ⟨va_Z.moved ha (h5 i hi).1, va_OF.moved ha (h5 i hi).2⟩, h6, va_Z.moved ha h7, va_T.moved ha h8⟩
theorem str_0 {G : xG} {s : State} (hN : xKn G s) : vk_R "PlainOrigin" 43 "n is not 0 .. 8" (G.2.2.2.1 0) s := hN.2.2.2.1 ("PlainOrigin", 43, "n is not 0 .. 8", 0) sr_0
theorem str_1 {G : xG} {s : State} (hN : xKn G s) : vk_R "PlainOrigin$Text" 40 "!#$%&'*+-.^_`|~" (G.2.2.2.1 1) s := hN.2.2.2.1 ("PlainOrigin$Text", 40, "!#$%&'*+-.^_`|~", 1) sr_1
theorem str_2 {G : xG} {s : State} (hN : xKn G s) : vk_R "PlainOrigin$Text" 55 "HTTP/" (G.2.2.2.1 2) s := hN.2.2.2.1 ("PlainOrigin$Text", 55, "HTTP/", 2) sr_2
theorem str_3 {G : xG} {s : State} (hN : xKn G s) : vk_R "PlainOrigin$Text" 50 "-._~!$&'()*+,;=:@/?" (G.2.2.2.1 3) s := hN.2.2.2.1 ("PlainOrigin$Text", 50, "-._~!$&'()*+,;=:@/?", 3) sr_3
theorem str_4 {G : xG} {s : State} (hN : xKn G s) : vk_R "PlainOrigin$Request" 86 "*" (G.2.2.2.1 4) s := hN.2.2.2.1 ("PlainOrigin$Request", 86, "*", 4) sr_4
theorem str_5 {G : xG} {s : State} (hN : xKn G s) : vk_R "PlainOrigin$Request" 102 "host" (G.2.2.2.1 5) s := hN.2.2.2.1 ("PlainOrigin$Request", 102, "host", 5) sr_5
theorem str_6 {G : xG} {s : State} (hN : xKn G s) : vk_R "PlainOrigin$Text" 61 ".-:" (G.2.2.2.1 6) s := hN.2.2.2.1 ("PlainOrigin$Text", 61, ".-:", 6) sr_6
theorem str_7 {G : xG} {s : State} (hN : xKn G s) : vk_R "PlainOrigin$Request" 128 "transfer-encoding" (G.2.2.2.1 7) s := hN.2.2.2.1 ("PlainOrigin$Request", 128, "transfer-encoding", 7) sr_7
theorem str_8 {G : xG} {s : State} (hN : xKn G s) : vk_R "PlainOrigin$Request" 130 "content-length" (G.2.2.2.1 8) s := hN.2.2.2.1 ("PlainOrigin$Request", 130, "content-length", 8) sr_8
theorem str_9 {G : xG} {s : State} (hN : xKn G s) : vk_R "PlainOrigin$Request" 135 "chunked" (G.2.2.2.1 9) s := hN.2.2.2.1 ("PlainOrigin$Request", 135, "chunked", 9) sr_9
theorem str_10 {G : xG} {s : State} (hN : xKn G s) : vk_R "PlainOrigin$Request" 144 "expect" (G.2.2.2.1 10) s := hN.2.2.2.1 ("PlainOrigin$Request", 144, "expect", 10) sr_10
theorem str_11 {G : xG} {s : State} (hN : xKn G s) : vk_R "PlainOrigin$Request" 146 "100-continue" (G.2.2.2.1 11) s := hN.2.2.2.1 ("PlainOrigin$Request", 146, "100-continue", 11) sr_11
theorem str_12 {G : xG} {s : State} (hN : xKn G s) : vk_R "PlainOrigin$Request" 148 "connection" (G.2.2.2.1 12) s := hN.2.2.2.1 ("PlainOrigin$Request", 148, "connection", 12) sr_12
theorem str_13 {G : xG} {s : State} (hN : xKn G s) : vk_R "PlainOrigin$Request" 150 "close" (G.2.2.2.1 13) s := hN.2.2.2.1 ("PlainOrigin$Request", 150, "close", 13) sr_13
theorem str_14 {G : xG} {s : State} (hN : xKn G s) : vk_R "PlainOrigin$Request" 156 "keep-alive" (G.2.2.2.1 14) s := hN.2.2.2.1 ("PlainOrigin$Request", 156, "keep-alive", 14) sr_14
theorem str_15 {G : xG} {s : State} (hN : xKn G s) : vk_R "PlainOrigin$Answer" 153 "if-none-match" (G.2.2.2.1 15) s := hN.2.2.2.1 ("PlainOrigin$Answer", 153, "if-none-match", 15) sr_15
theorem str_16 {G : xG} {s : State} (hN : xKn G s) : vk_R "PlainOrigin$Answer" 161 "*" (G.2.2.2.1 16) s := hN.2.2.2.1 ("PlainOrigin$Answer", 161, "*", 16) sr_16
theorem str_17 {G : xG} {s : State} (hN : xKn G s) : vk_R "PlainOrigin$Range" 9 "range" (G.2.2.2.1 17) s := hN.2.2.2.1 ("PlainOrigin$Range", 9, "range", 17) sr_17
theorem str_18 {G : xG} {s : State} (hN : xKn G s) : vk_R "PlainOrigin$Range" 31 "bytes=" (G.2.2.2.1 18) s := hN.2.2.2.1 ("PlainOrigin$Range", 31, "bytes=", 18) sr_18
theorem str_19 {G : xG} {s : State} (hN : xKn G s) : vk_R "PlainOrigin$Site" 38 "if-none-match" (G.2.2.2.1 19) s := hN.2.2.2.1 ("PlainOrigin$Site", 38, "if-none-match", 19) sr_19
theorem str_20 {G : xG} {s : State} (hN : xKn G s) : vk_R "PlainOrigin$Site" 40 "*" (G.2.2.2.1 20) s := hN.2.2.2.1 ("PlainOrigin$Site", 40, "*", 20) sr_20
theorem str_21 {G : xG} {s : State} (hN : xKn G s) : vk_R "PlainOrigin$Outbox" 27 "HTTP/1.1 " (G.2.2.2.1 21) s := hN.2.2.2.1 ("PlainOrigin$Outbox", 27, "HTTP/1.1 ", 21) sr_21
theorem str_22 {G : xG} {s : State} (hN : xKn G s) : vk_R "PlainOrigin$Outbox" 41 " \r\n" (G.2.2.2.1 22) s := hN.2.2.2.1 ("PlainOrigin$Outbox", 41, " \r\n", 22) sr_22
theorem str_23 {G : xG} {s : State} (hN : xKn G s) : vk_R "PlainOrigin$Outbox" 65 "Content-Length: " (G.2.2.2.1 23) s := hN.2.2.2.1 ("PlainOrigin$Outbox", 65, "Content-Length: ", 23) sr_23
theorem str_24 {G : xG} {s : State} (hN : xKn G s) : vk_R "PlainOrigin$Outbox" 47 "\r\n" (G.2.2.2.1 24) s := hN.2.2.2.1 ("PlainOrigin$Outbox", 47, "\r\n", 24) sr_24
theorem str_25 {G : xG} {s : State} (hN : xKn G s) : vk_R "PlainOrigin$Outbox" 73 "ETag: \"" (G.2.2.2.1 25) s := hN.2.2.2.1 ("PlainOrigin$Outbox", 73, "ETag: \"", 25) sr_25
theorem str_26 {G : xG} {s : State} (hN : xKn G s) : vk_R "PlainOrigin$Outbox" 75 "\"\r\n" (G.2.2.2.1 26) s := hN.2.2.2.1 ("PlainOrigin$Outbox", 75, "\"\r\n", 26) sr_26
theorem str_27 {G : xG} {s : State} (hN : xKn G s) : vk_R "PlainOrigin$Outbox" 98 "Content-Range: bytes " (G.2.2.2.1 27) s := hN.2.2.2.1 ("PlainOrigin$Outbox", 98, "Content-Range: bytes ", 27) sr_27
theorem str_28 {G : xG} {s : State} (hN : xKn G s) : vk_R "PlainOrigin$Outbox" 84 "Allow: " (G.2.2.2.1 28) s := hN.2.2.2.1 ("PlainOrigin$Outbox", 84, "Allow: ", 28) sr_28
theorem str_29 {G : xG} {s : State} (hN : xKn G s) : vk_R "PlainOrigin$Outbox" 86 "GET, HEAD, PUT, POST, DELETE, OPTIONS" (G.2.2.2.1 29) s := hN.2.2.2.1 ("PlainOrigin$Outbox", 86, "GET, HEAD, PUT, POST, DELETE, OPTIONS", 29) sr_29
theorem str_30 {G : xG} {s : State} (hN : xKn G s) : vk_R "PlainOrigin$Outbox" 91 "Connection: close\r\n" (G.2.2.2.1 30) s := hN.2.2.2.1 ("PlainOrigin$Outbox", 91, "Connection: close\r\n", 30) sr_30
theorem str_31 {G : xG} {s : State} (hN : xKn G s) : vk_R "PlainOrigin$Outbox" 96 "Connection: keep-alive\r\n" (G.2.2.2.1 31) s := hN.2.2.2.1 ("PlainOrigin$Outbox", 96, "Connection: keep-alive\r\n", 31) sr_31
theorem str_32 {G : xG} {s : State} (hN : xKn G s) : vk_R "PlainOrigin" 88 "i is not 0 .. 249" (G.2.2.2.1 32) s := hN.2.2.2.1 ("PlainOrigin", 88, "i is not 0 .. 249", 32) sr_32
theorem str_33 {G : xG} {s : State} (hN : xKn G s) : vk_R "PlainOrigin" 127 "there is no such resource" (G.2.2.2.1 33) s := hN.2.2.2.1 ("PlainOrigin", 127, "there is no such resource", 33) sr_33
theorem str_34 {G : xG} {s : State} (hN : xKn G s) : vk_R "PlainOrigin" 118 "there is no such byte" (G.2.2.2.1 34) s := hN.2.2.2.1 ("PlainOrigin", 118, "there is no such byte", 34) sr_34
theorem str_35 {G : xG} {s : State} (hN : xKn G s) : vk_R "PlainOrigin$Method" 67 "OPTIONS" (G.2.2.2.1 35) s := hN.2.2.2.1 ("PlainOrigin$Method", 67, "OPTIONS", 35) sr_35
theorem str_36 {G : xG} {s : State} (hN : xKn G s) : vk_R "PlainOrigin$Method" 68 "TRACE" (G.2.2.2.1 36) s := hN.2.2.2.1 ("PlainOrigin$Method", 68, "TRACE", 36) sr_36
theorem str_37 {G : xG} {s : State} (hN : xKn G s) : vk_R "PlainOrigin$Method" 59 "GET" (G.2.2.2.1 37) s := hN.2.2.2.1 ("PlainOrigin$Method", 59, "GET", 37) sr_37
theorem str_38 {G : xG} {s : State} (hN : xKn G s) : vk_R "PlainOrigin$Method" 63 "HEAD" (G.2.2.2.1 38) s := hN.2.2.2.1 ("PlainOrigin$Method", 63, "HEAD", 38) sr_38
theorem str_39 {G : xG} {s : State} (hN : xKn G s) : vk_R "PlainOrigin$Method" 64 "PUT" (G.2.2.2.1 39) s := hN.2.2.2.1 ("PlainOrigin$Method", 64, "PUT", 39) sr_39
theorem str_40 {G : xG} {s : State} (hN : xKn G s) : vk_R "PlainOrigin$Method" 65 "POST" (G.2.2.2.1 40) s := hN.2.2.2.1 ("PlainOrigin$Method", 65, "POST", 40) sr_40
theorem str_41 {G : xG} {s : State} (hN : xKn G s) : vk_R "PlainOrigin$Method" 66 "DELETE" (G.2.2.2.1 41) s := hN.2.2.2.1 ("PlainOrigin$Method", 66, "DELETE", 41) sr_41
def xC (G : xG) (U : State) : Prop := va_K G.1 xCl (x_tys G) U ∧ xInj G ∧ gw U ∧ xKn G U
theorem xC.go {G : xG} {s U : State} {H : Heap} {locs : List Loc} (h : xC G s) (hS : va_S (xA G) s.heap H locs) (hU : U.heap = H) (hW : s.WarmedH U.vm) : xC G U :=
  ⟨va_K.moved hW.alike h.1, h.2.1, gw.warm hW h.2.2.1, xKn.go h.2.2.2 hS hU hW⟩
def xP (G : xG) (σ : St) (av : List Value) : Array Value → State → Prop := va_Pc av (fun U => xw G σ U.heap ∧ xC G U)
def xRd (v : Option Value) : Array Value → State → Outcome → State → Prop := fun _ st o t => o = .returned v ∧ t.heap = st.heap
def xQ (G : xG) (v : Option Value) (σ' : St) : Array Value → State → Outcome → State → Prop := fun _ st o t => o = .returned v ∧ xw G σ' t.heap ∧ va_F (xA G) st t
theorem xP.blind {G : xG} {σ : St} {av : List Value} : FrameBlind (xP G σ av) := by
  intro a U g mk h
  obtain ⟨h0, h1, h2, h3, h4, h5⟩ := h
  exact ⟨h0, h1, va_K.moved (u := U) (U := U.calling g mk a) (Vm.Alike.refl U.vm) h2, h3, gw.same rfl h4, xKn.same rfl rfl h5⟩
section XC
variable {p : Program} {l : Launch} {e : Env} {R : Room} {s : State} {m : MethodId} {args : Array Value} {below : List Frame} {meth : Method} {c : Code} {H : Heap} {locs : List Loc} {cells slots : Nat} {Q : State → Prop}
variable {pc : Nat} {ls : Array Slot} {rest st0 : List Value} {a : Array Value} {G : xG} {σ : St}
theorem x_preS {av : List Value} (hC : xC G s) (hS : va_S (xA G) s.heap H locs) (hw : xw G σ H) : PreS s H (xP G σ av) av :=
  ⟨xP.blind, fun U hU hW => ⟨rfl, by rw [hU]; exact hw, hC.go hS hU hW⟩⟩
theorem x_preV {C : String} {b : Addr} {As : List Value} (hC : xC G s) (hS : va_S (xA G) s.heap H locs) (hw : xw G σ H) (hr : ∃ cellB : Cell, H[b]? = some cellB ∧ cellB.vm.isStatics = false ∧ s.vm.findClass C = some cellB.cls) : PreV s H C b (xP G σ (.ref b :: As)) As :=
  ⟨xP.blind, hr, fun U hU hW => ⟨rfl, by rw [hU]; exact hw, hC.go hS hU hW⟩⟩
theorem x_callR {v : Value} (hr : CallRun p l e R s m args below meth c H locs cells slots 0 0 (F0 m pc ls st0) rest (xRd (some v) a) (fun _ => False))
    (kk : W p l e R s m args below meth c H locs cells slots Q (F0 m (pc + 3) ls (v :: rest))) : W p l e R s m args below meth c H locs cells slots Q (F0 m pc ls st0) := by
  intro T hT X
  obtain ⟨v', st₀, t, T', L, h0, X', hL, e1, ⟨hv, hh⟩, st⟩ := hr T hT X
  cases hv
  obtain ⟨t2, a1, b1⟩ := kk T' (by rw [e1, hh, h0]) (Stand.forget X' (fun q h => (hL q h).elim))
  exact ⟨t2, st t2 a1, b1⟩
theorem x_callU (hr : CallRun p l e R s m args below meth c H locs cells slots 0 0 (F0 m pc ls st0) rest (xRd none a) (fun _ => False))
    (kk : W p l e R s m args below meth c H locs cells slots Q (F0 m (pc + 3) ls rest)) : W p l e R s m args below meth c H locs cells slots Q (F0 m pc ls st0) := by
  intro T hT X
  obtain ⟨v', st₀, t, T', L, h0, X', hL, e1, ⟨hv, hh⟩, st⟩ := hr T hT X
  cases hv
  obtain ⟨t2, a1, b1⟩ := kk T' (by rw [e1, hh, h0]) (Stand.forget X' (fun q h => (hL q h).elim))
  exact ⟨t2, st t2 a1, b1⟩
theorem x_recvS {i : Nat} (hN : xKn G s) (hi : i < nStr) (hS : va_S (xA G) s.heap H locs) : ∃ cell : Cell, H[G.2.2.2.1 i]? = some cell ∧ cell.vm.isStatics = false ∧ s.vm.findClass "java/lang/String" = some cell.cls := by
  obtain ⟨cell, h1, h2, h3, -⟩ := (hN.1 i hi).1.kept hS.2.1
  exact ⟨cell, h1, h2, h3⟩
theorem x_callW {v : Option Value} {H0 : Heap} {σ' : St} (hS : va_S (xA G) H0 H locs) (hr : CallRun p l e R s m args below meth c H locs cells slots 0 0 (F0 m pc ls st0) rest (xQ G v σ' a) (xA G))
    (kk : ∀ (H1 : Heap) (locs1 : List Loc), xw G σ' H1 → va_S (xA G) H0 H1 locs1 → W p l e R s m args below meth c H1 locs1 cells slots Q (F0 m (pc + 3) ls (v.toList ++ rest))) : W p l e R s m args below meth c H locs cells slots Q (F0 m pc ls st0) := by
  intro T hT X
  obtain ⟨v', st₀, t, T', L, h0, X', hL, e1, ⟨hv, hw, hz, hk⟩, st⟩ := hr T hT X
  cases hv
  rw [h0] at hz hk
  obtain ⟨t2, a1, b1⟩ := kk t.heap (locs ++ L) hw ⟨Nat.le_trans hS.1 hz, fun q h1 h2 => by rw [hk q (Nat.lt_of_lt_of_le h1 hS.1) h2]; exact hS.2.1 q h1 h2, fun q hq => by
      rcases List.mem_append.mp hq with h | h
      · exact hS.2.2 q h
      · exact hL q h⟩ T' e1 X'
  exact ⟨t2, st t2 a1, b1⟩
theorem x_callV {H0 : Heap} {σ' : St} (hS : va_S (xA G) H0 H locs) (hr : CallRun p l e R s m args below meth c H locs cells slots 0 0 (F0 m pc ls st0) rest (xQ G none σ' a) (xA G))
    (kk : ∀ (H1 : Heap) (locs1 : List Loc), xw G σ' H1 → va_S (xA G) H0 H1 locs1 → W p l e R s m args below meth c H1 locs1 cells slots Q (F0 m (pc + 3) ls rest)) : W p l e R s m args below meth c H locs cells slots Q (F0 m pc ls st0) := x_callW hS hr kk
theorem x_callS {v : Value} {H0 : Heap} {σ' : St} (hS : va_S (xA G) H0 H locs) (hr : CallRun p l e R s m args below meth c H locs cells slots 0 0 (F0 m pc ls st0) rest (xQ G (some v) σ' a) (xA G))
    (kk : ∀ (H1 : Heap) (locs1 : List Loc), xw G σ' H1 → va_S (xA G) H0 H1 locs1 → W p l e R s m args below meth c H1 locs1 cells slots Q (F0 m (pc + 3) ls (v :: rest))) : W p l e R s m args below meth c H locs cells slots Q (F0 m pc ls st0) := x_callW hS hr kk
end XC
