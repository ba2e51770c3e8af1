def x_s0 : St := (fun k j => if k = 0 ∧ j = 4 then -1 else if j = 1 ∧ shp k = 8 then -1 else if k = 51 then (if j = 7 then 1 else if j = 12 then 121 else if j = 15 then 1 else if j = 29 then -1 else 0) else 0, fun _ _ => 0, 46, none, 0)
def xu (f : Nat → va_E) (k : Nat) (v : va_E) : Nat → va_E := fun j => if j = k then v else f j
theorem xu_eq (f : Nat → va_E) (k : Nat) (v : va_E) : xu f k v k = v := if_pos rfl
theorem xu_ne {f : Nat → va_E} {k j : Nat} {v : va_E} (h : j ≠ k) : xu f k v j = f j := if_neg h
theorem xu_self {f : Nat → va_E} {k : Nat} {v : va_E} (h : f k = v) : xu f k v = f := by
  funext j
  by_cases hj : j = k
  · subst hj
    rw [xu_eq, h]
  · exact xu_ne hj
theorem xu_same {f : Nat → va_E} {k : Nat} {v w : va_E} : xu (xu f k v) k w = xu f k w := by
  funext j
  by_cases hj : j = k
  · subst hj
    rw [xu_eq, xu_eq]
  · rw [xu_ne hj, xu_ne hj, xu_ne hj]
def wk (G : xG) (f : Nat → va_E) (n : Nat) : va_W := (List.range n).map (fun k => (G.2.1 k, f k))
def xk (G : xG) (f : Nat → va_E) (n : Nat) (H : Heap) : Prop := ∀ k, k < n → va_at G.1 xCl (G.2.1 k, f k) H
theorem wk_at {G : xG} {f : Nat → va_E} {n k : Nat} {v : va_E} (hk : k < n) (he : f k = v) : (wk G f n)[k]? = some (G.2.1 k, v) := by
  unfold wk
  rw [List.getElem?_map, List.getElem?_range hk, ← he]
  rfl
theorem wk_of {G : xG} {f : Nat → va_E} {n k : Nat} {q : Nat × va_E} (h : (wk G f n)[k]? = some q) : k < n ∧ q = (G.2.1 k, f k) := by
  have hk : k < n := by
    have h1 := (List.getElem?_eq_some_iff.mp h).1
    simpa [wk] using h1
  exact ⟨hk, Option.some.inj (h.symm.trans (wk_at hk rfl))⟩
theorem xk.P {G : xG} {f : Nat → va_E} {n : Nat} {H : Heap} (h : xk G f n H) : va_P G.1 xCl (wk G f n) H := by
  intro k q hq
  obtain ⟨hk, rfl⟩ := wk_of hq
  exact h k hk
theorem xk.ofset {G : xG} {f : Nat → va_E} {n k : Nat} {v : va_E} {H : Heap} (hk : k < n) (h : va_P G.1 xCl ((wk G f n).set k (G.2.1 k, v)) H) : xk G (xu f k v) n H := by
  intro j hj
  by_cases e : j = k
  · subst e
    rw [xu_eq]
    exact h j _ (List.getElem?_set_self (by simpa [wk] using hk))
  · rw [xu_ne e]
    exact h j _ (by rw [List.getElem?_set_ne (fun q => e q.symm)]; exact wk_at hj rfl)
theorem wk_D {G : xG} (hI : xInj G) {f : Nat → va_E} {n : Nat} (hn : n ≤ 67) : va_D (xA G) (wk G f n) := by
  refine ⟨fun i j p q hp hq he => ?_, fun k q hk => ?_⟩
  · obtain ⟨h1, rfl⟩ := wk_of hp
    obtain ⟨h2, rfl⟩ := wk_of hq
    exact hI i j (Nat.lt_of_lt_of_le h1 hn) (Nat.lt_of_lt_of_le h2 hn) he
  · obtain ⟨h1, rfl⟩ := wk_of hk
    exact ⟨k, Nat.lt_of_lt_of_le h1 hn, rfl⟩
theorem xk.kept {G : xG} {f : Nat → va_E} {n : Nat} {H H1 : Heap} (h : xk G f n H) (o : ∀ q, q < H.size → H1[q]? = H[q]?) : xk G f n H1 := fun k hk => (h k hk).kept (o _ (h k hk).lt)
theorem xk.push {G : xG} {f : Nat → va_E} {n : Nat} {v : va_E} {H : Heap} (h : xk G f n H) (hv : va_at G.1 xCl (G.2.1 n, v) H) : xk G (xu f n v) (n + 1) H := by
  intro k hk
  by_cases e : k = n
  · subst e
    rw [xu_eq]
    exact hv
  · rw [xu_ne e]
    exact h k (by omega)
theorem xk.alter {G : xG} {f : Nat → va_E} {n k : Nat} {v w : va_E} {H : Heap} (h : xk G (xu f k v) n H) (hv : va_at G.1 xCl (G.2.1 k, v) H → va_at G.1 xCl (G.2.1 k, w) H) : xk G (xu f k w) n H := by
  intro j hj
  have h1 := h j hj
  by_cases e : j = k
  · subst e
    rw [xu_eq] at h1 ⊢
    exact hv h1
  · rw [xu_ne e] at h1 ⊢
    exact h1
def xAdr (G : xG) : Prop := ∀ k, G.2.1 (k + 1) = G.2.1 k + 1
theorem xAdr.add {G : xG} (h : xAdr G) (k : Nat) : ∀ j, G.2.1 (k + j) = G.2.1 k + j
  | 0 => rfl
  | j + 1 => by
    show G.2.1 (k + j + 1) = G.2.1 k + (j + 1)
    rw [h, xAdr.add h k j]
    rfl
theorem xAdr.inj {G : xG} (h : xAdr G) : xInj G := by
  intro i j _ _ e
  have h1 := h.add 0 i
  have h2 := h.add 0 j
  rw [Nat.zero_add] at h1 h2
  omega
def xCk (G : xG) (U : State) : Prop := va_K G.1 xCl (x_tys G) U ∧ xAdr G ∧ gw U ∧ va_AO "PlainOrigin$Resource" U
def xPk (G : xG) (f : Nat → va_E) (n : Nat) (av : List Value) : Array Value → State → Prop := va_Pc av (fun U => U.heap.size = G.2.1 n ∧ xk G f n U.heap ∧ xCk G U)
def xQk (G : xG) (f : Nat → va_E) (n : Nat) : Array Value → State → Outcome → State → Prop := fun _ st o t => o = .returned none ∧ xk G f n t.heap ∧ va_F (xA G) st t
theorem xPk.blind {G : xG} {f : Nat → va_E} {n : Nat} {av : List Value} : FrameBlind (xPk G f n av) := by
  intro a U g mk h
  obtain ⟨h0, h1, h2, h3, h4, h5, h6⟩ := h
  exact ⟨h0, h1, h2, va_K.moved (u := U) (U := U.calling g mk a) (Vm.Alike.refl U.vm) h3, h4, gw.same rfl h5, va_AO.moved (Vm.Alike.refl U.vm) h6⟩
theorem xCk.go {G : xG} {s U : State} (h : xCk G s) (hW : s.WarmedH U.vm) : xCk G U := ⟨va_K.moved hW.alike h.1, h.2.1, gw.warm hW h.2.2.1, va_AO.moved hW.alike h.2.2.2⟩
section XMK
variable {p : Program} {l : Launch} {e : Env} {R : Room} {s : State} {m : MethodId} {args : Array Value} {below : List Frame} {meth : Method} {c : Code} {H : Heap} {locs : List Loc} {cells slots : Nat} {Q : State → Prop}
variable {cc : ByteArray} {pc : Nat} {ls : Array Slot} {rest st0 : List Value} {a : Array Value} {G : xG} {f : Nat → va_E} {n : Nat} {H0 : Heap}
theorem x_sz {g : JFrame} (k : H.size ≤ s.heap.size + cells → W p l e R s m args below meth c H locs cells slots Q g) : W p l e R s m args below meth c H locs cells slots Q g := fun T hT X => k (by rw [← hT]; exact X.heapSize) T hT X
theorem xk.sz (hC : xCk G s) (hw : xk G f (n + 1) H) (hz : H.size ≤ s.heap.size + cells) (he : s.heap.size + cells = G.2.1 (n + 1)) : H.size = G.2.1 (n + 1) := by
  have h1 := (hw n (Nat.lt_succ_self n)).lt
  have h2 := hC.2.1 n
  have h3 : G.2.1 n < H.size := h1
  omega
theorem x_preC {av : List Value} (hC : xCk G s) (hw : xk G f n H) (hsz : H.size = G.2.1 n) : PreS s H (xPk G f n av) av :=
  ⟨xPk.blind, fun U hU hW => ⟨rfl, by rw [hU]; exact hsz, by rw [hU]; exact hw, hC.go hW⟩⟩
theorem x_callC {n' mc ms : Nat} {f' : Nat → va_E} (hS : va_S (xA G) H0 H locs) (hr : CallRun p l e R s m args below meth c H locs cells slots mc ms (F0 m pc ls st0) rest (xQk G f' n' a) (xA G))
    (kk : ∀ (H1 : Heap) (locs1 : List Loc), xk G f' n' H1 → va_S (xA G) H0 H1 locs1 → W p l e R s m args below meth c H1 locs1 (cells + mc) (slots + ms) Q (F0 m (pc + 3) ls rest)) : W p l e R s m args below meth c H locs cells slots Q (F0 m pc ls st0) := by
  intro T hT X
  obtain ⟨v', st₀, t, T', L, h0, X', hL, e1, ⟨hv, hw, hz, hk⟩, st⟩ := hr T hT X
  cases hv
  rw [h0] at hz hk
  obtain ⟨t2, a1, b1⟩ := kk t.heap (locs ++ L) hw ⟨Nat.le_trans hS.1 hz, fun q h1 h2 => by rw [hk q (Nat.lt_of_lt_of_le h1 hS.1) h2]; exact hS.2.1 q h1 h2, fun q hq => by
      rcases List.mem_append.mp hq with h | h
      · exact hS.2.2 q h
      · exact hL q h⟩ T' e1 X'
  exact ⟨t2, st t2 a1, b1⟩
theorem x_new (hexec : p.tables.exec = Jvm.exec) (hb : c.code = cc) {own C : String} {T : u_T} {N ci index : Nat} (hts : ∀ w ∈ UW, w.before args s = true) (hin : ∀ w ∈ u_ws C T N, w ∈ UW) (ty : Nat → FieldType) (hty : ∀ k, k < N → parseFieldDescriptor (T k).2.2.1 = some (ty k)) (hown : s.vm.findClass own = some m.cls) (hcl : Cond.classLink own index C ∈ UW) (hinst : Cond.instantiable C N ∈ UW) (hini : Cond.initialized C ∈ UW)
    (hC : xCk G s) (hsz : H.size = G.2.1 n) (hw : xk G f n H) (hS : va_S (xA G) H0 H locs) (hc : xCl[ci]? = some (C, T, N)) {fs : List Value} (hfs : ∀ j, j < N → defaultValue (ty j) = vp_V fs j) (hcells : cells + 1 ≤ R.cells) (hslots : slots + N ≤ R.slots) (hdg : decode cc pc = .ok (.new index, 3))
    (kk : ∀ (H1 : Heap), xk G (xu f n (.inr (ci, fs))) (n + 1) H1 → va_S (xA G) H0 H1 locs → W p l e R s m args below meth c H1 locs (cells + 1) (slots + N) Q (F0 m (pc + 3) ls (.ref (G.2.1 n) :: rest))) : W p l e R s m args below meth c H locs cells slots Q (F0 m pc ls rest) := by
  have hKn := hC.1.1 ci _ hc
  refine W.newcK hexec hb hown (hts _ hcl) (hts _ hinst) (hts _ hini) rfl hdg hcells hslots hKn.2.1 hsz fun H1 kC hkC e1 z1 o1 => ?_
  have o2 : ∀ q, q < H.size → H1[q]? = H[q]? := fun q hq => o1 q (by rw [← hsz]; exact hq)
  exact kk H1 ((hw.kept o2).push ⟨_, hc, (u_born ty hts hin hKn hkC e1 hty).to hfs⟩) ⟨by rw [z1, ← hsz]; exact Nat.le_succ_of_le hS.1, fun x h1 h2 => (o2 x (Nat.lt_of_lt_of_le h1 hS.1)).trans (hS.2.1 x h1 h2), hS.2.2⟩
theorem x_newa (hexec : p.tables.exec = Jvm.exec) (hb : c.code = cc) {atype : ArrayType} (harr : Cond.arrayClass (newarray.typeOf atype) ∈ UW) (hts : ∀ w ∈ UW, w.before args s = true) (t0 : Nat) {cA : ClassId} (ht : (x_tys G)[t0]? = some (cA, newarray.typeOf atype))
    (hC : xCk G s) (hsz : H.size = G.2.1 n) (hw : xk G f n H) (hS : va_S (xA G) H0 H locs) {x : Int32} {N : Nat} {a0 : vp_A} (ha : ∀ cA : ClassId, vp_cell cA a0 = arrV cA N (fun _ => defaultValue (newarray.typeOf atype))) (hn : ¬ x < 0) (hN : x.toNatClampNeg = N) (hbytes : N * componentBytes (newarray.typeOf atype) ≤ 536870912) (hcells : cells + 1 ≤ R.cells) (hslots : slots + N ≤ R.slots) (hdg : decode cc pc = .ok (.newarray atype, 2))
    (kk : ∀ (H1 : Heap), xk G (xu f n (.inl (cA, a0))) (n + 1) H1 → va_S (xA G) H0 H1 locs → W p l e R s m args below meth c H1 locs (cells + 1) (slots + N) Q (F0 m (pc + 2) ls (.ref (G.2.1 n) :: rest))) : W p l e R s m args below meth c H locs cells slots Q (F0 m pc ls (.int x :: rest)) := by
  have hRA := (hC.1.2 t0 _ ht).2
  have hfc : s.vm.findClass ("[" ++ (newarray.typeOf atype).toString) = some cA := by
    cases atype <;> exact hRA
  refine va_newaK hexec hb (hts _ harr) rfl hdg rfl hn hN hbytes hcells hslots hsz fun H1 cB e1 z1 o1 hAr hNm => ?_
  have e : cB = cA := Option.some.inj (hNm.symm.trans hfc)
  subst e
  have o2 : ∀ q, q < H.size → H1[q]? = H[q]? := fun q hq => o1 q (by rw [← hsz]; exact hq)
  exact kk H1 ((hw.kept o2).push (by show H1[G.2.1 n]? = some (vp_cell _ _); rw [ha]; exact e1)) ⟨by rw [z1, ← hsz]; exact Nat.le_succ_of_le hS.1, fun x h1 h2 => (o2 x (Nat.lt_of_lt_of_le h1 hS.1)).trans (hS.2.1 x h1 h2), hS.2.2⟩
theorem x_anew (hexec : p.tables.exec = Jvm.exec) (hb : c.code = cc) {own : String} {index : Nat} (hown : s.vm.findClass own = some m.cls) (hcl : (Cond.classLink own index "PlainOrigin$Resource").before args s = true)
    (hC : xCk G s) (hsz : H.size = G.2.1 n) (hw : xk G f n H) (hS : va_S (xA G) H0 H locs) {x : Int32} {N : Nat} (hn : ¬ x < 0) (hN : x.toNatClampNeg = N) (hbytes : N * 4 ≤ 536870912) (hcells : cells + 1 ≤ R.cells) (hslots : slots + N ≤ R.slots) (hdg : decode cc pc = .ok (.anewarray index, 3))
    (kk : ∀ (H1 : Heap), xk G (xu f n (.inl (G.2.2.1 3, N, .inr (.inr (.inr (.inr (fun _ => none))))))) (n + 1) H1 → va_S (xA G) H0 H1 locs → W p l e R s m args below meth c H1 locs (cells + 1) (slots + N) Q (F0 m (pc + 3) ls (.ref (G.2.1 n) :: rest))) : W p l e R s m args below meth c H locs cells slots Q (F0 m pc ls (.int x :: rest)) := by
  subst hN
  obtain ⟨kB, compB, -, -, -, hfc⟩ := (hC.1.2 3 _ rfl).2
  refine W.anew hexec hb hown hcl (va_AO.use hC.2.2.2) rfl hdg rfl hn hbytes hcells hslots fun cA kA comp f1 f2 f3 f4 => ?_
  have e : cA = G.2.2.1 3 := Option.some.inj (f1.symm.trans hfc)
  subst e
  generalize hH1 : H.push ({ cls := G.2.2.1 3, slots := Array.replicate x.toNatClampNeg .null, vm := .none } : Cell) = H1
  have z1 : H1.size = H.size + 1 := by rw [← hH1, Array.size_push]
  have e1 : H1[H.size]? = some (arrV (G.2.2.1 3) x.toNatClampNeg (fun _ => .null)) := by rw [← hH1, Array.getElem?_push_size, ← arrV_new]
  have o2 : ∀ q : Nat, q < H.size → H1[q]? = H[q]? := fun q hq => by rw [← hH1, Array.getElem?_push, if_neg (Nat.ne_of_lt hq)]
  rw [hsz] at e1 ⊢
  exact kk H1 ((hw.kept o2).push e1) ⟨by rw [z1]; exact Nat.le_succ_of_le hS.1, fun x h1 h2 => (o2 x (Nat.lt_of_lt_of_le h1 hS.1)).trans (hS.2.1 x h1 h2), hS.2.2⟩
end XMK
theorem x_arrV2 {cA : ClassId} {n : Nat} {f g : Nat → Value} (h : ∀ j, j < n → f j = g j) : arrV cA n f = arrV cA n g := by
  have e : ∀ j : Fin n, f j.val = g j.val := fun j => h j.val j.isLt
  unfold arrV
  simp [e]
def x_rs (G : xG) (r : Nat) : Nat → Option Nat := fun i => if i < r then some (G.2.1 (3 + 3 * i)) else none
theorem x_rs_up (G : xG) (r : Nat) : va_up (x_rs G r) r (some (G.2.1 (3 + 3 * r))) = x_rs G (r + 1) := by
  funext i
  unfold va_up x_rs
  by_cases h : i = r
  · subst h
    simp
  · by_cases h2 : i < r
    · rw [if_neg h, if_pos h2, if_pos (by omega)]
    · rw [if_neg h, if_neg h2, if_neg (by omega)]
theorem x_rs_end {G : xG} {H : Heap} (h : va_at G.1 xCl (G.2.1 2, .inl (G.2.2.1 3, 8, .inr (.inr (.inr (.inr (x_rs G 8)))))) H) : va_at G.1 xCl (G.2.1 2, .inl (G.2.2.1 3, 8, .inr (.inr (.inr (.inr (fun i => some (G.2.1 (3 + 3 * i)))))))) H := by
  have h1 : H[G.2.1 2]? = some (vp_cell (G.2.2.1 3) (8, .inr (.inr (.inr (.inr (x_rs G 8)))))) := h
  show H[G.2.1 2]? = some (vp_cell (G.2.2.1 3) (8, .inr (.inr (.inr (.inr (fun i => some (G.2.1 (3 + 3 * i))))))))
  rw [h1, vp_cell_q, vp_cell_q]
  exact congrArg some (x_arrV2 fun j hj => by unfold x_rs; rw [if_pos hj])
def x_wf (i : Nat) : Nat → Int64 := fun j => if j < i then x_words.getD j 0 else 0
theorem x_wf_up (i : Nat) : vp_updL (x_wf i) i (x_words.getD i 0) = x_wf (i + 1) := by
  funext j
  unfold vp_updL x_wf
  by_cases h : j = i
  · subst h
    simp
  · by_cases h2 : j < i
    · rw [if_neg h, if_pos h2, if_pos (by omega)]
    · rw [if_neg h, if_neg h2, if_neg (by omega)]
theorem x_wf_end : x_wf 38 = x_long x_s0 52 := by
  funext j
  unfold x_wf x_long
  rw [if_neg (show ¬ (52 = 66) by decide)]
  by_cases h : j < 38
  · rw [if_pos h]
  · rw [if_neg h, List.getD_eq_getElem?_getD, List.getElem?_eq_none (by simp [x_words]; omega)]
    rfl

theorem uw_I {y : MethodName} {bytes : ByteArray} {maxL : Nat} {ret : Option FieldType} (h : Cond.code y bytes maxL ret ∈ UW) : GoodIn UW (Cond.code y bytes maxL ret :: UW) := uw_all fun w hw => by
  rcases List.mem_cons.mp hw with rfl | h1
  · exact h
  · exact h1
theorem xu_set2 {f : Nat → va_E} {a b : Nat} {v v' w : va_E} (h : a ≠ b) : xu (xu (xu f a v) b w) a v' = xu (xu f a v') b w := by
  funext j
  by_cases ha : j = a
  · subst ha
    rw [xu_eq, xu_ne h, xu_eq]
  · by_cases hb : j = b
    · subst hb
      rw [xu_ne ha, xu_eq, xu_eq]
    · rw [xu_ne ha, xu_ne hb, xu_ne ha, xu_ne hb, xu_ne ha]
theorem xu_comm {f : Nat → va_E} {a b : Nat} {v w : va_E} (h : a ≠ b) : xu (xu f a v) b w = xu (xu f b w) a v := by
  funext j
  by_cases ha : j = a
  · subst ha
    rw [xu_ne h, xu_eq, xu_eq]
  · by_cases hb : j = b
    · subst hb
      rw [xu_eq, xu_ne ha, xu_eq]
    · rw [xu_ne hb, xu_ne ha, xu_ne ha, xu_ne hb]
theorem x_wf0 : x_wf 0 = fun _ => 0 := by
  funext j
  unfold x_wf
  rw [if_neg (Nat.not_lt_zero j)]
theorem gm_0 : ("PlainOrigin$Answer", 11, ⟨"PlainOrigin$Range", "<init>", "()V"⟩, "PlainOrigin") ∈ gw_M := List.mem_of_getElem? (i := 0) rfl

def y_Bytes_init : MethodName := ⟨"PlainOrigin$Bytes", "<init>", "(I)V"⟩
def ws_Bytes_init : List Cond := Cond.code y_Bytes_init prog_3_method_1_code 2 none :: UW
theorem hd_Bytes_init : y_Bytes_init.cls ≠ "java/lang/invoke/MethodHandle" ∧ y_Bytes_init.cls ≠ "java/lang/invoke/VarHandle" ∧ (parseMethodDescriptor y_Bytes_init.desc).map (fun d => d.parameters.length) = some 1 := by decide +kernel
theorem d_Bytes_init_0 : decode prog_3_method_1_code 0 = .ok (.aload_n 0, 1) := by decide +kernel
theorem d_Bytes_init_1 : decode prog_3_method_1_code 1 = .ok (.invokespecial 3, 3) := by decide +kernel
theorem d_Bytes_init_4 : decode prog_3_method_1_code 4 = .ok (.aload_n 0, 1) := by decide +kernel
theorem d_Bytes_init_5 : decode prog_3_method_1_code 5 = .ok (.iload_n 1, 1) := by decide +kernel
theorem d_Bytes_init_6 : decode prog_3_method_1_code 6 = .ok (.newarray .int, 2) := by decide +kernel
theorem d_Bytes_init_8 : decode prog_3_method_1_code 8 = .ok (.putfield 9, 3) := by decide +kernel
theorem d_Bytes_init_11 : decode prog_3_method_1_code 11 = .ok (.return_, 1) := by decide +kernel
set_option maxHeartbeats 4000000 in
set_option maxRecDepth 100000 in
theorem n_Bytes_init (l : Launch) (G : xG) (f : Nat → va_E) (k : Nat) (a1 : Int32) (N : Nat) (hk : k + 1 < 67) (h0 : f k = .inr (0, [.ref (G.2.1 (k + 1)), .int 0])) (h1 : f (k + 1) = .inl (G.2.2.1 0, N, .inl (fun _ => 0))) (ha : ¬ a1 < 0) (hN : a1.toNatClampNeg = N) (hb0 : N ≤ 2000) : Met l y_Bytes_init ws_Bytes_init { frames := 1, cells := 1, slots := 0 + N, locals := 20 } (xPk G (xu f k (.inr (0, [.null, .int 0]))) (k + 1) [.ref (G.2.1 k), .int a1]) (xQk G f (k + 2)) 1 (0 + N) (xA G) := by
  refine Met.ofW (cc := prog_3_method_1_code) (maxL := 2) (ret := none) (by decide) rfl ?_
  intro p e s m args below meth c s₁ B hml hv
  obtain ⟨rfl, hs, hw, hC⟩ := hv
  have hx := B.exec
  have hb := B.bytes
  have hr := B.returns
  have hu : ∀ w ∈ UW, w.before _ s = true := fun w h => atoms_spec B.pre w (List.mem_cons_of_mem _ h)
  have hown : s.vm.findClass R_Bytes = some m.cls := findClass_of_methodNamed B.named
  have hlocks := B.notSynchronized
  have hin : meth.name = "<init>" := (name_of_methodNamed B.named B.method).1
  have hI : xInj G := hC.2.1.inj
  have hS : va_S (xA G) s.heap s.heap [] := va_S.rf
  have hl := lv_entry ([.ref (G.2.1 k), .int a1]) (n := 2) (Nat.le_of_ble_eq_true rfl)
  rw [lg_entry_eq]
  generalize (lg_sl ([.ref (G.2.1 k), .int a1]) ++ List.replicate (2 - (lg_sl ([.ref (G.2.1 k), .int a1])).length) Slot.unset).toArray = ls at hl ⊢
  have hl : lv_has ls 2 [(0, .ref (G.2.1 k)), (1, .int a1)] := hl
  refine lv_aload_n hx hb d_Bytes_init_0 rfl (lv_at hl 0 rfl) ?_
  refine W.objInit hx hb hown (hu _ mw_112) (hu _ mw_92) (hu _ mw_93) rfl (by rw [hml]; exact hl.1) rfl d_Bytes_init_1 (Nat.le_of_ble_eq_true rfl) (Nat.le_of_ble_eq_true rfl) ?_
  show W p l e _ s m _ below meth c _ _ _ _ _ (F0 m 4 ls [])
  refine lv_aload_n hx hb d_Bytes_init_4 rfl (lv_at hl 0 rfl) ?_
  refine lv_iload_n hx hb d_Bytes_init_5 rfl (lv_at hl 1 rfl) ?_
  refine x_sz (fun hz => ?_)
  have hsz : _ = G.2.1 (k + 1) := xk.sz (n := k + 0) hC hw hz (by rw [hs]; exact (hC.2.1.add (k + 1) 0).symm)
  refine x_newa (G := G) (atype := .int) hx hb mw_127 hu 0 rfl hC hsz hw hS (a0 := (N, .inl (fun _ => 0))) (fun _ => rfl) ha hN (by show N * 4 ≤ _; omega) (Nat.le_of_ble_eq_true rfl) (Nat.le_refl _) d_Bytes_init_6 (fun H hw hS => ?_)
  rw [xu_self (show (xu f k (.inr (0, [.null, .int 0]))) (k + 1) = .inl (G.2.2.1 0, N, .inl (fun _ => 0)) from (xu_ne (by omega)).trans h1)] at hw
  have hw : xk G (xu f k (.inr (0, [.null, .int 0]))) (k + 2) H := hw
  refine va_putF (D := G.1) (cl := xCl) (ci := 0) (v := .ref (G.2.1 (k + 1))) (ty := ty_Bytes 0) (C := R_Bytes) (T := T_Bytes) (N := 2) hx hb hu fi_Bytes ty_Bytes tyok_Bytes nm_Bytes hown hC.1 hw.P (wk_D hI (by omega)) hS k (wk_at (by omega) (xu_eq _ _ _)) rfl 0 (by decide) (hu _ mw_113) (fun _ h9 => h9) rfl hin rfl (tyok_Bytes 0 (by decide)) rfl rfl (Nat.le_of_ble_eq_true rfl) d_Bytes_init_8 (fun H locs hw _ hS => ?_)
  replace hw := xk.ofset (by omega) hw
  rw [xu_same] at hw
  have hw : xk G (xu f k (.inr (0, [.ref (G.2.1 (k + 1)), .int 0]))) (k + 2) H := hw
  rw [xu_self (show f k = .inr (0, [.ref (G.2.1 (k + 1)), .int 0]) from h0)] at hw
  exact W.vret hx hb hr (fun t ht hW => ⟨rfl, by rw [ht]; exact hw, hS.F ht⟩) hS.2.2 d_Bytes_init_11

def y_Resource_init : MethodName := ⟨"PlainOrigin$Resource", "<init>", "()V"⟩
def ws_Resource_init : List Cond := Cond.code y_Resource_init prog_10_method_1_code 1 none :: UW
theorem hd_Resource_init : y_Resource_init.cls ≠ "java/lang/invoke/MethodHandle" ∧ y_Resource_init.cls ≠ "java/lang/invoke/VarHandle" ∧ (parseMethodDescriptor y_Resource_init.desc).map (fun d => d.parameters.length) = some 0 := by decide +kernel
theorem d_Resource_init_0 : decode prog_10_method_1_code 0 = .ok (.aload_n 0, 1) := by decide +kernel
theorem d_Resource_init_1 : decode prog_10_method_1_code 1 = .ok (.invokespecial 3, 3) := by decide +kernel
theorem d_Resource_init_4 : decode prog_10_method_1_code 4 = .ok (.aload_n 0, 1) := by decide +kernel
theorem d_Resource_init_5 : decode prog_10_method_1_code 5 = .ok (.new 9, 3) := by decide +kernel
theorem d_Resource_init_8 : decode prog_10_method_1_code 8 = .ok (.dup, 1) := by decide +kernel
theorem d_Resource_init_9 : decode prog_10_method_1_code 9 = .ok (.sipush (200), 3) := by decide +kernel
theorem d_Resource_init_12 : decode prog_10_method_1_code 12 = .ok (.invokespecial 11, 3) := by decide +kernel
theorem d_Resource_init_15 : decode prog_10_method_1_code 15 = .ok (.putfield 14, 3) := by decide +kernel
theorem d_Resource_init_18 : decode prog_10_method_1_code 18 = .ok (.aload_n 0, 1) := by decide +kernel
theorem d_Resource_init_19 : decode prog_10_method_1_code 19 = .ok (.iconst (-1), 1) := by decide +kernel
theorem d_Resource_init_20 : decode prog_10_method_1_code 20 = .ok (.putfield 20, 3) := by decide +kernel
theorem d_Resource_init_23 : decode prog_10_method_1_code 23 = .ok (.return_, 1) := by decide +kernel
set_option maxHeartbeats 4000000 in
set_option maxRecDepth 100000 in
theorem n_Resource_init (l : Launch) (G : xG) (f : Nat → va_E) (k : Nat) (hk : k + 2 < 67) (h0 : f k = .inr (4, [.ref (G.2.1 (k + 1)), .int (-1)])) (h1 : f (k + 1) = .inr (0, [.ref (G.2.1 (k + 2)), .int 0])) (h2 : f (k + 2) = .inl (G.2.2.1 0, 200, .inl (fun _ => 0))) : Met l y_Resource_init ws_Resource_init { frames := 2, cells := 2, slots := 202, locals := 41 } (xPk G (xu f k (.inr (4, [.null, .int 0]))) (k + 1) [.ref (G.2.1 k)]) (xQk G f (k + 3)) 2 (202) (xA G) := by
  refine Met.ofW (cc := prog_10_method_1_code) (maxL := 1) (ret := none) (by decide) rfl ?_
  intro p e s m args below meth c s₁ B hml hv
  obtain ⟨rfl, hs, hw, hC⟩ := hv
  have hx := B.exec
  have hb := B.bytes
  have hr := B.returns
  have hu : ∀ w ∈ UW, w.before _ s = true := fun w h => atoms_spec B.pre w (List.mem_cons_of_mem _ h)
  have hown : s.vm.findClass R_Resource = some m.cls := findClass_of_methodNamed B.named
  have hlocks := B.notSynchronized
  have hin : meth.name = "<init>" := (name_of_methodNamed B.named B.method).1
  have hI : xInj G := hC.2.1.inj
  have hS : va_S (xA G) s.heap s.heap [] := va_S.rf
  have hl := lv_entry ([.ref (G.2.1 k)]) (n := 1) (Nat.le_of_ble_eq_true rfl)
  rw [lg_entry_eq]
  generalize (lg_sl ([.ref (G.2.1 k)]) ++ List.replicate (1 - (lg_sl ([.ref (G.2.1 k)])).length) Slot.unset).toArray = ls at hl ⊢
  have hl : lv_has ls 1 [(0, .ref (G.2.1 k))] := hl
  refine lv_aload_n hx hb d_Resource_init_0 rfl (lv_at hl 0 rfl) ?_
  refine W.objInit hx hb hown (hu _ mw_106) (hu _ mw_92) (hu _ mw_93) rfl (by rw [hml]; exact hl.1) rfl d_Resource_init_1 (Nat.le_of_ble_eq_true rfl) (Nat.le_of_ble_eq_true rfl) ?_
  show W p l e _ s m _ below meth c _ _ _ _ _ (F0 m 4 ls [])
  refine lv_aload_n hx hb d_Resource_init_4 rfl (lv_at hl 0 rfl) ?_
  refine x_sz (fun hz => ?_)
  have hsz : _ = G.2.1 (k + 1) := xk.sz (n := k + 0) hC hw hz (by rw [hs]; exact (hC.2.1.add (k + 1) 0).symm)
  refine x_new hx hb (C := R_Bytes) (T := T_Bytes) (N := 2) (ci := 0) hu fi_Bytes ty_Bytes tyok_Bytes hown mw_107 mw_108 mw_63 hC hsz hw hS rfl (fs := [.null, .int 0]) (by decide) (Nat.le_of_ble_eq_true rfl) (Nat.le_of_ble_eq_true rfl) d_Resource_init_5 (fun H hw hS => ?_)
  refine lv_dup hx hb d_Resource_init_8 rfl ?_
  refine lv_sipush (v := (200 : Int32)) hx hb d_Resource_init_9 (by decide) ?_
  refine x_sz (fun hz => ?_)
  have hsz : _ = G.2.1 (k + 2) := xk.sz (n := k + 1) hC hw hz (by rw [hs]; exact (hC.2.1.add (k + 1) 1).symm)
  refine x_callC hS (W.runI (As := [.int (200 : Int32)]) (rest := [.ref (G.2.1 (k + 1)), .ref (G.2.1 k)]) ⟨hx, hb, hml, hown, hu⟩ (n_Bytes_init l G (xu f k (.inr (4, [.null, .int 0]))) (k + 1) (200 : Int32) 200 (by omega) (show (xu f k (.inr (4, [.null, .int 0]))) (k + 1) = .inr (0, [.ref (G.2.1 (k + 2)), .int 0]) from (xu_ne (by omega)).trans h1) (show (xu f k (.inr (4, [.null, .int 0]))) (k + 2) = .inl (G.2.2.1 0, 200, .inl (fun _ => 0)) from (xu_ne (by omega)).trans h2) (by decide) (by decide) (by decide)) (cwI (y := y_Bytes_init) 1 hu (uw_I mw_111) rfl rfl rfl (hu _ mw_63) (hu _ mw_109) (hu _ mw_110) rfl hd_Bytes_init ⟨Nat.le_of_ble_eq_true rfl, Nat.le_of_ble_eq_true rfl⟩) (x_preC hC hw hsz) rfl rfl hl.1 rfl (lv_room (Nat.le_of_ble_eq_true rfl)) d_Resource_init_12 ⟨Nat.le_of_ble_eq_true rfl, Nat.le_of_ble_eq_true rfl⟩) (fun H locs hw hS => ?_)
  refine va_putF (D := G.1) (cl := xCl) (ci := 4) (v := .ref (G.2.1 (k + 1))) (ty := ty_Resource 0) (C := R_Resource) (T := T_Resource) (N := 2) hx hb hu fi_Resource ty_Resource tyok_Resource nm_Resource hown hC.1 hw.P (wk_D hI (by omega)) hS k (wk_at (by omega) (xu_eq _ _ _)) rfl 0 (by decide) (hu _ mw_128) (fun _ h9 => h9) rfl hin rfl (tyok_Resource 0 (by decide)) rfl rfl (Nat.le_of_ble_eq_true rfl) d_Resource_init_15 (fun H locs hw _ hS => ?_)
  replace hw := xk.ofset (by omega) hw
  rw [xu_same] at hw
  have hw : xk G (xu f k (.inr (4, [.ref (G.2.1 (k + 1)), .int 0]))) (k + 3) H := hw
  refine lv_aload_n hx hb d_Resource_init_18 rfl (lv_at hl 0 rfl) ?_
  refine lv_iconst (v := ((-1) : Int32)) hx hb d_Resource_init_19 (by decide) ?_
  refine va_put (D := G.1) (cl := xCl) (ci := 4) (v := .int ((-1) : Int32)) (ty := ty_Resource 1) (C := R_Resource) (T := T_Resource) (N := 2) hx hb hu fi_Resource ty_Resource tyok_Resource nm_Resource hown hC.1 hw.P (wk_D hI (by omega)) hS k (wk_at (by omega) (xu_eq _ _ _)) rfl 1 (by decide) (hu _ mw_132) (fun _ h9 => h9) rfl (tyok_Resource 1 (by decide)) rfl rfl (Nat.le_of_ble_eq_true rfl) d_Resource_init_20 (fun H locs hw _ hS => ?_)
  replace hw := xk.ofset (by omega) hw
  rw [xu_same] at hw
  have hw : xk G (xu f k (.inr (4, [.ref (G.2.1 (k + 1)), .int ((-1) : Int32)]))) (k + 3) H := hw
  rw [xu_self (show f k = .inr (4, [.ref (G.2.1 (k + 1)), .int ((-1) : Int32)]) from h0)] at hw
  exact W.vret hx hb hr (fun t ht hW => ⟨rfl, by rw [ht]; exact hw, hS.F ht⟩) hS.2.2 d_Resource_init_23

def y_Site_init : MethodName := ⟨"PlainOrigin$Site", "<init>", "()V"⟩
def ws_Site_init : List Cond := Cond.code y_Site_init prog_11_method_1_code 2 none :: UW
theorem hd_Site_init : y_Site_init.cls ≠ "java/lang/invoke/MethodHandle" ∧ y_Site_init.cls ≠ "java/lang/invoke/VarHandle" ∧ (parseMethodDescriptor y_Site_init.desc).map (fun d => d.parameters.length) = some 0 := by decide +kernel
theorem d_Site_init_0 : decode prog_11_method_1_code 0 = .ok (.aload_n 0, 1) := by decide +kernel
theorem d_Site_init_1 : decode prog_11_method_1_code 1 = .ok (.invokespecial 3, 3) := by decide +kernel
theorem d_Site_init_4 : decode prog_11_method_1_code 4 = .ok (.aload_n 0, 1) := by decide +kernel
theorem d_Site_init_5 : decode prog_11_method_1_code 5 = .ok (.bipush (8), 2) := by decide +kernel
theorem d_Site_init_7 : decode prog_11_method_1_code 7 = .ok (.anewarray 9, 3) := by decide +kernel
theorem d_Site_init_10 : decode prog_11_method_1_code 10 = .ok (.putfield 11, 3) := by decide +kernel
theorem d_Site_init_13 : decode prog_11_method_1_code 13 = .ok (.iconst 0, 1) := by decide +kernel
theorem d_Site_init_14 : decode prog_11_method_1_code 14 = .ok (.istore_n 1, 1) := by decide +kernel
theorem d_Site_init_15 : decode prog_11_method_1_code 15 = .ok (.iload_n 1, 1) := by decide +kernel
theorem d_Site_init_16 : decode prog_11_method_1_code 16 = .ok (.bipush (8), 2) := by decide +kernel
theorem d_Site_init_18 : decode prog_11_method_1_code 18 = .ok (.if_icmp .ge (22), 3) := by decide +kernel
theorem d_Site_init_21 : decode prog_11_method_1_code 21 = .ok (.aload_n 0, 1) := by decide +kernel
theorem d_Site_init_22 : decode prog_11_method_1_code 22 = .ok (.getfield 11, 3) := by decide +kernel
theorem d_Site_init_25 : decode prog_11_method_1_code 25 = .ok (.iload_n 1, 1) := by decide +kernel
theorem d_Site_init_26 : decode prog_11_method_1_code 26 = .ok (.new 9, 3) := by decide +kernel
theorem d_Site_init_29 : decode prog_11_method_1_code 29 = .ok (.dup, 1) := by decide +kernel
theorem d_Site_init_30 : decode prog_11_method_1_code 30 = .ok (.invokespecial 17, 3) := by decide +kernel
theorem d_Site_init_33 : decode prog_11_method_1_code 33 = .ok (.aastore, 1) := by decide +kernel
theorem d_Site_init_34 : decode prog_11_method_1_code 34 = .ok (.iinc 1 (1), 3) := by decide +kernel
theorem d_Site_init_37 : decode prog_11_method_1_code 37 = .ok (.goto (-22), 3) := by decide +kernel
theorem d_Site_init_40 : decode prog_11_method_1_code 40 = .ok (.return_, 1) := by decide +kernel
set_option maxHeartbeats 4000000 in
set_option maxRecDepth 100000 in
theorem n_Site_init (l : Launch) (G : xG) (f : Nat → va_E) (hf : ∀ j, 1 ≤ j → j < 27 → f j = xcl G x_s0 j) : Met l y_Site_init ws_Site_init { frames := 3, cells := 25, slots := 1640, locals := 61 } (xPk G (xu f 1 (.inr (5, [.null, .int 0]))) (2) [.ref (G.2.1 1)]) (xQk G f (27)) 25 (1640) (xA G) := by
  refine Met.ofW (cc := prog_11_method_1_code) (maxL := 2) (ret := none) (by decide) rfl ?_
  intro p e s m args below meth c s₁ B hml hv
  obtain ⟨rfl, hs, hw, hC⟩ := hv
  have hx := B.exec
  have hb := B.bytes
  have hr := B.returns
  have hu : ∀ w ∈ UW, w.before _ s = true := fun w h => atoms_spec B.pre w (List.mem_cons_of_mem _ h)
  have hown : s.vm.findClass R_Site = some m.cls := findClass_of_methodNamed B.named
  have hlocks := B.notSynchronized
  have hin : meth.name = "<init>" := (name_of_methodNamed B.named B.method).1
  have hI : xInj G := hC.2.1.inj
  have hS : va_S (xA G) s.heap s.heap [] := va_S.rf
  have hl := lv_entry ([.ref (G.2.1 1)]) (n := 2) (Nat.le_of_ble_eq_true rfl)
  rw [lg_entry_eq]
  generalize (lg_sl ([.ref (G.2.1 1)]) ++ List.replicate (2 - (lg_sl ([.ref (G.2.1 1)])).length) Slot.unset).toArray = ls at hl ⊢
  have hl : lv_has ls 2 [(0, .ref (G.2.1 1))] := hl
  refine lv_aload_n hx hb d_Site_init_0 rfl (lv_at hl 0 rfl) ?_
  refine W.objInit hx hb hown (hu _ mw_99) (hu _ mw_92) (hu _ mw_93) rfl (by rw [hml]; exact hl.1) rfl d_Site_init_1 (Nat.le_of_ble_eq_true rfl) (Nat.le_of_ble_eq_true rfl) ?_
  show W p l e _ s m _ below meth c _ _ _ _ _ (F0 m 4 ls [])
  refine lv_aload_n hx hb d_Site_init_4 rfl (lv_at hl 0 rfl) ?_
  refine lv_bipush (v := (8 : Int32)) hx hb d_Site_init_5 (by decide) ?_
  refine x_sz (fun hz => ?_)
  have hsz : _ = G.2.1 2 := xk.sz (n := 1) hC hw hz (by rw [hs]; exact (hC.2.1.add (2) 0).symm)
  refine x_anew (G := G) hx hb hown (hu _ mw_100) hC hsz hw hS (N := 8) (by decide) (by decide) (by decide) (Nat.le_of_ble_eq_true rfl) (Nat.le_of_ble_eq_true rfl) d_Site_init_7 (fun H hw hS => ?_)
  rw [xu_comm (by decide), show (fun _ => none : Nat → Option Nat) = x_rs G 0 from by funext j; unfold x_rs; rw [if_neg (Nat.not_lt_zero j)]] at hw
  have hw : xk G (xu (xu f 2 (.inl (G.2.2.1 3, 8, .inr (.inr (.inr (.inr (x_rs G 0))))))) 1 (.inr (5, [.null, .int 0]))) (3) H := hw
  refine va_putF (D := G.1) (cl := xCl) (ci := 5) (v := .ref (G.2.1 2)) (ty := ty_Site 0) (C := R_Site) (T := T_Site) (N := 2) hx hb hu fi_Site ty_Site tyok_Site nm_Site hown hC.1 hw.P (wk_D hI (by decide)) hS 1 (wk_at (by decide) (xu_eq _ _ _)) rfl 0 (by decide) (hu _ mw_141) (fun _ h9 => h9) rfl hin rfl (tyok_Site 0 (by decide)) rfl rfl (Nat.le_of_ble_eq_true rfl) d_Site_init_10 (fun H locs hw _ hS => ?_)
  replace hw := xk.ofset (by decide) hw
  rw [xu_same] at hw
  have hw : xk G (xu (xu f 2 (.inl (G.2.2.1 3, 8, .inr (.inr (.inr (.inr (x_rs G 0))))))) 1 (.inr (5, [.ref (G.2.1 2), .int 0]))) (3) H := hw
  refine lv_iconst (v := (0 : Int32)) hx hb d_Site_init_13 (by decide) ?_
  refine lv_istore_n hx hb d_Site_init_14 rfl hl (by decide) rfl (fun ls hl => ?_)
  have hl : lv_has ls 2 [(1, .int (0 : Int32)), (0, .ref (G.2.1 1))] := hl
  refine lv_iload_n hx hb d_Site_init_15 rfl (lv_at hl 0 rfl) ?_
  refine lv_bipush (v := (8 : Int32)) hx hb d_Site_init_16 (by decide) ?_
  refine lv_icmp_ge (tgt := 40) hx hb d_Site_init_18 (by decide) (fun hc => absurd hc (by decide)) (fun _ => ?_)
  refine lv_aload_n hx hb d_Site_init_21 rfl (lv_at hl 1 rfl) ?_
  refine va_get (D := G.1) (cl := xCl) (ci := 5) (v := .ref (G.2.1 2)) (C := R_Site) (T := T_Site) (N := 2) hx hb hu fi_Site hown hC.1 hw.P 1 (wk_at (by decide) (xu_eq _ _ _)) rfl 0 (by decide) (hu _ mw_141) (fun _ h9 => h9) rfl d_Site_init_22 ?_
  refine lv_iload_n hx hb d_Site_init_25 rfl (lv_at hl 0 rfl) ?_
  refine x_sz (fun hz => ?_)
  have hsz : _ = G.2.1 3 := xk.sz (n := 2) hC hw hz (by rw [hs]; exact (hC.2.1.add (2) 1).symm)
  refine x_new hx hb (C := R_Resource) (T := T_Resource) (N := 2) (ci := 4) hu fi_Resource ty_Resource tyok_Resource hown mw_100 mw_102 mw_62 hC hsz hw hS rfl (fs := [.null, .int 0]) (by decide) (Nat.le_of_ble_eq_true rfl) (Nat.le_of_ble_eq_true rfl) d_Site_init_26 (fun H hw hS => ?_)
  refine lv_dup hx hb d_Site_init_29 rfl ?_
  refine x_sz (fun hz => ?_)
  have hsz : _ = G.2.1 4 := xk.sz (n := 3) hC hw hz (by rw [hs]; exact (hC.2.1.add (2) 2).symm)
  refine x_callC hS (W.runI (As := []) (rest := [.ref (G.2.1 3), .int (0 : Int32), .ref (G.2.1 2)]) ⟨hx, hb, hml, hown, hu⟩ (n_Resource_init l G (xu (xu f 2 (.inl (G.2.2.1 3, 8, .inr (.inr (.inr (.inr (x_rs G 0))))))) 1 (.inr (5, [.ref (G.2.1 2), .int 0]))) 3 (by omega) (show (xu (xu f 2 (.inl (G.2.2.1 3, 8, .inr (.inr (.inr (.inr (x_rs G 0))))))) 1 (.inr (5, [.ref (G.2.1 2), .int 0]))) 3 = .inr (4, [.ref (G.2.1 4), .int (-1)]) from (xu_ne (by decide)).trans ((xu_ne (by decide)).trans (hf 3 (by decide) (by decide)))) (show (xu (xu f 2 (.inl (G.2.2.1 3, 8, .inr (.inr (.inr (.inr (x_rs G 0))))))) 1 (.inr (5, [.ref (G.2.1 2), .int 0]))) 4 = .inr (0, [.ref (G.2.1 5), .int 0]) from (xu_ne (by decide)).trans ((xu_ne (by decide)).trans (hf 4 (by decide) (by decide)))) (show (xu (xu f 2 (.inl (G.2.2.1 3, 8, .inr (.inr (.inr (.inr (x_rs G 0))))))) 1 (.inr (5, [.ref (G.2.1 2), .int 0]))) 5 = .inl (G.2.2.1 0, 200, .inl (fun _ => 0)) from (xu_ne (by decide)).trans ((xu_ne (by decide)).trans (hf 5 (by decide) (by decide))))) (cwI (y := y_Resource_init) 0 hu (uw_I mw_105) rfl rfl rfl (hu _ mw_62) (hu _ mw_103) (hu _ mw_104) rfl hd_Resource_init ⟨Nat.le_of_ble_eq_true rfl, Nat.le_of_ble_eq_true rfl⟩) (x_preC hC hw hsz) rfl rfl hl.1 rfl (lv_room (Nat.le_of_ble_eq_true rfl)) d_Site_init_30 ⟨Nat.le_of_ble_eq_true rfl, Nat.le_of_ble_eq_true rfl⟩) (fun H locs hw hS => ?_)
  refine va_astq hx hb hC.1 hw.P (wk_D hI (by decide)) hS 2 3 3 4 (r := (R_Resource, T_Resource, 2)) (wk_at (by decide) ((xu_ne (by decide)).trans (xu_eq _ _ _))) rfl (wk_at (by decide) ((show (xu (xu f 2 (.inl (G.2.2.1 3, 8, .inr (.inr (.inr (.inr (x_rs G 0))))))) 1 (.inr (5, [.ref (G.2.1 2), .int 0]))) 3 = .inr (4, [.ref (G.2.1 4), .int (-1)]) from (xu_ne (by decide)).trans ((xu_ne (by decide)).trans (hf 3 (by decide) (by decide)))))) rfl (by unfold vp_in; decide) d_Site_init_33 (fun H locs hw _ hS => ?_)
  replace hw := xk.ofset (by decide) hw
  rw [xu_set2 (by decide)] at hw
  have hw : xk G (xu (xu f 2 (.inl (G.2.2.1 3, 8, .inr (.inr (.inr (.inr (va_up (x_rs G 0) 0 (some (G.2.1 (3 + 3 * 0))))))))) ) 1 (.inr (5, [.ref (G.2.1 2), .int 0]))) (6) H := hw
  rw [x_rs_up] at hw
  have hw : xk G (xu (xu f 2 (.inl (G.2.2.1 3, 8, .inr (.inr (.inr (.inr (x_rs G 1))))))) 1 (.inr (5, [.ref (G.2.1 2), .int 0]))) (6) H := hw
  refine lv_iinc (v := (1 : Int32)) hx hb d_Site_init_34 hl (k := 0) rfl (by decide) (by decide) rfl (fun ls hl => ?_)
  have hl : lv_has ls 2 [(1, .int (1 : Int32)), (0, .ref (G.2.1 1))] := hl
  refine lv_goto (tgt := 15) hx hb d_Site_init_37 (by decide) ?_
  refine lv_iload_n hx hb d_Site_init_15 rfl (lv_at hl 0 rfl) ?_
  refine lv_bipush (v := (8 : Int32)) hx hb d_Site_init_16 (by decide) ?_
  refine lv_icmp_ge (tgt := 40) hx hb d_Site_init_18 (by decide) (fun hc => absurd hc (by decide)) (fun _ => ?_)
  refine lv_aload_n hx hb d_Site_init_21 rfl (lv_at hl 1 rfl) ?_
  refine va_get (D := G.1) (cl := xCl) (ci := 5) (v := .ref (G.2.1 2)) (C := R_Site) (T := T_Site) (N := 2) hx hb hu fi_Site hown hC.1 hw.P 1 (wk_at (by decide) (xu_eq _ _ _)) rfl 0 (by decide) (hu _ mw_141) (fun _ h9 => h9) rfl d_Site_init_22 ?_
  refine lv_iload_n hx hb d_Site_init_25 rfl (lv_at hl 0 rfl) ?_
  refine x_sz (fun hz => ?_)
  have hsz : _ = G.2.1 6 := xk.sz (n := 5) hC hw hz (by rw [hs]; exact (hC.2.1.add (2) 4).symm)
  refine x_new hx hb (C := R_Resource) (T := T_Resource) (N := 2) (ci := 4) hu fi_Resource ty_Resource tyok_Resource hown mw_100 mw_102 mw_62 hC hsz hw hS rfl (fs := [.null, .int 0]) (by decide) (Nat.le_of_ble_eq_true rfl) (Nat.le_of_ble_eq_true rfl) d_Site_init_26 (fun H hw hS => ?_)
  refine lv_dup hx hb d_Site_init_29 rfl ?_
  refine x_sz (fun hz => ?_)
  have hsz : _ = G.2.1 7 := xk.sz (n := 6) hC hw hz (by rw [hs]; exact (hC.2.1.add (2) 5).symm)
  refine x_callC hS (W.runI (As := []) (rest := [.ref (G.2.1 6), .int (1 : Int32), .ref (G.2.1 2)]) ⟨hx, hb, hml, hown, hu⟩ (n_Resource_init l G (xu (xu f 2 (.inl (G.2.2.1 3, 8, .inr (.inr (.inr (.inr (x_rs G 1))))))) 1 (.inr (5, [.ref (G.2.1 2), .int 0]))) 6 (by omega) (show (xu (xu f 2 (.inl (G.2.2.1 3, 8, .inr (.inr (.inr (.inr (x_rs G 1))))))) 1 (.inr (5, [.ref (G.2.1 2), .int 0]))) 6 = .inr (4, [.ref (G.2.1 7), .int (-1)]) from (xu_ne (by decide)).trans ((xu_ne (by decide)).trans (hf 6 (by decide) (by decide)))) (show (xu (xu f 2 (.inl (G.2.2.1 3, 8, .inr (.inr (.inr (.inr (x_rs G 1))))))) 1 (.inr (5, [.ref (G.2.1 2), .int 0]))) 7 = .inr (0, [.ref (G.2.1 8), .int 0]) from (xu_ne (by decide)).trans ((xu_ne (by decide)).trans (hf 7 (by decide) (by decide)))) (show (xu (xu f 2 (.inl (G.2.2.1 3, 8, .inr (.inr (.inr (.inr (x_rs G 1))))))) 1 (.inr (5, [.ref (G.2.1 2), .int 0]))) 8 = .inl (G.2.2.1 0, 200, .inl (fun _ => 0)) from (xu_ne (by decide)).trans ((xu_ne (by decide)).trans (hf 8 (by decide) (by decide))))) (cwI (y := y_Resource_init) 0 hu (uw_I mw_105) rfl rfl rfl (hu _ mw_62) (hu _ mw_103) (hu _ mw_104) rfl hd_Resource_init ⟨Nat.le_of_ble_eq_true rfl, Nat.le_of_ble_eq_true rfl⟩) (x_preC hC hw hsz) rfl rfl hl.1 rfl (lv_room (Nat.le_of_ble_eq_true rfl)) d_Site_init_30 ⟨Nat.le_of_ble_eq_true rfl, Nat.le_of_ble_eq_true rfl⟩) (fun H locs hw hS => ?_)
  refine va_astq hx hb hC.1 hw.P (wk_D hI (by decide)) hS 2 3 6 4 (r := (R_Resource, T_Resource, 2)) (wk_at (by decide) ((xu_ne (by decide)).trans (xu_eq _ _ _))) rfl (wk_at (by decide) ((show (xu (xu f 2 (.inl (G.2.2.1 3, 8, .inr (.inr (.inr (.inr (x_rs G 1))))))) 1 (.inr (5, [.ref (G.2.1 2), .int 0]))) 6 = .inr (4, [.ref (G.2.1 7), .int (-1)]) from (xu_ne (by decide)).trans ((xu_ne (by decide)).trans (hf 6 (by decide) (by decide)))))) rfl (by unfold vp_in; decide) d_Site_init_33 (fun H locs hw _ hS => ?_)
  replace hw := xk.ofset (by decide) hw
  rw [xu_set2 (by decide)] at hw
  have hw : xk G (xu (xu f 2 (.inl (G.2.2.1 3, 8, .inr (.inr (.inr (.inr (va_up (x_rs G 1) 1 (some (G.2.1 (3 + 3 * 1))))))))) ) 1 (.inr (5, [.ref (G.2.1 2), .int 0]))) (9) H := hw
  rw [x_rs_up] at hw
  have hw : xk G (xu (xu f 2 (.inl (G.2.2.1 3, 8, .inr (.inr (.inr (.inr (x_rs G 2))))))) 1 (.inr (5, [.ref (G.2.1 2), .int 0]))) (9) H := hw
  refine lv_iinc (v := (2 : Int32)) hx hb d_Site_init_34 hl (k := 0) rfl (by decide) (by decide) rfl (fun ls hl => ?_)
  have hl : lv_has ls 2 [(1, .int (2 : Int32)), (0, .ref (G.2.1 1))] := hl
  refine lv_goto (tgt := 15) hx hb d_Site_init_37 (by decide) ?_
  refine lv_iload_n hx hb d_Site_init_15 rfl (lv_at hl 0 rfl) ?_
  refine lv_bipush (v := (8 : Int32)) hx hb d_Site_init_16 (by decide) ?_
  refine lv_icmp_ge (tgt := 40) hx hb d_Site_init_18 (by decide) (fun hc => absurd hc (by decide)) (fun _ => ?_)
  refine lv_aload_n hx hb d_Site_init_21 rfl (lv_at hl 1 rfl) ?_
  refine va_get (D := G.1) (cl := xCl) (ci := 5) (v := .ref (G.2.1 2)) (C := R_Site) (T := T_Site) (N := 2) hx hb hu fi_Site hown hC.1 hw.P 1 (wk_at (by decide) (xu_eq _ _ _)) rfl 0 (by decide) (hu _ mw_141) (fun _ h9 => h9) rfl d_Site_init_22 ?_
  refine lv_iload_n hx hb d_Site_init_25 rfl (lv_at hl 0 rfl) ?_
  refine x_sz (fun hz => ?_)
  have hsz : _ = G.2.1 9 := xk.sz (n := 8) hC hw hz (by rw [hs]; exact (hC.2.1.add (2) 7).symm)
  refine x_new hx hb (C := R_Resource) (T := T_Resource) (N := 2) (ci := 4) hu fi_Resource ty_Resource tyok_Resource hown mw_100 mw_102 mw_62 hC hsz hw hS rfl (fs := [.null, .int 0]) (by decide) (Nat.le_of_ble_eq_true rfl) (Nat.le_of_ble_eq_true rfl) d_Site_init_26 (fun H hw hS => ?_)
  refine lv_dup hx hb d_Site_init_29 rfl ?_
  refine x_sz (fun hz => ?_)
  have hsz : _ = G.2.1 10 := xk.sz (n := 9) hC hw hz (by rw [hs]; exact (hC.2.1.add (2) 8).symm)
  refine x_callC hS (W.runI (As := []) (rest := [.ref (G.2.1 9), .int (2 : Int32), .ref (G.2.1 2)]) ⟨hx, hb, hml, hown, hu⟩ (n_Resource_init l G (xu (xu f 2 (.inl (G.2.2.1 3, 8, .inr (.inr (.inr (.inr (x_rs G 2))))))) 1 (.inr (5, [.ref (G.2.1 2), .int 0]))) 9 (by omega) (show (xu (xu f 2 (.inl (G.2.2.1 3, 8, .inr (.inr (.inr (.inr (x_rs G 2))))))) 1 (.inr (5, [.ref (G.2.1 2), .int 0]))) 9 = .inr (4, [.ref (G.2.1 10), .int (-1)]) from (xu_ne (by decide)).trans ((xu_ne (by decide)).trans (hf 9 (by decide) (by decide)))) (show (xu (xu f 2 (.inl (G.2.2.1 3, 8, .inr (.inr (.inr (.inr (x_rs G 2))))))) 1 (.inr (5, [.ref (G.2.1 2), .int 0]))) 10 = .inr (0, [.ref (G.2.1 11), .int 0]) from (xu_ne (by decide)).trans ((xu_ne (by decide)).trans (hf 10 (by decide) (by decide)))) (show (xu (xu f 2 (.inl (G.2.2.1 3, 8, .inr (.inr (.inr (.inr (x_rs G 2))))))) 1 (.inr (5, [.ref (G.2.1 2), .int 0]))) 11 = .inl (G.2.2.1 0, 200, .inl (fun _ => 0)) from (xu_ne (by decide)).trans ((xu_ne (by decide)).trans (hf 11 (by decide) (by decide))))) (cwI (y := y_Resource_init) 0 hu (uw_I mw_105) rfl rfl rfl (hu _ mw_62) (hu _ mw_103) (hu _ mw_104) rfl hd_Resource_init ⟨Nat.le_of_ble_eq_true rfl, Nat.le_of_ble_eq_true rfl⟩) (x_preC hC hw hsz) rfl rfl hl.1 rfl (lv_room (Nat.le_of_ble_eq_true rfl)) d_Site_init_30 ⟨Nat.le_of_ble_eq_true rfl, Nat.le_of_ble_eq_true rfl⟩) (fun H locs hw hS => ?_)
  refine va_astq hx hb hC.1 hw.P (wk_D hI (by decide)) hS 2 3 9 4 (r := (R_Resource, T_Resource, 2)) (wk_at (by decide) ((xu_ne (by decide)).trans (xu_eq _ _ _))) rfl (wk_at (by decide) ((show (xu (xu f 2 (.inl (G.2.2.1 3, 8, .inr (.inr (.inr (.inr (x_rs G 2))))))) 1 (.inr (5, [.ref (G.2.1 2), .int 0]))) 9 = .inr (4, [.ref (G.2.1 10), .int (-1)]) from (xu_ne (by decide)).trans ((xu_ne (by decide)).trans (hf 9 (by decide) (by decide)))))) rfl (by unfold vp_in; decide) d_Site_init_33 (fun H locs hw _ hS => ?_)
  replace hw := xk.ofset (by decide) hw
  rw [xu_set2 (by decide)] at hw
  have hw : xk G (xu (xu f 2 (.inl (G.2.2.1 3, 8, .inr (.inr (.inr (.inr (va_up (x_rs G 2) 2 (some (G.2.1 (3 + 3 * 2))))))))) ) 1 (.inr (5, [.ref (G.2.1 2), .int 0]))) (12) H := hw
  rw [x_rs_up] at hw
  have hw : xk G (xu (xu f 2 (.inl (G.2.2.1 3, 8, .inr (.inr (.inr (.inr (x_rs G 3))))))) 1 (.inr (5, [.ref (G.2.1 2), .int 0]))) (12) H := hw
  refine lv_iinc (v := (3 : Int32)) hx hb d_Site_init_34 hl (k := 0) rfl (by decide) (by decide) rfl (fun ls hl => ?_)
  have hl : lv_has ls 2 [(1, .int (3 : Int32)), (0, .ref (G.2.1 1))] := hl
  refine lv_goto (tgt := 15) hx hb d_Site_init_37 (by decide) ?_
  refine lv_iload_n hx hb d_Site_init_15 rfl (lv_at hl 0 rfl) ?_
  refine lv_bipush (v := (8 : Int32)) hx hb d_Site_init_16 (by decide) ?_
  refine lv_icmp_ge (tgt := 40) hx hb d_Site_init_18 (by decide) (fun hc => absurd hc (by decide)) (fun _ => ?_)
  refine lv_aload_n hx hb d_Site_init_21 rfl (lv_at hl 1 rfl) ?_
  refine va_get (D := G.1) (cl := xCl) (ci := 5) (v := .ref (G.2.1 2)) (C := R_Site) (T := T_Site) (N := 2) hx hb hu fi_Site hown hC.1 hw.P 1 (wk_at (by decide) (xu_eq _ _ _)) rfl 0 (by decide) (hu _ mw_141) (fun _ h9 => h9) rfl d_Site_init_22 ?_
  refine lv_iload_n hx hb d_Site_init_25 rfl (lv_at hl 0 rfl) ?_
  refine x_sz (fun hz => ?_)
  have hsz : _ = G.2.1 12 := xk.sz (n := 11) hC hw hz (by rw [hs]; exact (hC.2.1.add (2) 10).symm)
  refine x_new hx hb (C := R_Resource) (T := T_Resource) (N := 2) (ci := 4) hu fi_Resource ty_Resource tyok_Resource hown mw_100 mw_102 mw_62 hC hsz hw hS rfl (fs := [.null, .int 0]) (by decide) (Nat.le_of_ble_eq_true rfl) (Nat.le_of_ble_eq_true rfl) d_Site_init_26 (fun H hw hS => ?_)
  refine lv_dup hx hb d_Site_init_29 rfl ?_
  refine x_sz (fun hz => ?_)
  have hsz : _ = G.2.1 13 := xk.sz (n := 12) hC hw hz (by rw [hs]; exact (hC.2.1.add (2) 11).symm)
  refine x_callC hS (W.runI (As := []) (rest := [.ref (G.2.1 12), .int (3 : Int32), .ref (G.2.1 2)]) ⟨hx, hb, hml, hown, hu⟩ (n_Resource_init l G (xu (xu f 2 (.inl (G.2.2.1 3, 8, .inr (.inr (.inr (.inr (x_rs G 3))))))) 1 (.inr (5, [.ref (G.2.1 2), .int 0]))) 12 (by omega) (show (xu (xu f 2 (.inl (G.2.2.1 3, 8, .inr (.inr (.inr (.inr (x_rs G 3))))))) 1 (.inr (5, [.ref (G.2.1 2), .int 0]))) 12 = .inr (4, [.ref (G.2.1 13), .int (-1)]) from (xu_ne (by decide)).trans ((xu_ne (by decide)).trans (hf 12 (by decide) (by decide)))) (show (xu (xu f 2 (.inl (G.2.2.1 3, 8, .inr (.inr (.inr (.inr (x_rs G 3))))))) 1 (.inr (5, [.ref (G.2.1 2), .int 0]))) 13 = .inr (0, [.ref (G.2.1 14), .int 0]) from (xu_ne (by decide)).trans ((xu_ne (by decide)).trans (hf 13 (by decide) (by decide)))) (show (xu (xu f 2 (.inl (G.2.2.1 3, 8, .inr (.inr (.inr (.inr (x_rs G 3))))))) 1 (.inr (5, [.ref (G.2.1 2), .int 0]))) 14 = .inl (G.2.2.1 0, 200, .inl (fun _ => 0)) from (xu_ne (by decide)).trans ((xu_ne (by decide)).trans (hf 14 (by decide) (by decide))))) (cwI (y := y_Resource_init) 0 hu (uw_I mw_105) rfl rfl rfl (hu _ mw_62) (hu _ mw_103) (hu _ mw_104) rfl hd_Resource_init ⟨Nat.le_of_ble_eq_true rfl, Nat.le_of_ble_eq_true rfl⟩) (x_preC hC hw hsz) rfl rfl hl.1 rfl (lv_room (Nat.le_of_ble_eq_true rfl)) d_Site_init_30 ⟨Nat.le_of_ble_eq_true rfl, Nat.le_of_ble_eq_true rfl⟩) (fun H locs hw hS => ?_)
  refine va_astq hx hb hC.1 hw.P (wk_D hI (by decide)) hS 2 3 12 4 (r := (R_Resource, T_Resource, 2)) (wk_at (by decide) ((xu_ne (by decide)).trans (xu_eq _ _ _))) rfl (wk_at (by decide) ((show (xu (xu f 2 (.inl (G.2.2.1 3, 8, .inr (.inr (.inr (.inr (x_rs G 3))))))) 1 (.inr (5, [.ref (G.2.1 2), .int 0]))) 12 = .inr (4, [.ref (G.2.1 13), .int (-1)]) from (xu_ne (by decide)).trans ((xu_ne (by decide)).trans (hf 12 (by decide) (by decide)))))) rfl (by unfold vp_in; decide) d_Site_init_33 (fun H locs hw _ hS => ?_)
  replace hw := xk.ofset (by decide) hw
  rw [xu_set2 (by decide)] at hw
  have hw : xk G (xu (xu f 2 (.inl (G.2.2.1 3, 8, .inr (.inr (.inr (.inr (va_up (x_rs G 3) 3 (some (G.2.1 (3 + 3 * 3))))))))) ) 1 (.inr (5, [.ref (G.2.1 2), .int 0]))) (15) H := hw
  rw [x_rs_up] at hw
  have hw : xk G (xu (xu f 2 (.inl (G.2.2.1 3, 8, .inr (.inr (.inr (.inr (x_rs G 4))))))) 1 (.inr (5, [.ref (G.2.1 2), .int 0]))) (15) H := hw
  refine lv_iinc (v := (4 : Int32)) hx hb d_Site_init_34 hl (k := 0) rfl (by decide) (by decide) rfl (fun ls hl => ?_)
  have hl : lv_has ls 2 [(1, .int (4 : Int32)), (0, .ref (G.2.1 1))] := hl
  refine lv_goto (tgt := 15) hx hb d_Site_init_37 (by decide) ?_
  refine lv_iload_n hx hb d_Site_init_15 rfl (lv_at hl 0 rfl) ?_
  refine lv_bipush (v := (8 : Int32)) hx hb d_Site_init_16 (by decide) ?_
  refine lv_icmp_ge (tgt := 40) hx hb d_Site_init_18 (by decide) (fun hc => absurd hc (by decide)) (fun _ => ?_)
  refine lv_aload_n hx hb d_Site_init_21 rfl (lv_at hl 1 rfl) ?_
  refine va_get (D := G.1) (cl := xCl) (ci := 5) (v := .ref (G.2.1 2)) (C := R_Site) (T := T_Site) (N := 2) hx hb hu fi_Site hown hC.1 hw.P 1 (wk_at (by decide) (xu_eq _ _ _)) rfl 0 (by decide) (hu _ mw_141) (fun _ h9 => h9) rfl d_Site_init_22 ?_
  refine lv_iload_n hx hb d_Site_init_25 rfl (lv_at hl 0 rfl) ?_
  refine x_sz (fun hz => ?_)
  have hsz : _ = G.2.1 15 := xk.sz (n := 14) hC hw hz (by rw [hs]; exact (hC.2.1.add (2) 13).symm)
  refine x_new hx hb (C := R_Resource) (T := T_Resource) (N := 2) (ci := 4) hu fi_Resource ty_Resource tyok_Resource hown mw_100 mw_102 mw_62 hC hsz hw hS rfl (fs := [.null, .int 0]) (by decide) (Nat.le_of_ble_eq_true rfl) (Nat.le_of_ble_eq_true rfl) d_Site_init_26 (fun H hw hS => ?_)
  refine lv_dup hx hb d_Site_init_29 rfl ?_
  refine x_sz (fun hz => ?_)
  have hsz : _ = G.2.1 16 := xk.sz (n := 15) hC hw hz (by rw [hs]; exact (hC.2.1.add (2) 14).symm)
  refine x_callC hS (W.runI (As := []) (rest := [.ref (G.2.1 15), .int (4 : Int32), .ref (G.2.1 2)]) ⟨hx, hb, hml, hown, hu⟩ (n_Resource_init l G (xu (xu f 2 (.inl (G.2.2.1 3, 8, .inr (.inr (.inr (.inr (x_rs G 4))))))) 1 (.inr (5, [.ref (G.2.1 2), .int 0]))) 15 (by omega) (show (xu (xu f 2 (.inl (G.2.2.1 3, 8, .inr (.inr (.inr (.inr (x_rs G 4))))))) 1 (.inr (5, [.ref (G.2.1 2), .int 0]))) 15 = .inr (4, [.ref (G.2.1 16), .int (-1)]) from (xu_ne (by decide)).trans ((xu_ne (by decide)).trans (hf 15 (by decide) (by decide)))) (show (xu (xu f 2 (.inl (G.2.2.1 3, 8, .inr (.inr (.inr (.inr (x_rs G 4))))))) 1 (.inr (5, [.ref (G.2.1 2), .int 0]))) 16 = .inr (0, [.ref (G.2.1 17), .int 0]) from (xu_ne (by decide)).trans ((xu_ne (by decide)).trans (hf 16 (by decide) (by decide)))) (show (xu (xu f 2 (.inl (G.2.2.1 3, 8, .inr (.inr (.inr (.inr (x_rs G 4))))))) 1 (.inr (5, [.ref (G.2.1 2), .int 0]))) 17 = .inl (G.2.2.1 0, 200, .inl (fun _ => 0)) from (xu_ne (by decide)).trans ((xu_ne (by decide)).trans (hf 17 (by decide) (by decide))))) (cwI (y := y_Resource_init) 0 hu (uw_I mw_105) rfl rfl rfl (hu _ mw_62) (hu _ mw_103) (hu _ mw_104) rfl hd_Resource_init ⟨Nat.le_of_ble_eq_true rfl, Nat.le_of_ble_eq_true rfl⟩) (x_preC hC hw hsz) rfl rfl hl.1 rfl (lv_room (Nat.le_of_ble_eq_true rfl)) d_Site_init_30 ⟨Nat.le_of_ble_eq_true rfl, Nat.le_of_ble_eq_true rfl⟩) (fun H locs hw hS => ?_)
  refine va_astq hx hb hC.1 hw.P (wk_D hI (by decide)) hS 2 3 15 4 (r := (R_Resource, T_Resource, 2)) (wk_at (by decide) ((xu_ne (by decide)).trans (xu_eq _ _ _))) rfl (wk_at (by decide) ((show (xu (xu f 2 (.inl (G.2.2.1 3, 8, .inr (.inr (.inr (.inr (x_rs G 4))))))) 1 (.inr (5, [.ref (G.2.1 2), .int 0]))) 15 = .inr (4, [.ref (G.2.1 16), .int (-1)]) from (xu_ne (by decide)).trans ((xu_ne (by decide)).trans (hf 15 (by decide) (by decide)))))) rfl (by unfold vp_in; decide) d_Site_init_33 (fun H locs hw _ hS => ?_)
  replace hw := xk.ofset (by decide) hw
  rw [xu_set2 (by decide)] at hw
  have hw : xk G (xu (xu f 2 (.inl (G.2.2.1 3, 8, .inr (.inr (.inr (.inr (va_up (x_rs G 4) 4 (some (G.2.1 (3 + 3 * 4))))))))) ) 1 (.inr (5, [.ref (G.2.1 2), .int 0]))) (18) H := hw
  rw [x_rs_up] at hw
  have hw : xk G (xu (xu f 2 (.inl (G.2.2.1 3, 8, .inr (.inr (.inr (.inr (x_rs G 5))))))) 1 (.inr (5, [.ref (G.2.1 2), .int 0]))) (18) H := hw
  refine lv_iinc (v := (5 : Int32)) hx hb d_Site_init_34 hl (k := 0) rfl (by decide) (by decide) rfl (fun ls hl => ?_)
  have hl : lv_has ls 2 [(1, .int (5 : Int32)), (0, .ref (G.2.1 1))] := hl
  refine lv_goto (tgt := 15) hx hb d_Site_init_37 (by decide) ?_
  refine lv_iload_n hx hb d_Site_init_15 rfl (lv_at hl 0 rfl) ?_
  refine lv_bipush (v := (8 : Int32)) hx hb d_Site_init_16 (by decide) ?_
  refine lv_icmp_ge (tgt := 40) hx hb d_Site_init_18 (by decide) (fun hc => absurd hc (by decide)) (fun _ => ?_)
  refine lv_aload_n hx hb d_Site_init_21 rfl (lv_at hl 1 rfl) ?_
  refine va_get (D := G.1) (cl := xCl) (ci := 5) (v := .ref (G.2.1 2)) (C := R_Site) (T := T_Site) (N := 2) hx hb hu fi_Site hown hC.1 hw.P 1 (wk_at (by decide) (xu_eq _ _ _)) rfl 0 (by decide) (hu _ mw_141) (fun _ h9 => h9) rfl d_Site_init_22 ?_
  refine lv_iload_n hx hb d_Site_init_25 rfl (lv_at hl 0 rfl) ?_
  refine x_sz (fun hz => ?_)
  have hsz : _ = G.2.1 18 := xk.sz (n := 17) hC hw hz (by rw [hs]; exact (hC.2.1.add (2) 16).symm)
  refine x_new hx hb (C := R_Resource) (T := T_Resource) (N := 2) (ci := 4) hu fi_Resource ty_Resource tyok_Resource hown mw_100 mw_102 mw_62 hC hsz hw hS rfl (fs := [.null, .int 0]) (by decide) (Nat.le_of_ble_eq_true rfl) (Nat.le_of_ble_eq_true rfl) d_Site_init_26 (fun H hw hS => ?_)
  refine lv_dup hx hb d_Site_init_29 rfl ?_
  refine x_sz (fun hz => ?_)
  have hsz : _ = G.2.1 19 := xk.sz (n := 18) hC hw hz (by rw [hs]; exact (hC.2.1.add (2) 17).symm)
  refine x_callC hS (W.runI (As := []) (rest := [.ref (G.2.1 18), .int (5 : Int32), .ref (G.2.1 2)]) ⟨hx, hb, hml, hown, hu⟩ (n_Resource_init l G (xu (xu f 2 (.inl (G.2.2.1 3, 8, .inr (.inr (.inr (.inr (x_rs G 5))))))) 1 (.inr (5, [.ref (G.2.1 2), .int 0]))) 18 (by omega) (show (xu (xu f 2 (.inl (G.2.2.1 3, 8, .inr (.inr (.inr (.inr (x_rs G 5))))))) 1 (.inr (5, [.ref (G.2.1 2), .int 0]))) 18 = .inr (4, [.ref (G.2.1 19), .int (-1)]) from (xu_ne (by decide)).trans ((xu_ne (by decide)).trans (hf 18 (by decide) (by decide)))) (show (xu (xu f 2 (.inl (G.2.2.1 3, 8, .inr (.inr (.inr (.inr (x_rs G 5))))))) 1 (.inr (5, [.ref (G.2.1 2), .int 0]))) 19 = .inr (0, [.ref (G.2.1 20), .int 0]) from (xu_ne (by decide)).trans ((xu_ne (by decide)).trans (hf 19 (by decide) (by decide)))) (show (xu (xu f 2 (.inl (G.2.2.1 3, 8, .inr (.inr (.inr (.inr (x_rs G 5))))))) 1 (.inr (5, [.ref (G.2.1 2), .int 0]))) 20 = .inl (G.2.2.1 0, 200, .inl (fun _ => 0)) from (xu_ne (by decide)).trans ((xu_ne (by decide)).trans (hf 20 (by decide) (by decide))))) (cwI (y := y_Resource_init) 0 hu (uw_I mw_105) rfl rfl rfl (hu _ mw_62) (hu _ mw_103) (hu _ mw_104) rfl hd_Resource_init ⟨Nat.le_of_ble_eq_true rfl, Nat.le_of_ble_eq_true rfl⟩) (x_preC hC hw hsz) rfl rfl hl.1 rfl (lv_room (Nat.le_of_ble_eq_true rfl)) d_Site_init_30 ⟨Nat.le_of_ble_eq_true rfl, Nat.le_of_ble_eq_true rfl⟩) (fun H locs hw hS => ?_)
  refine va_astq hx hb hC.1 hw.P (wk_D hI (by decide)) hS 2 3 18 4 (r := (R_Resource, T_Resource, 2)) (wk_at (by decide) ((xu_ne (by decide)).trans (xu_eq _ _ _))) rfl (wk_at (by decide) ((show (xu (xu f 2 (.inl (G.2.2.1 3, 8, .inr (.inr (.inr (.inr (x_rs G 5))))))) 1 (.inr (5, [.ref (G.2.1 2), .int 0]))) 18 = .inr (4, [.ref (G.2.1 19), .int (-1)]) from (xu_ne (by decide)).trans ((xu_ne (by decide)).trans (hf 18 (by decide) (by decide)))))) rfl (by unfold vp_in; decide) d_Site_init_33 (fun H locs hw _ hS => ?_)
  replace hw := xk.ofset (by decide) hw
  rw [xu_set2 (by decide)] at hw
  have hw : xk G (xu (xu f 2 (.inl (G.2.2.1 3, 8, .inr (.inr (.inr (.inr (va_up (x_rs G 5) 5 (some (G.2.1 (3 + 3 * 5))))))))) ) 1 (.inr (5, [.ref (G.2.1 2), .int 0]))) (21) H := hw
  rw [x_rs_up] at hw
  have hw : xk G (xu (xu f 2 (.inl (G.2.2.1 3, 8, .inr (.inr (.inr (.inr (x_rs G 6))))))) 1 (.inr (5, [.ref (G.2.1 2), .int 0]))) (21) H := hw
  refine lv_iinc (v := (6 : Int32)) hx hb d_Site_init_34 hl (k := 0) rfl (by decide) (by decide) rfl (fun ls hl => ?_)
  have hl : lv_has ls 2 [(1, .int (6 : Int32)), (0, .ref (G.2.1 1))] := hl
  refine lv_goto (tgt := 15) hx hb d_Site_init_37 (by decide) ?_
  refine lv_iload_n hx hb d_Site_init_15 rfl (lv_at hl 0 rfl) ?_
  refine lv_bipush (v := (8 : Int32)) hx hb d_Site_init_16 (by decide) ?_
  refine lv_icmp_ge (tgt := 40) hx hb d_Site_init_18 (by decide) (fun hc => absurd hc (by decide)) (fun _ => ?_)
  refine lv_aload_n hx hb d_Site_init_21 rfl (lv_at hl 1 rfl) ?_
  refine va_get (D := G.1) (cl := xCl) (ci := 5) (v := .ref (G.2.1 2)) (C := R_Site) (T := T_Site) (N := 2) hx hb hu fi_Site hown hC.1 hw.P 1 (wk_at (by decide) (xu_eq _ _ _)) rfl 0 (by decide) (hu _ mw_141) (fun _ h9 => h9) rfl d_Site_init_22 ?_
  refine lv_iload_n hx hb d_Site_init_25 rfl (lv_at hl 0 rfl) ?_
  refine x_sz (fun hz => ?_)
  have hsz : _ = G.2.1 21 := xk.sz (n := 20) hC hw hz (by rw [hs]; exact (hC.2.1.add (2) 19).symm)
  refine x_new hx hb (C := R_Resource) (T := T_Resource) (N := 2) (ci := 4) hu fi_Resource ty_Resource tyok_Resource hown mw_100 mw_102 mw_62 hC hsz hw hS rfl (fs := [.null, .int 0]) (by decide) (Nat.le_of_ble_eq_true rfl) (Nat.le_of_ble_eq_true rfl) d_Site_init_26 (fun H hw hS => ?_)
  refine lv_dup hx hb d_Site_init_29 rfl ?_
  refine x_sz (fun hz => ?_)
  have hsz : _ = G.2.1 22 := xk.sz (n := 21) hC hw hz (by rw [hs]; exact (hC.2.1.add (2) 20).symm)
  refine x_callC hS (W.runI (As := []) (rest := [.ref (G.2.1 21), .int (6 : Int32), .ref (G.2.1 2)]) ⟨hx, hb, hml, hown, hu⟩ (n_Resource_init l G (xu (xu f 2 (.inl (G.2.2.1 3, 8, .inr (.inr (.inr (.inr (x_rs G 6))))))) 1 (.inr (5, [.ref (G.2.1 2), .int 0]))) 21 (by omega) (show (xu (xu f 2 (.inl (G.2.2.1 3, 8, .inr (.inr (.inr (.inr (x_rs G 6))))))) 1 (.inr (5, [.ref (G.2.1 2), .int 0]))) 21 = .inr (4, [.ref (G.2.1 22), .int (-1)]) from (xu_ne (by decide)).trans ((xu_ne (by decide)).trans (hf 21 (by decide) (by decide)))) (show (xu (xu f 2 (.inl (G.2.2.1 3, 8, .inr (.inr (.inr (.inr (x_rs G 6))))))) 1 (.inr (5, [.ref (G.2.1 2), .int 0]))) 22 = .inr (0, [.ref (G.2.1 23), .int 0]) from (xu_ne (by decide)).trans ((xu_ne (by decide)).trans (hf 22 (by decide) (by decide)))) (show (xu (xu f 2 (.inl (G.2.2.1 3, 8, .inr (.inr (.inr (.inr (x_rs G 6))))))) 1 (.inr (5, [.ref (G.2.1 2), .int 0]))) 23 = .inl (G.2.2.1 0, 200, .inl (fun _ => 0)) from (xu_ne (by decide)).trans ((xu_ne (by decide)).trans (hf 23 (by decide) (by decide))))) (cwI (y := y_Resource_init) 0 hu (uw_I mw_105) rfl rfl rfl (hu _ mw_62) (hu _ mw_103) (hu _ mw_104) rfl hd_Resource_init ⟨Nat.le_of_ble_eq_true rfl, Nat.le_of_ble_eq_true rfl⟩) (x_preC hC hw hsz) rfl rfl hl.1 rfl (lv_room (Nat.le_of_ble_eq_true rfl)) d_Site_init_30 ⟨Nat.le_of_ble_eq_true rfl, Nat.le_of_ble_eq_true rfl⟩) (fun H locs hw hS => ?_)
  refine va_astq hx hb hC.1 hw.P (wk_D hI (by decide)) hS 2 3 21 4 (r := (R_Resource, T_Resource, 2)) (wk_at (by decide) ((xu_ne (by decide)).trans (xu_eq _ _ _))) rfl (wk_at (by decide) ((show (xu (xu f 2 (.inl (G.2.2.1 3, 8, .inr (.inr (.inr (.inr (x_rs G 6))))))) 1 (.inr (5, [.ref (G.2.1 2), .int 0]))) 21 = .inr (4, [.ref (G.2.1 22), .int (-1)]) from (xu_ne (by decide)).trans ((xu_ne (by decide)).trans (hf 21 (by decide) (by decide)))))) rfl (by unfold vp_in; decide) d_Site_init_33 (fun H locs hw _ hS => ?_)
  replace hw := xk.ofset (by decide) hw
  rw [xu_set2 (by decide)] at hw
  have hw : xk G (xu (xu f 2 (.inl (G.2.2.1 3, 8, .inr (.inr (.inr (.inr (va_up (x_rs G 6) 6 (some (G.2.1 (3 + 3 * 6))))))))) ) 1 (.inr (5, [.ref (G.2.1 2), .int 0]))) (24) H := hw
  rw [x_rs_up] at hw
  have hw : xk G (xu (xu f 2 (.inl (G.2.2.1 3, 8, .inr (.inr (.inr (.inr (x_rs G 7))))))) 1 (.inr (5, [.ref (G.2.1 2), .int 0]))) (24) H := hw
  refine lv_iinc (v := (7 : Int32)) hx hb d_Site_init_34 hl (k := 0) rfl (by decide) (by decide) rfl (fun ls hl => ?_)
  have hl : lv_has ls 2 [(1, .int (7 : Int32)), (0, .ref (G.2.1 1))] := hl
  refine lv_goto (tgt := 15) hx hb d_Site_init_37 (by decide) ?_
  refine lv_iload_n hx hb d_Site_init_15 rfl (lv_at hl 0 rfl) ?_
  refine lv_bipush (v := (8 : Int32)) hx hb d_Site_init_16 (by decide) ?_
  refine lv_icmp_ge (tgt := 40) hx hb d_Site_init_18 (by decide) (fun hc => absurd hc (by decide)) (fun _ => ?_)
  refine lv_aload_n hx hb d_Site_init_21 rfl (lv_at hl 1 rfl) ?_
  refine va_get (D := G.1) (cl := xCl) (ci := 5) (v := .ref (G.2.1 2)) (C := R_Site) (T := T_Site) (N := 2) hx hb hu fi_Site hown hC.1 hw.P 1 (wk_at (by decide) (xu_eq _ _ _)) rfl 0 (by decide) (hu _ mw_141) (fun _ h9 => h9) rfl d_Site_init_22 ?_
  refine lv_iload_n hx hb d_Site_init_25 rfl (lv_at hl 0 rfl) ?_
  refine x_sz (fun hz => ?_)
  have hsz : _ = G.2.1 24 := xk.sz (n := 23) hC hw hz (by rw [hs]; exact (hC.2.1.add (2) 22).symm)
  refine x_new hx hb (C := R_Resource) (T := T_Resource) (N := 2) (ci := 4) hu fi_Resource ty_Resource tyok_Resource hown mw_100 mw_102 mw_62 hC hsz hw hS rfl (fs := [.null, .int 0]) (by decide) (Nat.le_of_ble_eq_true rfl) (Nat.le_of_ble_eq_true rfl) d_Site_init_26 (fun H hw hS => ?_)
  refine lv_dup hx hb d_Site_init_29 rfl ?_
  refine x_sz (fun hz => ?_)
  have hsz : _ = G.2.1 25 := xk.sz (n := 24) hC hw hz (by rw [hs]; exact (hC.2.1.add (2) 23).symm)
  refine x_callC hS (W.runI (As := []) (rest := [.ref (G.2.1 24), .int (7 : Int32), .ref (G.2.1 2)]) ⟨hx, hb, hml, hown, hu⟩ (n_Resource_init l G (xu (xu f 2 (.inl (G.2.2.1 3, 8, .inr (.inr (.inr (.inr (x_rs G 7))))))) 1 (.inr (5, [.ref (G.2.1 2), .int 0]))) 24 (by omega) (show (xu (xu f 2 (.inl (G.2.2.1 3, 8, .inr (.inr (.inr (.inr (x_rs G 7))))))) 1 (.inr (5, [.ref (G.2.1 2), .int 0]))) 24 = .inr (4, [.ref (G.2.1 25), .int (-1)]) from (xu_ne (by decide)).trans ((xu_ne (by decide)).trans (hf 24 (by decide) (by decide)))) (show (xu (xu f 2 (.inl (G.2.2.1 3, 8, .inr (.inr (.inr (.inr (x_rs G 7))))))) 1 (.inr (5, [.ref (G.2.1 2), .int 0]))) 25 = .inr (0, [.ref (G.2.1 26), .int 0]) from (xu_ne (by decide)).trans ((xu_ne (by decide)).trans (hf 25 (by decide) (by decide)))) (show (xu (xu f 2 (.inl (G.2.2.1 3, 8, .inr (.inr (.inr (.inr (x_rs G 7))))))) 1 (.inr (5, [.ref (G.2.1 2), .int 0]))) 26 = .inl (G.2.2.1 0, 200, .inl (fun _ => 0)) from (xu_ne (by decide)).trans ((xu_ne (by decide)).trans (hf 26 (by decide) (by decide))))) (cwI (y := y_Resource_init) 0 hu (uw_I mw_105) rfl rfl rfl (hu _ mw_62) (hu _ mw_103) (hu _ mw_104) rfl hd_Resource_init ⟨Nat.le_of_ble_eq_true rfl, Nat.le_of_ble_eq_true rfl⟩) (x_preC hC hw hsz) rfl rfl hl.1 rfl (lv_room (Nat.le_of_ble_eq_true rfl)) d_Site_init_30 ⟨Nat.le_of_ble_eq_true rfl, Nat.le_of_ble_eq_true rfl⟩) (fun H locs hw hS => ?_)
  refine va_astq hx hb hC.1 hw.P (wk_D hI (by decide)) hS 2 3 24 4 (r := (R_Resource, T_Resource, 2)) (wk_at (by decide) ((xu_ne (by decide)).trans (xu_eq _ _ _))) rfl (wk_at (by decide) ((show (xu (xu f 2 (.inl (G.2.2.1 3, 8, .inr (.inr (.inr (.inr (x_rs G 7))))))) 1 (.inr (5, [.ref (G.2.1 2), .int 0]))) 24 = .inr (4, [.ref (G.2.1 25), .int (-1)]) from (xu_ne (by decide)).trans ((xu_ne (by decide)).trans (hf 24 (by decide) (by decide)))))) rfl (by unfold vp_in; decide) d_Site_init_33 (fun H locs hw _ hS => ?_)
  replace hw := xk.ofset (by decide) hw
  rw [xu_set2 (by decide)] at hw
  have hw : xk G (xu (xu f 2 (.inl (G.2.2.1 3, 8, .inr (.inr (.inr (.inr (va_up (x_rs G 7) 7 (some (G.2.1 (3 + 3 * 7))))))))) ) 1 (.inr (5, [.ref (G.2.1 2), .int 0]))) (27) H := hw
  rw [x_rs_up] at hw
  have hw : xk G (xu (xu f 2 (.inl (G.2.2.1 3, 8, .inr (.inr (.inr (.inr (x_rs G 8))))))) 1 (.inr (5, [.ref (G.2.1 2), .int 0]))) (27) H := hw
  rw [xu_comm (by decide)] at hw
  replace hw := hw.alter x_rs_end
  rw [xu_self (show (xu f 1 (.inr (5, [.ref (G.2.1 2), .int 0]))) 2 = .inl (G.2.2.1 3, 8, .inr (.inr (.inr (.inr (fun i => some (G.2.1 (3 + 3 * i))))))) from (xu_ne (by decide)).trans (hf 2 (by decide) (by decide)))] at hw
  have hw : xk G (xu f 1 (.inr (5, [.ref (G.2.1 2), .int 0]))) (27) H := hw
  refine lv_iinc (v := (8 : Int32)) hx hb d_Site_init_34 hl (k := 0) rfl (by decide) (by decide) rfl (fun ls hl => ?_)
  have hl : lv_has ls 2 [(1, .int (8 : Int32)), (0, .ref (G.2.1 1))] := hl
  refine lv_goto (tgt := 15) hx hb d_Site_init_37 (by decide) ?_
  refine lv_iload_n hx hb d_Site_init_15 rfl (lv_at hl 0 rfl) ?_
  refine lv_bipush (v := (8 : Int32)) hx hb d_Site_init_16 (by decide) ?_
  refine lv_icmp_ge (tgt := 40) hx hb d_Site_init_18 (by decide) (fun _ => ?_) (fun hc => absurd (by decide) hc)
  rw [xu_self (show f 1 = .inr (5, [.ref (G.2.1 2), .int 0]) from (hf 1 (by decide) (by decide)))] at hw
  exact W.vret hx hb hr (fun t ht hW => ⟨rfl, by rw [ht]; exact hw, hS.F ht⟩) hS.2.2 d_Site_init_40

def y_Fields_init : MethodName := ⟨"PlainOrigin$Fields", "<init>", "()V"⟩
def ws_Fields_init : List Cond := Cond.code y_Fields_init prog_4_method_1_code 1 none :: UW
theorem hd_Fields_init : y_Fields_init.cls ≠ "java/lang/invoke/MethodHandle" ∧ y_Fields_init.cls ≠ "java/lang/invoke/VarHandle" ∧ (parseMethodDescriptor y_Fields_init.desc).map (fun d => d.parameters.length) = some 0 := by decide +kernel
theorem d_Fields_init_0 : decode prog_4_method_1_code 0 = .ok (.aload_n 0, 1) := by decide +kernel
theorem d_Fields_init_1 : decode prog_4_method_1_code 1 = .ok (.invokespecial 3, 3) := by decide +kernel
theorem d_Fields_init_4 : decode prog_4_method_1_code 4 = .ok (.aload_n 0, 1) := by decide +kernel
theorem d_Fields_init_5 : decode prog_4_method_1_code 5 = .ok (.new 9, 3) := by decide +kernel
theorem d_Fields_init_8 : decode prog_4_method_1_code 8 = .ok (.dup, 1) := by decide +kernel
theorem d_Fields_init_9 : decode prog_4_method_1_code 9 = .ok (.sipush (960), 3) := by decide +kernel
theorem d_Fields_init_12 : decode prog_4_method_1_code 12 = .ok (.invokespecial 11, 3) := by decide +kernel
theorem d_Fields_init_15 : decode prog_4_method_1_code 15 = .ok (.putfield 14, 3) := by decide +kernel
theorem d_Fields_init_18 : decode prog_4_method_1_code 18 = .ok (.aload_n 0, 1) := by decide +kernel
theorem d_Fields_init_19 : decode prog_4_method_1_code 19 = .ok (.bipush (12), 2) := by decide +kernel
theorem d_Fields_init_21 : decode prog_4_method_1_code 21 = .ok (.newarray .int, 2) := by decide +kernel
theorem d_Fields_init_23 : decode prog_4_method_1_code 23 = .ok (.putfield 20, 3) := by decide +kernel
theorem d_Fields_init_26 : decode prog_4_method_1_code 26 = .ok (.aload_n 0, 1) := by decide +kernel
theorem d_Fields_init_27 : decode prog_4_method_1_code 27 = .ok (.bipush (12), 2) := by decide +kernel
theorem d_Fields_init_29 : decode prog_4_method_1_code 29 = .ok (.newarray .int, 2) := by decide +kernel
theorem d_Fields_init_31 : decode prog_4_method_1_code 31 = .ok (.putfield 24, 3) := by decide +kernel
theorem d_Fields_init_34 : decode prog_4_method_1_code 34 = .ok (.aload_n 0, 1) := by decide +kernel
theorem d_Fields_init_35 : decode prog_4_method_1_code 35 = .ok (.bipush (12), 2) := by decide +kernel
theorem d_Fields_init_37 : decode prog_4_method_1_code 37 = .ok (.newarray .int, 2) := by decide +kernel
theorem d_Fields_init_39 : decode prog_4_method_1_code 39 = .ok (.putfield 27, 3) := by decide +kernel
theorem d_Fields_init_42 : decode prog_4_method_1_code 42 = .ok (.aload_n 0, 1) := by decide +kernel
theorem d_Fields_init_43 : decode prog_4_method_1_code 43 = .ok (.bipush (12), 2) := by decide +kernel
theorem d_Fields_init_45 : decode prog_4_method_1_code 45 = .ok (.newarray .int, 2) := by decide +kernel
theorem d_Fields_init_47 : decode prog_4_method_1_code 47 = .ok (.putfield 30, 3) := by decide +kernel
theorem d_Fields_init_50 : decode prog_4_method_1_code 50 = .ok (.aload_n 0, 1) := by decide +kernel
theorem d_Fields_init_51 : decode prog_4_method_1_code 51 = .ok (.sipush (480), 3) := by decide +kernel
theorem d_Fields_init_54 : decode prog_4_method_1_code 54 = .ok (.newarray .int, 2) := by decide +kernel
theorem d_Fields_init_56 : decode prog_4_method_1_code 56 = .ok (.putfield 33, 3) := by decide +kernel
theorem d_Fields_init_59 : decode prog_4_method_1_code 59 = .ok (.aload_n 0, 1) := by decide +kernel
theorem d_Fields_init_60 : decode prog_4_method_1_code 60 = .ok (.sipush (480), 3) := by decide +kernel
theorem d_Fields_init_63 : decode prog_4_method_1_code 63 = .ok (.newarray .int, 2) := by decide +kernel
theorem d_Fields_init_65 : decode prog_4_method_1_code 65 = .ok (.putfield 36, 3) := by decide +kernel
theorem d_Fields_init_68 : decode prog_4_method_1_code 68 = .ok (.return_, 1) := by decide +kernel
set_option maxHeartbeats 4000000 in
set_option maxRecDepth 100000 in
theorem n_Fields_init (l : Launch) (G : xG) (f : Nat → va_E) (hf : ∀ j, 31 ≤ j → j < 40 → f j = xcl G x_s0 j) : Met l y_Fields_init ws_Fields_init { frames := 2, cells := 8, slots := 1970, locals := 41 } (xPk G (xu f 31 (.inr (1, [.null, .null, .null, .null, .null, .int 0, .null, .null, .int 0]))) (32) [.ref (G.2.1 31)]) (xQk G f (40)) 8 (1970) (xA G) := by
  refine Met.ofW (cc := prog_4_method_1_code) (maxL := 1) (ret := none) (by decide) rfl ?_
  intro p e s m args below meth c s₁ B hml hv
  obtain ⟨rfl, hs, hw, hC⟩ := hv
  have hx := B.exec
  have hb := B.bytes
  have hr := B.returns
  have hu : ∀ w ∈ UW, w.before _ s = true := fun w h => atoms_spec B.pre w (List.mem_cons_of_mem _ h)
  have hown : s.vm.findClass R_Fields = some m.cls := findClass_of_methodNamed B.named
  have hlocks := B.notSynchronized
  have hin : meth.name = "<init>" := (name_of_methodNamed B.named B.method).1
  have hI : xInj G := hC.2.1.inj
  have hS : va_S (xA G) s.heap s.heap [] := va_S.rf
  have hl := lv_entry ([.ref (G.2.1 31)]) (n := 1) (Nat.le_of_ble_eq_true rfl)
  rw [lg_entry_eq]
  generalize (lg_sl ([.ref (G.2.1 31)]) ++ List.replicate (1 - (lg_sl ([.ref (G.2.1 31)])).length) Slot.unset).toArray = ls at hl ⊢
  have hl : lv_has ls 1 [(0, .ref (G.2.1 31))] := hl
  refine lv_aload_n hx hb d_Fields_init_0 rfl (lv_at hl 0 rfl) ?_
  refine W.objInit hx hb hown (hu _ mw_170) (hu _ mw_92) (hu _ mw_93) rfl (by rw [hml]; exact hl.1) rfl d_Fields_init_1 (Nat.le_of_ble_eq_true rfl) (Nat.le_of_ble_eq_true rfl) ?_
  show W p l e _ s m _ below meth c _ _ _ _ _ (F0 m 4 ls [])
  refine lv_aload_n hx hb d_Fields_init_4 rfl (lv_at hl 0 rfl) ?_
  refine x_sz (fun hz => ?_)
  have hsz : _ = G.2.1 32 := xk.sz (n := 31) hC hw hz (by rw [hs]; exact (hC.2.1.add (32) 0).symm)
  refine x_new hx hb (C := R_Bytes) (T := T_Bytes) (N := 2) (ci := 0) hu fi_Bytes ty_Bytes tyok_Bytes hown mw_171 mw_108 mw_63 hC hsz hw hS rfl (fs := [.null, .int 0]) (by decide) (Nat.le_of_ble_eq_true rfl) (Nat.le_of_ble_eq_true rfl) d_Fields_init_5 (fun H hw hS => ?_)
  refine lv_dup hx hb d_Fields_init_8 rfl ?_
  refine lv_sipush (v := (960 : Int32)) hx hb d_Fields_init_9 (by decide) ?_
  refine x_sz (fun hz => ?_)
  have hsz : _ = G.2.1 33 := xk.sz (n := 32) hC hw hz (by rw [hs]; exact (hC.2.1.add (32) 1).symm)
  refine x_callC hS (W.runI (As := [.int (960 : Int32)]) (rest := [.ref (G.2.1 32), .ref (G.2.1 31)]) ⟨hx, hb, hml, hown, hu⟩ (n_Bytes_init l G (xu f 31 (.inr (1, [.null, .null, .null, .null, .null, .int 0, .null, .null, .int 0]))) 32 (960 : Int32) 960 (by omega) (show (xu f 31 (.inr (1, [.null, .null, .null, .null, .null, .int 0, .null, .null, .int 0]))) 32 = .inr (0, [.ref (G.2.1 33), .int 0]) from (xu_ne (by decide)).trans (hf 32 (by decide) (by decide))) (show (xu f 31 (.inr (1, [.null, .null, .null, .null, .null, .int 0, .null, .null, .int 0]))) 33 = .inl (G.2.2.1 0, 960, .inl (fun _ => 0)) from (xu_ne (by decide)).trans (hf 33 (by decide) (by decide))) (by decide) (by decide) (by decide)) (cwI (y := y_Bytes_init) 1 hu (uw_I mw_111) rfl rfl rfl (hu _ mw_63) (hu _ mw_172) (hu _ mw_110) rfl hd_Bytes_init ⟨Nat.le_of_ble_eq_true rfl, Nat.le_of_ble_eq_true rfl⟩) (x_preC hC hw hsz) rfl rfl hl.1 rfl (lv_room (Nat.le_of_ble_eq_true rfl)) d_Fields_init_12 ⟨Nat.le_of_ble_eq_true rfl, Nat.le_of_ble_eq_true rfl⟩) (fun H locs hw hS => ?_)
  refine va_putF (D := G.1) (cl := xCl) (ci := 1) (v := .ref (G.2.1 32)) (ty := ty_Fields 0) (C := R_Fields) (T := T_Fields) (N := 9) hx hb hu fi_Fields ty_Fields tyok_Fields nm_Fields hown hC.1 hw.P (wk_D hI (by decide)) hS 31 (wk_at (by decide) (xu_eq _ _ _)) rfl 0 (by decide) (hu _ mw_173) (fun _ h9 => h9) rfl hin rfl (tyok_Fields 0 (by decide)) rfl rfl (Nat.le_of_ble_eq_true rfl) d_Fields_init_15 (fun H locs hw _ hS => ?_)
  replace hw := xk.ofset (by decide) hw
  rw [xu_same] at hw
  have hw : xk G (xu f 31 (.inr (1, [.ref (G.2.1 32), .null, .null, .null, .null, .int 0, .null, .null, .int 0]))) (34) H := hw
  refine lv_aload_n hx hb d_Fields_init_18 rfl (lv_at hl 0 rfl) ?_
  refine lv_bipush (v := (12 : Int32)) hx hb d_Fields_init_19 (by decide) ?_
  refine x_sz (fun hz => ?_)
  have hsz : _ = G.2.1 34 := xk.sz (n := 33) hC hw hz (by rw [hs]; exact (hC.2.1.add (32) 2).symm)
  refine x_newa (G := G) (atype := .int) hx hb mw_127 hu 0 rfl hC hsz hw hS (a0 := (12, .inl (fun _ => 0))) (fun _ => rfl) (by decide) (by decide) (by decide) (Nat.le_of_ble_eq_true rfl) (Nat.le_of_ble_eq_true rfl) d_Fields_init_21 (fun H hw hS => ?_)
  rw [xu_self (show (xu f 31 (.inr (1, [.ref (G.2.1 32), .null, .null, .null, .null, .int 0, .null, .null, .int 0]))) 34 = .inl (G.2.2.1 0, 12, .inl (fun _ => 0)) from (xu_ne (by decide)).trans (hf 34 (by decide) (by decide)))] at hw
  have hw : xk G (xu f 31 (.inr (1, [.ref (G.2.1 32), .null, .null, .null, .null, .int 0, .null, .null, .int 0]))) (35) H := hw
  refine va_putF (D := G.1) (cl := xCl) (ci := 1) (v := .ref (G.2.1 34)) (ty := ty_Fields 1) (C := R_Fields) (T := T_Fields) (N := 9) hx hb hu fi_Fields ty_Fields tyok_Fields nm_Fields hown hC.1 hw.P (wk_D hI (by decide)) hS 31 (wk_at (by decide) (xu_eq _ _ _)) rfl 1 (by decide) (hu _ mw_176) (fun _ h9 => h9) rfl hin rfl (tyok_Fields 1 (by decide)) rfl rfl (Nat.le_of_ble_eq_true rfl) d_Fields_init_23 (fun H locs hw _ hS => ?_)
  replace hw := xk.ofset (by decide) hw
  rw [xu_same] at hw
  have hw : xk G (xu f 31 (.inr (1, [.ref (G.2.1 32), .ref (G.2.1 34), .null, .null, .null, .int 0, .null, .null, .int 0]))) (35) H := hw
  refine lv_aload_n hx hb d_Fields_init_26 rfl (lv_at hl 0 rfl) ?_
  refine lv_bipush (v := (12 : Int32)) hx hb d_Fields_init_27 (by decide) ?_
  refine x_sz (fun hz => ?_)
  have hsz : _ = G.2.1 35 := xk.sz (n := 34) hC hw hz (by rw [hs]; exact (hC.2.1.add (32) 3).symm)
  refine x_newa (G := G) (atype := .int) hx hb mw_127 hu 0 rfl hC hsz hw hS (a0 := (12, .inl (fun _ => 0))) (fun _ => rfl) (by decide) (by decide) (by decide) (Nat.le_of_ble_eq_true rfl) (Nat.le_of_ble_eq_true rfl) d_Fields_init_29 (fun H hw hS => ?_)
  rw [xu_self (show (xu f 31 (.inr (1, [.ref (G.2.1 32), .ref (G.2.1 34), .null, .null, .null, .int 0, .null, .null, .int 0]))) 35 = .inl (G.2.2.1 0, 12, .inl (fun _ => 0)) from (xu_ne (by decide)).trans (hf 35 (by decide) (by decide)))] at hw
  have hw : xk G (xu f 31 (.inr (1, [.ref (G.2.1 32), .ref (G.2.1 34), .null, .null, .null, .int 0, .null, .null, .int 0]))) (36) H := hw
  refine va_putF (D := G.1) (cl := xCl) (ci := 1) (v := .ref (G.2.1 35)) (ty := ty_Fields 2) (C := R_Fields) (T := T_Fields) (N := 9) hx hb hu fi_Fields ty_Fields tyok_Fields nm_Fields hown hC.1 hw.P (wk_D hI (by decide)) hS 31 (wk_at (by decide) (xu_eq _ _ _)) rfl 2 (by decide) (hu _ mw_177) (fun _ h9 => h9) rfl hin rfl (tyok_Fields 2 (by decide)) rfl rfl (Nat.le_of_ble_eq_true rfl) d_Fields_init_31 (fun H locs hw _ hS => ?_)
  replace hw := xk.ofset (by decide) hw
  rw [xu_same] at hw
  have hw : xk G (xu f 31 (.inr (1, [.ref (G.2.1 32), .ref (G.2.1 34), .ref (G.2.1 35), .null, .null, .int 0, .null, .null, .int 0]))) (36) H := hw
  refine lv_aload_n hx hb d_Fields_init_34 rfl (lv_at hl 0 rfl) ?_
  refine lv_bipush (v := (12 : Int32)) hx hb d_Fields_init_35 (by decide) ?_
  refine x_sz (fun hz => ?_)
  have hsz : _ = G.2.1 36 := xk.sz (n := 35) hC hw hz (by rw [hs]; exact (hC.2.1.add (32) 4).symm)
  refine x_newa (G := G) (atype := .int) hx hb mw_127 hu 0 rfl hC hsz hw hS (a0 := (12, .inl (fun _ => 0))) (fun _ => rfl) (by decide) (by decide) (by decide) (Nat.le_of_ble_eq_true rfl) (Nat.le_of_ble_eq_true rfl) d_Fields_init_37 (fun H hw hS => ?_)
  rw [xu_self (show (xu f 31 (.inr (1, [.ref (G.2.1 32), .ref (G.2.1 34), .ref (G.2.1 35), .null, .null, .int 0, .null, .null, .int 0]))) 36 = .inl (G.2.2.1 0, 12, .inl (fun _ => 0)) from (xu_ne (by decide)).trans (hf 36 (by decide) (by decide)))] at hw
  have hw : xk G (xu f 31 (.inr (1, [.ref (G.2.1 32), .ref (G.2.1 34), .ref (G.2.1 35), .null, .null, .int 0, .null, .null, .int 0]))) (37) H := hw
  refine va_putF (D := G.1) (cl := xCl) (ci := 1) (v := .ref (G.2.1 36)) (ty := ty_Fields 3) (C := R_Fields) (T := T_Fields) (N := 9) hx hb hu fi_Fields ty_Fields tyok_Fields nm_Fields hown hC.1 hw.P (wk_D hI (by decide)) hS 31 (wk_at (by decide) (xu_eq _ _ _)) rfl 3 (by decide) (hu _ mw_178) (fun _ h9 => h9) rfl hin rfl (tyok_Fields 3 (by decide)) rfl rfl (Nat.le_of_ble_eq_true rfl) d_Fields_init_39 (fun H locs hw _ hS => ?_)
  replace hw := xk.ofset (by decide) hw
  rw [xu_same] at hw
  have hw : xk G (xu f 31 (.inr (1, [.ref (G.2.1 32), .ref (G.2.1 34), .ref (G.2.1 35), .ref (G.2.1 36), .null, .int 0, .null, .null, .int 0]))) (37) H := hw
  refine lv_aload_n hx hb d_Fields_init_42 rfl (lv_at hl 0 rfl) ?_
  refine lv_bipush (v := (12 : Int32)) hx hb d_Fields_init_43 (by decide) ?_
  refine x_sz (fun hz => ?_)
  have hsz : _ = G.2.1 37 := xk.sz (n := 36) hC hw hz (by rw [hs]; exact (hC.2.1.add (32) 5).symm)
  refine x_newa (G := G) (atype := .int) hx hb mw_127 hu 0 rfl hC hsz hw hS (a0 := (12, .inl (fun _ => 0))) (fun _ => rfl) (by decide) (by decide) (by decide) (Nat.le_of_ble_eq_true rfl) (Nat.le_of_ble_eq_true rfl) d_Fields_init_45 (fun H hw hS => ?_)
  rw [xu_self (show (xu f 31 (.inr (1, [.ref (G.2.1 32), .ref (G.2.1 34), .ref (G.2.1 35), .ref (G.2.1 36), .null, .int 0, .null, .null, .int 0]))) 37 = .inl (G.2.2.1 0, 12, .inl (fun _ => 0)) from (xu_ne (by decide)).trans (hf 37 (by decide) (by decide)))] at hw
  have hw : xk G (xu f 31 (.inr (1, [.ref (G.2.1 32), .ref (G.2.1 34), .ref (G.2.1 35), .ref (G.2.1 36), .null, .int 0, .null, .null, .int 0]))) (38) H := hw
  refine va_putF (D := G.1) (cl := xCl) (ci := 1) (v := .ref (G.2.1 37)) (ty := ty_Fields 4) (C := R_Fields) (T := T_Fields) (N := 9) hx hb hu fi_Fields ty_Fields tyok_Fields nm_Fields hown hC.1 hw.P (wk_D hI (by decide)) hS 31 (wk_at (by decide) (xu_eq _ _ _)) rfl 4 (by decide) (hu _ mw_181) (fun _ h9 => h9) rfl hin rfl (tyok_Fields 4 (by decide)) rfl rfl (Nat.le_of_ble_eq_true rfl) d_Fields_init_47 (fun H locs hw _ hS => ?_)
  replace hw := xk.ofset (by decide) hw
  rw [xu_same] at hw
  have hw : xk G (xu f 31 (.inr (1, [.ref (G.2.1 32), .ref (G.2.1 34), .ref (G.2.1 35), .ref (G.2.1 36), .ref (G.2.1 37), .int 0, .null, .null, .int 0]))) (38) H := hw
  refine lv_aload_n hx hb d_Fields_init_50 rfl (lv_at hl 0 rfl) ?_
  refine lv_sipush (v := (480 : Int32)) hx hb d_Fields_init_51 (by decide) ?_
  refine x_sz (fun hz => ?_)
  have hsz : _ = G.2.1 38 := xk.sz (n := 37) hC hw hz (by rw [hs]; exact (hC.2.1.add (32) 6).symm)
  refine x_newa (G := G) (atype := .int) hx hb mw_127 hu 0 rfl hC hsz hw hS (a0 := (480, .inl (fun _ => 0))) (fun _ => rfl) (by decide) (by decide) (by decide) (Nat.le_of_ble_eq_true rfl) (Nat.le_of_ble_eq_true rfl) d_Fields_init_54 (fun H hw hS => ?_)
  rw [xu_self (show (xu f 31 (.inr (1, [.ref (G.2.1 32), .ref (G.2.1 34), .ref (G.2.1 35), .ref (G.2.1 36), .ref (G.2.1 37), .int 0, .null, .null, .int 0]))) 38 = .inl (G.2.2.1 0, 480, .inl (fun _ => 0)) from (xu_ne (by decide)).trans (hf 38 (by decide) (by decide)))] at hw
  have hw : xk G (xu f 31 (.inr (1, [.ref (G.2.1 32), .ref (G.2.1 34), .ref (G.2.1 35), .ref (G.2.1 36), .ref (G.2.1 37), .int 0, .null, .null, .int 0]))) (39) H := hw
  refine va_putF (D := G.1) (cl := xCl) (ci := 1) (v := .ref (G.2.1 38)) (ty := ty_Fields 6) (C := R_Fields) (T := T_Fields) (N := 9) hx hb hu fi_Fields ty_Fields tyok_Fields nm_Fields hown hC.1 hw.P (wk_D hI (by decide)) hS 31 (wk_at (by decide) (xu_eq _ _ _)) rfl 6 (by decide) (hu _ mw_185) (fun _ h9 => h9) rfl hin rfl (tyok_Fields 6 (by decide)) rfl rfl (Nat.le_of_ble_eq_true rfl) d_Fields_init_56 (fun H locs hw _ hS => ?_)
  replace hw := xk.ofset (by decide) hw
  rw [xu_same] at hw
  have hw : xk G (xu f 31 (.inr (1, [.ref (G.2.1 32), .ref (G.2.1 34), .ref (G.2.1 35), .ref (G.2.1 36), .ref (G.2.1 37), .int 0, .ref (G.2.1 38), .null, .int 0]))) (39) H := hw
  refine lv_aload_n hx hb d_Fields_init_59 rfl (lv_at hl 0 rfl) ?_
  refine lv_sipush (v := (480 : Int32)) hx hb d_Fields_init_60 (by decide) ?_
  refine x_sz (fun hz => ?_)
  have hsz : _ = G.2.1 39 := xk.sz (n := 38) hC hw hz (by rw [hs]; exact (hC.2.1.add (32) 7).symm)
  refine x_newa (G := G) (atype := .int) hx hb mw_127 hu 0 rfl hC hsz hw hS (a0 := (480, .inl (fun _ => 0))) (fun _ => rfl) (by decide) (by decide) (by decide) (Nat.le_of_ble_eq_true rfl) (Nat.le_of_ble_eq_true rfl) d_Fields_init_63 (fun H hw hS => ?_)
  rw [xu_self (show (xu f 31 (.inr (1, [.ref (G.2.1 32), .ref (G.2.1 34), .ref (G.2.1 35), .ref (G.2.1 36), .ref (G.2.1 37), .int 0, .ref (G.2.1 38), .null, .int 0]))) 39 = .inl (G.2.2.1 0, 480, .inl (fun _ => 0)) from (xu_ne (by decide)).trans (hf 39 (by decide) (by decide)))] at hw
  have hw : xk G (xu f 31 (.inr (1, [.ref (G.2.1 32), .ref (G.2.1 34), .ref (G.2.1 35), .ref (G.2.1 36), .ref (G.2.1 37), .int 0, .ref (G.2.1 38), .null, .int 0]))) (40) H := hw
  refine va_putF (D := G.1) (cl := xCl) (ci := 1) (v := .ref (G.2.1 39)) (ty := ty_Fields 7) (C := R_Fields) (T := T_Fields) (N := 9) hx hb hu fi_Fields ty_Fields tyok_Fields nm_Fields hown hC.1 hw.P (wk_D hI (by decide)) hS 31 (wk_at (by decide) (xu_eq _ _ _)) rfl 7 (by decide) (hu _ mw_186) (fun _ h9 => h9) rfl hin rfl (tyok_Fields 7 (by decide)) rfl rfl (Nat.le_of_ble_eq_true rfl) d_Fields_init_65 (fun H locs hw _ hS => ?_)
  replace hw := xk.ofset (by decide) hw
  rw [xu_same] at hw
  have hw : xk G (xu f 31 (.inr (1, [.ref (G.2.1 32), .ref (G.2.1 34), .ref (G.2.1 35), .ref (G.2.1 36), .ref (G.2.1 37), .int 0, .ref (G.2.1 38), .ref (G.2.1 39), .int 0]))) (40) H := hw
  rw [xu_self (show f 31 = .inr (1, [.ref (G.2.1 32), .ref (G.2.1 34), .ref (G.2.1 35), .ref (G.2.1 36), .ref (G.2.1 37), .int 0, .ref (G.2.1 38), .ref (G.2.1 39), .int 0]) from (hf 31 (by decide) (by decide)))] at hw
  exact W.vret hx hb hr (fun t ht hW => ⟨rfl, by rw [ht]; exact hw, hS.F ht⟩) hS.2.2 d_Fields_init_68

def y_Request_init : MethodName := ⟨"PlainOrigin$Request", "<init>", "()V"⟩
def ws_Request_init : List Cond := Cond.code y_Request_init prog_9_method_1_code 1 none :: UW
theorem hd_Request_init : y_Request_init.cls ≠ "java/lang/invoke/MethodHandle" ∧ y_Request_init.cls ≠ "java/lang/invoke/VarHandle" ∧ (parseMethodDescriptor y_Request_init.desc).map (fun d => d.parameters.length) = some 0 := by decide +kernel
theorem d_Request_init_0 : decode prog_9_method_1_code 0 = .ok (.aload_n 0, 1) := by decide +kernel
theorem d_Request_init_1 : decode prog_9_method_1_code 1 = .ok (.invokespecial 3, 3) := by decide +kernel
theorem d_Request_init_4 : decode prog_9_method_1_code 4 = .ok (.aload_n 0, 1) := by decide +kernel
theorem d_Request_init_5 : decode prog_9_method_1_code 5 = .ok (.new 9, 3) := by decide +kernel
theorem d_Request_init_8 : decode prog_9_method_1_code 8 = .ok (.dup, 1) := by decide +kernel
theorem d_Request_init_9 : decode prog_9_method_1_code 9 = .ok (.invokespecial 11, 3) := by decide +kernel
theorem d_Request_init_12 : decode prog_9_method_1_code 12 = .ok (.putfield 12, 3) := by decide +kernel
theorem d_Request_init_15 : decode prog_9_method_1_code 15 = .ok (.aload_n 0, 1) := by decide +kernel
theorem d_Request_init_16 : decode prog_9_method_1_code 16 = .ok (.new 18, 3) := by decide +kernel
theorem d_Request_init_19 : decode prog_9_method_1_code 19 = .ok (.dup, 1) := by decide +kernel
theorem d_Request_init_20 : decode prog_9_method_1_code 20 = .ok (.bipush (80), 2) := by decide +kernel
theorem d_Request_init_22 : decode prog_9_method_1_code 22 = .ok (.invokespecial 20, 3) := by decide +kernel
theorem d_Request_init_25 : decode prog_9_method_1_code 25 = .ok (.putfield 23, 3) := by decide +kernel
theorem d_Request_init_28 : decode prog_9_method_1_code 28 = .ok (.aload_n 0, 1) := by decide +kernel
theorem d_Request_init_29 : decode prog_9_method_1_code 29 = .ok (.new 18, 3) := by decide +kernel
theorem d_Request_init_32 : decode prog_9_method_1_code 32 = .ok (.dup, 1) := by decide +kernel
theorem d_Request_init_33 : decode prog_9_method_1_code 33 = .ok (.sipush (200), 3) := by decide +kernel
theorem d_Request_init_36 : decode prog_9_method_1_code 36 = .ok (.invokespecial 20, 3) := by decide +kernel
theorem d_Request_init_39 : decode prog_9_method_1_code 39 = .ok (.putfield 27, 3) := by decide +kernel
theorem d_Request_init_42 : decode prog_9_method_1_code 42 = .ok (.return_, 1) := by decide +kernel
set_option maxHeartbeats 4000000 in
set_option maxRecDepth 100000 in
theorem n_Request_init (l : Launch) (G : xG) (f : Nat → va_E) (hf : ∀ j, 30 ≤ j → j < 44 → f j = xcl G x_s0 j) : Met l y_Request_init ws_Request_init { frames := 3, cells := 13, slots := 2263, locals := 61 } (xPk G (xu f 30 (.inr (2, [.null, .null, .null, .null, .int 0, .int 0, .int 0, .int 0, .int 0]))) (31) [.ref (G.2.1 30)]) (xQk G f (44)) 13 (2263) (xA G) := by
  refine Met.ofW (cc := prog_9_method_1_code) (maxL := 1) (ret := none) (by decide) rfl ?_
  intro p e s m args below meth c s₁ B hml hv
  obtain ⟨rfl, hs, hw, hC⟩ := hv
  have hx := B.exec
  have hb := B.bytes
  have hr := B.returns
  have hu : ∀ w ∈ UW, w.before _ s = true := fun w h => atoms_spec B.pre w (List.mem_cons_of_mem _ h)
  have hown : s.vm.findClass R_Request = some m.cls := findClass_of_methodNamed B.named
  have hlocks := B.notSynchronized
  have hin : meth.name = "<init>" := (name_of_methodNamed B.named B.method).1
  have hI : xInj G := hC.2.1.inj
  have hS : va_S (xA G) s.heap s.heap [] := va_S.rf
  have hl := lv_entry ([.ref (G.2.1 30)]) (n := 1) (Nat.le_of_ble_eq_true rfl)
  rw [lg_entry_eq]
  generalize (lg_sl ([.ref (G.2.1 30)]) ++ List.replicate (1 - (lg_sl ([.ref (G.2.1 30)])).length) Slot.unset).toArray = ls at hl ⊢
  have hl : lv_has ls 1 [(0, .ref (G.2.1 30))] := hl
  refine lv_aload_n hx hb d_Request_init_0 rfl (lv_at hl 0 rfl) ?_
  refine W.objInit hx hb hown (hu _ mw_164) (hu _ mw_92) (hu _ mw_93) rfl (by rw [hml]; exact hl.1) rfl d_Request_init_1 (Nat.le_of_ble_eq_true rfl) (Nat.le_of_ble_eq_true rfl) ?_
  show W p l e _ s m _ below meth c _ _ _ _ _ (F0 m 4 ls [])
  refine lv_aload_n hx hb d_Request_init_4 rfl (lv_at hl 0 rfl) ?_
  refine x_sz (fun hz => ?_)
  have hsz : _ = G.2.1 31 := xk.sz (n := 30) hC hw hz (by rw [hs]; exact (hC.2.1.add (31) 0).symm)
  refine x_new hx hb (C := R_Fields) (T := T_Fields) (N := 9) (ci := 1) hu fi_Fields ty_Fields tyok_Fields hown mw_165 mw_166 mw_66 hC hsz hw hS rfl (fs := [.null, .null, .null, .null, .null, .int 0, .null, .null, .int 0]) (by decide) (Nat.le_of_ble_eq_true rfl) (Nat.le_of_ble_eq_true rfl) d_Request_init_5 (fun H hw hS => ?_)
  refine lv_dup hx hb d_Request_init_8 rfl ?_
  refine x_sz (fun hz => ?_)
  have hsz : _ = G.2.1 32 := xk.sz (n := 31) hC hw hz (by rw [hs]; exact (hC.2.1.add (31) 1).symm)
  refine x_callC hS (W.runI (As := []) (rest := [.ref (G.2.1 31), .ref (G.2.1 30)]) ⟨hx, hb, hml, hown, hu⟩ (n_Fields_init l G (xu f 30 (.inr (2, [.null, .null, .null, .null, .int 0, .int 0, .int 0, .int 0, .int 0]))) (fun j h1 h2 => (xu_ne (by omega)).trans (hf j (by omega) (by omega)))) (cwI (y := y_Fields_init) 0 hu (uw_I mw_169) rfl rfl rfl (hu _ mw_66) (hu _ mw_167) (hu _ mw_168) rfl hd_Fields_init ⟨Nat.le_of_ble_eq_true rfl, Nat.le_of_ble_eq_true rfl⟩) (x_preC hC hw hsz) rfl rfl hl.1 rfl (lv_room (Nat.le_of_ble_eq_true rfl)) d_Request_init_9 ⟨Nat.le_of_ble_eq_true rfl, Nat.le_of_ble_eq_true rfl⟩) (fun H locs hw hS => ?_)
  refine va_putF (D := G.1) (cl := xCl) (ci := 2) (v := .ref (G.2.1 31)) (ty := ty_Request 0) (C := R_Request) (T := T_Request) (N := 9) hx hb hu fi_Request ty_Request tyok_Request nm_Request hown hC.1 hw.P (wk_D hI (by decide)) hS 30 (wk_at (by decide) (xu_eq _ _ _)) rfl 0 (by decide) (hu _ mw_209) (fun _ h9 => h9) rfl hin rfl (tyok_Request 0 (by decide)) rfl rfl (Nat.le_of_ble_eq_true rfl) d_Request_init_12 (fun H locs hw _ hS => ?_)
  replace hw := xk.ofset (by decide) hw
  rw [xu_same] at hw
  have hw : xk G (xu f 30 (.inr (2, [.ref (G.2.1 31), .null, .null, .null, .int 0, .int 0, .int 0, .int 0, .int 0]))) (40) H := hw
  refine lv_aload_n hx hb d_Request_init_15 rfl (lv_at hl 0 rfl) ?_
  refine x_sz (fun hz => ?_)
  have hsz : _ = G.2.1 40 := xk.sz (n := 39) hC hw hz (by rw [hs]; exact (hC.2.1.add (31) 9).symm)
  refine x_new hx hb (C := R_Bytes) (T := T_Bytes) (N := 2) (ci := 0) hu fi_Bytes ty_Bytes tyok_Bytes hown mw_207 mw_108 mw_63 hC hsz hw hS rfl (fs := [.null, .int 0]) (by decide) (Nat.le_of_ble_eq_true rfl) (Nat.le_of_ble_eq_true rfl) d_Request_init_16 (fun H hw hS => ?_)
  refine lv_dup hx hb d_Request_init_19 rfl ?_
  refine lv_bipush (v := (80 : Int32)) hx hb d_Request_init_20 (by decide) ?_
  refine x_sz (fun hz => ?_)
  have hsz : _ = G.2.1 41 := xk.sz (n := 40) hC hw hz (by rw [hs]; exact (hC.2.1.add (31) 10).symm)
  refine x_callC hS (W.runI (As := [.int (80 : Int32)]) (rest := [.ref (G.2.1 40), .ref (G.2.1 30)]) ⟨hx, hb, hml, hown, hu⟩ (n_Bytes_init l G (xu f 30 (.inr (2, [.ref (G.2.1 31), .null, .null, .null, .int 0, .int 0, .int 0, .int 0, .int 0]))) 40 (80 : Int32) 80 (by omega) (show (xu f 30 (.inr (2, [.ref (G.2.1 31), .null, .null, .null, .int 0, .int 0, .int 0, .int 0, .int 0]))) 40 = .inr (0, [.ref (G.2.1 41), .int 0]) from (xu_ne (by decide)).trans (hf 40 (by decide) (by decide))) (show (xu f 30 (.inr (2, [.ref (G.2.1 31), .null, .null, .null, .int 0, .int 0, .int 0, .int 0, .int 0]))) 41 = .inl (G.2.2.1 0, 80, .inl (fun _ => 0)) from (xu_ne (by decide)).trans (hf 41 (by decide) (by decide))) (by decide) (by decide) (by decide)) (cwI (y := y_Bytes_init) 1 hu (uw_I mw_111) rfl rfl rfl (hu _ mw_63) (hu _ mw_208) (hu _ mw_110) rfl hd_Bytes_init ⟨Nat.le_of_ble_eq_true rfl, Nat.le_of_ble_eq_true rfl⟩) (x_preC hC hw hsz) rfl rfl hl.1 rfl (lv_room (Nat.le_of_ble_eq_true rfl)) d_Request_init_22 ⟨Nat.le_of_ble_eq_true rfl, Nat.le_of_ble_eq_true rfl⟩) (fun H locs hw hS => ?_)
  refine va_putF (D := G.1) (cl := xCl) (ci := 2) (v := .ref (G.2.1 40)) (ty := ty_Request 1) (C := R_Request) (T := T_Request) (N := 9) hx hb hu fi_Request ty_Request tyok_Request nm_Request hown hC.1 hw.P (wk_D hI (by decide)) hS 30 (wk_at (by decide) (xu_eq _ _ _)) rfl 1 (by decide) (hu _ mw_213) (fun _ h9 => h9) rfl hin rfl (tyok_Request 1 (by decide)) rfl rfl (Nat.le_of_ble_eq_true rfl) d_Request_init_25 (fun H locs hw _ hS => ?_)
  replace hw := xk.ofset (by decide) hw
  rw [xu_same] at hw
  have hw : xk G (xu f 30 (.inr (2, [.ref (G.2.1 31), .ref (G.2.1 40), .null, .null, .int 0, .int 0, .int 0, .int 0, .int 0]))) (42) H := hw
  refine lv_aload_n hx hb d_Request_init_28 rfl (lv_at hl 0 rfl) ?_
  refine x_sz (fun hz => ?_)
  have hsz : _ = G.2.1 42 := xk.sz (n := 41) hC hw hz (by rw [hs]; exact (hC.2.1.add (31) 11).symm)
  refine x_new hx hb (C := R_Bytes) (T := T_Bytes) (N := 2) (ci := 0) hu fi_Bytes ty_Bytes tyok_Bytes hown mw_207 mw_108 mw_63 hC hsz hw hS rfl (fs := [.null, .int 0]) (by decide) (Nat.le_of_ble_eq_true rfl) (Nat.le_of_ble_eq_true rfl) d_Request_init_29 (fun H hw hS => ?_)
  refine lv_dup hx hb d_Request_init_32 rfl ?_
  refine lv_sipush (v := (200 : Int32)) hx hb d_Request_init_33 (by decide) ?_
  refine x_sz (fun hz => ?_)
  have hsz : _ = G.2.1 43 := xk.sz (n := 42) hC hw hz (by rw [hs]; exact (hC.2.1.add (31) 12).symm)
  refine x_callC hS (W.runI (As := [.int (200 : Int32)]) (rest := [.ref (G.2.1 42), .ref (G.2.1 30)]) ⟨hx, hb, hml, hown, hu⟩ (n_Bytes_init l G (xu f 30 (.inr (2, [.ref (G.2.1 31), .ref (G.2.1 40), .null, .null, .int 0, .int 0, .int 0, .int 0, .int 0]))) 42 (200 : Int32) 200 (by omega) (show (xu f 30 (.inr (2, [.ref (G.2.1 31), .ref (G.2.1 40), .null, .null, .int 0, .int 0, .int 0, .int 0, .int 0]))) 42 = .inr (0, [.ref (G.2.1 43), .int 0]) from (xu_ne (by decide)).trans (hf 42 (by decide) (by decide))) (show (xu f 30 (.inr (2, [.ref (G.2.1 31), .ref (G.2.1 40), .null, .null, .int 0, .int 0, .int 0, .int 0, .int 0]))) 43 = .inl (G.2.2.1 0, 200, .inl (fun _ => 0)) from (xu_ne (by decide)).trans (hf 43 (by decide) (by decide))) (by decide) (by decide) (by decide)) (cwI (y := y_Bytes_init) 1 hu (uw_I mw_111) rfl rfl rfl (hu _ mw_63) (hu _ mw_208) (hu _ mw_110) rfl hd_Bytes_init ⟨Nat.le_of_ble_eq_true rfl, Nat.le_of_ble_eq_true rfl⟩) (x_preC hC hw hsz) rfl rfl hl.1 rfl (lv_room (Nat.le_of_ble_eq_true rfl)) d_Request_init_36 ⟨Nat.le_of_ble_eq_true rfl, Nat.le_of_ble_eq_true rfl⟩) (fun H locs hw hS => ?_)
  refine va_putF (D := G.1) (cl := xCl) (ci := 2) (v := .ref (G.2.1 42)) (ty := ty_Request 2) (C := R_Request) (T := T_Request) (N := 9) hx hb hu fi_Request ty_Request tyok_Request nm_Request hown hC.1 hw.P (wk_D hI (by decide)) hS 30 (wk_at (by decide) (xu_eq _ _ _)) rfl 2 (by decide) (hu _ mw_215) (fun _ h9 => h9) rfl hin rfl (tyok_Request 2 (by decide)) rfl rfl (Nat.le_of_ble_eq_true rfl) d_Request_init_39 (fun H locs hw _ hS => ?_)
  replace hw := xk.ofset (by decide) hw
  rw [xu_same] at hw
  have hw : xk G (xu f 30 (.inr (2, [.ref (G.2.1 31), .ref (G.2.1 40), .ref (G.2.1 42), .null, .int 0, .int 0, .int 0, .int 0, .int 0]))) (44) H := hw
  rw [xu_self (show f 30 = .inr (2, [.ref (G.2.1 31), .ref (G.2.1 40), .ref (G.2.1 42), .null, .int 0, .int 0, .int 0, .int 0, .int 0]) from (hf 30 (by decide) (by decide)))] at hw
  exact W.vret hx hb hr (fun t ht hW => ⟨rfl, by rw [ht]; exact hw, hS.F ht⟩) hS.2.2 d_Request_init_42

def y_Reader_init : MethodName := ⟨"PlainOrigin$Reader", "<init>", "()V"⟩
def ws_Reader_init : List Cond := Cond.code y_Reader_init prog_8_method_1_code 1 none :: UW
theorem hd_Reader_init : y_Reader_init.cls ≠ "java/lang/invoke/MethodHandle" ∧ y_Reader_init.cls ≠ "java/lang/invoke/VarHandle" ∧ (parseMethodDescriptor y_Reader_init.desc).map (fun d => d.parameters.length) = some 0 := by decide +kernel
theorem d_Reader_init_0 : decode prog_8_method_1_code 0 = .ok (.aload_n 0, 1) := by decide +kernel
theorem d_Reader_init_1 : decode prog_8_method_1_code 1 = .ok (.invokespecial 3, 3) := by decide +kernel
theorem d_Reader_init_4 : decode prog_8_method_1_code 4 = .ok (.aload_n 0, 1) := by decide +kernel
theorem d_Reader_init_5 : decode prog_8_method_1_code 5 = .ok (.new 9, 3) := by decide +kernel
theorem d_Reader_init_8 : decode prog_8_method_1_code 8 = .ok (.dup, 1) := by decide +kernel
theorem d_Reader_init_9 : decode prog_8_method_1_code 9 = .ok (.bipush (80), 2) := by decide +kernel
theorem d_Reader_init_11 : decode prog_8_method_1_code 11 = .ok (.invokespecial 11, 3) := by decide +kernel
theorem d_Reader_init_14 : decode prog_8_method_1_code 14 = .ok (.putfield 14, 3) := by decide +kernel
theorem d_Reader_init_17 : decode prog_8_method_1_code 17 = .ok (.aload_n 0, 1) := by decide +kernel
theorem d_Reader_init_18 : decode prog_8_method_1_code 18 = .ok (.new 20, 3) := by decide +kernel
theorem d_Reader_init_21 : decode prog_8_method_1_code 21 = .ok (.dup, 1) := by decide +kernel
theorem d_Reader_init_22 : decode prog_8_method_1_code 22 = .ok (.invokespecial 22, 3) := by decide +kernel
theorem d_Reader_init_25 : decode prog_8_method_1_code 25 = .ok (.putfield 23, 3) := by decide +kernel
theorem d_Reader_init_28 : decode prog_8_method_1_code 28 = .ok (.aload_n 0, 1) := by decide +kernel
theorem d_Reader_init_29 : decode prog_8_method_1_code 29 = .ok (.iconst 0, 1) := by decide +kernel
theorem d_Reader_init_30 : decode prog_8_method_1_code 30 = .ok (.putfield 27, 3) := by decide +kernel
theorem d_Reader_init_33 : decode prog_8_method_1_code 33 = .ok (.return_, 1) := by decide +kernel
set_option maxHeartbeats 4000000 in
set_option maxRecDepth 100000 in
theorem n_Reader_init (l : Launch) (G : xG) (f : Nat → va_E) (hf : ∀ j, 27 ≤ j → j < 44 → f j = xcl G x_s0 j) : Met l y_Reader_init ws_Reader_init { frames := 4, cells := 16, slots := 2354, locals := 81 } (xPk G (xu f 27 (.inr (3, [.null, .null, .int 0, .int 0, .int 0, .int 0]))) (28) [.ref (G.2.1 27)]) (xQk G f (44)) 16 (2354) (xA G) := by
  refine Met.ofW (cc := prog_8_method_1_code) (maxL := 1) (ret := none) (by decide) rfl ?_
  intro p e s m args below meth c s₁ B hml hv
  obtain ⟨rfl, hs, hw, hC⟩ := hv
  have hx := B.exec
  have hb := B.bytes
  have hr := B.returns
  have hu : ∀ w ∈ UW, w.before _ s = true := fun w h => atoms_spec B.pre w (List.mem_cons_of_mem _ h)
  have hown : s.vm.findClass R_Reader = some m.cls := findClass_of_methodNamed B.named
  have hlocks := B.notSynchronized
  have hin : meth.name = "<init>" := (name_of_methodNamed B.named B.method).1
  have hI : xInj G := hC.2.1.inj
  have hS : va_S (xA G) s.heap s.heap [] := va_S.rf
  have hl := lv_entry ([.ref (G.2.1 27)]) (n := 1) (Nat.le_of_ble_eq_true rfl)
  rw [lg_entry_eq]
  generalize (lg_sl ([.ref (G.2.1 27)]) ++ List.replicate (1 - (lg_sl ([.ref (G.2.1 27)])).length) Slot.unset).toArray = ls at hl ⊢
  have hl : lv_has ls 1 [(0, .ref (G.2.1 27))] := hl
  refine lv_aload_n hx hb d_Reader_init_0 rfl (lv_at hl 0 rfl) ?_
  refine W.objInit hx hb hown (hu _ mw_156) (hu _ mw_92) (hu _ mw_93) rfl (by rw [hml]; exact hl.1) rfl d_Reader_init_1 (Nat.le_of_ble_eq_true rfl) (Nat.le_of_ble_eq_true rfl) ?_
  show W p l e _ s m _ below meth c _ _ _ _ _ (F0 m 4 ls [])
  refine lv_aload_n hx hb d_Reader_init_4 rfl (lv_at hl 0 rfl) ?_
  refine x_sz (fun hz => ?_)
  have hsz : _ = G.2.1 28 := xk.sz (n := 27) hC hw hz (by rw [hs]; exact (hC.2.1.add (28) 0).symm)
  refine x_new hx hb (C := R_Bytes) (T := T_Bytes) (N := 2) (ci := 0) hu fi_Bytes ty_Bytes tyok_Bytes hown mw_157 mw_108 mw_63 hC hsz hw hS rfl (fs := [.null, .int 0]) (by decide) (Nat.le_of_ble_eq_true rfl) (Nat.le_of_ble_eq_true rfl) d_Reader_init_5 (fun H hw hS => ?_)
  refine lv_dup hx hb d_Reader_init_8 rfl ?_
  refine lv_bipush (v := (80 : Int32)) hx hb d_Reader_init_9 (by decide) ?_
  refine x_sz (fun hz => ?_)
  have hsz : _ = G.2.1 29 := xk.sz (n := 28) hC hw hz (by rw [hs]; exact (hC.2.1.add (28) 1).symm)
  refine x_callC hS (W.runI (As := [.int (80 : Int32)]) (rest := [.ref (G.2.1 28), .ref (G.2.1 27)]) ⟨hx, hb, hml, hown, hu⟩ (n_Bytes_init l G (xu f 27 (.inr (3, [.null, .null, .int 0, .int 0, .int 0, .int 0]))) 28 (80 : Int32) 80 (by omega) (show (xu f 27 (.inr (3, [.null, .null, .int 0, .int 0, .int 0, .int 0]))) 28 = .inr (0, [.ref (G.2.1 29), .int 0]) from (xu_ne (by decide)).trans (hf 28 (by decide) (by decide))) (show (xu f 27 (.inr (3, [.null, .null, .int 0, .int 0, .int 0, .int 0]))) 29 = .inl (G.2.2.1 0, 80, .inl (fun _ => 0)) from (xu_ne (by decide)).trans (hf 29 (by decide) (by decide))) (by decide) (by decide) (by decide)) (cwI (y := y_Bytes_init) 1 hu (uw_I mw_111) rfl rfl rfl (hu _ mw_63) (hu _ mw_158) (hu _ mw_110) rfl hd_Bytes_init ⟨Nat.le_of_ble_eq_true rfl, Nat.le_of_ble_eq_true rfl⟩) (x_preC hC hw hsz) rfl rfl hl.1 rfl (lv_room (Nat.le_of_ble_eq_true rfl)) d_Reader_init_11 ⟨Nat.le_of_ble_eq_true rfl, Nat.le_of_ble_eq_true rfl⟩) (fun H locs hw hS => ?_)
  refine va_putF (D := G.1) (cl := xCl) (ci := 3) (v := .ref (G.2.1 28)) (ty := ty_Reader 0) (C := R_Reader) (T := T_Reader) (N := 6) hx hb hu fi_Reader ty_Reader tyok_Reader nm_Reader hown hC.1 hw.P (wk_D hI (by decide)) hS 27 (wk_at (by decide) (xu_eq _ _ _)) rfl 0 (by decide) (hu _ mw_248) (fun _ h9 => h9) rfl hin rfl (tyok_Reader 0 (by decide)) rfl rfl (Nat.le_of_ble_eq_true rfl) d_Reader_init_14 (fun H locs hw _ hS => ?_)
  replace hw := xk.ofset (by decide) hw
  rw [xu_same] at hw
  have hw : xk G (xu f 27 (.inr (3, [.ref (G.2.1 28), .null, .int 0, .int 0, .int 0, .int 0]))) (30) H := hw
  refine lv_aload_n hx hb d_Reader_init_17 rfl (lv_at hl 0 rfl) ?_
  refine x_sz (fun hz => ?_)
  have hsz : _ = G.2.1 30 := xk.sz (n := 29) hC hw hz (by rw [hs]; exact (hC.2.1.add (28) 2).symm)
  refine x_new hx hb (C := R_Request) (T := T_Request) (N := 9) (ci := 2) hu fi_Request ty_Request tyok_Request hown mw_159 mw_160 mw_65 hC hsz hw hS rfl (fs := [.null, .null, .null, .null, .int 0, .int 0, .int 0, .int 0, .int 0]) (by decide) (Nat.le_of_ble_eq_true rfl) (Nat.le_of_ble_eq_true rfl) d_Reader_init_18 (fun H hw hS => ?_)
  refine lv_dup hx hb d_Reader_init_21 rfl ?_
  refine x_sz (fun hz => ?_)
  have hsz : _ = G.2.1 31 := xk.sz (n := 30) hC hw hz (by rw [hs]; exact (hC.2.1.add (28) 3).symm)
  refine x_callC hS (W.runI (As := []) (rest := [.ref (G.2.1 30), .ref (G.2.1 27)]) ⟨hx, hb, hml, hown, hu⟩ (n_Request_init l G (xu f 27 (.inr (3, [.ref (G.2.1 28), .null, .int 0, .int 0, .int 0, .int 0]))) (fun j h1 h2 => (xu_ne (by omega)).trans (hf j (by omega) (by omega)))) (cwI (y := y_Request_init) 0 hu (uw_I mw_163) rfl rfl rfl (hu _ mw_65) (hu _ mw_161) (hu _ mw_162) rfl hd_Request_init ⟨Nat.le_of_ble_eq_true rfl, Nat.le_of_ble_eq_true rfl⟩) (x_preC hC hw hsz) rfl rfl hl.1 rfl (lv_room (Nat.le_of_ble_eq_true rfl)) d_Reader_init_22 ⟨Nat.le_of_ble_eq_true rfl, Nat.le_of_ble_eq_true rfl⟩) (fun H locs hw hS => ?_)
  refine va_putF (D := G.1) (cl := xCl) (ci := 3) (v := .ref (G.2.1 30)) (ty := ty_Reader 1) (C := R_Reader) (T := T_Reader) (N := 6) hx hb hu fi_Reader ty_Reader tyok_Reader nm_Reader hown hC.1 hw.P (wk_D hI (by decide)) hS 27 (wk_at (by decide) (xu_eq _ _ _)) rfl 1 (by decide) (hu _ mw_249) (fun _ h9 => h9) rfl hin rfl (tyok_Reader 1 (by decide)) rfl rfl (Nat.le_of_ble_eq_true rfl) d_Reader_init_25 (fun H locs hw _ hS => ?_)
  replace hw := xk.ofset (by decide) hw
  rw [xu_same] at hw
  have hw : xk G (xu f 27 (.inr (3, [.ref (G.2.1 28), .ref (G.2.1 30), .int 0, .int 0, .int 0, .int 0]))) (44) H := hw
  refine lv_aload_n hx hb d_Reader_init_28 rfl (lv_at hl 0 rfl) ?_
  refine lv_iconst (v := (0 : Int32)) hx hb d_Reader_init_29 (by decide) ?_
  refine va_put (D := G.1) (cl := xCl) (ci := 3) (v := .int (0 : Int32)) (ty := ty_Reader 2) (C := R_Reader) (T := T_Reader) (N := 6) hx hb hu fi_Reader ty_Reader tyok_Reader nm_Reader hown hC.1 hw.P (wk_D hI (by decide)) hS 27 (wk_at (by decide) (xu_eq _ _ _)) rfl 2 (by decide) (hu _ mw_251) (fun _ h9 => h9) rfl (tyok_Reader 2 (by decide)) rfl rfl (Nat.le_of_ble_eq_true rfl) d_Reader_init_30 (fun H locs hw _ hS => ?_)
  replace hw := xk.ofset (by decide) hw
  rw [xu_same] at hw
  have hw : xk G (xu f 27 (.inr (3, [.ref (G.2.1 28), .ref (G.2.1 30), .int (0 : Int32), .int 0, .int 0, .int 0]))) (44) H := hw
  rw [xu_self (show f 27 = .inr (3, [.ref (G.2.1 28), .ref (G.2.1 30), .int (0 : Int32), .int 0, .int 0, .int 0]) from (hf 27 (by decide) (by decide)))] at hw
  exact W.vret hx hb hr (fun t ht hW => ⟨rfl, by rw [ht]; exact hw, hS.F ht⟩) hS.2.2 d_Reader_init_33

def y_Range_init : MethodName := ⟨"PlainOrigin$Range", "<init>", "()V"⟩
def ws_Range_init : List Cond := Cond.code y_Range_init prog_7_method_1_code 1 none :: UW
theorem hd_Range_init : y_Range_init.cls ≠ "java/lang/invoke/MethodHandle" ∧ y_Range_init.cls ≠ "java/lang/invoke/VarHandle" ∧ (parseMethodDescriptor y_Range_init.desc).map (fun d => d.parameters.length) = some 0 := by decide +kernel
theorem d_Range_init_0 : decode prog_7_method_1_code 0 = .ok (.aload_n 0, 1) := by decide +kernel
theorem d_Range_init_1 : decode prog_7_method_1_code 1 = .ok (.invokespecial 3, 3) := by decide +kernel
theorem d_Range_init_4 : decode prog_7_method_1_code 4 = .ok (.return_, 1) := by decide +kernel
set_option maxHeartbeats 4000000 in
set_option maxRecDepth 100000 in
theorem n_Range_init (l : Launch) (G : xG) (f : Nat → va_E) (hf : ∀ j, 45 ≤ j → j < 46 → f j = xcl G x_s0 j) : Met l y_Range_init ws_Range_init { frames := 1, cells := 0, slots := 0, locals := 20 } (xPk G (xu f 45 (.inr (6, [.int 0, .int 0]))) (46) [.ref (G.2.1 45)]) (xQk G f (46)) 0 (0) (xA G) := by
  refine Met.ofW (cc := prog_7_method_1_code) (maxL := 1) (ret := none) (by decide) rfl ?_
  intro p e s m args below meth c s₁ B hml hv
  obtain ⟨rfl, hs, hw, hC⟩ := hv
  have hx := B.exec
  have hb := B.bytes
  have hr := B.returns
  have hu : ∀ w ∈ UW, w.before _ s = true := fun w h => atoms_spec B.pre w (List.mem_cons_of_mem _ h)
  have hown : s.vm.findClass R_Range = some m.cls := findClass_of_methodNamed B.named
  have hlocks := B.notSynchronized
  have hin : meth.name = "<init>" := (name_of_methodNamed B.named B.method).1
  have hI : xInj G := hC.2.1.inj
  have hS : va_S (xA G) s.heap s.heap [] := va_S.rf
  have hl := lv_entry ([.ref (G.2.1 45)]) (n := 1) (Nat.le_of_ble_eq_true rfl)
  rw [lg_entry_eq]
  generalize (lg_sl ([.ref (G.2.1 45)]) ++ List.replicate (1 - (lg_sl ([.ref (G.2.1 45)])).length) Slot.unset).toArray = ls at hl ⊢
  have hl : lv_has ls 1 [(0, .ref (G.2.1 45))] := hl
  refine lv_aload_n hx hb d_Range_init_0 rfl (lv_at hl 0 rfl) ?_
  refine W.objInit hx hb hown (hu _ mw_280) (hu _ mw_92) (hu _ mw_93) rfl (by rw [hml]; exact hl.1) rfl d_Range_init_1 (Nat.le_of_ble_eq_true rfl) (Nat.le_of_ble_eq_true rfl) ?_
  show W p l e _ s m _ below meth c _ _ _ _ _ (F0 m 4 ls [])
  rw [xu_self (show f 45 = .inr (6, [.int 0, .int 0]) from (hf 45 (by decide) (by decide)))] at hw
  exact W.vret hx hb hr (fun t ht hW => ⟨rfl, by rw [ht]; exact hw, hS.F ht⟩) hS.2.2 d_Range_init_4

def y_Answer_init : MethodName := ⟨"PlainOrigin$Answer", "<init>", "()V"⟩
def ws_Answer_init : List Cond := Cond.code y_Answer_init prog_2_method_1_code 1 none :: UW
theorem hd_Answer_init : y_Answer_init.cls ≠ "java/lang/invoke/MethodHandle" ∧ y_Answer_init.cls ≠ "java/lang/invoke/VarHandle" ∧ (parseMethodDescriptor y_Answer_init.desc).map (fun d => d.parameters.length) = some 0 := by decide +kernel
theorem d_Answer_init_0 : decode prog_2_method_1_code 0 = .ok (.aload_n 0, 1) := by decide +kernel
theorem d_Answer_init_1 : decode prog_2_method_1_code 1 = .ok (.invokespecial 3, 3) := by decide +kernel
theorem d_Answer_init_4 : decode prog_2_method_1_code 4 = .ok (.aload_n 0, 1) := by decide +kernel
theorem d_Answer_init_5 : decode prog_2_method_1_code 5 = .ok (.new 9, 3) := by decide +kernel
theorem d_Answer_init_8 : decode prog_2_method_1_code 8 = .ok (.dup, 1) := by decide +kernel
theorem d_Answer_init_9 : decode prog_2_method_1_code 9 = .ok (.invokespecial 11, 3) := by decide +kernel
theorem d_Answer_init_12 : decode prog_2_method_1_code 12 = .ok (.putfield 12, 3) := by decide +kernel
theorem d_Answer_init_15 : decode prog_2_method_1_code 15 = .ok (.aload_n 0, 1) := by decide +kernel
theorem d_Answer_init_16 : decode prog_2_method_1_code 16 = .ok (.new 18, 3) := by decide +kernel
theorem d_Answer_init_19 : decode prog_2_method_1_code 19 = .ok (.dup, 1) := by decide +kernel
theorem d_Answer_init_20 : decode prog_2_method_1_code 20 = .ok (.bipush (8), 2) := by decide +kernel
theorem d_Answer_init_22 : decode prog_2_method_1_code 22 = .ok (.invokespecial 20, 3) := by decide +kernel
theorem d_Answer_init_25 : decode prog_2_method_1_code 25 = .ok (.putfield 23, 3) := by decide +kernel
theorem d_Answer_init_28 : decode prog_2_method_1_code 28 = .ok (.aload_n 0, 1) := by decide +kernel
theorem d_Answer_init_29 : decode prog_2_method_1_code 29 = .ok (.aload_n 0, 1) := by decide +kernel
theorem d_Answer_init_30 : decode prog_2_method_1_code 30 = .ok (.getfield 23, 3) := by decide +kernel
theorem d_Answer_init_33 : decode prog_2_method_1_code 33 = .ok (.putfield 27, 3) := by decide +kernel
theorem d_Answer_init_36 : decode prog_2_method_1_code 36 = .ok (.return_, 1) := by decide +kernel
set_option maxHeartbeats 4000000 in
set_option maxRecDepth 100000 in
theorem n_Answer_init (l : Launch) (G : xG) (f : Nat → va_E) (hf : ∀ j, 44 ≤ j → j < 48 → f j = xcl G x_s0 j) : Met l y_Answer_init ws_Answer_init { frames := 2, cells := 3, slots := 12, locals := 41 } (xPk G (xu f 44 (.inr (7, [.null, .null, .int 0, .int 0, .int 0, .int 0, .int 0, .int 0, .null, .int 0, .int 0, .int 0]))) (45) [.ref (G.2.1 44)]) (xQk G f (48)) 3 (12) (xA G) := by
  refine Met.ofW (cc := prog_2_method_1_code) (maxL := 1) (ret := none) (by decide) rfl ?_
  intro p e s m args below meth c s₁ B hml hv
  obtain ⟨rfl, hs, hw, hC⟩ := hv
  have hx := B.exec
  have hb := B.bytes
  have hr := B.returns
  have hu : ∀ w ∈ UW, w.before _ s = true := fun w h => atoms_spec B.pre w (List.mem_cons_of_mem _ h)
  have hown : s.vm.findClass R_Answer = some m.cls := findClass_of_methodNamed B.named
  have hlocks := B.notSynchronized
  have hin : meth.name = "<init>" := (name_of_methodNamed B.named B.method).1
  have hI : xInj G := hC.2.1.inj
  have hS : va_S (xA G) s.heap s.heap [] := va_S.rf
  have hl := lv_entry ([.ref (G.2.1 44)]) (n := 1) (Nat.le_of_ble_eq_true rfl)
  rw [lg_entry_eq]
  generalize (lg_sl ([.ref (G.2.1 44)]) ++ List.replicate (1 - (lg_sl ([.ref (G.2.1 44)])).length) Slot.unset).toArray = ls at hl ⊢
  have hl : lv_has ls 1 [(0, .ref (G.2.1 44))] := hl
  refine lv_aload_n hx hb d_Answer_init_0 rfl (lv_at hl 0 rfl) ?_
  refine W.objInit hx hb hown (hu _ mw_274) (hu _ mw_92) (hu _ mw_93) rfl (by rw [hml]; exact hl.1) rfl d_Answer_init_1 (Nat.le_of_ble_eq_true rfl) (Nat.le_of_ble_eq_true rfl) ?_
  show W p l e _ s m _ below meth c _ _ _ _ _ (F0 m 4 ls [])
  refine lv_aload_n hx hb d_Answer_init_4 rfl (lv_at hl 0 rfl) ?_
  refine x_sz (fun hz => ?_)
  have hsz : _ = G.2.1 45 := xk.sz (n := 44) hC hw hz (by rw [hs]; exact (hC.2.1.add (45) 0).symm)
  refine x_new hx hb (C := R_Range) (T := T_Range) (N := 2) (ci := 6) hu fi_Range ty_Range tyok_Range hown mw_275 mw_276 mw_68 hC hsz hw hS rfl (fs := [.int 0, .int 0]) (by decide) (Nat.le_of_ble_eq_true rfl) (Nat.le_of_ble_eq_true rfl) d_Answer_init_5 (fun H hw hS => ?_)
  refine lv_dup hx hb d_Answer_init_8 rfl ?_
  refine x_sz (fun hz => ?_)
  have hsz : _ = G.2.1 46 := xk.sz (n := 45) hC hw hz (by rw [hs]; exact (hC.2.1.add (45) 1).symm)
  refine x_callC hS (va_Run.run (va_runIN (As := []) (rest := [.ref (G.2.1 45), .ref (G.2.1 44)]) ⟨hx, hb, hml, hown, hu⟩ (n_Range_init l G (xu f 44 (.inr (7, [.null, .null, .int 0, .int 0, .int 0, .int 0, .int 0, .int 0, .null, .int 0, .int 0, .int 0]))) (fun j h1 h2 => (xu_ne (by omega)).trans (hf j (by omega) (by omega)))) ⟨va_cnB (y := y_Range_init) 0 hu (uw_I mw_279) rfl rfl rfl (hC.2.2.1.2 _ gm_0) (hu _ mw_68) hd_Range_init ⟨Nat.le_of_ble_eq_true rfl, Nat.le_of_ble_eq_true rfl⟩, rfl, hu _ mw_278⟩ (x_preC hC hw hsz) rfl rfl hl.1 rfl (lv_room (Nat.le_of_ble_eq_true rfl)) d_Answer_init_9 ⟨Nat.le_of_ble_eq_true rfl, Nat.le_of_ble_eq_true rfl⟩)) (fun H locs hw hS => ?_)
  refine va_putF (D := G.1) (cl := xCl) (ci := 7) (v := .ref (G.2.1 45)) (ty := ty_Answer 0) (C := R_Answer) (T := T_Answer) (N := 12) hx hb hu fi_Answer ty_Answer tyok_Answer nm_Answer hown hC.1 hw.P (wk_D hI (by decide)) hS 44 (wk_at (by decide) (xu_eq _ _ _)) rfl 0 (by decide) (hu _ mw_292) (fun _ h9 => h9) rfl hin rfl (tyok_Answer 0 (by decide)) rfl rfl (Nat.le_of_ble_eq_true rfl) d_Answer_init_12 (fun H locs hw _ hS => ?_)
  replace hw := xk.ofset (by decide) hw
  rw [xu_same] at hw
  have hw : xk G (xu f 44 (.inr (7, [.ref (G.2.1 45), .null, .int 0, .int 0, .int 0, .int 0, .int 0, .int 0, .null, .int 0, .int 0, .int 0]))) (46) H := hw
  refine lv_aload_n hx hb d_Answer_init_15 rfl (lv_at hl 0 rfl) ?_
  refine x_sz (fun hz => ?_)
  have hsz : _ = G.2.1 46 := xk.sz (n := 45) hC hw hz (by rw [hs]; exact (hC.2.1.add (45) 1).symm)
  refine x_new hx hb (C := R_Bytes) (T := T_Bytes) (N := 2) (ci := 0) hu fi_Bytes ty_Bytes tyok_Bytes hown mw_290 mw_108 mw_63 hC hsz hw hS rfl (fs := [.null, .int 0]) (by decide) (Nat.le_of_ble_eq_true rfl) (Nat.le_of_ble_eq_true rfl) d_Answer_init_16 (fun H hw hS => ?_)
  refine lv_dup hx hb d_Answer_init_19 rfl ?_
  refine lv_bipush (v := (8 : Int32)) hx hb d_Answer_init_20 (by decide) ?_
  refine x_sz (fun hz => ?_)
  have hsz : _ = G.2.1 47 := xk.sz (n := 46) hC hw hz (by rw [hs]; exact (hC.2.1.add (45) 2).symm)
  refine x_callC hS (W.runI (As := [.int (8 : Int32)]) (rest := [.ref (G.2.1 46), .ref (G.2.1 44)]) ⟨hx, hb, hml, hown, hu⟩ (n_Bytes_init l G (xu f 44 (.inr (7, [.ref (G.2.1 45), .null, .int 0, .int 0, .int 0, .int 0, .int 0, .int 0, .null, .int 0, .int 0, .int 0]))) 46 (8 : Int32) 8 (by omega) (show (xu f 44 (.inr (7, [.ref (G.2.1 45), .null, .int 0, .int 0, .int 0, .int 0, .int 0, .int 0, .null, .int 0, .int 0, .int 0]))) 46 = .inr (0, [.ref (G.2.1 47), .int 0]) from (xu_ne (by decide)).trans (hf 46 (by decide) (by decide))) (show (xu f 44 (.inr (7, [.ref (G.2.1 45), .null, .int 0, .int 0, .int 0, .int 0, .int 0, .int 0, .null, .int 0, .int 0, .int 0]))) 47 = .inl (G.2.2.1 0, 8, .inl (fun _ => 0)) from (xu_ne (by decide)).trans (hf 47 (by decide) (by decide))) (by decide) (by decide) (by decide)) (cwI (y := y_Bytes_init) 1 hu (uw_I mw_111) rfl rfl rfl (hu _ mw_63) (hu _ mw_291) (hu _ mw_110) rfl hd_Bytes_init ⟨Nat.le_of_ble_eq_true rfl, Nat.le_of_ble_eq_true rfl⟩) (x_preC hC hw hsz) rfl rfl hl.1 rfl (lv_room (Nat.le_of_ble_eq_true rfl)) d_Answer_init_22 ⟨Nat.le_of_ble_eq_true rfl, Nat.le_of_ble_eq_true rfl⟩) (fun H locs hw hS => ?_)
  refine va_putF (D := G.1) (cl := xCl) (ci := 7) (v := .ref (G.2.1 46)) (ty := ty_Answer 1) (C := R_Answer) (T := T_Answer) (N := 12) hx hb hu fi_Answer ty_Answer tyok_Answer nm_Answer hown hC.1 hw.P (wk_D hI (by decide)) hS 44 (wk_at (by decide) (xu_eq _ _ _)) rfl 1 (by decide) (hu _ mw_293) (fun _ h9 => h9) rfl hin rfl (tyok_Answer 1 (by decide)) rfl rfl (Nat.le_of_ble_eq_true rfl) d_Answer_init_25 (fun H locs hw _ hS => ?_)
  replace hw := xk.ofset (by decide) hw
  rw [xu_same] at hw
  have hw : xk G (xu f 44 (.inr (7, [.ref (G.2.1 45), .ref (G.2.1 46), .int 0, .int 0, .int 0, .int 0, .int 0, .int 0, .null, .int 0, .int 0, .int 0]))) (48) H := hw
  refine lv_aload_n hx hb d_Answer_init_28 rfl (lv_at hl 0 rfl) ?_
  refine lv_aload_n hx hb d_Answer_init_29 rfl (lv_at hl 0 rfl) ?_
  refine va_get (D := G.1) (cl := xCl) (ci := 7) (v := .ref (G.2.1 46)) (C := R_Answer) (T := T_Answer) (N := 12) hx hb hu fi_Answer hown hC.1 hw.P 44 (wk_at (by decide) (xu_eq _ _ _)) rfl 1 (by decide) (hu _ mw_293) (fun _ h9 => h9) rfl d_Answer_init_30 ?_
  refine va_put (D := G.1) (cl := xCl) (ci := 7) (v := .ref (G.2.1 46)) (ty := ty_Answer 8) (C := R_Answer) (T := T_Answer) (N := 12) hx hb hu fi_Answer ty_Answer tyok_Answer nm_Answer hown hC.1 hw.P (wk_D hI (by decide)) hS 44 (wk_at (by decide) (xu_eq _ _ _)) rfl 8 (by decide) (hu _ mw_307) (fun _ h9 => h9) rfl (tyok_Answer 8 (by decide)) rfl rfl (Nat.le_of_ble_eq_true rfl) d_Answer_init_33 (fun H locs hw _ hS => ?_)
  replace hw := xk.ofset (by decide) hw
  rw [xu_same] at hw
  have hw : xk G (xu f 44 (.inr (7, [.ref (G.2.1 45), .ref (G.2.1 46), .int 0, .int 0, .int 0, .int 0, .int 0, .int 0, .ref (G.2.1 46), .int 0, .int 0, .int 0]))) (48) H := hw
  rw [xu_self (show f 44 = .inr (7, [.ref (G.2.1 45), .ref (G.2.1 46), .int 0, .int 0, .int 0, .int 0, .int 0, .int 0, .ref (G.2.1 46), .int 0, .int 0, .int 0]) from (hf 44 (by decide) (by decide)))] at hw
  exact W.vret hx hb hr (fun t ht hW => ⟨rfl, by rw [ht]; exact hw, hS.F ht⟩) hS.2.2 d_Answer_init_36

def y_Outbox_init : MethodName := ⟨"PlainOrigin$Outbox", "<init>", "()V"⟩
def ws_Outbox_init : List Cond := Cond.code y_Outbox_init prog_6_method_1_code 1 none :: UW
theorem hd_Outbox_init : y_Outbox_init.cls ≠ "java/lang/invoke/MethodHandle" ∧ y_Outbox_init.cls ≠ "java/lang/invoke/VarHandle" ∧ (parseMethodDescriptor y_Outbox_init.desc).map (fun d => d.parameters.length) = some 0 := by decide +kernel
theorem d_Outbox_init_0 : decode prog_6_method_1_code 0 = .ok (.aload_n 0, 1) := by decide +kernel
theorem d_Outbox_init_1 : decode prog_6_method_1_code 1 = .ok (.invokespecial 3, 3) := by decide +kernel
theorem d_Outbox_init_4 : decode prog_6_method_1_code 4 = .ok (.aload_n 0, 1) := by decide +kernel
theorem d_Outbox_init_5 : decode prog_6_method_1_code 5 = .ok (.new 9, 3) := by decide +kernel
theorem d_Outbox_init_8 : decode prog_6_method_1_code 8 = .ok (.dup, 1) := by decide +kernel
theorem d_Outbox_init_9 : decode prog_6_method_1_code 9 = .ok (.sipush (2000), 3) := by decide +kernel
theorem d_Outbox_init_12 : decode prog_6_method_1_code 12 = .ok (.invokespecial 11, 3) := by decide +kernel
theorem d_Outbox_init_15 : decode prog_6_method_1_code 15 = .ok (.putfield 14, 3) := by decide +kernel
theorem d_Outbox_init_18 : decode prog_6_method_1_code 18 = .ok (.return_, 1) := by decide +kernel
set_option maxHeartbeats 4000000 in
set_option maxRecDepth 100000 in
theorem n_Outbox_init (l : Launch) (G : xG) (f : Nat → va_E) (hf : ∀ j, 48 ≤ j → j < 51 → f j = xcl G x_s0 j) : Met l y_Outbox_init ws_Outbox_init { frames := 2, cells := 2, slots := 2002, locals := 41 } (xPk G (xu f 48 (.inr (8, [.null, .int 0]))) (49) [.ref (G.2.1 48)]) (xQk G f (51)) 2 (2002) (xA G) := by
  refine Met.ofW (cc := prog_6_method_1_code) (maxL := 1) (ret := none) (by decide) rfl ?_
  intro p e s m args below meth c s₁ B hml hv
  obtain ⟨rfl, hs, hw, hC⟩ := hv
  have hx := B.exec
  have hb := B.bytes
  have hr := B.returns
  have hu : ∀ w ∈ UW, w.before _ s = true := fun w h => atoms_spec B.pre w (List.mem_cons_of_mem _ h)
  have hown : s.vm.findClass R_Outbox = some m.cls := findClass_of_methodNamed B.named
  have hlocks := B.notSynchronized
  have hin : meth.name = "<init>" := (name_of_methodNamed B.named B.method).1
  have hI : xInj G := hC.2.1.inj
  have hS : va_S (xA G) s.heap s.heap [] := va_S.rf
  have hl := lv_entry ([.ref (G.2.1 48)]) (n := 1) (Nat.le_of_ble_eq_true rfl)
  rw [lg_entry_eq]
  generalize (lg_sl ([.ref (G.2.1 48)]) ++ List.replicate (1 - (lg_sl ([.ref (G.2.1 48)])).length) Slot.unset).toArray = ls at hl ⊢
  have hl : lv_has ls 1 [(0, .ref (G.2.1 48))] := hl
  refine lv_aload_n hx hb d_Outbox_init_0 rfl (lv_at hl 0 rfl) ?_
  refine W.objInit hx hb hown (hu _ mw_345) (hu _ mw_92) (hu _ mw_93) rfl (by rw [hml]; exact hl.1) rfl d_Outbox_init_1 (Nat.le_of_ble_eq_true rfl) (Nat.le_of_ble_eq_true rfl) ?_
  show W p l e _ s m _ below meth c _ _ _ _ _ (F0 m 4 ls [])
  refine lv_aload_n hx hb d_Outbox_init_4 rfl (lv_at hl 0 rfl) ?_
  refine x_sz (fun hz => ?_)
  have hsz : _ = G.2.1 49 := xk.sz (n := 48) hC hw hz (by rw [hs]; exact (hC.2.1.add (49) 0).symm)
  refine x_new hx hb (C := R_Bytes) (T := T_Bytes) (N := 2) (ci := 0) hu fi_Bytes ty_Bytes tyok_Bytes hown mw_346 mw_108 mw_63 hC hsz hw hS rfl (fs := [.null, .int 0]) (by decide) (Nat.le_of_ble_eq_true rfl) (Nat.le_of_ble_eq_true rfl) d_Outbox_init_5 (fun H hw hS => ?_)
  refine lv_dup hx hb d_Outbox_init_8 rfl ?_
  refine lv_sipush (v := (2000 : Int32)) hx hb d_Outbox_init_9 (by decide) ?_
  refine x_sz (fun hz => ?_)
  have hsz : _ = G.2.1 50 := xk.sz (n := 49) hC hw hz (by rw [hs]; exact (hC.2.1.add (49) 1).symm)
  refine x_callC hS (W.runI (As := [.int (2000 : Int32)]) (rest := [.ref (G.2.1 49), .ref (G.2.1 48)]) ⟨hx, hb, hml, hown, hu⟩ (n_Bytes_init l G (xu f 48 (.inr (8, [.null, .int 0]))) 49 (2000 : Int32) 2000 (by omega) (show (xu f 48 (.inr (8, [.null, .int 0]))) 49 = .inr (0, [.ref (G.2.1 50), .int 0]) from (xu_ne (by decide)).trans (hf 49 (by decide) (by decide))) (show (xu f 48 (.inr (8, [.null, .int 0]))) 50 = .inl (G.2.2.1 0, 2000, .inl (fun _ => 0)) from (xu_ne (by decide)).trans (hf 50 (by decide) (by decide))) (by decide) (by decide) (by decide)) (cwI (y := y_Bytes_init) 1 hu (uw_I mw_111) rfl rfl rfl (hu _ mw_63) (hu _ mw_347) (hu _ mw_110) rfl hd_Bytes_init ⟨Nat.le_of_ble_eq_true rfl, Nat.le_of_ble_eq_true rfl⟩) (x_preC hC hw hsz) rfl rfl hl.1 rfl (lv_room (Nat.le_of_ble_eq_true rfl)) d_Outbox_init_12 ⟨Nat.le_of_ble_eq_true rfl, Nat.le_of_ble_eq_true rfl⟩) (fun H locs hw hS => ?_)
  refine va_putF (D := G.1) (cl := xCl) (ci := 8) (v := .ref (G.2.1 49)) (ty := ty_Outbox 0) (C := R_Outbox) (T := T_Outbox) (N := 2) hx hb hu fi_Outbox ty_Outbox tyok_Outbox nm_Outbox hown hC.1 hw.P (wk_D hI (by decide)) hS 48 (wk_at (by decide) (xu_eq _ _ _)) rfl 0 (by decide) (hu _ mw_348) (fun _ h9 => h9) rfl hin rfl (tyok_Outbox 0 (by decide)) rfl rfl (Nat.le_of_ble_eq_true rfl) d_Outbox_init_15 (fun H locs hw _ hS => ?_)
  replace hw := xk.ofset (by decide) hw
  rw [xu_same] at hw
  have hw : xk G (xu f 48 (.inr (8, [.ref (G.2.1 49), .int 0]))) (51) H := hw
  rw [xu_self (show f 48 = .inr (8, [.ref (G.2.1 49), .int 0]) from (hf 48 (by decide) (by decide)))] at hw
  exact W.vret hx hb hr (fun t ht hW => ⟨rfl, by rw [ht]; exact hw, hS.F ht⟩) hS.2.2 d_Outbox_init_18

def y_PlainOrigin_init : MethodName := ⟨"PlainOrigin", "<init>", "()V"⟩
def ws_PlainOrigin_init : List Cond := Cond.code y_PlainOrigin_init prog_1_method_1_code 1 none :: UW
theorem hd_PlainOrigin_init : y_PlainOrigin_init.cls ≠ "java/lang/invoke/MethodHandle" ∧ y_PlainOrigin_init.cls ≠ "java/lang/invoke/VarHandle" ∧ (parseMethodDescriptor y_PlainOrigin_init.desc).map (fun d => d.parameters.length) = some 0 := by decide +kernel
theorem d_PlainOrigin_init_0 : decode prog_1_method_1_code 0 = .ok (.aload_n 0, 1) := by decide +kernel
theorem d_PlainOrigin_init_1 : decode prog_1_method_1_code 1 = .ok (.invokespecial 1, 3) := by decide +kernel
theorem d_PlainOrigin_init_4 : decode prog_1_method_1_code 4 = .ok (.aload_n 0, 1) := by decide +kernel
theorem d_PlainOrigin_init_5 : decode prog_1_method_1_code 5 = .ok (.new 7, 3) := by decide +kernel
theorem d_PlainOrigin_init_8 : decode prog_1_method_1_code 8 = .ok (.dup, 1) := by decide +kernel
theorem d_PlainOrigin_init_9 : decode prog_1_method_1_code 9 = .ok (.invokespecial 9, 3) := by decide +kernel
theorem d_PlainOrigin_init_12 : decode prog_1_method_1_code 12 = .ok (.putfield 10, 3) := by decide +kernel
theorem d_PlainOrigin_init_15 : decode prog_1_method_1_code 15 = .ok (.aload_n 0, 1) := by decide +kernel
theorem d_PlainOrigin_init_16 : decode prog_1_method_1_code 16 = .ok (.new 16, 3) := by decide +kernel
theorem d_PlainOrigin_init_19 : decode prog_1_method_1_code 19 = .ok (.dup, 1) := by decide +kernel
theorem d_PlainOrigin_init_20 : decode prog_1_method_1_code 20 = .ok (.invokespecial 18, 3) := by decide +kernel
theorem d_PlainOrigin_init_23 : decode prog_1_method_1_code 23 = .ok (.putfield 19, 3) := by decide +kernel
theorem d_PlainOrigin_init_26 : decode prog_1_method_1_code 26 = .ok (.aload_n 0, 1) := by decide +kernel
theorem d_PlainOrigin_init_27 : decode prog_1_method_1_code 27 = .ok (.new 23, 3) := by decide +kernel
theorem d_PlainOrigin_init_30 : decode prog_1_method_1_code 30 = .ok (.dup, 1) := by decide +kernel
theorem d_PlainOrigin_init_31 : decode prog_1_method_1_code 31 = .ok (.invokespecial 25, 3) := by decide +kernel
theorem d_PlainOrigin_init_34 : decode prog_1_method_1_code 34 = .ok (.putfield 26, 3) := by decide +kernel
theorem d_PlainOrigin_init_37 : decode prog_1_method_1_code 37 = .ok (.aload_n 0, 1) := by decide +kernel
theorem d_PlainOrigin_init_38 : decode prog_1_method_1_code 38 = .ok (.new 30, 3) := by decide +kernel
theorem d_PlainOrigin_init_41 : decode prog_1_method_1_code 41 = .ok (.dup, 1) := by decide +kernel
theorem d_PlainOrigin_init_42 : decode prog_1_method_1_code 42 = .ok (.invokespecial 32, 3) := by decide +kernel
theorem d_PlainOrigin_init_45 : decode prog_1_method_1_code 45 = .ok (.putfield 33, 3) := by decide +kernel
theorem d_PlainOrigin_init_48 : decode prog_1_method_1_code 48 = .ok (.aload_n 0, 1) := by decide +kernel
theorem d_PlainOrigin_init_49 : decode prog_1_method_1_code 49 = .ok (.iconst (-1), 1) := by decide +kernel
theorem d_PlainOrigin_init_50 : decode prog_1_method_1_code 50 = .ok (.putfield 37, 3) := by decide +kernel
theorem d_PlainOrigin_init_53 : decode prog_1_method_1_code 53 = .ok (.return_, 1) := by decide +kernel
set_option maxHeartbeats 4000000 in
set_option maxRecDepth 100000 in
theorem n_PlainOrigin_init (l : Launch) (G : xG) (f : Nat → va_E) (hf : ∀ j, 0 ≤ j → j < 51 → f j = xcl G x_s0 j) : Met l y_PlainOrigin_init ws_PlainOrigin_init { frames := 5, cells := 50, slots := 6030, locals := 101 } (xPk G (xu f 0 (.inr (9, [.null, .null, .null, .null, .int 0]))) (1) [.ref (G.2.1 0)]) (xQk G f (51)) 50 (6030) (xA G) := by
  refine Met.ofW (cc := prog_1_method_1_code) (maxL := 1) (ret := none) (by decide) rfl ?_
  intro p e s m args below meth c s₁ B hml hv
  obtain ⟨rfl, hs, hw, hC⟩ := hv
  have hx := B.exec
  have hb := B.bytes
  have hr := B.returns
  have hu : ∀ w ∈ UW, w.before _ s = true := fun w h => atoms_spec B.pre w (List.mem_cons_of_mem _ h)
  have hown : s.vm.findClass R_PlainOrigin = some m.cls := findClass_of_methodNamed B.named
  have hlocks := B.notSynchronized
  have hin : meth.name = "<init>" := (name_of_methodNamed B.named B.method).1
  have hI : xInj G := hC.2.1.inj
  have hS : va_S (xA G) s.heap s.heap [] := va_S.rf
  have hl := lv_entry ([.ref (G.2.1 0)]) (n := 1) (Nat.le_of_ble_eq_true rfl)
  rw [lg_entry_eq]
  generalize (lg_sl ([.ref (G.2.1 0)]) ++ List.replicate (1 - (lg_sl ([.ref (G.2.1 0)])).length) Slot.unset).toArray = ls at hl ⊢
  have hl : lv_has ls 1 [(0, .ref (G.2.1 0))] := hl
  refine lv_aload_n hx hb d_PlainOrigin_init_0 rfl (lv_at hl 0 rfl) ?_
  refine W.objInit hx hb hown (hu _ mw_91) (hu _ mw_92) (hu _ mw_93) rfl (by rw [hml]; exact hl.1) rfl d_PlainOrigin_init_1 (Nat.le_of_ble_eq_true rfl) (Nat.le_of_ble_eq_true rfl) ?_
  show W p l e _ s m _ below meth c _ _ _ _ _ (F0 m 4 ls [])
  refine lv_aload_n hx hb d_PlainOrigin_init_4 rfl (lv_at hl 0 rfl) ?_
  refine x_sz (fun hz => ?_)
  have hsz : _ = G.2.1 1 := xk.sz (n := 0) hC hw hz (by rw [hs]; exact (hC.2.1.add (1) 0).symm)
  refine x_new hx hb (C := R_Site) (T := T_Site) (N := 2) (ci := 5) hu fi_Site ty_Site tyok_Site hown mw_94 mw_95 mw_61 hC hsz hw hS rfl (fs := [.null, .int 0]) (by decide) (Nat.le_of_ble_eq_true rfl) (Nat.le_of_ble_eq_true rfl) d_PlainOrigin_init_5 (fun H hw hS => ?_)
  refine lv_dup hx hb d_PlainOrigin_init_8 rfl ?_
  refine x_sz (fun hz => ?_)
  have hsz : _ = G.2.1 2 := xk.sz (n := 1) hC hw hz (by rw [hs]; exact (hC.2.1.add (1) 1).symm)
  refine x_callC hS (W.runI (As := []) (rest := [.ref (G.2.1 1), .ref (G.2.1 0)]) ⟨hx, hb, hml, hown, hu⟩ (n_Site_init l G (xu f 0 (.inr (9, [.null, .null, .null, .null, .int 0]))) (fun j h1 h2 => (xu_ne (by omega)).trans (hf j (by omega) (by omega)))) (cwI (y := y_Site_init) 0 hu (uw_I mw_98) rfl rfl rfl (hu _ mw_61) (hu _ mw_96) (hu _ mw_97) rfl hd_Site_init ⟨Nat.le_of_ble_eq_true rfl, Nat.le_of_ble_eq_true rfl⟩) (x_preC hC hw hsz) rfl rfl hl.1 rfl (lv_room (Nat.le_of_ble_eq_true rfl)) d_PlainOrigin_init_9 ⟨Nat.le_of_ble_eq_true rfl, Nat.le_of_ble_eq_true rfl⟩) (fun H locs hw hS => ?_)
  refine va_putF (D := G.1) (cl := xCl) (ci := 9) (v := .ref (G.2.1 1)) (ty := ty_PlainOrigin 0) (C := R_PlainOrigin) (T := T_PlainOrigin) (N := 5) hx hb hu fi_PlainOrigin ty_PlainOrigin tyok_PlainOrigin nm_PlainOrigin hown hC.1 hw.P (wk_D hI (by decide)) hS 0 (wk_at (by decide) (xu_eq _ _ _)) rfl 0 (by decide) (hu _ mw_357) (fun _ h9 => h9) rfl hin rfl (tyok_PlainOrigin 0 (by decide)) rfl rfl (Nat.le_of_ble_eq_true rfl) d_PlainOrigin_init_12 (fun H locs hw _ hS => ?_)
  replace hw := xk.ofset (by decide) hw
  rw [xu_same] at hw
  have hw : xk G (xu f 0 (.inr (9, [.ref (G.2.1 1), .null, .null, .null, .int 0]))) (27) H := hw
  refine lv_aload_n hx hb d_PlainOrigin_init_15 rfl (lv_at hl 0 rfl) ?_
  refine x_sz (fun hz => ?_)
  have hsz : _ = G.2.1 27 := xk.sz (n := 26) hC hw hz (by rw [hs]; exact (hC.2.1.add (1) 26).symm)
  refine x_new hx hb (C := R_Reader) (T := T_Reader) (N := 6) (ci := 3) hu fi_Reader ty_Reader tyok_Reader hown mw_151 mw_152 mw_64 hC hsz hw hS rfl (fs := [.null, .null, .int 0, .int 0, .int 0, .int 0]) (by decide) (Nat.le_of_ble_eq_true rfl) (Nat.le_of_ble_eq_true rfl) d_PlainOrigin_init_16 (fun H hw hS => ?_)
  refine lv_dup hx hb d_PlainOrigin_init_19 rfl ?_
  refine x_sz (fun hz => ?_)
  have hsz : _ = G.2.1 28 := xk.sz (n := 27) hC hw hz (by rw [hs]; exact (hC.2.1.add (1) 27).symm)
  refine x_callC hS (W.runI (As := []) (rest := [.ref (G.2.1 27), .ref (G.2.1 0)]) ⟨hx, hb, hml, hown, hu⟩ (n_Reader_init l G (xu f 0 (.inr (9, [.ref (G.2.1 1), .null, .null, .null, .int 0]))) (fun j h1 h2 => (xu_ne (by omega)).trans (hf j (by omega) (by omega)))) (cwI (y := y_Reader_init) 0 hu (uw_I mw_155) rfl rfl rfl (hu _ mw_64) (hu _ mw_153) (hu _ mw_154) rfl hd_Reader_init ⟨Nat.le_of_ble_eq_true rfl, Nat.le_of_ble_eq_true rfl⟩) (x_preC hC hw hsz) rfl rfl hl.1 rfl (lv_room (Nat.le_of_ble_eq_true rfl)) d_PlainOrigin_init_20 ⟨Nat.le_of_ble_eq_true rfl, Nat.le_of_ble_eq_true rfl⟩) (fun H locs hw hS => ?_)
  refine va_putF (D := G.1) (cl := xCl) (ci := 9) (v := .ref (G.2.1 27)) (ty := ty_PlainOrigin 1) (C := R_PlainOrigin) (T := T_PlainOrigin) (N := 5) hx hb hu fi_PlainOrigin ty_PlainOrigin tyok_PlainOrigin nm_PlainOrigin hown hC.1 hw.P (wk_D hI (by decide)) hS 0 (wk_at (by decide) (xu_eq _ _ _)) rfl 1 (by decide) (hu _ mw_358) (fun _ h9 => h9) rfl hin rfl (tyok_PlainOrigin 1 (by decide)) rfl rfl (Nat.le_of_ble_eq_true rfl) d_PlainOrigin_init_23 (fun H locs hw _ hS => ?_)
  replace hw := xk.ofset (by decide) hw
  rw [xu_same] at hw
  have hw : xk G (xu f 0 (.inr (9, [.ref (G.2.1 1), .ref (G.2.1 27), .null, .null, .int 0]))) (44) H := hw
  refine lv_aload_n hx hb d_PlainOrigin_init_26 rfl (lv_at hl 0 rfl) ?_
  refine x_sz (fun hz => ?_)
  have hsz : _ = G.2.1 44 := xk.sz (n := 43) hC hw hz (by rw [hs]; exact (hC.2.1.add (1) 43).symm)
  refine x_new hx hb (C := R_Answer) (T := T_Answer) (N := 12) (ci := 7) hu fi_Answer ty_Answer tyok_Answer hown mw_269 mw_270 mw_67 hC hsz hw hS rfl (fs := [.null, .null, .int 0, .int 0, .int 0, .int 0, .int 0, .int 0, .null, .int 0, .int 0, .int 0]) (by decide) (Nat.le_of_ble_eq_true rfl) (Nat.le_of_ble_eq_true rfl) d_PlainOrigin_init_27 (fun H hw hS => ?_)
  refine lv_dup hx hb d_PlainOrigin_init_30 rfl ?_
  refine x_sz (fun hz => ?_)
  have hsz : _ = G.2.1 45 := xk.sz (n := 44) hC hw hz (by rw [hs]; exact (hC.2.1.add (1) 44).symm)
  refine x_callC hS (W.runI (As := []) (rest := [.ref (G.2.1 44), .ref (G.2.1 0)]) ⟨hx, hb, hml, hown, hu⟩ (n_Answer_init l G (xu f 0 (.inr (9, [.ref (G.2.1 1), .ref (G.2.1 27), .null, .null, .int 0]))) (fun j h1 h2 => (xu_ne (by omega)).trans (hf j (by omega) (by omega)))) (cwI (y := y_Answer_init) 0 hu (uw_I mw_273) rfl rfl rfl (hu _ mw_67) (hu _ mw_271) (hu _ mw_272) rfl hd_Answer_init ⟨Nat.le_of_ble_eq_true rfl, Nat.le_of_ble_eq_true rfl⟩) (x_preC hC hw hsz) rfl rfl hl.1 rfl (lv_room (Nat.le_of_ble_eq_true rfl)) d_PlainOrigin_init_31 ⟨Nat.le_of_ble_eq_true rfl, Nat.le_of_ble_eq_true rfl⟩) (fun H locs hw hS => ?_)
  refine va_putF (D := G.1) (cl := xCl) (ci := 9) (v := .ref (G.2.1 44)) (ty := ty_PlainOrigin 2) (C := R_PlainOrigin) (T := T_PlainOrigin) (N := 5) hx hb hu fi_PlainOrigin ty_PlainOrigin tyok_PlainOrigin nm_PlainOrigin hown hC.1 hw.P (wk_D hI (by decide)) hS 0 (wk_at (by decide) (xu_eq _ _ _)) rfl 2 (by decide) (hu _ mw_359) (fun _ h9 => h9) rfl hin rfl (tyok_PlainOrigin 2 (by decide)) rfl rfl (Nat.le_of_ble_eq_true rfl) d_PlainOrigin_init_34 (fun H locs hw _ hS => ?_)
  replace hw := xk.ofset (by decide) hw
  rw [xu_same] at hw
  have hw : xk G (xu f 0 (.inr (9, [.ref (G.2.1 1), .ref (G.2.1 27), .ref (G.2.1 44), .null, .int 0]))) (48) H := hw
  refine lv_aload_n hx hb d_PlainOrigin_init_37 rfl (lv_at hl 0 rfl) ?_
  refine x_sz (fun hz => ?_)
  have hsz : _ = G.2.1 48 := xk.sz (n := 47) hC hw hz (by rw [hs]; exact (hC.2.1.add (1) 47).symm)
  refine x_new hx hb (C := R_Outbox) (T := T_Outbox) (N := 2) (ci := 8) hu fi_Outbox ty_Outbox tyok_Outbox hown mw_340 mw_341 mw_69 hC hsz hw hS rfl (fs := [.null, .int 0]) (by decide) (Nat.le_of_ble_eq_true rfl) (Nat.le_of_ble_eq_true rfl) d_PlainOrigin_init_38 (fun H hw hS => ?_)
  refine lv_dup hx hb d_PlainOrigin_init_41 rfl ?_
  refine x_sz (fun hz => ?_)
  have hsz : _ = G.2.1 49 := xk.sz (n := 48) hC hw hz (by rw [hs]; exact (hC.2.1.add (1) 48).symm)
  refine x_callC hS (W.runI (As := []) (rest := [.ref (G.2.1 48), .ref (G.2.1 0)]) ⟨hx, hb, hml, hown, hu⟩ (n_Outbox_init l G (xu f 0 (.inr (9, [.ref (G.2.1 1), .ref (G.2.1 27), .ref (G.2.1 44), .null, .int 0]))) (fun j h1 h2 => (xu_ne (by omega)).trans (hf j (by omega) (by omega)))) (cwI (y := y_Outbox_init) 0 hu (uw_I mw_344) rfl rfl rfl (hu _ mw_69) (hu _ mw_342) (hu _ mw_343) rfl hd_Outbox_init ⟨Nat.le_of_ble_eq_true rfl, Nat.le_of_ble_eq_true rfl⟩) (x_preC hC hw hsz) rfl rfl hl.1 rfl (lv_room (Nat.le_of_ble_eq_true rfl)) d_PlainOrigin_init_42 ⟨Nat.le_of_ble_eq_true rfl, Nat.le_of_ble_eq_true rfl⟩) (fun H locs hw hS => ?_)
  refine va_putF (D := G.1) (cl := xCl) (ci := 9) (v := .ref (G.2.1 48)) (ty := ty_PlainOrigin 3) (C := R_PlainOrigin) (T := T_PlainOrigin) (N := 5) hx hb hu fi_PlainOrigin ty_PlainOrigin tyok_PlainOrigin nm_PlainOrigin hown hC.1 hw.P (wk_D hI (by decide)) hS 0 (wk_at (by decide) (xu_eq _ _ _)) rfl 3 (by decide) (hu _ mw_360) (fun _ h9 => h9) rfl hin rfl (tyok_PlainOrigin 3 (by decide)) rfl rfl (Nat.le_of_ble_eq_true rfl) d_PlainOrigin_init_45 (fun H locs hw _ hS => ?_)
  replace hw := xk.ofset (by decide) hw
  rw [xu_same] at hw
  have hw : xk G (xu f 0 (.inr (9, [.ref (G.2.1 1), .ref (G.2.1 27), .ref (G.2.1 44), .ref (G.2.1 48), .int 0]))) (51) H := hw
  refine lv_aload_n hx hb d_PlainOrigin_init_48 rfl (lv_at hl 0 rfl) ?_
  refine lv_iconst (v := ((-1) : Int32)) hx hb d_PlainOrigin_init_49 (by decide) ?_
  refine va_put (D := G.1) (cl := xCl) (ci := 9) (v := .int ((-1) : Int32)) (ty := ty_PlainOrigin 4) (C := R_PlainOrigin) (T := T_PlainOrigin) (N := 5) hx hb hu fi_PlainOrigin ty_PlainOrigin tyok_PlainOrigin nm_PlainOrigin hown hC.1 hw.P (wk_D hI (by decide)) hS 0 (wk_at (by decide) (xu_eq _ _ _)) rfl 4 (by decide) (hu _ mw_361) (fun _ h9 => h9) rfl (tyok_PlainOrigin 4 (by decide)) rfl rfl (Nat.le_of_ble_eq_true rfl) d_PlainOrigin_init_50 (fun H locs hw _ hS => ?_)
  replace hw := xk.ofset (by decide) hw
  rw [xu_same] at hw
  have hw : xk G (xu f 0 (.inr (9, [.ref (G.2.1 1), .ref (G.2.1 27), .ref (G.2.1 44), .ref (G.2.1 48), .int ((-1) : Int32)]))) (51) H := hw
  rw [xu_self (show f 0 = .inr (9, [.ref (G.2.1 1), .ref (G.2.1 27), .ref (G.2.1 44), .ref (G.2.1 48), .int ((-1) : Int32)]) from (hf 0 (by decide) (by decide)))] at hw
  exact W.vret hx hb hr (fun t ht hW => ⟨rfl, by rw [ht]; exact hw, hS.F ht⟩) hS.2.2 d_PlainOrigin_init_53
