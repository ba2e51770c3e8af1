def xNc (U : State) : Prop := ∀ a b : ClassId, U.vm.findClass "java/util/NoSuchElementException" = some a → U.vm.findClass "java/lang/IllegalArgumentException" = some b → U.vm.assignable a b = false
theorem xNc.go {s U : State} (h : xNc s) (hv : s.vm.Alike U.vm) : xNc U := by
  intro a b ha hb
  rw [hv.findClass] at ha hb
  rw [hv.assignable]
  exact h a b ha hb
theorem xNc.of {args : Array Value} {s : State} (h : (Cond.not (.castable "java/util/NoSuchElementException" "java/lang/IllegalArgumentException")).before args s = true) : xNc s := by
  intro a b ha hb
  simp only [Cond.before, Cond.holds, Cond.value, ha, hb] at h
  simpa using h
def xP3 (G : xG) (σ : St) (av : List Value) : Array Value → State → Prop := va_Pc av (fun U => (xw G σ U.heap ∧ xC G U ∧ xTh (xA G) U U.heap) ∧ xNc U)
theorem xP3.blind {G : xG} {σ : St} {av : List Value} : FrameBlind (xP3 G σ av) := by
  intro a U g mk h
  obtain ⟨h0, h1, h2⟩ := h
  exact ⟨h0, (xP2.blind a U g mk ⟨h0, h1⟩).2, h2.go (Vm.Alike.refl U.vm)⟩
section XJ
variable {p : Program} {l : Launch} {e : Env} {R : Room} {s : State} {m : MethodId} {sargs : Array Value} {below : List Frame} {meth : Method} {c : Code} {T : State} {locs : List Loc} {cells slots : Nat} {X : String}
/-- passed by the first entry, caught by the second -/
theorem xh_second (X0 : Stand p l e R s m sargs below meth c T locs cells slots) {a : Addr} {g : JFrame} (hg : g.method = m) {own name1 name : String} (hown : s.vm.findClass own = some m.cls) {z1 z : ExceptionTableEntry} {rest : List ExceptionTableEntry} (htab : c.exceptionTable.toList = z1 :: z :: rest) (hz1 : covers z1 g.pc = true) (h1 : z1.catchType ≠ 0) (hz : covers z g.pc = true) (h0 : z.catchType ≠ 0)
    (hlink1 : (Cond.classLink own z1.catchType name1).before sargs s = true) (hnot : ∀ ca cb : ClassId, s.vm.findClass X = some ca → s.vm.findClass name1 = some cb → s.vm.assignable ca cb = false) (hlink : (Cond.classLink own z.catchType name).before sargs s = true) {ce : Cell} (hce : T.heap[a]? = some ce) (hobj : ce.vm = .none) (hcl : s.vm.findClass X = some ce.cls) (hcast : (Cond.castable X name).before sargs s = true) :
    ∃ vm', Stand p l e R s m sargs below meth c (T.setVm vm') locs cells slots ∧ ∀ target, Steps p.tables e below ((T.setVm vm').setTop { g with pc := z.handlerPc, stack := [.ref a] }) target → Steps p.tables e below ((T.setTop g).pushFrame (.throwing a)) target := by
  obtain ⟨c1, hc1, hl1, hW1, k1, hk1⟩ := xh_link X0 hown hlink1
  have X1 := X0.noted hW1
  obtain ⟨cT, hcT, hl, hW', k4, hk4⟩ := xh_link X1 hown hlink
  obtain ⟨c3, c4, hc3, hc4, hasg⟩ := Cond.castable_spec hcast
  cases hc3.symm.trans hcl
  cases hc4.symm.trans hcT
  have hno : T.vm.assignable ce.cls c1 = false := by rw [X0.warmed.alike.assignable]; exact hnot _ _ hcl hc1
  have hfit : (T.vm.noted m.cls z1.catchType (.cls c1)).assignable ce.cls cT = true := by
    have q : (T.vm.noted m.cls z1.catchType (.cls c1)).assignable ce.cls cT = s.vm.assignable ce.cls cT := X1.warmed.alike.assignable ..
    rw [q]
    exact hasg
  have hobj' : ∀ k, ce.vm ≠ .statics k := fun k hk => by rw [hobj] at hk; cases hk
  have hkc1 : ∃ k, (T.vm.noted m.cls z1.catchType (.cls c1)).classes[ce.cls]? = some k := Vm.classAt_of_assignable hfit ⟨k4, hk4⟩
  have hkc : ∃ k, T.vm.classes[ce.cls]? = some k := by
    obtain ⟨k, hk⟩ := hkc1
    obtain ⟨k', hk', -⟩ := (X1.warmed.alike.symm.trans X0.warmed.alike).2.2 _ _ hk
    exact ⟨k', hk'⟩
  refine ⟨_, X1.noted hW', fun target hrest => ?_⟩
  subst hg
  refine xh_caught X0.here (fun Q E d acts => ?_) hrest
  rw [W.findHandler_eq (s := (T.setTop g).pushFrame (.throwing a)) (meth := meth) (code := c) X0.method' X0.code, htab]
  have hg1 := xh_go (s := (T.setTop g).pushFrame (.throwing a)) (Q := Q) (E := E) (e := e) (d := d) (acts := acts) (a := a) (t := z :: rest) hz1 h1 (c := c1) (cell := ce) hl1 hce hobj' hkc ⟨k1, hk1⟩
  have hno2 : ¬ ((T.setTop g).pushFrame (.throwing a)).vm.assignable ce.cls c1 = true := by
    show ¬ T.vm.assignable ce.cls c1 = true
    rw [hno]
    decide
  rw [if_neg hno2] at hg1
  rw [hg1]
  have hg0 := xh_go (s := ((T.setTop g).pushFrame (.throwing a)).setVm (((T.setTop g).pushFrame (.throwing a)).vm.noted g.method.cls z1.catchType (.cls c1))) (Q := Q) (E := E) (e := e) (d := d) (acts := acts) (a := a) (t := rest) hz h0 (c := cT) (cell := ce) hl hce hobj' hkc1 ⟨k4, hk4⟩
  have hfit2 : (((T.setTop g).pushFrame (.throwing a)).setVm (((T.setTop g).pushFrame (.throwing a)).vm.noted g.method.cls z1.catchType (.cls c1))).vm.assignable ce.cls cT = true := hfit
  rw [if_pos hfit2] at hg0
  exact hg0
theorem xt_catch2 {Q : State → Prop} {H : Heap} {pc : Nat} {ls : Array Slot} {st rest : List Value} {mc0 ms0 : Nat} {own name1 name : String}
    (hrun : ∀ T : State, T.heap = H → Stand p l e R s m sargs below meth c T [] cells slots → ∃ (x : Addr) (B : State), Stand p l e R s m sargs below meth c B [] mc0 ms0 ∧ (∀ (q : Nat) (cell : Cell), H[q]? = some cell → B.heap[q]? = some cell) ∧ H.size ≤ B.heap.size ∧ H.size ≤ x ∧ (∃ ce : Cell, B.heap[x]? = some ce ∧ s.vm.findClass X = some ce.cls ∧ ce.vm = .none) ∧
      ∀ target, Steps p.tables e below ((B.setTop { F0 m pc ls st with stack := rest }).pushFrame (.throwing x)) target → Steps p.tables e below (T.setTop (F0 m pc ls st)) target)
    (hown : s.vm.findClass own = some m.cls) {z1 z : ExceptionTableEntry} {more : List ExceptionTableEntry} (htab : c.exceptionTable.toList = z1 :: z :: more) (hz1 : covers z1 pc = true) (h1 : z1.catchType ≠ 0) (hz : covers z pc = true) (h0 : z.catchType ≠ 0) (hlink1 : (Cond.classLink own z1.catchType name1).before sargs s = true) (hnot : ∀ ca cb : ClassId, s.vm.findClass X = some ca → s.vm.findClass name1 = some cb → s.vm.assignable ca cb = false) (hlink : (Cond.classLink own z.catchType name).before sargs s = true) (hcast : (Cond.castable X name).before sargs s = true)
    (kk : ∀ (x : Addr) (H1 : Heap), (∀ (q : Nat) (cell : Cell), H[q]? = some cell → H1[q]? = some cell) → H.size ≤ H1.size → W p l e R s m sargs below meth c H1 [] mc0 ms0 Q (F0 m z.handlerPc ls [.ref x])) : W p l e R s m sargs below meth c H [] cells slots Q (F0 m pc ls st) := by
  intro T hT X0
  obtain ⟨x, B, XB, q1, q2, -, ⟨ce, k1, k2, k3⟩, hst⟩ := hrun T hT X0
  obtain ⟨vm', XV, hst2⟩ := xh_second XB (g := { F0 m pc ls st with stack := rest }) rfl hown htab hz1 h1 hz h0 hlink1 hnot hlink k1 k3 k2 hcast
  obtain ⟨t, a1, b1⟩ := kk x B.heap q1 q2 (B.setVm vm') rfl XV
  exact ⟨t, hst _ (hst2 _ a1), b1⟩
end XJ
theorem xt_row2 {L : List ExceptionTableEntry} {a b c d : Nat} {r : List (Nat × Nat × Nat × Nat)} (h : L.map (fun h => (h.startPc, h.endPc, h.handlerPc, h.catchType)) = (a, b, c, d) :: r) : ∃ (z : ExceptionTableEntry) (more : List ExceptionTableEntry), L = z :: more ∧ z.startPc = a ∧ z.endPc = b ∧ z.handlerPc = c ∧ z.catchType = d ∧ more.map (fun h => (h.startPc, h.endPc, h.handlerPc, h.catchType)) = r := by
  cases L with
  | nil => cases h
  | cons z more =>
    have h1 := (List.cons.inj h).1
    exact ⟨z, more, rfl, congrArg (·.1) h1, congrArg (·.2.1) h1, congrArg (·.2.2.1) h1, congrArg (·.2.2.2) h1, (List.cons.inj h).2⟩
abbrev rv_PlainOriginLaw_atN : Room := { frames := 7, cells := 1, slots := 6, locals := 106 }
set_option maxHeartbeats 4000000 in
set_option maxRecDepth 100000 in
theorem v_PlainOriginLaw_atN (l : Launch) (G : xG) (σ : St) (a2 : Int32) (a3 : Int32) (hfl : ∀ e : Env, l.admits e → e.platform.stackTraces = false) (hE : z_PlainOrigin_atN a2 a3 σ = some ()) : Met l y_PlainOriginLaw_at (ws_PlainOriginLaw_at) rv_PlainOriginLaw_atN (xP3 G σ [.ref (G.2.1 0), .int a2, .int a3, .ref (G.2.1 66)]) (xQt G (some (.int 2)) σ) 1 6 (fun _ => False) := by
  refine va_MetW (cc := method_6_code) (maxL := 5) (ret := (some .int)) (hh := [(0, 10, 13, 13), (0, 10, 17, 29)]) (by decide) rfl ?_
  intro p e s m args below meth c s₁ B hml hv
  obtain ⟨rfl, ⟨hw, hC, hT⟩, hNc⟩ := hv
  have hx := B.exec
  have hb := B.bytes
  have hr := B.returns
  have hu : ∀ w ∈ UW, w.before _ s = true := fun w h => atoms_spec B.pre w (List.mem_cons_of_mem _ h)
  have hown : s.vm.findClass R_Law = some m.cls := findClass_of_methodNamed B.named
  have hlocks := B.notSynchronized
  have hK := hC.1
  have hS : va_S (xA G) s.heap s.heap [] := va_S.rf
  obtain ⟨z1, more1, htab1, hy1, hy2, hy3, hy4, hmore⟩ := xt_row2 (xt_table B (atoms_spec B.pre _ List.mem_cons_self))
  obtain ⟨z, more, htab2, hz1, hz2, hz3, hz4⟩ := xt_row1 hmore
  have htab : c.exceptionTable.toList = z1 :: z :: more := by rw [htab1, htab2]
  have hl := lv_entry ([.ref (G.2.1 0), .int a2, .int a3, .ref (G.2.1 66)]) (n := 5) (Nat.le_of_ble_eq_true rfl)
  rw [lg_entry_eq]
  generalize (lg_sl ([.ref (G.2.1 0), .int a2, .int a3, .ref (G.2.1 66)]) ++ List.replicate (5 - (lg_sl ([.ref (G.2.1 0), .int a2, .int a3, .ref (G.2.1 66)])).length) Slot.unset).toArray = ls at hl ⊢
  have hl : lv_has ls 5 [(0, .ref (G.2.1 0)), (1, .int a2), (2, .int a3), (3, .ref (G.2.1 66))] := hl
  refine lv_aload_n hx hb d_PlainOriginLaw_at_0 rfl (lv_at hl 3 rfl) ?_
  refine lv_iconst (v := (0 : Int32)) hx hb d_PlainOriginLaw_at_1 (by decide) ?_
  refine lv_aload_n hx hb d_PlainOriginLaw_at_2 rfl (lv_at hl 0 rfl) ?_
  refine lv_iload_n hx hb d_PlainOriginLaw_at_3 rfl (lv_at hl 1 rfl) ?_
  refine lv_iload_n hx hb d_PlainOriginLaw_at_4 rfl (lv_at hl 2 rfl) ?_
  refine xt_catch2 (xt_runV (As := [.int a2, .int a3]) (rest := [.int (0 : Int32), .ref (G.2.1 66)]) ⟨hx, hb, hml, hown, hu⟩ (u_PlainOrigin_atN l G σ a2 a3 hfl hE) (cwV 2 hu (uw_V mw_998 mw_999 mw_1000 mw_60 mw_1001) rfl rfl rfl hd_PlainOrigin_at ⟨Nat.le_of_ble_eq_true rfl, Nat.le_of_ble_eq_true rfl⟩) (x_preV2 hC hT hS hw (va_recv hK hw (q := (R_PlainOrigin, T_PlainOrigin, 5)) (ci := 9) rfl (x_at (by decide) (xcl_0 G σ)))) rfl rfl hl.1 rfl (lv_room (Nat.le_of_ble_eq_true rfl)) d_PlainOriginLaw_at_5 ⟨Nat.le_of_ble_eq_true rfl, Nat.le_of_ble_eq_true rfl⟩) hown htab (by simp [covers, hy1, hy2]) (by rw [hy4]; decide) (by simp [covers, hz1, hz2]) (by rw [hz4]; decide) (by rw [hy4]; exact hu _ mw_427) hNc (by rw [hz4]; exact hu _ mw_997) (xT_c2 hT) (fun x H1 hold hsz => ?_)
  rw [hz3]
  refine lv_astore hx hb d_PlainOriginLaw_at_17 hl (by decide) rfl (fun ls hl => ?_)
  refine lv_iconst (v := (2 : Int32)) hx hb d_PlainOriginLaw_at_19 (by decide) ?_
  exact W.iret (v := (2 : Int32)) hx hb hr (fun t ht hW => ⟨rfl, by rw [ht]; exact hw.old hold, by rw [ht]; exact hsz, fun q cell hq => by rw [ht]; exact hold q cell hq⟩) (fun q h => by cases h) d_PlainOriginLaw_at_20
