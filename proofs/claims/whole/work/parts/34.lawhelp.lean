/-! a throw that is caught in the walked method: the search through its table, the classes' links cold or warm -/
section XH
variable {Q : Handler → Pre} {E : CtlPost} {e : Env} {d : Bool} {acts : List Action} {f : JFrame} {a : Addr}
theorem xh_go {s : State} {x : ExceptionTableEntry} {t : List ExceptionTableEntry} {c : ClassId} {cell : Cell} (hx : covers x f.pc = true) (h0 : x.catchType ≠ 0)
    (hl : s.vm.ClassLinks e.platform f.method.cls x.catchType c) (hcell : s.heap[a]? = some cell) (hobj : ∀ k, cell.vm ≠ .statics k) (hk : ∃ k, s.vm.classes[cell.cls]? = some k) (hc : ∃ k, s.vm.classes[c]? = some k) :
    wp (findHandler.go f a (x :: t)) Q E e d acts s ↔ if s.vm.assignable cell.cls c = true then Q (.found x.handlerPc) d acts (s.setVm (s.vm.noted f.method.cls x.catchType (.cls c))) else wp (findHandler.go f a t) Q E e d acts (s.setVm (s.vm.noted f.method.cls x.catchType (.cls c))) := by
  simp only [covers] at hx
  have hal : s.vm.Alike (s.vm.noted f.method.cls x.catchType (.cls c)) := (Vm.Alike.refl s.vm).noted _ _ _
  obtain ⟨r1, r2⟩ := (resolveClass_links e.toSetting hl).op (op := VmOp.resolveClass f.method.cls x.catchType) rfl
  obtain ⟨k1, hk1⟩ := hk
  obtain ⟨k2, hk2⟩ := hc
  obtain ⟨k3, hk3, -⟩ := hal.2.2 _ _ hk1
  obtain ⟨k4, hk4, -⟩ := hal.2.2 _ _ hk2
  have hfe : (s.vm.noted f.method.cls x.catchType (.cls c)).assignable cell.cls c = s.vm.assignable cell.cls c := hal.assignable ..
  cases hfit : s.vm.assignable cell.cls c
  · rw [hfit] at hfe
    simp [findHandler.go, hx, h0, r1, r2, hcell, hobj, hk3, hk4, hfe, VmOp.dirties, VmOp.acts]
  · rw [hfit] at hfe
    simp [findHandler.go, hx, h0, r1, r2, hcell, hobj, hk3, hk4, hfe, VmOp.dirties, VmOp.acts]
end XH
/-- what the search gives, and the tables that it leaves -/
def xFd (e : Env) (s : State) (f : JFrame) (a : Addr) (pc : Nat) (vm' : Vm) : Prop := ∀ (Q : Handler → Pre) (E : CtlPost) (d : Bool) (acts : List Action), wp (findHandler f a) Q E e d acts s ↔ Q (.found pc) d acts (s.setVm vm')
theorem xh_caught {tb : Tables} {e : Env} {s target : State} {g : JFrame} {c : Code} {below : List Frame} {a : Addr} (h : At s g.method c below) {pc : Nat} {vm' : Vm} (hfind : xFd e ((s.setTop g).pushFrame (.throwing a)) g a pc vm') (hrest : Steps tb e below ((s.setVm vm').setTop { g with pc := pc, stack := [.ref a] }) target) :
    Steps tb e below ((s.setTop g).pushFrame (.throwing a)) target := by
  have hstep : ∀ r : List Frame, (stepThrowing e ((s.setTop g).pushFrame (.throwing a)) a (.java g :: r)).Is ((((s.setTop g).pushFrame (.throwing a)).setVm vm').setFrames (.java { g with pc := pc, stack := [.ref a] } :: r)) [] := by
    intro r
    simp only [stepThrowing, searchFrame, vmDo]
    generalize hr : Sem.go _ e false [] ((s.setTop g).pushFrame (.throwing a)) = res
    obtain ⟨as, rfl, ha⟩ := Sem.eq_ok_of hr (a := Handler.found pc) (s' := ((s.setTop g).pushFrame (.throwing a)).setVm vm') (acts' := []) (by simp [hfind _ _ _ _])
    exact ⟨rfl, ha⟩
  obtain ⟨hgo, hw⟩ := h.throwing a
  obtain ⟨g₀, hg⟩ := Option.isSome_iff_exists.mp h.top
  obtain ⟨r, hr⟩ := State.topJava?_eq_some.mp hg
  refine Steps.head hgo hw ?_
  rw [stepThread_throwing (frames_entered h.top _), (hstep _).1]
  have hr' : (s.setVm vm').frames = .java g₀ :: r := hr
  have hset : ∀ (u : State) (F K : List Frame), ((u.setFrames F).setVm vm').setFrames K = (u.setVm vm').setFrames K := by
    intro u F K
    show ((u.setVm vm').setFrames F).setFrames K = _
    rw [State.setFrames_setFrames]
  rw [State.setTop_of_frames _ hr'] at hrest
  rw [hr, List.tail_cons, State.pushFrame, hset, State.setTop_of_frames _ hr, hset]
  exact hrest
section XI
variable {p : Program} {l : Launch} {e : Env} {R : Room} {s : State} {m : MethodId} {sargs : Array Value} {below : List Frame} {meth : Method} {c : Code} {T : State} {locs : List Loc} {cells slots : Nat} {X : String}
/-- one entry of the table looked at: the class's link, cold or warm -/
theorem xh_link (X0 : Stand p l e R s m sargs below meth c T locs cells slots) {own name : String} {ix : Nat} (hown : s.vm.findClass own = some m.cls) (hlink : (Cond.classLink own ix name).before sargs s = true) :
    ∃ cT : ClassId, s.vm.findClass name = some cT ∧ T.vm.ClassLinks e.platform m.cls ix cT ∧ s.WarmedH (T.vm.noted m.cls ix (.cls cT)) ∧ ∃ k, T.vm.classes[cT]? = some k := by
  have hpl : e.platform.magicAccessors = ({} : Platform).magicAccessors := by rw [X0.admits.platform]
  obtain ⟨cT, hc', hcl⟩ := Cond.classLink_spec hown hlink e.platform hpl
  obtain ⟨dk, _, _, kt, hd, _, _, _, _, hkt, _, hopen⟩ := hcl.here
  obtain ⟨kt', hkt', -⟩ := X0.warmed.alike.2.2 _ _ hkt
  exact ⟨cT, hc', X0.warmed.classLinks hcl, X0.warmed.noted hd hopen (State.rightAt_cls hcl), kt', hkt'⟩
/-- caught by the first entry -/
theorem xh_first (X0 : Stand p l e R s m sargs below meth c T locs cells slots) {a : Addr} {g : JFrame} (hg : g.method = m) {own name : String} (hown : s.vm.findClass own = some m.cls) {z : ExceptionTableEntry} {rest : List ExceptionTableEntry} (htab : c.exceptionTable.toList = z :: rest) (hz : covers z g.pc = true) (h0 : z.catchType ≠ 0)
    (hlink : (Cond.classLink own z.catchType name).before sargs s = true) {ce : Cell} (hce : T.heap[a]? = some ce) (hobj : ce.vm = .none) (hcl : s.vm.findClass X = some ce.cls) (hcast : (Cond.castable X name).before sargs s = true) :
    ∃ vm', Stand p l e R s m sargs below meth c (T.setVm vm') locs cells slots ∧ ∀ target, Steps p.tables e below ((T.setVm vm').setTop { g with pc := z.handlerPc, stack := [.ref a] }) target → Steps p.tables e below ((T.setTop g).pushFrame (.throwing a)) target := by
  obtain ⟨cT, hcT, hl, hW', k4, hk4⟩ := xh_link X0 hown hlink
  obtain ⟨c3, c4, hc3, hc4, hasg⟩ := Cond.castable_spec hcast
  cases hc3.symm.trans hcl
  cases hc4.symm.trans hcT
  have hfit : T.vm.assignable ce.cls cT = true := by rw [X0.warmed.alike.assignable]; exact hasg
  refine ⟨_, X0.noted hW', fun target hrest => ?_⟩
  subst hg
  refine xh_caught X0.here (fun Q E d acts => ?_) hrest
  rw [W.findHandler_eq (s := (T.setTop g).pushFrame (.throwing a)) (meth := meth) (code := c) X0.method' X0.code, htab]
  have hg0 := xh_go (s := (T.setTop g).pushFrame (.throwing a)) (Q := Q) (E := E) (e := e) (d := d) (acts := acts) (a := a) (t := rest) hz h0 (c := cT) (cell := ce) hl hce (fun k hk => by rw [hobj] at hk; cases hk) (Vm.classAt_of_assignable hfit ⟨k4, hk4⟩) ⟨k4, hk4⟩
  have hfit2 : ((T.setTop g).pushFrame (.throwing a)).vm.assignable ce.cls cT = true := hfit
  rw [if_pos hfit2] at hg0
  exact hg0
/-- .. in a walk's form: behind a call that threw -/
theorem xt_catch {Q : State → Prop} {H : Heap} {pc : Nat} {ls : Array Slot} {st rest : List Value} {mc0 ms0 : Nat} {own name : String}
    (hrun : ∀ T : State, T.heap = H → Stand p l e R s m sargs below meth c T [] cells slots → ∃ (x : Addr) (B : State), Stand p l e R s m sargs below meth c B [] mc0 ms0 ∧ (∀ (q : Nat) (cell : Cell), H[q]? = some cell → B.heap[q]? = some cell) ∧ H.size ≤ B.heap.size ∧ H.size ≤ x ∧ (∃ ce : Cell, B.heap[x]? = some ce ∧ s.vm.findClass X = some ce.cls ∧ ce.vm = .none) ∧
      ∀ target, Steps p.tables e below ((B.setTop { F0 m pc ls st with stack := rest }).pushFrame (.throwing x)) target → Steps p.tables e below (T.setTop (F0 m pc ls st)) target)
    (hown : s.vm.findClass own = some m.cls) {z : ExceptionTableEntry} {more : List ExceptionTableEntry} (htab : c.exceptionTable.toList = z :: more) (hz : covers z pc = true) (h0 : z.catchType ≠ 0) (hlink : (Cond.classLink own z.catchType name).before sargs s = true) (hcast : (Cond.castable X name).before sargs s = true)
    (kk : ∀ (x : Addr) (H1 : Heap), (∀ (q : Nat) (cell : Cell), H[q]? = some cell → H1[q]? = some cell) → H.size ≤ H1.size → W p l e R s m sargs below meth c H1 [] mc0 ms0 Q (F0 m z.handlerPc ls [.ref x])) : W p l e R s m sargs below meth c H [] cells slots Q (F0 m pc ls st) := by
  intro T hT X0
  obtain ⟨x, B, XB, h1, h2, -, ⟨ce, k1, k2, k3⟩, hst⟩ := hrun T hT X0
  obtain ⟨vm', XV, hst2⟩ := xh_first XB (g := { F0 m pc ls st with stack := rest }) rfl hown htab hz h0 hlink k1 k3 k2 hcast
  obtain ⟨t, a1, b1⟩ := kk x B.heap h1 h2 (B.setVm vm') rfl XV
  exact ⟨t, hst _ (hst2 _ a1), b1⟩
end XI

def R_Law : String := "PlainOriginLaw"
def x_updL (σ : St) (v : Int64) : St := (σ.1, σ.2.1, σ.2.2.1, σ.2.2.2.1, v)
theorem x_arrV {cA : ClassId} {n : Nat} {f g : Nat → Value} (h : ∀ j, j < n → f j = g j) : arrV cA n f = arrV cA n g := by
  have e : ∀ j : Fin n, f j.val = g j.val := fun j => h j.val j.isLt
  unfold arrV
  simp [e]
theorem x_setL {G : xG} {σ : St} {v : Int64} {H : Heap} (hw : va_P G.1 xCl ((wd G σ).set 66 (G.2.1 66, .inl (G.2.2.1 2, 1, .inr (.inl (vp_updL (x_long σ 66) (0 : Int32).toNatClampNeg v))))) H) : xw G (x_updL σ v) H := by
  intro k q hq
  obtain ⟨hk, rfl⟩ := x_of hq
  by_cases h66 : k = 66
  · subst h66
    have h1 := hw 66 _ (List.getElem?_set_self (by simp [wd]))
    have h2 : H[G.2.1 66]? = some (vp_cell (G.2.2.1 2) (1, .inr (.inl (vp_updL (x_long σ 66) (0 : Int32).toNatClampNeg v)))) := h1
    show H[G.2.1 66]? = some (vp_cell (G.2.2.1 2) (1, .inr (.inl (x_long (x_updL σ v) 66))))
    rw [h2, vp_cell_l, vp_cell_l]
    congr 1
  · have h1 := hw k _ (by rw [List.getElem?_set_ne (fun h => h66 h.symm)]; exact x_at (G := G) (σ := σ) hk rfl)
    have e : xcl G (x_updL σ v) k = xcl G σ k := by
      have h4 : x_long (x_updL σ v) k = x_long σ k := by
        funext i
        unfold x_long
        rw [if_neg h66, if_neg h66]
      unfold xcl
      rw [h4]
      rfl
    rw [e]
    exact h1
theorem xw.old {G : xG} {σ : St} {H H1 : Heap} (h : xw G σ H) (hold : ∀ (q : Nat) (cell : Cell), H[q]? = some cell → H1[q]? = some cell) : xw G σ H1 := by
  refine va_P.kept h (fun k q hk => ?_)
  have hlt := (h k q hk).lt
  have e := Array.getElem?_eq_getElem hlt
  rw [e]
  exact hold _ _ e
def xQt (G : xG) (v : Option Value) (σ : St) : Array Value → State → Outcome → State → Prop := fun _ st o t => o = .returned v ∧ xw G σ t.heap ∧ st.heap.size ≤ t.heap.size ∧ ∀ (q : Nat) (cell : Cell), st.heap[q]? = some cell → t.heap[q]? = some cell
theorem xt_table {p : Program} {l : Launch} {y : MethodName} {S : Spec} {code : ByteArray} {n : Nat} {ret : Option FieldType} {e : Env} {s : State} {m : MethodId} {args : Array Value} {below : List Frame} {meth : Method} {c : Code} {s₁ : State} {hh : List (Nat × Nat × Nat × Nat)} (B : BodyLoose p l y S code n ret e s m args below meth c s₁) (h : (Cond.codeWith y code n ret hh).before args s = true) : c.exceptionTable.toList.map (fun h => (h.startPc, h.endPc, h.handlerPc, h.catchType)) = hh := by
  obtain ⟨m', meth', c', h0, h1, h2, -, -, h5, -⟩ := Cond.codeWith_spec h
  cases B.named.symm.trans h0
  cases B.method.symm.trans h1
  cases (Stand.of_body B).code.symm.trans h2
  exact h5
theorem xt_row1 {L : List ExceptionTableEntry} {a b c d : Nat} {r : List (Nat × Nat × Nat × Nat)} (h : L.map (fun h => (h.startPc, h.endPc, h.handlerPc, h.catchType)) = (a, b, c, d) :: r) : ∃ (z : ExceptionTableEntry) (more : List ExceptionTableEntry), L = z :: more ∧ z.startPc = a ∧ z.endPc = b ∧ z.handlerPc = c ∧ z.catchType = d := by
  cases L with
  | nil => cases h
  | cons z more =>
    have h1 := (List.cons.inj h).1
    exact ⟨z, more, rfl, congrArg (·.1) h1, congrArg (·.2.1) h1, congrArg (·.2.2.1) h1, congrArg (·.2.2.2) h1⟩

def y_PlainOriginLaw_feed : MethodName := ⟨"PlainOriginLaw", "feed", "(LPlainOrigin;JI[J)I"⟩
def ws_PlainOriginLaw_feed : List Cond := Cond.codeWith y_PlainOriginLaw_feed method_3_code 6 (some .int) [(0, 11, 14, 13)] :: UW
theorem hd_PlainOriginLaw_feed : y_PlainOriginLaw_feed.cls ≠ "java/lang/invoke/MethodHandle" ∧ y_PlainOriginLaw_feed.cls ≠ "java/lang/invoke/VarHandle" ∧ (parseMethodDescriptor y_PlainOriginLaw_feed.desc).map (fun d => d.parameters.length) = some 4 := by decide +kernel
theorem d_PlainOriginLaw_feed_0 : decode method_3_code 0 = .ok (.aload 4, 2) := by decide +kernel
theorem d_PlainOriginLaw_feed_2 : decode method_3_code 2 = .ok (.iconst 0, 1) := by decide +kernel
theorem d_PlainOriginLaw_feed_3 : decode method_3_code 3 = .ok (.aload_n 0, 1) := by decide +kernel
theorem d_PlainOriginLaw_feed_4 : decode method_3_code 4 = .ok (.lload_n 1, 1) := by decide +kernel
theorem d_PlainOriginLaw_feed_5 : decode method_3_code 5 = .ok (.iload_n 3, 1) := by decide +kernel
theorem d_PlainOriginLaw_feed_6 : decode method_3_code 6 = .ok (.invokevirtual 7, 3) := by decide +kernel
theorem d_PlainOriginLaw_feed_9 : decode method_3_code 9 = .ok (.i2l, 1) := by decide +kernel
theorem d_PlainOriginLaw_feed_10 : decode method_3_code 10 = .ok (.lastore, 1) := by decide +kernel
theorem d_PlainOriginLaw_feed_11 : decode method_3_code 11 = .ok (.goto (7), 3) := by decide +kernel
theorem d_PlainOriginLaw_feed_14 : decode method_3_code 14 = .ok (.astore 5, 2) := by decide +kernel
theorem d_PlainOriginLaw_feed_16 : decode method_3_code 16 = .ok (.iconst 1, 1) := by decide +kernel
theorem d_PlainOriginLaw_feed_17 : decode method_3_code 17 = .ok (.ireturn, 1) := by decide +kernel
theorem d_PlainOriginLaw_feed_18 : decode method_3_code 18 = .ok (.iconst 0, 1) := by decide +kernel
theorem d_PlainOriginLaw_feed_19 : decode method_3_code 19 = .ok (.ireturn, 1) := by decide +kernel
def x_PlainOriginLaw_feed (j2 : Int64) (a3 : Int32) (σ : St) : Option (Int32 × St) := (x_bind2 (x_PlainOrigin_feed j2 a3 σ) (fun r6 s6 => (if x_in (0 : Int32) 1 then (x_let (x_updL s6 (Int32.toInt64 r6)) (fun (s10 : St) => some ((0 : Int32), s10))) else none)))
abbrev rm_PlainOriginLaw_feed : Room := { frames := 10, cells := 0, slots := 0, locals := 231 }
set_option maxHeartbeats 4000000 in
set_option maxRecDepth 100000 in
theorem t_PlainOriginLaw_feed (l : Launch) (G : xG) (σ : St) (j2 : Int64) (a3 : Int32) (r : Int32) (σ' : St) (hE : x_PlainOriginLaw_feed j2 a3 σ = some (r, σ')) : Met l y_PlainOriginLaw_feed (ws_PlainOriginLaw_feed) rm_PlainOriginLaw_feed (xP G σ [.ref (G.2.1 0), .long j2, .int a3, .ref (G.2.1 66)]) (xQ G (some (.int r)) σ') 0 0 (xA G) := by
  refine va_MetW (cc := method_3_code) (maxL := 6) (ret := (some .int)) (hh := [(0, 11, 14, 13)]) (by decide) rfl ?_
  intro p e s m args below meth c s₁ B hml hv
  obtain ⟨rfl, hw, hC⟩ := hv
  have hx := B.exec
  have hb := B.bytes
  have hr := B.returns
  have hu : ∀ w ∈ UW, w.before _ s = true := fun w h => atoms_spec B.pre w (List.mem_cons_of_mem _ h)
  have hown : s.vm.findClass R_Law = some m.cls := findClass_of_methodNamed B.named
  have hlocks := B.notSynchronized
  have hK := hC.1
  have hI := hC.2.1
  have hG := hC.2.2.1
  have hN := hC.2.2.2
  have hS : va_S (xA G) s.heap s.heap [] := va_S.rf
  have hl := lv_entry ([.ref (G.2.1 0), .long j2, .int a3, .ref (G.2.1 66)]) (n := 6) (Nat.le_of_ble_eq_true rfl)
  rw [lg_entry_eq]
  generalize (lg_sl ([.ref (G.2.1 0), .long j2, .int a3, .ref (G.2.1 66)]) ++ List.replicate (6 - (lg_sl ([.ref (G.2.1 0), .long j2, .int a3, .ref (G.2.1 66)])).length) Slot.unset).toArray = ls at hl ⊢
  have hl : lv_has ls 6 [(0, .ref (G.2.1 0)), (1, .long j2), (3, .int a3), (4, .ref (G.2.1 66))] := hl
  unfold x_PlainOriginLaw_feed at hE
  refine lv_aload hx hb d_PlainOriginLaw_feed_0 (lv_at hl 3 rfl) ?_
  refine lv_iconst (v := (0 : Int32)) hx hb d_PlainOriginLaw_feed_2 (by decide) ?_
  refine lv_aload_n hx hb d_PlainOriginLaw_feed_3 rfl (lv_at hl 0 rfl) ?_
  refine lv_lload_n hx hb d_PlainOriginLaw_feed_4 rfl (lv_at hl 1 rfl) ?_
  refine lv_iload_n hx hb d_PlainOriginLaw_feed_5 rfl (lv_at hl 2 rfl) ?_
  obtain ⟨r6, s6, hC6, hE⟩ := x_bind2E hE
  refine x_callS hS (W.runV (As := [.long j2, .int a3]) (rest := [.int (0 : Int32), .ref (G.2.1 66)]) ⟨hx, hb, hml, hown, hu⟩ (t_PlainOrigin_feed l G σ j2 a3 r6 s6 hC6) (cwV 2 hu (uw_V mw_428 mw_429 mw_430 mw_60 mw_431) rfl rfl rfl hd_PlainOrigin_feed ⟨Nat.le_of_ble_eq_true rfl, Nat.le_of_ble_eq_true rfl⟩) (x_preV hC hS hw (va_recv hK hw (q := (R_PlainOrigin, T_PlainOrigin, 5)) (ci := 9) rfl (x_at (by decide) (xcl_0 G σ)))) rfl rfl hl.1 rfl (lv_room (Nat.le_of_ble_eq_true rfl)) d_PlainOriginLaw_feed_6 ⟨Nat.le_of_ble_eq_true rfl, Nat.le_of_ble_eq_true rfl⟩) (fun H locs hw hS => ?_)
  refine lv_i2l hx hb d_PlainOriginLaw_feed_9 rfl ?_
  obtain ⟨g10, hE⟩ := x_guard hE
  refine va_last hx hb hK hw (x_D hI _) hS 66 2 (x_at (by decide) (xcl_66 G s6)) rfl g10 d_PlainOriginLaw_feed_10 (fun H locs hw _ hS => ?_)
  replace hw := x_setL hw
  obtain ⟨s10, e10, hE⟩ := x_letE hE
  rw [← e10] at hw
  refine lv_goto (tgt := 18) hx hb d_PlainOriginLaw_feed_11 (by decide) ?_
  refine lv_iconst (v := (0 : Int32)) hx hb d_PlainOriginLaw_feed_18 (by decide) ?_
  obtain ⟨e1, e2⟩ := x_pair hE
  exact W.iret (v := (0 : Int32)) hx hb hr (fun t ht hW => ⟨by rw [e1], by rw [ht, ← e2]; exact hw, hS.F ht⟩) hS.2.2 d_PlainOriginLaw_feed_19

abbrev rv_PlainOriginLaw_feed : Room := { frames := 7, cells := 1, slots := 6, locals := 109 }
set_option maxHeartbeats 4000000 in
set_option maxRecDepth 100000 in
theorem v_PlainOriginLaw_feed (l : Launch) (G : xG) (σ : St) (j2 : Int64) (a3 : Int32) (hfl : ∀ e : Env, l.admits e → e.platform.stackTraces = false) (hE : z_PlainOrigin_feed j2 a3 = some ()) : Met l y_PlainOriginLaw_feed (ws_PlainOriginLaw_feed) rv_PlainOriginLaw_feed (xP2 G σ [.ref (G.2.1 0), .long j2, .int a3, .ref (G.2.1 66)]) (xQt G (some (.int 1)) σ) 1 6 (fun _ => False) := by
  refine va_MetW (cc := method_3_code) (maxL := 6) (ret := (some .int)) (hh := [(0, 11, 14, 13)]) (by decide) rfl ?_
  intro p e s m args below meth c s₁ B hml hv
  obtain ⟨rfl, hw, hC, hT⟩ := hv
  have hx := B.exec
  have hb := B.bytes
  have hr := B.returns
  have hu : ∀ w ∈ UW, w.before _ s = true := fun w h => atoms_spec B.pre w (List.mem_cons_of_mem _ h)
  have hown : s.vm.findClass R_Law = some m.cls := findClass_of_methodNamed B.named
  have hlocks := B.notSynchronized
  have hK := hC.1
  have hS : va_S (xA G) s.heap s.heap [] := va_S.rf
  obtain ⟨z, more, htab, hz1, hz2, hz3, hz4⟩ := xt_row1 (xt_table B (atoms_spec B.pre _ List.mem_cons_self))
  have hl := lv_entry ([.ref (G.2.1 0), .long j2, .int a3, .ref (G.2.1 66)]) (n := 6) (Nat.le_of_ble_eq_true rfl)
  rw [lg_entry_eq]
  generalize (lg_sl ([.ref (G.2.1 0), .long j2, .int a3, .ref (G.2.1 66)]) ++ List.replicate (6 - (lg_sl ([.ref (G.2.1 0), .long j2, .int a3, .ref (G.2.1 66)])).length) Slot.unset).toArray = ls at hl ⊢
  have hl : lv_has ls 6 [(0, .ref (G.2.1 0)), (1, .long j2), (3, .int a3), (4, .ref (G.2.1 66))] := hl
  refine lv_aload hx hb d_PlainOriginLaw_feed_0 (lv_at hl 3 rfl) ?_
  refine lv_iconst (v := (0 : Int32)) hx hb d_PlainOriginLaw_feed_2 (by decide) ?_
  refine lv_aload_n hx hb d_PlainOriginLaw_feed_3 rfl (lv_at hl 0 rfl) ?_
  refine lv_lload_n hx hb d_PlainOriginLaw_feed_4 rfl (lv_at hl 1 rfl) ?_
  refine lv_iload_n hx hb d_PlainOriginLaw_feed_5 rfl (lv_at hl 2 rfl) ?_
  refine xt_catch (xt_runV (As := [.long j2, .int a3]) (rest := [.int (0 : Int32), .ref (G.2.1 66)]) ⟨hx, hb, hml, hown, hu⟩ (u_PlainOrigin_feed l G σ j2 a3 hfl hE) (cwV 2 hu (uw_V mw_428 mw_429 mw_430 mw_60 mw_431) rfl rfl rfl hd_PlainOrigin_feed ⟨Nat.le_of_ble_eq_true rfl, Nat.le_of_ble_eq_true rfl⟩) (x_preV2 hC hT hS hw (va_recv hK hw (q := (R_PlainOrigin, T_PlainOrigin, 5)) (ci := 9) rfl (x_at (by decide) (xcl_0 G σ)))) rfl rfl hl.1 rfl (lv_room (Nat.le_of_ble_eq_true rfl)) d_PlainOriginLaw_feed_6 ⟨Nat.le_of_ble_eq_true rfl, Nat.le_of_ble_eq_true rfl⟩) hown htab (by simp [covers, hz1, hz2]) (by rw [hz4]; decide) (by rw [hz4]; exact hu _ mw_427) (xT_c0 hT) (fun x H1 hold hsz => ?_)
  rw [hz3]
  refine lv_astore hx hb d_PlainOriginLaw_feed_14 hl (by decide) rfl (fun ls hl => ?_)
  refine lv_iconst (v := (1 : Int32)) hx hb d_PlainOriginLaw_feed_16 (by decide) ?_
  exact W.iret (v := (1 : Int32)) hx hb hr (fun t ht hW => ⟨rfl, by rw [ht]; exact hw.old hold, by rw [ht]; exact hsz, fun q cell hq => by rw [ht]; exact hold q cell hq⟩) (fun q h => by cases h) d_PlainOriginLaw_feed_17

def y_PlainOriginLaw_out : MethodName := ⟨"PlainOriginLaw", "out", "(LPlainOrigin;I[J)I"⟩
def ws_PlainOriginLaw_out : List Cond := Cond.codeWith y_PlainOriginLaw_out method_4_code 4 (some .int) [(0, 8, 11, 19)] :: UW
theorem hd_PlainOriginLaw_out : y_PlainOriginLaw_out.cls ≠ "java/lang/invoke/MethodHandle" ∧ y_PlainOriginLaw_out.cls ≠ "java/lang/invoke/VarHandle" ∧ (parseMethodDescriptor y_PlainOriginLaw_out.desc).map (fun d => d.parameters.length) = some 3 := by decide +kernel
theorem d_PlainOriginLaw_out_0 : decode method_4_code 0 = .ok (.aload_n 2, 1) := by decide +kernel
theorem d_PlainOriginLaw_out_1 : decode method_4_code 1 = .ok (.iconst 0, 1) := by decide +kernel
theorem d_PlainOriginLaw_out_2 : decode method_4_code 2 = .ok (.aload_n 0, 1) := by decide +kernel
theorem d_PlainOriginLaw_out_3 : decode method_4_code 3 = .ok (.iload_n 1, 1) := by decide +kernel
theorem d_PlainOriginLaw_out_4 : decode method_4_code 4 = .ok (.invokevirtual 15, 3) := by decide +kernel
theorem d_PlainOriginLaw_out_7 : decode method_4_code 7 = .ok (.lastore, 1) := by decide +kernel
theorem d_PlainOriginLaw_out_8 : decode method_4_code 8 = .ok (.goto (6), 3) := by decide +kernel
theorem d_PlainOriginLaw_out_11 : decode method_4_code 11 = .ok (.astore_n 3, 1) := by decide +kernel
theorem d_PlainOriginLaw_out_12 : decode method_4_code 12 = .ok (.iconst 1, 1) := by decide +kernel
theorem d_PlainOriginLaw_out_13 : decode method_4_code 13 = .ok (.ireturn, 1) := by decide +kernel
theorem d_PlainOriginLaw_out_14 : decode method_4_code 14 = .ok (.iconst 0, 1) := by decide +kernel
theorem d_PlainOriginLaw_out_15 : decode method_4_code 15 = .ok (.ireturn, 1) := by decide +kernel
def x_PlainOriginLaw_out (a2 : Int32) (σ : St) : Option (Int32 × St) := (Option.bind (x_PlainOrigin_out a2 σ) (fun r4 => (if x_in (0 : Int32) 1 then (x_let (x_updL σ r4) (fun (s7 : St) => some ((0 : Int32), s7))) else none)))
abbrev rm_PlainOriginLaw_out : Room := { frames := 2, cells := 0, slots := 0, locals := 46 }
set_option maxHeartbeats 4000000 in
set_option maxRecDepth 100000 in
theorem t_PlainOriginLaw_out (l : Launch) (G : xG) (σ : St) (a2 : Int32) (r : Int32) (σ' : St) (hE : x_PlainOriginLaw_out a2 σ = some (r, σ')) : Met l y_PlainOriginLaw_out (ws_PlainOriginLaw_out) rm_PlainOriginLaw_out (xP G σ [.ref (G.2.1 0), .int a2, .ref (G.2.1 66)]) (xQ G (some (.int r)) σ') 0 0 (xA G) := by
  refine va_MetW (cc := method_4_code) (maxL := 4) (ret := (some .int)) (hh := [(0, 8, 11, 19)]) (by decide) rfl ?_
  intro p e s m args below meth c s₁ B hml hv
  obtain ⟨rfl, hw, hC⟩ := hv
  have hx := B.exec
  have hb := B.bytes
  have hr := B.returns
  have hu : ∀ w ∈ UW, w.before _ s = true := fun w h => atoms_spec B.pre w (List.mem_cons_of_mem _ h)
  have hown : s.vm.findClass R_Law = some m.cls := findClass_of_methodNamed B.named
  have hlocks := B.notSynchronized
  have hK := hC.1
  have hI := hC.2.1
  have hG := hC.2.2.1
  have hN := hC.2.2.2
  have hS : va_S (xA G) s.heap s.heap [] := va_S.rf
  have hl := lv_entry ([.ref (G.2.1 0), .int a2, .ref (G.2.1 66)]) (n := 4) (Nat.le_of_ble_eq_true rfl)
  rw [lg_entry_eq]
  generalize (lg_sl ([.ref (G.2.1 0), .int a2, .ref (G.2.1 66)]) ++ List.replicate (4 - (lg_sl ([.ref (G.2.1 0), .int a2, .ref (G.2.1 66)])).length) Slot.unset).toArray = ls at hl ⊢
  have hl : lv_has ls 4 [(0, .ref (G.2.1 0)), (1, .int a2), (2, .ref (G.2.1 66))] := hl
  unfold x_PlainOriginLaw_out at hE
  refine lv_aload_n hx hb d_PlainOriginLaw_out_0 rfl (lv_at hl 2 rfl) ?_
  refine lv_iconst (v := (0 : Int32)) hx hb d_PlainOriginLaw_out_1 (by decide) ?_
  refine lv_aload_n hx hb d_PlainOriginLaw_out_2 rfl (lv_at hl 0 rfl) ?_
  refine lv_iload_n hx hb d_PlainOriginLaw_out_3 rfl (lv_at hl 1 rfl) ?_
  obtain ⟨r4, hC4, hE⟩ := x_bind hE
  refine x_callR (W.runV (As := [.int a2]) (rest := [.int (0 : Int32), .ref (G.2.1 66)]) ⟨hx, hb, hml, hown, hu⟩ (t_PlainOrigin_out l G σ a2 r4 hC4) (cwV 1 hu (uw_V mw_960 mw_961 mw_962 mw_60 mw_963) rfl rfl rfl hd_PlainOrigin_out ⟨Nat.le_of_ble_eq_true rfl, Nat.le_of_ble_eq_true rfl⟩) (x_preV hC hS hw (va_recv hK hw (q := (R_PlainOrigin, T_PlainOrigin, 5)) (ci := 9) rfl (x_at (by decide) (xcl_0 G σ)))) rfl rfl hl.1 rfl (lv_room (Nat.le_of_ble_eq_true rfl)) d_PlainOriginLaw_out_4 ⟨Nat.le_of_ble_eq_true rfl, Nat.le_of_ble_eq_true rfl⟩) ?_
  obtain ⟨g7, hE⟩ := x_guard hE
  refine va_last hx hb hK hw (x_D hI _) hS 66 2 (x_at (by decide) (xcl_66 G σ)) rfl g7 d_PlainOriginLaw_out_7 (fun H locs hw _ hS => ?_)
  replace hw := x_setL hw
  obtain ⟨s7, e7, hE⟩ := x_letE hE
  rw [← e7] at hw
  refine lv_goto (tgt := 14) hx hb d_PlainOriginLaw_out_8 (by decide) ?_
  refine lv_iconst (v := (0 : Int32)) hx hb d_PlainOriginLaw_out_14 (by decide) ?_
  obtain ⟨e1, e2⟩ := x_pair hE
  exact W.iret (v := (0 : Int32)) hx hb hr (fun t ht hW => ⟨by rw [e1], by rw [ht, ← e2]; exact hw, hS.F ht⟩) hS.2.2 d_PlainOriginLaw_out_15

abbrev rv_PlainOriginLaw_out : Room := { frames := 7, cells := 1, slots := 6, locals := 108 }
set_option maxHeartbeats 4000000 in
set_option maxRecDepth 100000 in
theorem v_PlainOriginLaw_out (l : Launch) (G : xG) (σ : St) (a2 : Int32) (hfl : ∀ e : Env, l.admits e → e.platform.stackTraces = false) (hE : z_PlainOrigin_out a2 = some ()) : Met l y_PlainOriginLaw_out (ws_PlainOriginLaw_out) rv_PlainOriginLaw_out (xP2 G σ [.ref (G.2.1 0), .int a2, .ref (G.2.1 66)]) (xQt G (some (.int 1)) σ) 1 6 (fun _ => False) := by
  refine va_MetW (cc := method_4_code) (maxL := 4) (ret := (some .int)) (hh := [(0, 8, 11, 19)]) (by decide) rfl ?_
  intro p e s m args below meth c s₁ B hml hv
  obtain ⟨rfl, hw, hC, hT⟩ := hv
  have hx := B.exec
  have hb := B.bytes
  have hr := B.returns
  have hu : ∀ w ∈ UW, w.before _ s = true := fun w h => atoms_spec B.pre w (List.mem_cons_of_mem _ h)
  have hown : s.vm.findClass R_Law = some m.cls := findClass_of_methodNamed B.named
  have hlocks := B.notSynchronized
  have hK := hC.1
  have hS : va_S (xA G) s.heap s.heap [] := va_S.rf
  obtain ⟨z, more, htab, hz1, hz2, hz3, hz4⟩ := xt_row1 (xt_table B (atoms_spec B.pre _ List.mem_cons_self))
  have hl := lv_entry ([.ref (G.2.1 0), .int a2, .ref (G.2.1 66)]) (n := 4) (Nat.le_of_ble_eq_true rfl)
  rw [lg_entry_eq]
  generalize (lg_sl ([.ref (G.2.1 0), .int a2, .ref (G.2.1 66)]) ++ List.replicate (4 - (lg_sl ([.ref (G.2.1 0), .int a2, .ref (G.2.1 66)])).length) Slot.unset).toArray = ls at hl ⊢
  have hl : lv_has ls 4 [(0, .ref (G.2.1 0)), (1, .int a2), (2, .ref (G.2.1 66))] := hl
  refine lv_aload_n hx hb d_PlainOriginLaw_out_0 rfl (lv_at hl 2 rfl) ?_
  refine lv_iconst (v := (0 : Int32)) hx hb d_PlainOriginLaw_out_1 (by decide) ?_
  refine lv_aload_n hx hb d_PlainOriginLaw_out_2 rfl (lv_at hl 0 rfl) ?_
  refine lv_iload_n hx hb d_PlainOriginLaw_out_3 rfl (lv_at hl 1 rfl) ?_
  refine xt_catch (xt_runV (As := [.int a2]) (rest := [.int (0 : Int32), .ref (G.2.1 66)]) ⟨hx, hb, hml, hown, hu⟩ (u_PlainOrigin_out l G σ a2 hfl hE) (cwV 1 hu (uw_V mw_960 mw_961 mw_962 mw_60 mw_963) rfl rfl rfl hd_PlainOrigin_out ⟨Nat.le_of_ble_eq_true rfl, Nat.le_of_ble_eq_true rfl⟩) (x_preV2 hC hT hS hw (va_recv hK hw (q := (R_PlainOrigin, T_PlainOrigin, 5)) (ci := 9) rfl (x_at (by decide) (xcl_0 G σ)))) rfl rfl hl.1 rfl (lv_room (Nat.le_of_ble_eq_true rfl)) d_PlainOriginLaw_out_4 ⟨Nat.le_of_ble_eq_true rfl, Nat.le_of_ble_eq_true rfl⟩) hown htab (by simp [covers, hz1, hz2]) (by rw [hz4]; decide) (by rw [hz4]; exact hu _ mw_959) (xT_c1 hT) (fun x H1 hold hsz => ?_)
  rw [hz3]
  refine lv_astore_n hx hb d_PlainOriginLaw_out_11 rfl hl (by decide) rfl (fun ls hl => ?_)
  refine lv_iconst (v := (1 : Int32)) hx hb d_PlainOriginLaw_out_12 (by decide) ?_
  exact W.iret (v := (1 : Int32)) hx hb hr (fun t ht hW => ⟨rfl, by rw [ht]; exact hw.old hold, by rw [ht]; exact hsz, fun q cell hq => by rw [ht]; exact hold q cell hq⟩) (fun q h => by cases h) d_PlainOriginLaw_out_13

def y_PlainOriginLaw_size : MethodName := ⟨"PlainOriginLaw", "size", "(LPlainOrigin;I[J)I"⟩
def ws_PlainOriginLaw_size : List Cond := Cond.codeWith y_PlainOriginLaw_size method_5_code 4 (some .int) [(0, 9, 12, 13)] :: UW
theorem hd_PlainOriginLaw_size : y_PlainOriginLaw_size.cls ≠ "java/lang/invoke/MethodHandle" ∧ y_PlainOriginLaw_size.cls ≠ "java/lang/invoke/VarHandle" ∧ (parseMethodDescriptor y_PlainOriginLaw_size.desc).map (fun d => d.parameters.length) = some 3 := by decide +kernel
theorem d_PlainOriginLaw_size_0 : decode method_5_code 0 = .ok (.aload_n 2, 1) := by decide +kernel
theorem d_PlainOriginLaw_size_1 : decode method_5_code 1 = .ok (.iconst 0, 1) := by decide +kernel
theorem d_PlainOriginLaw_size_2 : decode method_5_code 2 = .ok (.aload_n 0, 1) := by decide +kernel
theorem d_PlainOriginLaw_size_3 : decode method_5_code 3 = .ok (.iload_n 1, 1) := by decide +kernel
theorem d_PlainOriginLaw_size_4 : decode method_5_code 4 = .ok (.invokevirtual 21, 3) := by decide +kernel
theorem d_PlainOriginLaw_size_7 : decode method_5_code 7 = .ok (.i2l, 1) := by decide +kernel
theorem d_PlainOriginLaw_size_8 : decode method_5_code 8 = .ok (.lastore, 1) := by decide +kernel
theorem d_PlainOriginLaw_size_9 : decode method_5_code 9 = .ok (.goto (6), 3) := by decide +kernel
theorem d_PlainOriginLaw_size_12 : decode method_5_code 12 = .ok (.astore_n 3, 1) := by decide +kernel
theorem d_PlainOriginLaw_size_13 : decode method_5_code 13 = .ok (.iconst 1, 1) := by decide +kernel
theorem d_PlainOriginLaw_size_14 : decode method_5_code 14 = .ok (.ireturn, 1) := by decide +kernel
theorem d_PlainOriginLaw_size_15 : decode method_5_code 15 = .ok (.iconst 0, 1) := by decide +kernel
theorem d_PlainOriginLaw_size_16 : decode method_5_code 16 = .ok (.ireturn, 1) := by decide +kernel
def x_PlainOriginLaw_size (a2 : Int32) (σ : St) : Option (Int32 × St) := (Option.bind (x_PlainOrigin_size a2 σ) (fun r4 => (if x_in (0 : Int32) 1 then (x_let (x_updL σ (Int32.toInt64 r4)) (fun (s8 : St) => some ((0 : Int32), s8))) else none)))
abbrev rm_PlainOriginLaw_size : Room := { frames := 2, cells := 0, slots := 0, locals := 43 }
set_option maxHeartbeats 4000000 in
set_option maxRecDepth 100000 in
theorem t_PlainOriginLaw_size (l : Launch) (G : xG) (σ : St) (a2 : Int32) (r : Int32) (σ' : St) (hE : x_PlainOriginLaw_size a2 σ = some (r, σ')) : Met l y_PlainOriginLaw_size (ws_PlainOriginLaw_size) rm_PlainOriginLaw_size (xP G σ [.ref (G.2.1 0), .int a2, .ref (G.2.1 66)]) (xQ G (some (.int r)) σ') 0 0 (xA G) := by
  refine va_MetW (cc := method_5_code) (maxL := 4) (ret := (some .int)) (hh := [(0, 9, 12, 13)]) (by decide) rfl ?_
  intro p e s m args below meth c s₁ B hml hv
  obtain ⟨rfl, hw, hC⟩ := hv
  have hx := B.exec
  have hb := B.bytes
  have hr := B.returns
  have hu : ∀ w ∈ UW, w.before _ s = true := fun w h => atoms_spec B.pre w (List.mem_cons_of_mem _ h)
  have hown : s.vm.findClass R_Law = some m.cls := findClass_of_methodNamed B.named
  have hlocks := B.notSynchronized
  have hK := hC.1
  have hI := hC.2.1
  have hG := hC.2.2.1
  have hN := hC.2.2.2
  have hS : va_S (xA G) s.heap s.heap [] := va_S.rf
  have hl := lv_entry ([.ref (G.2.1 0), .int a2, .ref (G.2.1 66)]) (n := 4) (Nat.le_of_ble_eq_true rfl)
  rw [lg_entry_eq]
  generalize (lg_sl ([.ref (G.2.1 0), .int a2, .ref (G.2.1 66)]) ++ List.replicate (4 - (lg_sl ([.ref (G.2.1 0), .int a2, .ref (G.2.1 66)])).length) Slot.unset).toArray = ls at hl ⊢
  have hl : lv_has ls 4 [(0, .ref (G.2.1 0)), (1, .int a2), (2, .ref (G.2.1 66))] := hl
  unfold x_PlainOriginLaw_size at hE
  refine lv_aload_n hx hb d_PlainOriginLaw_size_0 rfl (lv_at hl 2 rfl) ?_
  refine lv_iconst (v := (0 : Int32)) hx hb d_PlainOriginLaw_size_1 (by decide) ?_
  refine lv_aload_n hx hb d_PlainOriginLaw_size_2 rfl (lv_at hl 0 rfl) ?_
  refine lv_iload_n hx hb d_PlainOriginLaw_size_3 rfl (lv_at hl 1 rfl) ?_
  obtain ⟨r4, hC4, hE⟩ := x_bind hE
  refine x_callR (W.runV (As := [.int a2]) (rest := [.int (0 : Int32), .ref (G.2.1 66)]) ⟨hx, hb, hml, hown, hu⟩ (t_PlainOrigin_size l G σ a2 r4 hC4) (cwV 1 hu (uw_V mw_984 mw_985 mw_986 mw_60 mw_987) rfl rfl rfl hd_PlainOrigin_size ⟨Nat.le_of_ble_eq_true rfl, Nat.le_of_ble_eq_true rfl⟩) (x_preV hC hS hw (va_recv hK hw (q := (R_PlainOrigin, T_PlainOrigin, 5)) (ci := 9) rfl (x_at (by decide) (xcl_0 G σ)))) rfl rfl hl.1 rfl (lv_room (Nat.le_of_ble_eq_true rfl)) d_PlainOriginLaw_size_4 ⟨Nat.le_of_ble_eq_true rfl, Nat.le_of_ble_eq_true rfl⟩) ?_
  refine lv_i2l hx hb d_PlainOriginLaw_size_7 rfl ?_
  obtain ⟨g8, hE⟩ := x_guard hE
  refine va_last hx hb hK hw (x_D hI _) hS 66 2 (x_at (by decide) (xcl_66 G σ)) rfl g8 d_PlainOriginLaw_size_8 (fun H locs hw _ hS => ?_)
  replace hw := x_setL hw
  obtain ⟨s8, e8, hE⟩ := x_letE hE
  rw [← e8] at hw
  refine lv_goto (tgt := 15) hx hb d_PlainOriginLaw_size_9 (by decide) ?_
  refine lv_iconst (v := (0 : Int32)) hx hb d_PlainOriginLaw_size_15 (by decide) ?_
  obtain ⟨e1, e2⟩ := x_pair hE
  exact W.iret (v := (0 : Int32)) hx hb hr (fun t ht hW => ⟨by rw [e1], by rw [ht, ← e2]; exact hw, hS.F ht⟩) hS.2.2 d_PlainOriginLaw_size_16

abbrev rv_PlainOriginLaw_size : Room := { frames := 8, cells := 1, slots := 6, locals := 126 }
set_option maxHeartbeats 4000000 in
set_option maxRecDepth 100000 in
theorem v_PlainOriginLaw_size (l : Launch) (G : xG) (σ : St) (a2 : Int32) (hfl : ∀ e : Env, l.admits e → e.platform.stackTraces = false) (hE : z_PlainOrigin_size a2 = some ()) : Met l y_PlainOriginLaw_size (ws_PlainOriginLaw_size) rv_PlainOriginLaw_size (xP2 G σ [.ref (G.2.1 0), .int a2, .ref (G.2.1 66)]) (xQt G (some (.int 1)) σ) 1 6 (fun _ => False) := by
  refine va_MetW (cc := method_5_code) (maxL := 4) (ret := (some .int)) (hh := [(0, 9, 12, 13)]) (by decide) rfl ?_
  intro p e s m args below meth c s₁ B hml hv
  obtain ⟨rfl, hw, hC, hT⟩ := hv
  have hx := B.exec
  have hb := B.bytes
  have hr := B.returns
  have hu : ∀ w ∈ UW, w.before _ s = true := fun w h => atoms_spec B.pre w (List.mem_cons_of_mem _ h)
  have hown : s.vm.findClass R_Law = some m.cls := findClass_of_methodNamed B.named
  have hlocks := B.notSynchronized
  have hK := hC.1
  have hS : va_S (xA G) s.heap s.heap [] := va_S.rf
  obtain ⟨z, more, htab, hz1, hz2, hz3, hz4⟩ := xt_row1 (xt_table B (atoms_spec B.pre _ List.mem_cons_self))
  have hl := lv_entry ([.ref (G.2.1 0), .int a2, .ref (G.2.1 66)]) (n := 4) (Nat.le_of_ble_eq_true rfl)
  rw [lg_entry_eq]
  generalize (lg_sl ([.ref (G.2.1 0), .int a2, .ref (G.2.1 66)]) ++ List.replicate (4 - (lg_sl ([.ref (G.2.1 0), .int a2, .ref (G.2.1 66)])).length) Slot.unset).toArray = ls at hl ⊢
  have hl : lv_has ls 4 [(0, .ref (G.2.1 0)), (1, .int a2), (2, .ref (G.2.1 66))] := hl
  refine lv_aload_n hx hb d_PlainOriginLaw_size_0 rfl (lv_at hl 2 rfl) ?_
  refine lv_iconst (v := (0 : Int32)) hx hb d_PlainOriginLaw_size_1 (by decide) ?_
  refine lv_aload_n hx hb d_PlainOriginLaw_size_2 rfl (lv_at hl 0 rfl) ?_
  refine lv_iload_n hx hb d_PlainOriginLaw_size_3 rfl (lv_at hl 1 rfl) ?_
  refine xt_catch (xt_runV (As := [.int a2]) (rest := [.int (0 : Int32), .ref (G.2.1 66)]) ⟨hx, hb, hml, hown, hu⟩ (u_PlainOrigin_size l G σ a2 hfl hE) (cwV 1 hu (uw_V mw_984 mw_985 mw_986 mw_60 mw_987) rfl rfl rfl hd_PlainOrigin_size ⟨Nat.le_of_ble_eq_true rfl, Nat.le_of_ble_eq_true rfl⟩) (x_preV2 hC hT hS hw (va_recv hK hw (q := (R_PlainOrigin, T_PlainOrigin, 5)) (ci := 9) rfl (x_at (by decide) (xcl_0 G σ)))) rfl rfl hl.1 rfl (lv_room (Nat.le_of_ble_eq_true rfl)) d_PlainOriginLaw_size_4 ⟨Nat.le_of_ble_eq_true rfl, Nat.le_of_ble_eq_true rfl⟩) hown htab (by simp [covers, hz1, hz2]) (by rw [hz4]; decide) (by rw [hz4]; exact hu _ mw_427) (xT_c0 hT) (fun x H1 hold hsz => ?_)
  rw [hz3]
  refine lv_astore_n hx hb d_PlainOriginLaw_size_12 rfl hl (by decide) rfl (fun ls hl => ?_)
  refine lv_iconst (v := (1 : Int32)) hx hb d_PlainOriginLaw_size_13 (by decide) ?_
  exact W.iret (v := (1 : Int32)) hx hb hr (fun t ht hW => ⟨rfl, by rw [ht]; exact hw.old hold, by rw [ht]; exact hsz, fun q cell hq => by rw [ht]; exact hold q cell hq⟩) (fun q h => by cases h) d_PlainOriginLaw_size_14

def y_PlainOriginLaw_at : MethodName := ⟨"PlainOriginLaw", "at", "(LPlainOrigin;II[J)I"⟩
def ws_PlainOriginLaw_at : List Cond := Cond.codeWith y_PlainOriginLaw_at method_6_code 5 (some .int) [(0, 10, 13, 13), (0, 10, 17, 29)] :: UW
theorem hd_PlainOriginLaw_at : y_PlainOriginLaw_at.cls ≠ "java/lang/invoke/MethodHandle" ∧ y_PlainOriginLaw_at.cls ≠ "java/lang/invoke/VarHandle" ∧ (parseMethodDescriptor y_PlainOriginLaw_at.desc).map (fun d => d.parameters.length) = some 4 := by decide +kernel
theorem d_PlainOriginLaw_at_0 : decode method_6_code 0 = .ok (.aload_n 3, 1) := by decide +kernel
theorem d_PlainOriginLaw_at_1 : decode method_6_code 1 = .ok (.iconst 0, 1) := by decide +kernel
theorem d_PlainOriginLaw_at_2 : decode method_6_code 2 = .ok (.aload_n 0, 1) := by decide +kernel
theorem d_PlainOriginLaw_at_3 : decode method_6_code 3 = .ok (.iload_n 1, 1) := by decide +kernel
theorem d_PlainOriginLaw_at_4 : decode method_6_code 4 = .ok (.iload_n 2, 1) := by decide +kernel
theorem d_PlainOriginLaw_at_5 : decode method_6_code 5 = .ok (.invokevirtual 25, 3) := by decide +kernel
theorem d_PlainOriginLaw_at_8 : decode method_6_code 8 = .ok (.i2l, 1) := by decide +kernel
theorem d_PlainOriginLaw_at_9 : decode method_6_code 9 = .ok (.lastore, 1) := by decide +kernel
theorem d_PlainOriginLaw_at_10 : decode method_6_code 10 = .ok (.goto (11), 3) := by decide +kernel
theorem d_PlainOriginLaw_at_13 : decode method_6_code 13 = .ok (.astore 4, 2) := by decide +kernel
theorem d_PlainOriginLaw_at_15 : decode method_6_code 15 = .ok (.iconst 1, 1) := by decide +kernel
theorem d_PlainOriginLaw_at_16 : decode method_6_code 16 = .ok (.ireturn, 1) := by decide +kernel
theorem d_PlainOriginLaw_at_17 : decode method_6_code 17 = .ok (.astore 4, 2) := by decide +kernel
theorem d_PlainOriginLaw_at_19 : decode method_6_code 19 = .ok (.iconst 2, 1) := by decide +kernel
theorem d_PlainOriginLaw_at_20 : decode method_6_code 20 = .ok (.ireturn, 1) := by decide +kernel
theorem d_PlainOriginLaw_at_21 : decode method_6_code 21 = .ok (.iconst 0, 1) := by decide +kernel
theorem d_PlainOriginLaw_at_22 : decode method_6_code 22 = .ok (.ireturn, 1) := by decide +kernel
def x_PlainOriginLaw_at (a2 : Int32) (a3 : Int32) (σ : St) : Option (Int32 × St) := (Option.bind (x_PlainOrigin_at a2 a3 σ) (fun r5 => (if x_in (0 : Int32) 1 then (x_let (x_updL σ (Int32.toInt64 r5)) (fun (s9 : St) => some ((0 : Int32), s9))) else none)))
abbrev rm_PlainOriginLaw_at : Room := { frames := 2, cells := 0, slots := 0, locals := 44 }
set_option maxHeartbeats 4000000 in
set_option maxRecDepth 100000 in
theorem t_PlainOriginLaw_at (l : Launch) (G : xG) (σ : St) (a2 : Int32) (a3 : Int32) (r : Int32) (σ' : St) (hE : x_PlainOriginLaw_at a2 a3 σ = some (r, σ')) : Met l y_PlainOriginLaw_at (ws_PlainOriginLaw_at) rm_PlainOriginLaw_at (xP G σ [.ref (G.2.1 0), .int a2, .int a3, .ref (G.2.1 66)]) (xQ G (some (.int r)) σ') 0 0 (xA G) := by
  refine va_MetW (cc := method_6_code) (maxL := 5) (ret := (some .int)) (hh := [(0, 10, 13, 13), (0, 10, 17, 29)]) (by decide) rfl ?_
  intro p e s m args below meth c s₁ B hml hv
  obtain ⟨rfl, hw, hC⟩ := hv
  have hx := B.exec
  have hb := B.bytes
  have hr := B.returns
  have hu : ∀ w ∈ UW, w.before _ s = true := fun w h => atoms_spec B.pre w (List.mem_cons_of_mem _ h)
  have hown : s.vm.findClass R_Law = some m.cls := findClass_of_methodNamed B.named
  have hlocks := B.notSynchronized
  have hK := hC.1
  have hI := hC.2.1
  have hG := hC.2.2.1
  have hN := hC.2.2.2
  have hS : va_S (xA G) s.heap s.heap [] := va_S.rf
  have hl := lv_entry ([.ref (G.2.1 0), .int a2, .int a3, .ref (G.2.1 66)]) (n := 5) (Nat.le_of_ble_eq_true rfl)
  rw [lg_entry_eq]
  generalize (lg_sl ([.ref (G.2.1 0), .int a2, .int a3, .ref (G.2.1 66)]) ++ List.replicate (5 - (lg_sl ([.ref (G.2.1 0), .int a2, .int a3, .ref (G.2.1 66)])).length) Slot.unset).toArray = ls at hl ⊢
  have hl : lv_has ls 5 [(0, .ref (G.2.1 0)), (1, .int a2), (2, .int a3), (3, .ref (G.2.1 66))] := hl
  unfold x_PlainOriginLaw_at at hE
  refine lv_aload_n hx hb d_PlainOriginLaw_at_0 rfl (lv_at hl 3 rfl) ?_
  refine lv_iconst (v := (0 : Int32)) hx hb d_PlainOriginLaw_at_1 (by decide) ?_
  refine lv_aload_n hx hb d_PlainOriginLaw_at_2 rfl (lv_at hl 0 rfl) ?_
  refine lv_iload_n hx hb d_PlainOriginLaw_at_3 rfl (lv_at hl 1 rfl) ?_
  refine lv_iload_n hx hb d_PlainOriginLaw_at_4 rfl (lv_at hl 2 rfl) ?_
  obtain ⟨r5, hC5, hE⟩ := x_bind hE
  refine x_callR (W.runV (As := [.int a2, .int a3]) (rest := [.int (0 : Int32), .ref (G.2.1 66)]) ⟨hx, hb, hml, hown, hu⟩ (t_PlainOrigin_at l G σ a2 a3 r5 hC5) (cwV 2 hu (uw_V mw_998 mw_999 mw_1000 mw_60 mw_1001) rfl rfl rfl hd_PlainOrigin_at ⟨Nat.le_of_ble_eq_true rfl, Nat.le_of_ble_eq_true rfl⟩) (x_preV hC hS hw (va_recv hK hw (q := (R_PlainOrigin, T_PlainOrigin, 5)) (ci := 9) rfl (x_at (by decide) (xcl_0 G σ)))) rfl rfl hl.1 rfl (lv_room (Nat.le_of_ble_eq_true rfl)) d_PlainOriginLaw_at_5 ⟨Nat.le_of_ble_eq_true rfl, Nat.le_of_ble_eq_true rfl⟩) ?_
  refine lv_i2l hx hb d_PlainOriginLaw_at_8 rfl ?_
  obtain ⟨g9, hE⟩ := x_guard hE
  refine va_last hx hb hK hw (x_D hI _) hS 66 2 (x_at (by decide) (xcl_66 G σ)) rfl g9 d_PlainOriginLaw_at_9 (fun H locs hw _ hS => ?_)
  replace hw := x_setL hw
  obtain ⟨s9, e9, hE⟩ := x_letE hE
  rw [← e9] at hw
  refine lv_goto (tgt := 21) hx hb d_PlainOriginLaw_at_10 (by decide) ?_
  refine lv_iconst (v := (0 : Int32)) hx hb d_PlainOriginLaw_at_21 (by decide) ?_
  obtain ⟨e1, e2⟩ := x_pair hE
  exact W.iret (v := (0 : Int32)) hx hb hr (fun t ht hW => ⟨by rw [e1], by rw [ht, ← e2]; exact hw, hS.F ht⟩) hS.2.2 d_PlainOriginLaw_at_22

abbrev rv_PlainOriginLaw_at : Room := { frames := 8, cells := 1, slots := 6, locals := 127 }
set_option maxHeartbeats 4000000 in
set_option maxRecDepth 100000 in
theorem v_PlainOriginLaw_at (l : Launch) (G : xG) (σ : St) (a2 : Int32) (a3 : Int32) (hfl : ∀ e : Env, l.admits e → e.platform.stackTraces = false) (hE : z_PlainOrigin_at a2 a3 σ = some ()) : Met l y_PlainOriginLaw_at (ws_PlainOriginLaw_at) rv_PlainOriginLaw_at (xP2 G σ [.ref (G.2.1 0), .int a2, .int a3, .ref (G.2.1 66)]) (xQt G (some (.int 1)) σ) 1 6 (fun _ => False) := by
  refine va_MetW (cc := method_6_code) (maxL := 5) (ret := (some .int)) (hh := [(0, 10, 13, 13), (0, 10, 17, 29)]) (by decide) rfl ?_
  intro p e s m args below meth c s₁ B hml hv
  obtain ⟨rfl, hw, hC, hT⟩ := hv
  have hx := B.exec
  have hb := B.bytes
  have hr := B.returns
  have hu : ∀ w ∈ UW, w.before _ s = true := fun w h => atoms_spec B.pre w (List.mem_cons_of_mem _ h)
  have hown : s.vm.findClass R_Law = some m.cls := findClass_of_methodNamed B.named
  have hlocks := B.notSynchronized
  have hK := hC.1
  have hS : va_S (xA G) s.heap s.heap [] := va_S.rf
  obtain ⟨z, more, htab, hz1, hz2, hz3, hz4⟩ := xt_row1 (xt_table B (atoms_spec B.pre _ List.mem_cons_self))
  have hl := lv_entry ([.ref (G.2.1 0), .int a2, .int a3, .ref (G.2.1 66)]) (n := 5) (Nat.le_of_ble_eq_true rfl)
  rw [lg_entry_eq]
  generalize (lg_sl ([.ref (G.2.1 0), .int a2, .int a3, .ref (G.2.1 66)]) ++ List.replicate (5 - (lg_sl ([.ref (G.2.1 0), .int a2, .int a3, .ref (G.2.1 66)])).length) Slot.unset).toArray = ls at hl ⊢
  have hl : lv_has ls 5 [(0, .ref (G.2.1 0)), (1, .int a2), (2, .int a3), (3, .ref (G.2.1 66))] := hl
  refine lv_aload_n hx hb d_PlainOriginLaw_at_0 rfl (lv_at hl 3 rfl) ?_
  refine lv_iconst (v := (0 : Int32)) hx hb d_PlainOriginLaw_at_1 (by decide) ?_
  refine lv_aload_n hx hb d_PlainOriginLaw_at_2 rfl (lv_at hl 0 rfl) ?_
  refine lv_iload_n hx hb d_PlainOriginLaw_at_3 rfl (lv_at hl 1 rfl) ?_
  refine lv_iload_n hx hb d_PlainOriginLaw_at_4 rfl (lv_at hl 2 rfl) ?_
  refine xt_catch (xt_runV (As := [.int a2, .int a3]) (rest := [.int (0 : Int32), .ref (G.2.1 66)]) ⟨hx, hb, hml, hown, hu⟩ (u_PlainOrigin_at l G σ a2 a3 hfl hE) (cwV 2 hu (uw_V mw_998 mw_999 mw_1000 mw_60 mw_1001) rfl rfl rfl hd_PlainOrigin_at ⟨Nat.le_of_ble_eq_true rfl, Nat.le_of_ble_eq_true rfl⟩) (x_preV2 hC hT hS hw (va_recv hK hw (q := (R_PlainOrigin, T_PlainOrigin, 5)) (ci := 9) rfl (x_at (by decide) (xcl_0 G σ)))) rfl rfl hl.1 rfl (lv_room (Nat.le_of_ble_eq_true rfl)) d_PlainOriginLaw_at_5 ⟨Nat.le_of_ble_eq_true rfl, Nat.le_of_ble_eq_true rfl⟩) hown htab (by simp [covers, hz1, hz2]) (by rw [hz4]; decide) (by rw [hz4]; exact hu _ mw_427) (xT_c0 hT) (fun x H1 hold hsz => ?_)
  rw [hz3]
  refine lv_astore hx hb d_PlainOriginLaw_at_13 hl (by decide) rfl (fun ls hl => ?_)
  refine lv_iconst (v := (1 : Int32)) hx hb d_PlainOriginLaw_at_15 (by decide) ?_
  exact W.iret (v := (1 : Int32)) hx hb hr (fun t ht hW => ⟨rfl, by rw [ht]; exact hw.old hold, by rw [ht]; exact hsz, fun q cell hq => by rw [ht]; exact hold q cell hq⟩) (fun q h => by cases h) d_PlainOriginLaw_at_16

def y_PlainOriginLaw_mark : MethodName := ⟨"PlainOriginLaw", "mark", "(LPlainOrigin;I[J)I"⟩
def ws_PlainOriginLaw_mark : List Cond := Cond.codeWith y_PlainOriginLaw_mark method_7_code 4 (some .int) [(0, 9, 12, 13)] :: UW
theorem hd_PlainOriginLaw_mark : y_PlainOriginLaw_mark.cls ≠ "java/lang/invoke/MethodHandle" ∧ y_PlainOriginLaw_mark.cls ≠ "java/lang/invoke/VarHandle" ∧ (parseMethodDescriptor y_PlainOriginLaw_mark.desc).map (fun d => d.parameters.length) = some 3 := by decide +kernel
theorem d_PlainOriginLaw_mark_0 : decode method_7_code 0 = .ok (.aload_n 2, 1) := by decide +kernel
theorem d_PlainOriginLaw_mark_1 : decode method_7_code 1 = .ok (.iconst 0, 1) := by decide +kernel
theorem d_PlainOriginLaw_mark_2 : decode method_7_code 2 = .ok (.aload_n 0, 1) := by decide +kernel
theorem d_PlainOriginLaw_mark_3 : decode method_7_code 3 = .ok (.iload_n 1, 1) := by decide +kernel
theorem d_PlainOriginLaw_mark_4 : decode method_7_code 4 = .ok (.invokevirtual 31, 3) := by decide +kernel
theorem d_PlainOriginLaw_mark_7 : decode method_7_code 7 = .ok (.i2l, 1) := by decide +kernel
theorem d_PlainOriginLaw_mark_8 : decode method_7_code 8 = .ok (.lastore, 1) := by decide +kernel
theorem d_PlainOriginLaw_mark_9 : decode method_7_code 9 = .ok (.goto (6), 3) := by decide +kernel
theorem d_PlainOriginLaw_mark_12 : decode method_7_code 12 = .ok (.astore_n 3, 1) := by decide +kernel
theorem d_PlainOriginLaw_mark_13 : decode method_7_code 13 = .ok (.iconst 1, 1) := by decide +kernel
theorem d_PlainOriginLaw_mark_14 : decode method_7_code 14 = .ok (.ireturn, 1) := by decide +kernel
theorem d_PlainOriginLaw_mark_15 : decode method_7_code 15 = .ok (.iconst 0, 1) := by decide +kernel
theorem d_PlainOriginLaw_mark_16 : decode method_7_code 16 = .ok (.ireturn, 1) := by decide +kernel
def x_PlainOriginLaw_mark (a2 : Int32) (σ : St) : Option (Int32 × St) := (Option.bind (x_PlainOrigin_mark a2 σ) (fun r4 => (if x_in (0 : Int32) 1 then (x_let (x_updL σ (Int32.toInt64 r4)) (fun (s8 : St) => some ((0 : Int32), s8))) else none)))
abbrev rm_PlainOriginLaw_mark : Room := { frames := 2, cells := 0, slots := 0, locals := 42 }
set_option maxHeartbeats 4000000 in
set_option maxRecDepth 100000 in
theorem t_PlainOriginLaw_mark (l : Launch) (G : xG) (σ : St) (a2 : Int32) (r : Int32) (σ' : St) (hE : x_PlainOriginLaw_mark a2 σ = some (r, σ')) : Met l y_PlainOriginLaw_mark (ws_PlainOriginLaw_mark) rm_PlainOriginLaw_mark (xP G σ [.ref (G.2.1 0), .int a2, .ref (G.2.1 66)]) (xQ G (some (.int r)) σ') 0 0 (xA G) := by
  refine va_MetW (cc := method_7_code) (maxL := 4) (ret := (some .int)) (hh := [(0, 9, 12, 13)]) (by decide) rfl ?_
  intro p e s m args below meth c s₁ B hml hv
  obtain ⟨rfl, hw, hC⟩ := hv
  have hx := B.exec
  have hb := B.bytes
  have hr := B.returns
  have hu : ∀ w ∈ UW, w.before _ s = true := fun w h => atoms_spec B.pre w (List.mem_cons_of_mem _ h)
  have hown : s.vm.findClass R_Law = some m.cls := findClass_of_methodNamed B.named
  have hlocks := B.notSynchronized
  have hK := hC.1
  have hI := hC.2.1
  have hG := hC.2.2.1
  have hN := hC.2.2.2
  have hS : va_S (xA G) s.heap s.heap [] := va_S.rf
  have hl := lv_entry ([.ref (G.2.1 0), .int a2, .ref (G.2.1 66)]) (n := 4) (Nat.le_of_ble_eq_true rfl)
  rw [lg_entry_eq]
  generalize (lg_sl ([.ref (G.2.1 0), .int a2, .ref (G.2.1 66)]) ++ List.replicate (4 - (lg_sl ([.ref (G.2.1 0), .int a2, .ref (G.2.1 66)])).length) Slot.unset).toArray = ls at hl ⊢
  have hl : lv_has ls 4 [(0, .ref (G.2.1 0)), (1, .int a2), (2, .ref (G.2.1 66))] := hl
  unfold x_PlainOriginLaw_mark at hE
  refine lv_aload_n hx hb d_PlainOriginLaw_mark_0 rfl (lv_at hl 2 rfl) ?_
  refine lv_iconst (v := (0 : Int32)) hx hb d_PlainOriginLaw_mark_1 (by decide) ?_
  refine lv_aload_n hx hb d_PlainOriginLaw_mark_2 rfl (lv_at hl 0 rfl) ?_
  refine lv_iload_n hx hb d_PlainOriginLaw_mark_3 rfl (lv_at hl 1 rfl) ?_
  obtain ⟨r4, hC4, hE⟩ := x_bind hE
  refine x_callR (W.runV (As := [.int a2]) (rest := [.int (0 : Int32), .ref (G.2.1 66)]) ⟨hx, hb, hml, hown, hu⟩ (t_PlainOrigin_mark l G σ a2 r4 hC4) (cwV 1 hu (uw_V mw_1021 mw_1022 mw_1023 mw_60 mw_1024) rfl rfl rfl hd_PlainOrigin_mark ⟨Nat.le_of_ble_eq_true rfl, Nat.le_of_ble_eq_true rfl⟩) (x_preV hC hS hw (va_recv hK hw (q := (R_PlainOrigin, T_PlainOrigin, 5)) (ci := 9) rfl (x_at (by decide) (xcl_0 G σ)))) rfl rfl hl.1 rfl (lv_room (Nat.le_of_ble_eq_true rfl)) d_PlainOriginLaw_mark_4 ⟨Nat.le_of_ble_eq_true rfl, Nat.le_of_ble_eq_true rfl⟩) ?_
  refine lv_i2l hx hb d_PlainOriginLaw_mark_7 rfl ?_
  obtain ⟨g8, hE⟩ := x_guard hE
  refine va_last hx hb hK hw (x_D hI _) hS 66 2 (x_at (by decide) (xcl_66 G σ)) rfl g8 d_PlainOriginLaw_mark_8 (fun H locs hw _ hS => ?_)
  replace hw := x_setL hw
  obtain ⟨s8, e8, hE⟩ := x_letE hE
  rw [← e8] at hw
  refine lv_goto (tgt := 15) hx hb d_PlainOriginLaw_mark_9 (by decide) ?_
  refine lv_iconst (v := (0 : Int32)) hx hb d_PlainOriginLaw_mark_15 (by decide) ?_
  obtain ⟨e1, e2⟩ := x_pair hE
  exact W.iret (v := (0 : Int32)) hx hb hr (fun t ht hW => ⟨by rw [e1], by rw [ht, ← e2]; exact hw, hS.F ht⟩) hS.2.2 d_PlainOriginLaw_mark_16

abbrev rv_PlainOriginLaw_mark : Room := { frames := 8, cells := 1, slots := 6, locals := 125 }
set_option maxHeartbeats 4000000 in
set_option maxRecDepth 100000 in
theorem v_PlainOriginLaw_mark (l : Launch) (G : xG) (σ : St) (a2 : Int32) (hfl : ∀ e : Env, l.admits e → e.platform.stackTraces = false) (hE : z_PlainOrigin_mark a2 = some ()) : Met l y_PlainOriginLaw_mark (ws_PlainOriginLaw_mark) rv_PlainOriginLaw_mark (xP2 G σ [.ref (G.2.1 0), .int a2, .ref (G.2.1 66)]) (xQt G (some (.int 1)) σ) 1 6 (fun _ => False) := by
  refine va_MetW (cc := method_7_code) (maxL := 4) (ret := (some .int)) (hh := [(0, 9, 12, 13)]) (by decide) rfl ?_
  intro p e s m args below meth c s₁ B hml hv
  obtain ⟨rfl, hw, hC, hT⟩ := hv
  have hx := B.exec
  have hb := B.bytes
  have hr := B.returns
  have hu : ∀ w ∈ UW, w.before _ s = true := fun w h => atoms_spec B.pre w (List.mem_cons_of_mem _ h)
  have hown : s.vm.findClass R_Law = some m.cls := findClass_of_methodNamed B.named
  have hlocks := B.notSynchronized
  have hK := hC.1
  have hS : va_S (xA G) s.heap s.heap [] := va_S.rf
  obtain ⟨z, more, htab, hz1, hz2, hz3, hz4⟩ := xt_row1 (xt_table B (atoms_spec B.pre _ List.mem_cons_self))
  have hl := lv_entry ([.ref (G.2.1 0), .int a2, .ref (G.2.1 66)]) (n := 4) (Nat.le_of_ble_eq_true rfl)
  rw [lg_entry_eq]
  generalize (lg_sl ([.ref (G.2.1 0), .int a2, .ref (G.2.1 66)]) ++ List.replicate (4 - (lg_sl ([.ref (G.2.1 0), .int a2, .ref (G.2.1 66)])).length) Slot.unset).toArray = ls at hl ⊢
  have hl : lv_has ls 4 [(0, .ref (G.2.1 0)), (1, .int a2), (2, .ref (G.2.1 66))] := hl
  refine lv_aload_n hx hb d_PlainOriginLaw_mark_0 rfl (lv_at hl 2 rfl) ?_
  refine lv_iconst (v := (0 : Int32)) hx hb d_PlainOriginLaw_mark_1 (by decide) ?_
  refine lv_aload_n hx hb d_PlainOriginLaw_mark_2 rfl (lv_at hl 0 rfl) ?_
  refine lv_iload_n hx hb d_PlainOriginLaw_mark_3 rfl (lv_at hl 1 rfl) ?_
  refine xt_catch (xt_runV (As := [.int a2]) (rest := [.int (0 : Int32), .ref (G.2.1 66)]) ⟨hx, hb, hml, hown, hu⟩ (u_PlainOrigin_mark l G σ a2 hfl hE) (cwV 1 hu (uw_V mw_1021 mw_1022 mw_1023 mw_60 mw_1024) rfl rfl rfl hd_PlainOrigin_mark ⟨Nat.le_of_ble_eq_true rfl, Nat.le_of_ble_eq_true rfl⟩) (x_preV2 hC hT hS hw (va_recv hK hw (q := (R_PlainOrigin, T_PlainOrigin, 5)) (ci := 9) rfl (x_at (by decide) (xcl_0 G σ)))) rfl rfl hl.1 rfl (lv_room (Nat.le_of_ble_eq_true rfl)) d_PlainOriginLaw_mark_4 ⟨Nat.le_of_ble_eq_true rfl, Nat.le_of_ble_eq_true rfl⟩) hown htab (by simp [covers, hz1, hz2]) (by rw [hz4]; decide) (by rw [hz4]; exact hu _ mw_427) (xT_c0 hT) (fun x H1 hold hsz => ?_)
  rw [hz3]
  refine lv_astore_n hx hb d_PlainOriginLaw_mark_12 rfl hl (by decide) rfl (fun ls hl => ?_)
  refine lv_iconst (v := (1 : Int32)) hx hb d_PlainOriginLaw_mark_13 (by decide) ?_
  exact W.iret (v := (1 : Int32)) hx hb hr (fun t ht hW => ⟨rfl, by rw [ht]; exact hw.old hold, by rw [ht]; exact hsz, fun q cell hq => by rw [ht]; exact hold q cell hq⟩) (fun q h => by cases h) d_PlainOriginLaw_mark_14
