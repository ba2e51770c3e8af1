/-! a method that ends by a throw: its contract MetT; what its caller sees -/
def xTQ (below : List Frame) (X : String) (s : State) (mc ms : Nat) : State → Prop := fun t => ∃ x : Addr, t.status = .running ∧ Ended t below (.threw x) ∧ s.WarmedH t.vm ∧ s.sameButNew ({ t with vm := s.vm } : State) [] mc ms ∧ s.heap.size ≤ x ∧ ∃ ce : Cell, t.heap[x]? = some ce ∧ s.vm.findClass X = some ce.cls ∧ ce.vm = .none
def MetT (l : Launch) (y : MethodName) (ws : List Cond) (rm : Room) (Pc : Array Value → State → Prop) (X : String) (mc ms : Nat) : Prop :=
  MetFree l y (headSpec ws rm) Pc (fun _ _ _ _ _ => True) (fun _ st o t => ∃ x : Addr, o = .threw x ∧ st.WarmedH t.vm ∧ st.sameButNew ({ t with vm := st.vm } : State) [] mc ms ∧ st.heap.size ≤ x ∧ ∃ ce : Cell, t.heap[x]? = some ce ∧ st.vm.findClass X = some ce.cls ∧ ce.vm = .none)
theorem MetT.ofW {l : Launch} {y : MethodName} {ws ws' : List Cond} {rm : Room} {Pc : Array Value → State → Prop} {X : String} {mc ms : Nat} {cc : ByteArray} {maxL : Nat} {ret : Option FieldType}
    (hy : plainName y.cls = true) (hw : ws = Cond.code y cc maxL ret :: ws')
    (body : ∀ p e s m args below meth c s₁, BodyLoose p l y (headSpec ws rm) cc maxL ret e s m args below meth c s₁ → c.maxLocals = maxL → Pc args s →
      W p l e (headSpec ws rm).room s m args below meth c s.heap [] 0 0 (xTQ below X s mc ms) (entryFrame m args maxL)) : MetT l y ws rm Pc X mc ms := by
  refine MetFree.of_bodyS (code := cc) (maxLocals := maxL) (ret := ret) hy (fun args s m h hn => ?_) (fun p e s m args below meth c s₁ B hml hP _ => ?_)
  · have hcd := atoms_spec (ws := ws) h (Cond.code y cc maxL ret) (by rw [hw]; exact List.mem_cons_self)
    obtain ⟨meth, c, h1, h2, h3, h4, h5, h6, -, -⟩ := Cond.code_spec hn hcd
    exact ⟨meth, c, h1, h2, h3, h4, h5, h6⟩
  · obtain ⟨t, a1, x, b1, b2, b3⟩ := body p e s m args below meth c s₁ B hml hP s₁ (by rw [B.state]; rfl) (Stand.of_body B)
    exact ⟨t, .threw x, a1, b1, b2, x, rfl, b3⟩
/-- nothing written: every old cell is as it was -/
theorem xt_old {s t : State} {k n : Nat} (h : s.sameButNew t [] k n) {q : Nat} {cell : Cell} (hq : s.heap[q]? = some cell) : t.heap[q]? = some cell := by
  obtain ⟨c', h1, h2, -, h4⟩ := h.2.2.2.2.2 q cell hq
  have e : c'.slots = cell.slots := by
    apply Array.ext_getElem?
    intro i
    exact h4 i List.not_mem_nil
  rw [h1, h2, e]
section XT
variable {l : Launch} {R : Room} {p : Program} {e : Env} {below : List Frame} {s : State} {sargs : Array Value} {y : MethodName} {len Wn : Nat} {ws : List Cond} {rm : Room} {Pc : Array Value → State → Prop} {X : String} {mc ms : Nat} {bytes : ByteArray} {maxL : Nat} {ret : Option FieldType}
variable {m : MethodId} {meth : Method} {c : Code} {U : State} {locs : List Loc} {cells slots : Nat} {g : JFrame} {ig : Instr} {mk : MethodId} {a : Array Value}
/-- a callee that throws, seen from its caller's frame: the note lies over the frame, the heap has grown -/
theorem xt_back (hM : MetT l y ws rm Pc X mc ms) (hbl : FrameBlind Pc) (hrc : rm.cells = mc) (hrs : rm.slots = ms) (hfm : rm.frames + 1 ≤ R.frames) (hlo : Wn + (maxL + 11) + rm.locals ≤ R.locals)
    (hws : ∀ w ∈ ws, ∀ (a' : Array Value) (U : State), s.WarmedH U.vm → w.before a' U = true) (hcode : Cond.code y bytes maxL ret ∈ ws) (hinit : ∀ (a' : Array Value) (U : State), s.WarmedH U.vm → (Cond.initialized y.cls).before a' U = true)
    (X0 : Stand p l e R s m sargs below meth c U locs cells slots) (hg : g.method = m) (hsize : g.locals.size = c.maxLocals) (hdg : decode c.code g.pc = .ok (ig, len)) (hW : 2 * g.monitorRoom + (g.stack.map fun v => v.category).sum ≤ Wn) (hn : U.methodNamed? y = some mk) (hc : cells + mc ≤ R.cells) (hs : slots + ms ≤ R.slots) (hP : Pc a U) :
    ∃ (x : Addr) (B : State), Stand p l e R s m sargs below meth c B locs (cells + mc) (slots + ms) ∧ (∀ (q : Nat) (cell : Cell), U.heap[q]? = some cell → B.heap[q]? = some cell) ∧ U.heap.size ≤ B.heap.size ∧ U.heap.size ≤ x ∧ (∃ ce : Cell, B.heap[x]? = some ce ∧ U.vm.findClass X = some ce.cls ∧ ce.vm = .none) ∧
      Steps p.tables e below (doInvoke e (U.setTop g) [] mk a).1 ((B.setTop g).pushFrame (.throwing x)) := by
  obtain ⟨methY, cY, hmY, hcY, -, hlY, -, -, -, -⟩ := Cond.code_spec hn (hws _ hcode a U X0.warmed)
  obtain ⟨kY, hkY, -⟩ := className_of_methodNamed hn
  have hinitY : kY.init = .initialized := Cond.initialized_spec (findClass_of_methodNamed hn) hkY (hinit a U X0.warmed)
  have hat : At U g.method c below := by rw [hg]; exact X0.here
  have happ : (headSpec ws rm).appliesLoose y e.platform (U.calling g mk a) = true :=
    Spec.appliesLoose_calling (g := g) hat hdg hn hkY hinitY
      (X0.room_calling (g := g) (R' := (headSpec ws rm).room) hsize hmY hcY hfm (by rw [hlY]; show _ + _ + rm.locals ≤ _; omega) (by show cells + rm.cells ≤ _; omega) (by show slots + rm.slots ≤ _; omega)) (atoms_intro fun w hw => hws w hw _ _ X0.warmed)
  obtain ⟨mid, hmid⟩ := hat.above
  have hfr : (U.setTop g).frames = (.java g :: mid) ++ below := by rw [State.frames_setTop' g hat.top, hmid]; rfl
  obtain ⟨o, s₂, hsteps, -, hend, x, ho, hW₂, hsb, hx, ce, hce, hcl, hvm⟩ := Steps.callFree hM p X0.admits X0.cas X0.clock (acts := []) hfr happ (hbl _ _ _ _ hP) trivial
  subst ho
  obtain ⟨g₀, hg0⟩ := Option.isSome_iff_exists.mp hat.top
  obtain ⟨r, hr⟩ := State.topJava?_eq_some.mp hg0
  have hf₂ : s₂.frames = .throwing x :: .java g :: r := by
    have h1 : s₂.frames = .throwing x :: (U.setTop g).frames := hend
    rw [h1, State.frames_setTop _ hr]
  have hW' : U.WarmedH s₂.vm := hW₂
  have e3 : s₂ = ({ (U.calling g mk a).setFrames s₂.frames with heap := s₂.heap, slotsUsed := s₂.slotsUsed } : State).setVm s₂.vm := by
    have h1 : s₂ = ({ s₂ with vm := (U.calling g mk a).vm } : State).setVm s₂.vm := rfl
    have h2 : ({ s₂ with vm := (U.calling g mk a).vm } : State) = { (U.calling g mk a).setFrames s₂.frames with heap := s₂.heap, slotsUsed := s₂.slotsUsed } := hsb.1
    rw [h2] at h1
    exact h1
  have hs₂ : s₂ = ((({ U with heap := s₂.heap, slotsUsed := s₂.slotsUsed } : State).setVm s₂.vm).setTop g).pushFrame (.throwing x) := by
    have hr' : (({ U with heap := s₂.heap, slotsUsed := s₂.slotsUsed } : State).setVm s₂.vm).frames = .java g₀ :: r := hr
    refine e3.trans ?_
    rw [hf₂, State.calling_eq hat.top, State.setFrames_setFrames, State.pushFrame, State.frames_setTop _ hr', State.setTop_of_frames _ hr', State.setFrames_setFrames]
    rfl
  have hsame : U.sameButNew ({ U with heap := s₂.heap, slotsUsed := s₂.slotsUsed } : State) [] mc ms := by
    refine ⟨?_, hsb.2⟩
    obtain ⟨t, ht, -⟩ := State.frames_cons hr
    show ({ U with heap := s₂.heap, slotsUsed := s₂.slotsUsed } : State) = { U.setFrames U.frames with heap := s₂.heap, slotsUsed := s₂.slotsUsed }
    rw [State.setFrames_self ht]
  subst hg
  have hX : s.sameButNew ((({ U with heap := s₂.heap, slotsUsed := s₂.slotsUsed } : State).setVm s₂.vm).setVm s.vm) locs (cells + mc) (slots + ms) := by
    have h1 := X0.same.trans (hsame.setVm s.vm)
    rw [List.append_nil] at h1
    exact h1
  refine ⟨x, (({ U with heap := s₂.heap, slotsUsed := s₂.slotsUsed } : State).setVm s₂.vm),
    ⟨X0.admits, X0.cas, X0.clock, X0.frames, X0.room, X0.hears, X0.method, X0.code, (X0.here.setHeapUsed s₂.heap s₂.slotsUsed).setVm hW'.alike, X0.tail, State.WarmedH.trans X0.warmed hW', X0.limits, X0.bytes, hX⟩,
    fun q cell hq => xt_old hsame hq, hsame.2.1, hx, ⟨ce, hce, hcl, hvm⟩, ?_⟩
  rw [← hs₂]
  exact hsteps
/-- .. behind an invokevirtual, in a walk's form -/
theorem xt_runV {cc : ByteArray} {nL n index : Nat} {Ts : List Cond} {own C : String} {b : Addr} {As rest : List Value} {H : Heap} (S : CallFix p m c cc nL s sargs Ts own) (hM : MetT l y ws rm Pc X mc ms) (cw : CallW R s sargs own C index y bytes maxL ret ws rm mc ms n) (hp : PreV s H C b Pc As)
    (hg : g.method = m) (hn : As.length = n) (hsize : g.locals.size = nL) (hstack : g.stack = As.reverse ++ .ref b :: rest) (hW : 2 * g.monitorRoom + (rest.map fun v => v.category).sum ≤ 8) (hdg : decode cc g.pc = .ok (.invokevirtual index, 3)) (hf : cells + mc ≤ R.cells ∧ slots + ms ≤ R.slots) :
    ∀ T : State, T.heap = H → Stand p l e R s m sargs below meth c T locs cells slots → ∃ (x : Addr) (B : State), Stand p l e R s m sargs below meth c B locs (cells + mc) (slots + ms) ∧ (∀ (q : Nat) (cell : Cell), H[q]? = some cell → B.heap[q]? = some cell) ∧ H.size ≤ B.heap.size ∧ H.size ≤ x ∧ (∃ ce : Cell, B.heap[x]? = some ce ∧ s.vm.findClass X = some ce.cls ∧ ce.vm = .none) ∧
      ∀ target, Steps p.tables e below ((B.setTop { g with stack := rest }).pushFrame (.throwing x)) target → Steps p.tables e below (T.setTop g) target := by
  obtain ⟨⟨hrc, hrs, hfm, hlo, hws, hcw, hcode, hini, hy, hlen, hl⟩, hin, hse⟩ := cw
  obtain ⟨hx, hb, hml, ho, -⟩ := S
  obtain ⟨hbl, ⟨cellB, hcB, hoB, hclB⟩, hPc⟩ := hp
  intro T hT X0
  subst hT
  obtain ⟨mk, methM, hnamed, hmethM, hstM, habM⟩ := Cond.instanceMethod_spec hin
  obtain ⟨methM', cM, hmethM', -, -, -, -, -, -, hsigM⟩ := Cond.code_spec hnamed hcode
  cases hmethM.symm.trans hmethM'
  obtain ⟨c2, r2, m2, q1, q2, q3, q4, kP, hkP, hkPi⟩ := Cond.selects_spec hse
  cases hclB.symm.trans q1
  cases (State.methodFound?_of_named hnamed hy).symm.trans q2
  cases hnamed.symm.trans q3
  have hselP : selectMethod e.platform s.vm cellB.cls mk = .method mk := by rw [Launch.admits_selectMethod X0.admits]; exact q4
  obtain ⟨vm₁, X₁, hstep₁⟩ := X0.invokevirtual hx ho hl hnamed hmethM hstM hkP hkPi hy (a := b) (cell := cellB) hcB (fun z h => by rw [h] at hoB; cases hoB) hselP hmethM habM hkP hkPi (g := g) hg (argsL := As) (rest := rest) (hn.trans (hlen _ hsigM)) hstack (by rw [hb]; exact hdg)
  obtain ⟨x, B, XB, hold, hsz, hxx, ⟨ce, k1, k2, k3⟩, hst⟩ := xt_back (bytes := bytes) (maxL := maxL) (ret := ret) (Wn := 8) (g := { g with stack := rest }) (a := (Value.ref b :: As).toArray) hM hbl hrc hrs hfm hlo hws hcw (fun a' U hW => word_at hW (Or.inl (by first | rfl | simp [Cond.onTables, Cond.keeps, Cond.steady])) hini) X₁ hg (hsize.trans hml.symm) (by rw [hb]; exact hdg) hW (X₁.named hnamed) hf.1 hf.2 (hPc (T.setVm vm₁) rfl X₁.warmed)
  refine ⟨x, B, XB, hold, hsz, hxx, ⟨ce, k1, ?_, k3⟩, fun target h => hstep₁ _ fun acts => by rw [doInvoke_state]; exact hst.trans h⟩
  rw [← X₁.warmed.alike.findClass]
  exact k2
/-- the callee's throw goes through: no entry of the method's own table covers the call -/
theorem xt_pass {H : Heap} {pc : Nat} {ls : Array Slot} {st rest : List Value} {mc0 ms0 : Nat}
    (hrun : ∀ T : State, T.heap = H → Stand p l e R s m sargs below meth c T [] cells slots → ∃ (x : Addr) (B : State), Stand p l e R s m sargs below meth c B [] mc0 ms0 ∧ (∀ (q : Nat) (cell : Cell), H[q]? = some cell → B.heap[q]? = some cell) ∧ H.size ≤ B.heap.size ∧ H.size ≤ x ∧ (∃ ce : Cell, B.heap[x]? = some ce ∧ s.vm.findClass X = some ce.cls ∧ ce.vm = .none) ∧
      ∀ target, Steps p.tables e below ((B.setTop { F0 m pc ls st with stack := rest }).pushFrame (.throwing x)) target → Steps p.tables e below (T.setTop (F0 m pc ls st)) target)
    (hsz : s.heap.size ≤ H.size) (hout : ∀ z ∈ c.exceptionTable.toList, covers z pc = false) (hlocks : meth.locks = false) : W p l e R s m sargs below meth c H [] cells slots (xTQ below X s mc0 ms0) (F0 m pc ls st) := by
  intro T hT X0
  obtain ⟨x, B, XB, -, -, h3, ⟨ce, k1, k2, k3⟩, hst⟩ := hrun T hT X0
  obtain ⟨g1, g2, g3, g4, g5⟩ := XB.leaveThrown x (g := { F0 m pc ls st with stack := rest }) rfl rfl rfl hout hlocks
  exact ⟨_, hst _ g1, x, g2, g3, g4, g5, Nat.le_trans hsz h3, ce, k1, k2, k3⟩
/-- 'throw new X(text)' from the constructor's call on -/
theorem xt_own {own cls : String} {names : List String} {ic : Nat} {cc : ByteArray} {pc : Nat} {ls : Array Slot} {rest : List Value} {b txt : Addr} {H : Heap} (hx : p.tables.exec = Jvm.exec) (hb : c.code = cc) (hml : c.maxLocals = ls.size) (hown : s.vm.findClass own = some m.cls) (htr : e.platform.stackTraces = false) (hcls : Bundle.fit cls = true) (hnames : ∀ n ∈ names, Bundle.fit n = true)
    (h : ∀ w ∈ Bundle.ownAtoms own ic cls names, w.before sargs s = true) {cX : ClassId} {kX : Class} (hfound : s.vm.findClass cls = some cX) (hkX : s.vm.classes[cX]? = some kX) (hcell : H[b]? = some (blank cX kX)) (hnew : s.heap.size ≤ b) (hd6 : decode cc pc = .ok (.invokespecial ic, 3)) (hd9 : decode cc (pc + 3) = .ok (.athrow, 1)) (hout : ∀ z ∈ c.exceptionTable.toList, covers z (pc + 3) = false)
    (hRf : names.length + 3 < R.frames) (hRl : ((Value.ref b :: rest).map fun v => v.category).sum + (13 * (names.length + 1) + 42) ≤ R.locals) (hlocks : meth.locks = false) : W p l e R s m sargs below meth c H [] cells slots (xTQ below cls s cells slots) (F0 m pc ls (.ref txt :: .ref b :: .ref b :: rest)) := by
  intro T hT X0
  obtain ⟨U', h1, h2, h3, h4, h5, ce, h6, h7⟩ := X0.ctorThrowS hx htr hown hcls hnames h (fun z hz => by cases hz) hfound hkX (by rw [hT]; exact hcell) hnew (msg := .ref txt) rfl (g := F0 m pc ls (.ref txt :: .ref b :: .ref b :: rest)) rfl hml.symm rfl rfl rfl (by rw [hb]; exact hd6) (by rw [hb]; exact hd9) hout hRf (by show 2 * 0 + _ + _ ≤ _; omega) hlocks
  exact ⟨U', h1, b, h2, h3, h4, h5, hnew, ce, h6, h7.cls, h7.vm⟩
end XT
theorem xt_empty {p : Program} {l : Launch} {y : MethodName} {S : Spec} {code : ByteArray} {n : Nat} {ret : Option FieldType} {e : Env} {s : State} {m : MethodId} {args : Array Value} {below : List Frame} {meth : Method} {c : Code} {s₁ : State} (B : BodyLoose p l y S code n ret e s m args below meth c s₁) (h : (Cond.code y code n ret).before args s = true) : ∀ (k : Nat), ∀ z ∈ c.exceptionTable.toList, covers z k = false := by
  obtain ⟨meth', c', h1, h2, -, -, -, -, h7, -⟩ := Cond.code_spec B.named h
  cases B.method.symm.trans h1
  cases (Stand.of_body B).code.symm.trans h2
  intro k z hz
  rw [Array.isEmpty_iff.mp h7] at hz
  cases hz
/-! what the throwing needs beside the good words: carried by the state -/
def xthX : List String := ["java/lang/IllegalArgumentException", "java/lang/IndexOutOfBoundsException", "java/util/NoSuchElementException"]
def xthS : List (String × String × String) := [("java/lang/Throwable", "UNASSIGNED_STACK", "[Ljava/lang/StackTraceElement;"), ("java/lang/Throwable", "SUPPRESSED_SENTINEL", "Ljava/util/List;")]
/-- a static field of an initialised class, in its cell outside A -/
def xLS (C n d : String) (A : Nat → Prop) (U : State) (H : Heap) : Prop := ∃ (c : ClassId) (k : Class) (i : Nat) (f : Field) (a : Nat) (cell : Cell), U.vm.findClass C = some c ∧ U.fieldFound? C n d = some (c, k, i, f) ∧ f.isStatic = true ∧ k.statics = some a ∧ H[a]? = some cell ∧ cell.vm.isStatics = true ∧ cell.cls = c ∧ f.slot < cell.slots.size ∧ k.staticTypes[f.slot]? = some f.type ∧ ¬ A a
theorem xLS.kept {C n d : String} {A : Nat → Prop} {U : State} {H H1 : Heap} (h : xLS C n d A U H) (hq : ∀ a : Nat, a < H.size → ¬ A a → H1[a]? = H[a]?) : xLS C n d A U H1 := by
  obtain ⟨c, k, i, f, a, cell, h1, h2, h3, h4, h5, h6, h7, h8, h9, h10⟩ := h
  exact ⟨c, k, i, f, a, cell, h1, h2, h3, h4, by rw [hq a (Array.getElem?_eq_some_iff.mp h5).1 h10]; exact h5, h6, h7, h8, h9, h10⟩
theorem xLS.moved {C n d : String} {A : Nat → Prop} {u U : State} {H : Heap} (hvm : u.vm.Alike U.vm) (h : xLS C n d A u H) : xLS C n d A U H := by
  obtain ⟨c, k, i, f, a, cell, h1, h2, h3, h4, h5, h6, h7, h8, h9, h10⟩ := h
  obtain ⟨k', hi', hek⟩ := State.fieldFound?_setVm (s := u) hvm h2
  exact ⟨c, k', i, f, a, cell, by rw [hvm.findClass]; exact h1, by simpa only [State.fieldFound?, State.vm_setVm] using hi', h3, by rw [hek]; exact h4, h5, h6, h7, h8, by rw [hek]; exact h9, h10⟩
theorem xLS.of {C n d : String} {A : Nat → Prop} {U : State} {args : Array Value} (h : (Cond.laysStatic C n d).before args U = true) (hA : ∀ a : Nat, a < U.heap.size → ¬ A a) : xLS C n d A U U.heap := by
  obtain ⟨c, k, i, f, a, cell, hc, hi, hst, ha, hcell, hs, hcls, hlt, hty⟩ := Cond.laysStatic_spec h
  exact ⟨c, k, i, f, a, cell, hc, hi, hst, ha, hcell, hs, hcls, hlt, hty, hA a (Array.getElem?_eq_some_iff.mp hcell).1⟩
theorem xLS.use {C n d : String} {A : Nat → Prop} {U : State} {args : Array Value} (h : xLS C n d A U U.heap) : (Cond.laysStatic C n d).before args U = true := by
  obtain ⟨c, k, i, f, a, cell, h1, h2, h3, h4, h5, h6, h7, h8, h9, -⟩ := h
  exact Cond.laysStatic_of h1 h2 h3 h4 h5 h6 h7 h8 h9
def xthD : List MethodName := [⟨"java/lang/RuntimeException", "<init>", "(Ljava/lang/String;)V"⟩, ⟨"java/lang/Exception", "<init>", "(Ljava/lang/String;)V"⟩, ⟨"java/lang/Throwable", "<init>", "(Ljava/lang/String;)V"⟩]
def xTh (A : Nat → Prop) (U : State) (H : Heap) : Prop := (∀ X ∈ xthX, va_Nw (.castable X X) U) ∧ (∀ q ∈ xthS, xLS q.1 q.2.1 q.2.2 A U H ∧ va_Zq q.1 q.2.1 q.2.2 A U H) ∧ ∀ y ∈ xthD, va_Nw (.declares y) U
theorem xTh.go {A : Nat → Prop} {s U : State} {H : Heap} {locs : List Loc} (h : xTh A s s.heap) (hS : va_S A s.heap H locs) (hU : U.heap = H) (hW : s.WarmedH U.vm) : xTh A U U.heap := by
  rw [hU]
  refine ⟨fun X hX => ?_, fun q hq => ⟨((h.2.1 q hq).1.kept hS.2.1).moved hW.alike, ((h.2.1 q hq).2.kept hS.2.1).moved hW.alike⟩, fun y hy => ?_⟩
  · refine va_tabs rfl (rfl : (s.setVm U.vm).vm = U.vm) (A := #[]) ?_
    rw [Cond.castable_setVm hW.alike]
    exact h.1 X hX
  · refine va_tabs rfl (rfl : (s.setVm U.vm).vm = U.vm) (A := #[]) ?_
    rw [Cond.declares_setVm hW.alike]
    exact h.2.2 y hy
theorem xTh.same {A : Nat → Prop} {s U : State} (hh : U.heap = s.heap) (hv : U.vm = s.vm) (h : xTh A s s.heap) : xTh A U U.heap := by
  rw [hh]
  have ha : s.vm.Alike U.vm := by rw [hv]; exact Vm.Alike.refl s.vm
  exact ⟨fun X hX => va_Nw.same rfl hv.symm (h.1 X hX), fun q hq => ⟨(h.2.1 q hq).1.moved ha, (h.2.1 q hq).2.moved ha⟩, fun y hy => va_Nw.same rfl hv.symm (h.2.2 y hy)⟩
/-- a static that holds a reference or null, as the Statement says it -/
theorem xt_isRef {C n d : String} {A : Nat → Prop} {U : State} {args : Array Value} (h : va_Zq C n d A U U.heap) : (Cond.isRef (.static C n d)).before args U = true := by
  have key : ∀ v : Value, va_Z C n d v A U U.heap → (Term.static C n d).eval args U none [] U = some v := by
    intro v hv
    obtain ⟨cf, kf, fi, f, a, cell, h1, h2, h3, h4, h5, h6, h7, -⟩ := hv
    exact Term.static_eval h1 h2 h4 h5 h6 h7
  rcases h with h | ⟨t, h⟩
  · simp [Cond.before, Cond.holds, Cond.value, key _ h]
  · simp [Cond.before, Cond.holds, Cond.value, key _ h]
theorem xT_c0 {A : Nat → Prop} {s : State} {args : Array Value} (hT : xTh A s s.heap) : (Cond.castable "java/lang/IllegalArgumentException" "java/lang/IllegalArgumentException").before args s = true := va_tabs (c := .castable "java/lang/IllegalArgumentException" "java/lang/IllegalArgumentException") rfl rfl (hT.1 "java/lang/IllegalArgumentException" (List.mem_of_getElem? (i := 0) rfl))
theorem xT_c1 {A : Nat → Prop} {s : State} {args : Array Value} (hT : xTh A s s.heap) : (Cond.castable "java/lang/IndexOutOfBoundsException" "java/lang/IndexOutOfBoundsException").before args s = true := va_tabs (c := .castable "java/lang/IndexOutOfBoundsException" "java/lang/IndexOutOfBoundsException") rfl rfl (hT.1 "java/lang/IndexOutOfBoundsException" (List.mem_of_getElem? (i := 1) rfl))
theorem xT_c2 {A : Nat → Prop} {s : State} {args : Array Value} (hT : xTh A s s.heap) : (Cond.castable "java/util/NoSuchElementException" "java/util/NoSuchElementException").before args s = true := va_tabs (c := .castable "java/util/NoSuchElementException" "java/util/NoSuchElementException") rfl rfl (hT.1 "java/util/NoSuchElementException" (List.mem_of_getElem? (i := 2) rfl))
theorem xT_d0 {A : Nat → Prop} {s : State} {args : Array Value} (hT : xTh A s s.heap) : (Cond.declares ⟨"java/lang/RuntimeException", "<init>", "(Ljava/lang/String;)V"⟩).before args s = true := va_tabs (c := .declares ⟨"java/lang/RuntimeException", "<init>", "(Ljava/lang/String;)V"⟩) rfl rfl (hT.2.2 ⟨"java/lang/RuntimeException", "<init>", "(Ljava/lang/String;)V"⟩ (List.mem_of_getElem? (i := 0) rfl))
theorem xT_d1 {A : Nat → Prop} {s : State} {args : Array Value} (hT : xTh A s s.heap) : (Cond.declares ⟨"java/lang/Exception", "<init>", "(Ljava/lang/String;)V"⟩).before args s = true := va_tabs (c := .declares ⟨"java/lang/Exception", "<init>", "(Ljava/lang/String;)V"⟩) rfl rfl (hT.2.2 ⟨"java/lang/Exception", "<init>", "(Ljava/lang/String;)V"⟩ (List.mem_of_getElem? (i := 1) rfl))
theorem xT_d2 {A : Nat → Prop} {s : State} {args : Array Value} (hT : xTh A s s.heap) : (Cond.declares ⟨"java/lang/Throwable", "<init>", "(Ljava/lang/String;)V"⟩).before args s = true := va_tabs (c := .declares ⟨"java/lang/Throwable", "<init>", "(Ljava/lang/String;)V"⟩) rfl rfl (hT.2.2 ⟨"java/lang/Throwable", "<init>", "(Ljava/lang/String;)V"⟩ (List.mem_of_getElem? (i := 2) rfl))
theorem xT_l0 {A : Nat → Prop} {s : State} {args : Array Value} (hT : xTh A s s.heap) : (Cond.laysStatic "java/lang/Throwable" "UNASSIGNED_STACK" "[Ljava/lang/StackTraceElement;").before args s = true := xLS.use (hT.2.1 ("java/lang/Throwable", "UNASSIGNED_STACK", "[Ljava/lang/StackTraceElement;") (List.mem_of_getElem? (i := 0) rfl)).1
theorem xT_l1 {A : Nat → Prop} {s : State} {args : Array Value} (hT : xTh A s s.heap) : (Cond.laysStatic "java/lang/Throwable" "SUPPRESSED_SENTINEL" "Ljava/util/List;").before args s = true := xLS.use (hT.2.1 ("java/lang/Throwable", "SUPPRESSED_SENTINEL", "Ljava/util/List;") (List.mem_of_getElem? (i := 1) rfl)).1
def xP2 (G : xG) (σ : St) (av : List Value) : Array Value → State → Prop := va_Pc av (fun U => xw G σ U.heap ∧ xC G U ∧ xTh (xA G) U U.heap)
theorem xP2.blind {G : xG} {σ : St} {av : List Value} : FrameBlind (xP2 G σ av) := by
  intro a U g mk h
  obtain ⟨h0, h1, ⟨h2, h3, h4, h5⟩, h6⟩ := h
  exact ⟨h0, h1, ⟨va_K.moved (u := U) (U := U.calling g mk a) (Vm.Alike.refl U.vm) h2, h3, gw.same rfl h4, xKn.same rfl rfl h5⟩, xTh.same rfl rfl h6⟩
theorem x_preV2 {s : State} {H : Heap} {locs : List Loc} {G : xG} {σ : St} {C : String} {b : Addr} {As : List Value} (hC : xC G s) (hT : xTh (xA G) s s.heap) (hS : va_S (xA G) s.heap H locs) (hw : xw G σ H) (hr : ∃ cellB : Cell, H[b]? = some cellB ∧ cellB.vm.isStatics = false ∧ s.vm.findClass C = some cellB.cls) : PreV s H C b (xP2 G σ (.ref b :: As)) As :=
  ⟨xP2.blind, hr, fun U hU hW => ⟨rfl, by rw [hU]; exact hw, hC.go hS hU hW, hT.go hS hU hW⟩⟩
theorem mw_126 : .superclass "PlainOrigin$Bytes" "java/lang/Object" ∈ UW := uw_0_4 (List.mem_of_getElem? (i := 3) rfl) rfl
theorem mw_140 : .superclass "PlainOrigin$Resource" "java/lang/Object" ∈ UW := uw_0_5 (List.mem_of_getElem? (i := 1) rfl) rfl
theorem mw_150 : .superclass "PlainOrigin$Site" "java/lang/Object" ∈ UW := uw_0_5 (List.mem_of_getElem? (i := 11) rfl) rfl
theorem mw_206 : .superclass "PlainOrigin$Fields" "java/lang/Object" ∈ UW := uw_0_9 (List.mem_of_getElem? (i := 3) rfl) rfl
theorem mw_247 : .superclass "PlainOrigin$Request" "java/lang/Object" ∈ UW := uw_0_11 (List.mem_of_getElem? (i := 12) rfl) rfl
theorem mw_268 : .superclass "PlainOrigin$Reader" "java/lang/Object" ∈ UW := uw_0_13 (List.mem_of_getElem? (i := 1) rfl) rfl
theorem mw_289 : .superclass "PlainOrigin$Range" "java/lang/Object" ∈ UW := uw_0_14 (List.mem_of_getElem? (i := 6) rfl) rfl
theorem mw_339 : .superclass "PlainOrigin$Answer" "java/lang/Object" ∈ UW := uw_1_2 (List.mem_of_getElem? (i := 8) rfl) rfl
theorem mw_356 : .superclass "PlainOrigin$Outbox" "java/lang/Object" ∈ UW := uw_1_3 (List.mem_of_getElem? (i := 9) rfl) rfl
theorem mw_372 : .superclass "PlainOrigin" "java/lang/Object" ∈ UW := uw_1_4 (List.mem_of_getElem? (i := 9) rfl) rfl
theorem mw_426 : .codeWith ⟨"PlainOriginLaw", "feed", "(LPlainOrigin;JI[J)I"⟩ method_3_code 6 (some .int) [(0, 11, 14, 13)] ∈ UW := uw_1_7 (List.mem_of_getElem? (i := 15) rfl) rfl
theorem mw_454 : .superclass "java/lang/Throwable" "java/lang/Object" ∈ UW := uw_1_9 (List.mem_of_getElem? (i := 11) rfl) rfl
theorem mw_467 : .codeSync ⟨"java/lang/Throwable", "fillInStackTrace", "()Ljava/lang/Throwable;"⟩ prog_25_method_18_code 1 (some (.object "java/lang/Throwable")) ∈ UW := uw_1_10 (List.mem_of_getElem? (i := 8) rfl) rfl
theorem mw_472 : .native ⟨"java/lang/Throwable", "fillInStackTrace", "(I)Ljava/lang/Throwable;"⟩ ∈ UW := uw_1_10 (List.mem_of_getElem? (i := 13) rfl) rfl
theorem mw_498 : .superclass "java/lang/IllegalArgumentException" "java/lang/RuntimeException" ∈ UW := uw_1_12 (List.mem_of_getElem? (i := 7) rfl) rfl
theorem mw_958 : .codeWith ⟨"PlainOriginLaw", "out", "(LPlainOrigin;I[J)I"⟩ method_4_code 4 (some .int) [(0, 8, 11, 19)] ∈ UW := uw_3_11 (List.mem_of_getElem? (i := 3) rfl) rfl
theorem mw_979 : .superclass "java/lang/IndexOutOfBoundsException" "java/lang/RuntimeException" ∈ UW := uw_3_12 (List.mem_of_getElem? (i := 8) rfl) rfl
theorem mw_983 : .codeWith ⟨"PlainOriginLaw", "size", "(LPlainOrigin;I[J)I"⟩ method_5_code 4 (some .int) [(0, 9, 12, 13)] ∈ UW := uw_3_12 (List.mem_of_getElem? (i := 12) rfl) rfl
theorem mw_996 : .codeWith ⟨"PlainOriginLaw", "at", "(LPlainOrigin;II[J)I"⟩ method_6_code 5 (some .int) [(0, 10, 13, 13), (0, 10, 17, 29)] ∈ UW := uw_3_13 (List.mem_of_getElem? (i := 9) rfl) rfl
theorem mw_1017 : .superclass "java/util/NoSuchElementException" "java/lang/RuntimeException" ∈ UW := uw_3_14 (List.mem_of_getElem? (i := 14) rfl) rfl
theorem mw_1020 : .codeWith ⟨"PlainOriginLaw", "mark", "(LPlainOrigin;I[J)I"⟩ method_7_code 4 (some .int) [(0, 9, 12, 13)] ∈ UW := uw_4_0 (List.mem_of_getElem? (i := 1) rfl) rfl
theorem mw_1167 : .superclass "PlainOriginModel" "java/lang/Object" ∈ UW := uw_4_9 (List.mem_of_getElem? (i := 4) rfl) rfl
set_option maxRecDepth 100000 in
theorem xa_IllegalArgumentException_45 {s : State} {args : Array Value} {A : Nat → Prop} (hu : ∀ w ∈ UW, w.before args s = true) (hT : xTh A s s.heap) : ∀ w ∈ Bundle.ownAtoms "PlainOrigin" 45 "java/lang/IllegalArgumentException" ["java/lang/RuntimeException", "java/lang/Exception"], w.before args s = true :=
  List.forall_mem_cons.mpr ⟨hu _ mw_71, List.forall_mem_cons.mpr ⟨hu _ mw_454, List.forall_mem_cons.mpr ⟨hu _ mw_463, List.forall_mem_cons.mpr ⟨hu _ mw_467, List.forall_mem_cons.mpr ⟨hu _ mw_470, List.forall_mem_cons.mpr ⟨hu _ mw_472, List.forall_mem_cons.mpr ⟨hu _ mw_455, List.forall_mem_cons.mpr ⟨hu _ mw_456, List.forall_mem_cons.mpr ⟨hu _ mw_92, List.forall_mem_cons.mpr ⟨hu _ mw_93, List.forall_mem_cons.mpr ⟨hu _ mw_457, List.forall_mem_cons.mpr ⟨hu _ mw_462, List.forall_mem_cons.mpr ⟨hu _ mw_468, List.forall_mem_cons.mpr ⟨hu _ mw_488, List.forall_mem_cons.mpr ⟨hu _ mw_444, List.forall_mem_cons.mpr ⟨hu _ mw_489, List.forall_mem_cons.mpr ⟨hu _ mw_446, List.forall_mem_cons.mpr ⟨hu _ mw_490, List.forall_mem_cons.mpr ⟨hu _ mw_448, List.forall_mem_cons.mpr ⟨hu _ mw_458, List.forall_mem_cons.mpr ⟨xT_l0 hT, List.forall_mem_cons.mpr ⟨hu _ mw_460, List.forall_mem_cons.mpr ⟨xT_l1 hT, List.forall_mem_cons.mpr ⟨hu _ mw_450, List.forall_mem_cons.mpr ⟨hu _ mw_484, List.forall_mem_cons.mpr ⟨hu _ mw_485, List.forall_mem_cons.mpr ⟨hu _ mw_487, List.forall_mem_cons.mpr ⟨hu _ mw_450, List.forall_mem_cons.mpr ⟨hu _ mw_475, List.forall_mem_cons.mpr ⟨hu _ mw_476, List.forall_mem_cons.mpr ⟨hu _ mw_477, List.forall_mem_cons.mpr ⟨hu _ mw_478, List.forall_mem_cons.mpr ⟨xT_d0 hT, List.forall_mem_cons.mpr ⟨hu _ mw_478, List.forall_mem_cons.mpr ⟨hu _ mw_479, List.forall_mem_cons.mpr ⟨hu _ mw_480, List.forall_mem_cons.mpr ⟨hu _ mw_481, List.forall_mem_cons.mpr ⟨xT_d1 hT, List.forall_mem_cons.mpr ⟨hu _ mw_481, List.forall_mem_cons.mpr ⟨hu _ mw_482, List.forall_mem_cons.mpr ⟨hu _ mw_483, List.forall_mem_cons.mpr ⟨hu _ mw_484, List.forall_mem_cons.mpr ⟨xT_d2 hT, List.forall_mem_cons.mpr ⟨hu _ mw_474, List.forall_mem_cons.mpr ⟨hu _ mw_433, List.forall_mem_cons.mpr ⟨xT_c0 hT, List.forall_mem_cons.mpr ⟨hu _ mw_441, List.forall_mem_cons.mpr ⟨hu _ mw_442, List.forall_mem_cons.mpr ⟨hu _ mw_443, List.forall_mem_cons.mpr ⟨hu _ mw_445, List.forall_mem_cons.mpr ⟨hu _ mw_447, List.forall_mem_cons.mpr ⟨hu _ mw_449, List.forall_mem_cons.mpr ⟨xt_isRef (hT.2.1 _ (List.mem_of_getElem? (i := 0) rfl)).2, List.forall_mem_cons.mpr ⟨xt_isRef (hT.2.1 _ (List.mem_of_getElem? (i := 1) rfl)).2, List.forall_mem_cons.mpr ⟨hu _ mw_453, List.forall_mem_cons.mpr ⟨hu _ mw_452, List.forall_mem_cons.mpr ⟨hu _ mw_451, fun _ h => absurd h List.not_mem_nil⟩⟩⟩⟩⟩⟩⟩⟩⟩⟩⟩⟩⟩⟩⟩⟩⟩⟩⟩⟩⟩⟩⟩⟩⟩⟩⟩⟩⟩⟩⟩⟩⟩⟩⟩⟩⟩⟩⟩⟩⟩⟩⟩⟩⟩⟩⟩⟩⟩⟩⟩⟩⟩⟩⟩⟩⟩
set_option maxRecDepth 100000 in
theorem xa_IndexOutOfBoundsException_90 {s : State} {args : Array Value} {A : Nat → Prop} (hu : ∀ w ∈ UW, w.before args s = true) (hT : xTh A s s.heap) : ∀ w ∈ Bundle.ownAtoms "PlainOrigin" 90 "java/lang/IndexOutOfBoundsException" ["java/lang/RuntimeException", "java/lang/Exception"], w.before args s = true :=
  List.forall_mem_cons.mpr ⟨hu _ mw_71, List.forall_mem_cons.mpr ⟨hu _ mw_454, List.forall_mem_cons.mpr ⟨hu _ mw_463, List.forall_mem_cons.mpr ⟨hu _ mw_467, List.forall_mem_cons.mpr ⟨hu _ mw_470, List.forall_mem_cons.mpr ⟨hu _ mw_472, List.forall_mem_cons.mpr ⟨hu _ mw_455, List.forall_mem_cons.mpr ⟨hu _ mw_456, List.forall_mem_cons.mpr ⟨hu _ mw_92, List.forall_mem_cons.mpr ⟨hu _ mw_93, List.forall_mem_cons.mpr ⟨hu _ mw_457, List.forall_mem_cons.mpr ⟨hu _ mw_462, List.forall_mem_cons.mpr ⟨hu _ mw_468, List.forall_mem_cons.mpr ⟨hu _ mw_488, List.forall_mem_cons.mpr ⟨hu _ mw_444, List.forall_mem_cons.mpr ⟨hu _ mw_489, List.forall_mem_cons.mpr ⟨hu _ mw_446, List.forall_mem_cons.mpr ⟨hu _ mw_490, List.forall_mem_cons.mpr ⟨hu _ mw_448, List.forall_mem_cons.mpr ⟨hu _ mw_458, List.forall_mem_cons.mpr ⟨xT_l0 hT, List.forall_mem_cons.mpr ⟨hu _ mw_460, List.forall_mem_cons.mpr ⟨xT_l1 hT, List.forall_mem_cons.mpr ⟨hu _ mw_450, List.forall_mem_cons.mpr ⟨hu _ mw_484, List.forall_mem_cons.mpr ⟨hu _ mw_485, List.forall_mem_cons.mpr ⟨hu _ mw_487, List.forall_mem_cons.mpr ⟨hu _ mw_450, List.forall_mem_cons.mpr ⟨hu _ mw_975, List.forall_mem_cons.mpr ⟨hu _ mw_976, List.forall_mem_cons.mpr ⟨hu _ mw_977, List.forall_mem_cons.mpr ⟨hu _ mw_478, List.forall_mem_cons.mpr ⟨xT_d0 hT, List.forall_mem_cons.mpr ⟨hu _ mw_478, List.forall_mem_cons.mpr ⟨hu _ mw_479, List.forall_mem_cons.mpr ⟨hu _ mw_480, List.forall_mem_cons.mpr ⟨hu _ mw_481, List.forall_mem_cons.mpr ⟨xT_d1 hT, List.forall_mem_cons.mpr ⟨hu _ mw_481, List.forall_mem_cons.mpr ⟨hu _ mw_482, List.forall_mem_cons.mpr ⟨hu _ mw_483, List.forall_mem_cons.mpr ⟨hu _ mw_484, List.forall_mem_cons.mpr ⟨xT_d2 hT, List.forall_mem_cons.mpr ⟨hu _ mw_974, List.forall_mem_cons.mpr ⟨hu _ mw_965, List.forall_mem_cons.mpr ⟨xT_c1 hT, List.forall_mem_cons.mpr ⟨hu _ mw_967, List.forall_mem_cons.mpr ⟨hu _ mw_465, List.forall_mem_cons.mpr ⟨hu _ mw_968, List.forall_mem_cons.mpr ⟨hu _ mw_969, List.forall_mem_cons.mpr ⟨hu _ mw_970, List.forall_mem_cons.mpr ⟨hu _ mw_971, List.forall_mem_cons.mpr ⟨xt_isRef (hT.2.1 _ (List.mem_of_getElem? (i := 0) rfl)).2, List.forall_mem_cons.mpr ⟨xt_isRef (hT.2.1 _ (List.mem_of_getElem? (i := 1) rfl)).2, List.forall_mem_cons.mpr ⟨hu _ mw_453, List.forall_mem_cons.mpr ⟨hu _ mw_452, List.forall_mem_cons.mpr ⟨hu _ mw_972, fun _ h => absurd h List.not_mem_nil⟩⟩⟩⟩⟩⟩⟩⟩⟩⟩⟩⟩⟩⟩⟩⟩⟩⟩⟩⟩⟩⟩⟩⟩⟩⟩⟩⟩⟩⟩⟩⟩⟩⟩⟩⟩⟩⟩⟩⟩⟩⟩⟩⟩⟩⟩⟩⟩⟩⟩⟩⟩⟩⟩⟩⟩⟩
section XU
variable {l : Launch} {R : Room} {p : Program} {e : Env} {below : List Frame} {s : State} {sargs : Array Value} {m : MethodId} {meth : Method} {c : Code} {cells slots : Nat}
set_option maxHeartbeats 4000000 in
/-- 'throw new X(text)' where X's constructor hands the text to its superclass's by any entry ix of its pool -/
theorem xt_ownAt {own cls sup : String} {names : List String} {ic ix : Nat} {bytes cc : ByteArray} {pc : Nat} {ls : Array Slot} {rest : List Value} {b txt : Addr} {H : Heap} (hx : p.tables.exec = Jvm.exec) (hb : c.code = cc) (hml : c.maxLocals = ls.size) (hown : s.vm.findClass own = some m.cls) (htr : e.platform.stackTraces = false)
    (hcls : Bundle.fit cls = true) (hsup : Bundle.fit sup = true) (hnames : ∀ n ∈ names, Bundle.fit n = true)
    (z0 : decode bytes 0 = .ok (.aload_n 0, 1)) (z1 : decode bytes 1 = .ok (.aload_n 1, 1)) (z2 : decode bytes 2 = .ok (.invokespecial ix, 3)) (z5 : decode bytes 5 = .ok (.return_, 1))
    (hA : ∀ w ∈ Bundle.throwableAtoms, w.before sargs s = true) (hB : ∀ w ∈ Bundle.throwableSAtoms, w.before sargs s = true) (hP : ∀ w ∈ Bundle.passSAtoms cls sup ix bytes, w.before sargs s = true) (hQ : ∀ w ∈ Bundle.chainSAtoms sup names, w.before sargs s = true)
    (wm : (Cond.methodLink own ic (Bundle.initS cls)).before sargs s = true) (wi : (Cond.instantiable cls 6).before sargs s = true) (w0 : (Cond.selects cls Bundle.tFill0 Bundle.tFill0).before sargs s = true) (w1 : (Cond.selects cls Bundle.tFill Bundle.tFill).before sargs s = true)
    (wc : (Cond.lays cls Bundle.tN "cause" "Ljava/lang/Throwable;").before sargs s = true) (ws : (Cond.lays cls Bundle.tN "stackTrace" Bundle.steD).before sargs s = true) (wp : (Cond.lays cls Bundle.tN "suppressedExceptions" Bundle.listD).before sargs s = true) (wd : (Cond.lays cls Bundle.tN "detailMessage" "Ljava/lang/String;").before sargs s = true) (wb : (Cond.lays cls Bundle.tN "backtrace" "Ljava/lang/Object;").before sargs s = true)
    (wu : (Cond.isRef (.static Bundle.tN "UNASSIGNED_STACK" Bundle.steD)).before sargs s = true) (wv : (Cond.isRef (.static Bundle.tN "SUPPRESSED_SENTINEL" Bundle.listD)).before sargs s = true) (wf : (Cond.fieldLink Bundle.tN 198 Bundle.tN "backtrace" "Ljava/lang/Object;").before sargs s = true) (wt : (Cond.lays Bundle.tN Bundle.tN "backtrace" "Ljava/lang/Object;").before sargs s = true)
    {cX : ClassId} {kX : Class} (hfoundX : s.vm.findClass cls = some cX) (hkX : s.vm.classes[cX]? = some kX) (hcellX : H[b]? = some (blank cX kX)) (hnew : s.heap.size ≤ b) (hd6 : decode cc pc = .ok (.invokespecial ic, 3)) (hd9 : decode cc (pc + 3) = .ok (.athrow, 1)) (hout : ∀ z ∈ c.exceptionTable.toList, covers z (pc + 3) = false)
    (hRf : names.length + 4 < R.frames) (hRl : ((Value.ref b :: rest).map fun v => v.category).sum + (13 * (names.length + 2) + 42) ≤ R.locals) (hlocks : meth.locks = false) : W p l e R s m sargs below meth c H [] cells slots (xTQ below cls s cells slots) (F0 m pc ls (.ref txt :: .ref b :: .ref b :: rest)) := by
  intro V hV X0
  have howns : e.platform.frameOwnsMonitors = true := by rw [X0.admits.platform]
  have hfin : e.platform.finalization = false := by rw [X0.admits.platform]
  have hpl : e.platform.magicAccessors = ({} : Platform).magicAccessors := by rw [X0.admits.platform]
  obtain ⟨T, Z0, L, -, Y⟩ := ThrowableC.of_atoms (args := sargs) howns hfin hpl hA
  obtain ⟨Z, M, LZ, LM, hnZ⟩ := Init0T.ofS_atoms (args := sargs) hpl L Y hB
  obtain ⟨P2, Ps, hlen, L2, hL, hP2m, hlink2, hlink⟩ := Bundle.chainS (args := sargs) hpl hnZ names sup hsup hnames hQ
  obtain ⟨P1, L1, hP1m, hP1s⟩ := PassC.ofS_atoms (args := sargs) (s := s) hpl (X := cls) (Y := sup) (Bundle.fit_spec hcls).1 (Bundle.fit_spec hsup).2 z0 z1 z2 z5 hP
  have hlink1 : P1.sup = P2.m := Option.some.inj (hP1s.symm.trans hP2m)
  have hfound : s.vm.findClass cls = some P1.m.cls := findClass_of_methodNamed hP1m
  cases Option.some.inj (hfoundX.symm.trans hfound)
  obtain ⟨c1, kX', hc1, hk, hord, -⟩ := Cond.instantiable_spec wi
  cases Option.some.inj (hc1.symm.trans hfound)
  cases Option.some.inj (hkX.symm.trans hk)
  have hsel0 : selectMethod e.platform s.vm P1.m.cls T.fill0 = .method T.fill0 := by
    obtain ⟨c2, r2, m2, q1, q2, q3, q4, -⟩ := Cond.selects_spec w0
    cases Option.some.inj (q1.symm.trans hfound)
    cases Option.some.inj (q2.symm.trans (State.methodFound?_of_named Y.fill0 (by decide)))
    cases Option.some.inj (q3.symm.trans Y.fill0)
    rw [Launch.admits_selectMethod X0.admits]
    exact q4
  have hselF : selectMethod e.platform s.vm P1.m.cls T.fill = .method T.fill := by
    obtain ⟨c2, r2, m2, q1, q2, q3, q4, -⟩ := Cond.selects_spec w1
    cases Option.some.inj (q1.symm.trans hfound)
    cases Option.some.inj (q2.symm.trans (State.methodFound?_of_named Y.fill (by decide)))
    cases Option.some.inj (q3.symm.trans Y.fill)
    rw [Launch.admits_selectMethod X0.admits]
    exact q4
  obtain ⟨cellS0, hcS0, hiss⟩ := Y.statics
  obtain ⟨u0, hu0⟩ := Cond.staticRefV Y.unassigned L.unassignedStatic L.statics hcS0 hiss wu
  obtain ⟨sen, hsen⟩ := Cond.staticRefV Y.sentinel L.sentinelStatic L.statics hcS0 hiss wv
  obtain ⟨ci198, i198, fB, hk198, hg198, ha198, hsB, -, hnB, htB, hffB⟩ := Cond.ownField (t := .object "java/lang/Object") Y.found L.cls (by decide +kernel) wf wt e.platform hpl
  have hcellS : V.heap[T.aS]? = some cellS0 := xt_old (t := V.setVm s.vm) X0.same hcS0
  have hknownS : cellS0.vm ≠ .unknown := fun hq => by rw [hq] at hiss; cases hiss
  have hneS : T.aS ≠ b := Nat.ne_of_lt (Nat.lt_of_lt_of_le (Array.getElem?_eq_some_iff.mp hcS0).1 hnew)
  obtain ⟨iM, hffM⟩ := Y.msg
  obtain ⟨tyC, dC, hdC, hdnC⟩ := Cond.laysAt hfound hk Y.cause wc
  obtain ⟨tyS, dS, hdS, hdnS⟩ := Cond.laysAt hfound hk Y.stack ws
  obtain ⟨tyP, dP, hdP, hdnP⟩ := Cond.laysAt hfound hk Y.supp wp
  obtain ⟨tyM, dM, hdM, hdnM⟩ := Cond.laysAt hfound hk hffM wd
  obtain ⟨tyB, dB, hdB, hdnB⟩ := Cond.laysAt hfound hk hffB wb
  have bC := Cond.laysApart hdB hdC hdnB hdnC (by rw [hnB, Y.causeName]; decide)
  have bS := Cond.laysApart hdB hdS hdnB hdnS (by rw [hnB, Y.stackName]; decide)
  have bP := Cond.laysApart hdB hdP hdnB hdnP (by rw [hnB, Y.suppName]; decide)
  have hskip : SkipFacts T e.platform s (fun u => u) u0 ((preparedCellV T.toThrowableT (freshCell P1.m.cls kX) b u0 sen).withEntry V.cur) :=
    ⟨{ ci198 := ci198, i198 := i198, fBack := fB }, ⟨hk198, hg198, ha198, hsB⟩, by
      have h0 := fresh_default (c := P1.m.cls) tyB
      rw [htB] at h0
      simpa [preparedCellV, Cell.setSlot, Cell.withEntry, Array.getElem?_setIfInBounds, bC, bS, bP, bC.symm, bS.symm, bP.symm, defaultValue] using h0, fun _ _ => rfl⟩
  have hcellV : V.heap[b]? = some (freshCell P1.m.cls kX) := by rw [hV]; exact hcellX
  obtain ⟨tm, methC, cdC, kC, vm₁, hnC, -, -, -, -, -, -, -, hW₁, st1⟩ := Steps.initColdS (tb := p.tables) (e := e) (below := below) (s := s) (U := V) X0.here hx X0.warmed hpl hown (t := Bundle.initS cls) rfl rfl (Bundle.fit_spec hcls).2
    wm (hP (.instanceMethod (Bundle.initS cls)) (by simp [Bundle.passSAtoms])) (bytes := bytes) (maxL := 2) (hP (.code (Bundle.initS cls) bytes 2 none) (by simp [Bundle.passSAtoms]))
    (f := F0 m pc ls (.ref txt :: .ref b :: .ref b :: rest)) rfl (a := b) (msg := .ref txt) (rest := .ref b :: rest) rfl (by rw [hb]; exact hd6)
  cases Option.some.inj (hnC.symm.trans hP1m)
  have X₁ := X0.noted hW₁
  obtain ⟨vm₂, X₂, st2⟩ := X₁.ctorMessageOffV hx (g := F0 m pc ls (.ref b :: rest)) rfl hml.symm T L Z LZ M LM (P1 :: P2 :: Ps)
    (fun P hP => by
      rcases List.mem_cons.mp hP with rfl | hP
      · exact L1
      · rcases List.mem_cons.mp hP with rfl | hP
        · exact L2
        · exact hL P hP) ⟨hlink1, hlink2, hlink⟩ (u0 := u0) (sen := sen) (self := b) (msg := .ref txt) rfl (cell := freshCell P1.m.cls kX) (cellS := cellS0)
    hcellV (fun _ => by simp) (by simp) rfl rfl hsel0 hselF hcellS hneS hknownS hu0 hsen
    (Takes.of_laid hk hord tyC (by rw [Y.causeType]; rfl)) (Takes.of_laid hk hord tyS (by rw [Y.stackType]; exact fits_refV_array _ u0)) (Takes.of_laid hk hord tyP (by rw [Y.suppType]; exact fits_refV_object _ sen))
    (Takes.of_laid hk hord tyM (by rw [Y.msgType]; exact fits_refV_object _ ⟨.ref txt, rfl⟩)) Y.objLocals hskip htr [] (by rw [hb]; exact hd6)
    (by simp only [List.length_cons, hlen]; omega) (by simp only [List.length_cons, hlen]; show 2 * 0 + _ + _ ≤ _; omega)
  obtain ⟨hwalk, hrun, hended, hWU, hsame⟩ := X₂.athrowLeaves hx (g := F0 m (pc + 3) ls (.ref b :: rest)) rfl rfl rfl hout (a := b) (rest := rest) rfl (by rw [hb]; exact hd9)
  have hlt : b < ((V.setVm vm₁).setVm vm₂).heap.size := (Array.getElem?_eq_some_iff.mp hcellV).1
  have hU := heapAt_setCell_self (s := (V.setVm vm₁).setVm vm₂) (plainBareV T.toThrowableT (freshCell P1.m.cls kX) b u0 sen (.ref txt)) hlt
  refine ⟨_, st1 _ (fun acts => ?_), b, hrun, hended, hWU, hsame.weaken (fun y hy hlt' => ?_) (Nat.le_refl _) (Nat.le_refl _), hnew, _, hU, hfound, rfl⟩
  · rw [doInvoke_state]
    exact st2 _ hwalk
  · exfalso
    have hy2 : y.base = b := by
      simp only [List.nil_append, List.mem_cons, List.not_mem_nil, or_false] at hy
      rcases hy with rfl | rfl | rfl | rfl | rfl <;> rfl
    rw [hy2] at hlt'
    exact Nat.not_lt.mpr hnew hlt'
end XU
set_option maxRecDepth 100000 in
theorem xa_thr {s : State} {args : Array Value} {A : Nat → Prop} (hu : ∀ w ∈ UW, w.before args s = true) (hT : xTh A s s.heap) : ∀ w ∈ Bundle.throwableAtoms, w.before args s = true :=
  List.forall_mem_cons.mpr ⟨hu _ mw_71, List.forall_mem_cons.mpr ⟨hu _ mw_454, List.forall_mem_cons.mpr ⟨hu _ mw_463, List.forall_mem_cons.mpr ⟨hu _ mw_467, List.forall_mem_cons.mpr ⟨hu _ mw_470, List.forall_mem_cons.mpr ⟨hu _ mw_472, List.forall_mem_cons.mpr ⟨hu _ mw_455, List.forall_mem_cons.mpr ⟨hu _ mw_456, List.forall_mem_cons.mpr ⟨hu _ mw_92, List.forall_mem_cons.mpr ⟨hu _ mw_93, List.forall_mem_cons.mpr ⟨hu _ mw_457, List.forall_mem_cons.mpr ⟨hu _ mw_462, List.forall_mem_cons.mpr ⟨hu _ mw_468, List.forall_mem_cons.mpr ⟨hu _ mw_488, List.forall_mem_cons.mpr ⟨hu _ mw_444, List.forall_mem_cons.mpr ⟨hu _ mw_489, List.forall_mem_cons.mpr ⟨hu _ mw_446, List.forall_mem_cons.mpr ⟨hu _ mw_490, List.forall_mem_cons.mpr ⟨hu _ mw_448, List.forall_mem_cons.mpr ⟨hu _ mw_458, List.forall_mem_cons.mpr ⟨xT_l0 hT, List.forall_mem_cons.mpr ⟨hu _ mw_460, List.forall_mem_cons.mpr ⟨xT_l1 hT, List.forall_mem_cons.mpr ⟨hu _ mw_450, fun _ h => absurd h List.not_mem_nil⟩⟩⟩⟩⟩⟩⟩⟩⟩⟩⟩⟩⟩⟩⟩⟩⟩⟩⟩⟩⟩⟩⟩⟩
set_option maxRecDepth 100000 in
theorem xa_thrS {s : State} {args : Array Value} {A : Nat → Prop} (hu : ∀ w ∈ UW, w.before args s = true) (hT : xTh A s s.heap) : ∀ w ∈ Bundle.throwableSAtoms, w.before args s = true :=
  List.forall_mem_cons.mpr ⟨hu _ mw_484, List.forall_mem_cons.mpr ⟨hu _ mw_485, List.forall_mem_cons.mpr ⟨hu _ mw_487, List.forall_mem_cons.mpr ⟨hu _ mw_450, fun _ h => absurd h List.not_mem_nil⟩⟩⟩⟩
set_option maxRecDepth 100000 in
theorem xa_passN {s : State} {args : Array Value} {A : Nat → Prop} (hu : ∀ w ∈ UW, w.before args s = true) (hT : xTh A s s.heap) : ∀ w ∈ Bundle.passSAtoms "java/util/NoSuchElementException" "java/lang/RuntimeException" 13 prog_26_method_4_code, w.before args s = true :=
  List.forall_mem_cons.mpr ⟨hu _ mw_1013, List.forall_mem_cons.mpr ⟨hu _ mw_1014, List.forall_mem_cons.mpr ⟨hu _ mw_1015, List.forall_mem_cons.mpr ⟨hu _ mw_478, List.forall_mem_cons.mpr ⟨xT_d0 hT, fun _ h => absurd h List.not_mem_nil⟩⟩⟩⟩⟩
set_option maxRecDepth 100000 in
theorem xa_chainR {s : State} {args : Array Value} {A : Nat → Prop} (hu : ∀ w ∈ UW, w.before args s = true) (hT : xTh A s s.heap) : ∀ w ∈ Bundle.chainSAtoms "java/lang/RuntimeException" ["java/lang/Exception"], w.before args s = true :=
  List.forall_mem_cons.mpr ⟨hu _ mw_478, List.forall_mem_cons.mpr ⟨hu _ mw_479, List.forall_mem_cons.mpr ⟨hu _ mw_480, List.forall_mem_cons.mpr ⟨hu _ mw_481, List.forall_mem_cons.mpr ⟨xT_d1 hT, List.forall_mem_cons.mpr ⟨hu _ mw_481, List.forall_mem_cons.mpr ⟨hu _ mw_482, List.forall_mem_cons.mpr ⟨hu _ mw_483, List.forall_mem_cons.mpr ⟨hu _ mw_484, List.forall_mem_cons.mpr ⟨xT_d2 hT, fun _ h => absurd h List.not_mem_nil⟩⟩⟩⟩⟩⟩⟩⟩⟩⟩
