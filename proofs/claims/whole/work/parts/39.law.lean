def R_law : String := "PlainOriginLaw"
def lw_P (b : Addr) (xs : List Int32) (args : Array Value) (s : State) : Prop := args = #[.ref b] ∧ s.IntsAt b xs ∧ xs.length ≤ 2048 ∧ (Jvm.Cond.and given_1 narrow_1).before args s = true
def lw_Q (_ : Array Value) (s : State) (o : Outcome) (t : State) : Prop := o = .returned (some (.int 1)) ∧ Framed s o t [] 601024 7293034
def lw_Z (below : List Frame) (a : Array Value) (s : State) : State → Prop := fun t => ∃ o, t.status = .running ∧ Ended t below o ∧ lw_Q a s o t
/-- the law's own end, with 1 on the stack, nothing written that was there before, its room as the claim has it -/
theorem lw_ret {p : Program} {l : Launch} {e : Env} {s : State} {m : MethodId} {below : List Frame} {meth : Method} {c : Code} {b : Nat} (hx : p.tables.exec = Jvm.exec) (hb : c.code = code) (hr : meth.sig.returnType = ret) (hlocks : meth.locks = false) {pc : Nat} {H : Heap} {ls : Array Slot} (hdg : decode code pc = .ok (.ireturn, 1)) : W p l e room_1 s m #[Value.ref b] below meth c H [] 601024 7293034 (lw_Z below #[Value.ref b] s) (F0 m pc ls [.int 1]) := by
  intro T hT X
  obtain ⟨fs, hret, hrun, hended, hW, hframe⟩ := X.leave (v := some (.int 1)) (hlocks := hlocks) (fun h => by rw [hr] at h; cases h)
  have hmeth' : T.vm.method? m = some meth := X.method'
  refine ⟨T.setFrames fs, ?_, .returned (some (.int 1)), hrun, hended, rfl, ⟨_, rfl⟩, hW, hframe⟩
  jvm_step X.here [X.here.top, hx, hb, hdg, hmeth', hr, ret, narrow_b1]
  (try refine ⟨rfl, ?_⟩); (try refine ⟨rfl, ?_⟩)
  first | (intro acts; rw [hret _ acts rfl rfl rfl]) | rw [hret _ _ rfl rfl rfl]
  exact Steps.refl _
/-- what holds at the law's entry: the machine, the code, the tables' words (any of lw_tbl by 'hts w (by decide +kernel)'), the script of L ints xs at the cell b, what the Statement gives of the start (any of its parts by flat_of_before) -/
def lw_At (p : Program) (s : State) (m : MethodId) (meth : Method) (c : Code) (b L : Nat) (xs : Nat → Int32) : Prop :=
  p.tables.exec = Jvm.exec ∧ c.code = code ∧ meth.sig.returnType = ret ∧ c.maxLocals = 8 ∧ s.vm.findClass R_law = some m.cls ∧ (∀ w ∈ lw_tbl, w.before #[Value.ref b] s = true) ∧ va_X b L xs s s.heap ∧ b < s.heap.size ∧ meth.locks = false ∧ (Jvm.Cond.and given_1 narrow_1).before #[Value.ref b] s = true
section XLW
variable {p : Program} {l : Launch} {e : Env} {R : Room} {s : State} {m : MethodId} {args : Array Value} {below : List Frame} {meth : Method} {c : Code} {H : Heap} {locs : List Loc} {cells slots : Nat} {Q : State → Prop}
variable {pc : Nat} {ls : Array Slot} {rest st0 : List Value} {a : Array Value} {G : xG} {σ : St} {H0 : Heap}
/-- a static call of a method that has handlers -/
theorem x_runSW {y : MethodName} {bytes cc : ByteArray} {maxL nL mc ms n index : Nat} {ret : Option FieldType} {hh : List (Nat × Nat × Nat × Nat)} {ws : List Cond} {rm : Room} {Pc : Array Value → State → Prop} {Qc : Array Value → State → Outcome → State → Prop} {free : Addr → Prop} {own : String} {As rest : List Value} {g : JFrame}
    (S : CallFix p m c cc nL s args UW own) (hM : Met l y ws rm Pc Qc mc ms free) (hw : ws = Cond.codeWith y bytes maxL ret hh :: UW) (hcode : Cond.codeWith y bytes maxL ret hh ∈ UW) (hl : Cond.methodLink own index y ∈ UW) (hst : Cond.static y ∈ UW) (hini : Cond.initialized y.cls ∈ UW) (hd : y.cls ≠ "java/lang/invoke/MethodHandle" ∧ y.cls ≠ "java/lang/invoke/VarHandle" ∧ (parseMethodDescriptor y.desc).map (fun d => d.parameters.length) = some n)
    (hrc : rm.cells = mc) (hrs : rm.slots = ms) (hR : rm.frames + 1 ≤ R.frames ∧ 8 + (maxL + 11) + rm.locals ≤ R.locals) (hp : PreS s H Pc As)
    (hg : g.method = m) (hn : As.length = n) (hsize : g.locals.size = nL) (hstack : g.stack = As.reverse ++ rest) (hW : 2 * g.monitorRoom + (rest.map fun v => v.category).sum ≤ 8) (hdg : decode cc g.pc = .ok (.invokestatic index, 3)) (hf : cells + mc ≤ R.cells ∧ slots + ms ≤ R.slots) :
    CallRun p l e R s m args below meth c H locs cells slots mc ms g rest (Qc As.toArray) free := by
  obtain ⟨hx, hb, hml, ho, hu⟩ := S
  have hG : GoodIn UW ws := by
    rw [hw]
    exact uw_all fun w h => by
      rcases List.mem_cons.mp h with rfl | h1
      · exact hcode
      · exact h1
  have hK : Back l R p e below s args y 3 8 (PreOf R mc ms Pc) (PostOf Qc mc ms free) := va_backW (hh := hh) (bytes := bytes) (maxL := maxL) (ret := ret) hM hp.1 hrc hrs hR.1 hR.2 (pay_in hu hG) (by rw [hw]; exact List.mem_cons_self) (fun a' U hW => word_at hW (uw_good hini).2 (hu _ hini))
  intro T hT X
  obtain ⟨mk, methM, cM, hnamed, hmethM, -, -, -, -, -, -, hsigM⟩ := Cond.codeWith_spec (hu _ hcode)
  have hstatic := Cond.static_spec hnamed hmethM (hu _ hst)
  obtain ⟨kP, hkP, -⟩ := className_of_methodNamed hnamed
  have hinitP := Cond.initialized_spec (findClass_of_methodNamed hnamed) hkP (hu _ hini)
  have hlen : As.length = methM.sig.parameters.length := by
    have h2 := hd.2.2
    rw [hsigM] at h2
    exact hn.trans (Option.some.inj h2).symm
  have hdg2 : decode c.code g.pc = .ok (.invokestatic index, 3) := by rw [hb]; exact hdg
  obtain ⟨vm₁, X₁, hstep₁⟩ := X.invokestatic hx ho (hu _ hl) hnamed hmethM hstatic hkP hinitP ⟨hd.1, hd.2.1⟩ (g := g) hg (argsL := As) (rest := rest) hlen hstack hdg2
  obtain ⟨v, ⟨U', l2, c2, s2⟩, X', ⟨g', mk', t, L, e1, e2, hq, h1, hL, h2, h3⟩, hsteps⟩ := hK m meth c ⟨T.setVm vm₁, locs, cells, slots⟩ { g with stack := rest } (.invokestatic index) mk As.toArray X₁ hg (hsize.trans hml.symm) hdg2 hW (X₁.named hnamed) ⟨hf.1, hf.2, hp.2 (T.setVm vm₁) hT X₁.warmed⟩
  dsimp only [Pt.U, Pt.locs, Pt.cells, Pt.slots] at X' e1 e2 h1 h2 h3 hsteps
  subst h1; subst h2; subst h3
  exact ⟨v, (T.setVm vm₁).calling g' mk' As.toArray, t, U', L, hT, X', hL, e1, hq, fun target h => hstep₁ _ fun acts => by rw [doInvoke_state]; exact hsteps.trans h⟩
theorem x_preS2 {av : List Value} (hC : xC G s) (hT : xTh (xA G) s s.heap) (hS : va_S (xA G) s.heap H locs) (hw : xw G σ H) : PreS s H (xP2 G σ av) av :=
  ⟨xP2.blind, fun U hU hW => ⟨rfl, by rw [hU]; exact hw, hC.go hS hU hW, hT.go hS hU hW⟩⟩
theorem x_preS3 {av : List Value} (hC : xC G s) (hT : xTh (xA G) s s.heap) (hNc : xNc s) (hS : va_S (xA G) s.heap H locs) (hw : xw G σ H) : PreS s H (xP3 G σ av) av :=
  ⟨xP3.blind, fun U hU hW => ⟨rfl, ⟨by rw [hU]; exact hw, hC.go hS hU hW, hT.go hS hU hW⟩, hNc.go hW.alike⟩⟩
theorem x_callT {v : Value} (hS : va_S (xA G) H0 H locs) (hr : CallRun p l e R s m args below meth c H locs cells slots 1 6 (F0 m pc ls st0) rest (xQt G (some v) σ a) (fun _ => False))
    (kk : ∀ (H1 : Heap), xw G σ H1 → va_S (xA G) H0 H1 locs → W p l e R s m args below meth c H1 locs (cells + 1) (slots + 6) Q (F0 m (pc + 3) ls (v :: rest))) : W p l e R s m args below meth c H locs cells slots Q (F0 m pc ls st0) := by
  intro T hT X
  obtain ⟨v', st₀, t, T', L, h0, X', hL, e1, ⟨hv, hw, hz, hold⟩, st⟩ := hr T hT X
  cases hv
  rw [h0] at hz hold
  obtain ⟨t2, a1, b1⟩ := kk t.heap hw ⟨Nat.le_trans hS.1 hz, fun q h1 h2 => by
      have hlt : q < H.size := Nat.lt_of_lt_of_le h1 hS.1
      have e := Array.getElem?_eq_getElem hlt
      rw [← hS.2.1 q h1 h2, e]
      exact hold _ _ e, hS.2.2⟩ T' e1 (Stand.forget X' (fun q h => (hL q h).elim))
  exact ⟨t2, st t2 a1, b1⟩
theorem x_oneT {α β : Type} {a : Option α} {r : α} {F : α → β} (h : a = some r) : a = some r := h
end XLW
theorem x_cmp0 {x y : Int64} (h : x = y) : lg_cmp x y = 0 := by
  subst h
  simp [lg_cmp]
theorem x_i4 {t j L : Nat} (ht : t < 512) (hj : j < 4) (hL : L ≤ 2048) (h : 4 * t + 4 ≤ L) : vp_in (Int32.ofNat (4 * t) + Int32.ofNat j) L := by
  have e : Int32.ofNat (4 * t) + Int32.ofNat j = Int32.ofNat (4 * t + j) := (Int32.ofNat_add _ _).symm
  rw [e]
  have hi : (Int32.ofNat (4 * t + j)).toInt = ((4 * t + j : Nat) : Int) := Int32.toInt_ofNat_of_lt (by omega)
  intro q
  rcases q with q | q
  · have := Int32.lt_iff_toInt_lt.mp q
    rw [hi] at this
    simp at this
    omega
  · have hc : (Int32.ofNat (4 * t + j)).toNatClampNeg = 4 * t + j := by
      show (Int32.ofNat (4 * t + j)).toInt.toNat = _
      rw [hi]
      exact Int.toNat_natCast _
    omega
theorem x_i0 {t L : Nat} (ht : t < 512) (hL : L ≤ 2048) (h : 4 * t + 4 ≤ L) : vp_in (Int32.ofNat (4 * t)) L := by
  have h1 := x_i4 (j := 0) ht (by decide) hL h
  have e : Int32.ofNat (4 * t) + Int32.ofNat 0 = Int32.ofNat (4 * t) := (Int32.ofNat_add _ _).symm
  rw [e] at h1
  exact h1
theorem x_end {t L : Nat} (ht : t ≤ 512) (hL : L ≤ 2048) (h : ¬ (Int32.ofNat L - 4 < Int32.ofNat (4 * t))) : 4 * t + 4 ≤ L := by
  rcases Nat.lt_or_ge L (4 * t + 4) with q | q
  · exfalso
    apply h
    rw [Int32.lt_iff_toInt_lt, Int32.toInt_sub, Int32.toInt_ofNat_of_lt (by omega), Int32.toInt_ofNat_of_lt (by omega), show (4 : Int32).toInt = 4 from rfl, Int.bmod_eq_of_le (by omega) (by omega)]
    omega
  · exact q
theorem x_nxt (t : Nat) : Int32.ofNat (4 * t) + Int32.ofInt 4 = Int32.ofNat (4 * (t + 1)) := by
  show Int32.ofNat (4 * t) + Int32.ofNat 4 = _
  rw [← Int32.ofNat_add]
  congr 1
theorem d_law_0 : decode code 0 = .ok (.new 8, 3) := by decide +kernel
theorem d_law_3 : decode code 3 = .ok (.dup, 1) := by decide +kernel
theorem d_law_4 : decode code 4 = .ok (.invokespecial 34, 3) := by decide +kernel
theorem d_law_7 : decode code 7 = .ok (.astore_n 1, 1) := by decide +kernel
theorem d_law_8 : decode code 8 = .ok (.new 35, 3) := by decide +kernel
theorem d_law_11 : decode code 11 = .ok (.dup, 1) := by decide +kernel
theorem d_law_12 : decode code 12 = .ok (.invokespecial 37, 3) := by decide +kernel
theorem d_law_15 : decode code 15 = .ok (.astore_n 2, 1) := by decide +kernel
theorem d_law_16 : decode code 16 = .ok (.iconst 1, 1) := by decide +kernel
theorem d_law_17 : decode code 17 = .ok (.newarray .long, 2) := by decide +kernel
theorem d_law_19 : decode code 19 = .ok (.astore_n 3, 1) := by decide +kernel
theorem d_law_20 : decode code 20 = .ok (.iconst 0, 1) := by decide +kernel
theorem d_law_21 : decode code 21 = .ok (.istore 4, 2) := by decide +kernel
theorem d_law_23 : decode code 23 = .ok (.iload 4, 2) := by decide +kernel
theorem d_law_25 : decode code 25 = .ok (.aload_n 0, 1) := by decide +kernel
theorem d_law_26 : decode code 26 = .ok (.arraylength, 1) := by decide +kernel
theorem d_law_27 : decode code 27 = .ok (.iconst 4, 1) := by decide +kernel
theorem d_law_28 : decode code 28 = .ok (.isub, 1) := by decide +kernel
theorem d_law_29 : decode code 29 = .ok (.if_icmp .gt (501), 3) := by decide +kernel
theorem d_law_32 : decode code 32 = .ok (.aload_n 0, 1) := by decide +kernel
theorem d_law_33 : decode code 33 = .ok (.iload 4, 2) := by decide +kernel
theorem d_law_35 : decode code 35 = .ok (.iaload, 1) := by decide +kernel
theorem d_law_36 : decode code 36 = .ok (.bipush (15), 2) := by decide +kernel
theorem d_law_38 : decode code 38 = .ok (.iand, 1) := by decide +kernel
theorem d_law_39 : decode code 39 = .ok (.tableswitch (485) (0) (11) #[(61), (161), (174), (185), (198), (253), (266), (279), (292), (348), (416), (472)], 61) := by decide +kernel
theorem d_law_100 : decode code 100 = .ok (.aload_n 1, 1) := by decide +kernel
theorem d_law_101 : decode code 101 = .ok (.aload_n 0, 1) := by decide +kernel
theorem d_law_102 : decode code 102 = .ok (.iload 4, 2) := by decide +kernel
theorem d_law_104 : decode code 104 = .ok (.iconst 1, 1) := by decide +kernel
theorem d_law_105 : decode code 105 = .ok (.iadd, 1) := by decide +kernel
theorem d_law_106 : decode code 106 = .ok (.iaload, 1) := by decide +kernel
theorem d_law_107 : decode code 107 = .ok (.i2l, 1) := by decide +kernel
theorem d_law_108 : decode code 108 = .ok (.bipush (32), 2) := by decide +kernel
theorem d_law_110 : decode code 110 = .ok (.lshl, 1) := by decide +kernel
theorem d_law_111 : decode code 111 = .ok (.aload_n 0, 1) := by decide +kernel
theorem d_law_112 : decode code 112 = .ok (.iload 4, 2) := by decide +kernel
theorem d_law_114 : decode code 114 = .ok (.iconst 2, 1) := by decide +kernel
theorem d_law_115 : decode code 115 = .ok (.iadd, 1) := by decide +kernel
theorem d_law_116 : decode code 116 = .ok (.iaload, 1) := by decide +kernel
theorem d_law_117 : decode code 117 = .ok (.i2l, 1) := by decide +kernel
theorem d_law_118 : decode code 118 = .ok (.ldc2_w 38, 3) := by decide +kernel
theorem d_law_121 : decode code 121 = .ok (.land, 1) := by decide +kernel
theorem d_law_122 : decode code 122 = .ok (.lor, 1) := by decide +kernel
theorem d_law_123 : decode code 123 = .ok (.aload_n 0, 1) := by decide +kernel
theorem d_law_124 : decode code 124 = .ok (.iload 4, 2) := by decide +kernel
theorem d_law_126 : decode code 126 = .ok (.iconst 3, 1) := by decide +kernel
theorem d_law_127 : decode code 127 = .ok (.iadd, 1) := by decide +kernel
theorem d_law_128 : decode code 128 = .ok (.iaload, 1) := by decide +kernel
theorem d_law_129 : decode code 129 = .ok (.aload_n 3, 1) := by decide +kernel
theorem d_law_130 : decode code 130 = .ok (.invokestatic 40, 3) := by decide +kernel
theorem d_law_133 : decode code 133 = .ok (.istore 5, 2) := by decide +kernel
theorem d_law_135 : decode code 135 = .ok (.aload_n 2, 1) := by decide +kernel
theorem d_law_136 : decode code 136 = .ok (.aload_n 0, 1) := by decide +kernel
theorem d_law_137 : decode code 137 = .ok (.iload 4, 2) := by decide +kernel
theorem d_law_139 : decode code 139 = .ok (.iconst 1, 1) := by decide +kernel
theorem d_law_140 : decode code 140 = .ok (.iadd, 1) := by decide +kernel
theorem d_law_141 : decode code 141 = .ok (.iaload, 1) := by decide +kernel
theorem d_law_142 : decode code 142 = .ok (.i2l, 1) := by decide +kernel
theorem d_law_143 : decode code 143 = .ok (.bipush (32), 2) := by decide +kernel
theorem d_law_145 : decode code 145 = .ok (.lshl, 1) := by decide +kernel
theorem d_law_146 : decode code 146 = .ok (.aload_n 0, 1) := by decide +kernel
theorem d_law_147 : decode code 147 = .ok (.iload 4, 2) := by decide +kernel
theorem d_law_149 : decode code 149 = .ok (.iconst 2, 1) := by decide +kernel
theorem d_law_150 : decode code 150 = .ok (.iadd, 1) := by decide +kernel
theorem d_law_151 : decode code 151 = .ok (.iaload, 1) := by decide +kernel
theorem d_law_152 : decode code 152 = .ok (.i2l, 1) := by decide +kernel
theorem d_law_153 : decode code 153 = .ok (.ldc2_w 38, 3) := by decide +kernel
theorem d_law_156 : decode code 156 = .ok (.land, 1) := by decide +kernel
theorem d_law_157 : decode code 157 = .ok (.lor, 1) := by decide +kernel
theorem d_law_158 : decode code 158 = .ok (.aload_n 0, 1) := by decide +kernel
theorem d_law_159 : decode code 159 = .ok (.iload 4, 2) := by decide +kernel
theorem d_law_161 : decode code 161 = .ok (.iconst 3, 1) := by decide +kernel
theorem d_law_162 : decode code 162 = .ok (.iadd, 1) := by decide +kernel
theorem d_law_163 : decode code 163 = .ok (.iaload, 1) := by decide +kernel
theorem d_law_164 : decode code 164 = .ok (.invokevirtual 45, 3) := by decide +kernel
theorem d_law_167 : decode code 167 = .ok (.istore 6, 2) := by decide +kernel
theorem d_law_169 : decode code 169 = .ok (.aload_n 2, 1) := by decide +kernel
theorem d_law_170 : decode code 170 = .ok (.invokevirtual 46, 3) := by decide +kernel
theorem d_law_173 : decode code 173 = .ok (.iload 5, 2) := by decide +kernel
theorem d_law_175 : decode code 175 = .ok (.if_icmp .eq (5), 3) := by decide +kernel
theorem d_law_178 : decode code 178 = .ok (.iconst 0, 1) := by decide +kernel
theorem d_law_179 : decode code 179 = .ok (.ireturn, 1) := by decide +kernel
theorem d_law_180 : decode code 180 = .ok (.iload 5, 2) := by decide +kernel
theorem d_law_182 : decode code 182 = .ok (.ifCond .ne (15), 3) := by decide +kernel
theorem d_law_185 : decode code 185 = .ok (.aload_n 3, 1) := by decide +kernel
theorem d_law_186 : decode code 186 = .ok (.iconst 0, 1) := by decide +kernel
theorem d_law_187 : decode code 187 = .ok (.laload, 1) := by decide +kernel
theorem d_law_188 : decode code 188 = .ok (.iload 6, 2) := by decide +kernel
theorem d_law_190 : decode code 190 = .ok (.i2l, 1) := by decide +kernel
theorem d_law_191 : decode code 191 = .ok (.lcmp, 1) := by decide +kernel
theorem d_law_192 : decode code 192 = .ok (.ifCond .eq (5), 3) := by decide +kernel
theorem d_law_195 : decode code 195 = .ok (.iconst 0, 1) := by decide +kernel
theorem d_law_196 : decode code 196 = .ok (.ireturn, 1) := by decide +kernel
theorem d_law_197 : decode code 197 = .ok (.goto (327), 3) := by decide +kernel
theorem d_law_200 : decode code 200 = .ok (.aload_n 1, 1) := by decide +kernel
theorem d_law_201 : decode code 201 = .ok (.invokevirtual 50, 3) := by decide +kernel
theorem d_law_204 : decode code 204 = .ok (.aload_n 2, 1) := by decide +kernel
theorem d_law_205 : decode code 205 = .ok (.invokevirtual 54, 3) := by decide +kernel
theorem d_law_208 : decode code 208 = .ok (.if_icmp .eq (316), 3) := by decide +kernel
theorem d_law_211 : decode code 211 = .ok (.iconst 0, 1) := by decide +kernel
theorem d_law_212 : decode code 212 = .ok (.ireturn, 1) := by decide +kernel
theorem d_law_213 : decode code 213 = .ok (.aload_n 1, 1) := by decide +kernel
theorem d_law_214 : decode code 214 = .ok (.invokevirtual 55, 3) := by decide +kernel
theorem d_law_217 : decode code 217 = .ok (.aload_n 2, 1) := by decide +kernel
theorem d_law_218 : decode code 218 = .ok (.invokevirtual 58, 3) := by decide +kernel
theorem d_law_221 : decode code 221 = .ok (.goto (303), 3) := by decide +kernel
theorem d_law_224 : decode code 224 = .ok (.aload_n 1, 1) := by decide +kernel
theorem d_law_225 : decode code 225 = .ok (.invokevirtual 59, 3) := by decide +kernel
theorem d_law_228 : decode code 228 = .ok (.aload_n 2, 1) := by decide +kernel
theorem d_law_229 : decode code 229 = .ok (.invokevirtual 62, 3) := by decide +kernel
theorem d_law_232 : decode code 232 = .ok (.if_icmp .eq (292), 3) := by decide +kernel
theorem d_law_235 : decode code 235 = .ok (.iconst 0, 1) := by decide +kernel
theorem d_law_236 : decode code 236 = .ok (.ireturn, 1) := by decide +kernel
theorem d_law_237 : decode code 237 = .ok (.aload_n 1, 1) := by decide +kernel
theorem d_law_238 : decode code 238 = .ok (.aload_n 0, 1) := by decide +kernel
theorem d_law_239 : decode code 239 = .ok (.iload 4, 2) := by decide +kernel
theorem d_law_241 : decode code 241 = .ok (.iconst 1, 1) := by decide +kernel
theorem d_law_242 : decode code 242 = .ok (.iadd, 1) := by decide +kernel
theorem d_law_243 : decode code 243 = .ok (.iaload, 1) := by decide +kernel
theorem d_law_244 : decode code 244 = .ok (.aload_n 3, 1) := by decide +kernel
theorem d_law_245 : decode code 245 = .ok (.invokestatic 63, 3) := by decide +kernel
theorem d_law_248 : decode code 248 = .ok (.istore 5, 2) := by decide +kernel
theorem d_law_250 : decode code 250 = .ok (.aload_n 2, 1) := by decide +kernel
theorem d_law_251 : decode code 251 = .ok (.aload_n 0, 1) := by decide +kernel
theorem d_law_252 : decode code 252 = .ok (.iload 4, 2) := by decide +kernel
theorem d_law_254 : decode code 254 = .ok (.iconst 1, 1) := by decide +kernel
theorem d_law_255 : decode code 255 = .ok (.iadd, 1) := by decide +kernel
theorem d_law_256 : decode code 256 = .ok (.iaload, 1) := by decide +kernel
theorem d_law_257 : decode code 257 = .ok (.invokevirtual 66, 3) := by decide +kernel
theorem d_law_260 : decode code 260 = .ok (.lstore 6, 2) := by decide +kernel
theorem d_law_262 : decode code 262 = .ok (.aload_n 2, 1) := by decide +kernel
theorem d_law_263 : decode code 263 = .ok (.invokevirtual 46, 3) := by decide +kernel
theorem d_law_266 : decode code 266 = .ok (.iload 5, 2) := by decide +kernel
theorem d_law_268 : decode code 268 = .ok (.if_icmp .eq (5), 3) := by decide +kernel
theorem d_law_271 : decode code 271 = .ok (.iconst 0, 1) := by decide +kernel
theorem d_law_272 : decode code 272 = .ok (.ireturn, 1) := by decide +kernel
theorem d_law_273 : decode code 273 = .ok (.iload 5, 2) := by decide +kernel
theorem d_law_275 : decode code 275 = .ok (.ifCond .ne (14), 3) := by decide +kernel
theorem d_law_278 : decode code 278 = .ok (.aload_n 3, 1) := by decide +kernel
theorem d_law_279 : decode code 279 = .ok (.iconst 0, 1) := by decide +kernel
theorem d_law_280 : decode code 280 = .ok (.laload, 1) := by decide +kernel
theorem d_law_281 : decode code 281 = .ok (.lload 6, 2) := by decide +kernel
theorem d_law_283 : decode code 283 = .ok (.lcmp, 1) := by decide +kernel
theorem d_law_284 : decode code 284 = .ok (.ifCond .eq (5), 3) := by decide +kernel
theorem d_law_287 : decode code 287 = .ok (.iconst 0, 1) := by decide +kernel
theorem d_law_288 : decode code 288 = .ok (.ireturn, 1) := by decide +kernel
theorem d_law_289 : decode code 289 = .ok (.goto (235), 3) := by decide +kernel
theorem d_law_292 : decode code 292 = .ok (.aload_n 1, 1) := by decide +kernel
theorem d_law_293 : decode code 293 = .ok (.invokevirtual 67, 3) := by decide +kernel
theorem d_law_296 : decode code 296 = .ok (.aload_n 2, 1) := by decide +kernel
theorem d_law_297 : decode code 297 = .ok (.invokevirtual 70, 3) := by decide +kernel
theorem d_law_300 : decode code 300 = .ok (.if_icmp .eq (224), 3) := by decide +kernel
theorem d_law_303 : decode code 303 = .ok (.iconst 0, 1) := by decide +kernel
theorem d_law_304 : decode code 304 = .ok (.ireturn, 1) := by decide +kernel
theorem d_law_305 : decode code 305 = .ok (.aload_n 1, 1) := by decide +kernel
theorem d_law_306 : decode code 306 = .ok (.invokevirtual 71, 3) := by decide +kernel
theorem d_law_309 : decode code 309 = .ok (.aload_n 2, 1) := by decide +kernel
theorem d_law_310 : decode code 310 = .ok (.invokevirtual 74, 3) := by decide +kernel
theorem d_law_313 : decode code 313 = .ok (.if_icmp .eq (211), 3) := by decide +kernel
theorem d_law_316 : decode code 316 = .ok (.iconst 0, 1) := by decide +kernel
theorem d_law_317 : decode code 317 = .ok (.ireturn, 1) := by decide +kernel
theorem d_law_318 : decode code 318 = .ok (.aload_n 1, 1) := by decide +kernel
theorem d_law_319 : decode code 319 = .ok (.invokevirtual 75, 3) := by decide +kernel
theorem d_law_322 : decode code 322 = .ok (.aload_n 2, 1) := by decide +kernel
theorem d_law_323 : decode code 323 = .ok (.invokevirtual 78, 3) := by decide +kernel
theorem d_law_326 : decode code 326 = .ok (.if_icmp .eq (198), 3) := by decide +kernel
theorem d_law_329 : decode code 329 = .ok (.iconst 0, 1) := by decide +kernel
theorem d_law_330 : decode code 330 = .ok (.ireturn, 1) := by decide +kernel
theorem d_law_331 : decode code 331 = .ok (.aload_n 1, 1) := by decide +kernel
theorem d_law_332 : decode code 332 = .ok (.aload_n 0, 1) := by decide +kernel
theorem d_law_333 : decode code 333 = .ok (.iload 4, 2) := by decide +kernel
theorem d_law_335 : decode code 335 = .ok (.iconst 1, 1) := by decide +kernel
theorem d_law_336 : decode code 336 = .ok (.iadd, 1) := by decide +kernel
theorem d_law_337 : decode code 337 = .ok (.iaload, 1) := by decide +kernel
theorem d_law_338 : decode code 338 = .ok (.aload_n 3, 1) := by decide +kernel
theorem d_law_339 : decode code 339 = .ok (.invokestatic 79, 3) := by decide +kernel
theorem d_law_342 : decode code 342 = .ok (.istore 5, 2) := by decide +kernel
theorem d_law_344 : decode code 344 = .ok (.aload_n 2, 1) := by decide +kernel
theorem d_law_345 : decode code 345 = .ok (.aload_n 0, 1) := by decide +kernel
theorem d_law_346 : decode code 346 = .ok (.iload 4, 2) := by decide +kernel
theorem d_law_348 : decode code 348 = .ok (.iconst 1, 1) := by decide +kernel
theorem d_law_349 : decode code 349 = .ok (.iadd, 1) := by decide +kernel
theorem d_law_350 : decode code 350 = .ok (.iaload, 1) := by decide +kernel
theorem d_law_351 : decode code 351 = .ok (.invokevirtual 81, 3) := by decide +kernel
theorem d_law_354 : decode code 354 = .ok (.istore 6, 2) := by decide +kernel
theorem d_law_356 : decode code 356 = .ok (.aload_n 2, 1) := by decide +kernel
theorem d_law_357 : decode code 357 = .ok (.invokevirtual 46, 3) := by decide +kernel
theorem d_law_360 : decode code 360 = .ok (.iload 5, 2) := by decide +kernel
theorem d_law_362 : decode code 362 = .ok (.if_icmp .eq (5), 3) := by decide +kernel
theorem d_law_365 : decode code 365 = .ok (.iconst 0, 1) := by decide +kernel
theorem d_law_366 : decode code 366 = .ok (.ireturn, 1) := by decide +kernel
theorem d_law_367 : decode code 367 = .ok (.iload 5, 2) := by decide +kernel
theorem d_law_369 : decode code 369 = .ok (.ifCond .ne (15), 3) := by decide +kernel
theorem d_law_372 : decode code 372 = .ok (.aload_n 3, 1) := by decide +kernel
theorem d_law_373 : decode code 373 = .ok (.iconst 0, 1) := by decide +kernel
theorem d_law_374 : decode code 374 = .ok (.laload, 1) := by decide +kernel
theorem d_law_375 : decode code 375 = .ok (.iload 6, 2) := by decide +kernel
theorem d_law_377 : decode code 377 = .ok (.i2l, 1) := by decide +kernel
theorem d_law_378 : decode code 378 = .ok (.lcmp, 1) := by decide +kernel
theorem d_law_379 : decode code 379 = .ok (.ifCond .eq (5), 3) := by decide +kernel
theorem d_law_382 : decode code 382 = .ok (.iconst 0, 1) := by decide +kernel
theorem d_law_383 : decode code 383 = .ok (.ireturn, 1) := by decide +kernel
theorem d_law_384 : decode code 384 = .ok (.goto (140), 3) := by decide +kernel
theorem d_law_387 : decode code 387 = .ok (.aload_n 1, 1) := by decide +kernel
theorem d_law_388 : decode code 388 = .ok (.aload_n 0, 1) := by decide +kernel
theorem d_law_389 : decode code 389 = .ok (.iload 4, 2) := by decide +kernel
theorem d_law_391 : decode code 391 = .ok (.iconst 1, 1) := by decide +kernel
theorem d_law_392 : decode code 392 = .ok (.iadd, 1) := by decide +kernel
theorem d_law_393 : decode code 393 = .ok (.iaload, 1) := by decide +kernel
theorem d_law_394 : decode code 394 = .ok (.aload_n 0, 1) := by decide +kernel
theorem d_law_395 : decode code 395 = .ok (.iload 4, 2) := by decide +kernel
theorem d_law_397 : decode code 397 = .ok (.iconst 2, 1) := by decide +kernel
theorem d_law_398 : decode code 398 = .ok (.iadd, 1) := by decide +kernel
theorem d_law_399 : decode code 399 = .ok (.iaload, 1) := by decide +kernel
theorem d_law_400 : decode code 400 = .ok (.aload_n 3, 1) := by decide +kernel
theorem d_law_401 : decode code 401 = .ok (.invokestatic 82, 3) := by decide +kernel
theorem d_law_404 : decode code 404 = .ok (.istore 5, 2) := by decide +kernel
theorem d_law_406 : decode code 406 = .ok (.aload_n 2, 1) := by decide +kernel
theorem d_law_407 : decode code 407 = .ok (.aload_n 0, 1) := by decide +kernel
theorem d_law_408 : decode code 408 = .ok (.iload 4, 2) := by decide +kernel
theorem d_law_410 : decode code 410 = .ok (.iconst 1, 1) := by decide +kernel
theorem d_law_411 : decode code 411 = .ok (.iadd, 1) := by decide +kernel
theorem d_law_412 : decode code 412 = .ok (.iaload, 1) := by decide +kernel
theorem d_law_413 : decode code 413 = .ok (.aload_n 0, 1) := by decide +kernel
theorem d_law_414 : decode code 414 = .ok (.iload 4, 2) := by decide +kernel
theorem d_law_416 : decode code 416 = .ok (.iconst 2, 1) := by decide +kernel
theorem d_law_417 : decode code 417 = .ok (.iadd, 1) := by decide +kernel
theorem d_law_418 : decode code 418 = .ok (.iaload, 1) := by decide +kernel
theorem d_law_419 : decode code 419 = .ok (.invokevirtual 85, 3) := by decide +kernel
theorem d_law_422 : decode code 422 = .ok (.istore 6, 2) := by decide +kernel
theorem d_law_424 : decode code 424 = .ok (.aload_n 2, 1) := by decide +kernel
theorem d_law_425 : decode code 425 = .ok (.invokevirtual 46, 3) := by decide +kernel
theorem d_law_428 : decode code 428 = .ok (.iload 5, 2) := by decide +kernel
theorem d_law_430 : decode code 430 = .ok (.if_icmp .eq (5), 3) := by decide +kernel
theorem d_law_433 : decode code 433 = .ok (.iconst 0, 1) := by decide +kernel
theorem d_law_434 : decode code 434 = .ok (.ireturn, 1) := by decide +kernel
theorem d_law_435 : decode code 435 = .ok (.iload 5, 2) := by decide +kernel
theorem d_law_437 : decode code 437 = .ok (.ifCond .ne (15), 3) := by decide +kernel
theorem d_law_440 : decode code 440 = .ok (.aload_n 3, 1) := by decide +kernel
theorem d_law_441 : decode code 441 = .ok (.iconst 0, 1) := by decide +kernel
theorem d_law_442 : decode code 442 = .ok (.laload, 1) := by decide +kernel
theorem d_law_443 : decode code 443 = .ok (.iload 6, 2) := by decide +kernel
theorem d_law_445 : decode code 445 = .ok (.i2l, 1) := by decide +kernel
theorem d_law_446 : decode code 446 = .ok (.lcmp, 1) := by decide +kernel
theorem d_law_447 : decode code 447 = .ok (.ifCond .eq (5), 3) := by decide +kernel
theorem d_law_450 : decode code 450 = .ok (.iconst 0, 1) := by decide +kernel
theorem d_law_451 : decode code 451 = .ok (.ireturn, 1) := by decide +kernel
theorem d_law_452 : decode code 452 = .ok (.goto (72), 3) := by decide +kernel
theorem d_law_455 : decode code 455 = .ok (.aload_n 1, 1) := by decide +kernel
theorem d_law_456 : decode code 456 = .ok (.aload_n 0, 1) := by decide +kernel
theorem d_law_457 : decode code 457 = .ok (.iload 4, 2) := by decide +kernel
theorem d_law_459 : decode code 459 = .ok (.iconst 1, 1) := by decide +kernel
theorem d_law_460 : decode code 460 = .ok (.iadd, 1) := by decide +kernel
theorem d_law_461 : decode code 461 = .ok (.iaload, 1) := by decide +kernel
theorem d_law_462 : decode code 462 = .ok (.aload_n 3, 1) := by decide +kernel
theorem d_law_463 : decode code 463 = .ok (.invokestatic 86, 3) := by decide +kernel
theorem d_law_466 : decode code 466 = .ok (.istore 5, 2) := by decide +kernel
theorem d_law_468 : decode code 468 = .ok (.aload_n 2, 1) := by decide +kernel
theorem d_law_469 : decode code 469 = .ok (.aload_n 0, 1) := by decide +kernel
theorem d_law_470 : decode code 470 = .ok (.iload 4, 2) := by decide +kernel
theorem d_law_472 : decode code 472 = .ok (.iconst 1, 1) := by decide +kernel
theorem d_law_473 : decode code 473 = .ok (.iadd, 1) := by decide +kernel
theorem d_law_474 : decode code 474 = .ok (.iaload, 1) := by decide +kernel
theorem d_law_475 : decode code 475 = .ok (.invokevirtual 88, 3) := by decide +kernel
theorem d_law_478 : decode code 478 = .ok (.istore 6, 2) := by decide +kernel
theorem d_law_480 : decode code 480 = .ok (.aload_n 2, 1) := by decide +kernel
theorem d_law_481 : decode code 481 = .ok (.invokevirtual 46, 3) := by decide +kernel
theorem d_law_484 : decode code 484 = .ok (.iload 5, 2) := by decide +kernel
theorem d_law_486 : decode code 486 = .ok (.if_icmp .eq (5), 3) := by decide +kernel
theorem d_law_489 : decode code 489 = .ok (.iconst 0, 1) := by decide +kernel
theorem d_law_490 : decode code 490 = .ok (.ireturn, 1) := by decide +kernel
theorem d_law_491 : decode code 491 = .ok (.iload 5, 2) := by decide +kernel
theorem d_law_493 : decode code 493 = .ok (.ifCond .ne (15), 3) := by decide +kernel
theorem d_law_496 : decode code 496 = .ok (.aload_n 3, 1) := by decide +kernel
theorem d_law_497 : decode code 497 = .ok (.iconst 0, 1) := by decide +kernel
theorem d_law_498 : decode code 498 = .ok (.laload, 1) := by decide +kernel
theorem d_law_499 : decode code 499 = .ok (.iload 6, 2) := by decide +kernel
theorem d_law_501 : decode code 501 = .ok (.i2l, 1) := by decide +kernel
theorem d_law_502 : decode code 502 = .ok (.lcmp, 1) := by decide +kernel
theorem d_law_503 : decode code 503 = .ok (.ifCond .eq (5), 3) := by decide +kernel
theorem d_law_506 : decode code 506 = .ok (.iconst 0, 1) := by decide +kernel
theorem d_law_507 : decode code 507 = .ok (.ireturn, 1) := by decide +kernel
theorem d_law_508 : decode code 508 = .ok (.goto (16), 3) := by decide +kernel
theorem d_law_511 : decode code 511 = .ok (.aload_n 1, 1) := by decide +kernel
theorem d_law_512 : decode code 512 = .ok (.invokevirtual 89, 3) := by decide +kernel
theorem d_law_515 : decode code 515 = .ok (.aload_n 2, 1) := by decide +kernel
theorem d_law_516 : decode code 516 = .ok (.invokevirtual 92, 3) := by decide +kernel
theorem d_law_519 : decode code 519 = .ok (.if_icmp .eq (5), 3) := by decide +kernel
theorem d_law_522 : decode code 522 = .ok (.iconst 0, 1) := by decide +kernel
theorem d_law_523 : decode code 523 = .ok (.ireturn, 1) := by decide +kernel
theorem d_law_524 : decode code 524 = .ok (.iinc 4 (4), 3) := by decide +kernel
theorem d_law_527 : decode code 527 = .ok (.goto (-504), 3) := by decide +kernel
theorem d_law_530 : decode code 530 = .ok (.iconst 1, 1) := by decide +kernel
theorem d_law_531 : decode code 531 = .ok (.ireturn, 1) := by decide +kernel
theorem lc_end {p : Program} {e : Env} {s : State} {m : MethodId} {below : List Frame} {meth : Method} {c : Code} (l : Launch) {b : Nat} {G : xG} (hx : p.tables.exec = Jvm.exec) (hb : c.code = code) (hr : meth.sig.returnType = ret) (hlocks : meth.locks = false) (hGs : ∀ q, xA G q → s.heap.size ≤ q) {ls : Array Slot} {H : Heap} {locs : List Loc} {ct sl : Nat} (hS : va_S (xA G) s.heap H locs) (hct : ct ≤ 601024) (hsl : sl ≤ 7293034) : W p l e room_1 s m #[Value.ref b] below meth c H locs ct sl (lw_Z below #[Value.ref b] s) (F0 m 530 ls []) := by
  refine va_forget (fun q hq => hGs _ (hS.2.2 q hq)) ?_
  refine W.widen hct hsl ?_
  refine lv_iconst (v := (1 : Int32)) hx hb d_law_530 (by decide) ?_
  exact lw_ret hx hb hr hlocks d_law_531
def xl_feed (I : St → Prop) (σ : St) (j : Int64) (n : Int32) : Prop := (∃ σ1 b σ2, x_PlainOriginLaw_feed j n σ = some (0, σ1) ∧ x_Model_feed j n σ1 = some (b, σ2) ∧ x_Model_thrown σ2 = some 0 ∧ σ2.2.2.2.2 = Int32.toInt64 b ∧ I σ2) ∨ ∃ b σ2, z_PlainOrigin_feed j n = some () ∧ x_Model_feed j n σ = some (b, σ2) ∧ x_Model_thrown σ2 = some 1 ∧ I σ2
def xl_out (I : St → Prop) (σ : St) (n : Int32) : Prop := (∃ σ1 b σ2, x_PlainOriginLaw_out n σ = some (0, σ1) ∧ x_Model_out n σ1 = some (b, σ2) ∧ x_Model_thrown σ2 = some 0 ∧ σ2.2.2.2.2 = b ∧ I σ2) ∨ ∃ b σ2, z_PlainOrigin_out n = some () ∧ x_Model_out n σ = some (b, σ2) ∧ x_Model_thrown σ2 = some 1 ∧ I σ2
def xl_size (I : St → Prop) (σ : St) (n : Int32) : Prop := (∃ σ1 b σ2, x_PlainOriginLaw_size n σ = some (0, σ1) ∧ x_Model_size n σ1 = some (b, σ2) ∧ x_Model_thrown σ2 = some 0 ∧ σ2.2.2.2.2 = Int32.toInt64 b ∧ I σ2) ∨ ∃ b σ2, z_PlainOrigin_size n = some () ∧ x_Model_size n σ = some (b, σ2) ∧ x_Model_thrown σ2 = some 1 ∧ I σ2
def xl_mark (I : St → Prop) (σ : St) (n : Int32) : Prop := (∃ σ1 b σ2, x_PlainOriginLaw_mark n σ = some (0, σ1) ∧ x_Model_mark n σ1 = some (b, σ2) ∧ x_Model_thrown σ2 = some 0 ∧ σ2.2.2.2.2 = Int32.toInt64 b ∧ I σ2) ∨ ∃ b σ2, z_PlainOrigin_mark n = some () ∧ x_Model_mark n σ = some (b, σ2) ∧ x_Model_thrown σ2 = some 1 ∧ I σ2
def xl_at (I : St → Prop) (σ : St) (n i : Int32) : Prop := (∃ σ1 b σ2, x_PlainOriginLaw_at n i σ = some (0, σ1) ∧ x_Model_at n i σ1 = some (b, σ2) ∧ x_Model_thrown σ2 = some 0 ∧ σ2.2.2.2.2 = Int32.toInt64 b ∧ I σ2) ∨ (∃ b σ2, z_PlainOrigin_at n i σ = some () ∧ x_Model_at n i σ = some (b, σ2) ∧ x_Model_thrown σ2 = some 1 ∧ I σ2) ∨ ∃ b σ2, z_PlainOrigin_atN n i σ = some () ∧ x_Model_at n i σ = some (b, σ2) ∧ x_Model_thrown σ2 = some 2 ∧ I σ2
def xl_isOpen (I : St → Prop) (σ : St) : Prop := ∃ r σ2, x_PlainOrigin_isOpen σ = some r ∧ x_Model_isOpen σ = some (r, σ2) ∧ I σ2
def xl_sent (I : St → Prop) (σ : St) : Prop := ∃ r σ2, x_PlainOrigin_sent σ = some r ∧ x_Model_sent σ = some (r, σ2) ∧ I σ2
def xl_drain (I : St → Prop) (σ : St) : Prop := ∃ r σ1 σ2, x_PlainOrigin_drain σ = some (r, σ1) ∧ x_Model_drain σ1 = some (r, σ2) ∧ I σ2
def xl_status (I : St → Prop) (σ : St) : Prop := ∃ r σ2, x_PlainOrigin_status σ = some r ∧ x_Model_status σ = some (r, σ2) ∧ I σ2
def xl_reading (I : St → Prop) (σ : St) : Prop := ∃ r σ2, x_PlainOrigin_reading σ = some r ∧ x_Model_reading σ = some (r, σ2) ∧ I σ2
def xl_changes (I : St → Prop) (σ : St) : Prop := ∃ r σ2, x_PlainOrigin_changes σ = some r ∧ x_Model_changes σ = some (r, σ2) ∧ I σ2
def xl_connect (I : St → Prop) (σ : St) : Prop := ∃ σ1 σ2, x_PlainOrigin_connect σ = some σ1 ∧ x_Model_connect σ1 = some σ2 ∧ I σ2
/-- what layer B owes: an invariant that each call keeps, and under which class and reference answer alike -/
def xLaw (Inv : Nat → St → Prop) : Prop := Inv 0 x_s0 ∧ ∀ (t : Nat) (σ : St), t < 512 → Inv t σ → (∀ (j : Int64) (n : Int32), xl_feed (Inv (t + 1)) σ j n) ∧ (xl_isOpen (Inv (t + 1)) σ) ∧ (xl_connect (Inv (t + 1)) σ) ∧ (xl_sent (Inv (t + 1)) σ) ∧ (∀ n : Int32, xl_out (Inv (t + 1)) σ n) ∧ (xl_drain (Inv (t + 1)) σ) ∧ (xl_status (Inv (t + 1)) σ) ∧ (xl_reading (Inv (t + 1)) σ) ∧ (∀ n : Int32, xl_size (Inv (t + 1)) σ n) ∧ (∀ n i : Int32, xl_at (Inv (t + 1)) σ n i) ∧ (∀ n : Int32, xl_mark (Inv (t + 1)) σ n) ∧ (xl_changes (Inv (t + 1)) σ) ∧ Inv (t + 1) σ
set_option maxHeartbeats 4000000 in
set_option maxRecDepth 100000 in
theorem lc_feed {p : Program} {e : Env} {s : State} {m : MethodId} {below : List Frame} {meth : Method} {c : Code} (l : Launch) {b L : Nat} {xs : Nat → Int32} {G : xG} (hx : p.tables.exec = Jvm.exec) (hb : c.code = code) (hml : c.maxLocals = 8) (hown : s.vm.findClass R_law = some m.cls) (hu : ∀ w ∈ UW, w.before #[Value.ref b] s = true) (hC : xC G s) (hT : xTh (xA G) s s.heap) (hNc : xNc s) (hfl : ∀ e : Env, l.admits e → e.platform.stackTraces = false) (hX : va_X b L xs s s.heap) (hbl : b < s.heap.size) (hbA : ¬ xA G b) (hL : L ≤ 2048) {t : Nat} (ht : t < 512) (h4 : 4 * t + 4 ≤ L) {I : St → Prop} (kk : ∀ (ls : Array Slot) (H : Heap) (locs : List Loc) (σ : St) (ct sl : Nat), lv_has ls 8 [(0, .ref b), (1, .ref (G.2.1 0)), (2, .ref (G.2.1 51)), (3, .ref (G.2.1 66)), (4, .int (Int32.ofNat (4 * t)))] → I σ → xw G σ H → va_S (xA G) s.heap H locs → ct ≤ 67 + (t + 1) → sl ≤ 12099 + 6 * (t + 1) → W p l e room_1 s m #[Value.ref b] below meth c H locs ct sl (lw_Z below #[Value.ref b] s) (F0 m 524 ls [])) {σ : St} (hB : xl_feed I σ ((Int32.toInt64 (xs (Int32.ofNat (4 * t) + (1 : Int32)).toNatClampNeg) <<< (Int32.toInt64 (32 : Int32) &&& 63)) ||| (Int32.toInt64 (xs (Int32.ofNat (4 * t) + (2 : Int32)).toNatClampNeg) &&& (4294967295 : Int64))) (xs (Int32.ofNat (4 * t) + (3 : Int32)).toNatClampNeg)) {ls : Array Slot} {H : Heap} {locs : List Loc} {ct sl : Nat} (hl : lv_has ls 8 [(0, .ref b), (1, .ref (G.2.1 0)), (2, .ref (G.2.1 51)), (3, .ref (G.2.1 66)), (4, .int (Int32.ofNat (4 * t)))]) (hw : xw G σ H) (hS : va_S (xA G) s.heap H locs) (hct : ct ≤ 67 + t) (hsl : sl ≤ 12099 + 6 * t) : W p l e room_1 s m #[Value.ref b] below meth c H locs ct sl (lw_Z below #[Value.ref b] s) (F0 m 100 ls []) := by
  have hK := hC.1
  rcases hB with ⟨σ1, bb, σ2, hE1, hE2, hE3, hE4, hI⟩ | ⟨bb, σ2, hE1, hE2, hE3, hI⟩
  · refine lv_aload_n hx hb d_law_100 rfl (lv_at hl 1 rfl) ?_
    refine lv_aload_n hx hb d_law_101 rfl (lv_at hl 0 rfl) ?_
    refine lv_iload hx hb d_law_102 (lv_at hl 4 rfl) ?_
    refine lv_iconst (v := (1 : Int32)) hx hb d_law_104 (by decide) ?_
    refine lv_iadd hx hb d_law_105 ?_
    refine va_sld hx hb hX hbl hbA hS (x_i4 (j := 1) ht (by decide) hL h4) d_law_106 ?_
    refine lv_i2l hx hb d_law_107 rfl ?_
    refine lv_bipush (v := (32 : Int32)) hx hb d_law_108 (by decide) ?_
    refine lv_lshl hx hb d_law_110 rfl ?_
    refine lv_aload_n hx hb d_law_111 rfl (lv_at hl 0 rfl) ?_
    refine lv_iload hx hb d_law_112 (lv_at hl 4 rfl) ?_
    refine lv_iconst (v := (2 : Int32)) hx hb d_law_114 (by decide) ?_
    refine lv_iadd hx hb d_law_115 ?_
    refine va_sld hx hb hX hbl hbA hS (x_i4 (j := 2) ht (by decide) hL h4) d_law_116 ?_
    refine lv_i2l hx hb d_law_117 rfl ?_
    refine lv_ldc2 (v := (4294967295 : Int64)) hx hb hown (hu _ mw_1391) d_law_118 ?_
    refine lv_land hx hb d_law_121 ?_
    refine lv_lor hx hb d_law_122 ?_
    refine lv_aload_n hx hb d_law_123 rfl (lv_at hl 0 rfl) ?_
    refine lv_iload hx hb d_law_124 (lv_at hl 4 rfl) ?_
    refine lv_iconst (v := (3 : Int32)) hx hb d_law_126 (by decide) ?_
    refine lv_iadd hx hb d_law_127 ?_
    refine va_sld hx hb hX hbl hbA hS (x_i4 (j := 3) ht (by decide) hL h4) d_law_128 ?_
    refine lv_aload_n hx hb d_law_129 rfl (lv_at hl 3 rfl) ?_
    refine x_callS hS (x_runSW (As := [.ref (G.2.1 0), .long (((Int32.toInt64 (xs (((Int32.ofNat (4 * t)) + (1 : Int32))).toNatClampNeg)) <<< (Int32.toInt64 (32 : Int32) &&& 63)) ||| ((Int32.toInt64 (xs (((Int32.ofNat (4 * t)) + (2 : Int32))).toNatClampNeg)) &&& (4294967295 : Int64))), .int (xs (((Int32.ofNat (4 * t)) + (3 : Int32))).toNatClampNeg), .ref (G.2.1 66)]) (rest := []) ⟨hx, hb, hml, hown, hu⟩ (t_PlainOriginLaw_feed l G σ (((Int32.toInt64 (xs (((Int32.ofNat (4 * t)) + (1 : Int32))).toNatClampNeg)) <<< (Int32.toInt64 (32 : Int32) &&& 63)) ||| ((Int32.toInt64 (xs (((Int32.ofNat (4 * t)) + (2 : Int32))).toNatClampNeg)) &&& (4294967295 : Int64))) (xs (((Int32.ofNat (4 * t)) + (3 : Int32))).toNatClampNeg) 0 σ1 hE1) rfl (uw_1_7 (List.mem_of_getElem? (i := 15) rfl) rfl) mw_424 mw_425 mw_59 hd_PlainOriginLaw_feed rfl rfl ⟨Nat.le_of_ble_eq_true rfl, Nat.le_of_ble_eq_true rfl⟩ (x_preS hC hS hw) rfl rfl hl.1 rfl (lv_room (Nat.le_of_ble_eq_true rfl)) d_law_130 ⟨by show ct + 0 ≤ 601024; omega, by show sl + 0 ≤ 7293034; omega⟩) (fun H locs hw hS => ?_)
    refine lv_istore hx hb d_law_133 hl (by decide) rfl (fun ls hl => ?_)
    have hl : lv_has ls 8 [(5, .int (0 : Int32)), (0, .ref b), (1, .ref (G.2.1 0)), (2, .ref (G.2.1 51)), (3, .ref (G.2.1 66)), (4, .int (Int32.ofNat (4 * t)))] := hl
    refine lv_aload_n hx hb d_law_135 rfl (lv_at hl 3 rfl) ?_
    refine lv_aload_n hx hb d_law_136 rfl (lv_at hl 1 rfl) ?_
    refine lv_iload hx hb d_law_137 (lv_at hl 5 rfl) ?_
    refine lv_iconst (v := (1 : Int32)) hx hb d_law_139 (by decide) ?_
    refine lv_iadd hx hb d_law_140 ?_
    refine va_sld hx hb hX hbl hbA hS (x_i4 (j := 1) ht (by decide) hL h4) d_law_141 ?_
    refine lv_i2l hx hb d_law_142 rfl ?_
    refine lv_bipush (v := (32 : Int32)) hx hb d_law_143 (by decide) ?_
    refine lv_lshl hx hb d_law_145 rfl ?_
    refine lv_aload_n hx hb d_law_146 rfl (lv_at hl 1 rfl) ?_
    refine lv_iload hx hb d_law_147 (lv_at hl 5 rfl) ?_
    refine lv_iconst (v := (2 : Int32)) hx hb d_law_149 (by decide) ?_
    refine lv_iadd hx hb d_law_150 ?_
    refine va_sld hx hb hX hbl hbA hS (x_i4 (j := 2) ht (by decide) hL h4) d_law_151 ?_
    refine lv_i2l hx hb d_law_152 rfl ?_
    refine lv_ldc2 (v := (4294967295 : Int64)) hx hb hown (hu _ mw_1391) d_law_153 ?_
    refine lv_land hx hb d_law_156 ?_
    refine lv_lor hx hb d_law_157 ?_
    refine lv_aload_n hx hb d_law_158 rfl (lv_at hl 1 rfl) ?_
    refine lv_iload hx hb d_law_159 (lv_at hl 5 rfl) ?_
    refine lv_iconst (v := (3 : Int32)) hx hb d_law_161 (by decide) ?_
    refine lv_iadd hx hb d_law_162 ?_
    refine va_sld hx hb hX hbl hbA hS (x_i4 (j := 3) ht (by decide) hL h4) d_law_163 ?_
    refine x_callS hS (W.runV (As := [.long (((Int32.toInt64 (xs (((Int32.ofNat (4 * t)) + (1 : Int32))).toNatClampNeg)) <<< (Int32.toInt64 (32 : Int32) &&& 63)) ||| ((Int32.toInt64 (xs (((Int32.ofNat (4 * t)) + (2 : Int32))).toNatClampNeg)) &&& (4294967295 : Int64))), .int (xs (((Int32.ofNat (4 * t)) + (3 : Int32))).toNatClampNeg)]) (rest := []) ⟨hx, hb, hml, hown, hu⟩ (t_Model_feed l G σ1 (((Int32.toInt64 (xs (((Int32.ofNat (4 * t)) + (1 : Int32))).toNatClampNeg)) <<< (Int32.toInt64 (32 : Int32) &&& 63)) ||| ((Int32.toInt64 (xs (((Int32.ofNat (4 * t)) + (2 : Int32))).toNatClampNeg)) &&& (4294967295 : Int64))) (xs (((Int32.ofNat (4 * t)) + (3 : Int32))).toNatClampNeg) bb σ2 hE2) (cwV 2 hu (uw_V mw_1174 mw_1175 mw_1176 mw_70 mw_1177) rfl rfl rfl hd_Model_feed ⟨Nat.le_of_ble_eq_true rfl, Nat.le_of_ble_eq_true rfl⟩) (x_preV hC hS hw (va_recv hK hw (q := (R_Model, T_Model, 33)) (ci := 10) rfl (x_at (by decide) (xcl_51 G σ1)))) rfl rfl hl.1 rfl (lv_room (Nat.le_of_ble_eq_true rfl)) d_law_164 ⟨by show ct + 0 ≤ 601024; omega, by show sl + 0 ≤ 7293034; omega⟩) (fun H locs hw hS => ?_)
    refine lv_istore hx hb d_law_167 hl (by decide) rfl (fun ls hl => ?_)
    have hl : lv_has ls 8 [(6, .int bb), (5, .int (0 : Int32)), (0, .ref b), (1, .ref (G.2.1 0)), (2, .ref (G.2.1 51)), (3, .ref (G.2.1 66)), (4, .int (Int32.ofNat (4 * t)))] := hl
    refine lv_aload_n hx hb d_law_169 rfl (lv_at hl 4 rfl) ?_
    refine x_callR (W.runV (As := []) (rest := []) ⟨hx, hb, hml, hown, hu⟩ (t_Model_thrown l G σ2 (0 : Int32) hE3) (cwV 0 hu (uw_V mw_1170 mw_1171 mw_1172 mw_70 mw_1173) rfl rfl rfl hd_Model_thrown ⟨Nat.le_of_ble_eq_true rfl, Nat.le_of_ble_eq_true rfl⟩) (x_preV hC hS hw (va_recv hK hw (q := (R_Model, T_Model, 33)) (ci := 10) rfl (x_at (by decide) (xcl_51 G σ2)))) rfl rfl hl.1 rfl (lv_room (Nat.le_of_ble_eq_true rfl)) d_law_170 ⟨by show ct + 0 ≤ 601024; omega, by show sl + 0 ≤ 7293034; omega⟩) ?_
    refine lv_iload hx hb d_law_173 (lv_at hl 1 rfl) ?_
    refine lv_icmp_eq (tgt := 180) hx hb d_law_175 (by decide) (fun _ => ?_) (fun hc => absurd rfl hc)
    refine lv_iload hx hb d_law_180 (lv_at hl 1 rfl) ?_
    refine lv_if_ne (tgt := 197) hx hb d_law_182 (by decide) (fun hc => absurd rfl hc) (fun _ => ?_)
    refine lv_aload_n hx hb d_law_185 rfl (lv_at hl 5 rfl) ?_
    refine lv_iconst (v := (0 : Int32)) hx hb d_law_186 (by decide) ?_
    refine va_lald hx hb hC.1 hw 66 2 (x_at (by decide) (xcl_66 G σ2)) rfl (by unfold vp_in; decide) d_law_187 ?_
    refine lv_iload hx hb d_law_188 (lv_at hl 0 rfl) ?_
    refine lv_i2l hx hb d_law_190 rfl ?_
    refine W.lcmp hx hb d_law_191 ?_
    refine lv_if_eq (tgt := 197) hx hb d_law_192 (by decide) (fun _ => ?_) (fun hc => absurd (x_cmp0 hE4) hc)
    refine lv_goto (tgt := 524) hx hb d_law_197 (by decide) ?_
    exact kk ls _ _ _ _ _ (lv_sub hl [2, 3, 4, 5, 6] rfl) hI hw hS (by omega) (by omega)
  · refine lv_aload_n hx hb d_law_100 rfl (lv_at hl 1 rfl) ?_
    refine lv_aload_n hx hb d_law_101 rfl (lv_at hl 0 rfl) ?_
    refine lv_iload hx hb d_law_102 (lv_at hl 4 rfl) ?_
    refine lv_iconst (v := (1 : Int32)) hx hb d_law_104 (by decide) ?_
    refine lv_iadd hx hb d_law_105 ?_
    refine va_sld hx hb hX hbl hbA hS (x_i4 (j := 1) ht (by decide) hL h4) d_law_106 ?_
    refine lv_i2l hx hb d_law_107 rfl ?_
    refine lv_bipush (v := (32 : Int32)) hx hb d_law_108 (by decide) ?_
    refine lv_lshl hx hb d_law_110 rfl ?_
    refine lv_aload_n hx hb d_law_111 rfl (lv_at hl 0 rfl) ?_
    refine lv_iload hx hb d_law_112 (lv_at hl 4 rfl) ?_
    refine lv_iconst (v := (2 : Int32)) hx hb d_law_114 (by decide) ?_
    refine lv_iadd hx hb d_law_115 ?_
    refine va_sld hx hb hX hbl hbA hS (x_i4 (j := 2) ht (by decide) hL h4) d_law_116 ?_
    refine lv_i2l hx hb d_law_117 rfl ?_
    refine lv_ldc2 (v := (4294967295 : Int64)) hx hb hown (hu _ mw_1391) d_law_118 ?_
    refine lv_land hx hb d_law_121 ?_
    refine lv_lor hx hb d_law_122 ?_
    refine lv_aload_n hx hb d_law_123 rfl (lv_at hl 0 rfl) ?_
    refine lv_iload hx hb d_law_124 (lv_at hl 4 rfl) ?_
    refine lv_iconst (v := (3 : Int32)) hx hb d_law_126 (by decide) ?_
    refine lv_iadd hx hb d_law_127 ?_
    refine va_sld hx hb hX hbl hbA hS (x_i4 (j := 3) ht (by decide) hL h4) d_law_128 ?_
    refine lv_aload_n hx hb d_law_129 rfl (lv_at hl 3 rfl) ?_
    refine x_callT hS (x_runSW (As := [.ref (G.2.1 0), .long (((Int32.toInt64 (xs (((Int32.ofNat (4 * t)) + (1 : Int32))).toNatClampNeg)) <<< (Int32.toInt64 (32 : Int32) &&& 63)) ||| ((Int32.toInt64 (xs (((Int32.ofNat (4 * t)) + (2 : Int32))).toNatClampNeg)) &&& (4294967295 : Int64))), .int (xs (((Int32.ofNat (4 * t)) + (3 : Int32))).toNatClampNeg), .ref (G.2.1 66)]) (rest := []) ⟨hx, hb, hml, hown, hu⟩ (v_PlainOriginLaw_feed l G σ (((Int32.toInt64 (xs (((Int32.ofNat (4 * t)) + (1 : Int32))).toNatClampNeg)) <<< (Int32.toInt64 (32 : Int32) &&& 63)) ||| ((Int32.toInt64 (xs (((Int32.ofNat (4 * t)) + (2 : Int32))).toNatClampNeg)) &&& (4294967295 : Int64))) (xs (((Int32.ofNat (4 * t)) + (3 : Int32))).toNatClampNeg) hfl hE1) rfl (uw_1_7 (List.mem_of_getElem? (i := 15) rfl) rfl) mw_424 mw_425 mw_59 hd_PlainOriginLaw_feed rfl rfl ⟨Nat.le_of_ble_eq_true rfl, Nat.le_of_ble_eq_true rfl⟩ (x_preS2 hC hT hS hw) rfl rfl hl.1 rfl (lv_room (Nat.le_of_ble_eq_true rfl)) d_law_130 ⟨by show ct + 1 ≤ 601024; omega, by show sl + 6 ≤ 7293034; omega⟩) (fun H hw hS => ?_)
    refine lv_istore hx hb d_law_133 hl (by decide) rfl (fun ls hl => ?_)
    have hl : lv_has ls 8 [(5, .int (1 : Int32)), (0, .ref b), (1, .ref (G.2.1 0)), (2, .ref (G.2.1 51)), (3, .ref (G.2.1 66)), (4, .int (Int32.ofNat (4 * t)))] := hl
    refine lv_aload_n hx hb d_law_135 rfl (lv_at hl 3 rfl) ?_
    refine lv_aload_n hx hb d_law_136 rfl (lv_at hl 1 rfl) ?_
    refine lv_iload hx hb d_law_137 (lv_at hl 5 rfl) ?_
    refine lv_iconst (v := (1 : Int32)) hx hb d_law_139 (by decide) ?_
    refine lv_iadd hx hb d_law_140 ?_
    refine va_sld hx hb hX hbl hbA hS (x_i4 (j := 1) ht (by decide) hL h4) d_law_141 ?_
    refine lv_i2l hx hb d_law_142 rfl ?_
    refine lv_bipush (v := (32 : Int32)) hx hb d_law_143 (by decide) ?_
    refine lv_lshl hx hb d_law_145 rfl ?_
    refine lv_aload_n hx hb d_law_146 rfl (lv_at hl 1 rfl) ?_
    refine lv_iload hx hb d_law_147 (lv_at hl 5 rfl) ?_
    refine lv_iconst (v := (2 : Int32)) hx hb d_law_149 (by decide) ?_
    refine lv_iadd hx hb d_law_150 ?_
    refine va_sld hx hb hX hbl hbA hS (x_i4 (j := 2) ht (by decide) hL h4) d_law_151 ?_
    refine lv_i2l hx hb d_law_152 rfl ?_
    refine lv_ldc2 (v := (4294967295 : Int64)) hx hb hown (hu _ mw_1391) d_law_153 ?_
    refine lv_land hx hb d_law_156 ?_
    refine lv_lor hx hb d_law_157 ?_
    refine lv_aload_n hx hb d_law_158 rfl (lv_at hl 1 rfl) ?_
    refine lv_iload hx hb d_law_159 (lv_at hl 5 rfl) ?_
    refine lv_iconst (v := (3 : Int32)) hx hb d_law_161 (by decide) ?_
    refine lv_iadd hx hb d_law_162 ?_
    refine va_sld hx hb hX hbl hbA hS (x_i4 (j := 3) ht (by decide) hL h4) d_law_163 ?_
    refine x_callS hS (W.runV (As := [.long (((Int32.toInt64 (xs (((Int32.ofNat (4 * t)) + (1 : Int32))).toNatClampNeg)) <<< (Int32.toInt64 (32 : Int32) &&& 63)) ||| ((Int32.toInt64 (xs (((Int32.ofNat (4 * t)) + (2 : Int32))).toNatClampNeg)) &&& (4294967295 : Int64))), .int (xs (((Int32.ofNat (4 * t)) + (3 : Int32))).toNatClampNeg)]) (rest := []) ⟨hx, hb, hml, hown, hu⟩ (t_Model_feed l G σ (((Int32.toInt64 (xs (((Int32.ofNat (4 * t)) + (1 : Int32))).toNatClampNeg)) <<< (Int32.toInt64 (32 : Int32) &&& 63)) ||| ((Int32.toInt64 (xs (((Int32.ofNat (4 * t)) + (2 : Int32))).toNatClampNeg)) &&& (4294967295 : Int64))) (xs (((Int32.ofNat (4 * t)) + (3 : Int32))).toNatClampNeg) bb σ2 hE2) (cwV 2 hu (uw_V mw_1174 mw_1175 mw_1176 mw_70 mw_1177) rfl rfl rfl hd_Model_feed ⟨Nat.le_of_ble_eq_true rfl, Nat.le_of_ble_eq_true rfl⟩) (x_preV hC hS hw (va_recv hK hw (q := (R_Model, T_Model, 33)) (ci := 10) rfl (x_at (by decide) (xcl_51 G σ)))) rfl rfl hl.1 rfl (lv_room (Nat.le_of_ble_eq_true rfl)) d_law_164 ⟨by show ct + 1 + 0 ≤ 601024; omega, by show sl + 6 + 0 ≤ 7293034; omega⟩) (fun H locs hw hS => ?_)
    refine lv_istore hx hb d_law_167 hl (by decide) rfl (fun ls hl => ?_)
    have hl : lv_has ls 8 [(6, .int bb), (5, .int (1 : Int32)), (0, .ref b), (1, .ref (G.2.1 0)), (2, .ref (G.2.1 51)), (3, .ref (G.2.1 66)), (4, .int (Int32.ofNat (4 * t)))] := hl
    refine lv_aload_n hx hb d_law_169 rfl (lv_at hl 4 rfl) ?_
    refine x_callR (W.runV (As := []) (rest := []) ⟨hx, hb, hml, hown, hu⟩ (t_Model_thrown l G σ2 (1 : Int32) hE3) (cwV 0 hu (uw_V mw_1170 mw_1171 mw_1172 mw_70 mw_1173) rfl rfl rfl hd_Model_thrown ⟨Nat.le_of_ble_eq_true rfl, Nat.le_of_ble_eq_true rfl⟩) (x_preV hC hS hw (va_recv hK hw (q := (R_Model, T_Model, 33)) (ci := 10) rfl (x_at (by decide) (xcl_51 G σ2)))) rfl rfl hl.1 rfl (lv_room (Nat.le_of_ble_eq_true rfl)) d_law_170 ⟨by show ct + 1 + 0 ≤ 601024; omega, by show sl + 6 + 0 ≤ 7293034; omega⟩) ?_
    refine lv_iload hx hb d_law_173 (lv_at hl 1 rfl) ?_
    refine lv_icmp_eq (tgt := 180) hx hb d_law_175 (by decide) (fun _ => ?_) (fun hc => absurd rfl hc)
    refine lv_iload hx hb d_law_180 (lv_at hl 1 rfl) ?_
    refine lv_if_ne (tgt := 197) hx hb d_law_182 (by decide) (fun _ => ?_) (fun hc => absurd hc (by decide))
    refine lv_goto (tgt := 524) hx hb d_law_197 (by decide) ?_
    exact kk ls _ _ _ _ _ (lv_sub hl [2, 3, 4, 5, 6] rfl) hI hw hS (by omega) (by omega)
set_option maxHeartbeats 4000000 in
set_option maxRecDepth 100000 in
theorem lc_isOpen {p : Program} {e : Env} {s : State} {m : MethodId} {below : List Frame} {meth : Method} {c : Code} (l : Launch) {b L : Nat} {xs : Nat → Int32} {G : xG} (hx : p.tables.exec = Jvm.exec) (hb : c.code = code) (hml : c.maxLocals = 8) (hown : s.vm.findClass R_law = some m.cls) (hu : ∀ w ∈ UW, w.before #[Value.ref b] s = true) (hC : xC G s) (hT : xTh (xA G) s s.heap) (hNc : xNc s) (hfl : ∀ e : Env, l.admits e → e.platform.stackTraces = false) (hX : va_X b L xs s s.heap) (hbl : b < s.heap.size) (hbA : ¬ xA G b) (hL : L ≤ 2048) {t : Nat} (ht : t < 512) (h4 : 4 * t + 4 ≤ L) {I : St → Prop} (kk : ∀ (ls : Array Slot) (H : Heap) (locs : List Loc) (σ : St) (ct sl : Nat), lv_has ls 8 [(0, .ref b), (1, .ref (G.2.1 0)), (2, .ref (G.2.1 51)), (3, .ref (G.2.1 66)), (4, .int (Int32.ofNat (4 * t)))] → I σ → xw G σ H → va_S (xA G) s.heap H locs → ct ≤ 67 + (t + 1) → sl ≤ 12099 + 6 * (t + 1) → W p l e room_1 s m #[Value.ref b] below meth c H locs ct sl (lw_Z below #[Value.ref b] s) (F0 m 524 ls [])) {σ : St} (hB : xl_isOpen I σ) {ls : Array Slot} {H : Heap} {locs : List Loc} {ct sl : Nat} (hl : lv_has ls 8 [(0, .ref b), (1, .ref (G.2.1 0)), (2, .ref (G.2.1 51)), (3, .ref (G.2.1 66)), (4, .int (Int32.ofNat (4 * t)))]) (hw : xw G σ H) (hS : va_S (xA G) s.heap H locs) (hct : ct ≤ 67 + t) (hsl : sl ≤ 12099 + 6 * t) : W p l e room_1 s m #[Value.ref b] below meth c H locs ct sl (lw_Z below #[Value.ref b] s) (F0 m 200 ls []) := by
  have hK := hC.1
  obtain ⟨r, σ2, hE1, hE2, hI⟩ := hB
  refine lv_aload_n hx hb d_law_200 rfl (lv_at hl 1 rfl) ?_
  refine x_callR (W.runV (As := []) (rest := []) ⟨hx, hb, hml, hown, hu⟩ (t_PlainOrigin_isOpen l G σ r hE1) (cwV 0 hu (uw_V mw_373 mw_374 mw_375 mw_60 mw_376) rfl rfl rfl hd_PlainOrigin_isOpen ⟨Nat.le_of_ble_eq_true rfl, Nat.le_of_ble_eq_true rfl⟩) (x_preV hC hS hw (va_recv hK hw (q := (R_PlainOrigin, T_PlainOrigin, 5)) (ci := 9) rfl (x_at (by decide) (xcl_0 G σ)))) rfl rfl hl.1 rfl (lv_room (Nat.le_of_ble_eq_true rfl)) d_law_201 ⟨by show ct + 0 ≤ 601024; omega, by show sl + 0 ≤ 7293034; omega⟩) ?_
  refine lv_aload_n hx hb d_law_204 rfl (lv_at hl 2 rfl) ?_
  refine x_callS hS (W.runV (As := []) (rest := [.int r]) ⟨hx, hb, hml, hown, hu⟩ (t_Model_isOpen l G σ r σ2 hE2) (cwV 0 hu (uw_V mw_1347 mw_1348 mw_1349 mw_70 mw_1350) rfl rfl rfl hd_Model_isOpen ⟨Nat.le_of_ble_eq_true rfl, Nat.le_of_ble_eq_true rfl⟩) (x_preV hC hS hw (va_recv hK hw (q := (R_Model, T_Model, 33)) (ci := 10) rfl (x_at (by decide) (xcl_51 G σ)))) rfl rfl hl.1 rfl (lv_room (Nat.le_of_ble_eq_true rfl)) d_law_205 ⟨by show ct + 0 ≤ 601024; omega, by show sl + 0 ≤ 7293034; omega⟩) (fun H locs hw hS => ?_)
  refine lv_icmp_eq (tgt := 524) hx hb d_law_208 (by decide) (fun _ => ?_) (fun hc => absurd rfl hc)
  exact kk ls _ _ _ _ _ (lv_sub hl [0, 1, 2, 3, 4] rfl) hI hw hS (by omega) (by omega)
set_option maxHeartbeats 4000000 in
set_option maxRecDepth 100000 in
theorem lc_connect {p : Program} {e : Env} {s : State} {m : MethodId} {below : List Frame} {meth : Method} {c : Code} (l : Launch) {b L : Nat} {xs : Nat → Int32} {G : xG} (hx : p.tables.exec = Jvm.exec) (hb : c.code = code) (hml : c.maxLocals = 8) (hown : s.vm.findClass R_law = some m.cls) (hu : ∀ w ∈ UW, w.before #[Value.ref b] s = true) (hC : xC G s) (hT : xTh (xA G) s s.heap) (hNc : xNc s) (hfl : ∀ e : Env, l.admits e → e.platform.stackTraces = false) (hX : va_X b L xs s s.heap) (hbl : b < s.heap.size) (hbA : ¬ xA G b) (hL : L ≤ 2048) {t : Nat} (ht : t < 512) (h4 : 4 * t + 4 ≤ L) {I : St → Prop} (kk : ∀ (ls : Array Slot) (H : Heap) (locs : List Loc) (σ : St) (ct sl : Nat), lv_has ls 8 [(0, .ref b), (1, .ref (G.2.1 0)), (2, .ref (G.2.1 51)), (3, .ref (G.2.1 66)), (4, .int (Int32.ofNat (4 * t)))] → I σ → xw G σ H → va_S (xA G) s.heap H locs → ct ≤ 67 + (t + 1) → sl ≤ 12099 + 6 * (t + 1) → W p l e room_1 s m #[Value.ref b] below meth c H locs ct sl (lw_Z below #[Value.ref b] s) (F0 m 524 ls [])) {σ : St} (hB : xl_connect I σ) {ls : Array Slot} {H : Heap} {locs : List Loc} {ct sl : Nat} (hl : lv_has ls 8 [(0, .ref b), (1, .ref (G.2.1 0)), (2, .ref (G.2.1 51)), (3, .ref (G.2.1 66)), (4, .int (Int32.ofNat (4 * t)))]) (hw : xw G σ H) (hS : va_S (xA G) s.heap H locs) (hct : ct ≤ 67 + t) (hsl : sl ≤ 12099 + 6 * t) : W p l e room_1 s m #[Value.ref b] below meth c H locs ct sl (lw_Z below #[Value.ref b] s) (F0 m 213 ls []) := by
  have hK := hC.1
  obtain ⟨σ1, σ2, hE1, hE2, hI⟩ := hB
  refine lv_aload_n hx hb d_law_213 rfl (lv_at hl 1 rfl) ?_
  refine x_callV hS (W.runV (As := []) (rest := []) ⟨hx, hb, hml, hown, hu⟩ (t_PlainOrigin_connect l G σ σ1 hE1) (cwV 0 hu (uw_V mw_377 mw_378 mw_379 mw_60 mw_380) rfl rfl rfl hd_PlainOrigin_connect ⟨Nat.le_of_ble_eq_true rfl, Nat.le_of_ble_eq_true rfl⟩) (x_preV hC hS hw (va_recv hK hw (q := (R_PlainOrigin, T_PlainOrigin, 5)) (ci := 9) rfl (x_at (by decide) (xcl_0 G σ)))) rfl rfl hl.1 rfl (lv_room (Nat.le_of_ble_eq_true rfl)) d_law_214 ⟨by show ct + 0 ≤ 601024; omega, by show sl + 0 ≤ 7293034; omega⟩) (fun H locs hw hS => ?_)
  refine lv_aload_n hx hb d_law_217 rfl (lv_at hl 2 rfl) ?_
  refine x_callV hS (W.runV (As := []) (rest := []) ⟨hx, hb, hml, hown, hu⟩ (t_Model_connect l G σ1 σ2 hE2) (cwV 0 hu (uw_V mw_1351 mw_1352 mw_1353 mw_70 mw_1354) rfl rfl rfl hd_Model_connect ⟨Nat.le_of_ble_eq_true rfl, Nat.le_of_ble_eq_true rfl⟩) (x_preV hC hS hw (va_recv hK hw (q := (R_Model, T_Model, 33)) (ci := 10) rfl (x_at (by decide) (xcl_51 G σ1)))) rfl rfl hl.1 rfl (lv_room (Nat.le_of_ble_eq_true rfl)) d_law_218 ⟨by show ct + 0 ≤ 601024; omega, by show sl + 0 ≤ 7293034; omega⟩) (fun H locs hw hS => ?_)
  refine lv_goto (tgt := 524) hx hb d_law_221 (by decide) ?_
  exact kk ls _ _ _ _ _ (lv_sub hl [0, 1, 2, 3, 4] rfl) hI hw hS (by omega) (by omega)
set_option maxHeartbeats 4000000 in
set_option maxRecDepth 100000 in
theorem lc_sent {p : Program} {e : Env} {s : State} {m : MethodId} {below : List Frame} {meth : Method} {c : Code} (l : Launch) {b L : Nat} {xs : Nat → Int32} {G : xG} (hx : p.tables.exec = Jvm.exec) (hb : c.code = code) (hml : c.maxLocals = 8) (hown : s.vm.findClass R_law = some m.cls) (hu : ∀ w ∈ UW, w.before #[Value.ref b] s = true) (hC : xC G s) (hT : xTh (xA G) s s.heap) (hNc : xNc s) (hfl : ∀ e : Env, l.admits e → e.platform.stackTraces = false) (hX : va_X b L xs s s.heap) (hbl : b < s.heap.size) (hbA : ¬ xA G b) (hL : L ≤ 2048) {t : Nat} (ht : t < 512) (h4 : 4 * t + 4 ≤ L) {I : St → Prop} (kk : ∀ (ls : Array Slot) (H : Heap) (locs : List Loc) (σ : St) (ct sl : Nat), lv_has ls 8 [(0, .ref b), (1, .ref (G.2.1 0)), (2, .ref (G.2.1 51)), (3, .ref (G.2.1 66)), (4, .int (Int32.ofNat (4 * t)))] → I σ → xw G σ H → va_S (xA G) s.heap H locs → ct ≤ 67 + (t + 1) → sl ≤ 12099 + 6 * (t + 1) → W p l e room_1 s m #[Value.ref b] below meth c H locs ct sl (lw_Z below #[Value.ref b] s) (F0 m 524 ls [])) {σ : St} (hB : xl_sent I σ) {ls : Array Slot} {H : Heap} {locs : List Loc} {ct sl : Nat} (hl : lv_has ls 8 [(0, .ref b), (1, .ref (G.2.1 0)), (2, .ref (G.2.1 51)), (3, .ref (G.2.1 66)), (4, .int (Int32.ofNat (4 * t)))]) (hw : xw G σ H) (hS : va_S (xA G) s.heap H locs) (hct : ct ≤ 67 + t) (hsl : sl ≤ 12099 + 6 * t) : W p l e room_1 s m #[Value.ref b] below meth c H locs ct sl (lw_Z below #[Value.ref b] s) (F0 m 224 ls []) := by
  have hK := hC.1
  obtain ⟨r, σ2, hE1, hE2, hI⟩ := hB
  refine lv_aload_n hx hb d_law_224 rfl (lv_at hl 1 rfl) ?_
  refine x_callR (W.runV (As := []) (rest := []) ⟨hx, hb, hml, hown, hu⟩ (t_PlainOrigin_sent l G σ r hE1) (cwV 0 hu (uw_V mw_404 mw_405 mw_406 mw_60 mw_407) rfl rfl rfl hd_PlainOrigin_sent ⟨Nat.le_of_ble_eq_true rfl, Nat.le_of_ble_eq_true rfl⟩) (x_preV hC hS hw (va_recv hK hw (q := (R_PlainOrigin, T_PlainOrigin, 5)) (ci := 9) rfl (x_at (by decide) (xcl_0 G σ)))) rfl rfl hl.1 rfl (lv_room (Nat.le_of_ble_eq_true rfl)) d_law_225 ⟨by show ct + 0 ≤ 601024; omega, by show sl + 0 ≤ 7293034; omega⟩) ?_
  refine lv_aload_n hx hb d_law_228 rfl (lv_at hl 2 rfl) ?_
  refine x_callS hS (W.runV (As := []) (rest := [.int r]) ⟨hx, hb, hml, hown, hu⟩ (t_Model_sent l G σ r σ2 hE2) (cwV 0 hu (uw_V mw_1355 mw_1356 mw_1357 mw_70 mw_1358) rfl rfl rfl hd_Model_sent ⟨Nat.le_of_ble_eq_true rfl, Nat.le_of_ble_eq_true rfl⟩) (x_preV hC hS hw (va_recv hK hw (q := (R_Model, T_Model, 33)) (ci := 10) rfl (x_at (by decide) (xcl_51 G σ)))) rfl rfl hl.1 rfl (lv_room (Nat.le_of_ble_eq_true rfl)) d_law_229 ⟨by show ct + 0 ≤ 601024; omega, by show sl + 0 ≤ 7293034; omega⟩) (fun H locs hw hS => ?_)
  refine lv_icmp_eq (tgt := 524) hx hb d_law_232 (by decide) (fun _ => ?_) (fun hc => absurd rfl hc)
  exact kk ls _ _ _ _ _ (lv_sub hl [0, 1, 2, 3, 4] rfl) hI hw hS (by omega) (by omega)
set_option maxHeartbeats 4000000 in
set_option maxRecDepth 100000 in
theorem lc_out {p : Program} {e : Env} {s : State} {m : MethodId} {below : List Frame} {meth : Method} {c : Code} (l : Launch) {b L : Nat} {xs : Nat → Int32} {G : xG} (hx : p.tables.exec = Jvm.exec) (hb : c.code = code) (hml : c.maxLocals = 8) (hown : s.vm.findClass R_law = some m.cls) (hu : ∀ w ∈ UW, w.before #[Value.ref b] s = true) (hC : xC G s) (hT : xTh (xA G) s s.heap) (hNc : xNc s) (hfl : ∀ e : Env, l.admits e → e.platform.stackTraces = false) (hX : va_X b L xs s s.heap) (hbl : b < s.heap.size) (hbA : ¬ xA G b) (hL : L ≤ 2048) {t : Nat} (ht : t < 512) (h4 : 4 * t + 4 ≤ L) {I : St → Prop} (kk : ∀ (ls : Array Slot) (H : Heap) (locs : List Loc) (σ : St) (ct sl : Nat), lv_has ls 8 [(0, .ref b), (1, .ref (G.2.1 0)), (2, .ref (G.2.1 51)), (3, .ref (G.2.1 66)), (4, .int (Int32.ofNat (4 * t)))] → I σ → xw G σ H → va_S (xA G) s.heap H locs → ct ≤ 67 + (t + 1) → sl ≤ 12099 + 6 * (t + 1) → W p l e room_1 s m #[Value.ref b] below meth c H locs ct sl (lw_Z below #[Value.ref b] s) (F0 m 524 ls [])) {σ : St} (hB : xl_out I σ (xs (Int32.ofNat (4 * t) + (1 : Int32)).toNatClampNeg)) {ls : Array Slot} {H : Heap} {locs : List Loc} {ct sl : Nat} (hl : lv_has ls 8 [(0, .ref b), (1, .ref (G.2.1 0)), (2, .ref (G.2.1 51)), (3, .ref (G.2.1 66)), (4, .int (Int32.ofNat (4 * t)))]) (hw : xw G σ H) (hS : va_S (xA G) s.heap H locs) (hct : ct ≤ 67 + t) (hsl : sl ≤ 12099 + 6 * t) : W p l e room_1 s m #[Value.ref b] below meth c H locs ct sl (lw_Z below #[Value.ref b] s) (F0 m 237 ls []) := by
  have hK := hC.1
  rcases hB with ⟨σ1, bb, σ2, hE1, hE2, hE3, hE4, hI⟩ | ⟨bb, σ2, hE1, hE2, hE3, hI⟩
  · refine lv_aload_n hx hb d_law_237 rfl (lv_at hl 1 rfl) ?_
    refine lv_aload_n hx hb d_law_238 rfl (lv_at hl 0 rfl) ?_
    refine lv_iload hx hb d_law_239 (lv_at hl 4 rfl) ?_
    refine lv_iconst (v := (1 : Int32)) hx hb d_law_241 (by decide) ?_
    refine lv_iadd hx hb d_law_242 ?_
    refine va_sld hx hb hX hbl hbA hS (x_i4 (j := 1) ht (by decide) hL h4) d_law_243 ?_
    refine lv_aload_n hx hb d_law_244 rfl (lv_at hl 3 rfl) ?_
    refine x_callS hS (x_runSW (As := [.ref (G.2.1 0), .int (xs (((Int32.ofNat (4 * t)) + (1 : Int32))).toNatClampNeg), .ref (G.2.1 66)]) (rest := []) ⟨hx, hb, hml, hown, hu⟩ (t_PlainOriginLaw_out l G σ (xs (((Int32.ofNat (4 * t)) + (1 : Int32))).toNatClampNeg) 0 σ1 hE1) rfl (uw_3_11 (List.mem_of_getElem? (i := 3) rfl) rfl) mw_956 mw_957 mw_59 hd_PlainOriginLaw_out rfl rfl ⟨Nat.le_of_ble_eq_true rfl, Nat.le_of_ble_eq_true rfl⟩ (x_preS hC hS hw) rfl rfl hl.1 rfl (lv_room (Nat.le_of_ble_eq_true rfl)) d_law_245 ⟨by show ct + 0 ≤ 601024; omega, by show sl + 0 ≤ 7293034; omega⟩) (fun H locs hw hS => ?_)
    refine lv_istore hx hb d_law_248 hl (by decide) rfl (fun ls hl => ?_)
    have hl : lv_has ls 8 [(5, .int (0 : Int32)), (0, .ref b), (1, .ref (G.2.1 0)), (2, .ref (G.2.1 51)), (3, .ref (G.2.1 66)), (4, .int (Int32.ofNat (4 * t)))] := hl
    refine lv_aload_n hx hb d_law_250 rfl (lv_at hl 3 rfl) ?_
    refine lv_aload_n hx hb d_law_251 rfl (lv_at hl 1 rfl) ?_
    refine lv_iload hx hb d_law_252 (lv_at hl 5 rfl) ?_
    refine lv_iconst (v := (1 : Int32)) hx hb d_law_254 (by decide) ?_
    refine lv_iadd hx hb d_law_255 ?_
    refine va_sld hx hb hX hbl hbA hS (x_i4 (j := 1) ht (by decide) hL h4) d_law_256 ?_
    refine x_callS hS (W.runV (As := [.int (xs (((Int32.ofNat (4 * t)) + (1 : Int32))).toNatClampNeg)]) (rest := []) ⟨hx, hb, hml, hown, hu⟩ (t_Model_out l G σ1 (xs (((Int32.ofNat (4 * t)) + (1 : Int32))).toNatClampNeg) bb σ2 hE2) (cwV 1 hu (uw_V mw_1359 mw_1360 mw_1361 mw_70 mw_1362) rfl rfl rfl hd_Model_out ⟨Nat.le_of_ble_eq_true rfl, Nat.le_of_ble_eq_true rfl⟩) (x_preV hC hS hw (va_recv hK hw (q := (R_Model, T_Model, 33)) (ci := 10) rfl (x_at (by decide) (xcl_51 G σ1)))) rfl rfl hl.1 rfl (lv_room (Nat.le_of_ble_eq_true rfl)) d_law_257 ⟨by show ct + 0 ≤ 601024; omega, by show sl + 0 ≤ 7293034; omega⟩) (fun H locs hw hS => ?_)
    refine lv_lstore hx hb d_law_260 hl (by decide) rfl (fun ls hl => ?_)
    have hl : lv_has ls 8 [(6, .long bb), (5, .int (0 : Int32)), (0, .ref b), (1, .ref (G.2.1 0)), (2, .ref (G.2.1 51)), (3, .ref (G.2.1 66)), (4, .int (Int32.ofNat (4 * t)))] := hl
    refine lv_aload_n hx hb d_law_262 rfl (lv_at hl 4 rfl) ?_
    refine x_callR (W.runV (As := []) (rest := []) ⟨hx, hb, hml, hown, hu⟩ (t_Model_thrown l G σ2 (0 : Int32) hE3) (cwV 0 hu (uw_V mw_1170 mw_1171 mw_1172 mw_70 mw_1173) rfl rfl rfl hd_Model_thrown ⟨Nat.le_of_ble_eq_true rfl, Nat.le_of_ble_eq_true rfl⟩) (x_preV hC hS hw (va_recv hK hw (q := (R_Model, T_Model, 33)) (ci := 10) rfl (x_at (by decide) (xcl_51 G σ2)))) rfl rfl hl.1 rfl (lv_room (Nat.le_of_ble_eq_true rfl)) d_law_263 ⟨by show ct + 0 ≤ 601024; omega, by show sl + 0 ≤ 7293034; omega⟩) ?_
    refine lv_iload hx hb d_law_266 (lv_at hl 1 rfl) ?_
    refine lv_icmp_eq (tgt := 273) hx hb d_law_268 (by decide) (fun _ => ?_) (fun hc => absurd rfl hc)
    refine lv_iload hx hb d_law_273 (lv_at hl 1 rfl) ?_
    refine lv_if_ne (tgt := 289) hx hb d_law_275 (by decide) (fun hc => absurd rfl hc) (fun _ => ?_)
    refine lv_aload_n hx hb d_law_278 rfl (lv_at hl 5 rfl) ?_
    refine lv_iconst (v := (0 : Int32)) hx hb d_law_279 (by decide) ?_
    refine va_lald hx hb hC.1 hw 66 2 (x_at (by decide) (xcl_66 G σ2)) rfl (by unfold vp_in; decide) d_law_280 ?_
    refine lv_lload hx hb d_law_281 (lv_at hl 0 rfl) ?_
    refine W.lcmp hx hb d_law_283 ?_
    refine lv_if_eq (tgt := 289) hx hb d_law_284 (by decide) (fun _ => ?_) (fun hc => absurd (x_cmp0 hE4) hc)
    refine lv_goto (tgt := 524) hx hb d_law_289 (by decide) ?_
    exact kk ls _ _ _ _ _ (lv_sub hl [2, 3, 4, 5, 6] rfl) hI hw hS (by omega) (by omega)
  · refine lv_aload_n hx hb d_law_237 rfl (lv_at hl 1 rfl) ?_
    refine lv_aload_n hx hb d_law_238 rfl (lv_at hl 0 rfl) ?_
    refine lv_iload hx hb d_law_239 (lv_at hl 4 rfl) ?_
    refine lv_iconst (v := (1 : Int32)) hx hb d_law_241 (by decide) ?_
    refine lv_iadd hx hb d_law_242 ?_
    refine va_sld hx hb hX hbl hbA hS (x_i4 (j := 1) ht (by decide) hL h4) d_law_243 ?_
    refine lv_aload_n hx hb d_law_244 rfl (lv_at hl 3 rfl) ?_
    refine x_callT hS (x_runSW (As := [.ref (G.2.1 0), .int (xs (((Int32.ofNat (4 * t)) + (1 : Int32))).toNatClampNeg), .ref (G.2.1 66)]) (rest := []) ⟨hx, hb, hml, hown, hu⟩ (v_PlainOriginLaw_out l G σ (xs (((Int32.ofNat (4 * t)) + (1 : Int32))).toNatClampNeg) hfl hE1) rfl (uw_3_11 (List.mem_of_getElem? (i := 3) rfl) rfl) mw_956 mw_957 mw_59 hd_PlainOriginLaw_out rfl rfl ⟨Nat.le_of_ble_eq_true rfl, Nat.le_of_ble_eq_true rfl⟩ (x_preS2 hC hT hS hw) rfl rfl hl.1 rfl (lv_room (Nat.le_of_ble_eq_true rfl)) d_law_245 ⟨by show ct + 1 ≤ 601024; omega, by show sl + 6 ≤ 7293034; omega⟩) (fun H hw hS => ?_)
    refine lv_istore hx hb d_law_248 hl (by decide) rfl (fun ls hl => ?_)
    have hl : lv_has ls 8 [(5, .int (1 : Int32)), (0, .ref b), (1, .ref (G.2.1 0)), (2, .ref (G.2.1 51)), (3, .ref (G.2.1 66)), (4, .int (Int32.ofNat (4 * t)))] := hl
    refine lv_aload_n hx hb d_law_250 rfl (lv_at hl 3 rfl) ?_
    refine lv_aload_n hx hb d_law_251 rfl (lv_at hl 1 rfl) ?_
    refine lv_iload hx hb d_law_252 (lv_at hl 5 rfl) ?_
    refine lv_iconst (v := (1 : Int32)) hx hb d_law_254 (by decide) ?_
    refine lv_iadd hx hb d_law_255 ?_
    refine va_sld hx hb hX hbl hbA hS (x_i4 (j := 1) ht (by decide) hL h4) d_law_256 ?_
    refine x_callS hS (W.runV (As := [.int (xs (((Int32.ofNat (4 * t)) + (1 : Int32))).toNatClampNeg)]) (rest := []) ⟨hx, hb, hml, hown, hu⟩ (t_Model_out l G σ (xs (((Int32.ofNat (4 * t)) + (1 : Int32))).toNatClampNeg) bb σ2 hE2) (cwV 1 hu (uw_V mw_1359 mw_1360 mw_1361 mw_70 mw_1362) rfl rfl rfl hd_Model_out ⟨Nat.le_of_ble_eq_true rfl, Nat.le_of_ble_eq_true rfl⟩) (x_preV hC hS hw (va_recv hK hw (q := (R_Model, T_Model, 33)) (ci := 10) rfl (x_at (by decide) (xcl_51 G σ)))) rfl rfl hl.1 rfl (lv_room (Nat.le_of_ble_eq_true rfl)) d_law_257 ⟨by show ct + 1 + 0 ≤ 601024; omega, by show sl + 6 + 0 ≤ 7293034; omega⟩) (fun H locs hw hS => ?_)
    refine lv_lstore hx hb d_law_260 hl (by decide) rfl (fun ls hl => ?_)
    have hl : lv_has ls 8 [(6, .long bb), (5, .int (1 : Int32)), (0, .ref b), (1, .ref (G.2.1 0)), (2, .ref (G.2.1 51)), (3, .ref (G.2.1 66)), (4, .int (Int32.ofNat (4 * t)))] := hl
    refine lv_aload_n hx hb d_law_262 rfl (lv_at hl 4 rfl) ?_
    refine x_callR (W.runV (As := []) (rest := []) ⟨hx, hb, hml, hown, hu⟩ (t_Model_thrown l G σ2 (1 : Int32) hE3) (cwV 0 hu (uw_V mw_1170 mw_1171 mw_1172 mw_70 mw_1173) rfl rfl rfl hd_Model_thrown ⟨Nat.le_of_ble_eq_true rfl, Nat.le_of_ble_eq_true rfl⟩) (x_preV hC hS hw (va_recv hK hw (q := (R_Model, T_Model, 33)) (ci := 10) rfl (x_at (by decide) (xcl_51 G σ2)))) rfl rfl hl.1 rfl (lv_room (Nat.le_of_ble_eq_true rfl)) d_law_263 ⟨by show ct + 1 + 0 ≤ 601024; omega, by show sl + 6 + 0 ≤ 7293034; omega⟩) ?_
    refine lv_iload hx hb d_law_266 (lv_at hl 1 rfl) ?_
    refine lv_icmp_eq (tgt := 273) hx hb d_law_268 (by decide) (fun _ => ?_) (fun hc => absurd rfl hc)
    refine lv_iload hx hb d_law_273 (lv_at hl 1 rfl) ?_
    refine lv_if_ne (tgt := 289) hx hb d_law_275 (by decide) (fun _ => ?_) (fun hc => absurd hc (by decide))
    refine lv_goto (tgt := 524) hx hb d_law_289 (by decide) ?_
    exact kk ls _ _ _ _ _ (lv_sub hl [2, 3, 4, 5, 6] rfl) hI hw hS (by omega) (by omega)
set_option maxHeartbeats 4000000 in
set_option maxRecDepth 100000 in
theorem lc_drain {p : Program} {e : Env} {s : State} {m : MethodId} {below : List Frame} {meth : Method} {c : Code} (l : Launch) {b L : Nat} {xs : Nat → Int32} {G : xG} (hx : p.tables.exec = Jvm.exec) (hb : c.code = code) (hml : c.maxLocals = 8) (hown : s.vm.findClass R_law = some m.cls) (hu : ∀ w ∈ UW, w.before #[Value.ref b] s = true) (hC : xC G s) (hT : xTh (xA G) s s.heap) (hNc : xNc s) (hfl : ∀ e : Env, l.admits e → e.platform.stackTraces = false) (hX : va_X b L xs s s.heap) (hbl : b < s.heap.size) (hbA : ¬ xA G b) (hL : L ≤ 2048) {t : Nat} (ht : t < 512) (h4 : 4 * t + 4 ≤ L) {I : St → Prop} (kk : ∀ (ls : Array Slot) (H : Heap) (locs : List Loc) (σ : St) (ct sl : Nat), lv_has ls 8 [(0, .ref b), (1, .ref (G.2.1 0)), (2, .ref (G.2.1 51)), (3, .ref (G.2.1 66)), (4, .int (Int32.ofNat (4 * t)))] → I σ → xw G σ H → va_S (xA G) s.heap H locs → ct ≤ 67 + (t + 1) → sl ≤ 12099 + 6 * (t + 1) → W p l e room_1 s m #[Value.ref b] below meth c H locs ct sl (lw_Z below #[Value.ref b] s) (F0 m 524 ls [])) {σ : St} (hB : xl_drain I σ) {ls : Array Slot} {H : Heap} {locs : List Loc} {ct sl : Nat} (hl : lv_has ls 8 [(0, .ref b), (1, .ref (G.2.1 0)), (2, .ref (G.2.1 51)), (3, .ref (G.2.1 66)), (4, .int (Int32.ofNat (4 * t)))]) (hw : xw G σ H) (hS : va_S (xA G) s.heap H locs) (hct : ct ≤ 67 + t) (hsl : sl ≤ 12099 + 6 * t) : W p l e room_1 s m #[Value.ref b] below meth c H locs ct sl (lw_Z below #[Value.ref b] s) (F0 m 292 ls []) := by
  have hK := hC.1
  obtain ⟨r, σ1, σ2, hE1, hE2, hI⟩ := hB
  refine lv_aload_n hx hb d_law_292 rfl (lv_at hl 1 rfl) ?_
  refine x_callS hS (W.runV (As := []) (rest := []) ⟨hx, hb, hml, hown, hu⟩ (t_PlainOrigin_drain l G σ r σ1 hE1) (cwV 0 hu (uw_V mw_408 mw_409 mw_410 mw_60 mw_411) rfl rfl rfl hd_PlainOrigin_drain ⟨Nat.le_of_ble_eq_true rfl, Nat.le_of_ble_eq_true rfl⟩) (x_preV hC hS hw (va_recv hK hw (q := (R_PlainOrigin, T_PlainOrigin, 5)) (ci := 9) rfl (x_at (by decide) (xcl_0 G σ)))) rfl rfl hl.1 rfl (lv_room (Nat.le_of_ble_eq_true rfl)) d_law_293 ⟨by show ct + 0 ≤ 601024; omega, by show sl + 0 ≤ 7293034; omega⟩) (fun H locs hw hS => ?_)
  refine lv_aload_n hx hb d_law_296 rfl (lv_at hl 2 rfl) ?_
  refine x_callS hS (W.runV (As := []) (rest := [.int r]) ⟨hx, hb, hml, hown, hu⟩ (t_Model_drain l G σ1 r σ2 hE2) (cwV 0 hu (uw_V mw_1363 mw_1364 mw_1365 mw_70 mw_1366) rfl rfl rfl hd_Model_drain ⟨Nat.le_of_ble_eq_true rfl, Nat.le_of_ble_eq_true rfl⟩) (x_preV hC hS hw (va_recv hK hw (q := (R_Model, T_Model, 33)) (ci := 10) rfl (x_at (by decide) (xcl_51 G σ1)))) rfl rfl hl.1 rfl (lv_room (Nat.le_of_ble_eq_true rfl)) d_law_297 ⟨by show ct + 0 ≤ 601024; omega, by show sl + 0 ≤ 7293034; omega⟩) (fun H locs hw hS => ?_)
  refine lv_icmp_eq (tgt := 524) hx hb d_law_300 (by decide) (fun _ => ?_) (fun hc => absurd rfl hc)
  exact kk ls _ _ _ _ _ (lv_sub hl [0, 1, 2, 3, 4] rfl) hI hw hS (by omega) (by omega)
set_option maxHeartbeats 4000000 in
set_option maxRecDepth 100000 in
theorem lc_status {p : Program} {e : Env} {s : State} {m : MethodId} {below : List Frame} {meth : Method} {c : Code} (l : Launch) {b L : Nat} {xs : Nat → Int32} {G : xG} (hx : p.tables.exec = Jvm.exec) (hb : c.code = code) (hml : c.maxLocals = 8) (hown : s.vm.findClass R_law = some m.cls) (hu : ∀ w ∈ UW, w.before #[Value.ref b] s = true) (hC : xC G s) (hT : xTh (xA G) s s.heap) (hNc : xNc s) (hfl : ∀ e : Env, l.admits e → e.platform.stackTraces = false) (hX : va_X b L xs s s.heap) (hbl : b < s.heap.size) (hbA : ¬ xA G b) (hL : L ≤ 2048) {t : Nat} (ht : t < 512) (h4 : 4 * t + 4 ≤ L) {I : St → Prop} (kk : ∀ (ls : Array Slot) (H : Heap) (locs : List Loc) (σ : St) (ct sl : Nat), lv_has ls 8 [(0, .ref b), (1, .ref (G.2.1 0)), (2, .ref (G.2.1 51)), (3, .ref (G.2.1 66)), (4, .int (Int32.ofNat (4 * t)))] → I σ → xw G σ H → va_S (xA G) s.heap H locs → ct ≤ 67 + (t + 1) → sl ≤ 12099 + 6 * (t + 1) → W p l e room_1 s m #[Value.ref b] below meth c H locs ct sl (lw_Z below #[Value.ref b] s) (F0 m 524 ls [])) {σ : St} (hB : xl_status I σ) {ls : Array Slot} {H : Heap} {locs : List Loc} {ct sl : Nat} (hl : lv_has ls 8 [(0, .ref b), (1, .ref (G.2.1 0)), (2, .ref (G.2.1 51)), (3, .ref (G.2.1 66)), (4, .int (Int32.ofNat (4 * t)))]) (hw : xw G σ H) (hS : va_S (xA G) s.heap H locs) (hct : ct ≤ 67 + t) (hsl : sl ≤ 12099 + 6 * t) : W p l e room_1 s m #[Value.ref b] below meth c H locs ct sl (lw_Z below #[Value.ref b] s) (F0 m 305 ls []) := by
  have hK := hC.1
  obtain ⟨r, σ2, hE1, hE2, hI⟩ := hB
  refine lv_aload_n hx hb d_law_305 rfl (lv_at hl 1 rfl) ?_
  refine x_callR (W.runV (As := []) (rest := []) ⟨hx, hb, hml, hown, hu⟩ (t_PlainOrigin_status l G σ r hE1) (cwV 0 hu (uw_V mw_412 mw_413 mw_414 mw_60 mw_415) rfl rfl rfl hd_PlainOrigin_status ⟨Nat.le_of_ble_eq_true rfl, Nat.le_of_ble_eq_true rfl⟩) (x_preV hC hS hw (va_recv hK hw (q := (R_PlainOrigin, T_PlainOrigin, 5)) (ci := 9) rfl (x_at (by decide) (xcl_0 G σ)))) rfl rfl hl.1 rfl (lv_room (Nat.le_of_ble_eq_true rfl)) d_law_306 ⟨by show ct + 0 ≤ 601024; omega, by show sl + 0 ≤ 7293034; omega⟩) ?_
  refine lv_aload_n hx hb d_law_309 rfl (lv_at hl 2 rfl) ?_
  refine x_callS hS (W.runV (As := []) (rest := [.int r]) ⟨hx, hb, hml, hown, hu⟩ (t_Model_status l G σ r σ2 hE2) (cwV 0 hu (uw_V mw_1367 mw_1368 mw_1369 mw_70 mw_1370) rfl rfl rfl hd_Model_status ⟨Nat.le_of_ble_eq_true rfl, Nat.le_of_ble_eq_true rfl⟩) (x_preV hC hS hw (va_recv hK hw (q := (R_Model, T_Model, 33)) (ci := 10) rfl (x_at (by decide) (xcl_51 G σ)))) rfl rfl hl.1 rfl (lv_room (Nat.le_of_ble_eq_true rfl)) d_law_310 ⟨by show ct + 0 ≤ 601024; omega, by show sl + 0 ≤ 7293034; omega⟩) (fun H locs hw hS => ?_)
  refine lv_icmp_eq (tgt := 524) hx hb d_law_313 (by decide) (fun _ => ?_) (fun hc => absurd rfl hc)
  exact kk ls _ _ _ _ _ (lv_sub hl [0, 1, 2, 3, 4] rfl) hI hw hS (by omega) (by omega)
set_option maxHeartbeats 4000000 in
set_option maxRecDepth 100000 in
theorem lc_reading {p : Program} {e : Env} {s : State} {m : MethodId} {below : List Frame} {meth : Method} {c : Code} (l : Launch) {b L : Nat} {xs : Nat → Int32} {G : xG} (hx : p.tables.exec = Jvm.exec) (hb : c.code = code) (hml : c.maxLocals = 8) (hown : s.vm.findClass R_law = some m.cls) (hu : ∀ w ∈ UW, w.before #[Value.ref b] s = true) (hC : xC G s) (hT : xTh (xA G) s s.heap) (hNc : xNc s) (hfl : ∀ e : Env, l.admits e → e.platform.stackTraces = false) (hX : va_X b L xs s s.heap) (hbl : b < s.heap.size) (hbA : ¬ xA G b) (hL : L ≤ 2048) {t : Nat} (ht : t < 512) (h4 : 4 * t + 4 ≤ L) {I : St → Prop} (kk : ∀ (ls : Array Slot) (H : Heap) (locs : List Loc) (σ : St) (ct sl : Nat), lv_has ls 8 [(0, .ref b), (1, .ref (G.2.1 0)), (2, .ref (G.2.1 51)), (3, .ref (G.2.1 66)), (4, .int (Int32.ofNat (4 * t)))] → I σ → xw G σ H → va_S (xA G) s.heap H locs → ct ≤ 67 + (t + 1) → sl ≤ 12099 + 6 * (t + 1) → W p l e room_1 s m #[Value.ref b] below meth c H locs ct sl (lw_Z below #[Value.ref b] s) (F0 m 524 ls [])) {σ : St} (hB : xl_reading I σ) {ls : Array Slot} {H : Heap} {locs : List Loc} {ct sl : Nat} (hl : lv_has ls 8 [(0, .ref b), (1, .ref (G.2.1 0)), (2, .ref (G.2.1 51)), (3, .ref (G.2.1 66)), (4, .int (Int32.ofNat (4 * t)))]) (hw : xw G σ H) (hS : va_S (xA G) s.heap H locs) (hct : ct ≤ 67 + t) (hsl : sl ≤ 12099 + 6 * t) : W p l e room_1 s m #[Value.ref b] below meth c H locs ct sl (lw_Z below #[Value.ref b] s) (F0 m 318 ls []) := by
  have hK := hC.1
  obtain ⟨r, σ2, hE1, hE2, hI⟩ := hB
  refine lv_aload_n hx hb d_law_318 rfl (lv_at hl 1 rfl) ?_
  refine x_callR (W.runV (As := []) (rest := []) ⟨hx, hb, hml, hown, hu⟩ (t_PlainOrigin_reading l G σ r hE1) (cwV 0 hu (uw_V mw_416 mw_417 mw_418 mw_60 mw_419) rfl rfl rfl hd_PlainOrigin_reading ⟨Nat.le_of_ble_eq_true rfl, Nat.le_of_ble_eq_true rfl⟩) (x_preV hC hS hw (va_recv hK hw (q := (R_PlainOrigin, T_PlainOrigin, 5)) (ci := 9) rfl (x_at (by decide) (xcl_0 G σ)))) rfl rfl hl.1 rfl (lv_room (Nat.le_of_ble_eq_true rfl)) d_law_319 ⟨by show ct + 0 ≤ 601024; omega, by show sl + 0 ≤ 7293034; omega⟩) ?_
  refine lv_aload_n hx hb d_law_322 rfl (lv_at hl 2 rfl) ?_
  refine x_callS hS (W.runV (As := []) (rest := [.int r]) ⟨hx, hb, hml, hown, hu⟩ (t_Model_reading l G σ r σ2 hE2) (cwV 0 hu (uw_V mw_1371 mw_1372 mw_1373 mw_70 mw_1374) rfl rfl rfl hd_Model_reading ⟨Nat.le_of_ble_eq_true rfl, Nat.le_of_ble_eq_true rfl⟩) (x_preV hC hS hw (va_recv hK hw (q := (R_Model, T_Model, 33)) (ci := 10) rfl (x_at (by decide) (xcl_51 G σ)))) rfl rfl hl.1 rfl (lv_room (Nat.le_of_ble_eq_true rfl)) d_law_323 ⟨by show ct + 0 ≤ 601024; omega, by show sl + 0 ≤ 7293034; omega⟩) (fun H locs hw hS => ?_)
  refine lv_icmp_eq (tgt := 524) hx hb d_law_326 (by decide) (fun _ => ?_) (fun hc => absurd rfl hc)
  exact kk ls _ _ _ _ _ (lv_sub hl [0, 1, 2, 3, 4] rfl) hI hw hS (by omega) (by omega)
set_option maxHeartbeats 4000000 in
set_option maxRecDepth 100000 in
theorem lc_size {p : Program} {e : Env} {s : State} {m : MethodId} {below : List Frame} {meth : Method} {c : Code} (l : Launch) {b L : Nat} {xs : Nat → Int32} {G : xG} (hx : p.tables.exec = Jvm.exec) (hb : c.code = code) (hml : c.maxLocals = 8) (hown : s.vm.findClass R_law = some m.cls) (hu : ∀ w ∈ UW, w.before #[Value.ref b] s = true) (hC : xC G s) (hT : xTh (xA G) s s.heap) (hNc : xNc s) (hfl : ∀ e : Env, l.admits e → e.platform.stackTraces = false) (hX : va_X b L xs s s.heap) (hbl : b < s.heap.size) (hbA : ¬ xA G b) (hL : L ≤ 2048) {t : Nat} (ht : t < 512) (h4 : 4 * t + 4 ≤ L) {I : St → Prop} (kk : ∀ (ls : Array Slot) (H : Heap) (locs : List Loc) (σ : St) (ct sl : Nat), lv_has ls 8 [(0, .ref b), (1, .ref (G.2.1 0)), (2, .ref (G.2.1 51)), (3, .ref (G.2.1 66)), (4, .int (Int32.ofNat (4 * t)))] → I σ → xw G σ H → va_S (xA G) s.heap H locs → ct ≤ 67 + (t + 1) → sl ≤ 12099 + 6 * (t + 1) → W p l e room_1 s m #[Value.ref b] below meth c H locs ct sl (lw_Z below #[Value.ref b] s) (F0 m 524 ls [])) {σ : St} (hB : xl_size I σ (xs (Int32.ofNat (4 * t) + (1 : Int32)).toNatClampNeg)) {ls : Array Slot} {H : Heap} {locs : List Loc} {ct sl : Nat} (hl : lv_has ls 8 [(0, .ref b), (1, .ref (G.2.1 0)), (2, .ref (G.2.1 51)), (3, .ref (G.2.1 66)), (4, .int (Int32.ofNat (4 * t)))]) (hw : xw G σ H) (hS : va_S (xA G) s.heap H locs) (hct : ct ≤ 67 + t) (hsl : sl ≤ 12099 + 6 * t) : W p l e room_1 s m #[Value.ref b] below meth c H locs ct sl (lw_Z below #[Value.ref b] s) (F0 m 331 ls []) := by
  have hK := hC.1
  rcases hB with ⟨σ1, bb, σ2, hE1, hE2, hE3, hE4, hI⟩ | ⟨bb, σ2, hE1, hE2, hE3, hI⟩
  · refine lv_aload_n hx hb d_law_331 rfl (lv_at hl 1 rfl) ?_
    refine lv_aload_n hx hb d_law_332 rfl (lv_at hl 0 rfl) ?_
    refine lv_iload hx hb d_law_333 (lv_at hl 4 rfl) ?_
    refine lv_iconst (v := (1 : Int32)) hx hb d_law_335 (by decide) ?_
    refine lv_iadd hx hb d_law_336 ?_
    refine va_sld hx hb hX hbl hbA hS (x_i4 (j := 1) ht (by decide) hL h4) d_law_337 ?_
    refine lv_aload_n hx hb d_law_338 rfl (lv_at hl 3 rfl) ?_
    refine x_callS hS (x_runSW (As := [.ref (G.2.1 0), .int (xs (((Int32.ofNat (4 * t)) + (1 : Int32))).toNatClampNeg), .ref (G.2.1 66)]) (rest := []) ⟨hx, hb, hml, hown, hu⟩ (t_PlainOriginLaw_size l G σ (xs (((Int32.ofNat (4 * t)) + (1 : Int32))).toNatClampNeg) 0 σ1 hE1) rfl (uw_3_12 (List.mem_of_getElem? (i := 12) rfl) rfl) mw_981 mw_982 mw_59 hd_PlainOriginLaw_size rfl rfl ⟨Nat.le_of_ble_eq_true rfl, Nat.le_of_ble_eq_true rfl⟩ (x_preS hC hS hw) rfl rfl hl.1 rfl (lv_room (Nat.le_of_ble_eq_true rfl)) d_law_339 ⟨by show ct + 0 ≤ 601024; omega, by show sl + 0 ≤ 7293034; omega⟩) (fun H locs hw hS => ?_)
    refine lv_istore hx hb d_law_342 hl (by decide) rfl (fun ls hl => ?_)
    have hl : lv_has ls 8 [(5, .int (0 : Int32)), (0, .ref b), (1, .ref (G.2.1 0)), (2, .ref (G.2.1 51)), (3, .ref (G.2.1 66)), (4, .int (Int32.ofNat (4 * t)))] := hl
    refine lv_aload_n hx hb d_law_344 rfl (lv_at hl 3 rfl) ?_
    refine lv_aload_n hx hb d_law_345 rfl (lv_at hl 1 rfl) ?_
    refine lv_iload hx hb d_law_346 (lv_at hl 5 rfl) ?_
    refine lv_iconst (v := (1 : Int32)) hx hb d_law_348 (by decide) ?_
    refine lv_iadd hx hb d_law_349 ?_
    refine va_sld hx hb hX hbl hbA hS (x_i4 (j := 1) ht (by decide) hL h4) d_law_350 ?_
    refine x_callS hS (W.runV (As := [.int (xs (((Int32.ofNat (4 * t)) + (1 : Int32))).toNatClampNeg)]) (rest := []) ⟨hx, hb, hml, hown, hu⟩ (t_Model_size l G σ1 (xs (((Int32.ofNat (4 * t)) + (1 : Int32))).toNatClampNeg) bb σ2 hE2) (cwV 1 hu (uw_V mw_1375 mw_1376 mw_1377 mw_70 mw_1378) rfl rfl rfl hd_Model_size ⟨Nat.le_of_ble_eq_true rfl, Nat.le_of_ble_eq_true rfl⟩) (x_preV hC hS hw (va_recv hK hw (q := (R_Model, T_Model, 33)) (ci := 10) rfl (x_at (by decide) (xcl_51 G σ1)))) rfl rfl hl.1 rfl (lv_room (Nat.le_of_ble_eq_true rfl)) d_law_351 ⟨by show ct + 0 ≤ 601024; omega, by show sl + 0 ≤ 7293034; omega⟩) (fun H locs hw hS => ?_)
    refine lv_istore hx hb d_law_354 hl (by decide) rfl (fun ls hl => ?_)
    have hl : lv_has ls 8 [(6, .int bb), (5, .int (0 : Int32)), (0, .ref b), (1, .ref (G.2.1 0)), (2, .ref (G.2.1 51)), (3, .ref (G.2.1 66)), (4, .int (Int32.ofNat (4 * t)))] := hl
    refine lv_aload_n hx hb d_law_356 rfl (lv_at hl 4 rfl) ?_
    refine x_callR (W.runV (As := []) (rest := []) ⟨hx, hb, hml, hown, hu⟩ (t_Model_thrown l G σ2 (0 : Int32) hE3) (cwV 0 hu (uw_V mw_1170 mw_1171 mw_1172 mw_70 mw_1173) rfl rfl rfl hd_Model_thrown ⟨Nat.le_of_ble_eq_true rfl, Nat.le_of_ble_eq_true rfl⟩) (x_preV hC hS hw (va_recv hK hw (q := (R_Model, T_Model, 33)) (ci := 10) rfl (x_at (by decide) (xcl_51 G σ2)))) rfl rfl hl.1 rfl (lv_room (Nat.le_of_ble_eq_true rfl)) d_law_357 ⟨by show ct + 0 ≤ 601024; omega, by show sl + 0 ≤ 7293034; omega⟩) ?_
    refine lv_iload hx hb d_law_360 (lv_at hl 1 rfl) ?_
    refine lv_icmp_eq (tgt := 367) hx hb d_law_362 (by decide) (fun _ => ?_) (fun hc => absurd rfl hc)
    refine lv_iload hx hb d_law_367 (lv_at hl 1 rfl) ?_
    refine lv_if_ne (tgt := 384) hx hb d_law_369 (by decide) (fun hc => absurd rfl hc) (fun _ => ?_)
    refine lv_aload_n hx hb d_law_372 rfl (lv_at hl 5 rfl) ?_
    refine lv_iconst (v := (0 : Int32)) hx hb d_law_373 (by decide) ?_
    refine va_lald hx hb hC.1 hw 66 2 (x_at (by decide) (xcl_66 G σ2)) rfl (by unfold vp_in; decide) d_law_374 ?_
    refine lv_iload hx hb d_law_375 (lv_at hl 0 rfl) ?_
    refine lv_i2l hx hb d_law_377 rfl ?_
    refine W.lcmp hx hb d_law_378 ?_
    refine lv_if_eq (tgt := 384) hx hb d_law_379 (by decide) (fun _ => ?_) (fun hc => absurd (x_cmp0 hE4) hc)
    refine lv_goto (tgt := 524) hx hb d_law_384 (by decide) ?_
    exact kk ls _ _ _ _ _ (lv_sub hl [2, 3, 4, 5, 6] rfl) hI hw hS (by omega) (by omega)
  · refine lv_aload_n hx hb d_law_331 rfl (lv_at hl 1 rfl) ?_
    refine lv_aload_n hx hb d_law_332 rfl (lv_at hl 0 rfl) ?_
    refine lv_iload hx hb d_law_333 (lv_at hl 4 rfl) ?_
    refine lv_iconst (v := (1 : Int32)) hx hb d_law_335 (by decide) ?_
    refine lv_iadd hx hb d_law_336 ?_
    refine va_sld hx hb hX hbl hbA hS (x_i4 (j := 1) ht (by decide) hL h4) d_law_337 ?_
    refine lv_aload_n hx hb d_law_338 rfl (lv_at hl 3 rfl) ?_
    refine x_callT hS (x_runSW (As := [.ref (G.2.1 0), .int (xs (((Int32.ofNat (4 * t)) + (1 : Int32))).toNatClampNeg), .ref (G.2.1 66)]) (rest := []) ⟨hx, hb, hml, hown, hu⟩ (v_PlainOriginLaw_size l G σ (xs (((Int32.ofNat (4 * t)) + (1 : Int32))).toNatClampNeg) hfl hE1) rfl (uw_3_12 (List.mem_of_getElem? (i := 12) rfl) rfl) mw_981 mw_982 mw_59 hd_PlainOriginLaw_size rfl rfl ⟨Nat.le_of_ble_eq_true rfl, Nat.le_of_ble_eq_true rfl⟩ (x_preS2 hC hT hS hw) rfl rfl hl.1 rfl (lv_room (Nat.le_of_ble_eq_true rfl)) d_law_339 ⟨by show ct + 1 ≤ 601024; omega, by show sl + 6 ≤ 7293034; omega⟩) (fun H hw hS => ?_)
    refine lv_istore hx hb d_law_342 hl (by decide) rfl (fun ls hl => ?_)
    have hl : lv_has ls 8 [(5, .int (1 : Int32)), (0, .ref b), (1, .ref (G.2.1 0)), (2, .ref (G.2.1 51)), (3, .ref (G.2.1 66)), (4, .int (Int32.ofNat (4 * t)))] := hl
    refine lv_aload_n hx hb d_law_344 rfl (lv_at hl 3 rfl) ?_
    refine lv_aload_n hx hb d_law_345 rfl (lv_at hl 1 rfl) ?_
    refine lv_iload hx hb d_law_346 (lv_at hl 5 rfl) ?_
    refine lv_iconst (v := (1 : Int32)) hx hb d_law_348 (by decide) ?_
    refine lv_iadd hx hb d_law_349 ?_
    refine va_sld hx hb hX hbl hbA hS (x_i4 (j := 1) ht (by decide) hL h4) d_law_350 ?_
    refine x_callS hS (W.runV (As := [.int (xs (((Int32.ofNat (4 * t)) + (1 : Int32))).toNatClampNeg)]) (rest := []) ⟨hx, hb, hml, hown, hu⟩ (t_Model_size l G σ (xs (((Int32.ofNat (4 * t)) + (1 : Int32))).toNatClampNeg) bb σ2 hE2) (cwV 1 hu (uw_V mw_1375 mw_1376 mw_1377 mw_70 mw_1378) rfl rfl rfl hd_Model_size ⟨Nat.le_of_ble_eq_true rfl, Nat.le_of_ble_eq_true rfl⟩) (x_preV hC hS hw (va_recv hK hw (q := (R_Model, T_Model, 33)) (ci := 10) rfl (x_at (by decide) (xcl_51 G σ)))) rfl rfl hl.1 rfl (lv_room (Nat.le_of_ble_eq_true rfl)) d_law_351 ⟨by show ct + 1 + 0 ≤ 601024; omega, by show sl + 6 + 0 ≤ 7293034; omega⟩) (fun H locs hw hS => ?_)
    refine lv_istore hx hb d_law_354 hl (by decide) rfl (fun ls hl => ?_)
    have hl : lv_has ls 8 [(6, .int bb), (5, .int (1 : Int32)), (0, .ref b), (1, .ref (G.2.1 0)), (2, .ref (G.2.1 51)), (3, .ref (G.2.1 66)), (4, .int (Int32.ofNat (4 * t)))] := hl
    refine lv_aload_n hx hb d_law_356 rfl (lv_at hl 4 rfl) ?_
    refine x_callR (W.runV (As := []) (rest := []) ⟨hx, hb, hml, hown, hu⟩ (t_Model_thrown l G σ2 (1 : Int32) hE3) (cwV 0 hu (uw_V mw_1170 mw_1171 mw_1172 mw_70 mw_1173) rfl rfl rfl hd_Model_thrown ⟨Nat.le_of_ble_eq_true rfl, Nat.le_of_ble_eq_true rfl⟩) (x_preV hC hS hw (va_recv hK hw (q := (R_Model, T_Model, 33)) (ci := 10) rfl (x_at (by decide) (xcl_51 G σ2)))) rfl rfl hl.1 rfl (lv_room (Nat.le_of_ble_eq_true rfl)) d_law_357 ⟨by show ct + 1 + 0 ≤ 601024; omega, by show sl + 6 + 0 ≤ 7293034; omega⟩) ?_
    refine lv_iload hx hb d_law_360 (lv_at hl 1 rfl) ?_
    refine lv_icmp_eq (tgt := 367) hx hb d_law_362 (by decide) (fun _ => ?_) (fun hc => absurd rfl hc)
    refine lv_iload hx hb d_law_367 (lv_at hl 1 rfl) ?_
    refine lv_if_ne (tgt := 384) hx hb d_law_369 (by decide) (fun _ => ?_) (fun hc => absurd hc (by decide))
    refine lv_goto (tgt := 524) hx hb d_law_384 (by decide) ?_
    exact kk ls _ _ _ _ _ (lv_sub hl [2, 3, 4, 5, 6] rfl) hI hw hS (by omega) (by omega)
set_option maxHeartbeats 4000000 in
set_option maxRecDepth 100000 in
theorem lc_at {p : Program} {e : Env} {s : State} {m : MethodId} {below : List Frame} {meth : Method} {c : Code} (l : Launch) {b L : Nat} {xs : Nat → Int32} {G : xG} (hx : p.tables.exec = Jvm.exec) (hb : c.code = code) (hml : c.maxLocals = 8) (hown : s.vm.findClass R_law = some m.cls) (hu : ∀ w ∈ UW, w.before #[Value.ref b] s = true) (hC : xC G s) (hT : xTh (xA G) s s.heap) (hNc : xNc s) (hfl : ∀ e : Env, l.admits e → e.platform.stackTraces = false) (hX : va_X b L xs s s.heap) (hbl : b < s.heap.size) (hbA : ¬ xA G b) (hL : L ≤ 2048) {t : Nat} (ht : t < 512) (h4 : 4 * t + 4 ≤ L) {I : St → Prop} (kk : ∀ (ls : Array Slot) (H : Heap) (locs : List Loc) (σ : St) (ct sl : Nat), lv_has ls 8 [(0, .ref b), (1, .ref (G.2.1 0)), (2, .ref (G.2.1 51)), (3, .ref (G.2.1 66)), (4, .int (Int32.ofNat (4 * t)))] → I σ → xw G σ H → va_S (xA G) s.heap H locs → ct ≤ 67 + (t + 1) → sl ≤ 12099 + 6 * (t + 1) → W p l e room_1 s m #[Value.ref b] below meth c H locs ct sl (lw_Z below #[Value.ref b] s) (F0 m 524 ls [])) {σ : St} (hB : xl_at I σ (xs (Int32.ofNat (4 * t) + (1 : Int32)).toNatClampNeg) (xs (Int32.ofNat (4 * t) + (2 : Int32)).toNatClampNeg)) {ls : Array Slot} {H : Heap} {locs : List Loc} {ct sl : Nat} (hl : lv_has ls 8 [(0, .ref b), (1, .ref (G.2.1 0)), (2, .ref (G.2.1 51)), (3, .ref (G.2.1 66)), (4, .int (Int32.ofNat (4 * t)))]) (hw : xw G σ H) (hS : va_S (xA G) s.heap H locs) (hct : ct ≤ 67 + t) (hsl : sl ≤ 12099 + 6 * t) : W p l e room_1 s m #[Value.ref b] below meth c H locs ct sl (lw_Z below #[Value.ref b] s) (F0 m 387 ls []) := by
  have hK := hC.1
  rcases hB with ⟨σ1, bb, σ2, hE1, hE2, hE3, hE4, hI⟩ | ⟨bb, σ2, hE1, hE2, hE3, hI⟩ | ⟨bb, σ2, hE1, hE2, hE3, hI⟩
  · refine lv_aload_n hx hb d_law_387 rfl (lv_at hl 1 rfl) ?_
    refine lv_aload_n hx hb d_law_388 rfl (lv_at hl 0 rfl) ?_
    refine lv_iload hx hb d_law_389 (lv_at hl 4 rfl) ?_
    refine lv_iconst (v := (1 : Int32)) hx hb d_law_391 (by decide) ?_
    refine lv_iadd hx hb d_law_392 ?_
    refine va_sld hx hb hX hbl hbA hS (x_i4 (j := 1) ht (by decide) hL h4) d_law_393 ?_
    refine lv_aload_n hx hb d_law_394 rfl (lv_at hl 0 rfl) ?_
    refine lv_iload hx hb d_law_395 (lv_at hl 4 rfl) ?_
    refine lv_iconst (v := (2 : Int32)) hx hb d_law_397 (by decide) ?_
    refine lv_iadd hx hb d_law_398 ?_
    refine va_sld hx hb hX hbl hbA hS (x_i4 (j := 2) ht (by decide) hL h4) d_law_399 ?_
    refine lv_aload_n hx hb d_law_400 rfl (lv_at hl 3 rfl) ?_
    refine x_callS hS (x_runSW (As := [.ref (G.2.1 0), .int (xs (((Int32.ofNat (4 * t)) + (1 : Int32))).toNatClampNeg), .int (xs (((Int32.ofNat (4 * t)) + (2 : Int32))).toNatClampNeg), .ref (G.2.1 66)]) (rest := []) ⟨hx, hb, hml, hown, hu⟩ (t_PlainOriginLaw_at l G σ (xs (((Int32.ofNat (4 * t)) + (1 : Int32))).toNatClampNeg) (xs (((Int32.ofNat (4 * t)) + (2 : Int32))).toNatClampNeg) 0 σ1 hE1) rfl (uw_3_13 (List.mem_of_getElem? (i := 9) rfl) rfl) mw_994 mw_995 mw_59 hd_PlainOriginLaw_at rfl rfl ⟨Nat.le_of_ble_eq_true rfl, Nat.le_of_ble_eq_true rfl⟩ (x_preS hC hS hw) rfl rfl hl.1 rfl (lv_room (Nat.le_of_ble_eq_true rfl)) d_law_401 ⟨by show ct + 0 ≤ 601024; omega, by show sl + 0 ≤ 7293034; omega⟩) (fun H locs hw hS => ?_)
    refine lv_istore hx hb d_law_404 hl (by decide) rfl (fun ls hl => ?_)
    have hl : lv_has ls 8 [(5, .int (0 : Int32)), (0, .ref b), (1, .ref (G.2.1 0)), (2, .ref (G.2.1 51)), (3, .ref (G.2.1 66)), (4, .int (Int32.ofNat (4 * t)))] := hl
    refine lv_aload_n hx hb d_law_406 rfl (lv_at hl 3 rfl) ?_
    refine lv_aload_n hx hb d_law_407 rfl (lv_at hl 1 rfl) ?_
    refine lv_iload hx hb d_law_408 (lv_at hl 5 rfl) ?_
    refine lv_iconst (v := (1 : Int32)) hx hb d_law_410 (by decide) ?_
    refine lv_iadd hx hb d_law_411 ?_
    refine va_sld hx hb hX hbl hbA hS (x_i4 (j := 1) ht (by decide) hL h4) d_law_412 ?_
    refine lv_aload_n hx hb d_law_413 rfl (lv_at hl 1 rfl) ?_
    refine lv_iload hx hb d_law_414 (lv_at hl 5 rfl) ?_
    refine lv_iconst (v := (2 : Int32)) hx hb d_law_416 (by decide) ?_
    refine lv_iadd hx hb d_law_417 ?_
    refine va_sld hx hb hX hbl hbA hS (x_i4 (j := 2) ht (by decide) hL h4) d_law_418 ?_
    refine x_callS hS (W.runV (As := [.int (xs (((Int32.ofNat (4 * t)) + (1 : Int32))).toNatClampNeg), .int (xs (((Int32.ofNat (4 * t)) + (2 : Int32))).toNatClampNeg)]) (rest := []) ⟨hx, hb, hml, hown, hu⟩ (t_Model_at l G σ1 (xs (((Int32.ofNat (4 * t)) + (1 : Int32))).toNatClampNeg) (xs (((Int32.ofNat (4 * t)) + (2 : Int32))).toNatClampNeg) bb σ2 hE2) (cwV 2 hu (uw_V mw_1379 mw_1380 mw_1381 mw_70 mw_1382) rfl rfl rfl hd_Model_at ⟨Nat.le_of_ble_eq_true rfl, Nat.le_of_ble_eq_true rfl⟩) (x_preV hC hS hw (va_recv hK hw (q := (R_Model, T_Model, 33)) (ci := 10) rfl (x_at (by decide) (xcl_51 G σ1)))) rfl rfl hl.1 rfl (lv_room (Nat.le_of_ble_eq_true rfl)) d_law_419 ⟨by show ct + 0 ≤ 601024; omega, by show sl + 0 ≤ 7293034; omega⟩) (fun H locs hw hS => ?_)
    refine lv_istore hx hb d_law_422 hl (by decide) rfl (fun ls hl => ?_)
    have hl : lv_has ls 8 [(6, .int bb), (5, .int (0 : Int32)), (0, .ref b), (1, .ref (G.2.1 0)), (2, .ref (G.2.1 51)), (3, .ref (G.2.1 66)), (4, .int (Int32.ofNat (4 * t)))] := hl
    refine lv_aload_n hx hb d_law_424 rfl (lv_at hl 4 rfl) ?_
    refine x_callR (W.runV (As := []) (rest := []) ⟨hx, hb, hml, hown, hu⟩ (t_Model_thrown l G σ2 (0 : Int32) hE3) (cwV 0 hu (uw_V mw_1170 mw_1171 mw_1172 mw_70 mw_1173) rfl rfl rfl hd_Model_thrown ⟨Nat.le_of_ble_eq_true rfl, Nat.le_of_ble_eq_true rfl⟩) (x_preV hC hS hw (va_recv hK hw (q := (R_Model, T_Model, 33)) (ci := 10) rfl (x_at (by decide) (xcl_51 G σ2)))) rfl rfl hl.1 rfl (lv_room (Nat.le_of_ble_eq_true rfl)) d_law_425 ⟨by show ct + 0 ≤ 601024; omega, by show sl + 0 ≤ 7293034; omega⟩) ?_
    refine lv_iload hx hb d_law_428 (lv_at hl 1 rfl) ?_
    refine lv_icmp_eq (tgt := 435) hx hb d_law_430 (by decide) (fun _ => ?_) (fun hc => absurd rfl hc)
    refine lv_iload hx hb d_law_435 (lv_at hl 1 rfl) ?_
    refine lv_if_ne (tgt := 452) hx hb d_law_437 (by decide) (fun hc => absurd rfl hc) (fun _ => ?_)
    refine lv_aload_n hx hb d_law_440 rfl (lv_at hl 5 rfl) ?_
    refine lv_iconst (v := (0 : Int32)) hx hb d_law_441 (by decide) ?_
    refine va_lald hx hb hC.1 hw 66 2 (x_at (by decide) (xcl_66 G σ2)) rfl (by unfold vp_in; decide) d_law_442 ?_
    refine lv_iload hx hb d_law_443 (lv_at hl 0 rfl) ?_
    refine lv_i2l hx hb d_law_445 rfl ?_
    refine W.lcmp hx hb d_law_446 ?_
    refine lv_if_eq (tgt := 452) hx hb d_law_447 (by decide) (fun _ => ?_) (fun hc => absurd (x_cmp0 hE4) hc)
    refine lv_goto (tgt := 524) hx hb d_law_452 (by decide) ?_
    exact kk ls _ _ _ _ _ (lv_sub hl [2, 3, 4, 5, 6] rfl) hI hw hS (by omega) (by omega)
  · refine lv_aload_n hx hb d_law_387 rfl (lv_at hl 1 rfl) ?_
    refine lv_aload_n hx hb d_law_388 rfl (lv_at hl 0 rfl) ?_
    refine lv_iload hx hb d_law_389 (lv_at hl 4 rfl) ?_
    refine lv_iconst (v := (1 : Int32)) hx hb d_law_391 (by decide) ?_
    refine lv_iadd hx hb d_law_392 ?_
    refine va_sld hx hb hX hbl hbA hS (x_i4 (j := 1) ht (by decide) hL h4) d_law_393 ?_
    refine lv_aload_n hx hb d_law_394 rfl (lv_at hl 0 rfl) ?_
    refine lv_iload hx hb d_law_395 (lv_at hl 4 rfl) ?_
    refine lv_iconst (v := (2 : Int32)) hx hb d_law_397 (by decide) ?_
    refine lv_iadd hx hb d_law_398 ?_
    refine va_sld hx hb hX hbl hbA hS (x_i4 (j := 2) ht (by decide) hL h4) d_law_399 ?_
    refine lv_aload_n hx hb d_law_400 rfl (lv_at hl 3 rfl) ?_
    refine x_callT hS (x_runSW (As := [.ref (G.2.1 0), .int (xs (((Int32.ofNat (4 * t)) + (1 : Int32))).toNatClampNeg), .int (xs (((Int32.ofNat (4 * t)) + (2 : Int32))).toNatClampNeg), .ref (G.2.1 66)]) (rest := []) ⟨hx, hb, hml, hown, hu⟩ (v_PlainOriginLaw_at l G σ (xs (((Int32.ofNat (4 * t)) + (1 : Int32))).toNatClampNeg) (xs (((Int32.ofNat (4 * t)) + (2 : Int32))).toNatClampNeg) hfl hE1) rfl (uw_3_13 (List.mem_of_getElem? (i := 9) rfl) rfl) mw_994 mw_995 mw_59 hd_PlainOriginLaw_at rfl rfl ⟨Nat.le_of_ble_eq_true rfl, Nat.le_of_ble_eq_true rfl⟩ (x_preS2 hC hT hS hw) rfl rfl hl.1 rfl (lv_room (Nat.le_of_ble_eq_true rfl)) d_law_401 ⟨by show ct + 1 ≤ 601024; omega, by show sl + 6 ≤ 7293034; omega⟩) (fun H hw hS => ?_)
    refine lv_istore hx hb d_law_404 hl (by decide) rfl (fun ls hl => ?_)
    have hl : lv_has ls 8 [(5, .int (1 : Int32)), (0, .ref b), (1, .ref (G.2.1 0)), (2, .ref (G.2.1 51)), (3, .ref (G.2.1 66)), (4, .int (Int32.ofNat (4 * t)))] := hl
    refine lv_aload_n hx hb d_law_406 rfl (lv_at hl 3 rfl) ?_
    refine lv_aload_n hx hb d_law_407 rfl (lv_at hl 1 rfl) ?_
    refine lv_iload hx hb d_law_408 (lv_at hl 5 rfl) ?_
    refine lv_iconst (v := (1 : Int32)) hx hb d_law_410 (by decide) ?_
    refine lv_iadd hx hb d_law_411 ?_
    refine va_sld hx hb hX hbl hbA hS (x_i4 (j := 1) ht (by decide) hL h4) d_law_412 ?_
    refine lv_aload_n hx hb d_law_413 rfl (lv_at hl 1 rfl) ?_
    refine lv_iload hx hb d_law_414 (lv_at hl 5 rfl) ?_
    refine lv_iconst (v := (2 : Int32)) hx hb d_law_416 (by decide) ?_
    refine lv_iadd hx hb d_law_417 ?_
    refine va_sld hx hb hX hbl hbA hS (x_i4 (j := 2) ht (by decide) hL h4) d_law_418 ?_
    refine x_callS hS (W.runV (As := [.int (xs (((Int32.ofNat (4 * t)) + (1 : Int32))).toNatClampNeg), .int (xs (((Int32.ofNat (4 * t)) + (2 : Int32))).toNatClampNeg)]) (rest := []) ⟨hx, hb, hml, hown, hu⟩ (t_Model_at l G σ (xs (((Int32.ofNat (4 * t)) + (1 : Int32))).toNatClampNeg) (xs (((Int32.ofNat (4 * t)) + (2 : Int32))).toNatClampNeg) bb σ2 hE2) (cwV 2 hu (uw_V mw_1379 mw_1380 mw_1381 mw_70 mw_1382) rfl rfl rfl hd_Model_at ⟨Nat.le_of_ble_eq_true rfl, Nat.le_of_ble_eq_true rfl⟩) (x_preV hC hS hw (va_recv hK hw (q := (R_Model, T_Model, 33)) (ci := 10) rfl (x_at (by decide) (xcl_51 G σ)))) rfl rfl hl.1 rfl (lv_room (Nat.le_of_ble_eq_true rfl)) d_law_419 ⟨by show ct + 1 + 0 ≤ 601024; omega, by show sl + 6 + 0 ≤ 7293034; omega⟩) (fun H locs hw hS => ?_)
    refine lv_istore hx hb d_law_422 hl (by decide) rfl (fun ls hl => ?_)
    have hl : lv_has ls 8 [(6, .int bb), (5, .int (1 : Int32)), (0, .ref b), (1, .ref (G.2.1 0)), (2, .ref (G.2.1 51)), (3, .ref (G.2.1 66)), (4, .int (Int32.ofNat (4 * t)))] := hl
    refine lv_aload_n hx hb d_law_424 rfl (lv_at hl 4 rfl) ?_
    refine x_callR (W.runV (As := []) (rest := []) ⟨hx, hb, hml, hown, hu⟩ (t_Model_thrown l G σ2 (1 : Int32) hE3) (cwV 0 hu (uw_V mw_1170 mw_1171 mw_1172 mw_70 mw_1173) rfl rfl rfl hd_Model_thrown ⟨Nat.le_of_ble_eq_true rfl, Nat.le_of_ble_eq_true rfl⟩) (x_preV hC hS hw (va_recv hK hw (q := (R_Model, T_Model, 33)) (ci := 10) rfl (x_at (by decide) (xcl_51 G σ2)))) rfl rfl hl.1 rfl (lv_room (Nat.le_of_ble_eq_true rfl)) d_law_425 ⟨by show ct + 1 + 0 ≤ 601024; omega, by show sl + 6 + 0 ≤ 7293034; omega⟩) ?_
    refine lv_iload hx hb d_law_428 (lv_at hl 1 rfl) ?_
    refine lv_icmp_eq (tgt := 435) hx hb d_law_430 (by decide) (fun _ => ?_) (fun hc => absurd rfl hc)
    refine lv_iload hx hb d_law_435 (lv_at hl 1 rfl) ?_
    refine lv_if_ne (tgt := 452) hx hb d_law_437 (by decide) (fun _ => ?_) (fun hc => absurd hc (by decide))
    refine lv_goto (tgt := 524) hx hb d_law_452 (by decide) ?_
    exact kk ls _ _ _ _ _ (lv_sub hl [2, 3, 4, 5, 6] rfl) hI hw hS (by omega) (by omega)
  · refine lv_aload_n hx hb d_law_387 rfl (lv_at hl 1 rfl) ?_
    refine lv_aload_n hx hb d_law_388 rfl (lv_at hl 0 rfl) ?_
    refine lv_iload hx hb d_law_389 (lv_at hl 4 rfl) ?_
    refine lv_iconst (v := (1 : Int32)) hx hb d_law_391 (by decide) ?_
    refine lv_iadd hx hb d_law_392 ?_
    refine va_sld hx hb hX hbl hbA hS (x_i4 (j := 1) ht (by decide) hL h4) d_law_393 ?_
    refine lv_aload_n hx hb d_law_394 rfl (lv_at hl 0 rfl) ?_
    refine lv_iload hx hb d_law_395 (lv_at hl 4 rfl) ?_
    refine lv_iconst (v := (2 : Int32)) hx hb d_law_397 (by decide) ?_
    refine lv_iadd hx hb d_law_398 ?_
    refine va_sld hx hb hX hbl hbA hS (x_i4 (j := 2) ht (by decide) hL h4) d_law_399 ?_
    refine lv_aload_n hx hb d_law_400 rfl (lv_at hl 3 rfl) ?_
    refine x_callT hS (x_runSW (As := [.ref (G.2.1 0), .int (xs (((Int32.ofNat (4 * t)) + (1 : Int32))).toNatClampNeg), .int (xs (((Int32.ofNat (4 * t)) + (2 : Int32))).toNatClampNeg), .ref (G.2.1 66)]) (rest := []) ⟨hx, hb, hml, hown, hu⟩ (v_PlainOriginLaw_atN l G σ (xs (((Int32.ofNat (4 * t)) + (1 : Int32))).toNatClampNeg) (xs (((Int32.ofNat (4 * t)) + (2 : Int32))).toNatClampNeg) hfl hE1) rfl (uw_3_13 (List.mem_of_getElem? (i := 9) rfl) rfl) mw_994 mw_995 mw_59 hd_PlainOriginLaw_at rfl rfl ⟨Nat.le_of_ble_eq_true rfl, Nat.le_of_ble_eq_true rfl⟩ (x_preS3 hC hT hNc hS hw) rfl rfl hl.1 rfl (lv_room (Nat.le_of_ble_eq_true rfl)) d_law_401 ⟨by show ct + 1 ≤ 601024; omega, by show sl + 6 ≤ 7293034; omega⟩) (fun H hw hS => ?_)
    refine lv_istore hx hb d_law_404 hl (by decide) rfl (fun ls hl => ?_)
    have hl : lv_has ls 8 [(5, .int (2 : Int32)), (0, .ref b), (1, .ref (G.2.1 0)), (2, .ref (G.2.1 51)), (3, .ref (G.2.1 66)), (4, .int (Int32.ofNat (4 * t)))] := hl
    refine lv_aload_n hx hb d_law_406 rfl (lv_at hl 3 rfl) ?_
    refine lv_aload_n hx hb d_law_407 rfl (lv_at hl 1 rfl) ?_
    refine lv_iload hx hb d_law_408 (lv_at hl 5 rfl) ?_
    refine lv_iconst (v := (1 : Int32)) hx hb d_law_410 (by decide) ?_
    refine lv_iadd hx hb d_law_411 ?_
    refine va_sld hx hb hX hbl hbA hS (x_i4 (j := 1) ht (by decide) hL h4) d_law_412 ?_
    refine lv_aload_n hx hb d_law_413 rfl (lv_at hl 1 rfl) ?_
    refine lv_iload hx hb d_law_414 (lv_at hl 5 rfl) ?_
    refine lv_iconst (v := (2 : Int32)) hx hb d_law_416 (by decide) ?_
    refine lv_iadd hx hb d_law_417 ?_
    refine va_sld hx hb hX hbl hbA hS (x_i4 (j := 2) ht (by decide) hL h4) d_law_418 ?_
    refine x_callS hS (W.runV (As := [.int (xs (((Int32.ofNat (4 * t)) + (1 : Int32))).toNatClampNeg), .int (xs (((Int32.ofNat (4 * t)) + (2 : Int32))).toNatClampNeg)]) (rest := []) ⟨hx, hb, hml, hown, hu⟩ (t_Model_at l G σ (xs (((Int32.ofNat (4 * t)) + (1 : Int32))).toNatClampNeg) (xs (((Int32.ofNat (4 * t)) + (2 : Int32))).toNatClampNeg) bb σ2 hE2) (cwV 2 hu (uw_V mw_1379 mw_1380 mw_1381 mw_70 mw_1382) rfl rfl rfl hd_Model_at ⟨Nat.le_of_ble_eq_true rfl, Nat.le_of_ble_eq_true rfl⟩) (x_preV hC hS hw (va_recv hK hw (q := (R_Model, T_Model, 33)) (ci := 10) rfl (x_at (by decide) (xcl_51 G σ)))) rfl rfl hl.1 rfl (lv_room (Nat.le_of_ble_eq_true rfl)) d_law_419 ⟨by show ct + 1 + 0 ≤ 601024; omega, by show sl + 6 + 0 ≤ 7293034; omega⟩) (fun H locs hw hS => ?_)
    refine lv_istore hx hb d_law_422 hl (by decide) rfl (fun ls hl => ?_)
    have hl : lv_has ls 8 [(6, .int bb), (5, .int (2 : Int32)), (0, .ref b), (1, .ref (G.2.1 0)), (2, .ref (G.2.1 51)), (3, .ref (G.2.1 66)), (4, .int (Int32.ofNat (4 * t)))] := hl
    refine lv_aload_n hx hb d_law_424 rfl (lv_at hl 4 rfl) ?_
    refine x_callR (W.runV (As := []) (rest := []) ⟨hx, hb, hml, hown, hu⟩ (t_Model_thrown l G σ2 (2 : Int32) hE3) (cwV 0 hu (uw_V mw_1170 mw_1171 mw_1172 mw_70 mw_1173) rfl rfl rfl hd_Model_thrown ⟨Nat.le_of_ble_eq_true rfl, Nat.le_of_ble_eq_true rfl⟩) (x_preV hC hS hw (va_recv hK hw (q := (R_Model, T_Model, 33)) (ci := 10) rfl (x_at (by decide) (xcl_51 G σ2)))) rfl rfl hl.1 rfl (lv_room (Nat.le_of_ble_eq_true rfl)) d_law_425 ⟨by show ct + 1 + 0 ≤ 601024; omega, by show sl + 6 + 0 ≤ 7293034; omega⟩) ?_
    refine lv_iload hx hb d_law_428 (lv_at hl 1 rfl) ?_
    refine lv_icmp_eq (tgt := 435) hx hb d_law_430 (by decide) (fun _ => ?_) (fun hc => absurd rfl hc)
    refine lv_iload hx hb d_law_435 (lv_at hl 1 rfl) ?_
    refine lv_if_ne (tgt := 452) hx hb d_law_437 (by decide) (fun _ => ?_) (fun hc => absurd hc (by decide))
    refine lv_goto (tgt := 524) hx hb d_law_452 (by decide) ?_
    exact kk ls _ _ _ _ _ (lv_sub hl [2, 3, 4, 5, 6] rfl) hI hw hS (by omega) (by omega)
set_option maxHeartbeats 4000000 in
set_option maxRecDepth 100000 in
theorem lc_mark {p : Program} {e : Env} {s : State} {m : MethodId} {below : List Frame} {meth : Method} {c : Code} (l : Launch) {b L : Nat} {xs : Nat → Int32} {G : xG} (hx : p.tables.exec = Jvm.exec) (hb : c.code = code) (hml : c.maxLocals = 8) (hown : s.vm.findClass R_law = some m.cls) (hu : ∀ w ∈ UW, w.before #[Value.ref b] s = true) (hC : xC G s) (hT : xTh (xA G) s s.heap) (hNc : xNc s) (hfl : ∀ e : Env, l.admits e → e.platform.stackTraces = false) (hX : va_X b L xs s s.heap) (hbl : b < s.heap.size) (hbA : ¬ xA G b) (hL : L ≤ 2048) {t : Nat} (ht : t < 512) (h4 : 4 * t + 4 ≤ L) {I : St → Prop} (kk : ∀ (ls : Array Slot) (H : Heap) (locs : List Loc) (σ : St) (ct sl : Nat), lv_has ls 8 [(0, .ref b), (1, .ref (G.2.1 0)), (2, .ref (G.2.1 51)), (3, .ref (G.2.1 66)), (4, .int (Int32.ofNat (4 * t)))] → I σ → xw G σ H → va_S (xA G) s.heap H locs → ct ≤ 67 + (t + 1) → sl ≤ 12099 + 6 * (t + 1) → W p l e room_1 s m #[Value.ref b] below meth c H locs ct sl (lw_Z below #[Value.ref b] s) (F0 m 524 ls [])) {σ : St} (hB : xl_mark I σ (xs (Int32.ofNat (4 * t) + (1 : Int32)).toNatClampNeg)) {ls : Array Slot} {H : Heap} {locs : List Loc} {ct sl : Nat} (hl : lv_has ls 8 [(0, .ref b), (1, .ref (G.2.1 0)), (2, .ref (G.2.1 51)), (3, .ref (G.2.1 66)), (4, .int (Int32.ofNat (4 * t)))]) (hw : xw G σ H) (hS : va_S (xA G) s.heap H locs) (hct : ct ≤ 67 + t) (hsl : sl ≤ 12099 + 6 * t) : W p l e room_1 s m #[Value.ref b] below meth c H locs ct sl (lw_Z below #[Value.ref b] s) (F0 m 455 ls []) := by
  have hK := hC.1
  rcases hB with ⟨σ1, bb, σ2, hE1, hE2, hE3, hE4, hI⟩ | ⟨bb, σ2, hE1, hE2, hE3, hI⟩
  · refine lv_aload_n hx hb d_law_455 rfl (lv_at hl 1 rfl) ?_
    refine lv_aload_n hx hb d_law_456 rfl (lv_at hl 0 rfl) ?_
    refine lv_iload hx hb d_law_457 (lv_at hl 4 rfl) ?_
    refine lv_iconst (v := (1 : Int32)) hx hb d_law_459 (by decide) ?_
    refine lv_iadd hx hb d_law_460 ?_
    refine va_sld hx hb hX hbl hbA hS (x_i4 (j := 1) ht (by decide) hL h4) d_law_461 ?_
    refine lv_aload_n hx hb d_law_462 rfl (lv_at hl 3 rfl) ?_
    refine x_callS hS (x_runSW (As := [.ref (G.2.1 0), .int (xs (((Int32.ofNat (4 * t)) + (1 : Int32))).toNatClampNeg), .ref (G.2.1 66)]) (rest := []) ⟨hx, hb, hml, hown, hu⟩ (t_PlainOriginLaw_mark l G σ (xs (((Int32.ofNat (4 * t)) + (1 : Int32))).toNatClampNeg) 0 σ1 hE1) rfl (uw_4_0 (List.mem_of_getElem? (i := 1) rfl) rfl) mw_1018 mw_1019 mw_59 hd_PlainOriginLaw_mark rfl rfl ⟨Nat.le_of_ble_eq_true rfl, Nat.le_of_ble_eq_true rfl⟩ (x_preS hC hS hw) rfl rfl hl.1 rfl (lv_room (Nat.le_of_ble_eq_true rfl)) d_law_463 ⟨by show ct + 0 ≤ 601024; omega, by show sl + 0 ≤ 7293034; omega⟩) (fun H locs hw hS => ?_)
    refine lv_istore hx hb d_law_466 hl (by decide) rfl (fun ls hl => ?_)
    have hl : lv_has ls 8 [(5, .int (0 : Int32)), (0, .ref b), (1, .ref (G.2.1 0)), (2, .ref (G.2.1 51)), (3, .ref (G.2.1 66)), (4, .int (Int32.ofNat (4 * t)))] := hl
    refine lv_aload_n hx hb d_law_468 rfl (lv_at hl 3 rfl) ?_
    refine lv_aload_n hx hb d_law_469 rfl (lv_at hl 1 rfl) ?_
    refine lv_iload hx hb d_law_470 (lv_at hl 5 rfl) ?_
    refine lv_iconst (v := (1 : Int32)) hx hb d_law_472 (by decide) ?_
    refine lv_iadd hx hb d_law_473 ?_
    refine va_sld hx hb hX hbl hbA hS (x_i4 (j := 1) ht (by decide) hL h4) d_law_474 ?_
    refine x_callS hS (W.runV (As := [.int (xs (((Int32.ofNat (4 * t)) + (1 : Int32))).toNatClampNeg)]) (rest := []) ⟨hx, hb, hml, hown, hu⟩ (t_Model_mark l G σ1 (xs (((Int32.ofNat (4 * t)) + (1 : Int32))).toNatClampNeg) bb σ2 hE2) (cwV 1 hu (uw_V mw_1383 mw_1384 mw_1385 mw_70 mw_1386) rfl rfl rfl hd_Model_mark ⟨Nat.le_of_ble_eq_true rfl, Nat.le_of_ble_eq_true rfl⟩) (x_preV hC hS hw (va_recv hK hw (q := (R_Model, T_Model, 33)) (ci := 10) rfl (x_at (by decide) (xcl_51 G σ1)))) rfl rfl hl.1 rfl (lv_room (Nat.le_of_ble_eq_true rfl)) d_law_475 ⟨by show ct + 0 ≤ 601024; omega, by show sl + 0 ≤ 7293034; omega⟩) (fun H locs hw hS => ?_)
    refine lv_istore hx hb d_law_478 hl (by decide) rfl (fun ls hl => ?_)
    have hl : lv_has ls 8 [(6, .int bb), (5, .int (0 : Int32)), (0, .ref b), (1, .ref (G.2.1 0)), (2, .ref (G.2.1 51)), (3, .ref (G.2.1 66)), (4, .int (Int32.ofNat (4 * t)))] := hl
    refine lv_aload_n hx hb d_law_480 rfl (lv_at hl 4 rfl) ?_
    refine x_callR (W.runV (As := []) (rest := []) ⟨hx, hb, hml, hown, hu⟩ (t_Model_thrown l G σ2 (0 : Int32) hE3) (cwV 0 hu (uw_V mw_1170 mw_1171 mw_1172 mw_70 mw_1173) rfl rfl rfl hd_Model_thrown ⟨Nat.le_of_ble_eq_true rfl, Nat.le_of_ble_eq_true rfl⟩) (x_preV hC hS hw (va_recv hK hw (q := (R_Model, T_Model, 33)) (ci := 10) rfl (x_at (by decide) (xcl_51 G σ2)))) rfl rfl hl.1 rfl (lv_room (Nat.le_of_ble_eq_true rfl)) d_law_481 ⟨by show ct + 0 ≤ 601024; omega, by show sl + 0 ≤ 7293034; omega⟩) ?_
    refine lv_iload hx hb d_law_484 (lv_at hl 1 rfl) ?_
    refine lv_icmp_eq (tgt := 491) hx hb d_law_486 (by decide) (fun _ => ?_) (fun hc => absurd rfl hc)
    refine lv_iload hx hb d_law_491 (lv_at hl 1 rfl) ?_
    refine lv_if_ne (tgt := 508) hx hb d_law_493 (by decide) (fun hc => absurd rfl hc) (fun _ => ?_)
    refine lv_aload_n hx hb d_law_496 rfl (lv_at hl 5 rfl) ?_
    refine lv_iconst (v := (0 : Int32)) hx hb d_law_497 (by decide) ?_
    refine va_lald hx hb hC.1 hw 66 2 (x_at (by decide) (xcl_66 G σ2)) rfl (by unfold vp_in; decide) d_law_498 ?_
    refine lv_iload hx hb d_law_499 (lv_at hl 0 rfl) ?_
    refine lv_i2l hx hb d_law_501 rfl ?_
    refine W.lcmp hx hb d_law_502 ?_
    refine lv_if_eq (tgt := 508) hx hb d_law_503 (by decide) (fun _ => ?_) (fun hc => absurd (x_cmp0 hE4) hc)
    refine lv_goto (tgt := 524) hx hb d_law_508 (by decide) ?_
    exact kk ls _ _ _ _ _ (lv_sub hl [2, 3, 4, 5, 6] rfl) hI hw hS (by omega) (by omega)
  · refine lv_aload_n hx hb d_law_455 rfl (lv_at hl 1 rfl) ?_
    refine lv_aload_n hx hb d_law_456 rfl (lv_at hl 0 rfl) ?_
    refine lv_iload hx hb d_law_457 (lv_at hl 4 rfl) ?_
    refine lv_iconst (v := (1 : Int32)) hx hb d_law_459 (by decide) ?_
    refine lv_iadd hx hb d_law_460 ?_
    refine va_sld hx hb hX hbl hbA hS (x_i4 (j := 1) ht (by decide) hL h4) d_law_461 ?_
    refine lv_aload_n hx hb d_law_462 rfl (lv_at hl 3 rfl) ?_
    refine x_callT hS (x_runSW (As := [.ref (G.2.1 0), .int (xs (((Int32.ofNat (4 * t)) + (1 : Int32))).toNatClampNeg), .ref (G.2.1 66)]) (rest := []) ⟨hx, hb, hml, hown, hu⟩ (v_PlainOriginLaw_mark l G σ (xs (((Int32.ofNat (4 * t)) + (1 : Int32))).toNatClampNeg) hfl hE1) rfl (uw_4_0 (List.mem_of_getElem? (i := 1) rfl) rfl) mw_1018 mw_1019 mw_59 hd_PlainOriginLaw_mark rfl rfl ⟨Nat.le_of_ble_eq_true rfl, Nat.le_of_ble_eq_true rfl⟩ (x_preS2 hC hT hS hw) rfl rfl hl.1 rfl (lv_room (Nat.le_of_ble_eq_true rfl)) d_law_463 ⟨by show ct + 1 ≤ 601024; omega, by show sl + 6 ≤ 7293034; omega⟩) (fun H hw hS => ?_)
    refine lv_istore hx hb d_law_466 hl (by decide) rfl (fun ls hl => ?_)
    have hl : lv_has ls 8 [(5, .int (1 : Int32)), (0, .ref b), (1, .ref (G.2.1 0)), (2, .ref (G.2.1 51)), (3, .ref (G.2.1 66)), (4, .int (Int32.ofNat (4 * t)))] := hl
    refine lv_aload_n hx hb d_law_468 rfl (lv_at hl 3 rfl) ?_
    refine lv_aload_n hx hb d_law_469 rfl (lv_at hl 1 rfl) ?_
    refine lv_iload hx hb d_law_470 (lv_at hl 5 rfl) ?_
    refine lv_iconst (v := (1 : Int32)) hx hb d_law_472 (by decide) ?_
    refine lv_iadd hx hb d_law_473 ?_
    refine va_sld hx hb hX hbl hbA hS (x_i4 (j := 1) ht (by decide) hL h4) d_law_474 ?_
    refine x_callS hS (W.runV (As := [.int (xs (((Int32.ofNat (4 * t)) + (1 : Int32))).toNatClampNeg)]) (rest := []) ⟨hx, hb, hml, hown, hu⟩ (t_Model_mark l G σ (xs (((Int32.ofNat (4 * t)) + (1 : Int32))).toNatClampNeg) bb σ2 hE2) (cwV 1 hu (uw_V mw_1383 mw_1384 mw_1385 mw_70 mw_1386) rfl rfl rfl hd_Model_mark ⟨Nat.le_of_ble_eq_true rfl, Nat.le_of_ble_eq_true rfl⟩) (x_preV hC hS hw (va_recv hK hw (q := (R_Model, T_Model, 33)) (ci := 10) rfl (x_at (by decide) (xcl_51 G σ)))) rfl rfl hl.1 rfl (lv_room (Nat.le_of_ble_eq_true rfl)) d_law_475 ⟨by show ct + 1 + 0 ≤ 601024; omega, by show sl + 6 + 0 ≤ 7293034; omega⟩) (fun H locs hw hS => ?_)
    refine lv_istore hx hb d_law_478 hl (by decide) rfl (fun ls hl => ?_)
    have hl : lv_has ls 8 [(6, .int bb), (5, .int (1 : Int32)), (0, .ref b), (1, .ref (G.2.1 0)), (2, .ref (G.2.1 51)), (3, .ref (G.2.1 66)), (4, .int (Int32.ofNat (4 * t)))] := hl
    refine lv_aload_n hx hb d_law_480 rfl (lv_at hl 4 rfl) ?_
    refine x_callR (W.runV (As := []) (rest := []) ⟨hx, hb, hml, hown, hu⟩ (t_Model_thrown l G σ2 (1 : Int32) hE3) (cwV 0 hu (uw_V mw_1170 mw_1171 mw_1172 mw_70 mw_1173) rfl rfl rfl hd_Model_thrown ⟨Nat.le_of_ble_eq_true rfl, Nat.le_of_ble_eq_true rfl⟩) (x_preV hC hS hw (va_recv hK hw (q := (R_Model, T_Model, 33)) (ci := 10) rfl (x_at (by decide) (xcl_51 G σ2)))) rfl rfl hl.1 rfl (lv_room (Nat.le_of_ble_eq_true rfl)) d_law_481 ⟨by show ct + 1 + 0 ≤ 601024; omega, by show sl + 6 + 0 ≤ 7293034; omega⟩) ?_
    refine lv_iload hx hb d_law_484 (lv_at hl 1 rfl) ?_
    refine lv_icmp_eq (tgt := 491) hx hb d_law_486 (by decide) (fun _ => ?_) (fun hc => absurd rfl hc)
    refine lv_iload hx hb d_law_491 (lv_at hl 1 rfl) ?_
    refine lv_if_ne (tgt := 508) hx hb d_law_493 (by decide) (fun _ => ?_) (fun hc => absurd hc (by decide))
    refine lv_goto (tgt := 524) hx hb d_law_508 (by decide) ?_
    exact kk ls _ _ _ _ _ (lv_sub hl [2, 3, 4, 5, 6] rfl) hI hw hS (by omega) (by omega)
set_option maxHeartbeats 4000000 in
set_option maxRecDepth 100000 in
theorem lc_changes {p : Program} {e : Env} {s : State} {m : MethodId} {below : List Frame} {meth : Method} {c : Code} (l : Launch) {b L : Nat} {xs : Nat → Int32} {G : xG} (hx : p.tables.exec = Jvm.exec) (hb : c.code = code) (hml : c.maxLocals = 8) (hown : s.vm.findClass R_law = some m.cls) (hu : ∀ w ∈ UW, w.before #[Value.ref b] s = true) (hC : xC G s) (hT : xTh (xA G) s s.heap) (hNc : xNc s) (hfl : ∀ e : Env, l.admits e → e.platform.stackTraces = false) (hX : va_X b L xs s s.heap) (hbl : b < s.heap.size) (hbA : ¬ xA G b) (hL : L ≤ 2048) {t : Nat} (ht : t < 512) (h4 : 4 * t + 4 ≤ L) {I : St → Prop} (kk : ∀ (ls : Array Slot) (H : Heap) (locs : List Loc) (σ : St) (ct sl : Nat), lv_has ls 8 [(0, .ref b), (1, .ref (G.2.1 0)), (2, .ref (G.2.1 51)), (3, .ref (G.2.1 66)), (4, .int (Int32.ofNat (4 * t)))] → I σ → xw G σ H → va_S (xA G) s.heap H locs → ct ≤ 67 + (t + 1) → sl ≤ 12099 + 6 * (t + 1) → W p l e room_1 s m #[Value.ref b] below meth c H locs ct sl (lw_Z below #[Value.ref b] s) (F0 m 524 ls [])) {σ : St} (hB : xl_changes I σ) {ls : Array Slot} {H : Heap} {locs : List Loc} {ct sl : Nat} (hl : lv_has ls 8 [(0, .ref b), (1, .ref (G.2.1 0)), (2, .ref (G.2.1 51)), (3, .ref (G.2.1 66)), (4, .int (Int32.ofNat (4 * t)))]) (hw : xw G σ H) (hS : va_S (xA G) s.heap H locs) (hct : ct ≤ 67 + t) (hsl : sl ≤ 12099 + 6 * t) : W p l e room_1 s m #[Value.ref b] below meth c H locs ct sl (lw_Z below #[Value.ref b] s) (F0 m 511 ls []) := by
  have hK := hC.1
  obtain ⟨r, σ2, hE1, hE2, hI⟩ := hB
  refine lv_aload_n hx hb d_law_511 rfl (lv_at hl 1 rfl) ?_
  refine x_callR (W.runV (As := []) (rest := []) ⟨hx, hb, hml, hown, hu⟩ (t_PlainOrigin_changes l G σ r hE1) (cwV 0 hu (uw_V mw_420 mw_421 mw_422 mw_60 mw_423) rfl rfl rfl hd_PlainOrigin_changes ⟨Nat.le_of_ble_eq_true rfl, Nat.le_of_ble_eq_true rfl⟩) (x_preV hC hS hw (va_recv hK hw (q := (R_PlainOrigin, T_PlainOrigin, 5)) (ci := 9) rfl (x_at (by decide) (xcl_0 G σ)))) rfl rfl hl.1 rfl (lv_room (Nat.le_of_ble_eq_true rfl)) d_law_512 ⟨by show ct + 0 ≤ 601024; omega, by show sl + 0 ≤ 7293034; omega⟩) ?_
  refine lv_aload_n hx hb d_law_515 rfl (lv_at hl 2 rfl) ?_
  refine x_callS hS (W.runV (As := []) (rest := [.int r]) ⟨hx, hb, hml, hown, hu⟩ (t_Model_changes l G σ r σ2 hE2) (cwV 0 hu (uw_V mw_1387 mw_1388 mw_1389 mw_70 mw_1390) rfl rfl rfl hd_Model_changes ⟨Nat.le_of_ble_eq_true rfl, Nat.le_of_ble_eq_true rfl⟩) (x_preV hC hS hw (va_recv hK hw (q := (R_Model, T_Model, 33)) (ci := 10) rfl (x_at (by decide) (xcl_51 G σ)))) rfl rfl hl.1 rfl (lv_room (Nat.le_of_ble_eq_true rfl)) d_law_516 ⟨by show ct + 0 ≤ 601024; omega, by show sl + 0 ≤ 7293034; omega⟩) (fun H locs hw hS => ?_)
  refine lv_icmp_eq (tgt := 524) hx hb d_law_519 (by decide) (fun _ => ?_) (fun hc => absurd rfl hc)
  exact kk ls _ _ _ _ _ (lv_sub hl [0, 1, 2, 3, 4] rfl) hI hw hS (by omega) (by omega)
set_option maxHeartbeats 4000000 in
set_option maxRecDepth 100000 in
theorem lc_loop {p : Program} {e : Env} {s : State} {m : MethodId} {below : List Frame} {meth : Method} {c : Code} (l : Launch) {b L : Nat} {xs : Nat → Int32} {G : xG} (hx : p.tables.exec = Jvm.exec) (hb : c.code = code) (hml : c.maxLocals = 8) (hown : s.vm.findClass R_law = some m.cls) (hu : ∀ w ∈ UW, w.before #[Value.ref b] s = true) (hC : xC G s) (hT : xTh (xA G) s s.heap) (hNc : xNc s) (hfl : ∀ e : Env, l.admits e → e.platform.stackTraces = false) (hX : va_X b L xs s s.heap) (hbl : b < s.heap.size) (hbA : ¬ xA G b) (hL : L ≤ 2048) (hr : meth.sig.returnType = ret) (hlocks : meth.locks = false) (hGs : ∀ q, xA G q → s.heap.size ≤ q) {Inv : Nat → St → Prop} (hB : xLaw Inv) : ∀ (d t : Nat), d + t = 512 → ∀ (ls : Array Slot) (H : Heap) (locs : List Loc) (σ : St) (ct sl : Nat), lv_has ls 8 [(0, .ref b), (1, .ref (G.2.1 0)), (2, .ref (G.2.1 51)), (3, .ref (G.2.1 66)), (4, .int (Int32.ofNat (4 * t)))] → Inv t σ → xw G σ H → va_S (xA G) s.heap H locs → ct ≤ 67 + t → sl ≤ 12099 + 6 * t → W p l e room_1 s m #[Value.ref b] below meth c H locs ct sl (lw_Z below #[Value.ref b] s) (F0 m 23 ls []) := by
  intro d
  induction d with
  | zero =>
    intro t htd ls H locs σ ct sl hl hI hw hS hct hsl
    refine lv_iload hx hb d_law_23 (lv_at hl 4 rfl) ?_
    refine lv_aload_n hx hb d_law_25 rfl (lv_at hl 0 rfl) ?_
    refine va_slen hx hb hX hbl hbA hS d_law_26 ?_
    refine lv_iconst (v := (4 : Int32)) hx hb d_law_27 (by decide) ?_
    refine lv_isub hx hb d_law_28 ?_
    refine lv_icmp_gt (tgt := 530) hx hb d_law_29 (by decide) (fun hc => ?_) (fun hc => ?_)
    · exact lc_end l hx hb hr hlocks hGs hS (by omega) (by omega)
    · have := x_end (t := t) (by omega) hL hc
      omega
  | succ d ih =>
    intro t htd ls H locs σ ct sl hl hI hw hS hct hsl
    refine lv_iload hx hb d_law_23 (lv_at hl 4 rfl) ?_
    refine lv_aload_n hx hb d_law_25 rfl (lv_at hl 0 rfl) ?_
    refine va_slen hx hb hX hbl hbA hS d_law_26 ?_
    refine lv_iconst (v := (4 : Int32)) hx hb d_law_27 (by decide) ?_
    refine lv_isub hx hb d_law_28 ?_
    refine lv_icmp_gt (tgt := 530) hx hb d_law_29 (by decide) (fun hc => ?_) (fun hc => ?_)
    · exact lc_end l hx hb hr hlocks hGs hS (by omega) (by omega)
    have h4 : 4 * t + 4 ≤ L := x_end (t := t) (by omega) hL hc
    have ht : t < 512 := by omega
    have kk : ∀ (ls : Array Slot) (H : Heap) (locs : List Loc) (σ : St) (ct sl : Nat), lv_has ls 8 [(0, .ref b), (1, .ref (G.2.1 0)), (2, .ref (G.2.1 51)), (3, .ref (G.2.1 66)), (4, .int (Int32.ofNat (4 * t)))] → Inv (t + 1) σ → xw G σ H → va_S (xA G) s.heap H locs → ct ≤ 67 + (t + 1) → sl ≤ 12099 + 6 * (t + 1) → W p l e room_1 s m #[Value.ref b] below meth c H locs ct sl (lw_Z below #[Value.ref b] s) (F0 m 524 ls []) := by
      intro ls H locs σ ct sl hl hI hw hS hct hsl
      refine lv_iinc hx hb d_law_524 hl (k := 4) rfl (x_nxt t) (by decide) rfl (fun ls hl => ?_)
      refine lv_goto (tgt := 23) hx hb d_law_527 (by decide) ?_
      exact ih (t + 1) (by omega) ls H locs σ ct sl (lv_sub hl [1, 2, 3, 4, 0] rfl) hI hw hS hct hsl
    obtain ⟨b0, b1, b2, b3, b4, b5, b6, b7, b8, b9, b10, b11, b12⟩ := hB.2 t σ ht hI
    refine lv_aload_n hx hb d_law_32 rfl (lv_at hl 0 rfl) ?_
    refine lv_iload hx hb d_law_33 (lv_at hl 4 rfl) ?_
    refine va_sld hx hb hX hbl hbA hS (x_i0 ht hL h4) d_law_35 ?_
    refine lv_bipush (v := (15 : Int32)) hx hb d_law_36 (by decide) ?_
    refine lv_iand hx hb d_law_38 ?_
    generalize (xs (Int32.ofNat (4 * t)).toNatClampNeg &&& 15) = w
    refine x_split (c := w = 0) (fun hc0 => ?_) (fun hc0 => ?_)
    · refine lv_tableIn (tgt := 100) (off := 61) hx hb d_law_39 (by rw [hc0]; decide) (by rw [hc0]; decide) (by rw [hc0]; decide) (by decide) ?_
      exact lc_feed l hx hb hml hown hu hC hT hNc hfl hX hbl hbA hL ht h4 kk (b0 _ _) hl hw hS hct hsl
    refine x_split (c := w = 1) (fun hc1 => ?_) (fun hc1 => ?_)
    · refine lv_tableIn (tgt := 200) (off := 161) hx hb d_law_39 (by rw [hc1]; decide) (by rw [hc1]; decide) (by rw [hc1]; decide) (by decide) ?_
      exact lc_isOpen l hx hb hml hown hu hC hT hNc hfl hX hbl hbA hL ht h4 kk (b1) hl hw hS hct hsl
    refine x_split (c := w = 2) (fun hc2 => ?_) (fun hc2 => ?_)
    · refine lv_tableIn (tgt := 213) (off := 174) hx hb d_law_39 (by rw [hc2]; decide) (by rw [hc2]; decide) (by rw [hc2]; decide) (by decide) ?_
      exact lc_connect l hx hb hml hown hu hC hT hNc hfl hX hbl hbA hL ht h4 kk (b2) hl hw hS hct hsl
    refine x_split (c := w = 3) (fun hc3 => ?_) (fun hc3 => ?_)
    · refine lv_tableIn (tgt := 224) (off := 185) hx hb d_law_39 (by rw [hc3]; decide) (by rw [hc3]; decide) (by rw [hc3]; decide) (by decide) ?_
      exact lc_sent l hx hb hml hown hu hC hT hNc hfl hX hbl hbA hL ht h4 kk (b3) hl hw hS hct hsl
    refine x_split (c := w = 4) (fun hc4 => ?_) (fun hc4 => ?_)
    · refine lv_tableIn (tgt := 237) (off := 198) hx hb d_law_39 (by rw [hc4]; decide) (by rw [hc4]; decide) (by rw [hc4]; decide) (by decide) ?_
      exact lc_out l hx hb hml hown hu hC hT hNc hfl hX hbl hbA hL ht h4 kk (b4 _) hl hw hS hct hsl
    refine x_split (c := w = 5) (fun hc5 => ?_) (fun hc5 => ?_)
    · refine lv_tableIn (tgt := 292) (off := 253) hx hb d_law_39 (by rw [hc5]; decide) (by rw [hc5]; decide) (by rw [hc5]; decide) (by decide) ?_
      exact lc_drain l hx hb hml hown hu hC hT hNc hfl hX hbl hbA hL ht h4 kk (b5) hl hw hS hct hsl
    refine x_split (c := w = 6) (fun hc6 => ?_) (fun hc6 => ?_)
    · refine lv_tableIn (tgt := 305) (off := 266) hx hb d_law_39 (by rw [hc6]; decide) (by rw [hc6]; decide) (by rw [hc6]; decide) (by decide) ?_
      exact lc_status l hx hb hml hown hu hC hT hNc hfl hX hbl hbA hL ht h4 kk (b6) hl hw hS hct hsl
    refine x_split (c := w = 7) (fun hc7 => ?_) (fun hc7 => ?_)
    · refine lv_tableIn (tgt := 318) (off := 279) hx hb d_law_39 (by rw [hc7]; decide) (by rw [hc7]; decide) (by rw [hc7]; decide) (by decide) ?_
      exact lc_reading l hx hb hml hown hu hC hT hNc hfl hX hbl hbA hL ht h4 kk (b7) hl hw hS hct hsl
    refine x_split (c := w = 8) (fun hc8 => ?_) (fun hc8 => ?_)
    · refine lv_tableIn (tgt := 331) (off := 292) hx hb d_law_39 (by rw [hc8]; decide) (by rw [hc8]; decide) (by rw [hc8]; decide) (by decide) ?_
      exact lc_size l hx hb hml hown hu hC hT hNc hfl hX hbl hbA hL ht h4 kk (b8 _) hl hw hS hct hsl
    refine x_split (c := w = 9) (fun hc9 => ?_) (fun hc9 => ?_)
    · refine lv_tableIn (tgt := 387) (off := 348) hx hb d_law_39 (by rw [hc9]; decide) (by rw [hc9]; decide) (by rw [hc9]; decide) (by decide) ?_
      exact lc_at l hx hb hml hown hu hC hT hNc hfl hX hbl hbA hL ht h4 kk (b9 _ _) hl hw hS hct hsl
    refine x_split (c := w = 10) (fun hc10 => ?_) (fun hc10 => ?_)
    · refine lv_tableIn (tgt := 455) (off := 416) hx hb d_law_39 (by rw [hc10]; decide) (by rw [hc10]; decide) (by rw [hc10]; decide) (by decide) ?_
      exact lc_mark l hx hb hml hown hu hC hT hNc hfl hX hbl hbA hL ht h4 kk (b10 _) hl hw hS hct hsl
    refine x_split (c := w = 11) (fun hc11 => ?_) (fun hc11 => ?_)
    · refine lv_tableIn (tgt := 511) (off := 472) hx hb d_law_39 (by rw [hc11]; decide) (by rw [hc11]; decide) (by rw [hc11]; decide) (by decide) ?_
      exact lc_changes l hx hb hml hown hu hC hT hNc hfl hX hbl hbA hL ht h4 kk (b11) hl hw hS hct hsl
    refine lv_tableOut (tgt := 524) hx hb d_law_39 (by have q0 := lv_neT hc0 (a := 0) (by decide); have q1 := lv_neT hc1 (a := 1) (by decide); have q2 := lv_neT hc2 (a := 2) (by decide); have q3 := lv_neT hc3 (a := 3) (by decide); have q4 := lv_neT hc4 (a := 4) (by decide); have q5 := lv_neT hc5 (a := 5) (by decide); have q6 := lv_neT hc6 (a := 6) (by decide); have q7 := lv_neT hc7 (a := 7) (by decide); have q8 := lv_neT hc8 (a := 8) (by decide); have q9 := lv_neT hc9 (a := 9) (by decide); have q10 := lv_neT hc10 (a := 10) (by decide); have q11 := lv_neT hc11 (a := 11) (by decide); omega) (by decide) ?_
    exact kk ls H locs σ ct sl hl b12 hw hS (by omega) (by omega)
set_option maxHeartbeats 4000000 in
set_option maxRecDepth 100000 in
theorem whole_from {Inv : Nat → St → Prop} (hB : xLaw Inv) {p : Program} {e : Env} {s : State} {m : MethodId} {below : List Frame} {meth : Method} {c : Code} (l : Launch) (hfl : ∀ e : Env, l.admits e → e.platform.stackTraces = false) {b L : Nat} {xs : Nat → Int32} (hL : L ≤ 2048) (C0 : lw_At p s m meth c b L xs) : W p l e room_1 s m #[Value.ref b] below meth c s.heap [] 0 0 (lw_Z below #[Value.ref b] s) (entryFrame m ([Value.ref b] : List Value).toArray 8) := by
  obtain ⟨hx, hb, hr, hml, hown, hts, hX, hbl, hlocks, hgv⟩ := C0
  obtain ⟨G, hG0, hC, hCk, hT, hNc⟩ := xs_all hts (flat_of_before _ hgv)
  have hu := xs_uw hts
  have hS : va_S (xA G) s.heap s.heap [] := va_S.rf
  have hGs : ∀ q, xA G q → s.heap.size ≤ q := by
    intro q h
    obtain ⟨k, -, rfl⟩ := h
    rw [hG0]
    exact Nat.le_add_right _ _
  have hbA : ¬ xA G b := fun h => absurd hbl (Nat.not_lt.mpr (hGs b h))
  have hl := lv_entry ([.ref b]) (n := 8) (Nat.le_of_ble_eq_true rfl)
  rw [lg_entry_eq]
  generalize (lg_sl ([.ref b]) ++ List.replicate (8 - (lg_sl ([.ref b])).length) Slot.unset).toArray = ls at hl ⊢
  have hl : lv_has ls 8 [(0, .ref b)] := hl
  have hw : xk G (xcl G x_s0) 0 s.heap := fun k hk => absurd hk (Nat.not_lt_zero k)
  have hsz : s.heap.size = G.2.1 0 := (hG0 0).symm
  refine x_new hx hb (C := R_PlainOrigin) (T := T_PlainOrigin) (N := 5) (ci := 9) hu fi_PlainOrigin ty_PlainOrigin tyok_PlainOrigin hown mw_86 mw_87 mw_60 hCk hsz hw hS rfl (fs := [.null, .null, .null, .null, .int 0]) (by decide) (Nat.le_of_ble_eq_true rfl) (Nat.le_of_ble_eq_true rfl) d_law_0 (fun H hw hS => ?_)
  refine lv_dup hx hb d_law_3 rfl ?_
  refine x_sz (fun hz => ?_)
  have hsz : _ = G.2.1 1 := xk.sz (n := 0) hCk hw hz (by rw [hG0 1])
  refine x_callC hS (W.runI (As := []) (rest := [.ref (G.2.1 0)]) ⟨hx, hb, hml, hown, hu⟩ (n_PlainOrigin_init l G (xcl G x_s0) (fun j _ _ => rfl)) (cwI (y := y_PlainOrigin_init) 0 hu (uw_I mw_90) rfl rfl rfl (hu _ mw_60) (hu _ mw_88) (hu _ mw_89) rfl hd_PlainOrigin_init ⟨Nat.le_of_ble_eq_true rfl, Nat.le_of_ble_eq_true rfl⟩) (x_preC hCk hw hsz) rfl rfl hl.1 rfl (lv_room (Nat.le_of_ble_eq_true rfl)) d_law_4 ⟨Nat.le_of_ble_eq_true rfl, Nat.le_of_ble_eq_true rfl⟩) (fun H locs hw hS => ?_)
  refine lv_astore_n hx hb d_law_7 rfl hl (by decide) rfl (fun ls hl => ?_)
  have hl : lv_has ls 8 [(1, .ref (G.2.1 0)), (0, .ref b)] := hl
  refine x_sz (fun hz => ?_)
  have hsz : _ = G.2.1 51 := xk.sz (n := 50) hCk hw hz (by rw [hG0 51])
  refine x_new hx hb (C := R_Model) (T := T_Model) (N := 33) (ci := 10) hu fi_Model ty_Model tyok_Model hown mw_1025 mw_1026 mw_70 hCk hsz hw hS rfl (fs := [.null, .int 0, .null, .null, .null, .null, .int 0, .int 0, .int 0, .int 0, .int 0, .null, .int 0, .int 0, .null, .int 0, .int 0, .int 0, .null, .null, .null, .int 0, .int 0, .null, .int 0, .int 0, .int 0, .null, .null, .int 0, .int 0, .int 0, .null]) (by decide) (Nat.le_of_ble_eq_true rfl) (Nat.le_of_ble_eq_true rfl) d_law_8 (fun H hw hS => ?_)
  refine lv_dup hx hb d_law_11 rfl ?_
  refine x_sz (fun hz => ?_)
  have hsz : _ = G.2.1 52 := xk.sz (n := 51) hCk hw hz (by rw [hG0 52])
  refine x_callC hS (W.runI (As := []) (rest := [.ref (G.2.1 51)]) ⟨hx, hb, hml, hown, hu⟩ (n_Model_init l G (xcl G x_s0) (fun j _ _ => rfl)) (cwI (y := y_Model_init) 0 hu (uw_I mw_1029) rfl rfl rfl (hu _ mw_70) (hu _ mw_1027) (hu _ mw_1028) rfl hd_Model_init ⟨Nat.le_of_ble_eq_true rfl, Nat.le_of_ble_eq_true rfl⟩) (x_preC hCk hw hsz) rfl rfl hl.1 rfl (lv_room (Nat.le_of_ble_eq_true rfl)) d_law_12 ⟨Nat.le_of_ble_eq_true rfl, Nat.le_of_ble_eq_true rfl⟩) (fun H locs hw hS => ?_)
  refine lv_astore_n hx hb d_law_15 rfl hl (by decide) rfl (fun ls hl => ?_)
  have hl : lv_has ls 8 [(2, .ref (G.2.1 51)), (1, .ref (G.2.1 0)), (0, .ref b)] := hl
  refine lv_iconst (v := (1 : Int32)) hx hb d_law_16 (by decide) ?_
  refine x_sz (fun hz => ?_)
  have hsz : _ = G.2.1 66 := xk.sz (n := 65) hCk hw hz (by rw [hG0 66])
  refine x_newa (G := G) (atype := .long) hx hb mw_1168 hu 2 rfl hCk hsz hw hS (a0 := (1, .inr (.inl (fun _ => 0)))) (fun _ => rfl) (by decide) (by decide) (by decide) (Nat.le_of_ble_eq_true rfl) (Nat.le_of_ble_eq_true rfl) d_law_17 (fun H hw hS => ?_)
  rw [xu_self (show xcl G x_s0 66 = .inl (G.2.2.1 2, 1, .inr (.inl (fun _ => 0))) from rfl)] at hw
  have hw : xw G x_s0 H := xk.P hw
  refine lv_astore_n hx hb d_law_19 rfl hl (by decide) rfl (fun ls hl => ?_)
  have hl : lv_has ls 8 [(3, .ref (G.2.1 66)), (2, .ref (G.2.1 51)), (1, .ref (G.2.1 0)), (0, .ref b)] := hl
  refine lv_iconst (v := (0 : Int32)) hx hb d_law_20 (by decide) ?_
  refine lv_istore hx hb d_law_21 hl (by decide) rfl (fun ls hl => ?_)
  exact lc_loop l hx hb hml hown hu hC hT hNc hfl hX hbl hbA hL hr hlocks hGs hB 512 0 rfl ls H _ x_s0 _ _ (lv_sub hl [4, 3, 2, 1, 0] rfl) hB.1 hw hS (Nat.le_of_ble_eq_true rfl) (Nat.le_of_ble_eq_true rfl)
