def y_Answer_begin : MethodName := ⟨"PlainOrigin$Answer", "begin", "(I)V"⟩
def ws_Answer_begin : List Cond := Cond.code y_Answer_begin prog_2_method_2_code 2 none :: UW
theorem hd_Answer_begin : y_Answer_begin.cls = R_Answer ∧ y_Answer_begin.cls ≠ "java/lang/invoke/MethodHandle" ∧ y_Answer_begin.cls ≠ "java/lang/invoke/VarHandle" ∧ (parseMethodDescriptor y_Answer_begin.desc).map (fun d => d.parameters.length) = some 1 := by decide +kernel
theorem d_Answer_begin_0 : decode prog_2_method_2_code 0 = .ok (.aload_n 0, 1) := by decide +kernel
theorem d_Answer_begin_1 : decode prog_2_method_2_code 1 = .ok (.iload_n 1, 1) := by decide +kernel
theorem d_Answer_begin_2 : decode prog_2_method_2_code 2 = .ok (.putfield 30, 3) := by decide +kernel
theorem d_Answer_begin_5 : decode prog_2_method_2_code 5 = .ok (.aload_n 0, 1) := by decide +kernel
theorem d_Answer_begin_6 : decode prog_2_method_2_code 6 = .ok (.iconst (-1), 1) := by decide +kernel
theorem d_Answer_begin_7 : decode prog_2_method_2_code 7 = .ok (.putfield 34, 3) := by decide +kernel
theorem d_Answer_begin_10 : decode prog_2_method_2_code 10 = .ok (.aload_n 0, 1) := by decide +kernel
theorem d_Answer_begin_11 : decode prog_2_method_2_code 11 = .ok (.iconst 0, 1) := by decide +kernel
theorem d_Answer_begin_12 : decode prog_2_method_2_code 12 = .ok (.putfield 37, 3) := by decide +kernel
theorem d_Answer_begin_15 : decode prog_2_method_2_code 15 = .ok (.aload_n 0, 1) := by decide +kernel
theorem d_Answer_begin_16 : decode prog_2_method_2_code 16 = .ok (.iconst 0, 1) := by decide +kernel
theorem d_Answer_begin_17 : decode prog_2_method_2_code 17 = .ok (.putfield 41, 3) := by decide +kernel
theorem d_Answer_begin_20 : decode prog_2_method_2_code 20 = .ok (.aload_n 0, 1) := by decide +kernel
theorem d_Answer_begin_21 : decode prog_2_method_2_code 21 = .ok (.aload_n 0, 1) := by decide +kernel
theorem d_Answer_begin_22 : decode prog_2_method_2_code 22 = .ok (.getfield 23, 3) := by decide +kernel
theorem d_Answer_begin_25 : decode prog_2_method_2_code 25 = .ok (.putfield 27, 3) := by decide +kernel
theorem d_Answer_begin_28 : decode prog_2_method_2_code 28 = .ok (.aload_n 0, 1) := by decide +kernel
theorem d_Answer_begin_29 : decode prog_2_method_2_code 29 = .ok (.iconst 0, 1) := by decide +kernel
theorem d_Answer_begin_30 : decode prog_2_method_2_code 30 = .ok (.putfield 44, 3) := by decide +kernel
theorem d_Answer_begin_33 : decode prog_2_method_2_code 33 = .ok (.aload_n 0, 1) := by decide +kernel
theorem d_Answer_begin_34 : decode prog_2_method_2_code 34 = .ok (.iconst 0, 1) := by decide +kernel
theorem d_Answer_begin_35 : decode prog_2_method_2_code 35 = .ok (.putfield 47, 3) := by decide +kernel
theorem d_Answer_begin_38 : decode prog_2_method_2_code 38 = .ok (.aload_n 0, 1) := by decide +kernel
theorem d_Answer_begin_39 : decode prog_2_method_2_code 39 = .ok (.iconst 0, 1) := by decide +kernel
theorem d_Answer_begin_40 : decode prog_2_method_2_code 40 = .ok (.putfield 50, 3) := by decide +kernel
theorem d_Answer_begin_43 : decode prog_2_method_2_code 43 = .ok (.return_, 1) := by decide +kernel
def x_Answer_begin (a1 : Int32) (σ : St) : Option St := (x_let (x_updR σ 44 2 a1) (fun (s2 : St) => (x_let (x_updR s2 44 3 ((-1) : Int32)) (fun (s7 : St) => (x_let (x_updR s7 44 4 (0 : Int32)) (fun (s12 : St) => (x_let (x_updR s12 44 7 (0 : Int32)) (fun (s17 : St) => (x_let (x_updB s17 46) (fun (s25 : St) => (x_let (x_updR s25 44 9 (0 : Int32)) (fun (s30 : St) => (x_let (x_updR s30 44 10 (0 : Int32)) (fun (s35 : St) => (x_let (x_updR s35 44 11 (0 : Int32)) (fun (s40 : St) => some s40))))))))))))))))
abbrev rm_Answer_begin : Room := { frames := 0, cells := 0, slots := 0, locals := 0 }
set_option maxHeartbeats 4000000 in
set_option maxRecDepth 100000 in
theorem t_Answer_begin (l : Launch) (G : xG) (σ : St) (a1 : Int32) (σ' : St) (hE : x_Answer_begin a1 σ = some σ') : Met l y_Answer_begin (ws_Answer_begin) rm_Answer_begin (xP G σ [.ref (G.2.1 44), .int a1]) (xQ G none σ') 0 0 (xA G) := by
  refine Met.ofW (cc := prog_2_method_2_code) (maxL := 2) (ret := none) (by decide) rfl ?_
  intro p e s m args below meth c s₁ B hml hv
  obtain ⟨rfl, hw, hC⟩ := hv
  have hx := B.exec
  have hb := B.bytes
  have hr := B.returns
  have hu : ∀ w ∈ UW, w.before _ s = true := fun w h => atoms_spec B.pre w (List.mem_cons_of_mem _ h)
  have hown : s.vm.findClass R_Answer = some m.cls := findClass_of_methodNamed B.named
  have hlocks := B.notSynchronized
  have hK := hC.1
  have hI := hC.2.1
  have hG := hC.2.2.1
  have hN := hC.2.2.2
  have hS : va_S (xA G) s.heap s.heap [] := va_S.rf
  have hl := lv_entry ([.ref (G.2.1 44), .int a1]) (n := 2) (Nat.le_of_ble_eq_true rfl)
  rw [lg_entry_eq]
  generalize (lg_sl ([.ref (G.2.1 44), .int a1]) ++ List.replicate (2 - (lg_sl ([.ref (G.2.1 44), .int a1])).length) Slot.unset).toArray = ls at hl ⊢
  have hl : lv_has ls 2 [(0, .ref (G.2.1 44)), (1, .int a1)] := hl
  unfold x_Answer_begin at hE
  refine lv_aload_n hx hb d_Answer_begin_0 rfl (lv_at hl 0 rfl) ?_
  refine lv_iload_n hx hb d_Answer_begin_1 rfl (lv_at hl 1 rfl) ?_
  refine va_put (D := G.1) (cl := xCl) (ci := 7) (v := .int a1) (ty := .int) (C := R_Answer) (T := T_Answer) (N := 12) hx hb hu fi_Answer ty_Answer tyok_Answer nm_Answer hown hK hw (x_D hI _) hS 44 (x_at (by decide) (xcl_44 G σ)) rfl 2 (by decide) (hu _ mw_294) (fun _ h9 => h9) rfl (tyok_Answer 2 (by decide)) rfl rfl (Nat.le_of_ble_eq_true rfl) d_Answer_begin_2 (fun H locs hw _ hS => ?_)
  replace hw := x_setR hw (by decide) rfl
  obtain ⟨s2, e2, hE⟩ := x_letE hE
  rw [← e2] at hw
  refine lv_aload_n hx hb d_Answer_begin_5 rfl (lv_at hl 0 rfl) ?_
  refine lv_iconst (v := ((-1) : Int32)) hx hb d_Answer_begin_6 (by decide) ?_
  refine va_put (D := G.1) (cl := xCl) (ci := 7) (v := .int ((-1) : Int32)) (ty := .int) (C := R_Answer) (T := T_Answer) (N := 12) hx hb hu fi_Answer ty_Answer tyok_Answer nm_Answer hown hK hw (x_D hI _) hS 44 (x_at (by decide) (xcl_44 G s2)) rfl 3 (by decide) (hu _ mw_297) (fun _ h9 => h9) rfl (tyok_Answer 3 (by decide)) rfl rfl (Nat.le_of_ble_eq_true rfl) d_Answer_begin_7 (fun H locs hw _ hS => ?_)
  replace hw := x_setR hw (by decide) rfl
  obtain ⟨s7, e7, hE⟩ := x_letE hE
  rw [← e7] at hw
  refine lv_aload_n hx hb d_Answer_begin_10 rfl (lv_at hl 0 rfl) ?_
  refine lv_iconst (v := (0 : Int32)) hx hb d_Answer_begin_11 (by decide) ?_
  refine va_put (D := G.1) (cl := xCl) (ci := 7) (v := .int (0 : Int32)) (ty := .boolean) (C := R_Answer) (T := T_Answer) (N := 12) hx hb hu fi_Answer ty_Answer tyok_Answer nm_Answer hown hK hw (x_D hI _) hS 44 (x_at (by decide) (xcl_44 G s7)) rfl 4 (by decide) (hu _ mw_299) (fun _ h9 => h9) rfl (tyok_Answer 4 (by decide)) rfl rfl (Nat.le_of_ble_eq_true rfl) d_Answer_begin_12 (fun H locs hw _ hS => ?_)
  replace hw := x_setR hw (by decide) rfl
  obtain ⟨s12, e12, hE⟩ := x_letE hE
  rw [← e12] at hw
  refine lv_aload_n hx hb d_Answer_begin_15 rfl (lv_at hl 0 rfl) ?_
  refine lv_iconst (v := (0 : Int32)) hx hb d_Answer_begin_16 (by decide) ?_
  refine va_put (D := G.1) (cl := xCl) (ci := 7) (v := .int (0 : Int32)) (ty := .int) (C := R_Answer) (T := T_Answer) (N := 12) hx hb hu fi_Answer ty_Answer tyok_Answer nm_Answer hown hK hw (x_D hI _) hS 44 (x_at (by decide) (xcl_44 G s12)) rfl 7 (by decide) (hu _ mw_305) (fun _ h9 => h9) rfl (tyok_Answer 7 (by decide)) rfl rfl (Nat.le_of_ble_eq_true rfl) d_Answer_begin_17 (fun H locs hw _ hS => ?_)
  replace hw := x_setR hw (by decide) rfl
  obtain ⟨s17, e17, hE⟩ := x_letE hE
  rw [← e17] at hw
  refine lv_aload_n hx hb d_Answer_begin_20 rfl (lv_at hl 0 rfl) ?_
  refine lv_aload_n hx hb d_Answer_begin_21 rfl (lv_at hl 0 rfl) ?_
  refine va_get (D := G.1) (cl := xCl) (ci := 7) (v := .ref (G.2.1 46)) (C := R_Answer) (T := T_Answer) (N := 12) hx hb hu fi_Answer hown hK hw 44 (x_at (by decide) (xcl_44 G s17)) rfl 1 (by decide) (hu _ mw_293) (fun _ h9 => h9) rfl d_Answer_begin_22 ?_
  refine va_put (D := G.1) (cl := xCl) (ci := 7) (v := .ref (G.2.1 46)) (ty := ty_Answer 8) (C := R_Answer) (T := T_Answer) (N := 12) hx hb hu fi_Answer ty_Answer tyok_Answer nm_Answer hown hK hw (x_D hI _) hS 44 (x_at (by decide) (xcl_44 G s17)) rfl 8 (by decide) (hu _ mw_307) (fun _ h9 => h9) rfl (tyok_Answer 8 (by decide)) rfl rfl (Nat.le_of_ble_eq_true rfl) d_Answer_begin_25 (fun H locs hw _ hS => ?_)
  replace hw := x_setB hw rfl
  obtain ⟨s25, e25, hE⟩ := x_letE hE
  rw [← e25] at hw
  refine lv_aload_n hx hb d_Answer_begin_28 rfl (lv_at hl 0 rfl) ?_
  refine lv_iconst (v := (0 : Int32)) hx hb d_Answer_begin_29 (by decide) ?_
  refine va_put (D := G.1) (cl := xCl) (ci := 7) (v := .int (0 : Int32)) (ty := .int) (C := R_Answer) (T := T_Answer) (N := 12) hx hb hu fi_Answer ty_Answer tyok_Answer nm_Answer hown hK hw (x_D hI _) hS 44 (x_at (by decide) (xcl_44 G s25)) rfl 9 (by decide) (hu _ mw_309) (fun _ h9 => h9) rfl (tyok_Answer 9 (by decide)) rfl rfl (Nat.le_of_ble_eq_true rfl) d_Answer_begin_30 (fun H locs hw _ hS => ?_)
  replace hw := x_setR hw (by decide) rfl
  obtain ⟨s30, e30, hE⟩ := x_letE hE
  rw [← e30] at hw
  refine lv_aload_n hx hb d_Answer_begin_33 rfl (lv_at hl 0 rfl) ?_
  refine lv_iconst (v := (0 : Int32)) hx hb d_Answer_begin_34 (by decide) ?_
  refine va_put (D := G.1) (cl := xCl) (ci := 7) (v := .int (0 : Int32)) (ty := .int) (C := R_Answer) (T := T_Answer) (N := 12) hx hb hu fi_Answer ty_Answer tyok_Answer nm_Answer hown hK hw (x_D hI _) hS 44 (x_at (by decide) (xcl_44 G s30)) rfl 10 (by decide) (hu _ mw_311) (fun _ h9 => h9) rfl (tyok_Answer 10 (by decide)) rfl rfl (Nat.le_of_ble_eq_true rfl) d_Answer_begin_35 (fun H locs hw _ hS => ?_)
  replace hw := x_setR hw (by decide) rfl
  obtain ⟨s35, e35, hE⟩ := x_letE hE
  rw [← e35] at hw
  refine lv_aload_n hx hb d_Answer_begin_38 rfl (lv_at hl 0 rfl) ?_
  refine lv_iconst (v := (0 : Int32)) hx hb d_Answer_begin_39 (by decide) ?_
  refine va_put (D := G.1) (cl := xCl) (ci := 7) (v := .int (0 : Int32)) (ty := .int) (C := R_Answer) (T := T_Answer) (N := 12) hx hb hu fi_Answer ty_Answer tyok_Answer nm_Answer hown hK hw (x_D hI _) hS 44 (x_at (by decide) (xcl_44 G s35)) rfl 11 (by decide) (hu _ mw_313) (fun _ h9 => h9) rfl (tyok_Answer 11 (by decide)) rfl rfl (Nat.le_of_ble_eq_true rfl) d_Answer_begin_40 (fun H locs hw _ hS => ?_)
  replace hw := x_setR hw (by decide) rfl
  obtain ⟨s40, e40, hE⟩ := x_letE hE
  rw [← e40] at hw
  have e1 := Option.some.inj hE
  exact W.vret hx hb hr (fun t ht hW => ⟨rfl, by rw [ht, ← e1]; exact hw, hS.F ht⟩) hS.2.2 d_Answer_begin_43

def y_Answer_isKnown : MethodName := ⟨"PlainOrigin$Answer", "isKnown", "(LPlainOrigin$Fields;I)Z"⟩
def ws_Answer_isKnown : List Cond := Cond.code y_Answer_isKnown prog_2_method_7_code 5 (some .boolean) :: UW
theorem hd_Answer_isKnown : y_Answer_isKnown.cls = R_Answer ∧ y_Answer_isKnown.cls ≠ "java/lang/invoke/MethodHandle" ∧ y_Answer_isKnown.cls ≠ "java/lang/invoke/VarHandle" ∧ (parseMethodDescriptor y_Answer_isKnown.desc).map (fun d => d.parameters.length) = some 2 := by decide +kernel
theorem d_Answer_isKnown_0 : decode prog_2_method_7_code 0 = .ok (.aload_n 1, 1) := by decide +kernel
theorem d_Answer_isKnown_1 : decode prog_2_method_7_code 1 = .ok (.ldc 153, 2) := by decide +kernel
theorem d_Answer_isKnown_3 : decode prog_2_method_7_code 3 = .ok (.invokevirtual 155, 3) := by decide +kernel
theorem d_Answer_isKnown_6 : decode prog_2_method_7_code 6 = .ok (.istore_n 3, 1) := by decide +kernel
theorem d_Answer_isKnown_7 : decode prog_2_method_7_code 7 = .ok (.iconst 0, 1) := by decide +kernel
theorem d_Answer_isKnown_8 : decode prog_2_method_7_code 8 = .ok (.istore 4, 2) := by decide +kernel
theorem d_Answer_isKnown_10 : decode prog_2_method_7_code 10 = .ok (.iload 4, 2) := by decide +kernel
theorem d_Answer_isKnown_12 : decode prog_2_method_7_code 12 = .ok (.iload_n 3, 1) := by decide +kernel
theorem d_Answer_isKnown_13 : decode prog_2_method_7_code 13 = .ok (.if_icmp .ge (32), 3) := by decide +kernel
theorem d_Answer_isKnown_16 : decode prog_2_method_7_code 16 = .ok (.aload_n 1, 1) := by decide +kernel
theorem d_Answer_isKnown_17 : decode prog_2_method_7_code 17 = .ok (.iload 4, 2) := by decide +kernel
theorem d_Answer_isKnown_19 : decode prog_2_method_7_code 19 = .ok (.ldc 161, 2) := by decide +kernel
theorem d_Answer_isKnown_21 : decode prog_2_method_7_code 21 = .ok (.invokevirtual 163, 3) := by decide +kernel
theorem d_Answer_isKnown_24 : decode prog_2_method_7_code 24 = .ok (.ifCond .ne (13), 3) := by decide +kernel
theorem d_Answer_isKnown_27 : decode prog_2_method_7_code 27 = .ok (.aload_n 1, 1) := by decide +kernel
theorem d_Answer_isKnown_28 : decode prog_2_method_7_code 28 = .ok (.iload 4, 2) := by decide +kernel
theorem d_Answer_isKnown_30 : decode prog_2_method_7_code 30 = .ok (.iload_n 2, 1) := by decide +kernel
theorem d_Answer_isKnown_31 : decode prog_2_method_7_code 31 = .ok (.invokevirtual 167, 3) := by decide +kernel
theorem d_Answer_isKnown_34 : decode prog_2_method_7_code 34 = .ok (.ifCond .eq (5), 3) := by decide +kernel
theorem d_Answer_isKnown_37 : decode prog_2_method_7_code 37 = .ok (.iconst 1, 1) := by decide +kernel
theorem d_Answer_isKnown_38 : decode prog_2_method_7_code 38 = .ok (.ireturn, 1) := by decide +kernel
theorem d_Answer_isKnown_39 : decode prog_2_method_7_code 39 = .ok (.iinc 4 (1), 3) := by decide +kernel
theorem d_Answer_isKnown_42 : decode prog_2_method_7_code 42 = .ok (.goto (-32), 3) := by decide +kernel
theorem d_Answer_isKnown_45 : decode prog_2_method_7_code 45 = .ok (.iconst 0, 1) := by decide +kernel
theorem d_Answer_isKnown_46 : decode prog_2_method_7_code 46 = .ok (.ireturn, 1) := by decide +kernel
def x_Answer_isKnown_10 (a2 : Int32) : Nat → Int32 → Int32 → St → Option (Int32 × St)
  | 0, _, _, _ => none
  | n + 1, l3, l4, σ => (if l3 ≤ l4 then some ((0 : Int32), σ) else (Option.bind (x_Fields_elementIs l4 16 σ) (fun r21 => (if r21 = 0 then (Option.bind (x_Fields_elementIsTag l4 a2 σ) (fun r31 => (if r31 = 0 then (x_let (l4 + (1 : Int32)) (fun (v39 : Int32) => x_Answer_isKnown_10 a2 n l3 v39 σ)) else some ((1 : Int32), σ)))) else some ((1 : Int32), σ)))))
def x_Answer_isKnown (a2 : Int32) (σ : St) : Option (Int32 × St) := (x_bind2 (x_Fields_gather 15 σ) (fun r3 s3 => x_Answer_isKnown_10 a2 x_fuel r3 (0 : Int32) s3))
abbrev rm_Answer_isKnown : Room := { frames := 6, cells := 0, slots := 0, locals := 131 }
set_option maxHeartbeats 4000000 in
set_option maxRecDepth 100000 in
theorem t_Answer_isKnown (l : Launch) (G : xG) (σ : St) (a2 : Int32) (r : Int32) (σ' : St) (hE : x_Answer_isKnown a2 σ = some (r, σ')) : Met l y_Answer_isKnown (ws_Answer_isKnown) rm_Answer_isKnown (xP G σ [.ref (G.2.1 44), .ref (G.2.1 31), .int a2]) (xQ G (some (.int r)) σ') 0 0 (xA G) := by
  refine Met.ofW (cc := prog_2_method_7_code) (maxL := 5) (ret := (some .boolean)) (by decide) rfl ?_
  intro p e s m args below meth c s₁ B hml hv
  obtain ⟨rfl, hw, hC⟩ := hv
  have hx := B.exec
  have hb := B.bytes
  have hr := B.returns
  have hu : ∀ w ∈ UW, w.before _ s = true := fun w h => atoms_spec B.pre w (List.mem_cons_of_mem _ h)
  have hown : s.vm.findClass R_Answer = some m.cls := findClass_of_methodNamed B.named
  have hlocks := B.notSynchronized
  have hK := hC.1
  have hI := hC.2.1
  have hG := hC.2.2.1
  have hN := hC.2.2.2
  have hS : va_S (xA G) s.heap s.heap [] := va_S.rf
  have jn10 : ∀ (n : Nat) (ls : Array Slot) (H : Heap) (locs : List Loc) (σ : St) (l3 : Int32) (l4 : Int32), x_Answer_isKnown_10 a2 n l3 l4 σ = some (r, σ') → lv_has ls 5 [(0, .ref (G.2.1 44)), (1, .ref (G.2.1 31)), (2, .int a2), (3, .int l3), (4, .int l4)] → xw G σ H → va_S (xA G) s.heap H locs → W p l e (headSpec (ws_Answer_isKnown) rm_Answer_isKnown).room s m ([.ref (G.2.1 44), .ref (G.2.1 31), .int a2] : List Value).toArray below meth c H locs 0 0 (MQ below (xQ G (some (.int r)) σ') ([.ref (G.2.1 44), .ref (G.2.1 31), .int a2] : List Value).toArray s 0 0 (xA G)) (F0 m 10 ls []) := by
    intro n
    induction n with
    | zero => intro ls H locs σ l3 l4 hE; rw [x_Answer_isKnown_10] at hE; cases hE
    | succ n ih =>
      intro ls H locs σ l3 l4 hE hl hw hS
      rw [x_Answer_isKnown_10] at hE
      refine lv_iload hx hb d_Answer_isKnown_10 (lv_at hl 4 rfl) ?_
      refine lv_iload_n hx hb d_Answer_isKnown_12 rfl (lv_at hl 3 rfl) ?_
      refine lv_icmp_ge (tgt := 45) hx hb d_Answer_isKnown_13 (by decide) (fun hc13 => ?_) (fun hc13 => ?_)
      · rw [if_pos hc13] at hE
        refine lv_iconst (v := (0 : Int32)) hx hb d_Answer_isKnown_45 (by decide) ?_
        obtain ⟨e1, e2⟩ := x_pair hE
        exact W.zret (v := (0 : Int32)) hx hb hr rfl (fun t ht hW => ⟨by rw [e1], by rw [ht, ← e2]; exact hw, hS.F ht⟩) hS.2.2 d_Answer_isKnown_46
      · rw [if_neg hc13] at hE
        refine lv_aload_n hx hb d_Answer_isKnown_16 rfl (lv_at hl 1 rfl) ?_
        refine lv_iload hx hb d_Answer_isKnown_17 (lv_at hl 4 rfl) ?_
        refine va_ldcS hx hb hown (str_16 hN) d_Answer_isKnown_19 ?_
        obtain ⟨r21, hC21, hE⟩ := x_bind hE
        refine x_callR (W.runV (As := [.int l4, .ref (G.2.2.2.1 16)]) (rest := []) ⟨hx, hb, hml, hown, hu⟩ (t_Fields_elementIs l G σ l4 16 (by decide) r21 hC21) (cwV 2 hu (uw_V mw_867 mw_789 mw_790 mw_66 mw_791) rfl rfl rfl hd_Fields_elementIs ⟨Nat.le_of_ble_eq_true rfl, Nat.le_of_ble_eq_true rfl⟩) (x_preV hC hS hw (va_recv hK hw (q := (R_Fields, T_Fields, 9)) (ci := 1) rfl (x_at (by decide) (xcl_31 G σ)))) rfl rfl hl.1 rfl (lv_room (Nat.le_of_ble_eq_true rfl)) d_Answer_isKnown_21 ⟨Nat.le_of_ble_eq_true rfl, Nat.le_of_ble_eq_true rfl⟩) ?_
        refine lv_if_ne (tgt := 37) hx hb d_Answer_isKnown_24 (by decide) (fun hc24 => ?_) (fun hc24 => ?_)
        · rw [if_neg hc24] at hE
          refine lv_iconst (v := (1 : Int32)) hx hb d_Answer_isKnown_37 (by decide) ?_
          obtain ⟨e1, e2⟩ := x_pair hE
          exact W.zret (v := (1 : Int32)) hx hb hr rfl (fun t ht hW => ⟨by rw [e1], by rw [ht, ← e2]; exact hw, hS.F ht⟩) hS.2.2 d_Answer_isKnown_38
        · rw [if_pos hc24] at hE
          refine lv_aload_n hx hb d_Answer_isKnown_27 rfl (lv_at hl 1 rfl) ?_
          refine lv_iload hx hb d_Answer_isKnown_28 (lv_at hl 4 rfl) ?_
          refine lv_iload_n hx hb d_Answer_isKnown_30 rfl (lv_at hl 2 rfl) ?_
          obtain ⟨r31, hC31, hE⟩ := x_bind hE
          refine x_callR (W.runV (As := [.int l4, .int a2]) (rest := []) ⟨hx, hb, hml, hown, hu⟩ (t_Fields_elementIsTag l G σ l4 a2 r31 hC31) (cwV 2 hu (uw_V mw_868 mw_869 mw_870 mw_66 mw_871) rfl rfl rfl hd_Fields_elementIsTag ⟨Nat.le_of_ble_eq_true rfl, Nat.le_of_ble_eq_true rfl⟩) (x_preV hC hS hw (va_recv hK hw (q := (R_Fields, T_Fields, 9)) (ci := 1) rfl (x_at (by decide) (xcl_31 G σ)))) rfl rfl hl.1 rfl (lv_room (Nat.le_of_ble_eq_true rfl)) d_Answer_isKnown_31 ⟨Nat.le_of_ble_eq_true rfl, Nat.le_of_ble_eq_true rfl⟩) ?_
          refine lv_if_eq (tgt := 39) hx hb d_Answer_isKnown_34 (by decide) (fun hc34 => ?_) (fun hc34 => ?_)
          · rw [if_pos hc34] at hE
            obtain ⟨v39, e39, hE⟩ := x_letE hE
            refine lv_iinc hx hb d_Answer_isKnown_39 hl (k := 4) rfl (x_inc v39 e39 (by decide)) (by decide) rfl (fun ls hl => ?_)
            have hl : lv_has ls 5 [(4, .int v39), (0, .ref (G.2.1 44)), (1, .ref (G.2.1 31)), (2, .int a2), (3, .int l3)] := hl
            refine lv_goto (tgt := 10) hx hb d_Answer_isKnown_42 (by decide) ?_
            exact ih _ _ _ _ _ _ hE (lv_sub hl [1, 2, 3, 4, 0] rfl) hw hS
          · rw [if_neg hc34] at hE
            refine lv_iconst (v := (1 : Int32)) hx hb d_Answer_isKnown_37 (by decide) ?_
            obtain ⟨e1, e2⟩ := x_pair hE
            exact W.zret (v := (1 : Int32)) hx hb hr rfl (fun t ht hW => ⟨by rw [e1], by rw [ht, ← e2]; exact hw, hS.F ht⟩) hS.2.2 d_Answer_isKnown_38
  have hl := lv_entry ([.ref (G.2.1 44), .ref (G.2.1 31), .int a2]) (n := 5) (Nat.le_of_ble_eq_true rfl)
  rw [lg_entry_eq]
  generalize (lg_sl ([.ref (G.2.1 44), .ref (G.2.1 31), .int a2]) ++ List.replicate (5 - (lg_sl ([.ref (G.2.1 44), .ref (G.2.1 31), .int a2])).length) Slot.unset).toArray = ls at hl ⊢
  have hl : lv_has ls 5 [(0, .ref (G.2.1 44)), (1, .ref (G.2.1 31)), (2, .int a2)] := hl
  unfold x_Answer_isKnown at hE
  refine lv_aload_n hx hb d_Answer_isKnown_0 rfl (lv_at hl 1 rfl) ?_
  refine va_ldcS hx hb hown (str_15 hN) d_Answer_isKnown_1 ?_
  obtain ⟨r3, s3, hC3, hE⟩ := x_bind2E hE
  refine x_callS hS (W.runV (As := [.ref (G.2.2.2.1 15)]) (rest := []) ⟨hx, hb, hml, hown, hu⟩ (t_Fields_gather l G σ 15 (by decide) r3 s3 hC3) (cwV 1 hu (uw_V mw_865 mw_774 mw_775 mw_66 mw_776) rfl rfl rfl hd_Fields_gather ⟨Nat.le_of_ble_eq_true rfl, Nat.le_of_ble_eq_true rfl⟩) (x_preV hC hS hw (va_recv hK hw (q := (R_Fields, T_Fields, 9)) (ci := 1) rfl (x_at (by decide) (xcl_31 G σ)))) rfl rfl hl.1 rfl (lv_room (Nat.le_of_ble_eq_true rfl)) d_Answer_isKnown_3 ⟨Nat.le_of_ble_eq_true rfl, Nat.le_of_ble_eq_true rfl⟩) (fun H locs hw hS => ?_)
  refine lv_istore_n hx hb d_Answer_isKnown_6 rfl hl (by decide) rfl (fun ls hl => ?_)
  have hl : lv_has ls 5 [(3, .int r3), (0, .ref (G.2.1 44)), (1, .ref (G.2.1 31)), (2, .int a2)] := hl
  refine lv_iconst (v := (0 : Int32)) hx hb d_Answer_isKnown_7 (by decide) ?_
  refine lv_istore hx hb d_Answer_isKnown_8 hl (by decide) rfl (fun ls hl => ?_)
  have hl : lv_has ls 5 [(4, .int (0 : Int32)), (3, .int r3), (0, .ref (G.2.1 44)), (1, .ref (G.2.1 31)), (2, .int a2)] := hl
  exact jn10 x_fuel _ _ _ _ _ _ hE (lv_sub hl [2, 3, 4, 1, 0] rfl) hw hS

def y_Answer_show : MethodName := ⟨"PlainOrigin$Answer", "show", "(LPlainOrigin$Method;LPlainOrigin$Bytes;)V"⟩
def ws_Answer_show : List Cond := Cond.code y_Answer_show prog_2_method_5_code 3 none :: UW
theorem hd_Answer_show : y_Answer_show.cls = R_Answer ∧ y_Answer_show.cls ≠ "java/lang/invoke/MethodHandle" ∧ y_Answer_show.cls ≠ "java/lang/invoke/VarHandle" ∧ (parseMethodDescriptor y_Answer_show.desc).map (fun d => d.parameters.length) = some 2 := by decide +kernel
theorem d_Answer_show_0 : decode prog_2_method_5_code 0 = .ok (.aload_n 0, 1) := by decide +kernel
theorem d_Answer_show_1 : decode prog_2_method_5_code 1 = .ok (.sipush (200), 3) := by decide +kernel
theorem d_Answer_show_4 : decode prog_2_method_5_code 4 = .ok (.invokevirtual 67, 3) := by decide +kernel
theorem d_Answer_show_7 : decode prog_2_method_5_code 7 = .ok (.aload_n 0, 1) := by decide +kernel
theorem d_Answer_show_8 : decode prog_2_method_5_code 8 = .ok (.aload_n 2, 1) := by decide +kernel
theorem d_Answer_show_9 : decode prog_2_method_5_code 9 = .ok (.putfield 27, 3) := by decide +kernel
theorem d_Answer_show_12 : decode prog_2_method_5_code 12 = .ok (.aload_n 0, 1) := by decide +kernel
theorem d_Answer_show_13 : decode prog_2_method_5_code 13 = .ok (.aload_n 2, 1) := by decide +kernel
theorem d_Answer_show_14 : decode prog_2_method_5_code 14 = .ok (.getfield 85, 3) := by decide +kernel
theorem d_Answer_show_17 : decode prog_2_method_5_code 17 = .ok (.putfield 41, 3) := by decide +kernel
theorem d_Answer_show_20 : decode prog_2_method_5_code 20 = .ok (.aload_n 0, 1) := by decide +kernel
theorem d_Answer_show_21 : decode prog_2_method_5_code 21 = .ok (.aload_n 1, 1) := by decide +kernel
theorem d_Answer_show_22 : decode prog_2_method_5_code 22 = .ok (.getstatic 70, 3) := by decide +kernel
theorem d_Answer_show_25 : decode prog_2_method_5_code 25 = .ok (.if_acmp .ne (10), 3) := by decide +kernel
theorem d_Answer_show_28 : decode prog_2_method_5_code 28 = .ok (.aload_n 2, 1) := by decide +kernel
theorem d_Answer_show_29 : decode prog_2_method_5_code 29 = .ok (.getfield 85, 3) := by decide +kernel
theorem d_Answer_show_32 : decode prog_2_method_5_code 32 = .ok (.goto (4), 3) := by decide +kernel
theorem d_Answer_show_35 : decode prog_2_method_5_code 35 = .ok (.iconst 0, 1) := by decide +kernel
theorem d_Answer_show_36 : decode prog_2_method_5_code 36 = .ok (.putfield 47, 3) := by decide +kernel
theorem d_Answer_show_39 : decode prog_2_method_5_code 39 = .ok (.return_, 1) := by decide +kernel
def x_Answer_show (m1 : Option Nat) (o2 : Nat) (σ : St) : Option St := (Option.bind (x_Answer_begin (200 : Int32) σ) (fun s4 => (x_let (x_updB s4 o2) (fun (s9 : St) => (x_let (x_updR s9 44 7 (s9.1 o2 1)) (fun (s17 : St) => (if x_e7 m1 then (if m1 = (some 0) then (x_let (x_updR s17 44 10 (s17.1 o2 1)) (fun (s36 : St) => some s36)) else (x_let (x_updR s17 44 10 (0 : Int32)) (fun (s36 : St) => some s36))) else none)))))))
abbrev rm_Answer_show : Room := { frames := 1, cells := 0, slots := 0, locals := 21 }
set_option maxHeartbeats 4000000 in
set_option maxRecDepth 100000 in
theorem t_Answer_show (l : Launch) (G : xG) (σ : St) (m1 : Option Nat) (o2 : Nat) (ho2 : xB o2) (σ' : St) (hE : x_Answer_show m1 o2 σ = some σ') : Met l y_Answer_show (ws_Answer_show) rm_Answer_show (xP G σ [.ref (G.2.1 44), va_re G.2.2.2.2.1 m1, .ref (G.2.1 o2)]) (xQ G none σ') 0 0 (xA G) := by
  refine Met.ofW (cc := prog_2_method_5_code) (maxL := 3) (ret := none) (by decide) rfl ?_
  intro p e s m args below meth c s₁ B hml hv
  obtain ⟨rfl, hw, hC⟩ := hv
  have hx := B.exec
  have hb := B.bytes
  have hr := B.returns
  have hu : ∀ w ∈ UW, w.before _ s = true := fun w h => atoms_spec B.pre w (List.mem_cons_of_mem _ h)
  have hown : s.vm.findClass R_Answer = some m.cls := findClass_of_methodNamed B.named
  have hlocks := B.notSynchronized
  have hK := hC.1
  have hI := hC.2.1
  have hG := hC.2.2.1
  have hN := hC.2.2.2
  have hS : va_S (xA G) s.heap s.heap [] := va_S.rf
  have hl := lv_entry ([.ref (G.2.1 44), va_re G.2.2.2.2.1 m1, .ref (G.2.1 o2)]) (n := 3) (by simp [lg_sl, x_cat_rf, x_cat_re, x_cat_i, x_cat_r, x_cat_l])
  rw [lg_entry_eq]
  generalize (lg_sl ([.ref (G.2.1 44), va_re G.2.2.2.2.1 m1, .ref (G.2.1 o2)]) ++ List.replicate (3 - (lg_sl ([.ref (G.2.1 44), va_re G.2.2.2.2.1 m1, .ref (G.2.1 o2)])).length) Slot.unset).toArray = ls at hl ⊢
  have hl : lv_has ls 3 [(0, .ref (G.2.1 44)), (1, va_re G.2.2.2.2.1 m1), (2, .ref (G.2.1 o2))] := by simpa [lv_args, x_cat_rf, x_cat_re, x_cat_i, x_cat_r, x_cat_l] using hl
  unfold x_Answer_show at hE
  refine lv_aload_n hx hb d_Answer_show_0 rfl (lv_at hl 0 rfl) ?_
  refine lv_sipush (v := (200 : Int32)) hx hb d_Answer_show_1 (by decide) ?_
  obtain ⟨s4, hC4, hE⟩ := x_bind hE
  refine x_callV hS (W.runV (As := [.int (200 : Int32)]) (rest := []) ⟨hx, hb, hml, hown, hu⟩ (t_Answer_begin l G σ (200 : Int32) s4 hC4) (cwV 1 hu (uw_V mw_829 mw_830 mw_831 mw_67 mw_832) rfl rfl rfl hd_Answer_begin ⟨Nat.le_of_ble_eq_true rfl, Nat.le_of_ble_eq_true rfl⟩) (x_preV hC hS hw (va_recv hK hw (q := (R_Answer, T_Answer, 12)) (ci := 7) rfl (x_at (by decide) (xcl_44 G σ)))) rfl rfl hl.1 rfl (lv_room (Nat.le_of_ble_eq_true rfl)) d_Answer_show_4 ⟨Nat.le_of_ble_eq_true rfl, Nat.le_of_ble_eq_true rfl⟩) (fun H locs hw hS => ?_)
  refine lv_aload_n hx hb d_Answer_show_7 rfl (lv_at hl 0 rfl) ?_
  refine lv_aload_n hx hb d_Answer_show_8 rfl (lv_at hl 2 rfl) ?_
  refine va_put (D := G.1) (cl := xCl) (ci := 7) (v := .ref (G.2.1 o2)) (ty := ty_Answer 8) (C := R_Answer) (T := T_Answer) (N := 12) hx hb hu fi_Answer ty_Answer tyok_Answer nm_Answer hown hK hw (x_D hI _) hS 44 (x_at (by decide) (xcl_44 G s4)) rfl 8 (by decide) (hu _ mw_307) (fun _ h9 => h9) rfl (tyok_Answer 8 (by decide)) rfl rfl (Nat.le_of_ble_eq_true rfl) d_Answer_show_9 (fun H locs hw _ hS => ?_)
  replace hw := x_setB hw rfl
  obtain ⟨s9, e9, hE⟩ := x_letE hE
  rw [← e9] at hw
  refine lv_aload_n hx hb d_Answer_show_12 rfl (lv_at hl 0 rfl) ?_
  refine lv_aload_n hx hb d_Answer_show_13 rfl (lv_at hl 2 rfl) ?_
  refine va_getN (D := G.1) (cl := xCl) (ci := 0) (v := .int (s9.1 o2 1)) (C := R_Bytes) (T := T_Bytes) (N := 2) hx hb hu fi_Bytes hown hK hw o2 (x_at (xB_lt ho2) (xcl_B G s9 (xB_s ho2))) rfl 1 (by decide) (nl_2 hG) (fun _ h9 => h9) rfl d_Answer_show_14 ?_
  refine va_put (D := G.1) (cl := xCl) (ci := 7) (v := .int (s9.1 o2 1)) (ty := .int) (C := R_Answer) (T := T_Answer) (N := 12) hx hb hu fi_Answer ty_Answer tyok_Answer nm_Answer hown hK hw (x_D hI _) hS 44 (x_at (by decide) (xcl_44 G s9)) rfl 7 (by decide) (hu _ mw_305) (fun _ h9 => h9) rfl (tyok_Answer 7 (by decide)) rfl rfl (Nat.le_of_ble_eq_true rfl) d_Answer_show_17 (fun H locs hw _ hS => ?_)
  replace hw := x_setR hw (by decide) rfl
  obtain ⟨s17, e17, hE⟩ := x_letE hE
  rw [← e17] at hw
  refine lv_aload_n hx hb d_Answer_show_20 rfl (lv_at hl 0 rfl) ?_
  refine x_aloadq_n hx hb d_Answer_show_21 rfl (lv_at hl 1 rfl) (va_re_or _ _) ?_
  refine va_gets (v := va_re G.2.2.2.2.1 (some 0)) hx hb (hN.2.2.2.2.1 0 (by decide)).1 hS hown (hu _ mw_833) (fun _ h9 => h9) d_Answer_show_22 ?_
  obtain ⟨q25_1, hE⟩ := x_guard hE
  refine x_acmp_ne (tgt := 35) hx hb hN.2.2.2.2.2.1 q25_1 (by decide) d_Answer_show_25 (by decide) (fun hc25 => ?_) (fun hc25 => ?_)
  · rw [if_neg hc25] at hE
    refine lv_iconst (v := (0 : Int32)) hx hb d_Answer_show_35 (by decide) ?_
    refine va_put (D := G.1) (cl := xCl) (ci := 7) (v := .int (0 : Int32)) (ty := .int) (C := R_Answer) (T := T_Answer) (N := 12) hx hb hu fi_Answer ty_Answer tyok_Answer nm_Answer hown hK hw (x_D hI _) hS 44 (x_at (by decide) (xcl_44 G s17)) rfl 10 (by decide) (hu _ mw_311) (fun _ h9 => h9) rfl (tyok_Answer 10 (by decide)) rfl rfl (Nat.le_of_ble_eq_true rfl) d_Answer_show_36 (fun H locs hw _ hS => ?_)
    replace hw := x_setR hw (by decide) rfl
    obtain ⟨s36, e36, hE⟩ := x_letE hE
    rw [← e36] at hw
    have e1 := Option.some.inj hE
    exact W.vret hx hb hr (fun t ht hW => ⟨rfl, by rw [ht, ← e1]; exact hw, hS.F ht⟩) hS.2.2 d_Answer_show_39
  · rw [if_pos hc25] at hE
    refine lv_aload_n hx hb d_Answer_show_28 rfl (lv_at hl 2 rfl) ?_
    refine va_getN (D := G.1) (cl := xCl) (ci := 0) (v := .int (s17.1 o2 1)) (C := R_Bytes) (T := T_Bytes) (N := 2) hx hb hu fi_Bytes hown hK hw o2 (x_at (xB_lt ho2) (xcl_B G s17 (xB_s ho2))) rfl 1 (by decide) (nl_2 hG) (fun _ h9 => h9) rfl d_Answer_show_29 ?_
    refine lv_goto (tgt := 36) hx hb d_Answer_show_32 (by decide) ?_
    refine va_put (D := G.1) (cl := xCl) (ci := 7) (v := .int (s17.1 o2 1)) (ty := .int) (C := R_Answer) (T := T_Answer) (N := 12) hx hb hu fi_Answer ty_Answer tyok_Answer nm_Answer hown hK hw (x_D hI _) hS 44 (x_at (by decide) (xcl_44 G s17)) rfl 10 (by decide) (hu _ mw_311) (fun _ h9 => h9) rfl (tyok_Answer 10 (by decide)) rfl rfl (Nat.le_of_ble_eq_true rfl) d_Answer_show_36 (fun H locs hw _ hS => ?_)
    replace hw := x_setR hw (by decide) rfl
    obtain ⟨s36, e36, hE⟩ := x_letE hE
    rw [← e36] at hw
    have e1 := Option.some.inj hE
    exact W.vret hx hb hr (fun t ht hW => ⟨rfl, by rw [ht, ← e1]; exact hw, hS.F ht⟩) hS.2.2 d_Answer_show_39

def y_Answer_showRange : MethodName := ⟨"PlainOrigin$Answer", "showRange", "(LPlainOrigin$Bytes;)V"⟩
def ws_Answer_showRange : List Cond := Cond.code y_Answer_showRange prog_2_method_8_code 3 none :: UW
theorem hd_Answer_showRange : y_Answer_showRange.cls = R_Answer ∧ y_Answer_showRange.cls ≠ "java/lang/invoke/MethodHandle" ∧ y_Answer_showRange.cls ≠ "java/lang/invoke/VarHandle" ∧ (parseMethodDescriptor y_Answer_showRange.desc).map (fun d => d.parameters.length) = some 1 := by decide +kernel
theorem d_Answer_showRange_0 : decode prog_2_method_8_code 0 = .ok (.aload_n 1, 1) := by decide +kernel
theorem d_Answer_showRange_1 : decode prog_2_method_8_code 1 = .ok (.getfield 85, 3) := by decide +kernel
theorem d_Answer_showRange_4 : decode prog_2_method_8_code 4 = .ok (.istore_n 2, 1) := by decide +kernel
theorem d_Answer_showRange_5 : decode prog_2_method_8_code 5 = .ok (.iload_n 2, 1) := by decide +kernel
theorem d_Answer_showRange_6 : decode prog_2_method_8_code 6 = .ok (.ifCond .eq (14), 3) := by decide +kernel
theorem d_Answer_showRange_9 : decode prog_2_method_8_code 9 = .ok (.aload_n 0, 1) := by decide +kernel
theorem d_Answer_showRange_10 : decode prog_2_method_8_code 10 = .ok (.getfield 12, 3) := by decide +kernel
theorem d_Answer_showRange_13 : decode prog_2_method_8_code 13 = .ok (.getfield 171, 3) := by decide +kernel
theorem d_Answer_showRange_16 : decode prog_2_method_8_code 16 = .ok (.iload_n 2, 1) := by decide +kernel
theorem d_Answer_showRange_17 : decode prog_2_method_8_code 17 = .ok (.if_icmp .lt (16), 3) := by decide +kernel
theorem d_Answer_showRange_20 : decode prog_2_method_8_code 20 = .ok (.aload_n 0, 1) := by decide +kernel
theorem d_Answer_showRange_21 : decode prog_2_method_8_code 21 = .ok (.sipush (416), 3) := by decide +kernel
theorem d_Answer_showRange_24 : decode prog_2_method_8_code 24 = .ok (.invokevirtual 67, 3) := by decide +kernel
theorem d_Answer_showRange_27 : decode prog_2_method_8_code 27 = .ok (.aload_n 0, 1) := by decide +kernel
theorem d_Answer_showRange_28 : decode prog_2_method_8_code 28 = .ok (.iload_n 2, 1) := by decide +kernel
theorem d_Answer_showRange_29 : decode prog_2_method_8_code 29 = .ok (.putfield 50, 3) := by decide +kernel
theorem d_Answer_showRange_32 : decode prog_2_method_8_code 32 = .ok (.return_, 1) := by decide +kernel
theorem d_Answer_showRange_33 : decode prog_2_method_8_code 33 = .ok (.aload_n 0, 1) := by decide +kernel
theorem d_Answer_showRange_34 : decode prog_2_method_8_code 34 = .ok (.sipush (206), 3) := by decide +kernel
theorem d_Answer_showRange_37 : decode prog_2_method_8_code 37 = .ok (.invokevirtual 67, 3) := by decide +kernel
theorem d_Answer_showRange_40 : decode prog_2_method_8_code 40 = .ok (.aload_n 0, 1) := by decide +kernel
theorem d_Answer_showRange_41 : decode prog_2_method_8_code 41 = .ok (.iload_n 2, 1) := by decide +kernel
theorem d_Answer_showRange_42 : decode prog_2_method_8_code 42 = .ok (.putfield 50, 3) := by decide +kernel
theorem d_Answer_showRange_45 : decode prog_2_method_8_code 45 = .ok (.aload_n 0, 1) := by decide +kernel
theorem d_Answer_showRange_46 : decode prog_2_method_8_code 46 = .ok (.aload_n 1, 1) := by decide +kernel
theorem d_Answer_showRange_47 : decode prog_2_method_8_code 47 = .ok (.putfield 27, 3) := by decide +kernel
theorem d_Answer_showRange_50 : decode prog_2_method_8_code 50 = .ok (.aload_n 0, 1) := by decide +kernel
theorem d_Answer_showRange_51 : decode prog_2_method_8_code 51 = .ok (.getfield 12, 3) := by decide +kernel
theorem d_Answer_showRange_54 : decode prog_2_method_8_code 54 = .ok (.getfield 171, 3) := by decide +kernel
theorem d_Answer_showRange_57 : decode prog_2_method_8_code 57 = .ok (.iconst (-1), 1) := by decide +kernel
theorem d_Answer_showRange_58 : decode prog_2_method_8_code 58 = .ok (.if_icmp .ne (28), 3) := by decide +kernel
theorem d_Answer_showRange_61 : decode prog_2_method_8_code 61 = .ok (.aload_n 0, 1) := by decide +kernel
theorem d_Answer_showRange_62 : decode prog_2_method_8_code 62 = .ok (.iconst 0, 1) := by decide +kernel
theorem d_Answer_showRange_63 : decode prog_2_method_8_code 63 = .ok (.iload_n 2, 1) := by decide +kernel
theorem d_Answer_showRange_64 : decode prog_2_method_8_code 64 = .ok (.aload_n 0, 1) := by decide +kernel
theorem d_Answer_showRange_65 : decode prog_2_method_8_code 65 = .ok (.getfield 12, 3) := by decide +kernel
theorem d_Answer_showRange_68 : decode prog_2_method_8_code 68 = .ok (.getfield 174, 3) := by decide +kernel
theorem d_Answer_showRange_71 : decode prog_2_method_8_code 71 = .ok (.isub, 1) := by decide +kernel
theorem d_Answer_showRange_72 : decode prog_2_method_8_code 72 = .ok (.invokestatic 177, 3) := by decide +kernel
theorem d_Answer_showRange_75 : decode prog_2_method_8_code 75 = .ok (.putfield 44, 3) := by decide +kernel
theorem d_Answer_showRange_78 : decode prog_2_method_8_code 78 = .ok (.aload_n 0, 1) := by decide +kernel
theorem d_Answer_showRange_79 : decode prog_2_method_8_code 79 = .ok (.iload_n 2, 1) := by decide +kernel
theorem d_Answer_showRange_80 : decode prog_2_method_8_code 80 = .ok (.putfield 47, 3) := by decide +kernel
theorem d_Answer_showRange_83 : decode prog_2_method_8_code 83 = .ok (.goto (46), 3) := by decide +kernel
theorem d_Answer_showRange_86 : decode prog_2_method_8_code 86 = .ok (.aload_n 0, 1) := by decide +kernel
theorem d_Answer_showRange_87 : decode prog_2_method_8_code 87 = .ok (.aload_n 0, 1) := by decide +kernel
theorem d_Answer_showRange_88 : decode prog_2_method_8_code 88 = .ok (.getfield 12, 3) := by decide +kernel
theorem d_Answer_showRange_91 : decode prog_2_method_8_code 91 = .ok (.getfield 171, 3) := by decide +kernel
theorem d_Answer_showRange_94 : decode prog_2_method_8_code 94 = .ok (.putfield 44, 3) := by decide +kernel
theorem d_Answer_showRange_97 : decode prog_2_method_8_code 97 = .ok (.aload_n 0, 1) := by decide +kernel
theorem d_Answer_showRange_98 : decode prog_2_method_8_code 98 = .ok (.aload_n 0, 1) := by decide +kernel
theorem d_Answer_showRange_99 : decode prog_2_method_8_code 99 = .ok (.getfield 12, 3) := by decide +kernel
theorem d_Answer_showRange_102 : decode prog_2_method_8_code 102 = .ok (.getfield 174, 3) := by decide +kernel
theorem d_Answer_showRange_105 : decode prog_2_method_8_code 105 = .ok (.iconst (-1), 1) := by decide +kernel
theorem d_Answer_showRange_106 : decode prog_2_method_8_code 106 = .ok (.if_icmp .ne (7), 3) := by decide +kernel
theorem d_Answer_showRange_109 : decode prog_2_method_8_code 109 = .ok (.iload_n 2, 1) := by decide +kernel
theorem d_Answer_showRange_110 : decode prog_2_method_8_code 110 = .ok (.goto (16), 3) := by decide +kernel
theorem d_Answer_showRange_113 : decode prog_2_method_8_code 113 = .ok (.aload_n 0, 1) := by decide +kernel
theorem d_Answer_showRange_114 : decode prog_2_method_8_code 114 = .ok (.getfield 12, 3) := by decide +kernel
theorem d_Answer_showRange_117 : decode prog_2_method_8_code 117 = .ok (.getfield 174, 3) := by decide +kernel
theorem d_Answer_showRange_120 : decode prog_2_method_8_code 120 = .ok (.iconst 1, 1) := by decide +kernel
theorem d_Answer_showRange_121 : decode prog_2_method_8_code 121 = .ok (.iadd, 1) := by decide +kernel
theorem d_Answer_showRange_122 : decode prog_2_method_8_code 122 = .ok (.iload_n 2, 1) := by decide +kernel
theorem d_Answer_showRange_123 : decode prog_2_method_8_code 123 = .ok (.invokestatic 183, 3) := by decide +kernel
theorem d_Answer_showRange_126 : decode prog_2_method_8_code 126 = .ok (.putfield 47, 3) := by decide +kernel
theorem d_Answer_showRange_129 : decode prog_2_method_8_code 129 = .ok (.aload_n 0, 1) := by decide +kernel
theorem d_Answer_showRange_130 : decode prog_2_method_8_code 130 = .ok (.aload_n 0, 1) := by decide +kernel
theorem d_Answer_showRange_131 : decode prog_2_method_8_code 131 = .ok (.getfield 47, 3) := by decide +kernel
theorem d_Answer_showRange_134 : decode prog_2_method_8_code 134 = .ok (.aload_n 0, 1) := by decide +kernel
theorem d_Answer_showRange_135 : decode prog_2_method_8_code 135 = .ok (.getfield 44, 3) := by decide +kernel
theorem d_Answer_showRange_138 : decode prog_2_method_8_code 138 = .ok (.isub, 1) := by decide +kernel
theorem d_Answer_showRange_139 : decode prog_2_method_8_code 139 = .ok (.putfield 41, 3) := by decide +kernel
theorem d_Answer_showRange_142 : decode prog_2_method_8_code 142 = .ok (.return_, 1) := by decide +kernel
def x_Answer_showRange_20 (o1 : Nat) (l2 : Int32) (σ : St) : Option St := (Option.bind (x_Answer_begin (416 : Int32) σ) (fun s24 => (x_let (x_updR s24 44 11 l2) (fun (s29 : St) => some s29))))
def x_Answer_showRange_129 (o1 : Nat) (σ : St) : Option St := (x_let (x_updR σ 44 7 ((σ.1 44 10) - (σ.1 44 9))) (fun (s139 : St) => some s139))
def x_Answer_showRange_126 (o1 : Nat) (k0 : Int32) (σ : St) : Option St := (x_let (x_updR σ 44 10 k0) (fun (s126 : St) => x_Answer_showRange_129 o1 s126))
def x_Answer_showRange (o1 : Nat) (σ : St) : Option St := (x_let (σ.1 o1 1) (fun (v4 : Int32) => (if v4 = 0 then x_Answer_showRange_20 o1 v4 σ else (if (σ.1 45 0) < v4 then (Option.bind (x_Answer_begin (206 : Int32) σ) (fun s37 => (x_let (x_updR s37 44 11 v4) (fun (s42 : St) => (x_let (x_updB s42 o1) (fun (s47 : St) => (if (s47.1 45 0) = ((-1) : Int32) then (x_let (x_updR s47 44 9 (if (0 : Int32) < (v4 - (s47.1 45 1)) then (v4 - (s47.1 45 1)) else (0 : Int32))) (fun (s75 : St) => (x_let (x_updR s75 44 10 v4) (fun (s80 : St) => x_Answer_showRange_129 o1 s80)))) else (x_let (x_updR s47 44 9 (s47.1 45 0)) (fun (s94 : St) => (if (s94.1 45 1) = ((-1) : Int32) then x_Answer_showRange_126 o1 v4 s94 else x_Answer_showRange_126 o1 (if v4 < ((s94.1 45 1) + (1 : Int32)) then v4 else ((s94.1 45 1) + (1 : Int32))) s94)))))))))) else x_Answer_showRange_20 o1 v4 σ))))
abbrev rm_Answer_showRange : Room := { frames := 1, cells := 0, slots := 0, locals := 21 }
set_option maxHeartbeats 4000000 in
set_option maxRecDepth 100000 in
theorem t_Answer_showRange (l : Launch) (G : xG) (σ : St) (o1 : Nat) (ho1 : xB o1) (σ' : St) (hE : x_Answer_showRange o1 σ = some σ') : Met l y_Answer_showRange (ws_Answer_showRange) rm_Answer_showRange (xP G σ [.ref (G.2.1 44), .ref (G.2.1 o1)]) (xQ G none σ') 0 0 (xA G) := by
  refine Met.ofW (cc := prog_2_method_8_code) (maxL := 3) (ret := none) (by decide) rfl ?_
  intro p e s m args below meth c s₁ B hml hv
  obtain ⟨rfl, hw, hC⟩ := hv
  have hx := B.exec
  have hb := B.bytes
  have hr := B.returns
  have hu : ∀ w ∈ UW, w.before _ s = true := fun w h => atoms_spec B.pre w (List.mem_cons_of_mem _ h)
  have hown : s.vm.findClass R_Answer = some m.cls := findClass_of_methodNamed B.named
  have hlocks := B.notSynchronized
  have hK := hC.1
  have hI := hC.2.1
  have hG := hC.2.2.1
  have hN := hC.2.2.2
  have hS : va_S (xA G) s.heap s.heap [] := va_S.rf
  have jn20 : ∀ (ls : Array Slot) (H : Heap) (locs : List Loc) (σ : St) (l2 : Int32), x_Answer_showRange_20 o1 l2 σ = some σ' → lv_has ls 3 [(0, .ref (G.2.1 44)), (1, .ref (G.2.1 o1)), (2, .int l2)] → xw G σ H → va_S (xA G) s.heap H locs → W p l e (headSpec (ws_Answer_showRange) rm_Answer_showRange).room s m ([.ref (G.2.1 44), .ref (G.2.1 o1)] : List Value).toArray below meth c H locs 0 0 (MQ below (xQ G none σ') ([.ref (G.2.1 44), .ref (G.2.1 o1)] : List Value).toArray s 0 0 (xA G)) (F0 m 20 ls []) := by
    intro ls H locs σ l2 hE hl hw hS
    unfold x_Answer_showRange_20 at hE
    refine lv_aload_n hx hb d_Answer_showRange_20 rfl (lv_at hl 0 rfl) ?_
    refine lv_sipush (v := (416 : Int32)) hx hb d_Answer_showRange_21 (by decide) ?_
    obtain ⟨s24, hC24, hE⟩ := x_bind hE
    refine x_callV hS (W.runV (As := [.int (416 : Int32)]) (rest := []) ⟨hx, hb, hml, hown, hu⟩ (t_Answer_begin l G σ (416 : Int32) s24 hC24) (cwV 1 hu (uw_V mw_829 mw_830 mw_831 mw_67 mw_832) rfl rfl rfl hd_Answer_begin ⟨Nat.le_of_ble_eq_true rfl, Nat.le_of_ble_eq_true rfl⟩) (x_preV hC hS hw (va_recv hK hw (q := (R_Answer, T_Answer, 12)) (ci := 7) rfl (x_at (by decide) (xcl_44 G σ)))) rfl rfl hl.1 rfl (lv_room (Nat.le_of_ble_eq_true rfl)) d_Answer_showRange_24 ⟨Nat.le_of_ble_eq_true rfl, Nat.le_of_ble_eq_true rfl⟩) (fun H locs hw hS => ?_)
    refine lv_aload_n hx hb d_Answer_showRange_27 rfl (lv_at hl 0 rfl) ?_
    refine lv_iload_n hx hb d_Answer_showRange_28 rfl (lv_at hl 2 rfl) ?_
    refine va_put (D := G.1) (cl := xCl) (ci := 7) (v := .int l2) (ty := .int) (C := R_Answer) (T := T_Answer) (N := 12) hx hb hu fi_Answer ty_Answer tyok_Answer nm_Answer hown hK hw (x_D hI _) hS 44 (x_at (by decide) (xcl_44 G s24)) rfl 11 (by decide) (hu _ mw_313) (fun _ h9 => h9) rfl (tyok_Answer 11 (by decide)) rfl rfl (Nat.le_of_ble_eq_true rfl) d_Answer_showRange_29 (fun H locs hw _ hS => ?_)
    replace hw := x_setR hw (by decide) rfl
    obtain ⟨s29, e29, hE⟩ := x_letE hE
    rw [← e29] at hw
    have e1 := Option.some.inj hE
    exact W.vret hx hb hr (fun t ht hW => ⟨rfl, by rw [ht, ← e1]; exact hw, hS.F ht⟩) hS.2.2 d_Answer_showRange_32
  have jn129 : ∀ (ls : Array Slot) (H : Heap) (locs : List Loc) (σ : St), x_Answer_showRange_129 o1 σ = some σ' → lv_has ls 3 [(0, .ref (G.2.1 44)), (1, .ref (G.2.1 o1))] → xw G σ H → va_S (xA G) s.heap H locs → W p l e (headSpec (ws_Answer_showRange) rm_Answer_showRange).room s m ([.ref (G.2.1 44), .ref (G.2.1 o1)] : List Value).toArray below meth c H locs 0 0 (MQ below (xQ G none σ') ([.ref (G.2.1 44), .ref (G.2.1 o1)] : List Value).toArray s 0 0 (xA G)) (F0 m 129 ls []) := by
    intro ls H locs σ hE hl hw hS
    unfold x_Answer_showRange_129 at hE
    refine lv_aload_n hx hb d_Answer_showRange_129 rfl (lv_at hl 0 rfl) ?_
    refine lv_aload_n hx hb d_Answer_showRange_130 rfl (lv_at hl 0 rfl) ?_
    refine va_get (D := G.1) (cl := xCl) (ci := 7) (v := .int (σ.1 44 10)) (C := R_Answer) (T := T_Answer) (N := 12) hx hb hu fi_Answer hown hK hw 44 (x_at (by decide) (xcl_44 G σ)) rfl 10 (by decide) (hu _ mw_311) (fun _ h9 => h9) rfl d_Answer_showRange_131 ?_
    refine lv_aload_n hx hb d_Answer_showRange_134 rfl (lv_at hl 0 rfl) ?_
    refine va_get (D := G.1) (cl := xCl) (ci := 7) (v := .int (σ.1 44 9)) (C := R_Answer) (T := T_Answer) (N := 12) hx hb hu fi_Answer hown hK hw 44 (x_at (by decide) (xcl_44 G σ)) rfl 9 (by decide) (hu _ mw_309) (fun _ h9 => h9) rfl d_Answer_showRange_135 ?_
    refine lv_isub hx hb d_Answer_showRange_138 ?_
    refine va_put (D := G.1) (cl := xCl) (ci := 7) (v := .int ((σ.1 44 10) - (σ.1 44 9))) (ty := .int) (C := R_Answer) (T := T_Answer) (N := 12) hx hb hu fi_Answer ty_Answer tyok_Answer nm_Answer hown hK hw (x_D hI _) hS 44 (x_at (by decide) (xcl_44 G σ)) rfl 7 (by decide) (hu _ mw_305) (fun _ h9 => h9) rfl (tyok_Answer 7 (by decide)) rfl rfl (Nat.le_of_ble_eq_true rfl) d_Answer_showRange_139 (fun H locs hw _ hS => ?_)
    replace hw := x_setR hw (by decide) rfl
    obtain ⟨s139, e139, hE⟩ := x_letE hE
    rw [← e139] at hw
    have e1 := Option.some.inj hE
    exact W.vret hx hb hr (fun t ht hW => ⟨rfl, by rw [ht, ← e1]; exact hw, hS.F ht⟩) hS.2.2 d_Answer_showRange_142
  have jn126 : ∀ (ls : Array Slot) (H : Heap) (locs : List Loc) (σ : St) (k0 : Int32), x_Answer_showRange_126 o1 k0 σ = some σ' → lv_has ls 3 [(0, .ref (G.2.1 44)), (1, .ref (G.2.1 o1))] → xw G σ H → va_S (xA G) s.heap H locs → W p l e (headSpec (ws_Answer_showRange) rm_Answer_showRange).room s m ([.ref (G.2.1 44), .ref (G.2.1 o1)] : List Value).toArray below meth c H locs 0 0 (MQ below (xQ G none σ') ([.ref (G.2.1 44), .ref (G.2.1 o1)] : List Value).toArray s 0 0 (xA G)) (F0 m 126 ls [.int k0, .ref (G.2.1 44)]) := by
    intro ls H locs σ k0 hE hl hw hS
    unfold x_Answer_showRange_126 at hE
    refine va_put (D := G.1) (cl := xCl) (ci := 7) (v := .int k0) (ty := .int) (C := R_Answer) (T := T_Answer) (N := 12) hx hb hu fi_Answer ty_Answer tyok_Answer nm_Answer hown hK hw (x_D hI _) hS 44 (x_at (by decide) (xcl_44 G σ)) rfl 10 (by decide) (hu _ mw_311) (fun _ h9 => h9) rfl (tyok_Answer 10 (by decide)) rfl rfl (Nat.le_of_ble_eq_true rfl) d_Answer_showRange_126 (fun H locs hw _ hS => ?_)
    replace hw := x_setR hw (by decide) rfl
    obtain ⟨s126, e126, hE⟩ := x_letE hE
    rw [← e126] at hw
    exact jn129 _ _ _ _ hE (lv_sub hl [0, 1] rfl) hw hS
  have hl := lv_entry ([.ref (G.2.1 44), .ref (G.2.1 o1)]) (n := 3) (Nat.le_of_ble_eq_true rfl)
  rw [lg_entry_eq]
  generalize (lg_sl ([.ref (G.2.1 44), .ref (G.2.1 o1)]) ++ List.replicate (3 - (lg_sl ([.ref (G.2.1 44), .ref (G.2.1 o1)])).length) Slot.unset).toArray = ls at hl ⊢
  have hl : lv_has ls 3 [(0, .ref (G.2.1 44)), (1, .ref (G.2.1 o1))] := hl
  unfold x_Answer_showRange at hE
  refine lv_aload_n hx hb d_Answer_showRange_0 rfl (lv_at hl 1 rfl) ?_
  refine va_getN (D := G.1) (cl := xCl) (ci := 0) (v := .int (σ.1 o1 1)) (C := R_Bytes) (T := T_Bytes) (N := 2) hx hb hu fi_Bytes hown hK hw o1 (x_at (xB_lt ho1) (xcl_B G σ (xB_s ho1))) rfl 1 (by decide) (nl_2 hG) (fun _ h9 => h9) rfl d_Answer_showRange_1 ?_
  refine lv_topi (fun v4 e4 => ?_)
  replace hE := x_letT e4 hE
  refine lv_istore_n hx hb d_Answer_showRange_4 rfl hl (by decide) rfl (fun ls hl => ?_)
  have hl : lv_has ls 3 [(2, .int v4), (0, .ref (G.2.1 44)), (1, .ref (G.2.1 o1))] := hl
  refine lv_iload_n hx hb d_Answer_showRange_5 rfl (lv_at hl 0 rfl) ?_
  refine lv_if_eq (tgt := 20) hx hb d_Answer_showRange_6 (by decide) (fun hc6 => ?_) (fun hc6 => ?_)
  · rw [if_pos hc6] at hE
    exact jn20 _ _ _ _ _ hE (lv_sub hl [1, 2, 0] rfl) hw hS
  · rw [if_neg hc6] at hE
    refine lv_aload_n hx hb d_Answer_showRange_9 rfl (lv_at hl 1 rfl) ?_
    refine va_get (D := G.1) (cl := xCl) (ci := 7) (v := .ref (G.2.1 45)) (C := R_Answer) (T := T_Answer) (N := 12) hx hb hu fi_Answer hown hK hw 44 (x_at (by decide) (xcl_44 G σ)) rfl 0 (by decide) (hu _ mw_292) (fun _ h9 => h9) rfl d_Answer_showRange_10 ?_
    refine va_getN (D := G.1) (cl := xCl) (ci := 6) (v := .int (σ.1 45 0)) (C := R_Range) (T := T_Range) (N := 2) hx hb hu fi_Range hown hK hw 45 (x_at (by decide) (xcl_45 G σ)) rfl 0 (by decide) (nl_35 hG) (fun _ h9 => h9) rfl d_Answer_showRange_13 ?_
    refine lv_iload_n hx hb d_Answer_showRange_16 rfl (lv_at hl 0 rfl) ?_
    refine lv_icmp_lt (tgt := 33) hx hb d_Answer_showRange_17 (by decide) (fun hc17 => ?_) (fun hc17 => ?_)
    · rw [if_pos hc17] at hE
      refine lv_aload_n hx hb d_Answer_showRange_33 rfl (lv_at hl 1 rfl) ?_
      refine lv_sipush (v := (206 : Int32)) hx hb d_Answer_showRange_34 (by decide) ?_
      obtain ⟨s37, hC37, hE⟩ := x_bind hE
      refine x_callV hS (W.runV (As := [.int (206 : Int32)]) (rest := []) ⟨hx, hb, hml, hown, hu⟩ (t_Answer_begin l G σ (206 : Int32) s37 hC37) (cwV 1 hu (uw_V mw_829 mw_830 mw_831 mw_67 mw_832) rfl rfl rfl hd_Answer_begin ⟨Nat.le_of_ble_eq_true rfl, Nat.le_of_ble_eq_true rfl⟩) (x_preV hC hS hw (va_recv hK hw (q := (R_Answer, T_Answer, 12)) (ci := 7) rfl (x_at (by decide) (xcl_44 G σ)))) rfl rfl hl.1 rfl (lv_room (Nat.le_of_ble_eq_true rfl)) d_Answer_showRange_37 ⟨Nat.le_of_ble_eq_true rfl, Nat.le_of_ble_eq_true rfl⟩) (fun H locs hw hS => ?_)
      refine lv_aload_n hx hb d_Answer_showRange_40 rfl (lv_at hl 1 rfl) ?_
      refine lv_iload_n hx hb d_Answer_showRange_41 rfl (lv_at hl 0 rfl) ?_
      refine va_put (D := G.1) (cl := xCl) (ci := 7) (v := .int v4) (ty := .int) (C := R_Answer) (T := T_Answer) (N := 12) hx hb hu fi_Answer ty_Answer tyok_Answer nm_Answer hown hK hw (x_D hI _) hS 44 (x_at (by decide) (xcl_44 G s37)) rfl 11 (by decide) (hu _ mw_313) (fun _ h9 => h9) rfl (tyok_Answer 11 (by decide)) rfl rfl (Nat.le_of_ble_eq_true rfl) d_Answer_showRange_42 (fun H locs hw _ hS => ?_)
      replace hw := x_setR hw (by decide) rfl
      obtain ⟨s42, e42, hE⟩ := x_letE hE
      rw [← e42] at hw
      refine lv_aload_n hx hb d_Answer_showRange_45 rfl (lv_at hl 1 rfl) ?_
      refine lv_aload_n hx hb d_Answer_showRange_46 rfl (lv_at hl 2 rfl) ?_
      refine va_put (D := G.1) (cl := xCl) (ci := 7) (v := .ref (G.2.1 o1)) (ty := ty_Answer 8) (C := R_Answer) (T := T_Answer) (N := 12) hx hb hu fi_Answer ty_Answer tyok_Answer nm_Answer hown hK hw (x_D hI _) hS 44 (x_at (by decide) (xcl_44 G s42)) rfl 8 (by decide) (hu _ mw_307) (fun _ h9 => h9) rfl (tyok_Answer 8 (by decide)) rfl rfl (Nat.le_of_ble_eq_true rfl) d_Answer_showRange_47 (fun H locs hw _ hS => ?_)
      replace hw := x_setB hw rfl
      obtain ⟨s47, e47, hE⟩ := x_letE hE
      rw [← e47] at hw
      refine lv_aload_n hx hb d_Answer_showRange_50 rfl (lv_at hl 1 rfl) ?_
      refine va_get (D := G.1) (cl := xCl) (ci := 7) (v := .ref (G.2.1 45)) (C := R_Answer) (T := T_Answer) (N := 12) hx hb hu fi_Answer hown hK hw 44 (x_at (by decide) (xcl_44 G s47)) rfl 0 (by decide) (hu _ mw_292) (fun _ h9 => h9) rfl d_Answer_showRange_51 ?_
      refine va_getN (D := G.1) (cl := xCl) (ci := 6) (v := .int (s47.1 45 0)) (C := R_Range) (T := T_Range) (N := 2) hx hb hu fi_Range hown hK hw 45 (x_at (by decide) (xcl_45 G s47)) rfl 0 (by decide) (nl_35 hG) (fun _ h9 => h9) rfl d_Answer_showRange_54 ?_
      refine lv_iconst (v := ((-1) : Int32)) hx hb d_Answer_showRange_57 (by decide) ?_
      refine lv_icmp_ne (tgt := 86) hx hb d_Answer_showRange_58 (by decide) (fun hc58 => ?_) (fun hc58 => ?_)
      · rw [if_neg hc58] at hE
        refine lv_aload_n hx hb d_Answer_showRange_86 rfl (lv_at hl 1 rfl) ?_
        refine lv_aload_n hx hb d_Answer_showRange_87 rfl (lv_at hl 1 rfl) ?_
        refine va_get (D := G.1) (cl := xCl) (ci := 7) (v := .ref (G.2.1 45)) (C := R_Answer) (T := T_Answer) (N := 12) hx hb hu fi_Answer hown hK hw 44 (x_at (by decide) (xcl_44 G s47)) rfl 0 (by decide) (hu _ mw_292) (fun _ h9 => h9) rfl d_Answer_showRange_88 ?_
        refine va_getN (D := G.1) (cl := xCl) (ci := 6) (v := .int (s47.1 45 0)) (C := R_Range) (T := T_Range) (N := 2) hx hb hu fi_Range hown hK hw 45 (x_at (by decide) (xcl_45 G s47)) rfl 0 (by decide) (nl_35 hG) (fun _ h9 => h9) rfl d_Answer_showRange_91 ?_
        refine va_put (D := G.1) (cl := xCl) (ci := 7) (v := .int (s47.1 45 0)) (ty := .int) (C := R_Answer) (T := T_Answer) (N := 12) hx hb hu fi_Answer ty_Answer tyok_Answer nm_Answer hown hK hw (x_D hI _) hS 44 (x_at (by decide) (xcl_44 G s47)) rfl 9 (by decide) (hu _ mw_309) (fun _ h9 => h9) rfl (tyok_Answer 9 (by decide)) rfl rfl (Nat.le_of_ble_eq_true rfl) d_Answer_showRange_94 (fun H locs hw _ hS => ?_)
        replace hw := x_setR hw (by decide) rfl
        obtain ⟨s94, e94, hE⟩ := x_letE hE
        rw [← e94] at hw
        refine lv_aload_n hx hb d_Answer_showRange_97 rfl (lv_at hl 1 rfl) ?_
        refine lv_aload_n hx hb d_Answer_showRange_98 rfl (lv_at hl 1 rfl) ?_
        refine va_get (D := G.1) (cl := xCl) (ci := 7) (v := .ref (G.2.1 45)) (C := R_Answer) (T := T_Answer) (N := 12) hx hb hu fi_Answer hown hK hw 44 (x_at (by decide) (xcl_44 G s94)) rfl 0 (by decide) (hu _ mw_292) (fun _ h9 => h9) rfl d_Answer_showRange_99 ?_
        refine va_getN (D := G.1) (cl := xCl) (ci := 6) (v := .int (s94.1 45 1)) (C := R_Range) (T := T_Range) (N := 2) hx hb hu fi_Range hown hK hw 45 (x_at (by decide) (xcl_45 G s94)) rfl 1 (by decide) (nl_36 hG) (fun _ h9 => h9) rfl d_Answer_showRange_102 ?_
        refine lv_iconst (v := ((-1) : Int32)) hx hb d_Answer_showRange_105 (by decide) ?_
        refine lv_icmp_ne (tgt := 113) hx hb d_Answer_showRange_106 (by decide) (fun hc106 => ?_) (fun hc106 => ?_)
        · rw [if_neg hc106] at hE
          refine lv_aload_n hx hb d_Answer_showRange_113 rfl (lv_at hl 1 rfl) ?_
          refine va_get (D := G.1) (cl := xCl) (ci := 7) (v := .ref (G.2.1 45)) (C := R_Answer) (T := T_Answer) (N := 12) hx hb hu fi_Answer hown hK hw 44 (x_at (by decide) (xcl_44 G s94)) rfl 0 (by decide) (hu _ mw_292) (fun _ h9 => h9) rfl d_Answer_showRange_114 ?_
          refine va_getN (D := G.1) (cl := xCl) (ci := 6) (v := .int (s94.1 45 1)) (C := R_Range) (T := T_Range) (N := 2) hx hb hu fi_Range hown hK hw 45 (x_at (by decide) (xcl_45 G s94)) rfl 1 (by decide) (nl_36 hG) (fun _ h9 => h9) rfl d_Answer_showRange_117 ?_
          refine lv_iconst (v := (1 : Int32)) hx hb d_Answer_showRange_120 (by decide) ?_
          refine lv_iadd hx hb d_Answer_showRange_121 ?_
          refine lv_iload_n hx hb d_Answer_showRange_122 rfl (lv_at hl 0 rfl) ?_
          refine va_mmin hx hb (hml.trans hl.1.symm) hown (hu _ mw_888) (hu _ mw_585) (hu _ mw_78) (hu _ mw_586) (Nat.le_of_ble_eq_true rfl) (Nat.le_of_ble_eq_true rfl) (Nat.le_of_ble_eq_true rfl) (Nat.le_of_ble_eq_true rfl) d_Answer_showRange_123 ?_
          exact jn126 _ _ _ _ _ hE (lv_sub hl [1, 2] rfl) hw hS
        · rw [if_pos hc106] at hE
          refine lv_iload_n hx hb d_Answer_showRange_109 rfl (lv_at hl 0 rfl) ?_
          refine lv_goto (tgt := 126) hx hb d_Answer_showRange_110 (by decide) ?_
          exact jn126 _ _ _ _ _ hE (lv_sub hl [1, 2] rfl) hw hS
      · rw [if_pos hc58] at hE
        refine lv_aload_n hx hb d_Answer_showRange_61 rfl (lv_at hl 1 rfl) ?_
        refine lv_iconst (v := (0 : Int32)) hx hb d_Answer_showRange_62 (by decide) ?_
        refine lv_iload_n hx hb d_Answer_showRange_63 rfl (lv_at hl 0 rfl) ?_
        refine lv_aload_n hx hb d_Answer_showRange_64 rfl (lv_at hl 1 rfl) ?_
        refine va_get (D := G.1) (cl := xCl) (ci := 7) (v := .ref (G.2.1 45)) (C := R_Answer) (T := T_Answer) (N := 12) hx hb hu fi_Answer hown hK hw 44 (x_at (by decide) (xcl_44 G s47)) rfl 0 (by decide) (hu _ mw_292) (fun _ h9 => h9) rfl d_Answer_showRange_65 ?_
        refine va_getN (D := G.1) (cl := xCl) (ci := 6) (v := .int (s47.1 45 1)) (C := R_Range) (T := T_Range) (N := 2) hx hb hu fi_Range hown hK hw 45 (x_at (by decide) (xcl_45 G s47)) rfl 1 (by decide) (nl_36 hG) (fun _ h9 => h9) rfl d_Answer_showRange_68 ?_
        refine lv_isub hx hb d_Answer_showRange_71 ?_
        refine va_mmax hx hb (hml.trans hl.1.symm) hown (hu _ mw_887) (hu _ mw_582) (hu _ mw_78) (hu _ mw_583) (Nat.le_of_ble_eq_true rfl) (Nat.le_of_ble_eq_true rfl) (Nat.le_of_ble_eq_true rfl) (Nat.le_of_ble_eq_true rfl) d_Answer_showRange_72 ?_
        refine va_put (D := G.1) (cl := xCl) (ci := 7) (v := .int (if (0 : Int32) < (v4 - (s47.1 45 1)) then (v4 - (s47.1 45 1)) else (0 : Int32))) (ty := .int) (C := R_Answer) (T := T_Answer) (N := 12) hx hb hu fi_Answer ty_Answer tyok_Answer nm_Answer hown hK hw (x_D hI _) hS 44 (x_at (by decide) (xcl_44 G s47)) rfl 9 (by decide) (hu _ mw_309) (fun _ h9 => h9) rfl (tyok_Answer 9 (by decide)) rfl rfl (Nat.le_of_ble_eq_true rfl) d_Answer_showRange_75 (fun H locs hw _ hS => ?_)
        replace hw := x_setR hw (by decide) rfl
        obtain ⟨s75, e75, hE⟩ := x_letE hE
        rw [← e75] at hw
        refine lv_aload_n hx hb d_Answer_showRange_78 rfl (lv_at hl 1 rfl) ?_
        refine lv_iload_n hx hb d_Answer_showRange_79 rfl (lv_at hl 0 rfl) ?_
        refine va_put (D := G.1) (cl := xCl) (ci := 7) (v := .int v4) (ty := .int) (C := R_Answer) (T := T_Answer) (N := 12) hx hb hu fi_Answer ty_Answer tyok_Answer nm_Answer hown hK hw (x_D hI _) hS 44 (x_at (by decide) (xcl_44 G s75)) rfl 10 (by decide) (hu _ mw_311) (fun _ h9 => h9) rfl (tyok_Answer 10 (by decide)) rfl rfl (Nat.le_of_ble_eq_true rfl) d_Answer_showRange_80 (fun H locs hw _ hS => ?_)
        replace hw := x_setR hw (by decide) rfl
        obtain ⟨s80, e80, hE⟩ := x_letE hE
        rw [← e80] at hw
        refine lv_goto (tgt := 129) hx hb d_Answer_showRange_83 (by decide) ?_
        exact jn129 _ _ _ _ hE (lv_sub hl [1, 2] rfl) hw hS
    · rw [if_neg hc17] at hE
      exact jn20 _ _ _ _ _ hE (lv_sub hl [1, 2, 0] rfl) hw hS

def y_Answer_read : MethodName := ⟨"PlainOrigin$Answer", "read", "(LPlainOrigin$Request;LPlainOrigin$Resource;)V"⟩
def ws_Answer_read : List Cond := Cond.code y_Answer_read prog_2_method_6_code 3 none :: UW
theorem hd_Answer_read : y_Answer_read.cls = R_Answer ∧ y_Answer_read.cls ≠ "java/lang/invoke/MethodHandle" ∧ y_Answer_read.cls ≠ "java/lang/invoke/VarHandle" ∧ (parseMethodDescriptor y_Answer_read.desc).map (fun d => d.parameters.length) = some 2 := by decide +kernel
theorem d_Answer_read_0 : decode prog_2_method_6_code 0 = .ok (.aload_n 2, 1) := by decide +kernel
theorem d_Answer_read_1 : decode prog_2_method_6_code 1 = .ok (.invokevirtual 124, 3) := by decide +kernel
theorem d_Answer_read_4 : decode prog_2_method_6_code 4 = .ok (.ifCond .ne (11), 3) := by decide +kernel
theorem d_Answer_read_7 : decode prog_2_method_6_code 7 = .ok (.aload_n 0, 1) := by decide +kernel
theorem d_Answer_read_8 : decode prog_2_method_6_code 8 = .ok (.sipush (404), 3) := by decide +kernel
theorem d_Answer_read_11 : decode prog_2_method_6_code 11 = .ok (.invokevirtual 67, 3) := by decide +kernel
theorem d_Answer_read_14 : decode prog_2_method_6_code 14 = .ok (.return_, 1) := by decide +kernel
theorem d_Answer_read_15 : decode prog_2_method_6_code 15 = .ok (.aload_n 0, 1) := by decide +kernel
theorem d_Answer_read_16 : decode prog_2_method_6_code 16 = .ok (.aload_n 1, 1) := by decide +kernel
theorem d_Answer_read_17 : decode prog_2_method_6_code 17 = .ok (.getfield 133, 3) := by decide +kernel
theorem d_Answer_read_20 : decode prog_2_method_6_code 20 = .ok (.aload_n 2, 1) := by decide +kernel
theorem d_Answer_read_21 : decode prog_2_method_6_code 21 = .ok (.getfield 137, 3) := by decide +kernel
theorem d_Answer_read_24 : decode prog_2_method_6_code 24 = .ok (.invokevirtual 138, 3) := by decide +kernel
theorem d_Answer_read_27 : decode prog_2_method_6_code 27 = .ok (.ifCond .eq (13), 3) := by decide +kernel
theorem d_Answer_read_30 : decode prog_2_method_6_code 30 = .ok (.aload_n 0, 1) := by decide +kernel
theorem d_Answer_read_31 : decode prog_2_method_6_code 31 = .ok (.sipush (304), 3) := by decide +kernel
theorem d_Answer_read_34 : decode prog_2_method_6_code 34 = .ok (.invokevirtual 67, 3) := by decide +kernel
theorem d_Answer_read_37 : decode prog_2_method_6_code 37 = .ok (.goto (50), 3) := by decide +kernel
theorem d_Answer_read_40 : decode prog_2_method_6_code 40 = .ok (.aload_n 1, 1) := by decide +kernel
theorem d_Answer_read_41 : decode prog_2_method_6_code 41 = .ok (.getfield 53, 3) := by decide +kernel
theorem d_Answer_read_44 : decode prog_2_method_6_code 44 = .ok (.getstatic 70, 3) := by decide +kernel
theorem d_Answer_read_47 : decode prog_2_method_6_code 47 = .ok (.if_acmp .ne (28), 3) := by decide +kernel
theorem d_Answer_read_50 : decode prog_2_method_6_code 50 = .ok (.aload_n 0, 1) := by decide +kernel
theorem d_Answer_read_51 : decode prog_2_method_6_code 51 = .ok (.getfield 12, 3) := by decide +kernel
theorem d_Answer_read_54 : decode prog_2_method_6_code 54 = .ok (.aload_n 1, 1) := by decide +kernel
theorem d_Answer_read_55 : decode prog_2_method_6_code 55 = .ok (.getfield 133, 3) := by decide +kernel
theorem d_Answer_read_58 : decode prog_2_method_6_code 58 = .ok (.invokevirtual 142, 3) := by decide +kernel
theorem d_Answer_read_61 : decode prog_2_method_6_code 61 = .ok (.ifCond .eq (14), 3) := by decide +kernel
theorem d_Answer_read_64 : decode prog_2_method_6_code 64 = .ok (.aload_n 0, 1) := by decide +kernel
theorem d_Answer_read_65 : decode prog_2_method_6_code 65 = .ok (.aload_n 2, 1) := by decide +kernel
theorem d_Answer_read_66 : decode prog_2_method_6_code 66 = .ok (.getfield 146, 3) := by decide +kernel
theorem d_Answer_read_69 : decode prog_2_method_6_code 69 = .ok (.invokevirtual 149, 3) := by decide +kernel
theorem d_Answer_read_72 : decode prog_2_method_6_code 72 = .ok (.goto (15), 3) := by decide +kernel
theorem d_Answer_read_75 : decode prog_2_method_6_code 75 = .ok (.aload_n 0, 1) := by decide +kernel
theorem d_Answer_read_76 : decode prog_2_method_6_code 76 = .ok (.aload_n 1, 1) := by decide +kernel
theorem d_Answer_read_77 : decode prog_2_method_6_code 77 = .ok (.getfield 53, 3) := by decide +kernel
theorem d_Answer_read_80 : decode prog_2_method_6_code 80 = .ok (.aload_n 2, 1) := by decide +kernel
theorem d_Answer_read_81 : decode prog_2_method_6_code 81 = .ok (.getfield 146, 3) := by decide +kernel
theorem d_Answer_read_84 : decode prog_2_method_6_code 84 = .ok (.invokevirtual 92, 3) := by decide +kernel
theorem d_Answer_read_87 : decode prog_2_method_6_code 87 = .ok (.aload_n 0, 1) := by decide +kernel
theorem d_Answer_read_88 : decode prog_2_method_6_code 88 = .ok (.aload_n 0, 1) := by decide +kernel
theorem d_Answer_read_89 : decode prog_2_method_6_code 89 = .ok (.getfield 30, 3) := by decide +kernel
theorem d_Answer_read_92 : decode prog_2_method_6_code 92 = .ok (.sipush (416), 3) := by decide +kernel
theorem d_Answer_read_95 : decode prog_2_method_6_code 95 = .ok (.if_icmp .ne (7), 3) := by decide +kernel
theorem d_Answer_read_98 : decode prog_2_method_6_code 98 = .ok (.iconst (-1), 1) := by decide +kernel
theorem d_Answer_read_99 : decode prog_2_method_6_code 99 = .ok (.goto (7), 3) := by decide +kernel
theorem d_Answer_read_102 : decode prog_2_method_6_code 102 = .ok (.aload_n 2, 1) := by decide +kernel
theorem d_Answer_read_103 : decode prog_2_method_6_code 103 = .ok (.getfield 137, 3) := by decide +kernel
theorem d_Answer_read_106 : decode prog_2_method_6_code 106 = .ok (.putfield 34, 3) := by decide +kernel
theorem d_Answer_read_109 : decode prog_2_method_6_code 109 = .ok (.return_, 1) := by decide +kernel
def x_Answer_read_87 (o2 : Nat) (σ : St) : Option St := (if (σ.1 44 2) = (416 : Int32) then (x_let (x_updR σ 44 3 ((-1) : Int32)) (fun (s106 : St) => some s106)) else (x_let (x_updR σ 44 3 (σ.1 o2 1)) (fun (s106 : St) => some s106)))
def x_Answer_read_75 (o2 : Nat) (σ : St) : Option St := (Option.bind (x_Answer_show σ.2.2.2.1 (o2 + 1) σ) (fun s84 => x_Answer_read_87 o2 s84))
def x_Answer_read (o2 : Nat) (σ : St) : Option St := (Option.bind (x_Resource_isThere o2 σ) (fun r1 => (if r1 = 0 then (Option.bind (x_Answer_begin (404 : Int32) σ) (fun s11 => some s11)) else (x_bind2 (x_Answer_isKnown (σ.1 o2 1) σ) (fun r24 s24 => (if r24 = 0 then (if x_e7 s24.2.2.2.1 then (if s24.2.2.2.1 = (some 0) then (x_bind2 (x_Range_take s24) (fun r58 s58 => (if r58 = 0 then x_Answer_read_75 o2 s58 else (Option.bind (x_Answer_showRange (o2 + 1) s58) (fun s69 => x_Answer_read_87 o2 s69))))) else x_Answer_read_75 o2 s24) else none) else (Option.bind (x_Answer_begin (304 : Int32) s24) (fun s34 => x_Answer_read_87 o2 s34))))))))
abbrev rm_Answer_read : Room := { frames := 7, cells := 0, slots := 0, locals := 158 }
set_option maxHeartbeats 4000000 in
set_option maxRecDepth 100000 in
theorem t_Answer_read (l : Launch) (G : xG) (σ : St) (o2 : Nat) (ho2 : xS o2) (σ' : St) (hE : x_Answer_read o2 σ = some σ') : Met l y_Answer_read (ws_Answer_read) rm_Answer_read (xP G σ [.ref (G.2.1 44), .ref (G.2.1 30), .ref (G.2.1 o2)]) (xQ G none σ') 0 0 (xA G) := by
  refine Met.ofW (cc := prog_2_method_6_code) (maxL := 3) (ret := none) (by decide) rfl ?_
  intro p e s m args below meth c s₁ B hml hv
  obtain ⟨rfl, hw, hC⟩ := hv
  have hx := B.exec
  have hb := B.bytes
  have hr := B.returns
  have hu : ∀ w ∈ UW, w.before _ s = true := fun w h => atoms_spec B.pre w (List.mem_cons_of_mem _ h)
  have hown : s.vm.findClass R_Answer = some m.cls := findClass_of_methodNamed B.named
  have hlocks := B.notSynchronized
  have hK := hC.1
  have hI := hC.2.1
  have hG := hC.2.2.1
  have hN := hC.2.2.2
  have hS : va_S (xA G) s.heap s.heap [] := va_S.rf
  have jn87 : ∀ (ls : Array Slot) (H : Heap) (locs : List Loc) (σ : St), x_Answer_read_87 o2 σ = some σ' → lv_has ls 3 [(0, .ref (G.2.1 44)), (1, .ref (G.2.1 30)), (2, .ref (G.2.1 o2))] → xw G σ H → va_S (xA G) s.heap H locs → W p l e (headSpec (ws_Answer_read) rm_Answer_read).room s m ([.ref (G.2.1 44), .ref (G.2.1 30), .ref (G.2.1 o2)] : List Value).toArray below meth c H locs 0 0 (MQ below (xQ G none σ') ([.ref (G.2.1 44), .ref (G.2.1 30), .ref (G.2.1 o2)] : List Value).toArray s 0 0 (xA G)) (F0 m 87 ls []) := by
    intro ls H locs σ hE hl hw hS
    unfold x_Answer_read_87 at hE
    refine lv_aload_n hx hb d_Answer_read_87 rfl (lv_at hl 0 rfl) ?_
    refine lv_aload_n hx hb d_Answer_read_88 rfl (lv_at hl 0 rfl) ?_
    refine va_get (D := G.1) (cl := xCl) (ci := 7) (v := .int (σ.1 44 2)) (C := R_Answer) (T := T_Answer) (N := 12) hx hb hu fi_Answer hown hK hw 44 (x_at (by decide) (xcl_44 G σ)) rfl 2 (by decide) (hu _ mw_294) (fun _ h9 => h9) rfl d_Answer_read_89 ?_
    refine lv_sipush (v := (416 : Int32)) hx hb d_Answer_read_92 (by decide) ?_
    refine lv_icmp_ne (tgt := 102) hx hb d_Answer_read_95 (by decide) (fun hc95 => ?_) (fun hc95 => ?_)
    · rw [if_neg hc95] at hE
      refine lv_aload_n hx hb d_Answer_read_102 rfl (lv_at hl 2 rfl) ?_
      refine va_getN (D := G.1) (cl := xCl) (ci := 4) (v := .int (σ.1 o2 1)) (C := R_Resource) (T := T_Resource) (N := 2) hx hb hu fi_Resource hown hK hw o2 (x_at (xS_lt ho2) (xcl_S G σ (xS_s ho2))) rfl 1 (by decide) (nl_11 hG) (fun _ h9 => h9) rfl d_Answer_read_103 ?_
      refine va_put (D := G.1) (cl := xCl) (ci := 7) (v := .int (σ.1 o2 1)) (ty := .int) (C := R_Answer) (T := T_Answer) (N := 12) hx hb hu fi_Answer ty_Answer tyok_Answer nm_Answer hown hK hw (x_D hI _) hS 44 (x_at (by decide) (xcl_44 G σ)) rfl 3 (by decide) (hu _ mw_297) (fun _ h9 => h9) rfl (tyok_Answer 3 (by decide)) rfl rfl (Nat.le_of_ble_eq_true rfl) d_Answer_read_106 (fun H locs hw _ hS => ?_)
      replace hw := x_setR hw (by decide) rfl
      obtain ⟨s106, e106, hE⟩ := x_letE hE
      rw [← e106] at hw
      have e1 := Option.some.inj hE
      exact W.vret hx hb hr (fun t ht hW => ⟨rfl, by rw [ht, ← e1]; exact hw, hS.F ht⟩) hS.2.2 d_Answer_read_109
    · rw [if_pos hc95] at hE
      refine lv_iconst (v := ((-1) : Int32)) hx hb d_Answer_read_98 (by decide) ?_
      refine lv_goto (tgt := 106) hx hb d_Answer_read_99 (by decide) ?_
      refine va_put (D := G.1) (cl := xCl) (ci := 7) (v := .int ((-1) : Int32)) (ty := .int) (C := R_Answer) (T := T_Answer) (N := 12) hx hb hu fi_Answer ty_Answer tyok_Answer nm_Answer hown hK hw (x_D hI _) hS 44 (x_at (by decide) (xcl_44 G σ)) rfl 3 (by decide) (hu _ mw_297) (fun _ h9 => h9) rfl (tyok_Answer 3 (by decide)) rfl rfl (Nat.le_of_ble_eq_true rfl) d_Answer_read_106 (fun H locs hw _ hS => ?_)
      replace hw := x_setR hw (by decide) rfl
      obtain ⟨s106, e106, hE⟩ := x_letE hE
      rw [← e106] at hw
      have e1 := Option.some.inj hE
      exact W.vret hx hb hr (fun t ht hW => ⟨rfl, by rw [ht, ← e1]; exact hw, hS.F ht⟩) hS.2.2 d_Answer_read_109
  have jn75 : ∀ (ls : Array Slot) (H : Heap) (locs : List Loc) (σ : St), x_Answer_read_75 o2 σ = some σ' → lv_has ls 3 [(0, .ref (G.2.1 44)), (1, .ref (G.2.1 30)), (2, .ref (G.2.1 o2))] → xw G σ H → va_S (xA G) s.heap H locs → W p l e (headSpec (ws_Answer_read) rm_Answer_read).room s m ([.ref (G.2.1 44), .ref (G.2.1 30), .ref (G.2.1 o2)] : List Value).toArray below meth c H locs 0 0 (MQ below (xQ G none σ') ([.ref (G.2.1 44), .ref (G.2.1 30), .ref (G.2.1 o2)] : List Value).toArray s 0 0 (xA G)) (F0 m 75 ls []) := by
    intro ls H locs σ hE hl hw hS
    unfold x_Answer_read_75 at hE
    refine lv_aload_n hx hb d_Answer_read_75 rfl (lv_at hl 0 rfl) ?_
    refine lv_aload_n hx hb d_Answer_read_76 rfl (lv_at hl 1 rfl) ?_
    refine va_getN (D := G.1) (cl := xCl) (ci := 2) (v := va_re G.2.2.2.2.1 σ.2.2.2.1) (C := R_Request) (T := T_Request) (N := 9) hx hb hu fi_Request hown hK hw 30 (x_at (by decide) (xcl_30 G σ)) rfl 3 (by decide) (nl_28 hG) (fun _ h9 => h9) rfl d_Answer_read_77 ?_
    refine lv_aload_n hx hb d_Answer_read_80 rfl (lv_at hl 2 rfl) ?_
    refine va_getN (D := G.1) (cl := xCl) (ci := 4) (v := .ref (G.2.1 (o2 + 1))) (C := R_Resource) (T := T_Resource) (N := 2) hx hb hu fi_Resource hown hK hw o2 (x_at (xS_lt ho2) (xcl_S G σ (xS_s ho2))) rfl 0 (by decide) (nl_8 hG) (fun _ h9 => h9) rfl d_Answer_read_81 ?_
    obtain ⟨s84, hC84, hE⟩ := x_bind hE
    refine x_callV hS (W.runV (As := [va_re G.2.2.2.2.1 σ.2.2.2.1, .ref (G.2.1 (o2 + 1))]) (rest := []) ⟨hx, hb, hml, hown, hu⟩ (t_Answer_show l G σ σ.2.2.2.1 (o2 + 1) (xS_b ho2) s84 hC84) (cwV 2 hu (uw_V mw_852 mw_854 mw_12 mw_67 mw_855) rfl rfl rfl hd_Answer_show ⟨Nat.le_of_ble_eq_true rfl, Nat.le_of_ble_eq_true rfl⟩) (x_preV hC hS hw (va_recv hK hw (q := (R_Answer, T_Answer, 12)) (ci := 7) rfl (x_at (by decide) (xcl_44 G σ)))) rfl rfl hl.1 rfl (lv_room (Nat.le_of_ble_eq_true rfl)) d_Answer_read_84 ⟨Nat.le_of_ble_eq_true rfl, Nat.le_of_ble_eq_true rfl⟩) (fun H locs hw hS => ?_)
    exact jn87 _ _ _ _ hE (lv_sub hl [0, 1, 2] rfl) hw hS
  have hl := lv_entry ([.ref (G.2.1 44), .ref (G.2.1 30), .ref (G.2.1 o2)]) (n := 3) (Nat.le_of_ble_eq_true rfl)
  rw [lg_entry_eq]
  generalize (lg_sl ([.ref (G.2.1 44), .ref (G.2.1 30), .ref (G.2.1 o2)]) ++ List.replicate (3 - (lg_sl ([.ref (G.2.1 44), .ref (G.2.1 30), .ref (G.2.1 o2)])).length) Slot.unset).toArray = ls at hl ⊢
  have hl : lv_has ls 3 [(0, .ref (G.2.1 44)), (1, .ref (G.2.1 30)), (2, .ref (G.2.1 o2))] := hl
  unfold x_Answer_read at hE
  refine lv_aload_n hx hb d_Answer_read_0 rfl (lv_at hl 2 rfl) ?_
  obtain ⟨r1, hC1, hE⟩ := x_bind hE
  refine x_callR (W.runV (As := []) (rest := []) ⟨hx, hb, hml, hown, hu⟩ (t_Resource_isThere l G σ o2 ho2 r1 hC1) (cwV 0 hu (uw_V mw_847 mw_848 mw_849 mw_62 mw_850) rfl rfl rfl hd_Resource_isThere ⟨Nat.le_of_ble_eq_true rfl, Nat.le_of_ble_eq_true rfl⟩) (x_preV hC hS hw (va_recv hK hw (q := (R_Resource, T_Resource, 2)) (ci := 4) rfl (x_at (xS_lt ho2) (xcl_S G σ (xS_s ho2))))) rfl rfl hl.1 rfl (lv_room (Nat.le_of_ble_eq_true rfl)) d_Answer_read_1 ⟨Nat.le_of_ble_eq_true rfl, Nat.le_of_ble_eq_true rfl⟩) ?_
  refine lv_if_ne (tgt := 15) hx hb d_Answer_read_4 (by decide) (fun hc4 => ?_) (fun hc4 => ?_)
  · rw [if_neg hc4] at hE
    refine lv_aload_n hx hb d_Answer_read_15 rfl (lv_at hl 0 rfl) ?_
    refine lv_aload_n hx hb d_Answer_read_16 rfl (lv_at hl 1 rfl) ?_
    refine va_getN (D := G.1) (cl := xCl) (ci := 2) (v := .ref (G.2.1 31)) (C := R_Request) (T := T_Request) (N := 9) hx hb hu fi_Request hown hK hw 30 (x_at (by decide) (xcl_30 G σ)) rfl 0 (by decide) (nl_23 hG) (fun _ h9 => h9) rfl d_Answer_read_17 ?_
    refine lv_aload_n hx hb d_Answer_read_20 rfl (lv_at hl 2 rfl) ?_
    refine va_getN (D := G.1) (cl := xCl) (ci := 4) (v := .int (σ.1 o2 1)) (C := R_Resource) (T := T_Resource) (N := 2) hx hb hu fi_Resource hown hK hw o2 (x_at (xS_lt ho2) (xcl_S G σ (xS_s ho2))) rfl 1 (by decide) (nl_11 hG) (fun _ h9 => h9) rfl d_Answer_read_21 ?_
    obtain ⟨r24, s24, hC24, hE⟩ := x_bind2E hE
    refine x_callS hS (W.runV (As := [.ref (G.2.1 31), .int (σ.1 o2 1)]) (rest := []) ⟨hx, hb, hml, hown, hu⟩ (t_Answer_isKnown l G σ (σ.1 o2 1) r24 s24 hC24) (cwV 2 hu (uw_V mw_860 mw_862 mw_14 mw_67 mw_863) rfl rfl rfl hd_Answer_isKnown ⟨Nat.le_of_ble_eq_true rfl, Nat.le_of_ble_eq_true rfl⟩) (x_preV hC hS hw (va_recv hK hw (q := (R_Answer, T_Answer, 12)) (ci := 7) rfl (x_at (by decide) (xcl_44 G σ)))) rfl rfl hl.1 rfl (lv_room (Nat.le_of_ble_eq_true rfl)) d_Answer_read_24 ⟨Nat.le_of_ble_eq_true rfl, Nat.le_of_ble_eq_true rfl⟩) (fun H locs hw hS => ?_)
    refine lv_if_eq (tgt := 40) hx hb d_Answer_read_27 (by decide) (fun hc27 => ?_) (fun hc27 => ?_)
    · rw [if_pos hc27] at hE
      refine lv_aload_n hx hb d_Answer_read_40 rfl (lv_at hl 1 rfl) ?_
      refine va_getN (D := G.1) (cl := xCl) (ci := 2) (v := va_re G.2.2.2.2.1 s24.2.2.2.1) (C := R_Request) (T := T_Request) (N := 9) hx hb hu fi_Request hown hK hw 30 (x_at (by decide) (xcl_30 G s24)) rfl 3 (by decide) (nl_28 hG) (fun _ h9 => h9) rfl d_Answer_read_41 ?_
      refine va_gets (v := va_re G.2.2.2.2.1 (some 0)) hx hb (hN.2.2.2.2.1 0 (by decide)).1 hS hown (hu _ mw_833) (fun _ h9 => h9) d_Answer_read_44 ?_
      obtain ⟨q47_1, hE⟩ := x_guard hE
      refine x_acmp_ne (tgt := 75) hx hb hN.2.2.2.2.2.1 q47_1 (by decide) d_Answer_read_47 (by decide) (fun hc47 => ?_) (fun hc47 => ?_)
      · rw [if_neg hc47] at hE
        exact jn75 _ _ _ _ hE (lv_sub hl [0, 1, 2] rfl) hw hS
      · rw [if_pos hc47] at hE
        refine lv_aload_n hx hb d_Answer_read_50 rfl (lv_at hl 0 rfl) ?_
        refine va_get (D := G.1) (cl := xCl) (ci := 7) (v := .ref (G.2.1 45)) (C := R_Answer) (T := T_Answer) (N := 12) hx hb hu fi_Answer hown hK hw 44 (x_at (by decide) (xcl_44 G s24)) rfl 0 (by decide) (hu _ mw_292) (fun _ h9 => h9) rfl d_Answer_read_51 ?_
        refine lv_aload_n hx hb d_Answer_read_54 rfl (lv_at hl 1 rfl) ?_
        refine va_getN (D := G.1) (cl := xCl) (ci := 2) (v := .ref (G.2.1 31)) (C := R_Request) (T := T_Request) (N := 9) hx hb hu fi_Request hown hK hw 30 (x_at (by decide) (xcl_30 G s24)) rfl 0 (by decide) (nl_23 hG) (fun _ h9 => h9) rfl d_Answer_read_55 ?_
        obtain ⟨r58, s58, hC58, hE⟩ := x_bind2E hE
        refine x_callS hS (W.runV (As := [.ref (G.2.1 31)]) (rest := []) ⟨hx, hb, hml, hown, hu⟩ (t_Range_take l G s24 r58 s58 hC58) (cwV 1 hu (uw_V mw_872 mw_873 mw_874 mw_68 mw_875) rfl rfl rfl hd_Range_take ⟨Nat.le_of_ble_eq_true rfl, Nat.le_of_ble_eq_true rfl⟩) (x_preV hC hS hw (va_recv hK hw (q := (R_Range, T_Range, 2)) (ci := 6) rfl (x_at (by decide) (xcl_45 G s24)))) rfl rfl hl.1 rfl (lv_room (Nat.le_of_ble_eq_true rfl)) d_Answer_read_58 ⟨Nat.le_of_ble_eq_true rfl, Nat.le_of_ble_eq_true rfl⟩) (fun H locs hw hS => ?_)
        refine lv_if_eq (tgt := 75) hx hb d_Answer_read_61 (by decide) (fun hc61 => ?_) (fun hc61 => ?_)
        · rw [if_pos hc61] at hE
          exact jn75 _ _ _ _ hE (lv_sub hl [0, 1, 2] rfl) hw hS
        · rw [if_neg hc61] at hE
          refine lv_aload_n hx hb d_Answer_read_64 rfl (lv_at hl 0 rfl) ?_
          refine lv_aload_n hx hb d_Answer_read_65 rfl (lv_at hl 2 rfl) ?_
          refine va_getN (D := G.1) (cl := xCl) (ci := 4) (v := .ref (G.2.1 (o2 + 1))) (C := R_Resource) (T := T_Resource) (N := 2) hx hb hu fi_Resource hown hK hw o2 (x_at (xS_lt ho2) (xcl_S G s58 (xS_s ho2))) rfl 0 (by decide) (nl_8 hG) (fun _ h9 => h9) rfl d_Answer_read_66 ?_
          obtain ⟨s69, hC69, hE⟩ := x_bind hE
          refine x_callV hS (W.runV (As := [.ref (G.2.1 (o2 + 1))]) (rest := []) ⟨hx, hb, hml, hown, hu⟩ (t_Answer_showRange l G s58 (o2 + 1) (xS_b ho2) s69 hC69) (cwV 1 hu (uw_V mw_883 mw_885 mw_15 mw_67 mw_886) rfl rfl rfl hd_Answer_showRange ⟨Nat.le_of_ble_eq_true rfl, Nat.le_of_ble_eq_true rfl⟩) (x_preV hC hS hw (va_recv hK hw (q := (R_Answer, T_Answer, 12)) (ci := 7) rfl (x_at (by decide) (xcl_44 G s58)))) rfl rfl hl.1 rfl (lv_room (Nat.le_of_ble_eq_true rfl)) d_Answer_read_69 ⟨Nat.le_of_ble_eq_true rfl, Nat.le_of_ble_eq_true rfl⟩) (fun H locs hw hS => ?_)
          refine lv_goto (tgt := 87) hx hb d_Answer_read_72 (by decide) ?_
          exact jn87 _ _ _ _ hE (lv_sub hl [0, 1, 2] rfl) hw hS
    · rw [if_neg hc27] at hE
      refine lv_aload_n hx hb d_Answer_read_30 rfl (lv_at hl 0 rfl) ?_
      refine lv_sipush (v := (304 : Int32)) hx hb d_Answer_read_31 (by decide) ?_
      obtain ⟨s34, hC34, hE⟩ := x_bind hE
      refine x_callV hS (W.runV (As := [.int (304 : Int32)]) (rest := []) ⟨hx, hb, hml, hown, hu⟩ (t_Answer_begin l G s24 (304 : Int32) s34 hC34) (cwV 1 hu (uw_V mw_829 mw_830 mw_831 mw_67 mw_832) rfl rfl rfl hd_Answer_begin ⟨Nat.le_of_ble_eq_true rfl, Nat.le_of_ble_eq_true rfl⟩) (x_preV hC hS hw (va_recv hK hw (q := (R_Answer, T_Answer, 12)) (ci := 7) rfl (x_at (by decide) (xcl_44 G s24)))) rfl rfl hl.1 rfl (lv_room (Nat.le_of_ble_eq_true rfl)) d_Answer_read_34 ⟨Nat.le_of_ble_eq_true rfl, Nat.le_of_ble_eq_true rfl⟩) (fun H locs hw hS => ?_)
      refine lv_goto (tgt := 87) hx hb d_Answer_read_37 (by decide) ?_
      exact jn87 _ _ _ _ hE (lv_sub hl [0, 1, 2] rfl) hw hS
  · rw [if_pos hc4] at hE
    refine lv_aload_n hx hb d_Answer_read_7 rfl (lv_at hl 0 rfl) ?_
    refine lv_sipush (v := (404 : Int32)) hx hb d_Answer_read_8 (by decide) ?_
    obtain ⟨s11, hC11, hE⟩ := x_bind hE
    refine x_callV hS (W.runV (As := [.int (404 : Int32)]) (rest := []) ⟨hx, hb, hml, hown, hu⟩ (t_Answer_begin l G σ (404 : Int32) s11 hC11) (cwV 1 hu (uw_V mw_829 mw_830 mw_831 mw_67 mw_832) rfl rfl rfl hd_Answer_begin ⟨Nat.le_of_ble_eq_true rfl, Nat.le_of_ble_eq_true rfl⟩) (x_preV hC hS hw (va_recv hK hw (q := (R_Answer, T_Answer, 12)) (ci := 7) rfl (x_at (by decide) (xcl_44 G σ)))) rfl rfl hl.1 rfl (lv_room (Nat.le_of_ble_eq_true rfl)) d_Answer_read_11 ⟨Nat.le_of_ble_eq_true rfl, Nat.le_of_ble_eq_true rfl⟩) (fun H locs hw hS => ?_)
    have e1 := Option.some.inj hE
    exact W.vret hx hb hr (fun t ht hW => ⟨rfl, by rw [ht, ← e1]; exact hw, hS.F ht⟩) hS.2.2 d_Answer_read_14

def y_Answer_list : MethodName := ⟨"PlainOrigin$Answer", "list", "(LPlainOrigin$Site;)V"⟩
def ws_Answer_list : List Cond := Cond.code y_Answer_list prog_2_method_4_code 3 none :: UW
theorem hd_Answer_list : y_Answer_list.cls = R_Answer ∧ y_Answer_list.cls ≠ "java/lang/invoke/MethodHandle" ∧ y_Answer_list.cls ≠ "java/lang/invoke/VarHandle" ∧ (parseMethodDescriptor y_Answer_list.desc).map (fun d => d.parameters.length) = some 1 := by decide +kernel
theorem d_Answer_list_0 : decode prog_2_method_4_code 0 = .ok (.aload_n 0, 1) := by decide +kernel
theorem d_Answer_list_1 : decode prog_2_method_4_code 1 = .ok (.getfield 23, 3) := by decide +kernel
theorem d_Answer_list_4 : decode prog_2_method_4_code 4 = .ok (.invokevirtual 117, 3) := by decide +kernel
theorem d_Answer_list_7 : decode prog_2_method_4_code 7 = .ok (.iconst 0, 1) := by decide +kernel
theorem d_Answer_list_8 : decode prog_2_method_4_code 8 = .ok (.istore_n 2, 1) := by decide +kernel
theorem d_Answer_list_9 : decode prog_2_method_4_code 9 = .ok (.iload_n 2, 1) := by decide +kernel
theorem d_Answer_list_10 : decode prog_2_method_4_code 10 = .ok (.bipush (8), 2) := by decide +kernel
theorem d_Answer_list_12 : decode prog_2_method_4_code 12 = .ok (.if_icmp .ge (32), 3) := by decide +kernel
theorem d_Answer_list_15 : decode prog_2_method_4_code 15 = .ok (.aload_n 1, 1) := by decide +kernel
theorem d_Answer_list_16 : decode prog_2_method_4_code 16 = .ok (.getfield 120, 3) := by decide +kernel
theorem d_Answer_list_19 : decode prog_2_method_4_code 19 = .ok (.iload_n 2, 1) := by decide +kernel
theorem d_Answer_list_20 : decode prog_2_method_4_code 20 = .ok (.aaload, 1) := by decide +kernel
theorem d_Answer_list_21 : decode prog_2_method_4_code 21 = .ok (.invokevirtual 124, 3) := by decide +kernel
theorem d_Answer_list_24 : decode prog_2_method_4_code 24 = .ok (.ifCond .eq (14), 3) := by decide +kernel
theorem d_Answer_list_27 : decode prog_2_method_4_code 27 = .ok (.aload_n 0, 1) := by decide +kernel
theorem d_Answer_list_28 : decode prog_2_method_4_code 28 = .ok (.getfield 23, 3) := by decide +kernel
theorem d_Answer_list_31 : decode prog_2_method_4_code 31 = .ok (.bipush (97), 2) := by decide +kernel
theorem d_Answer_list_33 : decode prog_2_method_4_code 33 = .ok (.iload_n 2, 1) := by decide +kernel
theorem d_Answer_list_34 : decode prog_2_method_4_code 34 = .ok (.iadd, 1) := by decide +kernel
theorem d_Answer_list_35 : decode prog_2_method_4_code 35 = .ok (.invokevirtual 130, 3) := by decide +kernel
theorem d_Answer_list_38 : decode prog_2_method_4_code 38 = .ok (.iinc 2 (1), 3) := by decide +kernel
theorem d_Answer_list_41 : decode prog_2_method_4_code 41 = .ok (.goto (-32), 3) := by decide +kernel
theorem d_Answer_list_44 : decode prog_2_method_4_code 44 = .ok (.return_, 1) := by decide +kernel
def x_Answer_list_38 (bk9 : Int32 → St → Option St) (l2 : Int32) (σ : St) : Option St := (x_let (l2 + (1 : Int32)) (fun (v38 : Int32) => bk9 v38 σ))
def x_Answer_list_9 : Nat → Int32 → St → Option St
  | 0, _, _ => none
  | n + 1, l2, σ => (if (8 : Int32) ≤ l2 then some σ else (if x_in l2 8 then (if xS (3 + 3 * l2.toNatClampNeg) then (Option.bind (x_Resource_isThere (3 + 3 * l2.toNatClampNeg) σ) (fun r21 => (if r21 = 0 then x_Answer_list_38 (x_Answer_list_9 n) l2 σ else (Option.bind (x_Bytes_add 46 ((97 : Int32) + l2) σ) (fun s35 => x_Answer_list_38 (x_Answer_list_9 n) l2 s35))))) else none) else none))
def x_Answer_list (σ : St) : Option St := (Option.bind (x_Bytes_clear 46 σ) (fun s4 => x_Answer_list_9 x_fuel (0 : Int32) s4))
abbrev rm_Answer_list : Room := { frames := 1, cells := 0, slots := 0, locals := 21 }
set_option maxHeartbeats 4000000 in
set_option maxRecDepth 100000 in
theorem t_Answer_list (l : Launch) (G : xG) (σ : St) (σ' : St) (hE : x_Answer_list σ = some σ') : Met l y_Answer_list (ws_Answer_list) rm_Answer_list (xP G σ [.ref (G.2.1 44), .ref (G.2.1 1)]) (xQ G none σ') 0 0 (xA G) := by
  refine Met.ofW (cc := prog_2_method_4_code) (maxL := 3) (ret := none) (by decide) rfl ?_
  intro p e s m args below meth c s₁ B hml hv
  obtain ⟨rfl, hw, hC⟩ := hv
  have hx := B.exec
  have hb := B.bytes
  have hr := B.returns
  have hu : ∀ w ∈ UW, w.before _ s = true := fun w h => atoms_spec B.pre w (List.mem_cons_of_mem _ h)
  have hown : s.vm.findClass R_Answer = some m.cls := findClass_of_methodNamed B.named
  have hlocks := B.notSynchronized
  have hK := hC.1
  have hI := hC.2.1
  have hG := hC.2.2.1
  have hN := hC.2.2.2
  have hS : va_S (xA G) s.heap s.heap [] := va_S.rf
  have jn38 : ∀ (bk9 : Int32 → St → Option St) (hbk9 : ∀ (ls : Array Slot) (H : Heap) (locs : List Loc) (σ : St) (l2 : Int32), bk9 l2 σ = some σ' → lv_has ls 3 [(0, .ref (G.2.1 44)), (1, .ref (G.2.1 1)), (2, .int l2)] → xw G σ H → va_S (xA G) s.heap H locs → W p l e (headSpec (ws_Answer_list) rm_Answer_list).room s m ([.ref (G.2.1 44), .ref (G.2.1 1)] : List Value).toArray below meth c H locs 0 0 (MQ below (xQ G none σ') ([.ref (G.2.1 44), .ref (G.2.1 1)] : List Value).toArray s 0 0 (xA G)) (F0 m 9 ls [])) (ls : Array Slot) (H : Heap) (locs : List Loc) (σ : St) (l2 : Int32), x_Answer_list_38 bk9 l2 σ = some σ' → lv_has ls 3 [(0, .ref (G.2.1 44)), (1, .ref (G.2.1 1)), (2, .int l2)] → xw G σ H → va_S (xA G) s.heap H locs → W p l e (headSpec (ws_Answer_list) rm_Answer_list).room s m ([.ref (G.2.1 44), .ref (G.2.1 1)] : List Value).toArray below meth c H locs 0 0 (MQ below (xQ G none σ') ([.ref (G.2.1 44), .ref (G.2.1 1)] : List Value).toArray s 0 0 (xA G)) (F0 m 38 ls []) := by
    intro bk9 hbk9 ls H locs σ l2 hE hl hw hS
    unfold x_Answer_list_38 at hE
    obtain ⟨v38, e38, hE⟩ := x_letE hE
    refine lv_iinc hx hb d_Answer_list_38 hl (k := 2) rfl (x_inc v38 e38 (by decide)) (by decide) rfl (fun ls hl => ?_)
    have hl : lv_has ls 3 [(2, .int v38), (0, .ref (G.2.1 44)), (1, .ref (G.2.1 1))] := hl
    refine lv_goto (tgt := 9) hx hb d_Answer_list_41 (by decide) ?_
    exact hbk9 _ _ _ _ _ hE (lv_sub hl [1, 2, 0] rfl) hw hS
  have jn9 : ∀ (n : Nat) (ls : Array Slot) (H : Heap) (locs : List Loc) (σ : St) (l2 : Int32), x_Answer_list_9 n l2 σ = some σ' → lv_has ls 3 [(0, .ref (G.2.1 44)), (1, .ref (G.2.1 1)), (2, .int l2)] → xw G σ H → va_S (xA G) s.heap H locs → W p l e (headSpec (ws_Answer_list) rm_Answer_list).room s m ([.ref (G.2.1 44), .ref (G.2.1 1)] : List Value).toArray below meth c H locs 0 0 (MQ below (xQ G none σ') ([.ref (G.2.1 44), .ref (G.2.1 1)] : List Value).toArray s 0 0 (xA G)) (F0 m 9 ls []) := by
    intro n
    induction n with
    | zero => intro ls H locs σ l2 hE; rw [x_Answer_list_9] at hE; cases hE
    | succ n ih =>
      intro ls H locs σ l2 hE hl hw hS
      rw [x_Answer_list_9] at hE
      refine lv_iload_n hx hb d_Answer_list_9 rfl (lv_at hl 2 rfl) ?_
      refine lv_bipush (v := (8 : Int32)) hx hb d_Answer_list_10 (by decide) ?_
      refine lv_icmp_ge (tgt := 44) hx hb d_Answer_list_12 (by decide) (fun hc12 => ?_) (fun hc12 => ?_)
      · rw [if_pos hc12] at hE
        have e1 := Option.some.inj hE
        exact W.vret hx hb hr (fun t ht hW => ⟨rfl, by rw [ht, ← e1]; exact hw, hS.F ht⟩) hS.2.2 d_Answer_list_44
      · rw [if_neg hc12] at hE
        refine lv_aload_n hx hb d_Answer_list_15 rfl (lv_at hl 1 rfl) ?_
        refine va_getN (D := G.1) (cl := xCl) (ci := 5) (v := .ref (G.2.1 2)) (C := R_Site) (T := T_Site) (N := 2) hx hb hu fi_Site hown hK hw 1 (x_at (by decide) (xcl_1 G σ)) rfl 0 (by decide) (nl_13 hG) (fun _ h9 => h9) rfl d_Answer_list_16 ?_
        refine lv_iload_n hx hb d_Answer_list_19 rfl (lv_at hl 2 rfl) ?_
        obtain ⟨g20, hE⟩ := x_guard hE
        refine va_aldq hx hb hK hw 2 3 (x_at (by decide) (xcl_2 G _)) rfl g20 d_Answer_list_20 ?_
        obtain ⟨q21_0, hE⟩ := x_guard hE
        obtain ⟨r21, hC21, hE⟩ := x_bind hE
        refine x_callR (W.runV (As := []) (rest := []) ⟨hx, hb, hml, hown, hu⟩ (t_Resource_isThere l G σ (3 + 3 * l2.toNatClampNeg) q21_0 r21 hC21) (cwV 0 hu (uw_V mw_847 mw_848 mw_849 mw_62 mw_850) rfl rfl rfl hd_Resource_isThere ⟨Nat.le_of_ble_eq_true rfl, Nat.le_of_ble_eq_true rfl⟩) (x_preV hC hS hw (va_recv hK hw (q := (R_Resource, T_Resource, 2)) (ci := 4) rfl (x_at (xS_lt q21_0) (xcl_S G σ (xS_s q21_0))))) rfl rfl hl.1 rfl (lv_room (Nat.le_of_ble_eq_true rfl)) d_Answer_list_21 ⟨Nat.le_of_ble_eq_true rfl, Nat.le_of_ble_eq_true rfl⟩) ?_
        refine lv_if_eq (tgt := 38) hx hb d_Answer_list_24 (by decide) (fun hc24 => ?_) (fun hc24 => ?_)
        · rw [if_pos hc24] at hE
          exact jn38 _ ih _ _ _ _ _ hE (lv_sub hl [0, 1, 2] rfl) hw hS
        · rw [if_neg hc24] at hE
          refine lv_aload_n hx hb d_Answer_list_27 rfl (lv_at hl 0 rfl) ?_
          refine va_get (D := G.1) (cl := xCl) (ci := 7) (v := .ref (G.2.1 46)) (C := R_Answer) (T := T_Answer) (N := 12) hx hb hu fi_Answer hown hK hw 44 (x_at (by decide) (xcl_44 G σ)) rfl 1 (by decide) (hu _ mw_293) (fun _ h9 => h9) rfl d_Answer_list_28 ?_
          refine lv_bipush (v := (97 : Int32)) hx hb d_Answer_list_31 (by decide) ?_
          refine lv_iload_n hx hb d_Answer_list_33 rfl (lv_at hl 2 rfl) ?_
          refine lv_iadd hx hb d_Answer_list_34 ?_
          obtain ⟨s35, hC35, hE⟩ := x_bind hE
          refine x_callV hS (W.runV (As := [.int ((97 : Int32) + l2)]) (rest := []) ⟨hx, hb, hml, hown, hu⟩ (t_Bytes_add l G σ 46 ((97 : Int32) + l2) (by decide) s35 hC35) (cwV 1 hu (uw_V mw_851 mw_509 mw_510 mw_63 mw_511) rfl rfl rfl hd_Bytes_add ⟨Nat.le_of_ble_eq_true rfl, Nat.le_of_ble_eq_true rfl⟩) (x_preV hC hS hw (va_recv hK hw (q := (R_Bytes, T_Bytes, 2)) (ci := 0) rfl (x_at (by decide) (xcl_46 G σ)))) rfl rfl hl.1 rfl (lv_room (Nat.le_of_ble_eq_true rfl)) d_Answer_list_35 ⟨Nat.le_of_ble_eq_true rfl, Nat.le_of_ble_eq_true rfl⟩) (fun H locs hw hS => ?_)
          exact jn38 _ ih _ _ _ _ _ hE (lv_sub hl [0, 1, 2] rfl) hw hS
  have hl := lv_entry ([.ref (G.2.1 44), .ref (G.2.1 1)]) (n := 3) (Nat.le_of_ble_eq_true rfl)
  rw [lg_entry_eq]
  generalize (lg_sl ([.ref (G.2.1 44), .ref (G.2.1 1)]) ++ List.replicate (3 - (lg_sl ([.ref (G.2.1 44), .ref (G.2.1 1)])).length) Slot.unset).toArray = ls at hl ⊢
  have hl : lv_has ls 3 [(0, .ref (G.2.1 44)), (1, .ref (G.2.1 1))] := hl
  unfold x_Answer_list at hE
  refine lv_aload_n hx hb d_Answer_list_0 rfl (lv_at hl 0 rfl) ?_
  refine va_get (D := G.1) (cl := xCl) (ci := 7) (v := .ref (G.2.1 46)) (C := R_Answer) (T := T_Answer) (N := 12) hx hb hu fi_Answer hown hK hw 44 (x_at (by decide) (xcl_44 G σ)) rfl 1 (by decide) (hu _ mw_293) (fun _ h9 => h9) rfl d_Answer_list_1 ?_
  obtain ⟨s4, hC4, hE⟩ := x_bind hE
  refine x_callV hS (W.runV (As := []) (rest := []) ⟨hx, hb, hml, hown, hu⟩ (t_Bytes_clear l G σ 46 (by decide) s4 hC4) (cwV 0 hu (uw_V mw_846 mw_386 mw_387 mw_63 mw_388) rfl rfl rfl hd_Bytes_clear ⟨Nat.le_of_ble_eq_true rfl, Nat.le_of_ble_eq_true rfl⟩) (x_preV hC hS hw (va_recv hK hw (q := (R_Bytes, T_Bytes, 2)) (ci := 0) rfl (x_at (by decide) (xcl_46 G σ)))) rfl rfl hl.1 rfl (lv_room (Nat.le_of_ble_eq_true rfl)) d_Answer_list_4 ⟨Nat.le_of_ble_eq_true rfl, Nat.le_of_ble_eq_true rfl⟩) (fun H locs hw hS => ?_)
  refine lv_iconst (v := (0 : Int32)) hx hb d_Answer_list_7 (by decide) ?_
  refine lv_istore_n hx hb d_Answer_list_8 rfl hl (by decide) rfl (fun ls hl => ?_)
  have hl : lv_has ls 3 [(2, .int (0 : Int32)), (0, .ref (G.2.1 44)), (1, .ref (G.2.1 1))] := hl
  exact jn9 x_fuel _ _ _ _ _ hE (lv_sub hl [1, 2, 0] rfl) hw hS

def y_Answer_decide : MethodName := ⟨"PlainOrigin$Answer", "decide", "(LPlainOrigin$Request;LPlainOrigin$Site;)V"⟩
def ws_Answer_decide : List Cond := Cond.code y_Answer_decide prog_2_method_3_code 6 none :: UW
theorem hd_Answer_decide : y_Answer_decide.cls = R_Answer ∧ y_Answer_decide.cls ≠ "java/lang/invoke/MethodHandle" ∧ y_Answer_decide.cls ≠ "java/lang/invoke/VarHandle" ∧ (parseMethodDescriptor y_Answer_decide.desc).map (fun d => d.parameters.length) = some 2 := by decide +kernel
theorem d_Answer_decide_0 : decode prog_2_method_3_code 0 = .ok (.aload_n 1, 1) := by decide +kernel
theorem d_Answer_decide_1 : decode prog_2_method_3_code 1 = .ok (.getfield 53, 3) := by decide +kernel
theorem d_Answer_decide_4 : decode prog_2_method_3_code 4 = .ok (.astore_n 3, 1) := by decide +kernel
theorem d_Answer_decide_5 : decode prog_2_method_3_code 5 = .ok (.aload_n 3, 1) := by decide +kernel
theorem d_Answer_decide_6 : decode prog_2_method_3_code 6 = .ok (.getstatic 59, 3) := by decide +kernel
theorem d_Answer_decide_9 : decode prog_2_method_3_code 9 = .ok (.if_acmp .eq (10), 3) := by decide +kernel
theorem d_Answer_decide_12 : decode prog_2_method_3_code 12 = .ok (.aload_n 3, 1) := by decide +kernel
theorem d_Answer_decide_13 : decode prog_2_method_3_code 13 = .ok (.getstatic 64, 3) := by decide +kernel
theorem d_Answer_decide_16 : decode prog_2_method_3_code 16 = .ok (.if_acmp .ne (29), 3) := by decide +kernel
theorem d_Answer_decide_19 : decode prog_2_method_3_code 19 = .ok (.aload_n 0, 1) := by decide +kernel
theorem d_Answer_decide_20 : decode prog_2_method_3_code 20 = .ok (.aload_n 3, 1) := by decide +kernel
theorem d_Answer_decide_21 : decode prog_2_method_3_code 21 = .ok (.getstatic 59, 3) := by decide +kernel
theorem d_Answer_decide_24 : decode prog_2_method_3_code 24 = .ok (.if_acmp .ne (9), 3) := by decide +kernel
theorem d_Answer_decide_27 : decode prog_2_method_3_code 27 = .ok (.sipush (204), 3) := by decide +kernel
theorem d_Answer_decide_30 : decode prog_2_method_3_code 30 = .ok (.goto (6), 3) := by decide +kernel
theorem d_Answer_decide_33 : decode prog_2_method_3_code 33 = .ok (.sipush (405), 3) := by decide +kernel
theorem d_Answer_decide_36 : decode prog_2_method_3_code 36 = .ok (.invokevirtual 67, 3) := by decide +kernel
theorem d_Answer_decide_39 : decode prog_2_method_3_code 39 = .ok (.aload_n 0, 1) := by decide +kernel
theorem d_Answer_decide_40 : decode prog_2_method_3_code 40 = .ok (.iconst 1, 1) := by decide +kernel
theorem d_Answer_decide_41 : decode prog_2_method_3_code 41 = .ok (.putfield 37, 3) := by decide +kernel
theorem d_Answer_decide_44 : decode prog_2_method_3_code 44 = .ok (.return_, 1) := by decide +kernel
theorem d_Answer_decide_45 : decode prog_2_method_3_code 45 = .ok (.aload_n 3, 1) := by decide +kernel
theorem d_Answer_decide_46 : decode prog_2_method_3_code 46 = .ok (.getstatic 70, 3) := by decide +kernel
theorem d_Answer_decide_49 : decode prog_2_method_3_code 49 = .ok (.if_acmp .eq (10), 3) := by decide +kernel
theorem d_Answer_decide_52 : decode prog_2_method_3_code 52 = .ok (.aload_n 3, 1) := by decide +kernel
theorem d_Answer_decide_53 : decode prog_2_method_3_code 53 = .ok (.getstatic 73, 3) := by decide +kernel
theorem d_Answer_decide_56 : decode prog_2_method_3_code 56 = .ok (.if_acmp .ne (7), 3) := by decide +kernel
theorem d_Answer_decide_59 : decode prog_2_method_3_code 59 = .ok (.iconst 1, 1) := by decide +kernel
theorem d_Answer_decide_60 : decode prog_2_method_3_code 60 = .ok (.goto (4), 3) := by decide +kernel
theorem d_Answer_decide_63 : decode prog_2_method_3_code 63 = .ok (.iconst 0, 1) := by decide +kernel
theorem d_Answer_decide_64 : decode prog_2_method_3_code 64 = .ok (.istore 4, 2) := by decide +kernel
theorem d_Answer_decide_66 : decode prog_2_method_3_code 66 = .ok (.aload_n 2, 1) := by decide +kernel
theorem d_Answer_decide_67 : decode prog_2_method_3_code 67 = .ok (.aload_n 1, 1) := by decide +kernel
theorem d_Answer_decide_68 : decode prog_2_method_3_code 68 = .ok (.getfield 76, 3) := by decide +kernel
theorem d_Answer_decide_71 : decode prog_2_method_3_code 71 = .ok (.invokevirtual 79, 3) := by decide +kernel
theorem d_Answer_decide_74 : decode prog_2_method_3_code 74 = .ok (.astore 5, 2) := by decide +kernel
theorem d_Answer_decide_76 : decode prog_2_method_3_code 76 = .ok (.iload 4, 2) := by decide +kernel
theorem d_Answer_decide_78 : decode prog_2_method_3_code 78 = .ok (.ifCond .eq (31), 3) := by decide +kernel
theorem d_Answer_decide_81 : decode prog_2_method_3_code 81 = .ok (.aload_n 1, 1) := by decide +kernel
theorem d_Answer_decide_82 : decode prog_2_method_3_code 82 = .ok (.getfield 76, 3) := by decide +kernel
theorem d_Answer_decide_85 : decode prog_2_method_3_code 85 = .ok (.getfield 85, 3) := by decide +kernel
theorem d_Answer_decide_88 : decode prog_2_method_3_code 88 = .ok (.iconst 1, 1) := by decide +kernel
theorem d_Answer_decide_89 : decode prog_2_method_3_code 89 = .ok (.if_icmp .ne (20), 3) := by decide +kernel
theorem d_Answer_decide_92 : decode prog_2_method_3_code 92 = .ok (.aload_n 0, 1) := by decide +kernel
theorem d_Answer_decide_93 : decode prog_2_method_3_code 93 = .ok (.aload_n 2, 1) := by decide +kernel
theorem d_Answer_decide_94 : decode prog_2_method_3_code 94 = .ok (.invokevirtual 88, 3) := by decide +kernel
theorem d_Answer_decide_97 : decode prog_2_method_3_code 97 = .ok (.aload_n 0, 1) := by decide +kernel
theorem d_Answer_decide_98 : decode prog_2_method_3_code 98 = .ok (.aload_n 3, 1) := by decide +kernel
theorem d_Answer_decide_99 : decode prog_2_method_3_code 99 = .ok (.aload_n 0, 1) := by decide +kernel
theorem d_Answer_decide_100 : decode prog_2_method_3_code 100 = .ok (.getfield 23, 3) := by decide +kernel
theorem d_Answer_decide_103 : decode prog_2_method_3_code 103 = .ok (.invokevirtual 92, 3) := by decide +kernel
theorem d_Answer_decide_106 : decode prog_2_method_3_code 106 = .ok (.goto (85), 3) := by decide +kernel
theorem d_Answer_decide_109 : decode prog_2_method_3_code 109 = .ok (.aload 5, 2) := by decide +kernel
theorem d_Answer_decide_111 : decode prog_2_method_3_code 111 = .ok (.ifnonnull (13), 3) := by decide +kernel
theorem d_Answer_decide_114 : decode prog_2_method_3_code 114 = .ok (.aload_n 0, 1) := by decide +kernel
theorem d_Answer_decide_115 : decode prog_2_method_3_code 115 = .ok (.sipush (404), 3) := by decide +kernel
theorem d_Answer_decide_118 : decode prog_2_method_3_code 118 = .ok (.invokevirtual 67, 3) := by decide +kernel
theorem d_Answer_decide_121 : decode prog_2_method_3_code 121 = .ok (.goto (70), 3) := by decide +kernel
theorem d_Answer_decide_124 : decode prog_2_method_3_code 124 = .ok (.iload 4, 2) := by decide +kernel
theorem d_Answer_decide_126 : decode prog_2_method_3_code 126 = .ok (.ifCond .eq (13), 3) := by decide +kernel
theorem d_Answer_decide_129 : decode prog_2_method_3_code 129 = .ok (.aload_n 0, 1) := by decide +kernel
theorem d_Answer_decide_130 : decode prog_2_method_3_code 130 = .ok (.aload_n 1, 1) := by decide +kernel
theorem d_Answer_decide_131 : decode prog_2_method_3_code 131 = .ok (.aload 5, 2) := by decide +kernel
theorem d_Answer_decide_133 : decode prog_2_method_3_code 133 = .ok (.invokevirtual 96, 3) := by decide +kernel
theorem d_Answer_decide_136 : decode prog_2_method_3_code 136 = .ok (.goto (55), 3) := by decide +kernel
theorem d_Answer_decide_139 : decode prog_2_method_3_code 139 = .ok (.aload_n 3, 1) := by decide +kernel
theorem d_Answer_decide_140 : decode prog_2_method_3_code 140 = .ok (.getstatic 100, 3) := by decide +kernel
theorem d_Answer_decide_143 : decode prog_2_method_3_code 143 = .ok (.if_acmp .ne (17), 3) := by decide +kernel
theorem d_Answer_decide_146 : decode prog_2_method_3_code 146 = .ok (.aload_n 0, 1) := by decide +kernel
theorem d_Answer_decide_147 : decode prog_2_method_3_code 147 = .ok (.aload_n 2, 1) := by decide +kernel
theorem d_Answer_decide_148 : decode prog_2_method_3_code 148 = .ok (.aload 5, 2) := by decide +kernel
theorem d_Answer_decide_150 : decode prog_2_method_3_code 150 = .ok (.aload_n 1, 1) := by decide +kernel
theorem d_Answer_decide_151 : decode prog_2_method_3_code 151 = .ok (.invokevirtual 103, 3) := by decide +kernel
theorem d_Answer_decide_154 : decode prog_2_method_3_code 154 = .ok (.invokevirtual 67, 3) := by decide +kernel
theorem d_Answer_decide_157 : decode prog_2_method_3_code 157 = .ok (.goto (34), 3) := by decide +kernel
theorem d_Answer_decide_160 : decode prog_2_method_3_code 160 = .ok (.aload_n 3, 1) := by decide +kernel
theorem d_Answer_decide_161 : decode prog_2_method_3_code 161 = .ok (.getstatic 107, 3) := by decide +kernel
theorem d_Answer_decide_164 : decode prog_2_method_3_code 164 = .ok (.if_acmp .ne (17), 3) := by decide +kernel
theorem d_Answer_decide_167 : decode prog_2_method_3_code 167 = .ok (.aload_n 0, 1) := by decide +kernel
theorem d_Answer_decide_168 : decode prog_2_method_3_code 168 = .ok (.aload_n 2, 1) := by decide +kernel
theorem d_Answer_decide_169 : decode prog_2_method_3_code 169 = .ok (.aload 5, 2) := by decide +kernel
theorem d_Answer_decide_171 : decode prog_2_method_3_code 171 = .ok (.aload_n 1, 1) := by decide +kernel
theorem d_Answer_decide_172 : decode prog_2_method_3_code 172 = .ok (.invokevirtual 110, 3) := by decide +kernel
theorem d_Answer_decide_175 : decode prog_2_method_3_code 175 = .ok (.invokevirtual 67, 3) := by decide +kernel
theorem d_Answer_decide_178 : decode prog_2_method_3_code 178 = .ok (.goto (13), 3) := by decide +kernel
theorem d_Answer_decide_181 : decode prog_2_method_3_code 181 = .ok (.aload_n 0, 1) := by decide +kernel
theorem d_Answer_decide_182 : decode prog_2_method_3_code 182 = .ok (.aload_n 2, 1) := by decide +kernel
theorem d_Answer_decide_183 : decode prog_2_method_3_code 183 = .ok (.aload 5, 2) := by decide +kernel
theorem d_Answer_decide_185 : decode prog_2_method_3_code 185 = .ok (.invokevirtual 113, 3) := by decide +kernel
theorem d_Answer_decide_188 : decode prog_2_method_3_code 188 = .ok (.invokevirtual 67, 3) := by decide +kernel
theorem d_Answer_decide_191 : decode prog_2_method_3_code 191 = .ok (.return_, 1) := by decide +kernel
def x_Answer_decide_36 (k0 : Int32) (σ : St) : Option St := (Option.bind (x_Answer_begin k0 σ) (fun s36 => (x_let (x_updR s36 44 4 (1 : Int32)) (fun (s41 : St) => some s41))))
def x_Answer_decide_19 (l3 : Option Nat) (σ : St) : Option St := (if x_e7 l3 then (if l3 = (some 5) then x_Answer_decide_36 (204 : Int32) σ else x_Answer_decide_36 (405 : Int32) σ) else none)
def x_Answer_decide_109 (l3 : Option Nat) (l4 : Int32) (l5 : Option Nat) (σ : St) : Option St := (x_opt l5 (Option.bind (x_Answer_begin (404 : Int32) σ) (fun s118 => some s118)) (fun o111 => (if l4 = 0 then (if x_e7 l3 then (if l3 = (some 2) then (if xS o111 then (x_bind2 (x_Site_replace o111 σ) (fun r151 s151 => (Option.bind (x_Answer_begin r151 s151) (fun s154 => some s154)))) else none) else (if x_e7 l3 then (if l3 = (some 3) then (if xS o111 then (x_bind2 (x_Site_extend o111 σ) (fun r172 s172 => (Option.bind (x_Answer_begin r172 s172) (fun s175 => some s175)))) else none) else (if xS o111 then (x_bind2 (x_Site_remove o111 σ) (fun r185 s185 => (Option.bind (x_Answer_begin r185 s185) (fun s188 => some s188)))) else none)) else none)) else none) else (if xS o111 then (Option.bind (x_Answer_read o111 σ) (fun s133 => some s133)) else none))))
def x_Answer_decide_64 (l3 : Option Nat) (k0 : Int32) (σ : St) : Option St := (Option.bind (x_Site_find 40 σ) (fun r71 => (if k0 = 0 then x_Answer_decide_109 l3 k0 r71 σ else (if (σ.1 40 1) = (1 : Int32) then (Option.bind (x_Answer_list σ) (fun s94 => (Option.bind (x_Answer_show l3 46 s94) (fun s103 => some s103)))) else x_Answer_decide_109 l3 k0 r71 σ))))
def x_Answer_decide_59 (l3 : Option Nat) (σ : St) : Option St := x_Answer_decide_64 l3 (1 : Int32) σ
def x_Answer_decide (σ : St) : Option St := (if x_e7 σ.2.2.2.1 then (if σ.2.2.2.1 = (some 5) then x_Answer_decide_19 σ.2.2.2.1 σ else (if x_e7 σ.2.2.2.1 then (if σ.2.2.2.1 = (some 6) then x_Answer_decide_19 σ.2.2.2.1 σ else (if x_e7 σ.2.2.2.1 then (if σ.2.2.2.1 = (some 0) then x_Answer_decide_59 σ.2.2.2.1 σ else (if x_e7 σ.2.2.2.1 then (if σ.2.2.2.1 = (some 1) then x_Answer_decide_59 σ.2.2.2.1 σ else x_Answer_decide_64 σ.2.2.2.1 (0 : Int32) σ) else none)) else none)) else none)) else none)
abbrev rm_Answer_decide : Room := { frames := 8, cells := 0, slots := 0, locals := 180 }
set_option maxHeartbeats 4000000 in
set_option maxRecDepth 100000 in
theorem t_Answer_decide (l : Launch) (G : xG) (σ : St) (σ' : St) (hE : x_Answer_decide σ = some σ') : Met l y_Answer_decide (ws_Answer_decide) rm_Answer_decide (xP G σ [.ref (G.2.1 44), .ref (G.2.1 30), .ref (G.2.1 1)]) (xQ G none σ') 0 0 (xA G) := by
  refine Met.ofW (cc := prog_2_method_3_code) (maxL := 6) (ret := none) (by decide) rfl ?_
  intro p e s m args below meth c s₁ B hml hv
  obtain ⟨rfl, hw, hC⟩ := hv
  have hx := B.exec
  have hb := B.bytes
  have hr := B.returns
  have hu : ∀ w ∈ UW, w.before _ s = true := fun w h => atoms_spec B.pre w (List.mem_cons_of_mem _ h)
  have hown : s.vm.findClass R_Answer = some m.cls := findClass_of_methodNamed B.named
  have hlocks := B.notSynchronized
  have hK := hC.1
  have hI := hC.2.1
  have hG := hC.2.2.1
  have hN := hC.2.2.2
  have hS : va_S (xA G) s.heap s.heap [] := va_S.rf
  have jn36 : ∀ (ls : Array Slot) (H : Heap) (locs : List Loc) (σ : St) (k0 : Int32), x_Answer_decide_36 k0 σ = some σ' → lv_has ls 6 [(0, .ref (G.2.1 44)), (1, .ref (G.2.1 30)), (2, .ref (G.2.1 1))] → xw G σ H → va_S (xA G) s.heap H locs → W p l e (headSpec (ws_Answer_decide) rm_Answer_decide).room s m ([.ref (G.2.1 44), .ref (G.2.1 30), .ref (G.2.1 1)] : List Value).toArray below meth c H locs 0 0 (MQ below (xQ G none σ') ([.ref (G.2.1 44), .ref (G.2.1 30), .ref (G.2.1 1)] : List Value).toArray s 0 0 (xA G)) (F0 m 36 ls [.int k0, .ref (G.2.1 44)]) := by
    intro ls H locs σ k0 hE hl hw hS
    unfold x_Answer_decide_36 at hE
    obtain ⟨s36, hC36, hE⟩ := x_bind hE
    refine x_callV hS (W.runV (As := [.int k0]) (rest := []) ⟨hx, hb, hml, hown, hu⟩ (t_Answer_begin l G σ k0 s36 hC36) (cwV 1 hu (uw_V mw_829 mw_830 mw_831 mw_67 mw_832) rfl rfl rfl hd_Answer_begin ⟨Nat.le_of_ble_eq_true rfl, Nat.le_of_ble_eq_true rfl⟩) (x_preV hC hS hw (va_recv hK hw (q := (R_Answer, T_Answer, 12)) (ci := 7) rfl (x_at (by decide) (xcl_44 G σ)))) rfl rfl hl.1 rfl (lv_room (Nat.le_of_ble_eq_true rfl)) d_Answer_decide_36 ⟨Nat.le_of_ble_eq_true rfl, Nat.le_of_ble_eq_true rfl⟩) (fun H locs hw hS => ?_)
    refine lv_aload_n hx hb d_Answer_decide_39 rfl (lv_at hl 0 rfl) ?_
    refine lv_iconst (v := (1 : Int32)) hx hb d_Answer_decide_40 (by decide) ?_
    refine va_put (D := G.1) (cl := xCl) (ci := 7) (v := .int (1 : Int32)) (ty := .boolean) (C := R_Answer) (T := T_Answer) (N := 12) hx hb hu fi_Answer ty_Answer tyok_Answer nm_Answer hown hK hw (x_D hI _) hS 44 (x_at (by decide) (xcl_44 G s36)) rfl 4 (by decide) (hu _ mw_299) (fun _ h9 => h9) rfl (tyok_Answer 4 (by decide)) rfl rfl (Nat.le_of_ble_eq_true rfl) d_Answer_decide_41 (fun H locs hw _ hS => ?_)
    replace hw := x_setR hw (by decide) rfl
    obtain ⟨s41, e41, hE⟩ := x_letE hE
    rw [← e41] at hw
    have e1 := Option.some.inj hE
    exact W.vret hx hb hr (fun t ht hW => ⟨rfl, by rw [ht, ← e1]; exact hw, hS.F ht⟩) hS.2.2 d_Answer_decide_44
  have jn19 : ∀ (ls : Array Slot) (H : Heap) (locs : List Loc) (σ : St) (l3 : Option Nat), x_Answer_decide_19 l3 σ = some σ' → lv_has ls 6 [(0, .ref (G.2.1 44)), (1, .ref (G.2.1 30)), (2, .ref (G.2.1 1)), (3, va_re G.2.2.2.2.1 l3)] → xw G σ H → va_S (xA G) s.heap H locs → W p l e (headSpec (ws_Answer_decide) rm_Answer_decide).room s m ([.ref (G.2.1 44), .ref (G.2.1 30), .ref (G.2.1 1)] : List Value).toArray below meth c H locs 0 0 (MQ below (xQ G none σ') ([.ref (G.2.1 44), .ref (G.2.1 30), .ref (G.2.1 1)] : List Value).toArray s 0 0 (xA G)) (F0 m 19 ls []) := by
    intro ls H locs σ l3 hE hl hw hS
    unfold x_Answer_decide_19 at hE
    refine lv_aload_n hx hb d_Answer_decide_19 rfl (lv_at hl 0 rfl) ?_
    refine x_aloadq_n hx hb d_Answer_decide_20 rfl (lv_at hl 3 rfl) (va_re_or _ _) ?_
    refine va_gets (v := va_re G.2.2.2.2.1 (some 5)) hx hb (hN.2.2.2.2.1 5 (by decide)).1 hS hown (hu _ mw_826) (fun _ h9 => h9) d_Answer_decide_21 ?_
    obtain ⟨q24_1, hE⟩ := x_guard hE
    refine x_acmp_ne (tgt := 33) hx hb hN.2.2.2.2.2.1 q24_1 (by decide) d_Answer_decide_24 (by decide) (fun hc24 => ?_) (fun hc24 => ?_)
    · rw [if_neg hc24] at hE
      refine lv_sipush (v := (405 : Int32)) hx hb d_Answer_decide_33 (by decide) ?_
      exact jn36 _ _ _ _ _ hE (lv_sub hl [0, 1, 2] rfl) hw hS
    · rw [if_pos hc24] at hE
      refine lv_sipush (v := (204 : Int32)) hx hb d_Answer_decide_27 (by decide) ?_
      refine lv_goto (tgt := 36) hx hb d_Answer_decide_30 (by decide) ?_
      exact jn36 _ _ _ _ _ hE (lv_sub hl [0, 1, 2] rfl) hw hS
  have jn109 : ∀ (ls : Array Slot) (H : Heap) (locs : List Loc) (σ : St) (l3 : Option Nat) (l4 : Int32) (l5 : Option Nat), x_Answer_decide_109 l3 l4 l5 σ = some σ' → lv_has ls 6 [(0, .ref (G.2.1 44)), (1, .ref (G.2.1 30)), (2, .ref (G.2.1 1)), (3, va_re G.2.2.2.2.1 l3), (4, .int l4), (5, va_rf (Option.map G.2.1 l5))] → xw G σ H → va_S (xA G) s.heap H locs → W p l e (headSpec (ws_Answer_decide) rm_Answer_decide).room s m ([.ref (G.2.1 44), .ref (G.2.1 30), .ref (G.2.1 1)] : List Value).toArray below meth c H locs 0 0 (MQ below (xQ G none σ') ([.ref (G.2.1 44), .ref (G.2.1 30), .ref (G.2.1 1)] : List Value).toArray s 0 0 (xA G)) (F0 m 109 ls []) := by
    intro ls H locs σ l3 l4 l5 hE hl hw hS
    unfold x_Answer_decide_109 at hE
    refine x_aloadq hx hb d_Answer_decide_109 (lv_at hl 5 rfl) (va_rf_or _) ?_
    rcases x_optE hE with ⟨hq, hO⟩ | ⟨o111, hq, hO⟩
    · subst hq
      have hE := hO
      have hl : lv_has ls 6 [(0, .ref (G.2.1 44)), (1, .ref (G.2.1 30)), (2, .ref (G.2.1 1)), (3, va_re G.2.2.2.2.1 l3), (4, .int l4), (5, .null)] := hl
      refine lv_ifnonnullN hx hb d_Answer_decide_111 ?_
      refine lv_aload_n hx hb d_Answer_decide_114 rfl (lv_at hl 0 rfl) ?_
      refine lv_sipush (v := (404 : Int32)) hx hb d_Answer_decide_115 (by decide) ?_
      obtain ⟨s118, hC118, hE⟩ := x_bind hE
      refine x_callV hS (W.runV (As := [.int (404 : Int32)]) (rest := []) ⟨hx, hb, hml, hown, hu⟩ (t_Answer_begin l G σ (404 : Int32) s118 hC118) (cwV 1 hu (uw_V mw_829 mw_830 mw_831 mw_67 mw_832) rfl rfl rfl hd_Answer_begin ⟨Nat.le_of_ble_eq_true rfl, Nat.le_of_ble_eq_true rfl⟩) (x_preV hC hS hw (va_recv hK hw (q := (R_Answer, T_Answer, 12)) (ci := 7) rfl (x_at (by decide) (xcl_44 G σ)))) rfl rfl hl.1 rfl (lv_room (Nat.le_of_ble_eq_true rfl)) d_Answer_decide_118 ⟨Nat.le_of_ble_eq_true rfl, Nat.le_of_ble_eq_true rfl⟩) (fun H locs hw hS => ?_)
      refine lv_goto (tgt := 191) hx hb d_Answer_decide_121 (by decide) ?_
      have e1 := Option.some.inj hE
      exact W.vret hx hb hr (fun t ht hW => ⟨rfl, by rw [ht, ← e1]; exact hw, hS.F ht⟩) hS.2.2 d_Answer_decide_191
    · subst hq
      have hE := hO
      have hl : lv_has ls 6 [(0, .ref (G.2.1 44)), (1, .ref (G.2.1 30)), (2, .ref (G.2.1 1)), (3, va_re G.2.2.2.2.1 l3), (4, .int l4), (5, .ref (G.2.1 o111))] := hl
      refine lv_ifnonnull (tgt := 124) hx hb d_Answer_decide_111 (by decide) ?_
      refine lv_iload hx hb d_Answer_decide_124 (lv_at hl 4 rfl) ?_
      refine lv_if_eq (tgt := 139) hx hb d_Answer_decide_126 (by decide) (fun hc126 => ?_) (fun hc126 => ?_)
      · rw [if_pos hc126] at hE
        refine x_aloadq_n hx hb d_Answer_decide_139 rfl (lv_at hl 3 rfl) (va_re_or _ _) ?_
        refine va_gets (v := va_re G.2.2.2.2.1 (some 2)) hx hb (hN.2.2.2.2.1 2 (by decide)).1 hS hown (hu _ mw_889) (fun _ h9 => h9) d_Answer_decide_140 ?_
        obtain ⟨q143_1, hE⟩ := x_guard hE
        refine x_acmp_ne (tgt := 160) hx hb hN.2.2.2.2.2.1 q143_1 (by decide) d_Answer_decide_143 (by decide) (fun hc143 => ?_) (fun hc143 => ?_)
        · rw [if_neg hc143] at hE
          refine x_aloadq_n hx hb d_Answer_decide_160 rfl (lv_at hl 3 rfl) (va_re_or _ _) ?_
          refine va_gets (v := va_re G.2.2.2.2.1 (some 3)) hx hb (hN.2.2.2.2.1 3 (by decide)).1 hS hown (hu _ mw_901) (fun _ h9 => h9) d_Answer_decide_161 ?_
          obtain ⟨q164_1, hE⟩ := x_guard hE
          refine x_acmp_ne (tgt := 181) hx hb hN.2.2.2.2.2.1 q164_1 (by decide) d_Answer_decide_164 (by decide) (fun hc164 => ?_) (fun hc164 => ?_)
          · rw [if_neg hc164] at hE
            refine lv_aload_n hx hb d_Answer_decide_181 rfl (lv_at hl 0 rfl) ?_
            refine lv_aload_n hx hb d_Answer_decide_182 rfl (lv_at hl 2 rfl) ?_
            refine lv_aload hx hb d_Answer_decide_183 (lv_at hl 5 rfl) ?_
            obtain ⟨q185_1, hE⟩ := x_guard hE
            obtain ⟨r185, s185, hC185, hE⟩ := x_bind2E hE
            refine x_callS hS (W.runV (As := [.ref (G.2.1 o111)]) (rest := [.ref (G.2.1 44)]) ⟨hx, hb, hml, hown, hu⟩ (t_Site_remove l G σ o111 q185_1 r185 s185 hC185) (cwV 1 hu (uw_V mw_907 mw_908 mw_909 mw_61 mw_910) rfl rfl rfl hd_Site_remove ⟨Nat.le_of_ble_eq_true rfl, Nat.le_of_ble_eq_true rfl⟩) (x_preV hC hS hw (va_recv hK hw (q := (R_Site, T_Site, 2)) (ci := 5) rfl (x_at (by decide) (xcl_1 G σ)))) rfl rfl hl.1 rfl (lv_room (Nat.le_of_ble_eq_true rfl)) d_Answer_decide_185 ⟨Nat.le_of_ble_eq_true rfl, Nat.le_of_ble_eq_true rfl⟩) (fun H locs hw hS => ?_)
            obtain ⟨s188, hC188, hE⟩ := x_bind hE
            refine x_callV hS (W.runV (As := [.int r185]) (rest := []) ⟨hx, hb, hml, hown, hu⟩ (t_Answer_begin l G s185 r185 s188 hC188) (cwV 1 hu (uw_V mw_829 mw_830 mw_831 mw_67 mw_832) rfl rfl rfl hd_Answer_begin ⟨Nat.le_of_ble_eq_true rfl, Nat.le_of_ble_eq_true rfl⟩) (x_preV hC hS hw (va_recv hK hw (q := (R_Answer, T_Answer, 12)) (ci := 7) rfl (x_at (by decide) (xcl_44 G s185)))) rfl rfl hl.1 rfl (lv_room (Nat.le_of_ble_eq_true rfl)) d_Answer_decide_188 ⟨Nat.le_of_ble_eq_true rfl, Nat.le_of_ble_eq_true rfl⟩) (fun H locs hw hS => ?_)
            have e1 := Option.some.inj hE
            exact W.vret hx hb hr (fun t ht hW => ⟨rfl, by rw [ht, ← e1]; exact hw, hS.F ht⟩) hS.2.2 d_Answer_decide_191
          · rw [if_pos hc164] at hE
            refine lv_aload_n hx hb d_Answer_decide_167 rfl (lv_at hl 0 rfl) ?_
            refine lv_aload_n hx hb d_Answer_decide_168 rfl (lv_at hl 2 rfl) ?_
            refine lv_aload hx hb d_Answer_decide_169 (lv_at hl 5 rfl) ?_
            refine lv_aload_n hx hb d_Answer_decide_171 rfl (lv_at hl 1 rfl) ?_
            obtain ⟨q172_1, hE⟩ := x_guard hE
            obtain ⟨r172, s172, hC172, hE⟩ := x_bind2E hE
            refine x_callS hS (W.runV (As := [.ref (G.2.1 o111), .ref (G.2.1 30)]) (rest := [.ref (G.2.1 44)]) ⟨hx, hb, hml, hown, hu⟩ (t_Site_extend l G σ o111 q172_1 r172 s172 hC172) (cwV 2 hu (uw_V mw_903 mw_904 mw_905 mw_61 mw_906) rfl rfl rfl hd_Site_extend ⟨Nat.le_of_ble_eq_true rfl, Nat.le_of_ble_eq_true rfl⟩) (x_preV hC hS hw (va_recv hK hw (q := (R_Site, T_Site, 2)) (ci := 5) rfl (x_at (by decide) (xcl_1 G σ)))) rfl rfl hl.1 rfl (lv_room (Nat.le_of_ble_eq_true rfl)) d_Answer_decide_172 ⟨Nat.le_of_ble_eq_true rfl, Nat.le_of_ble_eq_true rfl⟩) (fun H locs hw hS => ?_)
            obtain ⟨s175, hC175, hE⟩ := x_bind hE
            refine x_callV hS (W.runV (As := [.int r172]) (rest := []) ⟨hx, hb, hml, hown, hu⟩ (t_Answer_begin l G s172 r172 s175 hC175) (cwV 1 hu (uw_V mw_829 mw_830 mw_831 mw_67 mw_832) rfl rfl rfl hd_Answer_begin ⟨Nat.le_of_ble_eq_true rfl, Nat.le_of_ble_eq_true rfl⟩) (x_preV hC hS hw (va_recv hK hw (q := (R_Answer, T_Answer, 12)) (ci := 7) rfl (x_at (by decide) (xcl_44 G s172)))) rfl rfl hl.1 rfl (lv_room (Nat.le_of_ble_eq_true rfl)) d_Answer_decide_175 ⟨Nat.le_of_ble_eq_true rfl, Nat.le_of_ble_eq_true rfl⟩) (fun H locs hw hS => ?_)
            refine lv_goto (tgt := 191) hx hb d_Answer_decide_178 (by decide) ?_
            have e1 := Option.some.inj hE
            exact W.vret hx hb hr (fun t ht hW => ⟨rfl, by rw [ht, ← e1]; exact hw, hS.F ht⟩) hS.2.2 d_Answer_decide_191
        · rw [if_pos hc143] at hE
          refine lv_aload_n hx hb d_Answer_decide_146 rfl (lv_at hl 0 rfl) ?_
          refine lv_aload_n hx hb d_Answer_decide_147 rfl (lv_at hl 2 rfl) ?_
          refine lv_aload hx hb d_Answer_decide_148 (lv_at hl 5 rfl) ?_
          refine lv_aload_n hx hb d_Answer_decide_150 rfl (lv_at hl 1 rfl) ?_
          obtain ⟨q151_1, hE⟩ := x_guard hE
          obtain ⟨r151, s151, hC151, hE⟩ := x_bind2E hE
          refine x_callS hS (W.runV (As := [.ref (G.2.1 o111), .ref (G.2.1 30)]) (rest := [.ref (G.2.1 44)]) ⟨hx, hb, hml, hown, hu⟩ (t_Site_replace l G σ o111 q151_1 r151 s151 hC151) (cwV 2 hu (uw_V mw_891 mw_892 mw_893 mw_61 mw_894) rfl rfl rfl hd_Site_replace ⟨Nat.le_of_ble_eq_true rfl, Nat.le_of_ble_eq_true rfl⟩) (x_preV hC hS hw (va_recv hK hw (q := (R_Site, T_Site, 2)) (ci := 5) rfl (x_at (by decide) (xcl_1 G σ)))) rfl rfl hl.1 rfl (lv_room (Nat.le_of_ble_eq_true rfl)) d_Answer_decide_151 ⟨Nat.le_of_ble_eq_true rfl, Nat.le_of_ble_eq_true rfl⟩) (fun H locs hw hS => ?_)
          obtain ⟨s154, hC154, hE⟩ := x_bind hE
          refine x_callV hS (W.runV (As := [.int r151]) (rest := []) ⟨hx, hb, hml, hown, hu⟩ (t_Answer_begin l G s151 r151 s154 hC154) (cwV 1 hu (uw_V mw_829 mw_830 mw_831 mw_67 mw_832) rfl rfl rfl hd_Answer_begin ⟨Nat.le_of_ble_eq_true rfl, Nat.le_of_ble_eq_true rfl⟩) (x_preV hC hS hw (va_recv hK hw (q := (R_Answer, T_Answer, 12)) (ci := 7) rfl (x_at (by decide) (xcl_44 G s151)))) rfl rfl hl.1 rfl (lv_room (Nat.le_of_ble_eq_true rfl)) d_Answer_decide_154 ⟨Nat.le_of_ble_eq_true rfl, Nat.le_of_ble_eq_true rfl⟩) (fun H locs hw hS => ?_)
          refine lv_goto (tgt := 191) hx hb d_Answer_decide_157 (by decide) ?_
          have e1 := Option.some.inj hE
          exact W.vret hx hb hr (fun t ht hW => ⟨rfl, by rw [ht, ← e1]; exact hw, hS.F ht⟩) hS.2.2 d_Answer_decide_191
      · rw [if_neg hc126] at hE
        refine lv_aload_n hx hb d_Answer_decide_129 rfl (lv_at hl 0 rfl) ?_
        refine lv_aload_n hx hb d_Answer_decide_130 rfl (lv_at hl 1 rfl) ?_
        refine lv_aload hx hb d_Answer_decide_131 (lv_at hl 5 rfl) ?_
        obtain ⟨q133_2, hE⟩ := x_guard hE
        obtain ⟨s133, hC133, hE⟩ := x_bind hE
        refine x_callV hS (W.runV (As := [.ref (G.2.1 30), .ref (G.2.1 o111)]) (rest := []) ⟨hx, hb, hml, hown, hu⟩ (t_Answer_read l G σ o111 q133_2 s133 hC133) (cwV 2 hu (uw_V mw_856 mw_858 mw_13 mw_67 mw_859) rfl rfl rfl hd_Answer_read ⟨Nat.le_of_ble_eq_true rfl, Nat.le_of_ble_eq_true rfl⟩) (x_preV hC hS hw (va_recv hK hw (q := (R_Answer, T_Answer, 12)) (ci := 7) rfl (x_at (by decide) (xcl_44 G σ)))) rfl rfl hl.1 rfl (lv_room (Nat.le_of_ble_eq_true rfl)) d_Answer_decide_133 ⟨Nat.le_of_ble_eq_true rfl, Nat.le_of_ble_eq_true rfl⟩) (fun H locs hw hS => ?_)
        refine lv_goto (tgt := 191) hx hb d_Answer_decide_136 (by decide) ?_
        have e1 := Option.some.inj hE
        exact W.vret hx hb hr (fun t ht hW => ⟨rfl, by rw [ht, ← e1]; exact hw, hS.F ht⟩) hS.2.2 d_Answer_decide_191
  have jn64 : ∀ (ls : Array Slot) (H : Heap) (locs : List Loc) (σ : St) (l3 : Option Nat) (k0 : Int32), x_Answer_decide_64 l3 k0 σ = some σ' → lv_has ls 6 [(0, .ref (G.2.1 44)), (1, .ref (G.2.1 30)), (2, .ref (G.2.1 1)), (3, va_re G.2.2.2.2.1 l3)] → xw G σ H → va_S (xA G) s.heap H locs → W p l e (headSpec (ws_Answer_decide) rm_Answer_decide).room s m ([.ref (G.2.1 44), .ref (G.2.1 30), .ref (G.2.1 1)] : List Value).toArray below meth c H locs 0 0 (MQ below (xQ G none σ') ([.ref (G.2.1 44), .ref (G.2.1 30), .ref (G.2.1 1)] : List Value).toArray s 0 0 (xA G)) (F0 m 64 ls [.int k0]) := by
    intro ls H locs σ l3 k0 hE hl hw hS
    unfold x_Answer_decide_64 at hE
    refine lv_istore (lv' := [(4, .int k0), (0, .ref (G.2.1 44)), (1, .ref (G.2.1 30)), (2, .ref (G.2.1 1)), (3, va_re G.2.2.2.2.1 l3)]) hx hb d_Answer_decide_64 hl (by decide) (by first | rfl | (simp [x_cat_rf, x_cat_re, x_cat_i, x_cat_r, x_cat_l]; done)) (fun ls hl => ?_)
    have hl : lv_has ls 6 [(4, .int k0), (0, .ref (G.2.1 44)), (1, .ref (G.2.1 30)), (2, .ref (G.2.1 1)), (3, va_re G.2.2.2.2.1 l3)] := hl
    refine lv_aload_n hx hb d_Answer_decide_66 rfl (lv_at hl 3 rfl) ?_
    refine lv_aload_n hx hb d_Answer_decide_67 rfl (lv_at hl 2 rfl) ?_
    refine va_getN (D := G.1) (cl := xCl) (ci := 2) (v := .ref (G.2.1 40)) (C := R_Request) (T := T_Request) (N := 9) hx hb hu fi_Request hown hK hw 30 (x_at (by decide) (xcl_30 G σ)) rfl 1 (by decide) (nl_25 hG) (fun _ h9 => h9) rfl d_Answer_decide_68 ?_
    obtain ⟨r71, hC71, hE⟩ := x_bind hE
    refine x_callR (W.runV (As := [.ref (G.2.1 40)]) (rest := []) ⟨hx, hb, hml, hown, hu⟩ (t_Site_find l G σ 40 (by decide) r71 hC71) (cwV 1 hu (uw_V mw_837 mw_838 mw_839 mw_61 mw_840) rfl rfl rfl hd_Site_find ⟨Nat.le_of_ble_eq_true rfl, Nat.le_of_ble_eq_true rfl⟩) (x_preV hC hS hw (va_recv hK hw (q := (R_Site, T_Site, 2)) (ci := 5) rfl (x_at (by decide) (xcl_1 G σ)))) rfl rfl hl.1 rfl (lv_room (Nat.le_of_ble_eq_true rfl)) d_Answer_decide_71 ⟨Nat.le_of_ble_eq_true rfl, Nat.le_of_ble_eq_true rfl⟩) ?_
    refine x_astoreq (lv' := [(5, va_rf (Option.map G.2.1 r71)), (4, .int k0), (0, .ref (G.2.1 44)), (1, .ref (G.2.1 30)), (2, .ref (G.2.1 1)), (3, va_re G.2.2.2.2.1 l3)]) hx hb d_Answer_decide_74 hl (by decide) (by first | rfl | (simp [x_cat_rf, x_cat_re, x_cat_i, x_cat_r, x_cat_l]; done)) (va_rf_or _) (fun ls hl => ?_)
    have hl : lv_has ls 6 [(5, va_rf (Option.map G.2.1 r71)), (4, .int k0), (0, .ref (G.2.1 44)), (1, .ref (G.2.1 30)), (2, .ref (G.2.1 1)), (3, va_re G.2.2.2.2.1 l3)] := hl
    refine lv_iload hx hb d_Answer_decide_76 (lv_at hl 1 rfl) ?_
    refine lv_if_eq (tgt := 109) hx hb d_Answer_decide_78 (by decide) (fun hc78 => ?_) (fun hc78 => ?_)
    · rw [if_pos hc78] at hE
      exact jn109 _ _ _ _ _ _ _ hE (lv_sub hl [2, 3, 4, 5, 1, 0] rfl) hw hS
    · rw [if_neg hc78] at hE
      refine lv_aload_n hx hb d_Answer_decide_81 rfl (lv_at hl 3 rfl) ?_
      refine va_getN (D := G.1) (cl := xCl) (ci := 2) (v := .ref (G.2.1 40)) (C := R_Request) (T := T_Request) (N := 9) hx hb hu fi_Request hown hK hw 30 (x_at (by decide) (xcl_30 G σ)) rfl 1 (by decide) (nl_25 hG) (fun _ h9 => h9) rfl d_Answer_decide_82 ?_
      refine va_getN (D := G.1) (cl := xCl) (ci := 0) (v := .int (σ.1 40 1)) (C := R_Bytes) (T := T_Bytes) (N := 2) hx hb hu fi_Bytes hown hK hw 40 (x_at (by decide) (xcl_40 G σ)) rfl 1 (by decide) (nl_2 hG) (fun _ h9 => h9) rfl d_Answer_decide_85 ?_
      refine lv_iconst (v := (1 : Int32)) hx hb d_Answer_decide_88 (by decide) ?_
      refine lv_icmp_ne (tgt := 109) hx hb d_Answer_decide_89 (by decide) (fun hc89 => ?_) (fun hc89 => ?_)
      · rw [if_neg hc89] at hE
        exact jn109 _ _ _ _ _ _ _ hE (lv_sub hl [2, 3, 4, 5, 1, 0] rfl) hw hS
      · rw [if_pos hc89] at hE
        refine lv_aload_n hx hb d_Answer_decide_92 rfl (lv_at hl 2 rfl) ?_
        refine lv_aload_n hx hb d_Answer_decide_93 rfl (lv_at hl 4 rfl) ?_
        obtain ⟨s94, hC94, hE⟩ := x_bind hE
        refine x_callV hS (W.runV (As := [.ref (G.2.1 1)]) (rest := []) ⟨hx, hb, hml, hown, hu⟩ (t_Answer_list l G σ s94 hC94) (cwV 1 hu (uw_V mw_842 mw_844 mw_11 mw_67 mw_845) rfl rfl rfl hd_Answer_list ⟨Nat.le_of_ble_eq_true rfl, Nat.le_of_ble_eq_true rfl⟩) (x_preV hC hS hw (va_recv hK hw (q := (R_Answer, T_Answer, 12)) (ci := 7) rfl (x_at (by decide) (xcl_44 G σ)))) rfl rfl hl.1 rfl (lv_room (Nat.le_of_ble_eq_true rfl)) d_Answer_decide_94 ⟨Nat.le_of_ble_eq_true rfl, Nat.le_of_ble_eq_true rfl⟩) (fun H locs hw hS => ?_)
        refine lv_aload_n hx hb d_Answer_decide_97 rfl (lv_at hl 2 rfl) ?_
        refine x_aloadq_n hx hb d_Answer_decide_98 rfl (lv_at hl 5 rfl) (va_re_or _ _) ?_
        refine lv_aload_n hx hb d_Answer_decide_99 rfl (lv_at hl 2 rfl) ?_
        refine va_get (D := G.1) (cl := xCl) (ci := 7) (v := .ref (G.2.1 46)) (C := R_Answer) (T := T_Answer) (N := 12) hx hb hu fi_Answer hown hK hw 44 (x_at (by decide) (xcl_44 G s94)) rfl 1 (by decide) (hu _ mw_293) (fun _ h9 => h9) rfl d_Answer_decide_100 ?_
        obtain ⟨s103, hC103, hE⟩ := x_bind hE
        refine x_callV hS (W.runV (As := [va_re G.2.2.2.2.1 l3, .ref (G.2.1 46)]) (rest := []) ⟨hx, hb, hml, hown, hu⟩ (t_Answer_show l G s94 l3 46 (by decide) s103 hC103) (cwV 2 hu (uw_V mw_852 mw_854 mw_12 mw_67 mw_855) rfl rfl rfl hd_Answer_show ⟨Nat.le_of_ble_eq_true rfl, Nat.le_of_ble_eq_true rfl⟩) (x_preV hC hS hw (va_recv hK hw (q := (R_Answer, T_Answer, 12)) (ci := 7) rfl (x_at (by decide) (xcl_44 G s94)))) rfl rfl hl.1 rfl (lv_room (Nat.le_of_ble_eq_true rfl)) d_Answer_decide_103 ⟨Nat.le_of_ble_eq_true rfl, Nat.le_of_ble_eq_true rfl⟩) (fun H locs hw hS => ?_)
        refine lv_goto (tgt := 191) hx hb d_Answer_decide_106 (by decide) ?_
        have e1 := Option.some.inj hE
        exact W.vret hx hb hr (fun t ht hW => ⟨rfl, by rw [ht, ← e1]; exact hw, hS.F ht⟩) hS.2.2 d_Answer_decide_191
  have jn59 : ∀ (ls : Array Slot) (H : Heap) (locs : List Loc) (σ : St) (l3 : Option Nat), x_Answer_decide_59 l3 σ = some σ' → lv_has ls 6 [(0, .ref (G.2.1 44)), (1, .ref (G.2.1 30)), (2, .ref (G.2.1 1)), (3, va_re G.2.2.2.2.1 l3)] → xw G σ H → va_S (xA G) s.heap H locs → W p l e (headSpec (ws_Answer_decide) rm_Answer_decide).room s m ([.ref (G.2.1 44), .ref (G.2.1 30), .ref (G.2.1 1)] : List Value).toArray below meth c H locs 0 0 (MQ below (xQ G none σ') ([.ref (G.2.1 44), .ref (G.2.1 30), .ref (G.2.1 1)] : List Value).toArray s 0 0 (xA G)) (F0 m 59 ls []) := by
    intro ls H locs σ l3 hE hl hw hS
    unfold x_Answer_decide_59 at hE
    refine lv_iconst (v := (1 : Int32)) hx hb d_Answer_decide_59 (by decide) ?_
    refine lv_goto (tgt := 64) hx hb d_Answer_decide_60 (by decide) ?_
    exact jn64 _ _ _ _ _ _ hE (lv_sub hl [0, 1, 2, 3] rfl) hw hS
  have hl := lv_entry ([.ref (G.2.1 44), .ref (G.2.1 30), .ref (G.2.1 1)]) (n := 6) (Nat.le_of_ble_eq_true rfl)
  rw [lg_entry_eq]
  generalize (lg_sl ([.ref (G.2.1 44), .ref (G.2.1 30), .ref (G.2.1 1)]) ++ List.replicate (6 - (lg_sl ([.ref (G.2.1 44), .ref (G.2.1 30), .ref (G.2.1 1)])).length) Slot.unset).toArray = ls at hl ⊢
  have hl : lv_has ls 6 [(0, .ref (G.2.1 44)), (1, .ref (G.2.1 30)), (2, .ref (G.2.1 1))] := hl
  unfold x_Answer_decide at hE
  refine lv_aload_n hx hb d_Answer_decide_0 rfl (lv_at hl 1 rfl) ?_
  refine va_getN (D := G.1) (cl := xCl) (ci := 2) (v := va_re G.2.2.2.2.1 σ.2.2.2.1) (C := R_Request) (T := T_Request) (N := 9) hx hb hu fi_Request hown hK hw 30 (x_at (by decide) (xcl_30 G σ)) rfl 3 (by decide) (nl_28 hG) (fun _ h9 => h9) rfl d_Answer_decide_1 ?_
  refine x_astoreq_n hx hb d_Answer_decide_4 rfl hl (by decide) rfl (va_re_or _ _) (fun ls hl => ?_)
  have hl : lv_has ls 6 [(3, va_re G.2.2.2.2.1 σ.2.2.2.1), (0, .ref (G.2.1 44)), (1, .ref (G.2.1 30)), (2, .ref (G.2.1 1))] := hl
  refine x_aloadq_n hx hb d_Answer_decide_5 rfl (lv_at hl 0 rfl) (va_re_or _ _) ?_
  refine va_gets (v := va_re G.2.2.2.2.1 (some 5)) hx hb (hN.2.2.2.2.1 5 (by decide)).1 hS hown (hu _ mw_826) (fun _ h9 => h9) d_Answer_decide_6 ?_
  obtain ⟨q9_1, hE⟩ := x_guard hE
  refine x_acmp_eq (tgt := 19) hx hb hN.2.2.2.2.2.1 q9_1 (by decide) d_Answer_decide_9 (by decide) (fun hc9 => ?_) (fun hc9 => ?_)
  · rw [if_pos hc9] at hE
    exact jn19 _ _ _ _ _ hE (lv_sub hl [1, 2, 3, 0] rfl) hw hS
  · rw [if_neg hc9] at hE
    refine x_aloadq_n hx hb d_Answer_decide_12 rfl (lv_at hl 0 rfl) (va_re_or _ _) ?_
    refine va_gets (v := va_re G.2.2.2.2.1 (some 6)) hx hb (hN.2.2.2.2.1 6 (by decide)).1 hS hown (hu _ mw_827) (fun _ h9 => h9) d_Answer_decide_13 ?_
    obtain ⟨q16_1, hE⟩ := x_guard hE
    refine x_acmp_ne (tgt := 45) hx hb hN.2.2.2.2.2.1 q16_1 (by decide) d_Answer_decide_16 (by decide) (fun hc16 => ?_) (fun hc16 => ?_)
    · rw [if_neg hc16] at hE
      refine x_aloadq_n hx hb d_Answer_decide_45 rfl (lv_at hl 0 rfl) (va_re_or _ _) ?_
      refine va_gets (v := va_re G.2.2.2.2.1 (some 0)) hx hb (hN.2.2.2.2.1 0 (by decide)).1 hS hown (hu _ mw_833) (fun _ h9 => h9) d_Answer_decide_46 ?_
      obtain ⟨q49_1, hE⟩ := x_guard hE
      refine x_acmp_eq (tgt := 59) hx hb hN.2.2.2.2.2.1 q49_1 (by decide) d_Answer_decide_49 (by decide) (fun hc49 => ?_) (fun hc49 => ?_)
      · rw [if_pos hc49] at hE
        exact jn59 _ _ _ _ _ hE (lv_sub hl [1, 2, 3, 0] rfl) hw hS
      · rw [if_neg hc49] at hE
        refine x_aloadq_n hx hb d_Answer_decide_52 rfl (lv_at hl 0 rfl) (va_re_or _ _) ?_
        refine va_gets (v := va_re G.2.2.2.2.1 (some 1)) hx hb (hN.2.2.2.2.1 1 (by decide)).1 hS hown (hu _ mw_835) (fun _ h9 => h9) d_Answer_decide_53 ?_
        obtain ⟨q56_1, hE⟩ := x_guard hE
        refine x_acmp_ne (tgt := 63) hx hb hN.2.2.2.2.2.1 q56_1 (by decide) d_Answer_decide_56 (by decide) (fun hc56 => ?_) (fun hc56 => ?_)
        · rw [if_neg hc56] at hE
          refine lv_iconst (v := (0 : Int32)) hx hb d_Answer_decide_63 (by decide) ?_
          exact jn64 _ _ _ _ _ _ hE (lv_sub hl [1, 2, 3, 0] rfl) hw hS
        · rw [if_pos hc56] at hE
          exact jn59 _ _ _ _ _ hE (lv_sub hl [1, 2, 3, 0] rfl) hw hS
    · rw [if_pos hc16] at hE
      exact jn19 _ _ _ _ _ hE (lv_sub hl [1, 2, 3, 0] rfl) hw hS

def y_Outbox_empty : MethodName := ⟨"PlainOrigin$Outbox", "empty", "()V"⟩
def ws_Outbox_empty : List Cond := Cond.code y_Outbox_empty prog_6_method_2_code 1 none :: UW
theorem hd_Outbox_empty : y_Outbox_empty.cls = R_Outbox ∧ y_Outbox_empty.cls ≠ "java/lang/invoke/MethodHandle" ∧ y_Outbox_empty.cls ≠ "java/lang/invoke/VarHandle" ∧ (parseMethodDescriptor y_Outbox_empty.desc).map (fun d => d.parameters.length) = some 0 := by decide +kernel
theorem d_Outbox_empty_0 : decode prog_6_method_2_code 0 = .ok (.aload_n 0, 1) := by decide +kernel
theorem d_Outbox_empty_1 : decode prog_6_method_2_code 1 = .ok (.getfield 14, 3) := by decide +kernel
theorem d_Outbox_empty_4 : decode prog_6_method_2_code 4 = .ok (.invokevirtual 20, 3) := by decide +kernel
theorem d_Outbox_empty_7 : decode prog_6_method_2_code 7 = .ok (.aload_n 0, 1) := by decide +kernel
theorem d_Outbox_empty_8 : decode prog_6_method_2_code 8 = .ok (.iconst 0, 1) := by decide +kernel
theorem d_Outbox_empty_9 : decode prog_6_method_2_code 9 = .ok (.putfield 23, 3) := by decide +kernel
theorem d_Outbox_empty_12 : decode prog_6_method_2_code 12 = .ok (.return_, 1) := by decide +kernel
def x_Outbox_empty (σ : St) : Option St := (Option.bind (x_Bytes_clear 49 σ) (fun s4 => (x_let (x_updR s4 48 1 (0 : Int32)) (fun (s9 : St) => some s9))))
abbrev rm_Outbox_empty : Room := { frames := 1, cells := 0, slots := 0, locals := 20 }
set_option maxHeartbeats 4000000 in
set_option maxRecDepth 100000 in
theorem t_Outbox_empty (l : Launch) (G : xG) (σ : St) (σ' : St) (hE : x_Outbox_empty σ = some σ') : Met l y_Outbox_empty (ws_Outbox_empty) rm_Outbox_empty (xP G σ [.ref (G.2.1 48)]) (xQ G none σ') 0 0 (xA G) := by
  refine Met.ofW (cc := prog_6_method_2_code) (maxL := 1) (ret := none) (by decide) rfl ?_
  intro p e s m args below meth c s₁ B hml hv
  obtain ⟨rfl, hw, hC⟩ := hv
  have hx := B.exec
  have hb := B.bytes
  have hr := B.returns
  have hu : ∀ w ∈ UW, w.before _ s = true := fun w h => atoms_spec B.pre w (List.mem_cons_of_mem _ h)
  have hown : s.vm.findClass R_Outbox = some m.cls := findClass_of_methodNamed B.named
  have hlocks := B.notSynchronized
  have hK := hC.1
  have hI := hC.2.1
  have hG := hC.2.2.1
  have hN := hC.2.2.2
  have hS : va_S (xA G) s.heap s.heap [] := va_S.rf
  have hl := lv_entry ([.ref (G.2.1 48)]) (n := 1) (Nat.le_of_ble_eq_true rfl)
  rw [lg_entry_eq]
  generalize (lg_sl ([.ref (G.2.1 48)]) ++ List.replicate (1 - (lg_sl ([.ref (G.2.1 48)])).length) Slot.unset).toArray = ls at hl ⊢
  have hl : lv_has ls 1 [(0, .ref (G.2.1 48))] := hl
  unfold x_Outbox_empty at hE
  refine lv_aload_n hx hb d_Outbox_empty_0 rfl (lv_at hl 0 rfl) ?_
  refine va_get (D := G.1) (cl := xCl) (ci := 8) (v := .ref (G.2.1 49)) (C := R_Outbox) (T := T_Outbox) (N := 2) hx hb hu fi_Outbox hown hK hw 48 (x_at (by decide) (xcl_48 G σ)) rfl 0 (by decide) (hu _ mw_348) (fun _ h9 => h9) rfl d_Outbox_empty_1 ?_
  obtain ⟨s4, hC4, hE⟩ := x_bind hE
  refine x_callV hS (W.runV (As := []) (rest := []) ⟨hx, hb, hml, hown, hu⟩ (t_Bytes_clear l G σ 49 (by decide) s4 hC4) (cwV 0 hu (uw_V mw_403 mw_386 mw_387 mw_63 mw_388) rfl rfl rfl hd_Bytes_clear ⟨Nat.le_of_ble_eq_true rfl, Nat.le_of_ble_eq_true rfl⟩) (x_preV hC hS hw (va_recv hK hw (q := (R_Bytes, T_Bytes, 2)) (ci := 0) rfl (x_at (by decide) (xcl_49 G σ)))) rfl rfl hl.1 rfl (lv_room (Nat.le_of_ble_eq_true rfl)) d_Outbox_empty_4 ⟨Nat.le_of_ble_eq_true rfl, Nat.le_of_ble_eq_true rfl⟩) (fun H locs hw hS => ?_)
  refine lv_aload_n hx hb d_Outbox_empty_7 rfl (lv_at hl 0 rfl) ?_
  refine lv_iconst (v := (0 : Int32)) hx hb d_Outbox_empty_8 (by decide) ?_
  refine va_put (D := G.1) (cl := xCl) (ci := 8) (v := .int (0 : Int32)) (ty := .int) (C := R_Outbox) (T := T_Outbox) (N := 2) hx hb hu fi_Outbox ty_Outbox tyok_Outbox nm_Outbox hown hK hw (x_D hI _) hS 48 (x_at (by decide) (xcl_48 G s4)) rfl 1 (by decide) (hu _ mw_350) (fun _ h9 => h9) rfl (tyok_Outbox 1 (by decide)) rfl rfl (Nat.le_of_ble_eq_true rfl) d_Outbox_empty_9 (fun H locs hw _ hS => ?_)
  replace hw := x_setR hw (by decide) rfl
  obtain ⟨s9, e9, hE⟩ := x_letE hE
  rw [← e9] at hw
  have e1 := Option.some.inj hE
  exact W.vret hx hb hr (fun t ht hW => ⟨rfl, by rw [ht, ← e1]; exact hw, hS.F ht⟩) hS.2.2 d_Outbox_empty_12

def y_Outbox_writeByte : MethodName := ⟨"PlainOrigin$Outbox", "writeByte", "(I)V"⟩
def ws_Outbox_writeByte : List Cond := Cond.code y_Outbox_writeByte prog_6_method_6_code 2 none :: UW
theorem hd_Outbox_writeByte : y_Outbox_writeByte.cls = R_Outbox ∧ y_Outbox_writeByte.cls ≠ "java/lang/invoke/MethodHandle" ∧ y_Outbox_writeByte.cls ≠ "java/lang/invoke/VarHandle" ∧ (parseMethodDescriptor y_Outbox_writeByte.desc).map (fun d => d.parameters.length) = some 1 := by decide +kernel
theorem d_Outbox_writeByte_0 : decode prog_6_method_6_code 0 = .ok (.aload_n 0, 1) := by decide +kernel
theorem d_Outbox_writeByte_1 : decode prog_6_method_6_code 1 = .ok (.getfield 14, 3) := by decide +kernel
theorem d_Outbox_writeByte_4 : decode prog_6_method_6_code 4 = .ok (.iload_n 1, 1) := by decide +kernel
theorem d_Outbox_writeByte_5 : decode prog_6_method_6_code 5 = .ok (.invokevirtual 103, 3) := by decide +kernel
theorem d_Outbox_writeByte_8 : decode prog_6_method_6_code 8 = .ok (.aload_n 0, 1) := by decide +kernel
theorem d_Outbox_writeByte_9 : decode prog_6_method_6_code 9 = .ok (.dup, 1) := by decide +kernel
theorem d_Outbox_writeByte_10 : decode prog_6_method_6_code 10 = .ok (.getfield 23, 3) := by decide +kernel
theorem d_Outbox_writeByte_13 : decode prog_6_method_6_code 13 = .ok (.iconst 1, 1) := by decide +kernel
theorem d_Outbox_writeByte_14 : decode prog_6_method_6_code 14 = .ok (.iadd, 1) := by decide +kernel
theorem d_Outbox_writeByte_15 : decode prog_6_method_6_code 15 = .ok (.putfield 23, 3) := by decide +kernel
theorem d_Outbox_writeByte_18 : decode prog_6_method_6_code 18 = .ok (.return_, 1) := by decide +kernel
def x_Outbox_writeByte (a1 : Int32) (σ : St) : Option St := (Option.bind (x_Bytes_add 49 a1 σ) (fun s5 => (x_let (x_updR s5 48 1 ((s5.1 48 1) + (1 : Int32))) (fun (s15 : St) => some s15))))
abbrev rm_Outbox_writeByte : Room := { frames := 1, cells := 0, slots := 0, locals := 21 }
set_option maxHeartbeats 4000000 in
set_option maxRecDepth 100000 in
theorem t_Outbox_writeByte (l : Launch) (G : xG) (σ : St) (a1 : Int32) (σ' : St) (hE : x_Outbox_writeByte a1 σ = some σ') : Met l y_Outbox_writeByte (ws_Outbox_writeByte) rm_Outbox_writeByte (xP G σ [.ref (G.2.1 48), .int a1]) (xQ G none σ') 0 0 (xA G) := by
  refine Met.ofW (cc := prog_6_method_6_code) (maxL := 2) (ret := none) (by decide) rfl ?_
  intro p e s m args below meth c s₁ B hml hv
  obtain ⟨rfl, hw, hC⟩ := hv
  have hx := B.exec
  have hb := B.bytes
  have hr := B.returns
  have hu : ∀ w ∈ UW, w.before _ s = true := fun w h => atoms_spec B.pre w (List.mem_cons_of_mem _ h)
  have hown : s.vm.findClass R_Outbox = some m.cls := findClass_of_methodNamed B.named
  have hlocks := B.notSynchronized
  have hK := hC.1
  have hI := hC.2.1
  have hG := hC.2.2.1
  have hN := hC.2.2.2
  have hS : va_S (xA G) s.heap s.heap [] := va_S.rf
  have hl := lv_entry ([.ref (G.2.1 48), .int a1]) (n := 2) (Nat.le_of_ble_eq_true rfl)
  rw [lg_entry_eq]
  generalize (lg_sl ([.ref (G.2.1 48), .int a1]) ++ List.replicate (2 - (lg_sl ([.ref (G.2.1 48), .int a1])).length) Slot.unset).toArray = ls at hl ⊢
  have hl : lv_has ls 2 [(0, .ref (G.2.1 48)), (1, .int a1)] := hl
  unfold x_Outbox_writeByte at hE
  refine lv_aload_n hx hb d_Outbox_writeByte_0 rfl (lv_at hl 0 rfl) ?_
  refine va_get (D := G.1) (cl := xCl) (ci := 8) (v := .ref (G.2.1 49)) (C := R_Outbox) (T := T_Outbox) (N := 2) hx hb hu fi_Outbox hown hK hw 48 (x_at (by decide) (xcl_48 G σ)) rfl 0 (by decide) (hu _ mw_348) (fun _ h9 => h9) rfl d_Outbox_writeByte_1 ?_
  refine lv_iload_n hx hb d_Outbox_writeByte_4 rfl (lv_at hl 1 rfl) ?_
  obtain ⟨s5, hC5, hE⟩ := x_bind hE
  refine x_callV hS (W.runV (As := [.int a1]) (rest := []) ⟨hx, hb, hml, hown, hu⟩ (t_Bytes_add l G σ 49 a1 (by decide) s5 hC5) (cwV 1 hu (uw_V mw_932 mw_509 mw_510 mw_63 mw_511) rfl rfl rfl hd_Bytes_add ⟨Nat.le_of_ble_eq_true rfl, Nat.le_of_ble_eq_true rfl⟩) (x_preV hC hS hw (va_recv hK hw (q := (R_Bytes, T_Bytes, 2)) (ci := 0) rfl (x_at (by decide) (xcl_49 G σ)))) rfl rfl hl.1 rfl (lv_room (Nat.le_of_ble_eq_true rfl)) d_Outbox_writeByte_5 ⟨Nat.le_of_ble_eq_true rfl, Nat.le_of_ble_eq_true rfl⟩) (fun H locs hw hS => ?_)
  refine lv_aload_n hx hb d_Outbox_writeByte_8 rfl (lv_at hl 0 rfl) ?_
  refine lv_dup hx hb d_Outbox_writeByte_9 rfl ?_
  refine va_get (D := G.1) (cl := xCl) (ci := 8) (v := .int (s5.1 48 1)) (C := R_Outbox) (T := T_Outbox) (N := 2) hx hb hu fi_Outbox hown hK hw 48 (x_at (by decide) (xcl_48 G s5)) rfl 1 (by decide) (hu _ mw_350) (fun _ h9 => h9) rfl d_Outbox_writeByte_10 ?_
  refine lv_iconst (v := (1 : Int32)) hx hb d_Outbox_writeByte_13 (by decide) ?_
  refine lv_iadd hx hb d_Outbox_writeByte_14 ?_
  refine va_put (D := G.1) (cl := xCl) (ci := 8) (v := .int ((s5.1 48 1) + (1 : Int32))) (ty := .int) (C := R_Outbox) (T := T_Outbox) (N := 2) hx hb hu fi_Outbox ty_Outbox tyok_Outbox nm_Outbox hown hK hw (x_D hI _) hS 48 (x_at (by decide) (xcl_48 G s5)) rfl 1 (by decide) (hu _ mw_350) (fun _ h9 => h9) rfl (tyok_Outbox 1 (by decide)) rfl rfl (Nat.le_of_ble_eq_true rfl) d_Outbox_writeByte_15 (fun H locs hw _ hS => ?_)
  replace hw := x_setR hw (by decide) rfl
  obtain ⟨s15, e15, hE⟩ := x_letE hE
  rw [← e15] at hw
  have e1 := Option.some.inj hE
  exact W.vret hx hb hr (fun t ht hW => ⟨rfl, by rw [ht, ← e1]; exact hw, hS.F ht⟩) hS.2.2 d_Outbox_writeByte_18

def y_Outbox_writeText : MethodName := ⟨"PlainOrigin$Outbox", "writeText", "(Ljava/lang/String;)V"⟩
def ws_Outbox_writeText : List Cond := Cond.code y_Outbox_writeText prog_6_method_7_code 3 none :: UW
theorem hd_Outbox_writeText : y_Outbox_writeText.cls = R_Outbox ∧ y_Outbox_writeText.cls ≠ "java/lang/invoke/MethodHandle" ∧ y_Outbox_writeText.cls ≠ "java/lang/invoke/VarHandle" ∧ (parseMethodDescriptor y_Outbox_writeText.desc).map (fun d => d.parameters.length) = some 1 := by decide +kernel
theorem d_Outbox_writeText_0 : decode prog_6_method_7_code 0 = .ok (.iconst 0, 1) := by decide +kernel
theorem d_Outbox_writeText_1 : decode prog_6_method_7_code 1 = .ok (.istore_n 2, 1) := by decide +kernel
theorem d_Outbox_writeText_2 : decode prog_6_method_7_code 2 = .ok (.iload_n 2, 1) := by decide +kernel
theorem d_Outbox_writeText_3 : decode prog_6_method_7_code 3 = .ok (.aload_n 1, 1) := by decide +kernel
theorem d_Outbox_writeText_4 : decode prog_6_method_7_code 4 = .ok (.invokevirtual 106, 3) := by decide +kernel
theorem d_Outbox_writeText_7 : decode prog_6_method_7_code 7 = .ok (.if_icmp .ge (18), 3) := by decide +kernel
theorem d_Outbox_writeText_10 : decode prog_6_method_7_code 10 = .ok (.aload_n 0, 1) := by decide +kernel
theorem d_Outbox_writeText_11 : decode prog_6_method_7_code 11 = .ok (.aload_n 1, 1) := by decide +kernel
theorem d_Outbox_writeText_12 : decode prog_6_method_7_code 12 = .ok (.iload_n 2, 1) := by decide +kernel
theorem d_Outbox_writeText_13 : decode prog_6_method_7_code 13 = .ok (.invokevirtual 112, 3) := by decide +kernel
theorem d_Outbox_writeText_16 : decode prog_6_method_7_code 16 = .ok (.invokevirtual 62, 3) := by decide +kernel
theorem d_Outbox_writeText_19 : decode prog_6_method_7_code 19 = .ok (.iinc 2 (1), 3) := by decide +kernel
theorem d_Outbox_writeText_22 : decode prog_6_method_7_code 22 = .ok (.goto (-20), 3) := by decide +kernel
theorem d_Outbox_writeText_25 : decode prog_6_method_7_code 25 = .ok (.return_, 1) := by decide +kernel
def x_Outbox_writeText_2 (w1 : Nat) : Nat → Int32 → St → Option St
  | 0, _, _ => none
  | n + 1, l2, σ => (Option.bind (x_String_length w1) (fun r4 => (if r4 ≤ l2 then some σ else (Option.bind (x_String_charAt w1 l2) (fun r13 => (Option.bind (x_Outbox_writeByte r13 σ) (fun s16 => (x_let (l2 + (1 : Int32)) (fun (v19 : Int32) => x_Outbox_writeText_2 w1 n v19 s16)))))))))
def x_Outbox_writeText (w1 : Nat) (σ : St) : Option St := x_Outbox_writeText_2 w1 x_fuel (0 : Int32) σ
abbrev rm_Outbox_writeText : Room := { frames := 4, cells := 0, slots := 0, locals := 85 }
set_option maxHeartbeats 4000000 in
set_option maxRecDepth 100000 in
theorem t_Outbox_writeText (l : Launch) (G : xG) (σ : St) (w1 : Nat) (hw1 : w1 < nStr) (σ' : St) (hE : x_Outbox_writeText w1 σ = some σ') : Met l y_Outbox_writeText (ws_Outbox_writeText) rm_Outbox_writeText (xP G σ [.ref (G.2.1 48), .ref (G.2.2.2.1 w1)]) (xQ G none σ') 0 0 (xA G) := by
  refine Met.ofW (cc := prog_6_method_7_code) (maxL := 3) (ret := none) (by decide) rfl ?_
  intro p e s m args below meth c s₁ B hml hv
  obtain ⟨rfl, hw, hC⟩ := hv
  have hx := B.exec
  have hb := B.bytes
  have hr := B.returns
  have hu : ∀ w ∈ UW, w.before _ s = true := fun w h => atoms_spec B.pre w (List.mem_cons_of_mem _ h)
  have hown : s.vm.findClass R_Outbox = some m.cls := findClass_of_methodNamed B.named
  have hlocks := B.notSynchronized
  have hK := hC.1
  have hI := hC.2.1
  have hG := hC.2.2.1
  have hN := hC.2.2.2
  have hS : va_S (xA G) s.heap s.heap [] := va_S.rf
  have jn2 : ∀ (n : Nat) (ls : Array Slot) (H : Heap) (locs : List Loc) (σ : St) (l2 : Int32), x_Outbox_writeText_2 w1 n l2 σ = some σ' → lv_has ls 3 [(0, .ref (G.2.1 48)), (1, .ref (G.2.2.2.1 w1)), (2, .int l2)] → xw G σ H → va_S (xA G) s.heap H locs → W p l e (headSpec (ws_Outbox_writeText) rm_Outbox_writeText).room s m ([.ref (G.2.1 48), .ref (G.2.2.2.1 w1)] : List Value).toArray below meth c H locs 0 0 (MQ below (xQ G none σ') ([.ref (G.2.1 48), .ref (G.2.2.2.1 w1)] : List Value).toArray s 0 0 (xA G)) (F0 m 2 ls []) := by
    intro n
    induction n with
    | zero => intro ls H locs σ l2 hE; rw [x_Outbox_writeText_2] at hE; cases hE
    | succ n ih =>
      intro ls H locs σ l2 hE hl hw hS
      rw [x_Outbox_writeText_2] at hE
      refine lv_iload_n hx hb d_Outbox_writeText_2 rfl (lv_at hl 2 rfl) ?_
      refine lv_aload_n hx hb d_Outbox_writeText_3 rfl (lv_at hl 1 rfl) ?_
      obtain ⟨r4, hC4, hE⟩ := x_bind hE
      refine x_callR (W.runV (As := []) (rest := [.int l2]) ⟨hx, hb, hml, hown, hu⟩ (t_String_length l G σ w1 hw1 r4 hC4) (cwV 0 hu (uw_V mw_926 mw_568 mw_569 mw_76 mw_570) rfl rfl rfl hd_String_length ⟨Nat.le_of_ble_eq_true rfl, Nat.le_of_ble_eq_true rfl⟩) (x_preV hC hS hw (x_recvS hN hw1 hS)) rfl rfl hl.1 rfl (lv_room (Nat.le_of_ble_eq_true rfl)) d_Outbox_writeText_4 ⟨Nat.le_of_ble_eq_true rfl, Nat.le_of_ble_eq_true rfl⟩) ?_
      refine lv_icmp_ge (tgt := 25) hx hb d_Outbox_writeText_7 (by decide) (fun hc7 => ?_) (fun hc7 => ?_)
      · rw [if_pos hc7] at hE
        have e1 := Option.some.inj hE
        exact W.vret hx hb hr (fun t ht hW => ⟨rfl, by rw [ht, ← e1]; exact hw, hS.F ht⟩) hS.2.2 d_Outbox_writeText_25
      · rw [if_neg hc7] at hE
        refine lv_aload_n hx hb d_Outbox_writeText_10 rfl (lv_at hl 0 rfl) ?_
        refine lv_aload_n hx hb d_Outbox_writeText_11 rfl (lv_at hl 1 rfl) ?_
        refine lv_iload_n hx hb d_Outbox_writeText_12 rfl (lv_at hl 2 rfl) ?_
        obtain ⟨r13, hC13, hE⟩ := x_bind hE
        refine x_callR (W.runV (As := [.int l2]) (rest := [.ref (G.2.1 48)]) ⟨hx, hb, hml, hown, hu⟩ (t_String_charAt l G σ w1 l2 hw1 r13 hC13) (cwV 1 hu (uw_V mw_927 mw_648 mw_649 mw_76 mw_650) rfl rfl rfl hd_String_charAt ⟨Nat.le_of_ble_eq_true rfl, Nat.le_of_ble_eq_true rfl⟩) (x_preV hC hS hw (x_recvS hN hw1 hS)) rfl rfl hl.1 rfl (lv_room (Nat.le_of_ble_eq_true rfl)) d_Outbox_writeText_13 ⟨Nat.le_of_ble_eq_true rfl, Nat.le_of_ble_eq_true rfl⟩) ?_
        obtain ⟨s16, hC16, hE⟩ := x_bind hE
        refine x_callV hS (W.runV (As := [.int r13]) (rest := []) ⟨hx, hb, hml, hown, hu⟩ (t_Outbox_writeByte l G σ r13 s16 hC16) (cwV 1 hu (uw_V mw_928 mw_930 mw_18 mw_69 mw_931) rfl rfl rfl hd_Outbox_writeByte ⟨Nat.le_of_ble_eq_true rfl, Nat.le_of_ble_eq_true rfl⟩) (x_preV hC hS hw (va_recv hK hw (q := (R_Outbox, T_Outbox, 2)) (ci := 8) rfl (x_at (by decide) (xcl_48 G σ)))) rfl rfl hl.1 rfl (lv_room (Nat.le_of_ble_eq_true rfl)) d_Outbox_writeText_16 ⟨Nat.le_of_ble_eq_true rfl, Nat.le_of_ble_eq_true rfl⟩) (fun H locs hw hS => ?_)
        obtain ⟨v19, e19, hE⟩ := x_letE hE
        refine lv_iinc hx hb d_Outbox_writeText_19 hl (k := 2) rfl (x_inc v19 e19 (by decide)) (by decide) rfl (fun ls hl => ?_)
        have hl : lv_has ls 3 [(2, .int v19), (0, .ref (G.2.1 48)), (1, .ref (G.2.2.2.1 w1))] := hl
        refine lv_goto (tgt := 2) hx hb d_Outbox_writeText_22 (by decide) ?_
        exact ih _ _ _ _ _ hE (lv_sub hl [1, 2, 0] rfl) hw hS
  have hl := lv_entry ([.ref (G.2.1 48), .ref (G.2.2.2.1 w1)]) (n := 3) (Nat.le_of_ble_eq_true rfl)
  rw [lg_entry_eq]
  generalize (lg_sl ([.ref (G.2.1 48), .ref (G.2.2.2.1 w1)]) ++ List.replicate (3 - (lg_sl ([.ref (G.2.1 48), .ref (G.2.2.2.1 w1)])).length) Slot.unset).toArray = ls at hl ⊢
  have hl : lv_has ls 3 [(0, .ref (G.2.1 48)), (1, .ref (G.2.2.2.1 w1))] := hl
  unfold x_Outbox_writeText at hE
  refine lv_iconst (v := (0 : Int32)) hx hb d_Outbox_writeText_0 (by decide) ?_
  refine lv_istore_n hx hb d_Outbox_writeText_1 rfl hl (by decide) rfl (fun ls hl => ?_)
  have hl : lv_has ls 3 [(2, .int (0 : Int32)), (0, .ref (G.2.1 48)), (1, .ref (G.2.2.2.1 w1))] := hl
  exact jn2 x_fuel _ _ _ _ _ hE (lv_sub hl [1, 2, 0] rfl) hw hS

def y_Outbox_writeNumber : MethodName := ⟨"PlainOrigin$Outbox", "writeNumber", "(I)V"⟩
def ws_Outbox_writeNumber : List Cond := Cond.code y_Outbox_writeNumber prog_6_method_8_code 4 none :: UW
theorem hd_Outbox_writeNumber : y_Outbox_writeNumber.cls = R_Outbox ∧ y_Outbox_writeNumber.cls ≠ "java/lang/invoke/MethodHandle" ∧ y_Outbox_writeNumber.cls ≠ "java/lang/invoke/VarHandle" ∧ (parseMethodDescriptor y_Outbox_writeNumber.desc).map (fun d => d.parameters.length) = some 1 := by decide +kernel
theorem d_Outbox_writeNumber_0 : decode prog_6_method_8_code 0 = .ok (.iconst 1, 1) := by decide +kernel
theorem d_Outbox_writeNumber_1 : decode prog_6_method_8_code 1 = .ok (.istore_n 2, 1) := by decide +kernel
theorem d_Outbox_writeNumber_2 : decode prog_6_method_8_code 2 = .ok (.iconst 0, 1) := by decide +kernel
theorem d_Outbox_writeNumber_3 : decode prog_6_method_8_code 3 = .ok (.istore_n 3, 1) := by decide +kernel
theorem d_Outbox_writeNumber_4 : decode prog_6_method_8_code 4 = .ok (.iload_n 3, 1) := by decide +kernel
theorem d_Outbox_writeNumber_5 : decode prog_6_method_8_code 5 = .ok (.bipush (9), 2) := by decide +kernel
theorem d_Outbox_writeNumber_7 : decode prog_6_method_8_code 7 = .ok (.if_icmp .ge (22), 3) := by decide +kernel
theorem d_Outbox_writeNumber_10 : decode prog_6_method_8_code 10 = .ok (.iload_n 1, 1) := by decide +kernel
theorem d_Outbox_writeNumber_11 : decode prog_6_method_8_code 11 = .ok (.iload_n 2, 1) := by decide +kernel
theorem d_Outbox_writeNumber_12 : decode prog_6_method_8_code 12 = .ok (.idiv, 1) := by decide +kernel
theorem d_Outbox_writeNumber_13 : decode prog_6_method_8_code 13 = .ok (.bipush (10), 2) := by decide +kernel
theorem d_Outbox_writeNumber_15 : decode prog_6_method_8_code 15 = .ok (.if_icmp .lt (14), 3) := by decide +kernel
theorem d_Outbox_writeNumber_18 : decode prog_6_method_8_code 18 = .ok (.iload_n 2, 1) := by decide +kernel
theorem d_Outbox_writeNumber_19 : decode prog_6_method_8_code 19 = .ok (.bipush (10), 2) := by decide +kernel
theorem d_Outbox_writeNumber_21 : decode prog_6_method_8_code 21 = .ok (.imul, 1) := by decide +kernel
theorem d_Outbox_writeNumber_22 : decode prog_6_method_8_code 22 = .ok (.istore_n 2, 1) := by decide +kernel
theorem d_Outbox_writeNumber_23 : decode prog_6_method_8_code 23 = .ok (.iinc 3 (1), 3) := by decide +kernel
theorem d_Outbox_writeNumber_26 : decode prog_6_method_8_code 26 = .ok (.goto (-22), 3) := by decide +kernel
theorem d_Outbox_writeNumber_29 : decode prog_6_method_8_code 29 = .ok (.iconst 0, 1) := by decide +kernel
theorem d_Outbox_writeNumber_30 : decode prog_6_method_8_code 30 = .ok (.istore_n 3, 1) := by decide +kernel
theorem d_Outbox_writeNumber_31 : decode prog_6_method_8_code 31 = .ok (.iload_n 3, 1) := by decide +kernel
theorem d_Outbox_writeNumber_32 : decode prog_6_method_8_code 32 = .ok (.bipush (10), 2) := by decide +kernel
theorem d_Outbox_writeNumber_34 : decode prog_6_method_8_code 34 = .ok (.if_icmp .ge (31), 3) := by decide +kernel
theorem d_Outbox_writeNumber_37 : decode prog_6_method_8_code 37 = .ok (.iload_n 2, 1) := by decide +kernel
theorem d_Outbox_writeNumber_38 : decode prog_6_method_8_code 38 = .ok (.ifCond .le (27), 3) := by decide +kernel
theorem d_Outbox_writeNumber_41 : decode prog_6_method_8_code 41 = .ok (.aload_n 0, 1) := by decide +kernel
theorem d_Outbox_writeNumber_42 : decode prog_6_method_8_code 42 = .ok (.bipush (48), 2) := by decide +kernel
theorem d_Outbox_writeNumber_44 : decode prog_6_method_8_code 44 = .ok (.iload_n 1, 1) := by decide +kernel
theorem d_Outbox_writeNumber_45 : decode prog_6_method_8_code 45 = .ok (.iload_n 2, 1) := by decide +kernel
theorem d_Outbox_writeNumber_46 : decode prog_6_method_8_code 46 = .ok (.idiv, 1) := by decide +kernel
theorem d_Outbox_writeNumber_47 : decode prog_6_method_8_code 47 = .ok (.bipush (10), 2) := by decide +kernel
theorem d_Outbox_writeNumber_49 : decode prog_6_method_8_code 49 = .ok (.irem, 1) := by decide +kernel
theorem d_Outbox_writeNumber_50 : decode prog_6_method_8_code 50 = .ok (.iadd, 1) := by decide +kernel
theorem d_Outbox_writeNumber_51 : decode prog_6_method_8_code 51 = .ok (.invokevirtual 62, 3) := by decide +kernel
theorem d_Outbox_writeNumber_54 : decode prog_6_method_8_code 54 = .ok (.iload_n 2, 1) := by decide +kernel
theorem d_Outbox_writeNumber_55 : decode prog_6_method_8_code 55 = .ok (.bipush (10), 2) := by decide +kernel
theorem d_Outbox_writeNumber_57 : decode prog_6_method_8_code 57 = .ok (.idiv, 1) := by decide +kernel
theorem d_Outbox_writeNumber_58 : decode prog_6_method_8_code 58 = .ok (.istore_n 2, 1) := by decide +kernel
theorem d_Outbox_writeNumber_59 : decode prog_6_method_8_code 59 = .ok (.iinc 3 (1), 3) := by decide +kernel
theorem d_Outbox_writeNumber_62 : decode prog_6_method_8_code 62 = .ok (.goto (-31), 3) := by decide +kernel
theorem d_Outbox_writeNumber_65 : decode prog_6_method_8_code 65 = .ok (.return_, 1) := by decide +kernel
def x_Outbox_writeNumber_31 (a1 : Int32) : Nat → Int32 → Int32 → St → Option St
  | 0, _, _, _ => none
  | n + 1, l2, l3, σ => (if (10 : Int32) ≤ l3 then some σ else (if l2 ≤ 0 then some σ else (if ¬ l2 = 0 then (Option.bind (x_Outbox_writeByte ((48 : Int32) + ((a1 / l2) - (a1 / l2) / (10 : Int32) * (10 : Int32))) σ) (fun s51 => (x_let (l2 / (10 : Int32)) (fun (v58 : Int32) => (x_let (l3 + (1 : Int32)) (fun (v59 : Int32) => x_Outbox_writeNumber_31 a1 n v58 v59 s51)))))) else none)))
def x_Outbox_writeNumber_29 (a1 : Int32) (l2 : Int32) (σ : St) : Option St := x_Outbox_writeNumber_31 a1 x_fuel l2 (0 : Int32) σ
def x_Outbox_writeNumber_4 (a1 : Int32) : Nat → Int32 → Int32 → St → Option St
  | 0, _, _, _ => none
  | n + 1, l2, l3, σ => (if (9 : Int32) ≤ l3 then x_Outbox_writeNumber_29 a1 l2 σ else (if ¬ l2 = 0 then (if (a1 / l2) < (10 : Int32) then x_Outbox_writeNumber_29 a1 l2 σ else (x_let (l2 * (10 : Int32)) (fun (v22 : Int32) => (x_let (l3 + (1 : Int32)) (fun (v23 : Int32) => x_Outbox_writeNumber_4 a1 n v22 v23 σ))))) else none))
def x_Outbox_writeNumber (a1 : Int32) (σ : St) : Option St := x_Outbox_writeNumber_4 a1 x_fuel (1 : Int32) (0 : Int32) σ
abbrev rm_Outbox_writeNumber : Room := { frames := 2, cells := 0, slots := 0, locals := 42 }
set_option maxHeartbeats 4000000 in
set_option maxRecDepth 100000 in
theorem t_Outbox_writeNumber (l : Launch) (G : xG) (σ : St) (a1 : Int32) (σ' : St) (hE : x_Outbox_writeNumber a1 σ = some σ') : Met l y_Outbox_writeNumber (ws_Outbox_writeNumber) rm_Outbox_writeNumber (xP G σ [.ref (G.2.1 48), .int a1]) (xQ G none σ') 0 0 (xA G) := by
  refine Met.ofW (cc := prog_6_method_8_code) (maxL := 4) (ret := none) (by decide) rfl ?_
  intro p e s m args below meth c s₁ B hml hv
  obtain ⟨rfl, hw, hC⟩ := hv
  have hx := B.exec
  have hb := B.bytes
  have hr := B.returns
  have hu : ∀ w ∈ UW, w.before _ s = true := fun w h => atoms_spec B.pre w (List.mem_cons_of_mem _ h)
  have hown : s.vm.findClass R_Outbox = some m.cls := findClass_of_methodNamed B.named
  have hlocks := B.notSynchronized
  have hK := hC.1
  have hI := hC.2.1
  have hG := hC.2.2.1
  have hN := hC.2.2.2
  have hS : va_S (xA G) s.heap s.heap [] := va_S.rf
  have jn31 : ∀ (n : Nat) (ls : Array Slot) (H : Heap) (locs : List Loc) (σ : St) (l2 : Int32) (l3 : Int32), x_Outbox_writeNumber_31 a1 n l2 l3 σ = some σ' → lv_has ls 4 [(0, .ref (G.2.1 48)), (1, .int a1), (2, .int l2), (3, .int l3)] → xw G σ H → va_S (xA G) s.heap H locs → W p l e (headSpec (ws_Outbox_writeNumber) rm_Outbox_writeNumber).room s m ([.ref (G.2.1 48), .int a1] : List Value).toArray below meth c H locs 0 0 (MQ below (xQ G none σ') ([.ref (G.2.1 48), .int a1] : List Value).toArray s 0 0 (xA G)) (F0 m 31 ls []) := by
    intro n
    induction n with
    | zero => intro ls H locs σ l2 l3 hE; rw [x_Outbox_writeNumber_31] at hE; cases hE
    | succ n ih =>
      intro ls H locs σ l2 l3 hE hl hw hS
      rw [x_Outbox_writeNumber_31] at hE
      refine lv_iload_n hx hb d_Outbox_writeNumber_31 rfl (lv_at hl 3 rfl) ?_
      refine lv_bipush (v := (10 : Int32)) hx hb d_Outbox_writeNumber_32 (by decide) ?_
      refine lv_icmp_ge (tgt := 65) hx hb d_Outbox_writeNumber_34 (by decide) (fun hc34 => ?_) (fun hc34 => ?_)
      · rw [if_pos hc34] at hE
        have e1 := Option.some.inj hE
        exact W.vret hx hb hr (fun t ht hW => ⟨rfl, by rw [ht, ← e1]; exact hw, hS.F ht⟩) hS.2.2 d_Outbox_writeNumber_65
      · rw [if_neg hc34] at hE
        refine lv_iload_n hx hb d_Outbox_writeNumber_37 rfl (lv_at hl 2 rfl) ?_
        refine lv_if_le (tgt := 65) hx hb d_Outbox_writeNumber_38 (by decide) (fun hc38 => ?_) (fun hc38 => ?_)
        · rw [if_pos hc38] at hE
          have e1 := Option.some.inj hE
          exact W.vret hx hb hr (fun t ht hW => ⟨rfl, by rw [ht, ← e1]; exact hw, hS.F ht⟩) hS.2.2 d_Outbox_writeNumber_65
        · rw [if_neg hc38] at hE
          refine lv_aload_n hx hb d_Outbox_writeNumber_41 rfl (lv_at hl 0 rfl) ?_
          refine lv_bipush (v := (48 : Int32)) hx hb d_Outbox_writeNumber_42 (by decide) ?_
          refine lv_iload_n hx hb d_Outbox_writeNumber_44 rfl (lv_at hl 1 rfl) ?_
          refine lv_iload_n hx hb d_Outbox_writeNumber_45 rfl (lv_at hl 2 rfl) ?_
          obtain ⟨g46, hE⟩ := x_guard hE
          refine lv_idiv hx hb d_Outbox_writeNumber_46 g46 ?_
          refine lv_bipush (v := (10 : Int32)) hx hb d_Outbox_writeNumber_47 (by decide) ?_
          refine lv_irem hx hb d_Outbox_writeNumber_49 (by decide) ?_
          refine lv_iadd hx hb d_Outbox_writeNumber_50 ?_
          obtain ⟨s51, hC51, hE⟩ := x_bind hE
          refine x_callV hS (W.runV (As := [.int ((48 : Int32) + ((a1 / l2) - (a1 / l2) / (10 : Int32) * (10 : Int32)))]) (rest := []) ⟨hx, hb, hml, hown, hu⟩ (t_Outbox_writeByte l G σ ((48 : Int32) + ((a1 / l2) - (a1 / l2) / (10 : Int32) * (10 : Int32))) s51 hC51) (cwV 1 hu (uw_V mw_928 mw_930 mw_18 mw_69 mw_931) rfl rfl rfl hd_Outbox_writeByte ⟨Nat.le_of_ble_eq_true rfl, Nat.le_of_ble_eq_true rfl⟩) (x_preV hC hS hw (va_recv hK hw (q := (R_Outbox, T_Outbox, 2)) (ci := 8) rfl (x_at (by decide) (xcl_48 G σ)))) rfl rfl hl.1 rfl (lv_room (Nat.le_of_ble_eq_true rfl)) d_Outbox_writeNumber_51 ⟨Nat.le_of_ble_eq_true rfl, Nat.le_of_ble_eq_true rfl⟩) (fun H locs hw hS => ?_)
          refine lv_iload_n hx hb d_Outbox_writeNumber_54 rfl (lv_at hl 2 rfl) ?_
          refine lv_bipush (v := (10 : Int32)) hx hb d_Outbox_writeNumber_55 (by decide) ?_
          refine lv_idiv hx hb d_Outbox_writeNumber_57 (by decide) ?_
          refine lv_topi (fun v58 e58 => ?_)
          replace hE := x_letT e58 hE
          refine lv_istore_n hx hb d_Outbox_writeNumber_58 rfl hl (by decide) rfl (fun ls hl => ?_)
          have hl : lv_has ls 4 [(2, .int v58), (0, .ref (G.2.1 48)), (1, .int a1), (3, .int l3)] := hl
          obtain ⟨v59, e59, hE⟩ := x_letE hE
          refine lv_iinc hx hb d_Outbox_writeNumber_59 hl (k := 3) rfl (x_inc v59 e59 (by decide)) (by decide) rfl (fun ls hl => ?_)
          have hl : lv_has ls 4 [(3, .int v59), (2, .int v58), (0, .ref (G.2.1 48)), (1, .int a1)] := hl
          refine lv_goto (tgt := 31) hx hb d_Outbox_writeNumber_62 (by decide) ?_
          exact ih _ _ _ _ _ _ hE (lv_sub hl [2, 3, 1, 0] rfl) hw hS
  have jn29 : ∀ (ls : Array Slot) (H : Heap) (locs : List Loc) (σ : St) (l2 : Int32), x_Outbox_writeNumber_29 a1 l2 σ = some σ' → lv_has ls 4 [(0, .ref (G.2.1 48)), (1, .int a1), (2, .int l2)] → xw G σ H → va_S (xA G) s.heap H locs → W p l e (headSpec (ws_Outbox_writeNumber) rm_Outbox_writeNumber).room s m ([.ref (G.2.1 48), .int a1] : List Value).toArray below meth c H locs 0 0 (MQ below (xQ G none σ') ([.ref (G.2.1 48), .int a1] : List Value).toArray s 0 0 (xA G)) (F0 m 29 ls []) := by
    intro ls H locs σ l2 hE hl hw hS
    unfold x_Outbox_writeNumber_29 at hE
    refine lv_iconst (v := (0 : Int32)) hx hb d_Outbox_writeNumber_29 (by decide) ?_
    refine lv_istore_n hx hb d_Outbox_writeNumber_30 rfl hl (by decide) rfl (fun ls hl => ?_)
    have hl : lv_has ls 4 [(3, .int (0 : Int32)), (0, .ref (G.2.1 48)), (1, .int a1), (2, .int l2)] := hl
    exact jn31 x_fuel _ _ _ _ _ _ hE (lv_sub hl [1, 2, 3, 0] rfl) hw hS
  have jn4 : ∀ (n : Nat) (ls : Array Slot) (H : Heap) (locs : List Loc) (σ : St) (l2 : Int32) (l3 : Int32), x_Outbox_writeNumber_4 a1 n l2 l3 σ = some σ' → lv_has ls 4 [(0, .ref (G.2.1 48)), (1, .int a1), (2, .int l2), (3, .int l3)] → xw G σ H → va_S (xA G) s.heap H locs → W p l e (headSpec (ws_Outbox_writeNumber) rm_Outbox_writeNumber).room s m ([.ref (G.2.1 48), .int a1] : List Value).toArray below meth c H locs 0 0 (MQ below (xQ G none σ') ([.ref (G.2.1 48), .int a1] : List Value).toArray s 0 0 (xA G)) (F0 m 4 ls []) := by
    intro n
    induction n with
    | zero => intro ls H locs σ l2 l3 hE; rw [x_Outbox_writeNumber_4] at hE; cases hE
    | succ n ih =>
      intro ls H locs σ l2 l3 hE hl hw hS
      rw [x_Outbox_writeNumber_4] at hE
      refine lv_iload_n hx hb d_Outbox_writeNumber_4 rfl (lv_at hl 3 rfl) ?_
      refine lv_bipush (v := (9 : Int32)) hx hb d_Outbox_writeNumber_5 (by decide) ?_
      refine lv_icmp_ge (tgt := 29) hx hb d_Outbox_writeNumber_7 (by decide) (fun hc7 => ?_) (fun hc7 => ?_)
      · rw [if_pos hc7] at hE
        exact jn29 _ _ _ _ _ hE (lv_sub hl [0, 1, 2] rfl) hw hS
      · rw [if_neg hc7] at hE
        refine lv_iload_n hx hb d_Outbox_writeNumber_10 rfl (lv_at hl 1 rfl) ?_
        refine lv_iload_n hx hb d_Outbox_writeNumber_11 rfl (lv_at hl 2 rfl) ?_
        obtain ⟨g12, hE⟩ := x_guard hE
        refine lv_idiv hx hb d_Outbox_writeNumber_12 g12 ?_
        refine lv_bipush (v := (10 : Int32)) hx hb d_Outbox_writeNumber_13 (by decide) ?_
        refine lv_icmp_lt (tgt := 29) hx hb d_Outbox_writeNumber_15 (by decide) (fun hc15 => ?_) (fun hc15 => ?_)
        · rw [if_pos hc15] at hE
          exact jn29 _ _ _ _ _ hE (lv_sub hl [0, 1, 2] rfl) hw hS
        · rw [if_neg hc15] at hE
          refine lv_iload_n hx hb d_Outbox_writeNumber_18 rfl (lv_at hl 2 rfl) ?_
          refine lv_bipush (v := (10 : Int32)) hx hb d_Outbox_writeNumber_19 (by decide) ?_
          refine lv_imul hx hb d_Outbox_writeNumber_21 ?_
          refine lv_topi (fun v22 e22 => ?_)
          replace hE := x_letT e22 hE
          refine lv_istore_n hx hb d_Outbox_writeNumber_22 rfl hl (by decide) rfl (fun ls hl => ?_)
          have hl : lv_has ls 4 [(2, .int v22), (0, .ref (G.2.1 48)), (1, .int a1), (3, .int l3)] := hl
          obtain ⟨v23, e23, hE⟩ := x_letE hE
          refine lv_iinc hx hb d_Outbox_writeNumber_23 hl (k := 3) rfl (x_inc v23 e23 (by decide)) (by decide) rfl (fun ls hl => ?_)
          have hl : lv_has ls 4 [(3, .int v23), (2, .int v22), (0, .ref (G.2.1 48)), (1, .int a1)] := hl
          refine lv_goto (tgt := 4) hx hb d_Outbox_writeNumber_26 (by decide) ?_
          exact ih _ _ _ _ _ _ hE (lv_sub hl [2, 3, 1, 0] rfl) hw hS
  have hl := lv_entry ([.ref (G.2.1 48), .int a1]) (n := 4) (Nat.le_of_ble_eq_true rfl)
  rw [lg_entry_eq]
  generalize (lg_sl ([.ref (G.2.1 48), .int a1]) ++ List.replicate (4 - (lg_sl ([.ref (G.2.1 48), .int a1])).length) Slot.unset).toArray = ls at hl ⊢
  have hl : lv_has ls 4 [(0, .ref (G.2.1 48)), (1, .int a1)] := hl
  unfold x_Outbox_writeNumber at hE
  refine lv_iconst (v := (1 : Int32)) hx hb d_Outbox_writeNumber_0 (by decide) ?_
  refine lv_istore_n hx hb d_Outbox_writeNumber_1 rfl hl (by decide) rfl (fun ls hl => ?_)
  have hl : lv_has ls 4 [(2, .int (1 : Int32)), (0, .ref (G.2.1 48)), (1, .int a1)] := hl
  refine lv_iconst (v := (0 : Int32)) hx hb d_Outbox_writeNumber_2 (by decide) ?_
  refine lv_istore_n hx hb d_Outbox_writeNumber_3 rfl hl (by decide) rfl (fun ls hl => ?_)
  have hl : lv_has ls 4 [(3, .int (0 : Int32)), (2, .int (1 : Int32)), (0, .ref (G.2.1 48)), (1, .int a1)] := hl
  exact jn4 x_fuel _ _ _ _ _ _ hE (lv_sub hl [2, 3, 1, 0] rfl) hw hS

def y_Outbox_writeRange : MethodName := ⟨"PlainOrigin$Outbox", "writeRange", "(LPlainOrigin$Answer;)V"⟩
def ws_Outbox_writeRange : List Cond := Cond.code y_Outbox_writeRange prog_6_method_5_code 2 none :: UW
theorem hd_Outbox_writeRange : y_Outbox_writeRange.cls = R_Outbox ∧ y_Outbox_writeRange.cls ≠ "java/lang/invoke/MethodHandle" ∧ y_Outbox_writeRange.cls ≠ "java/lang/invoke/VarHandle" ∧ (parseMethodDescriptor y_Outbox_writeRange.desc).map (fun d => d.parameters.length) = some 1 := by decide +kernel
theorem d_Outbox_writeRange_0 : decode prog_6_method_5_code 0 = .ok (.aload_n 0, 1) := by decide +kernel
theorem d_Outbox_writeRange_1 : decode prog_6_method_5_code 1 = .ok (.ldc 98, 2) := by decide +kernel
theorem d_Outbox_writeRange_3 : decode prog_6_method_5_code 3 = .ok (.invokevirtual 29, 3) := by decide +kernel
theorem d_Outbox_writeRange_6 : decode prog_6_method_5_code 6 = .ok (.aload_n 1, 1) := by decide +kernel
theorem d_Outbox_writeRange_7 : decode prog_6_method_5_code 7 = .ok (.getfield 33, 3) := by decide +kernel
theorem d_Outbox_writeRange_10 : decode prog_6_method_5_code 10 = .ok (.sipush (206), 3) := by decide +kernel
theorem d_Outbox_writeRange_13 : decode prog_6_method_5_code 13 = .ok (.if_icmp .ne (30), 3) := by decide +kernel
theorem d_Outbox_writeRange_16 : decode prog_6_method_5_code 16 = .ok (.aload_n 0, 1) := by decide +kernel
theorem d_Outbox_writeRange_17 : decode prog_6_method_5_code 17 = .ok (.aload_n 1, 1) := by decide +kernel
theorem d_Outbox_writeRange_18 : decode prog_6_method_5_code 18 = .ok (.getfield 49, 3) := by decide +kernel
theorem d_Outbox_writeRange_21 : decode prog_6_method_5_code 21 = .ok (.invokevirtual 38, 3) := by decide +kernel
theorem d_Outbox_writeRange_24 : decode prog_6_method_5_code 24 = .ok (.aload_n 0, 1) := by decide +kernel
theorem d_Outbox_writeRange_25 : decode prog_6_method_5_code 25 = .ok (.bipush (45), 2) := by decide +kernel
theorem d_Outbox_writeRange_27 : decode prog_6_method_5_code 27 = .ok (.invokevirtual 62, 3) := by decide +kernel
theorem d_Outbox_writeRange_30 : decode prog_6_method_5_code 30 = .ok (.aload_n 0, 1) := by decide +kernel
theorem d_Outbox_writeRange_31 : decode prog_6_method_5_code 31 = .ok (.aload_n 1, 1) := by decide +kernel
theorem d_Outbox_writeRange_32 : decode prog_6_method_5_code 32 = .ok (.getfield 52, 3) := by decide +kernel
theorem d_Outbox_writeRange_35 : decode prog_6_method_5_code 35 = .ok (.iconst 1, 1) := by decide +kernel
theorem d_Outbox_writeRange_36 : decode prog_6_method_5_code 36 = .ok (.isub, 1) := by decide +kernel
theorem d_Outbox_writeRange_37 : decode prog_6_method_5_code 37 = .ok (.invokevirtual 38, 3) := by decide +kernel
theorem d_Outbox_writeRange_40 : decode prog_6_method_5_code 40 = .ok (.goto (9), 3) := by decide +kernel
theorem d_Outbox_writeRange_43 : decode prog_6_method_5_code 43 = .ok (.aload_n 0, 1) := by decide +kernel
theorem d_Outbox_writeRange_44 : decode prog_6_method_5_code 44 = .ok (.bipush (42), 2) := by decide +kernel
theorem d_Outbox_writeRange_46 : decode prog_6_method_5_code 46 = .ok (.invokevirtual 62, 3) := by decide +kernel
theorem d_Outbox_writeRange_49 : decode prog_6_method_5_code 49 = .ok (.aload_n 0, 1) := by decide +kernel
theorem d_Outbox_writeRange_50 : decode prog_6_method_5_code 50 = .ok (.bipush (47), 2) := by decide +kernel
theorem d_Outbox_writeRange_52 : decode prog_6_method_5_code 52 = .ok (.invokevirtual 62, 3) := by decide +kernel
theorem d_Outbox_writeRange_55 : decode prog_6_method_5_code 55 = .ok (.aload_n 0, 1) := by decide +kernel
theorem d_Outbox_writeRange_56 : decode prog_6_method_5_code 56 = .ok (.aload_n 1, 1) := by decide +kernel
theorem d_Outbox_writeRange_57 : decode prog_6_method_5_code 57 = .ok (.getfield 100, 3) := by decide +kernel
theorem d_Outbox_writeRange_60 : decode prog_6_method_5_code 60 = .ok (.invokevirtual 38, 3) := by decide +kernel
theorem d_Outbox_writeRange_63 : decode prog_6_method_5_code 63 = .ok (.aload_n 0, 1) := by decide +kernel
theorem d_Outbox_writeRange_64 : decode prog_6_method_5_code 64 = .ok (.ldc 47, 2) := by decide +kernel
theorem d_Outbox_writeRange_66 : decode prog_6_method_5_code 66 = .ok (.invokevirtual 29, 3) := by decide +kernel
theorem d_Outbox_writeRange_69 : decode prog_6_method_5_code 69 = .ok (.return_, 1) := by decide +kernel
def x_Outbox_writeRange_49 (σ : St) : Option St := (Option.bind (x_Outbox_writeByte (47 : Int32) σ) (fun s52 => (Option.bind (x_Outbox_writeNumber (s52.1 44 11) s52) (fun s60 => (Option.bind (x_Outbox_writeText 24 s60) (fun s66 => some s66))))))
def x_Outbox_writeRange (σ : St) : Option St := (Option.bind (x_Outbox_writeText 27 σ) (fun s3 => (if (s3.1 44 2) = (206 : Int32) then (Option.bind (x_Outbox_writeNumber (s3.1 44 9) s3) (fun s21 => (Option.bind (x_Outbox_writeByte (45 : Int32) s21) (fun s27 => (Option.bind (x_Outbox_writeNumber ((s27.1 44 10) - (1 : Int32)) s27) (fun s37 => x_Outbox_writeRange_49 s37)))))) else (Option.bind (x_Outbox_writeByte (42 : Int32) s3) (fun s46 => x_Outbox_writeRange_49 s46)))))
abbrev rm_Outbox_writeRange : Room := { frames := 5, cells := 0, slots := 0, locals := 107 }
set_option maxHeartbeats 4000000 in
set_option maxRecDepth 100000 in
theorem t_Outbox_writeRange (l : Launch) (G : xG) (σ : St) (σ' : St) (hE : x_Outbox_writeRange σ = some σ') : Met l y_Outbox_writeRange (ws_Outbox_writeRange) rm_Outbox_writeRange (xP G σ [.ref (G.2.1 48), .ref (G.2.1 44)]) (xQ G none σ') 0 0 (xA G) := by
  refine Met.ofW (cc := prog_6_method_5_code) (maxL := 2) (ret := none) (by decide) rfl ?_
  intro p e s m args below meth c s₁ B hml hv
  obtain ⟨rfl, hw, hC⟩ := hv
  have hx := B.exec
  have hb := B.bytes
  have hr := B.returns
  have hu : ∀ w ∈ UW, w.before _ s = true := fun w h => atoms_spec B.pre w (List.mem_cons_of_mem _ h)
  have hown : s.vm.findClass R_Outbox = some m.cls := findClass_of_methodNamed B.named
  have hlocks := B.notSynchronized
  have hK := hC.1
  have hI := hC.2.1
  have hG := hC.2.2.1
  have hN := hC.2.2.2
  have hS : va_S (xA G) s.heap s.heap [] := va_S.rf
  have jn49 : ∀ (ls : Array Slot) (H : Heap) (locs : List Loc) (σ : St), x_Outbox_writeRange_49 σ = some σ' → lv_has ls 2 [(0, .ref (G.2.1 48)), (1, .ref (G.2.1 44))] → xw G σ H → va_S (xA G) s.heap H locs → W p l e (headSpec (ws_Outbox_writeRange) rm_Outbox_writeRange).room s m ([.ref (G.2.1 48), .ref (G.2.1 44)] : List Value).toArray below meth c H locs 0 0 (MQ below (xQ G none σ') ([.ref (G.2.1 48), .ref (G.2.1 44)] : List Value).toArray s 0 0 (xA G)) (F0 m 49 ls []) := by
    intro ls H locs σ hE hl hw hS
    unfold x_Outbox_writeRange_49 at hE
    refine lv_aload_n hx hb d_Outbox_writeRange_49 rfl (lv_at hl 0 rfl) ?_
    refine lv_bipush (v := (47 : Int32)) hx hb d_Outbox_writeRange_50 (by decide) ?_
    obtain ⟨s52, hC52, hE⟩ := x_bind hE
    refine x_callV hS (W.runV (As := [.int (47 : Int32)]) (rest := []) ⟨hx, hb, hml, hown, hu⟩ (t_Outbox_writeByte l G σ (47 : Int32) s52 hC52) (cwV 1 hu (uw_V mw_928 mw_930 mw_18 mw_69 mw_931) rfl rfl rfl hd_Outbox_writeByte ⟨Nat.le_of_ble_eq_true rfl, Nat.le_of_ble_eq_true rfl⟩) (x_preV hC hS hw (va_recv hK hw (q := (R_Outbox, T_Outbox, 2)) (ci := 8) rfl (x_at (by decide) (xcl_48 G σ)))) rfl rfl hl.1 rfl (lv_room (Nat.le_of_ble_eq_true rfl)) d_Outbox_writeRange_52 ⟨Nat.le_of_ble_eq_true rfl, Nat.le_of_ble_eq_true rfl⟩) (fun H locs hw hS => ?_)
    refine lv_aload_n hx hb d_Outbox_writeRange_55 rfl (lv_at hl 0 rfl) ?_
    refine lv_aload_n hx hb d_Outbox_writeRange_56 rfl (lv_at hl 1 rfl) ?_
    refine va_getN (D := G.1) (cl := xCl) (ci := 7) (v := .int (s52.1 44 11)) (C := R_Answer) (T := T_Answer) (N := 12) hx hb hu fi_Answer hown hK hw 44 (x_at (by decide) (xcl_44 G s52)) rfl 11 (by decide) (nl_49 hG) (fun _ h9 => h9) rfl d_Outbox_writeRange_57 ?_
    obtain ⟨s60, hC60, hE⟩ := x_bind hE
    refine x_callV hS (W.runV (As := [.int (s52.1 44 11)]) (rest := []) ⟨hx, hb, hml, hown, hu⟩ (t_Outbox_writeNumber l G s52 (s52.1 44 11) s60 hC60) (cwV 1 hu (uw_V mw_933 mw_935 mw_19 mw_69 mw_936) rfl rfl rfl hd_Outbox_writeNumber ⟨Nat.le_of_ble_eq_true rfl, Nat.le_of_ble_eq_true rfl⟩) (x_preV hC hS hw (va_recv hK hw (q := (R_Outbox, T_Outbox, 2)) (ci := 8) rfl (x_at (by decide) (xcl_48 G s52)))) rfl rfl hl.1 rfl (lv_room (Nat.le_of_ble_eq_true rfl)) d_Outbox_writeRange_60 ⟨Nat.le_of_ble_eq_true rfl, Nat.le_of_ble_eq_true rfl⟩) (fun H locs hw hS => ?_)
    refine lv_aload_n hx hb d_Outbox_writeRange_63 rfl (lv_at hl 0 rfl) ?_
    refine va_ldcS hx hb hown (str_24 hN) d_Outbox_writeRange_64 ?_
    obtain ⟨s66, hC66, hE⟩ := x_bind hE
    refine x_callV hS (W.runV (As := [.ref (G.2.2.2.1 24)]) (rest := []) ⟨hx, hb, hml, hown, hu⟩ (t_Outbox_writeText l G s60 24 (by decide) s66 hC66) (cwV 1 hu (uw_V mw_922 mw_924 mw_17 mw_69 mw_925) rfl rfl rfl hd_Outbox_writeText ⟨Nat.le_of_ble_eq_true rfl, Nat.le_of_ble_eq_true rfl⟩) (x_preV hC hS hw (va_recv hK hw (q := (R_Outbox, T_Outbox, 2)) (ci := 8) rfl (x_at (by decide) (xcl_48 G s60)))) rfl rfl hl.1 rfl (lv_room (Nat.le_of_ble_eq_true rfl)) d_Outbox_writeRange_66 ⟨Nat.le_of_ble_eq_true rfl, Nat.le_of_ble_eq_true rfl⟩) (fun H locs hw hS => ?_)
    have e1 := Option.some.inj hE
    exact W.vret hx hb hr (fun t ht hW => ⟨rfl, by rw [ht, ← e1]; exact hw, hS.F ht⟩) hS.2.2 d_Outbox_writeRange_69
  have hl := lv_entry ([.ref (G.2.1 48), .ref (G.2.1 44)]) (n := 2) (Nat.le_of_ble_eq_true rfl)
  rw [lg_entry_eq]
  generalize (lg_sl ([.ref (G.2.1 48), .ref (G.2.1 44)]) ++ List.replicate (2 - (lg_sl ([.ref (G.2.1 48), .ref (G.2.1 44)])).length) Slot.unset).toArray = ls at hl ⊢
  have hl : lv_has ls 2 [(0, .ref (G.2.1 48)), (1, .ref (G.2.1 44))] := hl
  unfold x_Outbox_writeRange at hE
  refine lv_aload_n hx hb d_Outbox_writeRange_0 rfl (lv_at hl 0 rfl) ?_
  refine va_ldcS hx hb hown (str_27 hN) d_Outbox_writeRange_1 ?_
  obtain ⟨s3, hC3, hE⟩ := x_bind hE
  refine x_callV hS (W.runV (As := [.ref (G.2.2.2.1 27)]) (rest := []) ⟨hx, hb, hml, hown, hu⟩ (t_Outbox_writeText l G σ 27 (by decide) s3 hC3) (cwV 1 hu (uw_V mw_922 mw_924 mw_17 mw_69 mw_925) rfl rfl rfl hd_Outbox_writeText ⟨Nat.le_of_ble_eq_true rfl, Nat.le_of_ble_eq_true rfl⟩) (x_preV hC hS hw (va_recv hK hw (q := (R_Outbox, T_Outbox, 2)) (ci := 8) rfl (x_at (by decide) (xcl_48 G σ)))) rfl rfl hl.1 rfl (lv_room (Nat.le_of_ble_eq_true rfl)) d_Outbox_writeRange_3 ⟨Nat.le_of_ble_eq_true rfl, Nat.le_of_ble_eq_true rfl⟩) (fun H locs hw hS => ?_)
  refine lv_aload_n hx hb d_Outbox_writeRange_6 rfl (lv_at hl 1 rfl) ?_
  refine va_getN (D := G.1) (cl := xCl) (ci := 7) (v := .int (s3.1 44 2)) (C := R_Answer) (T := T_Answer) (N := 12) hx hb hu fi_Answer hown hK hw 44 (x_at (by decide) (xcl_44 G s3)) rfl 2 (by decide) (nl_37 hG) (fun _ h9 => h9) rfl d_Outbox_writeRange_7 ?_
  refine lv_sipush (v := (206 : Int32)) hx hb d_Outbox_writeRange_10 (by decide) ?_
  refine lv_icmp_ne (tgt := 43) hx hb d_Outbox_writeRange_13 (by decide) (fun hc13 => ?_) (fun hc13 => ?_)
  · rw [if_neg hc13] at hE
    refine lv_aload_n hx hb d_Outbox_writeRange_43 rfl (lv_at hl 0 rfl) ?_
    refine lv_bipush (v := (42 : Int32)) hx hb d_Outbox_writeRange_44 (by decide) ?_
    obtain ⟨s46, hC46, hE⟩ := x_bind hE
    refine x_callV hS (W.runV (As := [.int (42 : Int32)]) (rest := []) ⟨hx, hb, hml, hown, hu⟩ (t_Outbox_writeByte l G s3 (42 : Int32) s46 hC46) (cwV 1 hu (uw_V mw_928 mw_930 mw_18 mw_69 mw_931) rfl rfl rfl hd_Outbox_writeByte ⟨Nat.le_of_ble_eq_true rfl, Nat.le_of_ble_eq_true rfl⟩) (x_preV hC hS hw (va_recv hK hw (q := (R_Outbox, T_Outbox, 2)) (ci := 8) rfl (x_at (by decide) (xcl_48 G s3)))) rfl rfl hl.1 rfl (lv_room (Nat.le_of_ble_eq_true rfl)) d_Outbox_writeRange_46 ⟨Nat.le_of_ble_eq_true rfl, Nat.le_of_ble_eq_true rfl⟩) (fun H locs hw hS => ?_)
    exact jn49 _ _ _ _ hE (lv_sub hl [0, 1] rfl) hw hS
  · rw [if_pos hc13] at hE
    refine lv_aload_n hx hb d_Outbox_writeRange_16 rfl (lv_at hl 0 rfl) ?_
    refine lv_aload_n hx hb d_Outbox_writeRange_17 rfl (lv_at hl 1 rfl) ?_
    refine va_getN (D := G.1) (cl := xCl) (ci := 7) (v := .int (s3.1 44 9)) (C := R_Answer) (T := T_Answer) (N := 12) hx hb hu fi_Answer hown hK hw 44 (x_at (by decide) (xcl_44 G s3)) rfl 9 (by decide) (nl_47 hG) (fun _ h9 => h9) rfl d_Outbox_writeRange_18 ?_
    obtain ⟨s21, hC21, hE⟩ := x_bind hE
    refine x_callV hS (W.runV (As := [.int (s3.1 44 9)]) (rest := []) ⟨hx, hb, hml, hown, hu⟩ (t_Outbox_writeNumber l G s3 (s3.1 44 9) s21 hC21) (cwV 1 hu (uw_V mw_933 mw_935 mw_19 mw_69 mw_936) rfl rfl rfl hd_Outbox_writeNumber ⟨Nat.le_of_ble_eq_true rfl, Nat.le_of_ble_eq_true rfl⟩) (x_preV hC hS hw (va_recv hK hw (q := (R_Outbox, T_Outbox, 2)) (ci := 8) rfl (x_at (by decide) (xcl_48 G s3)))) rfl rfl hl.1 rfl (lv_room (Nat.le_of_ble_eq_true rfl)) d_Outbox_writeRange_21 ⟨Nat.le_of_ble_eq_true rfl, Nat.le_of_ble_eq_true rfl⟩) (fun H locs hw hS => ?_)
    refine lv_aload_n hx hb d_Outbox_writeRange_24 rfl (lv_at hl 0 rfl) ?_
    refine lv_bipush (v := (45 : Int32)) hx hb d_Outbox_writeRange_25 (by decide) ?_
    obtain ⟨s27, hC27, hE⟩ := x_bind hE
    refine x_callV hS (W.runV (As := [.int (45 : Int32)]) (rest := []) ⟨hx, hb, hml, hown, hu⟩ (t_Outbox_writeByte l G s21 (45 : Int32) s27 hC27) (cwV 1 hu (uw_V mw_928 mw_930 mw_18 mw_69 mw_931) rfl rfl rfl hd_Outbox_writeByte ⟨Nat.le_of_ble_eq_true rfl, Nat.le_of_ble_eq_true rfl⟩) (x_preV hC hS hw (va_recv hK hw (q := (R_Outbox, T_Outbox, 2)) (ci := 8) rfl (x_at (by decide) (xcl_48 G s21)))) rfl rfl hl.1 rfl (lv_room (Nat.le_of_ble_eq_true rfl)) d_Outbox_writeRange_27 ⟨Nat.le_of_ble_eq_true rfl, Nat.le_of_ble_eq_true rfl⟩) (fun H locs hw hS => ?_)
    refine lv_aload_n hx hb d_Outbox_writeRange_30 rfl (lv_at hl 0 rfl) ?_
    refine lv_aload_n hx hb d_Outbox_writeRange_31 rfl (lv_at hl 1 rfl) ?_
    refine va_getN (D := G.1) (cl := xCl) (ci := 7) (v := .int (s27.1 44 10)) (C := R_Answer) (T := T_Answer) (N := 12) hx hb hu fi_Answer hown hK hw 44 (x_at (by decide) (xcl_44 G s27)) rfl 10 (by decide) (nl_48 hG) (fun _ h9 => h9) rfl d_Outbox_writeRange_32 ?_
    refine lv_iconst (v := (1 : Int32)) hx hb d_Outbox_writeRange_35 (by decide) ?_
    refine lv_isub hx hb d_Outbox_writeRange_36 ?_
    obtain ⟨s37, hC37, hE⟩ := x_bind hE
    refine x_callV hS (W.runV (As := [.int ((s27.1 44 10) - (1 : Int32))]) (rest := []) ⟨hx, hb, hml, hown, hu⟩ (t_Outbox_writeNumber l G s27 ((s27.1 44 10) - (1 : Int32)) s37 hC37) (cwV 1 hu (uw_V mw_933 mw_935 mw_19 mw_69 mw_936) rfl rfl rfl hd_Outbox_writeNumber ⟨Nat.le_of_ble_eq_true rfl, Nat.le_of_ble_eq_true rfl⟩) (x_preV hC hS hw (va_recv hK hw (q := (R_Outbox, T_Outbox, 2)) (ci := 8) rfl (x_at (by decide) (xcl_48 G s27)))) rfl rfl hl.1 rfl (lv_room (Nat.le_of_ble_eq_true rfl)) d_Outbox_writeRange_37 ⟨Nat.le_of_ble_eq_true rfl, Nat.le_of_ble_eq_true rfl⟩) (fun H locs hw hS => ?_)
    refine lv_goto (tgt := 49) hx hb d_Outbox_writeRange_40 (by decide) ?_
    exact jn49 _ _ _ _ hE (lv_sub hl [0, 1] rfl) hw hS

def y_Outbox_writeFields : MethodName := ⟨"PlainOrigin$Outbox", "writeFields", "(LPlainOrigin$Answer;)V"⟩
def ws_Outbox_writeFields : List Cond := Cond.code y_Outbox_writeFields prog_6_method_4_code 2 none :: UW
theorem hd_Outbox_writeFields : y_Outbox_writeFields.cls = R_Outbox ∧ y_Outbox_writeFields.cls ≠ "java/lang/invoke/MethodHandle" ∧ y_Outbox_writeFields.cls ≠ "java/lang/invoke/VarHandle" ∧ (parseMethodDescriptor y_Outbox_writeFields.desc).map (fun d => d.parameters.length) = some 1 := by decide +kernel
theorem d_Outbox_writeFields_0 : decode prog_6_method_4_code 0 = .ok (.aload_n 1, 1) := by decide +kernel
theorem d_Outbox_writeFields_1 : decode prog_6_method_4_code 1 = .ok (.getfield 33, 3) := by decide +kernel
theorem d_Outbox_writeFields_4 : decode prog_6_method_4_code 4 = .ok (.sipush (204), 3) := by decide +kernel
theorem d_Outbox_writeFields_7 : decode prog_6_method_4_code 7 = .ok (.if_icmp .eq (33), 3) := by decide +kernel
theorem d_Outbox_writeFields_10 : decode prog_6_method_4_code 10 = .ok (.aload_n 1, 1) := by decide +kernel
theorem d_Outbox_writeFields_11 : decode prog_6_method_4_code 11 = .ok (.getfield 33, 3) := by decide +kernel
theorem d_Outbox_writeFields_14 : decode prog_6_method_4_code 14 = .ok (.sipush (304), 3) := by decide +kernel
theorem d_Outbox_writeFields_17 : decode prog_6_method_4_code 17 = .ok (.if_icmp .eq (23), 3) := by decide +kernel
theorem d_Outbox_writeFields_20 : decode prog_6_method_4_code 20 = .ok (.aload_n 0, 1) := by decide +kernel
theorem d_Outbox_writeFields_21 : decode prog_6_method_4_code 21 = .ok (.ldc 65, 2) := by decide +kernel
theorem d_Outbox_writeFields_23 : decode prog_6_method_4_code 23 = .ok (.invokevirtual 29, 3) := by decide +kernel
theorem d_Outbox_writeFields_26 : decode prog_6_method_4_code 26 = .ok (.aload_n 0, 1) := by decide +kernel
theorem d_Outbox_writeFields_27 : decode prog_6_method_4_code 27 = .ok (.aload_n 1, 1) := by decide +kernel
theorem d_Outbox_writeFields_28 : decode prog_6_method_4_code 28 = .ok (.getfield 67, 3) := by decide +kernel
theorem d_Outbox_writeFields_31 : decode prog_6_method_4_code 31 = .ok (.invokevirtual 38, 3) := by decide +kernel
theorem d_Outbox_writeFields_34 : decode prog_6_method_4_code 34 = .ok (.aload_n 0, 1) := by decide +kernel
theorem d_Outbox_writeFields_35 : decode prog_6_method_4_code 35 = .ok (.ldc 47, 2) := by decide +kernel
theorem d_Outbox_writeFields_37 : decode prog_6_method_4_code 37 = .ok (.invokevirtual 29, 3) := by decide +kernel
theorem d_Outbox_writeFields_40 : decode prog_6_method_4_code 40 = .ok (.aload_n 1, 1) := by decide +kernel
theorem d_Outbox_writeFields_41 : decode prog_6_method_4_code 41 = .ok (.getfield 70, 3) := by decide +kernel
theorem d_Outbox_writeFields_44 : decode prog_6_method_4_code 44 = .ok (.iconst (-1), 1) := by decide +kernel
theorem d_Outbox_writeFields_45 : decode prog_6_method_4_code 45 = .ok (.if_icmp .eq (23), 3) := by decide +kernel
theorem d_Outbox_writeFields_48 : decode prog_6_method_4_code 48 = .ok (.aload_n 0, 1) := by decide +kernel
theorem d_Outbox_writeFields_49 : decode prog_6_method_4_code 49 = .ok (.ldc 73, 2) := by decide +kernel
theorem d_Outbox_writeFields_51 : decode prog_6_method_4_code 51 = .ok (.invokevirtual 29, 3) := by decide +kernel
theorem d_Outbox_writeFields_54 : decode prog_6_method_4_code 54 = .ok (.aload_n 0, 1) := by decide +kernel
theorem d_Outbox_writeFields_55 : decode prog_6_method_4_code 55 = .ok (.aload_n 1, 1) := by decide +kernel
theorem d_Outbox_writeFields_56 : decode prog_6_method_4_code 56 = .ok (.getfield 70, 3) := by decide +kernel
theorem d_Outbox_writeFields_59 : decode prog_6_method_4_code 59 = .ok (.invokevirtual 38, 3) := by decide +kernel
theorem d_Outbox_writeFields_62 : decode prog_6_method_4_code 62 = .ok (.aload_n 0, 1) := by decide +kernel
theorem d_Outbox_writeFields_63 : decode prog_6_method_4_code 63 = .ok (.ldc 75, 2) := by decide +kernel
theorem d_Outbox_writeFields_65 : decode prog_6_method_4_code 65 = .ok (.invokevirtual 29, 3) := by decide +kernel
theorem d_Outbox_writeFields_68 : decode prog_6_method_4_code 68 = .ok (.aload_n 1, 1) := by decide +kernel
theorem d_Outbox_writeFields_69 : decode prog_6_method_4_code 69 = .ok (.getfield 33, 3) := by decide +kernel
theorem d_Outbox_writeFields_72 : decode prog_6_method_4_code 72 = .ok (.sipush (206), 3) := by decide +kernel
theorem d_Outbox_writeFields_75 : decode prog_6_method_4_code 75 = .ok (.if_icmp .eq (13), 3) := by decide +kernel
theorem d_Outbox_writeFields_78 : decode prog_6_method_4_code 78 = .ok (.aload_n 1, 1) := by decide +kernel
theorem d_Outbox_writeFields_79 : decode prog_6_method_4_code 79 = .ok (.getfield 33, 3) := by decide +kernel
theorem d_Outbox_writeFields_82 : decode prog_6_method_4_code 82 = .ok (.sipush (416), 3) := by decide +kernel
theorem d_Outbox_writeFields_85 : decode prog_6_method_4_code 85 = .ok (.if_icmp .ne (8), 3) := by decide +kernel
theorem d_Outbox_writeFields_88 : decode prog_6_method_4_code 88 = .ok (.aload_n 0, 1) := by decide +kernel
theorem d_Outbox_writeFields_89 : decode prog_6_method_4_code 89 = .ok (.aload_n 1, 1) := by decide +kernel
theorem d_Outbox_writeFields_90 : decode prog_6_method_4_code 90 = .ok (.invokevirtual 77, 3) := by decide +kernel
theorem d_Outbox_writeFields_93 : decode prog_6_method_4_code 93 = .ok (.aload_n 1, 1) := by decide +kernel
theorem d_Outbox_writeFields_94 : decode prog_6_method_4_code 94 = .ok (.getfield 80, 3) := by decide +kernel
theorem d_Outbox_writeFields_97 : decode prog_6_method_4_code 97 = .ok (.ifCond .eq (21), 3) := by decide +kernel
theorem d_Outbox_writeFields_100 : decode prog_6_method_4_code 100 = .ok (.aload_n 0, 1) := by decide +kernel
theorem d_Outbox_writeFields_101 : decode prog_6_method_4_code 101 = .ok (.ldc 84, 2) := by decide +kernel
theorem d_Outbox_writeFields_103 : decode prog_6_method_4_code 103 = .ok (.invokevirtual 29, 3) := by decide +kernel
theorem d_Outbox_writeFields_106 : decode prog_6_method_4_code 106 = .ok (.aload_n 0, 1) := by decide +kernel
theorem d_Outbox_writeFields_107 : decode prog_6_method_4_code 107 = .ok (.ldc 86, 2) := by decide +kernel
theorem d_Outbox_writeFields_109 : decode prog_6_method_4_code 109 = .ok (.invokevirtual 29, 3) := by decide +kernel
theorem d_Outbox_writeFields_112 : decode prog_6_method_4_code 112 = .ok (.aload_n 0, 1) := by decide +kernel
theorem d_Outbox_writeFields_113 : decode prog_6_method_4_code 113 = .ok (.ldc 47, 2) := by decide +kernel
theorem d_Outbox_writeFields_115 : decode prog_6_method_4_code 115 = .ok (.invokevirtual 29, 3) := by decide +kernel
theorem d_Outbox_writeFields_118 : decode prog_6_method_4_code 118 = .ok (.aload_n 1, 1) := by decide +kernel
theorem d_Outbox_writeFields_119 : decode prog_6_method_4_code 119 = .ok (.getfield 88, 3) := by decide +kernel
theorem d_Outbox_writeFields_122 : decode prog_6_method_4_code 122 = .ok (.ifCond .eq (12), 3) := by decide +kernel
theorem d_Outbox_writeFields_125 : decode prog_6_method_4_code 125 = .ok (.aload_n 0, 1) := by decide +kernel
theorem d_Outbox_writeFields_126 : decode prog_6_method_4_code 126 = .ok (.ldc 91, 2) := by decide +kernel
theorem d_Outbox_writeFields_128 : decode prog_6_method_4_code 128 = .ok (.invokevirtual 29, 3) := by decide +kernel
theorem d_Outbox_writeFields_131 : decode prog_6_method_4_code 131 = .ok (.goto (16), 3) := by decide +kernel
theorem d_Outbox_writeFields_134 : decode prog_6_method_4_code 134 = .ok (.aload_n 1, 1) := by decide +kernel
theorem d_Outbox_writeFields_135 : decode prog_6_method_4_code 135 = .ok (.getfield 93, 3) := by decide +kernel
theorem d_Outbox_writeFields_138 : decode prog_6_method_4_code 138 = .ok (.ifCond .eq (9), 3) := by decide +kernel
theorem d_Outbox_writeFields_141 : decode prog_6_method_4_code 141 = .ok (.aload_n 0, 1) := by decide +kernel
theorem d_Outbox_writeFields_142 : decode prog_6_method_4_code 142 = .ok (.ldc 96, 2) := by decide +kernel
theorem d_Outbox_writeFields_144 : decode prog_6_method_4_code 144 = .ok (.invokevirtual 29, 3) := by decide +kernel
theorem d_Outbox_writeFields_147 : decode prog_6_method_4_code 147 = .ok (.return_, 1) := by decide +kernel
def x_Outbox_writeFields_118 (σ : St) : Option St := (if (σ.1 44 5) = 0 then (if (σ.1 44 6) = 0 then some σ else (Option.bind (x_Outbox_writeText 31 σ) (fun s144 => some s144))) else (Option.bind (x_Outbox_writeText 30 σ) (fun s128 => some s128)))
def x_Outbox_writeFields_93 (σ : St) : Option St := (if (σ.1 44 4) = 0 then x_Outbox_writeFields_118 σ else (Option.bind (x_Outbox_writeText 28 σ) (fun s103 => (Option.bind (x_Outbox_writeText 29 s103) (fun s109 => (Option.bind (x_Outbox_writeText 24 s109) (fun s115 => x_Outbox_writeFields_118 s115)))))))
def x_Outbox_writeFields_88 (σ : St) : Option St := (Option.bind (x_Outbox_writeRange σ) (fun s90 => x_Outbox_writeFields_93 s90))
def x_Outbox_writeFields_68 (σ : St) : Option St := (if (σ.1 44 2) = (206 : Int32) then x_Outbox_writeFields_88 σ else (if (σ.1 44 2) = (416 : Int32) then x_Outbox_writeFields_88 σ else x_Outbox_writeFields_93 σ))
def x_Outbox_writeFields_40 (σ : St) : Option St := (if (σ.1 44 3) = ((-1) : Int32) then x_Outbox_writeFields_68 σ else (Option.bind (x_Outbox_writeText 25 σ) (fun s51 => (Option.bind (x_Outbox_writeNumber (s51.1 44 3) s51) (fun s59 => (Option.bind (x_Outbox_writeText 26 s59) (fun s65 => x_Outbox_writeFields_68 s65)))))))
def x_Outbox_writeFields (σ : St) : Option St := (if (σ.1 44 2) = (204 : Int32) then x_Outbox_writeFields_40 σ else (if (σ.1 44 2) = (304 : Int32) then x_Outbox_writeFields_40 σ else (Option.bind (x_Outbox_writeText 23 σ) (fun s23 => (Option.bind (x_Outbox_writeNumber (s23.1 44 7) s23) (fun s31 => (Option.bind (x_Outbox_writeText 24 s31) (fun s37 => x_Outbox_writeFields_40 s37))))))))
abbrev rm_Outbox_writeFields : Room := { frames := 6, cells := 0, slots := 0, locals := 128 }
set_option maxHeartbeats 4000000 in
set_option maxRecDepth 100000 in
theorem t_Outbox_writeFields (l : Launch) (G : xG) (σ : St) (σ' : St) (hE : x_Outbox_writeFields σ = some σ') : Met l y_Outbox_writeFields (ws_Outbox_writeFields) rm_Outbox_writeFields (xP G σ [.ref (G.2.1 48), .ref (G.2.1 44)]) (xQ G none σ') 0 0 (xA G) := by
  refine Met.ofW (cc := prog_6_method_4_code) (maxL := 2) (ret := none) (by decide) rfl ?_
  intro p e s m args below meth c s₁ B hml hv
  obtain ⟨rfl, hw, hC⟩ := hv
  have hx := B.exec
  have hb := B.bytes
  have hr := B.returns
  have hu : ∀ w ∈ UW, w.before _ s = true := fun w h => atoms_spec B.pre w (List.mem_cons_of_mem _ h)
  have hown : s.vm.findClass R_Outbox = some m.cls := findClass_of_methodNamed B.named
  have hlocks := B.notSynchronized
  have hK := hC.1
  have hI := hC.2.1
  have hG := hC.2.2.1
  have hN := hC.2.2.2
  have hS : va_S (xA G) s.heap s.heap [] := va_S.rf
  have jn118 : ∀ (ls : Array Slot) (H : Heap) (locs : List Loc) (σ : St), x_Outbox_writeFields_118 σ = some σ' → lv_has ls 2 [(0, .ref (G.2.1 48)), (1, .ref (G.2.1 44))] → xw G σ H → va_S (xA G) s.heap H locs → W p l e (headSpec (ws_Outbox_writeFields) rm_Outbox_writeFields).room s m ([.ref (G.2.1 48), .ref (G.2.1 44)] : List Value).toArray below meth c H locs 0 0 (MQ below (xQ G none σ') ([.ref (G.2.1 48), .ref (G.2.1 44)] : List Value).toArray s 0 0 (xA G)) (F0 m 118 ls []) := by
    intro ls H locs σ hE hl hw hS
    unfold x_Outbox_writeFields_118 at hE
    refine lv_aload_n hx hb d_Outbox_writeFields_118 rfl (lv_at hl 1 rfl) ?_
    refine va_getN (D := G.1) (cl := xCl) (ci := 7) (v := .int (σ.1 44 5)) (C := R_Answer) (T := T_Answer) (N := 12) hx hb hu fi_Answer hown hK hw 44 (x_at (by decide) (xcl_44 G σ)) rfl 5 (by decide) (nl_41 hG) (fun _ h9 => h9) rfl d_Outbox_writeFields_119 ?_
    refine lv_if_eq (tgt := 134) hx hb d_Outbox_writeFields_122 (by decide) (fun hc122 => ?_) (fun hc122 => ?_)
    · rw [if_pos hc122] at hE
      refine lv_aload_n hx hb d_Outbox_writeFields_134 rfl (lv_at hl 1 rfl) ?_
      refine va_getN (D := G.1) (cl := xCl) (ci := 7) (v := .int (σ.1 44 6)) (C := R_Answer) (T := T_Answer) (N := 12) hx hb hu fi_Answer hown hK hw 44 (x_at (by decide) (xcl_44 G σ)) rfl 6 (by decide) (nl_43 hG) (fun _ h9 => h9) rfl d_Outbox_writeFields_135 ?_
      refine lv_if_eq (tgt := 147) hx hb d_Outbox_writeFields_138 (by decide) (fun hc138 => ?_) (fun hc138 => ?_)
      · rw [if_pos hc138] at hE
        have e1 := Option.some.inj hE
        exact W.vret hx hb hr (fun t ht hW => ⟨rfl, by rw [ht, ← e1]; exact hw, hS.F ht⟩) hS.2.2 d_Outbox_writeFields_147
      · rw [if_neg hc138] at hE
        refine lv_aload_n hx hb d_Outbox_writeFields_141 rfl (lv_at hl 0 rfl) ?_
        refine va_ldcS hx hb hown (str_31 hN) d_Outbox_writeFields_142 ?_
        obtain ⟨s144, hC144, hE⟩ := x_bind hE
        refine x_callV hS (W.runV (As := [.ref (G.2.2.2.1 31)]) (rest := []) ⟨hx, hb, hml, hown, hu⟩ (t_Outbox_writeText l G σ 31 (by decide) s144 hC144) (cwV 1 hu (uw_V mw_922 mw_924 mw_17 mw_69 mw_925) rfl rfl rfl hd_Outbox_writeText ⟨Nat.le_of_ble_eq_true rfl, Nat.le_of_ble_eq_true rfl⟩) (x_preV hC hS hw (va_recv hK hw (q := (R_Outbox, T_Outbox, 2)) (ci := 8) rfl (x_at (by decide) (xcl_48 G σ)))) rfl rfl hl.1 rfl (lv_room (Nat.le_of_ble_eq_true rfl)) d_Outbox_writeFields_144 ⟨Nat.le_of_ble_eq_true rfl, Nat.le_of_ble_eq_true rfl⟩) (fun H locs hw hS => ?_)
        have e1 := Option.some.inj hE
        exact W.vret hx hb hr (fun t ht hW => ⟨rfl, by rw [ht, ← e1]; exact hw, hS.F ht⟩) hS.2.2 d_Outbox_writeFields_147
    · rw [if_neg hc122] at hE
      refine lv_aload_n hx hb d_Outbox_writeFields_125 rfl (lv_at hl 0 rfl) ?_
      refine va_ldcS hx hb hown (str_30 hN) d_Outbox_writeFields_126 ?_
      obtain ⟨s128, hC128, hE⟩ := x_bind hE
      refine x_callV hS (W.runV (As := [.ref (G.2.2.2.1 30)]) (rest := []) ⟨hx, hb, hml, hown, hu⟩ (t_Outbox_writeText l G σ 30 (by decide) s128 hC128) (cwV 1 hu (uw_V mw_922 mw_924 mw_17 mw_69 mw_925) rfl rfl rfl hd_Outbox_writeText ⟨Nat.le_of_ble_eq_true rfl, Nat.le_of_ble_eq_true rfl⟩) (x_preV hC hS hw (va_recv hK hw (q := (R_Outbox, T_Outbox, 2)) (ci := 8) rfl (x_at (by decide) (xcl_48 G σ)))) rfl rfl hl.1 rfl (lv_room (Nat.le_of_ble_eq_true rfl)) d_Outbox_writeFields_128 ⟨Nat.le_of_ble_eq_true rfl, Nat.le_of_ble_eq_true rfl⟩) (fun H locs hw hS => ?_)
      refine lv_goto (tgt := 147) hx hb d_Outbox_writeFields_131 (by decide) ?_
      have e1 := Option.some.inj hE
      exact W.vret hx hb hr (fun t ht hW => ⟨rfl, by rw [ht, ← e1]; exact hw, hS.F ht⟩) hS.2.2 d_Outbox_writeFields_147
  have jn93 : ∀ (ls : Array Slot) (H : Heap) (locs : List Loc) (σ : St), x_Outbox_writeFields_93 σ = some σ' → lv_has ls 2 [(0, .ref (G.2.1 48)), (1, .ref (G.2.1 44))] → xw G σ H → va_S (xA G) s.heap H locs → W p l e (headSpec (ws_Outbox_writeFields) rm_Outbox_writeFields).room s m ([.ref (G.2.1 48), .ref (G.2.1 44)] : List Value).toArray below meth c H locs 0 0 (MQ below (xQ G none σ') ([.ref (G.2.1 48), .ref (G.2.1 44)] : List Value).toArray s 0 0 (xA G)) (F0 m 93 ls []) := by
    intro ls H locs σ hE hl hw hS
    unfold x_Outbox_writeFields_93 at hE
    refine lv_aload_n hx hb d_Outbox_writeFields_93 rfl (lv_at hl 1 rfl) ?_
    refine va_getN (D := G.1) (cl := xCl) (ci := 7) (v := .int (σ.1 44 4)) (C := R_Answer) (T := T_Answer) (N := 12) hx hb hu fi_Answer hown hK hw 44 (x_at (by decide) (xcl_44 G σ)) rfl 4 (by decide) (nl_40 hG) (fun _ h9 => h9) rfl d_Outbox_writeFields_94 ?_
    refine lv_if_eq (tgt := 118) hx hb d_Outbox_writeFields_97 (by decide) (fun hc97 => ?_) (fun hc97 => ?_)
    · rw [if_pos hc97] at hE
      exact jn118 _ _ _ _ hE (lv_sub hl [0, 1] rfl) hw hS
    · rw [if_neg hc97] at hE
      refine lv_aload_n hx hb d_Outbox_writeFields_100 rfl (lv_at hl 0 rfl) ?_
      refine va_ldcS hx hb hown (str_28 hN) d_Outbox_writeFields_101 ?_
      obtain ⟨s103, hC103, hE⟩ := x_bind hE
      refine x_callV hS (W.runV (As := [.ref (G.2.2.2.1 28)]) (rest := []) ⟨hx, hb, hml, hown, hu⟩ (t_Outbox_writeText l G σ 28 (by decide) s103 hC103) (cwV 1 hu (uw_V mw_922 mw_924 mw_17 mw_69 mw_925) rfl rfl rfl hd_Outbox_writeText ⟨Nat.le_of_ble_eq_true rfl, Nat.le_of_ble_eq_true rfl⟩) (x_preV hC hS hw (va_recv hK hw (q := (R_Outbox, T_Outbox, 2)) (ci := 8) rfl (x_at (by decide) (xcl_48 G σ)))) rfl rfl hl.1 rfl (lv_room (Nat.le_of_ble_eq_true rfl)) d_Outbox_writeFields_103 ⟨Nat.le_of_ble_eq_true rfl, Nat.le_of_ble_eq_true rfl⟩) (fun H locs hw hS => ?_)
      refine lv_aload_n hx hb d_Outbox_writeFields_106 rfl (lv_at hl 0 rfl) ?_
      refine va_ldcS hx hb hown (str_29 hN) d_Outbox_writeFields_107 ?_
      obtain ⟨s109, hC109, hE⟩ := x_bind hE
      refine x_callV hS (W.runV (As := [.ref (G.2.2.2.1 29)]) (rest := []) ⟨hx, hb, hml, hown, hu⟩ (t_Outbox_writeText l G s103 29 (by decide) s109 hC109) (cwV 1 hu (uw_V mw_922 mw_924 mw_17 mw_69 mw_925) rfl rfl rfl hd_Outbox_writeText ⟨Nat.le_of_ble_eq_true rfl, Nat.le_of_ble_eq_true rfl⟩) (x_preV hC hS hw (va_recv hK hw (q := (R_Outbox, T_Outbox, 2)) (ci := 8) rfl (x_at (by decide) (xcl_48 G s103)))) rfl rfl hl.1 rfl (lv_room (Nat.le_of_ble_eq_true rfl)) d_Outbox_writeFields_109 ⟨Nat.le_of_ble_eq_true rfl, Nat.le_of_ble_eq_true rfl⟩) (fun H locs hw hS => ?_)
      refine lv_aload_n hx hb d_Outbox_writeFields_112 rfl (lv_at hl 0 rfl) ?_
      refine va_ldcS hx hb hown (str_24 hN) d_Outbox_writeFields_113 ?_
      obtain ⟨s115, hC115, hE⟩ := x_bind hE
      refine x_callV hS (W.runV (As := [.ref (G.2.2.2.1 24)]) (rest := []) ⟨hx, hb, hml, hown, hu⟩ (t_Outbox_writeText l G s109 24 (by decide) s115 hC115) (cwV 1 hu (uw_V mw_922 mw_924 mw_17 mw_69 mw_925) rfl rfl rfl hd_Outbox_writeText ⟨Nat.le_of_ble_eq_true rfl, Nat.le_of_ble_eq_true rfl⟩) (x_preV hC hS hw (va_recv hK hw (q := (R_Outbox, T_Outbox, 2)) (ci := 8) rfl (x_at (by decide) (xcl_48 G s109)))) rfl rfl hl.1 rfl (lv_room (Nat.le_of_ble_eq_true rfl)) d_Outbox_writeFields_115 ⟨Nat.le_of_ble_eq_true rfl, Nat.le_of_ble_eq_true rfl⟩) (fun H locs hw hS => ?_)
      exact jn118 _ _ _ _ hE (lv_sub hl [0, 1] rfl) hw hS
  have jn88 : ∀ (ls : Array Slot) (H : Heap) (locs : List Loc) (σ : St), x_Outbox_writeFields_88 σ = some σ' → lv_has ls 2 [(0, .ref (G.2.1 48)), (1, .ref (G.2.1 44))] → xw G σ H → va_S (xA G) s.heap H locs → W p l e (headSpec (ws_Outbox_writeFields) rm_Outbox_writeFields).room s m ([.ref (G.2.1 48), .ref (G.2.1 44)] : List Value).toArray below meth c H locs 0 0 (MQ below (xQ G none σ') ([.ref (G.2.1 48), .ref (G.2.1 44)] : List Value).toArray s 0 0 (xA G)) (F0 m 88 ls []) := by
    intro ls H locs σ hE hl hw hS
    unfold x_Outbox_writeFields_88 at hE
    refine lv_aload_n hx hb d_Outbox_writeFields_88 rfl (lv_at hl 0 rfl) ?_
    refine lv_aload_n hx hb d_Outbox_writeFields_89 rfl (lv_at hl 1 rfl) ?_
    obtain ⟨s90, hC90, hE⟩ := x_bind hE
    refine x_callV hS (W.runV (As := [.ref (G.2.1 44)]) (rest := []) ⟨hx, hb, hml, hown, hu⟩ (t_Outbox_writeRange l G σ s90 hC90) (cwV 1 hu (uw_V mw_946 mw_948 mw_21 mw_69 mw_949) rfl rfl rfl hd_Outbox_writeRange ⟨Nat.le_of_ble_eq_true rfl, Nat.le_of_ble_eq_true rfl⟩) (x_preV hC hS hw (va_recv hK hw (q := (R_Outbox, T_Outbox, 2)) (ci := 8) rfl (x_at (by decide) (xcl_48 G σ)))) rfl rfl hl.1 rfl (lv_room (Nat.le_of_ble_eq_true rfl)) d_Outbox_writeFields_90 ⟨Nat.le_of_ble_eq_true rfl, Nat.le_of_ble_eq_true rfl⟩) (fun H locs hw hS => ?_)
    exact jn93 _ _ _ _ hE (lv_sub hl [0, 1] rfl) hw hS
  have jn68 : ∀ (ls : Array Slot) (H : Heap) (locs : List Loc) (σ : St), x_Outbox_writeFields_68 σ = some σ' → lv_has ls 2 [(0, .ref (G.2.1 48)), (1, .ref (G.2.1 44))] → xw G σ H → va_S (xA G) s.heap H locs → W p l e (headSpec (ws_Outbox_writeFields) rm_Outbox_writeFields).room s m ([.ref (G.2.1 48), .ref (G.2.1 44)] : List Value).toArray below meth c H locs 0 0 (MQ below (xQ G none σ') ([.ref (G.2.1 48), .ref (G.2.1 44)] : List Value).toArray s 0 0 (xA G)) (F0 m 68 ls []) := by
    intro ls H locs σ hE hl hw hS
    unfold x_Outbox_writeFields_68 at hE
    refine lv_aload_n hx hb d_Outbox_writeFields_68 rfl (lv_at hl 1 rfl) ?_
    refine va_getN (D := G.1) (cl := xCl) (ci := 7) (v := .int (σ.1 44 2)) (C := R_Answer) (T := T_Answer) (N := 12) hx hb hu fi_Answer hown hK hw 44 (x_at (by decide) (xcl_44 G σ)) rfl 2 (by decide) (nl_37 hG) (fun _ h9 => h9) rfl d_Outbox_writeFields_69 ?_
    refine lv_sipush (v := (206 : Int32)) hx hb d_Outbox_writeFields_72 (by decide) ?_
    refine lv_icmp_eq (tgt := 88) hx hb d_Outbox_writeFields_75 (by decide) (fun hc75 => ?_) (fun hc75 => ?_)
    · rw [if_pos hc75] at hE
      exact jn88 _ _ _ _ hE (lv_sub hl [0, 1] rfl) hw hS
    · rw [if_neg hc75] at hE
      refine lv_aload_n hx hb d_Outbox_writeFields_78 rfl (lv_at hl 1 rfl) ?_
      refine va_getN (D := G.1) (cl := xCl) (ci := 7) (v := .int (σ.1 44 2)) (C := R_Answer) (T := T_Answer) (N := 12) hx hb hu fi_Answer hown hK hw 44 (x_at (by decide) (xcl_44 G σ)) rfl 2 (by decide) (nl_37 hG) (fun _ h9 => h9) rfl d_Outbox_writeFields_79 ?_
      refine lv_sipush (v := (416 : Int32)) hx hb d_Outbox_writeFields_82 (by decide) ?_
      refine lv_icmp_ne (tgt := 93) hx hb d_Outbox_writeFields_85 (by decide) (fun hc85 => ?_) (fun hc85 => ?_)
      · rw [if_neg hc85] at hE
        exact jn93 _ _ _ _ hE (lv_sub hl [0, 1] rfl) hw hS
      · rw [if_pos hc85] at hE
        exact jn88 _ _ _ _ hE (lv_sub hl [0, 1] rfl) hw hS
  have jn40 : ∀ (ls : Array Slot) (H : Heap) (locs : List Loc) (σ : St), x_Outbox_writeFields_40 σ = some σ' → lv_has ls 2 [(0, .ref (G.2.1 48)), (1, .ref (G.2.1 44))] → xw G σ H → va_S (xA G) s.heap H locs → W p l e (headSpec (ws_Outbox_writeFields) rm_Outbox_writeFields).room s m ([.ref (G.2.1 48), .ref (G.2.1 44)] : List Value).toArray below meth c H locs 0 0 (MQ below (xQ G none σ') ([.ref (G.2.1 48), .ref (G.2.1 44)] : List Value).toArray s 0 0 (xA G)) (F0 m 40 ls []) := by
    intro ls H locs σ hE hl hw hS
    unfold x_Outbox_writeFields_40 at hE
    refine lv_aload_n hx hb d_Outbox_writeFields_40 rfl (lv_at hl 1 rfl) ?_
    refine va_getN (D := G.1) (cl := xCl) (ci := 7) (v := .int (σ.1 44 3)) (C := R_Answer) (T := T_Answer) (N := 12) hx hb hu fi_Answer hown hK hw 44 (x_at (by decide) (xcl_44 G σ)) rfl 3 (by decide) (nl_39 hG) (fun _ h9 => h9) rfl d_Outbox_writeFields_41 ?_
    refine lv_iconst (v := ((-1) : Int32)) hx hb d_Outbox_writeFields_44 (by decide) ?_
    refine lv_icmp_eq (tgt := 68) hx hb d_Outbox_writeFields_45 (by decide) (fun hc45 => ?_) (fun hc45 => ?_)
    · rw [if_pos hc45] at hE
      exact jn68 _ _ _ _ hE (lv_sub hl [0, 1] rfl) hw hS
    · rw [if_neg hc45] at hE
      refine lv_aload_n hx hb d_Outbox_writeFields_48 rfl (lv_at hl 0 rfl) ?_
      refine va_ldcS hx hb hown (str_25 hN) d_Outbox_writeFields_49 ?_
      obtain ⟨s51, hC51, hE⟩ := x_bind hE
      refine x_callV hS (W.runV (As := [.ref (G.2.2.2.1 25)]) (rest := []) ⟨hx, hb, hml, hown, hu⟩ (t_Outbox_writeText l G σ 25 (by decide) s51 hC51) (cwV 1 hu (uw_V mw_922 mw_924 mw_17 mw_69 mw_925) rfl rfl rfl hd_Outbox_writeText ⟨Nat.le_of_ble_eq_true rfl, Nat.le_of_ble_eq_true rfl⟩) (x_preV hC hS hw (va_recv hK hw (q := (R_Outbox, T_Outbox, 2)) (ci := 8) rfl (x_at (by decide) (xcl_48 G σ)))) rfl rfl hl.1 rfl (lv_room (Nat.le_of_ble_eq_true rfl)) d_Outbox_writeFields_51 ⟨Nat.le_of_ble_eq_true rfl, Nat.le_of_ble_eq_true rfl⟩) (fun H locs hw hS => ?_)
      refine lv_aload_n hx hb d_Outbox_writeFields_54 rfl (lv_at hl 0 rfl) ?_
      refine lv_aload_n hx hb d_Outbox_writeFields_55 rfl (lv_at hl 1 rfl) ?_
      refine va_getN (D := G.1) (cl := xCl) (ci := 7) (v := .int (s51.1 44 3)) (C := R_Answer) (T := T_Answer) (N := 12) hx hb hu fi_Answer hown hK hw 44 (x_at (by decide) (xcl_44 G s51)) rfl 3 (by decide) (nl_39 hG) (fun _ h9 => h9) rfl d_Outbox_writeFields_56 ?_
      obtain ⟨s59, hC59, hE⟩ := x_bind hE
      refine x_callV hS (W.runV (As := [.int (s51.1 44 3)]) (rest := []) ⟨hx, hb, hml, hown, hu⟩ (t_Outbox_writeNumber l G s51 (s51.1 44 3) s59 hC59) (cwV 1 hu (uw_V mw_933 mw_935 mw_19 mw_69 mw_936) rfl rfl rfl hd_Outbox_writeNumber ⟨Nat.le_of_ble_eq_true rfl, Nat.le_of_ble_eq_true rfl⟩) (x_preV hC hS hw (va_recv hK hw (q := (R_Outbox, T_Outbox, 2)) (ci := 8) rfl (x_at (by decide) (xcl_48 G s51)))) rfl rfl hl.1 rfl (lv_room (Nat.le_of_ble_eq_true rfl)) d_Outbox_writeFields_59 ⟨Nat.le_of_ble_eq_true rfl, Nat.le_of_ble_eq_true rfl⟩) (fun H locs hw hS => ?_)
      refine lv_aload_n hx hb d_Outbox_writeFields_62 rfl (lv_at hl 0 rfl) ?_
      refine va_ldcS hx hb hown (str_26 hN) d_Outbox_writeFields_63 ?_
      obtain ⟨s65, hC65, hE⟩ := x_bind hE
      refine x_callV hS (W.runV (As := [.ref (G.2.2.2.1 26)]) (rest := []) ⟨hx, hb, hml, hown, hu⟩ (t_Outbox_writeText l G s59 26 (by decide) s65 hC65) (cwV 1 hu (uw_V mw_922 mw_924 mw_17 mw_69 mw_925) rfl rfl rfl hd_Outbox_writeText ⟨Nat.le_of_ble_eq_true rfl, Nat.le_of_ble_eq_true rfl⟩) (x_preV hC hS hw (va_recv hK hw (q := (R_Outbox, T_Outbox, 2)) (ci := 8) rfl (x_at (by decide) (xcl_48 G s59)))) rfl rfl hl.1 rfl (lv_room (Nat.le_of_ble_eq_true rfl)) d_Outbox_writeFields_65 ⟨Nat.le_of_ble_eq_true rfl, Nat.le_of_ble_eq_true rfl⟩) (fun H locs hw hS => ?_)
      exact jn68 _ _ _ _ hE (lv_sub hl [0, 1] rfl) hw hS
  have hl := lv_entry ([.ref (G.2.1 48), .ref (G.2.1 44)]) (n := 2) (Nat.le_of_ble_eq_true rfl)
  rw [lg_entry_eq]
  generalize (lg_sl ([.ref (G.2.1 48), .ref (G.2.1 44)]) ++ List.replicate (2 - (lg_sl ([.ref (G.2.1 48), .ref (G.2.1 44)])).length) Slot.unset).toArray = ls at hl ⊢
  have hl : lv_has ls 2 [(0, .ref (G.2.1 48)), (1, .ref (G.2.1 44))] := hl
  unfold x_Outbox_writeFields at hE
  refine lv_aload_n hx hb d_Outbox_writeFields_0 rfl (lv_at hl 1 rfl) ?_
  refine va_getN (D := G.1) (cl := xCl) (ci := 7) (v := .int (σ.1 44 2)) (C := R_Answer) (T := T_Answer) (N := 12) hx hb hu fi_Answer hown hK hw 44 (x_at (by decide) (xcl_44 G σ)) rfl 2 (by decide) (nl_37 hG) (fun _ h9 => h9) rfl d_Outbox_writeFields_1 ?_
  refine lv_sipush (v := (204 : Int32)) hx hb d_Outbox_writeFields_4 (by decide) ?_
  refine lv_icmp_eq (tgt := 40) hx hb d_Outbox_writeFields_7 (by decide) (fun hc7 => ?_) (fun hc7 => ?_)
  · rw [if_pos hc7] at hE
    exact jn40 _ _ _ _ hE (lv_sub hl [0, 1] rfl) hw hS
  · rw [if_neg hc7] at hE
    refine lv_aload_n hx hb d_Outbox_writeFields_10 rfl (lv_at hl 1 rfl) ?_
    refine va_getN (D := G.1) (cl := xCl) (ci := 7) (v := .int (σ.1 44 2)) (C := R_Answer) (T := T_Answer) (N := 12) hx hb hu fi_Answer hown hK hw 44 (x_at (by decide) (xcl_44 G σ)) rfl 2 (by decide) (nl_37 hG) (fun _ h9 => h9) rfl d_Outbox_writeFields_11 ?_
    refine lv_sipush (v := (304 : Int32)) hx hb d_Outbox_writeFields_14 (by decide) ?_
    refine lv_icmp_eq (tgt := 40) hx hb d_Outbox_writeFields_17 (by decide) (fun hc17 => ?_) (fun hc17 => ?_)
    · rw [if_pos hc17] at hE
      exact jn40 _ _ _ _ hE (lv_sub hl [0, 1] rfl) hw hS
    · rw [if_neg hc17] at hE
      refine lv_aload_n hx hb d_Outbox_writeFields_20 rfl (lv_at hl 0 rfl) ?_
      refine va_ldcS hx hb hown (str_23 hN) d_Outbox_writeFields_21 ?_
      obtain ⟨s23, hC23, hE⟩ := x_bind hE
      refine x_callV hS (W.runV (As := [.ref (G.2.2.2.1 23)]) (rest := []) ⟨hx, hb, hml, hown, hu⟩ (t_Outbox_writeText l G σ 23 (by decide) s23 hC23) (cwV 1 hu (uw_V mw_922 mw_924 mw_17 mw_69 mw_925) rfl rfl rfl hd_Outbox_writeText ⟨Nat.le_of_ble_eq_true rfl, Nat.le_of_ble_eq_true rfl⟩) (x_preV hC hS hw (va_recv hK hw (q := (R_Outbox, T_Outbox, 2)) (ci := 8) rfl (x_at (by decide) (xcl_48 G σ)))) rfl rfl hl.1 rfl (lv_room (Nat.le_of_ble_eq_true rfl)) d_Outbox_writeFields_23 ⟨Nat.le_of_ble_eq_true rfl, Nat.le_of_ble_eq_true rfl⟩) (fun H locs hw hS => ?_)
      refine lv_aload_n hx hb d_Outbox_writeFields_26 rfl (lv_at hl 0 rfl) ?_
      refine lv_aload_n hx hb d_Outbox_writeFields_27 rfl (lv_at hl 1 rfl) ?_
      refine va_getN (D := G.1) (cl := xCl) (ci := 7) (v := .int (s23.1 44 7)) (C := R_Answer) (T := T_Answer) (N := 12) hx hb hu fi_Answer hown hK hw 44 (x_at (by decide) (xcl_44 G s23)) rfl 7 (by decide) (nl_45 hG) (fun _ h9 => h9) rfl d_Outbox_writeFields_28 ?_
      obtain ⟨s31, hC31, hE⟩ := x_bind hE
      refine x_callV hS (W.runV (As := [.int (s23.1 44 7)]) (rest := []) ⟨hx, hb, hml, hown, hu⟩ (t_Outbox_writeNumber l G s23 (s23.1 44 7) s31 hC31) (cwV 1 hu (uw_V mw_933 mw_935 mw_19 mw_69 mw_936) rfl rfl rfl hd_Outbox_writeNumber ⟨Nat.le_of_ble_eq_true rfl, Nat.le_of_ble_eq_true rfl⟩) (x_preV hC hS hw (va_recv hK hw (q := (R_Outbox, T_Outbox, 2)) (ci := 8) rfl (x_at (by decide) (xcl_48 G s23)))) rfl rfl hl.1 rfl (lv_room (Nat.le_of_ble_eq_true rfl)) d_Outbox_writeFields_31 ⟨Nat.le_of_ble_eq_true rfl, Nat.le_of_ble_eq_true rfl⟩) (fun H locs hw hS => ?_)
      refine lv_aload_n hx hb d_Outbox_writeFields_34 rfl (lv_at hl 0 rfl) ?_
      refine va_ldcS hx hb hown (str_24 hN) d_Outbox_writeFields_35 ?_
      obtain ⟨s37, hC37, hE⟩ := x_bind hE
      refine x_callV hS (W.runV (As := [.ref (G.2.2.2.1 24)]) (rest := []) ⟨hx, hb, hml, hown, hu⟩ (t_Outbox_writeText l G s31 24 (by decide) s37 hC37) (cwV 1 hu (uw_V mw_922 mw_924 mw_17 mw_69 mw_925) rfl rfl rfl hd_Outbox_writeText ⟨Nat.le_of_ble_eq_true rfl, Nat.le_of_ble_eq_true rfl⟩) (x_preV hC hS hw (va_recv hK hw (q := (R_Outbox, T_Outbox, 2)) (ci := 8) rfl (x_at (by decide) (xcl_48 G s31)))) rfl rfl hl.1 rfl (lv_room (Nat.le_of_ble_eq_true rfl)) d_Outbox_writeFields_37 ⟨Nat.le_of_ble_eq_true rfl, Nat.le_of_ble_eq_true rfl⟩) (fun H locs hw hS => ?_)
      exact jn40 _ _ _ _ hE (lv_sub hl [0, 1] rfl) hw hS

def y_Outbox_write : MethodName := ⟨"PlainOrigin$Outbox", "write", "(LPlainOrigin$Answer;)V"⟩
def ws_Outbox_write : List Cond := Cond.code y_Outbox_write prog_6_method_3_code 3 none :: UW
theorem hd_Outbox_write : y_Outbox_write.cls = R_Outbox ∧ y_Outbox_write.cls ≠ "java/lang/invoke/MethodHandle" ∧ y_Outbox_write.cls ≠ "java/lang/invoke/VarHandle" ∧ (parseMethodDescriptor y_Outbox_write.desc).map (fun d => d.parameters.length) = some 1 := by decide +kernel
theorem d_Outbox_write_0 : decode prog_6_method_3_code 0 = .ok (.aload_n 0, 1) := by decide +kernel
theorem d_Outbox_write_1 : decode prog_6_method_3_code 1 = .ok (.ldc 27, 2) := by decide +kernel
theorem d_Outbox_write_3 : decode prog_6_method_3_code 3 = .ok (.invokevirtual 29, 3) := by decide +kernel
theorem d_Outbox_write_6 : decode prog_6_method_3_code 6 = .ok (.aload_n 0, 1) := by decide +kernel
theorem d_Outbox_write_7 : decode prog_6_method_3_code 7 = .ok (.aload_n 1, 1) := by decide +kernel
theorem d_Outbox_write_8 : decode prog_6_method_3_code 8 = .ok (.getfield 33, 3) := by decide +kernel
theorem d_Outbox_write_11 : decode prog_6_method_3_code 11 = .ok (.invokevirtual 38, 3) := by decide +kernel
theorem d_Outbox_write_14 : decode prog_6_method_3_code 14 = .ok (.aload_n 0, 1) := by decide +kernel
theorem d_Outbox_write_15 : decode prog_6_method_3_code 15 = .ok (.ldc 41, 2) := by decide +kernel
theorem d_Outbox_write_17 : decode prog_6_method_3_code 17 = .ok (.invokevirtual 29, 3) := by decide +kernel
theorem d_Outbox_write_20 : decode prog_6_method_3_code 20 = .ok (.aload_n 1, 1) := by decide +kernel
theorem d_Outbox_write_21 : decode prog_6_method_3_code 21 = .ok (.getfield 33, 3) := by decide +kernel
theorem d_Outbox_write_24 : decode prog_6_method_3_code 24 = .ok (.bipush (100), 2) := by decide +kernel
theorem d_Outbox_write_26 : decode prog_6_method_3_code 26 = .ok (.if_icmp .eq (8), 3) := by decide +kernel
theorem d_Outbox_write_29 : decode prog_6_method_3_code 29 = .ok (.aload_n 0, 1) := by decide +kernel
theorem d_Outbox_write_30 : decode prog_6_method_3_code 30 = .ok (.aload_n 1, 1) := by decide +kernel
theorem d_Outbox_write_31 : decode prog_6_method_3_code 31 = .ok (.invokevirtual 43, 3) := by decide +kernel
theorem d_Outbox_write_34 : decode prog_6_method_3_code 34 = .ok (.aload_n 0, 1) := by decide +kernel
theorem d_Outbox_write_35 : decode prog_6_method_3_code 35 = .ok (.ldc 47, 2) := by decide +kernel
theorem d_Outbox_write_37 : decode prog_6_method_3_code 37 = .ok (.invokevirtual 29, 3) := by decide +kernel
theorem d_Outbox_write_40 : decode prog_6_method_3_code 40 = .ok (.aload_n 1, 1) := by decide +kernel
theorem d_Outbox_write_41 : decode prog_6_method_3_code 41 = .ok (.getfield 49, 3) := by decide +kernel
theorem d_Outbox_write_44 : decode prog_6_method_3_code 44 = .ok (.istore_n 2, 1) := by decide +kernel
theorem d_Outbox_write_45 : decode prog_6_method_3_code 45 = .ok (.iload_n 2, 1) := by decide +kernel
theorem d_Outbox_write_46 : decode prog_6_method_3_code 46 = .ok (.aload_n 1, 1) := by decide +kernel
theorem d_Outbox_write_47 : decode prog_6_method_3_code 47 = .ok (.getfield 52, 3) := by decide +kernel
theorem d_Outbox_write_50 : decode prog_6_method_3_code 50 = .ok (.if_icmp .ge (21), 3) := by decide +kernel
theorem d_Outbox_write_53 : decode prog_6_method_3_code 53 = .ok (.aload_n 0, 1) := by decide +kernel
theorem d_Outbox_write_54 : decode prog_6_method_3_code 54 = .ok (.aload_n 1, 1) := by decide +kernel
theorem d_Outbox_write_55 : decode prog_6_method_3_code 55 = .ok (.getfield 55, 3) := by decide +kernel
theorem d_Outbox_write_58 : decode prog_6_method_3_code 58 = .ok (.iload_n 2, 1) := by decide +kernel
theorem d_Outbox_write_59 : decode prog_6_method_3_code 59 = .ok (.invokevirtual 58, 3) := by decide +kernel
theorem d_Outbox_write_62 : decode prog_6_method_3_code 62 = .ok (.invokevirtual 62, 3) := by decide +kernel
theorem d_Outbox_write_65 : decode prog_6_method_3_code 65 = .ok (.iinc 2 (1), 3) := by decide +kernel
theorem d_Outbox_write_68 : decode prog_6_method_3_code 68 = .ok (.goto (-23), 3) := by decide +kernel
theorem d_Outbox_write_71 : decode prog_6_method_3_code 71 = .ok (.return_, 1) := by decide +kernel
def x_Outbox_write_45 : Nat → Int32 → St → Option St
  | 0, _, _ => none
  | n + 1, l2, σ => (if (σ.1 44 10) ≤ l2 then some σ else (if xB σ.2.2.1 then (Option.bind (x_Bytes_get σ.2.2.1 l2 σ) (fun r59 => (Option.bind (x_Outbox_writeByte r59 σ) (fun s62 => (x_let (l2 + (1 : Int32)) (fun (v65 : Int32) => x_Outbox_write_45 n v65 s62)))))) else none))
def x_Outbox_write_34 (σ : St) : Option St := (Option.bind (x_Outbox_writeText 24 σ) (fun s37 => (x_let (s37.1 44 9) (fun (v44 : Int32) => x_Outbox_write_45 x_fuel v44 s37))))
def x_Outbox_write (σ : St) : Option St := (Option.bind (x_Outbox_writeText 21 σ) (fun s3 => (Option.bind (x_Outbox_writeNumber (s3.1 44 2) s3) (fun s11 => (Option.bind (x_Outbox_writeText 22 s11) (fun s17 => (if (s17.1 44 2) = (100 : Int32) then x_Outbox_write_34 s17 else (Option.bind (x_Outbox_writeFields s17) (fun s31 => x_Outbox_write_34 s31)))))))))
abbrev rm_Outbox_write : Room := { frames := 7, cells := 0, slots := 0, locals := 149 }
set_option maxHeartbeats 4000000 in
set_option maxRecDepth 100000 in
theorem t_Outbox_write (l : Launch) (G : xG) (σ : St) (σ' : St) (hE : x_Outbox_write σ = some σ') : Met l y_Outbox_write (ws_Outbox_write) rm_Outbox_write (xP G σ [.ref (G.2.1 48), .ref (G.2.1 44)]) (xQ G none σ') 0 0 (xA G) := by
  refine Met.ofW (cc := prog_6_method_3_code) (maxL := 3) (ret := none) (by decide) rfl ?_
  intro p e s m args below meth c s₁ B hml hv
  obtain ⟨rfl, hw, hC⟩ := hv
  have hx := B.exec
  have hb := B.bytes
  have hr := B.returns
  have hu : ∀ w ∈ UW, w.before _ s = true := fun w h => atoms_spec B.pre w (List.mem_cons_of_mem _ h)
  have hown : s.vm.findClass R_Outbox = some m.cls := findClass_of_methodNamed B.named
  have hlocks := B.notSynchronized
  have hK := hC.1
  have hI := hC.2.1
  have hG := hC.2.2.1
  have hN := hC.2.2.2
  have hS : va_S (xA G) s.heap s.heap [] := va_S.rf
  have jn45 : ∀ (n : Nat) (ls : Array Slot) (H : Heap) (locs : List Loc) (σ : St) (l2 : Int32), x_Outbox_write_45 n l2 σ = some σ' → lv_has ls 3 [(0, .ref (G.2.1 48)), (1, .ref (G.2.1 44)), (2, .int l2)] → xw G σ H → va_S (xA G) s.heap H locs → W p l e (headSpec (ws_Outbox_write) rm_Outbox_write).room s m ([.ref (G.2.1 48), .ref (G.2.1 44)] : List Value).toArray below meth c H locs 0 0 (MQ below (xQ G none σ') ([.ref (G.2.1 48), .ref (G.2.1 44)] : List Value).toArray s 0 0 (xA G)) (F0 m 45 ls []) := by
    intro n
    induction n with
    | zero => intro ls H locs σ l2 hE; rw [x_Outbox_write_45] at hE; cases hE
    | succ n ih =>
      intro ls H locs σ l2 hE hl hw hS
      rw [x_Outbox_write_45] at hE
      refine lv_iload_n hx hb d_Outbox_write_45 rfl (lv_at hl 2 rfl) ?_
      refine lv_aload_n hx hb d_Outbox_write_46 rfl (lv_at hl 1 rfl) ?_
      refine va_getN (D := G.1) (cl := xCl) (ci := 7) (v := .int (σ.1 44 10)) (C := R_Answer) (T := T_Answer) (N := 12) hx hb hu fi_Answer hown hK hw 44 (x_at (by decide) (xcl_44 G σ)) rfl 10 (by decide) (nl_48 hG) (fun _ h9 => h9) rfl d_Outbox_write_47 ?_
      refine lv_icmp_ge (tgt := 71) hx hb d_Outbox_write_50 (by decide) (fun hc50 => ?_) (fun hc50 => ?_)
      · rw [if_pos hc50] at hE
        have e1 := Option.some.inj hE
        exact W.vret hx hb hr (fun t ht hW => ⟨rfl, by rw [ht, ← e1]; exact hw, hS.F ht⟩) hS.2.2 d_Outbox_write_71
      · rw [if_neg hc50] at hE
        refine lv_aload_n hx hb d_Outbox_write_53 rfl (lv_at hl 0 rfl) ?_
        refine lv_aload_n hx hb d_Outbox_write_54 rfl (lv_at hl 1 rfl) ?_
        refine va_getN (D := G.1) (cl := xCl) (ci := 7) (v := .ref (G.2.1 σ.2.2.1)) (C := R_Answer) (T := T_Answer) (N := 12) hx hb hu fi_Answer hown hK hw 44 (x_at (by decide) (xcl_44 G σ)) rfl 8 (by decide) (nl_46 hG) (fun _ h9 => h9) rfl d_Outbox_write_55 ?_
        refine lv_iload_n hx hb d_Outbox_write_58 rfl (lv_at hl 2 rfl) ?_
        obtain ⟨q59_0, hE⟩ := x_guard hE
        obtain ⟨r59, hC59, hE⟩ := x_bind hE
        refine x_callR (W.runV (As := [.int l2]) (rest := [.ref (G.2.1 48)]) ⟨hx, hb, hml, hown, hu⟩ (t_Bytes_get l G σ σ.2.2.1 l2 q59_0 r59 hC59) (cwV 1 hu (uw_V mw_955 mw_540 mw_541 mw_63 mw_542) rfl rfl rfl hd_Bytes_get ⟨Nat.le_of_ble_eq_true rfl, Nat.le_of_ble_eq_true rfl⟩) (x_preV hC hS hw (va_recv hK hw (q := (R_Bytes, T_Bytes, 2)) (ci := 0) rfl (x_at (xB_lt q59_0) (xcl_B G σ (xB_s q59_0))))) rfl rfl hl.1 rfl (lv_room (Nat.le_of_ble_eq_true rfl)) d_Outbox_write_59 ⟨Nat.le_of_ble_eq_true rfl, Nat.le_of_ble_eq_true rfl⟩) ?_
        obtain ⟨s62, hC62, hE⟩ := x_bind hE
        refine x_callV hS (W.runV (As := [.int r59]) (rest := []) ⟨hx, hb, hml, hown, hu⟩ (t_Outbox_writeByte l G σ r59 s62 hC62) (cwV 1 hu (uw_V mw_928 mw_930 mw_18 mw_69 mw_931) rfl rfl rfl hd_Outbox_writeByte ⟨Nat.le_of_ble_eq_true rfl, Nat.le_of_ble_eq_true rfl⟩) (x_preV hC hS hw (va_recv hK hw (q := (R_Outbox, T_Outbox, 2)) (ci := 8) rfl (x_at (by decide) (xcl_48 G σ)))) rfl rfl hl.1 rfl (lv_room (Nat.le_of_ble_eq_true rfl)) d_Outbox_write_62 ⟨Nat.le_of_ble_eq_true rfl, Nat.le_of_ble_eq_true rfl⟩) (fun H locs hw hS => ?_)
        obtain ⟨v65, e65, hE⟩ := x_letE hE
        refine lv_iinc hx hb d_Outbox_write_65 hl (k := 2) rfl (x_inc v65 e65 (by decide)) (by decide) rfl (fun ls hl => ?_)
        have hl : lv_has ls 3 [(2, .int v65), (0, .ref (G.2.1 48)), (1, .ref (G.2.1 44))] := hl
        refine lv_goto (tgt := 45) hx hb d_Outbox_write_68 (by decide) ?_
        exact ih _ _ _ _ _ hE (lv_sub hl [1, 2, 0] rfl) hw hS
  have jn34 : ∀ (ls : Array Slot) (H : Heap) (locs : List Loc) (σ : St), x_Outbox_write_34 σ = some σ' → lv_has ls 3 [(0, .ref (G.2.1 48)), (1, .ref (G.2.1 44))] → xw G σ H → va_S (xA G) s.heap H locs → W p l e (headSpec (ws_Outbox_write) rm_Outbox_write).room s m ([.ref (G.2.1 48), .ref (G.2.1 44)] : List Value).toArray below meth c H locs 0 0 (MQ below (xQ G none σ') ([.ref (G.2.1 48), .ref (G.2.1 44)] : List Value).toArray s 0 0 (xA G)) (F0 m 34 ls []) := by
    intro ls H locs σ hE hl hw hS
    unfold x_Outbox_write_34 at hE
    refine lv_aload_n hx hb d_Outbox_write_34 rfl (lv_at hl 0 rfl) ?_
    refine va_ldcS hx hb hown (str_24 hN) d_Outbox_write_35 ?_
    obtain ⟨s37, hC37, hE⟩ := x_bind hE
    refine x_callV hS (W.runV (As := [.ref (G.2.2.2.1 24)]) (rest := []) ⟨hx, hb, hml, hown, hu⟩ (t_Outbox_writeText l G σ 24 (by decide) s37 hC37) (cwV 1 hu (uw_V mw_922 mw_924 mw_17 mw_69 mw_925) rfl rfl rfl hd_Outbox_writeText ⟨Nat.le_of_ble_eq_true rfl, Nat.le_of_ble_eq_true rfl⟩) (x_preV hC hS hw (va_recv hK hw (q := (R_Outbox, T_Outbox, 2)) (ci := 8) rfl (x_at (by decide) (xcl_48 G σ)))) rfl rfl hl.1 rfl (lv_room (Nat.le_of_ble_eq_true rfl)) d_Outbox_write_37 ⟨Nat.le_of_ble_eq_true rfl, Nat.le_of_ble_eq_true rfl⟩) (fun H locs hw hS => ?_)
    refine lv_aload_n hx hb d_Outbox_write_40 rfl (lv_at hl 1 rfl) ?_
    refine va_getN (D := G.1) (cl := xCl) (ci := 7) (v := .int (s37.1 44 9)) (C := R_Answer) (T := T_Answer) (N := 12) hx hb hu fi_Answer hown hK hw 44 (x_at (by decide) (xcl_44 G s37)) rfl 9 (by decide) (nl_47 hG) (fun _ h9 => h9) rfl d_Outbox_write_41 ?_
    refine lv_topi (fun v44 e44 => ?_)
    replace hE := x_letT e44 hE
    refine lv_istore_n hx hb d_Outbox_write_44 rfl hl (by decide) rfl (fun ls hl => ?_)
    have hl : lv_has ls 3 [(2, .int v44), (0, .ref (G.2.1 48)), (1, .ref (G.2.1 44))] := hl
    exact jn45 x_fuel _ _ _ _ _ hE (lv_sub hl [1, 2, 0] rfl) hw hS
  have hl := lv_entry ([.ref (G.2.1 48), .ref (G.2.1 44)]) (n := 3) (Nat.le_of_ble_eq_true rfl)
  rw [lg_entry_eq]
  generalize (lg_sl ([.ref (G.2.1 48), .ref (G.2.1 44)]) ++ List.replicate (3 - (lg_sl ([.ref (G.2.1 48), .ref (G.2.1 44)])).length) Slot.unset).toArray = ls at hl ⊢
  have hl : lv_has ls 3 [(0, .ref (G.2.1 48)), (1, .ref (G.2.1 44))] := hl
  unfold x_Outbox_write at hE
  refine lv_aload_n hx hb d_Outbox_write_0 rfl (lv_at hl 0 rfl) ?_
  refine va_ldcS hx hb hown (str_21 hN) d_Outbox_write_1 ?_
  obtain ⟨s3, hC3, hE⟩ := x_bind hE
  refine x_callV hS (W.runV (As := [.ref (G.2.2.2.1 21)]) (rest := []) ⟨hx, hb, hml, hown, hu⟩ (t_Outbox_writeText l G σ 21 (by decide) s3 hC3) (cwV 1 hu (uw_V mw_922 mw_924 mw_17 mw_69 mw_925) rfl rfl rfl hd_Outbox_writeText ⟨Nat.le_of_ble_eq_true rfl, Nat.le_of_ble_eq_true rfl⟩) (x_preV hC hS hw (va_recv hK hw (q := (R_Outbox, T_Outbox, 2)) (ci := 8) rfl (x_at (by decide) (xcl_48 G σ)))) rfl rfl hl.1 rfl (lv_room (Nat.le_of_ble_eq_true rfl)) d_Outbox_write_3 ⟨Nat.le_of_ble_eq_true rfl, Nat.le_of_ble_eq_true rfl⟩) (fun H locs hw hS => ?_)
  refine lv_aload_n hx hb d_Outbox_write_6 rfl (lv_at hl 0 rfl) ?_
  refine lv_aload_n hx hb d_Outbox_write_7 rfl (lv_at hl 1 rfl) ?_
  refine va_getN (D := G.1) (cl := xCl) (ci := 7) (v := .int (s3.1 44 2)) (C := R_Answer) (T := T_Answer) (N := 12) hx hb hu fi_Answer hown hK hw 44 (x_at (by decide) (xcl_44 G s3)) rfl 2 (by decide) (nl_37 hG) (fun _ h9 => h9) rfl d_Outbox_write_8 ?_
  obtain ⟨s11, hC11, hE⟩ := x_bind hE
  refine x_callV hS (W.runV (As := [.int (s3.1 44 2)]) (rest := []) ⟨hx, hb, hml, hown, hu⟩ (t_Outbox_writeNumber l G s3 (s3.1 44 2) s11 hC11) (cwV 1 hu (uw_V mw_933 mw_935 mw_19 mw_69 mw_936) rfl rfl rfl hd_Outbox_writeNumber ⟨Nat.le_of_ble_eq_true rfl, Nat.le_of_ble_eq_true rfl⟩) (x_preV hC hS hw (va_recv hK hw (q := (R_Outbox, T_Outbox, 2)) (ci := 8) rfl (x_at (by decide) (xcl_48 G s3)))) rfl rfl hl.1 rfl (lv_room (Nat.le_of_ble_eq_true rfl)) d_Outbox_write_11 ⟨Nat.le_of_ble_eq_true rfl, Nat.le_of_ble_eq_true rfl⟩) (fun H locs hw hS => ?_)
  refine lv_aload_n hx hb d_Outbox_write_14 rfl (lv_at hl 0 rfl) ?_
  refine va_ldcS hx hb hown (str_22 hN) d_Outbox_write_15 ?_
  obtain ⟨s17, hC17, hE⟩ := x_bind hE
  refine x_callV hS (W.runV (As := [.ref (G.2.2.2.1 22)]) (rest := []) ⟨hx, hb, hml, hown, hu⟩ (t_Outbox_writeText l G s11 22 (by decide) s17 hC17) (cwV 1 hu (uw_V mw_922 mw_924 mw_17 mw_69 mw_925) rfl rfl rfl hd_Outbox_writeText ⟨Nat.le_of_ble_eq_true rfl, Nat.le_of_ble_eq_true rfl⟩) (x_preV hC hS hw (va_recv hK hw (q := (R_Outbox, T_Outbox, 2)) (ci := 8) rfl (x_at (by decide) (xcl_48 G s11)))) rfl rfl hl.1 rfl (lv_room (Nat.le_of_ble_eq_true rfl)) d_Outbox_write_17 ⟨Nat.le_of_ble_eq_true rfl, Nat.le_of_ble_eq_true rfl⟩) (fun H locs hw hS => ?_)
  refine lv_aload_n hx hb d_Outbox_write_20 rfl (lv_at hl 1 rfl) ?_
  refine va_getN (D := G.1) (cl := xCl) (ci := 7) (v := .int (s17.1 44 2)) (C := R_Answer) (T := T_Answer) (N := 12) hx hb hu fi_Answer hown hK hw 44 (x_at (by decide) (xcl_44 G s17)) rfl 2 (by decide) (nl_37 hG) (fun _ h9 => h9) rfl d_Outbox_write_21 ?_
  refine lv_bipush (v := (100 : Int32)) hx hb d_Outbox_write_24 (by decide) ?_
  refine lv_icmp_eq (tgt := 34) hx hb d_Outbox_write_26 (by decide) (fun hc26 => ?_) (fun hc26 => ?_)
  · rw [if_pos hc26] at hE
    exact jn34 _ _ _ _ hE (lv_sub hl [0, 1] rfl) hw hS
  · rw [if_neg hc26] at hE
    refine lv_aload_n hx hb d_Outbox_write_29 rfl (lv_at hl 0 rfl) ?_
    refine lv_aload_n hx hb d_Outbox_write_30 rfl (lv_at hl 1 rfl) ?_
    obtain ⟨s31, hC31, hE⟩ := x_bind hE
    refine x_callV hS (W.runV (As := [.ref (G.2.1 44)]) (rest := []) ⟨hx, hb, hml, hown, hu⟩ (t_Outbox_writeFields l G s17 s31 hC31) (cwV 1 hu (uw_V mw_938 mw_940 mw_20 mw_69 mw_941) rfl rfl rfl hd_Outbox_writeFields ⟨Nat.le_of_ble_eq_true rfl, Nat.le_of_ble_eq_true rfl⟩) (x_preV hC hS hw (va_recv hK hw (q := (R_Outbox, T_Outbox, 2)) (ci := 8) rfl (x_at (by decide) (xcl_48 G s17)))) rfl rfl hl.1 rfl (lv_room (Nat.le_of_ble_eq_true rfl)) d_Outbox_write_31 ⟨Nat.le_of_ble_eq_true rfl, Nat.le_of_ble_eq_true rfl⟩) (fun H locs hw hS => ?_)
    exact jn34 _ _ _ _ hE (lv_sub hl [0, 1] rfl) hw hS
