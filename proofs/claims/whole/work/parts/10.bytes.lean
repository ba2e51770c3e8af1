def y_Bytes_get : MethodName := ⟨"PlainOrigin$Bytes", "get", "(I)I"⟩
def ws_Bytes_get : List Cond := Cond.code y_Bytes_get prog_3_method_5_code 2 (some .int) :: UW
theorem hd_Bytes_get : y_Bytes_get.cls = R_Bytes ∧ y_Bytes_get.cls ≠ "java/lang/invoke/MethodHandle" ∧ y_Bytes_get.cls ≠ "java/lang/invoke/VarHandle" ∧ (parseMethodDescriptor y_Bytes_get.desc).map (fun d => d.parameters.length) = some 1 := by decide +kernel
theorem d_Bytes_get_0 : decode prog_3_method_5_code 0 = .ok (.iload_n 1, 1) := by decide +kernel
theorem d_Bytes_get_1 : decode prog_3_method_5_code 1 = .ok (.ifCond .lt (20), 3) := by decide +kernel
theorem d_Bytes_get_4 : decode prog_3_method_5_code 4 = .ok (.iload_n 1, 1) := by decide +kernel
theorem d_Bytes_get_5 : decode prog_3_method_5_code 5 = .ok (.aload_n 0, 1) := by decide +kernel
theorem d_Bytes_get_6 : decode prog_3_method_5_code 6 = .ok (.getfield 15, 3) := by decide +kernel
theorem d_Bytes_get_9 : decode prog_3_method_5_code 9 = .ok (.if_icmp .ge (12), 3) := by decide +kernel
theorem d_Bytes_get_12 : decode prog_3_method_5_code 12 = .ok (.aload_n 0, 1) := by decide +kernel
theorem d_Bytes_get_13 : decode prog_3_method_5_code 13 = .ok (.getfield 9, 3) := by decide +kernel
theorem d_Bytes_get_16 : decode prog_3_method_5_code 16 = .ok (.iload_n 1, 1) := by decide +kernel
theorem d_Bytes_get_17 : decode prog_3_method_5_code 17 = .ok (.iaload, 1) := by decide +kernel
theorem d_Bytes_get_18 : decode prog_3_method_5_code 18 = .ok (.goto (4), 3) := by decide +kernel
theorem d_Bytes_get_21 : decode prog_3_method_5_code 21 = .ok (.iconst (-1), 1) := by decide +kernel
theorem d_Bytes_get_22 : decode prog_3_method_5_code 22 = .ok (.ireturn, 1) := by decide +kernel
def x_Bytes_get (o0 : Nat) (a1 : Int32) (σ : St) : Option Int32 := (if a1 < 0 then some ((-1) : Int32) else (if (σ.1 o0 1) ≤ a1 then some ((-1) : Int32) else (if x_in a1 (aln (o0 + 1)) then some (σ.2.1 (o0 + 1) a1.toNatClampNeg) else none)))
abbrev rm_Bytes_get : Room := { frames := 0, cells := 0, slots := 0, locals := 0 }
set_option maxHeartbeats 4000000 in
set_option maxRecDepth 100000 in
theorem t_Bytes_get (l : Launch) (G : xG) (σ : St) (o0 : Nat) (a1 : Int32) (ho0 : xB o0) (r : Int32) (hE : x_Bytes_get o0 a1 σ = some r) : Met l y_Bytes_get (ws_Bytes_get) rm_Bytes_get (xP G σ [.ref (G.2.1 o0), .int a1]) (xRd (some (.int r))) 0 0 (fun _ => False) := by
  refine Met.ofW (cc := prog_3_method_5_code) (maxL := 2) (ret := (some .int)) (by decide) rfl ?_
  intro p e s m args below meth c s₁ B hml hv
  obtain ⟨rfl, hw, hC⟩ := hv
  have hx := B.exec
  have hb := B.bytes
  have hr := B.returns
  have hu : ∀ w ∈ UW, w.before _ s = true := fun w h => atoms_spec B.pre w (List.mem_cons_of_mem _ h)
  have hown : s.vm.findClass R_Bytes = some m.cls := findClass_of_methodNamed B.named
  have hlocks := B.notSynchronized
  have hK := hC.1
  have hI := hC.2.1
  have hG := hC.2.2.1
  have hN := hC.2.2.2
  have hS : va_S (xA G) s.heap s.heap [] := va_S.rf
  have hl := lv_entry ([.ref (G.2.1 o0), .int a1]) (n := 2) (Nat.le_of_ble_eq_true rfl)
  rw [lg_entry_eq]
  generalize (lg_sl ([.ref (G.2.1 o0), .int a1]) ++ List.replicate (2 - (lg_sl ([.ref (G.2.1 o0), .int a1])).length) Slot.unset).toArray = ls at hl ⊢
  have hl : lv_has ls 2 [(0, .ref (G.2.1 o0)), (1, .int a1)] := hl
  unfold x_Bytes_get at hE
  refine lv_iload_n hx hb d_Bytes_get_0 rfl (lv_at hl 1 rfl) ?_
  refine lv_if_lt (tgt := 21) hx hb d_Bytes_get_1 (by decide) (fun hc1 => ?_) (fun hc1 => ?_)
  · rw [if_pos hc1] at hE
    refine lv_iconst (v := ((-1) : Int32)) hx hb d_Bytes_get_21 (by decide) ?_
    exact W.iret (v := ((-1) : Int32)) hx hb hr (fun t ht hW => ⟨by rw [Option.some.inj hE], ht⟩) (fun q h => by cases h) d_Bytes_get_22
  · rw [if_neg hc1] at hE
    refine lv_iload_n hx hb d_Bytes_get_4 rfl (lv_at hl 1 rfl) ?_
    refine lv_aload_n hx hb d_Bytes_get_5 rfl (lv_at hl 0 rfl) ?_
    refine va_get (D := G.1) (cl := xCl) (ci := 0) (v := .int (σ.1 o0 1)) (C := R_Bytes) (T := T_Bytes) (N := 2) hx hb hu fi_Bytes hown hK hw o0 (x_at (xB_lt ho0) (xcl_B G σ (xB_s ho0))) rfl 1 (by decide) (hu _ mw_114) (fun _ h9 => h9) rfl d_Bytes_get_6 ?_
    refine lv_icmp_ge (tgt := 21) hx hb d_Bytes_get_9 (by decide) (fun hc9 => ?_) (fun hc9 => ?_)
    · rw [if_pos hc9] at hE
      refine lv_iconst (v := ((-1) : Int32)) hx hb d_Bytes_get_21 (by decide) ?_
      exact W.iret (v := ((-1) : Int32)) hx hb hr (fun t ht hW => ⟨by rw [Option.some.inj hE], ht⟩) (fun q h => by cases h) d_Bytes_get_22
    · rw [if_neg hc9] at hE
      refine lv_aload_n hx hb d_Bytes_get_12 rfl (lv_at hl 0 rfl) ?_
      refine va_get (D := G.1) (cl := xCl) (ci := 0) (v := .ref (G.2.1 (o0 + 1))) (C := R_Bytes) (T := T_Bytes) (N := 2) hx hb hu fi_Bytes hown hK hw o0 (x_at (xB_lt ho0) (xcl_B G σ (xB_s ho0))) rfl 0 (by decide) (hu _ mw_113) (fun _ h9 => h9) rfl d_Bytes_get_13 ?_
      refine lv_iload_n hx hb d_Bytes_get_16 rfl (lv_at hl 1 rfl) ?_
      obtain ⟨g17, hE⟩ := x_guard hE
      refine va_iald hx hb hK hw (o0 + 1) 0 (x_at (xB_lt1 ho0) (xcl_I G σ (xB_s1 ho0))) rfl g17 d_Bytes_get_17 ?_
      refine lv_goto (tgt := 22) hx hb d_Bytes_get_18 (by decide) ?_
      exact W.iret (v := σ.2.1 (o0 + 1) a1.toNatClampNeg) hx hb hr (fun t ht hW => ⟨by rw [Option.some.inj hE], ht⟩) (fun q h => by cases h) d_Bytes_get_22

def y_Bytes_add : MethodName := ⟨"PlainOrigin$Bytes", "add", "(I)V"⟩
def ws_Bytes_add : List Cond := Cond.code y_Bytes_add prog_3_method_3_code 2 none :: UW
theorem hd_Bytes_add : y_Bytes_add.cls = R_Bytes ∧ y_Bytes_add.cls ≠ "java/lang/invoke/MethodHandle" ∧ y_Bytes_add.cls ≠ "java/lang/invoke/VarHandle" ∧ (parseMethodDescriptor y_Bytes_add.desc).map (fun d => d.parameters.length) = some 1 := by decide +kernel
theorem d_Bytes_add_0 : decode prog_3_method_3_code 0 = .ok (.aload_n 0, 1) := by decide +kernel
theorem d_Bytes_add_1 : decode prog_3_method_3_code 1 = .ok (.getfield 15, 3) := by decide +kernel
theorem d_Bytes_add_4 : decode prog_3_method_3_code 4 = .ok (.aload_n 0, 1) := by decide +kernel
theorem d_Bytes_add_5 : decode prog_3_method_3_code 5 = .ok (.getfield 9, 3) := by decide +kernel
theorem d_Bytes_add_8 : decode prog_3_method_3_code 8 = .ok (.arraylength, 1) := by decide +kernel
theorem d_Bytes_add_9 : decode prog_3_method_3_code 9 = .ok (.if_icmp .ge (23), 3) := by decide +kernel
theorem d_Bytes_add_12 : decode prog_3_method_3_code 12 = .ok (.aload_n 0, 1) := by decide +kernel
theorem d_Bytes_add_13 : decode prog_3_method_3_code 13 = .ok (.getfield 9, 3) := by decide +kernel
theorem d_Bytes_add_16 : decode prog_3_method_3_code 16 = .ok (.aload_n 0, 1) := by decide +kernel
theorem d_Bytes_add_17 : decode prog_3_method_3_code 17 = .ok (.getfield 15, 3) := by decide +kernel
theorem d_Bytes_add_20 : decode prog_3_method_3_code 20 = .ok (.iload_n 1, 1) := by decide +kernel
theorem d_Bytes_add_21 : decode prog_3_method_3_code 21 = .ok (.iastore, 1) := by decide +kernel
theorem d_Bytes_add_22 : decode prog_3_method_3_code 22 = .ok (.aload_n 0, 1) := by decide +kernel
theorem d_Bytes_add_23 : decode prog_3_method_3_code 23 = .ok (.dup, 1) := by decide +kernel
theorem d_Bytes_add_24 : decode prog_3_method_3_code 24 = .ok (.getfield 15, 3) := by decide +kernel
theorem d_Bytes_add_27 : decode prog_3_method_3_code 27 = .ok (.iconst 1, 1) := by decide +kernel
theorem d_Bytes_add_28 : decode prog_3_method_3_code 28 = .ok (.iadd, 1) := by decide +kernel
theorem d_Bytes_add_29 : decode prog_3_method_3_code 29 = .ok (.putfield 15, 3) := by decide +kernel
theorem d_Bytes_add_32 : decode prog_3_method_3_code 32 = .ok (.return_, 1) := by decide +kernel
def x_Bytes_add (o0 : Nat) (a1 : Int32) (σ : St) : Option St := (if (Int32.ofNat (aln (o0 + 1))) ≤ (σ.1 o0 1) then some σ else (if x_in (σ.1 o0 1) (aln (o0 + 1)) then (x_let (x_updM σ (o0 + 1) (σ.1 o0 1).toNatClampNeg a1) (fun (s21 : St) => (x_let (x_updR s21 o0 1 ((s21.1 o0 1) + (1 : Int32))) (fun (s29 : St) => some s29)))) else none))
abbrev rm_Bytes_add : Room := { frames := 0, cells := 0, slots := 0, locals := 0 }
set_option maxHeartbeats 4000000 in
set_option maxRecDepth 100000 in
theorem t_Bytes_add (l : Launch) (G : xG) (σ : St) (o0 : Nat) (a1 : Int32) (ho0 : xB o0) (σ' : St) (hE : x_Bytes_add o0 a1 σ = some σ') : Met l y_Bytes_add (ws_Bytes_add) rm_Bytes_add (xP G σ [.ref (G.2.1 o0), .int a1]) (xQ G none σ') 0 0 (xA G) := by
  refine Met.ofW (cc := prog_3_method_3_code) (maxL := 2) (ret := none) (by decide) rfl ?_
  intro p e s m args below meth c s₁ B hml hv
  obtain ⟨rfl, hw, hC⟩ := hv
  have hx := B.exec
  have hb := B.bytes
  have hr := B.returns
  have hu : ∀ w ∈ UW, w.before _ s = true := fun w h => atoms_spec B.pre w (List.mem_cons_of_mem _ h)
  have hown : s.vm.findClass R_Bytes = some m.cls := findClass_of_methodNamed B.named
  have hlocks := B.notSynchronized
  have hK := hC.1
  have hI := hC.2.1
  have hG := hC.2.2.1
  have hN := hC.2.2.2
  have hS : va_S (xA G) s.heap s.heap [] := va_S.rf
  have hl := lv_entry ([.ref (G.2.1 o0), .int a1]) (n := 2) (Nat.le_of_ble_eq_true rfl)
  rw [lg_entry_eq]
  generalize (lg_sl ([.ref (G.2.1 o0), .int a1]) ++ List.replicate (2 - (lg_sl ([.ref (G.2.1 o0), .int a1])).length) Slot.unset).toArray = ls at hl ⊢
  have hl : lv_has ls 2 [(0, .ref (G.2.1 o0)), (1, .int a1)] := hl
  unfold x_Bytes_add at hE
  refine lv_aload_n hx hb d_Bytes_add_0 rfl (lv_at hl 0 rfl) ?_
  refine va_get (D := G.1) (cl := xCl) (ci := 0) (v := .int (σ.1 o0 1)) (C := R_Bytes) (T := T_Bytes) (N := 2) hx hb hu fi_Bytes hown hK hw o0 (x_at (xB_lt ho0) (xcl_B G σ (xB_s ho0))) rfl 1 (by decide) (hu _ mw_114) (fun _ h9 => h9) rfl d_Bytes_add_1 ?_
  refine lv_aload_n hx hb d_Bytes_add_4 rfl (lv_at hl 0 rfl) ?_
  refine va_get (D := G.1) (cl := xCl) (ci := 0) (v := .ref (G.2.1 (o0 + 1))) (C := R_Bytes) (T := T_Bytes) (N := 2) hx hb hu fi_Bytes hown hK hw o0 (x_at (xB_lt ho0) (xcl_B G σ (xB_s ho0))) rfl 0 (by decide) (hu _ mw_113) (fun _ h9 => h9) rfl d_Bytes_add_5 ?_
  refine va_alen hx hb hK hw (o0 + 1) 0 (x_at (xB_lt1 ho0) (xcl_I G σ (xB_s1 ho0))) rfl (v := Int32.ofNat (aln (o0 + 1))) rfl d_Bytes_add_8 ?_
  refine lv_icmp_ge (tgt := 32) hx hb d_Bytes_add_9 (by decide) (fun hc9 => ?_) (fun hc9 => ?_)
  · rw [if_pos hc9] at hE
    have e1 := Option.some.inj hE
    exact W.vret hx hb hr (fun t ht hW => ⟨rfl, by rw [ht, ← e1]; exact hw, hS.F ht⟩) hS.2.2 d_Bytes_add_32
  · rw [if_neg hc9] at hE
    refine lv_aload_n hx hb d_Bytes_add_12 rfl (lv_at hl 0 rfl) ?_
    refine va_get (D := G.1) (cl := xCl) (ci := 0) (v := .ref (G.2.1 (o0 + 1))) (C := R_Bytes) (T := T_Bytes) (N := 2) hx hb hu fi_Bytes hown hK hw o0 (x_at (xB_lt ho0) (xcl_B G σ (xB_s ho0))) rfl 0 (by decide) (hu _ mw_113) (fun _ h9 => h9) rfl d_Bytes_add_13 ?_
    refine lv_aload_n hx hb d_Bytes_add_16 rfl (lv_at hl 0 rfl) ?_
    refine va_get (D := G.1) (cl := xCl) (ci := 0) (v := .int (σ.1 o0 1)) (C := R_Bytes) (T := T_Bytes) (N := 2) hx hb hu fi_Bytes hown hK hw o0 (x_at (xB_lt ho0) (xcl_B G σ (xB_s ho0))) rfl 1 (by decide) (hu _ mw_114) (fun _ h9 => h9) rfl d_Bytes_add_17 ?_
    refine lv_iload_n hx hb d_Bytes_add_20 rfl (lv_at hl 1 rfl) ?_
    obtain ⟨g21, hE⟩ := x_guard hE
    refine va_iast hx hb hK hw (x_D hI _) hS (o0 + 1) 0 (x_at (xB_lt1 ho0) (xcl_I G σ (xB_s1 ho0))) rfl g21 d_Bytes_add_21 (fun H locs hw _ hS => ?_)
    replace hw := x_setM hw (xB_lt1 ho0) (xB_s1 ho0)
    obtain ⟨s21, e21, hE⟩ := x_letE hE
    rw [← e21] at hw
    refine lv_aload_n hx hb d_Bytes_add_22 rfl (lv_at hl 0 rfl) ?_
    refine lv_dup hx hb d_Bytes_add_23 rfl ?_
    refine va_get (D := G.1) (cl := xCl) (ci := 0) (v := .int (s21.1 o0 1)) (C := R_Bytes) (T := T_Bytes) (N := 2) hx hb hu fi_Bytes hown hK hw o0 (x_at (xB_lt ho0) (xcl_B G s21 (xB_s ho0))) rfl 1 (by decide) (hu _ mw_114) (fun _ h9 => h9) rfl d_Bytes_add_24 ?_
    refine lv_iconst (v := (1 : Int32)) hx hb d_Bytes_add_27 (by decide) ?_
    refine lv_iadd hx hb d_Bytes_add_28 ?_
    refine va_put (D := G.1) (cl := xCl) (ci := 0) (v := .int ((s21.1 o0 1) + (1 : Int32))) (ty := .int) (C := R_Bytes) (T := T_Bytes) (N := 2) hx hb hu fi_Bytes ty_Bytes tyok_Bytes nm_Bytes hown hK hw (x_D hI _) hS o0 (x_at (xB_lt ho0) (xcl_B G s21 (xB_s ho0))) rfl 1 (by decide) (hu _ mw_114) (fun _ h9 => h9) rfl (tyok_Bytes 1 (by decide)) rfl rfl (Nat.le_of_ble_eq_true rfl) d_Bytes_add_29 (fun H locs hw _ hS => ?_)
    replace hw := x_setR hw (xB_lt ho0) (x_putB (xB_s ho0))
    obtain ⟨s29, e29, hE⟩ := x_letE hE
    rw [← e29] at hw
    have e1 := Option.some.inj hE
    exact W.vret hx hb hr (fun t ht hW => ⟨rfl, by rw [ht, ← e1]; exact hw, hS.F ht⟩) hS.2.2 d_Bytes_add_32

def y_Bytes_clear : MethodName := ⟨"PlainOrigin$Bytes", "clear", "()V"⟩
def ws_Bytes_clear : List Cond := Cond.code y_Bytes_clear prog_3_method_2_code 1 none :: UW
theorem hd_Bytes_clear : y_Bytes_clear.cls = R_Bytes ∧ y_Bytes_clear.cls ≠ "java/lang/invoke/MethodHandle" ∧ y_Bytes_clear.cls ≠ "java/lang/invoke/VarHandle" ∧ (parseMethodDescriptor y_Bytes_clear.desc).map (fun d => d.parameters.length) = some 0 := by decide +kernel
theorem d_Bytes_clear_0 : decode prog_3_method_2_code 0 = .ok (.aload_n 0, 1) := by decide +kernel
theorem d_Bytes_clear_1 : decode prog_3_method_2_code 1 = .ok (.iconst 0, 1) := by decide +kernel
theorem d_Bytes_clear_2 : decode prog_3_method_2_code 2 = .ok (.putfield 15, 3) := by decide +kernel
theorem d_Bytes_clear_5 : decode prog_3_method_2_code 5 = .ok (.return_, 1) := by decide +kernel
def x_Bytes_clear (o0 : Nat) (σ : St) : Option St := (x_let (x_updR σ o0 1 (0 : Int32)) (fun (s2 : St) => some s2))
abbrev rm_Bytes_clear : Room := { frames := 0, cells := 0, slots := 0, locals := 0 }
set_option maxHeartbeats 4000000 in
set_option maxRecDepth 100000 in
theorem t_Bytes_clear (l : Launch) (G : xG) (σ : St) (o0 : Nat) (ho0 : xB o0) (σ' : St) (hE : x_Bytes_clear o0 σ = some σ') : Met l y_Bytes_clear (ws_Bytes_clear) rm_Bytes_clear (xP G σ [.ref (G.2.1 o0)]) (xQ G none σ') 0 0 (xA G) := by
  refine Met.ofW (cc := prog_3_method_2_code) (maxL := 1) (ret := none) (by decide) rfl ?_
  intro p e s m args below meth c s₁ B hml hv
  obtain ⟨rfl, hw, hC⟩ := hv
  have hx := B.exec
  have hb := B.bytes
  have hr := B.returns
  have hu : ∀ w ∈ UW, w.before _ s = true := fun w h => atoms_spec B.pre w (List.mem_cons_of_mem _ h)
  have hown : s.vm.findClass R_Bytes = some m.cls := findClass_of_methodNamed B.named
  have hlocks := B.notSynchronized
  have hK := hC.1
  have hI := hC.2.1
  have hG := hC.2.2.1
  have hN := hC.2.2.2
  have hS : va_S (xA G) s.heap s.heap [] := va_S.rf
  have hl := lv_entry ([.ref (G.2.1 o0)]) (n := 1) (Nat.le_of_ble_eq_true rfl)
  rw [lg_entry_eq]
  generalize (lg_sl ([.ref (G.2.1 o0)]) ++ List.replicate (1 - (lg_sl ([.ref (G.2.1 o0)])).length) Slot.unset).toArray = ls at hl ⊢
  have hl : lv_has ls 1 [(0, .ref (G.2.1 o0))] := hl
  unfold x_Bytes_clear at hE
  refine lv_aload_n hx hb d_Bytes_clear_0 rfl (lv_at hl 0 rfl) ?_
  refine lv_iconst (v := (0 : Int32)) hx hb d_Bytes_clear_1 (by decide) ?_
  refine va_put (D := G.1) (cl := xCl) (ci := 0) (v := .int (0 : Int32)) (ty := .int) (C := R_Bytes) (T := T_Bytes) (N := 2) hx hb hu fi_Bytes ty_Bytes tyok_Bytes nm_Bytes hown hK hw (x_D hI _) hS o0 (x_at (xB_lt ho0) (xcl_B G σ (xB_s ho0))) rfl 1 (by decide) (hu _ mw_114) (fun _ h9 => h9) rfl (tyok_Bytes 1 (by decide)) rfl rfl (Nat.le_of_ble_eq_true rfl) d_Bytes_clear_2 (fun H locs hw _ hS => ?_)
  replace hw := x_setR hw (xB_lt ho0) (x_putB (xB_s ho0))
  obtain ⟨s2, e2, hE⟩ := x_letE hE
  rw [← e2] at hw
  have e1 := Option.some.inj hE
  exact W.vret hx hb hr (fun t ht hW => ⟨rfl, by rw [ht, ← e1]; exact hw, hS.F ht⟩) hS.2.2 d_Bytes_clear_5

def y_Bytes_addAll : MethodName := ⟨"PlainOrigin$Bytes", "addAll", "(LPlainOrigin$Bytes;)V"⟩
def ws_Bytes_addAll : List Cond := Cond.code y_Bytes_addAll prog_3_method_4_code 3 none :: UW
theorem hd_Bytes_addAll : y_Bytes_addAll.cls = R_Bytes ∧ y_Bytes_addAll.cls ≠ "java/lang/invoke/MethodHandle" ∧ y_Bytes_addAll.cls ≠ "java/lang/invoke/VarHandle" ∧ (parseMethodDescriptor y_Bytes_addAll.desc).map (fun d => d.parameters.length) = some 1 := by decide +kernel
theorem d_Bytes_addAll_0 : decode prog_3_method_4_code 0 = .ok (.iconst 0, 1) := by decide +kernel
theorem d_Bytes_addAll_1 : decode prog_3_method_4_code 1 = .ok (.istore_n 2, 1) := by decide +kernel
theorem d_Bytes_addAll_2 : decode prog_3_method_4_code 2 = .ok (.iload_n 2, 1) := by decide +kernel
theorem d_Bytes_addAll_3 : decode prog_3_method_4_code 3 = .ok (.aload_n 1, 1) := by decide +kernel
theorem d_Bytes_addAll_4 : decode prog_3_method_4_code 4 = .ok (.getfield 15, 3) := by decide +kernel
theorem d_Bytes_addAll_7 : decode prog_3_method_4_code 7 = .ok (.if_icmp .ge (18), 3) := by decide +kernel
theorem d_Bytes_addAll_10 : decode prog_3_method_4_code 10 = .ok (.aload_n 0, 1) := by decide +kernel
theorem d_Bytes_addAll_11 : decode prog_3_method_4_code 11 = .ok (.aload_n 1, 1) := by decide +kernel
theorem d_Bytes_addAll_12 : decode prog_3_method_4_code 12 = .ok (.iload_n 2, 1) := by decide +kernel
theorem d_Bytes_addAll_13 : decode prog_3_method_4_code 13 = .ok (.invokevirtual 19, 3) := by decide +kernel
theorem d_Bytes_addAll_16 : decode prog_3_method_4_code 16 = .ok (.invokevirtual 23, 3) := by decide +kernel
theorem d_Bytes_addAll_19 : decode prog_3_method_4_code 19 = .ok (.iinc 2 (1), 3) := by decide +kernel
theorem d_Bytes_addAll_22 : decode prog_3_method_4_code 22 = .ok (.goto (-20), 3) := by decide +kernel
theorem d_Bytes_addAll_25 : decode prog_3_method_4_code 25 = .ok (.return_, 1) := by decide +kernel
def x_Bytes_addAll_2 (o0 : Nat) (o1 : Nat) : Nat → Int32 → St → Option St
  | 0, _, _ => none
  | n + 1, l2, σ => (if (σ.1 o1 1) ≤ l2 then some σ else (Option.bind (x_Bytes_get o1 l2 σ) (fun r13 => (Option.bind (x_Bytes_add o0 r13 σ) (fun s16 => (x_let (l2 + (1 : Int32)) (fun (v19 : Int32) => x_Bytes_addAll_2 o0 o1 n v19 s16)))))))
def x_Bytes_addAll (o0 : Nat) (o1 : Nat) (σ : St) : Option St := x_Bytes_addAll_2 o0 o1 x_fuel (0 : Int32) σ
abbrev rm_Bytes_addAll : Room := { frames := 1, cells := 0, slots := 0, locals := 21 }
set_option maxHeartbeats 4000000 in
set_option maxRecDepth 100000 in
theorem t_Bytes_addAll (l : Launch) (G : xG) (σ : St) (o0 : Nat) (o1 : Nat) (ho0 : xB o0) (ho1 : xB o1) (σ' : St) (hE : x_Bytes_addAll o0 o1 σ = some σ') : Met l y_Bytes_addAll (ws_Bytes_addAll) rm_Bytes_addAll (xP G σ [.ref (G.2.1 o0), .ref (G.2.1 o1)]) (xQ G none σ') 0 0 (xA G) := by
  refine Met.ofW (cc := prog_3_method_4_code) (maxL := 3) (ret := none) (by decide) rfl ?_
  intro p e s m args below meth c s₁ B hml hv
  obtain ⟨rfl, hw, hC⟩ := hv
  have hx := B.exec
  have hb := B.bytes
  have hr := B.returns
  have hu : ∀ w ∈ UW, w.before _ s = true := fun w h => atoms_spec B.pre w (List.mem_cons_of_mem _ h)
  have hown : s.vm.findClass R_Bytes = some m.cls := findClass_of_methodNamed B.named
  have hlocks := B.notSynchronized
  have hK := hC.1
  have hI := hC.2.1
  have hG := hC.2.2.1
  have hN := hC.2.2.2
  have hS : va_S (xA G) s.heap s.heap [] := va_S.rf
  have jn2 : ∀ (n : Nat) (ls : Array Slot) (H : Heap) (locs : List Loc) (σ : St) (l2 : Int32), x_Bytes_addAll_2 o0 o1 n l2 σ = some σ' → lv_has ls 3 [(0, .ref (G.2.1 o0)), (1, .ref (G.2.1 o1)), (2, .int l2)] → xw G σ H → va_S (xA G) s.heap H locs → W p l e (headSpec (ws_Bytes_addAll) rm_Bytes_addAll).room s m ([.ref (G.2.1 o0), .ref (G.2.1 o1)] : List Value).toArray below meth c H locs 0 0 (MQ below (xQ G none σ') ([.ref (G.2.1 o0), .ref (G.2.1 o1)] : List Value).toArray s 0 0 (xA G)) (F0 m 2 ls []) := by
    intro n
    induction n with
    | zero => intro ls H locs σ l2 hE; rw [x_Bytes_addAll_2] at hE; cases hE
    | succ n ih =>
      intro ls H locs σ l2 hE hl hw hS
      rw [x_Bytes_addAll_2] at hE
      refine lv_iload_n hx hb d_Bytes_addAll_2 rfl (lv_at hl 2 rfl) ?_
      refine lv_aload_n hx hb d_Bytes_addAll_3 rfl (lv_at hl 1 rfl) ?_
      refine va_get (D := G.1) (cl := xCl) (ci := 0) (v := .int (σ.1 o1 1)) (C := R_Bytes) (T := T_Bytes) (N := 2) hx hb hu fi_Bytes hown hK hw o1 (x_at (xB_lt ho1) (xcl_B G σ (xB_s ho1))) rfl 1 (by decide) (hu _ mw_114) (fun _ h9 => h9) rfl d_Bytes_addAll_4 ?_
      refine lv_icmp_ge (tgt := 25) hx hb d_Bytes_addAll_7 (by decide) (fun hc7 => ?_) (fun hc7 => ?_)
      · rw [if_pos hc7] at hE
        have e1 := Option.some.inj hE
        exact W.vret hx hb hr (fun t ht hW => ⟨rfl, by rw [ht, ← e1]; exact hw, hS.F ht⟩) hS.2.2 d_Bytes_addAll_25
      · rw [if_neg hc7] at hE
        refine lv_aload_n hx hb d_Bytes_addAll_10 rfl (lv_at hl 0 rfl) ?_
        refine lv_aload_n hx hb d_Bytes_addAll_11 rfl (lv_at hl 1 rfl) ?_
        refine lv_iload_n hx hb d_Bytes_addAll_12 rfl (lv_at hl 2 rfl) ?_
        obtain ⟨r13, hC13, hE⟩ := x_bind hE
        refine x_callR (W.runV (As := [.int l2]) (rest := [.ref (G.2.1 o0)]) ⟨hx, hb, hml, hown, hu⟩ (t_Bytes_get l G σ o1 l2 ho1 r13 hC13) (cwV 1 hu (uw_V mw_713 mw_540 mw_541 mw_63 mw_542) rfl rfl rfl hd_Bytes_get ⟨Nat.le_of_ble_eq_true rfl, Nat.le_of_ble_eq_true rfl⟩) (x_preV hC hS hw (va_recv hK hw (q := (R_Bytes, T_Bytes, 2)) (ci := 0) rfl (x_at (xB_lt ho1) (xcl_B G σ (xB_s ho1))))) rfl rfl hl.1 rfl (lv_room (Nat.le_of_ble_eq_true rfl)) d_Bytes_addAll_13 ⟨Nat.le_of_ble_eq_true rfl, Nat.le_of_ble_eq_true rfl⟩) ?_
        obtain ⟨s16, hC16, hE⟩ := x_bind hE
        refine x_callV hS (W.runV (As := [.int r13]) (rest := []) ⟨hx, hb, hml, hown, hu⟩ (t_Bytes_add l G σ o0 r13 ho0 s16 hC16) (cwV 1 hu (uw_V mw_714 mw_509 mw_510 mw_63 mw_511) rfl rfl rfl hd_Bytes_add ⟨Nat.le_of_ble_eq_true rfl, Nat.le_of_ble_eq_true rfl⟩) (x_preV hC hS hw (va_recv hK hw (q := (R_Bytes, T_Bytes, 2)) (ci := 0) rfl (x_at (xB_lt ho0) (xcl_B G σ (xB_s ho0))))) rfl rfl hl.1 rfl (lv_room (Nat.le_of_ble_eq_true rfl)) d_Bytes_addAll_16 ⟨Nat.le_of_ble_eq_true rfl, Nat.le_of_ble_eq_true rfl⟩) (fun H locs hw hS => ?_)
        obtain ⟨v19, e19, hE⟩ := x_letE hE
        refine lv_iinc hx hb d_Bytes_addAll_19 hl (k := 2) rfl (x_inc v19 e19 (by decide)) (by decide) rfl (fun ls hl => ?_)
        have hl : lv_has ls 3 [(2, .int v19), (0, .ref (G.2.1 o0)), (1, .ref (G.2.1 o1))] := hl
        refine lv_goto (tgt := 2) hx hb d_Bytes_addAll_22 (by decide) ?_
        exact ih _ _ _ _ _ hE (lv_sub hl [1, 2, 0] rfl) hw hS
  have hl := lv_entry ([.ref (G.2.1 o0), .ref (G.2.1 o1)]) (n := 3) (Nat.le_of_ble_eq_true rfl)
  rw [lg_entry_eq]
  generalize (lg_sl ([.ref (G.2.1 o0), .ref (G.2.1 o1)]) ++ List.replicate (3 - (lg_sl ([.ref (G.2.1 o0), .ref (G.2.1 o1)])).length) Slot.unset).toArray = ls at hl ⊢
  have hl : lv_has ls 3 [(0, .ref (G.2.1 o0)), (1, .ref (G.2.1 o1))] := hl
  unfold x_Bytes_addAll at hE
  refine lv_iconst (v := (0 : Int32)) hx hb d_Bytes_addAll_0 (by decide) ?_
  refine lv_istore_n hx hb d_Bytes_addAll_1 rfl hl (by decide) rfl (fun ls hl => ?_)
  have hl : lv_has ls 3 [(2, .int (0 : Int32)), (0, .ref (G.2.1 o0)), (1, .ref (G.2.1 o1))] := hl
  exact jn2 x_fuel _ _ _ _ _ hE (lv_sub hl [1, 2, 0] rfl) hw hS
