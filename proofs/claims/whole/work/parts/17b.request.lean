def y_Request_clear : MethodName := ⟨"PlainOrigin$Request", "clear", "()V"⟩
def ws_Request_clear : List Cond := Cond.code y_Request_clear prog_9_method_2_code 1 none :: UW
theorem hd_Request_clear : y_Request_clear.cls = R_Request ∧ y_Request_clear.cls ≠ "java/lang/invoke/MethodHandle" ∧ y_Request_clear.cls ≠ "java/lang/invoke/VarHandle" ∧ (parseMethodDescriptor y_Request_clear.desc).map (fun d => d.parameters.length) = some 0 := by decide +kernel
theorem d_Request_clear_0 : decode prog_9_method_2_code 0 = .ok (.aload_n 0, 1) := by decide +kernel
theorem d_Request_clear_1 : decode prog_9_method_2_code 1 = .ok (.getfield 12, 3) := by decide +kernel
theorem d_Request_clear_4 : decode prog_9_method_2_code 4 = .ok (.invokevirtual 30, 3) := by decide +kernel
theorem d_Request_clear_7 : decode prog_9_method_2_code 7 = .ok (.aload_n 0, 1) := by decide +kernel
theorem d_Request_clear_8 : decode prog_9_method_2_code 8 = .ok (.getfield 23, 3) := by decide +kernel
theorem d_Request_clear_11 : decode prog_9_method_2_code 11 = .ok (.invokevirtual 33, 3) := by decide +kernel
theorem d_Request_clear_14 : decode prog_9_method_2_code 14 = .ok (.aload_n 0, 1) := by decide +kernel
theorem d_Request_clear_15 : decode prog_9_method_2_code 15 = .ok (.getfield 27, 3) := by decide +kernel
theorem d_Request_clear_18 : decode prog_9_method_2_code 18 = .ok (.invokevirtual 33, 3) := by decide +kernel
theorem d_Request_clear_21 : decode prog_9_method_2_code 21 = .ok (.aload_n 0, 1) := by decide +kernel
theorem d_Request_clear_22 : decode prog_9_method_2_code 22 = .ok (.aconst_null, 1) := by decide +kernel
theorem d_Request_clear_23 : decode prog_9_method_2_code 23 = .ok (.putfield 34, 3) := by decide +kernel
theorem d_Request_clear_26 : decode prog_9_method_2_code 26 = .ok (.aload_n 0, 1) := by decide +kernel
theorem d_Request_clear_27 : decode prog_9_method_2_code 27 = .ok (.iconst 0, 1) := by decide +kernel
theorem d_Request_clear_28 : decode prog_9_method_2_code 28 = .ok (.putfield 38, 3) := by decide +kernel
theorem d_Request_clear_31 : decode prog_9_method_2_code 31 = .ok (.aload_n 0, 1) := by decide +kernel
theorem d_Request_clear_32 : decode prog_9_method_2_code 32 = .ok (.iconst 0, 1) := by decide +kernel
theorem d_Request_clear_33 : decode prog_9_method_2_code 33 = .ok (.putfield 42, 3) := by decide +kernel
theorem d_Request_clear_36 : decode prog_9_method_2_code 36 = .ok (.aload_n 0, 1) := by decide +kernel
theorem d_Request_clear_37 : decode prog_9_method_2_code 37 = .ok (.iconst 0, 1) := by decide +kernel
theorem d_Request_clear_38 : decode prog_9_method_2_code 38 = .ok (.putfield 46, 3) := by decide +kernel
theorem d_Request_clear_41 : decode prog_9_method_2_code 41 = .ok (.aload_n 0, 1) := by decide +kernel
theorem d_Request_clear_42 : decode prog_9_method_2_code 42 = .ok (.iconst 0, 1) := by decide +kernel
theorem d_Request_clear_43 : decode prog_9_method_2_code 43 = .ok (.putfield 49, 3) := by decide +kernel
theorem d_Request_clear_46 : decode prog_9_method_2_code 46 = .ok (.aload_n 0, 1) := by decide +kernel
theorem d_Request_clear_47 : decode prog_9_method_2_code 47 = .ok (.iconst 0, 1) := by decide +kernel
theorem d_Request_clear_48 : decode prog_9_method_2_code 48 = .ok (.putfield 52, 3) := by decide +kernel
theorem d_Request_clear_51 : decode prog_9_method_2_code 51 = .ok (.return_, 1) := by decide +kernel
def x_Request_clear (σ : St) : Option St := (Option.bind (x_Fields_clear σ) (fun s4 => (Option.bind (x_Bytes_clear 40 s4) (fun s11 => (Option.bind (x_Bytes_clear 42 s11) (fun s18 => (x_let (x_updQ s18 none) (fun (s23 : St) => (x_let (x_updR s23 30 4 (0 : Int32)) (fun (s28 : St) => (x_let (x_updR s28 30 5 (0 : Int32)) (fun (s33 : St) => (x_let (x_updR s33 30 6 (0 : Int32)) (fun (s38 : St) => (x_let (x_updR s38 30 7 (0 : Int32)) (fun (s43 : St) => (x_let (x_updR s43 30 8 (0 : Int32)) (fun (s48 : St) => some s48))))))))))))))))))
abbrev rm_Request_clear : Room := { frames := 2, cells := 0, slots := 0, locals := 40 }
set_option maxHeartbeats 4000000 in
set_option maxRecDepth 100000 in
theorem t_Request_clear (l : Launch) (G : xG) (σ : St) (σ' : St) (hE : x_Request_clear σ = some σ') : Met l y_Request_clear (ws_Request_clear) rm_Request_clear (xP G σ [.ref (G.2.1 30)]) (xQ G none σ') 0 0 (xA G) := by
  refine Met.ofW (cc := prog_9_method_2_code) (maxL := 1) (ret := none) (by decide) rfl ?_
  intro p e s m args below meth c s₁ B hml hv
  obtain ⟨rfl, hw, hC⟩ := hv
  have hx := B.exec
  have hb := B.bytes
  have hr := B.returns
  have hu : ∀ w ∈ UW, w.before _ s = true := fun w h => atoms_spec B.pre w (List.mem_cons_of_mem _ h)
  have hown : s.vm.findClass R_Request = some m.cls := findClass_of_methodNamed B.named
  have hlocks := B.notSynchronized
  have hK := hC.1
  have hI := hC.2.1
  have hG := hC.2.2.1
  have hN := hC.2.2.2
  have hS : va_S (xA G) s.heap s.heap [] := va_S.rf
  have hl := lv_entry ([.ref (G.2.1 30)]) (n := 1) (Nat.le_of_ble_eq_true rfl)
  rw [lg_entry_eq]
  generalize (lg_sl ([.ref (G.2.1 30)]) ++ List.replicate (1 - (lg_sl ([.ref (G.2.1 30)])).length) Slot.unset).toArray = ls at hl ⊢
  have hl : lv_has ls 1 [(0, .ref (G.2.1 30))] := hl
  unfold x_Request_clear at hE
  refine lv_aload_n hx hb d_Request_clear_0 rfl (lv_at hl 0 rfl) ?_
  refine va_get (D := G.1) (cl := xCl) (ci := 2) (v := .ref (G.2.1 31)) (C := R_Request) (T := T_Request) (N := 9) hx hb hu fi_Request hown hK hw 30 (x_at (by decide) (xcl_30 G σ)) rfl 0 (by decide) (hu _ mw_209) (fun _ h9 => h9) rfl d_Request_clear_1 ?_
  obtain ⟨s4, hC4, hE⟩ := x_bind hE
  refine x_callV hS (W.runV (As := []) (rest := []) ⟨hx, hb, hml, hown, hu⟩ (t_Fields_clear l G σ s4 hC4) (cwV 0 hu (uw_V mw_393 mw_394 mw_395 mw_66 mw_396) rfl rfl rfl hd_Fields_clear ⟨Nat.le_of_ble_eq_true rfl, Nat.le_of_ble_eq_true rfl⟩) (x_preV hC hS hw (va_recv hK hw (q := (R_Fields, T_Fields, 9)) (ci := 1) rfl (x_at (by decide) (xcl_31 G σ)))) rfl rfl hl.1 rfl (lv_room (Nat.le_of_ble_eq_true rfl)) d_Request_clear_4 ⟨Nat.le_of_ble_eq_true rfl, Nat.le_of_ble_eq_true rfl⟩) (fun H locs hw hS => ?_)
  refine lv_aload_n hx hb d_Request_clear_7 rfl (lv_at hl 0 rfl) ?_
  refine va_get (D := G.1) (cl := xCl) (ci := 2) (v := .ref (G.2.1 40)) (C := R_Request) (T := T_Request) (N := 9) hx hb hu fi_Request hown hK hw 30 (x_at (by decide) (xcl_30 G s4)) rfl 1 (by decide) (hu _ mw_213) (fun _ h9 => h9) rfl d_Request_clear_8 ?_
  obtain ⟨s11, hC11, hE⟩ := x_bind hE
  refine x_callV hS (W.runV (As := []) (rest := []) ⟨hx, hb, hml, hown, hu⟩ (t_Bytes_clear l G s4 40 (by decide) s11 hC11) (cwV 0 hu (uw_V mw_398 mw_386 mw_387 mw_63 mw_388) rfl rfl rfl hd_Bytes_clear ⟨Nat.le_of_ble_eq_true rfl, Nat.le_of_ble_eq_true rfl⟩) (x_preV hC hS hw (va_recv hK hw (q := (R_Bytes, T_Bytes, 2)) (ci := 0) rfl (x_at (by decide) (xcl_40 G s4)))) rfl rfl hl.1 rfl (lv_room (Nat.le_of_ble_eq_true rfl)) d_Request_clear_11 ⟨Nat.le_of_ble_eq_true rfl, Nat.le_of_ble_eq_true rfl⟩) (fun H locs hw hS => ?_)
  refine lv_aload_n hx hb d_Request_clear_14 rfl (lv_at hl 0 rfl) ?_
  refine va_get (D := G.1) (cl := xCl) (ci := 2) (v := .ref (G.2.1 42)) (C := R_Request) (T := T_Request) (N := 9) hx hb hu fi_Request hown hK hw 30 (x_at (by decide) (xcl_30 G s11)) rfl 2 (by decide) (hu _ mw_215) (fun _ h9 => h9) rfl d_Request_clear_15 ?_
  obtain ⟨s18, hC18, hE⟩ := x_bind hE
  refine x_callV hS (W.runV (As := []) (rest := []) ⟨hx, hb, hml, hown, hu⟩ (t_Bytes_clear l G s11 42 (by decide) s18 hC18) (cwV 0 hu (uw_V mw_398 mw_386 mw_387 mw_63 mw_388) rfl rfl rfl hd_Bytes_clear ⟨Nat.le_of_ble_eq_true rfl, Nat.le_of_ble_eq_true rfl⟩) (x_preV hC hS hw (va_recv hK hw (q := (R_Bytes, T_Bytes, 2)) (ci := 0) rfl (x_at (by decide) (xcl_42 G s11)))) rfl rfl hl.1 rfl (lv_room (Nat.le_of_ble_eq_true rfl)) d_Request_clear_18 ⟨Nat.le_of_ble_eq_true rfl, Nat.le_of_ble_eq_true rfl⟩) (fun H locs hw hS => ?_)
  refine lv_aload_n hx hb d_Request_clear_21 rfl (lv_at hl 0 rfl) ?_
  refine lv_null hx hb d_Request_clear_22 ?_
  refine va_put (D := G.1) (cl := xCl) (ci := 2) (v := va_re G.2.2.2.2.1 none) (ty := ty_Request 3) (C := R_Request) (T := T_Request) (N := 9) hx hb hu fi_Request ty_Request tyok_Request nm_Request hown hK hw (x_D hI _) hS 30 (x_at (by decide) (xcl_30 G s18)) rfl 3 (by decide) (hu _ mw_218) (fun _ h9 => h9) rfl (tyok_Request 3 (by decide)) (x_nq _ _) (x_fq _ _) (Nat.le_of_ble_eq_true rfl) d_Request_clear_23 (fun H locs hw _ hS => ?_)
  replace hw := x_setQ hw rfl
  obtain ⟨s23, e23, hE⟩ := x_letE hE
  rw [← e23] at hw
  refine lv_aload_n hx hb d_Request_clear_26 rfl (lv_at hl 0 rfl) ?_
  refine lv_iconst (v := (0 : Int32)) hx hb d_Request_clear_27 (by decide) ?_
  refine va_put (D := G.1) (cl := xCl) (ci := 2) (v := .int (0 : Int32)) (ty := .int) (C := R_Request) (T := T_Request) (N := 9) hx hb hu fi_Request ty_Request tyok_Request nm_Request hown hK hw (x_D hI _) hS 30 (x_at (by decide) (xcl_30 G s23)) rfl 4 (by decide) (hu _ mw_220) (fun _ h9 => h9) rfl (tyok_Request 4 (by decide)) rfl rfl (Nat.le_of_ble_eq_true rfl) d_Request_clear_28 (fun H locs hw _ hS => ?_)
  replace hw := x_setR hw (by decide) rfl
  obtain ⟨s28, e28, hE⟩ := x_letE hE
  rw [← e28] at hw
  refine lv_aload_n hx hb d_Request_clear_31 rfl (lv_at hl 0 rfl) ?_
  refine lv_iconst (v := (0 : Int32)) hx hb d_Request_clear_32 (by decide) ?_
  refine va_put (D := G.1) (cl := xCl) (ci := 2) (v := .int (0 : Int32)) (ty := .boolean) (C := R_Request) (T := T_Request) (N := 9) hx hb hu fi_Request ty_Request tyok_Request nm_Request hown hK hw (x_D hI _) hS 30 (x_at (by decide) (xcl_30 G s28)) rfl 5 (by decide) (hu _ mw_221) (fun _ h9 => h9) rfl (tyok_Request 5 (by decide)) rfl rfl (Nat.le_of_ble_eq_true rfl) d_Request_clear_33 (fun H locs hw _ hS => ?_)
  replace hw := x_setR hw (by decide) rfl
  obtain ⟨s33, e33, hE⟩ := x_letE hE
  rw [← e33] at hw
  refine lv_aload_n hx hb d_Request_clear_36 rfl (lv_at hl 0 rfl) ?_
  refine lv_iconst (v := (0 : Int32)) hx hb d_Request_clear_37 (by decide) ?_
  refine va_put (D := G.1) (cl := xCl) (ci := 2) (v := .int (0 : Int32)) (ty := .int) (C := R_Request) (T := T_Request) (N := 9) hx hb hu fi_Request ty_Request tyok_Request nm_Request hown hK hw (x_D hI _) hS 30 (x_at (by decide) (xcl_30 G s33)) rfl 6 (by decide) (hu _ mw_223) (fun _ h9 => h9) rfl (tyok_Request 6 (by decide)) rfl rfl (Nat.le_of_ble_eq_true rfl) d_Request_clear_38 (fun H locs hw _ hS => ?_)
  replace hw := x_setR hw (by decide) rfl
  obtain ⟨s38, e38, hE⟩ := x_letE hE
  rw [← e38] at hw
  refine lv_aload_n hx hb d_Request_clear_41 rfl (lv_at hl 0 rfl) ?_
  refine lv_iconst (v := (0 : Int32)) hx hb d_Request_clear_42 (by decide) ?_
  refine va_put (D := G.1) (cl := xCl) (ci := 2) (v := .int (0 : Int32)) (ty := .boolean) (C := R_Request) (T := T_Request) (N := 9) hx hb hu fi_Request ty_Request tyok_Request nm_Request hown hK hw (x_D hI _) hS 30 (x_at (by decide) (xcl_30 G s38)) rfl 7 (by decide) (hu _ mw_225) (fun _ h9 => h9) rfl (tyok_Request 7 (by decide)) rfl rfl (Nat.le_of_ble_eq_true rfl) d_Request_clear_43 (fun H locs hw _ hS => ?_)
  replace hw := x_setR hw (by decide) rfl
  obtain ⟨s43, e43, hE⟩ := x_letE hE
  rw [← e43] at hw
  refine lv_aload_n hx hb d_Request_clear_46 rfl (lv_at hl 0 rfl) ?_
  refine lv_iconst (v := (0 : Int32)) hx hb d_Request_clear_47 (by decide) ?_
  refine va_put (D := G.1) (cl := xCl) (ci := 2) (v := .int (0 : Int32)) (ty := .boolean) (C := R_Request) (T := T_Request) (N := 9) hx hb hu fi_Request ty_Request tyok_Request nm_Request hown hK hw (x_D hI _) hS 30 (x_at (by decide) (xcl_30 G s43)) rfl 8 (by decide) (hu _ mw_227) (fun _ h9 => h9) rfl (tyok_Request 8 (by decide)) rfl rfl (Nat.le_of_ble_eq_true rfl) d_Request_clear_48 (fun H locs hw _ hS => ?_)
  replace hw := x_setR hw (by decide) rfl
  obtain ⟨s48, e48, hE⟩ := x_letE hE
  rw [← e48] at hw
  have e1 := Option.some.inj hE
  exact W.vret hx hb hr (fun t ht hW => ⟨rfl, by rw [ht, ← e1]; exact hw, hS.F ht⟩) hS.2.2 d_Request_clear_51

def y_Request_isOld : MethodName := ⟨"PlainOrigin$Request", "isOld", "()Z"⟩
def ws_Request_isOld : List Cond := Cond.code y_Request_isOld prog_9_method_3_code 1 (some .boolean) :: UW
theorem hd_Request_isOld : y_Request_isOld.cls = R_Request ∧ y_Request_isOld.cls ≠ "java/lang/invoke/MethodHandle" ∧ y_Request_isOld.cls ≠ "java/lang/invoke/VarHandle" ∧ (parseMethodDescriptor y_Request_isOld.desc).map (fun d => d.parameters.length) = some 0 := by decide +kernel
theorem d_Request_isOld_0 : decode prog_9_method_3_code 0 = .ok (.aload_n 0, 1) := by decide +kernel
theorem d_Request_isOld_1 : decode prog_9_method_3_code 1 = .ok (.getfield 38, 3) := by decide +kernel
theorem d_Request_isOld_4 : decode prog_9_method_3_code 4 = .ok (.bipush (48), 2) := by decide +kernel
theorem d_Request_isOld_6 : decode prog_9_method_3_code 6 = .ok (.if_icmp .ne (7), 3) := by decide +kernel
theorem d_Request_isOld_9 : decode prog_9_method_3_code 9 = .ok (.iconst 1, 1) := by decide +kernel
theorem d_Request_isOld_10 : decode prog_9_method_3_code 10 = .ok (.goto (4), 3) := by decide +kernel
theorem d_Request_isOld_13 : decode prog_9_method_3_code 13 = .ok (.iconst 0, 1) := by decide +kernel
theorem d_Request_isOld_14 : decode prog_9_method_3_code 14 = .ok (.ireturn, 1) := by decide +kernel
def x_Request_isOld (σ : St) : Option Int32 := (if (σ.1 30 4) = (48 : Int32) then some (1 : Int32) else some (0 : Int32))
abbrev rm_Request_isOld : Room := { frames := 0, cells := 0, slots := 0, locals := 0 }
set_option maxHeartbeats 4000000 in
set_option maxRecDepth 100000 in
theorem t_Request_isOld (l : Launch) (G : xG) (σ : St) (r : Int32) (hE : x_Request_isOld σ = some r) : Met l y_Request_isOld (ws_Request_isOld) rm_Request_isOld (xP G σ [.ref (G.2.1 30)]) (xRd (some (.int r))) 0 0 (fun _ => False) := by
  refine Met.ofW (cc := prog_9_method_3_code) (maxL := 1) (ret := (some .boolean)) (by decide) rfl ?_
  intro p e s m args below meth c s₁ B hml hv
  obtain ⟨rfl, hw, hC⟩ := hv
  have hx := B.exec
  have hb := B.bytes
  have hr := B.returns
  have hu : ∀ w ∈ UW, w.before _ s = true := fun w h => atoms_spec B.pre w (List.mem_cons_of_mem _ h)
  have hown : s.vm.findClass R_Request = some m.cls := findClass_of_methodNamed B.named
  have hlocks := B.notSynchronized
  have hK := hC.1
  have hI := hC.2.1
  have hG := hC.2.2.1
  have hN := hC.2.2.2
  have hS : va_S (xA G) s.heap s.heap [] := va_S.rf
  have hl := lv_entry ([.ref (G.2.1 30)]) (n := 1) (Nat.le_of_ble_eq_true rfl)
  rw [lg_entry_eq]
  generalize (lg_sl ([.ref (G.2.1 30)]) ++ List.replicate (1 - (lg_sl ([.ref (G.2.1 30)])).length) Slot.unset).toArray = ls at hl ⊢
  have hl : lv_has ls 1 [(0, .ref (G.2.1 30))] := hl
  unfold x_Request_isOld at hE
  refine lv_aload_n hx hb d_Request_isOld_0 rfl (lv_at hl 0 rfl) ?_
  refine va_get (D := G.1) (cl := xCl) (ci := 2) (v := .int (σ.1 30 4)) (C := R_Request) (T := T_Request) (N := 9) hx hb hu fi_Request hown hK hw 30 (x_at (by decide) (xcl_30 G σ)) rfl 4 (by decide) (hu _ mw_220) (fun _ h9 => h9) rfl d_Request_isOld_1 ?_
  refine lv_bipush (v := (48 : Int32)) hx hb d_Request_isOld_4 (by decide) ?_
  refine lv_icmp_ne (tgt := 13) hx hb d_Request_isOld_6 (by decide) (fun hc6 => ?_) (fun hc6 => ?_)
  · rw [if_neg hc6] at hE
    refine lv_iconst (v := (0 : Int32)) hx hb d_Request_isOld_13 (by decide) ?_
    exact W.zret (v := (0 : Int32)) hx hb hr rfl (fun t ht hW => ⟨by rw [Option.some.inj hE], ht⟩) (fun q h => by cases h) d_Request_isOld_14
  · rw [if_pos hc6] at hE
    refine lv_iconst (v := (1 : Int32)) hx hb d_Request_isOld_9 (by decide) ?_
    refine lv_goto (tgt := 14) hx hb d_Request_isOld_10 (by decide) ?_
    exact W.zret (v := (1 : Int32)) hx hb hr rfl (fun t ht hW => ⟨by rw [Option.some.inj hE], ht⟩) (fun q h => by cases h) d_Request_isOld_14

def y_Request_takePath : MethodName := ⟨"PlainOrigin$Request", "takePath", "(LPlainOrigin$Bytes;II)V"⟩
def ws_Request_takePath : List Cond := Cond.code y_Request_takePath prog_9_method_5_code 6 none :: UW
theorem hd_Request_takePath : y_Request_takePath.cls = R_Request ∧ y_Request_takePath.cls ≠ "java/lang/invoke/MethodHandle" ∧ y_Request_takePath.cls ≠ "java/lang/invoke/VarHandle" ∧ (parseMethodDescriptor y_Request_takePath.desc).map (fun d => d.parameters.length) = some 3 := by decide +kernel
theorem d_Request_takePath_0 : decode prog_9_method_5_code 0 = .ok (.iload_n 2, 1) := by decide +kernel
theorem d_Request_takePath_1 : decode prog_9_method_5_code 1 = .ok (.istore 4, 2) := by decide +kernel
theorem d_Request_takePath_3 : decode prog_9_method_5_code 3 = .ok (.iload 4, 2) := by decide +kernel
theorem d_Request_takePath_5 : decode prog_9_method_5_code 5 = .ok (.iload_n 3, 1) := by decide +kernel
theorem d_Request_takePath_6 : decode prog_9_method_5_code 6 = .ok (.if_icmp .ge (64), 3) := by decide +kernel
theorem d_Request_takePath_9 : decode prog_9_method_5_code 9 = .ok (.aload_n 1, 1) := by decide +kernel
theorem d_Request_takePath_10 : decode prog_9_method_5_code 10 = .ok (.iload 4, 2) := by decide +kernel
theorem d_Request_takePath_12 : decode prog_9_method_5_code 12 = .ok (.invokevirtual 74, 3) := by decide +kernel
theorem d_Request_takePath_15 : decode prog_9_method_5_code 15 = .ok (.istore 5, 2) := by decide +kernel
theorem d_Request_takePath_17 : decode prog_9_method_5_code 17 = .ok (.iload 5, 2) := by decide +kernel
theorem d_Request_takePath_19 : decode prog_9_method_5_code 19 = .ok (.bipush (37), 2) := by decide +kernel
theorem d_Request_takePath_21 : decode prog_9_method_5_code 21 = .ok (.if_icmp .ne (34), 3) := by decide +kernel
theorem d_Request_takePath_24 : decode prog_9_method_5_code 24 = .ok (.bipush (16), 2) := by decide +kernel
theorem d_Request_takePath_26 : decode prog_9_method_5_code 26 = .ok (.aload_n 1, 1) := by decide +kernel
theorem d_Request_takePath_27 : decode prog_9_method_5_code 27 = .ok (.iload 4, 2) := by decide +kernel
theorem d_Request_takePath_29 : decode prog_9_method_5_code 29 = .ok (.iconst 1, 1) := by decide +kernel
theorem d_Request_takePath_30 : decode prog_9_method_5_code 30 = .ok (.iadd, 1) := by decide +kernel
theorem d_Request_takePath_31 : decode prog_9_method_5_code 31 = .ok (.invokevirtual 74, 3) := by decide +kernel
theorem d_Request_takePath_34 : decode prog_9_method_5_code 34 = .ok (.invokestatic 96, 3) := by decide +kernel
theorem d_Request_takePath_37 : decode prog_9_method_5_code 37 = .ok (.imul, 1) := by decide +kernel
theorem d_Request_takePath_38 : decode prog_9_method_5_code 38 = .ok (.aload_n 1, 1) := by decide +kernel
theorem d_Request_takePath_39 : decode prog_9_method_5_code 39 = .ok (.iload 4, 2) := by decide +kernel
theorem d_Request_takePath_41 : decode prog_9_method_5_code 41 = .ok (.iconst 2, 1) := by decide +kernel
theorem d_Request_takePath_42 : decode prog_9_method_5_code 42 = .ok (.iadd, 1) := by decide +kernel
theorem d_Request_takePath_43 : decode prog_9_method_5_code 43 = .ok (.invokevirtual 74, 3) := by decide +kernel
theorem d_Request_takePath_46 : decode prog_9_method_5_code 46 = .ok (.invokestatic 96, 3) := by decide +kernel
theorem d_Request_takePath_49 : decode prog_9_method_5_code 49 = .ok (.iadd, 1) := by decide +kernel
theorem d_Request_takePath_50 : decode prog_9_method_5_code 50 = .ok (.istore 5, 2) := by decide +kernel
theorem d_Request_takePath_52 : decode prog_9_method_5_code 52 = .ok (.iinc 4 (2), 3) := by decide +kernel
theorem d_Request_takePath_55 : decode prog_9_method_5_code 55 = .ok (.aload_n 0, 1) := by decide +kernel
theorem d_Request_takePath_56 : decode prog_9_method_5_code 56 = .ok (.getfield 23, 3) := by decide +kernel
theorem d_Request_takePath_59 : decode prog_9_method_5_code 59 = .ok (.iload 5, 2) := by decide +kernel
theorem d_Request_takePath_61 : decode prog_9_method_5_code 61 = .ok (.invokevirtual 99, 3) := by decide +kernel
theorem d_Request_takePath_64 : decode prog_9_method_5_code 64 = .ok (.iinc 4 (1), 3) := by decide +kernel
theorem d_Request_takePath_67 : decode prog_9_method_5_code 67 = .ok (.goto (-64), 3) := by decide +kernel
theorem d_Request_takePath_70 : decode prog_9_method_5_code 70 = .ok (.return_, 1) := by decide +kernel
def x_Request_takePath_55 (o1 : Nat) (a2 : Int32) (a3 : Int32) (bk3 : Int32 → St → Option St) (l4 : Int32) (l5 : Int32) (σ : St) : Option St := (Option.bind (x_Bytes_add 40 l5 σ) (fun s61 => (x_let (l4 + (1 : Int32)) (fun (v64 : Int32) => bk3 v64 s61))))
def x_Request_takePath_3 (o1 : Nat) (a2 : Int32) (a3 : Int32) : Nat → Int32 → St → Option St
  | 0, _, _ => none
  | n + 1, l4, σ => (if a3 ≤ l4 then some σ else (Option.bind (x_Bytes_get o1 l4 σ) (fun r12 => (if r12 = (37 : Int32) then (Option.bind (x_Bytes_get o1 (l4 + (1 : Int32)) σ) (fun r31 => (Option.bind (x_Text_hexDigit r31) (fun r34 => (Option.bind (x_Bytes_get o1 (l4 + (2 : Int32)) σ) (fun r43 => (Option.bind (x_Text_hexDigit r43) (fun r46 => (x_let (((16 : Int32) * r34) + r46) (fun (v50 : Int32) => (x_let (l4 + (2 : Int32)) (fun (v52 : Int32) => x_Request_takePath_55 o1 a2 a3 (x_Request_takePath_3 o1 a2 a3 n) v52 v50 σ)))))))))))) else x_Request_takePath_55 o1 a2 a3 (x_Request_takePath_3 o1 a2 a3 n) l4 r12 σ))))
def x_Request_takePath (o1 : Nat) (a2 : Int32) (a3 : Int32) (σ : St) : Option St := x_Request_takePath_3 o1 a2 a3 x_fuel a2 σ
abbrev rm_Request_takePath : Room := { frames := 1, cells := 0, slots := 0, locals := 21 }
set_option maxHeartbeats 4000000 in
set_option maxRecDepth 100000 in
theorem t_Request_takePath (l : Launch) (G : xG) (σ : St) (o1 : Nat) (a2 : Int32) (a3 : Int32) (ho1 : xB o1) (σ' : St) (hE : x_Request_takePath o1 a2 a3 σ = some σ') : Met l y_Request_takePath (ws_Request_takePath) rm_Request_takePath (xP G σ [.ref (G.2.1 30), .ref (G.2.1 o1), .int a2, .int a3]) (xQ G none σ') 0 0 (xA G) := by
  refine Met.ofW (cc := prog_9_method_5_code) (maxL := 6) (ret := none) (by decide) rfl ?_
  intro p e s m args below meth c s₁ B hml hv
  obtain ⟨rfl, hw, hC⟩ := hv
  have hx := B.exec
  have hb := B.bytes
  have hr := B.returns
  have hu : ∀ w ∈ UW, w.before _ s = true := fun w h => atoms_spec B.pre w (List.mem_cons_of_mem _ h)
  have hown : s.vm.findClass R_Request = some m.cls := findClass_of_methodNamed B.named
  have hlocks := B.notSynchronized
  have hK := hC.1
  have hI := hC.2.1
  have hG := hC.2.2.1
  have hN := hC.2.2.2
  have hS : va_S (xA G) s.heap s.heap [] := va_S.rf
  have jn55 : ∀ (bk3 : Int32 → St → Option St) (hbk3 : ∀ (ls : Array Slot) (H : Heap) (locs : List Loc) (σ : St) (l4 : Int32), bk3 l4 σ = some σ' → lv_has ls 6 [(0, .ref (G.2.1 30)), (1, .ref (G.2.1 o1)), (2, .int a2), (3, .int a3), (4, .int l4)] → xw G σ H → va_S (xA G) s.heap H locs → W p l e (headSpec (ws_Request_takePath) rm_Request_takePath).room s m ([.ref (G.2.1 30), .ref (G.2.1 o1), .int a2, .int a3] : List Value).toArray below meth c H locs 0 0 (MQ below (xQ G none σ') ([.ref (G.2.1 30), .ref (G.2.1 o1), .int a2, .int a3] : List Value).toArray s 0 0 (xA G)) (F0 m 3 ls [])) (ls : Array Slot) (H : Heap) (locs : List Loc) (σ : St) (l4 : Int32) (l5 : Int32), x_Request_takePath_55 o1 a2 a3 bk3 l4 l5 σ = some σ' → lv_has ls 6 [(0, .ref (G.2.1 30)), (1, .ref (G.2.1 o1)), (2, .int a2), (3, .int a3), (4, .int l4), (5, .int l5)] → xw G σ H → va_S (xA G) s.heap H locs → W p l e (headSpec (ws_Request_takePath) rm_Request_takePath).room s m ([.ref (G.2.1 30), .ref (G.2.1 o1), .int a2, .int a3] : List Value).toArray below meth c H locs 0 0 (MQ below (xQ G none σ') ([.ref (G.2.1 30), .ref (G.2.1 o1), .int a2, .int a3] : List Value).toArray s 0 0 (xA G)) (F0 m 55 ls []) := by
    intro bk3 hbk3 ls H locs σ l4 l5 hE hl hw hS
    unfold x_Request_takePath_55 at hE
    refine lv_aload_n hx hb d_Request_takePath_55 rfl (lv_at hl 0 rfl) ?_
    refine va_get (D := G.1) (cl := xCl) (ci := 2) (v := .ref (G.2.1 40)) (C := R_Request) (T := T_Request) (N := 9) hx hb hu fi_Request hown hK hw 30 (x_at (by decide) (xcl_30 G σ)) rfl 1 (by decide) (hu _ mw_213) (fun _ h9 => h9) rfl d_Request_takePath_56 ?_
    refine lv_iload hx hb d_Request_takePath_59 (lv_at hl 5 rfl) ?_
    obtain ⟨s61, hC61, hE⟩ := x_bind hE
    refine x_callV hS (W.runV (As := [.int l5]) (rest := []) ⟨hx, hb, hml, hown, hu⟩ (t_Bytes_add l G σ 40 l5 (by decide) s61 hC61) (cwV 1 hu (uw_V mw_693 mw_509 mw_510 mw_63 mw_511) rfl rfl rfl hd_Bytes_add ⟨Nat.le_of_ble_eq_true rfl, Nat.le_of_ble_eq_true rfl⟩) (x_preV hC hS hw (va_recv hK hw (q := (R_Bytes, T_Bytes, 2)) (ci := 0) rfl (x_at (by decide) (xcl_40 G σ)))) rfl rfl hl.1 rfl (lv_room (Nat.le_of_ble_eq_true rfl)) d_Request_takePath_61 ⟨Nat.le_of_ble_eq_true rfl, Nat.le_of_ble_eq_true rfl⟩) (fun H locs hw hS => ?_)
    obtain ⟨v64, e64, hE⟩ := x_letE hE
    refine lv_iinc hx hb d_Request_takePath_64 hl (k := 4) rfl (x_inc v64 e64 (by decide)) (by decide) rfl (fun ls hl => ?_)
    have hl : lv_has ls 6 [(4, .int v64), (0, .ref (G.2.1 30)), (1, .ref (G.2.1 o1)), (2, .int a2), (3, .int a3), (5, .int l5)] := hl
    refine lv_goto (tgt := 3) hx hb d_Request_takePath_67 (by decide) ?_
    exact hbk3 _ _ _ _ _ hE (lv_sub hl [1, 2, 3, 4, 0] rfl) hw hS
  have jn3 : ∀ (n : Nat) (ls : Array Slot) (H : Heap) (locs : List Loc) (σ : St) (l4 : Int32), x_Request_takePath_3 o1 a2 a3 n l4 σ = some σ' → lv_has ls 6 [(0, .ref (G.2.1 30)), (1, .ref (G.2.1 o1)), (2, .int a2), (3, .int a3), (4, .int l4)] → xw G σ H → va_S (xA G) s.heap H locs → W p l e (headSpec (ws_Request_takePath) rm_Request_takePath).room s m ([.ref (G.2.1 30), .ref (G.2.1 o1), .int a2, .int a3] : List Value).toArray below meth c H locs 0 0 (MQ below (xQ G none σ') ([.ref (G.2.1 30), .ref (G.2.1 o1), .int a2, .int a3] : List Value).toArray s 0 0 (xA G)) (F0 m 3 ls []) := by
    intro n
    induction n with
    | zero => intro ls H locs σ l4 hE; rw [x_Request_takePath_3] at hE; cases hE
    | succ n ih =>
      intro ls H locs σ l4 hE hl hw hS
      rw [x_Request_takePath_3] at hE
      refine lv_iload hx hb d_Request_takePath_3 (lv_at hl 4 rfl) ?_
      refine lv_iload_n hx hb d_Request_takePath_5 rfl (lv_at hl 3 rfl) ?_
      refine lv_icmp_ge (tgt := 70) hx hb d_Request_takePath_6 (by decide) (fun hc6 => ?_) (fun hc6 => ?_)
      · rw [if_pos hc6] at hE
        have e1 := Option.some.inj hE
        exact W.vret hx hb hr (fun t ht hW => ⟨rfl, by rw [ht, ← e1]; exact hw, hS.F ht⟩) hS.2.2 d_Request_takePath_70
      · rw [if_neg hc6] at hE
        refine lv_aload_n hx hb d_Request_takePath_9 rfl (lv_at hl 1 rfl) ?_
        refine lv_iload hx hb d_Request_takePath_10 (lv_at hl 4 rfl) ?_
        obtain ⟨r12, hC12, hE⟩ := x_bind hE
        refine x_callR (W.runV (As := [.int l4]) (rest := []) ⟨hx, hb, hml, hown, hu⟩ (t_Bytes_get l G σ o1 l4 ho1 r12 hC12) (cwV 1 hu (uw_V mw_677 mw_540 mw_541 mw_63 mw_542) rfl rfl rfl hd_Bytes_get ⟨Nat.le_of_ble_eq_true rfl, Nat.le_of_ble_eq_true rfl⟩) (x_preV hC hS hw (va_recv hK hw (q := (R_Bytes, T_Bytes, 2)) (ci := 0) rfl (x_at (xB_lt ho1) (xcl_B G σ (xB_s ho1))))) rfl rfl hl.1 rfl (lv_room (Nat.le_of_ble_eq_true rfl)) d_Request_takePath_12 ⟨Nat.le_of_ble_eq_true rfl, Nat.le_of_ble_eq_true rfl⟩) ?_
        refine lv_istore hx hb d_Request_takePath_15 hl (by decide) rfl (fun ls hl => ?_)
        have hl : lv_has ls 6 [(5, .int r12), (0, .ref (G.2.1 30)), (1, .ref (G.2.1 o1)), (2, .int a2), (3, .int a3), (4, .int l4)] := hl
        refine lv_iload hx hb d_Request_takePath_17 (lv_at hl 0 rfl) ?_
        refine lv_bipush (v := (37 : Int32)) hx hb d_Request_takePath_19 (by decide) ?_
        refine lv_icmp_ne (tgt := 55) hx hb d_Request_takePath_21 (by decide) (fun hc21 => ?_) (fun hc21 => ?_)
        · rw [if_neg hc21] at hE
          exact jn55 _ ih _ _ _ _ _ _ hE (lv_sub hl [1, 2, 3, 4, 5, 0] rfl) hw hS
        · rw [if_pos hc21] at hE
          refine lv_bipush (v := (16 : Int32)) hx hb d_Request_takePath_24 (by decide) ?_
          refine lv_aload_n hx hb d_Request_takePath_26 rfl (lv_at hl 2 rfl) ?_
          refine lv_iload hx hb d_Request_takePath_27 (lv_at hl 5 rfl) ?_
          refine lv_iconst (v := (1 : Int32)) hx hb d_Request_takePath_29 (by decide) ?_
          refine lv_iadd hx hb d_Request_takePath_30 ?_
          obtain ⟨r31, hC31, hE⟩ := x_bind hE
          refine x_callR (W.runV (As := [.int (l4 + (1 : Int32))]) (rest := [.int (16 : Int32)]) ⟨hx, hb, hml, hown, hu⟩ (t_Bytes_get l G σ o1 (l4 + (1 : Int32)) ho1 r31 hC31) (cwV 1 hu (uw_V mw_677 mw_540 mw_541 mw_63 mw_542) rfl rfl rfl hd_Bytes_get ⟨Nat.le_of_ble_eq_true rfl, Nat.le_of_ble_eq_true rfl⟩) (x_preV hC hS hw (va_recv hK hw (q := (R_Bytes, T_Bytes, 2)) (ci := 0) rfl (x_at (xB_lt ho1) (xcl_B G σ (xB_s ho1))))) rfl rfl hl.1 rfl (lv_room (Nat.le_of_ble_eq_true rfl)) d_Request_takePath_31 ⟨Nat.le_of_ble_eq_true rfl, Nat.le_of_ble_eq_true rfl⟩) ?_
          obtain ⟨r34, hC34, hE⟩ := x_bind hE
          refine x_callR (W.runS (As := [.int r31]) (rest := [.int (16 : Int32)]) ⟨hx, hb, hml, hown, hu⟩ (t_Text_hexDigit l G σ r31 r34 hC34) (va_cwS 1 hu (uw_S mw_692 mw_674 mw_75 mw_675) rfl rfl rfl hd_Text_hexDigit ⟨Nat.le_of_ble_eq_true rfl, Nat.le_of_ble_eq_true rfl⟩) (x_preS hC hS hw) rfl rfl hl.1 rfl (lv_room (Nat.le_of_ble_eq_true rfl)) d_Request_takePath_34 ⟨Nat.le_of_ble_eq_true rfl, Nat.le_of_ble_eq_true rfl⟩) ?_
          refine lv_imul hx hb d_Request_takePath_37 ?_
          refine lv_aload_n hx hb d_Request_takePath_38 rfl (lv_at hl 2 rfl) ?_
          refine lv_iload hx hb d_Request_takePath_39 (lv_at hl 5 rfl) ?_
          refine lv_iconst (v := (2 : Int32)) hx hb d_Request_takePath_41 (by decide) ?_
          refine lv_iadd hx hb d_Request_takePath_42 ?_
          obtain ⟨r43, hC43, hE⟩ := x_bind hE
          refine x_callR (W.runV (As := [.int (l4 + (2 : Int32))]) (rest := [.int ((16 : Int32) * r34)]) ⟨hx, hb, hml, hown, hu⟩ (t_Bytes_get l G σ o1 (l4 + (2 : Int32)) ho1 r43 hC43) (cwV 1 hu (uw_V mw_677 mw_540 mw_541 mw_63 mw_542) rfl rfl rfl hd_Bytes_get ⟨Nat.le_of_ble_eq_true rfl, Nat.le_of_ble_eq_true rfl⟩) (x_preV hC hS hw (va_recv hK hw (q := (R_Bytes, T_Bytes, 2)) (ci := 0) rfl (x_at (xB_lt ho1) (xcl_B G σ (xB_s ho1))))) rfl rfl hl.1 rfl (lv_room (Nat.le_of_ble_eq_true rfl)) d_Request_takePath_43 ⟨Nat.le_of_ble_eq_true rfl, Nat.le_of_ble_eq_true rfl⟩) ?_
          obtain ⟨r46, hC46, hE⟩ := x_bind hE
          refine x_callR (W.runS (As := [.int r43]) (rest := [.int ((16 : Int32) * r34)]) ⟨hx, hb, hml, hown, hu⟩ (t_Text_hexDigit l G σ r43 r46 hC46) (va_cwS 1 hu (uw_S mw_692 mw_674 mw_75 mw_675) rfl rfl rfl hd_Text_hexDigit ⟨Nat.le_of_ble_eq_true rfl, Nat.le_of_ble_eq_true rfl⟩) (x_preS hC hS hw) rfl rfl hl.1 rfl (lv_room (Nat.le_of_ble_eq_true rfl)) d_Request_takePath_46 ⟨Nat.le_of_ble_eq_true rfl, Nat.le_of_ble_eq_true rfl⟩) ?_
          refine lv_iadd hx hb d_Request_takePath_49 ?_
          refine lv_topi (fun v50 e50 => ?_)
          replace hE := x_letT e50 hE
          refine lv_istore hx hb d_Request_takePath_50 hl (by decide) rfl (fun ls hl => ?_)
          have hl : lv_has ls 6 [(5, .int v50), (0, .ref (G.2.1 30)), (1, .ref (G.2.1 o1)), (2, .int a2), (3, .int a3), (4, .int l4)] := hl
          obtain ⟨v52, e52, hE⟩ := x_letE hE
          refine lv_iinc hx hb d_Request_takePath_52 hl (k := 5) rfl (x_inc v52 e52 (by decide)) (by decide) rfl (fun ls hl => ?_)
          have hl : lv_has ls 6 [(4, .int v52), (5, .int v50), (0, .ref (G.2.1 30)), (1, .ref (G.2.1 o1)), (2, .int a2), (3, .int a3)] := hl
          exact jn55 _ ih _ _ _ _ _ _ hE (lv_sub hl [2, 3, 4, 5, 0, 1] rfl) hw hS
  have hl := lv_entry ([.ref (G.2.1 30), .ref (G.2.1 o1), .int a2, .int a3]) (n := 6) (Nat.le_of_ble_eq_true rfl)
  rw [lg_entry_eq]
  generalize (lg_sl ([.ref (G.2.1 30), .ref (G.2.1 o1), .int a2, .int a3]) ++ List.replicate (6 - (lg_sl ([.ref (G.2.1 30), .ref (G.2.1 o1), .int a2, .int a3])).length) Slot.unset).toArray = ls at hl ⊢
  have hl : lv_has ls 6 [(0, .ref (G.2.1 30)), (1, .ref (G.2.1 o1)), (2, .int a2), (3, .int a3)] := hl
  unfold x_Request_takePath at hE
  refine lv_iload_n hx hb d_Request_takePath_0 rfl (lv_at hl 2 rfl) ?_
  refine lv_istore hx hb d_Request_takePath_1 hl (by decide) rfl (fun ls hl => ?_)
  have hl : lv_has ls 6 [(4, .int a2), (0, .ref (G.2.1 30)), (1, .ref (G.2.1 o1)), (2, .int a2), (3, .int a3)] := hl
  exact jn3 x_fuel _ _ _ _ _ hE (lv_sub hl [1, 2, 3, 4, 0] rfl) hw hS

def y_Request_checkHost : MethodName := ⟨"PlainOrigin$Request", "checkHost", "()I"⟩
def ws_Request_checkHost : List Cond := Cond.code y_Request_checkHost prog_9_method_6_code 4 (some .int) :: UW
theorem hd_Request_checkHost : y_Request_checkHost.cls = R_Request ∧ y_Request_checkHost.cls ≠ "java/lang/invoke/MethodHandle" ∧ y_Request_checkHost.cls ≠ "java/lang/invoke/VarHandle" ∧ (parseMethodDescriptor y_Request_checkHost.desc).map (fun d => d.parameters.length) = some 0 := by decide +kernel
theorem d_Request_checkHost_0 : decode prog_9_method_6_code 0 = .ok (.aload_n 0, 1) := by decide +kernel
theorem d_Request_checkHost_1 : decode prog_9_method_6_code 1 = .ok (.getfield 12, 3) := by decide +kernel
theorem d_Request_checkHost_4 : decode prog_9_method_6_code 4 = .ok (.ldc 102, 2) := by decide +kernel
theorem d_Request_checkHost_6 : decode prog_9_method_6_code 6 = .ok (.invokevirtual 104, 3) := by decide +kernel
theorem d_Request_checkHost_9 : decode prog_9_method_6_code 9 = .ok (.istore_n 1, 1) := by decide +kernel
theorem d_Request_checkHost_10 : decode prog_9_method_6_code 10 = .ok (.iload_n 1, 1) := by decide +kernel
theorem d_Request_checkHost_11 : decode prog_9_method_6_code 11 = .ok (.iconst 1, 1) := by decide +kernel
theorem d_Request_checkHost_12 : decode prog_9_method_6_code 12 = .ok (.if_icmp .gt (14), 3) := by decide +kernel
theorem d_Request_checkHost_15 : decode prog_9_method_6_code 15 = .ok (.iload_n 1, 1) := by decide +kernel
theorem d_Request_checkHost_16 : decode prog_9_method_6_code 16 = .ok (.ifCond .ne (14), 3) := by decide +kernel
theorem d_Request_checkHost_19 : decode prog_9_method_6_code 19 = .ok (.aload_n 0, 1) := by decide +kernel
theorem d_Request_checkHost_20 : decode prog_9_method_6_code 20 = .ok (.invokevirtual 108, 3) := by decide +kernel
theorem d_Request_checkHost_23 : decode prog_9_method_6_code 23 = .ok (.ifCond .ne (7), 3) := by decide +kernel
theorem d_Request_checkHost_26 : decode prog_9_method_6_code 26 = .ok (.sipush (400), 3) := by decide +kernel
theorem d_Request_checkHost_29 : decode prog_9_method_6_code 29 = .ok (.ireturn, 1) := by decide +kernel
theorem d_Request_checkHost_30 : decode prog_9_method_6_code 30 = .ok (.aload_n 0, 1) := by decide +kernel
theorem d_Request_checkHost_31 : decode prog_9_method_6_code 31 = .ok (.getfield 12, 3) := by decide +kernel
theorem d_Request_checkHost_34 : decode prog_9_method_6_code 34 = .ok (.ldc 102, 2) := by decide +kernel
theorem d_Request_checkHost_36 : decode prog_9_method_6_code 36 = .ok (.invokevirtual 112, 3) := by decide +kernel
theorem d_Request_checkHost_39 : decode prog_9_method_6_code 39 = .ok (.istore_n 2, 1) := by decide +kernel
theorem d_Request_checkHost_40 : decode prog_9_method_6_code 40 = .ok (.iload_n 2, 1) := by decide +kernel
theorem d_Request_checkHost_41 : decode prog_9_method_6_code 41 = .ok (.iconst (-1), 1) := by decide +kernel
theorem d_Request_checkHost_42 : decode prog_9_method_6_code 42 = .ok (.if_icmp .eq (34), 3) := by decide +kernel
theorem d_Request_checkHost_45 : decode prog_9_method_6_code 45 = .ok (.aload_n 0, 1) := by decide +kernel
theorem d_Request_checkHost_46 : decode prog_9_method_6_code 46 = .ok (.getfield 12, 3) := by decide +kernel
theorem d_Request_checkHost_49 : decode prog_9_method_6_code 49 = .ok (.getfield 115, 3) := by decide +kernel
theorem d_Request_checkHost_52 : decode prog_9_method_6_code 52 = .ok (.aload_n 0, 1) := by decide +kernel
theorem d_Request_checkHost_53 : decode prog_9_method_6_code 53 = .ok (.getfield 12, 3) := by decide +kernel
theorem d_Request_checkHost_56 : decode prog_9_method_6_code 56 = .ok (.getfield 118, 3) := by decide +kernel
theorem d_Request_checkHost_59 : decode prog_9_method_6_code 59 = .ok (.iload_n 2, 1) := by decide +kernel
theorem d_Request_checkHost_60 : decode prog_9_method_6_code 60 = .ok (.iaload, 1) := by decide +kernel
theorem d_Request_checkHost_61 : decode prog_9_method_6_code 61 = .ok (.aload_n 0, 1) := by decide +kernel
theorem d_Request_checkHost_62 : decode prog_9_method_6_code 62 = .ok (.getfield 12, 3) := by decide +kernel
theorem d_Request_checkHost_65 : decode prog_9_method_6_code 65 = .ok (.getfield 122, 3) := by decide +kernel
theorem d_Request_checkHost_68 : decode prog_9_method_6_code 68 = .ok (.iload_n 2, 1) := by decide +kernel
theorem d_Request_checkHost_69 : decode prog_9_method_6_code 69 = .ok (.iaload, 1) := by decide +kernel
theorem d_Request_checkHost_70 : decode prog_9_method_6_code 70 = .ok (.invokestatic 125, 3) := by decide +kernel
theorem d_Request_checkHost_73 : decode prog_9_method_6_code 73 = .ok (.ifCond .eq (7), 3) := by decide +kernel
theorem d_Request_checkHost_76 : decode prog_9_method_6_code 76 = .ok (.iconst 1, 1) := by decide +kernel
theorem d_Request_checkHost_77 : decode prog_9_method_6_code 77 = .ok (.goto (4), 3) := by decide +kernel
theorem d_Request_checkHost_80 : decode prog_9_method_6_code 80 = .ok (.iconst 0, 1) := by decide +kernel
theorem d_Request_checkHost_81 : decode prog_9_method_6_code 81 = .ok (.istore_n 3, 1) := by decide +kernel
theorem d_Request_checkHost_82 : decode prog_9_method_6_code 82 = .ok (.iload_n 3, 1) := by decide +kernel
theorem d_Request_checkHost_83 : decode prog_9_method_6_code 83 = .ok (.ifCond .eq (7), 3) := by decide +kernel
theorem d_Request_checkHost_86 : decode prog_9_method_6_code 86 = .ok (.iconst 0, 1) := by decide +kernel
theorem d_Request_checkHost_87 : decode prog_9_method_6_code 87 = .ok (.goto (6), 3) := by decide +kernel
theorem d_Request_checkHost_90 : decode prog_9_method_6_code 90 = .ok (.sipush (400), 3) := by decide +kernel
theorem d_Request_checkHost_93 : decode prog_9_method_6_code 93 = .ok (.ireturn, 1) := by decide +kernel
def x_Request_checkHost_81 (σ : St) (k0 : Int32) : Option Int32 := (if k0 = 0 then some (400 : Int32) else some (0 : Int32))
def x_Request_checkHost_76 (σ : St) : Option Int32 := x_Request_checkHost_81 σ (1 : Int32)
def x_Request_checkHost_30 (σ : St) : Option Int32 := (Option.bind (x_Fields_indexOf 5 σ) (fun r36 => (if r36 = ((-1) : Int32) then x_Request_checkHost_76 σ else (if x_in r36 12 then (if x_in r36 12 then (Option.bind (x_Text_isHost 32 (σ.2.1 36 r36.toNatClampNeg) (σ.2.1 37 r36.toNatClampNeg) σ) (fun r70 => (if r70 = 0 then x_Request_checkHost_81 σ (0 : Int32) else x_Request_checkHost_76 σ))) else none) else none))))
def x_Request_checkHost (σ : St) : Option Int32 := (Option.bind (x_Fields_countOf 5 σ) (fun r6 => (if (1 : Int32) < r6 then some (400 : Int32) else (if r6 = 0 then (Option.bind (x_Request_isOld σ) (fun r20 => (if r20 = 0 then some (400 : Int32) else x_Request_checkHost_30 σ))) else x_Request_checkHost_30 σ))))
abbrev rm_Request_checkHost : Room := { frames := 6, cells := 0, slots := 0, locals := 135 }
set_option maxHeartbeats 4000000 in
set_option maxRecDepth 100000 in
theorem t_Request_checkHost (l : Launch) (G : xG) (σ : St) (r : Int32) (hE : x_Request_checkHost σ = some r) : Met l y_Request_checkHost (ws_Request_checkHost) rm_Request_checkHost (xP G σ [.ref (G.2.1 30)]) (xRd (some (.int r))) 0 0 (fun _ => False) := by
  refine Met.ofW (cc := prog_9_method_6_code) (maxL := 4) (ret := (some .int)) (by decide) rfl ?_
  intro p e s m args below meth c s₁ B hml hv
  obtain ⟨rfl, hw, hC⟩ := hv
  have hx := B.exec
  have hb := B.bytes
  have hr := B.returns
  have hu : ∀ w ∈ UW, w.before _ s = true := fun w h => atoms_spec B.pre w (List.mem_cons_of_mem _ h)
  have hown : s.vm.findClass R_Request = some m.cls := findClass_of_methodNamed B.named
  have hlocks := B.notSynchronized
  have hK := hC.1
  have hI := hC.2.1
  have hG := hC.2.2.1
  have hN := hC.2.2.2
  have hS : va_S (xA G) s.heap s.heap [] := va_S.rf
  have jn81 : ∀ (ls : Array Slot) (k0 : Int32), x_Request_checkHost_81 σ k0 = some r → lv_has ls 4 [(0, .ref (G.2.1 30))] → W p l e (headSpec (ws_Request_checkHost) rm_Request_checkHost).room s m ([.ref (G.2.1 30)] : List Value).toArray below meth c s.heap [] 0 0 (MQ below (xRd (some (.int r))) ([.ref (G.2.1 30)] : List Value).toArray s 0 0 (fun _ => False)) (F0 m 81 ls [.int k0]) := by
    intro ls k0 hE hl
    unfold x_Request_checkHost_81 at hE
    refine lv_istore_n hx hb d_Request_checkHost_81 rfl hl (by decide) rfl (fun ls hl => ?_)
    have hl : lv_has ls 4 [(3, .int k0), (0, .ref (G.2.1 30))] := hl
    refine lv_iload_n hx hb d_Request_checkHost_82 rfl (lv_at hl 0 rfl) ?_
    refine lv_if_eq (tgt := 90) hx hb d_Request_checkHost_83 (by decide) (fun hc83 => ?_) (fun hc83 => ?_)
    · rw [if_pos hc83] at hE
      refine lv_sipush (v := (400 : Int32)) hx hb d_Request_checkHost_90 (by decide) ?_
      exact W.iret (v := (400 : Int32)) hx hb hr (fun t ht hW => ⟨by rw [Option.some.inj hE], ht⟩) (fun q h => by cases h) d_Request_checkHost_93
    · rw [if_neg hc83] at hE
      refine lv_iconst (v := (0 : Int32)) hx hb d_Request_checkHost_86 (by decide) ?_
      refine lv_goto (tgt := 93) hx hb d_Request_checkHost_87 (by decide) ?_
      exact W.iret (v := (0 : Int32)) hx hb hr (fun t ht hW => ⟨by rw [Option.some.inj hE], ht⟩) (fun q h => by cases h) d_Request_checkHost_93
  have jn76 : ∀ (ls : Array Slot), x_Request_checkHost_76 σ = some r → lv_has ls 4 [(0, .ref (G.2.1 30))] → W p l e (headSpec (ws_Request_checkHost) rm_Request_checkHost).room s m ([.ref (G.2.1 30)] : List Value).toArray below meth c s.heap [] 0 0 (MQ below (xRd (some (.int r))) ([.ref (G.2.1 30)] : List Value).toArray s 0 0 (fun _ => False)) (F0 m 76 ls []) := by
    intro ls hE hl
    unfold x_Request_checkHost_76 at hE
    refine lv_iconst (v := (1 : Int32)) hx hb d_Request_checkHost_76 (by decide) ?_
    refine lv_goto (tgt := 81) hx hb d_Request_checkHost_77 (by decide) ?_
    exact jn81 _ _ hE (lv_sub hl [0] rfl)
  have jn30 : ∀ (ls : Array Slot), x_Request_checkHost_30 σ = some r → lv_has ls 4 [(0, .ref (G.2.1 30))] → W p l e (headSpec (ws_Request_checkHost) rm_Request_checkHost).room s m ([.ref (G.2.1 30)] : List Value).toArray below meth c s.heap [] 0 0 (MQ below (xRd (some (.int r))) ([.ref (G.2.1 30)] : List Value).toArray s 0 0 (fun _ => False)) (F0 m 30 ls []) := by
    intro ls hE hl
    unfold x_Request_checkHost_30 at hE
    refine lv_aload_n hx hb d_Request_checkHost_30 rfl (lv_at hl 0 rfl) ?_
    refine va_get (D := G.1) (cl := xCl) (ci := 2) (v := .ref (G.2.1 31)) (C := R_Request) (T := T_Request) (N := 9) hx hb hu fi_Request hown hK hw 30 (x_at (by decide) (xcl_30 G σ)) rfl 0 (by decide) (hu _ mw_209) (fun _ h9 => h9) rfl d_Request_checkHost_31 ?_
    refine va_ldcS hx hb hown (str_5 hN) d_Request_checkHost_34 ?_
    obtain ⟨r36, hC36, hE⟩ := x_bind hE
    refine x_callR (W.runV (As := [.ref (G.2.2.2.1 5)]) (rest := []) ⟨hx, hb, hml, hown, hu⟩ (t_Fields_indexOf l G σ 5 (by decide) r36 hC36) (cwV 1 hu (uw_V mw_759 mw_760 mw_761 mw_66 mw_762) rfl rfl rfl hd_Fields_indexOf ⟨Nat.le_of_ble_eq_true rfl, Nat.le_of_ble_eq_true rfl⟩) (x_preV hC hS hw (va_recv hK hw (q := (R_Fields, T_Fields, 9)) (ci := 1) rfl (x_at (by decide) (xcl_31 G σ)))) rfl rfl hl.1 rfl (lv_room (Nat.le_of_ble_eq_true rfl)) d_Request_checkHost_36 ⟨Nat.le_of_ble_eq_true rfl, Nat.le_of_ble_eq_true rfl⟩) ?_
    refine lv_istore_n hx hb d_Request_checkHost_39 rfl hl (by decide) rfl (fun ls hl => ?_)
    have hl : lv_has ls 4 [(2, .int r36), (0, .ref (G.2.1 30))] := hl
    refine lv_iload_n hx hb d_Request_checkHost_40 rfl (lv_at hl 0 rfl) ?_
    refine lv_iconst (v := ((-1) : Int32)) hx hb d_Request_checkHost_41 (by decide) ?_
    refine lv_icmp_eq (tgt := 76) hx hb d_Request_checkHost_42 (by decide) (fun hc42 => ?_) (fun hc42 => ?_)
    · rw [if_pos hc42] at hE
      exact jn76 _ hE (lv_sub hl [1] rfl)
    · rw [if_neg hc42] at hE
      refine lv_aload_n hx hb d_Request_checkHost_45 rfl (lv_at hl 1 rfl) ?_
      refine va_get (D := G.1) (cl := xCl) (ci := 2) (v := .ref (G.2.1 31)) (C := R_Request) (T := T_Request) (N := 9) hx hb hu fi_Request hown hK hw 30 (x_at (by decide) (xcl_30 G σ)) rfl 0 (by decide) (hu _ mw_209) (fun _ h9 => h9) rfl d_Request_checkHost_46 ?_
      refine va_getN (D := G.1) (cl := xCl) (ci := 1) (v := .ref (G.2.1 32)) (C := R_Fields) (T := T_Fields) (N := 9) hx hb hu fi_Fields hown hK hw 31 (x_at (by decide) (xcl_31 G σ)) rfl 0 (by decide) (nl_17 hG) (fun _ h9 => h9) rfl d_Request_checkHost_49 ?_
      refine lv_aload_n hx hb d_Request_checkHost_52 rfl (lv_at hl 1 rfl) ?_
      refine va_get (D := G.1) (cl := xCl) (ci := 2) (v := .ref (G.2.1 31)) (C := R_Request) (T := T_Request) (N := 9) hx hb hu fi_Request hown hK hw 30 (x_at (by decide) (xcl_30 G σ)) rfl 0 (by decide) (hu _ mw_209) (fun _ h9 => h9) rfl d_Request_checkHost_53 ?_
      refine va_getN (D := G.1) (cl := xCl) (ci := 1) (v := .ref (G.2.1 36)) (C := R_Fields) (T := T_Fields) (N := 9) hx hb hu fi_Fields hown hK hw 31 (x_at (by decide) (xcl_31 G σ)) rfl 3 (by decide) (nl_19 hG) (fun _ h9 => h9) rfl d_Request_checkHost_56 ?_
      refine lv_iload_n hx hb d_Request_checkHost_59 rfl (lv_at hl 0 rfl) ?_
      obtain ⟨g60, hE⟩ := x_guard hE
      refine va_iald hx hb hK hw 36 0 (x_at (by decide) (xcl_36 G σ)) rfl g60 d_Request_checkHost_60 ?_
      refine lv_aload_n hx hb d_Request_checkHost_61 rfl (lv_at hl 1 rfl) ?_
      refine va_get (D := G.1) (cl := xCl) (ci := 2) (v := .ref (G.2.1 31)) (C := R_Request) (T := T_Request) (N := 9) hx hb hu fi_Request hown hK hw 30 (x_at (by decide) (xcl_30 G σ)) rfl 0 (by decide) (hu _ mw_209) (fun _ h9 => h9) rfl d_Request_checkHost_62 ?_
      refine va_getN (D := G.1) (cl := xCl) (ci := 1) (v := .ref (G.2.1 37)) (C := R_Fields) (T := T_Fields) (N := 9) hx hb hu fi_Fields hown hK hw 31 (x_at (by decide) (xcl_31 G σ)) rfl 4 (by decide) (nl_21 hG) (fun _ h9 => h9) rfl d_Request_checkHost_65 ?_
      refine lv_iload_n hx hb d_Request_checkHost_68 rfl (lv_at hl 0 rfl) ?_
      obtain ⟨g69, hE⟩ := x_guard hE
      refine va_iald hx hb hK hw 37 0 (x_at (by decide) (xcl_37 G σ)) rfl g69 d_Request_checkHost_69 ?_
      obtain ⟨r70, hC70, hE⟩ := x_bind hE
      refine x_callR (W.runS (As := [.ref (G.2.1 32), .int (σ.2.1 36 r36.toNatClampNeg), .int (σ.2.1 37 r36.toNatClampNeg)]) (rest := []) ⟨hx, hb, hml, hown, hu⟩ (t_Text_isHost l G σ 32 (σ.2.1 36 r36.toNatClampNeg) (σ.2.1 37 r36.toNatClampNeg) (by decide) r70 hC70) (va_cwS 3 hu (uw_S mw_763 mw_764 mw_75 mw_765) rfl rfl rfl hd_Text_isHost ⟨Nat.le_of_ble_eq_true rfl, Nat.le_of_ble_eq_true rfl⟩) (x_preS hC hS hw) rfl rfl hl.1 rfl (lv_room (Nat.le_of_ble_eq_true rfl)) d_Request_checkHost_70 ⟨Nat.le_of_ble_eq_true rfl, Nat.le_of_ble_eq_true rfl⟩) ?_
      refine lv_if_eq (tgt := 80) hx hb d_Request_checkHost_73 (by decide) (fun hc73 => ?_) (fun hc73 => ?_)
      · rw [if_pos hc73] at hE
        refine lv_iconst (v := (0 : Int32)) hx hb d_Request_checkHost_80 (by decide) ?_
        exact jn81 _ _ hE (lv_sub hl [1] rfl)
      · rw [if_neg hc73] at hE
        exact jn76 _ hE (lv_sub hl [1] rfl)
  have hl := lv_entry ([.ref (G.2.1 30)]) (n := 4) (Nat.le_of_ble_eq_true rfl)
  rw [lg_entry_eq]
  generalize (lg_sl ([.ref (G.2.1 30)]) ++ List.replicate (4 - (lg_sl ([.ref (G.2.1 30)])).length) Slot.unset).toArray = ls at hl ⊢
  have hl : lv_has ls 4 [(0, .ref (G.2.1 30))] := hl
  unfold x_Request_checkHost at hE
  refine lv_aload_n hx hb d_Request_checkHost_0 rfl (lv_at hl 0 rfl) ?_
  refine va_get (D := G.1) (cl := xCl) (ci := 2) (v := .ref (G.2.1 31)) (C := R_Request) (T := T_Request) (N := 9) hx hb hu fi_Request hown hK hw 30 (x_at (by decide) (xcl_30 G σ)) rfl 0 (by decide) (hu _ mw_209) (fun _ h9 => h9) rfl d_Request_checkHost_1 ?_
  refine va_ldcS hx hb hown (str_5 hN) d_Request_checkHost_4 ?_
  obtain ⟨r6, hC6, hE⟩ := x_bind hE
  refine x_callR (W.runV (As := [.ref (G.2.2.2.1 5)]) (rest := []) ⟨hx, hb, hml, hown, hu⟩ (t_Fields_countOf l G σ 5 (by decide) r6 hC6) (cwV 1 hu (uw_V mw_745 mw_746 mw_747 mw_66 mw_748) rfl rfl rfl hd_Fields_countOf ⟨Nat.le_of_ble_eq_true rfl, Nat.le_of_ble_eq_true rfl⟩) (x_preV hC hS hw (va_recv hK hw (q := (R_Fields, T_Fields, 9)) (ci := 1) rfl (x_at (by decide) (xcl_31 G σ)))) rfl rfl hl.1 rfl (lv_room (Nat.le_of_ble_eq_true rfl)) d_Request_checkHost_6 ⟨Nat.le_of_ble_eq_true rfl, Nat.le_of_ble_eq_true rfl⟩) ?_
  refine lv_istore_n hx hb d_Request_checkHost_9 rfl hl (by decide) rfl (fun ls hl => ?_)
  have hl : lv_has ls 4 [(1, .int r6), (0, .ref (G.2.1 30))] := hl
  refine lv_iload_n hx hb d_Request_checkHost_10 rfl (lv_at hl 0 rfl) ?_
  refine lv_iconst (v := (1 : Int32)) hx hb d_Request_checkHost_11 (by decide) ?_
  refine lv_icmp_gt (tgt := 26) hx hb d_Request_checkHost_12 (by decide) (fun hc12 => ?_) (fun hc12 => ?_)
  · rw [if_pos hc12] at hE
    refine lv_sipush (v := (400 : Int32)) hx hb d_Request_checkHost_26 (by decide) ?_
    exact W.iret (v := (400 : Int32)) hx hb hr (fun t ht hW => ⟨by rw [Option.some.inj hE], ht⟩) (fun q h => by cases h) d_Request_checkHost_29
  · rw [if_neg hc12] at hE
    refine lv_iload_n hx hb d_Request_checkHost_15 rfl (lv_at hl 0 rfl) ?_
    refine lv_if_ne (tgt := 30) hx hb d_Request_checkHost_16 (by decide) (fun hc16 => ?_) (fun hc16 => ?_)
    · rw [if_neg hc16] at hE
      exact jn30 _ hE (lv_sub hl [1] rfl)
    · rw [if_pos hc16] at hE
      refine lv_aload_n hx hb d_Request_checkHost_19 rfl (lv_at hl 1 rfl) ?_
      obtain ⟨r20, hC20, hE⟩ := x_bind hE
      refine x_callR (W.runV (As := []) (rest := []) ⟨hx, hb, hml, hown, hu⟩ (t_Request_isOld l G σ r20 hC20) (cwV 0 hu (uw_V mw_755 mw_756 mw_757 mw_65 mw_758) rfl rfl rfl hd_Request_isOld ⟨Nat.le_of_ble_eq_true rfl, Nat.le_of_ble_eq_true rfl⟩) (x_preV hC hS hw (va_recv hK hw (q := (R_Request, T_Request, 9)) (ci := 2) rfl (x_at (by decide) (xcl_30 G σ)))) rfl rfl hl.1 rfl (lv_room (Nat.le_of_ble_eq_true rfl)) d_Request_checkHost_20 ⟨Nat.le_of_ble_eq_true rfl, Nat.le_of_ble_eq_true rfl⟩) ?_
      refine lv_if_ne (tgt := 30) hx hb d_Request_checkHost_23 (by decide) (fun hc23 => ?_) (fun hc23 => ?_)
      · rw [if_neg hc23] at hE
        exact jn30 _ hE (lv_sub hl [1] rfl)
      · rw [if_pos hc23] at hE
        refine lv_sipush (v := (400 : Int32)) hx hb d_Request_checkHost_26 (by decide) ?_
        exact W.iret (v := (400 : Int32)) hx hb hr (fun t ht hW => ⟨by rw [Option.some.inj hE], ht⟩) (fun q h => by cases h) d_Request_checkHost_29

def y_Request_checkTransferEncoding : MethodName := ⟨"PlainOrigin$Request", "checkTransferEncoding", "()I"⟩
def ws_Request_checkTransferEncoding : List Cond := Cond.code y_Request_checkTransferEncoding prog_9_method_7_code 2 (some .int) :: UW
theorem hd_Request_checkTransferEncoding : y_Request_checkTransferEncoding.cls = R_Request ∧ y_Request_checkTransferEncoding.cls ≠ "java/lang/invoke/MethodHandle" ∧ y_Request_checkTransferEncoding.cls ≠ "java/lang/invoke/VarHandle" ∧ (parseMethodDescriptor y_Request_checkTransferEncoding.desc).map (fun d => d.parameters.length) = some 0 := by decide +kernel
theorem d_Request_checkTransferEncoding_0 : decode prog_9_method_7_code 0 = .ok (.aload_n 0, 1) := by decide +kernel
theorem d_Request_checkTransferEncoding_1 : decode prog_9_method_7_code 1 = .ok (.getfield 12, 3) := by decide +kernel
theorem d_Request_checkTransferEncoding_4 : decode prog_9_method_7_code 4 = .ok (.ldc 128, 2) := by decide +kernel
theorem d_Request_checkTransferEncoding_6 : decode prog_9_method_7_code 6 = .ok (.invokevirtual 104, 3) := by decide +kernel
theorem d_Request_checkTransferEncoding_9 : decode prog_9_method_7_code 9 = .ok (.ifCond .ne (5), 3) := by decide +kernel
theorem d_Request_checkTransferEncoding_12 : decode prog_9_method_7_code 12 = .ok (.iconst 0, 1) := by decide +kernel
theorem d_Request_checkTransferEncoding_13 : decode prog_9_method_7_code 13 = .ok (.ireturn, 1) := by decide +kernel
theorem d_Request_checkTransferEncoding_14 : decode prog_9_method_7_code 14 = .ok (.aload_n 0, 1) := by decide +kernel
theorem d_Request_checkTransferEncoding_15 : decode prog_9_method_7_code 15 = .ok (.invokevirtual 108, 3) := by decide +kernel
theorem d_Request_checkTransferEncoding_18 : decode prog_9_method_7_code 18 = .ok (.ifCond .ne (15), 3) := by decide +kernel
theorem d_Request_checkTransferEncoding_21 : decode prog_9_method_7_code 21 = .ok (.aload_n 0, 1) := by decide +kernel
theorem d_Request_checkTransferEncoding_22 : decode prog_9_method_7_code 22 = .ok (.getfield 12, 3) := by decide +kernel
theorem d_Request_checkTransferEncoding_25 : decode prog_9_method_7_code 25 = .ok (.ldc 130, 2) := by decide +kernel
theorem d_Request_checkTransferEncoding_27 : decode prog_9_method_7_code 27 = .ok (.invokevirtual 104, 3) := by decide +kernel
theorem d_Request_checkTransferEncoding_30 : decode prog_9_method_7_code 30 = .ok (.ifCond .le (7), 3) := by decide +kernel
theorem d_Request_checkTransferEncoding_33 : decode prog_9_method_7_code 33 = .ok (.sipush (400), 3) := by decide +kernel
theorem d_Request_checkTransferEncoding_36 : decode prog_9_method_7_code 36 = .ok (.ireturn, 1) := by decide +kernel
theorem d_Request_checkTransferEncoding_37 : decode prog_9_method_7_code 37 = .ok (.aload_n 0, 1) := by decide +kernel
theorem d_Request_checkTransferEncoding_38 : decode prog_9_method_7_code 38 = .ok (.getfield 12, 3) := by decide +kernel
theorem d_Request_checkTransferEncoding_41 : decode prog_9_method_7_code 41 = .ok (.ldc 128, 2) := by decide +kernel
theorem d_Request_checkTransferEncoding_43 : decode prog_9_method_7_code 43 = .ok (.invokevirtual 132, 3) := by decide +kernel
theorem d_Request_checkTransferEncoding_46 : decode prog_9_method_7_code 46 = .ok (.istore_n 1, 1) := by decide +kernel
theorem d_Request_checkTransferEncoding_47 : decode prog_9_method_7_code 47 = .ok (.aload_n 0, 1) := by decide +kernel
theorem d_Request_checkTransferEncoding_48 : decode prog_9_method_7_code 48 = .ok (.getfield 12, 3) := by decide +kernel
theorem d_Request_checkTransferEncoding_51 : decode prog_9_method_7_code 51 = .ok (.iload_n 1, 1) := by decide +kernel
theorem d_Request_checkTransferEncoding_52 : decode prog_9_method_7_code 52 = .ok (.iconst 1, 1) := by decide +kernel
theorem d_Request_checkTransferEncoding_53 : decode prog_9_method_7_code 53 = .ok (.isub, 1) := by decide +kernel
theorem d_Request_checkTransferEncoding_54 : decode prog_9_method_7_code 54 = .ok (.ldc 135, 2) := by decide +kernel
theorem d_Request_checkTransferEncoding_56 : decode prog_9_method_7_code 56 = .ok (.invokevirtual 137, 3) := by decide +kernel
theorem d_Request_checkTransferEncoding_59 : decode prog_9_method_7_code 59 = .ok (.ifCond .ne (7), 3) := by decide +kernel
theorem d_Request_checkTransferEncoding_62 : decode prog_9_method_7_code 62 = .ok (.sipush (400), 3) := by decide +kernel
theorem d_Request_checkTransferEncoding_65 : decode prog_9_method_7_code 65 = .ok (.ireturn, 1) := by decide +kernel
theorem d_Request_checkTransferEncoding_66 : decode prog_9_method_7_code 66 = .ok (.iload_n 1, 1) := by decide +kernel
theorem d_Request_checkTransferEncoding_67 : decode prog_9_method_7_code 67 = .ok (.iconst 1, 1) := by decide +kernel
theorem d_Request_checkTransferEncoding_68 : decode prog_9_method_7_code 68 = .ok (.if_icmp .le (7), 3) := by decide +kernel
theorem d_Request_checkTransferEncoding_71 : decode prog_9_method_7_code 71 = .ok (.sipush (501), 3) := by decide +kernel
theorem d_Request_checkTransferEncoding_74 : decode prog_9_method_7_code 74 = .ok (.ireturn, 1) := by decide +kernel
theorem d_Request_checkTransferEncoding_75 : decode prog_9_method_7_code 75 = .ok (.aload_n 0, 1) := by decide +kernel
theorem d_Request_checkTransferEncoding_76 : decode prog_9_method_7_code 76 = .ok (.iconst 1, 1) := by decide +kernel
theorem d_Request_checkTransferEncoding_77 : decode prog_9_method_7_code 77 = .ok (.putfield 42, 3) := by decide +kernel
theorem d_Request_checkTransferEncoding_80 : decode prog_9_method_7_code 80 = .ok (.iconst 0, 1) := by decide +kernel
theorem d_Request_checkTransferEncoding_81 : decode prog_9_method_7_code 81 = .ok (.ireturn, 1) := by decide +kernel
def x_Request_checkTransferEncoding (σ : St) : Option (Int32 × St) := (Option.bind (x_Fields_countOf 7 σ) (fun r6 => (if r6 = 0 then some ((0 : Int32), σ) else (Option.bind (x_Request_isOld σ) (fun r15 => (if r15 = 0 then (Option.bind (x_Fields_countOf 8 σ) (fun r27 => (if r27 ≤ 0 then (x_bind2 (x_Fields_gather 7 σ) (fun r43 s43 => (Option.bind (x_Fields_elementIs (r43 - (1 : Int32)) 9 s43) (fun r56 => (if r56 = 0 then some ((400 : Int32), s43) else (if r43 ≤ (1 : Int32) then (x_let (x_updR s43 30 5 (1 : Int32)) (fun (s77 : St) => some ((0 : Int32), s77))) else some ((501 : Int32), s43))))))) else some ((400 : Int32), σ)))) else some ((400 : Int32), σ)))))))
abbrev rm_Request_checkTransferEncoding : Room := { frames := 6, cells := 0, slots := 0, locals := 132 }
set_option maxHeartbeats 4000000 in
set_option maxRecDepth 100000 in
theorem t_Request_checkTransferEncoding (l : Launch) (G : xG) (σ : St) (r : Int32) (σ' : St) (hE : x_Request_checkTransferEncoding σ = some (r, σ')) : Met l y_Request_checkTransferEncoding (ws_Request_checkTransferEncoding) rm_Request_checkTransferEncoding (xP G σ [.ref (G.2.1 30)]) (xQ G (some (.int r)) σ') 0 0 (xA G) := by
  refine Met.ofW (cc := prog_9_method_7_code) (maxL := 2) (ret := (some .int)) (by decide) rfl ?_
  intro p e s m args below meth c s₁ B hml hv
  obtain ⟨rfl, hw, hC⟩ := hv
  have hx := B.exec
  have hb := B.bytes
  have hr := B.returns
  have hu : ∀ w ∈ UW, w.before _ s = true := fun w h => atoms_spec B.pre w (List.mem_cons_of_mem _ h)
  have hown : s.vm.findClass R_Request = some m.cls := findClass_of_methodNamed B.named
  have hlocks := B.notSynchronized
  have hK := hC.1
  have hI := hC.2.1
  have hG := hC.2.2.1
  have hN := hC.2.2.2
  have hS : va_S (xA G) s.heap s.heap [] := va_S.rf
  have hl := lv_entry ([.ref (G.2.1 30)]) (n := 2) (Nat.le_of_ble_eq_true rfl)
  rw [lg_entry_eq]
  generalize (lg_sl ([.ref (G.2.1 30)]) ++ List.replicate (2 - (lg_sl ([.ref (G.2.1 30)])).length) Slot.unset).toArray = ls at hl ⊢
  have hl : lv_has ls 2 [(0, .ref (G.2.1 30))] := hl
  unfold x_Request_checkTransferEncoding at hE
  refine lv_aload_n hx hb d_Request_checkTransferEncoding_0 rfl (lv_at hl 0 rfl) ?_
  refine va_get (D := G.1) (cl := xCl) (ci := 2) (v := .ref (G.2.1 31)) (C := R_Request) (T := T_Request) (N := 9) hx hb hu fi_Request hown hK hw 30 (x_at (by decide) (xcl_30 G σ)) rfl 0 (by decide) (hu _ mw_209) (fun _ h9 => h9) rfl d_Request_checkTransferEncoding_1 ?_
  refine va_ldcS hx hb hown (str_7 hN) d_Request_checkTransferEncoding_4 ?_
  obtain ⟨r6, hC6, hE⟩ := x_bind hE
  refine x_callR (W.runV (As := [.ref (G.2.2.2.1 7)]) (rest := []) ⟨hx, hb, hml, hown, hu⟩ (t_Fields_countOf l G σ 7 (by decide) r6 hC6) (cwV 1 hu (uw_V mw_745 mw_746 mw_747 mw_66 mw_748) rfl rfl rfl hd_Fields_countOf ⟨Nat.le_of_ble_eq_true rfl, Nat.le_of_ble_eq_true rfl⟩) (x_preV hC hS hw (va_recv hK hw (q := (R_Fields, T_Fields, 9)) (ci := 1) rfl (x_at (by decide) (xcl_31 G σ)))) rfl rfl hl.1 rfl (lv_room (Nat.le_of_ble_eq_true rfl)) d_Request_checkTransferEncoding_6 ⟨Nat.le_of_ble_eq_true rfl, Nat.le_of_ble_eq_true rfl⟩) ?_
  refine lv_if_ne (tgt := 14) hx hb d_Request_checkTransferEncoding_9 (by decide) (fun hc9 => ?_) (fun hc9 => ?_)
  · rw [if_neg hc9] at hE
    refine lv_aload_n hx hb d_Request_checkTransferEncoding_14 rfl (lv_at hl 0 rfl) ?_
    obtain ⟨r15, hC15, hE⟩ := x_bind hE
    refine x_callR (W.runV (As := []) (rest := []) ⟨hx, hb, hml, hown, hu⟩ (t_Request_isOld l G σ r15 hC15) (cwV 0 hu (uw_V mw_755 mw_756 mw_757 mw_65 mw_758) rfl rfl rfl hd_Request_isOld ⟨Nat.le_of_ble_eq_true rfl, Nat.le_of_ble_eq_true rfl⟩) (x_preV hC hS hw (va_recv hK hw (q := (R_Request, T_Request, 9)) (ci := 2) rfl (x_at (by decide) (xcl_30 G σ)))) rfl rfl hl.1 rfl (lv_room (Nat.le_of_ble_eq_true rfl)) d_Request_checkTransferEncoding_15 ⟨Nat.le_of_ble_eq_true rfl, Nat.le_of_ble_eq_true rfl⟩) ?_
    refine lv_if_ne (tgt := 33) hx hb d_Request_checkTransferEncoding_18 (by decide) (fun hc18 => ?_) (fun hc18 => ?_)
    · rw [if_neg hc18] at hE
      refine lv_sipush (v := (400 : Int32)) hx hb d_Request_checkTransferEncoding_33 (by decide) ?_
      obtain ⟨e1, e2⟩ := x_pair hE
      exact W.iret (v := (400 : Int32)) hx hb hr (fun t ht hW => ⟨by rw [e1], by rw [ht, ← e2]; exact hw, hS.F ht⟩) hS.2.2 d_Request_checkTransferEncoding_36
    · rw [if_pos hc18] at hE
      refine lv_aload_n hx hb d_Request_checkTransferEncoding_21 rfl (lv_at hl 0 rfl) ?_
      refine va_get (D := G.1) (cl := xCl) (ci := 2) (v := .ref (G.2.1 31)) (C := R_Request) (T := T_Request) (N := 9) hx hb hu fi_Request hown hK hw 30 (x_at (by decide) (xcl_30 G σ)) rfl 0 (by decide) (hu _ mw_209) (fun _ h9 => h9) rfl d_Request_checkTransferEncoding_22 ?_
      refine va_ldcS hx hb hown (str_8 hN) d_Request_checkTransferEncoding_25 ?_
      obtain ⟨r27, hC27, hE⟩ := x_bind hE
      refine x_callR (W.runV (As := [.ref (G.2.2.2.1 8)]) (rest := []) ⟨hx, hb, hml, hown, hu⟩ (t_Fields_countOf l G σ 8 (by decide) r27 hC27) (cwV 1 hu (uw_V mw_745 mw_746 mw_747 mw_66 mw_748) rfl rfl rfl hd_Fields_countOf ⟨Nat.le_of_ble_eq_true rfl, Nat.le_of_ble_eq_true rfl⟩) (x_preV hC hS hw (va_recv hK hw (q := (R_Fields, T_Fields, 9)) (ci := 1) rfl (x_at (by decide) (xcl_31 G σ)))) rfl rfl hl.1 rfl (lv_room (Nat.le_of_ble_eq_true rfl)) d_Request_checkTransferEncoding_27 ⟨Nat.le_of_ble_eq_true rfl, Nat.le_of_ble_eq_true rfl⟩) ?_
      refine lv_if_le (tgt := 37) hx hb d_Request_checkTransferEncoding_30 (by decide) (fun hc30 => ?_) (fun hc30 => ?_)
      · rw [if_pos hc30] at hE
        refine lv_aload_n hx hb d_Request_checkTransferEncoding_37 rfl (lv_at hl 0 rfl) ?_
        refine va_get (D := G.1) (cl := xCl) (ci := 2) (v := .ref (G.2.1 31)) (C := R_Request) (T := T_Request) (N := 9) hx hb hu fi_Request hown hK hw 30 (x_at (by decide) (xcl_30 G σ)) rfl 0 (by decide) (hu _ mw_209) (fun _ h9 => h9) rfl d_Request_checkTransferEncoding_38 ?_
        refine va_ldcS hx hb hown (str_7 hN) d_Request_checkTransferEncoding_41 ?_
        obtain ⟨r43, s43, hC43, hE⟩ := x_bind2E hE
        refine x_callS hS (W.runV (As := [.ref (G.2.2.2.1 7)]) (rest := []) ⟨hx, hb, hml, hown, hu⟩ (t_Fields_gather l G σ 7 (by decide) r43 s43 hC43) (cwV 1 hu (uw_V mw_773 mw_774 mw_775 mw_66 mw_776) rfl rfl rfl hd_Fields_gather ⟨Nat.le_of_ble_eq_true rfl, Nat.le_of_ble_eq_true rfl⟩) (x_preV hC hS hw (va_recv hK hw (q := (R_Fields, T_Fields, 9)) (ci := 1) rfl (x_at (by decide) (xcl_31 G σ)))) rfl rfl hl.1 rfl (lv_room (Nat.le_of_ble_eq_true rfl)) d_Request_checkTransferEncoding_43 ⟨Nat.le_of_ble_eq_true rfl, Nat.le_of_ble_eq_true rfl⟩) (fun H locs hw hS => ?_)
        refine lv_istore_n hx hb d_Request_checkTransferEncoding_46 rfl hl (by decide) rfl (fun ls hl => ?_)
        have hl : lv_has ls 2 [(1, .int r43), (0, .ref (G.2.1 30))] := hl
        refine lv_aload_n hx hb d_Request_checkTransferEncoding_47 rfl (lv_at hl 1 rfl) ?_
        refine va_get (D := G.1) (cl := xCl) (ci := 2) (v := .ref (G.2.1 31)) (C := R_Request) (T := T_Request) (N := 9) hx hb hu fi_Request hown hK hw 30 (x_at (by decide) (xcl_30 G s43)) rfl 0 (by decide) (hu _ mw_209) (fun _ h9 => h9) rfl d_Request_checkTransferEncoding_48 ?_
        refine lv_iload_n hx hb d_Request_checkTransferEncoding_51 rfl (lv_at hl 0 rfl) ?_
        refine lv_iconst (v := (1 : Int32)) hx hb d_Request_checkTransferEncoding_52 (by decide) ?_
        refine lv_isub hx hb d_Request_checkTransferEncoding_53 ?_
        refine va_ldcS hx hb hown (str_9 hN) d_Request_checkTransferEncoding_54 ?_
        obtain ⟨r56, hC56, hE⟩ := x_bind hE
        refine x_callR (W.runV (As := [.int (r43 - (1 : Int32)), .ref (G.2.2.2.1 9)]) (rest := []) ⟨hx, hb, hml, hown, hu⟩ (t_Fields_elementIs l G s43 (r43 - (1 : Int32)) 9 (by decide) r56 hC56) (cwV 2 hu (uw_V mw_788 mw_789 mw_790 mw_66 mw_791) rfl rfl rfl hd_Fields_elementIs ⟨Nat.le_of_ble_eq_true rfl, Nat.le_of_ble_eq_true rfl⟩) (x_preV hC hS hw (va_recv hK hw (q := (R_Fields, T_Fields, 9)) (ci := 1) rfl (x_at (by decide) (xcl_31 G s43)))) rfl rfl hl.1 rfl (lv_room (Nat.le_of_ble_eq_true rfl)) d_Request_checkTransferEncoding_56 ⟨Nat.le_of_ble_eq_true rfl, Nat.le_of_ble_eq_true rfl⟩) ?_
        refine lv_if_ne (tgt := 66) hx hb d_Request_checkTransferEncoding_59 (by decide) (fun hc59 => ?_) (fun hc59 => ?_)
        · rw [if_neg hc59] at hE
          refine lv_iload_n hx hb d_Request_checkTransferEncoding_66 rfl (lv_at hl 0 rfl) ?_
          refine lv_iconst (v := (1 : Int32)) hx hb d_Request_checkTransferEncoding_67 (by decide) ?_
          refine lv_icmp_le (tgt := 75) hx hb d_Request_checkTransferEncoding_68 (by decide) (fun hc68 => ?_) (fun hc68 => ?_)
          · rw [if_pos hc68] at hE
            refine lv_aload_n hx hb d_Request_checkTransferEncoding_75 rfl (lv_at hl 1 rfl) ?_
            refine lv_iconst (v := (1 : Int32)) hx hb d_Request_checkTransferEncoding_76 (by decide) ?_
            refine va_put (D := G.1) (cl := xCl) (ci := 2) (v := .int (1 : Int32)) (ty := .boolean) (C := R_Request) (T := T_Request) (N := 9) hx hb hu fi_Request ty_Request tyok_Request nm_Request hown hK hw (x_D hI _) hS 30 (x_at (by decide) (xcl_30 G s43)) rfl 5 (by decide) (hu _ mw_221) (fun _ h9 => h9) rfl (tyok_Request 5 (by decide)) rfl rfl (Nat.le_of_ble_eq_true rfl) d_Request_checkTransferEncoding_77 (fun H locs hw _ hS => ?_)
            replace hw := x_setR hw (by decide) rfl
            obtain ⟨s77, e77, hE⟩ := x_letE hE
            rw [← e77] at hw
            refine lv_iconst (v := (0 : Int32)) hx hb d_Request_checkTransferEncoding_80 (by decide) ?_
            obtain ⟨e1, e2⟩ := x_pair hE
            exact W.iret (v := (0 : Int32)) hx hb hr (fun t ht hW => ⟨by rw [e1], by rw [ht, ← e2]; exact hw, hS.F ht⟩) hS.2.2 d_Request_checkTransferEncoding_81
          · rw [if_neg hc68] at hE
            refine lv_sipush (v := (501 : Int32)) hx hb d_Request_checkTransferEncoding_71 (by decide) ?_
            obtain ⟨e1, e2⟩ := x_pair hE
            exact W.iret (v := (501 : Int32)) hx hb hr (fun t ht hW => ⟨by rw [e1], by rw [ht, ← e2]; exact hw, hS.F ht⟩) hS.2.2 d_Request_checkTransferEncoding_74
        · rw [if_pos hc59] at hE
          refine lv_sipush (v := (400 : Int32)) hx hb d_Request_checkTransferEncoding_62 (by decide) ?_
          obtain ⟨e1, e2⟩ := x_pair hE
          exact W.iret (v := (400 : Int32)) hx hb hr (fun t ht hW => ⟨by rw [e1], by rw [ht, ← e2]; exact hw, hS.F ht⟩) hS.2.2 d_Request_checkTransferEncoding_65
      · rw [if_neg hc30] at hE
        refine lv_sipush (v := (400 : Int32)) hx hb d_Request_checkTransferEncoding_33 (by decide) ?_
        obtain ⟨e1, e2⟩ := x_pair hE
        exact W.iret (v := (400 : Int32)) hx hb hr (fun t ht hW => ⟨by rw [e1], by rw [ht, ← e2]; exact hw, hS.F ht⟩) hS.2.2 d_Request_checkTransferEncoding_36
  · rw [if_pos hc9] at hE
    refine lv_iconst (v := (0 : Int32)) hx hb d_Request_checkTransferEncoding_12 (by decide) ?_
    obtain ⟨e1, e2⟩ := x_pair hE
    exact W.iret (v := (0 : Int32)) hx hb hr (fun t ht hW => ⟨by rw [e1], by rw [ht, ← e2]; exact hw, hS.F ht⟩) hS.2.2 d_Request_checkTransferEncoding_13

def y_Request_checkContentLength : MethodName := ⟨"PlainOrigin$Request", "checkContentLength", "()I"⟩
def ws_Request_checkContentLength : List Cond := Cond.code y_Request_checkContentLength prog_9_method_8_code 4 (some .int) :: UW
theorem hd_Request_checkContentLength : y_Request_checkContentLength.cls = R_Request ∧ y_Request_checkContentLength.cls ≠ "java/lang/invoke/MethodHandle" ∧ y_Request_checkContentLength.cls ≠ "java/lang/invoke/VarHandle" ∧ (parseMethodDescriptor y_Request_checkContentLength.desc).map (fun d => d.parameters.length) = some 0 := by decide +kernel
theorem d_Request_checkContentLength_0 : decode prog_9_method_8_code 0 = .ok (.aload_n 0, 1) := by decide +kernel
theorem d_Request_checkContentLength_1 : decode prog_9_method_8_code 1 = .ok (.getfield 12, 3) := by decide +kernel
theorem d_Request_checkContentLength_4 : decode prog_9_method_8_code 4 = .ok (.ldc 130, 2) := by decide +kernel
theorem d_Request_checkContentLength_6 : decode prog_9_method_8_code 6 = .ok (.invokevirtual 104, 3) := by decide +kernel
theorem d_Request_checkContentLength_9 : decode prog_9_method_8_code 9 = .ok (.ifCond .ne (5), 3) := by decide +kernel
theorem d_Request_checkContentLength_12 : decode prog_9_method_8_code 12 = .ok (.iconst 0, 1) := by decide +kernel
theorem d_Request_checkContentLength_13 : decode prog_9_method_8_code 13 = .ok (.ireturn, 1) := by decide +kernel
theorem d_Request_checkContentLength_14 : decode prog_9_method_8_code 14 = .ok (.aload_n 0, 1) := by decide +kernel
theorem d_Request_checkContentLength_15 : decode prog_9_method_8_code 15 = .ok (.getfield 12, 3) := by decide +kernel
theorem d_Request_checkContentLength_18 : decode prog_9_method_8_code 18 = .ok (.ldc 130, 2) := by decide +kernel
theorem d_Request_checkContentLength_20 : decode prog_9_method_8_code 20 = .ok (.invokevirtual 132, 3) := by decide +kernel
theorem d_Request_checkContentLength_23 : decode prog_9_method_8_code 23 = .ok (.istore_n 1, 1) := by decide +kernel
theorem d_Request_checkContentLength_24 : decode prog_9_method_8_code 24 = .ok (.aload_n 0, 1) := by decide +kernel
theorem d_Request_checkContentLength_25 : decode prog_9_method_8_code 25 = .ok (.getfield 12, 3) := by decide +kernel
theorem d_Request_checkContentLength_28 : decode prog_9_method_8_code 28 = .ok (.iconst 0, 1) := by decide +kernel
theorem d_Request_checkContentLength_29 : decode prog_9_method_8_code 29 = .ok (.invokevirtual 141, 3) := by decide +kernel
theorem d_Request_checkContentLength_32 : decode prog_9_method_8_code 32 = .ok (.istore_n 2, 1) := by decide +kernel
theorem d_Request_checkContentLength_33 : decode prog_9_method_8_code 33 = .ok (.iconst 1, 1) := by decide +kernel
theorem d_Request_checkContentLength_34 : decode prog_9_method_8_code 34 = .ok (.istore_n 3, 1) := by decide +kernel
theorem d_Request_checkContentLength_35 : decode prog_9_method_8_code 35 = .ok (.iload_n 3, 1) := by decide +kernel
theorem d_Request_checkContentLength_36 : decode prog_9_method_8_code 36 = .ok (.iload_n 1, 1) := by decide +kernel
theorem d_Request_checkContentLength_37 : decode prog_9_method_8_code 37 = .ok (.if_icmp .ge (25), 3) := by decide +kernel
theorem d_Request_checkContentLength_40 : decode prog_9_method_8_code 40 = .ok (.aload_n 0, 1) := by decide +kernel
theorem d_Request_checkContentLength_41 : decode prog_9_method_8_code 41 = .ok (.getfield 12, 3) := by decide +kernel
theorem d_Request_checkContentLength_44 : decode prog_9_method_8_code 44 = .ok (.iload_n 3, 1) := by decide +kernel
theorem d_Request_checkContentLength_45 : decode prog_9_method_8_code 45 = .ok (.invokevirtual 141, 3) := by decide +kernel
theorem d_Request_checkContentLength_48 : decode prog_9_method_8_code 48 = .ok (.iload_n 2, 1) := by decide +kernel
theorem d_Request_checkContentLength_49 : decode prog_9_method_8_code 49 = .ok (.if_icmp .eq (7), 3) := by decide +kernel
theorem d_Request_checkContentLength_52 : decode prog_9_method_8_code 52 = .ok (.sipush (400), 3) := by decide +kernel
theorem d_Request_checkContentLength_55 : decode prog_9_method_8_code 55 = .ok (.ireturn, 1) := by decide +kernel
theorem d_Request_checkContentLength_56 : decode prog_9_method_8_code 56 = .ok (.iinc 3 (1), 3) := by decide +kernel
theorem d_Request_checkContentLength_59 : decode prog_9_method_8_code 59 = .ok (.goto (-24), 3) := by decide +kernel
theorem d_Request_checkContentLength_62 : decode prog_9_method_8_code 62 = .ok (.iload_n 2, 1) := by decide +kernel
theorem d_Request_checkContentLength_63 : decode prog_9_method_8_code 63 = .ok (.iconst (-1), 1) := by decide +kernel
theorem d_Request_checkContentLength_64 : decode prog_9_method_8_code 64 = .ok (.if_icmp .ne (7), 3) := by decide +kernel
theorem d_Request_checkContentLength_67 : decode prog_9_method_8_code 67 = .ok (.sipush (400), 3) := by decide +kernel
theorem d_Request_checkContentLength_70 : decode prog_9_method_8_code 70 = .ok (.ireturn, 1) := by decide +kernel
theorem d_Request_checkContentLength_71 : decode prog_9_method_8_code 71 = .ok (.iload_n 2, 1) := by decide +kernel
theorem d_Request_checkContentLength_72 : decode prog_9_method_8_code 72 = .ok (.sipush (200), 3) := by decide +kernel
theorem d_Request_checkContentLength_75 : decode prog_9_method_8_code 75 = .ok (.if_icmp .le (7), 3) := by decide +kernel
theorem d_Request_checkContentLength_78 : decode prog_9_method_8_code 78 = .ok (.sipush (413), 3) := by decide +kernel
theorem d_Request_checkContentLength_81 : decode prog_9_method_8_code 81 = .ok (.ireturn, 1) := by decide +kernel
theorem d_Request_checkContentLength_82 : decode prog_9_method_8_code 82 = .ok (.aload_n 0, 1) := by decide +kernel
theorem d_Request_checkContentLength_83 : decode prog_9_method_8_code 83 = .ok (.iload_n 2, 1) := by decide +kernel
theorem d_Request_checkContentLength_84 : decode prog_9_method_8_code 84 = .ok (.putfield 46, 3) := by decide +kernel
theorem d_Request_checkContentLength_87 : decode prog_9_method_8_code 87 = .ok (.iconst 0, 1) := by decide +kernel
theorem d_Request_checkContentLength_88 : decode prog_9_method_8_code 88 = .ok (.ireturn, 1) := by decide +kernel
def x_Request_checkContentLength_35 : Nat → Int32 → Int32 → Int32 → St → Option (Int32 × St)
  | 0, _, _, _, _ => none
  | n + 1, l1, l2, l3, σ => (if l1 ≤ l3 then (if l2 = ((-1) : Int32) then some ((400 : Int32), σ) else (if l2 ≤ (200 : Int32) then (x_let (x_updR σ 30 6 l2) (fun (s84 : St) => some ((0 : Int32), s84))) else some ((413 : Int32), σ))) else (Option.bind (x_Fields_elementNumber l3 σ) (fun r45 => (if r45 = l2 then (x_let (l3 + (1 : Int32)) (fun (v56 : Int32) => x_Request_checkContentLength_35 n l1 l2 v56 σ)) else some ((400 : Int32), σ)))))
def x_Request_checkContentLength (σ : St) : Option (Int32 × St) := (Option.bind (x_Fields_countOf 8 σ) (fun r6 => (if r6 = 0 then some ((0 : Int32), σ) else (x_bind2 (x_Fields_gather 8 σ) (fun r20 s20 => (Option.bind (x_Fields_elementNumber (0 : Int32) s20) (fun r29 => x_Request_checkContentLength_35 x_fuel r20 r29 (1 : Int32) s20)))))))
abbrev rm_Request_checkContentLength : Room := { frames := 6, cells := 0, slots := 0, locals := 132 }
set_option maxHeartbeats 4000000 in
set_option maxRecDepth 100000 in
theorem t_Request_checkContentLength (l : Launch) (G : xG) (σ : St) (r : Int32) (σ' : St) (hE : x_Request_checkContentLength σ = some (r, σ')) : Met l y_Request_checkContentLength (ws_Request_checkContentLength) rm_Request_checkContentLength (xP G σ [.ref (G.2.1 30)]) (xQ G (some (.int r)) σ') 0 0 (xA G) := by
  refine Met.ofW (cc := prog_9_method_8_code) (maxL := 4) (ret := (some .int)) (by decide) rfl ?_
  intro p e s m args below meth c s₁ B hml hv
  obtain ⟨rfl, hw, hC⟩ := hv
  have hx := B.exec
  have hb := B.bytes
  have hr := B.returns
  have hu : ∀ w ∈ UW, w.before _ s = true := fun w h => atoms_spec B.pre w (List.mem_cons_of_mem _ h)
  have hown : s.vm.findClass R_Request = some m.cls := findClass_of_methodNamed B.named
  have hlocks := B.notSynchronized
  have hK := hC.1
  have hI := hC.2.1
  have hG := hC.2.2.1
  have hN := hC.2.2.2
  have hS : va_S (xA G) s.heap s.heap [] := va_S.rf
  have jn35 : ∀ (n : Nat) (ls : Array Slot) (H : Heap) (locs : List Loc) (σ : St) (l1 : Int32) (l2 : Int32) (l3 : Int32), x_Request_checkContentLength_35 n l1 l2 l3 σ = some (r, σ') → lv_has ls 4 [(0, .ref (G.2.1 30)), (1, .int l1), (2, .int l2), (3, .int l3)] → xw G σ H → va_S (xA G) s.heap H locs → W p l e (headSpec (ws_Request_checkContentLength) rm_Request_checkContentLength).room s m ([.ref (G.2.1 30)] : List Value).toArray below meth c H locs 0 0 (MQ below (xQ G (some (.int r)) σ') ([.ref (G.2.1 30)] : List Value).toArray s 0 0 (xA G)) (F0 m 35 ls []) := by
    intro n
    induction n with
    | zero => intro ls H locs σ l1 l2 l3 hE; rw [x_Request_checkContentLength_35] at hE; cases hE
    | succ n ih =>
      intro ls H locs σ l1 l2 l3 hE hl hw hS
      rw [x_Request_checkContentLength_35] at hE
      refine lv_iload_n hx hb d_Request_checkContentLength_35 rfl (lv_at hl 3 rfl) ?_
      refine lv_iload_n hx hb d_Request_checkContentLength_36 rfl (lv_at hl 1 rfl) ?_
      refine lv_icmp_ge (tgt := 62) hx hb d_Request_checkContentLength_37 (by decide) (fun hc37 => ?_) (fun hc37 => ?_)
      · rw [if_pos hc37] at hE
        refine lv_iload_n hx hb d_Request_checkContentLength_62 rfl (lv_at hl 2 rfl) ?_
        refine lv_iconst (v := ((-1) : Int32)) hx hb d_Request_checkContentLength_63 (by decide) ?_
        refine lv_icmp_ne (tgt := 71) hx hb d_Request_checkContentLength_64 (by decide) (fun hc64 => ?_) (fun hc64 => ?_)
        · rw [if_neg hc64] at hE
          refine lv_iload_n hx hb d_Request_checkContentLength_71 rfl (lv_at hl 2 rfl) ?_
          refine lv_sipush (v := (200 : Int32)) hx hb d_Request_checkContentLength_72 (by decide) ?_
          refine lv_icmp_le (tgt := 82) hx hb d_Request_checkContentLength_75 (by decide) (fun hc75 => ?_) (fun hc75 => ?_)
          · rw [if_pos hc75] at hE
            refine lv_aload_n hx hb d_Request_checkContentLength_82 rfl (lv_at hl 0 rfl) ?_
            refine lv_iload_n hx hb d_Request_checkContentLength_83 rfl (lv_at hl 2 rfl) ?_
            refine va_put (D := G.1) (cl := xCl) (ci := 2) (v := .int l2) (ty := .int) (C := R_Request) (T := T_Request) (N := 9) hx hb hu fi_Request ty_Request tyok_Request nm_Request hown hK hw (x_D hI _) hS 30 (x_at (by decide) (xcl_30 G σ)) rfl 6 (by decide) (hu _ mw_223) (fun _ h9 => h9) rfl (tyok_Request 6 (by decide)) rfl rfl (Nat.le_of_ble_eq_true rfl) d_Request_checkContentLength_84 (fun H locs hw _ hS => ?_)
            replace hw := x_setR hw (by decide) rfl
            obtain ⟨s84, e84, hE⟩ := x_letE hE
            rw [← e84] at hw
            refine lv_iconst (v := (0 : Int32)) hx hb d_Request_checkContentLength_87 (by decide) ?_
            obtain ⟨e1, e2⟩ := x_pair hE
            exact W.iret (v := (0 : Int32)) hx hb hr (fun t ht hW => ⟨by rw [e1], by rw [ht, ← e2]; exact hw, hS.F ht⟩) hS.2.2 d_Request_checkContentLength_88
          · rw [if_neg hc75] at hE
            refine lv_sipush (v := (413 : Int32)) hx hb d_Request_checkContentLength_78 (by decide) ?_
            obtain ⟨e1, e2⟩ := x_pair hE
            exact W.iret (v := (413 : Int32)) hx hb hr (fun t ht hW => ⟨by rw [e1], by rw [ht, ← e2]; exact hw, hS.F ht⟩) hS.2.2 d_Request_checkContentLength_81
        · rw [if_pos hc64] at hE
          refine lv_sipush (v := (400 : Int32)) hx hb d_Request_checkContentLength_67 (by decide) ?_
          obtain ⟨e1, e2⟩ := x_pair hE
          exact W.iret (v := (400 : Int32)) hx hb hr (fun t ht hW => ⟨by rw [e1], by rw [ht, ← e2]; exact hw, hS.F ht⟩) hS.2.2 d_Request_checkContentLength_70
      · rw [if_neg hc37] at hE
        refine lv_aload_n hx hb d_Request_checkContentLength_40 rfl (lv_at hl 0 rfl) ?_
        refine va_get (D := G.1) (cl := xCl) (ci := 2) (v := .ref (G.2.1 31)) (C := R_Request) (T := T_Request) (N := 9) hx hb hu fi_Request hown hK hw 30 (x_at (by decide) (xcl_30 G σ)) rfl 0 (by decide) (hu _ mw_209) (fun _ h9 => h9) rfl d_Request_checkContentLength_41 ?_
        refine lv_iload_n hx hb d_Request_checkContentLength_44 rfl (lv_at hl 3 rfl) ?_
        obtain ⟨r45, hC45, hE⟩ := x_bind hE
        refine x_callR (W.runV (As := [.int l3]) (rest := []) ⟨hx, hb, hml, hown, hu⟩ (t_Fields_elementNumber l G σ l3 r45 hC45) (cwV 1 hu (uw_V mw_796 mw_797 mw_798 mw_66 mw_799) rfl rfl rfl hd_Fields_elementNumber ⟨Nat.le_of_ble_eq_true rfl, Nat.le_of_ble_eq_true rfl⟩) (x_preV hC hS hw (va_recv hK hw (q := (R_Fields, T_Fields, 9)) (ci := 1) rfl (x_at (by decide) (xcl_31 G σ)))) rfl rfl hl.1 rfl (lv_room (Nat.le_of_ble_eq_true rfl)) d_Request_checkContentLength_45 ⟨Nat.le_of_ble_eq_true rfl, Nat.le_of_ble_eq_true rfl⟩) ?_
        refine lv_iload_n hx hb d_Request_checkContentLength_48 rfl (lv_at hl 2 rfl) ?_
        refine lv_icmp_eq (tgt := 56) hx hb d_Request_checkContentLength_49 (by decide) (fun hc49 => ?_) (fun hc49 => ?_)
        · rw [if_pos hc49] at hE
          obtain ⟨v56, e56, hE⟩ := x_letE hE
          refine lv_iinc hx hb d_Request_checkContentLength_56 hl (k := 3) rfl (x_inc v56 e56 (by decide)) (by decide) rfl (fun ls hl => ?_)
          have hl : lv_has ls 4 [(3, .int v56), (0, .ref (G.2.1 30)), (1, .int l1), (2, .int l2)] := hl
          refine lv_goto (tgt := 35) hx hb d_Request_checkContentLength_59 (by decide) ?_
          exact ih _ _ _ _ _ _ _ hE (lv_sub hl [1, 2, 3, 0] rfl) hw hS
        · rw [if_neg hc49] at hE
          refine lv_sipush (v := (400 : Int32)) hx hb d_Request_checkContentLength_52 (by decide) ?_
          obtain ⟨e1, e2⟩ := x_pair hE
          exact W.iret (v := (400 : Int32)) hx hb hr (fun t ht hW => ⟨by rw [e1], by rw [ht, ← e2]; exact hw, hS.F ht⟩) hS.2.2 d_Request_checkContentLength_55
  have hl := lv_entry ([.ref (G.2.1 30)]) (n := 4) (Nat.le_of_ble_eq_true rfl)
  rw [lg_entry_eq]
  generalize (lg_sl ([.ref (G.2.1 30)]) ++ List.replicate (4 - (lg_sl ([.ref (G.2.1 30)])).length) Slot.unset).toArray = ls at hl ⊢
  have hl : lv_has ls 4 [(0, .ref (G.2.1 30))] := hl
  unfold x_Request_checkContentLength at hE
  refine lv_aload_n hx hb d_Request_checkContentLength_0 rfl (lv_at hl 0 rfl) ?_
  refine va_get (D := G.1) (cl := xCl) (ci := 2) (v := .ref (G.2.1 31)) (C := R_Request) (T := T_Request) (N := 9) hx hb hu fi_Request hown hK hw 30 (x_at (by decide) (xcl_30 G σ)) rfl 0 (by decide) (hu _ mw_209) (fun _ h9 => h9) rfl d_Request_checkContentLength_1 ?_
  refine va_ldcS hx hb hown (str_8 hN) d_Request_checkContentLength_4 ?_
  obtain ⟨r6, hC6, hE⟩ := x_bind hE
  refine x_callR (W.runV (As := [.ref (G.2.2.2.1 8)]) (rest := []) ⟨hx, hb, hml, hown, hu⟩ (t_Fields_countOf l G σ 8 (by decide) r6 hC6) (cwV 1 hu (uw_V mw_745 mw_746 mw_747 mw_66 mw_748) rfl rfl rfl hd_Fields_countOf ⟨Nat.le_of_ble_eq_true rfl, Nat.le_of_ble_eq_true rfl⟩) (x_preV hC hS hw (va_recv hK hw (q := (R_Fields, T_Fields, 9)) (ci := 1) rfl (x_at (by decide) (xcl_31 G σ)))) rfl rfl hl.1 rfl (lv_room (Nat.le_of_ble_eq_true rfl)) d_Request_checkContentLength_6 ⟨Nat.le_of_ble_eq_true rfl, Nat.le_of_ble_eq_true rfl⟩) ?_
  refine lv_if_ne (tgt := 14) hx hb d_Request_checkContentLength_9 (by decide) (fun hc9 => ?_) (fun hc9 => ?_)
  · rw [if_neg hc9] at hE
    refine lv_aload_n hx hb d_Request_checkContentLength_14 rfl (lv_at hl 0 rfl) ?_
    refine va_get (D := G.1) (cl := xCl) (ci := 2) (v := .ref (G.2.1 31)) (C := R_Request) (T := T_Request) (N := 9) hx hb hu fi_Request hown hK hw 30 (x_at (by decide) (xcl_30 G σ)) rfl 0 (by decide) (hu _ mw_209) (fun _ h9 => h9) rfl d_Request_checkContentLength_15 ?_
    refine va_ldcS hx hb hown (str_8 hN) d_Request_checkContentLength_18 ?_
    obtain ⟨r20, s20, hC20, hE⟩ := x_bind2E hE
    refine x_callS hS (W.runV (As := [.ref (G.2.2.2.1 8)]) (rest := []) ⟨hx, hb, hml, hown, hu⟩ (t_Fields_gather l G σ 8 (by decide) r20 s20 hC20) (cwV 1 hu (uw_V mw_773 mw_774 mw_775 mw_66 mw_776) rfl rfl rfl hd_Fields_gather ⟨Nat.le_of_ble_eq_true rfl, Nat.le_of_ble_eq_true rfl⟩) (x_preV hC hS hw (va_recv hK hw (q := (R_Fields, T_Fields, 9)) (ci := 1) rfl (x_at (by decide) (xcl_31 G σ)))) rfl rfl hl.1 rfl (lv_room (Nat.le_of_ble_eq_true rfl)) d_Request_checkContentLength_20 ⟨Nat.le_of_ble_eq_true rfl, Nat.le_of_ble_eq_true rfl⟩) (fun H locs hw hS => ?_)
    refine lv_istore_n hx hb d_Request_checkContentLength_23 rfl hl (by decide) rfl (fun ls hl => ?_)
    have hl : lv_has ls 4 [(1, .int r20), (0, .ref (G.2.1 30))] := hl
    refine lv_aload_n hx hb d_Request_checkContentLength_24 rfl (lv_at hl 1 rfl) ?_
    refine va_get (D := G.1) (cl := xCl) (ci := 2) (v := .ref (G.2.1 31)) (C := R_Request) (T := T_Request) (N := 9) hx hb hu fi_Request hown hK hw 30 (x_at (by decide) (xcl_30 G s20)) rfl 0 (by decide) (hu _ mw_209) (fun _ h9 => h9) rfl d_Request_checkContentLength_25 ?_
    refine lv_iconst (v := (0 : Int32)) hx hb d_Request_checkContentLength_28 (by decide) ?_
    obtain ⟨r29, hC29, hE⟩ := x_bind hE
    refine x_callR (W.runV (As := [.int (0 : Int32)]) (rest := []) ⟨hx, hb, hml, hown, hu⟩ (t_Fields_elementNumber l G s20 (0 : Int32) r29 hC29) (cwV 1 hu (uw_V mw_796 mw_797 mw_798 mw_66 mw_799) rfl rfl rfl hd_Fields_elementNumber ⟨Nat.le_of_ble_eq_true rfl, Nat.le_of_ble_eq_true rfl⟩) (x_preV hC hS hw (va_recv hK hw (q := (R_Fields, T_Fields, 9)) (ci := 1) rfl (x_at (by decide) (xcl_31 G s20)))) rfl rfl hl.1 rfl (lv_room (Nat.le_of_ble_eq_true rfl)) d_Request_checkContentLength_29 ⟨Nat.le_of_ble_eq_true rfl, Nat.le_of_ble_eq_true rfl⟩) ?_
    refine lv_istore_n hx hb d_Request_checkContentLength_32 rfl hl (by decide) rfl (fun ls hl => ?_)
    have hl : lv_has ls 4 [(2, .int r29), (1, .int r20), (0, .ref (G.2.1 30))] := hl
    refine lv_iconst (v := (1 : Int32)) hx hb d_Request_checkContentLength_33 (by decide) ?_
    refine lv_istore_n hx hb d_Request_checkContentLength_34 rfl hl (by decide) rfl (fun ls hl => ?_)
    have hl : lv_has ls 4 [(3, .int (1 : Int32)), (2, .int r29), (1, .int r20), (0, .ref (G.2.1 30))] := hl
    exact jn35 x_fuel _ _ _ _ _ _ _ hE (lv_sub hl [3, 2, 1, 0] rfl) hw hS
  · rw [if_pos hc9] at hE
    refine lv_iconst (v := (0 : Int32)) hx hb d_Request_checkContentLength_12 (by decide) ?_
    obtain ⟨e1, e2⟩ := x_pair hE
    exact W.iret (v := (0 : Int32)) hx hb hr (fun t ht hW => ⟨by rw [e1], by rw [ht, ← e2]; exact hw, hS.F ht⟩) hS.2.2 d_Request_checkContentLength_13

def y_Request_checkExpect : MethodName := ⟨"PlainOrigin$Request", "checkExpect", "()I"⟩
def ws_Request_checkExpect : List Cond := Cond.code y_Request_checkExpect prog_9_method_9_code 3 (some .int) :: UW
theorem hd_Request_checkExpect : y_Request_checkExpect.cls = R_Request ∧ y_Request_checkExpect.cls ≠ "java/lang/invoke/MethodHandle" ∧ y_Request_checkExpect.cls ≠ "java/lang/invoke/VarHandle" ∧ (parseMethodDescriptor y_Request_checkExpect.desc).map (fun d => d.parameters.length) = some 0 := by decide +kernel
theorem d_Request_checkExpect_0 : decode prog_9_method_9_code 0 = .ok (.aload_n 0, 1) := by decide +kernel
theorem d_Request_checkExpect_1 : decode prog_9_method_9_code 1 = .ok (.invokevirtual 108, 3) := by decide +kernel
theorem d_Request_checkExpect_4 : decode prog_9_method_9_code 4 = .ok (.ifCond .eq (5), 3) := by decide +kernel
theorem d_Request_checkExpect_7 : decode prog_9_method_9_code 7 = .ok (.iconst 0, 1) := by decide +kernel
theorem d_Request_checkExpect_8 : decode prog_9_method_9_code 8 = .ok (.ireturn, 1) := by decide +kernel
theorem d_Request_checkExpect_9 : decode prog_9_method_9_code 9 = .ok (.aload_n 0, 1) := by decide +kernel
theorem d_Request_checkExpect_10 : decode prog_9_method_9_code 10 = .ok (.getfield 12, 3) := by decide +kernel
theorem d_Request_checkExpect_13 : decode prog_9_method_9_code 13 = .ok (.ldc 144, 2) := by decide +kernel
theorem d_Request_checkExpect_15 : decode prog_9_method_9_code 15 = .ok (.invokevirtual 132, 3) := by decide +kernel
theorem d_Request_checkExpect_18 : decode prog_9_method_9_code 18 = .ok (.istore_n 1, 1) := by decide +kernel
theorem d_Request_checkExpect_19 : decode prog_9_method_9_code 19 = .ok (.iconst 0, 1) := by decide +kernel
theorem d_Request_checkExpect_20 : decode prog_9_method_9_code 20 = .ok (.istore_n 2, 1) := by decide +kernel
theorem d_Request_checkExpect_21 : decode prog_9_method_9_code 21 = .ok (.iload_n 2, 1) := by decide +kernel
theorem d_Request_checkExpect_22 : decode prog_9_method_9_code 22 = .ok (.iload_n 1, 1) := by decide +kernel
theorem d_Request_checkExpect_23 : decode prog_9_method_9_code 23 = .ok (.if_icmp .ge (26), 3) := by decide +kernel
theorem d_Request_checkExpect_26 : decode prog_9_method_9_code 26 = .ok (.aload_n 0, 1) := by decide +kernel
theorem d_Request_checkExpect_27 : decode prog_9_method_9_code 27 = .ok (.getfield 12, 3) := by decide +kernel
theorem d_Request_checkExpect_30 : decode prog_9_method_9_code 30 = .ok (.iload_n 2, 1) := by decide +kernel
theorem d_Request_checkExpect_31 : decode prog_9_method_9_code 31 = .ok (.ldc 146, 2) := by decide +kernel
theorem d_Request_checkExpect_33 : decode prog_9_method_9_code 33 = .ok (.invokevirtual 137, 3) := by decide +kernel
theorem d_Request_checkExpect_36 : decode prog_9_method_9_code 36 = .ok (.ifCond .ne (7), 3) := by decide +kernel
theorem d_Request_checkExpect_39 : decode prog_9_method_9_code 39 = .ok (.sipush (417), 3) := by decide +kernel
theorem d_Request_checkExpect_42 : decode prog_9_method_9_code 42 = .ok (.ireturn, 1) := by decide +kernel
theorem d_Request_checkExpect_43 : decode prog_9_method_9_code 43 = .ok (.iinc 2 (1), 3) := by decide +kernel
theorem d_Request_checkExpect_46 : decode prog_9_method_9_code 46 = .ok (.goto (-25), 3) := by decide +kernel
theorem d_Request_checkExpect_49 : decode prog_9_method_9_code 49 = .ok (.aload_n 0, 1) := by decide +kernel
theorem d_Request_checkExpect_50 : decode prog_9_method_9_code 50 = .ok (.iload_n 1, 1) := by decide +kernel
theorem d_Request_checkExpect_51 : decode prog_9_method_9_code 51 = .ok (.ifCond .le (21), 3) := by decide +kernel
theorem d_Request_checkExpect_54 : decode prog_9_method_9_code 54 = .ok (.aload_n 0, 1) := by decide +kernel
theorem d_Request_checkExpect_55 : decode prog_9_method_9_code 55 = .ok (.getfield 42, 3) := by decide +kernel
theorem d_Request_checkExpect_58 : decode prog_9_method_9_code 58 = .ok (.ifCond .ne (10), 3) := by decide +kernel
theorem d_Request_checkExpect_61 : decode prog_9_method_9_code 61 = .ok (.aload_n 0, 1) := by decide +kernel
theorem d_Request_checkExpect_62 : decode prog_9_method_9_code 62 = .ok (.getfield 46, 3) := by decide +kernel
theorem d_Request_checkExpect_65 : decode prog_9_method_9_code 65 = .ok (.ifCond .le (7), 3) := by decide +kernel
theorem d_Request_checkExpect_68 : decode prog_9_method_9_code 68 = .ok (.iconst 1, 1) := by decide +kernel
theorem d_Request_checkExpect_69 : decode prog_9_method_9_code 69 = .ok (.goto (4), 3) := by decide +kernel
theorem d_Request_checkExpect_72 : decode prog_9_method_9_code 72 = .ok (.iconst 0, 1) := by decide +kernel
theorem d_Request_checkExpect_73 : decode prog_9_method_9_code 73 = .ok (.putfield 49, 3) := by decide +kernel
theorem d_Request_checkExpect_76 : decode prog_9_method_9_code 76 = .ok (.iconst 0, 1) := by decide +kernel
theorem d_Request_checkExpect_77 : decode prog_9_method_9_code 77 = .ok (.ireturn, 1) := by decide +kernel
def x_Request_checkExpect_68 (σ : St) : Option (Int32 × St) := (x_let (x_updR σ 30 7 (1 : Int32)) (fun (s73 : St) => some ((0 : Int32), s73)))
def x_Request_checkExpect_21 : Nat → Int32 → Int32 → St → Option (Int32 × St)
  | 0, _, _, _ => none
  | n + 1, l1, l2, σ => (if l1 ≤ l2 then (if l1 ≤ 0 then (x_let (x_updR σ 30 7 (0 : Int32)) (fun (s73 : St) => some ((0 : Int32), s73))) else (if (σ.1 30 5) = 0 then (if (σ.1 30 6) ≤ 0 then (x_let (x_updR σ 30 7 (0 : Int32)) (fun (s73 : St) => some ((0 : Int32), s73))) else x_Request_checkExpect_68 σ) else x_Request_checkExpect_68 σ)) else (Option.bind (x_Fields_elementIs l2 11 σ) (fun r33 => (if r33 = 0 then some ((417 : Int32), σ) else (x_let (l2 + (1 : Int32)) (fun (v43 : Int32) => x_Request_checkExpect_21 n l1 v43 σ))))))
def x_Request_checkExpect (σ : St) : Option (Int32 × St) := (Option.bind (x_Request_isOld σ) (fun r1 => (if r1 = 0 then (x_bind2 (x_Fields_gather 10 σ) (fun r15 s15 => x_Request_checkExpect_21 x_fuel r15 (0 : Int32) s15)) else some ((0 : Int32), σ))))
abbrev rm_Request_checkExpect : Room := { frames := 6, cells := 0, slots := 0, locals := 131 }
set_option maxHeartbeats 4000000 in
set_option maxRecDepth 100000 in
theorem t_Request_checkExpect (l : Launch) (G : xG) (σ : St) (r : Int32) (σ' : St) (hE : x_Request_checkExpect σ = some (r, σ')) : Met l y_Request_checkExpect (ws_Request_checkExpect) rm_Request_checkExpect (xP G σ [.ref (G.2.1 30)]) (xQ G (some (.int r)) σ') 0 0 (xA G) := by
  refine Met.ofW (cc := prog_9_method_9_code) (maxL := 3) (ret := (some .int)) (by decide) rfl ?_
  intro p e s m args below meth c s₁ B hml hv
  obtain ⟨rfl, hw, hC⟩ := hv
  have hx := B.exec
  have hb := B.bytes
  have hr := B.returns
  have hu : ∀ w ∈ UW, w.before _ s = true := fun w h => atoms_spec B.pre w (List.mem_cons_of_mem _ h)
  have hown : s.vm.findClass R_Request = some m.cls := findClass_of_methodNamed B.named
  have hlocks := B.notSynchronized
  have hK := hC.1
  have hI := hC.2.1
  have hG := hC.2.2.1
  have hN := hC.2.2.2
  have hS : va_S (xA G) s.heap s.heap [] := va_S.rf
  have jn68 : ∀ (ls : Array Slot) (H : Heap) (locs : List Loc) (σ : St), x_Request_checkExpect_68 σ = some (r, σ') → lv_has ls 3 [(0, .ref (G.2.1 30))] → xw G σ H → va_S (xA G) s.heap H locs → W p l e (headSpec (ws_Request_checkExpect) rm_Request_checkExpect).room s m ([.ref (G.2.1 30)] : List Value).toArray below meth c H locs 0 0 (MQ below (xQ G (some (.int r)) σ') ([.ref (G.2.1 30)] : List Value).toArray s 0 0 (xA G)) (F0 m 68 ls [.ref (G.2.1 30)]) := by
    intro ls H locs σ hE hl hw hS
    unfold x_Request_checkExpect_68 at hE
    refine lv_iconst (v := (1 : Int32)) hx hb d_Request_checkExpect_68 (by decide) ?_
    refine lv_goto (tgt := 73) hx hb d_Request_checkExpect_69 (by decide) ?_
    refine va_put (D := G.1) (cl := xCl) (ci := 2) (v := .int (1 : Int32)) (ty := .boolean) (C := R_Request) (T := T_Request) (N := 9) hx hb hu fi_Request ty_Request tyok_Request nm_Request hown hK hw (x_D hI _) hS 30 (x_at (by decide) (xcl_30 G σ)) rfl 7 (by decide) (hu _ mw_225) (fun _ h9 => h9) rfl (tyok_Request 7 (by decide)) rfl rfl (Nat.le_of_ble_eq_true rfl) d_Request_checkExpect_73 (fun H locs hw _ hS => ?_)
    replace hw := x_setR hw (by decide) rfl
    obtain ⟨s73, e73, hE⟩ := x_letE hE
    rw [← e73] at hw
    refine lv_iconst (v := (0 : Int32)) hx hb d_Request_checkExpect_76 (by decide) ?_
    obtain ⟨e1, e2⟩ := x_pair hE
    exact W.iret (v := (0 : Int32)) hx hb hr (fun t ht hW => ⟨by rw [e1], by rw [ht, ← e2]; exact hw, hS.F ht⟩) hS.2.2 d_Request_checkExpect_77
  have jn21 : ∀ (n : Nat) (ls : Array Slot) (H : Heap) (locs : List Loc) (σ : St) (l1 : Int32) (l2 : Int32), x_Request_checkExpect_21 n l1 l2 σ = some (r, σ') → lv_has ls 3 [(0, .ref (G.2.1 30)), (1, .int l1), (2, .int l2)] → xw G σ H → va_S (xA G) s.heap H locs → W p l e (headSpec (ws_Request_checkExpect) rm_Request_checkExpect).room s m ([.ref (G.2.1 30)] : List Value).toArray below meth c H locs 0 0 (MQ below (xQ G (some (.int r)) σ') ([.ref (G.2.1 30)] : List Value).toArray s 0 0 (xA G)) (F0 m 21 ls []) := by
    intro n
    induction n with
    | zero => intro ls H locs σ l1 l2 hE; rw [x_Request_checkExpect_21] at hE; cases hE
    | succ n ih =>
      intro ls H locs σ l1 l2 hE hl hw hS
      rw [x_Request_checkExpect_21] at hE
      refine lv_iload_n hx hb d_Request_checkExpect_21 rfl (lv_at hl 2 rfl) ?_
      refine lv_iload_n hx hb d_Request_checkExpect_22 rfl (lv_at hl 1 rfl) ?_
      refine lv_icmp_ge (tgt := 49) hx hb d_Request_checkExpect_23 (by decide) (fun hc23 => ?_) (fun hc23 => ?_)
      · rw [if_pos hc23] at hE
        refine lv_aload_n hx hb d_Request_checkExpect_49 rfl (lv_at hl 0 rfl) ?_
        refine lv_iload_n hx hb d_Request_checkExpect_50 rfl (lv_at hl 1 rfl) ?_
        refine lv_if_le (tgt := 72) hx hb d_Request_checkExpect_51 (by decide) (fun hc51 => ?_) (fun hc51 => ?_)
        · rw [if_pos hc51] at hE
          refine lv_iconst (v := (0 : Int32)) hx hb d_Request_checkExpect_72 (by decide) ?_
          refine va_put (D := G.1) (cl := xCl) (ci := 2) (v := .int (0 : Int32)) (ty := .boolean) (C := R_Request) (T := T_Request) (N := 9) hx hb hu fi_Request ty_Request tyok_Request nm_Request hown hK hw (x_D hI _) hS 30 (x_at (by decide) (xcl_30 G σ)) rfl 7 (by decide) (hu _ mw_225) (fun _ h9 => h9) rfl (tyok_Request 7 (by decide)) rfl rfl (Nat.le_of_ble_eq_true rfl) d_Request_checkExpect_73 (fun H locs hw _ hS => ?_)
          replace hw := x_setR hw (by decide) rfl
          obtain ⟨s73, e73, hE⟩ := x_letE hE
          rw [← e73] at hw
          refine lv_iconst (v := (0 : Int32)) hx hb d_Request_checkExpect_76 (by decide) ?_
          obtain ⟨e1, e2⟩ := x_pair hE
          exact W.iret (v := (0 : Int32)) hx hb hr (fun t ht hW => ⟨by rw [e1], by rw [ht, ← e2]; exact hw, hS.F ht⟩) hS.2.2 d_Request_checkExpect_77
        · rw [if_neg hc51] at hE
          refine lv_aload_n hx hb d_Request_checkExpect_54 rfl (lv_at hl 0 rfl) ?_
          refine va_get (D := G.1) (cl := xCl) (ci := 2) (v := .int (σ.1 30 5)) (C := R_Request) (T := T_Request) (N := 9) hx hb hu fi_Request hown hK hw 30 (x_at (by decide) (xcl_30 G σ)) rfl 5 (by decide) (hu _ mw_221) (fun _ h9 => h9) rfl d_Request_checkExpect_55 ?_
          refine lv_if_ne (tgt := 68) hx hb d_Request_checkExpect_58 (by decide) (fun hc58 => ?_) (fun hc58 => ?_)
          · rw [if_neg hc58] at hE
            exact jn68 _ _ _ _ hE (lv_sub hl [0] rfl) hw hS
          · rw [if_pos hc58] at hE
            refine lv_aload_n hx hb d_Request_checkExpect_61 rfl (lv_at hl 0 rfl) ?_
            refine va_get (D := G.1) (cl := xCl) (ci := 2) (v := .int (σ.1 30 6)) (C := R_Request) (T := T_Request) (N := 9) hx hb hu fi_Request hown hK hw 30 (x_at (by decide) (xcl_30 G σ)) rfl 6 (by decide) (hu _ mw_223) (fun _ h9 => h9) rfl d_Request_checkExpect_62 ?_
            refine lv_if_le (tgt := 72) hx hb d_Request_checkExpect_65 (by decide) (fun hc65 => ?_) (fun hc65 => ?_)
            · rw [if_pos hc65] at hE
              refine lv_iconst (v := (0 : Int32)) hx hb d_Request_checkExpect_72 (by decide) ?_
              refine va_put (D := G.1) (cl := xCl) (ci := 2) (v := .int (0 : Int32)) (ty := .boolean) (C := R_Request) (T := T_Request) (N := 9) hx hb hu fi_Request ty_Request tyok_Request nm_Request hown hK hw (x_D hI _) hS 30 (x_at (by decide) (xcl_30 G σ)) rfl 7 (by decide) (hu _ mw_225) (fun _ h9 => h9) rfl (tyok_Request 7 (by decide)) rfl rfl (Nat.le_of_ble_eq_true rfl) d_Request_checkExpect_73 (fun H locs hw _ hS => ?_)
              replace hw := x_setR hw (by decide) rfl
              obtain ⟨s73, e73, hE⟩ := x_letE hE
              rw [← e73] at hw
              refine lv_iconst (v := (0 : Int32)) hx hb d_Request_checkExpect_76 (by decide) ?_
              obtain ⟨e1, e2⟩ := x_pair hE
              exact W.iret (v := (0 : Int32)) hx hb hr (fun t ht hW => ⟨by rw [e1], by rw [ht, ← e2]; exact hw, hS.F ht⟩) hS.2.2 d_Request_checkExpect_77
            · rw [if_neg hc65] at hE
              exact jn68 _ _ _ _ hE (lv_sub hl [0] rfl) hw hS
      · rw [if_neg hc23] at hE
        refine lv_aload_n hx hb d_Request_checkExpect_26 rfl (lv_at hl 0 rfl) ?_
        refine va_get (D := G.1) (cl := xCl) (ci := 2) (v := .ref (G.2.1 31)) (C := R_Request) (T := T_Request) (N := 9) hx hb hu fi_Request hown hK hw 30 (x_at (by decide) (xcl_30 G σ)) rfl 0 (by decide) (hu _ mw_209) (fun _ h9 => h9) rfl d_Request_checkExpect_27 ?_
        refine lv_iload_n hx hb d_Request_checkExpect_30 rfl (lv_at hl 2 rfl) ?_
        refine va_ldcS hx hb hown (str_11 hN) d_Request_checkExpect_31 ?_
        obtain ⟨r33, hC33, hE⟩ := x_bind hE
        refine x_callR (W.runV (As := [.int l2, .ref (G.2.2.2.1 11)]) (rest := []) ⟨hx, hb, hml, hown, hu⟩ (t_Fields_elementIs l G σ l2 11 (by decide) r33 hC33) (cwV 2 hu (uw_V mw_788 mw_789 mw_790 mw_66 mw_791) rfl rfl rfl hd_Fields_elementIs ⟨Nat.le_of_ble_eq_true rfl, Nat.le_of_ble_eq_true rfl⟩) (x_preV hC hS hw (va_recv hK hw (q := (R_Fields, T_Fields, 9)) (ci := 1) rfl (x_at (by decide) (xcl_31 G σ)))) rfl rfl hl.1 rfl (lv_room (Nat.le_of_ble_eq_true rfl)) d_Request_checkExpect_33 ⟨Nat.le_of_ble_eq_true rfl, Nat.le_of_ble_eq_true rfl⟩) ?_
        refine lv_if_ne (tgt := 43) hx hb d_Request_checkExpect_36 (by decide) (fun hc36 => ?_) (fun hc36 => ?_)
        · rw [if_neg hc36] at hE
          obtain ⟨v43, e43, hE⟩ := x_letE hE
          refine lv_iinc hx hb d_Request_checkExpect_43 hl (k := 2) rfl (x_inc v43 e43 (by decide)) (by decide) rfl (fun ls hl => ?_)
          have hl : lv_has ls 3 [(2, .int v43), (0, .ref (G.2.1 30)), (1, .int l1)] := hl
          refine lv_goto (tgt := 21) hx hb d_Request_checkExpect_46 (by decide) ?_
          exact ih _ _ _ _ _ _ hE (lv_sub hl [1, 2, 0] rfl) hw hS
        · rw [if_pos hc36] at hE
          refine lv_sipush (v := (417 : Int32)) hx hb d_Request_checkExpect_39 (by decide) ?_
          obtain ⟨e1, e2⟩ := x_pair hE
          exact W.iret (v := (417 : Int32)) hx hb hr (fun t ht hW => ⟨by rw [e1], by rw [ht, ← e2]; exact hw, hS.F ht⟩) hS.2.2 d_Request_checkExpect_42
  have hl := lv_entry ([.ref (G.2.1 30)]) (n := 3) (Nat.le_of_ble_eq_true rfl)
  rw [lg_entry_eq]
  generalize (lg_sl ([.ref (G.2.1 30)]) ++ List.replicate (3 - (lg_sl ([.ref (G.2.1 30)])).length) Slot.unset).toArray = ls at hl ⊢
  have hl : lv_has ls 3 [(0, .ref (G.2.1 30))] := hl
  unfold x_Request_checkExpect at hE
  refine lv_aload_n hx hb d_Request_checkExpect_0 rfl (lv_at hl 0 rfl) ?_
  obtain ⟨r1, hC1, hE⟩ := x_bind hE
  refine x_callR (W.runV (As := []) (rest := []) ⟨hx, hb, hml, hown, hu⟩ (t_Request_isOld l G σ r1 hC1) (cwV 0 hu (uw_V mw_755 mw_756 mw_757 mw_65 mw_758) rfl rfl rfl hd_Request_isOld ⟨Nat.le_of_ble_eq_true rfl, Nat.le_of_ble_eq_true rfl⟩) (x_preV hC hS hw (va_recv hK hw (q := (R_Request, T_Request, 9)) (ci := 2) rfl (x_at (by decide) (xcl_30 G σ)))) rfl rfl hl.1 rfl (lv_room (Nat.le_of_ble_eq_true rfl)) d_Request_checkExpect_1 ⟨Nat.le_of_ble_eq_true rfl, Nat.le_of_ble_eq_true rfl⟩) ?_
  refine lv_if_eq (tgt := 9) hx hb d_Request_checkExpect_4 (by decide) (fun hc4 => ?_) (fun hc4 => ?_)
  · rw [if_pos hc4] at hE
    refine lv_aload_n hx hb d_Request_checkExpect_9 rfl (lv_at hl 0 rfl) ?_
    refine va_get (D := G.1) (cl := xCl) (ci := 2) (v := .ref (G.2.1 31)) (C := R_Request) (T := T_Request) (N := 9) hx hb hu fi_Request hown hK hw 30 (x_at (by decide) (xcl_30 G σ)) rfl 0 (by decide) (hu _ mw_209) (fun _ h9 => h9) rfl d_Request_checkExpect_10 ?_
    refine va_ldcS hx hb hown (str_10 hN) d_Request_checkExpect_13 ?_
    obtain ⟨r15, s15, hC15, hE⟩ := x_bind2E hE
    refine x_callS hS (W.runV (As := [.ref (G.2.2.2.1 10)]) (rest := []) ⟨hx, hb, hml, hown, hu⟩ (t_Fields_gather l G σ 10 (by decide) r15 s15 hC15) (cwV 1 hu (uw_V mw_773 mw_774 mw_775 mw_66 mw_776) rfl rfl rfl hd_Fields_gather ⟨Nat.le_of_ble_eq_true rfl, Nat.le_of_ble_eq_true rfl⟩) (x_preV hC hS hw (va_recv hK hw (q := (R_Fields, T_Fields, 9)) (ci := 1) rfl (x_at (by decide) (xcl_31 G σ)))) rfl rfl hl.1 rfl (lv_room (Nat.le_of_ble_eq_true rfl)) d_Request_checkExpect_15 ⟨Nat.le_of_ble_eq_true rfl, Nat.le_of_ble_eq_true rfl⟩) (fun H locs hw hS => ?_)
    refine lv_istore_n hx hb d_Request_checkExpect_18 rfl hl (by decide) rfl (fun ls hl => ?_)
    have hl : lv_has ls 3 [(1, .int r15), (0, .ref (G.2.1 30))] := hl
    refine lv_iconst (v := (0 : Int32)) hx hb d_Request_checkExpect_19 (by decide) ?_
    refine lv_istore_n hx hb d_Request_checkExpect_20 rfl hl (by decide) rfl (fun ls hl => ?_)
    have hl : lv_has ls 3 [(2, .int (0 : Int32)), (1, .int r15), (0, .ref (G.2.1 30))] := hl
    exact jn21 x_fuel _ _ _ _ _ _ hE (lv_sub hl [2, 1, 0] rfl) hw hS
  · rw [if_neg hc4] at hE
    refine lv_iconst (v := (0 : Int32)) hx hb d_Request_checkExpect_7 (by decide) ?_
    obtain ⟨e1, e2⟩ := x_pair hE
    exact W.iret (v := (0 : Int32)) hx hb hr (fun t ht hW => ⟨by rw [e1], by rw [ht, ← e2]; exact hw, hS.F ht⟩) hS.2.2 d_Request_checkExpect_8

def y_Request_readConnection : MethodName := ⟨"PlainOrigin$Request", "readConnection", "()V"⟩
def ws_Request_readConnection : List Cond := Cond.code y_Request_readConnection prog_9_method_10_code 1 none :: UW
theorem hd_Request_readConnection : y_Request_readConnection.cls = R_Request ∧ y_Request_readConnection.cls ≠ "java/lang/invoke/MethodHandle" ∧ y_Request_readConnection.cls ≠ "java/lang/invoke/VarHandle" ∧ (parseMethodDescriptor y_Request_readConnection.desc).map (fun d => d.parameters.length) = some 0 := by decide +kernel
theorem d_Request_readConnection_0 : decode prog_9_method_10_code 0 = .ok (.aload_n 0, 1) := by decide +kernel
theorem d_Request_readConnection_1 : decode prog_9_method_10_code 1 = .ok (.aload_n 0, 1) := by decide +kernel
theorem d_Request_readConnection_2 : decode prog_9_method_10_code 2 = .ok (.getfield 12, 3) := by decide +kernel
theorem d_Request_readConnection_5 : decode prog_9_method_10_code 5 = .ok (.ldc 148, 2) := by decide +kernel
theorem d_Request_readConnection_7 : decode prog_9_method_10_code 7 = .ok (.ldc 150, 2) := by decide +kernel
theorem d_Request_readConnection_9 : decode prog_9_method_10_code 9 = .ok (.invokevirtual 152, 3) := by decide +kernel
theorem d_Request_readConnection_12 : decode prog_9_method_10_code 12 = .ok (.ifCond .ne (24), 3) := by decide +kernel
theorem d_Request_readConnection_15 : decode prog_9_method_10_code 15 = .ok (.aload_n 0, 1) := by decide +kernel
theorem d_Request_readConnection_16 : decode prog_9_method_10_code 16 = .ok (.invokevirtual 108, 3) := by decide +kernel
theorem d_Request_readConnection_19 : decode prog_9_method_10_code 19 = .ok (.ifCond .eq (21), 3) := by decide +kernel
theorem d_Request_readConnection_22 : decode prog_9_method_10_code 22 = .ok (.aload_n 0, 1) := by decide +kernel
theorem d_Request_readConnection_23 : decode prog_9_method_10_code 23 = .ok (.getfield 12, 3) := by decide +kernel
theorem d_Request_readConnection_26 : decode prog_9_method_10_code 26 = .ok (.ldc 148, 2) := by decide +kernel
theorem d_Request_readConnection_28 : decode prog_9_method_10_code 28 = .ok (.ldc 156, 2) := by decide +kernel
theorem d_Request_readConnection_30 : decode prog_9_method_10_code 30 = .ok (.invokevirtual 152, 3) := by decide +kernel
theorem d_Request_readConnection_33 : decode prog_9_method_10_code 33 = .ok (.ifCond .ne (7), 3) := by decide +kernel
theorem d_Request_readConnection_36 : decode prog_9_method_10_code 36 = .ok (.iconst 1, 1) := by decide +kernel
theorem d_Request_readConnection_37 : decode prog_9_method_10_code 37 = .ok (.goto (4), 3) := by decide +kernel
theorem d_Request_readConnection_40 : decode prog_9_method_10_code 40 = .ok (.iconst 0, 1) := by decide +kernel
theorem d_Request_readConnection_41 : decode prog_9_method_10_code 41 = .ok (.putfield 52, 3) := by decide +kernel
theorem d_Request_readConnection_44 : decode prog_9_method_10_code 44 = .ok (.return_, 1) := by decide +kernel
def x_Request_readConnection (σ : St) : Option St := (x_bind2 (x_Fields_hasElement 12 13 σ) (fun r9 s9 => (if r9 = 0 then (Option.bind (x_Request_isOld s9) (fun r16 => (if r16 = 0 then (x_let (x_updR s9 30 8 (0 : Int32)) (fun (s41 : St) => some s41)) else (x_bind2 (x_Fields_hasElement 12 14 s9) (fun r30 s30 => (if r30 = 0 then (x_let (x_updR s30 30 8 (1 : Int32)) (fun (s41 : St) => some s41)) else (x_let (x_updR s30 30 8 (0 : Int32)) (fun (s41 : St) => some s41)))))))) else (x_let (x_updR s9 30 8 (1 : Int32)) (fun (s41 : St) => some s41)))))
abbrev rm_Request_readConnection : Room := { frames := 7, cells := 0, slots := 0, locals := 155 }
set_option maxHeartbeats 4000000 in
set_option maxRecDepth 100000 in
theorem t_Request_readConnection (l : Launch) (G : xG) (σ : St) (σ' : St) (hE : x_Request_readConnection σ = some σ') : Met l y_Request_readConnection (ws_Request_readConnection) rm_Request_readConnection (xP G σ [.ref (G.2.1 30)]) (xQ G none σ') 0 0 (xA G) := by
  refine Met.ofW (cc := prog_9_method_10_code) (maxL := 1) (ret := none) (by decide) rfl ?_
  intro p e s m args below meth c s₁ B hml hv
  obtain ⟨rfl, hw, hC⟩ := hv
  have hx := B.exec
  have hb := B.bytes
  have hr := B.returns
  have hu : ∀ w ∈ UW, w.before _ s = true := fun w h => atoms_spec B.pre w (List.mem_cons_of_mem _ h)
  have hown : s.vm.findClass R_Request = some m.cls := findClass_of_methodNamed B.named
  have hlocks := B.notSynchronized
  have hK := hC.1
  have hI := hC.2.1
  have hG := hC.2.2.1
  have hN := hC.2.2.2
  have hS : va_S (xA G) s.heap s.heap [] := va_S.rf
  have hl := lv_entry ([.ref (G.2.1 30)]) (n := 1) (Nat.le_of_ble_eq_true rfl)
  rw [lg_entry_eq]
  generalize (lg_sl ([.ref (G.2.1 30)]) ++ List.replicate (1 - (lg_sl ([.ref (G.2.1 30)])).length) Slot.unset).toArray = ls at hl ⊢
  have hl : lv_has ls 1 [(0, .ref (G.2.1 30))] := hl
  unfold x_Request_readConnection at hE
  refine lv_aload_n hx hb d_Request_readConnection_0 rfl (lv_at hl 0 rfl) ?_
  refine lv_aload_n hx hb d_Request_readConnection_1 rfl (lv_at hl 0 rfl) ?_
  refine va_get (D := G.1) (cl := xCl) (ci := 2) (v := .ref (G.2.1 31)) (C := R_Request) (T := T_Request) (N := 9) hx hb hu fi_Request hown hK hw 30 (x_at (by decide) (xcl_30 G σ)) rfl 0 (by decide) (hu _ mw_209) (fun _ h9 => h9) rfl d_Request_readConnection_2 ?_
  refine va_ldcS hx hb hown (str_12 hN) d_Request_readConnection_5 ?_
  refine va_ldcS hx hb hown (str_13 hN) d_Request_readConnection_7 ?_
  obtain ⟨r9, s9, hC9, hE⟩ := x_bind2E hE
  refine x_callS hS (W.runV (As := [.ref (G.2.2.2.1 12), .ref (G.2.2.2.1 13)]) (rest := [.ref (G.2.1 30)]) ⟨hx, hb, hml, hown, hu⟩ (t_Fields_hasElement l G σ 12 13 (by decide) (by decide) r9 s9 hC9) (cwV 2 hu (uw_V mw_815 mw_816 mw_817 mw_66 mw_818) rfl rfl rfl hd_Fields_hasElement ⟨Nat.le_of_ble_eq_true rfl, Nat.le_of_ble_eq_true rfl⟩) (x_preV hC hS hw (va_recv hK hw (q := (R_Fields, T_Fields, 9)) (ci := 1) rfl (x_at (by decide) (xcl_31 G σ)))) rfl rfl hl.1 rfl (lv_room (Nat.le_of_ble_eq_true rfl)) d_Request_readConnection_9 ⟨Nat.le_of_ble_eq_true rfl, Nat.le_of_ble_eq_true rfl⟩) (fun H locs hw hS => ?_)
  refine lv_if_ne (tgt := 36) hx hb d_Request_readConnection_12 (by decide) (fun hc12 => ?_) (fun hc12 => ?_)
  · rw [if_neg hc12] at hE
    refine lv_iconst (v := (1 : Int32)) hx hb d_Request_readConnection_36 (by decide) ?_
    refine lv_goto (tgt := 41) hx hb d_Request_readConnection_37 (by decide) ?_
    refine va_put (D := G.1) (cl := xCl) (ci := 2) (v := .int (1 : Int32)) (ty := .boolean) (C := R_Request) (T := T_Request) (N := 9) hx hb hu fi_Request ty_Request tyok_Request nm_Request hown hK hw (x_D hI _) hS 30 (x_at (by decide) (xcl_30 G s9)) rfl 8 (by decide) (hu _ mw_227) (fun _ h9 => h9) rfl (tyok_Request 8 (by decide)) rfl rfl (Nat.le_of_ble_eq_true rfl) d_Request_readConnection_41 (fun H locs hw _ hS => ?_)
    replace hw := x_setR hw (by decide) rfl
    obtain ⟨s41, e41, hE⟩ := x_letE hE
    rw [← e41] at hw
    have e1 := Option.some.inj hE
    exact W.vret hx hb hr (fun t ht hW => ⟨rfl, by rw [ht, ← e1]; exact hw, hS.F ht⟩) hS.2.2 d_Request_readConnection_44
  · rw [if_pos hc12] at hE
    refine lv_aload_n hx hb d_Request_readConnection_15 rfl (lv_at hl 0 rfl) ?_
    obtain ⟨r16, hC16, hE⟩ := x_bind hE
    refine x_callR (W.runV (As := []) (rest := [.ref (G.2.1 30)]) ⟨hx, hb, hml, hown, hu⟩ (t_Request_isOld l G s9 r16 hC16) (cwV 0 hu (uw_V mw_755 mw_756 mw_757 mw_65 mw_758) rfl rfl rfl hd_Request_isOld ⟨Nat.le_of_ble_eq_true rfl, Nat.le_of_ble_eq_true rfl⟩) (x_preV hC hS hw (va_recv hK hw (q := (R_Request, T_Request, 9)) (ci := 2) rfl (x_at (by decide) (xcl_30 G s9)))) rfl rfl hl.1 rfl (lv_room (Nat.le_of_ble_eq_true rfl)) d_Request_readConnection_16 ⟨Nat.le_of_ble_eq_true rfl, Nat.le_of_ble_eq_true rfl⟩) ?_
    refine lv_if_eq (tgt := 40) hx hb d_Request_readConnection_19 (by decide) (fun hc19 => ?_) (fun hc19 => ?_)
    · rw [if_pos hc19] at hE
      refine lv_iconst (v := (0 : Int32)) hx hb d_Request_readConnection_40 (by decide) ?_
      refine va_put (D := G.1) (cl := xCl) (ci := 2) (v := .int (0 : Int32)) (ty := .boolean) (C := R_Request) (T := T_Request) (N := 9) hx hb hu fi_Request ty_Request tyok_Request nm_Request hown hK hw (x_D hI _) hS 30 (x_at (by decide) (xcl_30 G s9)) rfl 8 (by decide) (hu _ mw_227) (fun _ h9 => h9) rfl (tyok_Request 8 (by decide)) rfl rfl (Nat.le_of_ble_eq_true rfl) d_Request_readConnection_41 (fun H locs hw _ hS => ?_)
      replace hw := x_setR hw (by decide) rfl
      obtain ⟨s41, e41, hE⟩ := x_letE hE
      rw [← e41] at hw
      have e1 := Option.some.inj hE
      exact W.vret hx hb hr (fun t ht hW => ⟨rfl, by rw [ht, ← e1]; exact hw, hS.F ht⟩) hS.2.2 d_Request_readConnection_44
    · rw [if_neg hc19] at hE
      refine lv_aload_n hx hb d_Request_readConnection_22 rfl (lv_at hl 0 rfl) ?_
      refine va_get (D := G.1) (cl := xCl) (ci := 2) (v := .ref (G.2.1 31)) (C := R_Request) (T := T_Request) (N := 9) hx hb hu fi_Request hown hK hw 30 (x_at (by decide) (xcl_30 G s9)) rfl 0 (by decide) (hu _ mw_209) (fun _ h9 => h9) rfl d_Request_readConnection_23 ?_
      refine va_ldcS hx hb hown (str_12 hN) d_Request_readConnection_26 ?_
      refine va_ldcS hx hb hown (str_14 hN) d_Request_readConnection_28 ?_
      obtain ⟨r30, s30, hC30, hE⟩ := x_bind2E hE
      refine x_callS hS (W.runV (As := [.ref (G.2.2.2.1 12), .ref (G.2.2.2.1 14)]) (rest := [.ref (G.2.1 30)]) ⟨hx, hb, hml, hown, hu⟩ (t_Fields_hasElement l G s9 12 14 (by decide) (by decide) r30 s30 hC30) (cwV 2 hu (uw_V mw_815 mw_816 mw_817 mw_66 mw_818) rfl rfl rfl hd_Fields_hasElement ⟨Nat.le_of_ble_eq_true rfl, Nat.le_of_ble_eq_true rfl⟩) (x_preV hC hS hw (va_recv hK hw (q := (R_Fields, T_Fields, 9)) (ci := 1) rfl (x_at (by decide) (xcl_31 G s9)))) rfl rfl hl.1 rfl (lv_room (Nat.le_of_ble_eq_true rfl)) d_Request_readConnection_30 ⟨Nat.le_of_ble_eq_true rfl, Nat.le_of_ble_eq_true rfl⟩) (fun H locs hw hS => ?_)
      refine lv_if_ne (tgt := 40) hx hb d_Request_readConnection_33 (by decide) (fun hc33 => ?_) (fun hc33 => ?_)
      · rw [if_neg hc33] at hE
        refine lv_iconst (v := (0 : Int32)) hx hb d_Request_readConnection_40 (by decide) ?_
        refine va_put (D := G.1) (cl := xCl) (ci := 2) (v := .int (0 : Int32)) (ty := .boolean) (C := R_Request) (T := T_Request) (N := 9) hx hb hu fi_Request ty_Request tyok_Request nm_Request hown hK hw (x_D hI _) hS 30 (x_at (by decide) (xcl_30 G s30)) rfl 8 (by decide) (hu _ mw_227) (fun _ h9 => h9) rfl (tyok_Request 8 (by decide)) rfl rfl (Nat.le_of_ble_eq_true rfl) d_Request_readConnection_41 (fun H locs hw _ hS => ?_)
        replace hw := x_setR hw (by decide) rfl
        obtain ⟨s41, e41, hE⟩ := x_letE hE
        rw [← e41] at hw
        have e1 := Option.some.inj hE
        exact W.vret hx hb hr (fun t ht hW => ⟨rfl, by rw [ht, ← e1]; exact hw, hS.F ht⟩) hS.2.2 d_Request_readConnection_44
      · rw [if_pos hc33] at hE
        refine lv_iconst (v := (1 : Int32)) hx hb d_Request_readConnection_36 (by decide) ?_
        refine lv_goto (tgt := 41) hx hb d_Request_readConnection_37 (by decide) ?_
        refine va_put (D := G.1) (cl := xCl) (ci := 2) (v := .int (1 : Int32)) (ty := .boolean) (C := R_Request) (T := T_Request) (N := 9) hx hb hu fi_Request ty_Request tyok_Request nm_Request hown hK hw (x_D hI _) hS 30 (x_at (by decide) (xcl_30 G s30)) rfl 8 (by decide) (hu _ mw_227) (fun _ h9 => h9) rfl (tyok_Request 8 (by decide)) rfl rfl (Nat.le_of_ble_eq_true rfl) d_Request_readConnection_41 (fun H locs hw _ hS => ?_)
        replace hw := x_setR hw (by decide) rfl
        obtain ⟨s41, e41, hE⟩ := x_letE hE
        rw [← e41] at hw
        have e1 := Option.some.inj hE
        exact W.vret hx hb hr (fun t ht hW => ⟨rfl, by rw [ht, ← e1]; exact hw, hS.F ht⟩) hS.2.2 d_Request_readConnection_44
