def y_Reader_restart : MethodName := ⟨"PlainOrigin$Reader", "restart", "()V"⟩
def ws_Reader_restart : List Cond := Cond.code y_Reader_restart prog_8_method_2_code 1 none :: UW
theorem hd_Reader_restart : y_Reader_restart.cls = R_Reader ∧ y_Reader_restart.cls ≠ "java/lang/invoke/MethodHandle" ∧ y_Reader_restart.cls ≠ "java/lang/invoke/VarHandle" ∧ (parseMethodDescriptor y_Reader_restart.desc).map (fun d => d.parameters.length) = some 0 := by decide +kernel
theorem d_Reader_restart_0 : decode prog_8_method_2_code 0 = .ok (.aload_n 0, 1) := by decide +kernel
theorem d_Reader_restart_1 : decode prog_8_method_2_code 1 = .ok (.getfield 14, 3) := by decide +kernel
theorem d_Reader_restart_4 : decode prog_8_method_2_code 4 = .ok (.invokevirtual 31, 3) := by decide +kernel
theorem d_Reader_restart_7 : decode prog_8_method_2_code 7 = .ok (.aload_n 0, 1) := by decide +kernel
theorem d_Reader_restart_8 : decode prog_8_method_2_code 8 = .ok (.getfield 23, 3) := by decide +kernel
theorem d_Reader_restart_11 : decode prog_8_method_2_code 11 = .ok (.invokevirtual 34, 3) := by decide +kernel
theorem d_Reader_restart_14 : decode prog_8_method_2_code 14 = .ok (.aload_n 0, 1) := by decide +kernel
theorem d_Reader_restart_15 : decode prog_8_method_2_code 15 = .ok (.iconst 0, 1) := by decide +kernel
theorem d_Reader_restart_16 : decode prog_8_method_2_code 16 = .ok (.putfield 27, 3) := by decide +kernel
theorem d_Reader_restart_19 : decode prog_8_method_2_code 19 = .ok (.aload_n 0, 1) := by decide +kernel
theorem d_Reader_restart_20 : decode prog_8_method_2_code 20 = .ok (.iconst 0, 1) := by decide +kernel
theorem d_Reader_restart_21 : decode prog_8_method_2_code 21 = .ok (.putfield 35, 3) := by decide +kernel
theorem d_Reader_restart_24 : decode prog_8_method_2_code 24 = .ok (.aload_n 0, 1) := by decide +kernel
theorem d_Reader_restart_25 : decode prog_8_method_2_code 25 = .ok (.iconst 0, 1) := by decide +kernel
theorem d_Reader_restart_26 : decode prog_8_method_2_code 26 = .ok (.putfield 39, 3) := by decide +kernel
theorem d_Reader_restart_29 : decode prog_8_method_2_code 29 = .ok (.aload_n 0, 1) := by decide +kernel
theorem d_Reader_restart_30 : decode prog_8_method_2_code 30 = .ok (.iconst 0, 1) := by decide +kernel
theorem d_Reader_restart_31 : decode prog_8_method_2_code 31 = .ok (.putfield 42, 3) := by decide +kernel
theorem d_Reader_restart_34 : decode prog_8_method_2_code 34 = .ok (.return_, 1) := by decide +kernel
def x_Reader_restart (σ : St) : Option St := (Option.bind (x_Bytes_clear 28 σ) (fun s4 => (Option.bind (x_Request_clear s4) (fun s11 => (x_let (x_updR s11 27 2 (0 : Int32)) (fun (s16 : St) => (x_let (x_updR s16 27 3 (0 : Int32)) (fun (s21 : St) => (x_let (x_updR s21 27 4 (0 : Int32)) (fun (s26 : St) => (x_let (x_updR s26 27 5 (0 : Int32)) (fun (s31 : St) => some s31))))))))))))
abbrev rm_Reader_restart : Room := { frames := 3, cells := 0, slots := 0, locals := 60 }
set_option maxHeartbeats 4000000 in
set_option maxRecDepth 100000 in
theorem t_Reader_restart (l : Launch) (G : xG) (σ : St) (σ' : St) (hE : x_Reader_restart σ = some σ') : Met l y_Reader_restart (ws_Reader_restart) rm_Reader_restart (xP G σ [.ref (G.2.1 27)]) (xQ G none σ') 0 0 (xA G) := by
  refine Met.ofW (cc := prog_8_method_2_code) (maxL := 1) (ret := none) (by decide) rfl ?_
  intro p e s m args below meth c s₁ B hml hv
  obtain ⟨rfl, hw, hC⟩ := hv
  have hx := B.exec
  have hb := B.bytes
  have hr := B.returns
  have hu : ∀ w ∈ UW, w.before _ s = true := fun w h => atoms_spec B.pre w (List.mem_cons_of_mem _ h)
  have hown : s.vm.findClass R_Reader = some m.cls := findClass_of_methodNamed B.named
  have hlocks := B.notSynchronized
  have hK := hC.1
  have hI := hC.2.1
  have hG := hC.2.2.1
  have hN := hC.2.2.2
  have hS : va_S (xA G) s.heap s.heap [] := va_S.rf
  have hl := lv_entry ([.ref (G.2.1 27)]) (n := 1) (Nat.le_of_ble_eq_true rfl)
  rw [lg_entry_eq]
  generalize (lg_sl ([.ref (G.2.1 27)]) ++ List.replicate (1 - (lg_sl ([.ref (G.2.1 27)])).length) Slot.unset).toArray = ls at hl ⊢
  have hl : lv_has ls 1 [(0, .ref (G.2.1 27))] := hl
  unfold x_Reader_restart at hE
  refine lv_aload_n hx hb d_Reader_restart_0 rfl (lv_at hl 0 rfl) ?_
  refine va_get (D := G.1) (cl := xCl) (ci := 3) (v := .ref (G.2.1 28)) (C := R_Reader) (T := T_Reader) (N := 6) hx hb hu fi_Reader hown hK hw 27 (x_at (by decide) (xcl_27 G σ)) rfl 0 (by decide) (hu _ mw_248) (fun _ h9 => h9) rfl d_Reader_restart_1 ?_
  obtain ⟨s4, hC4, hE⟩ := x_bind hE
  refine x_callV hS (W.runV (As := []) (rest := []) ⟨hx, hb, hml, hown, hu⟩ (t_Bytes_clear l G σ 28 (by decide) s4 hC4) (cwV 0 hu (uw_V mw_385 mw_386 mw_387 mw_63 mw_388) rfl rfl rfl hd_Bytes_clear ⟨Nat.le_of_ble_eq_true rfl, Nat.le_of_ble_eq_true rfl⟩) (x_preV hC hS hw (va_recv hK hw (q := (R_Bytes, T_Bytes, 2)) (ci := 0) rfl (x_at (by decide) (xcl_28 G σ)))) rfl rfl hl.1 rfl (lv_room (Nat.le_of_ble_eq_true rfl)) d_Reader_restart_4 ⟨Nat.le_of_ble_eq_true rfl, Nat.le_of_ble_eq_true rfl⟩) (fun H locs hw hS => ?_)
  refine lv_aload_n hx hb d_Reader_restart_7 rfl (lv_at hl 0 rfl) ?_
  refine va_get (D := G.1) (cl := xCl) (ci := 3) (v := .ref (G.2.1 30)) (C := R_Reader) (T := T_Reader) (N := 6) hx hb hu fi_Reader hown hK hw 27 (x_at (by decide) (xcl_27 G s4)) rfl 1 (by decide) (hu _ mw_249) (fun _ h9 => h9) rfl d_Reader_restart_8 ?_
  obtain ⟨s11, hC11, hE⟩ := x_bind hE
  refine x_callV hS (W.runV (As := []) (rest := []) ⟨hx, hb, hml, hown, hu⟩ (t_Request_clear l G s4 s11 hC11) (cwV 0 hu (uw_V mw_389 mw_390 mw_391 mw_65 mw_392) rfl rfl rfl hd_Request_clear ⟨Nat.le_of_ble_eq_true rfl, Nat.le_of_ble_eq_true rfl⟩) (x_preV hC hS hw (va_recv hK hw (q := (R_Request, T_Request, 9)) (ci := 2) rfl (x_at (by decide) (xcl_30 G s4)))) rfl rfl hl.1 rfl (lv_room (Nat.le_of_ble_eq_true rfl)) d_Reader_restart_11 ⟨Nat.le_of_ble_eq_true rfl, Nat.le_of_ble_eq_true rfl⟩) (fun H locs hw hS => ?_)
  refine lv_aload_n hx hb d_Reader_restart_14 rfl (lv_at hl 0 rfl) ?_
  refine lv_iconst (v := (0 : Int32)) hx hb d_Reader_restart_15 (by decide) ?_
  refine va_put (D := G.1) (cl := xCl) (ci := 3) (v := .int (0 : Int32)) (ty := .int) (C := R_Reader) (T := T_Reader) (N := 6) hx hb hu fi_Reader ty_Reader tyok_Reader nm_Reader hown hK hw (x_D hI _) hS 27 (x_at (by decide) (xcl_27 G s11)) rfl 2 (by decide) (hu _ mw_251) (fun _ h9 => h9) rfl (tyok_Reader 2 (by decide)) rfl rfl (Nat.le_of_ble_eq_true rfl) d_Reader_restart_16 (fun H locs hw _ hS => ?_)
  replace hw := x_setR hw (by decide) rfl
  obtain ⟨s16, e16, hE⟩ := x_letE hE
  rw [← e16] at hw
  refine lv_aload_n hx hb d_Reader_restart_19 rfl (lv_at hl 0 rfl) ?_
  refine lv_iconst (v := (0 : Int32)) hx hb d_Reader_restart_20 (by decide) ?_
  refine va_put (D := G.1) (cl := xCl) (ci := 3) (v := .int (0 : Int32)) (ty := .boolean) (C := R_Reader) (T := T_Reader) (N := 6) hx hb hu fi_Reader ty_Reader tyok_Reader nm_Reader hown hK hw (x_D hI _) hS 27 (x_at (by decide) (xcl_27 G s16)) rfl 3 (by decide) (hu _ mw_253) (fun _ h9 => h9) rfl (tyok_Reader 3 (by decide)) rfl rfl (Nat.le_of_ble_eq_true rfl) d_Reader_restart_21 (fun H locs hw _ hS => ?_)
  replace hw := x_setR hw (by decide) rfl
  obtain ⟨s21, e21, hE⟩ := x_letE hE
  rw [← e21] at hw
  refine lv_aload_n hx hb d_Reader_restart_24 rfl (lv_at hl 0 rfl) ?_
  refine lv_iconst (v := (0 : Int32)) hx hb d_Reader_restart_25 (by decide) ?_
  refine va_put (D := G.1) (cl := xCl) (ci := 3) (v := .int (0 : Int32)) (ty := .int) (C := R_Reader) (T := T_Reader) (N := 6) hx hb hu fi_Reader ty_Reader tyok_Reader nm_Reader hown hK hw (x_D hI _) hS 27 (x_at (by decide) (xcl_27 G s21)) rfl 4 (by decide) (hu _ mw_254) (fun _ h9 => h9) rfl (tyok_Reader 4 (by decide)) rfl rfl (Nat.le_of_ble_eq_true rfl) d_Reader_restart_26 (fun H locs hw _ hS => ?_)
  replace hw := x_setR hw (by decide) rfl
  obtain ⟨s26, e26, hE⟩ := x_letE hE
  rw [← e26] at hw
  refine lv_aload_n hx hb d_Reader_restart_29 rfl (lv_at hl 0 rfl) ?_
  refine lv_iconst (v := (0 : Int32)) hx hb d_Reader_restart_30 (by decide) ?_
  refine va_put (D := G.1) (cl := xCl) (ci := 3) (v := .int (0 : Int32)) (ty := .int) (C := R_Reader) (T := T_Reader) (N := 6) hx hb hu fi_Reader ty_Reader tyok_Reader nm_Reader hown hK hw (x_D hI _) hS 27 (x_at (by decide) (xcl_27 G s26)) rfl 5 (by decide) (hu _ mw_255) (fun _ h9 => h9) rfl (tyok_Reader 5 (by decide)) rfl rfl (Nat.le_of_ble_eq_true rfl) d_Reader_restart_31 (fun H locs hw _ hS => ?_)
  replace hw := x_setR hw (by decide) rfl
  obtain ⟨s31, e31, hE⟩ := x_letE hE
  rw [← e31] at hw
  have e1 := Option.some.inj hE
  exact W.vret hx hb hr (fun t ht hW => ⟨rfl, by rw [ht, ← e1]; exact hw, hS.F ht⟩) hS.2.2 d_Reader_restart_34

def y_Reader_takeBodyByte : MethodName := ⟨"PlainOrigin$Reader", "takeBodyByte", "(I)I"⟩
def ws_Reader_takeBodyByte : List Cond := Cond.code y_Reader_takeBodyByte prog_8_method_4_code 2 (some .int) :: UW
theorem hd_Reader_takeBodyByte : y_Reader_takeBodyByte.cls = R_Reader ∧ y_Reader_takeBodyByte.cls ≠ "java/lang/invoke/MethodHandle" ∧ y_Reader_takeBodyByte.cls ≠ "java/lang/invoke/VarHandle" ∧ (parseMethodDescriptor y_Reader_takeBodyByte.desc).map (fun d => d.parameters.length) = some 1 := by decide +kernel
theorem d_Reader_takeBodyByte_0 : decode prog_8_method_4_code 0 = .ok (.aload_n 0, 1) := by decide +kernel
theorem d_Reader_takeBodyByte_1 : decode prog_8_method_4_code 1 = .ok (.getfield 23, 3) := by decide +kernel
theorem d_Reader_takeBodyByte_4 : decode prog_8_method_4_code 4 = .ok (.getfield 55, 3) := by decide +kernel
theorem d_Reader_takeBodyByte_7 : decode prog_8_method_4_code 7 = .ok (.iload_n 1, 1) := by decide +kernel
theorem d_Reader_takeBodyByte_8 : decode prog_8_method_4_code 8 = .ok (.invokevirtual 58, 3) := by decide +kernel
theorem d_Reader_takeBodyByte_11 : decode prog_8_method_4_code 11 = .ok (.aload_n 0, 1) := by decide +kernel
theorem d_Reader_takeBodyByte_12 : decode prog_8_method_4_code 12 = .ok (.getfield 23, 3) := by decide +kernel
theorem d_Reader_takeBodyByte_15 : decode prog_8_method_4_code 15 = .ok (.getfield 55, 3) := by decide +kernel
theorem d_Reader_takeBodyByte_18 : decode prog_8_method_4_code 18 = .ok (.getfield 61, 3) := by decide +kernel
theorem d_Reader_takeBodyByte_21 : decode prog_8_method_4_code 21 = .ok (.aload_n 0, 1) := by decide +kernel
theorem d_Reader_takeBodyByte_22 : decode prog_8_method_4_code 22 = .ok (.getfield 23, 3) := by decide +kernel
theorem d_Reader_takeBodyByte_25 : decode prog_8_method_4_code 25 = .ok (.getfield 64, 3) := by decide +kernel
theorem d_Reader_takeBodyByte_28 : decode prog_8_method_4_code 28 = .ok (.if_icmp .lt (7), 3) := by decide +kernel
theorem d_Reader_takeBodyByte_31 : decode prog_8_method_4_code 31 = .ok (.iconst 3, 1) := by decide +kernel
theorem d_Reader_takeBodyByte_32 : decode prog_8_method_4_code 32 = .ok (.goto (4), 3) := by decide +kernel
theorem d_Reader_takeBodyByte_35 : decode prog_8_method_4_code 35 = .ok (.iconst 0, 1) := by decide +kernel
theorem d_Reader_takeBodyByte_36 : decode prog_8_method_4_code 36 = .ok (.ireturn, 1) := by decide +kernel
def x_Reader_takeBodyByte (a1 : Int32) (σ : St) : Option (Int32 × St) := (Option.bind (x_Bytes_add 42 a1 σ) (fun s8 => (if (s8.1 42 1) < (s8.1 30 6) then some ((0 : Int32), s8) else some ((3 : Int32), s8))))
abbrev rm_Reader_takeBodyByte : Room := { frames := 1, cells := 0, slots := 0, locals := 21 }
set_option maxHeartbeats 4000000 in
set_option maxRecDepth 100000 in
theorem t_Reader_takeBodyByte (l : Launch) (G : xG) (σ : St) (a1 : Int32) (r : Int32) (σ' : St) (hE : x_Reader_takeBodyByte a1 σ = some (r, σ')) : Met l y_Reader_takeBodyByte (ws_Reader_takeBodyByte) rm_Reader_takeBodyByte (xP G σ [.ref (G.2.1 27), .int a1]) (xQ G (some (.int r)) σ') 0 0 (xA G) := by
  refine Met.ofW (cc := prog_8_method_4_code) (maxL := 2) (ret := (some .int)) (by decide) rfl ?_
  intro p e s m args below meth c s₁ B hml hv
  obtain ⟨rfl, hw, hC⟩ := hv
  have hx := B.exec
  have hb := B.bytes
  have hr := B.returns
  have hu : ∀ w ∈ UW, w.before _ s = true := fun w h => atoms_spec B.pre w (List.mem_cons_of_mem _ h)
  have hown : s.vm.findClass R_Reader = some m.cls := findClass_of_methodNamed B.named
  have hlocks := B.notSynchronized
  have hK := hC.1
  have hI := hC.2.1
  have hG := hC.2.2.1
  have hN := hC.2.2.2
  have hS : va_S (xA G) s.heap s.heap [] := va_S.rf
  have hl := lv_entry ([.ref (G.2.1 27), .int a1]) (n := 2) (Nat.le_of_ble_eq_true rfl)
  rw [lg_entry_eq]
  generalize (lg_sl ([.ref (G.2.1 27), .int a1]) ++ List.replicate (2 - (lg_sl ([.ref (G.2.1 27), .int a1])).length) Slot.unset).toArray = ls at hl ⊢
  have hl : lv_has ls 2 [(0, .ref (G.2.1 27)), (1, .int a1)] := hl
  unfold x_Reader_takeBodyByte at hE
  refine lv_aload_n hx hb d_Reader_takeBodyByte_0 rfl (lv_at hl 0 rfl) ?_
  refine va_get (D := G.1) (cl := xCl) (ci := 3) (v := .ref (G.2.1 30)) (C := R_Reader) (T := T_Reader) (N := 6) hx hb hu fi_Reader hown hK hw 27 (x_at (by decide) (xcl_27 G σ)) rfl 1 (by decide) (hu _ mw_249) (fun _ h9 => h9) rfl d_Reader_takeBodyByte_1 ?_
  refine va_getN (D := G.1) (cl := xCl) (ci := 2) (v := .ref (G.2.1 42)) (C := R_Request) (T := T_Request) (N := 9) hx hb hu fi_Request hown hK hw 30 (x_at (by decide) (xcl_30 G σ)) rfl 2 (by decide) (nl_27 hG) (fun _ h9 => h9) rfl d_Reader_takeBodyByte_4 ?_
  refine lv_iload_n hx hb d_Reader_takeBodyByte_7 rfl (lv_at hl 1 rfl) ?_
  obtain ⟨s8, hC8, hE⟩ := x_bind hE
  refine x_callV hS (W.runV (As := [.int a1]) (rest := []) ⟨hx, hb, hml, hown, hu⟩ (t_Bytes_add l G σ 42 a1 (by decide) s8 hC8) (cwV 1 hu (uw_V mw_508 mw_509 mw_510 mw_63 mw_511) rfl rfl rfl hd_Bytes_add ⟨Nat.le_of_ble_eq_true rfl, Nat.le_of_ble_eq_true rfl⟩) (x_preV hC hS hw (va_recv hK hw (q := (R_Bytes, T_Bytes, 2)) (ci := 0) rfl (x_at (by decide) (xcl_42 G σ)))) rfl rfl hl.1 rfl (lv_room (Nat.le_of_ble_eq_true rfl)) d_Reader_takeBodyByte_8 ⟨Nat.le_of_ble_eq_true rfl, Nat.le_of_ble_eq_true rfl⟩) (fun H locs hw hS => ?_)
  refine lv_aload_n hx hb d_Reader_takeBodyByte_11 rfl (lv_at hl 0 rfl) ?_
  refine va_get (D := G.1) (cl := xCl) (ci := 3) (v := .ref (G.2.1 30)) (C := R_Reader) (T := T_Reader) (N := 6) hx hb hu fi_Reader hown hK hw 27 (x_at (by decide) (xcl_27 G s8)) rfl 1 (by decide) (hu _ mw_249) (fun _ h9 => h9) rfl d_Reader_takeBodyByte_12 ?_
  refine va_getN (D := G.1) (cl := xCl) (ci := 2) (v := .ref (G.2.1 42)) (C := R_Request) (T := T_Request) (N := 9) hx hb hu fi_Request hown hK hw 30 (x_at (by decide) (xcl_30 G s8)) rfl 2 (by decide) (nl_27 hG) (fun _ h9 => h9) rfl d_Reader_takeBodyByte_15 ?_
  refine va_getN (D := G.1) (cl := xCl) (ci := 0) (v := .int (s8.1 42 1)) (C := R_Bytes) (T := T_Bytes) (N := 2) hx hb hu fi_Bytes hown hK hw 42 (x_at (by decide) (xcl_42 G s8)) rfl 1 (by decide) (nl_4 hG) (fun _ h9 => h9) rfl d_Reader_takeBodyByte_18 ?_
  refine lv_aload_n hx hb d_Reader_takeBodyByte_21 rfl (lv_at hl 0 rfl) ?_
  refine va_get (D := G.1) (cl := xCl) (ci := 3) (v := .ref (G.2.1 30)) (C := R_Reader) (T := T_Reader) (N := 6) hx hb hu fi_Reader hown hK hw 27 (x_at (by decide) (xcl_27 G s8)) rfl 1 (by decide) (hu _ mw_249) (fun _ h9 => h9) rfl d_Reader_takeBodyByte_22 ?_
  refine va_getN (D := G.1) (cl := xCl) (ci := 2) (v := .int (s8.1 30 6)) (C := R_Request) (T := T_Request) (N := 9) hx hb hu fi_Request hown hK hw 30 (x_at (by decide) (xcl_30 G s8)) rfl 6 (by decide) (nl_30 hG) (fun _ h9 => h9) rfl d_Reader_takeBodyByte_25 ?_
  refine lv_icmp_lt (tgt := 35) hx hb d_Reader_takeBodyByte_28 (by decide) (fun hc28 => ?_) (fun hc28 => ?_)
  · rw [if_pos hc28] at hE
    refine lv_iconst (v := (0 : Int32)) hx hb d_Reader_takeBodyByte_35 (by decide) ?_
    obtain ⟨e1, e2⟩ := x_pair hE
    exact W.iret (v := (0 : Int32)) hx hb hr (fun t ht hW => ⟨by rw [e1], by rw [ht, ← e2]; exact hw, hS.F ht⟩) hS.2.2 d_Reader_takeBodyByte_36
  · rw [if_neg hc28] at hE
    refine lv_iconst (v := (3 : Int32)) hx hb d_Reader_takeBodyByte_31 (by decide) ?_
    refine lv_goto (tgt := 36) hx hb d_Reader_takeBodyByte_32 (by decide) ?_
    obtain ⟨e1, e2⟩ := x_pair hE
    exact W.iret (v := (3 : Int32)) hx hb hr (fun t ht hW => ⟨by rw [e1], by rw [ht, ← e2]; exact hw, hS.F ht⟩) hS.2.2 d_Reader_takeBodyByte_36

def y_Reader_takeChunkByte : MethodName := ⟨"PlainOrigin$Reader", "takeChunkByte", "(I)I"⟩
def ws_Reader_takeChunkByte : List Cond := Cond.code y_Reader_takeChunkByte prog_8_method_5_code 2 (some .int) :: UW
theorem hd_Reader_takeChunkByte : y_Reader_takeChunkByte.cls = R_Reader ∧ y_Reader_takeChunkByte.cls ≠ "java/lang/invoke/MethodHandle" ∧ y_Reader_takeChunkByte.cls ≠ "java/lang/invoke/VarHandle" ∧ (parseMethodDescriptor y_Reader_takeChunkByte.desc).map (fun d => d.parameters.length) = some 1 := by decide +kernel
theorem d_Reader_takeChunkByte_0 : decode prog_8_method_5_code 0 = .ok (.aload_n 0, 1) := by decide +kernel
theorem d_Reader_takeChunkByte_1 : decode prog_8_method_5_code 1 = .ok (.getfield 39, 3) := by decide +kernel
theorem d_Reader_takeChunkByte_4 : decode prog_8_method_5_code 4 = .ok (.ifCond .le (26), 3) := by decide +kernel
theorem d_Reader_takeChunkByte_7 : decode prog_8_method_5_code 7 = .ok (.aload_n 0, 1) := by decide +kernel
theorem d_Reader_takeChunkByte_8 : decode prog_8_method_5_code 8 = .ok (.getfield 23, 3) := by decide +kernel
theorem d_Reader_takeChunkByte_11 : decode prog_8_method_5_code 11 = .ok (.getfield 55, 3) := by decide +kernel
theorem d_Reader_takeChunkByte_14 : decode prog_8_method_5_code 14 = .ok (.iload_n 1, 1) := by decide +kernel
theorem d_Reader_takeChunkByte_15 : decode prog_8_method_5_code 15 = .ok (.invokevirtual 58, 3) := by decide +kernel
theorem d_Reader_takeChunkByte_18 : decode prog_8_method_5_code 18 = .ok (.aload_n 0, 1) := by decide +kernel
theorem d_Reader_takeChunkByte_19 : decode prog_8_method_5_code 19 = .ok (.dup, 1) := by decide +kernel
theorem d_Reader_takeChunkByte_20 : decode prog_8_method_5_code 20 = .ok (.getfield 39, 3) := by decide +kernel
theorem d_Reader_takeChunkByte_23 : decode prog_8_method_5_code 23 = .ok (.iconst 1, 1) := by decide +kernel
theorem d_Reader_takeChunkByte_24 : decode prog_8_method_5_code 24 = .ok (.isub, 1) := by decide +kernel
theorem d_Reader_takeChunkByte_25 : decode prog_8_method_5_code 25 = .ok (.putfield 39, 3) := by decide +kernel
theorem d_Reader_takeChunkByte_28 : decode prog_8_method_5_code 28 = .ok (.iconst 0, 1) := by decide +kernel
theorem d_Reader_takeChunkByte_29 : decode prog_8_method_5_code 29 = .ok (.ireturn, 1) := by decide +kernel
theorem d_Reader_takeChunkByte_30 : decode prog_8_method_5_code 30 = .ok (.iload_n 1, 1) := by decide +kernel
theorem d_Reader_takeChunkByte_31 : decode prog_8_method_5_code 31 = .ok (.aload_n 0, 1) := by decide +kernel
theorem d_Reader_takeChunkByte_32 : decode prog_8_method_5_code 32 = .ok (.getfield 35, 3) := by decide +kernel
theorem d_Reader_takeChunkByte_35 : decode prog_8_method_5_code 35 = .ok (.ifCond .eq (8), 3) := by decide +kernel
theorem d_Reader_takeChunkByte_38 : decode prog_8_method_5_code 38 = .ok (.bipush (10), 2) := by decide +kernel
theorem d_Reader_takeChunkByte_40 : decode prog_8_method_5_code 40 = .ok (.goto (5), 3) := by decide +kernel
theorem d_Reader_takeChunkByte_43 : decode prog_8_method_5_code 43 = .ok (.bipush (13), 2) := by decide +kernel
theorem d_Reader_takeChunkByte_45 : decode prog_8_method_5_code 45 = .ok (.if_icmp .eq (7), 3) := by decide +kernel
theorem d_Reader_takeChunkByte_48 : decode prog_8_method_5_code 48 = .ok (.sipush (400), 3) := by decide +kernel
theorem d_Reader_takeChunkByte_51 : decode prog_8_method_5_code 51 = .ok (.ireturn, 1) := by decide +kernel
theorem d_Reader_takeChunkByte_52 : decode prog_8_method_5_code 52 = .ok (.aload_n 0, 1) := by decide +kernel
theorem d_Reader_takeChunkByte_53 : decode prog_8_method_5_code 53 = .ok (.getfield 35, 3) := by decide +kernel
theorem d_Reader_takeChunkByte_56 : decode prog_8_method_5_code 56 = .ok (.ifCond .eq (8), 3) := by decide +kernel
theorem d_Reader_takeChunkByte_59 : decode prog_8_method_5_code 59 = .ok (.aload_n 0, 1) := by decide +kernel
theorem d_Reader_takeChunkByte_60 : decode prog_8_method_5_code 60 = .ok (.iconst 3, 1) := by decide +kernel
theorem d_Reader_takeChunkByte_61 : decode prog_8_method_5_code 61 = .ok (.putfield 27, 3) := by decide +kernel
theorem d_Reader_takeChunkByte_64 : decode prog_8_method_5_code 64 = .ok (.aload_n 0, 1) := by decide +kernel
theorem d_Reader_takeChunkByte_65 : decode prog_8_method_5_code 65 = .ok (.aload_n 0, 1) := by decide +kernel
theorem d_Reader_takeChunkByte_66 : decode prog_8_method_5_code 66 = .ok (.getfield 35, 3) := by decide +kernel
theorem d_Reader_takeChunkByte_69 : decode prog_8_method_5_code 69 = .ok (.ifCond .ne (7), 3) := by decide +kernel
theorem d_Reader_takeChunkByte_72 : decode prog_8_method_5_code 72 = .ok (.iconst 1, 1) := by decide +kernel
theorem d_Reader_takeChunkByte_73 : decode prog_8_method_5_code 73 = .ok (.goto (4), 3) := by decide +kernel
theorem d_Reader_takeChunkByte_76 : decode prog_8_method_5_code 76 = .ok (.iconst 0, 1) := by decide +kernel
theorem d_Reader_takeChunkByte_77 : decode prog_8_method_5_code 77 = .ok (.putfield 35, 3) := by decide +kernel
theorem d_Reader_takeChunkByte_80 : decode prog_8_method_5_code 80 = .ok (.iconst 0, 1) := by decide +kernel
theorem d_Reader_takeChunkByte_81 : decode prog_8_method_5_code 81 = .ok (.ireturn, 1) := by decide +kernel
def x_Reader_takeChunkByte_64 (a1 : Int32) (σ : St) : Option (Int32 × St) := (if (σ.1 27 3) = 0 then (x_let (x_updR σ 27 3 (1 : Int32)) (fun (s77 : St) => some ((0 : Int32), s77))) else (x_let (x_updR σ 27 3 (0 : Int32)) (fun (s77 : St) => some ((0 : Int32), s77))))
def x_Reader_takeChunkByte_45 (a1 : Int32) (k0 : Int32) (k1 : Int32) (σ : St) : Option (Int32 × St) := (if k1 = k0 then (if (σ.1 27 3) = 0 then x_Reader_takeChunkByte_64 a1 σ else (x_let (x_updR σ 27 2 (3 : Int32)) (fun (s61 : St) => x_Reader_takeChunkByte_64 a1 s61))) else some ((400 : Int32), σ))
def x_Reader_takeChunkByte (a1 : Int32) (σ : St) : Option (Int32 × St) := (if (σ.1 27 4) ≤ 0 then (if (σ.1 27 3) = 0 then x_Reader_takeChunkByte_45 a1 (13 : Int32) a1 σ else x_Reader_takeChunkByte_45 a1 (10 : Int32) a1 σ) else (Option.bind (x_Bytes_add 42 a1 σ) (fun s15 => (x_let (x_updR s15 27 4 ((s15.1 27 4) - (1 : Int32))) (fun (s25 : St) => some ((0 : Int32), s25))))))
abbrev rm_Reader_takeChunkByte : Room := { frames := 1, cells := 0, slots := 0, locals := 21 }
set_option maxHeartbeats 4000000 in
set_option maxRecDepth 100000 in
theorem t_Reader_takeChunkByte (l : Launch) (G : xG) (σ : St) (a1 : Int32) (r : Int32) (σ' : St) (hE : x_Reader_takeChunkByte a1 σ = some (r, σ')) : Met l y_Reader_takeChunkByte (ws_Reader_takeChunkByte) rm_Reader_takeChunkByte (xP G σ [.ref (G.2.1 27), .int a1]) (xQ G (some (.int r)) σ') 0 0 (xA G) := by
  refine Met.ofW (cc := prog_8_method_5_code) (maxL := 2) (ret := (some .int)) (by decide) rfl ?_
  intro p e s m args below meth c s₁ B hml hv
  obtain ⟨rfl, hw, hC⟩ := hv
  have hx := B.exec
  have hb := B.bytes
  have hr := B.returns
  have hu : ∀ w ∈ UW, w.before _ s = true := fun w h => atoms_spec B.pre w (List.mem_cons_of_mem _ h)
  have hown : s.vm.findClass R_Reader = some m.cls := findClass_of_methodNamed B.named
  have hlocks := B.notSynchronized
  have hK := hC.1
  have hI := hC.2.1
  have hG := hC.2.2.1
  have hN := hC.2.2.2
  have hS : va_S (xA G) s.heap s.heap [] := va_S.rf
  have jn64 : ∀ (ls : Array Slot) (H : Heap) (locs : List Loc) (σ : St), x_Reader_takeChunkByte_64 a1 σ = some (r, σ') → lv_has ls 2 [(0, .ref (G.2.1 27)), (1, .int a1)] → xw G σ H → va_S (xA G) s.heap H locs → W p l e (headSpec (ws_Reader_takeChunkByte) rm_Reader_takeChunkByte).room s m ([.ref (G.2.1 27), .int a1] : List Value).toArray below meth c H locs 0 0 (MQ below (xQ G (some (.int r)) σ') ([.ref (G.2.1 27), .int a1] : List Value).toArray s 0 0 (xA G)) (F0 m 64 ls []) := by
    intro ls H locs σ hE hl hw hS
    unfold x_Reader_takeChunkByte_64 at hE
    refine lv_aload_n hx hb d_Reader_takeChunkByte_64 rfl (lv_at hl 0 rfl) ?_
    refine lv_aload_n hx hb d_Reader_takeChunkByte_65 rfl (lv_at hl 0 rfl) ?_
    refine va_get (D := G.1) (cl := xCl) (ci := 3) (v := .int (σ.1 27 3)) (C := R_Reader) (T := T_Reader) (N := 6) hx hb hu fi_Reader hown hK hw 27 (x_at (by decide) (xcl_27 G σ)) rfl 3 (by decide) (hu _ mw_253) (fun _ h9 => h9) rfl d_Reader_takeChunkByte_66 ?_
    refine lv_if_ne (tgt := 76) hx hb d_Reader_takeChunkByte_69 (by decide) (fun hc69 => ?_) (fun hc69 => ?_)
    · rw [if_neg hc69] at hE
      refine lv_iconst (v := (0 : Int32)) hx hb d_Reader_takeChunkByte_76 (by decide) ?_
      refine va_put (D := G.1) (cl := xCl) (ci := 3) (v := .int (0 : Int32)) (ty := .boolean) (C := R_Reader) (T := T_Reader) (N := 6) hx hb hu fi_Reader ty_Reader tyok_Reader nm_Reader hown hK hw (x_D hI _) hS 27 (x_at (by decide) (xcl_27 G σ)) rfl 3 (by decide) (hu _ mw_253) (fun _ h9 => h9) rfl (tyok_Reader 3 (by decide)) rfl rfl (Nat.le_of_ble_eq_true rfl) d_Reader_takeChunkByte_77 (fun H locs hw _ hS => ?_)
      replace hw := x_setR hw (by decide) rfl
      obtain ⟨s77, e77, hE⟩ := x_letE hE
      rw [← e77] at hw
      refine lv_iconst (v := (0 : Int32)) hx hb d_Reader_takeChunkByte_80 (by decide) ?_
      obtain ⟨e1, e2⟩ := x_pair hE
      exact W.iret (v := (0 : Int32)) hx hb hr (fun t ht hW => ⟨by rw [e1], by rw [ht, ← e2]; exact hw, hS.F ht⟩) hS.2.2 d_Reader_takeChunkByte_81
    · rw [if_pos hc69] at hE
      refine lv_iconst (v := (1 : Int32)) hx hb d_Reader_takeChunkByte_72 (by decide) ?_
      refine lv_goto (tgt := 77) hx hb d_Reader_takeChunkByte_73 (by decide) ?_
      refine va_put (D := G.1) (cl := xCl) (ci := 3) (v := .int (1 : Int32)) (ty := .boolean) (C := R_Reader) (T := T_Reader) (N := 6) hx hb hu fi_Reader ty_Reader tyok_Reader nm_Reader hown hK hw (x_D hI _) hS 27 (x_at (by decide) (xcl_27 G σ)) rfl 3 (by decide) (hu _ mw_253) (fun _ h9 => h9) rfl (tyok_Reader 3 (by decide)) rfl rfl (Nat.le_of_ble_eq_true rfl) d_Reader_takeChunkByte_77 (fun H locs hw _ hS => ?_)
      replace hw := x_setR hw (by decide) rfl
      obtain ⟨s77, e77, hE⟩ := x_letE hE
      rw [← e77] at hw
      refine lv_iconst (v := (0 : Int32)) hx hb d_Reader_takeChunkByte_80 (by decide) ?_
      obtain ⟨e1, e2⟩ := x_pair hE
      exact W.iret (v := (0 : Int32)) hx hb hr (fun t ht hW => ⟨by rw [e1], by rw [ht, ← e2]; exact hw, hS.F ht⟩) hS.2.2 d_Reader_takeChunkByte_81
  have jn45 : ∀ (ls : Array Slot) (H : Heap) (locs : List Loc) (σ : St) (k0 : Int32) (k1 : Int32), x_Reader_takeChunkByte_45 a1 k0 k1 σ = some (r, σ') → lv_has ls 2 [(0, .ref (G.2.1 27)), (1, .int a1)] → xw G σ H → va_S (xA G) s.heap H locs → W p l e (headSpec (ws_Reader_takeChunkByte) rm_Reader_takeChunkByte).room s m ([.ref (G.2.1 27), .int a1] : List Value).toArray below meth c H locs 0 0 (MQ below (xQ G (some (.int r)) σ') ([.ref (G.2.1 27), .int a1] : List Value).toArray s 0 0 (xA G)) (F0 m 45 ls [.int k0, .int k1]) := by
    intro ls H locs σ k0 k1 hE hl hw hS
    unfold x_Reader_takeChunkByte_45 at hE
    refine lv_icmp_eq (tgt := 52) hx hb d_Reader_takeChunkByte_45 (by decide) (fun hc45 => ?_) (fun hc45 => ?_)
    · rw [if_pos hc45] at hE
      refine lv_aload_n hx hb d_Reader_takeChunkByte_52 rfl (lv_at hl 0 rfl) ?_
      refine va_get (D := G.1) (cl := xCl) (ci := 3) (v := .int (σ.1 27 3)) (C := R_Reader) (T := T_Reader) (N := 6) hx hb hu fi_Reader hown hK hw 27 (x_at (by decide) (xcl_27 G σ)) rfl 3 (by decide) (hu _ mw_253) (fun _ h9 => h9) rfl d_Reader_takeChunkByte_53 ?_
      refine lv_if_eq (tgt := 64) hx hb d_Reader_takeChunkByte_56 (by decide) (fun hc56 => ?_) (fun hc56 => ?_)
      · rw [if_pos hc56] at hE
        exact jn64 _ _ _ _ hE (lv_sub hl [0, 1] rfl) hw hS
      · rw [if_neg hc56] at hE
        refine lv_aload_n hx hb d_Reader_takeChunkByte_59 rfl (lv_at hl 0 rfl) ?_
        refine lv_iconst (v := (3 : Int32)) hx hb d_Reader_takeChunkByte_60 (by decide) ?_
        refine va_put (D := G.1) (cl := xCl) (ci := 3) (v := .int (3 : Int32)) (ty := .int) (C := R_Reader) (T := T_Reader) (N := 6) hx hb hu fi_Reader ty_Reader tyok_Reader nm_Reader hown hK hw (x_D hI _) hS 27 (x_at (by decide) (xcl_27 G σ)) rfl 2 (by decide) (hu _ mw_251) (fun _ h9 => h9) rfl (tyok_Reader 2 (by decide)) rfl rfl (Nat.le_of_ble_eq_true rfl) d_Reader_takeChunkByte_61 (fun H locs hw _ hS => ?_)
        replace hw := x_setR hw (by decide) rfl
        obtain ⟨s61, e61, hE⟩ := x_letE hE
        rw [← e61] at hw
        exact jn64 _ _ _ _ hE (lv_sub hl [0, 1] rfl) hw hS
    · rw [if_neg hc45] at hE
      refine lv_sipush (v := (400 : Int32)) hx hb d_Reader_takeChunkByte_48 (by decide) ?_
      obtain ⟨e1, e2⟩ := x_pair hE
      exact W.iret (v := (400 : Int32)) hx hb hr (fun t ht hW => ⟨by rw [e1], by rw [ht, ← e2]; exact hw, hS.F ht⟩) hS.2.2 d_Reader_takeChunkByte_51
  have hl := lv_entry ([.ref (G.2.1 27), .int a1]) (n := 2) (Nat.le_of_ble_eq_true rfl)
  rw [lg_entry_eq]
  generalize (lg_sl ([.ref (G.2.1 27), .int a1]) ++ List.replicate (2 - (lg_sl ([.ref (G.2.1 27), .int a1])).length) Slot.unset).toArray = ls at hl ⊢
  have hl : lv_has ls 2 [(0, .ref (G.2.1 27)), (1, .int a1)] := hl
  unfold x_Reader_takeChunkByte at hE
  refine lv_aload_n hx hb d_Reader_takeChunkByte_0 rfl (lv_at hl 0 rfl) ?_
  refine va_get (D := G.1) (cl := xCl) (ci := 3) (v := .int (σ.1 27 4)) (C := R_Reader) (T := T_Reader) (N := 6) hx hb hu fi_Reader hown hK hw 27 (x_at (by decide) (xcl_27 G σ)) rfl 4 (by decide) (hu _ mw_254) (fun _ h9 => h9) rfl d_Reader_takeChunkByte_1 ?_
  refine lv_if_le (tgt := 30) hx hb d_Reader_takeChunkByte_4 (by decide) (fun hc4 => ?_) (fun hc4 => ?_)
  · rw [if_pos hc4] at hE
    refine lv_iload_n hx hb d_Reader_takeChunkByte_30 rfl (lv_at hl 1 rfl) ?_
    refine lv_aload_n hx hb d_Reader_takeChunkByte_31 rfl (lv_at hl 0 rfl) ?_
    refine va_get (D := G.1) (cl := xCl) (ci := 3) (v := .int (σ.1 27 3)) (C := R_Reader) (T := T_Reader) (N := 6) hx hb hu fi_Reader hown hK hw 27 (x_at (by decide) (xcl_27 G σ)) rfl 3 (by decide) (hu _ mw_253) (fun _ h9 => h9) rfl d_Reader_takeChunkByte_32 ?_
    refine lv_if_eq (tgt := 43) hx hb d_Reader_takeChunkByte_35 (by decide) (fun hc35 => ?_) (fun hc35 => ?_)
    · rw [if_pos hc35] at hE
      refine lv_bipush (v := (13 : Int32)) hx hb d_Reader_takeChunkByte_43 (by decide) ?_
      exact jn45 _ _ _ _ _ _ hE (lv_sub hl [0, 1] rfl) hw hS
    · rw [if_neg hc35] at hE
      refine lv_bipush (v := (10 : Int32)) hx hb d_Reader_takeChunkByte_38 (by decide) ?_
      refine lv_goto (tgt := 45) hx hb d_Reader_takeChunkByte_40 (by decide) ?_
      exact jn45 _ _ _ _ _ _ hE (lv_sub hl [0, 1] rfl) hw hS
  · rw [if_neg hc4] at hE
    refine lv_aload_n hx hb d_Reader_takeChunkByte_7 rfl (lv_at hl 0 rfl) ?_
    refine va_get (D := G.1) (cl := xCl) (ci := 3) (v := .ref (G.2.1 30)) (C := R_Reader) (T := T_Reader) (N := 6) hx hb hu fi_Reader hown hK hw 27 (x_at (by decide) (xcl_27 G σ)) rfl 1 (by decide) (hu _ mw_249) (fun _ h9 => h9) rfl d_Reader_takeChunkByte_8 ?_
    refine va_getN (D := G.1) (cl := xCl) (ci := 2) (v := .ref (G.2.1 42)) (C := R_Request) (T := T_Request) (N := 9) hx hb hu fi_Request hown hK hw 30 (x_at (by decide) (xcl_30 G σ)) rfl 2 (by decide) (nl_27 hG) (fun _ h9 => h9) rfl d_Reader_takeChunkByte_11 ?_
    refine lv_iload_n hx hb d_Reader_takeChunkByte_14 rfl (lv_at hl 1 rfl) ?_
    obtain ⟨s15, hC15, hE⟩ := x_bind hE
    refine x_callV hS (W.runV (As := [.int a1]) (rest := []) ⟨hx, hb, hml, hown, hu⟩ (t_Bytes_add l G σ 42 a1 (by decide) s15 hC15) (cwV 1 hu (uw_V mw_508 mw_509 mw_510 mw_63 mw_511) rfl rfl rfl hd_Bytes_add ⟨Nat.le_of_ble_eq_true rfl, Nat.le_of_ble_eq_true rfl⟩) (x_preV hC hS hw (va_recv hK hw (q := (R_Bytes, T_Bytes, 2)) (ci := 0) rfl (x_at (by decide) (xcl_42 G σ)))) rfl rfl hl.1 rfl (lv_room (Nat.le_of_ble_eq_true rfl)) d_Reader_takeChunkByte_15 ⟨Nat.le_of_ble_eq_true rfl, Nat.le_of_ble_eq_true rfl⟩) (fun H locs hw hS => ?_)
    refine lv_aload_n hx hb d_Reader_takeChunkByte_18 rfl (lv_at hl 0 rfl) ?_
    refine lv_dup hx hb d_Reader_takeChunkByte_19 rfl ?_
    refine va_get (D := G.1) (cl := xCl) (ci := 3) (v := .int (s15.1 27 4)) (C := R_Reader) (T := T_Reader) (N := 6) hx hb hu fi_Reader hown hK hw 27 (x_at (by decide) (xcl_27 G s15)) rfl 4 (by decide) (hu _ mw_254) (fun _ h9 => h9) rfl d_Reader_takeChunkByte_20 ?_
    refine lv_iconst (v := (1 : Int32)) hx hb d_Reader_takeChunkByte_23 (by decide) ?_
    refine lv_isub hx hb d_Reader_takeChunkByte_24 ?_
    refine va_put (D := G.1) (cl := xCl) (ci := 3) (v := .int ((s15.1 27 4) - (1 : Int32))) (ty := .int) (C := R_Reader) (T := T_Reader) (N := 6) hx hb hu fi_Reader ty_Reader tyok_Reader nm_Reader hown hK hw (x_D hI _) hS 27 (x_at (by decide) (xcl_27 G s15)) rfl 4 (by decide) (hu _ mw_254) (fun _ h9 => h9) rfl (tyok_Reader 4 (by decide)) rfl rfl (Nat.le_of_ble_eq_true rfl) d_Reader_takeChunkByte_25 (fun H locs hw _ hS => ?_)
    replace hw := x_setR hw (by decide) rfl
    obtain ⟨s25, e25, hE⟩ := x_letE hE
    rw [← e25] at hw
    refine lv_iconst (v := (0 : Int32)) hx hb d_Reader_takeChunkByte_28 (by decide) ?_
    obtain ⟨e1, e2⟩ := x_pair hE
    exact W.iret (v := (0 : Int32)) hx hb hr (fun t ht hW => ⟨by rw [e1], by rw [ht, ← e2]; exact hw, hS.F ht⟩) hS.2.2 d_Reader_takeChunkByte_29

def y_Reader_tooLong : MethodName := ⟨"PlainOrigin$Reader", "tooLong", "()I"⟩
def ws_Reader_tooLong : List Cond := Cond.code y_Reader_tooLong prog_8_method_7_code 1 (some .int) :: UW
theorem hd_Reader_tooLong : y_Reader_tooLong.cls = R_Reader ∧ y_Reader_tooLong.cls ≠ "java/lang/invoke/MethodHandle" ∧ y_Reader_tooLong.cls ≠ "java/lang/invoke/VarHandle" ∧ (parseMethodDescriptor y_Reader_tooLong.desc).map (fun d => d.parameters.length) = some 0 := by decide +kernel
theorem d_Reader_tooLong_0 : decode prog_8_method_7_code 0 = .ok (.aload_n 0, 1) := by decide +kernel
theorem d_Reader_tooLong_1 : decode prog_8_method_7_code 1 = .ok (.getfield 27, 3) := by decide +kernel
theorem d_Reader_tooLong_4 : decode prog_8_method_7_code 4 = .ok (.lookupswitch (36) #[(0, 28), (3, 32)], 28) := by decide +kernel
theorem d_Reader_tooLong_32 : decode prog_8_method_7_code 32 = .ok (.sipush (414), 3) := by decide +kernel
theorem d_Reader_tooLong_35 : decode prog_8_method_7_code 35 = .ok (.ireturn, 1) := by decide +kernel
theorem d_Reader_tooLong_36 : decode prog_8_method_7_code 36 = .ok (.sipush (400), 3) := by decide +kernel
theorem d_Reader_tooLong_39 : decode prog_8_method_7_code 39 = .ok (.ireturn, 1) := by decide +kernel
theorem d_Reader_tooLong_40 : decode prog_8_method_7_code 40 = .ok (.sipush (431), 3) := by decide +kernel
theorem d_Reader_tooLong_43 : decode prog_8_method_7_code 43 = .ok (.ireturn, 1) := by decide +kernel
def x_Reader_tooLong (σ : St) : Option Int32 := (if (σ.1 27 2) = (0 : Int32) then some (414 : Int32) else (if (σ.1 27 2) = (3 : Int32) then some (400 : Int32) else some (431 : Int32)))
abbrev rm_Reader_tooLong : Room := { frames := 0, cells := 0, slots := 0, locals := 0 }
set_option maxHeartbeats 4000000 in
set_option maxRecDepth 100000 in
theorem t_Reader_tooLong (l : Launch) (G : xG) (σ : St) (r : Int32) (hE : x_Reader_tooLong σ = some r) : Met l y_Reader_tooLong (ws_Reader_tooLong) rm_Reader_tooLong (xP G σ [.ref (G.2.1 27)]) (xRd (some (.int r))) 0 0 (fun _ => False) := by
  refine Met.ofW (cc := prog_8_method_7_code) (maxL := 1) (ret := (some .int)) (by decide) rfl ?_
  intro p e s m args below meth c s₁ B hml hv
  obtain ⟨rfl, hw, hC⟩ := hv
  have hx := B.exec
  have hb := B.bytes
  have hr := B.returns
  have hu : ∀ w ∈ UW, w.before _ s = true := fun w h => atoms_spec B.pre w (List.mem_cons_of_mem _ h)
  have hown : s.vm.findClass R_Reader = some m.cls := findClass_of_methodNamed B.named
  have hlocks := B.notSynchronized
  have hK := hC.1
  have hI := hC.2.1
  have hG := hC.2.2.1
  have hN := hC.2.2.2
  have hS : va_S (xA G) s.heap s.heap [] := va_S.rf
  have hl := lv_entry ([.ref (G.2.1 27)]) (n := 1) (Nat.le_of_ble_eq_true rfl)
  rw [lg_entry_eq]
  generalize (lg_sl ([.ref (G.2.1 27)]) ++ List.replicate (1 - (lg_sl ([.ref (G.2.1 27)])).length) Slot.unset).toArray = ls at hl ⊢
  have hl : lv_has ls 1 [(0, .ref (G.2.1 27))] := hl
  unfold x_Reader_tooLong at hE
  refine lv_aload_n hx hb d_Reader_tooLong_0 rfl (lv_at hl 0 rfl) ?_
  refine va_get (D := G.1) (cl := xCl) (ci := 3) (v := .int (σ.1 27 2)) (C := R_Reader) (T := T_Reader) (N := 6) hx hb hu fi_Reader hown hK hw 27 (x_at (by decide) (xcl_27 G σ)) rfl 2 (by decide) (hu _ mw_251) (fun _ h9 => h9) rfl d_Reader_tooLong_1 ?_
  refine x_split (c := (σ.1 27 2) = (0 : Int32)) (fun hc4_0 => ?_) (fun hc4_0 => ?_)
  · rw [if_pos hc4_0] at hE
    refine lv_lookup (tgt := 32) (off := 28) hx hb d_Reader_tooLong_4 (by decide) (by rw [hc4_0]; decide) (by decide) ?_
    refine lv_sipush (v := (414 : Int32)) hx hb d_Reader_tooLong_32 (by decide) ?_
    exact W.iret (v := (414 : Int32)) hx hb hr (fun t ht hW => ⟨by rw [Option.some.inj hE], ht⟩) (fun q h => by cases h) d_Reader_tooLong_35
  · rw [if_neg hc4_0] at hE
    refine x_split (c := (σ.1 27 2) = (3 : Int32)) (fun hc4_1 => ?_) (fun hc4_1 => ?_)
    · rw [if_pos hc4_1] at hE
      refine lv_lookup (tgt := 36) (off := 32) hx hb d_Reader_tooLong_4 (by decide) (by rw [hc4_1]; decide) (by decide) ?_
      refine lv_sipush (v := (400 : Int32)) hx hb d_Reader_tooLong_36 (by decide) ?_
      exact W.iret (v := (400 : Int32)) hx hb hr (fun t ht hW => ⟨by rw [Option.some.inj hE], ht⟩) (fun q h => by cases h) d_Reader_tooLong_39
    · rw [if_neg hc4_1] at hE
      refine lv_lookup (tgt := 40) (off := 36) hx hb d_Reader_tooLong_4 (by decide) ((lv_osw hc4_0 (by decide)).trans ((lv_osw hc4_1 (by decide)).trans rfl)) (by decide) ?_
      refine lv_sipush (v := (431 : Int32)) hx hb d_Reader_tooLong_40 (by decide) ?_
      exact W.iret (v := (431 : Int32)) hx hb hr (fun t ht hW => ⟨by rw [Option.some.inj hE], ht⟩) (fun q h => by cases h) d_Reader_tooLong_43

def y_Reader_takeLineByte : MethodName := ⟨"PlainOrigin$Reader", "takeLineByte", "(I)I"⟩
def ws_Reader_takeLineByte : List Cond := Cond.code y_Reader_takeLineByte prog_8_method_6_code 2 (some .int) :: UW
theorem hd_Reader_takeLineByte : y_Reader_takeLineByte.cls = R_Reader ∧ y_Reader_takeLineByte.cls ≠ "java/lang/invoke/MethodHandle" ∧ y_Reader_takeLineByte.cls ≠ "java/lang/invoke/VarHandle" ∧ (parseMethodDescriptor y_Reader_takeLineByte.desc).map (fun d => d.parameters.length) = some 1 := by decide +kernel
theorem d_Reader_takeLineByte_0 : decode prog_8_method_6_code 0 = .ok (.aload_n 0, 1) := by decide +kernel
theorem d_Reader_takeLineByte_1 : decode prog_8_method_6_code 1 = .ok (.getfield 35, 3) := by decide +kernel
theorem d_Reader_takeLineByte_4 : decode prog_8_method_6_code 4 = .ok (.ifCond .eq (22), 3) := by decide +kernel
theorem d_Reader_takeLineByte_7 : decode prog_8_method_6_code 7 = .ok (.aload_n 0, 1) := by decide +kernel
theorem d_Reader_takeLineByte_8 : decode prog_8_method_6_code 8 = .ok (.iconst 0, 1) := by decide +kernel
theorem d_Reader_takeLineByte_9 : decode prog_8_method_6_code 9 = .ok (.putfield 35, 3) := by decide +kernel
theorem d_Reader_takeLineByte_12 : decode prog_8_method_6_code 12 = .ok (.iload_n 1, 1) := by decide +kernel
theorem d_Reader_takeLineByte_13 : decode prog_8_method_6_code 13 = .ok (.bipush (10), 2) := by decide +kernel
theorem d_Reader_takeLineByte_15 : decode prog_8_method_6_code 15 = .ok (.if_icmp .ne (7), 3) := by decide +kernel
theorem d_Reader_takeLineByte_18 : decode prog_8_method_6_code 18 = .ok (.iconst 1, 1) := by decide +kernel
theorem d_Reader_takeLineByte_19 : decode prog_8_method_6_code 19 = .ok (.goto (6), 3) := by decide +kernel
theorem d_Reader_takeLineByte_22 : decode prog_8_method_6_code 22 = .ok (.sipush (400), 3) := by decide +kernel
theorem d_Reader_takeLineByte_25 : decode prog_8_method_6_code 25 = .ok (.ireturn, 1) := by decide +kernel
theorem d_Reader_takeLineByte_26 : decode prog_8_method_6_code 26 = .ok (.iload_n 1, 1) := by decide +kernel
theorem d_Reader_takeLineByte_27 : decode prog_8_method_6_code 27 = .ok (.bipush (10), 2) := by decide +kernel
theorem d_Reader_takeLineByte_29 : decode prog_8_method_6_code 29 = .ok (.if_icmp .ne (7), 3) := by decide +kernel
theorem d_Reader_takeLineByte_32 : decode prog_8_method_6_code 32 = .ok (.sipush (400), 3) := by decide +kernel
theorem d_Reader_takeLineByte_35 : decode prog_8_method_6_code 35 = .ok (.ireturn, 1) := by decide +kernel
theorem d_Reader_takeLineByte_36 : decode prog_8_method_6_code 36 = .ok (.iload_n 1, 1) := by decide +kernel
theorem d_Reader_takeLineByte_37 : decode prog_8_method_6_code 37 = .ok (.bipush (13), 2) := by decide +kernel
theorem d_Reader_takeLineByte_39 : decode prog_8_method_6_code 39 = .ok (.if_icmp .ne (10), 3) := by decide +kernel
theorem d_Reader_takeLineByte_42 : decode prog_8_method_6_code 42 = .ok (.aload_n 0, 1) := by decide +kernel
theorem d_Reader_takeLineByte_43 : decode prog_8_method_6_code 43 = .ok (.iconst 1, 1) := by decide +kernel
theorem d_Reader_takeLineByte_44 : decode prog_8_method_6_code 44 = .ok (.putfield 35, 3) := by decide +kernel
theorem d_Reader_takeLineByte_47 : decode prog_8_method_6_code 47 = .ok (.iconst 0, 1) := by decide +kernel
theorem d_Reader_takeLineByte_48 : decode prog_8_method_6_code 48 = .ok (.ireturn, 1) := by decide +kernel
theorem d_Reader_takeLineByte_49 : decode prog_8_method_6_code 49 = .ok (.aload_n 0, 1) := by decide +kernel
theorem d_Reader_takeLineByte_50 : decode prog_8_method_6_code 50 = .ok (.getfield 14, 3) := by decide +kernel
theorem d_Reader_takeLineByte_53 : decode prog_8_method_6_code 53 = .ok (.getfield 61, 3) := by decide +kernel
theorem d_Reader_takeLineByte_56 : decode prog_8_method_6_code 56 = .ok (.bipush (80), 2) := by decide +kernel
theorem d_Reader_takeLineByte_58 : decode prog_8_method_6_code 58 = .ok (.if_icmp .lt (8), 3) := by decide +kernel
theorem d_Reader_takeLineByte_61 : decode prog_8_method_6_code 61 = .ok (.aload_n 0, 1) := by decide +kernel
theorem d_Reader_takeLineByte_62 : decode prog_8_method_6_code 62 = .ok (.invokevirtual 67, 3) := by decide +kernel
theorem d_Reader_takeLineByte_65 : decode prog_8_method_6_code 65 = .ok (.ireturn, 1) := by decide +kernel
theorem d_Reader_takeLineByte_66 : decode prog_8_method_6_code 66 = .ok (.aload_n 0, 1) := by decide +kernel
theorem d_Reader_takeLineByte_67 : decode prog_8_method_6_code 67 = .ok (.getfield 14, 3) := by decide +kernel
theorem d_Reader_takeLineByte_70 : decode prog_8_method_6_code 70 = .ok (.iload_n 1, 1) := by decide +kernel
theorem d_Reader_takeLineByte_71 : decode prog_8_method_6_code 71 = .ok (.invokevirtual 58, 3) := by decide +kernel
theorem d_Reader_takeLineByte_74 : decode prog_8_method_6_code 74 = .ok (.iconst 0, 1) := by decide +kernel
theorem d_Reader_takeLineByte_75 : decode prog_8_method_6_code 75 = .ok (.ireturn, 1) := by decide +kernel
def x_Reader_takeLineByte (a1 : Int32) (σ : St) : Option (Int32 × St) := (if (σ.1 27 3) = 0 then (if a1 = (10 : Int32) then some ((400 : Int32), σ) else (if a1 = (13 : Int32) then (x_let (x_updR σ 27 3 (1 : Int32)) (fun (s44 : St) => some ((0 : Int32), s44))) else (if (σ.1 28 1) < (80 : Int32) then (Option.bind (x_Bytes_add 28 a1 σ) (fun s71 => some ((0 : Int32), s71))) else (Option.bind (x_Reader_tooLong σ) (fun r62 => some (r62, σ)))))) else (x_let (x_updR σ 27 3 (0 : Int32)) (fun (s9 : St) => (if a1 = (10 : Int32) then some ((1 : Int32), s9) else some ((400 : Int32), s9)))))
abbrev rm_Reader_takeLineByte : Room := { frames := 1, cells := 0, slots := 0, locals := 21 }
set_option maxHeartbeats 4000000 in
set_option maxRecDepth 100000 in
theorem t_Reader_takeLineByte (l : Launch) (G : xG) (σ : St) (a1 : Int32) (r : Int32) (σ' : St) (hE : x_Reader_takeLineByte a1 σ = some (r, σ')) : Met l y_Reader_takeLineByte (ws_Reader_takeLineByte) rm_Reader_takeLineByte (xP G σ [.ref (G.2.1 27), .int a1]) (xQ G (some (.int r)) σ') 0 0 (xA G) := by
  refine Met.ofW (cc := prog_8_method_6_code) (maxL := 2) (ret := (some .int)) (by decide) rfl ?_
  intro p e s m args below meth c s₁ B hml hv
  obtain ⟨rfl, hw, hC⟩ := hv
  have hx := B.exec
  have hb := B.bytes
  have hr := B.returns
  have hu : ∀ w ∈ UW, w.before _ s = true := fun w h => atoms_spec B.pre w (List.mem_cons_of_mem _ h)
  have hown : s.vm.findClass R_Reader = some m.cls := findClass_of_methodNamed B.named
  have hlocks := B.notSynchronized
  have hK := hC.1
  have hI := hC.2.1
  have hG := hC.2.2.1
  have hN := hC.2.2.2
  have hS : va_S (xA G) s.heap s.heap [] := va_S.rf
  have hl := lv_entry ([.ref (G.2.1 27), .int a1]) (n := 2) (Nat.le_of_ble_eq_true rfl)
  rw [lg_entry_eq]
  generalize (lg_sl ([.ref (G.2.1 27), .int a1]) ++ List.replicate (2 - (lg_sl ([.ref (G.2.1 27), .int a1])).length) Slot.unset).toArray = ls at hl ⊢
  have hl : lv_has ls 2 [(0, .ref (G.2.1 27)), (1, .int a1)] := hl
  unfold x_Reader_takeLineByte at hE
  refine lv_aload_n hx hb d_Reader_takeLineByte_0 rfl (lv_at hl 0 rfl) ?_
  refine va_get (D := G.1) (cl := xCl) (ci := 3) (v := .int (σ.1 27 3)) (C := R_Reader) (T := T_Reader) (N := 6) hx hb hu fi_Reader hown hK hw 27 (x_at (by decide) (xcl_27 G σ)) rfl 3 (by decide) (hu _ mw_253) (fun _ h9 => h9) rfl d_Reader_takeLineByte_1 ?_
  refine lv_if_eq (tgt := 26) hx hb d_Reader_takeLineByte_4 (by decide) (fun hc4 => ?_) (fun hc4 => ?_)
  · rw [if_pos hc4] at hE
    refine lv_iload_n hx hb d_Reader_takeLineByte_26 rfl (lv_at hl 1 rfl) ?_
    refine lv_bipush (v := (10 : Int32)) hx hb d_Reader_takeLineByte_27 (by decide) ?_
    refine lv_icmp_ne (tgt := 36) hx hb d_Reader_takeLineByte_29 (by decide) (fun hc29 => ?_) (fun hc29 => ?_)
    · rw [if_neg hc29] at hE
      refine lv_iload_n hx hb d_Reader_takeLineByte_36 rfl (lv_at hl 1 rfl) ?_
      refine lv_bipush (v := (13 : Int32)) hx hb d_Reader_takeLineByte_37 (by decide) ?_
      refine lv_icmp_ne (tgt := 49) hx hb d_Reader_takeLineByte_39 (by decide) (fun hc39 => ?_) (fun hc39 => ?_)
      · rw [if_neg hc39] at hE
        refine lv_aload_n hx hb d_Reader_takeLineByte_49 rfl (lv_at hl 0 rfl) ?_
        refine va_get (D := G.1) (cl := xCl) (ci := 3) (v := .ref (G.2.1 28)) (C := R_Reader) (T := T_Reader) (N := 6) hx hb hu fi_Reader hown hK hw 27 (x_at (by decide) (xcl_27 G σ)) rfl 0 (by decide) (hu _ mw_248) (fun _ h9 => h9) rfl d_Reader_takeLineByte_50 ?_
        refine va_getN (D := G.1) (cl := xCl) (ci := 0) (v := .int (σ.1 28 1)) (C := R_Bytes) (T := T_Bytes) (N := 2) hx hb hu fi_Bytes hown hK hw 28 (x_at (by decide) (xcl_28 G σ)) rfl 1 (by decide) (nl_4 hG) (fun _ h9 => h9) rfl d_Reader_takeLineByte_53 ?_
        refine lv_bipush (v := (80 : Int32)) hx hb d_Reader_takeLineByte_56 (by decide) ?_
        refine lv_icmp_lt (tgt := 66) hx hb d_Reader_takeLineByte_58 (by decide) (fun hc58 => ?_) (fun hc58 => ?_)
        · rw [if_pos hc58] at hE
          refine lv_aload_n hx hb d_Reader_takeLineByte_66 rfl (lv_at hl 0 rfl) ?_
          refine va_get (D := G.1) (cl := xCl) (ci := 3) (v := .ref (G.2.1 28)) (C := R_Reader) (T := T_Reader) (N := 6) hx hb hu fi_Reader hown hK hw 27 (x_at (by decide) (xcl_27 G σ)) rfl 0 (by decide) (hu _ mw_248) (fun _ h9 => h9) rfl d_Reader_takeLineByte_67 ?_
          refine lv_iload_n hx hb d_Reader_takeLineByte_70 rfl (lv_at hl 1 rfl) ?_
          obtain ⟨s71, hC71, hE⟩ := x_bind hE
          refine x_callV hS (W.runV (As := [.int a1]) (rest := []) ⟨hx, hb, hml, hown, hu⟩ (t_Bytes_add l G σ 28 a1 (by decide) s71 hC71) (cwV 1 hu (uw_V mw_508 mw_509 mw_510 mw_63 mw_511) rfl rfl rfl hd_Bytes_add ⟨Nat.le_of_ble_eq_true rfl, Nat.le_of_ble_eq_true rfl⟩) (x_preV hC hS hw (va_recv hK hw (q := (R_Bytes, T_Bytes, 2)) (ci := 0) rfl (x_at (by decide) (xcl_28 G σ)))) rfl rfl hl.1 rfl (lv_room (Nat.le_of_ble_eq_true rfl)) d_Reader_takeLineByte_71 ⟨Nat.le_of_ble_eq_true rfl, Nat.le_of_ble_eq_true rfl⟩) (fun H locs hw hS => ?_)
          refine lv_iconst (v := (0 : Int32)) hx hb d_Reader_takeLineByte_74 (by decide) ?_
          obtain ⟨e1, e2⟩ := x_pair hE
          exact W.iret (v := (0 : Int32)) hx hb hr (fun t ht hW => ⟨by rw [e1], by rw [ht, ← e2]; exact hw, hS.F ht⟩) hS.2.2 d_Reader_takeLineByte_75
        · rw [if_neg hc58] at hE
          refine lv_aload_n hx hb d_Reader_takeLineByte_61 rfl (lv_at hl 0 rfl) ?_
          obtain ⟨r62, hC62, hE⟩ := x_bind hE
          refine x_callR (W.runV (As := []) (rest := []) ⟨hx, hb, hml, hown, hu⟩ (t_Reader_tooLong l G σ r62 hC62) (cwV 0 hu (uw_V mw_520 mw_522 mw_4 mw_64 mw_523) rfl rfl rfl hd_Reader_tooLong ⟨Nat.le_of_ble_eq_true rfl, Nat.le_of_ble_eq_true rfl⟩) (x_preV hC hS hw (va_recv hK hw (q := (R_Reader, T_Reader, 6)) (ci := 3) rfl (x_at (by decide) (xcl_27 G σ)))) rfl rfl hl.1 rfl (lv_room (Nat.le_of_ble_eq_true rfl)) d_Reader_takeLineByte_62 ⟨Nat.le_of_ble_eq_true rfl, Nat.le_of_ble_eq_true rfl⟩) ?_
          obtain ⟨e1, e2⟩ := x_pair hE
          exact W.iret (v := r62) hx hb hr (fun t ht hW => ⟨by rw [e1], by rw [ht, ← e2]; exact hw, hS.F ht⟩) hS.2.2 d_Reader_takeLineByte_65
      · rw [if_pos hc39] at hE
        refine lv_aload_n hx hb d_Reader_takeLineByte_42 rfl (lv_at hl 0 rfl) ?_
        refine lv_iconst (v := (1 : Int32)) hx hb d_Reader_takeLineByte_43 (by decide) ?_
        refine va_put (D := G.1) (cl := xCl) (ci := 3) (v := .int (1 : Int32)) (ty := .boolean) (C := R_Reader) (T := T_Reader) (N := 6) hx hb hu fi_Reader ty_Reader tyok_Reader nm_Reader hown hK hw (x_D hI _) hS 27 (x_at (by decide) (xcl_27 G σ)) rfl 3 (by decide) (hu _ mw_253) (fun _ h9 => h9) rfl (tyok_Reader 3 (by decide)) rfl rfl (Nat.le_of_ble_eq_true rfl) d_Reader_takeLineByte_44 (fun H locs hw _ hS => ?_)
        replace hw := x_setR hw (by decide) rfl
        obtain ⟨s44, e44, hE⟩ := x_letE hE
        rw [← e44] at hw
        refine lv_iconst (v := (0 : Int32)) hx hb d_Reader_takeLineByte_47 (by decide) ?_
        obtain ⟨e1, e2⟩ := x_pair hE
        exact W.iret (v := (0 : Int32)) hx hb hr (fun t ht hW => ⟨by rw [e1], by rw [ht, ← e2]; exact hw, hS.F ht⟩) hS.2.2 d_Reader_takeLineByte_48
    · rw [if_pos hc29] at hE
      refine lv_sipush (v := (400 : Int32)) hx hb d_Reader_takeLineByte_32 (by decide) ?_
      obtain ⟨e1, e2⟩ := x_pair hE
      exact W.iret (v := (400 : Int32)) hx hb hr (fun t ht hW => ⟨by rw [e1], by rw [ht, ← e2]; exact hw, hS.F ht⟩) hS.2.2 d_Reader_takeLineByte_35
  · rw [if_neg hc4] at hE
    refine lv_aload_n hx hb d_Reader_takeLineByte_7 rfl (lv_at hl 0 rfl) ?_
    refine lv_iconst (v := (0 : Int32)) hx hb d_Reader_takeLineByte_8 (by decide) ?_
    refine va_put (D := G.1) (cl := xCl) (ci := 3) (v := .int (0 : Int32)) (ty := .boolean) (C := R_Reader) (T := T_Reader) (N := 6) hx hb hu fi_Reader ty_Reader tyok_Reader nm_Reader hown hK hw (x_D hI _) hS 27 (x_at (by decide) (xcl_27 G σ)) rfl 3 (by decide) (hu _ mw_253) (fun _ h9 => h9) rfl (tyok_Reader 3 (by decide)) rfl rfl (Nat.le_of_ble_eq_true rfl) d_Reader_takeLineByte_9 (fun H locs hw _ hS => ?_)
    replace hw := x_setR hw (by decide) rfl
    obtain ⟨s9, e9, hE⟩ := x_letE hE
    rw [← e9] at hw
    refine lv_iload_n hx hb d_Reader_takeLineByte_12 rfl (lv_at hl 1 rfl) ?_
    refine lv_bipush (v := (10 : Int32)) hx hb d_Reader_takeLineByte_13 (by decide) ?_
    refine lv_icmp_ne (tgt := 22) hx hb d_Reader_takeLineByte_15 (by decide) (fun hc15 => ?_) (fun hc15 => ?_)
    · rw [if_neg hc15] at hE
      refine lv_sipush (v := (400 : Int32)) hx hb d_Reader_takeLineByte_22 (by decide) ?_
      obtain ⟨e1, e2⟩ := x_pair hE
      exact W.iret (v := (400 : Int32)) hx hb hr (fun t ht hW => ⟨by rw [e1], by rw [ht, ← e2]; exact hw, hS.F ht⟩) hS.2.2 d_Reader_takeLineByte_25
    · rw [if_pos hc15] at hE
      refine lv_iconst (v := (1 : Int32)) hx hb d_Reader_takeLineByte_18 (by decide) ?_
      refine lv_goto (tgt := 25) hx hb d_Reader_takeLineByte_19 (by decide) ?_
      obtain ⟨e1, e2⟩ := x_pair hE
      exact W.iret (v := (1 : Int32)) hx hb hr (fun t ht hW => ⟨by rw [e1], by rw [ht, ← e2]; exact hw, hS.F ht⟩) hS.2.2 d_Reader_takeLineByte_25

def y_Reader_take : MethodName := ⟨"PlainOrigin$Reader", "take", "(I)I"⟩
def ws_Reader_take : List Cond := Cond.code y_Reader_take prog_8_method_3_code 2 (some .int) :: UW
theorem hd_Reader_take : y_Reader_take.cls = R_Reader ∧ y_Reader_take.cls ≠ "java/lang/invoke/MethodHandle" ∧ y_Reader_take.cls ≠ "java/lang/invoke/VarHandle" ∧ (parseMethodDescriptor y_Reader_take.desc).map (fun d => d.parameters.length) = some 1 := by decide +kernel
theorem d_Reader_take_0 : decode prog_8_method_3_code 0 = .ok (.aload_n 0, 1) := by decide +kernel
theorem d_Reader_take_1 : decode prog_8_method_3_code 1 = .ok (.getfield 27, 3) := by decide +kernel
theorem d_Reader_take_4 : decode prog_8_method_3_code 4 = .ok (.lookupswitch (50) #[(-1, 36), (2, 38), (4, 44)], 36) := by decide +kernel
theorem d_Reader_take_40 : decode prog_8_method_3_code 40 = .ok (.iconst 0, 1) := by decide +kernel
theorem d_Reader_take_41 : decode prog_8_method_3_code 41 = .ok (.ireturn, 1) := by decide +kernel
theorem d_Reader_take_42 : decode prog_8_method_3_code 42 = .ok (.aload_n 0, 1) := by decide +kernel
theorem d_Reader_take_43 : decode prog_8_method_3_code 43 = .ok (.iload_n 1, 1) := by decide +kernel
theorem d_Reader_take_44 : decode prog_8_method_3_code 44 = .ok (.invokevirtual 45, 3) := by decide +kernel
theorem d_Reader_take_47 : decode prog_8_method_3_code 47 = .ok (.ireturn, 1) := by decide +kernel
theorem d_Reader_take_48 : decode prog_8_method_3_code 48 = .ok (.aload_n 0, 1) := by decide +kernel
theorem d_Reader_take_49 : decode prog_8_method_3_code 49 = .ok (.iload_n 1, 1) := by decide +kernel
theorem d_Reader_take_50 : decode prog_8_method_3_code 50 = .ok (.invokevirtual 49, 3) := by decide +kernel
theorem d_Reader_take_53 : decode prog_8_method_3_code 53 = .ok (.ireturn, 1) := by decide +kernel
theorem d_Reader_take_54 : decode prog_8_method_3_code 54 = .ok (.aload_n 0, 1) := by decide +kernel
theorem d_Reader_take_55 : decode prog_8_method_3_code 55 = .ok (.iload_n 1, 1) := by decide +kernel
theorem d_Reader_take_56 : decode prog_8_method_3_code 56 = .ok (.invokevirtual 52, 3) := by decide +kernel
theorem d_Reader_take_59 : decode prog_8_method_3_code 59 = .ok (.ireturn, 1) := by decide +kernel
def x_Reader_take (a1 : Int32) (σ : St) : Option (Int32 × St) := (if (σ.1 27 2) = ((-1) : Int32) then some ((0 : Int32), σ) else (if (σ.1 27 2) = (2 : Int32) then (x_bind2 (x_Reader_takeBodyByte a1 σ) (fun r44 s44 => some (r44, s44))) else (if (σ.1 27 2) = (4 : Int32) then (x_bind2 (x_Reader_takeChunkByte a1 σ) (fun r50 s50 => some (r50, s50))) else (x_bind2 (x_Reader_takeLineByte a1 σ) (fun r56 s56 => some (r56, s56))))))
abbrev rm_Reader_take : Room := { frames := 2, cells := 0, slots := 0, locals := 42 }
set_option maxHeartbeats 4000000 in
set_option maxRecDepth 100000 in
theorem t_Reader_take (l : Launch) (G : xG) (σ : St) (a1 : Int32) (r : Int32) (σ' : St) (hE : x_Reader_take a1 σ = some (r, σ')) : Met l y_Reader_take (ws_Reader_take) rm_Reader_take (xP G σ [.ref (G.2.1 27), .int a1]) (xQ G (some (.int r)) σ') 0 0 (xA G) := by
  refine Met.ofW (cc := prog_8_method_3_code) (maxL := 2) (ret := (some .int)) (by decide) rfl ?_
  intro p e s m args below meth c s₁ B hml hv
  obtain ⟨rfl, hw, hC⟩ := hv
  have hx := B.exec
  have hb := B.bytes
  have hr := B.returns
  have hu : ∀ w ∈ UW, w.before _ s = true := fun w h => atoms_spec B.pre w (List.mem_cons_of_mem _ h)
  have hown : s.vm.findClass R_Reader = some m.cls := findClass_of_methodNamed B.named
  have hlocks := B.notSynchronized
  have hK := hC.1
  have hI := hC.2.1
  have hG := hC.2.2.1
  have hN := hC.2.2.2
  have hS : va_S (xA G) s.heap s.heap [] := va_S.rf
  have hl := lv_entry ([.ref (G.2.1 27), .int a1]) (n := 2) (Nat.le_of_ble_eq_true rfl)
  rw [lg_entry_eq]
  generalize (lg_sl ([.ref (G.2.1 27), .int a1]) ++ List.replicate (2 - (lg_sl ([.ref (G.2.1 27), .int a1])).length) Slot.unset).toArray = ls at hl ⊢
  have hl : lv_has ls 2 [(0, .ref (G.2.1 27)), (1, .int a1)] := hl
  unfold x_Reader_take at hE
  refine lv_aload_n hx hb d_Reader_take_0 rfl (lv_at hl 0 rfl) ?_
  refine va_get (D := G.1) (cl := xCl) (ci := 3) (v := .int (σ.1 27 2)) (C := R_Reader) (T := T_Reader) (N := 6) hx hb hu fi_Reader hown hK hw 27 (x_at (by decide) (xcl_27 G σ)) rfl 2 (by decide) (hu _ mw_251) (fun _ h9 => h9) rfl d_Reader_take_1 ?_
  refine x_split (c := (σ.1 27 2) = ((-1) : Int32)) (fun hc4_0 => ?_) (fun hc4_0 => ?_)
  · rw [if_pos hc4_0] at hE
    refine lv_lookup (tgt := 40) (off := 36) hx hb d_Reader_take_4 (by decide) (by rw [hc4_0]; decide) (by decide) ?_
    refine lv_iconst (v := (0 : Int32)) hx hb d_Reader_take_40 (by decide) ?_
    obtain ⟨e1, e2⟩ := x_pair hE
    exact W.iret (v := (0 : Int32)) hx hb hr (fun t ht hW => ⟨by rw [e1], by rw [ht, ← e2]; exact hw, hS.F ht⟩) hS.2.2 d_Reader_take_41
  · rw [if_neg hc4_0] at hE
    refine x_split (c := (σ.1 27 2) = (2 : Int32)) (fun hc4_1 => ?_) (fun hc4_1 => ?_)
    · rw [if_pos hc4_1] at hE
      refine lv_lookup (tgt := 42) (off := 38) hx hb d_Reader_take_4 (by decide) (by rw [hc4_1]; decide) (by decide) ?_
      refine lv_aload_n hx hb d_Reader_take_42 rfl (lv_at hl 0 rfl) ?_
      refine lv_iload_n hx hb d_Reader_take_43 rfl (lv_at hl 1 rfl) ?_
      obtain ⟨r44, s44, hC44, hE⟩ := x_bind2E hE
      refine x_callS hS (W.runV (As := [.int a1]) (rest := []) ⟨hx, hb, hml, hown, hu⟩ (t_Reader_takeBodyByte l G σ a1 r44 s44 hC44) (cwV 1 hu (uw_V mw_504 mw_506 mw_1 mw_64 mw_507) rfl rfl rfl hd_Reader_takeBodyByte ⟨Nat.le_of_ble_eq_true rfl, Nat.le_of_ble_eq_true rfl⟩) (x_preV hC hS hw (va_recv hK hw (q := (R_Reader, T_Reader, 6)) (ci := 3) rfl (x_at (by decide) (xcl_27 G σ)))) rfl rfl hl.1 rfl (lv_room (Nat.le_of_ble_eq_true rfl)) d_Reader_take_44 ⟨Nat.le_of_ble_eq_true rfl, Nat.le_of_ble_eq_true rfl⟩) (fun H locs hw hS => ?_)
      obtain ⟨e1, e2⟩ := x_pair hE
      exact W.iret (v := r44) hx hb hr (fun t ht hW => ⟨by rw [e1], by rw [ht, ← e2]; exact hw, hS.F ht⟩) hS.2.2 d_Reader_take_47
    · rw [if_neg hc4_1] at hE
      refine x_split (c := (σ.1 27 2) = (4 : Int32)) (fun hc4_2 => ?_) (fun hc4_2 => ?_)
      · rw [if_pos hc4_2] at hE
        refine lv_lookup (tgt := 48) (off := 44) hx hb d_Reader_take_4 (by decide) (by rw [hc4_2]; decide) (by decide) ?_
        refine lv_aload_n hx hb d_Reader_take_48 rfl (lv_at hl 0 rfl) ?_
        refine lv_iload_n hx hb d_Reader_take_49 rfl (lv_at hl 1 rfl) ?_
        obtain ⟨r50, s50, hC50, hE⟩ := x_bind2E hE
        refine x_callS hS (W.runV (As := [.int a1]) (rest := []) ⟨hx, hb, hml, hown, hu⟩ (t_Reader_takeChunkByte l G σ a1 r50 s50 hC50) (cwV 1 hu (uw_V mw_512 mw_514 mw_2 mw_64 mw_515) rfl rfl rfl hd_Reader_takeChunkByte ⟨Nat.le_of_ble_eq_true rfl, Nat.le_of_ble_eq_true rfl⟩) (x_preV hC hS hw (va_recv hK hw (q := (R_Reader, T_Reader, 6)) (ci := 3) rfl (x_at (by decide) (xcl_27 G σ)))) rfl rfl hl.1 rfl (lv_room (Nat.le_of_ble_eq_true rfl)) d_Reader_take_50 ⟨Nat.le_of_ble_eq_true rfl, Nat.le_of_ble_eq_true rfl⟩) (fun H locs hw hS => ?_)
        obtain ⟨e1, e2⟩ := x_pair hE
        exact W.iret (v := r50) hx hb hr (fun t ht hW => ⟨by rw [e1], by rw [ht, ← e2]; exact hw, hS.F ht⟩) hS.2.2 d_Reader_take_53
      · rw [if_neg hc4_2] at hE
        refine lv_lookup (tgt := 54) (off := 50) hx hb d_Reader_take_4 (by decide) ((lv_osw hc4_0 (by decide)).trans ((lv_osw hc4_1 (by decide)).trans ((lv_osw hc4_2 (by decide)).trans rfl))) (by decide) ?_
        refine lv_aload_n hx hb d_Reader_take_54 rfl (lv_at hl 0 rfl) ?_
        refine lv_iload_n hx hb d_Reader_take_55 rfl (lv_at hl 1 rfl) ?_
        obtain ⟨r56, s56, hC56, hE⟩ := x_bind2E hE
        refine x_callS hS (W.runV (As := [.int a1]) (rest := []) ⟨hx, hb, hml, hown, hu⟩ (t_Reader_takeLineByte l G σ a1 r56 s56 hC56) (cwV 1 hu (uw_V mw_516 mw_518 mw_3 mw_64 mw_519) rfl rfl rfl hd_Reader_takeLineByte ⟨Nat.le_of_ble_eq_true rfl, Nat.le_of_ble_eq_true rfl⟩) (x_preV hC hS hw (va_recv hK hw (q := (R_Reader, T_Reader, 6)) (ci := 3) rfl (x_at (by decide) (xcl_27 G σ)))) rfl rfl hl.1 rfl (lv_room (Nat.le_of_ble_eq_true rfl)) d_Reader_take_56 ⟨Nat.le_of_ble_eq_true rfl, Nat.le_of_ble_eq_true rfl⟩) (fun H locs hw hS => ?_)
        obtain ⟨e1, e2⟩ := x_pair hE
        exact W.iret (v := r56) hx hb hr (fun t ht hW => ⟨by rw [e1], by rw [ht, ← e2]; exact hw, hS.F ht⟩) hS.2.2 d_Reader_take_59

def y_Reader_endRequestLine : MethodName := ⟨"PlainOrigin$Reader", "endRequestLine", "()I"⟩
def ws_Reader_endRequestLine : List Cond := Cond.code y_Reader_endRequestLine prog_8_method_9_code 2 (some .int) :: UW
theorem hd_Reader_endRequestLine : y_Reader_endRequestLine.cls = R_Reader ∧ y_Reader_endRequestLine.cls ≠ "java/lang/invoke/MethodHandle" ∧ y_Reader_endRequestLine.cls ≠ "java/lang/invoke/VarHandle" ∧ (parseMethodDescriptor y_Reader_endRequestLine.desc).map (fun d => d.parameters.length) = some 0 := by decide +kernel
theorem d_Reader_endRequestLine_0 : decode prog_8_method_9_code 0 = .ok (.aload_n 0, 1) := by decide +kernel
theorem d_Reader_endRequestLine_1 : decode prog_8_method_9_code 1 = .ok (.getfield 14, 3) := by decide +kernel
theorem d_Reader_endRequestLine_4 : decode prog_8_method_9_code 4 = .ok (.getfield 61, 3) := by decide +kernel
theorem d_Reader_endRequestLine_7 : decode prog_8_method_9_code 7 = .ok (.ifCond .ne (5), 3) := by decide +kernel
theorem d_Reader_endRequestLine_10 : decode prog_8_method_9_code 10 = .ok (.iconst 0, 1) := by decide +kernel
theorem d_Reader_endRequestLine_11 : decode prog_8_method_9_code 11 = .ok (.ireturn, 1) := by decide +kernel
theorem d_Reader_endRequestLine_12 : decode prog_8_method_9_code 12 = .ok (.aload_n 0, 1) := by decide +kernel
theorem d_Reader_endRequestLine_13 : decode prog_8_method_9_code 13 = .ok (.getfield 23, 3) := by decide +kernel
theorem d_Reader_endRequestLine_16 : decode prog_8_method_9_code 16 = .ok (.aload_n 0, 1) := by decide +kernel
theorem d_Reader_endRequestLine_17 : decode prog_8_method_9_code 17 = .ok (.getfield 14, 3) := by decide +kernel
theorem d_Reader_endRequestLine_20 : decode prog_8_method_9_code 20 = .ok (.invokevirtual 90, 3) := by decide +kernel
theorem d_Reader_endRequestLine_23 : decode prog_8_method_9_code 23 = .ok (.istore_n 1, 1) := by decide +kernel
theorem d_Reader_endRequestLine_24 : decode prog_8_method_9_code 24 = .ok (.iload_n 1, 1) := by decide +kernel
theorem d_Reader_endRequestLine_25 : decode prog_8_method_9_code 25 = .ok (.ifCond .ne (8), 3) := by decide +kernel
theorem d_Reader_endRequestLine_28 : decode prog_8_method_9_code 28 = .ok (.aload_n 0, 1) := by decide +kernel
theorem d_Reader_endRequestLine_29 : decode prog_8_method_9_code 29 = .ok (.iconst 1, 1) := by decide +kernel
theorem d_Reader_endRequestLine_30 : decode prog_8_method_9_code 30 = .ok (.putfield 27, 3) := by decide +kernel
theorem d_Reader_endRequestLine_33 : decode prog_8_method_9_code 33 = .ok (.iload_n 1, 1) := by decide +kernel
theorem d_Reader_endRequestLine_34 : decode prog_8_method_9_code 34 = .ok (.ireturn, 1) := by decide +kernel
def x_Reader_endRequestLine (σ : St) : Option (Int32 × St) := (if (σ.1 28 1) = 0 then some ((0 : Int32), σ) else (x_bind2 (x_Request_takeLine 28 σ) (fun r20 s20 => (if r20 = 0 then (x_let (x_updR s20 27 2 (1 : Int32)) (fun (s30 : St) => some (r20, s30))) else some (r20, s20)))))
abbrev rm_Reader_endRequestLine : Room := { frames := 7, cells := 0, slots := 0, locals := 162 }
set_option maxHeartbeats 4000000 in
set_option maxRecDepth 100000 in
theorem t_Reader_endRequestLine (l : Launch) (G : xG) (σ : St) (r : Int32) (σ' : St) (hE : x_Reader_endRequestLine σ = some (r, σ')) : Met l y_Reader_endRequestLine (ws_Reader_endRequestLine) rm_Reader_endRequestLine (xP G σ [.ref (G.2.1 27)]) (xQ G (some (.int r)) σ') 0 0 (xA G) := by
  refine Met.ofW (cc := prog_8_method_9_code) (maxL := 2) (ret := (some .int)) (by decide) rfl ?_
  intro p e s m args below meth c s₁ B hml hv
  obtain ⟨rfl, hw, hC⟩ := hv
  have hx := B.exec
  have hb := B.bytes
  have hr := B.returns
  have hu : ∀ w ∈ UW, w.before _ s = true := fun w h => atoms_spec B.pre w (List.mem_cons_of_mem _ h)
  have hown : s.vm.findClass R_Reader = some m.cls := findClass_of_methodNamed B.named
  have hlocks := B.notSynchronized
  have hK := hC.1
  have hI := hC.2.1
  have hG := hC.2.2.1
  have hN := hC.2.2.2
  have hS : va_S (xA G) s.heap s.heap [] := va_S.rf
  have hl := lv_entry ([.ref (G.2.1 27)]) (n := 2) (Nat.le_of_ble_eq_true rfl)
  rw [lg_entry_eq]
  generalize (lg_sl ([.ref (G.2.1 27)]) ++ List.replicate (2 - (lg_sl ([.ref (G.2.1 27)])).length) Slot.unset).toArray = ls at hl ⊢
  have hl : lv_has ls 2 [(0, .ref (G.2.1 27))] := hl
  unfold x_Reader_endRequestLine at hE
  refine lv_aload_n hx hb d_Reader_endRequestLine_0 rfl (lv_at hl 0 rfl) ?_
  refine va_get (D := G.1) (cl := xCl) (ci := 3) (v := .ref (G.2.1 28)) (C := R_Reader) (T := T_Reader) (N := 6) hx hb hu fi_Reader hown hK hw 27 (x_at (by decide) (xcl_27 G σ)) rfl 0 (by decide) (hu _ mw_248) (fun _ h9 => h9) rfl d_Reader_endRequestLine_1 ?_
  refine va_getN (D := G.1) (cl := xCl) (ci := 0) (v := .int (σ.1 28 1)) (C := R_Bytes) (T := T_Bytes) (N := 2) hx hb hu fi_Bytes hown hK hw 28 (x_at (by decide) (xcl_28 G σ)) rfl 1 (by decide) (nl_4 hG) (fun _ h9 => h9) rfl d_Reader_endRequestLine_4 ?_
  refine lv_if_ne (tgt := 12) hx hb d_Reader_endRequestLine_7 (by decide) (fun hc7 => ?_) (fun hc7 => ?_)
  · rw [if_neg hc7] at hE
    refine lv_aload_n hx hb d_Reader_endRequestLine_12 rfl (lv_at hl 0 rfl) ?_
    refine va_get (D := G.1) (cl := xCl) (ci := 3) (v := .ref (G.2.1 30)) (C := R_Reader) (T := T_Reader) (N := 6) hx hb hu fi_Reader hown hK hw 27 (x_at (by decide) (xcl_27 G σ)) rfl 1 (by decide) (hu _ mw_249) (fun _ h9 => h9) rfl d_Reader_endRequestLine_13 ?_
    refine lv_aload_n hx hb d_Reader_endRequestLine_16 rfl (lv_at hl 0 rfl) ?_
    refine va_get (D := G.1) (cl := xCl) (ci := 3) (v := .ref (G.2.1 28)) (C := R_Reader) (T := T_Reader) (N := 6) hx hb hu fi_Reader hown hK hw 27 (x_at (by decide) (xcl_27 G σ)) rfl 0 (by decide) (hu _ mw_248) (fun _ h9 => h9) rfl d_Reader_endRequestLine_17 ?_
    obtain ⟨r20, s20, hC20, hE⟩ := x_bind2E hE
    refine x_callS hS (W.runV (As := [.ref (G.2.1 28)]) (rest := []) ⟨hx, hb, hml, hown, hu⟩ (t_Request_takeLine l G σ 28 (by decide) r20 s20 hC20) (cwV 1 hu (uw_V mw_532 mw_533 mw_534 mw_65 mw_535) rfl rfl rfl hd_Request_takeLine ⟨Nat.le_of_ble_eq_true rfl, Nat.le_of_ble_eq_true rfl⟩) (x_preV hC hS hw (va_recv hK hw (q := (R_Request, T_Request, 9)) (ci := 2) rfl (x_at (by decide) (xcl_30 G σ)))) rfl rfl hl.1 rfl (lv_room (Nat.le_of_ble_eq_true rfl)) d_Reader_endRequestLine_20 ⟨Nat.le_of_ble_eq_true rfl, Nat.le_of_ble_eq_true rfl⟩) (fun H locs hw hS => ?_)
    refine lv_istore_n hx hb d_Reader_endRequestLine_23 rfl hl (by decide) rfl (fun ls hl => ?_)
    have hl : lv_has ls 2 [(1, .int r20), (0, .ref (G.2.1 27))] := hl
    refine lv_iload_n hx hb d_Reader_endRequestLine_24 rfl (lv_at hl 0 rfl) ?_
    refine lv_if_ne (tgt := 33) hx hb d_Reader_endRequestLine_25 (by decide) (fun hc25 => ?_) (fun hc25 => ?_)
    · rw [if_neg hc25] at hE
      refine lv_iload_n hx hb d_Reader_endRequestLine_33 rfl (lv_at hl 0 rfl) ?_
      obtain ⟨e1, e2⟩ := x_pair hE
      exact W.iret (v := r20) hx hb hr (fun t ht hW => ⟨by rw [e1], by rw [ht, ← e2]; exact hw, hS.F ht⟩) hS.2.2 d_Reader_endRequestLine_34
    · rw [if_pos hc25] at hE
      refine lv_aload_n hx hb d_Reader_endRequestLine_28 rfl (lv_at hl 1 rfl) ?_
      refine lv_iconst (v := (1 : Int32)) hx hb d_Reader_endRequestLine_29 (by decide) ?_
      refine va_put (D := G.1) (cl := xCl) (ci := 3) (v := .int (1 : Int32)) (ty := .int) (C := R_Reader) (T := T_Reader) (N := 6) hx hb hu fi_Reader ty_Reader tyok_Reader nm_Reader hown hK hw (x_D hI _) hS 27 (x_at (by decide) (xcl_27 G s20)) rfl 2 (by decide) (hu _ mw_251) (fun _ h9 => h9) rfl (tyok_Reader 2 (by decide)) rfl rfl (Nat.le_of_ble_eq_true rfl) d_Reader_endRequestLine_30 (fun H locs hw _ hS => ?_)
      replace hw := x_setR hw (by decide) rfl
      obtain ⟨s30, e30, hE⟩ := x_letE hE
      rw [← e30] at hw
      refine lv_iload_n hx hb d_Reader_endRequestLine_33 rfl (lv_at hl 0 rfl) ?_
      obtain ⟨e1, e2⟩ := x_pair hE
      exact W.iret (v := r20) hx hb hr (fun t ht hW => ⟨by rw [e1], by rw [ht, ← e2]; exact hw, hS.F ht⟩) hS.2.2 d_Reader_endRequestLine_34
  · rw [if_pos hc7] at hE
    refine lv_iconst (v := (0 : Int32)) hx hb d_Reader_endRequestLine_10 (by decide) ?_
    obtain ⟨e1, e2⟩ := x_pair hE
    exact W.iret (v := (0 : Int32)) hx hb hr (fun t ht hW => ⟨by rw [e1], by rw [ht, ← e2]; exact hw, hS.F ht⟩) hS.2.2 d_Reader_endRequestLine_11

def y_Reader_endTrailer : MethodName := ⟨"PlainOrigin$Reader", "endTrailer", "()I"⟩
def ws_Reader_endTrailer : List Cond := Cond.code y_Reader_endTrailer prog_8_method_11_code 1 (some .int) :: UW
theorem hd_Reader_endTrailer : y_Reader_endTrailer.cls = R_Reader ∧ y_Reader_endTrailer.cls ≠ "java/lang/invoke/MethodHandle" ∧ y_Reader_endTrailer.cls ≠ "java/lang/invoke/VarHandle" ∧ (parseMethodDescriptor y_Reader_endTrailer.desc).map (fun d => d.parameters.length) = some 0 := by decide +kernel
theorem d_Reader_endTrailer_0 : decode prog_8_method_11_code 0 = .ok (.aload_n 0, 1) := by decide +kernel
theorem d_Reader_endTrailer_1 : decode prog_8_method_11_code 1 = .ok (.getfield 14, 3) := by decide +kernel
theorem d_Reader_endTrailer_4 : decode prog_8_method_11_code 4 = .ok (.invokestatic 98, 3) := by decide +kernel
theorem d_Reader_endTrailer_7 : decode prog_8_method_11_code 7 = .ok (.iconst (-1), 1) := by decide +kernel
theorem d_Reader_endTrailer_8 : decode prog_8_method_11_code 8 = .ok (.if_icmp .ne (7), 3) := by decide +kernel
theorem d_Reader_endTrailer_11 : decode prog_8_method_11_code 11 = .ok (.sipush (400), 3) := by decide +kernel
theorem d_Reader_endTrailer_14 : decode prog_8_method_11_code 14 = .ok (.ireturn, 1) := by decide +kernel
theorem d_Reader_endTrailer_15 : decode prog_8_method_11_code 15 = .ok (.aload_n 0, 1) := by decide +kernel
theorem d_Reader_endTrailer_16 : decode prog_8_method_11_code 16 = .ok (.dup, 1) := by decide +kernel
theorem d_Reader_endTrailer_17 : decode prog_8_method_11_code 17 = .ok (.getfield 42, 3) := by decide +kernel
theorem d_Reader_endTrailer_20 : decode prog_8_method_11_code 20 = .ok (.iconst 1, 1) := by decide +kernel
theorem d_Reader_endTrailer_21 : decode prog_8_method_11_code 21 = .ok (.iadd, 1) := by decide +kernel
theorem d_Reader_endTrailer_22 : decode prog_8_method_11_code 22 = .ok (.putfield 42, 3) := by decide +kernel
theorem d_Reader_endTrailer_25 : decode prog_8_method_11_code 25 = .ok (.aload_n 0, 1) := by decide +kernel
theorem d_Reader_endTrailer_26 : decode prog_8_method_11_code 26 = .ok (.getfield 42, 3) := by decide +kernel
theorem d_Reader_endTrailer_29 : decode prog_8_method_11_code 29 = .ok (.iconst 4, 1) := by decide +kernel
theorem d_Reader_endTrailer_30 : decode prog_8_method_11_code 30 = .ok (.if_icmp .le (9), 3) := by decide +kernel
theorem d_Reader_endTrailer_33 : decode prog_8_method_11_code 33 = .ok (.sipush (431), 3) := by decide +kernel
theorem d_Reader_endTrailer_36 : decode prog_8_method_11_code 36 = .ok (.goto (4), 3) := by decide +kernel
theorem d_Reader_endTrailer_39 : decode prog_8_method_11_code 39 = .ok (.iconst 0, 1) := by decide +kernel
theorem d_Reader_endTrailer_40 : decode prog_8_method_11_code 40 = .ok (.ireturn, 1) := by decide +kernel
def x_Reader_endTrailer (σ : St) : Option (Int32 × St) := (Option.bind (x_Text_colonOf 28 σ) (fun r4 => (if r4 = ((-1) : Int32) then some ((400 : Int32), σ) else (x_let (x_updR σ 27 5 ((σ.1 27 5) + (1 : Int32))) (fun (s22 : St) => (if (s22.1 27 5) ≤ (4 : Int32) then some ((0 : Int32), s22) else some ((431 : Int32), s22)))))))
abbrev rm_Reader_endTrailer : Room := { frames := 7, cells := 0, slots := 0, locals := 158 }
set_option maxHeartbeats 4000000 in
set_option maxRecDepth 100000 in
theorem t_Reader_endTrailer (l : Launch) (G : xG) (σ : St) (r : Int32) (σ' : St) (hE : x_Reader_endTrailer σ = some (r, σ')) : Met l y_Reader_endTrailer (ws_Reader_endTrailer) rm_Reader_endTrailer (xP G σ [.ref (G.2.1 27)]) (xQ G (some (.int r)) σ') 0 0 (xA G) := by
  refine Met.ofW (cc := prog_8_method_11_code) (maxL := 1) (ret := (some .int)) (by decide) rfl ?_
  intro p e s m args below meth c s₁ B hml hv
  obtain ⟨rfl, hw, hC⟩ := hv
  have hx := B.exec
  have hb := B.bytes
  have hr := B.returns
  have hu : ∀ w ∈ UW, w.before _ s = true := fun w h => atoms_spec B.pre w (List.mem_cons_of_mem _ h)
  have hown : s.vm.findClass R_Reader = some m.cls := findClass_of_methodNamed B.named
  have hlocks := B.notSynchronized
  have hK := hC.1
  have hI := hC.2.1
  have hG := hC.2.2.1
  have hN := hC.2.2.2
  have hS : va_S (xA G) s.heap s.heap [] := va_S.rf
  have hl := lv_entry ([.ref (G.2.1 27)]) (n := 1) (Nat.le_of_ble_eq_true rfl)
  rw [lg_entry_eq]
  generalize (lg_sl ([.ref (G.2.1 27)]) ++ List.replicate (1 - (lg_sl ([.ref (G.2.1 27)])).length) Slot.unset).toArray = ls at hl ⊢
  have hl : lv_has ls 1 [(0, .ref (G.2.1 27))] := hl
  unfold x_Reader_endTrailer at hE
  refine lv_aload_n hx hb d_Reader_endTrailer_0 rfl (lv_at hl 0 rfl) ?_
  refine va_get (D := G.1) (cl := xCl) (ci := 3) (v := .ref (G.2.1 28)) (C := R_Reader) (T := T_Reader) (N := 6) hx hb hu fi_Reader hown hK hw 27 (x_at (by decide) (xcl_27 G σ)) rfl 0 (by decide) (hu _ mw_248) (fun _ h9 => h9) rfl d_Reader_endTrailer_1 ?_
  obtain ⟨r4, hC4, hE⟩ := x_bind hE
  refine x_callR (W.runS (As := [.ref (G.2.1 28)]) (rest := []) ⟨hx, hb, hml, hown, hu⟩ (t_Text_colonOf l G σ 28 (by decide) r4 hC4) (va_cwS 1 hu (uw_S mw_735 mw_699 mw_75 mw_700) rfl rfl rfl hd_Text_colonOf ⟨Nat.le_of_ble_eq_true rfl, Nat.le_of_ble_eq_true rfl⟩) (x_preS hC hS hw) rfl rfl hl.1 rfl (lv_room (Nat.le_of_ble_eq_true rfl)) d_Reader_endTrailer_4 ⟨Nat.le_of_ble_eq_true rfl, Nat.le_of_ble_eq_true rfl⟩) ?_
  refine lv_iconst (v := ((-1) : Int32)) hx hb d_Reader_endTrailer_7 (by decide) ?_
  refine lv_icmp_ne (tgt := 15) hx hb d_Reader_endTrailer_8 (by decide) (fun hc8 => ?_) (fun hc8 => ?_)
  · rw [if_neg hc8] at hE
    refine lv_aload_n hx hb d_Reader_endTrailer_15 rfl (lv_at hl 0 rfl) ?_
    refine lv_dup hx hb d_Reader_endTrailer_16 rfl ?_
    refine va_get (D := G.1) (cl := xCl) (ci := 3) (v := .int (σ.1 27 5)) (C := R_Reader) (T := T_Reader) (N := 6) hx hb hu fi_Reader hown hK hw 27 (x_at (by decide) (xcl_27 G σ)) rfl 5 (by decide) (hu _ mw_255) (fun _ h9 => h9) rfl d_Reader_endTrailer_17 ?_
    refine lv_iconst (v := (1 : Int32)) hx hb d_Reader_endTrailer_20 (by decide) ?_
    refine lv_iadd hx hb d_Reader_endTrailer_21 ?_
    refine va_put (D := G.1) (cl := xCl) (ci := 3) (v := .int ((σ.1 27 5) + (1 : Int32))) (ty := .int) (C := R_Reader) (T := T_Reader) (N := 6) hx hb hu fi_Reader ty_Reader tyok_Reader nm_Reader hown hK hw (x_D hI _) hS 27 (x_at (by decide) (xcl_27 G σ)) rfl 5 (by decide) (hu _ mw_255) (fun _ h9 => h9) rfl (tyok_Reader 5 (by decide)) rfl rfl (Nat.le_of_ble_eq_true rfl) d_Reader_endTrailer_22 (fun H locs hw _ hS => ?_)
    replace hw := x_setR hw (by decide) rfl
    obtain ⟨s22, e22, hE⟩ := x_letE hE
    rw [← e22] at hw
    refine lv_aload_n hx hb d_Reader_endTrailer_25 rfl (lv_at hl 0 rfl) ?_
    refine va_get (D := G.1) (cl := xCl) (ci := 3) (v := .int (s22.1 27 5)) (C := R_Reader) (T := T_Reader) (N := 6) hx hb hu fi_Reader hown hK hw 27 (x_at (by decide) (xcl_27 G s22)) rfl 5 (by decide) (hu _ mw_255) (fun _ h9 => h9) rfl d_Reader_endTrailer_26 ?_
    refine lv_iconst (v := (4 : Int32)) hx hb d_Reader_endTrailer_29 (by decide) ?_
    refine lv_icmp_le (tgt := 39) hx hb d_Reader_endTrailer_30 (by decide) (fun hc30 => ?_) (fun hc30 => ?_)
    · rw [if_pos hc30] at hE
      refine lv_iconst (v := (0 : Int32)) hx hb d_Reader_endTrailer_39 (by decide) ?_
      obtain ⟨e1, e2⟩ := x_pair hE
      exact W.iret (v := (0 : Int32)) hx hb hr (fun t ht hW => ⟨by rw [e1], by rw [ht, ← e2]; exact hw, hS.F ht⟩) hS.2.2 d_Reader_endTrailer_40
    · rw [if_neg hc30] at hE
      refine lv_sipush (v := (431 : Int32)) hx hb d_Reader_endTrailer_33 (by decide) ?_
      refine lv_goto (tgt := 40) hx hb d_Reader_endTrailer_36 (by decide) ?_
      obtain ⟨e1, e2⟩ := x_pair hE
      exact W.iret (v := (431 : Int32)) hx hb hr (fun t ht hW => ⟨by rw [e1], by rw [ht, ← e2]; exact hw, hS.F ht⟩) hS.2.2 d_Reader_endTrailer_40
  · rw [if_pos hc8] at hE
    refine lv_sipush (v := (400 : Int32)) hx hb d_Reader_endTrailer_11 (by decide) ?_
    obtain ⟨e1, e2⟩ := x_pair hE
    exact W.iret (v := (400 : Int32)) hx hb hr (fun t ht hW => ⟨by rw [e1], by rw [ht, ← e2]; exact hw, hS.F ht⟩) hS.2.2 d_Reader_endTrailer_14

def y_Reader_endChunkLine : MethodName := ⟨"PlainOrigin$Reader", "endChunkLine", "()I"⟩
def ws_Reader_endChunkLine : List Cond := Cond.code y_Reader_endChunkLine prog_8_method_10_code 2 (some .int) :: UW
theorem hd_Reader_endChunkLine : y_Reader_endChunkLine.cls = R_Reader ∧ y_Reader_endChunkLine.cls ≠ "java/lang/invoke/MethodHandle" ∧ y_Reader_endChunkLine.cls ≠ "java/lang/invoke/VarHandle" ∧ (parseMethodDescriptor y_Reader_endChunkLine.desc).map (fun d => d.parameters.length) = some 0 := by decide +kernel
theorem d_Reader_endChunkLine_0 : decode prog_8_method_10_code 0 = .ok (.aload_n 0, 1) := by decide +kernel
theorem d_Reader_endChunkLine_1 : decode prog_8_method_10_code 1 = .ok (.getfield 14, 3) := by decide +kernel
theorem d_Reader_endChunkLine_4 : decode prog_8_method_10_code 4 = .ok (.invokestatic 93, 3) := by decide +kernel
theorem d_Reader_endChunkLine_7 : decode prog_8_method_10_code 7 = .ok (.istore_n 1, 1) := by decide +kernel
theorem d_Reader_endChunkLine_8 : decode prog_8_method_10_code 8 = .ok (.iload_n 1, 1) := by decide +kernel
theorem d_Reader_endChunkLine_9 : decode prog_8_method_10_code 9 = .ok (.iconst (-1), 1) := by decide +kernel
theorem d_Reader_endChunkLine_10 : decode prog_8_method_10_code 10 = .ok (.if_icmp .ne (7), 3) := by decide +kernel
theorem d_Reader_endChunkLine_13 : decode prog_8_method_10_code 13 = .ok (.sipush (400), 3) := by decide +kernel
theorem d_Reader_endChunkLine_16 : decode prog_8_method_10_code 16 = .ok (.ireturn, 1) := by decide +kernel
theorem d_Reader_endChunkLine_17 : decode prog_8_method_10_code 17 = .ok (.aload_n 0, 1) := by decide +kernel
theorem d_Reader_endChunkLine_18 : decode prog_8_method_10_code 18 = .ok (.getfield 23, 3) := by decide +kernel
theorem d_Reader_endChunkLine_21 : decode prog_8_method_10_code 21 = .ok (.getfield 55, 3) := by decide +kernel
theorem d_Reader_endChunkLine_24 : decode prog_8_method_10_code 24 = .ok (.getfield 61, 3) := by decide +kernel
theorem d_Reader_endChunkLine_27 : decode prog_8_method_10_code 27 = .ok (.iload_n 1, 1) := by decide +kernel
theorem d_Reader_endChunkLine_28 : decode prog_8_method_10_code 28 = .ok (.iadd, 1) := by decide +kernel
theorem d_Reader_endChunkLine_29 : decode prog_8_method_10_code 29 = .ok (.sipush (200), 3) := by decide +kernel
theorem d_Reader_endChunkLine_32 : decode prog_8_method_10_code 32 = .ok (.if_icmp .le (7), 3) := by decide +kernel
theorem d_Reader_endChunkLine_35 : decode prog_8_method_10_code 35 = .ok (.sipush (413), 3) := by decide +kernel
theorem d_Reader_endChunkLine_38 : decode prog_8_method_10_code 38 = .ok (.ireturn, 1) := by decide +kernel
theorem d_Reader_endChunkLine_39 : decode prog_8_method_10_code 39 = .ok (.aload_n 0, 1) := by decide +kernel
theorem d_Reader_endChunkLine_40 : decode prog_8_method_10_code 40 = .ok (.iload_n 1, 1) := by decide +kernel
theorem d_Reader_endChunkLine_41 : decode prog_8_method_10_code 41 = .ok (.putfield 39, 3) := by decide +kernel
theorem d_Reader_endChunkLine_44 : decode prog_8_method_10_code 44 = .ok (.aload_n 0, 1) := by decide +kernel
theorem d_Reader_endChunkLine_45 : decode prog_8_method_10_code 45 = .ok (.iload_n 1, 1) := by decide +kernel
theorem d_Reader_endChunkLine_46 : decode prog_8_method_10_code 46 = .ok (.ifCond .ne (7), 3) := by decide +kernel
theorem d_Reader_endChunkLine_49 : decode prog_8_method_10_code 49 = .ok (.iconst 5, 1) := by decide +kernel
theorem d_Reader_endChunkLine_50 : decode prog_8_method_10_code 50 = .ok (.goto (4), 3) := by decide +kernel
theorem d_Reader_endChunkLine_53 : decode prog_8_method_10_code 53 = .ok (.iconst 4, 1) := by decide +kernel
theorem d_Reader_endChunkLine_54 : decode prog_8_method_10_code 54 = .ok (.putfield 27, 3) := by decide +kernel
theorem d_Reader_endChunkLine_57 : decode prog_8_method_10_code 57 = .ok (.iconst 0, 1) := by decide +kernel
theorem d_Reader_endChunkLine_58 : decode prog_8_method_10_code 58 = .ok (.ireturn, 1) := by decide +kernel
def x_Reader_endChunkLine (σ : St) : Option (Int32 × St) := (Option.bind (x_Text_chunkSize 28 σ) (fun r4 => (if r4 = ((-1) : Int32) then some ((400 : Int32), σ) else (if ((σ.1 42 1) + r4) ≤ (200 : Int32) then (x_let (x_updR σ 27 4 r4) (fun (s41 : St) => (if r4 = 0 then (x_let (x_updR s41 27 2 (5 : Int32)) (fun (s54 : St) => some ((0 : Int32), s54))) else (x_let (x_updR s41 27 2 (4 : Int32)) (fun (s54 : St) => some ((0 : Int32), s54)))))) else some ((413 : Int32), σ)))))
abbrev rm_Reader_endChunkLine : Room := { frames := 3, cells := 0, slots := 0, locals := 69 }
set_option maxHeartbeats 4000000 in
set_option maxRecDepth 100000 in
theorem t_Reader_endChunkLine (l : Launch) (G : xG) (σ : St) (r : Int32) (σ' : St) (hE : x_Reader_endChunkLine σ = some (r, σ')) : Met l y_Reader_endChunkLine (ws_Reader_endChunkLine) rm_Reader_endChunkLine (xP G σ [.ref (G.2.1 27)]) (xQ G (some (.int r)) σ') 0 0 (xA G) := by
  refine Met.ofW (cc := prog_8_method_10_code) (maxL := 2) (ret := (some .int)) (by decide) rfl ?_
  intro p e s m args below meth c s₁ B hml hv
  obtain ⟨rfl, hw, hC⟩ := hv
  have hx := B.exec
  have hb := B.bytes
  have hr := B.returns
  have hu : ∀ w ∈ UW, w.before _ s = true := fun w h => atoms_spec B.pre w (List.mem_cons_of_mem _ h)
  have hown : s.vm.findClass R_Reader = some m.cls := findClass_of_methodNamed B.named
  have hlocks := B.notSynchronized
  have hK := hC.1
  have hI := hC.2.1
  have hG := hC.2.2.1
  have hN := hC.2.2.2
  have hS : va_S (xA G) s.heap s.heap [] := va_S.rf
  have hl := lv_entry ([.ref (G.2.1 27)]) (n := 2) (Nat.le_of_ble_eq_true rfl)
  rw [lg_entry_eq]
  generalize (lg_sl ([.ref (G.2.1 27)]) ++ List.replicate (2 - (lg_sl ([.ref (G.2.1 27)])).length) Slot.unset).toArray = ls at hl ⊢
  have hl : lv_has ls 2 [(0, .ref (G.2.1 27))] := hl
  unfold x_Reader_endChunkLine at hE
  refine lv_aload_n hx hb d_Reader_endChunkLine_0 rfl (lv_at hl 0 rfl) ?_
  refine va_get (D := G.1) (cl := xCl) (ci := 3) (v := .ref (G.2.1 28)) (C := R_Reader) (T := T_Reader) (N := 6) hx hb hu fi_Reader hown hK hw 27 (x_at (by decide) (xcl_27 G σ)) rfl 0 (by decide) (hu _ mw_248) (fun _ h9 => h9) rfl d_Reader_endChunkLine_1 ?_
  obtain ⟨r4, hC4, hE⟩ := x_bind hE
  refine x_callR (W.runS (As := [.ref (G.2.1 28)]) (rest := []) ⟨hx, hb, hml, hown, hu⟩ (t_Text_chunkSize l G σ 28 (by decide) r4 hC4) (va_cwS 1 hu (uw_S mw_728 mw_729 mw_75 mw_730) rfl rfl rfl hd_Text_chunkSize ⟨Nat.le_of_ble_eq_true rfl, Nat.le_of_ble_eq_true rfl⟩) (x_preS hC hS hw) rfl rfl hl.1 rfl (lv_room (Nat.le_of_ble_eq_true rfl)) d_Reader_endChunkLine_4 ⟨Nat.le_of_ble_eq_true rfl, Nat.le_of_ble_eq_true rfl⟩) ?_
  refine lv_istore_n hx hb d_Reader_endChunkLine_7 rfl hl (by decide) rfl (fun ls hl => ?_)
  have hl : lv_has ls 2 [(1, .int r4), (0, .ref (G.2.1 27))] := hl
  refine lv_iload_n hx hb d_Reader_endChunkLine_8 rfl (lv_at hl 0 rfl) ?_
  refine lv_iconst (v := ((-1) : Int32)) hx hb d_Reader_endChunkLine_9 (by decide) ?_
  refine lv_icmp_ne (tgt := 17) hx hb d_Reader_endChunkLine_10 (by decide) (fun hc10 => ?_) (fun hc10 => ?_)
  · rw [if_neg hc10] at hE
    refine lv_aload_n hx hb d_Reader_endChunkLine_17 rfl (lv_at hl 1 rfl) ?_
    refine va_get (D := G.1) (cl := xCl) (ci := 3) (v := .ref (G.2.1 30)) (C := R_Reader) (T := T_Reader) (N := 6) hx hb hu fi_Reader hown hK hw 27 (x_at (by decide) (xcl_27 G σ)) rfl 1 (by decide) (hu _ mw_249) (fun _ h9 => h9) rfl d_Reader_endChunkLine_18 ?_
    refine va_getN (D := G.1) (cl := xCl) (ci := 2) (v := .ref (G.2.1 42)) (C := R_Request) (T := T_Request) (N := 9) hx hb hu fi_Request hown hK hw 30 (x_at (by decide) (xcl_30 G σ)) rfl 2 (by decide) (nl_27 hG) (fun _ h9 => h9) rfl d_Reader_endChunkLine_21 ?_
    refine va_getN (D := G.1) (cl := xCl) (ci := 0) (v := .int (σ.1 42 1)) (C := R_Bytes) (T := T_Bytes) (N := 2) hx hb hu fi_Bytes hown hK hw 42 (x_at (by decide) (xcl_42 G σ)) rfl 1 (by decide) (nl_4 hG) (fun _ h9 => h9) rfl d_Reader_endChunkLine_24 ?_
    refine lv_iload_n hx hb d_Reader_endChunkLine_27 rfl (lv_at hl 0 rfl) ?_
    refine lv_iadd hx hb d_Reader_endChunkLine_28 ?_
    refine lv_sipush (v := (200 : Int32)) hx hb d_Reader_endChunkLine_29 (by decide) ?_
    refine lv_icmp_le (tgt := 39) hx hb d_Reader_endChunkLine_32 (by decide) (fun hc32 => ?_) (fun hc32 => ?_)
    · rw [if_pos hc32] at hE
      refine lv_aload_n hx hb d_Reader_endChunkLine_39 rfl (lv_at hl 1 rfl) ?_
      refine lv_iload_n hx hb d_Reader_endChunkLine_40 rfl (lv_at hl 0 rfl) ?_
      refine va_put (D := G.1) (cl := xCl) (ci := 3) (v := .int r4) (ty := .int) (C := R_Reader) (T := T_Reader) (N := 6) hx hb hu fi_Reader ty_Reader tyok_Reader nm_Reader hown hK hw (x_D hI _) hS 27 (x_at (by decide) (xcl_27 G σ)) rfl 4 (by decide) (hu _ mw_254) (fun _ h9 => h9) rfl (tyok_Reader 4 (by decide)) rfl rfl (Nat.le_of_ble_eq_true rfl) d_Reader_endChunkLine_41 (fun H locs hw _ hS => ?_)
      replace hw := x_setR hw (by decide) rfl
      obtain ⟨s41, e41, hE⟩ := x_letE hE
      rw [← e41] at hw
      refine lv_aload_n hx hb d_Reader_endChunkLine_44 rfl (lv_at hl 1 rfl) ?_
      refine lv_iload_n hx hb d_Reader_endChunkLine_45 rfl (lv_at hl 0 rfl) ?_
      refine lv_if_ne (tgt := 53) hx hb d_Reader_endChunkLine_46 (by decide) (fun hc46 => ?_) (fun hc46 => ?_)
      · rw [if_neg hc46] at hE
        refine lv_iconst (v := (4 : Int32)) hx hb d_Reader_endChunkLine_53 (by decide) ?_
        refine va_put (D := G.1) (cl := xCl) (ci := 3) (v := .int (4 : Int32)) (ty := .int) (C := R_Reader) (T := T_Reader) (N := 6) hx hb hu fi_Reader ty_Reader tyok_Reader nm_Reader hown hK hw (x_D hI _) hS 27 (x_at (by decide) (xcl_27 G s41)) rfl 2 (by decide) (hu _ mw_251) (fun _ h9 => h9) rfl (tyok_Reader 2 (by decide)) rfl rfl (Nat.le_of_ble_eq_true rfl) d_Reader_endChunkLine_54 (fun H locs hw _ hS => ?_)
        replace hw := x_setR hw (by decide) rfl
        obtain ⟨s54, e54, hE⟩ := x_letE hE
        rw [← e54] at hw
        refine lv_iconst (v := (0 : Int32)) hx hb d_Reader_endChunkLine_57 (by decide) ?_
        obtain ⟨e1, e2⟩ := x_pair hE
        exact W.iret (v := (0 : Int32)) hx hb hr (fun t ht hW => ⟨by rw [e1], by rw [ht, ← e2]; exact hw, hS.F ht⟩) hS.2.2 d_Reader_endChunkLine_58
      · rw [if_pos hc46] at hE
        refine lv_iconst (v := (5 : Int32)) hx hb d_Reader_endChunkLine_49 (by decide) ?_
        refine lv_goto (tgt := 54) hx hb d_Reader_endChunkLine_50 (by decide) ?_
        refine va_put (D := G.1) (cl := xCl) (ci := 3) (v := .int (5 : Int32)) (ty := .int) (C := R_Reader) (T := T_Reader) (N := 6) hx hb hu fi_Reader ty_Reader tyok_Reader nm_Reader hown hK hw (x_D hI _) hS 27 (x_at (by decide) (xcl_27 G s41)) rfl 2 (by decide) (hu _ mw_251) (fun _ h9 => h9) rfl (tyok_Reader 2 (by decide)) rfl rfl (Nat.le_of_ble_eq_true rfl) d_Reader_endChunkLine_54 (fun H locs hw _ hS => ?_)
        replace hw := x_setR hw (by decide) rfl
        obtain ⟨s54, e54, hE⟩ := x_letE hE
        rw [← e54] at hw
        refine lv_iconst (v := (0 : Int32)) hx hb d_Reader_endChunkLine_57 (by decide) ?_
        obtain ⟨e1, e2⟩ := x_pair hE
        exact W.iret (v := (0 : Int32)) hx hb hr (fun t ht hW => ⟨by rw [e1], by rw [ht, ← e2]; exact hw, hS.F ht⟩) hS.2.2 d_Reader_endChunkLine_58
    · rw [if_neg hc32] at hE
      refine lv_sipush (v := (413 : Int32)) hx hb d_Reader_endChunkLine_35 (by decide) ?_
      obtain ⟨e1, e2⟩ := x_pair hE
      exact W.iret (v := (413 : Int32)) hx hb hr (fun t ht hW => ⟨by rw [e1], by rw [ht, ← e2]; exact hw, hS.F ht⟩) hS.2.2 d_Reader_endChunkLine_38
  · rw [if_pos hc10] at hE
    refine lv_sipush (v := (400 : Int32)) hx hb d_Reader_endChunkLine_13 (by decide) ?_
    obtain ⟨e1, e2⟩ := x_pair hE
    exact W.iret (v := (400 : Int32)) hx hb hr (fun t ht hW => ⟨by rw [e1], by rw [ht, ← e2]; exact hw, hS.F ht⟩) hS.2.2 d_Reader_endChunkLine_16

def y_Reader_endLine : MethodName := ⟨"PlainOrigin$Reader", "endLine", "()I"⟩
def ws_Reader_endLine : List Cond := Cond.code y_Reader_endLine prog_8_method_8_code 2 (some .int) :: UW
theorem hd_Reader_endLine : y_Reader_endLine.cls = R_Reader ∧ y_Reader_endLine.cls ≠ "java/lang/invoke/MethodHandle" ∧ y_Reader_endLine.cls ≠ "java/lang/invoke/VarHandle" ∧ (parseMethodDescriptor y_Reader_endLine.desc).map (fun d => d.parameters.length) = some 0 := by decide +kernel
theorem d_Reader_endLine_0 : decode prog_8_method_8_code 0 = .ok (.aload_n 0, 1) := by decide +kernel
theorem d_Reader_endLine_1 : decode prog_8_method_8_code 1 = .ok (.getfield 27, 3) := by decide +kernel
theorem d_Reader_endLine_4 : decode prog_8_method_8_code 4 = .ok (.tableswitch (80) (0) (3) #[(32), (40), (80), (72)], 32) := by decide +kernel
theorem d_Reader_endLine_36 : decode prog_8_method_8_code 36 = .ok (.aload_n 0, 1) := by decide +kernel
theorem d_Reader_endLine_37 : decode prog_8_method_8_code 37 = .ok (.invokevirtual 71, 3) := by decide +kernel
theorem d_Reader_endLine_40 : decode prog_8_method_8_code 40 = .ok (.istore_n 1, 1) := by decide +kernel
theorem d_Reader_endLine_41 : decode prog_8_method_8_code 41 = .ok (.goto (62), 3) := by decide +kernel
theorem d_Reader_endLine_44 : decode prog_8_method_8_code 44 = .ok (.aload_n 0, 1) := by decide +kernel
theorem d_Reader_endLine_45 : decode prog_8_method_8_code 45 = .ok (.getfield 14, 3) := by decide +kernel
theorem d_Reader_endLine_48 : decode prog_8_method_8_code 48 = .ok (.getfield 61, 3) := by decide +kernel
theorem d_Reader_endLine_51 : decode prog_8_method_8_code 51 = .ok (.ifCond .ne (7), 3) := by decide +kernel
theorem d_Reader_endLine_54 : decode prog_8_method_8_code 54 = .ok (.iconst 2, 1) := by decide +kernel
theorem d_Reader_endLine_55 : decode prog_8_method_8_code 55 = .ok (.goto (17), 3) := by decide +kernel
theorem d_Reader_endLine_58 : decode prog_8_method_8_code 58 = .ok (.aload_n 0, 1) := by decide +kernel
theorem d_Reader_endLine_59 : decode prog_8_method_8_code 59 = .ok (.getfield 23, 3) := by decide +kernel
theorem d_Reader_endLine_62 : decode prog_8_method_8_code 62 = .ok (.getfield 74, 3) := by decide +kernel
theorem d_Reader_endLine_65 : decode prog_8_method_8_code 65 = .ok (.aload_n 0, 1) := by decide +kernel
theorem d_Reader_endLine_66 : decode prog_8_method_8_code 66 = .ok (.getfield 14, 3) := by decide +kernel
theorem d_Reader_endLine_69 : decode prog_8_method_8_code 69 = .ok (.invokevirtual 78, 3) := by decide +kernel
theorem d_Reader_endLine_72 : decode prog_8_method_8_code 72 = .ok (.istore_n 1, 1) := by decide +kernel
theorem d_Reader_endLine_73 : decode prog_8_method_8_code 73 = .ok (.goto (30), 3) := by decide +kernel
theorem d_Reader_endLine_76 : decode prog_8_method_8_code 76 = .ok (.aload_n 0, 1) := by decide +kernel
theorem d_Reader_endLine_77 : decode prog_8_method_8_code 77 = .ok (.invokevirtual 84, 3) := by decide +kernel
theorem d_Reader_endLine_80 : decode prog_8_method_8_code 80 = .ok (.istore_n 1, 1) := by decide +kernel
theorem d_Reader_endLine_81 : decode prog_8_method_8_code 81 = .ok (.goto (22), 3) := by decide +kernel
theorem d_Reader_endLine_84 : decode prog_8_method_8_code 84 = .ok (.aload_n 0, 1) := by decide +kernel
theorem d_Reader_endLine_85 : decode prog_8_method_8_code 85 = .ok (.getfield 14, 3) := by decide +kernel
theorem d_Reader_endLine_88 : decode prog_8_method_8_code 88 = .ok (.getfield 61, 3) := by decide +kernel
theorem d_Reader_endLine_91 : decode prog_8_method_8_code 91 = .ok (.ifCond .ne (7), 3) := by decide +kernel
theorem d_Reader_endLine_94 : decode prog_8_method_8_code 94 = .ok (.iconst 3, 1) := by decide +kernel
theorem d_Reader_endLine_95 : decode prog_8_method_8_code 95 = .ok (.goto (7), 3) := by decide +kernel
theorem d_Reader_endLine_98 : decode prog_8_method_8_code 98 = .ok (.aload_n 0, 1) := by decide +kernel
theorem d_Reader_endLine_99 : decode prog_8_method_8_code 99 = .ok (.invokevirtual 87, 3) := by decide +kernel
theorem d_Reader_endLine_102 : decode prog_8_method_8_code 102 = .ok (.istore_n 1, 1) := by decide +kernel
theorem d_Reader_endLine_103 : decode prog_8_method_8_code 103 = .ok (.aload_n 0, 1) := by decide +kernel
theorem d_Reader_endLine_104 : decode prog_8_method_8_code 104 = .ok (.getfield 14, 3) := by decide +kernel
theorem d_Reader_endLine_107 : decode prog_8_method_8_code 107 = .ok (.invokevirtual 31, 3) := by decide +kernel
theorem d_Reader_endLine_110 : decode prog_8_method_8_code 110 = .ok (.iload_n 1, 1) := by decide +kernel
theorem d_Reader_endLine_111 : decode prog_8_method_8_code 111 = .ok (.ireturn, 1) := by decide +kernel
def x_Reader_endLine_103 (l1 : Int32) (σ : St) : Option (Int32 × St) := (Option.bind (x_Bytes_clear 28 σ) (fun s107 => some (l1, s107)))
def x_Reader_endLine_72 (k0 : Int32) (σ : St) : Option (Int32 × St) := x_Reader_endLine_103 k0 σ
def x_Reader_endLine_102 (k0 : Int32) (σ : St) : Option (Int32 × St) := x_Reader_endLine_103 k0 σ
def x_Reader_endLine_84 (σ : St) : Option (Int32 × St) := (if (σ.1 28 1) = 0 then x_Reader_endLine_102 (3 : Int32) σ else (x_bind2 (x_Reader_endTrailer σ) (fun r99 s99 => x_Reader_endLine_102 r99 s99)))
def x_Reader_endLine (σ : St) : Option (Int32 × St) := (if (σ.1 27 2) = (0 : Int32) then (x_bind2 (x_Reader_endRequestLine σ) (fun r37 s37 => x_Reader_endLine_103 r37 s37)) else (if (σ.1 27 2) = (1 : Int32) then (if (σ.1 28 1) = 0 then x_Reader_endLine_72 (2 : Int32) σ else (x_bind2 (x_Fields_take 28 σ) (fun r69 s69 => x_Reader_endLine_72 r69 s69))) else (if (σ.1 27 2) = (2 : Int32) then x_Reader_endLine_84 σ else (if (σ.1 27 2) = (3 : Int32) then (x_bind2 (x_Reader_endChunkLine σ) (fun r77 s77 => x_Reader_endLine_103 r77 s77)) else x_Reader_endLine_84 σ))))
abbrev rm_Reader_endLine : Room := { frames := 8, cells := 0, slots := 0, locals := 183 }
set_option maxHeartbeats 4000000 in
set_option maxRecDepth 100000 in
theorem t_Reader_endLine (l : Launch) (G : xG) (σ : St) (r : Int32) (σ' : St) (hE : x_Reader_endLine σ = some (r, σ')) : Met l y_Reader_endLine (ws_Reader_endLine) rm_Reader_endLine (xP G σ [.ref (G.2.1 27)]) (xQ G (some (.int r)) σ') 0 0 (xA G) := by
  refine Met.ofW (cc := prog_8_method_8_code) (maxL := 2) (ret := (some .int)) (by decide) rfl ?_
  intro p e s m args below meth c s₁ B hml hv
  obtain ⟨rfl, hw, hC⟩ := hv
  have hx := B.exec
  have hb := B.bytes
  have hr := B.returns
  have hu : ∀ w ∈ UW, w.before _ s = true := fun w h => atoms_spec B.pre w (List.mem_cons_of_mem _ h)
  have hown : s.vm.findClass R_Reader = some m.cls := findClass_of_methodNamed B.named
  have hlocks := B.notSynchronized
  have hK := hC.1
  have hI := hC.2.1
  have hG := hC.2.2.1
  have hN := hC.2.2.2
  have hS : va_S (xA G) s.heap s.heap [] := va_S.rf
  have jn103 : ∀ (ls : Array Slot) (H : Heap) (locs : List Loc) (σ : St) (l1 : Int32), x_Reader_endLine_103 l1 σ = some (r, σ') → lv_has ls 2 [(0, .ref (G.2.1 27)), (1, .int l1)] → xw G σ H → va_S (xA G) s.heap H locs → W p l e (headSpec (ws_Reader_endLine) rm_Reader_endLine).room s m ([.ref (G.2.1 27)] : List Value).toArray below meth c H locs 0 0 (MQ below (xQ G (some (.int r)) σ') ([.ref (G.2.1 27)] : List Value).toArray s 0 0 (xA G)) (F0 m 103 ls []) := by
    intro ls H locs σ l1 hE hl hw hS
    unfold x_Reader_endLine_103 at hE
    refine lv_aload_n hx hb d_Reader_endLine_103 rfl (lv_at hl 0 rfl) ?_
    refine va_get (D := G.1) (cl := xCl) (ci := 3) (v := .ref (G.2.1 28)) (C := R_Reader) (T := T_Reader) (N := 6) hx hb hu fi_Reader hown hK hw 27 (x_at (by decide) (xcl_27 G σ)) rfl 0 (by decide) (hu _ mw_248) (fun _ h9 => h9) rfl d_Reader_endLine_104 ?_
    obtain ⟨s107, hC107, hE⟩ := x_bind hE
    refine x_callV hS (W.runV (As := []) (rest := []) ⟨hx, hb, hml, hown, hu⟩ (t_Bytes_clear l G σ 28 (by decide) s107 hC107) (cwV 0 hu (uw_V mw_385 mw_386 mw_387 mw_63 mw_388) rfl rfl rfl hd_Bytes_clear ⟨Nat.le_of_ble_eq_true rfl, Nat.le_of_ble_eq_true rfl⟩) (x_preV hC hS hw (va_recv hK hw (q := (R_Bytes, T_Bytes, 2)) (ci := 0) rfl (x_at (by decide) (xcl_28 G σ)))) rfl rfl hl.1 rfl (lv_room (Nat.le_of_ble_eq_true rfl)) d_Reader_endLine_107 ⟨Nat.le_of_ble_eq_true rfl, Nat.le_of_ble_eq_true rfl⟩) (fun H locs hw hS => ?_)
    refine lv_iload_n hx hb d_Reader_endLine_110 rfl (lv_at hl 1 rfl) ?_
    obtain ⟨e1, e2⟩ := x_pair hE
    exact W.iret (v := l1) hx hb hr (fun t ht hW => ⟨by rw [e1], by rw [ht, ← e2]; exact hw, hS.F ht⟩) hS.2.2 d_Reader_endLine_111
  have jn72 : ∀ (ls : Array Slot) (H : Heap) (locs : List Loc) (σ : St) (k0 : Int32), x_Reader_endLine_72 k0 σ = some (r, σ') → lv_has ls 2 [(0, .ref (G.2.1 27))] → xw G σ H → va_S (xA G) s.heap H locs → W p l e (headSpec (ws_Reader_endLine) rm_Reader_endLine).room s m ([.ref (G.2.1 27)] : List Value).toArray below meth c H locs 0 0 (MQ below (xQ G (some (.int r)) σ') ([.ref (G.2.1 27)] : List Value).toArray s 0 0 (xA G)) (F0 m 72 ls [.int k0]) := by
    intro ls H locs σ k0 hE hl hw hS
    unfold x_Reader_endLine_72 at hE
    refine lv_istore_n hx hb d_Reader_endLine_72 rfl hl (by decide) rfl (fun ls hl => ?_)
    have hl : lv_has ls 2 [(1, .int k0), (0, .ref (G.2.1 27))] := hl
    refine lv_goto (tgt := 103) hx hb d_Reader_endLine_73 (by decide) ?_
    exact jn103 _ _ _ _ _ hE (lv_sub hl [1, 0] rfl) hw hS
  have jn102 : ∀ (ls : Array Slot) (H : Heap) (locs : List Loc) (σ : St) (k0 : Int32), x_Reader_endLine_102 k0 σ = some (r, σ') → lv_has ls 2 [(0, .ref (G.2.1 27))] → xw G σ H → va_S (xA G) s.heap H locs → W p l e (headSpec (ws_Reader_endLine) rm_Reader_endLine).room s m ([.ref (G.2.1 27)] : List Value).toArray below meth c H locs 0 0 (MQ below (xQ G (some (.int r)) σ') ([.ref (G.2.1 27)] : List Value).toArray s 0 0 (xA G)) (F0 m 102 ls [.int k0]) := by
    intro ls H locs σ k0 hE hl hw hS
    unfold x_Reader_endLine_102 at hE
    refine lv_istore_n hx hb d_Reader_endLine_102 rfl hl (by decide) rfl (fun ls hl => ?_)
    have hl : lv_has ls 2 [(1, .int k0), (0, .ref (G.2.1 27))] := hl
    exact jn103 _ _ _ _ _ hE (lv_sub hl [1, 0] rfl) hw hS
  have jn84 : ∀ (ls : Array Slot) (H : Heap) (locs : List Loc) (σ : St), x_Reader_endLine_84 σ = some (r, σ') → lv_has ls 2 [(0, .ref (G.2.1 27))] → xw G σ H → va_S (xA G) s.heap H locs → W p l e (headSpec (ws_Reader_endLine) rm_Reader_endLine).room s m ([.ref (G.2.1 27)] : List Value).toArray below meth c H locs 0 0 (MQ below (xQ G (some (.int r)) σ') ([.ref (G.2.1 27)] : List Value).toArray s 0 0 (xA G)) (F0 m 84 ls []) := by
    intro ls H locs σ hE hl hw hS
    unfold x_Reader_endLine_84 at hE
    refine lv_aload_n hx hb d_Reader_endLine_84 rfl (lv_at hl 0 rfl) ?_
    refine va_get (D := G.1) (cl := xCl) (ci := 3) (v := .ref (G.2.1 28)) (C := R_Reader) (T := T_Reader) (N := 6) hx hb hu fi_Reader hown hK hw 27 (x_at (by decide) (xcl_27 G σ)) rfl 0 (by decide) (hu _ mw_248) (fun _ h9 => h9) rfl d_Reader_endLine_85 ?_
    refine va_getN (D := G.1) (cl := xCl) (ci := 0) (v := .int (σ.1 28 1)) (C := R_Bytes) (T := T_Bytes) (N := 2) hx hb hu fi_Bytes hown hK hw 28 (x_at (by decide) (xcl_28 G σ)) rfl 1 (by decide) (nl_4 hG) (fun _ h9 => h9) rfl d_Reader_endLine_88 ?_
    refine lv_if_ne (tgt := 98) hx hb d_Reader_endLine_91 (by decide) (fun hc91 => ?_) (fun hc91 => ?_)
    · rw [if_neg hc91] at hE
      refine lv_aload_n hx hb d_Reader_endLine_98 rfl (lv_at hl 0 rfl) ?_
      obtain ⟨r99, s99, hC99, hE⟩ := x_bind2E hE
      refine x_callS hS (W.runV (As := []) (rest := []) ⟨hx, hb, hml, hown, hu⟩ (t_Reader_endTrailer l G σ r99 s99 hC99) (cwV 0 hu (uw_V mw_731 mw_733 mw_8 mw_64 mw_734) rfl rfl rfl hd_Reader_endTrailer ⟨Nat.le_of_ble_eq_true rfl, Nat.le_of_ble_eq_true rfl⟩) (x_preV hC hS hw (va_recv hK hw (q := (R_Reader, T_Reader, 6)) (ci := 3) rfl (x_at (by decide) (xcl_27 G σ)))) rfl rfl hl.1 rfl (lv_room (Nat.le_of_ble_eq_true rfl)) d_Reader_endLine_99 ⟨Nat.le_of_ble_eq_true rfl, Nat.le_of_ble_eq_true rfl⟩) (fun H locs hw hS => ?_)
      exact jn102 _ _ _ _ _ hE (lv_sub hl [0] rfl) hw hS
    · rw [if_pos hc91] at hE
      refine lv_iconst (v := (3 : Int32)) hx hb d_Reader_endLine_94 (by decide) ?_
      refine lv_goto (tgt := 102) hx hb d_Reader_endLine_95 (by decide) ?_
      exact jn102 _ _ _ _ _ hE (lv_sub hl [0] rfl) hw hS
  have hl := lv_entry ([.ref (G.2.1 27)]) (n := 2) (Nat.le_of_ble_eq_true rfl)
  rw [lg_entry_eq]
  generalize (lg_sl ([.ref (G.2.1 27)]) ++ List.replicate (2 - (lg_sl ([.ref (G.2.1 27)])).length) Slot.unset).toArray = ls at hl ⊢
  have hl : lv_has ls 2 [(0, .ref (G.2.1 27))] := hl
  unfold x_Reader_endLine at hE
  refine lv_aload_n hx hb d_Reader_endLine_0 rfl (lv_at hl 0 rfl) ?_
  refine va_get (D := G.1) (cl := xCl) (ci := 3) (v := .int (σ.1 27 2)) (C := R_Reader) (T := T_Reader) (N := 6) hx hb hu fi_Reader hown hK hw 27 (x_at (by decide) (xcl_27 G σ)) rfl 2 (by decide) (hu _ mw_251) (fun _ h9 => h9) rfl d_Reader_endLine_1 ?_
  refine x_split (c := (σ.1 27 2) = (0 : Int32)) (fun hc4_0 => ?_) (fun hc4_0 => ?_)
  · rw [if_pos hc4_0] at hE
    refine lv_tableIn (tgt := 36) (off := 32) hx hb d_Reader_endLine_4 (by rw [hc4_0]; decide) (by rw [hc4_0]; decide) (by rw [hc4_0]; decide) (by decide) ?_
    refine lv_aload_n hx hb d_Reader_endLine_36 rfl (lv_at hl 0 rfl) ?_
    obtain ⟨r37, s37, hC37, hE⟩ := x_bind2E hE
    refine x_callS hS (W.runV (As := []) (rest := []) ⟨hx, hb, hml, hown, hu⟩ (t_Reader_endRequestLine l G σ r37 s37 hC37) (cwV 0 hu (uw_V mw_528 mw_530 mw_5 mw_64 mw_531) rfl rfl rfl hd_Reader_endRequestLine ⟨Nat.le_of_ble_eq_true rfl, Nat.le_of_ble_eq_true rfl⟩) (x_preV hC hS hw (va_recv hK hw (q := (R_Reader, T_Reader, 6)) (ci := 3) rfl (x_at (by decide) (xcl_27 G σ)))) rfl rfl hl.1 rfl (lv_room (Nat.le_of_ble_eq_true rfl)) d_Reader_endLine_37 ⟨Nat.le_of_ble_eq_true rfl, Nat.le_of_ble_eq_true rfl⟩) (fun H locs hw hS => ?_)
    refine lv_istore_n hx hb d_Reader_endLine_40 rfl hl (by decide) rfl (fun ls hl => ?_)
    have hl : lv_has ls 2 [(1, .int r37), (0, .ref (G.2.1 27))] := hl
    refine lv_goto (tgt := 103) hx hb d_Reader_endLine_41 (by decide) ?_
    exact jn103 _ _ _ _ _ hE (lv_sub hl [1, 0] rfl) hw hS
  · rw [if_neg hc4_0] at hE
    refine x_split (c := (σ.1 27 2) = (1 : Int32)) (fun hc4_1 => ?_) (fun hc4_1 => ?_)
    · rw [if_pos hc4_1] at hE
      refine lv_tableIn (tgt := 44) (off := 40) hx hb d_Reader_endLine_4 (by rw [hc4_1]; decide) (by rw [hc4_1]; decide) (by rw [hc4_1]; decide) (by decide) ?_
      refine lv_aload_n hx hb d_Reader_endLine_44 rfl (lv_at hl 0 rfl) ?_
      refine va_get (D := G.1) (cl := xCl) (ci := 3) (v := .ref (G.2.1 28)) (C := R_Reader) (T := T_Reader) (N := 6) hx hb hu fi_Reader hown hK hw 27 (x_at (by decide) (xcl_27 G σ)) rfl 0 (by decide) (hu _ mw_248) (fun _ h9 => h9) rfl d_Reader_endLine_45 ?_
      refine va_getN (D := G.1) (cl := xCl) (ci := 0) (v := .int (σ.1 28 1)) (C := R_Bytes) (T := T_Bytes) (N := 2) hx hb hu fi_Bytes hown hK hw 28 (x_at (by decide) (xcl_28 G σ)) rfl 1 (by decide) (nl_4 hG) (fun _ h9 => h9) rfl d_Reader_endLine_48 ?_
      refine lv_if_ne (tgt := 58) hx hb d_Reader_endLine_51 (by decide) (fun hc51 => ?_) (fun hc51 => ?_)
      · rw [if_neg hc51] at hE
        refine lv_aload_n hx hb d_Reader_endLine_58 rfl (lv_at hl 0 rfl) ?_
        refine va_get (D := G.1) (cl := xCl) (ci := 3) (v := .ref (G.2.1 30)) (C := R_Reader) (T := T_Reader) (N := 6) hx hb hu fi_Reader hown hK hw 27 (x_at (by decide) (xcl_27 G σ)) rfl 1 (by decide) (hu _ mw_249) (fun _ h9 => h9) rfl d_Reader_endLine_59 ?_
        refine va_getN (D := G.1) (cl := xCl) (ci := 2) (v := .ref (G.2.1 31)) (C := R_Request) (T := T_Request) (N := 9) hx hb hu fi_Request hown hK hw 30 (x_at (by decide) (xcl_30 G σ)) rfl 0 (by decide) (nl_24 hG) (fun _ h9 => h9) rfl d_Reader_endLine_62 ?_
        refine lv_aload_n hx hb d_Reader_endLine_65 rfl (lv_at hl 0 rfl) ?_
        refine va_get (D := G.1) (cl := xCl) (ci := 3) (v := .ref (G.2.1 28)) (C := R_Reader) (T := T_Reader) (N := 6) hx hb hu fi_Reader hown hK hw 27 (x_at (by decide) (xcl_27 G σ)) rfl 0 (by decide) (hu _ mw_248) (fun _ h9 => h9) rfl d_Reader_endLine_66 ?_
        obtain ⟨r69, s69, hC69, hE⟩ := x_bind2E hE
        refine x_callS hS (W.runV (As := [.ref (G.2.1 28)]) (rest := []) ⟨hx, hb, hml, hown, hu⟩ (t_Fields_take l G σ 28 (by decide) r69 s69 hC69) (cwV 1 hu (uw_V mw_694 mw_695 mw_696 mw_66 mw_697) rfl rfl rfl hd_Fields_take ⟨Nat.le_of_ble_eq_true rfl, Nat.le_of_ble_eq_true rfl⟩) (x_preV hC hS hw (va_recv hK hw (q := (R_Fields, T_Fields, 9)) (ci := 1) rfl (x_at (by decide) (xcl_31 G σ)))) rfl rfl hl.1 rfl (lv_room (Nat.le_of_ble_eq_true rfl)) d_Reader_endLine_69 ⟨Nat.le_of_ble_eq_true rfl, Nat.le_of_ble_eq_true rfl⟩) (fun H locs hw hS => ?_)
        exact jn72 _ _ _ _ _ hE (lv_sub hl [0] rfl) hw hS
      · rw [if_pos hc51] at hE
        refine lv_iconst (v := (2 : Int32)) hx hb d_Reader_endLine_54 (by decide) ?_
        refine lv_goto (tgt := 72) hx hb d_Reader_endLine_55 (by decide) ?_
        exact jn72 _ _ _ _ _ hE (lv_sub hl [0] rfl) hw hS
    · rw [if_neg hc4_1] at hE
      refine x_split (c := (σ.1 27 2) = (2 : Int32)) (fun hc4_2 => ?_) (fun hc4_2 => ?_)
      · rw [if_pos hc4_2] at hE
        refine lv_tableIn (tgt := 84) (off := 80) hx hb d_Reader_endLine_4 (by rw [hc4_2]; decide) (by rw [hc4_2]; decide) (by rw [hc4_2]; decide) (by decide) ?_
        exact jn84 _ _ _ _ hE (lv_sub hl [0] rfl) hw hS
      · rw [if_neg hc4_2] at hE
        refine x_split (c := (σ.1 27 2) = (3 : Int32)) (fun hc4_3 => ?_) (fun hc4_3 => ?_)
        · rw [if_pos hc4_3] at hE
          refine lv_tableIn (tgt := 76) (off := 72) hx hb d_Reader_endLine_4 (by rw [hc4_3]; decide) (by rw [hc4_3]; decide) (by rw [hc4_3]; decide) (by decide) ?_
          refine lv_aload_n hx hb d_Reader_endLine_76 rfl (lv_at hl 0 rfl) ?_
          obtain ⟨r77, s77, hC77, hE⟩ := x_bind2E hE
          refine x_callS hS (W.runV (As := []) (rest := []) ⟨hx, hb, hml, hown, hu⟩ (t_Reader_endChunkLine l G σ r77 s77 hC77) (cwV 0 hu (uw_V mw_724 mw_726 mw_7 mw_64 mw_727) rfl rfl rfl hd_Reader_endChunkLine ⟨Nat.le_of_ble_eq_true rfl, Nat.le_of_ble_eq_true rfl⟩) (x_preV hC hS hw (va_recv hK hw (q := (R_Reader, T_Reader, 6)) (ci := 3) rfl (x_at (by decide) (xcl_27 G σ)))) rfl rfl hl.1 rfl (lv_room (Nat.le_of_ble_eq_true rfl)) d_Reader_endLine_77 ⟨Nat.le_of_ble_eq_true rfl, Nat.le_of_ble_eq_true rfl⟩) (fun H locs hw hS => ?_)
          refine lv_istore_n hx hb d_Reader_endLine_80 rfl hl (by decide) rfl (fun ls hl => ?_)
          have hl : lv_has ls 2 [(1, .int r77), (0, .ref (G.2.1 27))] := hl
          refine lv_goto (tgt := 103) hx hb d_Reader_endLine_81 (by decide) ?_
          exact jn103 _ _ _ _ _ hE (lv_sub hl [1, 0] rfl) hw hS
        · rw [if_neg hc4_3] at hE
          refine lv_tableOut (tgt := 84) hx hb d_Reader_endLine_4 (by have q0 := lv_neT hc4_0 (a := 0) (by decide); have q1 := lv_neT hc4_1 (a := 1) (by decide); have q2 := lv_neT hc4_2 (a := 2) (by decide); have q3 := lv_neT hc4_3 (a := 3) (by decide); omega) (by decide) ?_
          exact jn84 _ _ _ _ hE (lv_sub hl [0] rfl) hw hS

def y_Reader_endHead : MethodName := ⟨"PlainOrigin$Reader", "endHead", "()I"⟩
def ws_Reader_endHead : List Cond := Cond.code y_Reader_endHead prog_8_method_12_code 2 (some .int) :: UW
theorem hd_Reader_endHead : y_Reader_endHead.cls = R_Reader ∧ y_Reader_endHead.cls ≠ "java/lang/invoke/MethodHandle" ∧ y_Reader_endHead.cls ≠ "java/lang/invoke/VarHandle" ∧ (parseMethodDescriptor y_Reader_endHead.desc).map (fun d => d.parameters.length) = some 0 := by decide +kernel
theorem d_Reader_endHead_0 : decode prog_8_method_12_code 0 = .ok (.aload_n 0, 1) := by decide +kernel
theorem d_Reader_endHead_1 : decode prog_8_method_12_code 1 = .ok (.getfield 23, 3) := by decide +kernel
theorem d_Reader_endHead_4 : decode prog_8_method_12_code 4 = .ok (.invokevirtual 101, 3) := by decide +kernel
theorem d_Reader_endHead_7 : decode prog_8_method_12_code 7 = .ok (.istore_n 1, 1) := by decide +kernel
theorem d_Reader_endHead_8 : decode prog_8_method_12_code 8 = .ok (.iload_n 1, 1) := by decide +kernel
theorem d_Reader_endHead_9 : decode prog_8_method_12_code 9 = .ok (.ifCond .ne (11), 3) := by decide +kernel
theorem d_Reader_endHead_12 : decode prog_8_method_12_code 12 = .ok (.aload_n 0, 1) := by decide +kernel
theorem d_Reader_endHead_13 : decode prog_8_method_12_code 13 = .ok (.getfield 23, 3) := by decide +kernel
theorem d_Reader_endHead_16 : decode prog_8_method_12_code 16 = .ok (.invokevirtual 104, 3) := by decide +kernel
theorem d_Reader_endHead_19 : decode prog_8_method_12_code 19 = .ok (.istore_n 1, 1) := by decide +kernel
theorem d_Reader_endHead_20 : decode prog_8_method_12_code 20 = .ok (.iload_n 1, 1) := by decide +kernel
theorem d_Reader_endHead_21 : decode prog_8_method_12_code 21 = .ok (.ifCond .ne (11), 3) := by decide +kernel
theorem d_Reader_endHead_24 : decode prog_8_method_12_code 24 = .ok (.aload_n 0, 1) := by decide +kernel
theorem d_Reader_endHead_25 : decode prog_8_method_12_code 25 = .ok (.getfield 23, 3) := by decide +kernel
theorem d_Reader_endHead_28 : decode prog_8_method_12_code 28 = .ok (.invokevirtual 107, 3) := by decide +kernel
theorem d_Reader_endHead_31 : decode prog_8_method_12_code 31 = .ok (.istore_n 1, 1) := by decide +kernel
theorem d_Reader_endHead_32 : decode prog_8_method_12_code 32 = .ok (.iload_n 1, 1) := by decide +kernel
theorem d_Reader_endHead_33 : decode prog_8_method_12_code 33 = .ok (.ifCond .ne (11), 3) := by decide +kernel
theorem d_Reader_endHead_36 : decode prog_8_method_12_code 36 = .ok (.aload_n 0, 1) := by decide +kernel
theorem d_Reader_endHead_37 : decode prog_8_method_12_code 37 = .ok (.getfield 23, 3) := by decide +kernel
theorem d_Reader_endHead_40 : decode prog_8_method_12_code 40 = .ok (.invokevirtual 110, 3) := by decide +kernel
theorem d_Reader_endHead_43 : decode prog_8_method_12_code 43 = .ok (.istore_n 1, 1) := by decide +kernel
theorem d_Reader_endHead_44 : decode prog_8_method_12_code 44 = .ok (.iload_n 1, 1) := by decide +kernel
theorem d_Reader_endHead_45 : decode prog_8_method_12_code 45 = .ok (.ifCond .eq (5), 3) := by decide +kernel
theorem d_Reader_endHead_48 : decode prog_8_method_12_code 48 = .ok (.iload_n 1, 1) := by decide +kernel
theorem d_Reader_endHead_49 : decode prog_8_method_12_code 49 = .ok (.ireturn, 1) := by decide +kernel
theorem d_Reader_endHead_50 : decode prog_8_method_12_code 50 = .ok (.aload_n 0, 1) := by decide +kernel
theorem d_Reader_endHead_51 : decode prog_8_method_12_code 51 = .ok (.getfield 23, 3) := by decide +kernel
theorem d_Reader_endHead_54 : decode prog_8_method_12_code 54 = .ok (.invokevirtual 113, 3) := by decide +kernel
theorem d_Reader_endHead_57 : decode prog_8_method_12_code 57 = .ok (.aload_n 0, 1) := by decide +kernel
theorem d_Reader_endHead_58 : decode prog_8_method_12_code 58 = .ok (.getfield 23, 3) := by decide +kernel
theorem d_Reader_endHead_61 : decode prog_8_method_12_code 61 = .ok (.getfield 116, 3) := by decide +kernel
theorem d_Reader_endHead_64 : decode prog_8_method_12_code 64 = .ok (.ifCond .ne (15), 3) := by decide +kernel
theorem d_Reader_endHead_67 : decode prog_8_method_12_code 67 = .ok (.aload_n 0, 1) := by decide +kernel
theorem d_Reader_endHead_68 : decode prog_8_method_12_code 68 = .ok (.getfield 23, 3) := by decide +kernel
theorem d_Reader_endHead_71 : decode prog_8_method_12_code 71 = .ok (.getfield 64, 3) := by decide +kernel
theorem d_Reader_endHead_74 : decode prog_8_method_12_code 74 = .ok (.ifCond .ne (5), 3) := by decide +kernel
theorem d_Reader_endHead_77 : decode prog_8_method_12_code 77 = .ok (.iconst 3, 1) := by decide +kernel
theorem d_Reader_endHead_78 : decode prog_8_method_12_code 78 = .ok (.ireturn, 1) := by decide +kernel
theorem d_Reader_endHead_79 : decode prog_8_method_12_code 79 = .ok (.aload_n 0, 1) := by decide +kernel
theorem d_Reader_endHead_80 : decode prog_8_method_12_code 80 = .ok (.aload_n 0, 1) := by decide +kernel
theorem d_Reader_endHead_81 : decode prog_8_method_12_code 81 = .ok (.getfield 23, 3) := by decide +kernel
theorem d_Reader_endHead_84 : decode prog_8_method_12_code 84 = .ok (.getfield 116, 3) := by decide +kernel
theorem d_Reader_endHead_87 : decode prog_8_method_12_code 87 = .ok (.ifCond .eq (7), 3) := by decide +kernel
theorem d_Reader_endHead_90 : decode prog_8_method_12_code 90 = .ok (.iconst 3, 1) := by decide +kernel
theorem d_Reader_endHead_91 : decode prog_8_method_12_code 91 = .ok (.goto (4), 3) := by decide +kernel
theorem d_Reader_endHead_94 : decode prog_8_method_12_code 94 = .ok (.iconst 2, 1) := by decide +kernel
theorem d_Reader_endHead_95 : decode prog_8_method_12_code 95 = .ok (.putfield 27, 3) := by decide +kernel
theorem d_Reader_endHead_98 : decode prog_8_method_12_code 98 = .ok (.aload_n 0, 1) := by decide +kernel
theorem d_Reader_endHead_99 : decode prog_8_method_12_code 99 = .ok (.getfield 23, 3) := by decide +kernel
theorem d_Reader_endHead_102 : decode prog_8_method_12_code 102 = .ok (.getfield 119, 3) := by decide +kernel
theorem d_Reader_endHead_105 : decode prog_8_method_12_code 105 = .ok (.ifCond .eq (8), 3) := by decide +kernel
theorem d_Reader_endHead_108 : decode prog_8_method_12_code 108 = .ok (.bipush (100), 2) := by decide +kernel
theorem d_Reader_endHead_110 : decode prog_8_method_12_code 110 = .ok (.goto (4), 3) := by decide +kernel
theorem d_Reader_endHead_113 : decode prog_8_method_12_code 113 = .ok (.iconst 0, 1) := by decide +kernel
theorem d_Reader_endHead_114 : decode prog_8_method_12_code 114 = .ok (.ireturn, 1) := by decide +kernel
def x_Reader_endHead_95 (k0 : Int32) (σ : St) : Option (Int32 × St) := (x_let (x_updR σ 27 2 k0) (fun (s95 : St) => (if (s95.1 30 7) = 0 then some ((0 : Int32), s95) else some ((100 : Int32), s95))))
def x_Reader_endHead_79 (σ : St) : Option (Int32 × St) := (if (σ.1 30 5) = 0 then x_Reader_endHead_95 (2 : Int32) σ else x_Reader_endHead_95 (3 : Int32) σ)
def x_Reader_endHead_44 (l1 : Int32) (σ : St) : Option (Int32 × St) := (if l1 = 0 then (Option.bind (x_Request_readConnection σ) (fun s54 => (if (s54.1 30 5) = 0 then (if (s54.1 30 6) = 0 then some ((3 : Int32), s54) else x_Reader_endHead_79 s54) else x_Reader_endHead_79 s54))) else some (l1, σ))
def x_Reader_endHead_32 (l1 : Int32) (σ : St) : Option (Int32 × St) := (if l1 = 0 then (x_bind2 (x_Request_checkExpect σ) (fun r40 s40 => x_Reader_endHead_44 r40 s40)) else x_Reader_endHead_44 l1 σ)
def x_Reader_endHead_20 (l1 : Int32) (σ : St) : Option (Int32 × St) := (if l1 = 0 then (x_bind2 (x_Request_checkContentLength σ) (fun r28 s28 => x_Reader_endHead_32 r28 s28)) else x_Reader_endHead_32 l1 σ)
def x_Reader_endHead (σ : St) : Option (Int32 × St) := (Option.bind (x_Request_checkHost σ) (fun r4 => (if r4 = 0 then (x_bind2 (x_Request_checkTransferEncoding σ) (fun r16 s16 => x_Reader_endHead_20 r16 s16)) else x_Reader_endHead_20 r4 σ)))
abbrev rm_Reader_endHead : Room := { frames := 8, cells := 0, slots := 0, locals := 175 }
set_option maxHeartbeats 4000000 in
set_option maxRecDepth 100000 in
theorem t_Reader_endHead (l : Launch) (G : xG) (σ : St) (r : Int32) (σ' : St) (hE : x_Reader_endHead σ = some (r, σ')) : Met l y_Reader_endHead (ws_Reader_endHead) rm_Reader_endHead (xP G σ [.ref (G.2.1 27)]) (xQ G (some (.int r)) σ') 0 0 (xA G) := by
  refine Met.ofW (cc := prog_8_method_12_code) (maxL := 2) (ret := (some .int)) (by decide) rfl ?_
  intro p e s m args below meth c s₁ B hml hv
  obtain ⟨rfl, hw, hC⟩ := hv
  have hx := B.exec
  have hb := B.bytes
  have hr := B.returns
  have hu : ∀ w ∈ UW, w.before _ s = true := fun w h => atoms_spec B.pre w (List.mem_cons_of_mem _ h)
  have hown : s.vm.findClass R_Reader = some m.cls := findClass_of_methodNamed B.named
  have hlocks := B.notSynchronized
  have hK := hC.1
  have hI := hC.2.1
  have hG := hC.2.2.1
  have hN := hC.2.2.2
  have hS : va_S (xA G) s.heap s.heap [] := va_S.rf
  have jn95 : ∀ (ls : Array Slot) (H : Heap) (locs : List Loc) (σ : St) (k0 : Int32), x_Reader_endHead_95 k0 σ = some (r, σ') → lv_has ls 2 [(0, .ref (G.2.1 27))] → xw G σ H → va_S (xA G) s.heap H locs → W p l e (headSpec (ws_Reader_endHead) rm_Reader_endHead).room s m ([.ref (G.2.1 27)] : List Value).toArray below meth c H locs 0 0 (MQ below (xQ G (some (.int r)) σ') ([.ref (G.2.1 27)] : List Value).toArray s 0 0 (xA G)) (F0 m 95 ls [.int k0, .ref (G.2.1 27)]) := by
    intro ls H locs σ k0 hE hl hw hS
    unfold x_Reader_endHead_95 at hE
    refine va_put (D := G.1) (cl := xCl) (ci := 3) (v := .int k0) (ty := .int) (C := R_Reader) (T := T_Reader) (N := 6) hx hb hu fi_Reader ty_Reader tyok_Reader nm_Reader hown hK hw (x_D hI _) hS 27 (x_at (by decide) (xcl_27 G σ)) rfl 2 (by decide) (hu _ mw_251) (fun _ h9 => h9) rfl (tyok_Reader 2 (by decide)) rfl rfl (Nat.le_of_ble_eq_true rfl) d_Reader_endHead_95 (fun H locs hw _ hS => ?_)
    replace hw := x_setR hw (by decide) rfl
    obtain ⟨s95, e95, hE⟩ := x_letE hE
    rw [← e95] at hw
    refine lv_aload_n hx hb d_Reader_endHead_98 rfl (lv_at hl 0 rfl) ?_
    refine va_get (D := G.1) (cl := xCl) (ci := 3) (v := .ref (G.2.1 30)) (C := R_Reader) (T := T_Reader) (N := 6) hx hb hu fi_Reader hown hK hw 27 (x_at (by decide) (xcl_27 G s95)) rfl 1 (by decide) (hu _ mw_249) (fun _ h9 => h9) rfl d_Reader_endHead_99 ?_
    refine va_getN (D := G.1) (cl := xCl) (ci := 2) (v := .int (s95.1 30 7)) (C := R_Request) (T := T_Request) (N := 9) hx hb hu fi_Request hown hK hw 30 (x_at (by decide) (xcl_30 G s95)) rfl 7 (by decide) (nl_31 hG) (fun _ h9 => h9) rfl d_Reader_endHead_102 ?_
    refine lv_if_eq (tgt := 113) hx hb d_Reader_endHead_105 (by decide) (fun hc105 => ?_) (fun hc105 => ?_)
    · rw [if_pos hc105] at hE
      refine lv_iconst (v := (0 : Int32)) hx hb d_Reader_endHead_113 (by decide) ?_
      obtain ⟨e1, e2⟩ := x_pair hE
      exact W.iret (v := (0 : Int32)) hx hb hr (fun t ht hW => ⟨by rw [e1], by rw [ht, ← e2]; exact hw, hS.F ht⟩) hS.2.2 d_Reader_endHead_114
    · rw [if_neg hc105] at hE
      refine lv_bipush (v := (100 : Int32)) hx hb d_Reader_endHead_108 (by decide) ?_
      refine lv_goto (tgt := 114) hx hb d_Reader_endHead_110 (by decide) ?_
      obtain ⟨e1, e2⟩ := x_pair hE
      exact W.iret (v := (100 : Int32)) hx hb hr (fun t ht hW => ⟨by rw [e1], by rw [ht, ← e2]; exact hw, hS.F ht⟩) hS.2.2 d_Reader_endHead_114
  have jn79 : ∀ (ls : Array Slot) (H : Heap) (locs : List Loc) (σ : St), x_Reader_endHead_79 σ = some (r, σ') → lv_has ls 2 [(0, .ref (G.2.1 27))] → xw G σ H → va_S (xA G) s.heap H locs → W p l e (headSpec (ws_Reader_endHead) rm_Reader_endHead).room s m ([.ref (G.2.1 27)] : List Value).toArray below meth c H locs 0 0 (MQ below (xQ G (some (.int r)) σ') ([.ref (G.2.1 27)] : List Value).toArray s 0 0 (xA G)) (F0 m 79 ls []) := by
    intro ls H locs σ hE hl hw hS
    unfold x_Reader_endHead_79 at hE
    refine lv_aload_n hx hb d_Reader_endHead_79 rfl (lv_at hl 0 rfl) ?_
    refine lv_aload_n hx hb d_Reader_endHead_80 rfl (lv_at hl 0 rfl) ?_
    refine va_get (D := G.1) (cl := xCl) (ci := 3) (v := .ref (G.2.1 30)) (C := R_Reader) (T := T_Reader) (N := 6) hx hb hu fi_Reader hown hK hw 27 (x_at (by decide) (xcl_27 G σ)) rfl 1 (by decide) (hu _ mw_249) (fun _ h9 => h9) rfl d_Reader_endHead_81 ?_
    refine va_getN (D := G.1) (cl := xCl) (ci := 2) (v := .int (σ.1 30 5)) (C := R_Request) (T := T_Request) (N := 9) hx hb hu fi_Request hown hK hw 30 (x_at (by decide) (xcl_30 G σ)) rfl 5 (by decide) (nl_29 hG) (fun _ h9 => h9) rfl d_Reader_endHead_84 ?_
    refine lv_if_eq (tgt := 94) hx hb d_Reader_endHead_87 (by decide) (fun hc87 => ?_) (fun hc87 => ?_)
    · rw [if_pos hc87] at hE
      refine lv_iconst (v := (2 : Int32)) hx hb d_Reader_endHead_94 (by decide) ?_
      exact jn95 _ _ _ _ _ hE (lv_sub hl [0] rfl) hw hS
    · rw [if_neg hc87] at hE
      refine lv_iconst (v := (3 : Int32)) hx hb d_Reader_endHead_90 (by decide) ?_
      refine lv_goto (tgt := 95) hx hb d_Reader_endHead_91 (by decide) ?_
      exact jn95 _ _ _ _ _ hE (lv_sub hl [0] rfl) hw hS
  have jn44 : ∀ (ls : Array Slot) (H : Heap) (locs : List Loc) (σ : St) (l1 : Int32), x_Reader_endHead_44 l1 σ = some (r, σ') → lv_has ls 2 [(0, .ref (G.2.1 27)), (1, .int l1)] → xw G σ H → va_S (xA G) s.heap H locs → W p l e (headSpec (ws_Reader_endHead) rm_Reader_endHead).room s m ([.ref (G.2.1 27)] : List Value).toArray below meth c H locs 0 0 (MQ below (xQ G (some (.int r)) σ') ([.ref (G.2.1 27)] : List Value).toArray s 0 0 (xA G)) (F0 m 44 ls []) := by
    intro ls H locs σ l1 hE hl hw hS
    unfold x_Reader_endHead_44 at hE
    refine lv_iload_n hx hb d_Reader_endHead_44 rfl (lv_at hl 1 rfl) ?_
    refine lv_if_eq (tgt := 50) hx hb d_Reader_endHead_45 (by decide) (fun hc45 => ?_) (fun hc45 => ?_)
    · rw [if_pos hc45] at hE
      refine lv_aload_n hx hb d_Reader_endHead_50 rfl (lv_at hl 0 rfl) ?_
      refine va_get (D := G.1) (cl := xCl) (ci := 3) (v := .ref (G.2.1 30)) (C := R_Reader) (T := T_Reader) (N := 6) hx hb hu fi_Reader hown hK hw 27 (x_at (by decide) (xcl_27 G σ)) rfl 1 (by decide) (hu _ mw_249) (fun _ h9 => h9) rfl d_Reader_endHead_51 ?_
      obtain ⟨s54, hC54, hE⟩ := x_bind hE
      refine x_callV hS (W.runV (As := []) (rest := []) ⟨hx, hb, hml, hown, hu⟩ (t_Request_readConnection l G σ s54 hC54) (cwV 0 hu (uw_V mw_809 mw_810 mw_811 mw_65 mw_812) rfl rfl rfl hd_Request_readConnection ⟨Nat.le_of_ble_eq_true rfl, Nat.le_of_ble_eq_true rfl⟩) (x_preV hC hS hw (va_recv hK hw (q := (R_Request, T_Request, 9)) (ci := 2) rfl (x_at (by decide) (xcl_30 G σ)))) rfl rfl hl.1 rfl (lv_room (Nat.le_of_ble_eq_true rfl)) d_Reader_endHead_54 ⟨Nat.le_of_ble_eq_true rfl, Nat.le_of_ble_eq_true rfl⟩) (fun H locs hw hS => ?_)
      refine lv_aload_n hx hb d_Reader_endHead_57 rfl (lv_at hl 0 rfl) ?_
      refine va_get (D := G.1) (cl := xCl) (ci := 3) (v := .ref (G.2.1 30)) (C := R_Reader) (T := T_Reader) (N := 6) hx hb hu fi_Reader hown hK hw 27 (x_at (by decide) (xcl_27 G s54)) rfl 1 (by decide) (hu _ mw_249) (fun _ h9 => h9) rfl d_Reader_endHead_58 ?_
      refine va_getN (D := G.1) (cl := xCl) (ci := 2) (v := .int (s54.1 30 5)) (C := R_Request) (T := T_Request) (N := 9) hx hb hu fi_Request hown hK hw 30 (x_at (by decide) (xcl_30 G s54)) rfl 5 (by decide) (nl_29 hG) (fun _ h9 => h9) rfl d_Reader_endHead_61 ?_
      refine lv_if_ne (tgt := 79) hx hb d_Reader_endHead_64 (by decide) (fun hc64 => ?_) (fun hc64 => ?_)
      · rw [if_neg hc64] at hE
        exact jn79 _ _ _ _ hE (lv_sub hl [0] rfl) hw hS
      · rw [if_pos hc64] at hE
        refine lv_aload_n hx hb d_Reader_endHead_67 rfl (lv_at hl 0 rfl) ?_
        refine va_get (D := G.1) (cl := xCl) (ci := 3) (v := .ref (G.2.1 30)) (C := R_Reader) (T := T_Reader) (N := 6) hx hb hu fi_Reader hown hK hw 27 (x_at (by decide) (xcl_27 G s54)) rfl 1 (by decide) (hu _ mw_249) (fun _ h9 => h9) rfl d_Reader_endHead_68 ?_
        refine va_getN (D := G.1) (cl := xCl) (ci := 2) (v := .int (s54.1 30 6)) (C := R_Request) (T := T_Request) (N := 9) hx hb hu fi_Request hown hK hw 30 (x_at (by decide) (xcl_30 G s54)) rfl 6 (by decide) (nl_30 hG) (fun _ h9 => h9) rfl d_Reader_endHead_71 ?_
        refine lv_if_ne (tgt := 79) hx hb d_Reader_endHead_74 (by decide) (fun hc74 => ?_) (fun hc74 => ?_)
        · rw [if_neg hc74] at hE
          exact jn79 _ _ _ _ hE (lv_sub hl [0] rfl) hw hS
        · rw [if_pos hc74] at hE
          refine lv_iconst (v := (3 : Int32)) hx hb d_Reader_endHead_77 (by decide) ?_
          obtain ⟨e1, e2⟩ := x_pair hE
          exact W.iret (v := (3 : Int32)) hx hb hr (fun t ht hW => ⟨by rw [e1], by rw [ht, ← e2]; exact hw, hS.F ht⟩) hS.2.2 d_Reader_endHead_78
    · rw [if_neg hc45] at hE
      refine lv_iload_n hx hb d_Reader_endHead_48 rfl (lv_at hl 1 rfl) ?_
      obtain ⟨e1, e2⟩ := x_pair hE
      exact W.iret (v := l1) hx hb hr (fun t ht hW => ⟨by rw [e1], by rw [ht, ← e2]; exact hw, hS.F ht⟩) hS.2.2 d_Reader_endHead_49
  have jn32 : ∀ (ls : Array Slot) (H : Heap) (locs : List Loc) (σ : St) (l1 : Int32), x_Reader_endHead_32 l1 σ = some (r, σ') → lv_has ls 2 [(0, .ref (G.2.1 27)), (1, .int l1)] → xw G σ H → va_S (xA G) s.heap H locs → W p l e (headSpec (ws_Reader_endHead) rm_Reader_endHead).room s m ([.ref (G.2.1 27)] : List Value).toArray below meth c H locs 0 0 (MQ below (xQ G (some (.int r)) σ') ([.ref (G.2.1 27)] : List Value).toArray s 0 0 (xA G)) (F0 m 32 ls []) := by
    intro ls H locs σ l1 hE hl hw hS
    unfold x_Reader_endHead_32 at hE
    refine lv_iload_n hx hb d_Reader_endHead_32 rfl (lv_at hl 1 rfl) ?_
    refine lv_if_ne (tgt := 44) hx hb d_Reader_endHead_33 (by decide) (fun hc33 => ?_) (fun hc33 => ?_)
    · rw [if_neg hc33] at hE
      exact jn44 _ _ _ _ _ hE (lv_sub hl [0, 1] rfl) hw hS
    · rw [if_pos hc33] at hE
      refine lv_aload_n hx hb d_Reader_endHead_36 rfl (lv_at hl 0 rfl) ?_
      refine va_get (D := G.1) (cl := xCl) (ci := 3) (v := .ref (G.2.1 30)) (C := R_Reader) (T := T_Reader) (N := 6) hx hb hu fi_Reader hown hK hw 27 (x_at (by decide) (xcl_27 G σ)) rfl 1 (by decide) (hu _ mw_249) (fun _ h9 => h9) rfl d_Reader_endHead_37 ?_
      obtain ⟨r40, s40, hC40, hE⟩ := x_bind2E hE
      refine x_callS hS (W.runV (As := []) (rest := []) ⟨hx, hb, hml, hown, hu⟩ (t_Request_checkExpect l G σ r40 s40 hC40) (cwV 0 hu (uw_V mw_803 mw_804 mw_805 mw_65 mw_806) rfl rfl rfl hd_Request_checkExpect ⟨Nat.le_of_ble_eq_true rfl, Nat.le_of_ble_eq_true rfl⟩) (x_preV hC hS hw (va_recv hK hw (q := (R_Request, T_Request, 9)) (ci := 2) rfl (x_at (by decide) (xcl_30 G σ)))) rfl rfl hl.1 rfl (lv_room (Nat.le_of_ble_eq_true rfl)) d_Reader_endHead_40 ⟨Nat.le_of_ble_eq_true rfl, Nat.le_of_ble_eq_true rfl⟩) (fun H locs hw hS => ?_)
      refine lv_istore_n hx hb d_Reader_endHead_43 rfl hl (by decide) rfl (fun ls hl => ?_)
      have hl : lv_has ls 2 [(1, .int r40), (0, .ref (G.2.1 27))] := hl
      exact jn44 _ _ _ _ _ hE (lv_sub hl [1, 0] rfl) hw hS
  have jn20 : ∀ (ls : Array Slot) (H : Heap) (locs : List Loc) (σ : St) (l1 : Int32), x_Reader_endHead_20 l1 σ = some (r, σ') → lv_has ls 2 [(0, .ref (G.2.1 27)), (1, .int l1)] → xw G σ H → va_S (xA G) s.heap H locs → W p l e (headSpec (ws_Reader_endHead) rm_Reader_endHead).room s m ([.ref (G.2.1 27)] : List Value).toArray below meth c H locs 0 0 (MQ below (xQ G (some (.int r)) σ') ([.ref (G.2.1 27)] : List Value).toArray s 0 0 (xA G)) (F0 m 20 ls []) := by
    intro ls H locs σ l1 hE hl hw hS
    unfold x_Reader_endHead_20 at hE
    refine lv_iload_n hx hb d_Reader_endHead_20 rfl (lv_at hl 1 rfl) ?_
    refine lv_if_ne (tgt := 32) hx hb d_Reader_endHead_21 (by decide) (fun hc21 => ?_) (fun hc21 => ?_)
    · rw [if_neg hc21] at hE
      exact jn32 _ _ _ _ _ hE (lv_sub hl [0, 1] rfl) hw hS
    · rw [if_pos hc21] at hE
      refine lv_aload_n hx hb d_Reader_endHead_24 rfl (lv_at hl 0 rfl) ?_
      refine va_get (D := G.1) (cl := xCl) (ci := 3) (v := .ref (G.2.1 30)) (C := R_Reader) (T := T_Reader) (N := 6) hx hb hu fi_Reader hown hK hw 27 (x_at (by decide) (xcl_27 G σ)) rfl 1 (by decide) (hu _ mw_249) (fun _ h9 => h9) rfl d_Reader_endHead_25 ?_
      obtain ⟨r28, s28, hC28, hE⟩ := x_bind2E hE
      refine x_callS hS (W.runV (As := []) (rest := []) ⟨hx, hb, hml, hown, hu⟩ (t_Request_checkContentLength l G σ r28 s28 hC28) (cwV 0 hu (uw_V mw_792 mw_793 mw_794 mw_65 mw_795) rfl rfl rfl hd_Request_checkContentLength ⟨Nat.le_of_ble_eq_true rfl, Nat.le_of_ble_eq_true rfl⟩) (x_preV hC hS hw (va_recv hK hw (q := (R_Request, T_Request, 9)) (ci := 2) rfl (x_at (by decide) (xcl_30 G σ)))) rfl rfl hl.1 rfl (lv_room (Nat.le_of_ble_eq_true rfl)) d_Reader_endHead_28 ⟨Nat.le_of_ble_eq_true rfl, Nat.le_of_ble_eq_true rfl⟩) (fun H locs hw hS => ?_)
      refine lv_istore_n hx hb d_Reader_endHead_31 rfl hl (by decide) rfl (fun ls hl => ?_)
      have hl : lv_has ls 2 [(1, .int r28), (0, .ref (G.2.1 27))] := hl
      exact jn32 _ _ _ _ _ hE (lv_sub hl [1, 0] rfl) hw hS
  have hl := lv_entry ([.ref (G.2.1 27)]) (n := 2) (Nat.le_of_ble_eq_true rfl)
  rw [lg_entry_eq]
  generalize (lg_sl ([.ref (G.2.1 27)]) ++ List.replicate (2 - (lg_sl ([.ref (G.2.1 27)])).length) Slot.unset).toArray = ls at hl ⊢
  have hl : lv_has ls 2 [(0, .ref (G.2.1 27))] := hl
  unfold x_Reader_endHead at hE
  refine lv_aload_n hx hb d_Reader_endHead_0 rfl (lv_at hl 0 rfl) ?_
  refine va_get (D := G.1) (cl := xCl) (ci := 3) (v := .ref (G.2.1 30)) (C := R_Reader) (T := T_Reader) (N := 6) hx hb hu fi_Reader hown hK hw 27 (x_at (by decide) (xcl_27 G σ)) rfl 1 (by decide) (hu _ mw_249) (fun _ h9 => h9) rfl d_Reader_endHead_1 ?_
  obtain ⟨r4, hC4, hE⟩ := x_bind hE
  refine x_callR (W.runV (As := []) (rest := []) ⟨hx, hb, hml, hown, hu⟩ (t_Request_checkHost l G σ r4 hC4) (cwV 0 hu (uw_V mw_740 mw_741 mw_742 mw_65 mw_743) rfl rfl rfl hd_Request_checkHost ⟨Nat.le_of_ble_eq_true rfl, Nat.le_of_ble_eq_true rfl⟩) (x_preV hC hS hw (va_recv hK hw (q := (R_Request, T_Request, 9)) (ci := 2) rfl (x_at (by decide) (xcl_30 G σ)))) rfl rfl hl.1 rfl (lv_room (Nat.le_of_ble_eq_true rfl)) d_Reader_endHead_4 ⟨Nat.le_of_ble_eq_true rfl, Nat.le_of_ble_eq_true rfl⟩) ?_
  refine lv_istore_n hx hb d_Reader_endHead_7 rfl hl (by decide) rfl (fun ls hl => ?_)
  have hl : lv_has ls 2 [(1, .int r4), (0, .ref (G.2.1 27))] := hl
  refine lv_iload_n hx hb d_Reader_endHead_8 rfl (lv_at hl 0 rfl) ?_
  refine lv_if_ne (tgt := 20) hx hb d_Reader_endHead_9 (by decide) (fun hc9 => ?_) (fun hc9 => ?_)
  · rw [if_neg hc9] at hE
    exact jn20 _ _ _ _ _ hE (lv_sub hl [1, 0] rfl) hw hS
  · rw [if_pos hc9] at hE
    refine lv_aload_n hx hb d_Reader_endHead_12 rfl (lv_at hl 1 rfl) ?_
    refine va_get (D := G.1) (cl := xCl) (ci := 3) (v := .ref (G.2.1 30)) (C := R_Reader) (T := T_Reader) (N := 6) hx hb hu fi_Reader hown hK hw 27 (x_at (by decide) (xcl_27 G σ)) rfl 1 (by decide) (hu _ mw_249) (fun _ h9 => h9) rfl d_Reader_endHead_13 ?_
    obtain ⟨r16, s16, hC16, hE⟩ := x_bind2E hE
    refine x_callS hS (W.runV (As := []) (rest := []) ⟨hx, hb, hml, hown, hu⟩ (t_Request_checkTransferEncoding l G σ r16 s16 hC16) (cwV 0 hu (uw_V mw_767 mw_768 mw_769 mw_65 mw_770) rfl rfl rfl hd_Request_checkTransferEncoding ⟨Nat.le_of_ble_eq_true rfl, Nat.le_of_ble_eq_true rfl⟩) (x_preV hC hS hw (va_recv hK hw (q := (R_Request, T_Request, 9)) (ci := 2) rfl (x_at (by decide) (xcl_30 G σ)))) rfl rfl hl.1 rfl (lv_room (Nat.le_of_ble_eq_true rfl)) d_Reader_endHead_16 ⟨Nat.le_of_ble_eq_true rfl, Nat.le_of_ble_eq_true rfl⟩) (fun H locs hw hS => ?_)
    refine lv_istore_n hx hb d_Reader_endHead_19 rfl hl (by decide) rfl (fun ls hl => ?_)
    have hl : lv_has ls 2 [(1, .int r16), (0, .ref (G.2.1 27))] := hl
    exact jn20 _ _ _ _ _ hE (lv_sub hl [1, 0] rfl) hw hS
