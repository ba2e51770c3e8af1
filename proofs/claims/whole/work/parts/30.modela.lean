def y_Model_thrown : MethodName := ⟨"PlainOriginModel", "thrown", "()I"⟩
def ws_Model_thrown : List Cond := Cond.code y_Model_thrown prog_14_method_2_code 1 (some .int) :: UW
theorem hd_Model_thrown : y_Model_thrown.cls = R_Model ∧ y_Model_thrown.cls ≠ "java/lang/invoke/MethodHandle" ∧ y_Model_thrown.cls ≠ "java/lang/invoke/VarHandle" ∧ (parseMethodDescriptor y_Model_thrown.desc).map (fun d => d.parameters.length) = some 0 := by decide +kernel
theorem d_Model_thrown_0 : decode prog_14_method_2_code 0 = .ok (.aload_n 0, 1) := by decide +kernel
theorem d_Model_thrown_1 : decode prog_14_method_2_code 1 = .ok (.getfield 142, 3) := by decide +kernel
theorem d_Model_thrown_4 : decode prog_14_method_2_code 4 = .ok (.ireturn, 1) := by decide +kernel
def x_Model_thrown (σ : St) : Option Int32 := some (σ.1 51 1)
abbrev rm_Model_thrown : Room := { frames := 0, cells := 0, slots := 0, locals := 0 }
set_option maxHeartbeats 4000000 in
set_option maxRecDepth 100000 in
theorem t_Model_thrown (l : Launch) (G : xG) (σ : St) (r : Int32) (hE : x_Model_thrown σ = some r) : Met l y_Model_thrown (ws_Model_thrown) rm_Model_thrown (xP G σ [.ref (G.2.1 51)]) (xRd (some (.int r))) 0 0 (fun _ => False) := by
  refine Met.ofW (cc := prog_14_method_2_code) (maxL := 1) (ret := (some .int)) (by decide) rfl ?_
  intro p e s m args below meth c s₁ B hml hv
  obtain ⟨rfl, hw, hC⟩ := hv
  have hx := B.exec
  have hb := B.bytes
  have hr := B.returns
  have hu : ∀ w ∈ UW, w.before _ s = true := fun w h => atoms_spec B.pre w (List.mem_cons_of_mem _ h)
  have hown : s.vm.findClass R_Model = some m.cls := findClass_of_methodNamed B.named
  have hlocks := B.notSynchronized
  have hK := hC.1
  have hI := hC.2.1
  have hG := hC.2.2.1
  have hN := hC.2.2.2
  have hS : va_S (xA G) s.heap s.heap [] := va_S.rf
  have hl := lv_entry ([.ref (G.2.1 51)]) (n := 1) (Nat.le_of_ble_eq_true rfl)
  rw [lg_entry_eq]
  generalize (lg_sl ([.ref (G.2.1 51)]) ++ List.replicate (1 - (lg_sl ([.ref (G.2.1 51)])).length) Slot.unset).toArray = ls at hl ⊢
  have hl : lv_has ls 1 [(0, .ref (G.2.1 51))] := hl
  unfold x_Model_thrown at hE
  refine lv_aload_n hx hb d_Model_thrown_0 rfl (lv_at hl 0 rfl) ?_
  refine va_get (D := G.1) (cl := xCl) (ci := 10) (v := .int (σ.1 51 1)) (C := R_Model) (T := T_Model) (N := 33) hx hb hu fi_Model hown hK hw 51 (x_at (by decide) (xcl_51 G σ)) rfl 1 (by decide) (hu _ mw_1069) (fun _ h9 => h9) rfl d_Model_thrown_1 ?_
  exact W.iret (v := σ.1 51 1) hx hb hr (fun t ht hW => ⟨by rw [Option.some.inj hE], ht⟩) (fun q h => by cases h) d_Model_thrown_4

def y_Model_letter : MethodName := ⟨"PlainOriginModel", "letter", "(I)I"⟩
def ws_Model_letter : List Cond := Cond.code y_Model_letter prog_14_method_3_code 2 (some .int) :: UW
theorem hd_Model_letter : y_Model_letter.cls = R_Model ∧ y_Model_letter.cls ≠ "java/lang/invoke/MethodHandle" ∧ y_Model_letter.cls ≠ "java/lang/invoke/VarHandle" ∧ (parseMethodDescriptor y_Model_letter.desc).map (fun d => d.parameters.length) = some 1 := by decide +kernel
theorem d_Model_letter_0 : decode prog_14_method_3_code 0 = .ok (.aload_n 0, 1) := by decide +kernel
theorem d_Model_letter_1 : decode prog_14_method_3_code 1 = .ok (.getfield 81, 3) := by decide +kernel
theorem d_Model_letter_4 : decode prog_14_method_3_code 4 = .ok (.iload_n 1, 1) := by decide +kernel
theorem d_Model_letter_5 : decode prog_14_method_3_code 5 = .ok (.iconst 3, 1) := by decide +kernel
theorem d_Model_letter_6 : decode prog_14_method_3_code 6 = .ok (.ishr, 1) := by decide +kernel
theorem d_Model_letter_7 : decode prog_14_method_3_code 7 = .ok (.laload, 1) := by decide +kernel
theorem d_Model_letter_8 : decode prog_14_method_3_code 8 = .ok (.bipush (8), 2) := by decide +kernel
theorem d_Model_letter_10 : decode prog_14_method_3_code 10 = .ok (.iload_n 1, 1) := by decide +kernel
theorem d_Model_letter_11 : decode prog_14_method_3_code 11 = .ok (.bipush (7), 2) := by decide +kernel
theorem d_Model_letter_13 : decode prog_14_method_3_code 13 = .ok (.iand, 1) := by decide +kernel
theorem d_Model_letter_14 : decode prog_14_method_3_code 14 = .ok (.imul, 1) := by decide +kernel
theorem d_Model_letter_15 : decode prog_14_method_3_code 15 = .ok (.lshr, 1) := by decide +kernel
theorem d_Model_letter_16 : decode prog_14_method_3_code 16 = .ok (.ldc2_w 145, 3) := by decide +kernel
theorem d_Model_letter_19 : decode prog_14_method_3_code 19 = .ok (.land, 1) := by decide +kernel
theorem d_Model_letter_20 : decode prog_14_method_3_code 20 = .ok (.l2i, 1) := by decide +kernel
theorem d_Model_letter_21 : decode prog_14_method_3_code 21 = .ok (.ireturn, 1) := by decide +kernel
def x_Model_letter (a1 : Int32) (σ : St) : Option Int32 := (if x_in (a1 >>> ((3 : Int32) &&& 31)) 38 then some (Int64.toInt32 (((x_long σ 52 (a1 >>> ((3 : Int32) &&& 31)).toNatClampNeg) >>> (Int32.toInt64 ((8 : Int32) * (a1 &&& (7 : Int32))) &&& 63)) &&& (255 : Int64))) else none)
abbrev rm_Model_letter : Room := { frames := 0, cells := 0, slots := 0, locals := 0 }
set_option maxHeartbeats 4000000 in
set_option maxRecDepth 100000 in
theorem t_Model_letter (l : Launch) (G : xG) (σ : St) (a1 : Int32) (r : Int32) (hE : x_Model_letter a1 σ = some r) : Met l y_Model_letter (ws_Model_letter) rm_Model_letter (xP G σ [.ref (G.2.1 51), .int a1]) (xRd (some (.int r))) 0 0 (fun _ => False) := by
  refine Met.ofW (cc := prog_14_method_3_code) (maxL := 2) (ret := (some .int)) (by decide) rfl ?_
  intro p e s m args below meth c s₁ B hml hv
  obtain ⟨rfl, hw, hC⟩ := hv
  have hx := B.exec
  have hb := B.bytes
  have hr := B.returns
  have hu : ∀ w ∈ UW, w.before _ s = true := fun w h => atoms_spec B.pre w (List.mem_cons_of_mem _ h)
  have hown : s.vm.findClass R_Model = some m.cls := findClass_of_methodNamed B.named
  have hlocks := B.notSynchronized
  have hK := hC.1
  have hI := hC.2.1
  have hG := hC.2.2.1
  have hN := hC.2.2.2
  have hS : va_S (xA G) s.heap s.heap [] := va_S.rf
  have hl := lv_entry ([.ref (G.2.1 51), .int a1]) (n := 2) (Nat.le_of_ble_eq_true rfl)
  rw [lg_entry_eq]
  generalize (lg_sl ([.ref (G.2.1 51), .int a1]) ++ List.replicate (2 - (lg_sl ([.ref (G.2.1 51), .int a1])).length) Slot.unset).toArray = ls at hl ⊢
  have hl : lv_has ls 2 [(0, .ref (G.2.1 51)), (1, .int a1)] := hl
  unfold x_Model_letter at hE
  refine lv_aload_n hx hb d_Model_letter_0 rfl (lv_at hl 0 rfl) ?_
  refine va_get (D := G.1) (cl := xCl) (ci := 10) (v := .ref (G.2.1 52)) (C := R_Model) (T := T_Model) (N := 33) hx hb hu fi_Model hown hK hw 51 (x_at (by decide) (xcl_51 G σ)) rfl 0 (by decide) (hu _ mw_1068) (fun _ h9 => h9) rfl d_Model_letter_1 ?_
  refine lv_iload_n hx hb d_Model_letter_4 rfl (lv_at hl 1 rfl) ?_
  refine lv_iconst (v := (3 : Int32)) hx hb d_Model_letter_5 (by decide) ?_
  refine lv_ishr hx hb d_Model_letter_6 ?_
  obtain ⟨g7, hE⟩ := x_guard hE
  refine va_lald hx hb hK hw 52 2 (x_at (by decide) (xcl_52 G σ)) rfl g7 d_Model_letter_7 ?_
  refine lv_bipush (v := (8 : Int32)) hx hb d_Model_letter_8 (by decide) ?_
  refine lv_iload_n hx hb d_Model_letter_10 rfl (lv_at hl 1 rfl) ?_
  refine lv_bipush (v := (7 : Int32)) hx hb d_Model_letter_11 (by decide) ?_
  refine lv_iand hx hb d_Model_letter_13 ?_
  refine lv_imul hx hb d_Model_letter_14 ?_
  refine lv_lshr hx hb d_Model_letter_15 rfl ?_
  refine lv_ldc2 (v := (255 : Int64)) hx hb hown (hu _ mw_1181) d_Model_letter_16 ?_
  refine lv_land hx hb d_Model_letter_19 ?_
  refine lv_l2i hx hb d_Model_letter_20 rfl ?_
  exact W.iret (v := Int64.toInt32 (((x_long σ 52 (a1 >>> ((3 : Int32) &&& 31)).toNatClampNeg) >>> (Int32.toInt64 ((8 : Int32) * (a1 &&& (7 : Int32))) &&& 63)) &&& (255 : Int64))) hx hb hr (fun t ht hW => ⟨by rw [Option.some.inj hE], ht⟩) (fun q h => by cases h) d_Model_letter_21

def y_Model_within : MethodName := ⟨"PlainOriginModel", "within", "(III)Z"⟩
def ws_Model_within : List Cond := Cond.code y_Model_within prog_14_method_4_code 3 (some .boolean) :: UW
theorem hd_Model_within : y_Model_within.cls ≠ "java/lang/invoke/MethodHandle" ∧ y_Model_within.cls ≠ "java/lang/invoke/VarHandle" ∧ (parseMethodDescriptor y_Model_within.desc).map (fun d => d.parameters.length) = some 3 := by decide +kernel
theorem d_Model_within_0 : decode prog_14_method_4_code 0 = .ok (.iload_n 0, 1) := by decide +kernel
theorem d_Model_within_1 : decode prog_14_method_4_code 1 = .ok (.iload_n 1, 1) := by decide +kernel
theorem d_Model_within_2 : decode prog_14_method_4_code 2 = .ok (.if_icmp .lt (12), 3) := by decide +kernel
theorem d_Model_within_5 : decode prog_14_method_4_code 5 = .ok (.iload_n 0, 1) := by decide +kernel
theorem d_Model_within_6 : decode prog_14_method_4_code 6 = .ok (.iload_n 2, 1) := by decide +kernel
theorem d_Model_within_7 : decode prog_14_method_4_code 7 = .ok (.if_icmp .gt (7), 3) := by decide +kernel
theorem d_Model_within_10 : decode prog_14_method_4_code 10 = .ok (.iconst 1, 1) := by decide +kernel
theorem d_Model_within_11 : decode prog_14_method_4_code 11 = .ok (.goto (4), 3) := by decide +kernel
theorem d_Model_within_14 : decode prog_14_method_4_code 14 = .ok (.iconst 0, 1) := by decide +kernel
theorem d_Model_within_15 : decode prog_14_method_4_code 15 = .ok (.ireturn, 1) := by decide +kernel
def x_Model_within (a1 : Int32) (a2 : Int32) (a3 : Int32) : Option Int32 := (if a1 < a2 then some (0 : Int32) else (if a3 < a1 then some (0 : Int32) else some (1 : Int32)))
abbrev rm_Model_within : Room := { frames := 0, cells := 0, slots := 0, locals := 0 }
set_option maxHeartbeats 4000000 in
set_option maxRecDepth 100000 in
theorem t_Model_within (l : Launch) (G : xG) (σ : St) (a1 : Int32) (a2 : Int32) (a3 : Int32) (r : Int32) (hE : x_Model_within a1 a2 a3 = some r) : Met l y_Model_within (ws_Model_within) rm_Model_within (xP G σ [.int a1, .int a2, .int a3]) (xRd (some (.int r))) 0 0 (fun _ => False) := by
  refine Met.ofW (cc := prog_14_method_4_code) (maxL := 3) (ret := (some .boolean)) (by decide) rfl ?_
  intro p e s m args below meth c s₁ B hml hv
  obtain ⟨rfl, hw, hC⟩ := hv
  have hx := B.exec
  have hb := B.bytes
  have hr := B.returns
  have hu : ∀ w ∈ UW, w.before _ s = true := fun w h => atoms_spec B.pre w (List.mem_cons_of_mem _ h)
  have hown : s.vm.findClass R_Model = some m.cls := findClass_of_methodNamed B.named
  have hlocks := B.notSynchronized
  have hK := hC.1
  have hI := hC.2.1
  have hG := hC.2.2.1
  have hN := hC.2.2.2
  have hS : va_S (xA G) s.heap s.heap [] := va_S.rf
  have hl := lv_entry ([.int a1, .int a2, .int a3]) (n := 3) (Nat.le_of_ble_eq_true rfl)
  rw [lg_entry_eq]
  generalize (lg_sl ([.int a1, .int a2, .int a3]) ++ List.replicate (3 - (lg_sl ([.int a1, .int a2, .int a3])).length) Slot.unset).toArray = ls at hl ⊢
  have hl : lv_has ls 3 [(0, .int a1), (1, .int a2), (2, .int a3)] := hl
  unfold x_Model_within at hE
  refine lv_iload_n hx hb d_Model_within_0 rfl (lv_at hl 0 rfl) ?_
  refine lv_iload_n hx hb d_Model_within_1 rfl (lv_at hl 1 rfl) ?_
  refine lv_icmp_lt (tgt := 14) hx hb d_Model_within_2 (by decide) (fun hc2 => ?_) (fun hc2 => ?_)
  · rw [if_pos hc2] at hE
    refine lv_iconst (v := (0 : Int32)) hx hb d_Model_within_14 (by decide) ?_
    exact W.zret (v := (0 : Int32)) hx hb hr rfl (fun t ht hW => ⟨by rw [Option.some.inj hE], ht⟩) (fun q h => by cases h) d_Model_within_15
  · rw [if_neg hc2] at hE
    refine lv_iload_n hx hb d_Model_within_5 rfl (lv_at hl 0 rfl) ?_
    refine lv_iload_n hx hb d_Model_within_6 rfl (lv_at hl 2 rfl) ?_
    refine lv_icmp_gt (tgt := 14) hx hb d_Model_within_7 (by decide) (fun hc7 => ?_) (fun hc7 => ?_)
    · rw [if_pos hc7] at hE
      refine lv_iconst (v := (0 : Int32)) hx hb d_Model_within_14 (by decide) ?_
      exact W.zret (v := (0 : Int32)) hx hb hr rfl (fun t ht hW => ⟨by rw [Option.some.inj hE], ht⟩) (fun q h => by cases h) d_Model_within_15
    · rw [if_neg hc7] at hE
      refine lv_iconst (v := (1 : Int32)) hx hb d_Model_within_10 (by decide) ?_
      refine lv_goto (tgt := 15) hx hb d_Model_within_11 (by decide) ?_
      exact W.zret (v := (1 : Int32)) hx hb hr rfl (fun t ht hW => ⟨by rw [Option.some.inj hE], ht⟩) (fun q h => by cases h) d_Model_within_15

def y_Model_isDigit : MethodName := ⟨"PlainOriginModel", "isDigit", "(I)Z"⟩
def ws_Model_isDigit : List Cond := Cond.code y_Model_isDigit prog_14_method_5_code 1 (some .boolean) :: UW
theorem hd_Model_isDigit : y_Model_isDigit.cls ≠ "java/lang/invoke/MethodHandle" ∧ y_Model_isDigit.cls ≠ "java/lang/invoke/VarHandle" ∧ (parseMethodDescriptor y_Model_isDigit.desc).map (fun d => d.parameters.length) = some 1 := by decide +kernel
theorem d_Model_isDigit_0 : decode prog_14_method_5_code 0 = .ok (.iload_n 0, 1) := by decide +kernel
theorem d_Model_isDigit_1 : decode prog_14_method_5_code 1 = .ok (.bipush (48), 2) := by decide +kernel
theorem d_Model_isDigit_3 : decode prog_14_method_5_code 3 = .ok (.bipush (57), 2) := by decide +kernel
theorem d_Model_isDigit_5 : decode prog_14_method_5_code 5 = .ok (.invokestatic 147, 3) := by decide +kernel
theorem d_Model_isDigit_8 : decode prog_14_method_5_code 8 = .ok (.ireturn, 1) := by decide +kernel
def x_Model_isDigit (a1 : Int32) : Option Int32 := (Option.bind (x_Model_within a1 (48 : Int32) (57 : Int32)) (fun r5 => (if x_bit r5 then some r5 else none)))
abbrev rm_Model_isDigit : Room := { frames := 1, cells := 0, slots := 0, locals := 22 }
set_option maxHeartbeats 4000000 in
set_option maxRecDepth 100000 in
theorem t_Model_isDigit (l : Launch) (G : xG) (σ : St) (a1 : Int32) (r : Int32) (hE : x_Model_isDigit a1 = some r) : Met l y_Model_isDigit (ws_Model_isDigit) rm_Model_isDigit (xP G σ [.int a1]) (xRd (some (.int r))) 0 0 (fun _ => False) := by
  refine Met.ofW (cc := prog_14_method_5_code) (maxL := 1) (ret := (some .boolean)) (by decide) rfl ?_
  intro p e s m args below meth c s₁ B hml hv
  obtain ⟨rfl, hw, hC⟩ := hv
  have hx := B.exec
  have hb := B.bytes
  have hr := B.returns
  have hu : ∀ w ∈ UW, w.before _ s = true := fun w h => atoms_spec B.pre w (List.mem_cons_of_mem _ h)
  have hown : s.vm.findClass R_Model = some m.cls := findClass_of_methodNamed B.named
  have hlocks := B.notSynchronized
  have hK := hC.1
  have hI := hC.2.1
  have hG := hC.2.2.1
  have hN := hC.2.2.2
  have hS : va_S (xA G) s.heap s.heap [] := va_S.rf
  have hl := lv_entry ([.int a1]) (n := 1) (Nat.le_of_ble_eq_true rfl)
  rw [lg_entry_eq]
  generalize (lg_sl ([.int a1]) ++ List.replicate (1 - (lg_sl ([.int a1])).length) Slot.unset).toArray = ls at hl ⊢
  have hl : lv_has ls 1 [(0, .int a1)] := hl
  unfold x_Model_isDigit at hE
  refine lv_iload_n hx hb d_Model_isDigit_0 rfl (lv_at hl 0 rfl) ?_
  refine lv_bipush (v := (48 : Int32)) hx hb d_Model_isDigit_1 (by decide) ?_
  refine lv_bipush (v := (57 : Int32)) hx hb d_Model_isDigit_3 (by decide) ?_
  obtain ⟨r5, hC5, hE⟩ := x_bind hE
  refine x_callR (W.runS (As := [.int a1, .int (48 : Int32), .int (57 : Int32)]) (rest := []) ⟨hx, hb, hml, hown, hu⟩ (t_Model_within l G σ a1 (48 : Int32) (57 : Int32) r5 hC5) (va_cwS 3 hu (uw_S mw_1178 mw_1179 mw_70 mw_1180) rfl rfl rfl hd_Model_within ⟨Nat.le_of_ble_eq_true rfl, Nat.le_of_ble_eq_true rfl⟩) (x_preS hC hS hw) rfl rfl hl.1 rfl (lv_room (Nat.le_of_ble_eq_true rfl)) d_Model_isDigit_5 ⟨Nat.le_of_ble_eq_true rfl, Nat.le_of_ble_eq_true rfl⟩) ?_
  obtain ⟨g8, hE⟩ := x_guard hE
  exact W.zret (v := r5) hx hb hr (x_nz g8) (fun t ht hW => ⟨by rw [Option.some.inj hE], ht⟩) (fun q h => by cases h) d_Model_isDigit_8

def y_Model_isAlpha : MethodName := ⟨"PlainOriginModel", "isAlpha", "(I)Z"⟩
def ws_Model_isAlpha : List Cond := Cond.code y_Model_isAlpha prog_14_method_6_code 1 (some .boolean) :: UW
theorem hd_Model_isAlpha : y_Model_isAlpha.cls ≠ "java/lang/invoke/MethodHandle" ∧ y_Model_isAlpha.cls ≠ "java/lang/invoke/VarHandle" ∧ (parseMethodDescriptor y_Model_isAlpha.desc).map (fun d => d.parameters.length) = some 1 := by decide +kernel
theorem d_Model_isAlpha_0 : decode prog_14_method_6_code 0 = .ok (.iload_n 0, 1) := by decide +kernel
theorem d_Model_isAlpha_1 : decode prog_14_method_6_code 1 = .ok (.bipush (65), 2) := by decide +kernel
theorem d_Model_isAlpha_3 : decode prog_14_method_6_code 3 = .ok (.bipush (90), 2) := by decide +kernel
theorem d_Model_isAlpha_5 : decode prog_14_method_6_code 5 = .ok (.invokestatic 147, 3) := by decide +kernel
theorem d_Model_isAlpha_8 : decode prog_14_method_6_code 8 = .ok (.ifCond .ne (14), 3) := by decide +kernel
theorem d_Model_isAlpha_11 : decode prog_14_method_6_code 11 = .ok (.iload_n 0, 1) := by decide +kernel
theorem d_Model_isAlpha_12 : decode prog_14_method_6_code 12 = .ok (.bipush (97), 2) := by decide +kernel
theorem d_Model_isAlpha_14 : decode prog_14_method_6_code 14 = .ok (.bipush (122), 2) := by decide +kernel
theorem d_Model_isAlpha_16 : decode prog_14_method_6_code 16 = .ok (.invokestatic 147, 3) := by decide +kernel
theorem d_Model_isAlpha_19 : decode prog_14_method_6_code 19 = .ok (.ifCond .eq (7), 3) := by decide +kernel
theorem d_Model_isAlpha_22 : decode prog_14_method_6_code 22 = .ok (.iconst 1, 1) := by decide +kernel
theorem d_Model_isAlpha_23 : decode prog_14_method_6_code 23 = .ok (.goto (4), 3) := by decide +kernel
theorem d_Model_isAlpha_26 : decode prog_14_method_6_code 26 = .ok (.iconst 0, 1) := by decide +kernel
theorem d_Model_isAlpha_27 : decode prog_14_method_6_code 27 = .ok (.ireturn, 1) := by decide +kernel
def x_Model_isAlpha (a1 : Int32) : Option Int32 := (Option.bind (x_Model_within a1 (65 : Int32) (90 : Int32)) (fun r5 => (if r5 = 0 then (Option.bind (x_Model_within a1 (97 : Int32) (122 : Int32)) (fun r16 => (if r16 = 0 then some (0 : Int32) else some (1 : Int32)))) else some (1 : Int32))))
abbrev rm_Model_isAlpha : Room := { frames := 1, cells := 0, slots := 0, locals := 22 }
set_option maxHeartbeats 4000000 in
set_option maxRecDepth 100000 in
theorem t_Model_isAlpha (l : Launch) (G : xG) (σ : St) (a1 : Int32) (r : Int32) (hE : x_Model_isAlpha a1 = some r) : Met l y_Model_isAlpha (ws_Model_isAlpha) rm_Model_isAlpha (xP G σ [.int a1]) (xRd (some (.int r))) 0 0 (fun _ => False) := by
  refine Met.ofW (cc := prog_14_method_6_code) (maxL := 1) (ret := (some .boolean)) (by decide) rfl ?_
  intro p e s m args below meth c s₁ B hml hv
  obtain ⟨rfl, hw, hC⟩ := hv
  have hx := B.exec
  have hb := B.bytes
  have hr := B.returns
  have hu : ∀ w ∈ UW, w.before _ s = true := fun w h => atoms_spec B.pre w (List.mem_cons_of_mem _ h)
  have hown : s.vm.findClass R_Model = some m.cls := findClass_of_methodNamed B.named
  have hlocks := B.notSynchronized
  have hK := hC.1
  have hI := hC.2.1
  have hG := hC.2.2.1
  have hN := hC.2.2.2
  have hS : va_S (xA G) s.heap s.heap [] := va_S.rf
  have hl := lv_entry ([.int a1]) (n := 1) (Nat.le_of_ble_eq_true rfl)
  rw [lg_entry_eq]
  generalize (lg_sl ([.int a1]) ++ List.replicate (1 - (lg_sl ([.int a1])).length) Slot.unset).toArray = ls at hl ⊢
  have hl : lv_has ls 1 [(0, .int a1)] := hl
  unfold x_Model_isAlpha at hE
  refine lv_iload_n hx hb d_Model_isAlpha_0 rfl (lv_at hl 0 rfl) ?_
  refine lv_bipush (v := (65 : Int32)) hx hb d_Model_isAlpha_1 (by decide) ?_
  refine lv_bipush (v := (90 : Int32)) hx hb d_Model_isAlpha_3 (by decide) ?_
  obtain ⟨r5, hC5, hE⟩ := x_bind hE
  refine x_callR (W.runS (As := [.int a1, .int (65 : Int32), .int (90 : Int32)]) (rest := []) ⟨hx, hb, hml, hown, hu⟩ (t_Model_within l G σ a1 (65 : Int32) (90 : Int32) r5 hC5) (va_cwS 3 hu (uw_S mw_1178 mw_1179 mw_70 mw_1180) rfl rfl rfl hd_Model_within ⟨Nat.le_of_ble_eq_true rfl, Nat.le_of_ble_eq_true rfl⟩) (x_preS hC hS hw) rfl rfl hl.1 rfl (lv_room (Nat.le_of_ble_eq_true rfl)) d_Model_isAlpha_5 ⟨Nat.le_of_ble_eq_true rfl, Nat.le_of_ble_eq_true rfl⟩) ?_
  refine lv_if_ne (tgt := 22) hx hb d_Model_isAlpha_8 (by decide) (fun hc8 => ?_) (fun hc8 => ?_)
  · rw [if_neg hc8] at hE
    refine lv_iconst (v := (1 : Int32)) hx hb d_Model_isAlpha_22 (by decide) ?_
    refine lv_goto (tgt := 27) hx hb d_Model_isAlpha_23 (by decide) ?_
    exact W.zret (v := (1 : Int32)) hx hb hr rfl (fun t ht hW => ⟨by rw [Option.some.inj hE], ht⟩) (fun q h => by cases h) d_Model_isAlpha_27
  · rw [if_pos hc8] at hE
    refine lv_iload_n hx hb d_Model_isAlpha_11 rfl (lv_at hl 0 rfl) ?_
    refine lv_bipush (v := (97 : Int32)) hx hb d_Model_isAlpha_12 (by decide) ?_
    refine lv_bipush (v := (122 : Int32)) hx hb d_Model_isAlpha_14 (by decide) ?_
    obtain ⟨r16, hC16, hE⟩ := x_bind hE
    refine x_callR (W.runS (As := [.int a1, .int (97 : Int32), .int (122 : Int32)]) (rest := []) ⟨hx, hb, hml, hown, hu⟩ (t_Model_within l G σ a1 (97 : Int32) (122 : Int32) r16 hC16) (va_cwS 3 hu (uw_S mw_1178 mw_1179 mw_70 mw_1180) rfl rfl rfl hd_Model_within ⟨Nat.le_of_ble_eq_true rfl, Nat.le_of_ble_eq_true rfl⟩) (x_preS hC hS hw) rfl rfl hl.1 rfl (lv_room (Nat.le_of_ble_eq_true rfl)) d_Model_isAlpha_16 ⟨Nat.le_of_ble_eq_true rfl, Nat.le_of_ble_eq_true rfl⟩) ?_
    refine lv_if_eq (tgt := 26) hx hb d_Model_isAlpha_19 (by decide) (fun hc19 => ?_) (fun hc19 => ?_)
    · rw [if_pos hc19] at hE
      refine lv_iconst (v := (0 : Int32)) hx hb d_Model_isAlpha_26 (by decide) ?_
      exact W.zret (v := (0 : Int32)) hx hb hr rfl (fun t ht hW => ⟨by rw [Option.some.inj hE], ht⟩) (fun q h => by cases h) d_Model_isAlpha_27
    · rw [if_neg hc19] at hE
      refine lv_iconst (v := (1 : Int32)) hx hb d_Model_isAlpha_22 (by decide) ?_
      refine lv_goto (tgt := 27) hx hb d_Model_isAlpha_23 (by decide) ?_
      exact W.zret (v := (1 : Int32)) hx hb hr rfl (fun t ht hW => ⟨by rw [Option.some.inj hE], ht⟩) (fun q h => by cases h) d_Model_isAlpha_27

def y_Model_small : MethodName := ⟨"PlainOriginModel", "small", "(I)I"⟩
def ws_Model_small : List Cond := Cond.code y_Model_small prog_14_method_7_code 1 (some .int) :: UW
theorem hd_Model_small : y_Model_small.cls ≠ "java/lang/invoke/MethodHandle" ∧ y_Model_small.cls ≠ "java/lang/invoke/VarHandle" ∧ (parseMethodDescriptor y_Model_small.desc).map (fun d => d.parameters.length) = some 1 := by decide +kernel
theorem d_Model_small_0 : decode prog_14_method_7_code 0 = .ok (.iload_n 0, 1) := by decide +kernel
theorem d_Model_small_1 : decode prog_14_method_7_code 1 = .ok (.bipush (65), 2) := by decide +kernel
theorem d_Model_small_3 : decode prog_14_method_7_code 3 = .ok (.bipush (90), 2) := by decide +kernel
theorem d_Model_small_5 : decode prog_14_method_7_code 5 = .ok (.invokestatic 147, 3) := by decide +kernel
theorem d_Model_small_8 : decode prog_14_method_7_code 8 = .ok (.ifCond .eq (10), 3) := by decide +kernel
theorem d_Model_small_11 : decode prog_14_method_7_code 11 = .ok (.iload_n 0, 1) := by decide +kernel
theorem d_Model_small_12 : decode prog_14_method_7_code 12 = .ok (.bipush (32), 2) := by decide +kernel
theorem d_Model_small_14 : decode prog_14_method_7_code 14 = .ok (.iadd, 1) := by decide +kernel
theorem d_Model_small_15 : decode prog_14_method_7_code 15 = .ok (.goto (4), 3) := by decide +kernel
theorem d_Model_small_18 : decode prog_14_method_7_code 18 = .ok (.iload_n 0, 1) := by decide +kernel
theorem d_Model_small_19 : decode prog_14_method_7_code 19 = .ok (.ireturn, 1) := by decide +kernel
def x_Model_small (a1 : Int32) : Option Int32 := (Option.bind (x_Model_within a1 (65 : Int32) (90 : Int32)) (fun r5 => (if r5 = 0 then some a1 else some (a1 + (32 : Int32)))))
abbrev rm_Model_small : Room := { frames := 1, cells := 0, slots := 0, locals := 22 }
set_option maxHeartbeats 4000000 in
set_option maxRecDepth 100000 in
theorem t_Model_small (l : Launch) (G : xG) (σ : St) (a1 : Int32) (r : Int32) (hE : x_Model_small a1 = some r) : Met l y_Model_small (ws_Model_small) rm_Model_small (xP G σ [.int a1]) (xRd (some (.int r))) 0 0 (fun _ => False) := by
  refine Met.ofW (cc := prog_14_method_7_code) (maxL := 1) (ret := (some .int)) (by decide) rfl ?_
  intro p e s m args below meth c s₁ B hml hv
  obtain ⟨rfl, hw, hC⟩ := hv
  have hx := B.exec
  have hb := B.bytes
  have hr := B.returns
  have hu : ∀ w ∈ UW, w.before _ s = true := fun w h => atoms_spec B.pre w (List.mem_cons_of_mem _ h)
  have hown : s.vm.findClass R_Model = some m.cls := findClass_of_methodNamed B.named
  have hlocks := B.notSynchronized
  have hK := hC.1
  have hI := hC.2.1
  have hG := hC.2.2.1
  have hN := hC.2.2.2
  have hS : va_S (xA G) s.heap s.heap [] := va_S.rf
  have hl := lv_entry ([.int a1]) (n := 1) (Nat.le_of_ble_eq_true rfl)
  rw [lg_entry_eq]
  generalize (lg_sl ([.int a1]) ++ List.replicate (1 - (lg_sl ([.int a1])).length) Slot.unset).toArray = ls at hl ⊢
  have hl : lv_has ls 1 [(0, .int a1)] := hl
  unfold x_Model_small at hE
  refine lv_iload_n hx hb d_Model_small_0 rfl (lv_at hl 0 rfl) ?_
  refine lv_bipush (v := (65 : Int32)) hx hb d_Model_small_1 (by decide) ?_
  refine lv_bipush (v := (90 : Int32)) hx hb d_Model_small_3 (by decide) ?_
  obtain ⟨r5, hC5, hE⟩ := x_bind hE
  refine x_callR (W.runS (As := [.int a1, .int (65 : Int32), .int (90 : Int32)]) (rest := []) ⟨hx, hb, hml, hown, hu⟩ (t_Model_within l G σ a1 (65 : Int32) (90 : Int32) r5 hC5) (va_cwS 3 hu (uw_S mw_1178 mw_1179 mw_70 mw_1180) rfl rfl rfl hd_Model_within ⟨Nat.le_of_ble_eq_true rfl, Nat.le_of_ble_eq_true rfl⟩) (x_preS hC hS hw) rfl rfl hl.1 rfl (lv_room (Nat.le_of_ble_eq_true rfl)) d_Model_small_5 ⟨Nat.le_of_ble_eq_true rfl, Nat.le_of_ble_eq_true rfl⟩) ?_
  refine lv_if_eq (tgt := 18) hx hb d_Model_small_8 (by decide) (fun hc8 => ?_) (fun hc8 => ?_)
  · rw [if_pos hc8] at hE
    refine lv_iload_n hx hb d_Model_small_18 rfl (lv_at hl 0 rfl) ?_
    exact W.iret (v := a1) hx hb hr (fun t ht hW => ⟨by rw [Option.some.inj hE], ht⟩) (fun q h => by cases h) d_Model_small_19
  · rw [if_neg hc8] at hE
    refine lv_iload_n hx hb d_Model_small_11 rfl (lv_at hl 0 rfl) ?_
    refine lv_bipush (v := (32 : Int32)) hx hb d_Model_small_12 (by decide) ?_
    refine lv_iadd hx hb d_Model_small_14 ?_
    refine lv_goto (tgt := 19) hx hb d_Model_small_15 (by decide) ?_
    exact W.iret (v := a1 + (32 : Int32)) hx hb hr (fun t ht hW => ⟨by rw [Option.some.inj hE], ht⟩) (fun q h => by cases h) d_Model_small_19

def y_Model_hexOf : MethodName := ⟨"PlainOriginModel", "hexOf", "(I)I"⟩
def ws_Model_hexOf : List Cond := Cond.code y_Model_hexOf prog_14_method_8_code 1 (some .int) :: UW
theorem hd_Model_hexOf : y_Model_hexOf.cls ≠ "java/lang/invoke/MethodHandle" ∧ y_Model_hexOf.cls ≠ "java/lang/invoke/VarHandle" ∧ (parseMethodDescriptor y_Model_hexOf.desc).map (fun d => d.parameters.length) = some 1 := by decide +kernel
theorem d_Model_hexOf_0 : decode prog_14_method_8_code 0 = .ok (.iload_n 0, 1) := by decide +kernel
theorem d_Model_hexOf_1 : decode prog_14_method_8_code 1 = .ok (.invokestatic 151, 3) := by decide +kernel
theorem d_Model_hexOf_4 : decode prog_14_method_8_code 4 = .ok (.ifCond .eq (10), 3) := by decide +kernel
theorem d_Model_hexOf_7 : decode prog_14_method_8_code 7 = .ok (.iload_n 0, 1) := by decide +kernel
theorem d_Model_hexOf_8 : decode prog_14_method_8_code 8 = .ok (.bipush (48), 2) := by decide +kernel
theorem d_Model_hexOf_10 : decode prog_14_method_8_code 10 = .ok (.isub, 1) := by decide +kernel
theorem d_Model_hexOf_11 : decode prog_14_method_8_code 11 = .ok (.goto (28), 3) := by decide +kernel
theorem d_Model_hexOf_14 : decode prog_14_method_8_code 14 = .ok (.iload_n 0, 1) := by decide +kernel
theorem d_Model_hexOf_15 : decode prog_14_method_8_code 15 = .ok (.invokestatic 155, 3) := by decide +kernel
theorem d_Model_hexOf_18 : decode prog_14_method_8_code 18 = .ok (.bipush (97), 2) := by decide +kernel
theorem d_Model_hexOf_20 : decode prog_14_method_8_code 20 = .ok (.bipush (102), 2) := by decide +kernel
theorem d_Model_hexOf_22 : decode prog_14_method_8_code 22 = .ok (.invokestatic 147, 3) := by decide +kernel
theorem d_Model_hexOf_25 : decode prog_14_method_8_code 25 = .ok (.ifCond .eq (13), 3) := by decide +kernel
theorem d_Model_hexOf_28 : decode prog_14_method_8_code 28 = .ok (.iload_n 0, 1) := by decide +kernel
theorem d_Model_hexOf_29 : decode prog_14_method_8_code 29 = .ok (.invokestatic 155, 3) := by decide +kernel
theorem d_Model_hexOf_32 : decode prog_14_method_8_code 32 = .ok (.bipush (87), 2) := by decide +kernel
theorem d_Model_hexOf_34 : decode prog_14_method_8_code 34 = .ok (.isub, 1) := by decide +kernel
theorem d_Model_hexOf_35 : decode prog_14_method_8_code 35 = .ok (.goto (4), 3) := by decide +kernel
theorem d_Model_hexOf_38 : decode prog_14_method_8_code 38 = .ok (.iconst (-1), 1) := by decide +kernel
theorem d_Model_hexOf_39 : decode prog_14_method_8_code 39 = .ok (.ireturn, 1) := by decide +kernel
def x_Model_hexOf (a1 : Int32) : Option Int32 := (Option.bind (x_Model_isDigit a1) (fun r1 => (if r1 = 0 then (Option.bind (x_Model_small a1) (fun r15 => (Option.bind (x_Model_within r15 (97 : Int32) (102 : Int32)) (fun r22 => (if r22 = 0 then some ((-1) : Int32) else (Option.bind (x_Model_small a1) (fun r29 => some (r29 - (87 : Int32))))))))) else some (a1 - (48 : Int32)))))
abbrev rm_Model_hexOf : Room := { frames := 2, cells := 0, slots := 0, locals := 42 }
set_option maxHeartbeats 4000000 in
set_option maxRecDepth 100000 in
theorem t_Model_hexOf (l : Launch) (G : xG) (σ : St) (a1 : Int32) (r : Int32) (hE : x_Model_hexOf a1 = some r) : Met l y_Model_hexOf (ws_Model_hexOf) rm_Model_hexOf (xP G σ [.int a1]) (xRd (some (.int r))) 0 0 (fun _ => False) := by
  refine Met.ofW (cc := prog_14_method_8_code) (maxL := 1) (ret := (some .int)) (by decide) rfl ?_
  intro p e s m args below meth c s₁ B hml hv
  obtain ⟨rfl, hw, hC⟩ := hv
  have hx := B.exec
  have hb := B.bytes
  have hr := B.returns
  have hu : ∀ w ∈ UW, w.before _ s = true := fun w h => atoms_spec B.pre w (List.mem_cons_of_mem _ h)
  have hown : s.vm.findClass R_Model = some m.cls := findClass_of_methodNamed B.named
  have hlocks := B.notSynchronized
  have hK := hC.1
  have hI := hC.2.1
  have hG := hC.2.2.1
  have hN := hC.2.2.2
  have hS : va_S (xA G) s.heap s.heap [] := va_S.rf
  have hl := lv_entry ([.int a1]) (n := 1) (Nat.le_of_ble_eq_true rfl)
  rw [lg_entry_eq]
  generalize (lg_sl ([.int a1]) ++ List.replicate (1 - (lg_sl ([.int a1])).length) Slot.unset).toArray = ls at hl ⊢
  have hl : lv_has ls 1 [(0, .int a1)] := hl
  unfold x_Model_hexOf at hE
  refine lv_iload_n hx hb d_Model_hexOf_0 rfl (lv_at hl 0 rfl) ?_
  obtain ⟨r1, hC1, hE⟩ := x_bind hE
  refine x_callR (W.runS (As := [.int a1]) (rest := []) ⟨hx, hb, hml, hown, hu⟩ (t_Model_isDigit l G σ a1 r1 hC1) (va_cwS 1 hu (uw_S mw_1197 mw_1198 mw_70 mw_1199) rfl rfl rfl hd_Model_isDigit ⟨Nat.le_of_ble_eq_true rfl, Nat.le_of_ble_eq_true rfl⟩) (x_preS hC hS hw) rfl rfl hl.1 rfl (lv_room (Nat.le_of_ble_eq_true rfl)) d_Model_hexOf_1 ⟨Nat.le_of_ble_eq_true rfl, Nat.le_of_ble_eq_true rfl⟩) ?_
  refine lv_if_eq (tgt := 14) hx hb d_Model_hexOf_4 (by decide) (fun hc4 => ?_) (fun hc4 => ?_)
  · rw [if_pos hc4] at hE
    refine lv_iload_n hx hb d_Model_hexOf_14 rfl (lv_at hl 0 rfl) ?_
    obtain ⟨r15, hC15, hE⟩ := x_bind hE
    refine x_callR (W.runS (As := [.int a1]) (rest := []) ⟨hx, hb, hml, hown, hu⟩ (t_Model_small l G σ a1 r15 hC15) (va_cwS 1 hu (uw_S mw_1200 mw_1201 mw_70 mw_1202) rfl rfl rfl hd_Model_small ⟨Nat.le_of_ble_eq_true rfl, Nat.le_of_ble_eq_true rfl⟩) (x_preS hC hS hw) rfl rfl hl.1 rfl (lv_room (Nat.le_of_ble_eq_true rfl)) d_Model_hexOf_15 ⟨Nat.le_of_ble_eq_true rfl, Nat.le_of_ble_eq_true rfl⟩) ?_
    refine lv_bipush (v := (97 : Int32)) hx hb d_Model_hexOf_18 (by decide) ?_
    refine lv_bipush (v := (102 : Int32)) hx hb d_Model_hexOf_20 (by decide) ?_
    obtain ⟨r22, hC22, hE⟩ := x_bind hE
    refine x_callR (W.runS (As := [.int r15, .int (97 : Int32), .int (102 : Int32)]) (rest := []) ⟨hx, hb, hml, hown, hu⟩ (t_Model_within l G σ r15 (97 : Int32) (102 : Int32) r22 hC22) (va_cwS 3 hu (uw_S mw_1178 mw_1179 mw_70 mw_1180) rfl rfl rfl hd_Model_within ⟨Nat.le_of_ble_eq_true rfl, Nat.le_of_ble_eq_true rfl⟩) (x_preS hC hS hw) rfl rfl hl.1 rfl (lv_room (Nat.le_of_ble_eq_true rfl)) d_Model_hexOf_22 ⟨Nat.le_of_ble_eq_true rfl, Nat.le_of_ble_eq_true rfl⟩) ?_
    refine lv_if_eq (tgt := 38) hx hb d_Model_hexOf_25 (by decide) (fun hc25 => ?_) (fun hc25 => ?_)
    · rw [if_pos hc25] at hE
      refine lv_iconst (v := ((-1) : Int32)) hx hb d_Model_hexOf_38 (by decide) ?_
      exact W.iret (v := ((-1) : Int32)) hx hb hr (fun t ht hW => ⟨by rw [Option.some.inj hE], ht⟩) (fun q h => by cases h) d_Model_hexOf_39
    · rw [if_neg hc25] at hE
      refine lv_iload_n hx hb d_Model_hexOf_28 rfl (lv_at hl 0 rfl) ?_
      obtain ⟨r29, hC29, hE⟩ := x_bind hE
      refine x_callR (W.runS (As := [.int a1]) (rest := []) ⟨hx, hb, hml, hown, hu⟩ (t_Model_small l G σ a1 r29 hC29) (va_cwS 1 hu (uw_S mw_1200 mw_1201 mw_70 mw_1202) rfl rfl rfl hd_Model_small ⟨Nat.le_of_ble_eq_true rfl, Nat.le_of_ble_eq_true rfl⟩) (x_preS hC hS hw) rfl rfl hl.1 rfl (lv_room (Nat.le_of_ble_eq_true rfl)) d_Model_hexOf_29 ⟨Nat.le_of_ble_eq_true rfl, Nat.le_of_ble_eq_true rfl⟩) ?_
      refine lv_bipush (v := (87 : Int32)) hx hb d_Model_hexOf_32 (by decide) ?_
      refine lv_isub hx hb d_Model_hexOf_34 ?_
      refine lv_goto (tgt := 39) hx hb d_Model_hexOf_35 (by decide) ?_
      exact W.iret (v := r29 - (87 : Int32)) hx hb hr (fun t ht hW => ⟨by rw [Option.some.inj hE], ht⟩) (fun q h => by cases h) d_Model_hexOf_39
  · rw [if_neg hc4] at hE
    refine lv_iload_n hx hb d_Model_hexOf_7 rfl (lv_at hl 0 rfl) ?_
    refine lv_bipush (v := (48 : Int32)) hx hb d_Model_hexOf_8 (by decide) ?_
    refine lv_isub hx hb d_Model_hexOf_10 ?_
    refine lv_goto (tgt := 39) hx hb d_Model_hexOf_11 (by decide) ?_
    exact W.iret (v := a1 - (48 : Int32)) hx hb hr (fun t ht hW => ⟨by rw [Option.some.inj hE], ht⟩) (fun q h => by cases h) d_Model_hexOf_39

def y_Model_isTokenByte : MethodName := ⟨"PlainOriginModel", "isTokenByte", "(I)Z"⟩
def ws_Model_isTokenByte : List Cond := Cond.code y_Model_isTokenByte prog_14_method_9_code 2 (some .boolean) :: UW
theorem hd_Model_isTokenByte : y_Model_isTokenByte.cls ≠ "java/lang/invoke/MethodHandle" ∧ y_Model_isTokenByte.cls ≠ "java/lang/invoke/VarHandle" ∧ (parseMethodDescriptor y_Model_isTokenByte.desc).map (fun d => d.parameters.length) = some 1 := by decide +kernel
theorem d_Model_isTokenByte_0 : decode prog_14_method_9_code 0 = .ok (.iload_n 0, 1) := by decide +kernel
theorem d_Model_isTokenByte_1 : decode prog_14_method_9_code 1 = .ok (.bipush (33), 2) := by decide +kernel
theorem d_Model_isTokenByte_3 : decode prog_14_method_9_code 3 = .ok (.if_icmp .eq (61), 3) := by decide +kernel
theorem d_Model_isTokenByte_6 : decode prog_14_method_9_code 6 = .ok (.iload_n 0, 1) := by decide +kernel
theorem d_Model_isTokenByte_7 : decode prog_14_method_9_code 7 = .ok (.bipush (35), 2) := by decide +kernel
theorem d_Model_isTokenByte_9 : decode prog_14_method_9_code 9 = .ok (.bipush (39), 2) := by decide +kernel
theorem d_Model_isTokenByte_11 : decode prog_14_method_9_code 11 = .ok (.invokestatic 147, 3) := by decide +kernel
theorem d_Model_isTokenByte_14 : decode prog_14_method_9_code 14 = .ok (.ifCond .ne (50), 3) := by decide +kernel
theorem d_Model_isTokenByte_17 : decode prog_14_method_9_code 17 = .ok (.iload_n 0, 1) := by decide +kernel
theorem d_Model_isTokenByte_18 : decode prog_14_method_9_code 18 = .ok (.bipush (42), 2) := by decide +kernel
theorem d_Model_isTokenByte_20 : decode prog_14_method_9_code 20 = .ok (.if_icmp .eq (44), 3) := by decide +kernel
theorem d_Model_isTokenByte_23 : decode prog_14_method_9_code 23 = .ok (.iload_n 0, 1) := by decide +kernel
theorem d_Model_isTokenByte_24 : decode prog_14_method_9_code 24 = .ok (.bipush (43), 2) := by decide +kernel
theorem d_Model_isTokenByte_26 : decode prog_14_method_9_code 26 = .ok (.if_icmp .eq (38), 3) := by decide +kernel
theorem d_Model_isTokenByte_29 : decode prog_14_method_9_code 29 = .ok (.iload_n 0, 1) := by decide +kernel
theorem d_Model_isTokenByte_30 : decode prog_14_method_9_code 30 = .ok (.bipush (45), 2) := by decide +kernel
theorem d_Model_isTokenByte_32 : decode prog_14_method_9_code 32 = .ok (.if_icmp .eq (32), 3) := by decide +kernel
theorem d_Model_isTokenByte_35 : decode prog_14_method_9_code 35 = .ok (.iload_n 0, 1) := by decide +kernel
theorem d_Model_isTokenByte_36 : decode prog_14_method_9_code 36 = .ok (.bipush (46), 2) := by decide +kernel
theorem d_Model_isTokenByte_38 : decode prog_14_method_9_code 38 = .ok (.if_icmp .eq (26), 3) := by decide +kernel
theorem d_Model_isTokenByte_41 : decode prog_14_method_9_code 41 = .ok (.iload_n 0, 1) := by decide +kernel
theorem d_Model_isTokenByte_42 : decode prog_14_method_9_code 42 = .ok (.bipush (94), 2) := by decide +kernel
theorem d_Model_isTokenByte_44 : decode prog_14_method_9_code 44 = .ok (.bipush (96), 2) := by decide +kernel
theorem d_Model_isTokenByte_46 : decode prog_14_method_9_code 46 = .ok (.invokestatic 147, 3) := by decide +kernel
theorem d_Model_isTokenByte_49 : decode prog_14_method_9_code 49 = .ok (.ifCond .ne (15), 3) := by decide +kernel
theorem d_Model_isTokenByte_52 : decode prog_14_method_9_code 52 = .ok (.iload_n 0, 1) := by decide +kernel
theorem d_Model_isTokenByte_53 : decode prog_14_method_9_code 53 = .ok (.bipush (124), 2) := by decide +kernel
theorem d_Model_isTokenByte_55 : decode prog_14_method_9_code 55 = .ok (.if_icmp .eq (9), 3) := by decide +kernel
theorem d_Model_isTokenByte_58 : decode prog_14_method_9_code 58 = .ok (.iload_n 0, 1) := by decide +kernel
theorem d_Model_isTokenByte_59 : decode prog_14_method_9_code 59 = .ok (.bipush (126), 2) := by decide +kernel
theorem d_Model_isTokenByte_61 : decode prog_14_method_9_code 61 = .ok (.if_icmp .ne (7), 3) := by decide +kernel
theorem d_Model_isTokenByte_64 : decode prog_14_method_9_code 64 = .ok (.iconst 1, 1) := by decide +kernel
theorem d_Model_isTokenByte_65 : decode prog_14_method_9_code 65 = .ok (.goto (4), 3) := by decide +kernel
theorem d_Model_isTokenByte_68 : decode prog_14_method_9_code 68 = .ok (.iconst 0, 1) := by decide +kernel
theorem d_Model_isTokenByte_69 : decode prog_14_method_9_code 69 = .ok (.istore_n 1, 1) := by decide +kernel
theorem d_Model_isTokenByte_70 : decode prog_14_method_9_code 70 = .ok (.iload_n 0, 1) := by decide +kernel
theorem d_Model_isTokenByte_71 : decode prog_14_method_9_code 71 = .ok (.invokestatic 159, 3) := by decide +kernel
theorem d_Model_isTokenByte_74 : decode prog_14_method_9_code 74 = .ok (.ifCond .ne (14), 3) := by decide +kernel
theorem d_Model_isTokenByte_77 : decode prog_14_method_9_code 77 = .ok (.iload_n 0, 1) := by decide +kernel
theorem d_Model_isTokenByte_78 : decode prog_14_method_9_code 78 = .ok (.invokestatic 151, 3) := by decide +kernel
theorem d_Model_isTokenByte_81 : decode prog_14_method_9_code 81 = .ok (.ifCond .ne (7), 3) := by decide +kernel
theorem d_Model_isTokenByte_84 : decode prog_14_method_9_code 84 = .ok (.iload_n 1, 1) := by decide +kernel
theorem d_Model_isTokenByte_85 : decode prog_14_method_9_code 85 = .ok (.ifCond .eq (7), 3) := by decide +kernel
theorem d_Model_isTokenByte_88 : decode prog_14_method_9_code 88 = .ok (.iconst 1, 1) := by decide +kernel
theorem d_Model_isTokenByte_89 : decode prog_14_method_9_code 89 = .ok (.goto (4), 3) := by decide +kernel
theorem d_Model_isTokenByte_92 : decode prog_14_method_9_code 92 = .ok (.iconst 0, 1) := by decide +kernel
theorem d_Model_isTokenByte_93 : decode prog_14_method_9_code 93 = .ok (.ireturn, 1) := by decide +kernel
def x_Model_isTokenByte_69 (a1 : Int32) (k0 : Int32) : Option Int32 := (Option.bind (x_Model_isAlpha a1) (fun r71 => (if r71 = 0 then (Option.bind (x_Model_isDigit a1) (fun r78 => (if r78 = 0 then (if k0 = 0 then some (0 : Int32) else some (1 : Int32)) else some (1 : Int32)))) else some (1 : Int32))))
def x_Model_isTokenByte_64 (a1 : Int32) : Option Int32 := x_Model_isTokenByte_69 a1 (1 : Int32)
def x_Model_isTokenByte (a1 : Int32) : Option Int32 := (if a1 = (33 : Int32) then x_Model_isTokenByte_64 a1 else (Option.bind (x_Model_within a1 (35 : Int32) (39 : Int32)) (fun r11 => (if r11 = 0 then (if a1 = (42 : Int32) then x_Model_isTokenByte_64 a1 else (if a1 = (43 : Int32) then x_Model_isTokenByte_64 a1 else (if a1 = (45 : Int32) then x_Model_isTokenByte_64 a1 else (if a1 = (46 : Int32) then x_Model_isTokenByte_64 a1 else (Option.bind (x_Model_within a1 (94 : Int32) (96 : Int32)) (fun r46 => (if r46 = 0 then (if a1 = (124 : Int32) then x_Model_isTokenByte_64 a1 else (if a1 = (126 : Int32) then x_Model_isTokenByte_64 a1 else x_Model_isTokenByte_69 a1 (0 : Int32))) else x_Model_isTokenByte_64 a1))))))) else x_Model_isTokenByte_64 a1))))
abbrev rm_Model_isTokenByte : Room := { frames := 2, cells := 0, slots := 0, locals := 42 }
set_option maxHeartbeats 4000000 in
set_option maxRecDepth 100000 in
theorem t_Model_isTokenByte (l : Launch) (G : xG) (σ : St) (a1 : Int32) (r : Int32) (hE : x_Model_isTokenByte a1 = some r) : Met l y_Model_isTokenByte (ws_Model_isTokenByte) rm_Model_isTokenByte (xP G σ [.int a1]) (xRd (some (.int r))) 0 0 (fun _ => False) := by
  refine Met.ofW (cc := prog_14_method_9_code) (maxL := 2) (ret := (some .boolean)) (by decide) rfl ?_
  intro p e s m args below meth c s₁ B hml hv
  obtain ⟨rfl, hw, hC⟩ := hv
  have hx := B.exec
  have hb := B.bytes
  have hr := B.returns
  have hu : ∀ w ∈ UW, w.before _ s = true := fun w h => atoms_spec B.pre w (List.mem_cons_of_mem _ h)
  have hown : s.vm.findClass R_Model = some m.cls := findClass_of_methodNamed B.named
  have hlocks := B.notSynchronized
  have hK := hC.1
  have hI := hC.2.1
  have hG := hC.2.2.1
  have hN := hC.2.2.2
  have hS : va_S (xA G) s.heap s.heap [] := va_S.rf
  have jn69 : ∀ (ls : Array Slot) (k0 : Int32), x_Model_isTokenByte_69 a1 k0 = some r → lv_has ls 2 [(0, .int a1)] → W p l e (headSpec (ws_Model_isTokenByte) rm_Model_isTokenByte).room s m ([.int a1] : List Value).toArray below meth c s.heap [] 0 0 (MQ below (xRd (some (.int r))) ([.int a1] : List Value).toArray s 0 0 (fun _ => False)) (F0 m 69 ls [.int k0]) := by
    intro ls k0 hE hl
    unfold x_Model_isTokenByte_69 at hE
    refine lv_istore_n hx hb d_Model_isTokenByte_69 rfl hl (by decide) rfl (fun ls hl => ?_)
    have hl : lv_has ls 2 [(1, .int k0), (0, .int a1)] := hl
    refine lv_iload_n hx hb d_Model_isTokenByte_70 rfl (lv_at hl 1 rfl) ?_
    obtain ⟨r71, hC71, hE⟩ := x_bind hE
    refine x_callR (W.runS (As := [.int a1]) (rest := []) ⟨hx, hb, hml, hown, hu⟩ (t_Model_isAlpha l G σ a1 r71 hC71) (va_cwS 1 hu (uw_S mw_1302 mw_1303 mw_70 mw_1304) rfl rfl rfl hd_Model_isAlpha ⟨Nat.le_of_ble_eq_true rfl, Nat.le_of_ble_eq_true rfl⟩) (x_preS hC hS hw) rfl rfl hl.1 rfl (lv_room (Nat.le_of_ble_eq_true rfl)) d_Model_isTokenByte_71 ⟨Nat.le_of_ble_eq_true rfl, Nat.le_of_ble_eq_true rfl⟩) ?_
    refine lv_if_ne (tgt := 88) hx hb d_Model_isTokenByte_74 (by decide) (fun hc74 => ?_) (fun hc74 => ?_)
    · rw [if_neg hc74] at hE
      refine lv_iconst (v := (1 : Int32)) hx hb d_Model_isTokenByte_88 (by decide) ?_
      refine lv_goto (tgt := 93) hx hb d_Model_isTokenByte_89 (by decide) ?_
      exact W.zret (v := (1 : Int32)) hx hb hr rfl (fun t ht hW => ⟨by rw [Option.some.inj hE], ht⟩) (fun q h => by cases h) d_Model_isTokenByte_93
    · rw [if_pos hc74] at hE
      refine lv_iload_n hx hb d_Model_isTokenByte_77 rfl (lv_at hl 1 rfl) ?_
      obtain ⟨r78, hC78, hE⟩ := x_bind hE
      refine x_callR (W.runS (As := [.int a1]) (rest := []) ⟨hx, hb, hml, hown, hu⟩ (t_Model_isDigit l G σ a1 r78 hC78) (va_cwS 1 hu (uw_S mw_1197 mw_1198 mw_70 mw_1199) rfl rfl rfl hd_Model_isDigit ⟨Nat.le_of_ble_eq_true rfl, Nat.le_of_ble_eq_true rfl⟩) (x_preS hC hS hw) rfl rfl hl.1 rfl (lv_room (Nat.le_of_ble_eq_true rfl)) d_Model_isTokenByte_78 ⟨Nat.le_of_ble_eq_true rfl, Nat.le_of_ble_eq_true rfl⟩) ?_
      refine lv_if_ne (tgt := 88) hx hb d_Model_isTokenByte_81 (by decide) (fun hc81 => ?_) (fun hc81 => ?_)
      · rw [if_neg hc81] at hE
        refine lv_iconst (v := (1 : Int32)) hx hb d_Model_isTokenByte_88 (by decide) ?_
        refine lv_goto (tgt := 93) hx hb d_Model_isTokenByte_89 (by decide) ?_
        exact W.zret (v := (1 : Int32)) hx hb hr rfl (fun t ht hW => ⟨by rw [Option.some.inj hE], ht⟩) (fun q h => by cases h) d_Model_isTokenByte_93
      · rw [if_pos hc81] at hE
        refine lv_iload_n hx hb d_Model_isTokenByte_84 rfl (lv_at hl 0 rfl) ?_
        refine lv_if_eq (tgt := 92) hx hb d_Model_isTokenByte_85 (by decide) (fun hc85 => ?_) (fun hc85 => ?_)
        · rw [if_pos hc85] at hE
          refine lv_iconst (v := (0 : Int32)) hx hb d_Model_isTokenByte_92 (by decide) ?_
          exact W.zret (v := (0 : Int32)) hx hb hr rfl (fun t ht hW => ⟨by rw [Option.some.inj hE], ht⟩) (fun q h => by cases h) d_Model_isTokenByte_93
        · rw [if_neg hc85] at hE
          refine lv_iconst (v := (1 : Int32)) hx hb d_Model_isTokenByte_88 (by decide) ?_
          refine lv_goto (tgt := 93) hx hb d_Model_isTokenByte_89 (by decide) ?_
          exact W.zret (v := (1 : Int32)) hx hb hr rfl (fun t ht hW => ⟨by rw [Option.some.inj hE], ht⟩) (fun q h => by cases h) d_Model_isTokenByte_93
  have jn64 : ∀ (ls : Array Slot), x_Model_isTokenByte_64 a1 = some r → lv_has ls 2 [(0, .int a1)] → W p l e (headSpec (ws_Model_isTokenByte) rm_Model_isTokenByte).room s m ([.int a1] : List Value).toArray below meth c s.heap [] 0 0 (MQ below (xRd (some (.int r))) ([.int a1] : List Value).toArray s 0 0 (fun _ => False)) (F0 m 64 ls []) := by
    intro ls hE hl
    unfold x_Model_isTokenByte_64 at hE
    refine lv_iconst (v := (1 : Int32)) hx hb d_Model_isTokenByte_64 (by decide) ?_
    refine lv_goto (tgt := 69) hx hb d_Model_isTokenByte_65 (by decide) ?_
    exact jn69 _ _ hE (lv_sub hl [0] rfl)
  have hl := lv_entry ([.int a1]) (n := 2) (Nat.le_of_ble_eq_true rfl)
  rw [lg_entry_eq]
  generalize (lg_sl ([.int a1]) ++ List.replicate (2 - (lg_sl ([.int a1])).length) Slot.unset).toArray = ls at hl ⊢
  have hl : lv_has ls 2 [(0, .int a1)] := hl
  unfold x_Model_isTokenByte at hE
  refine lv_iload_n hx hb d_Model_isTokenByte_0 rfl (lv_at hl 0 rfl) ?_
  refine lv_bipush (v := (33 : Int32)) hx hb d_Model_isTokenByte_1 (by decide) ?_
  refine lv_icmp_eq (tgt := 64) hx hb d_Model_isTokenByte_3 (by decide) (fun hc3 => ?_) (fun hc3 => ?_)
  · rw [if_pos hc3] at hE
    exact jn64 _ hE (lv_sub hl [0] rfl)
  · rw [if_neg hc3] at hE
    refine lv_iload_n hx hb d_Model_isTokenByte_6 rfl (lv_at hl 0 rfl) ?_
    refine lv_bipush (v := (35 : Int32)) hx hb d_Model_isTokenByte_7 (by decide) ?_
    refine lv_bipush (v := (39 : Int32)) hx hb d_Model_isTokenByte_9 (by decide) ?_
    obtain ⟨r11, hC11, hE⟩ := x_bind hE
    refine x_callR (W.runS (As := [.int a1, .int (35 : Int32), .int (39 : Int32)]) (rest := []) ⟨hx, hb, hml, hown, hu⟩ (t_Model_within l G σ a1 (35 : Int32) (39 : Int32) r11 hC11) (va_cwS 3 hu (uw_S mw_1178 mw_1179 mw_70 mw_1180) rfl rfl rfl hd_Model_within ⟨Nat.le_of_ble_eq_true rfl, Nat.le_of_ble_eq_true rfl⟩) (x_preS hC hS hw) rfl rfl hl.1 rfl (lv_room (Nat.le_of_ble_eq_true rfl)) d_Model_isTokenByte_11 ⟨Nat.le_of_ble_eq_true rfl, Nat.le_of_ble_eq_true rfl⟩) ?_
    refine lv_if_ne (tgt := 64) hx hb d_Model_isTokenByte_14 (by decide) (fun hc14 => ?_) (fun hc14 => ?_)
    · rw [if_neg hc14] at hE
      exact jn64 _ hE (lv_sub hl [0] rfl)
    · rw [if_pos hc14] at hE
      refine lv_iload_n hx hb d_Model_isTokenByte_17 rfl (lv_at hl 0 rfl) ?_
      refine lv_bipush (v := (42 : Int32)) hx hb d_Model_isTokenByte_18 (by decide) ?_
      refine lv_icmp_eq (tgt := 64) hx hb d_Model_isTokenByte_20 (by decide) (fun hc20 => ?_) (fun hc20 => ?_)
      · rw [if_pos hc20] at hE
        exact jn64 _ hE (lv_sub hl [0] rfl)
      · rw [if_neg hc20] at hE
        refine lv_iload_n hx hb d_Model_isTokenByte_23 rfl (lv_at hl 0 rfl) ?_
        refine lv_bipush (v := (43 : Int32)) hx hb d_Model_isTokenByte_24 (by decide) ?_
        refine lv_icmp_eq (tgt := 64) hx hb d_Model_isTokenByte_26 (by decide) (fun hc26 => ?_) (fun hc26 => ?_)
        · rw [if_pos hc26] at hE
          exact jn64 _ hE (lv_sub hl [0] rfl)
        · rw [if_neg hc26] at hE
          refine lv_iload_n hx hb d_Model_isTokenByte_29 rfl (lv_at hl 0 rfl) ?_
          refine lv_bipush (v := (45 : Int32)) hx hb d_Model_isTokenByte_30 (by decide) ?_
          refine lv_icmp_eq (tgt := 64) hx hb d_Model_isTokenByte_32 (by decide) (fun hc32 => ?_) (fun hc32 => ?_)
          · rw [if_pos hc32] at hE
            exact jn64 _ hE (lv_sub hl [0] rfl)
          · rw [if_neg hc32] at hE
            refine lv_iload_n hx hb d_Model_isTokenByte_35 rfl (lv_at hl 0 rfl) ?_
            refine lv_bipush (v := (46 : Int32)) hx hb d_Model_isTokenByte_36 (by decide) ?_
            refine lv_icmp_eq (tgt := 64) hx hb d_Model_isTokenByte_38 (by decide) (fun hc38 => ?_) (fun hc38 => ?_)
            · rw [if_pos hc38] at hE
              exact jn64 _ hE (lv_sub hl [0] rfl)
            · rw [if_neg hc38] at hE
              refine lv_iload_n hx hb d_Model_isTokenByte_41 rfl (lv_at hl 0 rfl) ?_
              refine lv_bipush (v := (94 : Int32)) hx hb d_Model_isTokenByte_42 (by decide) ?_
              refine lv_bipush (v := (96 : Int32)) hx hb d_Model_isTokenByte_44 (by decide) ?_
              obtain ⟨r46, hC46, hE⟩ := x_bind hE
              refine x_callR (W.runS (As := [.int a1, .int (94 : Int32), .int (96 : Int32)]) (rest := []) ⟨hx, hb, hml, hown, hu⟩ (t_Model_within l G σ a1 (94 : Int32) (96 : Int32) r46 hC46) (va_cwS 3 hu (uw_S mw_1178 mw_1179 mw_70 mw_1180) rfl rfl rfl hd_Model_within ⟨Nat.le_of_ble_eq_true rfl, Nat.le_of_ble_eq_true rfl⟩) (x_preS hC hS hw) rfl rfl hl.1 rfl (lv_room (Nat.le_of_ble_eq_true rfl)) d_Model_isTokenByte_46 ⟨Nat.le_of_ble_eq_true rfl, Nat.le_of_ble_eq_true rfl⟩) ?_
              refine lv_if_ne (tgt := 64) hx hb d_Model_isTokenByte_49 (by decide) (fun hc49 => ?_) (fun hc49 => ?_)
              · rw [if_neg hc49] at hE
                exact jn64 _ hE (lv_sub hl [0] rfl)
              · rw [if_pos hc49] at hE
                refine lv_iload_n hx hb d_Model_isTokenByte_52 rfl (lv_at hl 0 rfl) ?_
                refine lv_bipush (v := (124 : Int32)) hx hb d_Model_isTokenByte_53 (by decide) ?_
                refine lv_icmp_eq (tgt := 64) hx hb d_Model_isTokenByte_55 (by decide) (fun hc55 => ?_) (fun hc55 => ?_)
                · rw [if_pos hc55] at hE
                  exact jn64 _ hE (lv_sub hl [0] rfl)
                · rw [if_neg hc55] at hE
                  refine lv_iload_n hx hb d_Model_isTokenByte_58 rfl (lv_at hl 0 rfl) ?_
                  refine lv_bipush (v := (126 : Int32)) hx hb d_Model_isTokenByte_59 (by decide) ?_
                  refine lv_icmp_ne (tgt := 68) hx hb d_Model_isTokenByte_61 (by decide) (fun hc61 => ?_) (fun hc61 => ?_)
                  · rw [if_neg hc61] at hE
                    refine lv_iconst (v := (0 : Int32)) hx hb d_Model_isTokenByte_68 (by decide) ?_
                    exact jn69 _ _ hE (lv_sub hl [0] rfl)
                  · rw [if_pos hc61] at hE
                    exact jn64 _ hE (lv_sub hl [0] rfl)

def y_Model_isTargetByte : MethodName := ⟨"PlainOriginModel", "isTargetByte", "(I)Z"⟩
def ws_Model_isTargetByte : List Cond := Cond.code y_Model_isTargetByte prog_14_method_10_code 2 (some .boolean) :: UW
theorem hd_Model_isTargetByte : y_Model_isTargetByte.cls ≠ "java/lang/invoke/MethodHandle" ∧ y_Model_isTargetByte.cls ≠ "java/lang/invoke/VarHandle" ∧ (parseMethodDescriptor y_Model_isTargetByte.desc).map (fun d => d.parameters.length) = some 1 := by decide +kernel
theorem d_Model_isTargetByte_0 : decode prog_14_method_10_code 0 = .ok (.iload_n 0, 1) := by decide +kernel
theorem d_Model_isTargetByte_1 : decode prog_14_method_10_code 1 = .ok (.bipush (33), 2) := by decide +kernel
theorem d_Model_isTargetByte_3 : decode prog_14_method_10_code 3 = .ok (.if_icmp .eq (62), 3) := by decide +kernel
theorem d_Model_isTargetByte_6 : decode prog_14_method_10_code 6 = .ok (.iload_n 0, 1) := by decide +kernel
theorem d_Model_isTargetByte_7 : decode prog_14_method_10_code 7 = .ok (.bipush (36), 2) := by decide +kernel
theorem d_Model_isTargetByte_9 : decode prog_14_method_10_code 9 = .ok (.if_icmp .eq (56), 3) := by decide +kernel
theorem d_Model_isTargetByte_12 : decode prog_14_method_10_code 12 = .ok (.iload_n 0, 1) := by decide +kernel
theorem d_Model_isTargetByte_13 : decode prog_14_method_10_code 13 = .ok (.bipush (38), 2) := by decide +kernel
theorem d_Model_isTargetByte_15 : decode prog_14_method_10_code 15 = .ok (.bipush (47), 2) := by decide +kernel
theorem d_Model_isTargetByte_17 : decode prog_14_method_10_code 17 = .ok (.invokestatic 147, 3) := by decide +kernel
theorem d_Model_isTargetByte_20 : decode prog_14_method_10_code 20 = .ok (.ifCond .ne (45), 3) := by decide +kernel
theorem d_Model_isTargetByte_23 : decode prog_14_method_10_code 23 = .ok (.iload_n 0, 1) := by decide +kernel
theorem d_Model_isTargetByte_24 : decode prog_14_method_10_code 24 = .ok (.bipush (58), 2) := by decide +kernel
theorem d_Model_isTargetByte_26 : decode prog_14_method_10_code 26 = .ok (.if_icmp .eq (39), 3) := by decide +kernel
theorem d_Model_isTargetByte_29 : decode prog_14_method_10_code 29 = .ok (.iload_n 0, 1) := by decide +kernel
theorem d_Model_isTargetByte_30 : decode prog_14_method_10_code 30 = .ok (.bipush (59), 2) := by decide +kernel
theorem d_Model_isTargetByte_32 : decode prog_14_method_10_code 32 = .ok (.if_icmp .eq (33), 3) := by decide +kernel
theorem d_Model_isTargetByte_35 : decode prog_14_method_10_code 35 = .ok (.iload_n 0, 1) := by decide +kernel
theorem d_Model_isTargetByte_36 : decode prog_14_method_10_code 36 = .ok (.bipush (61), 2) := by decide +kernel
theorem d_Model_isTargetByte_38 : decode prog_14_method_10_code 38 = .ok (.if_icmp .eq (27), 3) := by decide +kernel
theorem d_Model_isTargetByte_41 : decode prog_14_method_10_code 41 = .ok (.iload_n 0, 1) := by decide +kernel
theorem d_Model_isTargetByte_42 : decode prog_14_method_10_code 42 = .ok (.bipush (63), 2) := by decide +kernel
theorem d_Model_isTargetByte_44 : decode prog_14_method_10_code 44 = .ok (.if_icmp .eq (21), 3) := by decide +kernel
theorem d_Model_isTargetByte_47 : decode prog_14_method_10_code 47 = .ok (.iload_n 0, 1) := by decide +kernel
theorem d_Model_isTargetByte_48 : decode prog_14_method_10_code 48 = .ok (.bipush (64), 2) := by decide +kernel
theorem d_Model_isTargetByte_50 : decode prog_14_method_10_code 50 = .ok (.if_icmp .eq (15), 3) := by decide +kernel
theorem d_Model_isTargetByte_53 : decode prog_14_method_10_code 53 = .ok (.iload_n 0, 1) := by decide +kernel
theorem d_Model_isTargetByte_54 : decode prog_14_method_10_code 54 = .ok (.bipush (95), 2) := by decide +kernel
theorem d_Model_isTargetByte_56 : decode prog_14_method_10_code 56 = .ok (.if_icmp .eq (9), 3) := by decide +kernel
theorem d_Model_isTargetByte_59 : decode prog_14_method_10_code 59 = .ok (.iload_n 0, 1) := by decide +kernel
theorem d_Model_isTargetByte_60 : decode prog_14_method_10_code 60 = .ok (.bipush (126), 2) := by decide +kernel
theorem d_Model_isTargetByte_62 : decode prog_14_method_10_code 62 = .ok (.if_icmp .ne (7), 3) := by decide +kernel
theorem d_Model_isTargetByte_65 : decode prog_14_method_10_code 65 = .ok (.iconst 1, 1) := by decide +kernel
theorem d_Model_isTargetByte_66 : decode prog_14_method_10_code 66 = .ok (.goto (4), 3) := by decide +kernel
theorem d_Model_isTargetByte_69 : decode prog_14_method_10_code 69 = .ok (.iconst 0, 1) := by decide +kernel
theorem d_Model_isTargetByte_70 : decode prog_14_method_10_code 70 = .ok (.istore_n 1, 1) := by decide +kernel
theorem d_Model_isTargetByte_71 : decode prog_14_method_10_code 71 = .ok (.iload_n 0, 1) := by decide +kernel
theorem d_Model_isTargetByte_72 : decode prog_14_method_10_code 72 = .ok (.invokestatic 159, 3) := by decide +kernel
theorem d_Model_isTargetByte_75 : decode prog_14_method_10_code 75 = .ok (.ifCond .ne (14), 3) := by decide +kernel
theorem d_Model_isTargetByte_78 : decode prog_14_method_10_code 78 = .ok (.iload_n 0, 1) := by decide +kernel
theorem d_Model_isTargetByte_79 : decode prog_14_method_10_code 79 = .ok (.invokestatic 151, 3) := by decide +kernel
theorem d_Model_isTargetByte_82 : decode prog_14_method_10_code 82 = .ok (.ifCond .ne (7), 3) := by decide +kernel
theorem d_Model_isTargetByte_85 : decode prog_14_method_10_code 85 = .ok (.iload_n 1, 1) := by decide +kernel
theorem d_Model_isTargetByte_86 : decode prog_14_method_10_code 86 = .ok (.ifCond .eq (7), 3) := by decide +kernel
theorem d_Model_isTargetByte_89 : decode prog_14_method_10_code 89 = .ok (.iconst 1, 1) := by decide +kernel
theorem d_Model_isTargetByte_90 : decode prog_14_method_10_code 90 = .ok (.goto (4), 3) := by decide +kernel
theorem d_Model_isTargetByte_93 : decode prog_14_method_10_code 93 = .ok (.iconst 0, 1) := by decide +kernel
theorem d_Model_isTargetByte_94 : decode prog_14_method_10_code 94 = .ok (.ireturn, 1) := by decide +kernel
def x_Model_isTargetByte_70 (a1 : Int32) (k0 : Int32) : Option Int32 := (Option.bind (x_Model_isAlpha a1) (fun r72 => (if r72 = 0 then (Option.bind (x_Model_isDigit a1) (fun r79 => (if r79 = 0 then (if k0 = 0 then some (0 : Int32) else some (1 : Int32)) else some (1 : Int32)))) else some (1 : Int32))))
def x_Model_isTargetByte_65 (a1 : Int32) : Option Int32 := x_Model_isTargetByte_70 a1 (1 : Int32)
def x_Model_isTargetByte (a1 : Int32) : Option Int32 := (if a1 = (33 : Int32) then x_Model_isTargetByte_65 a1 else (if a1 = (36 : Int32) then x_Model_isTargetByte_65 a1 else (Option.bind (x_Model_within a1 (38 : Int32) (47 : Int32)) (fun r17 => (if r17 = 0 then (if a1 = (58 : Int32) then x_Model_isTargetByte_65 a1 else (if a1 = (59 : Int32) then x_Model_isTargetByte_65 a1 else (if a1 = (61 : Int32) then x_Model_isTargetByte_65 a1 else (if a1 = (63 : Int32) then x_Model_isTargetByte_65 a1 else (if a1 = (64 : Int32) then x_Model_isTargetByte_65 a1 else (if a1 = (95 : Int32) then x_Model_isTargetByte_65 a1 else (if a1 = (126 : Int32) then x_Model_isTargetByte_65 a1 else x_Model_isTargetByte_70 a1 (0 : Int32)))))))) else x_Model_isTargetByte_65 a1)))))
abbrev rm_Model_isTargetByte : Room := { frames := 2, cells := 0, slots := 0, locals := 42 }
set_option maxHeartbeats 4000000 in
set_option maxRecDepth 100000 in
theorem t_Model_isTargetByte (l : Launch) (G : xG) (σ : St) (a1 : Int32) (r : Int32) (hE : x_Model_isTargetByte a1 = some r) : Met l y_Model_isTargetByte (ws_Model_isTargetByte) rm_Model_isTargetByte (xP G σ [.int a1]) (xRd (some (.int r))) 0 0 (fun _ => False) := by
  refine Met.ofW (cc := prog_14_method_10_code) (maxL := 2) (ret := (some .boolean)) (by decide) rfl ?_
  intro p e s m args below meth c s₁ B hml hv
  obtain ⟨rfl, hw, hC⟩ := hv
  have hx := B.exec
  have hb := B.bytes
  have hr := B.returns
  have hu : ∀ w ∈ UW, w.before _ s = true := fun w h => atoms_spec B.pre w (List.mem_cons_of_mem _ h)
  have hown : s.vm.findClass R_Model = some m.cls := findClass_of_methodNamed B.named
  have hlocks := B.notSynchronized
  have hK := hC.1
  have hI := hC.2.1
  have hG := hC.2.2.1
  have hN := hC.2.2.2
  have hS : va_S (xA G) s.heap s.heap [] := va_S.rf
  have jn70 : ∀ (ls : Array Slot) (k0 : Int32), x_Model_isTargetByte_70 a1 k0 = some r → lv_has ls 2 [(0, .int a1)] → W p l e (headSpec (ws_Model_isTargetByte) rm_Model_isTargetByte).room s m ([.int a1] : List Value).toArray below meth c s.heap [] 0 0 (MQ below (xRd (some (.int r))) ([.int a1] : List Value).toArray s 0 0 (fun _ => False)) (F0 m 70 ls [.int k0]) := by
    intro ls k0 hE hl
    unfold x_Model_isTargetByte_70 at hE
    refine lv_istore_n hx hb d_Model_isTargetByte_70 rfl hl (by decide) rfl (fun ls hl => ?_)
    have hl : lv_has ls 2 [(1, .int k0), (0, .int a1)] := hl
    refine lv_iload_n hx hb d_Model_isTargetByte_71 rfl (lv_at hl 1 rfl) ?_
    obtain ⟨r72, hC72, hE⟩ := x_bind hE
    refine x_callR (W.runS (As := [.int a1]) (rest := []) ⟨hx, hb, hml, hown, hu⟩ (t_Model_isAlpha l G σ a1 r72 hC72) (va_cwS 1 hu (uw_S mw_1302 mw_1303 mw_70 mw_1304) rfl rfl rfl hd_Model_isAlpha ⟨Nat.le_of_ble_eq_true rfl, Nat.le_of_ble_eq_true rfl⟩) (x_preS hC hS hw) rfl rfl hl.1 rfl (lv_room (Nat.le_of_ble_eq_true rfl)) d_Model_isTargetByte_72 ⟨Nat.le_of_ble_eq_true rfl, Nat.le_of_ble_eq_true rfl⟩) ?_
    refine lv_if_ne (tgt := 89) hx hb d_Model_isTargetByte_75 (by decide) (fun hc75 => ?_) (fun hc75 => ?_)
    · rw [if_neg hc75] at hE
      refine lv_iconst (v := (1 : Int32)) hx hb d_Model_isTargetByte_89 (by decide) ?_
      refine lv_goto (tgt := 94) hx hb d_Model_isTargetByte_90 (by decide) ?_
      exact W.zret (v := (1 : Int32)) hx hb hr rfl (fun t ht hW => ⟨by rw [Option.some.inj hE], ht⟩) (fun q h => by cases h) d_Model_isTargetByte_94
    · rw [if_pos hc75] at hE
      refine lv_iload_n hx hb d_Model_isTargetByte_78 rfl (lv_at hl 1 rfl) ?_
      obtain ⟨r79, hC79, hE⟩ := x_bind hE
      refine x_callR (W.runS (As := [.int a1]) (rest := []) ⟨hx, hb, hml, hown, hu⟩ (t_Model_isDigit l G σ a1 r79 hC79) (va_cwS 1 hu (uw_S mw_1197 mw_1198 mw_70 mw_1199) rfl rfl rfl hd_Model_isDigit ⟨Nat.le_of_ble_eq_true rfl, Nat.le_of_ble_eq_true rfl⟩) (x_preS hC hS hw) rfl rfl hl.1 rfl (lv_room (Nat.le_of_ble_eq_true rfl)) d_Model_isTargetByte_79 ⟨Nat.le_of_ble_eq_true rfl, Nat.le_of_ble_eq_true rfl⟩) ?_
      refine lv_if_ne (tgt := 89) hx hb d_Model_isTargetByte_82 (by decide) (fun hc82 => ?_) (fun hc82 => ?_)
      · rw [if_neg hc82] at hE
        refine lv_iconst (v := (1 : Int32)) hx hb d_Model_isTargetByte_89 (by decide) ?_
        refine lv_goto (tgt := 94) hx hb d_Model_isTargetByte_90 (by decide) ?_
        exact W.zret (v := (1 : Int32)) hx hb hr rfl (fun t ht hW => ⟨by rw [Option.some.inj hE], ht⟩) (fun q h => by cases h) d_Model_isTargetByte_94
      · rw [if_pos hc82] at hE
        refine lv_iload_n hx hb d_Model_isTargetByte_85 rfl (lv_at hl 0 rfl) ?_
        refine lv_if_eq (tgt := 93) hx hb d_Model_isTargetByte_86 (by decide) (fun hc86 => ?_) (fun hc86 => ?_)
        · rw [if_pos hc86] at hE
          refine lv_iconst (v := (0 : Int32)) hx hb d_Model_isTargetByte_93 (by decide) ?_
          exact W.zret (v := (0 : Int32)) hx hb hr rfl (fun t ht hW => ⟨by rw [Option.some.inj hE], ht⟩) (fun q h => by cases h) d_Model_isTargetByte_94
        · rw [if_neg hc86] at hE
          refine lv_iconst (v := (1 : Int32)) hx hb d_Model_isTargetByte_89 (by decide) ?_
          refine lv_goto (tgt := 94) hx hb d_Model_isTargetByte_90 (by decide) ?_
          exact W.zret (v := (1 : Int32)) hx hb hr rfl (fun t ht hW => ⟨by rw [Option.some.inj hE], ht⟩) (fun q h => by cases h) d_Model_isTargetByte_94
  have jn65 : ∀ (ls : Array Slot), x_Model_isTargetByte_65 a1 = some r → lv_has ls 2 [(0, .int a1)] → W p l e (headSpec (ws_Model_isTargetByte) rm_Model_isTargetByte).room s m ([.int a1] : List Value).toArray below meth c s.heap [] 0 0 (MQ below (xRd (some (.int r))) ([.int a1] : List Value).toArray s 0 0 (fun _ => False)) (F0 m 65 ls []) := by
    intro ls hE hl
    unfold x_Model_isTargetByte_65 at hE
    refine lv_iconst (v := (1 : Int32)) hx hb d_Model_isTargetByte_65 (by decide) ?_
    refine lv_goto (tgt := 70) hx hb d_Model_isTargetByte_66 (by decide) ?_
    exact jn70 _ _ hE (lv_sub hl [0] rfl)
  have hl := lv_entry ([.int a1]) (n := 2) (Nat.le_of_ble_eq_true rfl)
  rw [lg_entry_eq]
  generalize (lg_sl ([.int a1]) ++ List.replicate (2 - (lg_sl ([.int a1])).length) Slot.unset).toArray = ls at hl ⊢
  have hl : lv_has ls 2 [(0, .int a1)] := hl
  unfold x_Model_isTargetByte at hE
  refine lv_iload_n hx hb d_Model_isTargetByte_0 rfl (lv_at hl 0 rfl) ?_
  refine lv_bipush (v := (33 : Int32)) hx hb d_Model_isTargetByte_1 (by decide) ?_
  refine lv_icmp_eq (tgt := 65) hx hb d_Model_isTargetByte_3 (by decide) (fun hc3 => ?_) (fun hc3 => ?_)
  · rw [if_pos hc3] at hE
    exact jn65 _ hE (lv_sub hl [0] rfl)
  · rw [if_neg hc3] at hE
    refine lv_iload_n hx hb d_Model_isTargetByte_6 rfl (lv_at hl 0 rfl) ?_
    refine lv_bipush (v := (36 : Int32)) hx hb d_Model_isTargetByte_7 (by decide) ?_
    refine lv_icmp_eq (tgt := 65) hx hb d_Model_isTargetByte_9 (by decide) (fun hc9 => ?_) (fun hc9 => ?_)
    · rw [if_pos hc9] at hE
      exact jn65 _ hE (lv_sub hl [0] rfl)
    · rw [if_neg hc9] at hE
      refine lv_iload_n hx hb d_Model_isTargetByte_12 rfl (lv_at hl 0 rfl) ?_
      refine lv_bipush (v := (38 : Int32)) hx hb d_Model_isTargetByte_13 (by decide) ?_
      refine lv_bipush (v := (47 : Int32)) hx hb d_Model_isTargetByte_15 (by decide) ?_
      obtain ⟨r17, hC17, hE⟩ := x_bind hE
      refine x_callR (W.runS (As := [.int a1, .int (38 : Int32), .int (47 : Int32)]) (rest := []) ⟨hx, hb, hml, hown, hu⟩ (t_Model_within l G σ a1 (38 : Int32) (47 : Int32) r17 hC17) (va_cwS 3 hu (uw_S mw_1178 mw_1179 mw_70 mw_1180) rfl rfl rfl hd_Model_within ⟨Nat.le_of_ble_eq_true rfl, Nat.le_of_ble_eq_true rfl⟩) (x_preS hC hS hw) rfl rfl hl.1 rfl (lv_room (Nat.le_of_ble_eq_true rfl)) d_Model_isTargetByte_17 ⟨Nat.le_of_ble_eq_true rfl, Nat.le_of_ble_eq_true rfl⟩) ?_
      refine lv_if_ne (tgt := 65) hx hb d_Model_isTargetByte_20 (by decide) (fun hc20 => ?_) (fun hc20 => ?_)
      · rw [if_neg hc20] at hE
        exact jn65 _ hE (lv_sub hl [0] rfl)
      · rw [if_pos hc20] at hE
        refine lv_iload_n hx hb d_Model_isTargetByte_23 rfl (lv_at hl 0 rfl) ?_
        refine lv_bipush (v := (58 : Int32)) hx hb d_Model_isTargetByte_24 (by decide) ?_
        refine lv_icmp_eq (tgt := 65) hx hb d_Model_isTargetByte_26 (by decide) (fun hc26 => ?_) (fun hc26 => ?_)
        · rw [if_pos hc26] at hE
          exact jn65 _ hE (lv_sub hl [0] rfl)
        · rw [if_neg hc26] at hE
          refine lv_iload_n hx hb d_Model_isTargetByte_29 rfl (lv_at hl 0 rfl) ?_
          refine lv_bipush (v := (59 : Int32)) hx hb d_Model_isTargetByte_30 (by decide) ?_
          refine lv_icmp_eq (tgt := 65) hx hb d_Model_isTargetByte_32 (by decide) (fun hc32 => ?_) (fun hc32 => ?_)
          · rw [if_pos hc32] at hE
            exact jn65 _ hE (lv_sub hl [0] rfl)
          · rw [if_neg hc32] at hE
            refine lv_iload_n hx hb d_Model_isTargetByte_35 rfl (lv_at hl 0 rfl) ?_
            refine lv_bipush (v := (61 : Int32)) hx hb d_Model_isTargetByte_36 (by decide) ?_
            refine lv_icmp_eq (tgt := 65) hx hb d_Model_isTargetByte_38 (by decide) (fun hc38 => ?_) (fun hc38 => ?_)
            · rw [if_pos hc38] at hE
              exact jn65 _ hE (lv_sub hl [0] rfl)
            · rw [if_neg hc38] at hE
              refine lv_iload_n hx hb d_Model_isTargetByte_41 rfl (lv_at hl 0 rfl) ?_
              refine lv_bipush (v := (63 : Int32)) hx hb d_Model_isTargetByte_42 (by decide) ?_
              refine lv_icmp_eq (tgt := 65) hx hb d_Model_isTargetByte_44 (by decide) (fun hc44 => ?_) (fun hc44 => ?_)
              · rw [if_pos hc44] at hE
                exact jn65 _ hE (lv_sub hl [0] rfl)
              · rw [if_neg hc44] at hE
                refine lv_iload_n hx hb d_Model_isTargetByte_47 rfl (lv_at hl 0 rfl) ?_
                refine lv_bipush (v := (64 : Int32)) hx hb d_Model_isTargetByte_48 (by decide) ?_
                refine lv_icmp_eq (tgt := 65) hx hb d_Model_isTargetByte_50 (by decide) (fun hc50 => ?_) (fun hc50 => ?_)
                · rw [if_pos hc50] at hE
                  exact jn65 _ hE (lv_sub hl [0] rfl)
                · rw [if_neg hc50] at hE
                  refine lv_iload_n hx hb d_Model_isTargetByte_53 rfl (lv_at hl 0 rfl) ?_
                  refine lv_bipush (v := (95 : Int32)) hx hb d_Model_isTargetByte_54 (by decide) ?_
                  refine lv_icmp_eq (tgt := 65) hx hb d_Model_isTargetByte_56 (by decide) (fun hc56 => ?_) (fun hc56 => ?_)
                  · rw [if_pos hc56] at hE
                    exact jn65 _ hE (lv_sub hl [0] rfl)
                  · rw [if_neg hc56] at hE
                    refine lv_iload_n hx hb d_Model_isTargetByte_59 rfl (lv_at hl 0 rfl) ?_
                    refine lv_bipush (v := (126 : Int32)) hx hb d_Model_isTargetByte_60 (by decide) ?_
                    refine lv_icmp_ne (tgt := 69) hx hb d_Model_isTargetByte_62 (by decide) (fun hc62 => ?_) (fun hc62 => ?_)
                    · rw [if_neg hc62] at hE
                      refine lv_iconst (v := (0 : Int32)) hx hb d_Model_isTargetByte_69 (by decide) ?_
                      exact jn70 _ _ hE (lv_sub hl [0] rfl)
                    · rw [if_pos hc62] at hE
                      exact jn65 _ hE (lv_sub hl [0] rfl)

def y_Model_isShown : MethodName := ⟨"PlainOriginModel", "isShown", "(I)Z"⟩
def ws_Model_isShown : List Cond := Cond.code y_Model_isShown prog_14_method_11_code 1 (some .boolean) :: UW
theorem hd_Model_isShown : y_Model_isShown.cls ≠ "java/lang/invoke/MethodHandle" ∧ y_Model_isShown.cls ≠ "java/lang/invoke/VarHandle" ∧ (parseMethodDescriptor y_Model_isShown.desc).map (fun d => d.parameters.length) = some 1 := by decide +kernel
theorem d_Model_isShown_0 : decode prog_14_method_11_code 0 = .ok (.iload_n 0, 1) := by decide +kernel
theorem d_Model_isShown_1 : decode prog_14_method_11_code 1 = .ok (.bipush (9), 2) := by decide +kernel
theorem d_Model_isShown_3 : decode prog_14_method_11_code 3 = .ok (.if_icmp .eq (15), 3) := by decide +kernel
theorem d_Model_isShown_6 : decode prog_14_method_11_code 6 = .ok (.iload_n 0, 1) := by decide +kernel
theorem d_Model_isShown_7 : decode prog_14_method_11_code 7 = .ok (.bipush (31), 2) := by decide +kernel
theorem d_Model_isShown_9 : decode prog_14_method_11_code 9 = .ok (.if_icmp .le (13), 3) := by decide +kernel
theorem d_Model_isShown_12 : decode prog_14_method_11_code 12 = .ok (.iload_n 0, 1) := by decide +kernel
theorem d_Model_isShown_13 : decode prog_14_method_11_code 13 = .ok (.bipush (127), 2) := by decide +kernel
theorem d_Model_isShown_15 : decode prog_14_method_11_code 15 = .ok (.if_icmp .eq (7), 3) := by decide +kernel
theorem d_Model_isShown_18 : decode prog_14_method_11_code 18 = .ok (.iconst 1, 1) := by decide +kernel
theorem d_Model_isShown_19 : decode prog_14_method_11_code 19 = .ok (.goto (4), 3) := by decide +kernel
theorem d_Model_isShown_22 : decode prog_14_method_11_code 22 = .ok (.iconst 0, 1) := by decide +kernel
theorem d_Model_isShown_23 : decode prog_14_method_11_code 23 = .ok (.ireturn, 1) := by decide +kernel
def x_Model_isShown (a1 : Int32) : Option Int32 := (if a1 = (9 : Int32) then some (1 : Int32) else (if a1 ≤ (31 : Int32) then some (0 : Int32) else (if a1 = (127 : Int32) then some (0 : Int32) else some (1 : Int32))))
abbrev rm_Model_isShown : Room := { frames := 0, cells := 0, slots := 0, locals := 0 }
set_option maxHeartbeats 4000000 in
set_option maxRecDepth 100000 in
theorem t_Model_isShown (l : Launch) (G : xG) (σ : St) (a1 : Int32) (r : Int32) (hE : x_Model_isShown a1 = some r) : Met l y_Model_isShown (ws_Model_isShown) rm_Model_isShown (xP G σ [.int a1]) (xRd (some (.int r))) 0 0 (fun _ => False) := by
  refine Met.ofW (cc := prog_14_method_11_code) (maxL := 1) (ret := (some .boolean)) (by decide) rfl ?_
  intro p e s m args below meth c s₁ B hml hv
  obtain ⟨rfl, hw, hC⟩ := hv
  have hx := B.exec
  have hb := B.bytes
  have hr := B.returns
  have hu : ∀ w ∈ UW, w.before _ s = true := fun w h => atoms_spec B.pre w (List.mem_cons_of_mem _ h)
  have hown : s.vm.findClass R_Model = some m.cls := findClass_of_methodNamed B.named
  have hlocks := B.notSynchronized
  have hK := hC.1
  have hI := hC.2.1
  have hG := hC.2.2.1
  have hN := hC.2.2.2
  have hS : va_S (xA G) s.heap s.heap [] := va_S.rf
  have hl := lv_entry ([.int a1]) (n := 1) (Nat.le_of_ble_eq_true rfl)
  rw [lg_entry_eq]
  generalize (lg_sl ([.int a1]) ++ List.replicate (1 - (lg_sl ([.int a1])).length) Slot.unset).toArray = ls at hl ⊢
  have hl : lv_has ls 1 [(0, .int a1)] := hl
  unfold x_Model_isShown at hE
  refine lv_iload_n hx hb d_Model_isShown_0 rfl (lv_at hl 0 rfl) ?_
  refine lv_bipush (v := (9 : Int32)) hx hb d_Model_isShown_1 (by decide) ?_
  refine lv_icmp_eq (tgt := 18) hx hb d_Model_isShown_3 (by decide) (fun hc3 => ?_) (fun hc3 => ?_)
  · rw [if_pos hc3] at hE
    refine lv_iconst (v := (1 : Int32)) hx hb d_Model_isShown_18 (by decide) ?_
    refine lv_goto (tgt := 23) hx hb d_Model_isShown_19 (by decide) ?_
    exact W.zret (v := (1 : Int32)) hx hb hr rfl (fun t ht hW => ⟨by rw [Option.some.inj hE], ht⟩) (fun q h => by cases h) d_Model_isShown_23
  · rw [if_neg hc3] at hE
    refine lv_iload_n hx hb d_Model_isShown_6 rfl (lv_at hl 0 rfl) ?_
    refine lv_bipush (v := (31 : Int32)) hx hb d_Model_isShown_7 (by decide) ?_
    refine lv_icmp_le (tgt := 22) hx hb d_Model_isShown_9 (by decide) (fun hc9 => ?_) (fun hc9 => ?_)
    · rw [if_pos hc9] at hE
      refine lv_iconst (v := (0 : Int32)) hx hb d_Model_isShown_22 (by decide) ?_
      exact W.zret (v := (0 : Int32)) hx hb hr rfl (fun t ht hW => ⟨by rw [Option.some.inj hE], ht⟩) (fun q h => by cases h) d_Model_isShown_23
    · rw [if_neg hc9] at hE
      refine lv_iload_n hx hb d_Model_isShown_12 rfl (lv_at hl 0 rfl) ?_
      refine lv_bipush (v := (127 : Int32)) hx hb d_Model_isShown_13 (by decide) ?_
      refine lv_icmp_eq (tgt := 22) hx hb d_Model_isShown_15 (by decide) (fun hc15 => ?_) (fun hc15 => ?_)
      · rw [if_pos hc15] at hE
        refine lv_iconst (v := (0 : Int32)) hx hb d_Model_isShown_22 (by decide) ?_
        exact W.zret (v := (0 : Int32)) hx hb hr rfl (fun t ht hW => ⟨by rw [Option.some.inj hE], ht⟩) (fun q h => by cases h) d_Model_isShown_23
      · rw [if_neg hc15] at hE
        refine lv_iconst (v := (1 : Int32)) hx hb d_Model_isShown_18 (by decide) ?_
        refine lv_goto (tgt := 23) hx hb d_Model_isShown_19 (by decide) ?_
        exact W.zret (v := (1 : Int32)) hx hb hr rfl (fun t ht hW => ⟨by rw [Option.some.inj hE], ht⟩) (fun q h => by cases h) d_Model_isShown_23

def y_Model_blame : MethodName := ⟨"PlainOriginModel", "blame", "(ZI)V"⟩
def ws_Model_blame : List Cond := Cond.code y_Model_blame prog_14_method_12_code 3 none :: UW
theorem hd_Model_blame : y_Model_blame.cls = R_Model ∧ y_Model_blame.cls ≠ "java/lang/invoke/MethodHandle" ∧ y_Model_blame.cls ≠ "java/lang/invoke/VarHandle" ∧ (parseMethodDescriptor y_Model_blame.desc).map (fun d => d.parameters.length) = some 2 := by decide +kernel
theorem d_Model_blame_0 : decode prog_14_method_12_code 0 = .ok (.aload_n 0, 1) := by decide +kernel
theorem d_Model_blame_1 : decode prog_14_method_12_code 1 = .ok (.aload_n 0, 1) := by decide +kernel
theorem d_Model_blame_2 : decode prog_14_method_12_code 2 = .ok (.getfield 162, 3) := by decide +kernel
theorem d_Model_blame_5 : decode prog_14_method_12_code 5 = .ok (.ifCond .ne (11), 3) := by decide +kernel
theorem d_Model_blame_8 : decode prog_14_method_12_code 8 = .ok (.iload_n 1, 1) := by decide +kernel
theorem d_Model_blame_9 : decode prog_14_method_12_code 9 = .ok (.ifCond .ne (7), 3) := by decide +kernel
theorem d_Model_blame_12 : decode prog_14_method_12_code 12 = .ok (.iload_n 2, 1) := by decide +kernel
theorem d_Model_blame_13 : decode prog_14_method_12_code 13 = .ok (.goto (7), 3) := by decide +kernel
theorem d_Model_blame_16 : decode prog_14_method_12_code 16 = .ok (.aload_n 0, 1) := by decide +kernel
theorem d_Model_blame_17 : decode prog_14_method_12_code 17 = .ok (.getfield 162, 3) := by decide +kernel
theorem d_Model_blame_20 : decode prog_14_method_12_code 20 = .ok (.putfield 162, 3) := by decide +kernel
theorem d_Model_blame_23 : decode prog_14_method_12_code 23 = .ok (.return_, 1) := by decide +kernel
def x_Model_blame (a1 : Int32) (a2 : Int32) (σ : St) : Option St := (if (σ.1 51 25) = 0 then (if a1 = 0 then (x_let (x_updR σ 51 25 a2) (fun (s20 : St) => some s20)) else (x_let (x_updR σ 51 25 (σ.1 51 25)) (fun (s20 : St) => some s20))) else (x_let (x_updR σ 51 25 (σ.1 51 25)) (fun (s20 : St) => some s20)))
abbrev rm_Model_blame : Room := { frames := 0, cells := 0, slots := 0, locals := 0 }
set_option maxHeartbeats 4000000 in
set_option maxRecDepth 100000 in
theorem t_Model_blame (l : Launch) (G : xG) (σ : St) (a1 : Int32) (a2 : Int32) (σ' : St) (hE : x_Model_blame a1 a2 σ = some σ') : Met l y_Model_blame (ws_Model_blame) rm_Model_blame (xP G σ [.ref (G.2.1 51), .int a1, .int a2]) (xQ G none σ') 0 0 (xA G) := by
  refine Met.ofW (cc := prog_14_method_12_code) (maxL := 3) (ret := none) (by decide) rfl ?_
  intro p e s m args below meth c s₁ B hml hv
  obtain ⟨rfl, hw, hC⟩ := hv
  have hx := B.exec
  have hb := B.bytes
  have hr := B.returns
  have hu : ∀ w ∈ UW, w.before _ s = true := fun w h => atoms_spec B.pre w (List.mem_cons_of_mem _ h)
  have hown : s.vm.findClass R_Model = some m.cls := findClass_of_methodNamed B.named
  have hlocks := B.notSynchronized
  have hK := hC.1
  have hI := hC.2.1
  have hG := hC.2.2.1
  have hN := hC.2.2.2
  have hS : va_S (xA G) s.heap s.heap [] := va_S.rf
  have hl := lv_entry ([.ref (G.2.1 51), .int a1, .int a2]) (n := 3) (Nat.le_of_ble_eq_true rfl)
  rw [lg_entry_eq]
  generalize (lg_sl ([.ref (G.2.1 51), .int a1, .int a2]) ++ List.replicate (3 - (lg_sl ([.ref (G.2.1 51), .int a1, .int a2])).length) Slot.unset).toArray = ls at hl ⊢
  have hl : lv_has ls 3 [(0, .ref (G.2.1 51)), (1, .int a1), (2, .int a2)] := hl
  unfold x_Model_blame at hE
  refine lv_aload_n hx hb d_Model_blame_0 rfl (lv_at hl 0 rfl) ?_
  refine lv_aload_n hx hb d_Model_blame_1 rfl (lv_at hl 0 rfl) ?_
  refine va_get (D := G.1) (cl := xCl) (ci := 10) (v := .int (σ.1 51 25)) (C := R_Model) (T := T_Model) (N := 33) hx hb hu fi_Model hown hK hw 51 (x_at (by decide) (xcl_51 G σ)) rfl 25 (by decide) (hu _ mw_1093) (fun _ h9 => h9) rfl d_Model_blame_2 ?_
  refine lv_if_ne (tgt := 16) hx hb d_Model_blame_5 (by decide) (fun hc5 => ?_) (fun hc5 => ?_)
  · rw [if_neg hc5] at hE
    refine lv_aload_n hx hb d_Model_blame_16 rfl (lv_at hl 0 rfl) ?_
    refine va_get (D := G.1) (cl := xCl) (ci := 10) (v := .int (σ.1 51 25)) (C := R_Model) (T := T_Model) (N := 33) hx hb hu fi_Model hown hK hw 51 (x_at (by decide) (xcl_51 G σ)) rfl 25 (by decide) (hu _ mw_1093) (fun _ h9 => h9) rfl d_Model_blame_17 ?_
    refine va_put (D := G.1) (cl := xCl) (ci := 10) (v := .int (σ.1 51 25)) (ty := .int) (C := R_Model) (T := T_Model) (N := 33) hx hb hu fi_Model ty_Model tyok_Model nm_Model hown hK hw (x_D hI _) hS 51 (x_at (by decide) (xcl_51 G σ)) rfl 25 (by decide) (hu _ mw_1093) (fun _ h9 => h9) rfl (tyok_Model 25 (by decide)) rfl rfl (Nat.le_of_ble_eq_true rfl) d_Model_blame_20 (fun H locs hw _ hS => ?_)
    replace hw := x_setR hw (by decide) rfl
    obtain ⟨s20, e20, hE⟩ := x_letE hE
    rw [← e20] at hw
    have e1 := Option.some.inj hE
    exact W.vret hx hb hr (fun t ht hW => ⟨rfl, by rw [ht, ← e1]; exact hw, hS.F ht⟩) hS.2.2 d_Model_blame_23
  · rw [if_pos hc5] at hE
    refine lv_iload_n hx hb d_Model_blame_8 rfl (lv_at hl 1 rfl) ?_
    refine lv_if_ne (tgt := 16) hx hb d_Model_blame_9 (by decide) (fun hc9 => ?_) (fun hc9 => ?_)
    · rw [if_neg hc9] at hE
      refine lv_aload_n hx hb d_Model_blame_16 rfl (lv_at hl 0 rfl) ?_
      refine va_get (D := G.1) (cl := xCl) (ci := 10) (v := .int (σ.1 51 25)) (C := R_Model) (T := T_Model) (N := 33) hx hb hu fi_Model hown hK hw 51 (x_at (by decide) (xcl_51 G σ)) rfl 25 (by decide) (hu _ mw_1093) (fun _ h9 => h9) rfl d_Model_blame_17 ?_
      refine va_put (D := G.1) (cl := xCl) (ci := 10) (v := .int (σ.1 51 25)) (ty := .int) (C := R_Model) (T := T_Model) (N := 33) hx hb hu fi_Model ty_Model tyok_Model nm_Model hown hK hw (x_D hI _) hS 51 (x_at (by decide) (xcl_51 G σ)) rfl 25 (by decide) (hu _ mw_1093) (fun _ h9 => h9) rfl (tyok_Model 25 (by decide)) rfl rfl (Nat.le_of_ble_eq_true rfl) d_Model_blame_20 (fun H locs hw _ hS => ?_)
      replace hw := x_setR hw (by decide) rfl
      obtain ⟨s20, e20, hE⟩ := x_letE hE
      rw [← e20] at hw
      have e1 := Option.some.inj hE
      exact W.vret hx hb hr (fun t ht hW => ⟨rfl, by rw [ht, ← e1]; exact hw, hS.F ht⟩) hS.2.2 d_Model_blame_23
    · rw [if_pos hc9] at hE
      refine lv_iload_n hx hb d_Model_blame_12 rfl (lv_at hl 2 rfl) ?_
      refine lv_goto (tgt := 20) hx hb d_Model_blame_13 (by decide) ?_
      refine va_put (D := G.1) (cl := xCl) (ci := 10) (v := .int a2) (ty := .int) (C := R_Model) (T := T_Model) (N := 33) hx hb hu fi_Model ty_Model tyok_Model nm_Model hown hK hw (x_D hI _) hS 51 (x_at (by decide) (xcl_51 G σ)) rfl 25 (by decide) (hu _ mw_1093) (fun _ h9 => h9) rfl (tyok_Model 25 (by decide)) rfl rfl (Nat.le_of_ble_eq_true rfl) d_Model_blame_20 (fun H locs hw _ hS => ?_)
      replace hw := x_setR hw (by decide) rfl
      obtain ⟨s20, e20, hE⟩ := x_letE hE
      rw [← e20] at hw
      have e1 := Option.some.inj hE
      exact W.vret hx hb hr (fun t ht hW => ⟨rfl, by rw [ht, ← e1]; exact hw, hS.F ht⟩) hS.2.2 d_Model_blame_23

def y_Model_find : MethodName := ⟨"PlainOriginModel", "find", "(II)I"⟩
def ws_Model_find : List Cond := Cond.code y_Model_find prog_14_method_16_code 4 (some .int) :: UW
theorem hd_Model_find : y_Model_find.cls = R_Model ∧ y_Model_find.cls ≠ "java/lang/invoke/MethodHandle" ∧ y_Model_find.cls ≠ "java/lang/invoke/VarHandle" ∧ (parseMethodDescriptor y_Model_find.desc).map (fun d => d.parameters.length) = some 2 := by decide +kernel
theorem d_Model_find_0 : decode prog_14_method_16_code 0 = .ok (.iload_n 2, 1) := by decide +kernel
theorem d_Model_find_1 : decode prog_14_method_16_code 1 = .ok (.istore_n 3, 1) := by decide +kernel
theorem d_Model_find_2 : decode prog_14_method_16_code 2 = .ok (.iload_n 3, 1) := by decide +kernel
theorem d_Model_find_3 : decode prog_14_method_16_code 3 = .ok (.aload_n 0, 1) := by decide +kernel
theorem d_Model_find_4 : decode prog_14_method_16_code 4 = .ok (.getfield 201, 3) := by decide +kernel
theorem d_Model_find_7 : decode prog_14_method_16_code 7 = .ok (.if_icmp .ge (19), 3) := by decide +kernel
theorem d_Model_find_10 : decode prog_14_method_16_code 10 = .ok (.aload_n 0, 1) := by decide +kernel
theorem d_Model_find_11 : decode prog_14_method_16_code 11 = .ok (.getfield 105, 3) := by decide +kernel
theorem d_Model_find_14 : decode prog_14_method_16_code 14 = .ok (.iload_n 3, 1) := by decide +kernel
theorem d_Model_find_15 : decode prog_14_method_16_code 15 = .ok (.iaload, 1) := by decide +kernel
theorem d_Model_find_16 : decode prog_14_method_16_code 16 = .ok (.iload_n 1, 1) := by decide +kernel
theorem d_Model_find_17 : decode prog_14_method_16_code 17 = .ok (.if_icmp .eq (9), 3) := by decide +kernel
theorem d_Model_find_20 : decode prog_14_method_16_code 20 = .ok (.iinc 3 (1), 3) := by decide +kernel
theorem d_Model_find_23 : decode prog_14_method_16_code 23 = .ok (.goto (-21), 3) := by decide +kernel
theorem d_Model_find_26 : decode prog_14_method_16_code 26 = .ok (.iload_n 3, 1) := by decide +kernel
theorem d_Model_find_27 : decode prog_14_method_16_code 27 = .ok (.ireturn, 1) := by decide +kernel
def x_Model_find_2 (a1 : Int32) (a2 : Int32) (σ : St) : Nat → Int32 → Option Int32
  | 0, _ => none
  | n + 1, l3 => (if (σ.1 51 10) ≤ l3 then some l3 else (if x_in l3 80 then (if (σ.2.1 57 l3.toNatClampNeg) = a1 then some l3 else (x_let (l3 + (1 : Int32)) (fun (v20 : Int32) => x_Model_find_2 a1 a2 σ n v20))) else none))
def x_Model_find (a1 : Int32) (a2 : Int32) (σ : St) : Option Int32 := x_Model_find_2 a1 a2 σ x_fuel a2
abbrev rm_Model_find : Room := { frames := 0, cells := 0, slots := 0, locals := 0 }
set_option maxHeartbeats 4000000 in
set_option maxRecDepth 100000 in
theorem t_Model_find (l : Launch) (G : xG) (σ : St) (a1 : Int32) (a2 : Int32) (r : Int32) (hE : x_Model_find a1 a2 σ = some r) : Met l y_Model_find (ws_Model_find) rm_Model_find (xP G σ [.ref (G.2.1 51), .int a1, .int a2]) (xRd (some (.int r))) 0 0 (fun _ => False) := by
  refine Met.ofW (cc := prog_14_method_16_code) (maxL := 4) (ret := (some .int)) (by decide) rfl ?_
  intro p e s m args below meth c s₁ B hml hv
  obtain ⟨rfl, hw, hC⟩ := hv
  have hx := B.exec
  have hb := B.bytes
  have hr := B.returns
  have hu : ∀ w ∈ UW, w.before _ s = true := fun w h => atoms_spec B.pre w (List.mem_cons_of_mem _ h)
  have hown : s.vm.findClass R_Model = some m.cls := findClass_of_methodNamed B.named
  have hlocks := B.notSynchronized
  have hK := hC.1
  have hI := hC.2.1
  have hG := hC.2.2.1
  have hN := hC.2.2.2
  have hS : va_S (xA G) s.heap s.heap [] := va_S.rf
  have jn2 : ∀ (n : Nat) (ls : Array Slot) (l3 : Int32), x_Model_find_2 a1 a2 σ n l3 = some r → lv_has ls 4 [(0, .ref (G.2.1 51)), (1, .int a1), (2, .int a2), (3, .int l3)] → W p l e (headSpec (ws_Model_find) rm_Model_find).room s m ([.ref (G.2.1 51), .int a1, .int a2] : List Value).toArray below meth c s.heap [] 0 0 (MQ below (xRd (some (.int r))) ([.ref (G.2.1 51), .int a1, .int a2] : List Value).toArray s 0 0 (fun _ => False)) (F0 m 2 ls []) := by
    intro n
    induction n with
    | zero => intro ls l3 hE; rw [x_Model_find_2] at hE; cases hE
    | succ n ih =>
      intro ls l3 hE hl
      rw [x_Model_find_2] at hE
      refine lv_iload_n hx hb d_Model_find_2 rfl (lv_at hl 3 rfl) ?_
      refine lv_aload_n hx hb d_Model_find_3 rfl (lv_at hl 0 rfl) ?_
      refine va_get (D := G.1) (cl := xCl) (ci := 10) (v := .int (σ.1 51 10)) (C := R_Model) (T := T_Model) (N := 33) hx hb hu fi_Model hown hK hw 51 (x_at (by decide) (xcl_51 G σ)) rfl 10 (by decide) (hu _ mw_1078) (fun _ h9 => h9) rfl d_Model_find_4 ?_
      refine lv_icmp_ge (tgt := 26) hx hb d_Model_find_7 (by decide) (fun hc7 => ?_) (fun hc7 => ?_)
      · rw [if_pos hc7] at hE
        refine lv_iload_n hx hb d_Model_find_26 rfl (lv_at hl 3 rfl) ?_
        exact W.iret (v := l3) hx hb hr (fun t ht hW => ⟨by rw [Option.some.inj hE], ht⟩) (fun q h => by cases h) d_Model_find_27
      · rw [if_neg hc7] at hE
        refine lv_aload_n hx hb d_Model_find_10 rfl (lv_at hl 0 rfl) ?_
        refine va_get (D := G.1) (cl := xCl) (ci := 10) (v := .ref (G.2.1 57)) (C := R_Model) (T := T_Model) (N := 33) hx hb hu fi_Model hown hK hw 51 (x_at (by decide) (xcl_51 G σ)) rfl 11 (by decide) (hu _ mw_1079) (fun _ h9 => h9) rfl d_Model_find_11 ?_
        refine lv_iload_n hx hb d_Model_find_14 rfl (lv_at hl 3 rfl) ?_
        obtain ⟨g15, hE⟩ := x_guard hE
        refine va_iald hx hb hK hw 57 0 (x_at (by decide) (xcl_57 G σ)) rfl g15 d_Model_find_15 ?_
        refine lv_iload_n hx hb d_Model_find_16 rfl (lv_at hl 1 rfl) ?_
        refine lv_icmp_eq (tgt := 26) hx hb d_Model_find_17 (by decide) (fun hc17 => ?_) (fun hc17 => ?_)
        · rw [if_pos hc17] at hE
          refine lv_iload_n hx hb d_Model_find_26 rfl (lv_at hl 3 rfl) ?_
          exact W.iret (v := l3) hx hb hr (fun t ht hW => ⟨by rw [Option.some.inj hE], ht⟩) (fun q h => by cases h) d_Model_find_27
        · rw [if_neg hc17] at hE
          obtain ⟨v20, e20, hE⟩ := x_letE hE
          refine lv_iinc hx hb d_Model_find_20 hl (k := 3) rfl (x_inc v20 e20 (by decide)) (by decide) rfl (fun ls hl => ?_)
          have hl : lv_has ls 4 [(3, .int v20), (0, .ref (G.2.1 51)), (1, .int a1), (2, .int a2)] := hl
          refine lv_goto (tgt := 2) hx hb d_Model_find_23 (by decide) ?_
          exact ih _ _ hE (lv_sub hl [1, 2, 3, 0] rfl)
  have hl := lv_entry ([.ref (G.2.1 51), .int a1, .int a2]) (n := 4) (Nat.le_of_ble_eq_true rfl)
  rw [lg_entry_eq]
  generalize (lg_sl ([.ref (G.2.1 51), .int a1, .int a2]) ++ List.replicate (4 - (lg_sl ([.ref (G.2.1 51), .int a1, .int a2])).length) Slot.unset).toArray = ls at hl ⊢
  have hl : lv_has ls 4 [(0, .ref (G.2.1 51)), (1, .int a1), (2, .int a2)] := hl
  unfold x_Model_find at hE
  refine lv_iload_n hx hb d_Model_find_0 rfl (lv_at hl 2 rfl) ?_
  refine lv_istore_n hx hb d_Model_find_1 rfl hl (by decide) rfl (fun ls hl => ?_)
  have hl : lv_has ls 4 [(3, .int a2), (0, .ref (G.2.1 51)), (1, .int a1), (2, .int a2)] := hl
  exact jn2 x_fuel _ _ hE (lv_sub hl [1, 2, 3, 0] rfl)

def y_Model_isToken : MethodName := ⟨"PlainOriginModel", "isToken", "(I)Z"⟩
def ws_Model_isToken : List Cond := Cond.code y_Model_isToken prog_14_method_17_code 4 (some .boolean) :: UW
theorem hd_Model_isToken : y_Model_isToken.cls = R_Model ∧ y_Model_isToken.cls ≠ "java/lang/invoke/MethodHandle" ∧ y_Model_isToken.cls ≠ "java/lang/invoke/VarHandle" ∧ (parseMethodDescriptor y_Model_isToken.desc).map (fun d => d.parameters.length) = some 1 := by decide +kernel
theorem d_Model_isToken_0 : decode prog_14_method_17_code 0 = .ok (.iload_n 1, 1) := by decide +kernel
theorem d_Model_isToken_1 : decode prog_14_method_17_code 1 = .ok (.ifCond .le (7), 3) := by decide +kernel
theorem d_Model_isToken_4 : decode prog_14_method_17_code 4 = .ok (.iconst 1, 1) := by decide +kernel
theorem d_Model_isToken_5 : decode prog_14_method_17_code 5 = .ok (.goto (4), 3) := by decide +kernel
theorem d_Model_isToken_8 : decode prog_14_method_17_code 8 = .ok (.iconst 0, 1) := by decide +kernel
theorem d_Model_isToken_9 : decode prog_14_method_17_code 9 = .ok (.istore_n 2, 1) := by decide +kernel
theorem d_Model_isToken_10 : decode prog_14_method_17_code 10 = .ok (.iconst 0, 1) := by decide +kernel
theorem d_Model_isToken_11 : decode prog_14_method_17_code 11 = .ok (.istore_n 3, 1) := by decide +kernel
theorem d_Model_isToken_12 : decode prog_14_method_17_code 12 = .ok (.iload_n 3, 1) := by decide +kernel
theorem d_Model_isToken_13 : decode prog_14_method_17_code 13 = .ok (.iload_n 1, 1) := by decide +kernel
theorem d_Model_isToken_14 : decode prog_14_method_17_code 14 = .ok (.if_icmp .ge (31), 3) := by decide +kernel
theorem d_Model_isToken_17 : decode prog_14_method_17_code 17 = .ok (.iload_n 2, 1) := by decide +kernel
theorem d_Model_isToken_18 : decode prog_14_method_17_code 18 = .ok (.ifCond .eq (19), 3) := by decide +kernel
theorem d_Model_isToken_21 : decode prog_14_method_17_code 21 = .ok (.aload_n 0, 1) := by decide +kernel
theorem d_Model_isToken_22 : decode prog_14_method_17_code 22 = .ok (.getfield 105, 3) := by decide +kernel
theorem d_Model_isToken_25 : decode prog_14_method_17_code 25 = .ok (.iload_n 3, 1) := by decide +kernel
theorem d_Model_isToken_26 : decode prog_14_method_17_code 26 = .ok (.iaload, 1) := by decide +kernel
theorem d_Model_isToken_27 : decode prog_14_method_17_code 27 = .ok (.invokestatic 216, 3) := by decide +kernel
theorem d_Model_isToken_30 : decode prog_14_method_17_code 30 = .ok (.ifCond .eq (7), 3) := by decide +kernel
theorem d_Model_isToken_33 : decode prog_14_method_17_code 33 = .ok (.iconst 1, 1) := by decide +kernel
theorem d_Model_isToken_34 : decode prog_14_method_17_code 34 = .ok (.goto (4), 3) := by decide +kernel
theorem d_Model_isToken_37 : decode prog_14_method_17_code 37 = .ok (.iconst 0, 1) := by decide +kernel
theorem d_Model_isToken_38 : decode prog_14_method_17_code 38 = .ok (.istore_n 2, 1) := by decide +kernel
theorem d_Model_isToken_39 : decode prog_14_method_17_code 39 = .ok (.iinc 3 (1), 3) := by decide +kernel
theorem d_Model_isToken_42 : decode prog_14_method_17_code 42 = .ok (.goto (-30), 3) := by decide +kernel
theorem d_Model_isToken_45 : decode prog_14_method_17_code 45 = .ok (.iload_n 2, 1) := by decide +kernel
theorem d_Model_isToken_46 : decode prog_14_method_17_code 46 = .ok (.ireturn, 1) := by decide +kernel
def x_Model_isToken_38 (a1 : Int32) (σ : St) (bk12 : Int32 → Int32 → Option Int32) (l3 : Int32) (k0 : Int32) : Option Int32 := (x_let (l3 + (1 : Int32)) (fun (v39 : Int32) => bk12 k0 v39))
def x_Model_isToken_37 (a1 : Int32) (σ : St) (bk12 : Int32 → Int32 → Option Int32) (l3 : Int32) : Option Int32 := x_Model_isToken_38 a1 σ bk12 l3 (0 : Int32)
def x_Model_isToken_12 (a1 : Int32) (σ : St) : Nat → Int32 → Int32 → Option Int32
  | 0, _, _ => none
  | n + 1, l2, l3 => (if a1 ≤ l3 then (if x_bit l2 then some l2 else none) else (if l2 = 0 then x_Model_isToken_37 a1 σ (x_Model_isToken_12 a1 σ n) l3 else (if x_in l3 80 then (Option.bind (x_Model_isTokenByte (σ.2.1 57 l3.toNatClampNeg)) (fun r27 => (if r27 = 0 then x_Model_isToken_37 a1 σ (x_Model_isToken_12 a1 σ n) l3 else x_Model_isToken_38 a1 σ (x_Model_isToken_12 a1 σ n) l3 (1 : Int32)))) else none)))
def x_Model_isToken_9 (a1 : Int32) (σ : St) (k0 : Int32) : Option Int32 := x_Model_isToken_12 a1 σ x_fuel k0 (0 : Int32)
def x_Model_isToken (a1 : Int32) (σ : St) : Option Int32 := (if a1 ≤ 0 then x_Model_isToken_9 a1 σ (0 : Int32) else x_Model_isToken_9 a1 σ (1 : Int32))
abbrev rm_Model_isToken : Room := { frames := 3, cells := 0, slots := 0, locals := 63 }
set_option maxHeartbeats 4000000 in
set_option maxRecDepth 100000 in
theorem t_Model_isToken (l : Launch) (G : xG) (σ : St) (a1 : Int32) (r : Int32) (hE : x_Model_isToken a1 σ = some r) : Met l y_Model_isToken (ws_Model_isToken) rm_Model_isToken (xP G σ [.ref (G.2.1 51), .int a1]) (xRd (some (.int r))) 0 0 (fun _ => False) := by
  refine Met.ofW (cc := prog_14_method_17_code) (maxL := 4) (ret := (some .boolean)) (by decide) rfl ?_
  intro p e s m args below meth c s₁ B hml hv
  obtain ⟨rfl, hw, hC⟩ := hv
  have hx := B.exec
  have hb := B.bytes
  have hr := B.returns
  have hu : ∀ w ∈ UW, w.before _ s = true := fun w h => atoms_spec B.pre w (List.mem_cons_of_mem _ h)
  have hown : s.vm.findClass R_Model = some m.cls := findClass_of_methodNamed B.named
  have hlocks := B.notSynchronized
  have hK := hC.1
  have hI := hC.2.1
  have hG := hC.2.2.1
  have hN := hC.2.2.2
  have hS : va_S (xA G) s.heap s.heap [] := va_S.rf
  have jn38 : ∀ (bk12 : Int32 → Int32 → Option Int32) (hbk12 : ∀ (ls : Array Slot) (l2 : Int32) (l3 : Int32), bk12 l2 l3 = some r → lv_has ls 4 [(0, .ref (G.2.1 51)), (1, .int a1), (2, .int l2), (3, .int l3)] → W p l e (headSpec (ws_Model_isToken) rm_Model_isToken).room s m ([.ref (G.2.1 51), .int a1] : List Value).toArray below meth c s.heap [] 0 0 (MQ below (xRd (some (.int r))) ([.ref (G.2.1 51), .int a1] : List Value).toArray s 0 0 (fun _ => False)) (F0 m 12 ls [])) (ls : Array Slot) (l3 : Int32) (k0 : Int32), x_Model_isToken_38 a1 σ bk12 l3 k0 = some r → lv_has ls 4 [(0, .ref (G.2.1 51)), (1, .int a1), (3, .int l3)] → W p l e (headSpec (ws_Model_isToken) rm_Model_isToken).room s m ([.ref (G.2.1 51), .int a1] : List Value).toArray below meth c s.heap [] 0 0 (MQ below (xRd (some (.int r))) ([.ref (G.2.1 51), .int a1] : List Value).toArray s 0 0 (fun _ => False)) (F0 m 38 ls [.int k0]) := by
    intro bk12 hbk12 ls l3 k0 hE hl
    unfold x_Model_isToken_38 at hE
    refine lv_istore_n hx hb d_Model_isToken_38 rfl hl (by decide) rfl (fun ls hl => ?_)
    have hl : lv_has ls 4 [(2, .int k0), (0, .ref (G.2.1 51)), (1, .int a1), (3, .int l3)] := hl
    obtain ⟨v39, e39, hE⟩ := x_letE hE
    refine lv_iinc hx hb d_Model_isToken_39 hl (k := 3) rfl (x_inc v39 e39 (by decide)) (by decide) rfl (fun ls hl => ?_)
    have hl : lv_has ls 4 [(3, .int v39), (2, .int k0), (0, .ref (G.2.1 51)), (1, .int a1)] := hl
    refine lv_goto (tgt := 12) hx hb d_Model_isToken_42 (by decide) ?_
    exact hbk12 _ _ _ hE (lv_sub hl [2, 3, 1, 0] rfl)
  have jn37 : ∀ (bk12 : Int32 → Int32 → Option Int32) (hbk12 : ∀ (ls : Array Slot) (l2 : Int32) (l3 : Int32), bk12 l2 l3 = some r → lv_has ls 4 [(0, .ref (G.2.1 51)), (1, .int a1), (2, .int l2), (3, .int l3)] → W p l e (headSpec (ws_Model_isToken) rm_Model_isToken).room s m ([.ref (G.2.1 51), .int a1] : List Value).toArray below meth c s.heap [] 0 0 (MQ below (xRd (some (.int r))) ([.ref (G.2.1 51), .int a1] : List Value).toArray s 0 0 (fun _ => False)) (F0 m 12 ls [])) (ls : Array Slot) (l3 : Int32), x_Model_isToken_37 a1 σ bk12 l3 = some r → lv_has ls 4 [(0, .ref (G.2.1 51)), (1, .int a1), (3, .int l3)] → W p l e (headSpec (ws_Model_isToken) rm_Model_isToken).room s m ([.ref (G.2.1 51), .int a1] : List Value).toArray below meth c s.heap [] 0 0 (MQ below (xRd (some (.int r))) ([.ref (G.2.1 51), .int a1] : List Value).toArray s 0 0 (fun _ => False)) (F0 m 37 ls []) := by
    intro bk12 hbk12 ls l3 hE hl
    unfold x_Model_isToken_37 at hE
    refine lv_iconst (v := (0 : Int32)) hx hb d_Model_isToken_37 (by decide) ?_
    exact jn38 _ hbk12 _ _ _ hE (lv_sub hl [0, 1, 2] rfl)
  have jn12 : ∀ (n : Nat) (ls : Array Slot) (l2 : Int32) (l3 : Int32), x_Model_isToken_12 a1 σ n l2 l3 = some r → lv_has ls 4 [(0, .ref (G.2.1 51)), (1, .int a1), (2, .int l2), (3, .int l3)] → W p l e (headSpec (ws_Model_isToken) rm_Model_isToken).room s m ([.ref (G.2.1 51), .int a1] : List Value).toArray below meth c s.heap [] 0 0 (MQ below (xRd (some (.int r))) ([.ref (G.2.1 51), .int a1] : List Value).toArray s 0 0 (fun _ => False)) (F0 m 12 ls []) := by
    intro n
    induction n with
    | zero => intro ls l2 l3 hE; rw [x_Model_isToken_12] at hE; cases hE
    | succ n ih =>
      intro ls l2 l3 hE hl
      rw [x_Model_isToken_12] at hE
      refine lv_iload_n hx hb d_Model_isToken_12 rfl (lv_at hl 3 rfl) ?_
      refine lv_iload_n hx hb d_Model_isToken_13 rfl (lv_at hl 1 rfl) ?_
      refine lv_icmp_ge (tgt := 45) hx hb d_Model_isToken_14 (by decide) (fun hc14 => ?_) (fun hc14 => ?_)
      · rw [if_pos hc14] at hE
        refine lv_iload_n hx hb d_Model_isToken_45 rfl (lv_at hl 2 rfl) ?_
        obtain ⟨g46, hE⟩ := x_guard hE
        exact W.zret (v := l2) hx hb hr (x_nz g46) (fun t ht hW => ⟨by rw [Option.some.inj hE], ht⟩) (fun q h => by cases h) d_Model_isToken_46
      · rw [if_neg hc14] at hE
        refine lv_iload_n hx hb d_Model_isToken_17 rfl (lv_at hl 2 rfl) ?_
        refine lv_if_eq (tgt := 37) hx hb d_Model_isToken_18 (by decide) (fun hc18 => ?_) (fun hc18 => ?_)
        · rw [if_pos hc18] at hE
          exact jn37 _ ih _ _ hE (lv_sub hl [0, 1, 3] rfl)
        · rw [if_neg hc18] at hE
          refine lv_aload_n hx hb d_Model_isToken_21 rfl (lv_at hl 0 rfl) ?_
          refine va_get (D := G.1) (cl := xCl) (ci := 10) (v := .ref (G.2.1 57)) (C := R_Model) (T := T_Model) (N := 33) hx hb hu fi_Model hown hK hw 51 (x_at (by decide) (xcl_51 G σ)) rfl 11 (by decide) (hu _ mw_1079) (fun _ h9 => h9) rfl d_Model_isToken_22 ?_
          refine lv_iload_n hx hb d_Model_isToken_25 rfl (lv_at hl 3 rfl) ?_
          obtain ⟨g26, hE⟩ := x_guard hE
          refine va_iald hx hb hK hw 57 0 (x_at (by decide) (xcl_57 G σ)) rfl g26 d_Model_isToken_26 ?_
          obtain ⟨r27, hC27, hE⟩ := x_bind hE
          refine x_callR (W.runS (As := [.int (σ.2.1 57 l3.toNatClampNeg)]) (rest := []) ⟨hx, hb, hml, hown, hu⟩ (t_Model_isTokenByte l G σ (σ.2.1 57 l3.toNatClampNeg) r27 hC27) (va_cwS 1 hu (uw_S mw_1299 mw_1300 mw_70 mw_1301) rfl rfl rfl hd_Model_isTokenByte ⟨Nat.le_of_ble_eq_true rfl, Nat.le_of_ble_eq_true rfl⟩) (x_preS hC hS hw) rfl rfl hl.1 rfl (lv_room (Nat.le_of_ble_eq_true rfl)) d_Model_isToken_27 ⟨Nat.le_of_ble_eq_true rfl, Nat.le_of_ble_eq_true rfl⟩) ?_
          refine lv_if_eq (tgt := 37) hx hb d_Model_isToken_30 (by decide) (fun hc30 => ?_) (fun hc30 => ?_)
          · rw [if_pos hc30] at hE
            exact jn37 _ ih _ _ hE (lv_sub hl [0, 1, 3] rfl)
          · rw [if_neg hc30] at hE
            refine lv_iconst (v := (1 : Int32)) hx hb d_Model_isToken_33 (by decide) ?_
            refine lv_goto (tgt := 38) hx hb d_Model_isToken_34 (by decide) ?_
            exact jn38 _ ih _ _ _ hE (lv_sub hl [0, 1, 3] rfl)
  have jn9 : ∀ (ls : Array Slot) (k0 : Int32), x_Model_isToken_9 a1 σ k0 = some r → lv_has ls 4 [(0, .ref (G.2.1 51)), (1, .int a1)] → W p l e (headSpec (ws_Model_isToken) rm_Model_isToken).room s m ([.ref (G.2.1 51), .int a1] : List Value).toArray below meth c s.heap [] 0 0 (MQ below (xRd (some (.int r))) ([.ref (G.2.1 51), .int a1] : List Value).toArray s 0 0 (fun _ => False)) (F0 m 9 ls [.int k0]) := by
    intro ls k0 hE hl
    unfold x_Model_isToken_9 at hE
    refine lv_istore_n hx hb d_Model_isToken_9 rfl hl (by decide) rfl (fun ls hl => ?_)
    have hl : lv_has ls 4 [(2, .int k0), (0, .ref (G.2.1 51)), (1, .int a1)] := hl
    refine lv_iconst (v := (0 : Int32)) hx hb d_Model_isToken_10 (by decide) ?_
    refine lv_istore_n hx hb d_Model_isToken_11 rfl hl (by decide) rfl (fun ls hl => ?_)
    have hl : lv_has ls 4 [(3, .int (0 : Int32)), (2, .int k0), (0, .ref (G.2.1 51)), (1, .int a1)] := hl
    exact jn12 x_fuel _ _ _ hE (lv_sub hl [2, 3, 1, 0] rfl)
  have hl := lv_entry ([.ref (G.2.1 51), .int a1]) (n := 4) (Nat.le_of_ble_eq_true rfl)
  rw [lg_entry_eq]
  generalize (lg_sl ([.ref (G.2.1 51), .int a1]) ++ List.replicate (4 - (lg_sl ([.ref (G.2.1 51), .int a1])).length) Slot.unset).toArray = ls at hl ⊢
  have hl : lv_has ls 4 [(0, .ref (G.2.1 51)), (1, .int a1)] := hl
  unfold x_Model_isToken at hE
  refine lv_iload_n hx hb d_Model_isToken_0 rfl (lv_at hl 1 rfl) ?_
  refine lv_if_le (tgt := 8) hx hb d_Model_isToken_1 (by decide) (fun hc1 => ?_) (fun hc1 => ?_)
  · rw [if_pos hc1] at hE
    refine lv_iconst (v := (0 : Int32)) hx hb d_Model_isToken_8 (by decide) ?_
    exact jn9 _ _ hE (lv_sub hl [0, 1] rfl)
  · rw [if_neg hc1] at hE
    refine lv_iconst (v := (1 : Int32)) hx hb d_Model_isToken_4 (by decide) ?_
    refine lv_goto (tgt := 9) hx hb d_Model_isToken_5 (by decide) ?_
    exact jn9 _ _ hE (lv_sub hl [0, 1] rfl)

def y_Model_isTarget : MethodName := ⟨"PlainOriginModel", "isTarget", "(II)Z"⟩
def ws_Model_isTarget : List Cond := Cond.code y_Model_isTarget prog_14_method_18_code 6 (some .boolean) :: UW
theorem hd_Model_isTarget : y_Model_isTarget.cls = R_Model ∧ y_Model_isTarget.cls ≠ "java/lang/invoke/MethodHandle" ∧ y_Model_isTarget.cls ≠ "java/lang/invoke/VarHandle" ∧ (parseMethodDescriptor y_Model_isTarget.desc).map (fun d => d.parameters.length) = some 2 := by decide +kernel
theorem d_Model_isTarget_0 : decode prog_14_method_18_code 0 = .ok (.iload_n 2, 1) := by decide +kernel
theorem d_Model_isTarget_1 : decode prog_14_method_18_code 1 = .ok (.iload_n 1, 1) := by decide +kernel
theorem d_Model_isTarget_2 : decode prog_14_method_18_code 2 = .ok (.if_icmp .le (7), 3) := by decide +kernel
theorem d_Model_isTarget_5 : decode prog_14_method_18_code 5 = .ok (.iconst 1, 1) := by decide +kernel
theorem d_Model_isTarget_6 : decode prog_14_method_18_code 6 = .ok (.goto (4), 3) := by decide +kernel
theorem d_Model_isTarget_9 : decode prog_14_method_18_code 9 = .ok (.iconst 0, 1) := by decide +kernel
theorem d_Model_isTarget_10 : decode prog_14_method_18_code 10 = .ok (.istore_n 3, 1) := by decide +kernel
theorem d_Model_isTarget_11 : decode prog_14_method_18_code 11 = .ok (.iload_n 1, 1) := by decide +kernel
theorem d_Model_isTarget_12 : decode prog_14_method_18_code 12 = .ok (.istore 4, 2) := by decide +kernel
theorem d_Model_isTarget_14 : decode prog_14_method_18_code 14 = .ok (.iload 4, 2) := by decide +kernel
theorem d_Model_isTarget_16 : decode prog_14_method_18_code 16 = .ok (.iload_n 2, 1) := by decide +kernel
theorem d_Model_isTarget_17 : decode prog_14_method_18_code 17 = .ok (.if_icmp .ge (94), 3) := by decide +kernel
theorem d_Model_isTarget_20 : decode prog_14_method_18_code 20 = .ok (.aload_n 0, 1) := by decide +kernel
theorem d_Model_isTarget_21 : decode prog_14_method_18_code 21 = .ok (.getfield 105, 3) := by decide +kernel
theorem d_Model_isTarget_24 : decode prog_14_method_18_code 24 = .ok (.iload 4, 2) := by decide +kernel
theorem d_Model_isTarget_26 : decode prog_14_method_18_code 26 = .ok (.iaload, 1) := by decide +kernel
theorem d_Model_isTarget_27 : decode prog_14_method_18_code 27 = .ok (.bipush (37), 2) := by decide +kernel
theorem d_Model_isTarget_29 : decode prog_14_method_18_code 29 = .ok (.if_icmp .ne (45), 3) := by decide +kernel
theorem d_Model_isTarget_32 : decode prog_14_method_18_code 32 = .ok (.iload 4, 2) := by decide +kernel
theorem d_Model_isTarget_34 : decode prog_14_method_18_code 34 = .ok (.iconst 2, 1) := by decide +kernel
theorem d_Model_isTarget_35 : decode prog_14_method_18_code 35 = .ok (.iadd, 1) := by decide +kernel
theorem d_Model_isTarget_36 : decode prog_14_method_18_code 36 = .ok (.iload_n 2, 1) := by decide +kernel
theorem d_Model_isTarget_37 : decode prog_14_method_18_code 37 = .ok (.if_icmp .ge (37), 3) := by decide +kernel
theorem d_Model_isTarget_40 : decode prog_14_method_18_code 40 = .ok (.aload_n 0, 1) := by decide +kernel
theorem d_Model_isTarget_41 : decode prog_14_method_18_code 41 = .ok (.getfield 105, 3) := by decide +kernel
theorem d_Model_isTarget_44 : decode prog_14_method_18_code 44 = .ok (.iload 4, 2) := by decide +kernel
theorem d_Model_isTarget_46 : decode prog_14_method_18_code 46 = .ok (.iconst 1, 1) := by decide +kernel
theorem d_Model_isTarget_47 : decode prog_14_method_18_code 47 = .ok (.iadd, 1) := by decide +kernel
theorem d_Model_isTarget_48 : decode prog_14_method_18_code 48 = .ok (.iaload, 1) := by decide +kernel
theorem d_Model_isTarget_49 : decode prog_14_method_18_code 49 = .ok (.invokestatic 219, 3) := by decide +kernel
theorem d_Model_isTarget_52 : decode prog_14_method_18_code 52 = .ok (.ifCond .lt (22), 3) := by decide +kernel
theorem d_Model_isTarget_55 : decode prog_14_method_18_code 55 = .ok (.aload_n 0, 1) := by decide +kernel
theorem d_Model_isTarget_56 : decode prog_14_method_18_code 56 = .ok (.getfield 105, 3) := by decide +kernel
theorem d_Model_isTarget_59 : decode prog_14_method_18_code 59 = .ok (.iload 4, 2) := by decide +kernel
theorem d_Model_isTarget_61 : decode prog_14_method_18_code 61 = .ok (.iconst 2, 1) := by decide +kernel
theorem d_Model_isTarget_62 : decode prog_14_method_18_code 62 = .ok (.iadd, 1) := by decide +kernel
theorem d_Model_isTarget_63 : decode prog_14_method_18_code 63 = .ok (.iaload, 1) := by decide +kernel
theorem d_Model_isTarget_64 : decode prog_14_method_18_code 64 = .ok (.invokestatic 219, 3) := by decide +kernel
theorem d_Model_isTarget_67 : decode prog_14_method_18_code 67 = .ok (.ifCond .lt (7), 3) := by decide +kernel
theorem d_Model_isTarget_70 : decode prog_14_method_18_code 70 = .ok (.iconst 1, 1) := by decide +kernel
theorem d_Model_isTarget_71 : decode prog_14_method_18_code 71 = .ok (.goto (4), 3) := by decide +kernel
theorem d_Model_isTarget_74 : decode prog_14_method_18_code 74 = .ok (.iconst 0, 1) := by decide +kernel
theorem d_Model_isTarget_75 : decode prog_14_method_18_code 75 = .ok (.istore 5, 2) := by decide +kernel
theorem d_Model_isTarget_77 : decode prog_14_method_18_code 77 = .ok (.iload_n 3, 1) := by decide +kernel
theorem d_Model_isTarget_78 : decode prog_14_method_18_code 78 = .ok (.ifCond .eq (25), 3) := by decide +kernel
theorem d_Model_isTarget_81 : decode prog_14_method_18_code 81 = .ok (.iload 5, 2) := by decide +kernel
theorem d_Model_isTarget_83 : decode prog_14_method_18_code 83 = .ok (.ifCond .ne (16), 3) := by decide +kernel
theorem d_Model_isTarget_86 : decode prog_14_method_18_code 86 = .ok (.aload_n 0, 1) := by decide +kernel
theorem d_Model_isTarget_87 : decode prog_14_method_18_code 87 = .ok (.getfield 105, 3) := by decide +kernel
theorem d_Model_isTarget_90 : decode prog_14_method_18_code 90 = .ok (.iload 4, 2) := by decide +kernel
theorem d_Model_isTarget_92 : decode prog_14_method_18_code 92 = .ok (.iaload, 1) := by decide +kernel
theorem d_Model_isTarget_93 : decode prog_14_method_18_code 93 = .ok (.invokestatic 222, 3) := by decide +kernel
theorem d_Model_isTarget_96 : decode prog_14_method_18_code 96 = .ok (.ifCond .eq (7), 3) := by decide +kernel
theorem d_Model_isTarget_99 : decode prog_14_method_18_code 99 = .ok (.iconst 1, 1) := by decide +kernel
theorem d_Model_isTarget_100 : decode prog_14_method_18_code 100 = .ok (.goto (4), 3) := by decide +kernel
theorem d_Model_isTarget_103 : decode prog_14_method_18_code 103 = .ok (.iconst 0, 1) := by decide +kernel
theorem d_Model_isTarget_104 : decode prog_14_method_18_code 104 = .ok (.istore_n 3, 1) := by decide +kernel
theorem d_Model_isTarget_105 : decode prog_14_method_18_code 105 = .ok (.iinc 4 (1), 3) := by decide +kernel
theorem d_Model_isTarget_108 : decode prog_14_method_18_code 108 = .ok (.goto (-94), 3) := by decide +kernel
theorem d_Model_isTarget_111 : decode prog_14_method_18_code 111 = .ok (.iload_n 3, 1) := by decide +kernel
theorem d_Model_isTarget_112 : decode prog_14_method_18_code 112 = .ok (.ireturn, 1) := by decide +kernel
def x_Model_isTarget_104 (a1 : Int32) (a2 : Int32) (σ : St) (bk14 : Int32 → Int32 → Option Int32) (l4 : Int32) (k0 : Int32) : Option Int32 := (x_let (l4 + (1 : Int32)) (fun (v105 : Int32) => bk14 k0 v105))
def x_Model_isTarget_103 (a1 : Int32) (a2 : Int32) (σ : St) (bk14 : Int32 → Int32 → Option Int32) (l4 : Int32) : Option Int32 := x_Model_isTarget_104 a1 a2 σ bk14 l4 (0 : Int32)
def x_Model_isTarget_99 (a1 : Int32) (a2 : Int32) (σ : St) (bk14 : Int32 → Int32 → Option Int32) (l4 : Int32) : Option Int32 := x_Model_isTarget_104 a1 a2 σ bk14 l4 (1 : Int32)
def x_Model_isTarget_75 (a1 : Int32) (a2 : Int32) (σ : St) (bk14 : Int32 → Int32 → Option Int32) (l3 : Int32) (l4 : Int32) (k0 : Int32) : Option Int32 := (if l3 = 0 then x_Model_isTarget_103 a1 a2 σ bk14 l4 else (if k0 = 0 then (if x_in l4 80 then (Option.bind (x_Model_isTargetByte (σ.2.1 57 l4.toNatClampNeg)) (fun r93 => (if r93 = 0 then x_Model_isTarget_103 a1 a2 σ bk14 l4 else x_Model_isTarget_99 a1 a2 σ bk14 l4))) else none) else x_Model_isTarget_99 a1 a2 σ bk14 l4))
def x_Model_isTarget_74 (a1 : Int32) (a2 : Int32) (σ : St) (bk14 : Int32 → Int32 → Option Int32) (l3 : Int32) (l4 : Int32) : Option Int32 := x_Model_isTarget_75 a1 a2 σ bk14 l3 l4 (0 : Int32)
def x_Model_isTarget_14 (a1 : Int32) (a2 : Int32) (σ : St) : Nat → Int32 → Int32 → Option Int32
  | 0, _, _ => none
  | n + 1, l3, l4 => (if a2 ≤ l4 then (if x_bit l3 then some l3 else none) else (if x_in l4 80 then (if (σ.2.1 57 l4.toNatClampNeg) = (37 : Int32) then (if a2 ≤ (l4 + (2 : Int32)) then x_Model_isTarget_74 a1 a2 σ (x_Model_isTarget_14 a1 a2 σ n) l3 l4 else (if x_in (l4 + (1 : Int32)) 80 then (Option.bind (x_Model_hexOf (σ.2.1 57 (l4 + (1 : Int32)).toNatClampNeg)) (fun r49 => (if r49 < 0 then x_Model_isTarget_74 a1 a2 σ (x_Model_isTarget_14 a1 a2 σ n) l3 l4 else (if x_in (l4 + (2 : Int32)) 80 then (Option.bind (x_Model_hexOf (σ.2.1 57 (l4 + (2 : Int32)).toNatClampNeg)) (fun r64 => (if r64 < 0 then x_Model_isTarget_74 a1 a2 σ (x_Model_isTarget_14 a1 a2 σ n) l3 l4 else x_Model_isTarget_75 a1 a2 σ (x_Model_isTarget_14 a1 a2 σ n) l3 l4 (1 : Int32)))) else none)))) else none)) else x_Model_isTarget_74 a1 a2 σ (x_Model_isTarget_14 a1 a2 σ n) l3 l4) else none))
def x_Model_isTarget_10 (a1 : Int32) (a2 : Int32) (σ : St) (k0 : Int32) : Option Int32 := x_Model_isTarget_14 a1 a2 σ x_fuel k0 a1
def x_Model_isTarget (a1 : Int32) (a2 : Int32) (σ : St) : Option Int32 := (if a2 ≤ a1 then x_Model_isTarget_10 a1 a2 σ (0 : Int32) else x_Model_isTarget_10 a1 a2 σ (1 : Int32))
abbrev rm_Model_isTarget : Room := { frames := 3, cells := 0, slots := 0, locals := 63 }
set_option maxHeartbeats 4000000 in
set_option maxRecDepth 100000 in
theorem t_Model_isTarget (l : Launch) (G : xG) (σ : St) (a1 : Int32) (a2 : Int32) (r : Int32) (hE : x_Model_isTarget a1 a2 σ = some r) : Met l y_Model_isTarget (ws_Model_isTarget) rm_Model_isTarget (xP G σ [.ref (G.2.1 51), .int a1, .int a2]) (xRd (some (.int r))) 0 0 (fun _ => False) := by
  refine Met.ofW (cc := prog_14_method_18_code) (maxL := 6) (ret := (some .boolean)) (by decide) rfl ?_
  intro p e s m args below meth c s₁ B hml hv
  obtain ⟨rfl, hw, hC⟩ := hv
  have hx := B.exec
  have hb := B.bytes
  have hr := B.returns
  have hu : ∀ w ∈ UW, w.before _ s = true := fun w h => atoms_spec B.pre w (List.mem_cons_of_mem _ h)
  have hown : s.vm.findClass R_Model = some m.cls := findClass_of_methodNamed B.named
  have hlocks := B.notSynchronized
  have hK := hC.1
  have hI := hC.2.1
  have hG := hC.2.2.1
  have hN := hC.2.2.2
  have hS : va_S (xA G) s.heap s.heap [] := va_S.rf
  have jn104 : ∀ (bk14 : Int32 → Int32 → Option Int32) (hbk14 : ∀ (ls : Array Slot) (l3 : Int32) (l4 : Int32), bk14 l3 l4 = some r → lv_has ls 6 [(0, .ref (G.2.1 51)), (1, .int a1), (2, .int a2), (3, .int l3), (4, .int l4)] → W p l e (headSpec (ws_Model_isTarget) rm_Model_isTarget).room s m ([.ref (G.2.1 51), .int a1, .int a2] : List Value).toArray below meth c s.heap [] 0 0 (MQ below (xRd (some (.int r))) ([.ref (G.2.1 51), .int a1, .int a2] : List Value).toArray s 0 0 (fun _ => False)) (F0 m 14 ls [])) (ls : Array Slot) (l4 : Int32) (k0 : Int32), x_Model_isTarget_104 a1 a2 σ bk14 l4 k0 = some r → lv_has ls 6 [(0, .ref (G.2.1 51)), (1, .int a1), (2, .int a2), (4, .int l4)] → W p l e (headSpec (ws_Model_isTarget) rm_Model_isTarget).room s m ([.ref (G.2.1 51), .int a1, .int a2] : List Value).toArray below meth c s.heap [] 0 0 (MQ below (xRd (some (.int r))) ([.ref (G.2.1 51), .int a1, .int a2] : List Value).toArray s 0 0 (fun _ => False)) (F0 m 104 ls [.int k0]) := by
    intro bk14 hbk14 ls l4 k0 hE hl
    unfold x_Model_isTarget_104 at hE
    refine lv_istore_n hx hb d_Model_isTarget_104 rfl hl (by decide) rfl (fun ls hl => ?_)
    have hl : lv_has ls 6 [(3, .int k0), (0, .ref (G.2.1 51)), (1, .int a1), (2, .int a2), (4, .int l4)] := hl
    obtain ⟨v105, e105, hE⟩ := x_letE hE
    refine lv_iinc hx hb d_Model_isTarget_105 hl (k := 4) rfl (x_inc v105 e105 (by decide)) (by decide) rfl (fun ls hl => ?_)
    have hl : lv_has ls 6 [(4, .int v105), (3, .int k0), (0, .ref (G.2.1 51)), (1, .int a1), (2, .int a2)] := hl
    refine lv_goto (tgt := 14) hx hb d_Model_isTarget_108 (by decide) ?_
    exact hbk14 _ _ _ hE (lv_sub hl [2, 3, 4, 1, 0] rfl)
  have jn103 : ∀ (bk14 : Int32 → Int32 → Option Int32) (hbk14 : ∀ (ls : Array Slot) (l3 : Int32) (l4 : Int32), bk14 l3 l4 = some r → lv_has ls 6 [(0, .ref (G.2.1 51)), (1, .int a1), (2, .int a2), (3, .int l3), (4, .int l4)] → W p l e (headSpec (ws_Model_isTarget) rm_Model_isTarget).room s m ([.ref (G.2.1 51), .int a1, .int a2] : List Value).toArray below meth c s.heap [] 0 0 (MQ below (xRd (some (.int r))) ([.ref (G.2.1 51), .int a1, .int a2] : List Value).toArray s 0 0 (fun _ => False)) (F0 m 14 ls [])) (ls : Array Slot) (l4 : Int32), x_Model_isTarget_103 a1 a2 σ bk14 l4 = some r → lv_has ls 6 [(0, .ref (G.2.1 51)), (1, .int a1), (2, .int a2), (4, .int l4)] → W p l e (headSpec (ws_Model_isTarget) rm_Model_isTarget).room s m ([.ref (G.2.1 51), .int a1, .int a2] : List Value).toArray below meth c s.heap [] 0 0 (MQ below (xRd (some (.int r))) ([.ref (G.2.1 51), .int a1, .int a2] : List Value).toArray s 0 0 (fun _ => False)) (F0 m 103 ls []) := by
    intro bk14 hbk14 ls l4 hE hl
    unfold x_Model_isTarget_103 at hE
    refine lv_iconst (v := (0 : Int32)) hx hb d_Model_isTarget_103 (by decide) ?_
    exact jn104 _ hbk14 _ _ _ hE (lv_sub hl [0, 1, 2, 3] rfl)
  have jn99 : ∀ (bk14 : Int32 → Int32 → Option Int32) (hbk14 : ∀ (ls : Array Slot) (l3 : Int32) (l4 : Int32), bk14 l3 l4 = some r → lv_has ls 6 [(0, .ref (G.2.1 51)), (1, .int a1), (2, .int a2), (3, .int l3), (4, .int l4)] → W p l e (headSpec (ws_Model_isTarget) rm_Model_isTarget).room s m ([.ref (G.2.1 51), .int a1, .int a2] : List Value).toArray below meth c s.heap [] 0 0 (MQ below (xRd (some (.int r))) ([.ref (G.2.1 51), .int a1, .int a2] : List Value).toArray s 0 0 (fun _ => False)) (F0 m 14 ls [])) (ls : Array Slot) (l4 : Int32), x_Model_isTarget_99 a1 a2 σ bk14 l4 = some r → lv_has ls 6 [(0, .ref (G.2.1 51)), (1, .int a1), (2, .int a2), (4, .int l4)] → W p l e (headSpec (ws_Model_isTarget) rm_Model_isTarget).room s m ([.ref (G.2.1 51), .int a1, .int a2] : List Value).toArray below meth c s.heap [] 0 0 (MQ below (xRd (some (.int r))) ([.ref (G.2.1 51), .int a1, .int a2] : List Value).toArray s 0 0 (fun _ => False)) (F0 m 99 ls []) := by
    intro bk14 hbk14 ls l4 hE hl
    unfold x_Model_isTarget_99 at hE
    refine lv_iconst (v := (1 : Int32)) hx hb d_Model_isTarget_99 (by decide) ?_
    refine lv_goto (tgt := 104) hx hb d_Model_isTarget_100 (by decide) ?_
    exact jn104 _ hbk14 _ _ _ hE (lv_sub hl [0, 1, 2, 3] rfl)
  have jn75 : ∀ (bk14 : Int32 → Int32 → Option Int32) (hbk14 : ∀ (ls : Array Slot) (l3 : Int32) (l4 : Int32), bk14 l3 l4 = some r → lv_has ls 6 [(0, .ref (G.2.1 51)), (1, .int a1), (2, .int a2), (3, .int l3), (4, .int l4)] → W p l e (headSpec (ws_Model_isTarget) rm_Model_isTarget).room s m ([.ref (G.2.1 51), .int a1, .int a2] : List Value).toArray below meth c s.heap [] 0 0 (MQ below (xRd (some (.int r))) ([.ref (G.2.1 51), .int a1, .int a2] : List Value).toArray s 0 0 (fun _ => False)) (F0 m 14 ls [])) (ls : Array Slot) (l3 : Int32) (l4 : Int32) (k0 : Int32), x_Model_isTarget_75 a1 a2 σ bk14 l3 l4 k0 = some r → lv_has ls 6 [(0, .ref (G.2.1 51)), (1, .int a1), (2, .int a2), (3, .int l3), (4, .int l4)] → W p l e (headSpec (ws_Model_isTarget) rm_Model_isTarget).room s m ([.ref (G.2.1 51), .int a1, .int a2] : List Value).toArray below meth c s.heap [] 0 0 (MQ below (xRd (some (.int r))) ([.ref (G.2.1 51), .int a1, .int a2] : List Value).toArray s 0 0 (fun _ => False)) (F0 m 75 ls [.int k0]) := by
    intro bk14 hbk14 ls l3 l4 k0 hE hl
    unfold x_Model_isTarget_75 at hE
    refine lv_istore hx hb d_Model_isTarget_75 hl (by decide) rfl (fun ls hl => ?_)
    have hl : lv_has ls 6 [(5, .int k0), (0, .ref (G.2.1 51)), (1, .int a1), (2, .int a2), (3, .int l3), (4, .int l4)] := hl
    refine lv_iload_n hx hb d_Model_isTarget_77 rfl (lv_at hl 4 rfl) ?_
    refine lv_if_eq (tgt := 103) hx hb d_Model_isTarget_78 (by decide) (fun hc78 => ?_) (fun hc78 => ?_)
    · rw [if_pos hc78] at hE
      exact jn103 _ hbk14 _ _ hE (lv_sub hl [1, 2, 3, 5] rfl)
    · rw [if_neg hc78] at hE
      refine lv_iload hx hb d_Model_isTarget_81 (lv_at hl 0 rfl) ?_
      refine lv_if_ne (tgt := 99) hx hb d_Model_isTarget_83 (by decide) (fun hc83 => ?_) (fun hc83 => ?_)
      · rw [if_neg hc83] at hE
        exact jn99 _ hbk14 _ _ hE (lv_sub hl [1, 2, 3, 5] rfl)
      · rw [if_pos hc83] at hE
        refine lv_aload_n hx hb d_Model_isTarget_86 rfl (lv_at hl 1 rfl) ?_
        refine va_get (D := G.1) (cl := xCl) (ci := 10) (v := .ref (G.2.1 57)) (C := R_Model) (T := T_Model) (N := 33) hx hb hu fi_Model hown hK hw 51 (x_at (by decide) (xcl_51 G σ)) rfl 11 (by decide) (hu _ mw_1079) (fun _ h9 => h9) rfl d_Model_isTarget_87 ?_
        refine lv_iload hx hb d_Model_isTarget_90 (lv_at hl 5 rfl) ?_
        obtain ⟨g92, hE⟩ := x_guard hE
        refine va_iald hx hb hK hw 57 0 (x_at (by decide) (xcl_57 G σ)) rfl g92 d_Model_isTarget_92 ?_
        obtain ⟨r93, hC93, hE⟩ := x_bind hE
        refine x_callR (W.runS (As := [.int (σ.2.1 57 l4.toNatClampNeg)]) (rest := []) ⟨hx, hb, hml, hown, hu⟩ (t_Model_isTargetByte l G σ (σ.2.1 57 l4.toNatClampNeg) r93 hC93) (va_cwS 1 hu (uw_S mw_1309 mw_1310 mw_70 mw_1311) rfl rfl rfl hd_Model_isTargetByte ⟨Nat.le_of_ble_eq_true rfl, Nat.le_of_ble_eq_true rfl⟩) (x_preS hC hS hw) rfl rfl hl.1 rfl (lv_room (Nat.le_of_ble_eq_true rfl)) d_Model_isTarget_93 ⟨Nat.le_of_ble_eq_true rfl, Nat.le_of_ble_eq_true rfl⟩) ?_
        refine lv_if_eq (tgt := 103) hx hb d_Model_isTarget_96 (by decide) (fun hc96 => ?_) (fun hc96 => ?_)
        · rw [if_pos hc96] at hE
          exact jn103 _ hbk14 _ _ hE (lv_sub hl [1, 2, 3, 5] rfl)
        · rw [if_neg hc96] at hE
          exact jn99 _ hbk14 _ _ hE (lv_sub hl [1, 2, 3, 5] rfl)
  have jn74 : ∀ (bk14 : Int32 → Int32 → Option Int32) (hbk14 : ∀ (ls : Array Slot) (l3 : Int32) (l4 : Int32), bk14 l3 l4 = some r → lv_has ls 6 [(0, .ref (G.2.1 51)), (1, .int a1), (2, .int a2), (3, .int l3), (4, .int l4)] → W p l e (headSpec (ws_Model_isTarget) rm_Model_isTarget).room s m ([.ref (G.2.1 51), .int a1, .int a2] : List Value).toArray below meth c s.heap [] 0 0 (MQ below (xRd (some (.int r))) ([.ref (G.2.1 51), .int a1, .int a2] : List Value).toArray s 0 0 (fun _ => False)) (F0 m 14 ls [])) (ls : Array Slot) (l3 : Int32) (l4 : Int32), x_Model_isTarget_74 a1 a2 σ bk14 l3 l4 = some r → lv_has ls 6 [(0, .ref (G.2.1 51)), (1, .int a1), (2, .int a2), (3, .int l3), (4, .int l4)] → W p l e (headSpec (ws_Model_isTarget) rm_Model_isTarget).room s m ([.ref (G.2.1 51), .int a1, .int a2] : List Value).toArray below meth c s.heap [] 0 0 (MQ below (xRd (some (.int r))) ([.ref (G.2.1 51), .int a1, .int a2] : List Value).toArray s 0 0 (fun _ => False)) (F0 m 74 ls []) := by
    intro bk14 hbk14 ls l3 l4 hE hl
    unfold x_Model_isTarget_74 at hE
    refine lv_iconst (v := (0 : Int32)) hx hb d_Model_isTarget_74 (by decide) ?_
    exact jn75 _ hbk14 _ _ _ _ hE (lv_sub hl [0, 1, 2, 3, 4] rfl)
  have jn14 : ∀ (n : Nat) (ls : Array Slot) (l3 : Int32) (l4 : Int32), x_Model_isTarget_14 a1 a2 σ n l3 l4 = some r → lv_has ls 6 [(0, .ref (G.2.1 51)), (1, .int a1), (2, .int a2), (3, .int l3), (4, .int l4)] → W p l e (headSpec (ws_Model_isTarget) rm_Model_isTarget).room s m ([.ref (G.2.1 51), .int a1, .int a2] : List Value).toArray below meth c s.heap [] 0 0 (MQ below (xRd (some (.int r))) ([.ref (G.2.1 51), .int a1, .int a2] : List Value).toArray s 0 0 (fun _ => False)) (F0 m 14 ls []) := by
    intro n
    induction n with
    | zero => intro ls l3 l4 hE; rw [x_Model_isTarget_14] at hE; cases hE
    | succ n ih =>
      intro ls l3 l4 hE hl
      rw [x_Model_isTarget_14] at hE
      refine lv_iload hx hb d_Model_isTarget_14 (lv_at hl 4 rfl) ?_
      refine lv_iload_n hx hb d_Model_isTarget_16 rfl (lv_at hl 2 rfl) ?_
      refine lv_icmp_ge (tgt := 111) hx hb d_Model_isTarget_17 (by decide) (fun hc17 => ?_) (fun hc17 => ?_)
      · rw [if_pos hc17] at hE
        refine lv_iload_n hx hb d_Model_isTarget_111 rfl (lv_at hl 3 rfl) ?_
        obtain ⟨g112, hE⟩ := x_guard hE
        exact W.zret (v := l3) hx hb hr (x_nz g112) (fun t ht hW => ⟨by rw [Option.some.inj hE], ht⟩) (fun q h => by cases h) d_Model_isTarget_112
      · rw [if_neg hc17] at hE
        refine lv_aload_n hx hb d_Model_isTarget_20 rfl (lv_at hl 0 rfl) ?_
        refine va_get (D := G.1) (cl := xCl) (ci := 10) (v := .ref (G.2.1 57)) (C := R_Model) (T := T_Model) (N := 33) hx hb hu fi_Model hown hK hw 51 (x_at (by decide) (xcl_51 G σ)) rfl 11 (by decide) (hu _ mw_1079) (fun _ h9 => h9) rfl d_Model_isTarget_21 ?_
        refine lv_iload hx hb d_Model_isTarget_24 (lv_at hl 4 rfl) ?_
        obtain ⟨g26, hE⟩ := x_guard hE
        refine va_iald hx hb hK hw 57 0 (x_at (by decide) (xcl_57 G σ)) rfl g26 d_Model_isTarget_26 ?_
        refine lv_bipush (v := (37 : Int32)) hx hb d_Model_isTarget_27 (by decide) ?_
        refine lv_icmp_ne (tgt := 74) hx hb d_Model_isTarget_29 (by decide) (fun hc29 => ?_) (fun hc29 => ?_)
        · rw [if_neg hc29] at hE
          exact jn74 _ ih _ _ _ hE (lv_sub hl [0, 1, 2, 3, 4] rfl)
        · rw [if_pos hc29] at hE
          refine lv_iload hx hb d_Model_isTarget_32 (lv_at hl 4 rfl) ?_
          refine lv_iconst (v := (2 : Int32)) hx hb d_Model_isTarget_34 (by decide) ?_
          refine lv_iadd hx hb d_Model_isTarget_35 ?_
          refine lv_iload_n hx hb d_Model_isTarget_36 rfl (lv_at hl 2 rfl) ?_
          refine lv_icmp_ge (tgt := 74) hx hb d_Model_isTarget_37 (by decide) (fun hc37 => ?_) (fun hc37 => ?_)
          · rw [if_pos hc37] at hE
            exact jn74 _ ih _ _ _ hE (lv_sub hl [0, 1, 2, 3, 4] rfl)
          · rw [if_neg hc37] at hE
            refine lv_aload_n hx hb d_Model_isTarget_40 rfl (lv_at hl 0 rfl) ?_
            refine va_get (D := G.1) (cl := xCl) (ci := 10) (v := .ref (G.2.1 57)) (C := R_Model) (T := T_Model) (N := 33) hx hb hu fi_Model hown hK hw 51 (x_at (by decide) (xcl_51 G σ)) rfl 11 (by decide) (hu _ mw_1079) (fun _ h9 => h9) rfl d_Model_isTarget_41 ?_
            refine lv_iload hx hb d_Model_isTarget_44 (lv_at hl 4 rfl) ?_
            refine lv_iconst (v := (1 : Int32)) hx hb d_Model_isTarget_46 (by decide) ?_
            refine lv_iadd hx hb d_Model_isTarget_47 ?_
            obtain ⟨g48, hE⟩ := x_guard hE
            refine va_iald hx hb hK hw 57 0 (x_at (by decide) (xcl_57 G σ)) rfl g48 d_Model_isTarget_48 ?_
            obtain ⟨r49, hC49, hE⟩ := x_bind hE
            refine x_callR (W.runS (As := [.int (σ.2.1 57 (l4 + (1 : Int32)).toNatClampNeg)]) (rest := []) ⟨hx, hb, hml, hown, hu⟩ (t_Model_hexOf l G σ (σ.2.1 57 (l4 + (1 : Int32)).toNatClampNeg) r49 hC49) (va_cwS 1 hu (uw_S mw_1194 mw_1195 mw_70 mw_1196) rfl rfl rfl hd_Model_hexOf ⟨Nat.le_of_ble_eq_true rfl, Nat.le_of_ble_eq_true rfl⟩) (x_preS hC hS hw) rfl rfl hl.1 rfl (lv_room (Nat.le_of_ble_eq_true rfl)) d_Model_isTarget_49 ⟨Nat.le_of_ble_eq_true rfl, Nat.le_of_ble_eq_true rfl⟩) ?_
            refine lv_if_lt (tgt := 74) hx hb d_Model_isTarget_52 (by decide) (fun hc52 => ?_) (fun hc52 => ?_)
            · rw [if_pos hc52] at hE
              exact jn74 _ ih _ _ _ hE (lv_sub hl [0, 1, 2, 3, 4] rfl)
            · rw [if_neg hc52] at hE
              refine lv_aload_n hx hb d_Model_isTarget_55 rfl (lv_at hl 0 rfl) ?_
              refine va_get (D := G.1) (cl := xCl) (ci := 10) (v := .ref (G.2.1 57)) (C := R_Model) (T := T_Model) (N := 33) hx hb hu fi_Model hown hK hw 51 (x_at (by decide) (xcl_51 G σ)) rfl 11 (by decide) (hu _ mw_1079) (fun _ h9 => h9) rfl d_Model_isTarget_56 ?_
              refine lv_iload hx hb d_Model_isTarget_59 (lv_at hl 4 rfl) ?_
              refine lv_iconst (v := (2 : Int32)) hx hb d_Model_isTarget_61 (by decide) ?_
              refine lv_iadd hx hb d_Model_isTarget_62 ?_
              obtain ⟨g63, hE⟩ := x_guard hE
              refine va_iald hx hb hK hw 57 0 (x_at (by decide) (xcl_57 G σ)) rfl g63 d_Model_isTarget_63 ?_
              obtain ⟨r64, hC64, hE⟩ := x_bind hE
              refine x_callR (W.runS (As := [.int (σ.2.1 57 (l4 + (2 : Int32)).toNatClampNeg)]) (rest := []) ⟨hx, hb, hml, hown, hu⟩ (t_Model_hexOf l G σ (σ.2.1 57 (l4 + (2 : Int32)).toNatClampNeg) r64 hC64) (va_cwS 1 hu (uw_S mw_1194 mw_1195 mw_70 mw_1196) rfl rfl rfl hd_Model_hexOf ⟨Nat.le_of_ble_eq_true rfl, Nat.le_of_ble_eq_true rfl⟩) (x_preS hC hS hw) rfl rfl hl.1 rfl (lv_room (Nat.le_of_ble_eq_true rfl)) d_Model_isTarget_64 ⟨Nat.le_of_ble_eq_true rfl, Nat.le_of_ble_eq_true rfl⟩) ?_
              refine lv_if_lt (tgt := 74) hx hb d_Model_isTarget_67 (by decide) (fun hc67 => ?_) (fun hc67 => ?_)
              · rw [if_pos hc67] at hE
                exact jn74 _ ih _ _ _ hE (lv_sub hl [0, 1, 2, 3, 4] rfl)
              · rw [if_neg hc67] at hE
                refine lv_iconst (v := (1 : Int32)) hx hb d_Model_isTarget_70 (by decide) ?_
                refine lv_goto (tgt := 75) hx hb d_Model_isTarget_71 (by decide) ?_
                exact jn75 _ ih _ _ _ _ hE (lv_sub hl [0, 1, 2, 3, 4] rfl)
  have jn10 : ∀ (ls : Array Slot) (k0 : Int32), x_Model_isTarget_10 a1 a2 σ k0 = some r → lv_has ls 6 [(0, .ref (G.2.1 51)), (1, .int a1), (2, .int a2)] → W p l e (headSpec (ws_Model_isTarget) rm_Model_isTarget).room s m ([.ref (G.2.1 51), .int a1, .int a2] : List Value).toArray below meth c s.heap [] 0 0 (MQ below (xRd (some (.int r))) ([.ref (G.2.1 51), .int a1, .int a2] : List Value).toArray s 0 0 (fun _ => False)) (F0 m 10 ls [.int k0]) := by
    intro ls k0 hE hl
    unfold x_Model_isTarget_10 at hE
    refine lv_istore_n hx hb d_Model_isTarget_10 rfl hl (by decide) rfl (fun ls hl => ?_)
    have hl : lv_has ls 6 [(3, .int k0), (0, .ref (G.2.1 51)), (1, .int a1), (2, .int a2)] := hl
    refine lv_iload_n hx hb d_Model_isTarget_11 rfl (lv_at hl 2 rfl) ?_
    refine lv_istore hx hb d_Model_isTarget_12 hl (by decide) rfl (fun ls hl => ?_)
    have hl : lv_has ls 6 [(4, .int a1), (3, .int k0), (0, .ref (G.2.1 51)), (1, .int a1), (2, .int a2)] := hl
    exact jn14 x_fuel _ _ _ hE (lv_sub hl [2, 3, 4, 1, 0] rfl)
  have hl := lv_entry ([.ref (G.2.1 51), .int a1, .int a2]) (n := 6) (Nat.le_of_ble_eq_true rfl)
  rw [lg_entry_eq]
  generalize (lg_sl ([.ref (G.2.1 51), .int a1, .int a2]) ++ List.replicate (6 - (lg_sl ([.ref (G.2.1 51), .int a1, .int a2])).length) Slot.unset).toArray = ls at hl ⊢
  have hl : lv_has ls 6 [(0, .ref (G.2.1 51)), (1, .int a1), (2, .int a2)] := hl
  unfold x_Model_isTarget at hE
  refine lv_iload_n hx hb d_Model_isTarget_0 rfl (lv_at hl 2 rfl) ?_
  refine lv_iload_n hx hb d_Model_isTarget_1 rfl (lv_at hl 1 rfl) ?_
  refine lv_icmp_le (tgt := 9) hx hb d_Model_isTarget_2 (by decide) (fun hc2 => ?_) (fun hc2 => ?_)
  · rw [if_pos hc2] at hE
    refine lv_iconst (v := (0 : Int32)) hx hb d_Model_isTarget_9 (by decide) ?_
    exact jn10 _ _ hE (lv_sub hl [0, 1, 2] rfl)
  · rw [if_neg hc2] at hE
    refine lv_iconst (v := (1 : Int32)) hx hb d_Model_isTarget_5 (by decide) ?_
    refine lv_goto (tgt := 10) hx hb d_Model_isTarget_6 (by decide) ?_
    exact jn10 _ _ hE (lv_sub hl [0, 1, 2] rfl)

def y_Model_isExactly : MethodName := ⟨"PlainOriginModel", "isExactly", "(III)Z"⟩
def ws_Model_isExactly : List Cond := Cond.code y_Model_isExactly prog_14_method_19_code 6 (some .boolean) :: UW
theorem hd_Model_isExactly : y_Model_isExactly.cls = R_Model ∧ y_Model_isExactly.cls ≠ "java/lang/invoke/MethodHandle" ∧ y_Model_isExactly.cls ≠ "java/lang/invoke/VarHandle" ∧ (parseMethodDescriptor y_Model_isExactly.desc).map (fun d => d.parameters.length) = some 3 := by decide +kernel
theorem d_Model_isExactly_0 : decode prog_14_method_19_code 0 = .ok (.iconst 1, 1) := by decide +kernel
theorem d_Model_isExactly_1 : decode prog_14_method_19_code 1 = .ok (.istore 4, 2) := by decide +kernel
theorem d_Model_isExactly_3 : decode prog_14_method_19_code 3 = .ok (.iconst 0, 1) := by decide +kernel
theorem d_Model_isExactly_4 : decode prog_14_method_19_code 4 = .ok (.istore 5, 2) := by decide +kernel
theorem d_Model_isExactly_6 : decode prog_14_method_19_code 6 = .ok (.aload_n 0, 1) := by decide +kernel
theorem d_Model_isExactly_7 : decode prog_14_method_19_code 7 = .ok (.iload_n 3, 1) := by decide +kernel
theorem d_Model_isExactly_8 : decode prog_14_method_19_code 8 = .ok (.iload 5, 2) := by decide +kernel
theorem d_Model_isExactly_10 : decode prog_14_method_19_code 10 = .ok (.iadd, 1) := by decide +kernel
theorem d_Model_isExactly_11 : decode prog_14_method_19_code 11 = .ok (.invokevirtual 225, 3) := by decide +kernel
theorem d_Model_isExactly_14 : decode prog_14_method_19_code 14 = .ok (.ifCond .eq (49), 3) := by decide +kernel
theorem d_Model_isExactly_17 : decode prog_14_method_19_code 17 = .ok (.iload 4, 2) := by decide +kernel
theorem d_Model_isExactly_19 : decode prog_14_method_19_code 19 = .ok (.ifCond .eq (44), 3) := by decide +kernel
theorem d_Model_isExactly_22 : decode prog_14_method_19_code 22 = .ok (.iload_n 1, 1) := by decide +kernel
theorem d_Model_isExactly_23 : decode prog_14_method_19_code 23 = .ok (.iload 5, 2) := by decide +kernel
theorem d_Model_isExactly_25 : decode prog_14_method_19_code 25 = .ok (.iadd, 1) := by decide +kernel
theorem d_Model_isExactly_26 : decode prog_14_method_19_code 26 = .ok (.iload_n 2, 1) := by decide +kernel
theorem d_Model_isExactly_27 : decode prog_14_method_19_code 27 = .ok (.if_icmp .ge (27), 3) := by decide +kernel
theorem d_Model_isExactly_30 : decode prog_14_method_19_code 30 = .ok (.aload_n 0, 1) := by decide +kernel
theorem d_Model_isExactly_31 : decode prog_14_method_19_code 31 = .ok (.getfield 105, 3) := by decide +kernel
theorem d_Model_isExactly_34 : decode prog_14_method_19_code 34 = .ok (.iload_n 1, 1) := by decide +kernel
theorem d_Model_isExactly_35 : decode prog_14_method_19_code 35 = .ok (.iload 5, 2) := by decide +kernel
theorem d_Model_isExactly_37 : decode prog_14_method_19_code 37 = .ok (.iadd, 1) := by decide +kernel
theorem d_Model_isExactly_38 : decode prog_14_method_19_code 38 = .ok (.iaload, 1) := by decide +kernel
theorem d_Model_isExactly_39 : decode prog_14_method_19_code 39 = .ok (.aload_n 0, 1) := by decide +kernel
theorem d_Model_isExactly_40 : decode prog_14_method_19_code 40 = .ok (.iload_n 3, 1) := by decide +kernel
theorem d_Model_isExactly_41 : decode prog_14_method_19_code 41 = .ok (.iload 5, 2) := by decide +kernel
theorem d_Model_isExactly_43 : decode prog_14_method_19_code 43 = .ok (.iadd, 1) := by decide +kernel
theorem d_Model_isExactly_44 : decode prog_14_method_19_code 44 = .ok (.invokevirtual 225, 3) := by decide +kernel
theorem d_Model_isExactly_47 : decode prog_14_method_19_code 47 = .ok (.if_icmp .ne (7), 3) := by decide +kernel
theorem d_Model_isExactly_50 : decode prog_14_method_19_code 50 = .ok (.iconst 1, 1) := by decide +kernel
theorem d_Model_isExactly_51 : decode prog_14_method_19_code 51 = .ok (.goto (4), 3) := by decide +kernel
theorem d_Model_isExactly_54 : decode prog_14_method_19_code 54 = .ok (.iconst 0, 1) := by decide +kernel
theorem d_Model_isExactly_55 : decode prog_14_method_19_code 55 = .ok (.istore 4, 2) := by decide +kernel
theorem d_Model_isExactly_57 : decode prog_14_method_19_code 57 = .ok (.iinc 5 (1), 3) := by decide +kernel
theorem d_Model_isExactly_60 : decode prog_14_method_19_code 60 = .ok (.goto (-54), 3) := by decide +kernel
theorem d_Model_isExactly_63 : decode prog_14_method_19_code 63 = .ok (.iload 4, 2) := by decide +kernel
theorem d_Model_isExactly_65 : decode prog_14_method_19_code 65 = .ok (.ifCond .eq (15), 3) := by decide +kernel
theorem d_Model_isExactly_68 : decode prog_14_method_19_code 68 = .ok (.iload 5, 2) := by decide +kernel
theorem d_Model_isExactly_70 : decode prog_14_method_19_code 70 = .ok (.iload_n 2, 1) := by decide +kernel
theorem d_Model_isExactly_71 : decode prog_14_method_19_code 71 = .ok (.iload_n 1, 1) := by decide +kernel
theorem d_Model_isExactly_72 : decode prog_14_method_19_code 72 = .ok (.isub, 1) := by decide +kernel
theorem d_Model_isExactly_73 : decode prog_14_method_19_code 73 = .ok (.if_icmp .ne (7), 3) := by decide +kernel
theorem d_Model_isExactly_76 : decode prog_14_method_19_code 76 = .ok (.iconst 1, 1) := by decide +kernel
theorem d_Model_isExactly_77 : decode prog_14_method_19_code 77 = .ok (.goto (4), 3) := by decide +kernel
theorem d_Model_isExactly_80 : decode prog_14_method_19_code 80 = .ok (.iconst 0, 1) := by decide +kernel
theorem d_Model_isExactly_81 : decode prog_14_method_19_code 81 = .ok (.ireturn, 1) := by decide +kernel
def x_Model_isExactly_63 (a1 : Int32) (a2 : Int32) (a3 : Int32) (σ : St) (l4 : Int32) (l5 : Int32) : Option Int32 := (if l4 = 0 then some (0 : Int32) else (if l5 = (a2 - a1) then some (1 : Int32) else some (0 : Int32)))
def x_Model_isExactly_55 (a1 : Int32) (a2 : Int32) (a3 : Int32) (σ : St) (bk6 : Int32 → Int32 → Option Int32) (l5 : Int32) (k0 : Int32) : Option Int32 := (x_let (l5 + (1 : Int32)) (fun (v57 : Int32) => bk6 k0 v57))
def x_Model_isExactly_54 (a1 : Int32) (a2 : Int32) (a3 : Int32) (σ : St) (bk6 : Int32 → Int32 → Option Int32) (l5 : Int32) : Option Int32 := x_Model_isExactly_55 a1 a2 a3 σ bk6 l5 (0 : Int32)
def x_Model_isExactly_6 (a1 : Int32) (a2 : Int32) (a3 : Int32) (σ : St) : Nat → Int32 → Int32 → Option Int32
  | 0, _, _ => none
  | n + 1, l4, l5 => (Option.bind (x_Model_letter (a3 + l5) σ) (fun r11 => (if r11 = 0 then x_Model_isExactly_63 a1 a2 a3 σ l4 l5 else (if l4 = 0 then x_Model_isExactly_63 a1 a2 a3 σ l4 l5 else (if a2 ≤ (a1 + l5) then x_Model_isExactly_54 a1 a2 a3 σ (x_Model_isExactly_6 a1 a2 a3 σ n) l5 else (if x_in (a1 + l5) 80 then (Option.bind (x_Model_letter (a3 + l5) σ) (fun r44 => (if (σ.2.1 57 (a1 + l5).toNatClampNeg) = r44 then x_Model_isExactly_55 a1 a2 a3 σ (x_Model_isExactly_6 a1 a2 a3 σ n) l5 (1 : Int32) else x_Model_isExactly_54 a1 a2 a3 σ (x_Model_isExactly_6 a1 a2 a3 σ n) l5))) else none))))))
def x_Model_isExactly (a1 : Int32) (a2 : Int32) (a3 : Int32) (σ : St) : Option Int32 := x_Model_isExactly_6 a1 a2 a3 σ x_fuel (1 : Int32) (0 : Int32)
abbrev rm_Model_isExactly : Room := { frames := 1, cells := 0, slots := 0, locals := 21 }
set_option maxHeartbeats 4000000 in
set_option maxRecDepth 100000 in
theorem t_Model_isExactly (l : Launch) (G : xG) (σ : St) (a1 : Int32) (a2 : Int32) (a3 : Int32) (r : Int32) (hE : x_Model_isExactly a1 a2 a3 σ = some r) : Met l y_Model_isExactly (ws_Model_isExactly) rm_Model_isExactly (xP G σ [.ref (G.2.1 51), .int a1, .int a2, .int a3]) (xRd (some (.int r))) 0 0 (fun _ => False) := by
  refine Met.ofW (cc := prog_14_method_19_code) (maxL := 6) (ret := (some .boolean)) (by decide) rfl ?_
  intro p e s m args below meth c s₁ B hml hv
  obtain ⟨rfl, hw, hC⟩ := hv
  have hx := B.exec
  have hb := B.bytes
  have hr := B.returns
  have hu : ∀ w ∈ UW, w.before _ s = true := fun w h => atoms_spec B.pre w (List.mem_cons_of_mem _ h)
  have hown : s.vm.findClass R_Model = some m.cls := findClass_of_methodNamed B.named
  have hlocks := B.notSynchronized
  have hK := hC.1
  have hI := hC.2.1
  have hG := hC.2.2.1
  have hN := hC.2.2.2
  have hS : va_S (xA G) s.heap s.heap [] := va_S.rf
  have jn63 : ∀ (ls : Array Slot) (l4 : Int32) (l5 : Int32), x_Model_isExactly_63 a1 a2 a3 σ l4 l5 = some r → lv_has ls 6 [(0, .ref (G.2.1 51)), (1, .int a1), (2, .int a2), (3, .int a3), (4, .int l4), (5, .int l5)] → W p l e (headSpec (ws_Model_isExactly) rm_Model_isExactly).room s m ([.ref (G.2.1 51), .int a1, .int a2, .int a3] : List Value).toArray below meth c s.heap [] 0 0 (MQ below (xRd (some (.int r))) ([.ref (G.2.1 51), .int a1, .int a2, .int a3] : List Value).toArray s 0 0 (fun _ => False)) (F0 m 63 ls []) := by
    intro ls l4 l5 hE hl
    unfold x_Model_isExactly_63 at hE
    refine lv_iload hx hb d_Model_isExactly_63 (lv_at hl 4 rfl) ?_
    refine lv_if_eq (tgt := 80) hx hb d_Model_isExactly_65 (by decide) (fun hc65 => ?_) (fun hc65 => ?_)
    · rw [if_pos hc65] at hE
      refine lv_iconst (v := (0 : Int32)) hx hb d_Model_isExactly_80 (by decide) ?_
      exact W.zret (v := (0 : Int32)) hx hb hr rfl (fun t ht hW => ⟨by rw [Option.some.inj hE], ht⟩) (fun q h => by cases h) d_Model_isExactly_81
    · rw [if_neg hc65] at hE
      refine lv_iload hx hb d_Model_isExactly_68 (lv_at hl 5 rfl) ?_
      refine lv_iload_n hx hb d_Model_isExactly_70 rfl (lv_at hl 2 rfl) ?_
      refine lv_iload_n hx hb d_Model_isExactly_71 rfl (lv_at hl 1 rfl) ?_
      refine lv_isub hx hb d_Model_isExactly_72 ?_
      refine lv_icmp_ne (tgt := 80) hx hb d_Model_isExactly_73 (by decide) (fun hc73 => ?_) (fun hc73 => ?_)
      · rw [if_neg hc73] at hE
        refine lv_iconst (v := (0 : Int32)) hx hb d_Model_isExactly_80 (by decide) ?_
        exact W.zret (v := (0 : Int32)) hx hb hr rfl (fun t ht hW => ⟨by rw [Option.some.inj hE], ht⟩) (fun q h => by cases h) d_Model_isExactly_81
      · rw [if_pos hc73] at hE
        refine lv_iconst (v := (1 : Int32)) hx hb d_Model_isExactly_76 (by decide) ?_
        refine lv_goto (tgt := 81) hx hb d_Model_isExactly_77 (by decide) ?_
        exact W.zret (v := (1 : Int32)) hx hb hr rfl (fun t ht hW => ⟨by rw [Option.some.inj hE], ht⟩) (fun q h => by cases h) d_Model_isExactly_81
  have jn55 : ∀ (bk6 : Int32 → Int32 → Option Int32) (hbk6 : ∀ (ls : Array Slot) (l4 : Int32) (l5 : Int32), bk6 l4 l5 = some r → lv_has ls 6 [(0, .ref (G.2.1 51)), (1, .int a1), (2, .int a2), (3, .int a3), (4, .int l4), (5, .int l5)] → W p l e (headSpec (ws_Model_isExactly) rm_Model_isExactly).room s m ([.ref (G.2.1 51), .int a1, .int a2, .int a3] : List Value).toArray below meth c s.heap [] 0 0 (MQ below (xRd (some (.int r))) ([.ref (G.2.1 51), .int a1, .int a2, .int a3] : List Value).toArray s 0 0 (fun _ => False)) (F0 m 6 ls [])) (ls : Array Slot) (l5 : Int32) (k0 : Int32), x_Model_isExactly_55 a1 a2 a3 σ bk6 l5 k0 = some r → lv_has ls 6 [(0, .ref (G.2.1 51)), (1, .int a1), (2, .int a2), (3, .int a3), (5, .int l5)] → W p l e (headSpec (ws_Model_isExactly) rm_Model_isExactly).room s m ([.ref (G.2.1 51), .int a1, .int a2, .int a3] : List Value).toArray below meth c s.heap [] 0 0 (MQ below (xRd (some (.int r))) ([.ref (G.2.1 51), .int a1, .int a2, .int a3] : List Value).toArray s 0 0 (fun _ => False)) (F0 m 55 ls [.int k0]) := by
    intro bk6 hbk6 ls l5 k0 hE hl
    unfold x_Model_isExactly_55 at hE
    refine lv_istore hx hb d_Model_isExactly_55 hl (by decide) rfl (fun ls hl => ?_)
    have hl : lv_has ls 6 [(4, .int k0), (0, .ref (G.2.1 51)), (1, .int a1), (2, .int a2), (3, .int a3), (5, .int l5)] := hl
    obtain ⟨v57, e57, hE⟩ := x_letE hE
    refine lv_iinc hx hb d_Model_isExactly_57 hl (k := 5) rfl (x_inc v57 e57 (by decide)) (by decide) rfl (fun ls hl => ?_)
    have hl : lv_has ls 6 [(5, .int v57), (4, .int k0), (0, .ref (G.2.1 51)), (1, .int a1), (2, .int a2), (3, .int a3)] := hl
    refine lv_goto (tgt := 6) hx hb d_Model_isExactly_60 (by decide) ?_
    exact hbk6 _ _ _ hE (lv_sub hl [2, 3, 4, 5, 1, 0] rfl)
  have jn54 : ∀ (bk6 : Int32 → Int32 → Option Int32) (hbk6 : ∀ (ls : Array Slot) (l4 : Int32) (l5 : Int32), bk6 l4 l5 = some r → lv_has ls 6 [(0, .ref (G.2.1 51)), (1, .int a1), (2, .int a2), (3, .int a3), (4, .int l4), (5, .int l5)] → W p l e (headSpec (ws_Model_isExactly) rm_Model_isExactly).room s m ([.ref (G.2.1 51), .int a1, .int a2, .int a3] : List Value).toArray below meth c s.heap [] 0 0 (MQ below (xRd (some (.int r))) ([.ref (G.2.1 51), .int a1, .int a2, .int a3] : List Value).toArray s 0 0 (fun _ => False)) (F0 m 6 ls [])) (ls : Array Slot) (l5 : Int32), x_Model_isExactly_54 a1 a2 a3 σ bk6 l5 = some r → lv_has ls 6 [(0, .ref (G.2.1 51)), (1, .int a1), (2, .int a2), (3, .int a3), (5, .int l5)] → W p l e (headSpec (ws_Model_isExactly) rm_Model_isExactly).room s m ([.ref (G.2.1 51), .int a1, .int a2, .int a3] : List Value).toArray below meth c s.heap [] 0 0 (MQ below (xRd (some (.int r))) ([.ref (G.2.1 51), .int a1, .int a2, .int a3] : List Value).toArray s 0 0 (fun _ => False)) (F0 m 54 ls []) := by
    intro bk6 hbk6 ls l5 hE hl
    unfold x_Model_isExactly_54 at hE
    refine lv_iconst (v := (0 : Int32)) hx hb d_Model_isExactly_54 (by decide) ?_
    exact jn55 _ hbk6 _ _ _ hE (lv_sub hl [0, 1, 2, 3, 4] rfl)
  have jn6 : ∀ (n : Nat) (ls : Array Slot) (l4 : Int32) (l5 : Int32), x_Model_isExactly_6 a1 a2 a3 σ n l4 l5 = some r → lv_has ls 6 [(0, .ref (G.2.1 51)), (1, .int a1), (2, .int a2), (3, .int a3), (4, .int l4), (5, .int l5)] → W p l e (headSpec (ws_Model_isExactly) rm_Model_isExactly).room s m ([.ref (G.2.1 51), .int a1, .int a2, .int a3] : List Value).toArray below meth c s.heap [] 0 0 (MQ below (xRd (some (.int r))) ([.ref (G.2.1 51), .int a1, .int a2, .int a3] : List Value).toArray s 0 0 (fun _ => False)) (F0 m 6 ls []) := by
    intro n
    induction n with
    | zero => intro ls l4 l5 hE; rw [x_Model_isExactly_6] at hE; cases hE
    | succ n ih =>
      intro ls l4 l5 hE hl
      rw [x_Model_isExactly_6] at hE
      refine lv_aload_n hx hb d_Model_isExactly_6 rfl (lv_at hl 0 rfl) ?_
      refine lv_iload_n hx hb d_Model_isExactly_7 rfl (lv_at hl 3 rfl) ?_
      refine lv_iload hx hb d_Model_isExactly_8 (lv_at hl 5 rfl) ?_
      refine lv_iadd hx hb d_Model_isExactly_10 ?_
      obtain ⟨r11, hC11, hE⟩ := x_bind hE
      refine x_callR (W.runV (As := [.int (a3 + l5)]) (rest := []) ⟨hx, hb, hml, hown, hu⟩ (t_Model_letter l G σ (a3 + l5) r11 hC11) (cwV 1 hu (uw_V mw_1215 mw_1217 mw_29 mw_70 mw_1218) rfl rfl rfl hd_Model_letter ⟨Nat.le_of_ble_eq_true rfl, Nat.le_of_ble_eq_true rfl⟩) (x_preV hC hS hw (va_recv hK hw (q := (R_Model, T_Model, 33)) (ci := 10) rfl (x_at (by decide) (xcl_51 G σ)))) rfl rfl hl.1 rfl (lv_room (Nat.le_of_ble_eq_true rfl)) d_Model_isExactly_11 ⟨Nat.le_of_ble_eq_true rfl, Nat.le_of_ble_eq_true rfl⟩) ?_
      refine lv_if_eq (tgt := 63) hx hb d_Model_isExactly_14 (by decide) (fun hc14 => ?_) (fun hc14 => ?_)
      · rw [if_pos hc14] at hE
        exact jn63 _ _ _ hE (lv_sub hl [0, 1, 2, 3, 4, 5] rfl)
      · rw [if_neg hc14] at hE
        refine lv_iload hx hb d_Model_isExactly_17 (lv_at hl 4 rfl) ?_
        refine lv_if_eq (tgt := 63) hx hb d_Model_isExactly_19 (by decide) (fun hc19 => ?_) (fun hc19 => ?_)
        · rw [if_pos hc19] at hE
          exact jn63 _ _ _ hE (lv_sub hl [0, 1, 2, 3, 4, 5] rfl)
        · rw [if_neg hc19] at hE
          refine lv_iload_n hx hb d_Model_isExactly_22 rfl (lv_at hl 1 rfl) ?_
          refine lv_iload hx hb d_Model_isExactly_23 (lv_at hl 5 rfl) ?_
          refine lv_iadd hx hb d_Model_isExactly_25 ?_
          refine lv_iload_n hx hb d_Model_isExactly_26 rfl (lv_at hl 2 rfl) ?_
          refine lv_icmp_ge (tgt := 54) hx hb d_Model_isExactly_27 (by decide) (fun hc27 => ?_) (fun hc27 => ?_)
          · rw [if_pos hc27] at hE
            exact jn54 _ ih _ _ hE (lv_sub hl [0, 1, 2, 3, 5] rfl)
          · rw [if_neg hc27] at hE
            refine lv_aload_n hx hb d_Model_isExactly_30 rfl (lv_at hl 0 rfl) ?_
            refine va_get (D := G.1) (cl := xCl) (ci := 10) (v := .ref (G.2.1 57)) (C := R_Model) (T := T_Model) (N := 33) hx hb hu fi_Model hown hK hw 51 (x_at (by decide) (xcl_51 G σ)) rfl 11 (by decide) (hu _ mw_1079) (fun _ h9 => h9) rfl d_Model_isExactly_31 ?_
            refine lv_iload_n hx hb d_Model_isExactly_34 rfl (lv_at hl 1 rfl) ?_
            refine lv_iload hx hb d_Model_isExactly_35 (lv_at hl 5 rfl) ?_
            refine lv_iadd hx hb d_Model_isExactly_37 ?_
            obtain ⟨g38, hE⟩ := x_guard hE
            refine va_iald hx hb hK hw 57 0 (x_at (by decide) (xcl_57 G σ)) rfl g38 d_Model_isExactly_38 ?_
            refine lv_aload_n hx hb d_Model_isExactly_39 rfl (lv_at hl 0 rfl) ?_
            refine lv_iload_n hx hb d_Model_isExactly_40 rfl (lv_at hl 3 rfl) ?_
            refine lv_iload hx hb d_Model_isExactly_41 (lv_at hl 5 rfl) ?_
            refine lv_iadd hx hb d_Model_isExactly_43 ?_
            obtain ⟨r44, hC44, hE⟩ := x_bind hE
            refine x_callR (W.runV (As := [.int (a3 + l5)]) (rest := [.int (σ.2.1 57 (a1 + l5).toNatClampNeg)]) ⟨hx, hb, hml, hown, hu⟩ (t_Model_letter l G σ (a3 + l5) r44 hC44) (cwV 1 hu (uw_V mw_1215 mw_1217 mw_29 mw_70 mw_1218) rfl rfl rfl hd_Model_letter ⟨Nat.le_of_ble_eq_true rfl, Nat.le_of_ble_eq_true rfl⟩) (x_preV hC hS hw (va_recv hK hw (q := (R_Model, T_Model, 33)) (ci := 10) rfl (x_at (by decide) (xcl_51 G σ)))) rfl rfl hl.1 rfl (lv_room (Nat.le_of_ble_eq_true rfl)) d_Model_isExactly_44 ⟨Nat.le_of_ble_eq_true rfl, Nat.le_of_ble_eq_true rfl⟩) ?_
            refine lv_icmp_ne (tgt := 54) hx hb d_Model_isExactly_47 (by decide) (fun hc47 => ?_) (fun hc47 => ?_)
            · rw [if_neg hc47] at hE
              exact jn54 _ ih _ _ hE (lv_sub hl [0, 1, 2, 3, 5] rfl)
            · rw [if_pos hc47] at hE
              refine lv_iconst (v := (1 : Int32)) hx hb d_Model_isExactly_50 (by decide) ?_
              refine lv_goto (tgt := 55) hx hb d_Model_isExactly_51 (by decide) ?_
              exact jn55 _ ih _ _ _ hE (lv_sub hl [0, 1, 2, 3, 5] rfl)
  have hl := lv_entry ([.ref (G.2.1 51), .int a1, .int a2, .int a3]) (n := 6) (Nat.le_of_ble_eq_true rfl)
  rw [lg_entry_eq]
  generalize (lg_sl ([.ref (G.2.1 51), .int a1, .int a2, .int a3]) ++ List.replicate (6 - (lg_sl ([.ref (G.2.1 51), .int a1, .int a2, .int a3])).length) Slot.unset).toArray = ls at hl ⊢
  have hl : lv_has ls 6 [(0, .ref (G.2.1 51)), (1, .int a1), (2, .int a2), (3, .int a3)] := hl
  unfold x_Model_isExactly at hE
  refine lv_iconst (v := (1 : Int32)) hx hb d_Model_isExactly_0 (by decide) ?_
  refine lv_istore hx hb d_Model_isExactly_1 hl (by decide) rfl (fun ls hl => ?_)
  have hl : lv_has ls 6 [(4, .int (1 : Int32)), (0, .ref (G.2.1 51)), (1, .int a1), (2, .int a2), (3, .int a3)] := hl
  refine lv_iconst (v := (0 : Int32)) hx hb d_Model_isExactly_3 (by decide) ?_
  refine lv_istore hx hb d_Model_isExactly_4 hl (by decide) rfl (fun ls hl => ?_)
  have hl : lv_has ls 6 [(5, .int (0 : Int32)), (4, .int (1 : Int32)), (0, .ref (G.2.1 51)), (1, .int a1), (2, .int a2), (3, .int a3)] := hl
  exact jn6 x_fuel _ _ _ hE (lv_sub hl [2, 3, 4, 5, 1, 0] rfl)

def y_Model_isWord : MethodName := ⟨"PlainOriginModel", "isWord", "(III)Z"⟩
def ws_Model_isWord : List Cond := Cond.code y_Model_isWord prog_14_method_22_code 6 (some .boolean) :: UW
theorem hd_Model_isWord : y_Model_isWord.cls = R_Model ∧ y_Model_isWord.cls ≠ "java/lang/invoke/MethodHandle" ∧ y_Model_isWord.cls ≠ "java/lang/invoke/VarHandle" ∧ (parseMethodDescriptor y_Model_isWord.desc).map (fun d => d.parameters.length) = some 3 := by decide +kernel
theorem d_Model_isWord_0 : decode prog_14_method_22_code 0 = .ok (.iconst 1, 1) := by decide +kernel
theorem d_Model_isWord_1 : decode prog_14_method_22_code 1 = .ok (.istore 4, 2) := by decide +kernel
theorem d_Model_isWord_3 : decode prog_14_method_22_code 3 = .ok (.iconst 0, 1) := by decide +kernel
theorem d_Model_isWord_4 : decode prog_14_method_22_code 4 = .ok (.istore 5, 2) := by decide +kernel
theorem d_Model_isWord_6 : decode prog_14_method_22_code 6 = .ok (.aload_n 0, 1) := by decide +kernel
theorem d_Model_isWord_7 : decode prog_14_method_22_code 7 = .ok (.iload_n 3, 1) := by decide +kernel
theorem d_Model_isWord_8 : decode prog_14_method_22_code 8 = .ok (.iload 5, 2) := by decide +kernel
theorem d_Model_isWord_10 : decode prog_14_method_22_code 10 = .ok (.iadd, 1) := by decide +kernel
theorem d_Model_isWord_11 : decode prog_14_method_22_code 11 = .ok (.invokevirtual 225, 3) := by decide +kernel
theorem d_Model_isWord_14 : decode prog_14_method_22_code 14 = .ok (.ifCond .eq (52), 3) := by decide +kernel
theorem d_Model_isWord_17 : decode prog_14_method_22_code 17 = .ok (.iload 4, 2) := by decide +kernel
theorem d_Model_isWord_19 : decode prog_14_method_22_code 19 = .ok (.ifCond .eq (47), 3) := by decide +kernel
theorem d_Model_isWord_22 : decode prog_14_method_22_code 22 = .ok (.iload_n 1, 1) := by decide +kernel
theorem d_Model_isWord_23 : decode prog_14_method_22_code 23 = .ok (.iload 5, 2) := by decide +kernel
theorem d_Model_isWord_25 : decode prog_14_method_22_code 25 = .ok (.iadd, 1) := by decide +kernel
theorem d_Model_isWord_26 : decode prog_14_method_22_code 26 = .ok (.iload_n 2, 1) := by decide +kernel
theorem d_Model_isWord_27 : decode prog_14_method_22_code 27 = .ok (.if_icmp .ge (30), 3) := by decide +kernel
theorem d_Model_isWord_30 : decode prog_14_method_22_code 30 = .ok (.aload_n 0, 1) := by decide +kernel
theorem d_Model_isWord_31 : decode prog_14_method_22_code 31 = .ok (.getfield 118, 3) := by decide +kernel
theorem d_Model_isWord_34 : decode prog_14_method_22_code 34 = .ok (.iload_n 1, 1) := by decide +kernel
theorem d_Model_isWord_35 : decode prog_14_method_22_code 35 = .ok (.iload 5, 2) := by decide +kernel
theorem d_Model_isWord_37 : decode prog_14_method_22_code 37 = .ok (.iadd, 1) := by decide +kernel
theorem d_Model_isWord_38 : decode prog_14_method_22_code 38 = .ok (.iaload, 1) := by decide +kernel
theorem d_Model_isWord_39 : decode prog_14_method_22_code 39 = .ok (.invokestatic 155, 3) := by decide +kernel
theorem d_Model_isWord_42 : decode prog_14_method_22_code 42 = .ok (.aload_n 0, 1) := by decide +kernel
theorem d_Model_isWord_43 : decode prog_14_method_22_code 43 = .ok (.iload_n 3, 1) := by decide +kernel
theorem d_Model_isWord_44 : decode prog_14_method_22_code 44 = .ok (.iload 5, 2) := by decide +kernel
theorem d_Model_isWord_46 : decode prog_14_method_22_code 46 = .ok (.iadd, 1) := by decide +kernel
theorem d_Model_isWord_47 : decode prog_14_method_22_code 47 = .ok (.invokevirtual 225, 3) := by decide +kernel
theorem d_Model_isWord_50 : decode prog_14_method_22_code 50 = .ok (.if_icmp .ne (7), 3) := by decide +kernel
theorem d_Model_isWord_53 : decode prog_14_method_22_code 53 = .ok (.iconst 1, 1) := by decide +kernel
theorem d_Model_isWord_54 : decode prog_14_method_22_code 54 = .ok (.goto (4), 3) := by decide +kernel
theorem d_Model_isWord_57 : decode prog_14_method_22_code 57 = .ok (.iconst 0, 1) := by decide +kernel
theorem d_Model_isWord_58 : decode prog_14_method_22_code 58 = .ok (.istore 4, 2) := by decide +kernel
theorem d_Model_isWord_60 : decode prog_14_method_22_code 60 = .ok (.iinc 5 (1), 3) := by decide +kernel
theorem d_Model_isWord_63 : decode prog_14_method_22_code 63 = .ok (.goto (-57), 3) := by decide +kernel
theorem d_Model_isWord_66 : decode prog_14_method_22_code 66 = .ok (.iload 4, 2) := by decide +kernel
theorem d_Model_isWord_68 : decode prog_14_method_22_code 68 = .ok (.ifCond .eq (15), 3) := by decide +kernel
theorem d_Model_isWord_71 : decode prog_14_method_22_code 71 = .ok (.iload 5, 2) := by decide +kernel
theorem d_Model_isWord_73 : decode prog_14_method_22_code 73 = .ok (.iload_n 2, 1) := by decide +kernel
theorem d_Model_isWord_74 : decode prog_14_method_22_code 74 = .ok (.iload_n 1, 1) := by decide +kernel
theorem d_Model_isWord_75 : decode prog_14_method_22_code 75 = .ok (.isub, 1) := by decide +kernel
theorem d_Model_isWord_76 : decode prog_14_method_22_code 76 = .ok (.if_icmp .ne (7), 3) := by decide +kernel
theorem d_Model_isWord_79 : decode prog_14_method_22_code 79 = .ok (.iconst 1, 1) := by decide +kernel
theorem d_Model_isWord_80 : decode prog_14_method_22_code 80 = .ok (.goto (4), 3) := by decide +kernel
theorem d_Model_isWord_83 : decode prog_14_method_22_code 83 = .ok (.iconst 0, 1) := by decide +kernel
theorem d_Model_isWord_84 : decode prog_14_method_22_code 84 = .ok (.ireturn, 1) := by decide +kernel
def x_Model_isWord_66 (a1 : Int32) (a2 : Int32) (a3 : Int32) (σ : St) (l4 : Int32) (l5 : Int32) : Option Int32 := (if l4 = 0 then some (0 : Int32) else (if l5 = (a2 - a1) then some (1 : Int32) else some (0 : Int32)))
def x_Model_isWord_58 (a1 : Int32) (a2 : Int32) (a3 : Int32) (σ : St) (bk6 : Int32 → Int32 → Option Int32) (l5 : Int32) (k0 : Int32) : Option Int32 := (x_let (l5 + (1 : Int32)) (fun (v60 : Int32) => bk6 k0 v60))
def x_Model_isWord_57 (a1 : Int32) (a2 : Int32) (a3 : Int32) (σ : St) (bk6 : Int32 → Int32 → Option Int32) (l5 : Int32) : Option Int32 := x_Model_isWord_58 a1 a2 a3 σ bk6 l5 (0 : Int32)
def x_Model_isWord_6 (a1 : Int32) (a2 : Int32) (a3 : Int32) (σ : St) : Nat → Int32 → Int32 → Option Int32
  | 0, _, _ => none
  | n + 1, l4, l5 => (Option.bind (x_Model_letter (a3 + l5) σ) (fun r11 => (if r11 = 0 then x_Model_isWord_66 a1 a2 a3 σ l4 l5 else (if l4 = 0 then x_Model_isWord_66 a1 a2 a3 σ l4 l5 else (if a2 ≤ (a1 + l5) then x_Model_isWord_57 a1 a2 a3 σ (x_Model_isWord_6 a1 a2 a3 σ n) l5 else (if x_in (a1 + l5) 960 then (Option.bind (x_Model_small (σ.2.1 59 (a1 + l5).toNatClampNeg)) (fun r39 => (Option.bind (x_Model_letter (a3 + l5) σ) (fun r47 => (if r39 = r47 then x_Model_isWord_58 a1 a2 a3 σ (x_Model_isWord_6 a1 a2 a3 σ n) l5 (1 : Int32) else x_Model_isWord_57 a1 a2 a3 σ (x_Model_isWord_6 a1 a2 a3 σ n) l5))))) else none))))))
def x_Model_isWord (a1 : Int32) (a2 : Int32) (a3 : Int32) (σ : St) : Option Int32 := x_Model_isWord_6 a1 a2 a3 σ x_fuel (1 : Int32) (0 : Int32)
abbrev rm_Model_isWord : Room := { frames := 2, cells := 0, slots := 0, locals := 42 }
set_option maxHeartbeats 4000000 in
set_option maxRecDepth 100000 in
theorem t_Model_isWord (l : Launch) (G : xG) (σ : St) (a1 : Int32) (a2 : Int32) (a3 : Int32) (r : Int32) (hE : x_Model_isWord a1 a2 a3 σ = some r) : Met l y_Model_isWord (ws_Model_isWord) rm_Model_isWord (xP G σ [.ref (G.2.1 51), .int a1, .int a2, .int a3]) (xRd (some (.int r))) 0 0 (fun _ => False) := by
  refine Met.ofW (cc := prog_14_method_22_code) (maxL := 6) (ret := (some .boolean)) (by decide) rfl ?_
  intro p e s m args below meth c s₁ B hml hv
  obtain ⟨rfl, hw, hC⟩ := hv
  have hx := B.exec
  have hb := B.bytes
  have hr := B.returns
  have hu : ∀ w ∈ UW, w.before _ s = true := fun w h => atoms_spec B.pre w (List.mem_cons_of_mem _ h)
  have hown : s.vm.findClass R_Model = some m.cls := findClass_of_methodNamed B.named
  have hlocks := B.notSynchronized
  have hK := hC.1
  have hI := hC.2.1
  have hG := hC.2.2.1
  have hN := hC.2.2.2
  have hS : va_S (xA G) s.heap s.heap [] := va_S.rf
  have jn66 : ∀ (ls : Array Slot) (l4 : Int32) (l5 : Int32), x_Model_isWord_66 a1 a2 a3 σ l4 l5 = some r → lv_has ls 6 [(0, .ref (G.2.1 51)), (1, .int a1), (2, .int a2), (3, .int a3), (4, .int l4), (5, .int l5)] → W p l e (headSpec (ws_Model_isWord) rm_Model_isWord).room s m ([.ref (G.2.1 51), .int a1, .int a2, .int a3] : List Value).toArray below meth c s.heap [] 0 0 (MQ below (xRd (some (.int r))) ([.ref (G.2.1 51), .int a1, .int a2, .int a3] : List Value).toArray s 0 0 (fun _ => False)) (F0 m 66 ls []) := by
    intro ls l4 l5 hE hl
    unfold x_Model_isWord_66 at hE
    refine lv_iload hx hb d_Model_isWord_66 (lv_at hl 4 rfl) ?_
    refine lv_if_eq (tgt := 83) hx hb d_Model_isWord_68 (by decide) (fun hc68 => ?_) (fun hc68 => ?_)
    · rw [if_pos hc68] at hE
      refine lv_iconst (v := (0 : Int32)) hx hb d_Model_isWord_83 (by decide) ?_
      exact W.zret (v := (0 : Int32)) hx hb hr rfl (fun t ht hW => ⟨by rw [Option.some.inj hE], ht⟩) (fun q h => by cases h) d_Model_isWord_84
    · rw [if_neg hc68] at hE
      refine lv_iload hx hb d_Model_isWord_71 (lv_at hl 5 rfl) ?_
      refine lv_iload_n hx hb d_Model_isWord_73 rfl (lv_at hl 2 rfl) ?_
      refine lv_iload_n hx hb d_Model_isWord_74 rfl (lv_at hl 1 rfl) ?_
      refine lv_isub hx hb d_Model_isWord_75 ?_
      refine lv_icmp_ne (tgt := 83) hx hb d_Model_isWord_76 (by decide) (fun hc76 => ?_) (fun hc76 => ?_)
      · rw [if_neg hc76] at hE
        refine lv_iconst (v := (0 : Int32)) hx hb d_Model_isWord_83 (by decide) ?_
        exact W.zret (v := (0 : Int32)) hx hb hr rfl (fun t ht hW => ⟨by rw [Option.some.inj hE], ht⟩) (fun q h => by cases h) d_Model_isWord_84
      · rw [if_pos hc76] at hE
        refine lv_iconst (v := (1 : Int32)) hx hb d_Model_isWord_79 (by decide) ?_
        refine lv_goto (tgt := 84) hx hb d_Model_isWord_80 (by decide) ?_
        exact W.zret (v := (1 : Int32)) hx hb hr rfl (fun t ht hW => ⟨by rw [Option.some.inj hE], ht⟩) (fun q h => by cases h) d_Model_isWord_84
  have jn58 : ∀ (bk6 : Int32 → Int32 → Option Int32) (hbk6 : ∀ (ls : Array Slot) (l4 : Int32) (l5 : Int32), bk6 l4 l5 = some r → lv_has ls 6 [(0, .ref (G.2.1 51)), (1, .int a1), (2, .int a2), (3, .int a3), (4, .int l4), (5, .int l5)] → W p l e (headSpec (ws_Model_isWord) rm_Model_isWord).room s m ([.ref (G.2.1 51), .int a1, .int a2, .int a3] : List Value).toArray below meth c s.heap [] 0 0 (MQ below (xRd (some (.int r))) ([.ref (G.2.1 51), .int a1, .int a2, .int a3] : List Value).toArray s 0 0 (fun _ => False)) (F0 m 6 ls [])) (ls : Array Slot) (l5 : Int32) (k0 : Int32), x_Model_isWord_58 a1 a2 a3 σ bk6 l5 k0 = some r → lv_has ls 6 [(0, .ref (G.2.1 51)), (1, .int a1), (2, .int a2), (3, .int a3), (5, .int l5)] → W p l e (headSpec (ws_Model_isWord) rm_Model_isWord).room s m ([.ref (G.2.1 51), .int a1, .int a2, .int a3] : List Value).toArray below meth c s.heap [] 0 0 (MQ below (xRd (some (.int r))) ([.ref (G.2.1 51), .int a1, .int a2, .int a3] : List Value).toArray s 0 0 (fun _ => False)) (F0 m 58 ls [.int k0]) := by
    intro bk6 hbk6 ls l5 k0 hE hl
    unfold x_Model_isWord_58 at hE
    refine lv_istore hx hb d_Model_isWord_58 hl (by decide) rfl (fun ls hl => ?_)
    have hl : lv_has ls 6 [(4, .int k0), (0, .ref (G.2.1 51)), (1, .int a1), (2, .int a2), (3, .int a3), (5, .int l5)] := hl
    obtain ⟨v60, e60, hE⟩ := x_letE hE
    refine lv_iinc hx hb d_Model_isWord_60 hl (k := 5) rfl (x_inc v60 e60 (by decide)) (by decide) rfl (fun ls hl => ?_)
    have hl : lv_has ls 6 [(5, .int v60), (4, .int k0), (0, .ref (G.2.1 51)), (1, .int a1), (2, .int a2), (3, .int a3)] := hl
    refine lv_goto (tgt := 6) hx hb d_Model_isWord_63 (by decide) ?_
    exact hbk6 _ _ _ hE (lv_sub hl [2, 3, 4, 5, 1, 0] rfl)
  have jn57 : ∀ (bk6 : Int32 → Int32 → Option Int32) (hbk6 : ∀ (ls : Array Slot) (l4 : Int32) (l5 : Int32), bk6 l4 l5 = some r → lv_has ls 6 [(0, .ref (G.2.1 51)), (1, .int a1), (2, .int a2), (3, .int a3), (4, .int l4), (5, .int l5)] → W p l e (headSpec (ws_Model_isWord) rm_Model_isWord).room s m ([.ref (G.2.1 51), .int a1, .int a2, .int a3] : List Value).toArray below meth c s.heap [] 0 0 (MQ below (xRd (some (.int r))) ([.ref (G.2.1 51), .int a1, .int a2, .int a3] : List Value).toArray s 0 0 (fun _ => False)) (F0 m 6 ls [])) (ls : Array Slot) (l5 : Int32), x_Model_isWord_57 a1 a2 a3 σ bk6 l5 = some r → lv_has ls 6 [(0, .ref (G.2.1 51)), (1, .int a1), (2, .int a2), (3, .int a3), (5, .int l5)] → W p l e (headSpec (ws_Model_isWord) rm_Model_isWord).room s m ([.ref (G.2.1 51), .int a1, .int a2, .int a3] : List Value).toArray below meth c s.heap [] 0 0 (MQ below (xRd (some (.int r))) ([.ref (G.2.1 51), .int a1, .int a2, .int a3] : List Value).toArray s 0 0 (fun _ => False)) (F0 m 57 ls []) := by
    intro bk6 hbk6 ls l5 hE hl
    unfold x_Model_isWord_57 at hE
    refine lv_iconst (v := (0 : Int32)) hx hb d_Model_isWord_57 (by decide) ?_
    exact jn58 _ hbk6 _ _ _ hE (lv_sub hl [0, 1, 2, 3, 4] rfl)
  have jn6 : ∀ (n : Nat) (ls : Array Slot) (l4 : Int32) (l5 : Int32), x_Model_isWord_6 a1 a2 a3 σ n l4 l5 = some r → lv_has ls 6 [(0, .ref (G.2.1 51)), (1, .int a1), (2, .int a2), (3, .int a3), (4, .int l4), (5, .int l5)] → W p l e (headSpec (ws_Model_isWord) rm_Model_isWord).room s m ([.ref (G.2.1 51), .int a1, .int a2, .int a3] : List Value).toArray below meth c s.heap [] 0 0 (MQ below (xRd (some (.int r))) ([.ref (G.2.1 51), .int a1, .int a2, .int a3] : List Value).toArray s 0 0 (fun _ => False)) (F0 m 6 ls []) := by
    intro n
    induction n with
    | zero => intro ls l4 l5 hE; rw [x_Model_isWord_6] at hE; cases hE
    | succ n ih =>
      intro ls l4 l5 hE hl
      rw [x_Model_isWord_6] at hE
      refine lv_aload_n hx hb d_Model_isWord_6 rfl (lv_at hl 0 rfl) ?_
      refine lv_iload_n hx hb d_Model_isWord_7 rfl (lv_at hl 3 rfl) ?_
      refine lv_iload hx hb d_Model_isWord_8 (lv_at hl 5 rfl) ?_
      refine lv_iadd hx hb d_Model_isWord_10 ?_
      obtain ⟨r11, hC11, hE⟩ := x_bind hE
      refine x_callR (W.runV (As := [.int (a3 + l5)]) (rest := []) ⟨hx, hb, hml, hown, hu⟩ (t_Model_letter l G σ (a3 + l5) r11 hC11) (cwV 1 hu (uw_V mw_1215 mw_1217 mw_29 mw_70 mw_1218) rfl rfl rfl hd_Model_letter ⟨Nat.le_of_ble_eq_true rfl, Nat.le_of_ble_eq_true rfl⟩) (x_preV hC hS hw (va_recv hK hw (q := (R_Model, T_Model, 33)) (ci := 10) rfl (x_at (by decide) (xcl_51 G σ)))) rfl rfl hl.1 rfl (lv_room (Nat.le_of_ble_eq_true rfl)) d_Model_isWord_11 ⟨Nat.le_of_ble_eq_true rfl, Nat.le_of_ble_eq_true rfl⟩) ?_
      refine lv_if_eq (tgt := 66) hx hb d_Model_isWord_14 (by decide) (fun hc14 => ?_) (fun hc14 => ?_)
      · rw [if_pos hc14] at hE
        exact jn66 _ _ _ hE (lv_sub hl [0, 1, 2, 3, 4, 5] rfl)
      · rw [if_neg hc14] at hE
        refine lv_iload hx hb d_Model_isWord_17 (lv_at hl 4 rfl) ?_
        refine lv_if_eq (tgt := 66) hx hb d_Model_isWord_19 (by decide) (fun hc19 => ?_) (fun hc19 => ?_)
        · rw [if_pos hc19] at hE
          exact jn66 _ _ _ hE (lv_sub hl [0, 1, 2, 3, 4, 5] rfl)
        · rw [if_neg hc19] at hE
          refine lv_iload_n hx hb d_Model_isWord_22 rfl (lv_at hl 1 rfl) ?_
          refine lv_iload hx hb d_Model_isWord_23 (lv_at hl 5 rfl) ?_
          refine lv_iadd hx hb d_Model_isWord_25 ?_
          refine lv_iload_n hx hb d_Model_isWord_26 rfl (lv_at hl 2 rfl) ?_
          refine lv_icmp_ge (tgt := 57) hx hb d_Model_isWord_27 (by decide) (fun hc27 => ?_) (fun hc27 => ?_)
          · rw [if_pos hc27] at hE
            exact jn57 _ ih _ _ hE (lv_sub hl [0, 1, 2, 3, 5] rfl)
          · rw [if_neg hc27] at hE
            refine lv_aload_n hx hb d_Model_isWord_30 rfl (lv_at hl 0 rfl) ?_
            refine va_get (D := G.1) (cl := xCl) (ci := 10) (v := .ref (G.2.1 59)) (C := R_Model) (T := T_Model) (N := 33) hx hb hu fi_Model hown hK hw 51 (x_at (by decide) (xcl_51 G σ)) rfl 18 (by decide) (hu _ mw_1086) (fun _ h9 => h9) rfl d_Model_isWord_31 ?_
            refine lv_iload_n hx hb d_Model_isWord_34 rfl (lv_at hl 1 rfl) ?_
            refine lv_iload hx hb d_Model_isWord_35 (lv_at hl 5 rfl) ?_
            refine lv_iadd hx hb d_Model_isWord_37 ?_
            obtain ⟨g38, hE⟩ := x_guard hE
            refine va_iald hx hb hK hw 59 0 (x_at (by decide) (xcl_59 G σ)) rfl g38 d_Model_isWord_38 ?_
            obtain ⟨r39, hC39, hE⟩ := x_bind hE
            refine x_callR (W.runS (As := [.int (σ.2.1 59 (a1 + l5).toNatClampNeg)]) (rest := []) ⟨hx, hb, hml, hown, hu⟩ (t_Model_small l G σ (σ.2.1 59 (a1 + l5).toNatClampNeg) r39 hC39) (va_cwS 1 hu (uw_S mw_1200 mw_1201 mw_70 mw_1202) rfl rfl rfl hd_Model_small ⟨Nat.le_of_ble_eq_true rfl, Nat.le_of_ble_eq_true rfl⟩) (x_preS hC hS hw) rfl rfl hl.1 rfl (lv_room (Nat.le_of_ble_eq_true rfl)) d_Model_isWord_39 ⟨Nat.le_of_ble_eq_true rfl, Nat.le_of_ble_eq_true rfl⟩) ?_
            refine lv_aload_n hx hb d_Model_isWord_42 rfl (lv_at hl 0 rfl) ?_
            refine lv_iload_n hx hb d_Model_isWord_43 rfl (lv_at hl 3 rfl) ?_
            refine lv_iload hx hb d_Model_isWord_44 (lv_at hl 5 rfl) ?_
            refine lv_iadd hx hb d_Model_isWord_46 ?_
            obtain ⟨r47, hC47, hE⟩ := x_bind hE
            refine x_callR (W.runV (As := [.int (a3 + l5)]) (rest := [.int r39]) ⟨hx, hb, hml, hown, hu⟩ (t_Model_letter l G σ (a3 + l5) r47 hC47) (cwV 1 hu (uw_V mw_1215 mw_1217 mw_29 mw_70 mw_1218) rfl rfl rfl hd_Model_letter ⟨Nat.le_of_ble_eq_true rfl, Nat.le_of_ble_eq_true rfl⟩) (x_preV hC hS hw (va_recv hK hw (q := (R_Model, T_Model, 33)) (ci := 10) rfl (x_at (by decide) (xcl_51 G σ)))) rfl rfl hl.1 rfl (lv_room (Nat.le_of_ble_eq_true rfl)) d_Model_isWord_47 ⟨Nat.le_of_ble_eq_true rfl, Nat.le_of_ble_eq_true rfl⟩) ?_
            refine lv_icmp_ne (tgt := 57) hx hb d_Model_isWord_50 (by decide) (fun hc50 => ?_) (fun hc50 => ?_)
            · rw [if_neg hc50] at hE
              exact jn57 _ ih _ _ hE (lv_sub hl [0, 1, 2, 3, 5] rfl)
            · rw [if_pos hc50] at hE
              refine lv_iconst (v := (1 : Int32)) hx hb d_Model_isWord_53 (by decide) ?_
              refine lv_goto (tgt := 58) hx hb d_Model_isWord_54 (by decide) ?_
              exact jn58 _ ih _ _ _ hE (lv_sub hl [0, 1, 2, 3, 5] rfl)
  have hl := lv_entry ([.ref (G.2.1 51), .int a1, .int a2, .int a3]) (n := 6) (Nat.le_of_ble_eq_true rfl)
  rw [lg_entry_eq]
  generalize (lg_sl ([.ref (G.2.1 51), .int a1, .int a2, .int a3]) ++ List.replicate (6 - (lg_sl ([.ref (G.2.1 51), .int a1, .int a2, .int a3])).length) Slot.unset).toArray = ls at hl ⊢
  have hl : lv_has ls 6 [(0, .ref (G.2.1 51)), (1, .int a1), (2, .int a2), (3, .int a3)] := hl
  unfold x_Model_isWord at hE
  refine lv_iconst (v := (1 : Int32)) hx hb d_Model_isWord_0 (by decide) ?_
  refine lv_istore hx hb d_Model_isWord_1 hl (by decide) rfl (fun ls hl => ?_)
  have hl : lv_has ls 6 [(4, .int (1 : Int32)), (0, .ref (G.2.1 51)), (1, .int a1), (2, .int a2), (3, .int a3)] := hl
  refine lv_iconst (v := (0 : Int32)) hx hb d_Model_isWord_3 (by decide) ?_
  refine lv_istore hx hb d_Model_isWord_4 hl (by decide) rfl (fun ls hl => ?_)
  have hl : lv_has ls 6 [(5, .int (0 : Int32)), (4, .int (1 : Int32)), (0, .ref (G.2.1 51)), (1, .int a1), (2, .int a2), (3, .int a3)] := hl
  exact jn6 x_fuel _ _ _ hE (lv_sub hl [2, 3, 4, 5, 1, 0] rfl)

def y_Model_isNamed : MethodName := ⟨"PlainOriginModel", "isNamed", "(II)Z"⟩
def ws_Model_isNamed : List Cond := Cond.code y_Model_isNamed prog_14_method_23_code 3 (some .boolean) :: UW
theorem hd_Model_isNamed : y_Model_isNamed.cls = R_Model ∧ y_Model_isNamed.cls ≠ "java/lang/invoke/MethodHandle" ∧ y_Model_isNamed.cls ≠ "java/lang/invoke/VarHandle" ∧ (parseMethodDescriptor y_Model_isNamed.desc).map (fun d => d.parameters.length) = some 2 := by decide +kernel
theorem d_Model_isNamed_0 : decode prog_14_method_23_code 0 = .ok (.aload_n 0, 1) := by decide +kernel
theorem d_Model_isNamed_1 : decode prog_14_method_23_code 1 = .ok (.bipush (80), 2) := by decide +kernel
theorem d_Model_isNamed_3 : decode prog_14_method_23_code 3 = .ok (.iload_n 1, 1) := by decide +kernel
theorem d_Model_isNamed_4 : decode prog_14_method_23_code 4 = .ok (.imul, 1) := by decide +kernel
theorem d_Model_isNamed_5 : decode prog_14_method_23_code 5 = .ok (.bipush (80), 2) := by decide +kernel
theorem d_Model_isNamed_7 : decode prog_14_method_23_code 7 = .ok (.iload_n 1, 1) := by decide +kernel
theorem d_Model_isNamed_8 : decode prog_14_method_23_code 8 = .ok (.imul, 1) := by decide +kernel
theorem d_Model_isNamed_9 : decode prog_14_method_23_code 9 = .ok (.aload_n 0, 1) := by decide +kernel
theorem d_Model_isNamed_10 : decode prog_14_method_23_code 10 = .ok (.getfield 121, 3) := by decide +kernel
theorem d_Model_isNamed_13 : decode prog_14_method_23_code 13 = .ok (.iload_n 1, 1) := by decide +kernel
theorem d_Model_isNamed_14 : decode prog_14_method_23_code 14 = .ok (.iaload, 1) := by decide +kernel
theorem d_Model_isNamed_15 : decode prog_14_method_23_code 15 = .ok (.iadd, 1) := by decide +kernel
theorem d_Model_isNamed_16 : decode prog_14_method_23_code 16 = .ok (.iload_n 2, 1) := by decide +kernel
theorem d_Model_isNamed_17 : decode prog_14_method_23_code 17 = .ok (.invokevirtual 254, 3) := by decide +kernel
theorem d_Model_isNamed_20 : decode prog_14_method_23_code 20 = .ok (.ireturn, 1) := by decide +kernel
def x_Model_isNamed (a1 : Int32) (a2 : Int32) (σ : St) : Option Int32 := (if x_in a1 12 then (Option.bind (x_Model_isWord ((80 : Int32) * a1) (((80 : Int32) * a1) + (σ.2.1 60 a1.toNatClampNeg)) a2 σ) (fun r17 => (if x_bit r17 then some r17 else none))) else none)
abbrev rm_Model_isNamed : Room := { frames := 3, cells := 0, slots := 0, locals := 67 }
set_option maxHeartbeats 4000000 in
set_option maxRecDepth 100000 in
theorem t_Model_isNamed (l : Launch) (G : xG) (σ : St) (a1 : Int32) (a2 : Int32) (r : Int32) (hE : x_Model_isNamed a1 a2 σ = some r) : Met l y_Model_isNamed (ws_Model_isNamed) rm_Model_isNamed (xP G σ [.ref (G.2.1 51), .int a1, .int a2]) (xRd (some (.int r))) 0 0 (fun _ => False) := by
  refine Met.ofW (cc := prog_14_method_23_code) (maxL := 3) (ret := (some .boolean)) (by decide) rfl ?_
  intro p e s m args below meth c s₁ B hml hv
  obtain ⟨rfl, hw, hC⟩ := hv
  have hx := B.exec
  have hb := B.bytes
  have hr := B.returns
  have hu : ∀ w ∈ UW, w.before _ s = true := fun w h => atoms_spec B.pre w (List.mem_cons_of_mem _ h)
  have hown : s.vm.findClass R_Model = some m.cls := findClass_of_methodNamed B.named
  have hlocks := B.notSynchronized
  have hK := hC.1
  have hI := hC.2.1
  have hG := hC.2.2.1
  have hN := hC.2.2.2
  have hS : va_S (xA G) s.heap s.heap [] := va_S.rf
  have hl := lv_entry ([.ref (G.2.1 51), .int a1, .int a2]) (n := 3) (Nat.le_of_ble_eq_true rfl)
  rw [lg_entry_eq]
  generalize (lg_sl ([.ref (G.2.1 51), .int a1, .int a2]) ++ List.replicate (3 - (lg_sl ([.ref (G.2.1 51), .int a1, .int a2])).length) Slot.unset).toArray = ls at hl ⊢
  have hl : lv_has ls 3 [(0, .ref (G.2.1 51)), (1, .int a1), (2, .int a2)] := hl
  unfold x_Model_isNamed at hE
  refine lv_aload_n hx hb d_Model_isNamed_0 rfl (lv_at hl 0 rfl) ?_
  refine lv_bipush (v := (80 : Int32)) hx hb d_Model_isNamed_1 (by decide) ?_
  refine lv_iload_n hx hb d_Model_isNamed_3 rfl (lv_at hl 1 rfl) ?_
  refine lv_imul hx hb d_Model_isNamed_4 ?_
  refine lv_bipush (v := (80 : Int32)) hx hb d_Model_isNamed_5 (by decide) ?_
  refine lv_iload_n hx hb d_Model_isNamed_7 rfl (lv_at hl 1 rfl) ?_
  refine lv_imul hx hb d_Model_isNamed_8 ?_
  refine lv_aload_n hx hb d_Model_isNamed_9 rfl (lv_at hl 0 rfl) ?_
  refine va_get (D := G.1) (cl := xCl) (ci := 10) (v := .ref (G.2.1 60)) (C := R_Model) (T := T_Model) (N := 33) hx hb hu fi_Model hown hK hw 51 (x_at (by decide) (xcl_51 G σ)) rfl 19 (by decide) (hu _ mw_1087) (fun _ h9 => h9) rfl d_Model_isNamed_10 ?_
  refine lv_iload_n hx hb d_Model_isNamed_13 rfl (lv_at hl 1 rfl) ?_
  obtain ⟨g14, hE⟩ := x_guard hE
  refine va_iald hx hb hK hw 60 0 (x_at (by decide) (xcl_60 G σ)) rfl g14 d_Model_isNamed_14 ?_
  refine lv_iadd hx hb d_Model_isNamed_15 ?_
  refine lv_iload_n hx hb d_Model_isNamed_16 rfl (lv_at hl 2 rfl) ?_
  obtain ⟨r17, hC17, hE⟩ := x_bind hE
  refine x_callR (W.runV (As := [.int ((80 : Int32) * a1), .int (((80 : Int32) * a1) + (σ.2.1 60 a1.toNatClampNeg)), .int a2]) (rest := []) ⟨hx, hb, hml, hown, hu⟩ (t_Model_isWord l G σ ((80 : Int32) * a1) (((80 : Int32) * a1) + (σ.2.1 60 a1.toNatClampNeg)) a2 r17 hC17) (cwV 3 hu (uw_V mw_1251 mw_1253 mw_38 mw_70 mw_1254) rfl rfl rfl hd_Model_isWord ⟨Nat.le_of_ble_eq_true rfl, Nat.le_of_ble_eq_true rfl⟩) (x_preV hC hS hw (va_recv hK hw (q := (R_Model, T_Model, 33)) (ci := 10) rfl (x_at (by decide) (xcl_51 G σ)))) rfl rfl hl.1 rfl (lv_room (Nat.le_of_ble_eq_true rfl)) d_Model_isNamed_17 ⟨Nat.le_of_ble_eq_true rfl, Nat.le_of_ble_eq_true rfl⟩) ?_
  obtain ⟨g20, hE⟩ := x_guard hE
  exact W.zret (v := r17) hx hb hr (x_nz g20) (fun t ht hW => ⟨by rw [Option.some.inj hE], ht⟩) (fun q h => by cases h) d_Model_isNamed_20

def y_Model_count : MethodName := ⟨"PlainOriginModel", "count", "(I)I"⟩
def ws_Model_count : List Cond := Cond.code y_Model_count prog_14_method_24_code 4 (some .int) :: UW
theorem hd_Model_count : y_Model_count.cls = R_Model ∧ y_Model_count.cls ≠ "java/lang/invoke/MethodHandle" ∧ y_Model_count.cls ≠ "java/lang/invoke/VarHandle" ∧ (parseMethodDescriptor y_Model_count.desc).map (fun d => d.parameters.length) = some 1 := by decide +kernel
theorem d_Model_count_0 : decode prog_14_method_24_code 0 = .ok (.iconst 0, 1) := by decide +kernel
theorem d_Model_count_1 : decode prog_14_method_24_code 1 = .ok (.istore_n 2, 1) := by decide +kernel
theorem d_Model_count_2 : decode prog_14_method_24_code 2 = .ok (.iconst 0, 1) := by decide +kernel
theorem d_Model_count_3 : decode prog_14_method_24_code 3 = .ok (.istore_n 3, 1) := by decide +kernel
theorem d_Model_count_4 : decode prog_14_method_24_code 4 = .ok (.iload_n 3, 1) := by decide +kernel
theorem d_Model_count_5 : decode prog_14_method_24_code 5 = .ok (.aload_n 0, 1) := by decide +kernel
theorem d_Model_count_6 : decode prog_14_method_24_code 6 = .ok (.getfield 228, 3) := by decide +kernel
theorem d_Model_count_9 : decode prog_14_method_24_code 9 = .ok (.if_icmp .ge (26), 3) := by decide +kernel
theorem d_Model_count_12 : decode prog_14_method_24_code 12 = .ok (.aload_n 0, 1) := by decide +kernel
theorem d_Model_count_13 : decode prog_14_method_24_code 13 = .ok (.iload_n 3, 1) := by decide +kernel
theorem d_Model_count_14 : decode prog_14_method_24_code 14 = .ok (.iload_n 1, 1) := by decide +kernel
theorem d_Model_count_15 : decode prog_14_method_24_code 15 = .ok (.invokevirtual 257, 3) := by decide +kernel
theorem d_Model_count_18 : decode prog_14_method_24_code 18 = .ok (.ifCond .eq (9), 3) := by decide +kernel
theorem d_Model_count_21 : decode prog_14_method_24_code 21 = .ok (.iload_n 2, 1) := by decide +kernel
theorem d_Model_count_22 : decode prog_14_method_24_code 22 = .ok (.iconst 1, 1) := by decide +kernel
theorem d_Model_count_23 : decode prog_14_method_24_code 23 = .ok (.iadd, 1) := by decide +kernel
theorem d_Model_count_24 : decode prog_14_method_24_code 24 = .ok (.goto (4), 3) := by decide +kernel
theorem d_Model_count_27 : decode prog_14_method_24_code 27 = .ok (.iload_n 2, 1) := by decide +kernel
theorem d_Model_count_28 : decode prog_14_method_24_code 28 = .ok (.istore_n 2, 1) := by decide +kernel
theorem d_Model_count_29 : decode prog_14_method_24_code 29 = .ok (.iinc 3 (1), 3) := by decide +kernel
theorem d_Model_count_32 : decode prog_14_method_24_code 32 = .ok (.goto (-28), 3) := by decide +kernel
theorem d_Model_count_35 : decode prog_14_method_24_code 35 = .ok (.iload_n 2, 1) := by decide +kernel
theorem d_Model_count_36 : decode prog_14_method_24_code 36 = .ok (.ireturn, 1) := by decide +kernel
def x_Model_count_28 (a1 : Int32) (σ : St) (bk4 : Int32 → Int32 → Option Int32) (l3 : Int32) (k0 : Int32) : Option Int32 := (x_let (l3 + (1 : Int32)) (fun (v29 : Int32) => bk4 k0 v29))
def x_Model_count_4 (a1 : Int32) (σ : St) : Nat → Int32 → Int32 → Option Int32
  | 0, _, _ => none
  | n + 1, l2, l3 => (if (σ.1 51 17) ≤ l3 then some l2 else (Option.bind (x_Model_isNamed l3 a1 σ) (fun r15 => (if r15 = 0 then x_Model_count_28 a1 σ (x_Model_count_4 a1 σ n) l3 l2 else x_Model_count_28 a1 σ (x_Model_count_4 a1 σ n) l3 (l2 + (1 : Int32))))))
def x_Model_count (a1 : Int32) (σ : St) : Option Int32 := x_Model_count_4 a1 σ x_fuel (0 : Int32) (0 : Int32)
abbrev rm_Model_count : Room := { frames := 4, cells := 0, slots := 0, locals := 89 }
set_option maxHeartbeats 4000000 in
set_option maxRecDepth 100000 in
theorem t_Model_count (l : Launch) (G : xG) (σ : St) (a1 : Int32) (r : Int32) (hE : x_Model_count a1 σ = some r) : Met l y_Model_count (ws_Model_count) rm_Model_count (xP G σ [.ref (G.2.1 51), .int a1]) (xRd (some (.int r))) 0 0 (fun _ => False) := by
  refine Met.ofW (cc := prog_14_method_24_code) (maxL := 4) (ret := (some .int)) (by decide) rfl ?_
  intro p e s m args below meth c s₁ B hml hv
  obtain ⟨rfl, hw, hC⟩ := hv
  have hx := B.exec
  have hb := B.bytes
  have hr := B.returns
  have hu : ∀ w ∈ UW, w.before _ s = true := fun w h => atoms_spec B.pre w (List.mem_cons_of_mem _ h)
  have hown : s.vm.findClass R_Model = some m.cls := findClass_of_methodNamed B.named
  have hlocks := B.notSynchronized
  have hK := hC.1
  have hI := hC.2.1
  have hG := hC.2.2.1
  have hN := hC.2.2.2
  have hS : va_S (xA G) s.heap s.heap [] := va_S.rf
  have jn28 : ∀ (bk4 : Int32 → Int32 → Option Int32) (hbk4 : ∀ (ls : Array Slot) (l2 : Int32) (l3 : Int32), bk4 l2 l3 = some r → lv_has ls 4 [(0, .ref (G.2.1 51)), (1, .int a1), (2, .int l2), (3, .int l3)] → W p l e (headSpec (ws_Model_count) rm_Model_count).room s m ([.ref (G.2.1 51), .int a1] : List Value).toArray below meth c s.heap [] 0 0 (MQ below (xRd (some (.int r))) ([.ref (G.2.1 51), .int a1] : List Value).toArray s 0 0 (fun _ => False)) (F0 m 4 ls [])) (ls : Array Slot) (l3 : Int32) (k0 : Int32), x_Model_count_28 a1 σ bk4 l3 k0 = some r → lv_has ls 4 [(0, .ref (G.2.1 51)), (1, .int a1), (3, .int l3)] → W p l e (headSpec (ws_Model_count) rm_Model_count).room s m ([.ref (G.2.1 51), .int a1] : List Value).toArray below meth c s.heap [] 0 0 (MQ below (xRd (some (.int r))) ([.ref (G.2.1 51), .int a1] : List Value).toArray s 0 0 (fun _ => False)) (F0 m 28 ls [.int k0]) := by
    intro bk4 hbk4 ls l3 k0 hE hl
    unfold x_Model_count_28 at hE
    refine lv_istore_n hx hb d_Model_count_28 rfl hl (by decide) rfl (fun ls hl => ?_)
    have hl : lv_has ls 4 [(2, .int k0), (0, .ref (G.2.1 51)), (1, .int a1), (3, .int l3)] := hl
    obtain ⟨v29, e29, hE⟩ := x_letE hE
    refine lv_iinc hx hb d_Model_count_29 hl (k := 3) rfl (x_inc v29 e29 (by decide)) (by decide) rfl (fun ls hl => ?_)
    have hl : lv_has ls 4 [(3, .int v29), (2, .int k0), (0, .ref (G.2.1 51)), (1, .int a1)] := hl
    refine lv_goto (tgt := 4) hx hb d_Model_count_32 (by decide) ?_
    exact hbk4 _ _ _ hE (lv_sub hl [2, 3, 1, 0] rfl)
  have jn4 : ∀ (n : Nat) (ls : Array Slot) (l2 : Int32) (l3 : Int32), x_Model_count_4 a1 σ n l2 l3 = some r → lv_has ls 4 [(0, .ref (G.2.1 51)), (1, .int a1), (2, .int l2), (3, .int l3)] → W p l e (headSpec (ws_Model_count) rm_Model_count).room s m ([.ref (G.2.1 51), .int a1] : List Value).toArray below meth c s.heap [] 0 0 (MQ below (xRd (some (.int r))) ([.ref (G.2.1 51), .int a1] : List Value).toArray s 0 0 (fun _ => False)) (F0 m 4 ls []) := by
    intro n
    induction n with
    | zero => intro ls l2 l3 hE; rw [x_Model_count_4] at hE; cases hE
    | succ n ih =>
      intro ls l2 l3 hE hl
      rw [x_Model_count_4] at hE
      refine lv_iload_n hx hb d_Model_count_4 rfl (lv_at hl 3 rfl) ?_
      refine lv_aload_n hx hb d_Model_count_5 rfl (lv_at hl 0 rfl) ?_
      refine va_get (D := G.1) (cl := xCl) (ci := 10) (v := .int (σ.1 51 17)) (C := R_Model) (T := T_Model) (N := 33) hx hb hu fi_Model hown hK hw 51 (x_at (by decide) (xcl_51 G σ)) rfl 17 (by decide) (hu _ mw_1085) (fun _ h9 => h9) rfl d_Model_count_6 ?_
      refine lv_icmp_ge (tgt := 35) hx hb d_Model_count_9 (by decide) (fun hc9 => ?_) (fun hc9 => ?_)
      · rw [if_pos hc9] at hE
        refine lv_iload_n hx hb d_Model_count_35 rfl (lv_at hl 2 rfl) ?_
        exact W.iret (v := l2) hx hb hr (fun t ht hW => ⟨by rw [Option.some.inj hE], ht⟩) (fun q h => by cases h) d_Model_count_36
      · rw [if_neg hc9] at hE
        refine lv_aload_n hx hb d_Model_count_12 rfl (lv_at hl 0 rfl) ?_
        refine lv_iload_n hx hb d_Model_count_13 rfl (lv_at hl 3 rfl) ?_
        refine lv_iload_n hx hb d_Model_count_14 rfl (lv_at hl 1 rfl) ?_
        obtain ⟨r15, hC15, hE⟩ := x_bind hE
        refine x_callR (W.runV (As := [.int l3, .int a1]) (rest := []) ⟨hx, hb, hml, hown, hu⟩ (t_Model_isNamed l G σ l3 a1 r15 hC15) (cwV 2 hu (uw_V mw_1247 mw_1249 mw_37 mw_70 mw_1250) rfl rfl rfl hd_Model_isNamed ⟨Nat.le_of_ble_eq_true rfl, Nat.le_of_ble_eq_true rfl⟩) (x_preV hC hS hw (va_recv hK hw (q := (R_Model, T_Model, 33)) (ci := 10) rfl (x_at (by decide) (xcl_51 G σ)))) rfl rfl hl.1 rfl (lv_room (Nat.le_of_ble_eq_true rfl)) d_Model_count_15 ⟨Nat.le_of_ble_eq_true rfl, Nat.le_of_ble_eq_true rfl⟩) ?_
        refine lv_if_eq (tgt := 27) hx hb d_Model_count_18 (by decide) (fun hc18 => ?_) (fun hc18 => ?_)
        · rw [if_pos hc18] at hE
          refine lv_iload_n hx hb d_Model_count_27 rfl (lv_at hl 2 rfl) ?_
          exact jn28 _ ih _ _ _ hE (lv_sub hl [0, 1, 3] rfl)
        · rw [if_neg hc18] at hE
          refine lv_iload_n hx hb d_Model_count_21 rfl (lv_at hl 2 rfl) ?_
          refine lv_iconst (v := (1 : Int32)) hx hb d_Model_count_22 (by decide) ?_
          refine lv_iadd hx hb d_Model_count_23 ?_
          refine lv_goto (tgt := 28) hx hb d_Model_count_24 (by decide) ?_
          exact jn28 _ ih _ _ _ hE (lv_sub hl [0, 1, 3] rfl)
  have hl := lv_entry ([.ref (G.2.1 51), .int a1]) (n := 4) (Nat.le_of_ble_eq_true rfl)
  rw [lg_entry_eq]
  generalize (lg_sl ([.ref (G.2.1 51), .int a1]) ++ List.replicate (4 - (lg_sl ([.ref (G.2.1 51), .int a1])).length) Slot.unset).toArray = ls at hl ⊢
  have hl : lv_has ls 4 [(0, .ref (G.2.1 51)), (1, .int a1)] := hl
  unfold x_Model_count at hE
  refine lv_iconst (v := (0 : Int32)) hx hb d_Model_count_0 (by decide) ?_
  refine lv_istore_n hx hb d_Model_count_1 rfl hl (by decide) rfl (fun ls hl => ?_)
  have hl : lv_has ls 4 [(2, .int (0 : Int32)), (0, .ref (G.2.1 51)), (1, .int a1)] := hl
  refine lv_iconst (v := (0 : Int32)) hx hb d_Model_count_2 (by decide) ?_
  refine lv_istore_n hx hb d_Model_count_3 rfl hl (by decide) rfl (fun ls hl => ?_)
  have hl : lv_has ls 4 [(3, .int (0 : Int32)), (2, .int (0 : Int32)), (0, .ref (G.2.1 51)), (1, .int a1)] := hl
  exact jn4 x_fuel _ _ _ hE (lv_sub hl [2, 3, 1, 0] rfl)

def y_Model_isBlank : MethodName := ⟨"PlainOriginModel", "isBlank", "(I)Z"⟩
def ws_Model_isBlank : List Cond := Cond.code y_Model_isBlank prog_14_method_25_code 2 (some .boolean) :: UW
theorem hd_Model_isBlank : y_Model_isBlank.cls = R_Model ∧ y_Model_isBlank.cls ≠ "java/lang/invoke/MethodHandle" ∧ y_Model_isBlank.cls ≠ "java/lang/invoke/VarHandle" ∧ (parseMethodDescriptor y_Model_isBlank.desc).map (fun d => d.parameters.length) = some 1 := by decide +kernel
theorem d_Model_isBlank_0 : decode prog_14_method_25_code 0 = .ok (.aload_n 0, 1) := by decide +kernel
theorem d_Model_isBlank_1 : decode prog_14_method_25_code 1 = .ok (.getfield 118, 3) := by decide +kernel
theorem d_Model_isBlank_4 : decode prog_14_method_25_code 4 = .ok (.iload_n 1, 1) := by decide +kernel
theorem d_Model_isBlank_5 : decode prog_14_method_25_code 5 = .ok (.iaload, 1) := by decide +kernel
theorem d_Model_isBlank_6 : decode prog_14_method_25_code 6 = .ok (.bipush (32), 2) := by decide +kernel
theorem d_Model_isBlank_8 : decode prog_14_method_25_code 8 = .ok (.if_icmp .eq (14), 3) := by decide +kernel
theorem d_Model_isBlank_11 : decode prog_14_method_25_code 11 = .ok (.aload_n 0, 1) := by decide +kernel
theorem d_Model_isBlank_12 : decode prog_14_method_25_code 12 = .ok (.getfield 118, 3) := by decide +kernel
theorem d_Model_isBlank_15 : decode prog_14_method_25_code 15 = .ok (.iload_n 1, 1) := by decide +kernel
theorem d_Model_isBlank_16 : decode prog_14_method_25_code 16 = .ok (.iaload, 1) := by decide +kernel
theorem d_Model_isBlank_17 : decode prog_14_method_25_code 17 = .ok (.bipush (9), 2) := by decide +kernel
theorem d_Model_isBlank_19 : decode prog_14_method_25_code 19 = .ok (.if_icmp .ne (7), 3) := by decide +kernel
theorem d_Model_isBlank_22 : decode prog_14_method_25_code 22 = .ok (.iconst 1, 1) := by decide +kernel
theorem d_Model_isBlank_23 : decode prog_14_method_25_code 23 = .ok (.goto (4), 3) := by decide +kernel
theorem d_Model_isBlank_26 : decode prog_14_method_25_code 26 = .ok (.iconst 0, 1) := by decide +kernel
theorem d_Model_isBlank_27 : decode prog_14_method_25_code 27 = .ok (.ireturn, 1) := by decide +kernel
def x_Model_isBlank (a1 : Int32) (σ : St) : Option Int32 := (if x_in a1 960 then (if (σ.2.1 59 a1.toNatClampNeg) = (32 : Int32) then some (1 : Int32) else (if x_in a1 960 then (if (σ.2.1 59 a1.toNatClampNeg) = (9 : Int32) then some (1 : Int32) else some (0 : Int32)) else none)) else none)
abbrev rm_Model_isBlank : Room := { frames := 0, cells := 0, slots := 0, locals := 0 }
set_option maxHeartbeats 4000000 in
set_option maxRecDepth 100000 in
theorem t_Model_isBlank (l : Launch) (G : xG) (σ : St) (a1 : Int32) (r : Int32) (hE : x_Model_isBlank a1 σ = some r) : Met l y_Model_isBlank (ws_Model_isBlank) rm_Model_isBlank (xP G σ [.ref (G.2.1 51), .int a1]) (xRd (some (.int r))) 0 0 (fun _ => False) := by
  refine Met.ofW (cc := prog_14_method_25_code) (maxL := 2) (ret := (some .boolean)) (by decide) rfl ?_
  intro p e s m args below meth c s₁ B hml hv
  obtain ⟨rfl, hw, hC⟩ := hv
  have hx := B.exec
  have hb := B.bytes
  have hr := B.returns
  have hu : ∀ w ∈ UW, w.before _ s = true := fun w h => atoms_spec B.pre w (List.mem_cons_of_mem _ h)
  have hown : s.vm.findClass R_Model = some m.cls := findClass_of_methodNamed B.named
  have hlocks := B.notSynchronized
  have hK := hC.1
  have hI := hC.2.1
  have hG := hC.2.2.1
  have hN := hC.2.2.2
  have hS : va_S (xA G) s.heap s.heap [] := va_S.rf
  have hl := lv_entry ([.ref (G.2.1 51), .int a1]) (n := 2) (Nat.le_of_ble_eq_true rfl)
  rw [lg_entry_eq]
  generalize (lg_sl ([.ref (G.2.1 51), .int a1]) ++ List.replicate (2 - (lg_sl ([.ref (G.2.1 51), .int a1])).length) Slot.unset).toArray = ls at hl ⊢
  have hl : lv_has ls 2 [(0, .ref (G.2.1 51)), (1, .int a1)] := hl
  unfold x_Model_isBlank at hE
  refine lv_aload_n hx hb d_Model_isBlank_0 rfl (lv_at hl 0 rfl) ?_
  refine va_get (D := G.1) (cl := xCl) (ci := 10) (v := .ref (G.2.1 59)) (C := R_Model) (T := T_Model) (N := 33) hx hb hu fi_Model hown hK hw 51 (x_at (by decide) (xcl_51 G σ)) rfl 18 (by decide) (hu _ mw_1086) (fun _ h9 => h9) rfl d_Model_isBlank_1 ?_
  refine lv_iload_n hx hb d_Model_isBlank_4 rfl (lv_at hl 1 rfl) ?_
  obtain ⟨g5, hE⟩ := x_guard hE
  refine va_iald hx hb hK hw 59 0 (x_at (by decide) (xcl_59 G σ)) rfl g5 d_Model_isBlank_5 ?_
  refine lv_bipush (v := (32 : Int32)) hx hb d_Model_isBlank_6 (by decide) ?_
  refine lv_icmp_eq (tgt := 22) hx hb d_Model_isBlank_8 (by decide) (fun hc8 => ?_) (fun hc8 => ?_)
  · rw [if_pos hc8] at hE
    refine lv_iconst (v := (1 : Int32)) hx hb d_Model_isBlank_22 (by decide) ?_
    refine lv_goto (tgt := 27) hx hb d_Model_isBlank_23 (by decide) ?_
    exact W.zret (v := (1 : Int32)) hx hb hr rfl (fun t ht hW => ⟨by rw [Option.some.inj hE], ht⟩) (fun q h => by cases h) d_Model_isBlank_27
  · rw [if_neg hc8] at hE
    refine lv_aload_n hx hb d_Model_isBlank_11 rfl (lv_at hl 0 rfl) ?_
    refine va_get (D := G.1) (cl := xCl) (ci := 10) (v := .ref (G.2.1 59)) (C := R_Model) (T := T_Model) (N := 33) hx hb hu fi_Model hown hK hw 51 (x_at (by decide) (xcl_51 G σ)) rfl 18 (by decide) (hu _ mw_1086) (fun _ h9 => h9) rfl d_Model_isBlank_12 ?_
    refine lv_iload_n hx hb d_Model_isBlank_15 rfl (lv_at hl 1 rfl) ?_
    obtain ⟨g16, hE⟩ := x_guard hE
    refine va_iald hx hb hK hw 59 0 (x_at (by decide) (xcl_59 G σ)) rfl g16 d_Model_isBlank_16 ?_
    refine lv_bipush (v := (9 : Int32)) hx hb d_Model_isBlank_17 (by decide) ?_
    refine lv_icmp_ne (tgt := 26) hx hb d_Model_isBlank_19 (by decide) (fun hc19 => ?_) (fun hc19 => ?_)
    · rw [if_neg hc19] at hE
      refine lv_iconst (v := (0 : Int32)) hx hb d_Model_isBlank_26 (by decide) ?_
      exact W.zret (v := (0 : Int32)) hx hb hr rfl (fun t ht hW => ⟨by rw [Option.some.inj hE], ht⟩) (fun q h => by cases h) d_Model_isBlank_27
    · rw [if_pos hc19] at hE
      refine lv_iconst (v := (1 : Int32)) hx hb d_Model_isBlank_22 (by decide) ?_
      refine lv_goto (tgt := 27) hx hb d_Model_isBlank_23 (by decide) ?_
      exact W.zret (v := (1 : Int32)) hx hb hr rfl (fun t ht hW => ⟨by rw [Option.some.inj hE], ht⟩) (fun q h => by cases h) d_Model_isBlank_27

def y_Model_notice : MethodName := ⟨"PlainOriginModel", "notice", "(II)V"⟩
def ws_Model_notice : List Cond := Cond.code y_Model_notice prog_14_method_26_code 5 none :: UW
theorem hd_Model_notice : y_Model_notice.cls = R_Model ∧ y_Model_notice.cls ≠ "java/lang/invoke/MethodHandle" ∧ y_Model_notice.cls ≠ "java/lang/invoke/VarHandle" ∧ (parseMethodDescriptor y_Model_notice.desc).map (fun d => d.parameters.length) = some 2 := by decide +kernel
theorem d_Model_notice_0 : decode prog_14_method_26_code 0 = .ok (.iload_n 1, 1) := by decide +kernel
theorem d_Model_notice_1 : decode prog_14_method_26_code 1 = .ok (.istore_n 3, 1) := by decide +kernel
theorem d_Model_notice_2 : decode prog_14_method_26_code 2 = .ok (.iload_n 2, 1) := by decide +kernel
theorem d_Model_notice_3 : decode prog_14_method_26_code 3 = .ok (.istore 4, 2) := by decide +kernel
theorem d_Model_notice_5 : decode prog_14_method_26_code 5 = .ok (.iload_n 3, 1) := by decide +kernel
theorem d_Model_notice_6 : decode prog_14_method_26_code 6 = .ok (.iload 4, 2) := by decide +kernel
theorem d_Model_notice_8 : decode prog_14_method_26_code 8 = .ok (.if_icmp .ge (17), 3) := by decide +kernel
theorem d_Model_notice_11 : decode prog_14_method_26_code 11 = .ok (.aload_n 0, 1) := by decide +kernel
theorem d_Model_notice_12 : decode prog_14_method_26_code 12 = .ok (.iload_n 3, 1) := by decide +kernel
theorem d_Model_notice_13 : decode prog_14_method_26_code 13 = .ok (.invokevirtual 260, 3) := by decide +kernel
theorem d_Model_notice_16 : decode prog_14_method_26_code 16 = .ok (.ifCond .eq (9), 3) := by decide +kernel
theorem d_Model_notice_19 : decode prog_14_method_26_code 19 = .ok (.iinc 3 (1), 3) := by decide +kernel
theorem d_Model_notice_22 : decode prog_14_method_26_code 22 = .ok (.goto (-17), 3) := by decide +kernel
theorem d_Model_notice_25 : decode prog_14_method_26_code 25 = .ok (.iload 4, 2) := by decide +kernel
theorem d_Model_notice_27 : decode prog_14_method_26_code 27 = .ok (.iload_n 3, 1) := by decide +kernel
theorem d_Model_notice_28 : decode prog_14_method_26_code 28 = .ok (.if_icmp .le (20), 3) := by decide +kernel
theorem d_Model_notice_31 : decode prog_14_method_26_code 31 = .ok (.aload_n 0, 1) := by decide +kernel
theorem d_Model_notice_32 : decode prog_14_method_26_code 32 = .ok (.iload 4, 2) := by decide +kernel
theorem d_Model_notice_34 : decode prog_14_method_26_code 34 = .ok (.iconst 1, 1) := by decide +kernel
theorem d_Model_notice_35 : decode prog_14_method_26_code 35 = .ok (.isub, 1) := by decide +kernel
theorem d_Model_notice_36 : decode prog_14_method_26_code 36 = .ok (.invokevirtual 260, 3) := by decide +kernel
theorem d_Model_notice_39 : decode prog_14_method_26_code 39 = .ok (.ifCond .eq (9), 3) := by decide +kernel
theorem d_Model_notice_42 : decode prog_14_method_26_code 42 = .ok (.iinc 4 (-1), 3) := by decide +kernel
theorem d_Model_notice_45 : decode prog_14_method_26_code 45 = .ok (.goto (-20), 3) := by decide +kernel
theorem d_Model_notice_48 : decode prog_14_method_26_code 48 = .ok (.iload 4, 2) := by decide +kernel
theorem d_Model_notice_50 : decode prog_14_method_26_code 50 = .ok (.iload_n 3, 1) := by decide +kernel
theorem d_Model_notice_51 : decode prog_14_method_26_code 51 = .ok (.if_icmp .le (34), 3) := by decide +kernel
theorem d_Model_notice_54 : decode prog_14_method_26_code 54 = .ok (.aload_n 0, 1) := by decide +kernel
theorem d_Model_notice_55 : decode prog_14_method_26_code 55 = .ok (.getfield 130, 3) := by decide +kernel
theorem d_Model_notice_58 : decode prog_14_method_26_code 58 = .ok (.aload_n 0, 1) := by decide +kernel
theorem d_Model_notice_59 : decode prog_14_method_26_code 59 = .ok (.getfield 263, 3) := by decide +kernel
theorem d_Model_notice_62 : decode prog_14_method_26_code 62 = .ok (.iload_n 3, 1) := by decide +kernel
theorem d_Model_notice_63 : decode prog_14_method_26_code 63 = .ok (.iastore, 1) := by decide +kernel
theorem d_Model_notice_64 : decode prog_14_method_26_code 64 = .ok (.aload_n 0, 1) := by decide +kernel
theorem d_Model_notice_65 : decode prog_14_method_26_code 65 = .ok (.getfield 133, 3) := by decide +kernel
theorem d_Model_notice_68 : decode prog_14_method_26_code 68 = .ok (.aload_n 0, 1) := by decide +kernel
theorem d_Model_notice_69 : decode prog_14_method_26_code 69 = .ok (.getfield 263, 3) := by decide +kernel
theorem d_Model_notice_72 : decode prog_14_method_26_code 72 = .ok (.iload 4, 2) := by decide +kernel
theorem d_Model_notice_74 : decode prog_14_method_26_code 74 = .ok (.iastore, 1) := by decide +kernel
theorem d_Model_notice_75 : decode prog_14_method_26_code 75 = .ok (.aload_n 0, 1) := by decide +kernel
theorem d_Model_notice_76 : decode prog_14_method_26_code 76 = .ok (.dup, 1) := by decide +kernel
theorem d_Model_notice_77 : decode prog_14_method_26_code 77 = .ok (.getfield 263, 3) := by decide +kernel
theorem d_Model_notice_80 : decode prog_14_method_26_code 80 = .ok (.iconst 1, 1) := by decide +kernel
theorem d_Model_notice_81 : decode prog_14_method_26_code 81 = .ok (.iadd, 1) := by decide +kernel
theorem d_Model_notice_82 : decode prog_14_method_26_code 82 = .ok (.putfield 263, 3) := by decide +kernel
theorem d_Model_notice_85 : decode prog_14_method_26_code 85 = .ok (.return_, 1) := by decide +kernel
def x_Model_notice_48 (a1 : Int32) (a2 : Int32) (l3 : Int32) (l4 : Int32) (σ : St) : Option St := (if l4 ≤ l3 then some σ else (if x_in (σ.1 51 26) 512 then (x_let (x_updM σ 63 (σ.1 51 26).toNatClampNeg l3) (fun (s63 : St) => (if x_in (s63.1 51 26) 512 then (x_let (x_updM s63 64 (s63.1 51 26).toNatClampNeg l4) (fun (s74 : St) => (x_let (x_updR s74 51 26 ((s74.1 51 26) + (1 : Int32))) (fun (s82 : St) => some s82)))) else none))) else none))
def x_Model_notice_25 (a1 : Int32) (a2 : Int32) : Nat → Int32 → Int32 → St → Option St
  | 0, _, _, _ => none
  | n + 1, l3, l4, σ => (if l4 ≤ l3 then x_Model_notice_48 a1 a2 l3 l4 σ else (Option.bind (x_Model_isBlank (l4 - (1 : Int32)) σ) (fun r36 => (if r36 = 0 then x_Model_notice_48 a1 a2 l3 l4 σ else (x_let (l4 + ((-1) : Int32)) (fun (v42 : Int32) => x_Model_notice_25 a1 a2 n l3 v42 σ))))))
def x_Model_notice_5 (a1 : Int32) (a2 : Int32) : Nat → Int32 → Int32 → St → Option St
  | 0, _, _, _ => none
  | n + 1, l3, l4, σ => (if l4 ≤ l3 then x_Model_notice_25 a1 a2 x_fuel l3 l4 σ else (Option.bind (x_Model_isBlank l3 σ) (fun r13 => (if r13 = 0 then x_Model_notice_25 a1 a2 x_fuel l3 l4 σ else (x_let (l3 + (1 : Int32)) (fun (v19 : Int32) => x_Model_notice_5 a1 a2 n v19 l4 σ))))))
def x_Model_notice (a1 : Int32) (a2 : Int32) (σ : St) : Option St := x_Model_notice_5 a1 a2 x_fuel a1 a2 σ
abbrev rm_Model_notice : Room := { frames := 1, cells := 0, slots := 0, locals := 21 }
set_option maxHeartbeats 4000000 in
set_option maxRecDepth 100000 in
theorem t_Model_notice (l : Launch) (G : xG) (σ : St) (a1 : Int32) (a2 : Int32) (σ' : St) (hE : x_Model_notice a1 a2 σ = some σ') : Met l y_Model_notice (ws_Model_notice) rm_Model_notice (xP G σ [.ref (G.2.1 51), .int a1, .int a2]) (xQ G none σ') 0 0 (xA G) := by
  refine Met.ofW (cc := prog_14_method_26_code) (maxL := 5) (ret := none) (by decide) rfl ?_
  intro p e s m args below meth c s₁ B hml hv
  obtain ⟨rfl, hw, hC⟩ := hv
  have hx := B.exec
  have hb := B.bytes
  have hr := B.returns
  have hu : ∀ w ∈ UW, w.before _ s = true := fun w h => atoms_spec B.pre w (List.mem_cons_of_mem _ h)
  have hown : s.vm.findClass R_Model = some m.cls := findClass_of_methodNamed B.named
  have hlocks := B.notSynchronized
  have hK := hC.1
  have hI := hC.2.1
  have hG := hC.2.2.1
  have hN := hC.2.2.2
  have hS : va_S (xA G) s.heap s.heap [] := va_S.rf
  have jn48 : ∀ (ls : Array Slot) (H : Heap) (locs : List Loc) (σ : St) (l3 : Int32) (l4 : Int32), x_Model_notice_48 a1 a2 l3 l4 σ = some σ' → lv_has ls 5 [(0, .ref (G.2.1 51)), (1, .int a1), (2, .int a2), (3, .int l3), (4, .int l4)] → xw G σ H → va_S (xA G) s.heap H locs → W p l e (headSpec (ws_Model_notice) rm_Model_notice).room s m ([.ref (G.2.1 51), .int a1, .int a2] : List Value).toArray below meth c H locs 0 0 (MQ below (xQ G none σ') ([.ref (G.2.1 51), .int a1, .int a2] : List Value).toArray s 0 0 (xA G)) (F0 m 48 ls []) := by
    intro ls H locs σ l3 l4 hE hl hw hS
    unfold x_Model_notice_48 at hE
    refine lv_iload hx hb d_Model_notice_48 (lv_at hl 4 rfl) ?_
    refine lv_iload_n hx hb d_Model_notice_50 rfl (lv_at hl 3 rfl) ?_
    refine lv_icmp_le (tgt := 85) hx hb d_Model_notice_51 (by decide) (fun hc51 => ?_) (fun hc51 => ?_)
    · rw [if_pos hc51] at hE
      have e1 := Option.some.inj hE
      exact W.vret hx hb hr (fun t ht hW => ⟨rfl, by rw [ht, ← e1]; exact hw, hS.F ht⟩) hS.2.2 d_Model_notice_85
    · rw [if_neg hc51] at hE
      refine lv_aload_n hx hb d_Model_notice_54 rfl (lv_at hl 0 rfl) ?_
      refine va_get (D := G.1) (cl := xCl) (ci := 10) (v := .ref (G.2.1 63)) (C := R_Model) (T := T_Model) (N := 33) hx hb hu fi_Model hown hK hw 51 (x_at (by decide) (xcl_51 G σ)) rfl 27 (by decide) (hu _ mw_1095) (fun _ h9 => h9) rfl d_Model_notice_55 ?_
      refine lv_aload_n hx hb d_Model_notice_58 rfl (lv_at hl 0 rfl) ?_
      refine va_get (D := G.1) (cl := xCl) (ci := 10) (v := .int (σ.1 51 26)) (C := R_Model) (T := T_Model) (N := 33) hx hb hu fi_Model hown hK hw 51 (x_at (by decide) (xcl_51 G σ)) rfl 26 (by decide) (hu _ mw_1094) (fun _ h9 => h9) rfl d_Model_notice_59 ?_
      refine lv_iload_n hx hb d_Model_notice_62 rfl (lv_at hl 3 rfl) ?_
      obtain ⟨g63, hE⟩ := x_guard hE
      refine va_iast hx hb hK hw (x_D hI _) hS 63 0 (x_at (by decide) (xcl_63 G σ)) rfl g63 d_Model_notice_63 (fun H locs hw _ hS => ?_)
      replace hw := x_setM hw (by decide) (by decide)
      obtain ⟨s63, e63, hE⟩ := x_letE hE
      rw [← e63] at hw
      refine lv_aload_n hx hb d_Model_notice_64 rfl (lv_at hl 0 rfl) ?_
      refine va_get (D := G.1) (cl := xCl) (ci := 10) (v := .ref (G.2.1 64)) (C := R_Model) (T := T_Model) (N := 33) hx hb hu fi_Model hown hK hw 51 (x_at (by decide) (xcl_51 G s63)) rfl 28 (by decide) (hu _ mw_1096) (fun _ h9 => h9) rfl d_Model_notice_65 ?_
      refine lv_aload_n hx hb d_Model_notice_68 rfl (lv_at hl 0 rfl) ?_
      refine va_get (D := G.1) (cl := xCl) (ci := 10) (v := .int (s63.1 51 26)) (C := R_Model) (T := T_Model) (N := 33) hx hb hu fi_Model hown hK hw 51 (x_at (by decide) (xcl_51 G s63)) rfl 26 (by decide) (hu _ mw_1094) (fun _ h9 => h9) rfl d_Model_notice_69 ?_
      refine lv_iload hx hb d_Model_notice_72 (lv_at hl 4 rfl) ?_
      obtain ⟨g74, hE⟩ := x_guard hE
      refine va_iast hx hb hK hw (x_D hI _) hS 64 0 (x_at (by decide) (xcl_64 G s63)) rfl g74 d_Model_notice_74 (fun H locs hw _ hS => ?_)
      replace hw := x_setM hw (by decide) (by decide)
      obtain ⟨s74, e74, hE⟩ := x_letE hE
      rw [← e74] at hw
      refine lv_aload_n hx hb d_Model_notice_75 rfl (lv_at hl 0 rfl) ?_
      refine lv_dup hx hb d_Model_notice_76 rfl ?_
      refine va_get (D := G.1) (cl := xCl) (ci := 10) (v := .int (s74.1 51 26)) (C := R_Model) (T := T_Model) (N := 33) hx hb hu fi_Model hown hK hw 51 (x_at (by decide) (xcl_51 G s74)) rfl 26 (by decide) (hu _ mw_1094) (fun _ h9 => h9) rfl d_Model_notice_77 ?_
      refine lv_iconst (v := (1 : Int32)) hx hb d_Model_notice_80 (by decide) ?_
      refine lv_iadd hx hb d_Model_notice_81 ?_
      refine va_put (D := G.1) (cl := xCl) (ci := 10) (v := .int ((s74.1 51 26) + (1 : Int32))) (ty := .int) (C := R_Model) (T := T_Model) (N := 33) hx hb hu fi_Model ty_Model tyok_Model nm_Model hown hK hw (x_D hI _) hS 51 (x_at (by decide) (xcl_51 G s74)) rfl 26 (by decide) (hu _ mw_1094) (fun _ h9 => h9) rfl (tyok_Model 26 (by decide)) rfl rfl (Nat.le_of_ble_eq_true rfl) d_Model_notice_82 (fun H locs hw _ hS => ?_)
      replace hw := x_setR hw (by decide) rfl
      obtain ⟨s82, e82, hE⟩ := x_letE hE
      rw [← e82] at hw
      have e1 := Option.some.inj hE
      exact W.vret hx hb hr (fun t ht hW => ⟨rfl, by rw [ht, ← e1]; exact hw, hS.F ht⟩) hS.2.2 d_Model_notice_85
  have jn25 : ∀ (n : Nat) (ls : Array Slot) (H : Heap) (locs : List Loc) (σ : St) (l3 : Int32) (l4 : Int32), x_Model_notice_25 a1 a2 n l3 l4 σ = some σ' → lv_has ls 5 [(0, .ref (G.2.1 51)), (1, .int a1), (2, .int a2), (3, .int l3), (4, .int l4)] → xw G σ H → va_S (xA G) s.heap H locs → W p l e (headSpec (ws_Model_notice) rm_Model_notice).room s m ([.ref (G.2.1 51), .int a1, .int a2] : List Value).toArray below meth c H locs 0 0 (MQ below (xQ G none σ') ([.ref (G.2.1 51), .int a1, .int a2] : List Value).toArray s 0 0 (xA G)) (F0 m 25 ls []) := by
    intro n
    induction n with
    | zero => intro ls H locs σ l3 l4 hE; rw [x_Model_notice_25] at hE; cases hE
    | succ n ih =>
      intro ls H locs σ l3 l4 hE hl hw hS
      rw [x_Model_notice_25] at hE
      refine lv_iload hx hb d_Model_notice_25 (lv_at hl 4 rfl) ?_
      refine lv_iload_n hx hb d_Model_notice_27 rfl (lv_at hl 3 rfl) ?_
      refine lv_icmp_le (tgt := 48) hx hb d_Model_notice_28 (by decide) (fun hc28 => ?_) (fun hc28 => ?_)
      · rw [if_pos hc28] at hE
        exact jn48 _ _ _ _ _ _ hE (lv_sub hl [0, 1, 2, 3, 4] rfl) hw hS
      · rw [if_neg hc28] at hE
        refine lv_aload_n hx hb d_Model_notice_31 rfl (lv_at hl 0 rfl) ?_
        refine lv_iload hx hb d_Model_notice_32 (lv_at hl 4 rfl) ?_
        refine lv_iconst (v := (1 : Int32)) hx hb d_Model_notice_34 (by decide) ?_
        refine lv_isub hx hb d_Model_notice_35 ?_
        obtain ⟨r36, hC36, hE⟩ := x_bind hE
        refine x_callR (W.runV (As := [.int (l4 - (1 : Int32))]) (rest := []) ⟨hx, hb, hml, hown, hu⟩ (t_Model_isBlank l G σ (l4 - (1 : Int32)) r36 hC36) (cwV 1 hu (uw_V mw_1259 mw_1261 mw_40 mw_70 mw_1262) rfl rfl rfl hd_Model_isBlank ⟨Nat.le_of_ble_eq_true rfl, Nat.le_of_ble_eq_true rfl⟩) (x_preV hC hS hw (va_recv hK hw (q := (R_Model, T_Model, 33)) (ci := 10) rfl (x_at (by decide) (xcl_51 G σ)))) rfl rfl hl.1 rfl (lv_room (Nat.le_of_ble_eq_true rfl)) d_Model_notice_36 ⟨Nat.le_of_ble_eq_true rfl, Nat.le_of_ble_eq_true rfl⟩) ?_
        refine lv_if_eq (tgt := 48) hx hb d_Model_notice_39 (by decide) (fun hc39 => ?_) (fun hc39 => ?_)
        · rw [if_pos hc39] at hE
          exact jn48 _ _ _ _ _ _ hE (lv_sub hl [0, 1, 2, 3, 4] rfl) hw hS
        · rw [if_neg hc39] at hE
          obtain ⟨v42, e42, hE⟩ := x_letE hE
          refine lv_iinc hx hb d_Model_notice_42 hl (k := 4) rfl (x_inc v42 e42 (by decide)) (by decide) rfl (fun ls hl => ?_)
          have hl : lv_has ls 5 [(4, .int v42), (0, .ref (G.2.1 51)), (1, .int a1), (2, .int a2), (3, .int l3)] := hl
          refine lv_goto (tgt := 25) hx hb d_Model_notice_45 (by decide) ?_
          exact ih _ _ _ _ _ _ hE (lv_sub hl [1, 2, 3, 4, 0] rfl) hw hS
  have jn5 : ∀ (n : Nat) (ls : Array Slot) (H : Heap) (locs : List Loc) (σ : St) (l3 : Int32) (l4 : Int32), x_Model_notice_5 a1 a2 n l3 l4 σ = some σ' → lv_has ls 5 [(0, .ref (G.2.1 51)), (1, .int a1), (2, .int a2), (3, .int l3), (4, .int l4)] → xw G σ H → va_S (xA G) s.heap H locs → W p l e (headSpec (ws_Model_notice) rm_Model_notice).room s m ([.ref (G.2.1 51), .int a1, .int a2] : List Value).toArray below meth c H locs 0 0 (MQ below (xQ G none σ') ([.ref (G.2.1 51), .int a1, .int a2] : List Value).toArray s 0 0 (xA G)) (F0 m 5 ls []) := by
    intro n
    induction n with
    | zero => intro ls H locs σ l3 l4 hE; rw [x_Model_notice_5] at hE; cases hE
    | succ n ih =>
      intro ls H locs σ l3 l4 hE hl hw hS
      rw [x_Model_notice_5] at hE
      refine lv_iload_n hx hb d_Model_notice_5 rfl (lv_at hl 3 rfl) ?_
      refine lv_iload hx hb d_Model_notice_6 (lv_at hl 4 rfl) ?_
      refine lv_icmp_ge (tgt := 25) hx hb d_Model_notice_8 (by decide) (fun hc8 => ?_) (fun hc8 => ?_)
      · rw [if_pos hc8] at hE
        exact jn25 x_fuel _ _ _ _ _ _ hE (lv_sub hl [0, 1, 2, 3, 4] rfl) hw hS
      · rw [if_neg hc8] at hE
        refine lv_aload_n hx hb d_Model_notice_11 rfl (lv_at hl 0 rfl) ?_
        refine lv_iload_n hx hb d_Model_notice_12 rfl (lv_at hl 3 rfl) ?_
        obtain ⟨r13, hC13, hE⟩ := x_bind hE
        refine x_callR (W.runV (As := [.int l3]) (rest := []) ⟨hx, hb, hml, hown, hu⟩ (t_Model_isBlank l G σ l3 r13 hC13) (cwV 1 hu (uw_V mw_1259 mw_1261 mw_40 mw_70 mw_1262) rfl rfl rfl hd_Model_isBlank ⟨Nat.le_of_ble_eq_true rfl, Nat.le_of_ble_eq_true rfl⟩) (x_preV hC hS hw (va_recv hK hw (q := (R_Model, T_Model, 33)) (ci := 10) rfl (x_at (by decide) (xcl_51 G σ)))) rfl rfl hl.1 rfl (lv_room (Nat.le_of_ble_eq_true rfl)) d_Model_notice_13 ⟨Nat.le_of_ble_eq_true rfl, Nat.le_of_ble_eq_true rfl⟩) ?_
        refine lv_if_eq (tgt := 25) hx hb d_Model_notice_16 (by decide) (fun hc16 => ?_) (fun hc16 => ?_)
        · rw [if_pos hc16] at hE
          exact jn25 x_fuel _ _ _ _ _ _ hE (lv_sub hl [0, 1, 2, 3, 4] rfl) hw hS
        · rw [if_neg hc16] at hE
          obtain ⟨v19, e19, hE⟩ := x_letE hE
          refine lv_iinc hx hb d_Model_notice_19 hl (k := 3) rfl (x_inc v19 e19 (by decide)) (by decide) rfl (fun ls hl => ?_)
          have hl : lv_has ls 5 [(3, .int v19), (0, .ref (G.2.1 51)), (1, .int a1), (2, .int a2), (4, .int l4)] := hl
          refine lv_goto (tgt := 5) hx hb d_Model_notice_22 (by decide) ?_
          exact ih _ _ _ _ _ _ hE (lv_sub hl [1, 2, 3, 0, 4] rfl) hw hS
  have hl := lv_entry ([.ref (G.2.1 51), .int a1, .int a2]) (n := 5) (Nat.le_of_ble_eq_true rfl)
  rw [lg_entry_eq]
  generalize (lg_sl ([.ref (G.2.1 51), .int a1, .int a2]) ++ List.replicate (5 - (lg_sl ([.ref (G.2.1 51), .int a1, .int a2])).length) Slot.unset).toArray = ls at hl ⊢
  have hl : lv_has ls 5 [(0, .ref (G.2.1 51)), (1, .int a1), (2, .int a2)] := hl
  unfold x_Model_notice at hE
  refine lv_iload_n hx hb d_Model_notice_0 rfl (lv_at hl 1 rfl) ?_
  refine lv_istore_n hx hb d_Model_notice_1 rfl hl (by decide) rfl (fun ls hl => ?_)
  have hl : lv_has ls 5 [(3, .int a1), (0, .ref (G.2.1 51)), (1, .int a1), (2, .int a2)] := hl
  refine lv_iload_n hx hb d_Model_notice_2 rfl (lv_at hl 3 rfl) ?_
  refine lv_istore hx hb d_Model_notice_3 hl (by decide) rfl (fun ls hl => ?_)
  have hl : lv_has ls 5 [(4, .int a2), (3, .int a1), (0, .ref (G.2.1 51)), (1, .int a1), (2, .int a2)] := hl
  exact jn5 x_fuel _ _ _ _ _ _ hE (lv_sub hl [2, 3, 4, 1, 0] rfl) hw hS

def y_Model_list : MethodName := ⟨"PlainOriginModel", "list", "(I)V"⟩
def ws_Model_list : List Cond := Cond.code y_Model_list prog_14_method_27_code 5 none :: UW
theorem hd_Model_list : y_Model_list.cls = R_Model ∧ y_Model_list.cls ≠ "java/lang/invoke/MethodHandle" ∧ y_Model_list.cls ≠ "java/lang/invoke/VarHandle" ∧ (parseMethodDescriptor y_Model_list.desc).map (fun d => d.parameters.length) = some 1 := by decide +kernel
theorem d_Model_list_0 : decode prog_14_method_27_code 0 = .ok (.aload_n 0, 1) := by decide +kernel
theorem d_Model_list_1 : decode prog_14_method_27_code 1 = .ok (.iconst 0, 1) := by decide +kernel
theorem d_Model_list_2 : decode prog_14_method_27_code 2 = .ok (.putfield 263, 3) := by decide +kernel
theorem d_Model_list_5 : decode prog_14_method_27_code 5 = .ok (.iconst 0, 1) := by decide +kernel
theorem d_Model_list_6 : decode prog_14_method_27_code 6 = .ok (.istore_n 2, 1) := by decide +kernel
theorem d_Model_list_7 : decode prog_14_method_27_code 7 = .ok (.iload_n 2, 1) := by decide +kernel
theorem d_Model_list_8 : decode prog_14_method_27_code 8 = .ok (.aload_n 0, 1) := by decide +kernel
theorem d_Model_list_9 : decode prog_14_method_27_code 9 = .ok (.getfield 228, 3) := by decide +kernel
theorem d_Model_list_12 : decode prog_14_method_27_code 12 = .ok (.if_icmp .ge (97), 3) := by decide +kernel
theorem d_Model_list_15 : decode prog_14_method_27_code 15 = .ok (.bipush (80), 2) := by decide +kernel
theorem d_Model_list_17 : decode prog_14_method_27_code 17 = .ok (.iload_n 2, 1) := by decide +kernel
theorem d_Model_list_18 : decode prog_14_method_27_code 18 = .ok (.imul, 1) := by decide +kernel
theorem d_Model_list_19 : decode prog_14_method_27_code 19 = .ok (.aload_n 0, 1) := by decide +kernel
theorem d_Model_list_20 : decode prog_14_method_27_code 20 = .ok (.getfield 121, 3) := by decide +kernel
theorem d_Model_list_23 : decode prog_14_method_27_code 23 = .ok (.iload_n 2, 1) := by decide +kernel
theorem d_Model_list_24 : decode prog_14_method_27_code 24 = .ok (.iaload, 1) := by decide +kernel
theorem d_Model_list_25 : decode prog_14_method_27_code 25 = .ok (.iadd, 1) := by decide +kernel
theorem d_Model_list_26 : decode prog_14_method_27_code 26 = .ok (.iconst 1, 1) := by decide +kernel
theorem d_Model_list_27 : decode prog_14_method_27_code 27 = .ok (.iadd, 1) := by decide +kernel
theorem d_Model_list_28 : decode prog_14_method_27_code 28 = .ok (.istore_n 3, 1) := by decide +kernel
theorem d_Model_list_29 : decode prog_14_method_27_code 29 = .ok (.iload_n 3, 1) := by decide +kernel
theorem d_Model_list_30 : decode prog_14_method_27_code 30 = .ok (.istore 4, 2) := by decide +kernel
theorem d_Model_list_32 : decode prog_14_method_27_code 32 = .ok (.iload 4, 2) := by decide +kernel
theorem d_Model_list_34 : decode prog_14_method_27_code 34 = .ok (.bipush (80), 2) := by decide +kernel
theorem d_Model_list_36 : decode prog_14_method_27_code 36 = .ok (.iload_n 2, 1) := by decide +kernel
theorem d_Model_list_37 : decode prog_14_method_27_code 37 = .ok (.imul, 1) := by decide +kernel
theorem d_Model_list_38 : decode prog_14_method_27_code 38 = .ok (.aload_n 0, 1) := by decide +kernel
theorem d_Model_list_39 : decode prog_14_method_27_code 39 = .ok (.getfield 124, 3) := by decide +kernel
theorem d_Model_list_42 : decode prog_14_method_27_code 42 = .ok (.iload_n 2, 1) := by decide +kernel
theorem d_Model_list_43 : decode prog_14_method_27_code 43 = .ok (.iaload, 1) := by decide +kernel
theorem d_Model_list_44 : decode prog_14_method_27_code 44 = .ok (.iadd, 1) := by decide +kernel
theorem d_Model_list_45 : decode prog_14_method_27_code 45 = .ok (.if_icmp .gt (58), 3) := by decide +kernel
theorem d_Model_list_48 : decode prog_14_method_27_code 48 = .ok (.aload_n 0, 1) := by decide +kernel
theorem d_Model_list_49 : decode prog_14_method_27_code 49 = .ok (.iload_n 2, 1) := by decide +kernel
theorem d_Model_list_50 : decode prog_14_method_27_code 50 = .ok (.iload_n 1, 1) := by decide +kernel
theorem d_Model_list_51 : decode prog_14_method_27_code 51 = .ok (.invokevirtual 257, 3) := by decide +kernel
theorem d_Model_list_54 : decode prog_14_method_27_code 54 = .ok (.ifCond .eq (49), 3) := by decide +kernel
theorem d_Model_list_57 : decode prog_14_method_27_code 57 = .ok (.iload 4, 2) := by decide +kernel
theorem d_Model_list_59 : decode prog_14_method_27_code 59 = .ok (.bipush (80), 2) := by decide +kernel
theorem d_Model_list_61 : decode prog_14_method_27_code 61 = .ok (.iload_n 2, 1) := by decide +kernel
theorem d_Model_list_62 : decode prog_14_method_27_code 62 = .ok (.imul, 1) := by decide +kernel
theorem d_Model_list_63 : decode prog_14_method_27_code 63 = .ok (.aload_n 0, 1) := by decide +kernel
theorem d_Model_list_64 : decode prog_14_method_27_code 64 = .ok (.getfield 124, 3) := by decide +kernel
theorem d_Model_list_67 : decode prog_14_method_27_code 67 = .ok (.iload_n 2, 1) := by decide +kernel
theorem d_Model_list_68 : decode prog_14_method_27_code 68 = .ok (.iaload, 1) := by decide +kernel
theorem d_Model_list_69 : decode prog_14_method_27_code 69 = .ok (.iadd, 1) := by decide +kernel
theorem d_Model_list_70 : decode prog_14_method_27_code 70 = .ok (.if_icmp .eq (15), 3) := by decide +kernel
theorem d_Model_list_73 : decode prog_14_method_27_code 73 = .ok (.aload_n 0, 1) := by decide +kernel
theorem d_Model_list_74 : decode prog_14_method_27_code 74 = .ok (.getfield 118, 3) := by decide +kernel
theorem d_Model_list_77 : decode prog_14_method_27_code 77 = .ok (.iload 4, 2) := by decide +kernel
theorem d_Model_list_79 : decode prog_14_method_27_code 79 = .ok (.iaload, 1) := by decide +kernel
theorem d_Model_list_80 : decode prog_14_method_27_code 80 = .ok (.bipush (44), 2) := by decide +kernel
theorem d_Model_list_82 : decode prog_14_method_27_code 82 = .ok (.if_icmp .ne (15), 3) := by decide +kernel
theorem d_Model_list_85 : decode prog_14_method_27_code 85 = .ok (.aload_n 0, 1) := by decide +kernel
theorem d_Model_list_86 : decode prog_14_method_27_code 86 = .ok (.iload_n 3, 1) := by decide +kernel
theorem d_Model_list_87 : decode prog_14_method_27_code 87 = .ok (.iload 4, 2) := by decide +kernel
theorem d_Model_list_89 : decode prog_14_method_27_code 89 = .ok (.invokevirtual 266, 3) := by decide +kernel
theorem d_Model_list_92 : decode prog_14_method_27_code 92 = .ok (.iload 4, 2) := by decide +kernel
theorem d_Model_list_94 : decode prog_14_method_27_code 94 = .ok (.iconst 1, 1) := by decide +kernel
theorem d_Model_list_95 : decode prog_14_method_27_code 95 = .ok (.iadd, 1) := by decide +kernel
theorem d_Model_list_96 : decode prog_14_method_27_code 96 = .ok (.istore_n 3, 1) := by decide +kernel
theorem d_Model_list_97 : decode prog_14_method_27_code 97 = .ok (.iinc 4 (1), 3) := by decide +kernel
theorem d_Model_list_100 : decode prog_14_method_27_code 100 = .ok (.goto (-68), 3) := by decide +kernel
theorem d_Model_list_103 : decode prog_14_method_27_code 103 = .ok (.iinc 2 (1), 3) := by decide +kernel
theorem d_Model_list_106 : decode prog_14_method_27_code 106 = .ok (.goto (-99), 3) := by decide +kernel
theorem d_Model_list_109 : decode prog_14_method_27_code 109 = .ok (.return_, 1) := by decide +kernel
def x_Model_list_103 (a1 : Int32) (bk7 : Int32 → St → Option St) (l2 : Int32) (σ : St) : Option St := (x_let (l2 + (1 : Int32)) (fun (v103 : Int32) => bk7 v103 σ))
def x_Model_list_97 (a1 : Int32) (bk7 : Int32 → St → Option St) (bk32 : Int32 → Int32 → Int32 → St → Option St) (l2 : Int32) (l3 : Int32) (l4 : Int32) (σ : St) : Option St := (x_let (l4 + (1 : Int32)) (fun (v97 : Int32) => bk32 l2 l3 v97 σ))
def x_Model_list_85 (a1 : Int32) (bk7 : Int32 → St → Option St) (bk32 : Int32 → Int32 → Int32 → St → Option St) (l2 : Int32) (l3 : Int32) (l4 : Int32) (σ : St) : Option St := (Option.bind (x_Model_notice l3 l4 σ) (fun s89 => (x_let (l4 + (1 : Int32)) (fun (v96 : Int32) => x_Model_list_97 a1 bk7 bk32 l2 v96 l4 s89))))
def x_Model_list_32 (a1 : Int32) (bk7 : Int32 → St → Option St) : Nat → Int32 → Int32 → Int32 → St → Option St
  | 0, _, _, _, _ => none
  | n + 1, l2, l3, l4, σ => (if x_in l2 12 then (if (((80 : Int32) * l2) + (σ.2.1 61 l2.toNatClampNeg)) < l4 then x_Model_list_103 a1 bk7 l2 σ else (Option.bind (x_Model_isNamed l2 a1 σ) (fun r51 => (if r51 = 0 then x_Model_list_103 a1 bk7 l2 σ else (if x_in l2 12 then (if l4 = (((80 : Int32) * l2) + (σ.2.1 61 l2.toNatClampNeg)) then x_Model_list_85 a1 bk7 (x_Model_list_32 a1 bk7 n) l2 l3 l4 σ else (if x_in l4 960 then (if (σ.2.1 59 l4.toNatClampNeg) = (44 : Int32) then x_Model_list_85 a1 bk7 (x_Model_list_32 a1 bk7 n) l2 l3 l4 σ else x_Model_list_97 a1 bk7 (x_Model_list_32 a1 bk7 n) l2 l3 l4 σ) else none)) else none))))) else none)
def x_Model_list_7 (a1 : Int32) : Nat → Int32 → St → Option St
  | 0, _, _ => none
  | n + 1, l2, σ => (if (σ.1 51 17) ≤ l2 then some σ else (if x_in l2 12 then (x_let ((((80 : Int32) * l2) + (σ.2.1 60 l2.toNatClampNeg)) + (1 : Int32)) (fun (v28 : Int32) => x_Model_list_32 a1 (x_Model_list_7 a1 n) x_fuel l2 v28 v28 σ)) else none))
def x_Model_list (a1 : Int32) (σ : St) : Option St := (x_let (x_updR σ 51 26 (0 : Int32)) (fun (s2 : St) => x_Model_list_7 a1 x_fuel (0 : Int32) s2))
abbrev rm_Model_list : Room := { frames := 4, cells := 0, slots := 0, locals := 89 }
set_option maxHeartbeats 4000000 in
set_option maxRecDepth 100000 in
theorem t_Model_list (l : Launch) (G : xG) (σ : St) (a1 : Int32) (σ' : St) (hE : x_Model_list a1 σ = some σ') : Met l y_Model_list (ws_Model_list) rm_Model_list (xP G σ [.ref (G.2.1 51), .int a1]) (xQ G none σ') 0 0 (xA G) := by
  refine Met.ofW (cc := prog_14_method_27_code) (maxL := 5) (ret := none) (by decide) rfl ?_
  intro p e s m args below meth c s₁ B hml hv
  obtain ⟨rfl, hw, hC⟩ := hv
  have hx := B.exec
  have hb := B.bytes
  have hr := B.returns
  have hu : ∀ w ∈ UW, w.before _ s = true := fun w h => atoms_spec B.pre w (List.mem_cons_of_mem _ h)
  have hown : s.vm.findClass R_Model = some m.cls := findClass_of_methodNamed B.named
  have hlocks := B.notSynchronized
  have hK := hC.1
  have hI := hC.2.1
  have hG := hC.2.2.1
  have hN := hC.2.2.2
  have hS : va_S (xA G) s.heap s.heap [] := va_S.rf
  have jn103 : ∀ (bk7 : Int32 → St → Option St) (hbk7 : ∀ (ls : Array Slot) (H : Heap) (locs : List Loc) (σ : St) (l2 : Int32), bk7 l2 σ = some σ' → lv_has ls 5 [(0, .ref (G.2.1 51)), (1, .int a1), (2, .int l2)] → xw G σ H → va_S (xA G) s.heap H locs → W p l e (headSpec (ws_Model_list) rm_Model_list).room s m ([.ref (G.2.1 51), .int a1] : List Value).toArray below meth c H locs 0 0 (MQ below (xQ G none σ') ([.ref (G.2.1 51), .int a1] : List Value).toArray s 0 0 (xA G)) (F0 m 7 ls [])) (ls : Array Slot) (H : Heap) (locs : List Loc) (σ : St) (l2 : Int32), x_Model_list_103 a1 bk7 l2 σ = some σ' → lv_has ls 5 [(0, .ref (G.2.1 51)), (1, .int a1), (2, .int l2)] → xw G σ H → va_S (xA G) s.heap H locs → W p l e (headSpec (ws_Model_list) rm_Model_list).room s m ([.ref (G.2.1 51), .int a1] : List Value).toArray below meth c H locs 0 0 (MQ below (xQ G none σ') ([.ref (G.2.1 51), .int a1] : List Value).toArray s 0 0 (xA G)) (F0 m 103 ls []) := by
    intro bk7 hbk7 ls H locs σ l2 hE hl hw hS
    unfold x_Model_list_103 at hE
    obtain ⟨v103, e103, hE⟩ := x_letE hE
    refine lv_iinc hx hb d_Model_list_103 hl (k := 2) rfl (x_inc v103 e103 (by decide)) (by decide) rfl (fun ls hl => ?_)
    have hl : lv_has ls 5 [(2, .int v103), (0, .ref (G.2.1 51)), (1, .int a1)] := hl
    refine lv_goto (tgt := 7) hx hb d_Model_list_106 (by decide) ?_
    exact hbk7 _ _ _ _ _ hE (lv_sub hl [1, 2, 0] rfl) hw hS
  have jn97 : ∀ (bk7 : Int32 → St → Option St) (hbk7 : ∀ (ls : Array Slot) (H : Heap) (locs : List Loc) (σ : St) (l2 : Int32), bk7 l2 σ = some σ' → lv_has ls 5 [(0, .ref (G.2.1 51)), (1, .int a1), (2, .int l2)] → xw G σ H → va_S (xA G) s.heap H locs → W p l e (headSpec (ws_Model_list) rm_Model_list).room s m ([.ref (G.2.1 51), .int a1] : List Value).toArray below meth c H locs 0 0 (MQ below (xQ G none σ') ([.ref (G.2.1 51), .int a1] : List Value).toArray s 0 0 (xA G)) (F0 m 7 ls [])) (bk32 : Int32 → Int32 → Int32 → St → Option St) (hbk32 : ∀ (ls : Array Slot) (H : Heap) (locs : List Loc) (σ : St) (l2 : Int32) (l3 : Int32) (l4 : Int32), bk32 l2 l3 l4 σ = some σ' → lv_has ls 5 [(0, .ref (G.2.1 51)), (1, .int a1), (2, .int l2), (3, .int l3), (4, .int l4)] → xw G σ H → va_S (xA G) s.heap H locs → W p l e (headSpec (ws_Model_list) rm_Model_list).room s m ([.ref (G.2.1 51), .int a1] : List Value).toArray below meth c H locs 0 0 (MQ below (xQ G none σ') ([.ref (G.2.1 51), .int a1] : List Value).toArray s 0 0 (xA G)) (F0 m 32 ls [])) (ls : Array Slot) (H : Heap) (locs : List Loc) (σ : St) (l2 : Int32) (l3 : Int32) (l4 : Int32), x_Model_list_97 a1 bk7 bk32 l2 l3 l4 σ = some σ' → lv_has ls 5 [(0, .ref (G.2.1 51)), (1, .int a1), (2, .int l2), (3, .int l3), (4, .int l4)] → xw G σ H → va_S (xA G) s.heap H locs → W p l e (headSpec (ws_Model_list) rm_Model_list).room s m ([.ref (G.2.1 51), .int a1] : List Value).toArray below meth c H locs 0 0 (MQ below (xQ G none σ') ([.ref (G.2.1 51), .int a1] : List Value).toArray s 0 0 (xA G)) (F0 m 97 ls []) := by
    intro bk7 hbk7 bk32 hbk32 ls H locs σ l2 l3 l4 hE hl hw hS
    unfold x_Model_list_97 at hE
    obtain ⟨v97, e97, hE⟩ := x_letE hE
    refine lv_iinc hx hb d_Model_list_97 hl (k := 4) rfl (x_inc v97 e97 (by decide)) (by decide) rfl (fun ls hl => ?_)
    have hl : lv_has ls 5 [(4, .int v97), (0, .ref (G.2.1 51)), (1, .int a1), (2, .int l2), (3, .int l3)] := hl
    refine lv_goto (tgt := 32) hx hb d_Model_list_100 (by decide) ?_
    exact hbk32 _ _ _ _ _ _ _ hE (lv_sub hl [1, 2, 3, 4, 0] rfl) hw hS
  have jn85 : ∀ (bk7 : Int32 → St → Option St) (hbk7 : ∀ (ls : Array Slot) (H : Heap) (locs : List Loc) (σ : St) (l2 : Int32), bk7 l2 σ = some σ' → lv_has ls 5 [(0, .ref (G.2.1 51)), (1, .int a1), (2, .int l2)] → xw G σ H → va_S (xA G) s.heap H locs → W p l e (headSpec (ws_Model_list) rm_Model_list).room s m ([.ref (G.2.1 51), .int a1] : List Value).toArray below meth c H locs 0 0 (MQ below (xQ G none σ') ([.ref (G.2.1 51), .int a1] : List Value).toArray s 0 0 (xA G)) (F0 m 7 ls [])) (bk32 : Int32 → Int32 → Int32 → St → Option St) (hbk32 : ∀ (ls : Array Slot) (H : Heap) (locs : List Loc) (σ : St) (l2 : Int32) (l3 : Int32) (l4 : Int32), bk32 l2 l3 l4 σ = some σ' → lv_has ls 5 [(0, .ref (G.2.1 51)), (1, .int a1), (2, .int l2), (3, .int l3), (4, .int l4)] → xw G σ H → va_S (xA G) s.heap H locs → W p l e (headSpec (ws_Model_list) rm_Model_list).room s m ([.ref (G.2.1 51), .int a1] : List Value).toArray below meth c H locs 0 0 (MQ below (xQ G none σ') ([.ref (G.2.1 51), .int a1] : List Value).toArray s 0 0 (xA G)) (F0 m 32 ls [])) (ls : Array Slot) (H : Heap) (locs : List Loc) (σ : St) (l2 : Int32) (l3 : Int32) (l4 : Int32), x_Model_list_85 a1 bk7 bk32 l2 l3 l4 σ = some σ' → lv_has ls 5 [(0, .ref (G.2.1 51)), (1, .int a1), (2, .int l2), (3, .int l3), (4, .int l4)] → xw G σ H → va_S (xA G) s.heap H locs → W p l e (headSpec (ws_Model_list) rm_Model_list).room s m ([.ref (G.2.1 51), .int a1] : List Value).toArray below meth c H locs 0 0 (MQ below (xQ G none σ') ([.ref (G.2.1 51), .int a1] : List Value).toArray s 0 0 (xA G)) (F0 m 85 ls []) := by
    intro bk7 hbk7 bk32 hbk32 ls H locs σ l2 l3 l4 hE hl hw hS
    unfold x_Model_list_85 at hE
    refine lv_aload_n hx hb d_Model_list_85 rfl (lv_at hl 0 rfl) ?_
    refine lv_iload_n hx hb d_Model_list_86 rfl (lv_at hl 3 rfl) ?_
    refine lv_iload hx hb d_Model_list_87 (lv_at hl 4 rfl) ?_
    obtain ⟨s89, hC89, hE⟩ := x_bind hE
    refine x_callV hS (W.runV (As := [.int l3, .int l4]) (rest := []) ⟨hx, hb, hml, hown, hu⟩ (t_Model_notice l G σ l3 l4 s89 hC89) (cwV 2 hu (uw_V mw_1255 mw_1257 mw_39 mw_70 mw_1258) rfl rfl rfl hd_Model_notice ⟨Nat.le_of_ble_eq_true rfl, Nat.le_of_ble_eq_true rfl⟩) (x_preV hC hS hw (va_recv hK hw (q := (R_Model, T_Model, 33)) (ci := 10) rfl (x_at (by decide) (xcl_51 G σ)))) rfl rfl hl.1 rfl (lv_room (Nat.le_of_ble_eq_true rfl)) d_Model_list_89 ⟨Nat.le_of_ble_eq_true rfl, Nat.le_of_ble_eq_true rfl⟩) (fun H locs hw hS => ?_)
    refine lv_iload hx hb d_Model_list_92 (lv_at hl 4 rfl) ?_
    refine lv_iconst (v := (1 : Int32)) hx hb d_Model_list_94 (by decide) ?_
    refine lv_iadd hx hb d_Model_list_95 ?_
    refine lv_topi (fun v96 e96 => ?_)
    replace hE := x_letT e96 hE
    refine lv_istore_n hx hb d_Model_list_96 rfl hl (by decide) rfl (fun ls hl => ?_)
    have hl : lv_has ls 5 [(3, .int v96), (0, .ref (G.2.1 51)), (1, .int a1), (2, .int l2), (4, .int l4)] := hl
    exact jn97 _ hbk7 _ hbk32 _ _ _ _ _ _ _ hE (lv_sub hl [1, 2, 3, 0, 4] rfl) hw hS
  have jn32 : ∀ (bk7 : Int32 → St → Option St) (hbk7 : ∀ (ls : Array Slot) (H : Heap) (locs : List Loc) (σ : St) (l2 : Int32), bk7 l2 σ = some σ' → lv_has ls 5 [(0, .ref (G.2.1 51)), (1, .int a1), (2, .int l2)] → xw G σ H → va_S (xA G) s.heap H locs → W p l e (headSpec (ws_Model_list) rm_Model_list).room s m ([.ref (G.2.1 51), .int a1] : List Value).toArray below meth c H locs 0 0 (MQ below (xQ G none σ') ([.ref (G.2.1 51), .int a1] : List Value).toArray s 0 0 (xA G)) (F0 m 7 ls [])) (n : Nat) (ls : Array Slot) (H : Heap) (locs : List Loc) (σ : St) (l2 : Int32) (l3 : Int32) (l4 : Int32), x_Model_list_32 a1 bk7 n l2 l3 l4 σ = some σ' → lv_has ls 5 [(0, .ref (G.2.1 51)), (1, .int a1), (2, .int l2), (3, .int l3), (4, .int l4)] → xw G σ H → va_S (xA G) s.heap H locs → W p l e (headSpec (ws_Model_list) rm_Model_list).room s m ([.ref (G.2.1 51), .int a1] : List Value).toArray below meth c H locs 0 0 (MQ below (xQ G none σ') ([.ref (G.2.1 51), .int a1] : List Value).toArray s 0 0 (xA G)) (F0 m 32 ls []) := by
    intro bk7 hbk7 n
    induction n with
    | zero => intro ls H locs σ l2 l3 l4 hE; rw [x_Model_list_32] at hE; cases hE
    | succ n ih =>
      intro ls H locs σ l2 l3 l4 hE hl hw hS
      rw [x_Model_list_32] at hE
      refine lv_iload hx hb d_Model_list_32 (lv_at hl 4 rfl) ?_
      refine lv_bipush (v := (80 : Int32)) hx hb d_Model_list_34 (by decide) ?_
      refine lv_iload_n hx hb d_Model_list_36 rfl (lv_at hl 2 rfl) ?_
      refine lv_imul hx hb d_Model_list_37 ?_
      refine lv_aload_n hx hb d_Model_list_38 rfl (lv_at hl 0 rfl) ?_
      refine va_get (D := G.1) (cl := xCl) (ci := 10) (v := .ref (G.2.1 61)) (C := R_Model) (T := T_Model) (N := 33) hx hb hu fi_Model hown hK hw 51 (x_at (by decide) (xcl_51 G σ)) rfl 20 (by decide) (hu _ mw_1088) (fun _ h9 => h9) rfl d_Model_list_39 ?_
      refine lv_iload_n hx hb d_Model_list_42 rfl (lv_at hl 2 rfl) ?_
      obtain ⟨g43, hE⟩ := x_guard hE
      refine va_iald hx hb hK hw 61 0 (x_at (by decide) (xcl_61 G σ)) rfl g43 d_Model_list_43 ?_
      refine lv_iadd hx hb d_Model_list_44 ?_
      refine lv_icmp_gt (tgt := 103) hx hb d_Model_list_45 (by decide) (fun hc45 => ?_) (fun hc45 => ?_)
      · rw [if_pos hc45] at hE
        exact jn103 _ hbk7 _ _ _ _ _ hE (lv_sub hl [0, 1, 2] rfl) hw hS
      · rw [if_neg hc45] at hE
        refine lv_aload_n hx hb d_Model_list_48 rfl (lv_at hl 0 rfl) ?_
        refine lv_iload_n hx hb d_Model_list_49 rfl (lv_at hl 2 rfl) ?_
        refine lv_iload_n hx hb d_Model_list_50 rfl (lv_at hl 1 rfl) ?_
        obtain ⟨r51, hC51, hE⟩ := x_bind hE
        refine x_callR (W.runV (As := [.int l2, .int a1]) (rest := []) ⟨hx, hb, hml, hown, hu⟩ (t_Model_isNamed l G σ l2 a1 r51 hC51) (cwV 2 hu (uw_V mw_1247 mw_1249 mw_37 mw_70 mw_1250) rfl rfl rfl hd_Model_isNamed ⟨Nat.le_of_ble_eq_true rfl, Nat.le_of_ble_eq_true rfl⟩) (x_preV hC hS hw (va_recv hK hw (q := (R_Model, T_Model, 33)) (ci := 10) rfl (x_at (by decide) (xcl_51 G σ)))) rfl rfl hl.1 rfl (lv_room (Nat.le_of_ble_eq_true rfl)) d_Model_list_51 ⟨Nat.le_of_ble_eq_true rfl, Nat.le_of_ble_eq_true rfl⟩) ?_
        refine lv_if_eq (tgt := 103) hx hb d_Model_list_54 (by decide) (fun hc54 => ?_) (fun hc54 => ?_)
        · rw [if_pos hc54] at hE
          exact jn103 _ hbk7 _ _ _ _ _ hE (lv_sub hl [0, 1, 2] rfl) hw hS
        · rw [if_neg hc54] at hE
          refine lv_iload hx hb d_Model_list_57 (lv_at hl 4 rfl) ?_
          refine lv_bipush (v := (80 : Int32)) hx hb d_Model_list_59 (by decide) ?_
          refine lv_iload_n hx hb d_Model_list_61 rfl (lv_at hl 2 rfl) ?_
          refine lv_imul hx hb d_Model_list_62 ?_
          refine lv_aload_n hx hb d_Model_list_63 rfl (lv_at hl 0 rfl) ?_
          refine va_get (D := G.1) (cl := xCl) (ci := 10) (v := .ref (G.2.1 61)) (C := R_Model) (T := T_Model) (N := 33) hx hb hu fi_Model hown hK hw 51 (x_at (by decide) (xcl_51 G σ)) rfl 20 (by decide) (hu _ mw_1088) (fun _ h9 => h9) rfl d_Model_list_64 ?_
          refine lv_iload_n hx hb d_Model_list_67 rfl (lv_at hl 2 rfl) ?_
          obtain ⟨g68, hE⟩ := x_guard hE
          refine va_iald hx hb hK hw 61 0 (x_at (by decide) (xcl_61 G σ)) rfl g68 d_Model_list_68 ?_
          refine lv_iadd hx hb d_Model_list_69 ?_
          refine lv_icmp_eq (tgt := 85) hx hb d_Model_list_70 (by decide) (fun hc70 => ?_) (fun hc70 => ?_)
          · rw [if_pos hc70] at hE
            exact jn85 _ hbk7 _ ih _ _ _ _ _ _ _ hE (lv_sub hl [0, 1, 2, 3, 4] rfl) hw hS
          · rw [if_neg hc70] at hE
            refine lv_aload_n hx hb d_Model_list_73 rfl (lv_at hl 0 rfl) ?_
            refine va_get (D := G.1) (cl := xCl) (ci := 10) (v := .ref (G.2.1 59)) (C := R_Model) (T := T_Model) (N := 33) hx hb hu fi_Model hown hK hw 51 (x_at (by decide) (xcl_51 G σ)) rfl 18 (by decide) (hu _ mw_1086) (fun _ h9 => h9) rfl d_Model_list_74 ?_
            refine lv_iload hx hb d_Model_list_77 (lv_at hl 4 rfl) ?_
            obtain ⟨g79, hE⟩ := x_guard hE
            refine va_iald hx hb hK hw 59 0 (x_at (by decide) (xcl_59 G σ)) rfl g79 d_Model_list_79 ?_
            refine lv_bipush (v := (44 : Int32)) hx hb d_Model_list_80 (by decide) ?_
            refine lv_icmp_ne (tgt := 97) hx hb d_Model_list_82 (by decide) (fun hc82 => ?_) (fun hc82 => ?_)
            · rw [if_neg hc82] at hE
              exact jn97 _ hbk7 _ ih _ _ _ _ _ _ _ hE (lv_sub hl [0, 1, 2, 3, 4] rfl) hw hS
            · rw [if_pos hc82] at hE
              exact jn85 _ hbk7 _ ih _ _ _ _ _ _ _ hE (lv_sub hl [0, 1, 2, 3, 4] rfl) hw hS
  have jn7 : ∀ (n : Nat) (ls : Array Slot) (H : Heap) (locs : List Loc) (σ : St) (l2 : Int32), x_Model_list_7 a1 n l2 σ = some σ' → lv_has ls 5 [(0, .ref (G.2.1 51)), (1, .int a1), (2, .int l2)] → xw G σ H → va_S (xA G) s.heap H locs → W p l e (headSpec (ws_Model_list) rm_Model_list).room s m ([.ref (G.2.1 51), .int a1] : List Value).toArray below meth c H locs 0 0 (MQ below (xQ G none σ') ([.ref (G.2.1 51), .int a1] : List Value).toArray s 0 0 (xA G)) (F0 m 7 ls []) := by
    intro n
    induction n with
    | zero => intro ls H locs σ l2 hE; rw [x_Model_list_7] at hE; cases hE
    | succ n ih =>
      intro ls H locs σ l2 hE hl hw hS
      rw [x_Model_list_7] at hE
      refine lv_iload_n hx hb d_Model_list_7 rfl (lv_at hl 2 rfl) ?_
      refine lv_aload_n hx hb d_Model_list_8 rfl (lv_at hl 0 rfl) ?_
      refine va_get (D := G.1) (cl := xCl) (ci := 10) (v := .int (σ.1 51 17)) (C := R_Model) (T := T_Model) (N := 33) hx hb hu fi_Model hown hK hw 51 (x_at (by decide) (xcl_51 G σ)) rfl 17 (by decide) (hu _ mw_1085) (fun _ h9 => h9) rfl d_Model_list_9 ?_
      refine lv_icmp_ge (tgt := 109) hx hb d_Model_list_12 (by decide) (fun hc12 => ?_) (fun hc12 => ?_)
      · rw [if_pos hc12] at hE
        have e1 := Option.some.inj hE
        exact W.vret hx hb hr (fun t ht hW => ⟨rfl, by rw [ht, ← e1]; exact hw, hS.F ht⟩) hS.2.2 d_Model_list_109
      · rw [if_neg hc12] at hE
        refine lv_bipush (v := (80 : Int32)) hx hb d_Model_list_15 (by decide) ?_
        refine lv_iload_n hx hb d_Model_list_17 rfl (lv_at hl 2 rfl) ?_
        refine lv_imul hx hb d_Model_list_18 ?_
        refine lv_aload_n hx hb d_Model_list_19 rfl (lv_at hl 0 rfl) ?_
        refine va_get (D := G.1) (cl := xCl) (ci := 10) (v := .ref (G.2.1 60)) (C := R_Model) (T := T_Model) (N := 33) hx hb hu fi_Model hown hK hw 51 (x_at (by decide) (xcl_51 G σ)) rfl 19 (by decide) (hu _ mw_1087) (fun _ h9 => h9) rfl d_Model_list_20 ?_
        refine lv_iload_n hx hb d_Model_list_23 rfl (lv_at hl 2 rfl) ?_
        obtain ⟨g24, hE⟩ := x_guard hE
        refine va_iald hx hb hK hw 60 0 (x_at (by decide) (xcl_60 G σ)) rfl g24 d_Model_list_24 ?_
        refine lv_iadd hx hb d_Model_list_25 ?_
        refine lv_iconst (v := (1 : Int32)) hx hb d_Model_list_26 (by decide) ?_
        refine lv_iadd hx hb d_Model_list_27 ?_
        refine lv_topi (fun v28 e28 => ?_)
        replace hE := x_letT e28 hE
        refine lv_istore_n hx hb d_Model_list_28 rfl hl (by decide) rfl (fun ls hl => ?_)
        have hl : lv_has ls 5 [(3, .int v28), (0, .ref (G.2.1 51)), (1, .int a1), (2, .int l2)] := hl
        refine lv_iload_n hx hb d_Model_list_29 rfl (lv_at hl 0 rfl) ?_
        refine lv_istore hx hb d_Model_list_30 hl (by decide) rfl (fun ls hl => ?_)
        have hl : lv_has ls 5 [(4, .int v28), (3, .int v28), (0, .ref (G.2.1 51)), (1, .int a1), (2, .int l2)] := hl
        exact jn32 _ ih x_fuel _ _ _ _ _ _ _ hE (lv_sub hl [2, 3, 4, 1, 0] rfl) hw hS
  have hl := lv_entry ([.ref (G.2.1 51), .int a1]) (n := 5) (Nat.le_of_ble_eq_true rfl)
  rw [lg_entry_eq]
  generalize (lg_sl ([.ref (G.2.1 51), .int a1]) ++ List.replicate (5 - (lg_sl ([.ref (G.2.1 51), .int a1])).length) Slot.unset).toArray = ls at hl ⊢
  have hl : lv_has ls 5 [(0, .ref (G.2.1 51)), (1, .int a1)] := hl
  unfold x_Model_list at hE
  refine lv_aload_n hx hb d_Model_list_0 rfl (lv_at hl 0 rfl) ?_
  refine lv_iconst (v := (0 : Int32)) hx hb d_Model_list_1 (by decide) ?_
  refine va_put (D := G.1) (cl := xCl) (ci := 10) (v := .int (0 : Int32)) (ty := .int) (C := R_Model) (T := T_Model) (N := 33) hx hb hu fi_Model ty_Model tyok_Model nm_Model hown hK hw (x_D hI _) hS 51 (x_at (by decide) (xcl_51 G σ)) rfl 26 (by decide) (hu _ mw_1094) (fun _ h9 => h9) rfl (tyok_Model 26 (by decide)) rfl rfl (Nat.le_of_ble_eq_true rfl) d_Model_list_2 (fun H locs hw _ hS => ?_)
  replace hw := x_setR hw (by decide) rfl
  obtain ⟨s2, e2, hE⟩ := x_letE hE
  rw [← e2] at hw
  refine lv_iconst (v := (0 : Int32)) hx hb d_Model_list_5 (by decide) ?_
  refine lv_istore_n hx hb d_Model_list_6 rfl hl (by decide) rfl (fun ls hl => ?_)
  have hl : lv_has ls 5 [(2, .int (0 : Int32)), (0, .ref (G.2.1 51)), (1, .int a1)] := hl
  exact jn7 x_fuel _ _ _ _ _ hE (lv_sub hl [1, 2, 0] rfl) hw hS

def y_Model_has : MethodName := ⟨"PlainOriginModel", "has", "(II)Z"⟩
def ws_Model_has : List Cond := Cond.code y_Model_has prog_14_method_28_code 5 (some .boolean) :: UW
theorem hd_Model_has : y_Model_has.cls = R_Model ∧ y_Model_has.cls ≠ "java/lang/invoke/MethodHandle" ∧ y_Model_has.cls ≠ "java/lang/invoke/VarHandle" ∧ (parseMethodDescriptor y_Model_has.desc).map (fun d => d.parameters.length) = some 2 := by decide +kernel
theorem d_Model_has_0 : decode prog_14_method_28_code 0 = .ok (.aload_n 0, 1) := by decide +kernel
theorem d_Model_has_1 : decode prog_14_method_28_code 1 = .ok (.iload_n 1, 1) := by decide +kernel
theorem d_Model_has_2 : decode prog_14_method_28_code 2 = .ok (.invokevirtual 270, 3) := by decide +kernel
theorem d_Model_has_5 : decode prog_14_method_28_code 5 = .ok (.iconst 0, 1) := by decide +kernel
theorem d_Model_has_6 : decode prog_14_method_28_code 6 = .ok (.istore_n 3, 1) := by decide +kernel
theorem d_Model_has_7 : decode prog_14_method_28_code 7 = .ok (.iconst 0, 1) := by decide +kernel
theorem d_Model_has_8 : decode prog_14_method_28_code 8 = .ok (.istore 4, 2) := by decide +kernel
theorem d_Model_has_10 : decode prog_14_method_28_code 10 = .ok (.iload 4, 2) := by decide +kernel
theorem d_Model_has_12 : decode prog_14_method_28_code 12 = .ok (.aload_n 0, 1) := by decide +kernel
theorem d_Model_has_13 : decode prog_14_method_28_code 13 = .ok (.getfield 263, 3) := by decide +kernel
theorem d_Model_has_16 : decode prog_14_method_28_code 16 = .ok (.if_icmp .ge (41), 3) := by decide +kernel
theorem d_Model_has_19 : decode prog_14_method_28_code 19 = .ok (.iload_n 3, 1) := by decide +kernel
theorem d_Model_has_20 : decode prog_14_method_28_code 20 = .ok (.ifCond .ne (25), 3) := by decide +kernel
theorem d_Model_has_23 : decode prog_14_method_28_code 23 = .ok (.aload_n 0, 1) := by decide +kernel
theorem d_Model_has_24 : decode prog_14_method_28_code 24 = .ok (.aload_n 0, 1) := by decide +kernel
theorem d_Model_has_25 : decode prog_14_method_28_code 25 = .ok (.getfield 130, 3) := by decide +kernel
theorem d_Model_has_28 : decode prog_14_method_28_code 28 = .ok (.iload 4, 2) := by decide +kernel
theorem d_Model_has_30 : decode prog_14_method_28_code 30 = .ok (.iaload, 1) := by decide +kernel
theorem d_Model_has_31 : decode prog_14_method_28_code 31 = .ok (.aload_n 0, 1) := by decide +kernel
theorem d_Model_has_32 : decode prog_14_method_28_code 32 = .ok (.getfield 133, 3) := by decide +kernel
theorem d_Model_has_35 : decode prog_14_method_28_code 35 = .ok (.iload 4, 2) := by decide +kernel
theorem d_Model_has_37 : decode prog_14_method_28_code 37 = .ok (.iaload, 1) := by decide +kernel
theorem d_Model_has_38 : decode prog_14_method_28_code 38 = .ok (.iload_n 2, 1) := by decide +kernel
theorem d_Model_has_39 : decode prog_14_method_28_code 39 = .ok (.invokevirtual 254, 3) := by decide +kernel
theorem d_Model_has_42 : decode prog_14_method_28_code 42 = .ok (.ifCond .eq (7), 3) := by decide +kernel
theorem d_Model_has_45 : decode prog_14_method_28_code 45 = .ok (.iconst 1, 1) := by decide +kernel
theorem d_Model_has_46 : decode prog_14_method_28_code 46 = .ok (.goto (4), 3) := by decide +kernel
theorem d_Model_has_49 : decode prog_14_method_28_code 49 = .ok (.iconst 0, 1) := by decide +kernel
theorem d_Model_has_50 : decode prog_14_method_28_code 50 = .ok (.istore_n 3, 1) := by decide +kernel
theorem d_Model_has_51 : decode prog_14_method_28_code 51 = .ok (.iinc 4 (1), 3) := by decide +kernel
theorem d_Model_has_54 : decode prog_14_method_28_code 54 = .ok (.goto (-44), 3) := by decide +kernel
theorem d_Model_has_57 : decode prog_14_method_28_code 57 = .ok (.iload_n 3, 1) := by decide +kernel
theorem d_Model_has_58 : decode prog_14_method_28_code 58 = .ok (.ireturn, 1) := by decide +kernel
def x_Model_has_50 (a1 : Int32) (a2 : Int32) (bk10 : Int32 → Int32 → St → Option (Int32 × St)) (l4 : Int32) (k0 : Int32) (σ : St) : Option (Int32 × St) := (x_let (l4 + (1 : Int32)) (fun (v51 : Int32) => bk10 k0 v51 σ))
def x_Model_has_45 (a1 : Int32) (a2 : Int32) (bk10 : Int32 → Int32 → St → Option (Int32 × St)) (l4 : Int32) (σ : St) : Option (Int32 × St) := x_Model_has_50 a1 a2 bk10 l4 (1 : Int32) σ
def x_Model_has_10 (a1 : Int32) (a2 : Int32) : Nat → Int32 → Int32 → St → Option (Int32 × St)
  | 0, _, _, _ => none
  | n + 1, l3, l4, σ => (if (σ.1 51 26) ≤ l4 then (if x_bit l3 then some (l3, σ) else none) else (if l3 = 0 then (if x_in l4 512 then (if x_in l4 512 then (Option.bind (x_Model_isWord (σ.2.1 63 l4.toNatClampNeg) (σ.2.1 64 l4.toNatClampNeg) a2 σ) (fun r39 => (if r39 = 0 then x_Model_has_50 a1 a2 (x_Model_has_10 a1 a2 n) l4 (0 : Int32) σ else x_Model_has_45 a1 a2 (x_Model_has_10 a1 a2 n) l4 σ))) else none) else none) else x_Model_has_45 a1 a2 (x_Model_has_10 a1 a2 n) l4 σ))
def x_Model_has (a1 : Int32) (a2 : Int32) (σ : St) : Option (Int32 × St) := (Option.bind (x_Model_list a1 σ) (fun s2 => x_Model_has_10 a1 a2 x_fuel (0 : Int32) (0 : Int32) s2))
abbrev rm_Model_has : Room := { frames := 5, cells := 0, slots := 0, locals := 113 }
set_option maxHeartbeats 4000000 in
set_option maxRecDepth 100000 in
theorem t_Model_has (l : Launch) (G : xG) (σ : St) (a1 : Int32) (a2 : Int32) (r : Int32) (σ' : St) (hE : x_Model_has a1 a2 σ = some (r, σ')) : Met l y_Model_has (ws_Model_has) rm_Model_has (xP G σ [.ref (G.2.1 51), .int a1, .int a2]) (xQ G (some (.int r)) σ') 0 0 (xA G) := by
  refine Met.ofW (cc := prog_14_method_28_code) (maxL := 5) (ret := (some .boolean)) (by decide) rfl ?_
  intro p e s m args below meth c s₁ B hml hv
  obtain ⟨rfl, hw, hC⟩ := hv
  have hx := B.exec
  have hb := B.bytes
  have hr := B.returns
  have hu : ∀ w ∈ UW, w.before _ s = true := fun w h => atoms_spec B.pre w (List.mem_cons_of_mem _ h)
  have hown : s.vm.findClass R_Model = some m.cls := findClass_of_methodNamed B.named
  have hlocks := B.notSynchronized
  have hK := hC.1
  have hI := hC.2.1
  have hG := hC.2.2.1
  have hN := hC.2.2.2
  have hS : va_S (xA G) s.heap s.heap [] := va_S.rf
  have jn50 : ∀ (bk10 : Int32 → Int32 → St → Option (Int32 × St)) (hbk10 : ∀ (ls : Array Slot) (H : Heap) (locs : List Loc) (σ : St) (l3 : Int32) (l4 : Int32), bk10 l3 l4 σ = some (r, σ') → lv_has ls 5 [(0, .ref (G.2.1 51)), (1, .int a1), (2, .int a2), (3, .int l3), (4, .int l4)] → xw G σ H → va_S (xA G) s.heap H locs → W p l e (headSpec (ws_Model_has) rm_Model_has).room s m ([.ref (G.2.1 51), .int a1, .int a2] : List Value).toArray below meth c H locs 0 0 (MQ below (xQ G (some (.int r)) σ') ([.ref (G.2.1 51), .int a1, .int a2] : List Value).toArray s 0 0 (xA G)) (F0 m 10 ls [])) (ls : Array Slot) (H : Heap) (locs : List Loc) (σ : St) (l4 : Int32) (k0 : Int32), x_Model_has_50 a1 a2 bk10 l4 k0 σ = some (r, σ') → lv_has ls 5 [(0, .ref (G.2.1 51)), (1, .int a1), (2, .int a2), (4, .int l4)] → xw G σ H → va_S (xA G) s.heap H locs → W p l e (headSpec (ws_Model_has) rm_Model_has).room s m ([.ref (G.2.1 51), .int a1, .int a2] : List Value).toArray below meth c H locs 0 0 (MQ below (xQ G (some (.int r)) σ') ([.ref (G.2.1 51), .int a1, .int a2] : List Value).toArray s 0 0 (xA G)) (F0 m 50 ls [.int k0]) := by
    intro bk10 hbk10 ls H locs σ l4 k0 hE hl hw hS
    unfold x_Model_has_50 at hE
    refine lv_istore_n hx hb d_Model_has_50 rfl hl (by decide) rfl (fun ls hl => ?_)
    have hl : lv_has ls 5 [(3, .int k0), (0, .ref (G.2.1 51)), (1, .int a1), (2, .int a2), (4, .int l4)] := hl
    obtain ⟨v51, e51, hE⟩ := x_letE hE
    refine lv_iinc hx hb d_Model_has_51 hl (k := 4) rfl (x_inc v51 e51 (by decide)) (by decide) rfl (fun ls hl => ?_)
    have hl : lv_has ls 5 [(4, .int v51), (3, .int k0), (0, .ref (G.2.1 51)), (1, .int a1), (2, .int a2)] := hl
    refine lv_goto (tgt := 10) hx hb d_Model_has_54 (by decide) ?_
    exact hbk10 _ _ _ _ _ _ hE (lv_sub hl [2, 3, 4, 1, 0] rfl) hw hS
  have jn45 : ∀ (bk10 : Int32 → Int32 → St → Option (Int32 × St)) (hbk10 : ∀ (ls : Array Slot) (H : Heap) (locs : List Loc) (σ : St) (l3 : Int32) (l4 : Int32), bk10 l3 l4 σ = some (r, σ') → lv_has ls 5 [(0, .ref (G.2.1 51)), (1, .int a1), (2, .int a2), (3, .int l3), (4, .int l4)] → xw G σ H → va_S (xA G) s.heap H locs → W p l e (headSpec (ws_Model_has) rm_Model_has).room s m ([.ref (G.2.1 51), .int a1, .int a2] : List Value).toArray below meth c H locs 0 0 (MQ below (xQ G (some (.int r)) σ') ([.ref (G.2.1 51), .int a1, .int a2] : List Value).toArray s 0 0 (xA G)) (F0 m 10 ls [])) (ls : Array Slot) (H : Heap) (locs : List Loc) (σ : St) (l4 : Int32), x_Model_has_45 a1 a2 bk10 l4 σ = some (r, σ') → lv_has ls 5 [(0, .ref (G.2.1 51)), (1, .int a1), (2, .int a2), (4, .int l4)] → xw G σ H → va_S (xA G) s.heap H locs → W p l e (headSpec (ws_Model_has) rm_Model_has).room s m ([.ref (G.2.1 51), .int a1, .int a2] : List Value).toArray below meth c H locs 0 0 (MQ below (xQ G (some (.int r)) σ') ([.ref (G.2.1 51), .int a1, .int a2] : List Value).toArray s 0 0 (xA G)) (F0 m 45 ls []) := by
    intro bk10 hbk10 ls H locs σ l4 hE hl hw hS
    unfold x_Model_has_45 at hE
    refine lv_iconst (v := (1 : Int32)) hx hb d_Model_has_45 (by decide) ?_
    refine lv_goto (tgt := 50) hx hb d_Model_has_46 (by decide) ?_
    exact jn50 _ hbk10 _ _ _ _ _ _ hE (lv_sub hl [0, 1, 2, 3] rfl) hw hS
  have jn10 : ∀ (n : Nat) (ls : Array Slot) (H : Heap) (locs : List Loc) (σ : St) (l3 : Int32) (l4 : Int32), x_Model_has_10 a1 a2 n l3 l4 σ = some (r, σ') → lv_has ls 5 [(0, .ref (G.2.1 51)), (1, .int a1), (2, .int a2), (3, .int l3), (4, .int l4)] → xw G σ H → va_S (xA G) s.heap H locs → W p l e (headSpec (ws_Model_has) rm_Model_has).room s m ([.ref (G.2.1 51), .int a1, .int a2] : List Value).toArray below meth c H locs 0 0 (MQ below (xQ G (some (.int r)) σ') ([.ref (G.2.1 51), .int a1, .int a2] : List Value).toArray s 0 0 (xA G)) (F0 m 10 ls []) := by
    intro n
    induction n with
    | zero => intro ls H locs σ l3 l4 hE; rw [x_Model_has_10] at hE; cases hE
    | succ n ih =>
      intro ls H locs σ l3 l4 hE hl hw hS
      rw [x_Model_has_10] at hE
      refine lv_iload hx hb d_Model_has_10 (lv_at hl 4 rfl) ?_
      refine lv_aload_n hx hb d_Model_has_12 rfl (lv_at hl 0 rfl) ?_
      refine va_get (D := G.1) (cl := xCl) (ci := 10) (v := .int (σ.1 51 26)) (C := R_Model) (T := T_Model) (N := 33) hx hb hu fi_Model hown hK hw 51 (x_at (by decide) (xcl_51 G σ)) rfl 26 (by decide) (hu _ mw_1094) (fun _ h9 => h9) rfl d_Model_has_13 ?_
      refine lv_icmp_ge (tgt := 57) hx hb d_Model_has_16 (by decide) (fun hc16 => ?_) (fun hc16 => ?_)
      · rw [if_pos hc16] at hE
        refine lv_iload_n hx hb d_Model_has_57 rfl (lv_at hl 3 rfl) ?_
        obtain ⟨g58, hE⟩ := x_guard hE
        obtain ⟨e1, e2⟩ := x_pair hE
        exact W.zret (v := l3) hx hb hr (x_nz g58) (fun t ht hW => ⟨by rw [e1], by rw [ht, ← e2]; exact hw, hS.F ht⟩) hS.2.2 d_Model_has_58
      · rw [if_neg hc16] at hE
        refine lv_iload_n hx hb d_Model_has_19 rfl (lv_at hl 3 rfl) ?_
        refine lv_if_ne (tgt := 45) hx hb d_Model_has_20 (by decide) (fun hc20 => ?_) (fun hc20 => ?_)
        · rw [if_neg hc20] at hE
          exact jn45 _ ih _ _ _ _ _ hE (lv_sub hl [0, 1, 2, 4] rfl) hw hS
        · rw [if_pos hc20] at hE
          refine lv_aload_n hx hb d_Model_has_23 rfl (lv_at hl 0 rfl) ?_
          refine lv_aload_n hx hb d_Model_has_24 rfl (lv_at hl 0 rfl) ?_
          refine va_get (D := G.1) (cl := xCl) (ci := 10) (v := .ref (G.2.1 63)) (C := R_Model) (T := T_Model) (N := 33) hx hb hu fi_Model hown hK hw 51 (x_at (by decide) (xcl_51 G σ)) rfl 27 (by decide) (hu _ mw_1095) (fun _ h9 => h9) rfl d_Model_has_25 ?_
          refine lv_iload hx hb d_Model_has_28 (lv_at hl 4 rfl) ?_
          obtain ⟨g30, hE⟩ := x_guard hE
          refine va_iald hx hb hK hw 63 0 (x_at (by decide) (xcl_63 G σ)) rfl g30 d_Model_has_30 ?_
          refine lv_aload_n hx hb d_Model_has_31 rfl (lv_at hl 0 rfl) ?_
          refine va_get (D := G.1) (cl := xCl) (ci := 10) (v := .ref (G.2.1 64)) (C := R_Model) (T := T_Model) (N := 33) hx hb hu fi_Model hown hK hw 51 (x_at (by decide) (xcl_51 G σ)) rfl 28 (by decide) (hu _ mw_1096) (fun _ h9 => h9) rfl d_Model_has_32 ?_
          refine lv_iload hx hb d_Model_has_35 (lv_at hl 4 rfl) ?_
          obtain ⟨g37, hE⟩ := x_guard hE
          refine va_iald hx hb hK hw 64 0 (x_at (by decide) (xcl_64 G σ)) rfl g37 d_Model_has_37 ?_
          refine lv_iload_n hx hb d_Model_has_38 rfl (lv_at hl 2 rfl) ?_
          obtain ⟨r39, hC39, hE⟩ := x_bind hE
          refine x_callR (W.runV (As := [.int (σ.2.1 63 l4.toNatClampNeg), .int (σ.2.1 64 l4.toNatClampNeg), .int a2]) (rest := []) ⟨hx, hb, hml, hown, hu⟩ (t_Model_isWord l G σ (σ.2.1 63 l4.toNatClampNeg) (σ.2.1 64 l4.toNatClampNeg) a2 r39 hC39) (cwV 3 hu (uw_V mw_1251 mw_1253 mw_38 mw_70 mw_1254) rfl rfl rfl hd_Model_isWord ⟨Nat.le_of_ble_eq_true rfl, Nat.le_of_ble_eq_true rfl⟩) (x_preV hC hS hw (va_recv hK hw (q := (R_Model, T_Model, 33)) (ci := 10) rfl (x_at (by decide) (xcl_51 G σ)))) rfl rfl hl.1 rfl (lv_room (Nat.le_of_ble_eq_true rfl)) d_Model_has_39 ⟨Nat.le_of_ble_eq_true rfl, Nat.le_of_ble_eq_true rfl⟩) ?_
          refine lv_if_eq (tgt := 49) hx hb d_Model_has_42 (by decide) (fun hc42 => ?_) (fun hc42 => ?_)
          · rw [if_pos hc42] at hE
            refine lv_iconst (v := (0 : Int32)) hx hb d_Model_has_49 (by decide) ?_
            exact jn50 _ ih _ _ _ _ _ _ hE (lv_sub hl [0, 1, 2, 4] rfl) hw hS
          · rw [if_neg hc42] at hE
            exact jn45 _ ih _ _ _ _ _ hE (lv_sub hl [0, 1, 2, 4] rfl) hw hS
  have hl := lv_entry ([.ref (G.2.1 51), .int a1, .int a2]) (n := 5) (Nat.le_of_ble_eq_true rfl)
  rw [lg_entry_eq]
  generalize (lg_sl ([.ref (G.2.1 51), .int a1, .int a2]) ++ List.replicate (5 - (lg_sl ([.ref (G.2.1 51), .int a1, .int a2])).length) Slot.unset).toArray = ls at hl ⊢
  have hl : lv_has ls 5 [(0, .ref (G.2.1 51)), (1, .int a1), (2, .int a2)] := hl
  unfold x_Model_has at hE
  refine lv_aload_n hx hb d_Model_has_0 rfl (lv_at hl 0 rfl) ?_
  refine lv_iload_n hx hb d_Model_has_1 rfl (lv_at hl 1 rfl) ?_
  obtain ⟨s2, hC2, hE⟩ := x_bind hE
  refine x_callV hS (W.runV (As := [.int a1]) (rest := []) ⟨hx, hb, hml, hown, hu⟩ (t_Model_list l G σ a1 s2 hC2) (cwV 1 hu (uw_V mw_1243 mw_1245 mw_36 mw_70 mw_1246) rfl rfl rfl hd_Model_list ⟨Nat.le_of_ble_eq_true rfl, Nat.le_of_ble_eq_true rfl⟩) (x_preV hC hS hw (va_recv hK hw (q := (R_Model, T_Model, 33)) (ci := 10) rfl (x_at (by decide) (xcl_51 G σ)))) rfl rfl hl.1 rfl (lv_room (Nat.le_of_ble_eq_true rfl)) d_Model_has_2 ⟨Nat.le_of_ble_eq_true rfl, Nat.le_of_ble_eq_true rfl⟩) (fun H locs hw hS => ?_)
  refine lv_iconst (v := (0 : Int32)) hx hb d_Model_has_5 (by decide) ?_
  refine lv_istore_n hx hb d_Model_has_6 rfl hl (by decide) rfl (fun ls hl => ?_)
  have hl : lv_has ls 5 [(3, .int (0 : Int32)), (0, .ref (G.2.1 51)), (1, .int a1), (2, .int a2)] := hl
  refine lv_iconst (v := (0 : Int32)) hx hb d_Model_has_7 (by decide) ?_
  refine lv_istore hx hb d_Model_has_8 hl (by decide) rfl (fun ls hl => ?_)
  have hl : lv_has ls 5 [(4, .int (0 : Int32)), (3, .int (0 : Int32)), (0, .ref (G.2.1 51)), (1, .int a1), (2, .int a2)] := hl
  exact jn10 x_fuel _ _ _ _ _ _ hE (lv_sub hl [2, 3, 4, 1, 0] rfl) hw hS

def y_Model_numberAt : MethodName := ⟨"PlainOriginModel", "numberAt", "(II)I"⟩
def ws_Model_numberAt : List Cond := Cond.code y_Model_numberAt prog_14_method_29_code 6 (some .int) :: UW
theorem hd_Model_numberAt : y_Model_numberAt.cls = R_Model ∧ y_Model_numberAt.cls ≠ "java/lang/invoke/MethodHandle" ∧ y_Model_numberAt.cls ≠ "java/lang/invoke/VarHandle" ∧ (parseMethodDescriptor y_Model_numberAt.desc).map (fun d => d.parameters.length) = some 2 := by decide +kernel
theorem d_Model_numberAt_0 : decode prog_14_method_29_code 0 = .ok (.iload_n 2, 1) := by decide +kernel
theorem d_Model_numberAt_1 : decode prog_14_method_29_code 1 = .ok (.iload_n 1, 1) := by decide +kernel
theorem d_Model_numberAt_2 : decode prog_14_method_29_code 2 = .ok (.if_icmp .le (15), 3) := by decide +kernel
theorem d_Model_numberAt_5 : decode prog_14_method_29_code 5 = .ok (.iload_n 2, 1) := by decide +kernel
theorem d_Model_numberAt_6 : decode prog_14_method_29_code 6 = .ok (.iload_n 1, 1) := by decide +kernel
theorem d_Model_numberAt_7 : decode prog_14_method_29_code 7 = .ok (.isub, 1) := by decide +kernel
theorem d_Model_numberAt_8 : decode prog_14_method_29_code 8 = .ok (.bipush (10), 2) := by decide +kernel
theorem d_Model_numberAt_10 : decode prog_14_method_29_code 10 = .ok (.if_icmp .ge (7), 3) := by decide +kernel
theorem d_Model_numberAt_13 : decode prog_14_method_29_code 13 = .ok (.iconst 1, 1) := by decide +kernel
theorem d_Model_numberAt_14 : decode prog_14_method_29_code 14 = .ok (.goto (4), 3) := by decide +kernel
theorem d_Model_numberAt_17 : decode prog_14_method_29_code 17 = .ok (.iconst 0, 1) := by decide +kernel
theorem d_Model_numberAt_18 : decode prog_14_method_29_code 18 = .ok (.istore_n 3, 1) := by decide +kernel
theorem d_Model_numberAt_19 : decode prog_14_method_29_code 19 = .ok (.iconst 0, 1) := by decide +kernel
theorem d_Model_numberAt_20 : decode prog_14_method_29_code 20 = .ok (.istore 4, 2) := by decide +kernel
theorem d_Model_numberAt_22 : decode prog_14_method_29_code 22 = .ok (.iload_n 1, 1) := by decide +kernel
theorem d_Model_numberAt_23 : decode prog_14_method_29_code 23 = .ok (.istore 5, 2) := by decide +kernel
theorem d_Model_numberAt_25 : decode prog_14_method_29_code 25 = .ok (.iload 5, 2) := by decide +kernel
theorem d_Model_numberAt_27 : decode prog_14_method_29_code 27 = .ok (.iload_n 2, 1) := by decide +kernel
theorem d_Model_numberAt_28 : decode prog_14_method_29_code 28 = .ok (.if_icmp .ge (42), 3) := by decide +kernel
theorem d_Model_numberAt_31 : decode prog_14_method_29_code 31 = .ok (.iload_n 3, 1) := by decide +kernel
theorem d_Model_numberAt_32 : decode prog_14_method_29_code 32 = .ok (.ifCond .eq (38), 3) := by decide +kernel
theorem d_Model_numberAt_35 : decode prog_14_method_29_code 35 = .ok (.aload_n 0, 1) := by decide +kernel
theorem d_Model_numberAt_36 : decode prog_14_method_29_code 36 = .ok (.getfield 118, 3) := by decide +kernel
theorem d_Model_numberAt_39 : decode prog_14_method_29_code 39 = .ok (.iload 5, 2) := by decide +kernel
theorem d_Model_numberAt_41 : decode prog_14_method_29_code 41 = .ok (.iaload, 1) := by decide +kernel
theorem d_Model_numberAt_42 : decode prog_14_method_29_code 42 = .ok (.invokestatic 151, 3) := by decide +kernel
theorem d_Model_numberAt_45 : decode prog_14_method_29_code 45 = .ok (.istore_n 3, 1) := by decide +kernel
theorem d_Model_numberAt_46 : decode prog_14_method_29_code 46 = .ok (.bipush (10), 2) := by decide +kernel
theorem d_Model_numberAt_48 : decode prog_14_method_29_code 48 = .ok (.iload 4, 2) := by decide +kernel
theorem d_Model_numberAt_50 : decode prog_14_method_29_code 50 = .ok (.imul, 1) := by decide +kernel
theorem d_Model_numberAt_51 : decode prog_14_method_29_code 51 = .ok (.aload_n 0, 1) := by decide +kernel
theorem d_Model_numberAt_52 : decode prog_14_method_29_code 52 = .ok (.getfield 118, 3) := by decide +kernel
theorem d_Model_numberAt_55 : decode prog_14_method_29_code 55 = .ok (.iload 5, 2) := by decide +kernel
theorem d_Model_numberAt_57 : decode prog_14_method_29_code 57 = .ok (.iaload, 1) := by decide +kernel
theorem d_Model_numberAt_58 : decode prog_14_method_29_code 58 = .ok (.iadd, 1) := by decide +kernel
theorem d_Model_numberAt_59 : decode prog_14_method_29_code 59 = .ok (.bipush (48), 2) := by decide +kernel
theorem d_Model_numberAt_61 : decode prog_14_method_29_code 61 = .ok (.isub, 1) := by decide +kernel
theorem d_Model_numberAt_62 : decode prog_14_method_29_code 62 = .ok (.istore 4, 2) := by decide +kernel
theorem d_Model_numberAt_64 : decode prog_14_method_29_code 64 = .ok (.iinc 5 (1), 3) := by decide +kernel
theorem d_Model_numberAt_67 : decode prog_14_method_29_code 67 = .ok (.goto (-42), 3) := by decide +kernel
theorem d_Model_numberAt_70 : decode prog_14_method_29_code 70 = .ok (.iload_n 3, 1) := by decide +kernel
theorem d_Model_numberAt_71 : decode prog_14_method_29_code 71 = .ok (.ifCond .eq (8), 3) := by decide +kernel
theorem d_Model_numberAt_74 : decode prog_14_method_29_code 74 = .ok (.iload 4, 2) := by decide +kernel
theorem d_Model_numberAt_76 : decode prog_14_method_29_code 76 = .ok (.goto (4), 3) := by decide +kernel
theorem d_Model_numberAt_79 : decode prog_14_method_29_code 79 = .ok (.iconst (-1), 1) := by decide +kernel
theorem d_Model_numberAt_80 : decode prog_14_method_29_code 80 = .ok (.ireturn, 1) := by decide +kernel
def x_Model_numberAt_70 (a1 : Int32) (a2 : Int32) (σ : St) (l3 : Int32) (l4 : Int32) : Option Int32 := (if l3 = 0 then some ((-1) : Int32) else some l4)
def x_Model_numberAt_25 (a1 : Int32) (a2 : Int32) (σ : St) : Nat → Int32 → Int32 → Int32 → Option Int32
  | 0, _, _, _ => none
  | n + 1, l3, l4, l5 => (if a2 ≤ l5 then x_Model_numberAt_70 a1 a2 σ l3 l4 else (if l3 = 0 then x_Model_numberAt_70 a1 a2 σ l3 l4 else (if x_in l5 960 then (Option.bind (x_Model_isDigit (σ.2.1 59 l5.toNatClampNeg)) (fun r42 => (if x_in l5 960 then (x_let ((((10 : Int32) * l4) + (σ.2.1 59 l5.toNatClampNeg)) - (48 : Int32)) (fun (v62 : Int32) => (x_let (l5 + (1 : Int32)) (fun (v64 : Int32) => x_Model_numberAt_25 a1 a2 σ n r42 v62 v64)))) else none))) else none)))
def x_Model_numberAt_18 (a1 : Int32) (a2 : Int32) (σ : St) (k0 : Int32) : Option Int32 := x_Model_numberAt_25 a1 a2 σ x_fuel k0 (0 : Int32) a1
def x_Model_numberAt_17 (a1 : Int32) (a2 : Int32) (σ : St) : Option Int32 := x_Model_numberAt_18 a1 a2 σ (0 : Int32)
def x_Model_numberAt (a1 : Int32) (a2 : Int32) (σ : St) : Option Int32 := (if a2 ≤ a1 then x_Model_numberAt_17 a1 a2 σ else (if (10 : Int32) ≤ (a2 - a1) then x_Model_numberAt_17 a1 a2 σ else x_Model_numberAt_18 a1 a2 σ (1 : Int32)))
abbrev rm_Model_numberAt : Room := { frames := 2, cells := 0, slots := 0, locals := 42 }
set_option maxHeartbeats 4000000 in
set_option maxRecDepth 100000 in
theorem t_Model_numberAt (l : Launch) (G : xG) (σ : St) (a1 : Int32) (a2 : Int32) (r : Int32) (hE : x_Model_numberAt a1 a2 σ = some r) : Met l y_Model_numberAt (ws_Model_numberAt) rm_Model_numberAt (xP G σ [.ref (G.2.1 51), .int a1, .int a2]) (xRd (some (.int r))) 0 0 (fun _ => False) := by
  refine Met.ofW (cc := prog_14_method_29_code) (maxL := 6) (ret := (some .int)) (by decide) rfl ?_
  intro p e s m args below meth c s₁ B hml hv
  obtain ⟨rfl, hw, hC⟩ := hv
  have hx := B.exec
  have hb := B.bytes
  have hr := B.returns
  have hu : ∀ w ∈ UW, w.before _ s = true := fun w h => atoms_spec B.pre w (List.mem_cons_of_mem _ h)
  have hown : s.vm.findClass R_Model = some m.cls := findClass_of_methodNamed B.named
  have hlocks := B.notSynchronized
  have hK := hC.1
  have hI := hC.2.1
  have hG := hC.2.2.1
  have hN := hC.2.2.2
  have hS : va_S (xA G) s.heap s.heap [] := va_S.rf
  have jn70 : ∀ (ls : Array Slot) (l3 : Int32) (l4 : Int32), x_Model_numberAt_70 a1 a2 σ l3 l4 = some r → lv_has ls 6 [(0, .ref (G.2.1 51)), (1, .int a1), (2, .int a2), (3, .int l3), (4, .int l4)] → W p l e (headSpec (ws_Model_numberAt) rm_Model_numberAt).room s m ([.ref (G.2.1 51), .int a1, .int a2] : List Value).toArray below meth c s.heap [] 0 0 (MQ below (xRd (some (.int r))) ([.ref (G.2.1 51), .int a1, .int a2] : List Value).toArray s 0 0 (fun _ => False)) (F0 m 70 ls []) := by
    intro ls l3 l4 hE hl
    unfold x_Model_numberAt_70 at hE
    refine lv_iload_n hx hb d_Model_numberAt_70 rfl (lv_at hl 3 rfl) ?_
    refine lv_if_eq (tgt := 79) hx hb d_Model_numberAt_71 (by decide) (fun hc71 => ?_) (fun hc71 => ?_)
    · rw [if_pos hc71] at hE
      refine lv_iconst (v := ((-1) : Int32)) hx hb d_Model_numberAt_79 (by decide) ?_
      exact W.iret (v := ((-1) : Int32)) hx hb hr (fun t ht hW => ⟨by rw [Option.some.inj hE], ht⟩) (fun q h => by cases h) d_Model_numberAt_80
    · rw [if_neg hc71] at hE
      refine lv_iload hx hb d_Model_numberAt_74 (lv_at hl 4 rfl) ?_
      refine lv_goto (tgt := 80) hx hb d_Model_numberAt_76 (by decide) ?_
      exact W.iret (v := l4) hx hb hr (fun t ht hW => ⟨by rw [Option.some.inj hE], ht⟩) (fun q h => by cases h) d_Model_numberAt_80
  have jn25 : ∀ (n : Nat) (ls : Array Slot) (l3 : Int32) (l4 : Int32) (l5 : Int32), x_Model_numberAt_25 a1 a2 σ n l3 l4 l5 = some r → lv_has ls 6 [(0, .ref (G.2.1 51)), (1, .int a1), (2, .int a2), (3, .int l3), (4, .int l4), (5, .int l5)] → W p l e (headSpec (ws_Model_numberAt) rm_Model_numberAt).room s m ([.ref (G.2.1 51), .int a1, .int a2] : List Value).toArray below meth c s.heap [] 0 0 (MQ below (xRd (some (.int r))) ([.ref (G.2.1 51), .int a1, .int a2] : List Value).toArray s 0 0 (fun _ => False)) (F0 m 25 ls []) := by
    intro n
    induction n with
    | zero => intro ls l3 l4 l5 hE; rw [x_Model_numberAt_25] at hE; cases hE
    | succ n ih =>
      intro ls l3 l4 l5 hE hl
      rw [x_Model_numberAt_25] at hE
      refine lv_iload hx hb d_Model_numberAt_25 (lv_at hl 5 rfl) ?_
      refine lv_iload_n hx hb d_Model_numberAt_27 rfl (lv_at hl 2 rfl) ?_
      refine lv_icmp_ge (tgt := 70) hx hb d_Model_numberAt_28 (by decide) (fun hc28 => ?_) (fun hc28 => ?_)
      · rw [if_pos hc28] at hE
        exact jn70 _ _ _ hE (lv_sub hl [0, 1, 2, 3, 4] rfl)
      · rw [if_neg hc28] at hE
        refine lv_iload_n hx hb d_Model_numberAt_31 rfl (lv_at hl 3 rfl) ?_
        refine lv_if_eq (tgt := 70) hx hb d_Model_numberAt_32 (by decide) (fun hc32 => ?_) (fun hc32 => ?_)
        · rw [if_pos hc32] at hE
          exact jn70 _ _ _ hE (lv_sub hl [0, 1, 2, 3, 4] rfl)
        · rw [if_neg hc32] at hE
          refine lv_aload_n hx hb d_Model_numberAt_35 rfl (lv_at hl 0 rfl) ?_
          refine va_get (D := G.1) (cl := xCl) (ci := 10) (v := .ref (G.2.1 59)) (C := R_Model) (T := T_Model) (N := 33) hx hb hu fi_Model hown hK hw 51 (x_at (by decide) (xcl_51 G σ)) rfl 18 (by decide) (hu _ mw_1086) (fun _ h9 => h9) rfl d_Model_numberAt_36 ?_
          refine lv_iload hx hb d_Model_numberAt_39 (lv_at hl 5 rfl) ?_
          obtain ⟨g41, hE⟩ := x_guard hE
          refine va_iald hx hb hK hw 59 0 (x_at (by decide) (xcl_59 G σ)) rfl g41 d_Model_numberAt_41 ?_
          obtain ⟨r42, hC42, hE⟩ := x_bind hE
          refine x_callR (W.runS (As := [.int (σ.2.1 59 l5.toNatClampNeg)]) (rest := []) ⟨hx, hb, hml, hown, hu⟩ (t_Model_isDigit l G σ (σ.2.1 59 l5.toNatClampNeg) r42 hC42) (va_cwS 1 hu (uw_S mw_1197 mw_1198 mw_70 mw_1199) rfl rfl rfl hd_Model_isDigit ⟨Nat.le_of_ble_eq_true rfl, Nat.le_of_ble_eq_true rfl⟩) (x_preS hC hS hw) rfl rfl hl.1 rfl (lv_room (Nat.le_of_ble_eq_true rfl)) d_Model_numberAt_42 ⟨Nat.le_of_ble_eq_true rfl, Nat.le_of_ble_eq_true rfl⟩) ?_
          refine lv_istore_n hx hb d_Model_numberAt_45 rfl hl (by decide) rfl (fun ls hl => ?_)
          have hl : lv_has ls 6 [(3, .int r42), (0, .ref (G.2.1 51)), (1, .int a1), (2, .int a2), (4, .int l4), (5, .int l5)] := hl
          refine lv_bipush (v := (10 : Int32)) hx hb d_Model_numberAt_46 (by decide) ?_
          refine lv_iload hx hb d_Model_numberAt_48 (lv_at hl 4 rfl) ?_
          refine lv_imul hx hb d_Model_numberAt_50 ?_
          refine lv_aload_n hx hb d_Model_numberAt_51 rfl (lv_at hl 1 rfl) ?_
          refine va_get (D := G.1) (cl := xCl) (ci := 10) (v := .ref (G.2.1 59)) (C := R_Model) (T := T_Model) (N := 33) hx hb hu fi_Model hown hK hw 51 (x_at (by decide) (xcl_51 G σ)) rfl 18 (by decide) (hu _ mw_1086) (fun _ h9 => h9) rfl d_Model_numberAt_52 ?_
          refine lv_iload hx hb d_Model_numberAt_55 (lv_at hl 5 rfl) ?_
          obtain ⟨g57, hE⟩ := x_guard hE
          refine va_iald hx hb hK hw 59 0 (x_at (by decide) (xcl_59 G σ)) rfl g57 d_Model_numberAt_57 ?_
          refine lv_iadd hx hb d_Model_numberAt_58 ?_
          refine lv_bipush (v := (48 : Int32)) hx hb d_Model_numberAt_59 (by decide) ?_
          refine lv_isub hx hb d_Model_numberAt_61 ?_
          refine lv_topi (fun v62 e62 => ?_)
          replace hE := x_letT e62 hE
          refine lv_istore hx hb d_Model_numberAt_62 hl (by decide) rfl (fun ls hl => ?_)
          have hl : lv_has ls 6 [(4, .int v62), (3, .int r42), (0, .ref (G.2.1 51)), (1, .int a1), (2, .int a2), (5, .int l5)] := hl
          obtain ⟨v64, e64, hE⟩ := x_letE hE
          refine lv_iinc hx hb d_Model_numberAt_64 hl (k := 5) rfl (x_inc v64 e64 (by decide)) (by decide) rfl (fun ls hl => ?_)
          have hl : lv_has ls 6 [(5, .int v64), (4, .int v62), (3, .int r42), (0, .ref (G.2.1 51)), (1, .int a1), (2, .int a2)] := hl
          refine lv_goto (tgt := 25) hx hb d_Model_numberAt_67 (by decide) ?_
          exact ih _ _ _ _ hE (lv_sub hl [3, 4, 5, 2, 1, 0] rfl)
  have jn18 : ∀ (ls : Array Slot) (k0 : Int32), x_Model_numberAt_18 a1 a2 σ k0 = some r → lv_has ls 6 [(0, .ref (G.2.1 51)), (1, .int a1), (2, .int a2)] → W p l e (headSpec (ws_Model_numberAt) rm_Model_numberAt).room s m ([.ref (G.2.1 51), .int a1, .int a2] : List Value).toArray below meth c s.heap [] 0 0 (MQ below (xRd (some (.int r))) ([.ref (G.2.1 51), .int a1, .int a2] : List Value).toArray s 0 0 (fun _ => False)) (F0 m 18 ls [.int k0]) := by
    intro ls k0 hE hl
    unfold x_Model_numberAt_18 at hE
    refine lv_istore_n hx hb d_Model_numberAt_18 rfl hl (by decide) rfl (fun ls hl => ?_)
    have hl : lv_has ls 6 [(3, .int k0), (0, .ref (G.2.1 51)), (1, .int a1), (2, .int a2)] := hl
    refine lv_iconst (v := (0 : Int32)) hx hb d_Model_numberAt_19 (by decide) ?_
    refine lv_istore hx hb d_Model_numberAt_20 hl (by decide) rfl (fun ls hl => ?_)
    have hl : lv_has ls 6 [(4, .int (0 : Int32)), (3, .int k0), (0, .ref (G.2.1 51)), (1, .int a1), (2, .int a2)] := hl
    refine lv_iload_n hx hb d_Model_numberAt_22 rfl (lv_at hl 3 rfl) ?_
    refine lv_istore hx hb d_Model_numberAt_23 hl (by decide) rfl (fun ls hl => ?_)
    have hl : lv_has ls 6 [(5, .int a1), (4, .int (0 : Int32)), (3, .int k0), (0, .ref (G.2.1 51)), (1, .int a1), (2, .int a2)] := hl
    exact jn25 x_fuel _ _ _ _ hE (lv_sub hl [3, 4, 5, 2, 1, 0] rfl)
  have jn17 : ∀ (ls : Array Slot), x_Model_numberAt_17 a1 a2 σ = some r → lv_has ls 6 [(0, .ref (G.2.1 51)), (1, .int a1), (2, .int a2)] → W p l e (headSpec (ws_Model_numberAt) rm_Model_numberAt).room s m ([.ref (G.2.1 51), .int a1, .int a2] : List Value).toArray below meth c s.heap [] 0 0 (MQ below (xRd (some (.int r))) ([.ref (G.2.1 51), .int a1, .int a2] : List Value).toArray s 0 0 (fun _ => False)) (F0 m 17 ls []) := by
    intro ls hE hl
    unfold x_Model_numberAt_17 at hE
    refine lv_iconst (v := (0 : Int32)) hx hb d_Model_numberAt_17 (by decide) ?_
    exact jn18 _ _ hE (lv_sub hl [0, 1, 2] rfl)
  have hl := lv_entry ([.ref (G.2.1 51), .int a1, .int a2]) (n := 6) (Nat.le_of_ble_eq_true rfl)
  rw [lg_entry_eq]
  generalize (lg_sl ([.ref (G.2.1 51), .int a1, .int a2]) ++ List.replicate (6 - (lg_sl ([.ref (G.2.1 51), .int a1, .int a2])).length) Slot.unset).toArray = ls at hl ⊢
  have hl : lv_has ls 6 [(0, .ref (G.2.1 51)), (1, .int a1), (2, .int a2)] := hl
  unfold x_Model_numberAt at hE
  refine lv_iload_n hx hb d_Model_numberAt_0 rfl (lv_at hl 2 rfl) ?_
  refine lv_iload_n hx hb d_Model_numberAt_1 rfl (lv_at hl 1 rfl) ?_
  refine lv_icmp_le (tgt := 17) hx hb d_Model_numberAt_2 (by decide) (fun hc2 => ?_) (fun hc2 => ?_)
  · rw [if_pos hc2] at hE
    exact jn17 _ hE (lv_sub hl [0, 1, 2] rfl)
  · rw [if_neg hc2] at hE
    refine lv_iload_n hx hb d_Model_numberAt_5 rfl (lv_at hl 2 rfl) ?_
    refine lv_iload_n hx hb d_Model_numberAt_6 rfl (lv_at hl 1 rfl) ?_
    refine lv_isub hx hb d_Model_numberAt_7 ?_
    refine lv_bipush (v := (10 : Int32)) hx hb d_Model_numberAt_8 (by decide) ?_
    refine lv_icmp_ge (tgt := 17) hx hb d_Model_numberAt_10 (by decide) (fun hc10 => ?_) (fun hc10 => ?_)
    · rw [if_pos hc10] at hE
      exact jn17 _ hE (lv_sub hl [0, 1, 2] rfl)
    · rw [if_neg hc10] at hE
      refine lv_iconst (v := (1 : Int32)) hx hb d_Model_numberAt_13 (by decide) ?_
      refine lv_goto (tgt := 18) hx hb d_Model_numberAt_14 (by decide) ?_
      exact jn18 _ _ hE (lv_sub hl [0, 1, 2] rfl)
