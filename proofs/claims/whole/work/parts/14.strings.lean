def y_String_coder : MethodName := ⟨"java/lang/String", "coder", "()B"⟩
def ws_String_coder : List Cond := Cond.code y_String_coder prog_22_method_152_code 1 (some .byte) :: UW
theorem hd_String_coder : y_String_coder.cls = R_String ∧ y_String_coder.cls ≠ "java/lang/invoke/MethodHandle" ∧ y_String_coder.cls ≠ "java/lang/invoke/VarHandle" ∧ (parseMethodDescriptor y_String_coder.desc).map (fun d => d.parameters.length) = some 0 := by decide +kernel
theorem d_String_coder_0 : decode prog_22_method_152_code 0 = .ok (.getstatic 38, 3) := by decide +kernel
theorem d_String_coder_3 : decode prog_22_method_152_code 3 = .ok (.ifCond .eq (10), 3) := by decide +kernel
theorem d_String_coder_6 : decode prog_22_method_152_code 6 = .ok (.aload_n 0, 1) := by decide +kernel
theorem d_String_coder_7 : decode prog_22_method_152_code 7 = .ok (.getfield 15, 3) := by decide +kernel
theorem d_String_coder_10 : decode prog_22_method_152_code 10 = .ok (.goto (4), 3) := by decide +kernel
theorem d_String_coder_13 : decode prog_22_method_152_code 13 = .ok (.iconst 1, 1) := by decide +kernel
theorem d_String_coder_14 : decode prog_22_method_152_code 14 = .ok (.ireturn, 1) := by decide +kernel
def x_String_coder (w0 : Nat) : Option Int32 := (if (1 : Int32) = 0 then some (1 : Int32) else some (0 : Int32))
abbrev rm_String_coder : Room := { frames := 0, cells := 0, slots := 0, locals := 0 }
set_option maxHeartbeats 4000000 in
set_option maxRecDepth 100000 in
theorem t_String_coder (l : Launch) (G : xG) (σ : St) (w0 : Nat) (hw0 : w0 < nStr) (r : Int32) (hE : x_String_coder w0 = some r) : Met l y_String_coder (ws_String_coder) rm_String_coder (xP G σ [.ref (G.2.2.2.1 w0)]) (xRd (some (.int r))) 0 0 (fun _ => False) := by
  refine Met.ofW (cc := prog_22_method_152_code) (maxL := 1) (ret := (some .byte)) (by decide) rfl ?_
  intro p e s m args below meth c s₁ B hml hv
  obtain ⟨rfl, hw, hC⟩ := hv
  have hx := B.exec
  have hb := B.bytes
  have hr := B.returns
  have hu : ∀ w ∈ UW, w.before _ s = true := fun w h => atoms_spec B.pre w (List.mem_cons_of_mem _ h)
  have hown : s.vm.findClass R_String = some m.cls := findClass_of_methodNamed B.named
  have hlocks := B.notSynchronized
  have hK := hC.1
  have hI := hC.2.1
  have hG := hC.2.2.1
  have hN := hC.2.2.2
  have hS : va_S (xA G) s.heap s.heap [] := va_S.rf
  have hl := lv_entry ([.ref (G.2.2.2.1 w0)]) (n := 1) (Nat.le_of_ble_eq_true rfl)
  rw [lg_entry_eq]
  generalize (lg_sl ([.ref (G.2.2.2.1 w0)]) ++ List.replicate (1 - (lg_sl ([.ref (G.2.2.2.1 w0)])).length) Slot.unset).toArray = ls at hl ⊢
  have hl : lv_has ls 1 [(0, .ref (G.2.2.2.1 w0))] := hl
  unfold x_String_coder at hE
  refine va_gets (v := .int (1 : Int32)) hx hb hN.2.1 hS hown (hu _ mw_565) (fun _ h9 => h9) d_String_coder_0 ?_
  refine lv_if_eq (tgt := 13) hx hb d_String_coder_3 (by decide) (fun hc3 => ?_) (fun hc3 => ?_)
  · rw [if_pos hc3] at hE
    refine lv_iconst (v := (1 : Int32)) hx hb d_String_coder_13 (by decide) ?_
    exact W.zret (v := (1 : Int32)) hx hb hr rfl (fun t ht hW => ⟨by rw [Option.some.inj hE], ht⟩) (fun q h => by cases h) d_String_coder_14
  · rw [if_neg hc3] at hE
    refine lv_aload_n hx hb d_String_coder_6 rfl (lv_at hl 0 rfl) ?_
    refine vk_getf (v := .int (0 : Int32)) hx hb (hN.1 w0 hw0).2.1 hS hown (hu _ mw_1393) (fun _ h9 => h9) d_String_coder_7 ?_
    refine lv_goto (tgt := 14) hx hb d_String_coder_10 (by decide) ?_
    exact W.zret (v := (0 : Int32)) hx hb hr rfl (fun t ht hW => ⟨by rw [Option.some.inj hE], ht⟩) (fun q h => by cases h) d_String_coder_14

def y_String_length : MethodName := ⟨"java/lang/String", "length", "()I"⟩
def ws_String_length : List Cond := Cond.code y_String_length prog_22_method_54_code 1 (some .int) :: UW
theorem hd_String_length : y_String_length.cls = R_String ∧ y_String_length.cls ≠ "java/lang/invoke/MethodHandle" ∧ y_String_length.cls ≠ "java/lang/invoke/VarHandle" ∧ (parseMethodDescriptor y_String_length.desc).map (fun d => d.parameters.length) = some 0 := by decide +kernel
theorem d_String_length_0 : decode prog_22_method_54_code 0 = .ok (.aload_n 0, 1) := by decide +kernel
theorem d_String_length_1 : decode prog_22_method_54_code 1 = .ok (.getfield 9, 3) := by decide +kernel
theorem d_String_length_4 : decode prog_22_method_54_code 4 = .ok (.arraylength, 1) := by decide +kernel
theorem d_String_length_5 : decode prog_22_method_54_code 5 = .ok (.aload_n 0, 1) := by decide +kernel
theorem d_String_length_6 : decode prog_22_method_54_code 6 = .ok (.invokevirtual 335, 3) := by decide +kernel
theorem d_String_length_9 : decode prog_22_method_54_code 9 = .ok (.ishr, 1) := by decide +kernel
theorem d_String_length_10 : decode prog_22_method_54_code 10 = .ok (.ireturn, 1) := by decide +kernel
def x_String_length (w0 : Nat) : Option Int32 := (Option.bind (x_String_coder w0) (fun r6 => some ((Int32.ofNat (slen w0)) >>> (r6 &&& 31))))
abbrev rm_String_length : Room := { frames := 1, cells := 0, slots := 0, locals := 20 }
set_option maxHeartbeats 4000000 in
set_option maxRecDepth 100000 in
theorem t_String_length (l : Launch) (G : xG) (σ : St) (w0 : Nat) (hw0 : w0 < nStr) (r : Int32) (hE : x_String_length w0 = some r) : Met l y_String_length (ws_String_length) rm_String_length (xP G σ [.ref (G.2.2.2.1 w0)]) (xRd (some (.int r))) 0 0 (fun _ => False) := by
  refine Met.ofW (cc := prog_22_method_54_code) (maxL := 1) (ret := (some .int)) (by decide) rfl ?_
  intro p e s m args below meth c s₁ B hml hv
  obtain ⟨rfl, hw, hC⟩ := hv
  have hx := B.exec
  have hb := B.bytes
  have hr := B.returns
  have hu : ∀ w ∈ UW, w.before _ s = true := fun w h => atoms_spec B.pre w (List.mem_cons_of_mem _ h)
  have hown : s.vm.findClass R_String = some m.cls := findClass_of_methodNamed B.named
  have hlocks := B.notSynchronized
  have hK := hC.1
  have hI := hC.2.1
  have hG := hC.2.2.1
  have hN := hC.2.2.2
  have hS : va_S (xA G) s.heap s.heap [] := va_S.rf
  have hl := lv_entry ([.ref (G.2.2.2.1 w0)]) (n := 1) (Nat.le_of_ble_eq_true rfl)
  rw [lg_entry_eq]
  generalize (lg_sl ([.ref (G.2.2.2.1 w0)]) ++ List.replicate (1 - (lg_sl ([.ref (G.2.2.2.1 w0)])).length) Slot.unset).toArray = ls at hl ⊢
  have hl : lv_has ls 1 [(0, .ref (G.2.2.2.1 w0))] := hl
  unfold x_String_length at hE
  refine lv_aload_n hx hb d_String_length_0 rfl (lv_at hl 0 rfl) ?_
  refine vk_getf (v := .ref (G.2.2.2.2.2 w0)) hx hb (hN.1 w0 hw0).2.2.1 hS hown (hu _ mw_1394) (fun _ h9 => h9) d_String_length_1 ?_
  refine va_tlen hx hb (hN.1 w0 hw0).2.2.2 hS (v := Int32.ofNat (slen w0)) rfl d_String_length_4 ?_
  refine lv_aload_n hx hb d_String_length_5 rfl (lv_at hl 0 rfl) ?_
  obtain ⟨r6, hC6, hE⟩ := x_bind hE
  refine x_callR (W.runV (As := []) (rest := [.int (Int32.ofNat (slen w0))]) ⟨hx, hb, hml, hown, hu⟩ (t_String_coder l G σ w0 hw0 r6 hC6) (cwV 0 hu (uw_V mw_571 mw_572 mw_573 mw_76 mw_574) rfl rfl rfl hd_String_coder ⟨Nat.le_of_ble_eq_true rfl, Nat.le_of_ble_eq_true rfl⟩) (x_preV hC hS hw (x_recvS hN hw0 hS)) rfl rfl hl.1 rfl (lv_room (Nat.le_of_ble_eq_true rfl)) d_String_length_6 ⟨Nat.le_of_ble_eq_true rfl, Nat.le_of_ble_eq_true rfl⟩) ?_
  refine lv_ishr hx hb d_String_length_9 ?_
  exact W.iret (v := (Int32.ofNat (slen w0)) >>> (r6 &&& 31)) hx hb hr (fun t ht hW => ⟨by rw [Option.some.inj hE], ht⟩) (fun q h => by cases h) d_String_length_10

def y_String_isLatin1 : MethodName := ⟨"java/lang/String", "isLatin1", "()Z"⟩
def ws_String_isLatin1 : List Cond := Cond.code y_String_isLatin1 prog_22_method_154_code 1 (some .boolean) :: UW
theorem hd_String_isLatin1 : y_String_isLatin1.cls = R_String ∧ y_String_isLatin1.cls ≠ "java/lang/invoke/MethodHandle" ∧ y_String_isLatin1.cls ≠ "java/lang/invoke/VarHandle" ∧ (parseMethodDescriptor y_String_isLatin1.desc).map (fun d => d.parameters.length) = some 0 := by decide +kernel
theorem d_String_isLatin1_0 : decode prog_22_method_154_code 0 = .ok (.getstatic 38, 3) := by decide +kernel
theorem d_String_isLatin1_3 : decode prog_22_method_154_code 3 = .ok (.ifCond .eq (14), 3) := by decide +kernel
theorem d_String_isLatin1_6 : decode prog_22_method_154_code 6 = .ok (.aload_n 0, 1) := by decide +kernel
theorem d_String_isLatin1_7 : decode prog_22_method_154_code 7 = .ok (.getfield 15, 3) := by decide +kernel
theorem d_String_isLatin1_10 : decode prog_22_method_154_code 10 = .ok (.ifCond .ne (7), 3) := by decide +kernel
theorem d_String_isLatin1_13 : decode prog_22_method_154_code 13 = .ok (.iconst 1, 1) := by decide +kernel
theorem d_String_isLatin1_14 : decode prog_22_method_154_code 14 = .ok (.goto (4), 3) := by decide +kernel
theorem d_String_isLatin1_17 : decode prog_22_method_154_code 17 = .ok (.iconst 0, 1) := by decide +kernel
theorem d_String_isLatin1_18 : decode prog_22_method_154_code 18 = .ok (.ireturn, 1) := by decide +kernel
def x_String_isLatin1 (w0 : Nat) : Option Int32 := (if (1 : Int32) = 0 then some (0 : Int32) else (if (0 : Int32) = 0 then some (1 : Int32) else some (0 : Int32)))
abbrev rm_String_isLatin1 : Room := { frames := 0, cells := 0, slots := 0, locals := 0 }
set_option maxHeartbeats 4000000 in
set_option maxRecDepth 100000 in
theorem t_String_isLatin1 (l : Launch) (G : xG) (σ : St) (w0 : Nat) (hw0 : w0 < nStr) (r : Int32) (hE : x_String_isLatin1 w0 = some r) : Met l y_String_isLatin1 (ws_String_isLatin1) rm_String_isLatin1 (xP G σ [.ref (G.2.2.2.1 w0)]) (xRd (some (.int r))) 0 0 (fun _ => False) := by
  refine Met.ofW (cc := prog_22_method_154_code) (maxL := 1) (ret := (some .boolean)) (by decide) rfl ?_
  intro p e s m args below meth c s₁ B hml hv
  obtain ⟨rfl, hw, hC⟩ := hv
  have hx := B.exec
  have hb := B.bytes
  have hr := B.returns
  have hu : ∀ w ∈ UW, w.before _ s = true := fun w h => atoms_spec B.pre w (List.mem_cons_of_mem _ h)
  have hown : s.vm.findClass R_String = some m.cls := findClass_of_methodNamed B.named
  have hlocks := B.notSynchronized
  have hK := hC.1
  have hI := hC.2.1
  have hG := hC.2.2.1
  have hN := hC.2.2.2
  have hS : va_S (xA G) s.heap s.heap [] := va_S.rf
  have hl := lv_entry ([.ref (G.2.2.2.1 w0)]) (n := 1) (Nat.le_of_ble_eq_true rfl)
  rw [lg_entry_eq]
  generalize (lg_sl ([.ref (G.2.2.2.1 w0)]) ++ List.replicate (1 - (lg_sl ([.ref (G.2.2.2.1 w0)])).length) Slot.unset).toArray = ls at hl ⊢
  have hl : lv_has ls 1 [(0, .ref (G.2.2.2.1 w0))] := hl
  unfold x_String_isLatin1 at hE
  refine va_gets (v := .int (1 : Int32)) hx hb hN.2.1 hS hown (hu _ mw_565) (fun _ h9 => h9) d_String_isLatin1_0 ?_
  refine lv_if_eq (tgt := 17) hx hb d_String_isLatin1_3 (by decide) (fun hc3 => ?_) (fun hc3 => ?_)
  · rw [if_pos hc3] at hE
    refine lv_iconst (v := (0 : Int32)) hx hb d_String_isLatin1_17 (by decide) ?_
    exact W.zret (v := (0 : Int32)) hx hb hr rfl (fun t ht hW => ⟨by rw [Option.some.inj hE], ht⟩) (fun q h => by cases h) d_String_isLatin1_18
  · rw [if_neg hc3] at hE
    refine lv_aload_n hx hb d_String_isLatin1_6 rfl (lv_at hl 0 rfl) ?_
    refine vk_getf (v := .int (0 : Int32)) hx hb (hN.1 w0 hw0).2.1 hS hown (hu _ mw_1393) (fun _ h9 => h9) d_String_isLatin1_7 ?_
    refine lv_if_ne (tgt := 17) hx hb d_String_isLatin1_10 (by decide) (fun hc10 => ?_) (fun hc10 => ?_)
    · rw [if_neg hc10] at hE
      refine lv_iconst (v := (0 : Int32)) hx hb d_String_isLatin1_17 (by decide) ?_
      exact W.zret (v := (0 : Int32)) hx hb hr rfl (fun t ht hW => ⟨by rw [Option.some.inj hE], ht⟩) (fun q h => by cases h) d_String_isLatin1_18
    · rw [if_pos hc10] at hE
      refine lv_iconst (v := (1 : Int32)) hx hb d_String_isLatin1_13 (by decide) ?_
      refine lv_goto (tgt := 18) hx hb d_String_isLatin1_14 (by decide) ?_
      exact W.zret (v := (1 : Int32)) hx hb hr rfl (fun t ht hW => ⟨by rw [Option.some.inj hE], ht⟩) (fun q h => by cases h) d_String_isLatin1_18

def y_Preconditions_checkIndex : MethodName := ⟨"jdk/internal/util/Preconditions", "checkIndex", "(IILjava/util/function/BiFunction;)I"⟩
def ws_Preconditions_checkIndex : List Cond := Cond.code y_Preconditions_checkIndex prog_27_method_11_code 3 (some .int) :: UW
theorem hd_Preconditions_checkIndex : y_Preconditions_checkIndex.cls ≠ "java/lang/invoke/MethodHandle" ∧ y_Preconditions_checkIndex.cls ≠ "java/lang/invoke/VarHandle" ∧ (parseMethodDescriptor y_Preconditions_checkIndex.desc).map (fun d => d.parameters.length) = some 3 := by decide +kernel
theorem d_Preconditions_checkIndex_0 : decode prog_27_method_11_code 0 = .ok (.iload_n 0, 1) := by decide +kernel
theorem d_Preconditions_checkIndex_1 : decode prog_27_method_11_code 1 = .ok (.ifCond .lt (8), 3) := by decide +kernel
theorem d_Preconditions_checkIndex_4 : decode prog_27_method_11_code 4 = .ok (.iload_n 0, 1) := by decide +kernel
theorem d_Preconditions_checkIndex_5 : decode prog_27_method_11_code 5 = .ok (.iload_n 1, 1) := by decide +kernel
theorem d_Preconditions_checkIndex_6 : decode prog_27_method_11_code 6 = .ok (.if_icmp .lt (10), 3) := by decide +kernel
theorem d_Preconditions_checkIndex_9 : decode prog_27_method_11_code 9 = .ok (.aload_n 2, 1) := by decide +kernel
theorem d_Preconditions_checkIndex_10 : decode prog_27_method_11_code 10 = .ok (.iload_n 0, 1) := by decide +kernel
theorem d_Preconditions_checkIndex_11 : decode prog_27_method_11_code 11 = .ok (.iload_n 1, 1) := by decide +kernel
theorem d_Preconditions_checkIndex_12 : decode prog_27_method_11_code 12 = .ok (.invokestatic 95, 3) := by decide +kernel
theorem d_Preconditions_checkIndex_15 : decode prog_27_method_11_code 15 = .ok (.athrow, 1) := by decide +kernel
theorem d_Preconditions_checkIndex_16 : decode prog_27_method_11_code 16 = .ok (.iload_n 0, 1) := by decide +kernel
theorem d_Preconditions_checkIndex_17 : decode prog_27_method_11_code 17 = .ok (.ireturn, 1) := by decide +kernel
def x_Preconditions_checkIndex_9 (a1 : Int32) (a2 : Int32) : Option Int32 := none
def x_Preconditions_checkIndex (a1 : Int32) (a2 : Int32) : Option Int32 := (if a1 < 0 then x_Preconditions_checkIndex_9 a1 a2 else (if a1 < a2 then some a1 else x_Preconditions_checkIndex_9 a1 a2))
abbrev rm_Preconditions_checkIndex : Room := { frames := 0, cells := 0, slots := 0, locals := 0 }
set_option maxHeartbeats 4000000 in
set_option maxRecDepth 100000 in
theorem t_Preconditions_checkIndex (l : Launch) (G : xG) (σ : St) (a1 : Int32) (a2 : Int32) (r : Int32) (hE : x_Preconditions_checkIndex a1 a2 = some r) : Met l y_Preconditions_checkIndex (ws_Preconditions_checkIndex) rm_Preconditions_checkIndex (xP G σ [.int a1, .int a2, va_rf (x_fm G)]) (xRd (some (.int r))) 0 0 (fun _ => False) := by
  refine Met.ofW (cc := prog_27_method_11_code) (maxL := 3) (ret := (some .int)) (by decide) rfl ?_
  intro p e s m args below meth c s₁ B hml hv
  obtain ⟨rfl, hw, hC⟩ := hv
  have hx := B.exec
  have hb := B.bytes
  have hr := B.returns
  have hu : ∀ w ∈ UW, w.before _ s = true := fun w h => atoms_spec B.pre w (List.mem_cons_of_mem _ h)
  have hown : s.vm.findClass R_Preconditions = some m.cls := findClass_of_methodNamed B.named
  have hlocks := B.notSynchronized
  have hK := hC.1
  have hI := hC.2.1
  have hG := hC.2.2.1
  have hN := hC.2.2.2
  have hS : va_S (xA G) s.heap s.heap [] := va_S.rf
  have jn9 : ∀ (ls : Array Slot), x_Preconditions_checkIndex_9 a1 a2 = some r → lv_has ls 3 [(0, .int a1), (1, .int a2), (2, va_rf (x_fm G))] → W p l e (headSpec (ws_Preconditions_checkIndex) rm_Preconditions_checkIndex).room s m ([.int a1, .int a2, va_rf (x_fm G)] : List Value).toArray below meth c s.heap [] 0 0 (MQ below (xRd (some (.int r))) ([.int a1, .int a2, va_rf (x_fm G)] : List Value).toArray s 0 0 (fun _ => False)) (F0 m 9 ls []) := by
    intro ls hE hl
    unfold x_Preconditions_checkIndex_9 at hE
    refine x_aloadq_n hx hb d_Preconditions_checkIndex_9 rfl (lv_at hl 2 rfl) (va_rf_or _) ?_
    refine lv_iload_n hx hb d_Preconditions_checkIndex_10 rfl (lv_at hl 0 rfl) ?_
    refine lv_iload_n hx hb d_Preconditions_checkIndex_11 rfl (lv_at hl 1 rfl) ?_
    cases hE
  have hl := lv_entry ([.int a1, .int a2, va_rf (x_fm G)]) (n := 3) (by simp [lg_sl, x_cat_rf, x_cat_re, x_cat_i, x_cat_r, x_cat_l])
  rw [lg_entry_eq]
  generalize (lg_sl ([.int a1, .int a2, va_rf (x_fm G)]) ++ List.replicate (3 - (lg_sl ([.int a1, .int a2, va_rf (x_fm G)])).length) Slot.unset).toArray = ls at hl ⊢
  have hl : lv_has ls 3 [(0, .int a1), (1, .int a2), (2, va_rf (x_fm G))] := by simpa [lv_args, x_cat_rf, x_cat_re, x_cat_i, x_cat_r, x_cat_l] using hl
  unfold x_Preconditions_checkIndex at hE
  refine lv_iload_n hx hb d_Preconditions_checkIndex_0 rfl (lv_at hl 0 rfl) ?_
  refine lv_if_lt (tgt := 9) hx hb d_Preconditions_checkIndex_1 (by decide) (fun hc1 => ?_) (fun hc1 => ?_)
  · rw [if_pos hc1] at hE
    exact jn9 _ hE (lv_sub hl [0, 1, 2] rfl)
  · rw [if_neg hc1] at hE
    refine lv_iload_n hx hb d_Preconditions_checkIndex_4 rfl (lv_at hl 0 rfl) ?_
    refine lv_iload_n hx hb d_Preconditions_checkIndex_5 rfl (lv_at hl 1 rfl) ?_
    refine lv_icmp_lt (tgt := 16) hx hb d_Preconditions_checkIndex_6 (by decide) (fun hc6 => ?_) (fun hc6 => ?_)
    · rw [if_pos hc6] at hE
      refine lv_iload_n hx hb d_Preconditions_checkIndex_16 rfl (lv_at hl 0 rfl) ?_
      exact W.iret (v := a1) hx hb hr (fun t ht hW => ⟨by rw [Option.some.inj hE], ht⟩) (fun q h => by cases h) d_Preconditions_checkIndex_17
    · rw [if_neg hc6] at hE
      exact jn9 _ hE (lv_sub hl [0, 1, 2] rfl)

def y_String_checkIndex : MethodName := ⟨"java/lang/String", "checkIndex", "(II)V"⟩
def ws_String_checkIndex : List Cond := Cond.code y_String_checkIndex prog_22_method_155_code 2 none :: UW
theorem hd_String_checkIndex : y_String_checkIndex.cls ≠ "java/lang/invoke/MethodHandle" ∧ y_String_checkIndex.cls ≠ "java/lang/invoke/VarHandle" ∧ (parseMethodDescriptor y_String_checkIndex.desc).map (fun d => d.parameters.length) = some 2 := by decide +kernel
theorem d_String_checkIndex_0 : decode prog_22_method_155_code 0 = .ok (.iload_n 0, 1) := by decide +kernel
theorem d_String_checkIndex_1 : decode prog_22_method_155_code 1 = .ok (.iload_n 1, 1) := by decide +kernel
theorem d_String_checkIndex_2 : decode prog_22_method_155_code 2 = .ok (.getstatic 1053, 3) := by decide +kernel
theorem d_String_checkIndex_5 : decode prog_22_method_155_code 5 = .ok (.invokestatic 1059, 3) := by decide +kernel
theorem d_String_checkIndex_8 : decode prog_22_method_155_code 8 = .ok (.pop, 1) := by decide +kernel
theorem d_String_checkIndex_9 : decode prog_22_method_155_code 9 = .ok (.return_, 1) := by decide +kernel
def x_String_checkIndex (a1 : Int32) (a2 : Int32) : Option Unit := (Option.bind (x_Preconditions_checkIndex a1 a2) (fun r5 => some ()))
abbrev rm_String_checkIndex : Room := { frames := 1, cells := 0, slots := 0, locals := 22 }
set_option maxHeartbeats 4000000 in
set_option maxRecDepth 100000 in
theorem t_String_checkIndex (l : Launch) (G : xG) (σ : St) (a1 : Int32) (a2 : Int32) (r : Unit) (hE : x_String_checkIndex a1 a2 = some r) : Met l y_String_checkIndex (ws_String_checkIndex) rm_String_checkIndex (xP G σ [.int a1, .int a2]) (xRd none) 0 0 (fun _ => False) := by
  refine Met.ofW (cc := prog_22_method_155_code) (maxL := 2) (ret := none) (by decide) rfl ?_
  intro p e s m args below meth c s₁ B hml hv
  obtain ⟨rfl, hw, hC⟩ := hv
  have hx := B.exec
  have hb := B.bytes
  have hr := B.returns
  have hu : ∀ w ∈ UW, w.before _ s = true := fun w h => atoms_spec B.pre w (List.mem_cons_of_mem _ h)
  have hown : s.vm.findClass R_String = some m.cls := findClass_of_methodNamed B.named
  have hlocks := B.notSynchronized
  have hK := hC.1
  have hI := hC.2.1
  have hG := hC.2.2.1
  have hN := hC.2.2.2
  have hS : va_S (xA G) s.heap s.heap [] := va_S.rf
  have hl := lv_entry ([.int a1, .int a2]) (n := 2) (Nat.le_of_ble_eq_true rfl)
  rw [lg_entry_eq]
  generalize (lg_sl ([.int a1, .int a2]) ++ List.replicate (2 - (lg_sl ([.int a1, .int a2])).length) Slot.unset).toArray = ls at hl ⊢
  have hl : lv_has ls 2 [(0, .int a1), (1, .int a2)] := hl
  unfold x_String_checkIndex at hE
  refine lv_iload_n hx hb d_String_checkIndex_0 rfl (lv_at hl 0 rfl) ?_
  refine lv_iload_n hx hb d_String_checkIndex_1 rfl (lv_at hl 1 rfl) ?_
  refine va_gets (v := va_rf (x_fm G)) hx hb hN.2.2.1 hS hown (hu _ mw_608) (fun _ h9 => h9) d_String_checkIndex_2 ?_
  obtain ⟨r5, hC5, hE⟩ := x_bind hE
  refine x_callR (W.runS (As := [.int a1, .int a2, va_rf (x_fm G)]) (rest := []) ⟨hx, hb, hml, hown, hu⟩ (t_Preconditions_checkIndex l G σ a1 a2 r5 hC5) (va_cwS 3 hu (uw_S mw_657 mw_658 mw_80 mw_659) rfl rfl rfl hd_Preconditions_checkIndex ⟨Nat.le_of_ble_eq_true rfl, Nat.le_of_ble_eq_true rfl⟩) (x_preS hC hS hw) rfl rfl hl.1 rfl (lv_room (Nat.le_of_ble_eq_true rfl)) d_String_checkIndex_5 ⟨Nat.le_of_ble_eq_true rfl, Nat.le_of_ble_eq_true rfl⟩) ?_
  refine lv_pop hx hb d_String_checkIndex_8 rfl ?_
  exact W.vret hx hb hr (fun t ht hW => ⟨rfl, ht⟩) (fun q h => by cases h) d_String_checkIndex_9

def y_StringLatin1_charAt : MethodName := ⟨"java/lang/StringLatin1", "charAt", "([BI)C"⟩
def ws_StringLatin1_charAt : List Cond := Cond.code y_StringLatin1_charAt prog_23_method_2_code 2 (some .char) :: UW
theorem hd_StringLatin1_charAt : y_StringLatin1_charAt.cls ≠ "java/lang/invoke/MethodHandle" ∧ y_StringLatin1_charAt.cls ≠ "java/lang/invoke/VarHandle" ∧ (parseMethodDescriptor y_StringLatin1_charAt.desc).map (fun d => d.parameters.length) = some 2 := by decide +kernel
theorem d_StringLatin1_charAt_0 : decode prog_23_method_2_code 0 = .ok (.iload_n 1, 1) := by decide +kernel
theorem d_StringLatin1_charAt_1 : decode prog_23_method_2_code 1 = .ok (.aload_n 0, 1) := by decide +kernel
theorem d_StringLatin1_charAt_2 : decode prog_23_method_2_code 2 = .ok (.arraylength, 1) := by decide +kernel
theorem d_StringLatin1_charAt_3 : decode prog_23_method_2_code 3 = .ok (.invokestatic 9, 3) := by decide +kernel
theorem d_StringLatin1_charAt_6 : decode prog_23_method_2_code 6 = .ok (.aload_n 0, 1) := by decide +kernel
theorem d_StringLatin1_charAt_7 : decode prog_23_method_2_code 7 = .ok (.iload_n 1, 1) := by decide +kernel
theorem d_StringLatin1_charAt_8 : decode prog_23_method_2_code 8 = .ok (.baload, 1) := by decide +kernel
theorem d_StringLatin1_charAt_9 : decode prog_23_method_2_code 9 = .ok (.sipush (255), 3) := by decide +kernel
theorem d_StringLatin1_charAt_12 : decode prog_23_method_2_code 12 = .ok (.iand, 1) := by decide +kernel
theorem d_StringLatin1_charAt_13 : decode prog_23_method_2_code 13 = .ok (.i2c, 1) := by decide +kernel
theorem d_StringLatin1_charAt_14 : decode prog_23_method_2_code 14 = .ok (.ireturn, 1) := by decide +kernel
def x_StringLatin1_charAt (b1 : Nat) (a2 : Int32) : Option Int32 := (Option.bind (x_String_checkIndex a2 (Int32.ofNat (slen b1))) (fun r3 => (if x_in a2 (slen b1) then (if x_ch ((Int32.toUInt32 ((sbyt b1 a2.toNatClampNeg) &&& (255 : Int32)) % 65536).toInt32) then some ((Int32.toUInt32 ((sbyt b1 a2.toNatClampNeg) &&& (255 : Int32)) % 65536).toInt32) else none) else none)))
abbrev rm_StringLatin1_charAt : Room := { frames := 2, cells := 0, slots := 0, locals := 43 }
set_option maxHeartbeats 4000000 in
set_option maxRecDepth 100000 in
theorem t_StringLatin1_charAt (l : Launch) (G : xG) (σ : St) (b1 : Nat) (a2 : Int32) (hb1 : b1 < nStr) (r : Int32) (hE : x_StringLatin1_charAt b1 a2 = some r) : Met l y_StringLatin1_charAt (ws_StringLatin1_charAt) rm_StringLatin1_charAt (xP G σ [.ref (G.2.2.2.2.2 b1), .int a2]) (xRd (some (.int r))) 0 0 (fun _ => False) := by
  refine Met.ofW (cc := prog_23_method_2_code) (maxL := 2) (ret := (some .char)) (by decide) rfl ?_
  intro p e s m args below meth c s₁ B hml hv
  obtain ⟨rfl, hw, hC⟩ := hv
  have hx := B.exec
  have hb := B.bytes
  have hr := B.returns
  have hu : ∀ w ∈ UW, w.before _ s = true := fun w h => atoms_spec B.pre w (List.mem_cons_of_mem _ h)
  have hown : s.vm.findClass R_StringLatin1 = some m.cls := findClass_of_methodNamed B.named
  have hlocks := B.notSynchronized
  have hK := hC.1
  have hI := hC.2.1
  have hG := hC.2.2.1
  have hN := hC.2.2.2
  have hS : va_S (xA G) s.heap s.heap [] := va_S.rf
  have hl := lv_entry ([.ref (G.2.2.2.2.2 b1), .int a2]) (n := 2) (Nat.le_of_ble_eq_true rfl)
  rw [lg_entry_eq]
  generalize (lg_sl ([.ref (G.2.2.2.2.2 b1), .int a2]) ++ List.replicate (2 - (lg_sl ([.ref (G.2.2.2.2.2 b1), .int a2])).length) Slot.unset).toArray = ls at hl ⊢
  have hl : lv_has ls 2 [(0, .ref (G.2.2.2.2.2 b1)), (1, .int a2)] := hl
  unfold x_StringLatin1_charAt at hE
  refine lv_iload_n hx hb d_StringLatin1_charAt_0 rfl (lv_at hl 1 rfl) ?_
  refine lv_aload_n hx hb d_StringLatin1_charAt_1 rfl (lv_at hl 0 rfl) ?_
  refine va_tlen hx hb (hN.1 b1 hb1).2.2.2 hS (v := Int32.ofNat (slen b1)) rfl d_StringLatin1_charAt_2 ?_
  obtain ⟨r3, hC3, hE⟩ := x_bind hE
  refine x_callU (W.runS (As := [.int a2, .int (Int32.ofNat (slen b1))]) (rest := []) ⟨hx, hb, hml, hown, hu⟩ (t_String_checkIndex l G σ a2 (Int32.ofNat (slen b1)) r3 hC3) (va_cwS 2 hu (uw_S mw_654 mw_655 mw_76 mw_656) rfl rfl rfl hd_String_checkIndex ⟨Nat.le_of_ble_eq_true rfl, Nat.le_of_ble_eq_true rfl⟩) (x_preS hC hS hw) rfl rfl hl.1 rfl (lv_room (Nat.le_of_ble_eq_true rfl)) d_StringLatin1_charAt_3 ⟨Nat.le_of_ble_eq_true rfl, Nat.le_of_ble_eq_true rfl⟩) ?_
  refine lv_aload_n hx hb d_StringLatin1_charAt_6 rfl (lv_at hl 0 rfl) ?_
  refine lv_iload_n hx hb d_StringLatin1_charAt_7 rfl (lv_at hl 1 rfl) ?_
  obtain ⟨g8, hE⟩ := x_guard hE
  refine va_tb hx hb (hN.1 b1 hb1).2.2.2 hS g8 rfl d_StringLatin1_charAt_8 ?_
  refine lv_sipush (v := (255 : Int32)) hx hb d_StringLatin1_charAt_9 (by decide) ?_
  refine lv_iand hx hb d_StringLatin1_charAt_12 ?_
  refine lv_i2c hx hb d_StringLatin1_charAt_13 rfl ?_
  obtain ⟨g14, hE⟩ := x_guard hE
  exact W.zret (v := (Int32.toUInt32 ((sbyt b1 a2.toNatClampNeg) &&& (255 : Int32)) % 65536).toInt32) hx hb hr (x_nc g14) (fun t ht hW => ⟨by rw [Option.some.inj hE], ht⟩) (fun q h => by cases h) d_StringLatin1_charAt_14

def y_String_charAt : MethodName := ⟨"java/lang/String", "charAt", "(I)C"⟩
def ws_String_charAt : List Cond := Cond.code y_String_charAt prog_22_method_56_code 2 (some .char) :: UW
theorem hd_String_charAt : y_String_charAt.cls = R_String ∧ y_String_charAt.cls ≠ "java/lang/invoke/MethodHandle" ∧ y_String_charAt.cls ≠ "java/lang/invoke/VarHandle" ∧ (parseMethodDescriptor y_String_charAt.desc).map (fun d => d.parameters.length) = some 1 := by decide +kernel
theorem d_String_charAt_0 : decode prog_22_method_56_code 0 = .ok (.aload_n 0, 1) := by decide +kernel
theorem d_String_charAt_1 : decode prog_22_method_56_code 1 = .ok (.invokevirtual 492, 3) := by decide +kernel
theorem d_String_charAt_4 : decode prog_22_method_56_code 4 = .ok (.ifCond .eq (12), 3) := by decide +kernel
theorem d_String_charAt_7 : decode prog_22_method_56_code 7 = .ok (.aload_n 0, 1) := by decide +kernel
theorem d_String_charAt_8 : decode prog_22_method_56_code 8 = .ok (.getfield 9, 3) := by decide +kernel
theorem d_String_charAt_11 : decode prog_22_method_56_code 11 = .ok (.iload_n 1, 1) := by decide +kernel
theorem d_String_charAt_12 : decode prog_22_method_56_code 12 = .ok (.invokestatic 495, 3) := by decide +kernel
theorem d_String_charAt_15 : decode prog_22_method_56_code 15 = .ok (.ireturn, 1) := by decide +kernel
theorem d_String_charAt_16 : decode prog_22_method_56_code 16 = .ok (.aload_n 0, 1) := by decide +kernel
theorem d_String_charAt_17 : decode prog_22_method_56_code 17 = .ok (.getfield 9, 3) := by decide +kernel
theorem d_String_charAt_20 : decode prog_22_method_56_code 20 = .ok (.iload_n 1, 1) := by decide +kernel
theorem d_String_charAt_21 : decode prog_22_method_56_code 21 = .ok (.invokestatic 498, 3) := by decide +kernel
theorem d_String_charAt_24 : decode prog_22_method_56_code 24 = .ok (.ireturn, 1) := by decide +kernel
def x_String_charAt (w0 : Nat) (a1 : Int32) : Option Int32 := (Option.bind (x_String_isLatin1 w0) (fun r1 => (if r1 = 0 then none else (Option.bind (x_StringLatin1_charAt w0 a1) (fun r12 => (if x_ch r12 then some r12 else none))))))
abbrev rm_String_charAt : Room := { frames := 3, cells := 0, slots := 0, locals := 64 }
set_option maxHeartbeats 4000000 in
set_option maxRecDepth 100000 in
theorem t_String_charAt (l : Launch) (G : xG) (σ : St) (w0 : Nat) (a1 : Int32) (hw0 : w0 < nStr) (r : Int32) (hE : x_String_charAt w0 a1 = some r) : Met l y_String_charAt (ws_String_charAt) rm_String_charAt (xP G σ [.ref (G.2.2.2.1 w0), .int a1]) (xRd (some (.int r))) 0 0 (fun _ => False) := by
  refine Met.ofW (cc := prog_22_method_56_code) (maxL := 2) (ret := (some .char)) (by decide) rfl ?_
  intro p e s m args below meth c s₁ B hml hv
  obtain ⟨rfl, hw, hC⟩ := hv
  have hx := B.exec
  have hb := B.bytes
  have hr := B.returns
  have hu : ∀ w ∈ UW, w.before _ s = true := fun w h => atoms_spec B.pre w (List.mem_cons_of_mem _ h)
  have hown : s.vm.findClass R_String = some m.cls := findClass_of_methodNamed B.named
  have hlocks := B.notSynchronized
  have hK := hC.1
  have hI := hC.2.1
  have hG := hC.2.2.1
  have hN := hC.2.2.2
  have hS : va_S (xA G) s.heap s.heap [] := va_S.rf
  have hl := lv_entry ([.ref (G.2.2.2.1 w0), .int a1]) (n := 2) (Nat.le_of_ble_eq_true rfl)
  rw [lg_entry_eq]
  generalize (lg_sl ([.ref (G.2.2.2.1 w0), .int a1]) ++ List.replicate (2 - (lg_sl ([.ref (G.2.2.2.1 w0), .int a1])).length) Slot.unset).toArray = ls at hl ⊢
  have hl : lv_has ls 2 [(0, .ref (G.2.2.2.1 w0)), (1, .int a1)] := hl
  unfold x_String_charAt at hE
  refine lv_aload_n hx hb d_String_charAt_0 rfl (lv_at hl 0 rfl) ?_
  obtain ⟨r1, hC1, hE⟩ := x_bind hE
  refine x_callR (W.runV (As := []) (rest := []) ⟨hx, hb, hml, hown, hu⟩ (t_String_isLatin1 l G σ w0 hw0 r1 hC1) (cwV 0 hu (uw_V mw_561 mw_562 mw_563 mw_76 mw_564) rfl rfl rfl hd_String_isLatin1 ⟨Nat.le_of_ble_eq_true rfl, Nat.le_of_ble_eq_true rfl⟩) (x_preV hC hS hw (x_recvS hN hw0 hS)) rfl rfl hl.1 rfl (lv_room (Nat.le_of_ble_eq_true rfl)) d_String_charAt_1 ⟨Nat.le_of_ble_eq_true rfl, Nat.le_of_ble_eq_true rfl⟩) ?_
  refine lv_if_eq (tgt := 16) hx hb d_String_charAt_4 (by decide) (fun hc4 => ?_) (fun hc4 => ?_)
  · rw [if_pos hc4] at hE
    refine lv_aload_n hx hb d_String_charAt_16 rfl (lv_at hl 0 rfl) ?_
    refine vk_getf (v := .ref (G.2.2.2.2.2 w0)) hx hb (hN.1 w0 hw0).2.2.1 hS hown (hu _ mw_1394) (fun _ h9 => h9) d_String_charAt_17 ?_
    refine lv_iload_n hx hb d_String_charAt_20 rfl (lv_at hl 1 rfl) ?_
    cases hE
  · rw [if_neg hc4] at hE
    refine lv_aload_n hx hb d_String_charAt_7 rfl (lv_at hl 0 rfl) ?_
    refine vk_getf (v := .ref (G.2.2.2.2.2 w0)) hx hb (hN.1 w0 hw0).2.2.1 hS hown (hu _ mw_1394) (fun _ h9 => h9) d_String_charAt_8 ?_
    refine lv_iload_n hx hb d_String_charAt_11 rfl (lv_at hl 1 rfl) ?_
    obtain ⟨r12, hC12, hE⟩ := x_bind hE
    refine x_callR (W.runS (As := [.ref (G.2.2.2.2.2 w0), .int a1]) (rest := []) ⟨hx, hb, hml, hown, hu⟩ (t_StringLatin1_charAt l G σ w0 a1 hw0 r12 hC12) (va_cwS 2 hu (uw_S mw_651 mw_652 mw_77 mw_653) rfl rfl rfl hd_StringLatin1_charAt ⟨Nat.le_of_ble_eq_true rfl, Nat.le_of_ble_eq_true rfl⟩) (x_preS hC hS hw) rfl rfl hl.1 rfl (lv_room (Nat.le_of_ble_eq_true rfl)) d_String_charAt_12 ⟨Nat.le_of_ble_eq_true rfl, Nat.le_of_ble_eq_true rfl⟩) ?_
    obtain ⟨g15, hE⟩ := x_guard hE
    exact W.zret (v := r12) hx hb hr (x_nc g15) (fun t ht hW => ⟨by rw [Option.some.inj hE], ht⟩) (fun q h => by cases h) d_String_charAt_15

def y_StringLatin1_canEncode : MethodName := ⟨"java/lang/StringLatin1", "canEncode", "(I)Z"⟩
def ws_StringLatin1_canEncode : List Cond := Cond.code y_StringLatin1_canEncode prog_23_method_4_code 1 (some .boolean) :: UW
theorem hd_StringLatin1_canEncode : y_StringLatin1_canEncode.cls ≠ "java/lang/invoke/MethodHandle" ∧ y_StringLatin1_canEncode.cls ≠ "java/lang/invoke/VarHandle" ∧ (parseMethodDescriptor y_StringLatin1_canEncode.desc).map (fun d => d.parameters.length) = some 1 := by decide +kernel
theorem d_StringLatin1_canEncode_0 : decode prog_23_method_4_code 0 = .ok (.iload_n 0, 1) := by decide +kernel
theorem d_StringLatin1_canEncode_1 : decode prog_23_method_4_code 1 = .ok (.ifCond .lt (14), 3) := by decide +kernel
theorem d_StringLatin1_canEncode_4 : decode prog_23_method_4_code 4 = .ok (.iload_n 0, 1) := by decide +kernel
theorem d_StringLatin1_canEncode_5 : decode prog_23_method_4_code 5 = .ok (.sipush (255), 3) := by decide +kernel
theorem d_StringLatin1_canEncode_8 : decode prog_23_method_4_code 8 = .ok (.if_icmp .gt (7), 3) := by decide +kernel
theorem d_StringLatin1_canEncode_11 : decode prog_23_method_4_code 11 = .ok (.iconst 1, 1) := by decide +kernel
theorem d_StringLatin1_canEncode_12 : decode prog_23_method_4_code 12 = .ok (.goto (4), 3) := by decide +kernel
theorem d_StringLatin1_canEncode_15 : decode prog_23_method_4_code 15 = .ok (.iconst 0, 1) := by decide +kernel
theorem d_StringLatin1_canEncode_16 : decode prog_23_method_4_code 16 = .ok (.ireturn, 1) := by decide +kernel
def x_StringLatin1_canEncode (a1 : Int32) : Option Int32 := (if a1 < 0 then some (0 : Int32) else (if (255 : Int32) < a1 then some (0 : Int32) else some (1 : Int32)))
abbrev rm_StringLatin1_canEncode : Room := { frames := 0, cells := 0, slots := 0, locals := 0 }
set_option maxHeartbeats 4000000 in
set_option maxRecDepth 100000 in
theorem t_StringLatin1_canEncode (l : Launch) (G : xG) (σ : St) (a1 : Int32) (r : Int32) (hE : x_StringLatin1_canEncode a1 = some r) : Met l y_StringLatin1_canEncode (ws_StringLatin1_canEncode) rm_StringLatin1_canEncode (xP G σ [.int a1]) (xRd (some (.int r))) 0 0 (fun _ => False) := by
  refine Met.ofW (cc := prog_23_method_4_code) (maxL := 1) (ret := (some .boolean)) (by decide) rfl ?_
  intro p e s m args below meth c s₁ B hml hv
  obtain ⟨rfl, hw, hC⟩ := hv
  have hx := B.exec
  have hb := B.bytes
  have hr := B.returns
  have hu : ∀ w ∈ UW, w.before _ s = true := fun w h => atoms_spec B.pre w (List.mem_cons_of_mem _ h)
  have hown : s.vm.findClass R_StringLatin1 = some m.cls := findClass_of_methodNamed B.named
  have hlocks := B.notSynchronized
  have hK := hC.1
  have hI := hC.2.1
  have hG := hC.2.2.1
  have hN := hC.2.2.2
  have hS : va_S (xA G) s.heap s.heap [] := va_S.rf
  have hl := lv_entry ([.int a1]) (n := 1) (Nat.le_of_ble_eq_true rfl)
  rw [lg_entry_eq]
  generalize (lg_sl ([.int a1]) ++ List.replicate (1 - (lg_sl ([.int a1])).length) Slot.unset).toArray = ls at hl ⊢
  have hl : lv_has ls 1 [(0, .int a1)] := hl
  unfold x_StringLatin1_canEncode at hE
  refine lv_iload_n hx hb d_StringLatin1_canEncode_0 rfl (lv_at hl 0 rfl) ?_
  refine lv_if_lt (tgt := 15) hx hb d_StringLatin1_canEncode_1 (by decide) (fun hc1 => ?_) (fun hc1 => ?_)
  · rw [if_pos hc1] at hE
    refine lv_iconst (v := (0 : Int32)) hx hb d_StringLatin1_canEncode_15 (by decide) ?_
    exact W.zret (v := (0 : Int32)) hx hb hr rfl (fun t ht hW => ⟨by rw [Option.some.inj hE], ht⟩) (fun q h => by cases h) d_StringLatin1_canEncode_16
  · rw [if_neg hc1] at hE
    refine lv_iload_n hx hb d_StringLatin1_canEncode_4 rfl (lv_at hl 0 rfl) ?_
    refine lv_sipush (v := (255 : Int32)) hx hb d_StringLatin1_canEncode_5 (by decide) ?_
    refine lv_icmp_gt (tgt := 15) hx hb d_StringLatin1_canEncode_8 (by decide) (fun hc8 => ?_) (fun hc8 => ?_)
    · rw [if_pos hc8] at hE
      refine lv_iconst (v := (0 : Int32)) hx hb d_StringLatin1_canEncode_15 (by decide) ?_
      exact W.zret (v := (0 : Int32)) hx hb hr rfl (fun t ht hW => ⟨by rw [Option.some.inj hE], ht⟩) (fun q h => by cases h) d_StringLatin1_canEncode_16
    · rw [if_neg hc8] at hE
      refine lv_iconst (v := (1 : Int32)) hx hb d_StringLatin1_canEncode_11 (by decide) ?_
      refine lv_goto (tgt := 16) hx hb d_StringLatin1_canEncode_12 (by decide) ?_
      exact W.zret (v := (1 : Int32)) hx hb hr rfl (fun t ht hW => ⟨by rw [Option.some.inj hE], ht⟩) (fun q h => by cases h) d_StringLatin1_canEncode_16

def y_StringLatin1_indexOfChar : MethodName := ⟨"java/lang/StringLatin1", "indexOfChar", "([BIII)I"⟩
def ws_StringLatin1_indexOfChar : List Cond := Cond.code y_StringLatin1_indexOfChar prog_23_method_23_code 6 (some .int) :: UW
theorem hd_StringLatin1_indexOfChar : y_StringLatin1_indexOfChar.cls ≠ "java/lang/invoke/MethodHandle" ∧ y_StringLatin1_indexOfChar.cls ≠ "java/lang/invoke/VarHandle" ∧ (parseMethodDescriptor y_StringLatin1_indexOfChar.desc).map (fun d => d.parameters.length) = some 4 := by decide +kernel
theorem d_StringLatin1_indexOfChar_0 : decode prog_23_method_23_code 0 = .ok (.iload_n 1, 1) := by decide +kernel
theorem d_StringLatin1_indexOfChar_1 : decode prog_23_method_23_code 1 = .ok (.i2b, 1) := by decide +kernel
theorem d_StringLatin1_indexOfChar_2 : decode prog_23_method_23_code 2 = .ok (.istore 4, 2) := by decide +kernel
theorem d_StringLatin1_indexOfChar_4 : decode prog_23_method_23_code 4 = .ok (.iload_n 2, 1) := by decide +kernel
theorem d_StringLatin1_indexOfChar_5 : decode prog_23_method_23_code 5 = .ok (.istore 5, 2) := by decide +kernel
theorem d_StringLatin1_indexOfChar_7 : decode prog_23_method_23_code 7 = .ok (.iload 5, 2) := by decide +kernel
theorem d_StringLatin1_indexOfChar_9 : decode prog_23_method_23_code 9 = .ok (.iload_n 3, 1) := by decide +kernel
theorem d_StringLatin1_indexOfChar_10 : decode prog_23_method_23_code 10 = .ok (.if_icmp .ge (21), 3) := by decide +kernel
theorem d_StringLatin1_indexOfChar_13 : decode prog_23_method_23_code 13 = .ok (.aload_n 0, 1) := by decide +kernel
theorem d_StringLatin1_indexOfChar_14 : decode prog_23_method_23_code 14 = .ok (.iload 5, 2) := by decide +kernel
theorem d_StringLatin1_indexOfChar_16 : decode prog_23_method_23_code 16 = .ok (.baload, 1) := by decide +kernel
theorem d_StringLatin1_indexOfChar_17 : decode prog_23_method_23_code 17 = .ok (.iload 4, 2) := by decide +kernel
theorem d_StringLatin1_indexOfChar_19 : decode prog_23_method_23_code 19 = .ok (.if_icmp .ne (6), 3) := by decide +kernel
theorem d_StringLatin1_indexOfChar_22 : decode prog_23_method_23_code 22 = .ok (.iload 5, 2) := by decide +kernel
theorem d_StringLatin1_indexOfChar_24 : decode prog_23_method_23_code 24 = .ok (.ireturn, 1) := by decide +kernel
theorem d_StringLatin1_indexOfChar_25 : decode prog_23_method_23_code 25 = .ok (.iinc 5 (1), 3) := by decide +kernel
theorem d_StringLatin1_indexOfChar_28 : decode prog_23_method_23_code 28 = .ok (.goto (-21), 3) := by decide +kernel
theorem d_StringLatin1_indexOfChar_31 : decode prog_23_method_23_code 31 = .ok (.iconst (-1), 1) := by decide +kernel
theorem d_StringLatin1_indexOfChar_32 : decode prog_23_method_23_code 32 = .ok (.ireturn, 1) := by decide +kernel
def x_StringLatin1_indexOfChar_7 (b1 : Nat) (a2 : Int32) (a3 : Int32) (a4 : Int32) : Nat → Int32 → Int32 → Option Int32
  | 0, _, _ => none
  | n + 1, l4, l5 => (if a4 ≤ l5 then some ((-1) : Int32) else (if x_in l5 (slen b1) then (if (sbyt b1 l5.toNatClampNeg) = l4 then some l5 else (x_let (l5 + (1 : Int32)) (fun (v25 : Int32) => x_StringLatin1_indexOfChar_7 b1 a2 a3 a4 n l4 v25))) else none))
def x_StringLatin1_indexOfChar (b1 : Nat) (a2 : Int32) (a3 : Int32) (a4 : Int32) : Option Int32 := (x_let ((Int32.toInt8 a2).toInt32) (fun (v2 : Int32) => x_StringLatin1_indexOfChar_7 b1 a2 a3 a4 x_fuel v2 a3))
abbrev rm_StringLatin1_indexOfChar : Room := { frames := 0, cells := 0, slots := 0, locals := 0 }
set_option maxHeartbeats 4000000 in
set_option maxRecDepth 100000 in
theorem t_StringLatin1_indexOfChar (l : Launch) (G : xG) (σ : St) (b1 : Nat) (a2 : Int32) (a3 : Int32) (a4 : Int32) (hb1 : b1 < nStr) (r : Int32) (hE : x_StringLatin1_indexOfChar b1 a2 a3 a4 = some r) : Met l y_StringLatin1_indexOfChar (ws_StringLatin1_indexOfChar) rm_StringLatin1_indexOfChar (xP G σ [.ref (G.2.2.2.2.2 b1), .int a2, .int a3, .int a4]) (xRd (some (.int r))) 0 0 (fun _ => False) := by
  refine Met.ofW (cc := prog_23_method_23_code) (maxL := 6) (ret := (some .int)) (by decide) rfl ?_
  intro p e s m args below meth c s₁ B hml hv
  obtain ⟨rfl, hw, hC⟩ := hv
  have hx := B.exec
  have hb := B.bytes
  have hr := B.returns
  have hu : ∀ w ∈ UW, w.before _ s = true := fun w h => atoms_spec B.pre w (List.mem_cons_of_mem _ h)
  have hown : s.vm.findClass R_StringLatin1 = some m.cls := findClass_of_methodNamed B.named
  have hlocks := B.notSynchronized
  have hK := hC.1
  have hI := hC.2.1
  have hG := hC.2.2.1
  have hN := hC.2.2.2
  have hS : va_S (xA G) s.heap s.heap [] := va_S.rf
  have jn7 : ∀ (n : Nat) (ls : Array Slot) (l4 : Int32) (l5 : Int32), x_StringLatin1_indexOfChar_7 b1 a2 a3 a4 n l4 l5 = some r → lv_has ls 6 [(0, .ref (G.2.2.2.2.2 b1)), (1, .int a2), (2, .int a3), (3, .int a4), (4, .int l4), (5, .int l5)] → W p l e (headSpec (ws_StringLatin1_indexOfChar) rm_StringLatin1_indexOfChar).room s m ([.ref (G.2.2.2.2.2 b1), .int a2, .int a3, .int a4] : List Value).toArray below meth c s.heap [] 0 0 (MQ below (xRd (some (.int r))) ([.ref (G.2.2.2.2.2 b1), .int a2, .int a3, .int a4] : List Value).toArray s 0 0 (fun _ => False)) (F0 m 7 ls []) := by
    intro n
    induction n with
    | zero => intro ls l4 l5 hE; rw [x_StringLatin1_indexOfChar_7] at hE; cases hE
    | succ n ih =>
      intro ls l4 l5 hE hl
      rw [x_StringLatin1_indexOfChar_7] at hE
      refine lv_iload hx hb d_StringLatin1_indexOfChar_7 (lv_at hl 5 rfl) ?_
      refine lv_iload_n hx hb d_StringLatin1_indexOfChar_9 rfl (lv_at hl 3 rfl) ?_
      refine lv_icmp_ge (tgt := 31) hx hb d_StringLatin1_indexOfChar_10 (by decide) (fun hc10 => ?_) (fun hc10 => ?_)
      · rw [if_pos hc10] at hE
        refine lv_iconst (v := ((-1) : Int32)) hx hb d_StringLatin1_indexOfChar_31 (by decide) ?_
        exact W.iret (v := ((-1) : Int32)) hx hb hr (fun t ht hW => ⟨by rw [Option.some.inj hE], ht⟩) (fun q h => by cases h) d_StringLatin1_indexOfChar_32
      · rw [if_neg hc10] at hE
        refine lv_aload_n hx hb d_StringLatin1_indexOfChar_13 rfl (lv_at hl 0 rfl) ?_
        refine lv_iload hx hb d_StringLatin1_indexOfChar_14 (lv_at hl 5 rfl) ?_
        obtain ⟨g16, hE⟩ := x_guard hE
        refine va_tb hx hb (hN.1 b1 hb1).2.2.2 hS g16 rfl d_StringLatin1_indexOfChar_16 ?_
        refine lv_iload hx hb d_StringLatin1_indexOfChar_17 (lv_at hl 4 rfl) ?_
        refine lv_icmp_ne (tgt := 25) hx hb d_StringLatin1_indexOfChar_19 (by decide) (fun hc19 => ?_) (fun hc19 => ?_)
        · rw [if_neg hc19] at hE
          obtain ⟨v25, e25, hE⟩ := x_letE hE
          refine lv_iinc hx hb d_StringLatin1_indexOfChar_25 hl (k := 5) rfl (x_inc v25 e25 (by decide)) (by decide) rfl (fun ls hl => ?_)
          have hl : lv_has ls 6 [(5, .int v25), (0, .ref (G.2.2.2.2.2 b1)), (1, .int a2), (2, .int a3), (3, .int a4), (4, .int l4)] := hl
          refine lv_goto (tgt := 7) hx hb d_StringLatin1_indexOfChar_28 (by decide) ?_
          exact ih _ _ _ hE (lv_sub hl [1, 2, 3, 4, 5, 0] rfl)
        · rw [if_pos hc19] at hE
          refine lv_iload hx hb d_StringLatin1_indexOfChar_22 (lv_at hl 5 rfl) ?_
          exact W.iret (v := l5) hx hb hr (fun t ht hW => ⟨by rw [Option.some.inj hE], ht⟩) (fun q h => by cases h) d_StringLatin1_indexOfChar_24
  have hl := lv_entry ([.ref (G.2.2.2.2.2 b1), .int a2, .int a3, .int a4]) (n := 6) (Nat.le_of_ble_eq_true rfl)
  rw [lg_entry_eq]
  generalize (lg_sl ([.ref (G.2.2.2.2.2 b1), .int a2, .int a3, .int a4]) ++ List.replicate (6 - (lg_sl ([.ref (G.2.2.2.2.2 b1), .int a2, .int a3, .int a4])).length) Slot.unset).toArray = ls at hl ⊢
  have hl : lv_has ls 6 [(0, .ref (G.2.2.2.2.2 b1)), (1, .int a2), (2, .int a3), (3, .int a4)] := hl
  unfold x_StringLatin1_indexOfChar at hE
  refine lv_iload_n hx hb d_StringLatin1_indexOfChar_0 rfl (lv_at hl 1 rfl) ?_
  refine lv_i2b hx hb d_StringLatin1_indexOfChar_1 rfl ?_
  refine lv_topi (fun v2 e2 => ?_)
  replace hE := x_letT e2 hE
  refine lv_istore hx hb d_StringLatin1_indexOfChar_2 hl (by decide) rfl (fun ls hl => ?_)
  have hl : lv_has ls 6 [(4, .int v2), (0, .ref (G.2.2.2.2.2 b1)), (1, .int a2), (2, .int a3), (3, .int a4)] := hl
  refine lv_iload_n hx hb d_StringLatin1_indexOfChar_4 rfl (lv_at hl 3 rfl) ?_
  refine lv_istore hx hb d_StringLatin1_indexOfChar_5 hl (by decide) rfl (fun ls hl => ?_)
  have hl : lv_has ls 6 [(5, .int a3), (4, .int v2), (0, .ref (G.2.2.2.2.2 b1)), (1, .int a2), (2, .int a3), (3, .int a4)] := hl
  exact jn7 x_fuel _ _ _ hE (lv_sub hl [2, 3, 4, 5, 1, 0] rfl)

def y_StringLatin1_indexOf : MethodName := ⟨"java/lang/StringLatin1", "indexOf", "([BIII)I"⟩
def ws_StringLatin1_indexOf : List Cond := Cond.code y_StringLatin1_indexOf prog_23_method_22_code 4 (some .int) :: UW
theorem hd_StringLatin1_indexOf : y_StringLatin1_indexOf.cls ≠ "java/lang/invoke/MethodHandle" ∧ y_StringLatin1_indexOf.cls ≠ "java/lang/invoke/VarHandle" ∧ (parseMethodDescriptor y_StringLatin1_indexOf.desc).map (fun d => d.parameters.length) = some 4 := by decide +kernel
theorem d_StringLatin1_indexOf_0 : decode prog_23_method_22_code 0 = .ok (.iload_n 1, 1) := by decide +kernel
theorem d_StringLatin1_indexOf_1 : decode prog_23_method_22_code 1 = .ok (.invokestatic 88, 3) := by decide +kernel
theorem d_StringLatin1_indexOf_4 : decode prog_23_method_22_code 4 = .ok (.ifCond .ne (5), 3) := by decide +kernel
theorem d_StringLatin1_indexOf_7 : decode prog_23_method_22_code 7 = .ok (.iconst (-1), 1) := by decide +kernel
theorem d_StringLatin1_indexOf_8 : decode prog_23_method_22_code 8 = .ok (.ireturn, 1) := by decide +kernel
theorem d_StringLatin1_indexOf_9 : decode prog_23_method_22_code 9 = .ok (.iload_n 2, 1) := by decide +kernel
theorem d_StringLatin1_indexOf_10 : decode prog_23_method_22_code 10 = .ok (.iconst 0, 1) := by decide +kernel
theorem d_StringLatin1_indexOf_11 : decode prog_23_method_22_code 11 = .ok (.invokestatic 92, 3) := by decide +kernel
theorem d_StringLatin1_indexOf_14 : decode prog_23_method_22_code 14 = .ok (.istore_n 2, 1) := by decide +kernel
theorem d_StringLatin1_indexOf_15 : decode prog_23_method_22_code 15 = .ok (.iload_n 3, 1) := by decide +kernel
theorem d_StringLatin1_indexOf_16 : decode prog_23_method_22_code 16 = .ok (.aload_n 0, 1) := by decide +kernel
theorem d_StringLatin1_indexOf_17 : decode prog_23_method_22_code 17 = .ok (.arraylength, 1) := by decide +kernel
theorem d_StringLatin1_indexOf_18 : decode prog_23_method_22_code 18 = .ok (.invokestatic 38, 3) := by decide +kernel
theorem d_StringLatin1_indexOf_21 : decode prog_23_method_22_code 21 = .ok (.istore_n 3, 1) := by decide +kernel
theorem d_StringLatin1_indexOf_22 : decode prog_23_method_22_code 22 = .ok (.iload_n 2, 1) := by decide +kernel
theorem d_StringLatin1_indexOf_23 : decode prog_23_method_22_code 23 = .ok (.iload_n 3, 1) := by decide +kernel
theorem d_StringLatin1_indexOf_24 : decode prog_23_method_22_code 24 = .ok (.if_icmp .lt (5), 3) := by decide +kernel
theorem d_StringLatin1_indexOf_27 : decode prog_23_method_22_code 27 = .ok (.iconst (-1), 1) := by decide +kernel
theorem d_StringLatin1_indexOf_28 : decode prog_23_method_22_code 28 = .ok (.ireturn, 1) := by decide +kernel
theorem d_StringLatin1_indexOf_29 : decode prog_23_method_22_code 29 = .ok (.aload_n 0, 1) := by decide +kernel
theorem d_StringLatin1_indexOf_30 : decode prog_23_method_22_code 30 = .ok (.iload_n 1, 1) := by decide +kernel
theorem d_StringLatin1_indexOf_31 : decode prog_23_method_22_code 31 = .ok (.iload_n 2, 1) := by decide +kernel
theorem d_StringLatin1_indexOf_32 : decode prog_23_method_22_code 32 = .ok (.iload_n 3, 1) := by decide +kernel
theorem d_StringLatin1_indexOf_33 : decode prog_23_method_22_code 33 = .ok (.invokestatic 95, 3) := by decide +kernel
theorem d_StringLatin1_indexOf_36 : decode prog_23_method_22_code 36 = .ok (.ireturn, 1) := by decide +kernel
def x_StringLatin1_indexOf (b1 : Nat) (a2 : Int32) (a3 : Int32) (a4 : Int32) : Option Int32 := (Option.bind (x_StringLatin1_canEncode a2) (fun r1 => (if r1 = 0 then some ((-1) : Int32) else (x_let (if a3 < (0 : Int32) then (0 : Int32) else a3) (fun (v14 : Int32) => (x_let (if (Int32.ofNat (slen b1)) < a4 then (Int32.ofNat (slen b1)) else a4) (fun (v21 : Int32) => (if v14 < v21 then (Option.bind (x_StringLatin1_indexOfChar b1 a2 v14 v21) (fun r33 => some r33)) else some ((-1) : Int32)))))))))
abbrev rm_StringLatin1_indexOf : Room := { frames := 1, cells := 0, slots := 0, locals := 25 }
set_option maxHeartbeats 4000000 in
set_option maxRecDepth 100000 in
theorem t_StringLatin1_indexOf (l : Launch) (G : xG) (σ : St) (b1 : Nat) (a2 : Int32) (a3 : Int32) (a4 : Int32) (hb1 : b1 < nStr) (r : Int32) (hE : x_StringLatin1_indexOf b1 a2 a3 a4 = some r) : Met l y_StringLatin1_indexOf (ws_StringLatin1_indexOf) rm_StringLatin1_indexOf (xP G σ [.ref (G.2.2.2.2.2 b1), .int a2, .int a3, .int a4]) (xRd (some (.int r))) 0 0 (fun _ => False) := by
  refine Met.ofW (cc := prog_23_method_22_code) (maxL := 4) (ret := (some .int)) (by decide) rfl ?_
  intro p e s m args below meth c s₁ B hml hv
  obtain ⟨rfl, hw, hC⟩ := hv
  have hx := B.exec
  have hb := B.bytes
  have hr := B.returns
  have hu : ∀ w ∈ UW, w.before _ s = true := fun w h => atoms_spec B.pre w (List.mem_cons_of_mem _ h)
  have hown : s.vm.findClass R_StringLatin1 = some m.cls := findClass_of_methodNamed B.named
  have hlocks := B.notSynchronized
  have hK := hC.1
  have hI := hC.2.1
  have hG := hC.2.2.1
  have hN := hC.2.2.2
  have hS : va_S (xA G) s.heap s.heap [] := va_S.rf
  have hl := lv_entry ([.ref (G.2.2.2.2.2 b1), .int a2, .int a3, .int a4]) (n := 4) (Nat.le_of_ble_eq_true rfl)
  rw [lg_entry_eq]
  generalize (lg_sl ([.ref (G.2.2.2.2.2 b1), .int a2, .int a3, .int a4]) ++ List.replicate (4 - (lg_sl ([.ref (G.2.2.2.2.2 b1), .int a2, .int a3, .int a4])).length) Slot.unset).toArray = ls at hl ⊢
  have hl : lv_has ls 4 [(0, .ref (G.2.2.2.2.2 b1)), (1, .int a2), (2, .int a3), (3, .int a4)] := hl
  unfold x_StringLatin1_indexOf at hE
  refine lv_iload_n hx hb d_StringLatin1_indexOf_0 rfl (lv_at hl 1 rfl) ?_
  obtain ⟨r1, hC1, hE⟩ := x_bind hE
  refine x_callR (W.runS (As := [.int a2]) (rest := []) ⟨hx, hb, hml, hown, hu⟩ (t_StringLatin1_canEncode l G σ a2 r1 hC1) (va_cwS 1 hu (uw_S mw_578 mw_579 mw_77 mw_580) rfl rfl rfl hd_StringLatin1_canEncode ⟨Nat.le_of_ble_eq_true rfl, Nat.le_of_ble_eq_true rfl⟩) (x_preS hC hS hw) rfl rfl hl.1 rfl (lv_room (Nat.le_of_ble_eq_true rfl)) d_StringLatin1_indexOf_1 ⟨Nat.le_of_ble_eq_true rfl, Nat.le_of_ble_eq_true rfl⟩) ?_
  refine lv_if_ne (tgt := 9) hx hb d_StringLatin1_indexOf_4 (by decide) (fun hc4 => ?_) (fun hc4 => ?_)
  · rw [if_neg hc4] at hE
    refine lv_iload_n hx hb d_StringLatin1_indexOf_9 rfl (lv_at hl 2 rfl) ?_
    refine lv_iconst (v := (0 : Int32)) hx hb d_StringLatin1_indexOf_10 (by decide) ?_
    refine va_mmax hx hb (hml.trans hl.1.symm) hown (hu _ mw_581) (hu _ mw_582) (hu _ mw_78) (hu _ mw_583) (Nat.le_of_ble_eq_true rfl) (Nat.le_of_ble_eq_true rfl) (Nat.le_of_ble_eq_true rfl) (Nat.le_of_ble_eq_true rfl) d_StringLatin1_indexOf_11 ?_
    refine lv_topi (fun v14 e14 => ?_)
    replace hE := x_letT e14 hE
    refine lv_istore_n hx hb d_StringLatin1_indexOf_14 rfl hl (by decide) rfl (fun ls hl => ?_)
    have hl : lv_has ls 4 [(2, .int v14), (0, .ref (G.2.2.2.2.2 b1)), (1, .int a2), (3, .int a4)] := hl
    refine lv_iload_n hx hb d_StringLatin1_indexOf_15 rfl (lv_at hl 3 rfl) ?_
    refine lv_aload_n hx hb d_StringLatin1_indexOf_16 rfl (lv_at hl 1 rfl) ?_
    refine va_tlen hx hb (hN.1 b1 hb1).2.2.2 hS (v := Int32.ofNat (slen b1)) rfl d_StringLatin1_indexOf_17 ?_
    refine va_mmin hx hb (hml.trans hl.1.symm) hown (hu _ mw_584) (hu _ mw_585) (hu _ mw_78) (hu _ mw_586) (Nat.le_of_ble_eq_true rfl) (Nat.le_of_ble_eq_true rfl) (Nat.le_of_ble_eq_true rfl) (Nat.le_of_ble_eq_true rfl) d_StringLatin1_indexOf_18 ?_
    refine lv_topi (fun v21 e21 => ?_)
    replace hE := x_letT e21 hE
    refine lv_istore_n hx hb d_StringLatin1_indexOf_21 rfl hl (by decide) rfl (fun ls hl => ?_)
    have hl : lv_has ls 4 [(3, .int v21), (2, .int v14), (0, .ref (G.2.2.2.2.2 b1)), (1, .int a2)] := hl
    refine lv_iload_n hx hb d_StringLatin1_indexOf_22 rfl (lv_at hl 1 rfl) ?_
    refine lv_iload_n hx hb d_StringLatin1_indexOf_23 rfl (lv_at hl 0 rfl) ?_
    refine lv_icmp_lt (tgt := 29) hx hb d_StringLatin1_indexOf_24 (by decide) (fun hc24 => ?_) (fun hc24 => ?_)
    · rw [if_pos hc24] at hE
      refine lv_aload_n hx hb d_StringLatin1_indexOf_29 rfl (lv_at hl 2 rfl) ?_
      refine lv_iload_n hx hb d_StringLatin1_indexOf_30 rfl (lv_at hl 3 rfl) ?_
      refine lv_iload_n hx hb d_StringLatin1_indexOf_31 rfl (lv_at hl 1 rfl) ?_
      refine lv_iload_n hx hb d_StringLatin1_indexOf_32 rfl (lv_at hl 0 rfl) ?_
      obtain ⟨r33, hC33, hE⟩ := x_bind hE
      refine x_callR (W.runS (As := [.ref (G.2.2.2.2.2 b1), .int a2, .int v14, .int v21]) (rest := []) ⟨hx, hb, hml, hown, hu⟩ (t_StringLatin1_indexOfChar l G σ b1 a2 v14 v21 hb1 r33 hC33) (va_cwS 4 hu (uw_S mw_587 mw_588 mw_77 mw_589) rfl rfl rfl hd_StringLatin1_indexOfChar ⟨Nat.le_of_ble_eq_true rfl, Nat.le_of_ble_eq_true rfl⟩) (x_preS hC hS hw) rfl rfl hl.1 rfl (lv_room (Nat.le_of_ble_eq_true rfl)) d_StringLatin1_indexOf_33 ⟨Nat.le_of_ble_eq_true rfl, Nat.le_of_ble_eq_true rfl⟩) ?_
      exact W.iret (v := r33) hx hb hr (fun t ht hW => ⟨by rw [Option.some.inj hE], ht⟩) (fun q h => by cases h) d_StringLatin1_indexOf_36
    · rw [if_neg hc24] at hE
      refine lv_iconst (v := ((-1) : Int32)) hx hb d_StringLatin1_indexOf_27 (by decide) ?_
      exact W.iret (v := ((-1) : Int32)) hx hb hr (fun t ht hW => ⟨by rw [Option.some.inj hE], ht⟩) (fun q h => by cases h) d_StringLatin1_indexOf_28
  · rw [if_pos hc4] at hE
    refine lv_iconst (v := ((-1) : Int32)) hx hb d_StringLatin1_indexOf_7 (by decide) ?_
    exact W.iret (v := ((-1) : Int32)) hx hb hr (fun t ht hW => ⟨by rw [Option.some.inj hE], ht⟩) (fun q h => by cases h) d_StringLatin1_indexOf_8

def y_String_indexOf2 : MethodName := ⟨"java/lang/String", "indexOf", "(II)I"⟩
def ws_String_indexOf2 : List Cond := Cond.code y_String_indexOf2 prog_22_method_80_code 3 (some .int) :: UW
theorem hd_String_indexOf2 : y_String_indexOf2.cls = R_String ∧ y_String_indexOf2.cls ≠ "java/lang/invoke/MethodHandle" ∧ y_String_indexOf2.cls ≠ "java/lang/invoke/VarHandle" ∧ (parseMethodDescriptor y_String_indexOf2.desc).map (fun d => d.parameters.length) = some 2 := by decide +kernel
theorem d_String_indexOf2_0 : decode prog_22_method_80_code 0 = .ok (.aload_n 0, 1) := by decide +kernel
theorem d_String_indexOf2_1 : decode prog_22_method_80_code 1 = .ok (.invokevirtual 492, 3) := by decide +kernel
theorem d_String_indexOf2_4 : decode prog_22_method_80_code 4 = .ok (.ifCond .eq (19), 3) := by decide +kernel
theorem d_String_indexOf2_7 : decode prog_22_method_80_code 7 = .ok (.aload_n 0, 1) := by decide +kernel
theorem d_String_indexOf2_8 : decode prog_22_method_80_code 8 = .ok (.getfield 9, 3) := by decide +kernel
theorem d_String_indexOf2_11 : decode prog_22_method_80_code 11 = .ok (.iload_n 1, 1) := by decide +kernel
theorem d_String_indexOf2_12 : decode prog_22_method_80_code 12 = .ok (.iload_n 2, 1) := by decide +kernel
theorem d_String_indexOf2_13 : decode prog_22_method_80_code 13 = .ok (.aload_n 0, 1) := by decide +kernel
theorem d_String_indexOf2_14 : decode prog_22_method_80_code 14 = .ok (.invokevirtual 505, 3) := by decide +kernel
theorem d_String_indexOf2_17 : decode prog_22_method_80_code 17 = .ok (.invokestatic 637, 3) := by decide +kernel
theorem d_String_indexOf2_20 : decode prog_22_method_80_code 20 = .ok (.goto (16), 3) := by decide +kernel
theorem d_String_indexOf2_23 : decode prog_22_method_80_code 23 = .ok (.aload_n 0, 1) := by decide +kernel
theorem d_String_indexOf2_24 : decode prog_22_method_80_code 24 = .ok (.getfield 9, 3) := by decide +kernel
theorem d_String_indexOf2_27 : decode prog_22_method_80_code 27 = .ok (.iload_n 1, 1) := by decide +kernel
theorem d_String_indexOf2_28 : decode prog_22_method_80_code 28 = .ok (.iload_n 2, 1) := by decide +kernel
theorem d_String_indexOf2_29 : decode prog_22_method_80_code 29 = .ok (.aload_n 0, 1) := by decide +kernel
theorem d_String_indexOf2_30 : decode prog_22_method_80_code 30 = .ok (.invokevirtual 505, 3) := by decide +kernel
theorem d_String_indexOf2_33 : decode prog_22_method_80_code 33 = .ok (.invokestatic 640, 3) := by decide +kernel
theorem d_String_indexOf2_36 : decode prog_22_method_80_code 36 = .ok (.ireturn, 1) := by decide +kernel
def x_String_indexOf2 (w0 : Nat) (a1 : Int32) (a2 : Int32) : Option Int32 := (Option.bind (x_String_isLatin1 w0) (fun r1 => (if r1 = 0 then (Option.bind (x_String_length w0) (fun r30 => none)) else (Option.bind (x_String_length w0) (fun r14 => (Option.bind (x_StringLatin1_indexOf w0 a1 a2 r14) (fun r17 => some r17)))))))
abbrev rm_String_indexOf2 : Room := { frames := 2, cells := 0, slots := 0, locals := 48 }
set_option maxHeartbeats 4000000 in
set_option maxRecDepth 100000 in
theorem t_String_indexOf2 (l : Launch) (G : xG) (σ : St) (w0 : Nat) (a1 : Int32) (a2 : Int32) (hw0 : w0 < nStr) (r : Int32) (hE : x_String_indexOf2 w0 a1 a2 = some r) : Met l y_String_indexOf2 (ws_String_indexOf2) rm_String_indexOf2 (xP G σ [.ref (G.2.2.2.1 w0), .int a1, .int a2]) (xRd (some (.int r))) 0 0 (fun _ => False) := by
  refine Met.ofW (cc := prog_22_method_80_code) (maxL := 3) (ret := (some .int)) (by decide) rfl ?_
  intro p e s m args below meth c s₁ B hml hv
  obtain ⟨rfl, hw, hC⟩ := hv
  have hx := B.exec
  have hb := B.bytes
  have hr := B.returns
  have hu : ∀ w ∈ UW, w.before _ s = true := fun w h => atoms_spec B.pre w (List.mem_cons_of_mem _ h)
  have hown : s.vm.findClass R_String = some m.cls := findClass_of_methodNamed B.named
  have hlocks := B.notSynchronized
  have hK := hC.1
  have hI := hC.2.1
  have hG := hC.2.2.1
  have hN := hC.2.2.2
  have hS : va_S (xA G) s.heap s.heap [] := va_S.rf
  have hl := lv_entry ([.ref (G.2.2.2.1 w0), .int a1, .int a2]) (n := 3) (Nat.le_of_ble_eq_true rfl)
  rw [lg_entry_eq]
  generalize (lg_sl ([.ref (G.2.2.2.1 w0), .int a1, .int a2]) ++ List.replicate (3 - (lg_sl ([.ref (G.2.2.2.1 w0), .int a1, .int a2])).length) Slot.unset).toArray = ls at hl ⊢
  have hl : lv_has ls 3 [(0, .ref (G.2.2.2.1 w0)), (1, .int a1), (2, .int a2)] := hl
  unfold x_String_indexOf2 at hE
  refine lv_aload_n hx hb d_String_indexOf2_0 rfl (lv_at hl 0 rfl) ?_
  obtain ⟨r1, hC1, hE⟩ := x_bind hE
  refine x_callR (W.runV (As := []) (rest := []) ⟨hx, hb, hml, hown, hu⟩ (t_String_isLatin1 l G σ w0 hw0 r1 hC1) (cwV 0 hu (uw_V mw_561 mw_562 mw_563 mw_76 mw_564) rfl rfl rfl hd_String_isLatin1 ⟨Nat.le_of_ble_eq_true rfl, Nat.le_of_ble_eq_true rfl⟩) (x_preV hC hS hw (x_recvS hN hw0 hS)) rfl rfl hl.1 rfl (lv_room (Nat.le_of_ble_eq_true rfl)) d_String_indexOf2_1 ⟨Nat.le_of_ble_eq_true rfl, Nat.le_of_ble_eq_true rfl⟩) ?_
  refine lv_if_eq (tgt := 23) hx hb d_String_indexOf2_4 (by decide) (fun hc4 => ?_) (fun hc4 => ?_)
  · rw [if_pos hc4] at hE
    refine lv_aload_n hx hb d_String_indexOf2_23 rfl (lv_at hl 0 rfl) ?_
    refine vk_getf (v := .ref (G.2.2.2.2.2 w0)) hx hb (hN.1 w0 hw0).2.2.1 hS hown (hu _ mw_1394) (fun _ h9 => h9) d_String_indexOf2_24 ?_
    refine lv_iload_n hx hb d_String_indexOf2_27 rfl (lv_at hl 1 rfl) ?_
    refine lv_iload_n hx hb d_String_indexOf2_28 rfl (lv_at hl 2 rfl) ?_
    refine lv_aload_n hx hb d_String_indexOf2_29 rfl (lv_at hl 0 rfl) ?_
    obtain ⟨r30, hC30, hE⟩ := x_bind hE
    refine x_callR (W.runV (As := []) (rest := [.int a2, .int a1, .ref (G.2.2.2.2.2 w0)]) ⟨hx, hb, hml, hown, hu⟩ (t_String_length l G σ w0 hw0 r30 hC30) (cwV 0 hu (uw_V mw_567 mw_568 mw_569 mw_76 mw_570) rfl rfl rfl hd_String_length ⟨Nat.le_of_ble_eq_true rfl, Nat.le_of_ble_eq_true rfl⟩) (x_preV hC hS hw (x_recvS hN hw0 hS)) rfl rfl hl.1 rfl (lv_room (Nat.le_of_ble_eq_true rfl)) d_String_indexOf2_30 ⟨Nat.le_of_ble_eq_true rfl, Nat.le_of_ble_eq_true rfl⟩) ?_
    cases hE
  · rw [if_neg hc4] at hE
    refine lv_aload_n hx hb d_String_indexOf2_7 rfl (lv_at hl 0 rfl) ?_
    refine vk_getf (v := .ref (G.2.2.2.2.2 w0)) hx hb (hN.1 w0 hw0).2.2.1 hS hown (hu _ mw_1394) (fun _ h9 => h9) d_String_indexOf2_8 ?_
    refine lv_iload_n hx hb d_String_indexOf2_11 rfl (lv_at hl 1 rfl) ?_
    refine lv_iload_n hx hb d_String_indexOf2_12 rfl (lv_at hl 2 rfl) ?_
    refine lv_aload_n hx hb d_String_indexOf2_13 rfl (lv_at hl 0 rfl) ?_
    obtain ⟨r14, hC14, hE⟩ := x_bind hE
    refine x_callR (W.runV (As := []) (rest := [.int a2, .int a1, .ref (G.2.2.2.2.2 w0)]) ⟨hx, hb, hml, hown, hu⟩ (t_String_length l G σ w0 hw0 r14 hC14) (cwV 0 hu (uw_V mw_567 mw_568 mw_569 mw_76 mw_570) rfl rfl rfl hd_String_length ⟨Nat.le_of_ble_eq_true rfl, Nat.le_of_ble_eq_true rfl⟩) (x_preV hC hS hw (x_recvS hN hw0 hS)) rfl rfl hl.1 rfl (lv_room (Nat.le_of_ble_eq_true rfl)) d_String_indexOf2_14 ⟨Nat.le_of_ble_eq_true rfl, Nat.le_of_ble_eq_true rfl⟩) ?_
    obtain ⟨r17, hC17, hE⟩ := x_bind hE
    refine x_callR (W.runS (As := [.ref (G.2.2.2.2.2 w0), .int a1, .int a2, .int r14]) (rest := []) ⟨hx, hb, hml, hown, hu⟩ (t_StringLatin1_indexOf l G σ w0 a1 a2 r14 hw0 r17 hC17) (va_cwS 4 hu (uw_S mw_575 mw_576 mw_77 mw_577) rfl rfl rfl hd_StringLatin1_indexOf ⟨Nat.le_of_ble_eq_true rfl, Nat.le_of_ble_eq_true rfl⟩) (x_preS hC hS hw) rfl rfl hl.1 rfl (lv_room (Nat.le_of_ble_eq_true rfl)) d_String_indexOf2_17 ⟨Nat.le_of_ble_eq_true rfl, Nat.le_of_ble_eq_true rfl⟩) ?_
    refine lv_goto (tgt := 36) hx hb d_String_indexOf2_20 (by decide) ?_
    exact W.iret (v := r17) hx hb hr (fun t ht hW => ⟨by rw [Option.some.inj hE], ht⟩) (fun q h => by cases h) d_String_indexOf2_36

def y_String_indexOf : MethodName := ⟨"java/lang/String", "indexOf", "(I)I"⟩
def ws_String_indexOf : List Cond := Cond.code y_String_indexOf prog_22_method_79_code 2 (some .int) :: UW
theorem hd_String_indexOf : y_String_indexOf.cls = R_String ∧ y_String_indexOf.cls ≠ "java/lang/invoke/MethodHandle" ∧ y_String_indexOf.cls ≠ "java/lang/invoke/VarHandle" ∧ (parseMethodDescriptor y_String_indexOf.desc).map (fun d => d.parameters.length) = some 1 := by decide +kernel
theorem d_String_indexOf_0 : decode prog_22_method_79_code 0 = .ok (.aload_n 0, 1) := by decide +kernel
theorem d_String_indexOf_1 : decode prog_22_method_79_code 1 = .ok (.iload_n 1, 1) := by decide +kernel
theorem d_String_indexOf_2 : decode prog_22_method_79_code 2 = .ok (.iconst 0, 1) := by decide +kernel
theorem d_String_indexOf_3 : decode prog_22_method_79_code 3 = .ok (.invokevirtual 633, 3) := by decide +kernel
theorem d_String_indexOf_6 : decode prog_22_method_79_code 6 = .ok (.ireturn, 1) := by decide +kernel
def x_String_indexOf (w0 : Nat) (a1 : Int32) : Option Int32 := (Option.bind (x_String_indexOf2 w0 a1 (0 : Int32)) (fun r3 => some r3))
abbrev rm_String_indexOf : Room := { frames := 3, cells := 0, slots := 0, locals := 70 }
set_option maxHeartbeats 4000000 in
set_option maxRecDepth 100000 in
theorem t_String_indexOf (l : Launch) (G : xG) (σ : St) (w0 : Nat) (a1 : Int32) (hw0 : w0 < nStr) (r : Int32) (hE : x_String_indexOf w0 a1 = some r) : Met l y_String_indexOf (ws_String_indexOf) rm_String_indexOf (xP G σ [.ref (G.2.2.2.1 w0), .int a1]) (xRd (some (.int r))) 0 0 (fun _ => False) := by
  refine Met.ofW (cc := prog_22_method_79_code) (maxL := 2) (ret := (some .int)) (by decide) rfl ?_
  intro p e s m args below meth c s₁ B hml hv
  obtain ⟨rfl, hw, hC⟩ := hv
  have hx := B.exec
  have hb := B.bytes
  have hr := B.returns
  have hu : ∀ w ∈ UW, w.before _ s = true := fun w h => atoms_spec B.pre w (List.mem_cons_of_mem _ h)
  have hown : s.vm.findClass R_String = some m.cls := findClass_of_methodNamed B.named
  have hlocks := B.notSynchronized
  have hK := hC.1
  have hI := hC.2.1
  have hG := hC.2.2.1
  have hN := hC.2.2.2
  have hS : va_S (xA G) s.heap s.heap [] := va_S.rf
  have hl := lv_entry ([.ref (G.2.2.2.1 w0), .int a1]) (n := 2) (Nat.le_of_ble_eq_true rfl)
  rw [lg_entry_eq]
  generalize (lg_sl ([.ref (G.2.2.2.1 w0), .int a1]) ++ List.replicate (2 - (lg_sl ([.ref (G.2.2.2.1 w0), .int a1])).length) Slot.unset).toArray = ls at hl ⊢
  have hl : lv_has ls 2 [(0, .ref (G.2.2.2.1 w0)), (1, .int a1)] := hl
  unfold x_String_indexOf at hE
  refine lv_aload_n hx hb d_String_indexOf_0 rfl (lv_at hl 0 rfl) ?_
  refine lv_iload_n hx hb d_String_indexOf_1 rfl (lv_at hl 1 rfl) ?_
  refine lv_iconst (v := (0 : Int32)) hx hb d_String_indexOf_2 (by decide) ?_
  obtain ⟨r3, hC3, hE⟩ := x_bind hE
  refine x_callR (W.runV (As := [.int a1, .int (0 : Int32)]) (rest := []) ⟨hx, hb, hml, hown, hu⟩ (t_String_indexOf2 l G σ w0 a1 (0 : Int32) hw0 r3 hC3) (cwV 2 hu (uw_V mw_557 mw_558 mw_559 mw_76 mw_560) rfl rfl rfl hd_String_indexOf2 ⟨Nat.le_of_ble_eq_true rfl, Nat.le_of_ble_eq_true rfl⟩) (x_preV hC hS hw (x_recvS hN hw0 hS)) rfl rfl hl.1 rfl (lv_room (Nat.le_of_ble_eq_true rfl)) d_String_indexOf_3 ⟨Nat.le_of_ble_eq_true rfl, Nat.le_of_ble_eq_true rfl⟩) ?_
  exact W.iret (v := r3) hx hb hr (fun t ht hW => ⟨by rw [Option.some.inj hE], ht⟩) (fun q h => by cases h) d_String_indexOf_6
