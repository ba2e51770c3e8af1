def y_Text_isDigit : MethodName := ⟨"PlainOrigin$Text", "isDigit", "(I)Z"⟩
def ws_Text_isDigit : List Cond := Cond.code y_Text_isDigit prog_12_method_2_code 1 (some .boolean) :: UW
theorem hd_Text_isDigit : y_Text_isDigit.cls ≠ "java/lang/invoke/MethodHandle" ∧ y_Text_isDigit.cls ≠ "java/lang/invoke/VarHandle" ∧ (parseMethodDescriptor y_Text_isDigit.desc).map (fun d => d.parameters.length) = some 1 := by decide +kernel
theorem d_Text_isDigit_0 : decode prog_12_method_2_code 0 = .ok (.iload_n 0, 1) := by decide +kernel
theorem d_Text_isDigit_1 : decode prog_12_method_2_code 1 = .ok (.bipush (48), 2) := by decide +kernel
theorem d_Text_isDigit_3 : decode prog_12_method_2_code 3 = .ok (.if_icmp .lt (13), 3) := by decide +kernel
theorem d_Text_isDigit_6 : decode prog_12_method_2_code 6 = .ok (.iload_n 0, 1) := by decide +kernel
theorem d_Text_isDigit_7 : decode prog_12_method_2_code 7 = .ok (.bipush (57), 2) := by decide +kernel
theorem d_Text_isDigit_9 : decode prog_12_method_2_code 9 = .ok (.if_icmp .gt (7), 3) := by decide +kernel
theorem d_Text_isDigit_12 : decode prog_12_method_2_code 12 = .ok (.iconst 1, 1) := by decide +kernel
theorem d_Text_isDigit_13 : decode prog_12_method_2_code 13 = .ok (.goto (4), 3) := by decide +kernel
theorem d_Text_isDigit_16 : decode prog_12_method_2_code 16 = .ok (.iconst 0, 1) := by decide +kernel
theorem d_Text_isDigit_17 : decode prog_12_method_2_code 17 = .ok (.ireturn, 1) := by decide +kernel
def x_Text_isDigit (a1 : Int32) : Option Int32 := (if a1 < (48 : Int32) then some (0 : Int32) else (if (57 : Int32) < a1 then some (0 : Int32) else some (1 : Int32)))
abbrev rm_Text_isDigit : Room := { frames := 0, cells := 0, slots := 0, locals := 0 }
set_option maxHeartbeats 4000000 in
set_option maxRecDepth 100000 in
theorem t_Text_isDigit (l : Launch) (G : xG) (σ : St) (a1 : Int32) (r : Int32) (hE : x_Text_isDigit a1 = some r) : Met l y_Text_isDigit (ws_Text_isDigit) rm_Text_isDigit (xP G σ [.int a1]) (xRd (some (.int r))) 0 0 (fun _ => False) := by
  refine Met.ofW (cc := prog_12_method_2_code) (maxL := 1) (ret := (some .boolean)) (by decide) rfl ?_
  intro p e s m args below meth c s₁ B hml hv
  obtain ⟨rfl, hw, hC⟩ := hv
  have hx := B.exec
  have hb := B.bytes
  have hr := B.returns
  have hu : ∀ w ∈ UW, w.before _ s = true := fun w h => atoms_spec B.pre w (List.mem_cons_of_mem _ h)
  have hown : s.vm.findClass R_Text = some m.cls := findClass_of_methodNamed B.named
  have hlocks := B.notSynchronized
  have hK := hC.1
  have hI := hC.2.1
  have hG := hC.2.2.1
  have hN := hC.2.2.2
  have hS : va_S (xA G) s.heap s.heap [] := va_S.rf
  have hl := lv_entry ([.int a1]) (n := 1) (Nat.le_of_ble_eq_true rfl)
  rw [lg_entry_eq]
  generalize (lg_sl ([.int a1]) ++ List.replicate (1 - (lg_sl ([.int a1])).length) Slot.unset).toArray = ls at hl ⊢
  have hl : lv_has ls 1 [(0, .int a1)] := hl
  unfold x_Text_isDigit at hE
  refine lv_iload_n hx hb d_Text_isDigit_0 rfl (lv_at hl 0 rfl) ?_
  refine lv_bipush (v := (48 : Int32)) hx hb d_Text_isDigit_1 (by decide) ?_
  refine lv_icmp_lt (tgt := 16) hx hb d_Text_isDigit_3 (by decide) (fun hc3 => ?_) (fun hc3 => ?_)
  · rw [if_pos hc3] at hE
    refine lv_iconst (v := (0 : Int32)) hx hb d_Text_isDigit_16 (by decide) ?_
    exact W.zret (v := (0 : Int32)) hx hb hr rfl (fun t ht hW => ⟨by rw [Option.some.inj hE], ht⟩) (fun q h => by cases h) d_Text_isDigit_17
  · rw [if_neg hc3] at hE
    refine lv_iload_n hx hb d_Text_isDigit_6 rfl (lv_at hl 0 rfl) ?_
    refine lv_bipush (v := (57 : Int32)) hx hb d_Text_isDigit_7 (by decide) ?_
    refine lv_icmp_gt (tgt := 16) hx hb d_Text_isDigit_9 (by decide) (fun hc9 => ?_) (fun hc9 => ?_)
    · rw [if_pos hc9] at hE
      refine lv_iconst (v := (0 : Int32)) hx hb d_Text_isDigit_16 (by decide) ?_
      exact W.zret (v := (0 : Int32)) hx hb hr rfl (fun t ht hW => ⟨by rw [Option.some.inj hE], ht⟩) (fun q h => by cases h) d_Text_isDigit_17
    · rw [if_neg hc9] at hE
      refine lv_iconst (v := (1 : Int32)) hx hb d_Text_isDigit_12 (by decide) ?_
      refine lv_goto (tgt := 17) hx hb d_Text_isDigit_13 (by decide) ?_
      exact W.zret (v := (1 : Int32)) hx hb hr rfl (fun t ht hW => ⟨by rw [Option.some.inj hE], ht⟩) (fun q h => by cases h) d_Text_isDigit_17

def y_Text_isBlank : MethodName := ⟨"PlainOrigin$Text", "isBlank", "(I)Z"⟩
def ws_Text_isBlank : List Cond := Cond.code y_Text_isBlank prog_12_method_4_code 1 (some .boolean) :: UW
theorem hd_Text_isBlank : y_Text_isBlank.cls ≠ "java/lang/invoke/MethodHandle" ∧ y_Text_isBlank.cls ≠ "java/lang/invoke/VarHandle" ∧ (parseMethodDescriptor y_Text_isBlank.desc).map (fun d => d.parameters.length) = some 1 := by decide +kernel
theorem d_Text_isBlank_0 : decode prog_12_method_4_code 0 = .ok (.iload_n 0, 1) := by decide +kernel
theorem d_Text_isBlank_1 : decode prog_12_method_4_code 1 = .ok (.bipush (32), 2) := by decide +kernel
theorem d_Text_isBlank_3 : decode prog_12_method_4_code 3 = .ok (.if_icmp .eq (9), 3) := by decide +kernel
theorem d_Text_isBlank_6 : decode prog_12_method_4_code 6 = .ok (.iload_n 0, 1) := by decide +kernel
theorem d_Text_isBlank_7 : decode prog_12_method_4_code 7 = .ok (.bipush (9), 2) := by decide +kernel
theorem d_Text_isBlank_9 : decode prog_12_method_4_code 9 = .ok (.if_icmp .ne (7), 3) := by decide +kernel
theorem d_Text_isBlank_12 : decode prog_12_method_4_code 12 = .ok (.iconst 1, 1) := by decide +kernel
theorem d_Text_isBlank_13 : decode prog_12_method_4_code 13 = .ok (.goto (4), 3) := by decide +kernel
theorem d_Text_isBlank_16 : decode prog_12_method_4_code 16 = .ok (.iconst 0, 1) := by decide +kernel
theorem d_Text_isBlank_17 : decode prog_12_method_4_code 17 = .ok (.ireturn, 1) := by decide +kernel
def x_Text_isBlank (a1 : Int32) : Option Int32 := (if a1 = (32 : Int32) then some (1 : Int32) else (if a1 = (9 : Int32) then some (1 : Int32) else some (0 : Int32)))
abbrev rm_Text_isBlank : Room := { frames := 0, cells := 0, slots := 0, locals := 0 }
set_option maxHeartbeats 4000000 in
set_option maxRecDepth 100000 in
theorem t_Text_isBlank (l : Launch) (G : xG) (σ : St) (a1 : Int32) (r : Int32) (hE : x_Text_isBlank a1 = some r) : Met l y_Text_isBlank (ws_Text_isBlank) rm_Text_isBlank (xP G σ [.int a1]) (xRd (some (.int r))) 0 0 (fun _ => False) := by
  refine Met.ofW (cc := prog_12_method_4_code) (maxL := 1) (ret := (some .boolean)) (by decide) rfl ?_
  intro p e s m args below meth c s₁ B hml hv
  obtain ⟨rfl, hw, hC⟩ := hv
  have hx := B.exec
  have hb := B.bytes
  have hr := B.returns
  have hu : ∀ w ∈ UW, w.before _ s = true := fun w h => atoms_spec B.pre w (List.mem_cons_of_mem _ h)
  have hown : s.vm.findClass R_Text = some m.cls := findClass_of_methodNamed B.named
  have hlocks := B.notSynchronized
  have hK := hC.1
  have hI := hC.2.1
  have hG := hC.2.2.1
  have hN := hC.2.2.2
  have hS : va_S (xA G) s.heap s.heap [] := va_S.rf
  have hl := lv_entry ([.int a1]) (n := 1) (Nat.le_of_ble_eq_true rfl)
  rw [lg_entry_eq]
  generalize (lg_sl ([.int a1]) ++ List.replicate (1 - (lg_sl ([.int a1])).length) Slot.unset).toArray = ls at hl ⊢
  have hl : lv_has ls 1 [(0, .int a1)] := hl
  unfold x_Text_isBlank at hE
  refine lv_iload_n hx hb d_Text_isBlank_0 rfl (lv_at hl 0 rfl) ?_
  refine lv_bipush (v := (32 : Int32)) hx hb d_Text_isBlank_1 (by decide) ?_
  refine lv_icmp_eq (tgt := 12) hx hb d_Text_isBlank_3 (by decide) (fun hc3 => ?_) (fun hc3 => ?_)
  · rw [if_pos hc3] at hE
    refine lv_iconst (v := (1 : Int32)) hx hb d_Text_isBlank_12 (by decide) ?_
    refine lv_goto (tgt := 17) hx hb d_Text_isBlank_13 (by decide) ?_
    exact W.zret (v := (1 : Int32)) hx hb hr rfl (fun t ht hW => ⟨by rw [Option.some.inj hE], ht⟩) (fun q h => by cases h) d_Text_isBlank_17
  · rw [if_neg hc3] at hE
    refine lv_iload_n hx hb d_Text_isBlank_6 rfl (lv_at hl 0 rfl) ?_
    refine lv_bipush (v := (9 : Int32)) hx hb d_Text_isBlank_7 (by decide) ?_
    refine lv_icmp_ne (tgt := 16) hx hb d_Text_isBlank_9 (by decide) (fun hc9 => ?_) (fun hc9 => ?_)
    · rw [if_neg hc9] at hE
      refine lv_iconst (v := (0 : Int32)) hx hb d_Text_isBlank_16 (by decide) ?_
      exact W.zret (v := (0 : Int32)) hx hb hr rfl (fun t ht hW => ⟨by rw [Option.some.inj hE], ht⟩) (fun q h => by cases h) d_Text_isBlank_17
    · rw [if_pos hc9] at hE
      refine lv_iconst (v := (1 : Int32)) hx hb d_Text_isBlank_12 (by decide) ?_
      refine lv_goto (tgt := 17) hx hb d_Text_isBlank_13 (by decide) ?_
      exact W.zret (v := (1 : Int32)) hx hb hr rfl (fun t ht hW => ⟨by rw [Option.some.inj hE], ht⟩) (fun q h => by cases h) d_Text_isBlank_17

def y_Text_isControl : MethodName := ⟨"PlainOrigin$Text", "isControl", "(I)Z"⟩
def ws_Text_isControl : List Cond := Cond.code y_Text_isControl prog_12_method_5_code 1 (some .boolean) :: UW
theorem hd_Text_isControl : y_Text_isControl.cls ≠ "java/lang/invoke/MethodHandle" ∧ y_Text_isControl.cls ≠ "java/lang/invoke/VarHandle" ∧ (parseMethodDescriptor y_Text_isControl.desc).map (fun d => d.parameters.length) = some 1 := by decide +kernel
theorem d_Text_isControl_0 : decode prog_12_method_5_code 0 = .ok (.iload_n 0, 1) := by decide +kernel
theorem d_Text_isControl_1 : decode prog_12_method_5_code 1 = .ok (.bipush (32), 2) := by decide +kernel
theorem d_Text_isControl_3 : decode prog_12_method_5_code 3 = .ok (.if_icmp .ge (9), 3) := by decide +kernel
theorem d_Text_isControl_6 : decode prog_12_method_5_code 6 = .ok (.iload_n 0, 1) := by decide +kernel
theorem d_Text_isControl_7 : decode prog_12_method_5_code 7 = .ok (.bipush (9), 2) := by decide +kernel
theorem d_Text_isControl_9 : decode prog_12_method_5_code 9 = .ok (.if_icmp .ne (9), 3) := by decide +kernel
theorem d_Text_isControl_12 : decode prog_12_method_5_code 12 = .ok (.iload_n 0, 1) := by decide +kernel
theorem d_Text_isControl_13 : decode prog_12_method_5_code 13 = .ok (.bipush (127), 2) := by decide +kernel
theorem d_Text_isControl_15 : decode prog_12_method_5_code 15 = .ok (.if_icmp .ne (7), 3) := by decide +kernel
theorem d_Text_isControl_18 : decode prog_12_method_5_code 18 = .ok (.iconst 1, 1) := by decide +kernel
theorem d_Text_isControl_19 : decode prog_12_method_5_code 19 = .ok (.goto (4), 3) := by decide +kernel
theorem d_Text_isControl_22 : decode prog_12_method_5_code 22 = .ok (.iconst 0, 1) := by decide +kernel
theorem d_Text_isControl_23 : decode prog_12_method_5_code 23 = .ok (.ireturn, 1) := by decide +kernel
def x_Text_isControl_12 (a1 : Int32) : Option Int32 := (if a1 = (127 : Int32) then some (1 : Int32) else some (0 : Int32))
def x_Text_isControl (a1 : Int32) : Option Int32 := (if (32 : Int32) ≤ a1 then x_Text_isControl_12 a1 else (if a1 = (9 : Int32) then x_Text_isControl_12 a1 else some (1 : Int32)))
abbrev rm_Text_isControl : Room := { frames := 0, cells := 0, slots := 0, locals := 0 }
set_option maxHeartbeats 4000000 in
set_option maxRecDepth 100000 in
theorem t_Text_isControl (l : Launch) (G : xG) (σ : St) (a1 : Int32) (r : Int32) (hE : x_Text_isControl a1 = some r) : Met l y_Text_isControl (ws_Text_isControl) rm_Text_isControl (xP G σ [.int a1]) (xRd (some (.int r))) 0 0 (fun _ => False) := by
  refine Met.ofW (cc := prog_12_method_5_code) (maxL := 1) (ret := (some .boolean)) (by decide) rfl ?_
  intro p e s m args below meth c s₁ B hml hv
  obtain ⟨rfl, hw, hC⟩ := hv
  have hx := B.exec
  have hb := B.bytes
  have hr := B.returns
  have hu : ∀ w ∈ UW, w.before _ s = true := fun w h => atoms_spec B.pre w (List.mem_cons_of_mem _ h)
  have hown : s.vm.findClass R_Text = some m.cls := findClass_of_methodNamed B.named
  have hlocks := B.notSynchronized
  have hK := hC.1
  have hI := hC.2.1
  have hG := hC.2.2.1
  have hN := hC.2.2.2
  have hS : va_S (xA G) s.heap s.heap [] := va_S.rf
  have jn12 : ∀ (ls : Array Slot), x_Text_isControl_12 a1 = some r → lv_has ls 1 [(0, .int a1)] → W p l e (headSpec (ws_Text_isControl) rm_Text_isControl).room s m ([.int a1] : List Value).toArray below meth c s.heap [] 0 0 (MQ below (xRd (some (.int r))) ([.int a1] : List Value).toArray s 0 0 (fun _ => False)) (F0 m 12 ls []) := by
    intro ls hE hl
    unfold x_Text_isControl_12 at hE
    refine lv_iload_n hx hb d_Text_isControl_12 rfl (lv_at hl 0 rfl) ?_
    refine lv_bipush (v := (127 : Int32)) hx hb d_Text_isControl_13 (by decide) ?_
    refine lv_icmp_ne (tgt := 22) hx hb d_Text_isControl_15 (by decide) (fun hc15 => ?_) (fun hc15 => ?_)
    · rw [if_neg hc15] at hE
      refine lv_iconst (v := (0 : Int32)) hx hb d_Text_isControl_22 (by decide) ?_
      exact W.zret (v := (0 : Int32)) hx hb hr rfl (fun t ht hW => ⟨by rw [Option.some.inj hE], ht⟩) (fun q h => by cases h) d_Text_isControl_23
    · rw [if_pos hc15] at hE
      refine lv_iconst (v := (1 : Int32)) hx hb d_Text_isControl_18 (by decide) ?_
      refine lv_goto (tgt := 23) hx hb d_Text_isControl_19 (by decide) ?_
      exact W.zret (v := (1 : Int32)) hx hb hr rfl (fun t ht hW => ⟨by rw [Option.some.inj hE], ht⟩) (fun q h => by cases h) d_Text_isControl_23
  have hl := lv_entry ([.int a1]) (n := 1) (Nat.le_of_ble_eq_true rfl)
  rw [lg_entry_eq]
  generalize (lg_sl ([.int a1]) ++ List.replicate (1 - (lg_sl ([.int a1])).length) Slot.unset).toArray = ls at hl ⊢
  have hl : lv_has ls 1 [(0, .int a1)] := hl
  unfold x_Text_isControl at hE
  refine lv_iload_n hx hb d_Text_isControl_0 rfl (lv_at hl 0 rfl) ?_
  refine lv_bipush (v := (32 : Int32)) hx hb d_Text_isControl_1 (by decide) ?_
  refine lv_icmp_ge (tgt := 12) hx hb d_Text_isControl_3 (by decide) (fun hc3 => ?_) (fun hc3 => ?_)
  · rw [if_pos hc3] at hE
    exact jn12 _ hE (lv_sub hl [0] rfl)
  · rw [if_neg hc3] at hE
    refine lv_iload_n hx hb d_Text_isControl_6 rfl (lv_at hl 0 rfl) ?_
    refine lv_bipush (v := (9 : Int32)) hx hb d_Text_isControl_7 (by decide) ?_
    refine lv_icmp_ne (tgt := 18) hx hb d_Text_isControl_9 (by decide) (fun hc9 => ?_) (fun hc9 => ?_)
    · rw [if_neg hc9] at hE
      refine lv_iconst (v := (1 : Int32)) hx hb d_Text_isControl_18 (by decide) ?_
      refine lv_goto (tgt := 23) hx hb d_Text_isControl_19 (by decide) ?_
      exact W.zret (v := (1 : Int32)) hx hb hr rfl (fun t ht hW => ⟨by rw [Option.some.inj hE], ht⟩) (fun q h => by cases h) d_Text_isControl_23
    · rw [if_pos hc9] at hE
      exact jn12 _ hE (lv_sub hl [0] rfl)

def y_Text_lower : MethodName := ⟨"PlainOrigin$Text", "lower", "(I)I"⟩
def ws_Text_lower : List Cond := Cond.code y_Text_lower prog_12_method_6_code 1 (some .int) :: UW
theorem hd_Text_lower : y_Text_lower.cls ≠ "java/lang/invoke/MethodHandle" ∧ y_Text_lower.cls ≠ "java/lang/invoke/VarHandle" ∧ (parseMethodDescriptor y_Text_lower.desc).map (fun d => d.parameters.length) = some 1 := by decide +kernel
theorem d_Text_lower_0 : decode prog_12_method_6_code 0 = .ok (.iload_n 0, 1) := by decide +kernel
theorem d_Text_lower_1 : decode prog_12_method_6_code 1 = .ok (.bipush (65), 2) := by decide +kernel
theorem d_Text_lower_3 : decode prog_12_method_6_code 3 = .ok (.if_icmp .lt (16), 3) := by decide +kernel
theorem d_Text_lower_6 : decode prog_12_method_6_code 6 = .ok (.iload_n 0, 1) := by decide +kernel
theorem d_Text_lower_7 : decode prog_12_method_6_code 7 = .ok (.bipush (90), 2) := by decide +kernel
theorem d_Text_lower_9 : decode prog_12_method_6_code 9 = .ok (.if_icmp .gt (10), 3) := by decide +kernel
theorem d_Text_lower_12 : decode prog_12_method_6_code 12 = .ok (.iload_n 0, 1) := by decide +kernel
theorem d_Text_lower_13 : decode prog_12_method_6_code 13 = .ok (.bipush (32), 2) := by decide +kernel
theorem d_Text_lower_15 : decode prog_12_method_6_code 15 = .ok (.iadd, 1) := by decide +kernel
theorem d_Text_lower_16 : decode prog_12_method_6_code 16 = .ok (.goto (4), 3) := by decide +kernel
theorem d_Text_lower_19 : decode prog_12_method_6_code 19 = .ok (.iload_n 0, 1) := by decide +kernel
theorem d_Text_lower_20 : decode prog_12_method_6_code 20 = .ok (.ireturn, 1) := by decide +kernel
def x_Text_lower (a1 : Int32) : Option Int32 := (if a1 < (65 : Int32) then some a1 else (if (90 : Int32) < a1 then some a1 else some (a1 + (32 : Int32))))
abbrev rm_Text_lower : Room := { frames := 0, cells := 0, slots := 0, locals := 0 }
set_option maxHeartbeats 4000000 in
set_option maxRecDepth 100000 in
theorem t_Text_lower (l : Launch) (G : xG) (σ : St) (a1 : Int32) (r : Int32) (hE : x_Text_lower a1 = some r) : Met l y_Text_lower (ws_Text_lower) rm_Text_lower (xP G σ [.int a1]) (xRd (some (.int r))) 0 0 (fun _ => False) := by
  refine Met.ofW (cc := prog_12_method_6_code) (maxL := 1) (ret := (some .int)) (by decide) rfl ?_
  intro p e s m args below meth c s₁ B hml hv
  obtain ⟨rfl, hw, hC⟩ := hv
  have hx := B.exec
  have hb := B.bytes
  have hr := B.returns
  have hu : ∀ w ∈ UW, w.before _ s = true := fun w h => atoms_spec B.pre w (List.mem_cons_of_mem _ h)
  have hown : s.vm.findClass R_Text = some m.cls := findClass_of_methodNamed B.named
  have hlocks := B.notSynchronized
  have hK := hC.1
  have hI := hC.2.1
  have hG := hC.2.2.1
  have hN := hC.2.2.2
  have hS : va_S (xA G) s.heap s.heap [] := va_S.rf
  have hl := lv_entry ([.int a1]) (n := 1) (Nat.le_of_ble_eq_true rfl)
  rw [lg_entry_eq]
  generalize (lg_sl ([.int a1]) ++ List.replicate (1 - (lg_sl ([.int a1])).length) Slot.unset).toArray = ls at hl ⊢
  have hl : lv_has ls 1 [(0, .int a1)] := hl
  unfold x_Text_lower at hE
  refine lv_iload_n hx hb d_Text_lower_0 rfl (lv_at hl 0 rfl) ?_
  refine lv_bipush (v := (65 : Int32)) hx hb d_Text_lower_1 (by decide) ?_
  refine lv_icmp_lt (tgt := 19) hx hb d_Text_lower_3 (by decide) (fun hc3 => ?_) (fun hc3 => ?_)
  · rw [if_pos hc3] at hE
    refine lv_iload_n hx hb d_Text_lower_19 rfl (lv_at hl 0 rfl) ?_
    exact W.iret (v := a1) hx hb hr (fun t ht hW => ⟨by rw [Option.some.inj hE], ht⟩) (fun q h => by cases h) d_Text_lower_20
  · rw [if_neg hc3] at hE
    refine lv_iload_n hx hb d_Text_lower_6 rfl (lv_at hl 0 rfl) ?_
    refine lv_bipush (v := (90 : Int32)) hx hb d_Text_lower_7 (by decide) ?_
    refine lv_icmp_gt (tgt := 19) hx hb d_Text_lower_9 (by decide) (fun hc9 => ?_) (fun hc9 => ?_)
    · rw [if_pos hc9] at hE
      refine lv_iload_n hx hb d_Text_lower_19 rfl (lv_at hl 0 rfl) ?_
      exact W.iret (v := a1) hx hb hr (fun t ht hW => ⟨by rw [Option.some.inj hE], ht⟩) (fun q h => by cases h) d_Text_lower_20
    · rw [if_neg hc9] at hE
      refine lv_iload_n hx hb d_Text_lower_12 rfl (lv_at hl 0 rfl) ?_
      refine lv_bipush (v := (32 : Int32)) hx hb d_Text_lower_13 (by decide) ?_
      refine lv_iadd hx hb d_Text_lower_15 ?_
      refine lv_goto (tgt := 20) hx hb d_Text_lower_16 (by decide) ?_
      exact W.iret (v := a1 + (32 : Int32)) hx hb hr (fun t ht hW => ⟨by rw [Option.some.inj hE], ht⟩) (fun q h => by cases h) d_Text_lower_20

def y_Text_hexDigit : MethodName := ⟨"PlainOrigin$Text", "hexDigit", "(I)I"⟩
def ws_Text_hexDigit : List Cond := Cond.code y_Text_hexDigit prog_12_method_7_code 1 (some .int) :: UW
theorem hd_Text_hexDigit : y_Text_hexDigit.cls ≠ "java/lang/invoke/MethodHandle" ∧ y_Text_hexDigit.cls ≠ "java/lang/invoke/VarHandle" ∧ (parseMethodDescriptor y_Text_hexDigit.desc).map (fun d => d.parameters.length) = some 1 := by decide +kernel
theorem d_Text_hexDigit_0 : decode prog_12_method_7_code 0 = .ok (.iload_n 0, 1) := by decide +kernel
theorem d_Text_hexDigit_1 : decode prog_12_method_7_code 1 = .ok (.bipush (48), 2) := by decide +kernel
theorem d_Text_hexDigit_3 : decode prog_12_method_7_code 3 = .ok (.if_icmp .lt (14), 3) := by decide +kernel
theorem d_Text_hexDigit_6 : decode prog_12_method_7_code 6 = .ok (.iload_n 0, 1) := by decide +kernel
theorem d_Text_hexDigit_7 : decode prog_12_method_7_code 7 = .ok (.bipush (57), 2) := by decide +kernel
theorem d_Text_hexDigit_9 : decode prog_12_method_7_code 9 = .ok (.if_icmp .gt (8), 3) := by decide +kernel
theorem d_Text_hexDigit_12 : decode prog_12_method_7_code 12 = .ok (.iload_n 0, 1) := by decide +kernel
theorem d_Text_hexDigit_13 : decode prog_12_method_7_code 13 = .ok (.bipush (48), 2) := by decide +kernel
theorem d_Text_hexDigit_15 : decode prog_12_method_7_code 15 = .ok (.isub, 1) := by decide +kernel
theorem d_Text_hexDigit_16 : decode prog_12_method_7_code 16 = .ok (.ireturn, 1) := by decide +kernel
theorem d_Text_hexDigit_17 : decode prog_12_method_7_code 17 = .ok (.iload_n 0, 1) := by decide +kernel
theorem d_Text_hexDigit_18 : decode prog_12_method_7_code 18 = .ok (.bipush (97), 2) := by decide +kernel
theorem d_Text_hexDigit_20 : decode prog_12_method_7_code 20 = .ok (.if_icmp .lt (17), 3) := by decide +kernel
theorem d_Text_hexDigit_23 : decode prog_12_method_7_code 23 = .ok (.iload_n 0, 1) := by decide +kernel
theorem d_Text_hexDigit_24 : decode prog_12_method_7_code 24 = .ok (.bipush (102), 2) := by decide +kernel
theorem d_Text_hexDigit_26 : decode prog_12_method_7_code 26 = .ok (.if_icmp .gt (11), 3) := by decide +kernel
theorem d_Text_hexDigit_29 : decode prog_12_method_7_code 29 = .ok (.iload_n 0, 1) := by decide +kernel
theorem d_Text_hexDigit_30 : decode prog_12_method_7_code 30 = .ok (.bipush (97), 2) := by decide +kernel
theorem d_Text_hexDigit_32 : decode prog_12_method_7_code 32 = .ok (.isub, 1) := by decide +kernel
theorem d_Text_hexDigit_33 : decode prog_12_method_7_code 33 = .ok (.bipush (10), 2) := by decide +kernel
theorem d_Text_hexDigit_35 : decode prog_12_method_7_code 35 = .ok (.iadd, 1) := by decide +kernel
theorem d_Text_hexDigit_36 : decode prog_12_method_7_code 36 = .ok (.ireturn, 1) := by decide +kernel
theorem d_Text_hexDigit_37 : decode prog_12_method_7_code 37 = .ok (.iload_n 0, 1) := by decide +kernel
theorem d_Text_hexDigit_38 : decode prog_12_method_7_code 38 = .ok (.bipush (65), 2) := by decide +kernel
theorem d_Text_hexDigit_40 : decode prog_12_method_7_code 40 = .ok (.if_icmp .lt (19), 3) := by decide +kernel
theorem d_Text_hexDigit_43 : decode prog_12_method_7_code 43 = .ok (.iload_n 0, 1) := by decide +kernel
theorem d_Text_hexDigit_44 : decode prog_12_method_7_code 44 = .ok (.bipush (70), 2) := by decide +kernel
theorem d_Text_hexDigit_46 : decode prog_12_method_7_code 46 = .ok (.if_icmp .gt (13), 3) := by decide +kernel
theorem d_Text_hexDigit_49 : decode prog_12_method_7_code 49 = .ok (.iload_n 0, 1) := by decide +kernel
theorem d_Text_hexDigit_50 : decode prog_12_method_7_code 50 = .ok (.bipush (65), 2) := by decide +kernel
theorem d_Text_hexDigit_52 : decode prog_12_method_7_code 52 = .ok (.isub, 1) := by decide +kernel
theorem d_Text_hexDigit_53 : decode prog_12_method_7_code 53 = .ok (.bipush (10), 2) := by decide +kernel
theorem d_Text_hexDigit_55 : decode prog_12_method_7_code 55 = .ok (.iadd, 1) := by decide +kernel
theorem d_Text_hexDigit_56 : decode prog_12_method_7_code 56 = .ok (.goto (4), 3) := by decide +kernel
theorem d_Text_hexDigit_59 : decode prog_12_method_7_code 59 = .ok (.iconst (-1), 1) := by decide +kernel
theorem d_Text_hexDigit_60 : decode prog_12_method_7_code 60 = .ok (.ireturn, 1) := by decide +kernel
def x_Text_hexDigit_37 (a1 : Int32) : Option Int32 := (if a1 < (65 : Int32) then some ((-1) : Int32) else (if (70 : Int32) < a1 then some ((-1) : Int32) else some ((a1 - (65 : Int32)) + (10 : Int32))))
def x_Text_hexDigit_17 (a1 : Int32) : Option Int32 := (if a1 < (97 : Int32) then x_Text_hexDigit_37 a1 else (if (102 : Int32) < a1 then x_Text_hexDigit_37 a1 else some ((a1 - (97 : Int32)) + (10 : Int32))))
def x_Text_hexDigit (a1 : Int32) : Option Int32 := (if a1 < (48 : Int32) then x_Text_hexDigit_17 a1 else (if (57 : Int32) < a1 then x_Text_hexDigit_17 a1 else some (a1 - (48 : Int32))))
abbrev rm_Text_hexDigit : Room := { frames := 0, cells := 0, slots := 0, locals := 0 }
set_option maxHeartbeats 4000000 in
set_option maxRecDepth 100000 in
theorem t_Text_hexDigit (l : Launch) (G : xG) (σ : St) (a1 : Int32) (r : Int32) (hE : x_Text_hexDigit a1 = some r) : Met l y_Text_hexDigit (ws_Text_hexDigit) rm_Text_hexDigit (xP G σ [.int a1]) (xRd (some (.int r))) 0 0 (fun _ => False) := by
  refine Met.ofW (cc := prog_12_method_7_code) (maxL := 1) (ret := (some .int)) (by decide) rfl ?_
  intro p e s m args below meth c s₁ B hml hv
  obtain ⟨rfl, hw, hC⟩ := hv
  have hx := B.exec
  have hb := B.bytes
  have hr := B.returns
  have hu : ∀ w ∈ UW, w.before _ s = true := fun w h => atoms_spec B.pre w (List.mem_cons_of_mem _ h)
  have hown : s.vm.findClass R_Text = some m.cls := findClass_of_methodNamed B.named
  have hlocks := B.notSynchronized
  have hK := hC.1
  have hI := hC.2.1
  have hG := hC.2.2.1
  have hN := hC.2.2.2
  have hS : va_S (xA G) s.heap s.heap [] := va_S.rf
  have jn37 : ∀ (ls : Array Slot), x_Text_hexDigit_37 a1 = some r → lv_has ls 1 [(0, .int a1)] → W p l e (headSpec (ws_Text_hexDigit) rm_Text_hexDigit).room s m ([.int a1] : List Value).toArray below meth c s.heap [] 0 0 (MQ below (xRd (some (.int r))) ([.int a1] : List Value).toArray s 0 0 (fun _ => False)) (F0 m 37 ls []) := by
    intro ls hE hl
    unfold x_Text_hexDigit_37 at hE
    refine lv_iload_n hx hb d_Text_hexDigit_37 rfl (lv_at hl 0 rfl) ?_
    refine lv_bipush (v := (65 : Int32)) hx hb d_Text_hexDigit_38 (by decide) ?_
    refine lv_icmp_lt (tgt := 59) hx hb d_Text_hexDigit_40 (by decide) (fun hc40 => ?_) (fun hc40 => ?_)
    · rw [if_pos hc40] at hE
      refine lv_iconst (v := ((-1) : Int32)) hx hb d_Text_hexDigit_59 (by decide) ?_
      exact W.iret (v := ((-1) : Int32)) hx hb hr (fun t ht hW => ⟨by rw [Option.some.inj hE], ht⟩) (fun q h => by cases h) d_Text_hexDigit_60
    · rw [if_neg hc40] at hE
      refine lv_iload_n hx hb d_Text_hexDigit_43 rfl (lv_at hl 0 rfl) ?_
      refine lv_bipush (v := (70 : Int32)) hx hb d_Text_hexDigit_44 (by decide) ?_
      refine lv_icmp_gt (tgt := 59) hx hb d_Text_hexDigit_46 (by decide) (fun hc46 => ?_) (fun hc46 => ?_)
      · rw [if_pos hc46] at hE
        refine lv_iconst (v := ((-1) : Int32)) hx hb d_Text_hexDigit_59 (by decide) ?_
        exact W.iret (v := ((-1) : Int32)) hx hb hr (fun t ht hW => ⟨by rw [Option.some.inj hE], ht⟩) (fun q h => by cases h) d_Text_hexDigit_60
      · rw [if_neg hc46] at hE
        refine lv_iload_n hx hb d_Text_hexDigit_49 rfl (lv_at hl 0 rfl) ?_
        refine lv_bipush (v := (65 : Int32)) hx hb d_Text_hexDigit_50 (by decide) ?_
        refine lv_isub hx hb d_Text_hexDigit_52 ?_
        refine lv_bipush (v := (10 : Int32)) hx hb d_Text_hexDigit_53 (by decide) ?_
        refine lv_iadd hx hb d_Text_hexDigit_55 ?_
        refine lv_goto (tgt := 60) hx hb d_Text_hexDigit_56 (by decide) ?_
        exact W.iret (v := (a1 - (65 : Int32)) + (10 : Int32)) hx hb hr (fun t ht hW => ⟨by rw [Option.some.inj hE], ht⟩) (fun q h => by cases h) d_Text_hexDigit_60
  have jn17 : ∀ (ls : Array Slot), x_Text_hexDigit_17 a1 = some r → lv_has ls 1 [(0, .int a1)] → W p l e (headSpec (ws_Text_hexDigit) rm_Text_hexDigit).room s m ([.int a1] : List Value).toArray below meth c s.heap [] 0 0 (MQ below (xRd (some (.int r))) ([.int a1] : List Value).toArray s 0 0 (fun _ => False)) (F0 m 17 ls []) := by
    intro ls hE hl
    unfold x_Text_hexDigit_17 at hE
    refine lv_iload_n hx hb d_Text_hexDigit_17 rfl (lv_at hl 0 rfl) ?_
    refine lv_bipush (v := (97 : Int32)) hx hb d_Text_hexDigit_18 (by decide) ?_
    refine lv_icmp_lt (tgt := 37) hx hb d_Text_hexDigit_20 (by decide) (fun hc20 => ?_) (fun hc20 => ?_)
    · rw [if_pos hc20] at hE
      exact jn37 _ hE (lv_sub hl [0] rfl)
    · rw [if_neg hc20] at hE
      refine lv_iload_n hx hb d_Text_hexDigit_23 rfl (lv_at hl 0 rfl) ?_
      refine lv_bipush (v := (102 : Int32)) hx hb d_Text_hexDigit_24 (by decide) ?_
      refine lv_icmp_gt (tgt := 37) hx hb d_Text_hexDigit_26 (by decide) (fun hc26 => ?_) (fun hc26 => ?_)
      · rw [if_pos hc26] at hE
        exact jn37 _ hE (lv_sub hl [0] rfl)
      · rw [if_neg hc26] at hE
        refine lv_iload_n hx hb d_Text_hexDigit_29 rfl (lv_at hl 0 rfl) ?_
        refine lv_bipush (v := (97 : Int32)) hx hb d_Text_hexDigit_30 (by decide) ?_
        refine lv_isub hx hb d_Text_hexDigit_32 ?_
        refine lv_bipush (v := (10 : Int32)) hx hb d_Text_hexDigit_33 (by decide) ?_
        refine lv_iadd hx hb d_Text_hexDigit_35 ?_
        exact W.iret (v := (a1 - (97 : Int32)) + (10 : Int32)) hx hb hr (fun t ht hW => ⟨by rw [Option.some.inj hE], ht⟩) (fun q h => by cases h) d_Text_hexDigit_36
  have hl := lv_entry ([.int a1]) (n := 1) (Nat.le_of_ble_eq_true rfl)
  rw [lg_entry_eq]
  generalize (lg_sl ([.int a1]) ++ List.replicate (1 - (lg_sl ([.int a1])).length) Slot.unset).toArray = ls at hl ⊢
  have hl : lv_has ls 1 [(0, .int a1)] := hl
  unfold x_Text_hexDigit at hE
  refine lv_iload_n hx hb d_Text_hexDigit_0 rfl (lv_at hl 0 rfl) ?_
  refine lv_bipush (v := (48 : Int32)) hx hb d_Text_hexDigit_1 (by decide) ?_
  refine lv_icmp_lt (tgt := 17) hx hb d_Text_hexDigit_3 (by decide) (fun hc3 => ?_) (fun hc3 => ?_)
  · rw [if_pos hc3] at hE
    exact jn17 _ hE (lv_sub hl [0] rfl)
  · rw [if_neg hc3] at hE
    refine lv_iload_n hx hb d_Text_hexDigit_6 rfl (lv_at hl 0 rfl) ?_
    refine lv_bipush (v := (57 : Int32)) hx hb d_Text_hexDigit_7 (by decide) ?_
    refine lv_icmp_gt (tgt := 17) hx hb d_Text_hexDigit_9 (by decide) (fun hc9 => ?_) (fun hc9 => ?_)
    · rw [if_pos hc9] at hE
      exact jn17 _ hE (lv_sub hl [0] rfl)
    · rw [if_neg hc9] at hE
      refine lv_iload_n hx hb d_Text_hexDigit_12 rfl (lv_at hl 0 rfl) ?_
      refine lv_bipush (v := (48 : Int32)) hx hb d_Text_hexDigit_13 (by decide) ?_
      refine lv_isub hx hb d_Text_hexDigit_15 ?_
      exact W.iret (v := a1 - (48 : Int32)) hx hb hr (fun t ht hW => ⟨by rw [Option.some.inj hE], ht⟩) (fun q h => by cases h) d_Text_hexDigit_16

def y_Text_find : MethodName := ⟨"PlainOrigin$Text", "find", "(LPlainOrigin$Bytes;III)I"⟩
def ws_Text_find : List Cond := Cond.code y_Text_find prog_12_method_8_code 5 (some .int) :: UW
theorem hd_Text_find : y_Text_find.cls ≠ "java/lang/invoke/MethodHandle" ∧ y_Text_find.cls ≠ "java/lang/invoke/VarHandle" ∧ (parseMethodDescriptor y_Text_find.desc).map (fun d => d.parameters.length) = some 4 := by decide +kernel
theorem d_Text_find_0 : decode prog_12_method_8_code 0 = .ok (.iload_n 2, 1) := by decide +kernel
theorem d_Text_find_1 : decode prog_12_method_8_code 1 = .ok (.istore 4, 2) := by decide +kernel
theorem d_Text_find_3 : decode prog_12_method_8_code 3 = .ok (.iload 4, 2) := by decide +kernel
theorem d_Text_find_5 : decode prog_12_method_8_code 5 = .ok (.iload_n 3, 1) := by decide +kernel
theorem d_Text_find_6 : decode prog_12_method_8_code 6 = .ok (.if_icmp .ge (22), 3) := by decide +kernel
theorem d_Text_find_9 : decode prog_12_method_8_code 9 = .ok (.aload_n 0, 1) := by decide +kernel
theorem d_Text_find_10 : decode prog_12_method_8_code 10 = .ok (.iload 4, 2) := by decide +kernel
theorem d_Text_find_12 : decode prog_12_method_8_code 12 = .ok (.invokevirtual 21, 3) := by decide +kernel
theorem d_Text_find_15 : decode prog_12_method_8_code 15 = .ok (.iload_n 1, 1) := by decide +kernel
theorem d_Text_find_16 : decode prog_12_method_8_code 16 = .ok (.if_icmp .ne (6), 3) := by decide +kernel
theorem d_Text_find_19 : decode prog_12_method_8_code 19 = .ok (.iload 4, 2) := by decide +kernel
theorem d_Text_find_21 : decode prog_12_method_8_code 21 = .ok (.ireturn, 1) := by decide +kernel
theorem d_Text_find_22 : decode prog_12_method_8_code 22 = .ok (.iinc 4 (1), 3) := by decide +kernel
theorem d_Text_find_25 : decode prog_12_method_8_code 25 = .ok (.goto (-22), 3) := by decide +kernel
theorem d_Text_find_28 : decode prog_12_method_8_code 28 = .ok (.iload_n 3, 1) := by decide +kernel
theorem d_Text_find_29 : decode prog_12_method_8_code 29 = .ok (.ireturn, 1) := by decide +kernel
def x_Text_find_3 (o1 : Nat) (a2 : Int32) (a3 : Int32) (a4 : Int32) (σ : St) : Nat → Int32 → Option Int32
  | 0, _ => none
  | n + 1, l4 => (if a4 ≤ l4 then some a4 else (Option.bind (x_Bytes_get o1 l4 σ) (fun r12 => (if r12 = a2 then some l4 else (x_let (l4 + (1 : Int32)) (fun (v22 : Int32) => x_Text_find_3 o1 a2 a3 a4 σ n v22))))))
def x_Text_find (o1 : Nat) (a2 : Int32) (a3 : Int32) (a4 : Int32) (σ : St) : Option Int32 := x_Text_find_3 o1 a2 a3 a4 σ x_fuel a3
abbrev rm_Text_find : Room := { frames := 1, cells := 0, slots := 0, locals := 21 }
set_option maxHeartbeats 4000000 in
set_option maxRecDepth 100000 in
theorem t_Text_find (l : Launch) (G : xG) (σ : St) (o1 : Nat) (a2 : Int32) (a3 : Int32) (a4 : Int32) (ho1 : xB o1) (r : Int32) (hE : x_Text_find o1 a2 a3 a4 σ = some r) : Met l y_Text_find (ws_Text_find) rm_Text_find (xP G σ [.ref (G.2.1 o1), .int a2, .int a3, .int a4]) (xRd (some (.int r))) 0 0 (fun _ => False) := by
  refine Met.ofW (cc := prog_12_method_8_code) (maxL := 5) (ret := (some .int)) (by decide) rfl ?_
  intro p e s m args below meth c s₁ B hml hv
  obtain ⟨rfl, hw, hC⟩ := hv
  have hx := B.exec
  have hb := B.bytes
  have hr := B.returns
  have hu : ∀ w ∈ UW, w.before _ s = true := fun w h => atoms_spec B.pre w (List.mem_cons_of_mem _ h)
  have hown : s.vm.findClass R_Text = some m.cls := findClass_of_methodNamed B.named
  have hlocks := B.notSynchronized
  have hK := hC.1
  have hI := hC.2.1
  have hG := hC.2.2.1
  have hN := hC.2.2.2
  have hS : va_S (xA G) s.heap s.heap [] := va_S.rf
  have jn3 : ∀ (n : Nat) (ls : Array Slot) (l4 : Int32), x_Text_find_3 o1 a2 a3 a4 σ n l4 = some r → lv_has ls 5 [(0, .ref (G.2.1 o1)), (1, .int a2), (2, .int a3), (3, .int a4), (4, .int l4)] → W p l e (headSpec (ws_Text_find) rm_Text_find).room s m ([.ref (G.2.1 o1), .int a2, .int a3, .int a4] : List Value).toArray below meth c s.heap [] 0 0 (MQ below (xRd (some (.int r))) ([.ref (G.2.1 o1), .int a2, .int a3, .int a4] : List Value).toArray s 0 0 (fun _ => False)) (F0 m 3 ls []) := by
    intro n
    induction n with
    | zero => intro ls l4 hE; rw [x_Text_find_3] at hE; cases hE
    | succ n ih =>
      intro ls l4 hE hl
      rw [x_Text_find_3] at hE
      refine lv_iload hx hb d_Text_find_3 (lv_at hl 4 rfl) ?_
      refine lv_iload_n hx hb d_Text_find_5 rfl (lv_at hl 3 rfl) ?_
      refine lv_icmp_ge (tgt := 28) hx hb d_Text_find_6 (by decide) (fun hc6 => ?_) (fun hc6 => ?_)
      · rw [if_pos hc6] at hE
        refine lv_iload_n hx hb d_Text_find_28 rfl (lv_at hl 3 rfl) ?_
        exact W.iret (v := a4) hx hb hr (fun t ht hW => ⟨by rw [Option.some.inj hE], ht⟩) (fun q h => by cases h) d_Text_find_29
      · rw [if_neg hc6] at hE
        refine lv_aload_n hx hb d_Text_find_9 rfl (lv_at hl 0 rfl) ?_
        refine lv_iload hx hb d_Text_find_10 (lv_at hl 4 rfl) ?_
        obtain ⟨r12, hC12, hE⟩ := x_bind hE
        refine x_callR (W.runV (As := [.int l4]) (rest := []) ⟨hx, hb, hml, hown, hu⟩ (t_Bytes_get l G σ o1 l4 ho1 r12 hC12) (cwV 1 hu (uw_V mw_539 mw_540 mw_541 mw_63 mw_542) rfl rfl rfl hd_Bytes_get ⟨Nat.le_of_ble_eq_true rfl, Nat.le_of_ble_eq_true rfl⟩) (x_preV hC hS hw (va_recv hK hw (q := (R_Bytes, T_Bytes, 2)) (ci := 0) rfl (x_at (xB_lt ho1) (xcl_B G σ (xB_s ho1))))) rfl rfl hl.1 rfl (lv_room (Nat.le_of_ble_eq_true rfl)) d_Text_find_12 ⟨Nat.le_of_ble_eq_true rfl, Nat.le_of_ble_eq_true rfl⟩) ?_
        refine lv_iload_n hx hb d_Text_find_15 rfl (lv_at hl 1 rfl) ?_
        refine lv_icmp_ne (tgt := 22) hx hb d_Text_find_16 (by decide) (fun hc16 => ?_) (fun hc16 => ?_)
        · rw [if_neg hc16] at hE
          obtain ⟨v22, e22, hE⟩ := x_letE hE
          refine lv_iinc hx hb d_Text_find_22 hl (k := 4) rfl (x_inc v22 e22 (by decide)) (by decide) rfl (fun ls hl => ?_)
          have hl : lv_has ls 5 [(4, .int v22), (0, .ref (G.2.1 o1)), (1, .int a2), (2, .int a3), (3, .int a4)] := hl
          refine lv_goto (tgt := 3) hx hb d_Text_find_25 (by decide) ?_
          exact ih _ _ hE (lv_sub hl [1, 2, 3, 4, 0] rfl)
        · rw [if_pos hc16] at hE
          refine lv_iload hx hb d_Text_find_19 (lv_at hl 4 rfl) ?_
          exact W.iret (v := l4) hx hb hr (fun t ht hW => ⟨by rw [Option.some.inj hE], ht⟩) (fun q h => by cases h) d_Text_find_21
  have hl := lv_entry ([.ref (G.2.1 o1), .int a2, .int a3, .int a4]) (n := 5) (Nat.le_of_ble_eq_true rfl)
  rw [lg_entry_eq]
  generalize (lg_sl ([.ref (G.2.1 o1), .int a2, .int a3, .int a4]) ++ List.replicate (5 - (lg_sl ([.ref (G.2.1 o1), .int a2, .int a3, .int a4])).length) Slot.unset).toArray = ls at hl ⊢
  have hl : lv_has ls 5 [(0, .ref (G.2.1 o1)), (1, .int a2), (2, .int a3), (3, .int a4)] := hl
  unfold x_Text_find at hE
  refine lv_iload_n hx hb d_Text_find_0 rfl (lv_at hl 2 rfl) ?_
  refine lv_istore hx hb d_Text_find_1 hl (by decide) rfl (fun ls hl => ?_)
  have hl : lv_has ls 5 [(4, .int a3), (0, .ref (G.2.1 o1)), (1, .int a2), (2, .int a3), (3, .int a4)] := hl
  exact jn3 x_fuel _ _ hE (lv_sub hl [1, 2, 3, 4, 0] rfl)

def y_Text_skipBlanks : MethodName := ⟨"PlainOrigin$Text", "skipBlanks", "(LPlainOrigin$Bytes;II)I"⟩
def ws_Text_skipBlanks : List Cond := Cond.code y_Text_skipBlanks prog_12_method_9_code 4 (some .int) :: UW
theorem hd_Text_skipBlanks : y_Text_skipBlanks.cls ≠ "java/lang/invoke/MethodHandle" ∧ y_Text_skipBlanks.cls ≠ "java/lang/invoke/VarHandle" ∧ (parseMethodDescriptor y_Text_skipBlanks.desc).map (fun d => d.parameters.length) = some 3 := by decide +kernel
theorem d_Text_skipBlanks_0 : decode prog_12_method_9_code 0 = .ok (.iload_n 1, 1) := by decide +kernel
theorem d_Text_skipBlanks_1 : decode prog_12_method_9_code 1 = .ok (.istore_n 3, 1) := by decide +kernel
theorem d_Text_skipBlanks_2 : decode prog_12_method_9_code 2 = .ok (.iload_n 3, 1) := by decide +kernel
theorem d_Text_skipBlanks_3 : decode prog_12_method_9_code 3 = .ok (.iload_n 2, 1) := by decide +kernel
theorem d_Text_skipBlanks_4 : decode prog_12_method_9_code 4 = .ok (.if_icmp .ge (22), 3) := by decide +kernel
theorem d_Text_skipBlanks_7 : decode prog_12_method_9_code 7 = .ok (.aload_n 0, 1) := by decide +kernel
theorem d_Text_skipBlanks_8 : decode prog_12_method_9_code 8 = .ok (.iload_n 3, 1) := by decide +kernel
theorem d_Text_skipBlanks_9 : decode prog_12_method_9_code 9 = .ok (.invokevirtual 21, 3) := by decide +kernel
theorem d_Text_skipBlanks_12 : decode prog_12_method_9_code 12 = .ok (.invokestatic 26, 3) := by decide +kernel
theorem d_Text_skipBlanks_15 : decode prog_12_method_9_code 15 = .ok (.ifCond .ne (5), 3) := by decide +kernel
theorem d_Text_skipBlanks_18 : decode prog_12_method_9_code 18 = .ok (.iload_n 3, 1) := by decide +kernel
theorem d_Text_skipBlanks_19 : decode prog_12_method_9_code 19 = .ok (.ireturn, 1) := by decide +kernel
theorem d_Text_skipBlanks_20 : decode prog_12_method_9_code 20 = .ok (.iinc 3 (1), 3) := by decide +kernel
theorem d_Text_skipBlanks_23 : decode prog_12_method_9_code 23 = .ok (.goto (-21), 3) := by decide +kernel
theorem d_Text_skipBlanks_26 : decode prog_12_method_9_code 26 = .ok (.iload_n 2, 1) := by decide +kernel
theorem d_Text_skipBlanks_27 : decode prog_12_method_9_code 27 = .ok (.ireturn, 1) := by decide +kernel
def x_Text_skipBlanks_2 (o1 : Nat) (a2 : Int32) (a3 : Int32) (σ : St) : Nat → Int32 → Option Int32
  | 0, _ => none
  | n + 1, l3 => (if a3 ≤ l3 then some a3 else (Option.bind (x_Bytes_get o1 l3 σ) (fun r9 => (Option.bind (x_Text_isBlank r9) (fun r12 => (if r12 = 0 then some l3 else (x_let (l3 + (1 : Int32)) (fun (v20 : Int32) => x_Text_skipBlanks_2 o1 a2 a3 σ n v20))))))))
def x_Text_skipBlanks (o1 : Nat) (a2 : Int32) (a3 : Int32) (σ : St) : Option Int32 := x_Text_skipBlanks_2 o1 a2 a3 σ x_fuel a2
abbrev rm_Text_skipBlanks : Room := { frames := 1, cells := 0, slots := 0, locals := 21 }
set_option maxHeartbeats 4000000 in
set_option maxRecDepth 100000 in
theorem t_Text_skipBlanks (l : Launch) (G : xG) (σ : St) (o1 : Nat) (a2 : Int32) (a3 : Int32) (ho1 : xB o1) (r : Int32) (hE : x_Text_skipBlanks o1 a2 a3 σ = some r) : Met l y_Text_skipBlanks (ws_Text_skipBlanks) rm_Text_skipBlanks (xP G σ [.ref (G.2.1 o1), .int a2, .int a3]) (xRd (some (.int r))) 0 0 (fun _ => False) := by
  refine Met.ofW (cc := prog_12_method_9_code) (maxL := 4) (ret := (some .int)) (by decide) rfl ?_
  intro p e s m args below meth c s₁ B hml hv
  obtain ⟨rfl, hw, hC⟩ := hv
  have hx := B.exec
  have hb := B.bytes
  have hr := B.returns
  have hu : ∀ w ∈ UW, w.before _ s = true := fun w h => atoms_spec B.pre w (List.mem_cons_of_mem _ h)
  have hown : s.vm.findClass R_Text = some m.cls := findClass_of_methodNamed B.named
  have hlocks := B.notSynchronized
  have hK := hC.1
  have hI := hC.2.1
  have hG := hC.2.2.1
  have hN := hC.2.2.2
  have hS : va_S (xA G) s.heap s.heap [] := va_S.rf
  have jn2 : ∀ (n : Nat) (ls : Array Slot) (l3 : Int32), x_Text_skipBlanks_2 o1 a2 a3 σ n l3 = some r → lv_has ls 4 [(0, .ref (G.2.1 o1)), (1, .int a2), (2, .int a3), (3, .int l3)] → W p l e (headSpec (ws_Text_skipBlanks) rm_Text_skipBlanks).room s m ([.ref (G.2.1 o1), .int a2, .int a3] : List Value).toArray below meth c s.heap [] 0 0 (MQ below (xRd (some (.int r))) ([.ref (G.2.1 o1), .int a2, .int a3] : List Value).toArray s 0 0 (fun _ => False)) (F0 m 2 ls []) := by
    intro n
    induction n with
    | zero => intro ls l3 hE; rw [x_Text_skipBlanks_2] at hE; cases hE
    | succ n ih =>
      intro ls l3 hE hl
      rw [x_Text_skipBlanks_2] at hE
      refine lv_iload_n hx hb d_Text_skipBlanks_2 rfl (lv_at hl 3 rfl) ?_
      refine lv_iload_n hx hb d_Text_skipBlanks_3 rfl (lv_at hl 2 rfl) ?_
      refine lv_icmp_ge (tgt := 26) hx hb d_Text_skipBlanks_4 (by decide) (fun hc4 => ?_) (fun hc4 => ?_)
      · rw [if_pos hc4] at hE
        refine lv_iload_n hx hb d_Text_skipBlanks_26 rfl (lv_at hl 2 rfl) ?_
        exact W.iret (v := a3) hx hb hr (fun t ht hW => ⟨by rw [Option.some.inj hE], ht⟩) (fun q h => by cases h) d_Text_skipBlanks_27
      · rw [if_neg hc4] at hE
        refine lv_aload_n hx hb d_Text_skipBlanks_7 rfl (lv_at hl 0 rfl) ?_
        refine lv_iload_n hx hb d_Text_skipBlanks_8 rfl (lv_at hl 3 rfl) ?_
        obtain ⟨r9, hC9, hE⟩ := x_bind hE
        refine x_callR (W.runV (As := [.int l3]) (rest := []) ⟨hx, hb, hml, hown, hu⟩ (t_Bytes_get l G σ o1 l3 ho1 r9 hC9) (cwV 1 hu (uw_V mw_539 mw_540 mw_541 mw_63 mw_542) rfl rfl rfl hd_Bytes_get ⟨Nat.le_of_ble_eq_true rfl, Nat.le_of_ble_eq_true rfl⟩) (x_preV hC hS hw (va_recv hK hw (q := (R_Bytes, T_Bytes, 2)) (ci := 0) rfl (x_at (xB_lt ho1) (xcl_B G σ (xB_s ho1))))) rfl rfl hl.1 rfl (lv_room (Nat.le_of_ble_eq_true rfl)) d_Text_skipBlanks_9 ⟨Nat.le_of_ble_eq_true rfl, Nat.le_of_ble_eq_true rfl⟩) ?_
        obtain ⟨r12, hC12, hE⟩ := x_bind hE
        refine x_callR (W.runS (As := [.int r9]) (rest := []) ⟨hx, hb, hml, hown, hu⟩ (t_Text_isBlank l G σ r9 r12 hC12) (va_cwS 1 hu (uw_S mw_718 mw_719 mw_75 mw_720) rfl rfl rfl hd_Text_isBlank ⟨Nat.le_of_ble_eq_true rfl, Nat.le_of_ble_eq_true rfl⟩) (x_preS hC hS hw) rfl rfl hl.1 rfl (lv_room (Nat.le_of_ble_eq_true rfl)) d_Text_skipBlanks_12 ⟨Nat.le_of_ble_eq_true rfl, Nat.le_of_ble_eq_true rfl⟩) ?_
        refine lv_if_ne (tgt := 20) hx hb d_Text_skipBlanks_15 (by decide) (fun hc15 => ?_) (fun hc15 => ?_)
        · rw [if_neg hc15] at hE
          obtain ⟨v20, e20, hE⟩ := x_letE hE
          refine lv_iinc hx hb d_Text_skipBlanks_20 hl (k := 3) rfl (x_inc v20 e20 (by decide)) (by decide) rfl (fun ls hl => ?_)
          have hl : lv_has ls 4 [(3, .int v20), (0, .ref (G.2.1 o1)), (1, .int a2), (2, .int a3)] := hl
          refine lv_goto (tgt := 2) hx hb d_Text_skipBlanks_23 (by decide) ?_
          exact ih _ _ hE (lv_sub hl [1, 2, 3, 0] rfl)
        · rw [if_pos hc15] at hE
          refine lv_iload_n hx hb d_Text_skipBlanks_18 rfl (lv_at hl 3 rfl) ?_
          exact W.iret (v := l3) hx hb hr (fun t ht hW => ⟨by rw [Option.some.inj hE], ht⟩) (fun q h => by cases h) d_Text_skipBlanks_19
  have hl := lv_entry ([.ref (G.2.1 o1), .int a2, .int a3]) (n := 4) (Nat.le_of_ble_eq_true rfl)
  rw [lg_entry_eq]
  generalize (lg_sl ([.ref (G.2.1 o1), .int a2, .int a3]) ++ List.replicate (4 - (lg_sl ([.ref (G.2.1 o1), .int a2, .int a3])).length) Slot.unset).toArray = ls at hl ⊢
  have hl : lv_has ls 4 [(0, .ref (G.2.1 o1)), (1, .int a2), (2, .int a3)] := hl
  unfold x_Text_skipBlanks at hE
  refine lv_iload_n hx hb d_Text_skipBlanks_0 rfl (lv_at hl 1 rfl) ?_
  refine lv_istore_n hx hb d_Text_skipBlanks_1 rfl hl (by decide) rfl (fun ls hl => ?_)
  have hl : lv_has ls 4 [(3, .int a2), (0, .ref (G.2.1 o1)), (1, .int a2), (2, .int a3)] := hl
  exact jn2 x_fuel _ _ hE (lv_sub hl [1, 2, 3, 0] rfl)

def y_Text_dropBlanks : MethodName := ⟨"PlainOrigin$Text", "dropBlanks", "(LPlainOrigin$Bytes;II)I"⟩
def ws_Text_dropBlanks : List Cond := Cond.code y_Text_dropBlanks prog_12_method_10_code 4 (some .int) :: UW
theorem hd_Text_dropBlanks : y_Text_dropBlanks.cls ≠ "java/lang/invoke/MethodHandle" ∧ y_Text_dropBlanks.cls ≠ "java/lang/invoke/VarHandle" ∧ (parseMethodDescriptor y_Text_dropBlanks.desc).map (fun d => d.parameters.length) = some 3 := by decide +kernel
theorem d_Text_dropBlanks_0 : decode prog_12_method_10_code 0 = .ok (.iload_n 2, 1) := by decide +kernel
theorem d_Text_dropBlanks_1 : decode prog_12_method_10_code 1 = .ok (.istore_n 3, 1) := by decide +kernel
theorem d_Text_dropBlanks_2 : decode prog_12_method_10_code 2 = .ok (.iload_n 3, 1) := by decide +kernel
theorem d_Text_dropBlanks_3 : decode prog_12_method_10_code 3 = .ok (.iload_n 1, 1) := by decide +kernel
theorem d_Text_dropBlanks_4 : decode prog_12_method_10_code 4 = .ok (.if_icmp .le (24), 3) := by decide +kernel
theorem d_Text_dropBlanks_7 : decode prog_12_method_10_code 7 = .ok (.aload_n 0, 1) := by decide +kernel
theorem d_Text_dropBlanks_8 : decode prog_12_method_10_code 8 = .ok (.iload_n 3, 1) := by decide +kernel
theorem d_Text_dropBlanks_9 : decode prog_12_method_10_code 9 = .ok (.iconst 1, 1) := by decide +kernel
theorem d_Text_dropBlanks_10 : decode prog_12_method_10_code 10 = .ok (.isub, 1) := by decide +kernel
theorem d_Text_dropBlanks_11 : decode prog_12_method_10_code 11 = .ok (.invokevirtual 21, 3) := by decide +kernel
theorem d_Text_dropBlanks_14 : decode prog_12_method_10_code 14 = .ok (.invokestatic 26, 3) := by decide +kernel
theorem d_Text_dropBlanks_17 : decode prog_12_method_10_code 17 = .ok (.ifCond .ne (5), 3) := by decide +kernel
theorem d_Text_dropBlanks_20 : decode prog_12_method_10_code 20 = .ok (.iload_n 3, 1) := by decide +kernel
theorem d_Text_dropBlanks_21 : decode prog_12_method_10_code 21 = .ok (.ireturn, 1) := by decide +kernel
theorem d_Text_dropBlanks_22 : decode prog_12_method_10_code 22 = .ok (.iinc 3 (-1), 3) := by decide +kernel
theorem d_Text_dropBlanks_25 : decode prog_12_method_10_code 25 = .ok (.goto (-23), 3) := by decide +kernel
theorem d_Text_dropBlanks_28 : decode prog_12_method_10_code 28 = .ok (.iload_n 1, 1) := by decide +kernel
theorem d_Text_dropBlanks_29 : decode prog_12_method_10_code 29 = .ok (.ireturn, 1) := by decide +kernel
def x_Text_dropBlanks_2 (o1 : Nat) (a2 : Int32) (a3 : Int32) (σ : St) : Nat → Int32 → Option Int32
  | 0, _ => none
  | n + 1, l3 => (if l3 ≤ a2 then some a2 else (Option.bind (x_Bytes_get o1 (l3 - (1 : Int32)) σ) (fun r11 => (Option.bind (x_Text_isBlank r11) (fun r14 => (if r14 = 0 then some l3 else (x_let (l3 + ((-1) : Int32)) (fun (v22 : Int32) => x_Text_dropBlanks_2 o1 a2 a3 σ n v22))))))))
def x_Text_dropBlanks (o1 : Nat) (a2 : Int32) (a3 : Int32) (σ : St) : Option Int32 := x_Text_dropBlanks_2 o1 a2 a3 σ x_fuel a3
abbrev rm_Text_dropBlanks : Room := { frames := 1, cells := 0, slots := 0, locals := 21 }
set_option maxHeartbeats 4000000 in
set_option maxRecDepth 100000 in
theorem t_Text_dropBlanks (l : Launch) (G : xG) (σ : St) (o1 : Nat) (a2 : Int32) (a3 : Int32) (ho1 : xB o1) (r : Int32) (hE : x_Text_dropBlanks o1 a2 a3 σ = some r) : Met l y_Text_dropBlanks (ws_Text_dropBlanks) rm_Text_dropBlanks (xP G σ [.ref (G.2.1 o1), .int a2, .int a3]) (xRd (some (.int r))) 0 0 (fun _ => False) := by
  refine Met.ofW (cc := prog_12_method_10_code) (maxL := 4) (ret := (some .int)) (by decide) rfl ?_
  intro p e s m args below meth c s₁ B hml hv
  obtain ⟨rfl, hw, hC⟩ := hv
  have hx := B.exec
  have hb := B.bytes
  have hr := B.returns
  have hu : ∀ w ∈ UW, w.before _ s = true := fun w h => atoms_spec B.pre w (List.mem_cons_of_mem _ h)
  have hown : s.vm.findClass R_Text = some m.cls := findClass_of_methodNamed B.named
  have hlocks := B.notSynchronized
  have hK := hC.1
  have hI := hC.2.1
  have hG := hC.2.2.1
  have hN := hC.2.2.2
  have hS : va_S (xA G) s.heap s.heap [] := va_S.rf
  have jn2 : ∀ (n : Nat) (ls : Array Slot) (l3 : Int32), x_Text_dropBlanks_2 o1 a2 a3 σ n l3 = some r → lv_has ls 4 [(0, .ref (G.2.1 o1)), (1, .int a2), (2, .int a3), (3, .int l3)] → W p l e (headSpec (ws_Text_dropBlanks) rm_Text_dropBlanks).room s m ([.ref (G.2.1 o1), .int a2, .int a3] : List Value).toArray below meth c s.heap [] 0 0 (MQ below (xRd (some (.int r))) ([.ref (G.2.1 o1), .int a2, .int a3] : List Value).toArray s 0 0 (fun _ => False)) (F0 m 2 ls []) := by
    intro n
    induction n with
    | zero => intro ls l3 hE; rw [x_Text_dropBlanks_2] at hE; cases hE
    | succ n ih =>
      intro ls l3 hE hl
      rw [x_Text_dropBlanks_2] at hE
      refine lv_iload_n hx hb d_Text_dropBlanks_2 rfl (lv_at hl 3 rfl) ?_
      refine lv_iload_n hx hb d_Text_dropBlanks_3 rfl (lv_at hl 1 rfl) ?_
      refine lv_icmp_le (tgt := 28) hx hb d_Text_dropBlanks_4 (by decide) (fun hc4 => ?_) (fun hc4 => ?_)
      · rw [if_pos hc4] at hE
        refine lv_iload_n hx hb d_Text_dropBlanks_28 rfl (lv_at hl 1 rfl) ?_
        exact W.iret (v := a2) hx hb hr (fun t ht hW => ⟨by rw [Option.some.inj hE], ht⟩) (fun q h => by cases h) d_Text_dropBlanks_29
      · rw [if_neg hc4] at hE
        refine lv_aload_n hx hb d_Text_dropBlanks_7 rfl (lv_at hl 0 rfl) ?_
        refine lv_iload_n hx hb d_Text_dropBlanks_8 rfl (lv_at hl 3 rfl) ?_
        refine lv_iconst (v := (1 : Int32)) hx hb d_Text_dropBlanks_9 (by decide) ?_
        refine lv_isub hx hb d_Text_dropBlanks_10 ?_
        obtain ⟨r11, hC11, hE⟩ := x_bind hE
        refine x_callR (W.runV (As := [.int (l3 - (1 : Int32))]) (rest := []) ⟨hx, hb, hml, hown, hu⟩ (t_Bytes_get l G σ o1 (l3 - (1 : Int32)) ho1 r11 hC11) (cwV 1 hu (uw_V mw_539 mw_540 mw_541 mw_63 mw_542) rfl rfl rfl hd_Bytes_get ⟨Nat.le_of_ble_eq_true rfl, Nat.le_of_ble_eq_true rfl⟩) (x_preV hC hS hw (va_recv hK hw (q := (R_Bytes, T_Bytes, 2)) (ci := 0) rfl (x_at (xB_lt ho1) (xcl_B G σ (xB_s ho1))))) rfl rfl hl.1 rfl (lv_room (Nat.le_of_ble_eq_true rfl)) d_Text_dropBlanks_11 ⟨Nat.le_of_ble_eq_true rfl, Nat.le_of_ble_eq_true rfl⟩) ?_
        obtain ⟨r14, hC14, hE⟩ := x_bind hE
        refine x_callR (W.runS (As := [.int r11]) (rest := []) ⟨hx, hb, hml, hown, hu⟩ (t_Text_isBlank l G σ r11 r14 hC14) (va_cwS 1 hu (uw_S mw_718 mw_719 mw_75 mw_720) rfl rfl rfl hd_Text_isBlank ⟨Nat.le_of_ble_eq_true rfl, Nat.le_of_ble_eq_true rfl⟩) (x_preS hC hS hw) rfl rfl hl.1 rfl (lv_room (Nat.le_of_ble_eq_true rfl)) d_Text_dropBlanks_14 ⟨Nat.le_of_ble_eq_true rfl, Nat.le_of_ble_eq_true rfl⟩) ?_
        refine lv_if_ne (tgt := 22) hx hb d_Text_dropBlanks_17 (by decide) (fun hc17 => ?_) (fun hc17 => ?_)
        · rw [if_neg hc17] at hE
          obtain ⟨v22, e22, hE⟩ := x_letE hE
          refine lv_iinc hx hb d_Text_dropBlanks_22 hl (k := 3) rfl (x_inc v22 e22 (by decide)) (by decide) rfl (fun ls hl => ?_)
          have hl : lv_has ls 4 [(3, .int v22), (0, .ref (G.2.1 o1)), (1, .int a2), (2, .int a3)] := hl
          refine lv_goto (tgt := 2) hx hb d_Text_dropBlanks_25 (by decide) ?_
          exact ih _ _ hE (lv_sub hl [1, 2, 3, 0] rfl)
        · rw [if_pos hc17] at hE
          refine lv_iload_n hx hb d_Text_dropBlanks_20 rfl (lv_at hl 3 rfl) ?_
          exact W.iret (v := l3) hx hb hr (fun t ht hW => ⟨by rw [Option.some.inj hE], ht⟩) (fun q h => by cases h) d_Text_dropBlanks_21
  have hl := lv_entry ([.ref (G.2.1 o1), .int a2, .int a3]) (n := 4) (Nat.le_of_ble_eq_true rfl)
  rw [lg_entry_eq]
  generalize (lg_sl ([.ref (G.2.1 o1), .int a2, .int a3]) ++ List.replicate (4 - (lg_sl ([.ref (G.2.1 o1), .int a2, .int a3])).length) Slot.unset).toArray = ls at hl ⊢
  have hl : lv_has ls 4 [(0, .ref (G.2.1 o1)), (1, .int a2), (2, .int a3)] := hl
  unfold x_Text_dropBlanks at hE
  refine lv_iload_n hx hb d_Text_dropBlanks_0 rfl (lv_at hl 2 rfl) ?_
  refine lv_istore_n hx hb d_Text_dropBlanks_1 rfl hl (by decide) rfl (fun ls hl => ?_)
  have hl : lv_has ls 4 [(3, .int a3), (0, .ref (G.2.1 o1)), (1, .int a2), (2, .int a3)] := hl
  exact jn2 x_fuel _ _ hE (lv_sub hl [1, 2, 3, 0] rfl)

def y_Text_isEscape : MethodName := ⟨"PlainOrigin$Text", "isEscape", "(LPlainOrigin$Bytes;II)Z"⟩
def ws_Text_isEscape : List Cond := Cond.code y_Text_isEscape prog_12_method_15_code 3 (some .boolean) :: UW
theorem hd_Text_isEscape : y_Text_isEscape.cls ≠ "java/lang/invoke/MethodHandle" ∧ y_Text_isEscape.cls ≠ "java/lang/invoke/VarHandle" ∧ (parseMethodDescriptor y_Text_isEscape.desc).map (fun d => d.parameters.length) = some 3 := by decide +kernel
theorem d_Text_isEscape_0 : decode prog_12_method_15_code 0 = .ok (.iload_n 1, 1) := by decide +kernel
theorem d_Text_isEscape_1 : decode prog_12_method_15_code 1 = .ok (.iconst 2, 1) := by decide +kernel
theorem d_Text_isEscape_2 : decode prog_12_method_15_code 2 = .ok (.iadd, 1) := by decide +kernel
theorem d_Text_isEscape_3 : decode prog_12_method_15_code 3 = .ok (.iload_n 2, 1) := by decide +kernel
theorem d_Text_isEscape_4 : decode prog_12_method_15_code 4 = .ok (.if_icmp .ge (35), 3) := by decide +kernel
theorem d_Text_isEscape_7 : decode prog_12_method_15_code 7 = .ok (.aload_n 0, 1) := by decide +kernel
theorem d_Text_isEscape_8 : decode prog_12_method_15_code 8 = .ok (.iload_n 1, 1) := by decide +kernel
theorem d_Text_isEscape_9 : decode prog_12_method_15_code 9 = .ok (.iconst 1, 1) := by decide +kernel
theorem d_Text_isEscape_10 : decode prog_12_method_15_code 10 = .ok (.iadd, 1) := by decide +kernel
theorem d_Text_isEscape_11 : decode prog_12_method_15_code 11 = .ok (.invokevirtual 21, 3) := by decide +kernel
theorem d_Text_isEscape_14 : decode prog_12_method_15_code 14 = .ok (.invokestatic 52, 3) := by decide +kernel
theorem d_Text_isEscape_17 : decode prog_12_method_15_code 17 = .ok (.iconst (-1), 1) := by decide +kernel
theorem d_Text_isEscape_18 : decode prog_12_method_15_code 18 = .ok (.if_icmp .eq (21), 3) := by decide +kernel
theorem d_Text_isEscape_21 : decode prog_12_method_15_code 21 = .ok (.aload_n 0, 1) := by decide +kernel
theorem d_Text_isEscape_22 : decode prog_12_method_15_code 22 = .ok (.iload_n 1, 1) := by decide +kernel
theorem d_Text_isEscape_23 : decode prog_12_method_15_code 23 = .ok (.iconst 2, 1) := by decide +kernel
theorem d_Text_isEscape_24 : decode prog_12_method_15_code 24 = .ok (.iadd, 1) := by decide +kernel
theorem d_Text_isEscape_25 : decode prog_12_method_15_code 25 = .ok (.invokevirtual 21, 3) := by decide +kernel
theorem d_Text_isEscape_28 : decode prog_12_method_15_code 28 = .ok (.invokestatic 52, 3) := by decide +kernel
theorem d_Text_isEscape_31 : decode prog_12_method_15_code 31 = .ok (.iconst (-1), 1) := by decide +kernel
theorem d_Text_isEscape_32 : decode prog_12_method_15_code 32 = .ok (.if_icmp .eq (7), 3) := by decide +kernel
theorem d_Text_isEscape_35 : decode prog_12_method_15_code 35 = .ok (.iconst 1, 1) := by decide +kernel
theorem d_Text_isEscape_36 : decode prog_12_method_15_code 36 = .ok (.goto (4), 3) := by decide +kernel
theorem d_Text_isEscape_39 : decode prog_12_method_15_code 39 = .ok (.iconst 0, 1) := by decide +kernel
theorem d_Text_isEscape_40 : decode prog_12_method_15_code 40 = .ok (.ireturn, 1) := by decide +kernel
def x_Text_isEscape (o1 : Nat) (a2 : Int32) (a3 : Int32) (σ : St) : Option Int32 := (if a3 ≤ (a2 + (2 : Int32)) then some (0 : Int32) else (Option.bind (x_Bytes_get o1 (a2 + (1 : Int32)) σ) (fun r11 => (Option.bind (x_Text_hexDigit r11) (fun r14 => (if r14 = ((-1) : Int32) then some (0 : Int32) else (Option.bind (x_Bytes_get o1 (a2 + (2 : Int32)) σ) (fun r25 => (Option.bind (x_Text_hexDigit r25) (fun r28 => (if r28 = ((-1) : Int32) then some (0 : Int32) else some (1 : Int32))))))))))))
abbrev rm_Text_isEscape : Room := { frames := 1, cells := 0, slots := 0, locals := 21 }
set_option maxHeartbeats 4000000 in
set_option maxRecDepth 100000 in
theorem t_Text_isEscape (l : Launch) (G : xG) (σ : St) (o1 : Nat) (a2 : Int32) (a3 : Int32) (ho1 : xB o1) (r : Int32) (hE : x_Text_isEscape o1 a2 a3 σ = some r) : Met l y_Text_isEscape (ws_Text_isEscape) rm_Text_isEscape (xP G σ [.ref (G.2.1 o1), .int a2, .int a3]) (xRd (some (.int r))) 0 0 (fun _ => False) := by
  refine Met.ofW (cc := prog_12_method_15_code) (maxL := 3) (ret := (some .boolean)) (by decide) rfl ?_
  intro p e s m args below meth c s₁ B hml hv
  obtain ⟨rfl, hw, hC⟩ := hv
  have hx := B.exec
  have hb := B.bytes
  have hr := B.returns
  have hu : ∀ w ∈ UW, w.before _ s = true := fun w h => atoms_spec B.pre w (List.mem_cons_of_mem _ h)
  have hown : s.vm.findClass R_Text = some m.cls := findClass_of_methodNamed B.named
  have hlocks := B.notSynchronized
  have hK := hC.1
  have hI := hC.2.1
  have hG := hC.2.2.1
  have hN := hC.2.2.2
  have hS : va_S (xA G) s.heap s.heap [] := va_S.rf
  have hl := lv_entry ([.ref (G.2.1 o1), .int a2, .int a3]) (n := 3) (Nat.le_of_ble_eq_true rfl)
  rw [lg_entry_eq]
  generalize (lg_sl ([.ref (G.2.1 o1), .int a2, .int a3]) ++ List.replicate (3 - (lg_sl ([.ref (G.2.1 o1), .int a2, .int a3])).length) Slot.unset).toArray = ls at hl ⊢
  have hl : lv_has ls 3 [(0, .ref (G.2.1 o1)), (1, .int a2), (2, .int a3)] := hl
  unfold x_Text_isEscape at hE
  refine lv_iload_n hx hb d_Text_isEscape_0 rfl (lv_at hl 1 rfl) ?_
  refine lv_iconst (v := (2 : Int32)) hx hb d_Text_isEscape_1 (by decide) ?_
  refine lv_iadd hx hb d_Text_isEscape_2 ?_
  refine lv_iload_n hx hb d_Text_isEscape_3 rfl (lv_at hl 2 rfl) ?_
  refine lv_icmp_ge (tgt := 39) hx hb d_Text_isEscape_4 (by decide) (fun hc4 => ?_) (fun hc4 => ?_)
  · rw [if_pos hc4] at hE
    refine lv_iconst (v := (0 : Int32)) hx hb d_Text_isEscape_39 (by decide) ?_
    exact W.zret (v := (0 : Int32)) hx hb hr rfl (fun t ht hW => ⟨by rw [Option.some.inj hE], ht⟩) (fun q h => by cases h) d_Text_isEscape_40
  · rw [if_neg hc4] at hE
    refine lv_aload_n hx hb d_Text_isEscape_7 rfl (lv_at hl 0 rfl) ?_
    refine lv_iload_n hx hb d_Text_isEscape_8 rfl (lv_at hl 1 rfl) ?_
    refine lv_iconst (v := (1 : Int32)) hx hb d_Text_isEscape_9 (by decide) ?_
    refine lv_iadd hx hb d_Text_isEscape_10 ?_
    obtain ⟨r11, hC11, hE⟩ := x_bind hE
    refine x_callR (W.runV (As := [.int (a2 + (1 : Int32))]) (rest := []) ⟨hx, hb, hml, hown, hu⟩ (t_Bytes_get l G σ o1 (a2 + (1 : Int32)) ho1 r11 hC11) (cwV 1 hu (uw_V mw_539 mw_540 mw_541 mw_63 mw_542) rfl rfl rfl hd_Bytes_get ⟨Nat.le_of_ble_eq_true rfl, Nat.le_of_ble_eq_true rfl⟩) (x_preV hC hS hw (va_recv hK hw (q := (R_Bytes, T_Bytes, 2)) (ci := 0) rfl (x_at (xB_lt ho1) (xcl_B G σ (xB_s ho1))))) rfl rfl hl.1 rfl (lv_room (Nat.le_of_ble_eq_true rfl)) d_Text_isEscape_11 ⟨Nat.le_of_ble_eq_true rfl, Nat.le_of_ble_eq_true rfl⟩) ?_
    obtain ⟨r14, hC14, hE⟩ := x_bind hE
    refine x_callR (W.runS (As := [.int r11]) (rest := []) ⟨hx, hb, hml, hown, hu⟩ (t_Text_hexDigit l G σ r11 r14 hC14) (va_cwS 1 hu (uw_S mw_673 mw_674 mw_75 mw_675) rfl rfl rfl hd_Text_hexDigit ⟨Nat.le_of_ble_eq_true rfl, Nat.le_of_ble_eq_true rfl⟩) (x_preS hC hS hw) rfl rfl hl.1 rfl (lv_room (Nat.le_of_ble_eq_true rfl)) d_Text_isEscape_14 ⟨Nat.le_of_ble_eq_true rfl, Nat.le_of_ble_eq_true rfl⟩) ?_
    refine lv_iconst (v := ((-1) : Int32)) hx hb d_Text_isEscape_17 (by decide) ?_
    refine lv_icmp_eq (tgt := 39) hx hb d_Text_isEscape_18 (by decide) (fun hc18 => ?_) (fun hc18 => ?_)
    · rw [if_pos hc18] at hE
      refine lv_iconst (v := (0 : Int32)) hx hb d_Text_isEscape_39 (by decide) ?_
      exact W.zret (v := (0 : Int32)) hx hb hr rfl (fun t ht hW => ⟨by rw [Option.some.inj hE], ht⟩) (fun q h => by cases h) d_Text_isEscape_40
    · rw [if_neg hc18] at hE
      refine lv_aload_n hx hb d_Text_isEscape_21 rfl (lv_at hl 0 rfl) ?_
      refine lv_iload_n hx hb d_Text_isEscape_22 rfl (lv_at hl 1 rfl) ?_
      refine lv_iconst (v := (2 : Int32)) hx hb d_Text_isEscape_23 (by decide) ?_
      refine lv_iadd hx hb d_Text_isEscape_24 ?_
      obtain ⟨r25, hC25, hE⟩ := x_bind hE
      refine x_callR (W.runV (As := [.int (a2 + (2 : Int32))]) (rest := []) ⟨hx, hb, hml, hown, hu⟩ (t_Bytes_get l G σ o1 (a2 + (2 : Int32)) ho1 r25 hC25) (cwV 1 hu (uw_V mw_539 mw_540 mw_541 mw_63 mw_542) rfl rfl rfl hd_Bytes_get ⟨Nat.le_of_ble_eq_true rfl, Nat.le_of_ble_eq_true rfl⟩) (x_preV hC hS hw (va_recv hK hw (q := (R_Bytes, T_Bytes, 2)) (ci := 0) rfl (x_at (xB_lt ho1) (xcl_B G σ (xB_s ho1))))) rfl rfl hl.1 rfl (lv_room (Nat.le_of_ble_eq_true rfl)) d_Text_isEscape_25 ⟨Nat.le_of_ble_eq_true rfl, Nat.le_of_ble_eq_true rfl⟩) ?_
      obtain ⟨r28, hC28, hE⟩ := x_bind hE
      refine x_callR (W.runS (As := [.int r25]) (rest := []) ⟨hx, hb, hml, hown, hu⟩ (t_Text_hexDigit l G σ r25 r28 hC28) (va_cwS 1 hu (uw_S mw_673 mw_674 mw_75 mw_675) rfl rfl rfl hd_Text_hexDigit ⟨Nat.le_of_ble_eq_true rfl, Nat.le_of_ble_eq_true rfl⟩) (x_preS hC hS hw) rfl rfl hl.1 rfl (lv_room (Nat.le_of_ble_eq_true rfl)) d_Text_isEscape_28 ⟨Nat.le_of_ble_eq_true rfl, Nat.le_of_ble_eq_true rfl⟩) ?_
      refine lv_iconst (v := ((-1) : Int32)) hx hb d_Text_isEscape_31 (by decide) ?_
      refine lv_icmp_eq (tgt := 39) hx hb d_Text_isEscape_32 (by decide) (fun hc32 => ?_) (fun hc32 => ?_)
      · rw [if_pos hc32] at hE
        refine lv_iconst (v := (0 : Int32)) hx hb d_Text_isEscape_39 (by decide) ?_
        exact W.zret (v := (0 : Int32)) hx hb hr rfl (fun t ht hW => ⟨by rw [Option.some.inj hE], ht⟩) (fun q h => by cases h) d_Text_isEscape_40
      · rw [if_neg hc32] at hE
        refine lv_iconst (v := (1 : Int32)) hx hb d_Text_isEscape_35 (by decide) ?_
        refine lv_goto (tgt := 40) hx hb d_Text_isEscape_36 (by decide) ?_
        exact W.zret (v := (1 : Int32)) hx hb hr rfl (fun t ht hW => ⟨by rw [Option.some.inj hE], ht⟩) (fun q h => by cases h) d_Text_isEscape_40

def y_Text_hasControl : MethodName := ⟨"PlainOrigin$Text", "hasControl", "(LPlainOrigin$Bytes;II)Z"⟩
def ws_Text_hasControl : List Cond := Cond.code y_Text_hasControl prog_12_method_18_code 4 (some .boolean) :: UW
theorem hd_Text_hasControl : y_Text_hasControl.cls ≠ "java/lang/invoke/MethodHandle" ∧ y_Text_hasControl.cls ≠ "java/lang/invoke/VarHandle" ∧ (parseMethodDescriptor y_Text_hasControl.desc).map (fun d => d.parameters.length) = some 3 := by decide +kernel
theorem d_Text_hasControl_0 : decode prog_12_method_18_code 0 = .ok (.iload_n 1, 1) := by decide +kernel
theorem d_Text_hasControl_1 : decode prog_12_method_18_code 1 = .ok (.istore_n 3, 1) := by decide +kernel
theorem d_Text_hasControl_2 : decode prog_12_method_18_code 2 = .ok (.iload_n 3, 1) := by decide +kernel
theorem d_Text_hasControl_3 : decode prog_12_method_18_code 3 = .ok (.iload_n 2, 1) := by decide +kernel
theorem d_Text_hasControl_4 : decode prog_12_method_18_code 4 = .ok (.if_icmp .ge (22), 3) := by decide +kernel
theorem d_Text_hasControl_7 : decode prog_12_method_18_code 7 = .ok (.aload_n 0, 1) := by decide +kernel
theorem d_Text_hasControl_8 : decode prog_12_method_18_code 8 = .ok (.iload_n 3, 1) := by decide +kernel
theorem d_Text_hasControl_9 : decode prog_12_method_18_code 9 = .ok (.invokevirtual 21, 3) := by decide +kernel
theorem d_Text_hasControl_12 : decode prog_12_method_18_code 12 = .ok (.invokestatic 63, 3) := by decide +kernel
theorem d_Text_hasControl_15 : decode prog_12_method_18_code 15 = .ok (.ifCond .eq (5), 3) := by decide +kernel
theorem d_Text_hasControl_18 : decode prog_12_method_18_code 18 = .ok (.iconst 1, 1) := by decide +kernel
theorem d_Text_hasControl_19 : decode prog_12_method_18_code 19 = .ok (.ireturn, 1) := by decide +kernel
theorem d_Text_hasControl_20 : decode prog_12_method_18_code 20 = .ok (.iinc 3 (1), 3) := by decide +kernel
theorem d_Text_hasControl_23 : decode prog_12_method_18_code 23 = .ok (.goto (-21), 3) := by decide +kernel
theorem d_Text_hasControl_26 : decode prog_12_method_18_code 26 = .ok (.iconst 0, 1) := by decide +kernel
theorem d_Text_hasControl_27 : decode prog_12_method_18_code 27 = .ok (.ireturn, 1) := by decide +kernel
def x_Text_hasControl_2 (o1 : Nat) (a2 : Int32) (a3 : Int32) (σ : St) : Nat → Int32 → Option Int32
  | 0, _ => none
  | n + 1, l3 => (if a3 ≤ l3 then some (0 : Int32) else (Option.bind (x_Bytes_get o1 l3 σ) (fun r9 => (Option.bind (x_Text_isControl r9) (fun r12 => (if r12 = 0 then (x_let (l3 + (1 : Int32)) (fun (v20 : Int32) => x_Text_hasControl_2 o1 a2 a3 σ n v20)) else some (1 : Int32)))))))
def x_Text_hasControl (o1 : Nat) (a2 : Int32) (a3 : Int32) (σ : St) : Option Int32 := x_Text_hasControl_2 o1 a2 a3 σ x_fuel a2
abbrev rm_Text_hasControl : Room := { frames := 1, cells := 0, slots := 0, locals := 21 }
set_option maxHeartbeats 4000000 in
set_option maxRecDepth 100000 in
theorem t_Text_hasControl (l : Launch) (G : xG) (σ : St) (o1 : Nat) (a2 : Int32) (a3 : Int32) (ho1 : xB o1) (r : Int32) (hE : x_Text_hasControl o1 a2 a3 σ = some r) : Met l y_Text_hasControl (ws_Text_hasControl) rm_Text_hasControl (xP G σ [.ref (G.2.1 o1), .int a2, .int a3]) (xRd (some (.int r))) 0 0 (fun _ => False) := by
  refine Met.ofW (cc := prog_12_method_18_code) (maxL := 4) (ret := (some .boolean)) (by decide) rfl ?_
  intro p e s m args below meth c s₁ B hml hv
  obtain ⟨rfl, hw, hC⟩ := hv
  have hx := B.exec
  have hb := B.bytes
  have hr := B.returns
  have hu : ∀ w ∈ UW, w.before _ s = true := fun w h => atoms_spec B.pre w (List.mem_cons_of_mem _ h)
  have hown : s.vm.findClass R_Text = some m.cls := findClass_of_methodNamed B.named
  have hlocks := B.notSynchronized
  have hK := hC.1
  have hI := hC.2.1
  have hG := hC.2.2.1
  have hN := hC.2.2.2
  have hS : va_S (xA G) s.heap s.heap [] := va_S.rf
  have jn2 : ∀ (n : Nat) (ls : Array Slot) (l3 : Int32), x_Text_hasControl_2 o1 a2 a3 σ n l3 = some r → lv_has ls 4 [(0, .ref (G.2.1 o1)), (1, .int a2), (2, .int a3), (3, .int l3)] → W p l e (headSpec (ws_Text_hasControl) rm_Text_hasControl).room s m ([.ref (G.2.1 o1), .int a2, .int a3] : List Value).toArray below meth c s.heap [] 0 0 (MQ below (xRd (some (.int r))) ([.ref (G.2.1 o1), .int a2, .int a3] : List Value).toArray s 0 0 (fun _ => False)) (F0 m 2 ls []) := by
    intro n
    induction n with
    | zero => intro ls l3 hE; rw [x_Text_hasControl_2] at hE; cases hE
    | succ n ih =>
      intro ls l3 hE hl
      rw [x_Text_hasControl_2] at hE
      refine lv_iload_n hx hb d_Text_hasControl_2 rfl (lv_at hl 3 rfl) ?_
      refine lv_iload_n hx hb d_Text_hasControl_3 rfl (lv_at hl 2 rfl) ?_
      refine lv_icmp_ge (tgt := 26) hx hb d_Text_hasControl_4 (by decide) (fun hc4 => ?_) (fun hc4 => ?_)
      · rw [if_pos hc4] at hE
        refine lv_iconst (v := (0 : Int32)) hx hb d_Text_hasControl_26 (by decide) ?_
        exact W.zret (v := (0 : Int32)) hx hb hr rfl (fun t ht hW => ⟨by rw [Option.some.inj hE], ht⟩) (fun q h => by cases h) d_Text_hasControl_27
      · rw [if_neg hc4] at hE
        refine lv_aload_n hx hb d_Text_hasControl_7 rfl (lv_at hl 0 rfl) ?_
        refine lv_iload_n hx hb d_Text_hasControl_8 rfl (lv_at hl 3 rfl) ?_
        obtain ⟨r9, hC9, hE⟩ := x_bind hE
        refine x_callR (W.runV (As := [.int l3]) (rest := []) ⟨hx, hb, hml, hown, hu⟩ (t_Bytes_get l G σ o1 l3 ho1 r9 hC9) (cwV 1 hu (uw_V mw_539 mw_540 mw_541 mw_63 mw_542) rfl rfl rfl hd_Bytes_get ⟨Nat.le_of_ble_eq_true rfl, Nat.le_of_ble_eq_true rfl⟩) (x_preV hC hS hw (va_recv hK hw (q := (R_Bytes, T_Bytes, 2)) (ci := 0) rfl (x_at (xB_lt ho1) (xcl_B G σ (xB_s ho1))))) rfl rfl hl.1 rfl (lv_room (Nat.le_of_ble_eq_true rfl)) d_Text_hasControl_9 ⟨Nat.le_of_ble_eq_true rfl, Nat.le_of_ble_eq_true rfl⟩) ?_
        obtain ⟨r12, hC12, hE⟩ := x_bind hE
        refine x_callR (W.runS (As := [.int r9]) (rest := []) ⟨hx, hb, hml, hown, hu⟩ (t_Text_isControl l G σ r9 r12 hC12) (va_cwS 1 hu (uw_S mw_706 mw_707 mw_75 mw_708) rfl rfl rfl hd_Text_isControl ⟨Nat.le_of_ble_eq_true rfl, Nat.le_of_ble_eq_true rfl⟩) (x_preS hC hS hw) rfl rfl hl.1 rfl (lv_room (Nat.le_of_ble_eq_true rfl)) d_Text_hasControl_12 ⟨Nat.le_of_ble_eq_true rfl, Nat.le_of_ble_eq_true rfl⟩) ?_
        refine lv_if_eq (tgt := 20) hx hb d_Text_hasControl_15 (by decide) (fun hc15 => ?_) (fun hc15 => ?_)
        · rw [if_pos hc15] at hE
          obtain ⟨v20, e20, hE⟩ := x_letE hE
          refine lv_iinc hx hb d_Text_hasControl_20 hl (k := 3) rfl (x_inc v20 e20 (by decide)) (by decide) rfl (fun ls hl => ?_)
          have hl : lv_has ls 4 [(3, .int v20), (0, .ref (G.2.1 o1)), (1, .int a2), (2, .int a3)] := hl
          refine lv_goto (tgt := 2) hx hb d_Text_hasControl_23 (by decide) ?_
          exact ih _ _ hE (lv_sub hl [1, 2, 3, 0] rfl)
        · rw [if_neg hc15] at hE
          refine lv_iconst (v := (1 : Int32)) hx hb d_Text_hasControl_18 (by decide) ?_
          exact W.zret (v := (1 : Int32)) hx hb hr rfl (fun t ht hW => ⟨by rw [Option.some.inj hE], ht⟩) (fun q h => by cases h) d_Text_hasControl_19
  have hl := lv_entry ([.ref (G.2.1 o1), .int a2, .int a3]) (n := 4) (Nat.le_of_ble_eq_true rfl)
  rw [lg_entry_eq]
  generalize (lg_sl ([.ref (G.2.1 o1), .int a2, .int a3]) ++ List.replicate (4 - (lg_sl ([.ref (G.2.1 o1), .int a2, .int a3])).length) Slot.unset).toArray = ls at hl ⊢
  have hl : lv_has ls 4 [(0, .ref (G.2.1 o1)), (1, .int a2), (2, .int a3)] := hl
  unfold x_Text_hasControl at hE
  refine lv_iload_n hx hb d_Text_hasControl_0 rfl (lv_at hl 1 rfl) ?_
  refine lv_istore_n hx hb d_Text_hasControl_1 rfl hl (by decide) rfl (fun ls hl => ?_)
  have hl : lv_has ls 4 [(3, .int a2), (0, .ref (G.2.1 o1)), (1, .int a2), (2, .int a3)] := hl
  exact jn2 x_fuel _ _ hE (lv_sub hl [1, 2, 3, 0] rfl)

def y_Text_number : MethodName := ⟨"PlainOrigin$Text", "number", "(LPlainOrigin$Bytes;II)I"⟩
def ws_Text_number : List Cond := Cond.code y_Text_number prog_12_method_20_code 6 (some .int) :: UW
theorem hd_Text_number : y_Text_number.cls ≠ "java/lang/invoke/MethodHandle" ∧ y_Text_number.cls ≠ "java/lang/invoke/VarHandle" ∧ (parseMethodDescriptor y_Text_number.desc).map (fun d => d.parameters.length) = some 3 := by decide +kernel
theorem d_Text_number_0 : decode prog_12_method_20_code 0 = .ok (.iload_n 2, 1) := by decide +kernel
theorem d_Text_number_1 : decode prog_12_method_20_code 1 = .ok (.iload_n 1, 1) := by decide +kernel
theorem d_Text_number_2 : decode prog_12_method_20_code 2 = .ok (.isub, 1) := by decide +kernel
theorem d_Text_number_3 : decode prog_12_method_20_code 3 = .ok (.iconst 1, 1) := by decide +kernel
theorem d_Text_number_4 : decode prog_12_method_20_code 4 = .ok (.if_icmp .lt (11), 3) := by decide +kernel
theorem d_Text_number_7 : decode prog_12_method_20_code 7 = .ok (.iload_n 2, 1) := by decide +kernel
theorem d_Text_number_8 : decode prog_12_method_20_code 8 = .ok (.iload_n 1, 1) := by decide +kernel
theorem d_Text_number_9 : decode prog_12_method_20_code 9 = .ok (.isub, 1) := by decide +kernel
theorem d_Text_number_10 : decode prog_12_method_20_code 10 = .ok (.bipush (9), 2) := by decide +kernel
theorem d_Text_number_12 : decode prog_12_method_20_code 12 = .ok (.if_icmp .le (5), 3) := by decide +kernel
theorem d_Text_number_15 : decode prog_12_method_20_code 15 = .ok (.iconst (-1), 1) := by decide +kernel
theorem d_Text_number_16 : decode prog_12_method_20_code 16 = .ok (.ireturn, 1) := by decide +kernel
theorem d_Text_number_17 : decode prog_12_method_20_code 17 = .ok (.iconst 0, 1) := by decide +kernel
theorem d_Text_number_18 : decode prog_12_method_20_code 18 = .ok (.istore_n 3, 1) := by decide +kernel
theorem d_Text_number_19 : decode prog_12_method_20_code 19 = .ok (.iload_n 1, 1) := by decide +kernel
theorem d_Text_number_20 : decode prog_12_method_20_code 20 = .ok (.istore 4, 2) := by decide +kernel
theorem d_Text_number_22 : decode prog_12_method_20_code 22 = .ok (.iload 4, 2) := by decide +kernel
theorem d_Text_number_24 : decode prog_12_method_20_code 24 = .ok (.iload_n 2, 1) := by decide +kernel
theorem d_Text_number_25 : decode prog_12_method_20_code 25 = .ok (.if_icmp .ge (38), 3) := by decide +kernel
theorem d_Text_number_28 : decode prog_12_method_20_code 28 = .ok (.aload_n 0, 1) := by decide +kernel
theorem d_Text_number_29 : decode prog_12_method_20_code 29 = .ok (.iload 4, 2) := by decide +kernel
theorem d_Text_number_31 : decode prog_12_method_20_code 31 = .ok (.invokevirtual 21, 3) := by decide +kernel
theorem d_Text_number_34 : decode prog_12_method_20_code 34 = .ok (.istore 5, 2) := by decide +kernel
theorem d_Text_number_36 : decode prog_12_method_20_code 36 = .ok (.iload 5, 2) := by decide +kernel
theorem d_Text_number_38 : decode prog_12_method_20_code 38 = .ok (.invokestatic 9, 3) := by decide +kernel
theorem d_Text_number_41 : decode prog_12_method_20_code 41 = .ok (.ifCond .ne (5), 3) := by decide +kernel
theorem d_Text_number_44 : decode prog_12_method_20_code 44 = .ok (.iconst (-1), 1) := by decide +kernel
theorem d_Text_number_45 : decode prog_12_method_20_code 45 = .ok (.ireturn, 1) := by decide +kernel
theorem d_Text_number_46 : decode prog_12_method_20_code 46 = .ok (.bipush (10), 2) := by decide +kernel
theorem d_Text_number_48 : decode prog_12_method_20_code 48 = .ok (.iload_n 3, 1) := by decide +kernel
theorem d_Text_number_49 : decode prog_12_method_20_code 49 = .ok (.imul, 1) := by decide +kernel
theorem d_Text_number_50 : decode prog_12_method_20_code 50 = .ok (.iload 5, 2) := by decide +kernel
theorem d_Text_number_52 : decode prog_12_method_20_code 52 = .ok (.bipush (48), 2) := by decide +kernel
theorem d_Text_number_54 : decode prog_12_method_20_code 54 = .ok (.isub, 1) := by decide +kernel
theorem d_Text_number_55 : decode prog_12_method_20_code 55 = .ok (.iadd, 1) := by decide +kernel
theorem d_Text_number_56 : decode prog_12_method_20_code 56 = .ok (.istore_n 3, 1) := by decide +kernel
theorem d_Text_number_57 : decode prog_12_method_20_code 57 = .ok (.iinc 4 (1), 3) := by decide +kernel
theorem d_Text_number_60 : decode prog_12_method_20_code 60 = .ok (.goto (-38), 3) := by decide +kernel
theorem d_Text_number_63 : decode prog_12_method_20_code 63 = .ok (.iload_n 3, 1) := by decide +kernel
theorem d_Text_number_64 : decode prog_12_method_20_code 64 = .ok (.ireturn, 1) := by decide +kernel
def x_Text_number_22 (o1 : Nat) (a2 : Int32) (a3 : Int32) (σ : St) : Nat → Int32 → Int32 → Option Int32
  | 0, _, _ => none
  | n + 1, l3, l4 => (if a3 ≤ l4 then some l3 else (Option.bind (x_Bytes_get o1 l4 σ) (fun r31 => (Option.bind (x_Text_isDigit r31) (fun r38 => (if r38 = 0 then some ((-1) : Int32) else (x_let (((10 : Int32) * l3) + (r31 - (48 : Int32))) (fun (v56 : Int32) => (x_let (l4 + (1 : Int32)) (fun (v57 : Int32) => x_Text_number_22 o1 a2 a3 σ n v56 v57))))))))))
def x_Text_number (o1 : Nat) (a2 : Int32) (a3 : Int32) (σ : St) : Option Int32 := (if (a3 - a2) < (1 : Int32) then some ((-1) : Int32) else (if (a3 - a2) ≤ (9 : Int32) then x_Text_number_22 o1 a2 a3 σ x_fuel (0 : Int32) a2 else some ((-1) : Int32)))
abbrev rm_Text_number : Room := { frames := 1, cells := 0, slots := 0, locals := 21 }
set_option maxHeartbeats 4000000 in
set_option maxRecDepth 100000 in
theorem t_Text_number (l : Launch) (G : xG) (σ : St) (o1 : Nat) (a2 : Int32) (a3 : Int32) (ho1 : xB o1) (r : Int32) (hE : x_Text_number o1 a2 a3 σ = some r) : Met l y_Text_number (ws_Text_number) rm_Text_number (xP G σ [.ref (G.2.1 o1), .int a2, .int a3]) (xRd (some (.int r))) 0 0 (fun _ => False) := by
  refine Met.ofW (cc := prog_12_method_20_code) (maxL := 6) (ret := (some .int)) (by decide) rfl ?_
  intro p e s m args below meth c s₁ B hml hv
  obtain ⟨rfl, hw, hC⟩ := hv
  have hx := B.exec
  have hb := B.bytes
  have hr := B.returns
  have hu : ∀ w ∈ UW, w.before _ s = true := fun w h => atoms_spec B.pre w (List.mem_cons_of_mem _ h)
  have hown : s.vm.findClass R_Text = some m.cls := findClass_of_methodNamed B.named
  have hlocks := B.notSynchronized
  have hK := hC.1
  have hI := hC.2.1
  have hG := hC.2.2.1
  have hN := hC.2.2.2
  have hS : va_S (xA G) s.heap s.heap [] := va_S.rf
  have jn22 : ∀ (n : Nat) (ls : Array Slot) (l3 : Int32) (l4 : Int32), x_Text_number_22 o1 a2 a3 σ n l3 l4 = some r → lv_has ls 6 [(0, .ref (G.2.1 o1)), (1, .int a2), (2, .int a3), (3, .int l3), (4, .int l4)] → W p l e (headSpec (ws_Text_number) rm_Text_number).room s m ([.ref (G.2.1 o1), .int a2, .int a3] : List Value).toArray below meth c s.heap [] 0 0 (MQ below (xRd (some (.int r))) ([.ref (G.2.1 o1), .int a2, .int a3] : List Value).toArray s 0 0 (fun _ => False)) (F0 m 22 ls []) := by
    intro n
    induction n with
    | zero => intro ls l3 l4 hE; rw [x_Text_number_22] at hE; cases hE
    | succ n ih =>
      intro ls l3 l4 hE hl
      rw [x_Text_number_22] at hE
      refine lv_iload hx hb d_Text_number_22 (lv_at hl 4 rfl) ?_
      refine lv_iload_n hx hb d_Text_number_24 rfl (lv_at hl 2 rfl) ?_
      refine lv_icmp_ge (tgt := 63) hx hb d_Text_number_25 (by decide) (fun hc25 => ?_) (fun hc25 => ?_)
      · rw [if_pos hc25] at hE
        refine lv_iload_n hx hb d_Text_number_63 rfl (lv_at hl 3 rfl) ?_
        exact W.iret (v := l3) hx hb hr (fun t ht hW => ⟨by rw [Option.some.inj hE], ht⟩) (fun q h => by cases h) d_Text_number_64
      · rw [if_neg hc25] at hE
        refine lv_aload_n hx hb d_Text_number_28 rfl (lv_at hl 0 rfl) ?_
        refine lv_iload hx hb d_Text_number_29 (lv_at hl 4 rfl) ?_
        obtain ⟨r31, hC31, hE⟩ := x_bind hE
        refine x_callR (W.runV (As := [.int l4]) (rest := []) ⟨hx, hb, hml, hown, hu⟩ (t_Bytes_get l G σ o1 l4 ho1 r31 hC31) (cwV 1 hu (uw_V mw_539 mw_540 mw_541 mw_63 mw_542) rfl rfl rfl hd_Bytes_get ⟨Nat.le_of_ble_eq_true rfl, Nat.le_of_ble_eq_true rfl⟩) (x_preV hC hS hw (va_recv hK hw (q := (R_Bytes, T_Bytes, 2)) (ci := 0) rfl (x_at (xB_lt ho1) (xcl_B G σ (xB_s ho1))))) rfl rfl hl.1 rfl (lv_room (Nat.le_of_ble_eq_true rfl)) d_Text_number_31 ⟨Nat.le_of_ble_eq_true rfl, Nat.le_of_ble_eq_true rfl⟩) ?_
        refine lv_istore hx hb d_Text_number_34 hl (by decide) rfl (fun ls hl => ?_)
        have hl : lv_has ls 6 [(5, .int r31), (0, .ref (G.2.1 o1)), (1, .int a2), (2, .int a3), (3, .int l3), (4, .int l4)] := hl
        refine lv_iload hx hb d_Text_number_36 (lv_at hl 0 rfl) ?_
        obtain ⟨r38, hC38, hE⟩ := x_bind hE
        refine x_callR (W.runS (As := [.int r31]) (rest := []) ⟨hx, hb, hml, hown, hu⟩ (t_Text_isDigit l G σ r31 r38 hC38) (va_cwS 1 hu (uw_S mw_550 mw_551 mw_75 mw_552) rfl rfl rfl hd_Text_isDigit ⟨Nat.le_of_ble_eq_true rfl, Nat.le_of_ble_eq_true rfl⟩) (x_preS hC hS hw) rfl rfl hl.1 rfl (lv_room (Nat.le_of_ble_eq_true rfl)) d_Text_number_38 ⟨Nat.le_of_ble_eq_true rfl, Nat.le_of_ble_eq_true rfl⟩) ?_
        refine lv_if_ne (tgt := 46) hx hb d_Text_number_41 (by decide) (fun hc41 => ?_) (fun hc41 => ?_)
        · rw [if_neg hc41] at hE
          refine lv_bipush (v := (10 : Int32)) hx hb d_Text_number_46 (by decide) ?_
          refine lv_iload_n hx hb d_Text_number_48 rfl (lv_at hl 4 rfl) ?_
          refine lv_imul hx hb d_Text_number_49 ?_
          refine lv_iload hx hb d_Text_number_50 (lv_at hl 0 rfl) ?_
          refine lv_bipush (v := (48 : Int32)) hx hb d_Text_number_52 (by decide) ?_
          refine lv_isub hx hb d_Text_number_54 ?_
          refine lv_iadd hx hb d_Text_number_55 ?_
          refine lv_topi (fun v56 e56 => ?_)
          replace hE := x_letT e56 hE
          refine lv_istore_n hx hb d_Text_number_56 rfl hl (by decide) rfl (fun ls hl => ?_)
          have hl : lv_has ls 6 [(3, .int v56), (5, .int r31), (0, .ref (G.2.1 o1)), (1, .int a2), (2, .int a3), (4, .int l4)] := hl
          obtain ⟨v57, e57, hE⟩ := x_letE hE
          refine lv_iinc hx hb d_Text_number_57 hl (k := 5) rfl (x_inc v57 e57 (by decide)) (by decide) rfl (fun ls hl => ?_)
          have hl : lv_has ls 6 [(4, .int v57), (3, .int v56), (5, .int r31), (0, .ref (G.2.1 o1)), (1, .int a2), (2, .int a3)] := hl
          refine lv_goto (tgt := 22) hx hb d_Text_number_60 (by decide) ?_
          exact ih _ _ _ hE (lv_sub hl [3, 4, 5, 1, 0] rfl)
        · rw [if_pos hc41] at hE
          refine lv_iconst (v := ((-1) : Int32)) hx hb d_Text_number_44 (by decide) ?_
          exact W.iret (v := ((-1) : Int32)) hx hb hr (fun t ht hW => ⟨by rw [Option.some.inj hE], ht⟩) (fun q h => by cases h) d_Text_number_45
  have hl := lv_entry ([.ref (G.2.1 o1), .int a2, .int a3]) (n := 6) (Nat.le_of_ble_eq_true rfl)
  rw [lg_entry_eq]
  generalize (lg_sl ([.ref (G.2.1 o1), .int a2, .int a3]) ++ List.replicate (6 - (lg_sl ([.ref (G.2.1 o1), .int a2, .int a3])).length) Slot.unset).toArray = ls at hl ⊢
  have hl : lv_has ls 6 [(0, .ref (G.2.1 o1)), (1, .int a2), (2, .int a3)] := hl
  unfold x_Text_number at hE
  refine lv_iload_n hx hb d_Text_number_0 rfl (lv_at hl 2 rfl) ?_
  refine lv_iload_n hx hb d_Text_number_1 rfl (lv_at hl 1 rfl) ?_
  refine lv_isub hx hb d_Text_number_2 ?_
  refine lv_iconst (v := (1 : Int32)) hx hb d_Text_number_3 (by decide) ?_
  refine lv_icmp_lt (tgt := 15) hx hb d_Text_number_4 (by decide) (fun hc4 => ?_) (fun hc4 => ?_)
  · rw [if_pos hc4] at hE
    refine lv_iconst (v := ((-1) : Int32)) hx hb d_Text_number_15 (by decide) ?_
    exact W.iret (v := ((-1) : Int32)) hx hb hr (fun t ht hW => ⟨by rw [Option.some.inj hE], ht⟩) (fun q h => by cases h) d_Text_number_16
  · rw [if_neg hc4] at hE
    refine lv_iload_n hx hb d_Text_number_7 rfl (lv_at hl 2 rfl) ?_
    refine lv_iload_n hx hb d_Text_number_8 rfl (lv_at hl 1 rfl) ?_
    refine lv_isub hx hb d_Text_number_9 ?_
    refine lv_bipush (v := (9 : Int32)) hx hb d_Text_number_10 (by decide) ?_
    refine lv_icmp_le (tgt := 17) hx hb d_Text_number_12 (by decide) (fun hc12 => ?_) (fun hc12 => ?_)
    · rw [if_pos hc12] at hE
      refine lv_iconst (v := (0 : Int32)) hx hb d_Text_number_17 (by decide) ?_
      refine lv_istore_n hx hb d_Text_number_18 rfl hl (by decide) rfl (fun ls hl => ?_)
      have hl : lv_has ls 6 [(3, .int (0 : Int32)), (0, .ref (G.2.1 o1)), (1, .int a2), (2, .int a3)] := hl
      refine lv_iload_n hx hb d_Text_number_19 rfl (lv_at hl 2 rfl) ?_
      refine lv_istore hx hb d_Text_number_20 hl (by decide) rfl (fun ls hl => ?_)
      have hl : lv_has ls 6 [(4, .int a2), (3, .int (0 : Int32)), (0, .ref (G.2.1 o1)), (1, .int a2), (2, .int a3)] := hl
      exact jn22 x_fuel _ _ _ hE (lv_sub hl [2, 3, 4, 1, 0] rfl)
    · rw [if_neg hc12] at hE
      refine lv_iconst (v := ((-1) : Int32)) hx hb d_Text_number_15 (by decide) ?_
      exact W.iret (v := ((-1) : Int32)) hx hb hr (fun t ht hW => ⟨by rw [Option.some.inj hE], ht⟩) (fun q h => by cases h) d_Text_number_16

def y_Text_chunkSize : MethodName := ⟨"PlainOrigin$Text", "chunkSize", "(LPlainOrigin$Bytes;)I"⟩
def ws_Text_chunkSize : List Cond := Cond.code y_Text_chunkSize prog_12_method_21_code 5 (some .int) :: UW
theorem hd_Text_chunkSize : y_Text_chunkSize.cls ≠ "java/lang/invoke/MethodHandle" ∧ y_Text_chunkSize.cls ≠ "java/lang/invoke/VarHandle" ∧ (parseMethodDescriptor y_Text_chunkSize.desc).map (fun d => d.parameters.length) = some 1 := by decide +kernel
theorem d_Text_chunkSize_0 : decode prog_12_method_21_code 0 = .ok (.aload_n 0, 1) := by decide +kernel
theorem d_Text_chunkSize_1 : decode prog_12_method_21_code 1 = .ok (.bipush (59), 2) := by decide +kernel
theorem d_Text_chunkSize_3 : decode prog_12_method_21_code 3 = .ok (.iconst 0, 1) := by decide +kernel
theorem d_Text_chunkSize_4 : decode prog_12_method_21_code 4 = .ok (.aload_n 0, 1) := by decide +kernel
theorem d_Text_chunkSize_5 : decode prog_12_method_21_code 5 = .ok (.getfield 66, 3) := by decide +kernel
theorem d_Text_chunkSize_8 : decode prog_12_method_21_code 8 = .ok (.invokestatic 70, 3) := by decide +kernel
theorem d_Text_chunkSize_11 : decode prog_12_method_21_code 11 = .ok (.istore_n 1, 1) := by decide +kernel
theorem d_Text_chunkSize_12 : decode prog_12_method_21_code 12 = .ok (.iload_n 1, 1) := by decide +kernel
theorem d_Text_chunkSize_13 : decode prog_12_method_21_code 13 = .ok (.iconst 1, 1) := by decide +kernel
theorem d_Text_chunkSize_14 : decode prog_12_method_21_code 14 = .ok (.if_icmp .lt (20), 3) := by decide +kernel
theorem d_Text_chunkSize_17 : decode prog_12_method_21_code 17 = .ok (.iload_n 1, 1) := by decide +kernel
theorem d_Text_chunkSize_18 : decode prog_12_method_21_code 18 = .ok (.iconst 3, 1) := by decide +kernel
theorem d_Text_chunkSize_19 : decode prog_12_method_21_code 19 = .ok (.if_icmp .gt (15), 3) := by decide +kernel
theorem d_Text_chunkSize_22 : decode prog_12_method_21_code 22 = .ok (.aload_n 0, 1) := by decide +kernel
theorem d_Text_chunkSize_23 : decode prog_12_method_21_code 23 = .ok (.iload_n 1, 1) := by decide +kernel
theorem d_Text_chunkSize_24 : decode prog_12_method_21_code 24 = .ok (.aload_n 0, 1) := by decide +kernel
theorem d_Text_chunkSize_25 : decode prog_12_method_21_code 25 = .ok (.getfield 66, 3) := by decide +kernel
theorem d_Text_chunkSize_28 : decode prog_12_method_21_code 28 = .ok (.invokestatic 77, 3) := by decide +kernel
theorem d_Text_chunkSize_31 : decode prog_12_method_21_code 31 = .ok (.ifCond .eq (5), 3) := by decide +kernel
theorem d_Text_chunkSize_34 : decode prog_12_method_21_code 34 = .ok (.iconst (-1), 1) := by decide +kernel
theorem d_Text_chunkSize_35 : decode prog_12_method_21_code 35 = .ok (.ireturn, 1) := by decide +kernel
theorem d_Text_chunkSize_36 : decode prog_12_method_21_code 36 = .ok (.iconst 0, 1) := by decide +kernel
theorem d_Text_chunkSize_37 : decode prog_12_method_21_code 37 = .ok (.istore_n 2, 1) := by decide +kernel
theorem d_Text_chunkSize_38 : decode prog_12_method_21_code 38 = .ok (.iconst 0, 1) := by decide +kernel
theorem d_Text_chunkSize_39 : decode prog_12_method_21_code 39 = .ok (.istore_n 3, 1) := by decide +kernel
theorem d_Text_chunkSize_40 : decode prog_12_method_21_code 40 = .ok (.iload_n 3, 1) := by decide +kernel
theorem d_Text_chunkSize_41 : decode prog_12_method_21_code 41 = .ok (.iload_n 1, 1) := by decide +kernel
theorem d_Text_chunkSize_42 : decode prog_12_method_21_code 42 = .ok (.if_icmp .ge (35), 3) := by decide +kernel
theorem d_Text_chunkSize_45 : decode prog_12_method_21_code 45 = .ok (.aload_n 0, 1) := by decide +kernel
theorem d_Text_chunkSize_46 : decode prog_12_method_21_code 46 = .ok (.iload_n 3, 1) := by decide +kernel
theorem d_Text_chunkSize_47 : decode prog_12_method_21_code 47 = .ok (.invokevirtual 21, 3) := by decide +kernel
theorem d_Text_chunkSize_50 : decode prog_12_method_21_code 50 = .ok (.invokestatic 52, 3) := by decide +kernel
theorem d_Text_chunkSize_53 : decode prog_12_method_21_code 53 = .ok (.istore 4, 2) := by decide +kernel
theorem d_Text_chunkSize_55 : decode prog_12_method_21_code 55 = .ok (.iload 4, 2) := by decide +kernel
theorem d_Text_chunkSize_57 : decode prog_12_method_21_code 57 = .ok (.iconst (-1), 1) := by decide +kernel
theorem d_Text_chunkSize_58 : decode prog_12_method_21_code 58 = .ok (.if_icmp .ne (5), 3) := by decide +kernel
theorem d_Text_chunkSize_61 : decode prog_12_method_21_code 61 = .ok (.iconst (-1), 1) := by decide +kernel
theorem d_Text_chunkSize_62 : decode prog_12_method_21_code 62 = .ok (.ireturn, 1) := by decide +kernel
theorem d_Text_chunkSize_63 : decode prog_12_method_21_code 63 = .ok (.bipush (16), 2) := by decide +kernel
theorem d_Text_chunkSize_65 : decode prog_12_method_21_code 65 = .ok (.iload_n 2, 1) := by decide +kernel
theorem d_Text_chunkSize_66 : decode prog_12_method_21_code 66 = .ok (.imul, 1) := by decide +kernel
theorem d_Text_chunkSize_67 : decode prog_12_method_21_code 67 = .ok (.iload 4, 2) := by decide +kernel
theorem d_Text_chunkSize_69 : decode prog_12_method_21_code 69 = .ok (.iadd, 1) := by decide +kernel
theorem d_Text_chunkSize_70 : decode prog_12_method_21_code 70 = .ok (.istore_n 2, 1) := by decide +kernel
theorem d_Text_chunkSize_71 : decode prog_12_method_21_code 71 = .ok (.iinc 3 (1), 3) := by decide +kernel
theorem d_Text_chunkSize_74 : decode prog_12_method_21_code 74 = .ok (.goto (-34), 3) := by decide +kernel
theorem d_Text_chunkSize_77 : decode prog_12_method_21_code 77 = .ok (.iload_n 2, 1) := by decide +kernel
theorem d_Text_chunkSize_78 : decode prog_12_method_21_code 78 = .ok (.ireturn, 1) := by decide +kernel
def x_Text_chunkSize_40 (o1 : Nat) (σ : St) : Nat → Int32 → Int32 → Int32 → Option Int32
  | 0, _, _, _ => none
  | n + 1, l1, l2, l3 => (if l1 ≤ l3 then some l2 else (Option.bind (x_Bytes_get o1 l3 σ) (fun r47 => (Option.bind (x_Text_hexDigit r47) (fun r50 => (if r50 = ((-1) : Int32) then some ((-1) : Int32) else (x_let (((16 : Int32) * l2) + r50) (fun (v70 : Int32) => (x_let (l3 + (1 : Int32)) (fun (v71 : Int32) => x_Text_chunkSize_40 o1 σ n l1 v70 v71))))))))))
def x_Text_chunkSize (o1 : Nat) (σ : St) : Option Int32 := (Option.bind (x_Text_find o1 (59 : Int32) (0 : Int32) (σ.1 o1 1) σ) (fun r8 => (if r8 < (1 : Int32) then some ((-1) : Int32) else (if (3 : Int32) < r8 then some ((-1) : Int32) else (Option.bind (x_Text_hasControl o1 r8 (σ.1 o1 1) σ) (fun r28 => (if r28 = 0 then x_Text_chunkSize_40 o1 σ x_fuel r8 (0 : Int32) (0 : Int32) else some ((-1) : Int32))))))))
abbrev rm_Text_chunkSize : Room := { frames := 2, cells := 0, slots := 0, locals := 45 }
set_option maxHeartbeats 4000000 in
set_option maxRecDepth 100000 in
theorem t_Text_chunkSize (l : Launch) (G : xG) (σ : St) (o1 : Nat) (ho1 : xB o1) (r : Int32) (hE : x_Text_chunkSize o1 σ = some r) : Met l y_Text_chunkSize (ws_Text_chunkSize) rm_Text_chunkSize (xP G σ [.ref (G.2.1 o1)]) (xRd (some (.int r))) 0 0 (fun _ => False) := by
  refine Met.ofW (cc := prog_12_method_21_code) (maxL := 5) (ret := (some .int)) (by decide) rfl ?_
  intro p e s m args below meth c s₁ B hml hv
  obtain ⟨rfl, hw, hC⟩ := hv
  have hx := B.exec
  have hb := B.bytes
  have hr := B.returns
  have hu : ∀ w ∈ UW, w.before _ s = true := fun w h => atoms_spec B.pre w (List.mem_cons_of_mem _ h)
  have hown : s.vm.findClass R_Text = some m.cls := findClass_of_methodNamed B.named
  have hlocks := B.notSynchronized
  have hK := hC.1
  have hI := hC.2.1
  have hG := hC.2.2.1
  have hN := hC.2.2.2
  have hS : va_S (xA G) s.heap s.heap [] := va_S.rf
  have jn40 : ∀ (n : Nat) (ls : Array Slot) (l1 : Int32) (l2 : Int32) (l3 : Int32), x_Text_chunkSize_40 o1 σ n l1 l2 l3 = some r → lv_has ls 5 [(0, .ref (G.2.1 o1)), (1, .int l1), (2, .int l2), (3, .int l3)] → W p l e (headSpec (ws_Text_chunkSize) rm_Text_chunkSize).room s m ([.ref (G.2.1 o1)] : List Value).toArray below meth c s.heap [] 0 0 (MQ below (xRd (some (.int r))) ([.ref (G.2.1 o1)] : List Value).toArray s 0 0 (fun _ => False)) (F0 m 40 ls []) := by
    intro n
    induction n with
    | zero => intro ls l1 l2 l3 hE; rw [x_Text_chunkSize_40] at hE; cases hE
    | succ n ih =>
      intro ls l1 l2 l3 hE hl
      rw [x_Text_chunkSize_40] at hE
      refine lv_iload_n hx hb d_Text_chunkSize_40 rfl (lv_at hl 3 rfl) ?_
      refine lv_iload_n hx hb d_Text_chunkSize_41 rfl (lv_at hl 1 rfl) ?_
      refine lv_icmp_ge (tgt := 77) hx hb d_Text_chunkSize_42 (by decide) (fun hc42 => ?_) (fun hc42 => ?_)
      · rw [if_pos hc42] at hE
        refine lv_iload_n hx hb d_Text_chunkSize_77 rfl (lv_at hl 2 rfl) ?_
        exact W.iret (v := l2) hx hb hr (fun t ht hW => ⟨by rw [Option.some.inj hE], ht⟩) (fun q h => by cases h) d_Text_chunkSize_78
      · rw [if_neg hc42] at hE
        refine lv_aload_n hx hb d_Text_chunkSize_45 rfl (lv_at hl 0 rfl) ?_
        refine lv_iload_n hx hb d_Text_chunkSize_46 rfl (lv_at hl 3 rfl) ?_
        obtain ⟨r47, hC47, hE⟩ := x_bind hE
        refine x_callR (W.runV (As := [.int l3]) (rest := []) ⟨hx, hb, hml, hown, hu⟩ (t_Bytes_get l G σ o1 l3 ho1 r47 hC47) (cwV 1 hu (uw_V mw_539 mw_540 mw_541 mw_63 mw_542) rfl rfl rfl hd_Bytes_get ⟨Nat.le_of_ble_eq_true rfl, Nat.le_of_ble_eq_true rfl⟩) (x_preV hC hS hw (va_recv hK hw (q := (R_Bytes, T_Bytes, 2)) (ci := 0) rfl (x_at (xB_lt ho1) (xcl_B G σ (xB_s ho1))))) rfl rfl hl.1 rfl (lv_room (Nat.le_of_ble_eq_true rfl)) d_Text_chunkSize_47 ⟨Nat.le_of_ble_eq_true rfl, Nat.le_of_ble_eq_true rfl⟩) ?_
        obtain ⟨r50, hC50, hE⟩ := x_bind hE
        refine x_callR (W.runS (As := [.int r47]) (rest := []) ⟨hx, hb, hml, hown, hu⟩ (t_Text_hexDigit l G σ r47 r50 hC50) (va_cwS 1 hu (uw_S mw_673 mw_674 mw_75 mw_675) rfl rfl rfl hd_Text_hexDigit ⟨Nat.le_of_ble_eq_true rfl, Nat.le_of_ble_eq_true rfl⟩) (x_preS hC hS hw) rfl rfl hl.1 rfl (lv_room (Nat.le_of_ble_eq_true rfl)) d_Text_chunkSize_50 ⟨Nat.le_of_ble_eq_true rfl, Nat.le_of_ble_eq_true rfl⟩) ?_
        refine lv_istore hx hb d_Text_chunkSize_53 hl (by decide) rfl (fun ls hl => ?_)
        have hl : lv_has ls 5 [(4, .int r50), (0, .ref (G.2.1 o1)), (1, .int l1), (2, .int l2), (3, .int l3)] := hl
        refine lv_iload hx hb d_Text_chunkSize_55 (lv_at hl 0 rfl) ?_
        refine lv_iconst (v := ((-1) : Int32)) hx hb d_Text_chunkSize_57 (by decide) ?_
        refine lv_icmp_ne (tgt := 63) hx hb d_Text_chunkSize_58 (by decide) (fun hc58 => ?_) (fun hc58 => ?_)
        · rw [if_neg hc58] at hE
          refine lv_bipush (v := (16 : Int32)) hx hb d_Text_chunkSize_63 (by decide) ?_
          refine lv_iload_n hx hb d_Text_chunkSize_65 rfl (lv_at hl 3 rfl) ?_
          refine lv_imul hx hb d_Text_chunkSize_66 ?_
          refine lv_iload hx hb d_Text_chunkSize_67 (lv_at hl 0 rfl) ?_
          refine lv_iadd hx hb d_Text_chunkSize_69 ?_
          refine lv_topi (fun v70 e70 => ?_)
          replace hE := x_letT e70 hE
          refine lv_istore_n hx hb d_Text_chunkSize_70 rfl hl (by decide) rfl (fun ls hl => ?_)
          have hl : lv_has ls 5 [(2, .int v70), (4, .int r50), (0, .ref (G.2.1 o1)), (1, .int l1), (3, .int l3)] := hl
          obtain ⟨v71, e71, hE⟩ := x_letE hE
          refine lv_iinc hx hb d_Text_chunkSize_71 hl (k := 4) rfl (x_inc v71 e71 (by decide)) (by decide) rfl (fun ls hl => ?_)
          have hl : lv_has ls 5 [(3, .int v71), (2, .int v70), (4, .int r50), (0, .ref (G.2.1 o1)), (1, .int l1)] := hl
          refine lv_goto (tgt := 40) hx hb d_Text_chunkSize_74 (by decide) ?_
          exact ih _ _ _ _ hE (lv_sub hl [3, 4, 1, 0] rfl)
        · rw [if_pos hc58] at hE
          refine lv_iconst (v := ((-1) : Int32)) hx hb d_Text_chunkSize_61 (by decide) ?_
          exact W.iret (v := ((-1) : Int32)) hx hb hr (fun t ht hW => ⟨by rw [Option.some.inj hE], ht⟩) (fun q h => by cases h) d_Text_chunkSize_62
  have hl := lv_entry ([.ref (G.2.1 o1)]) (n := 5) (Nat.le_of_ble_eq_true rfl)
  rw [lg_entry_eq]
  generalize (lg_sl ([.ref (G.2.1 o1)]) ++ List.replicate (5 - (lg_sl ([.ref (G.2.1 o1)])).length) Slot.unset).toArray = ls at hl ⊢
  have hl : lv_has ls 5 [(0, .ref (G.2.1 o1))] := hl
  unfold x_Text_chunkSize at hE
  refine lv_aload_n hx hb d_Text_chunkSize_0 rfl (lv_at hl 0 rfl) ?_
  refine lv_bipush (v := (59 : Int32)) hx hb d_Text_chunkSize_1 (by decide) ?_
  refine lv_iconst (v := (0 : Int32)) hx hb d_Text_chunkSize_3 (by decide) ?_
  refine lv_aload_n hx hb d_Text_chunkSize_4 rfl (lv_at hl 0 rfl) ?_
  refine va_getN (D := G.1) (cl := xCl) (ci := 0) (v := .int (σ.1 o1 1)) (C := R_Bytes) (T := T_Bytes) (N := 2) hx hb hu fi_Bytes hown hK hw o1 (x_at (xB_lt ho1) (xcl_B G σ (xB_s ho1))) rfl 1 (by decide) (nl_6 hG) (fun _ h9 => h9) rfl d_Text_chunkSize_5 ?_
  obtain ⟨r8, hC8, hE⟩ := x_bind hE
  refine x_callR (W.runS (As := [.ref (G.2.1 o1), .int (59 : Int32), .int (0 : Int32), .int (σ.1 o1 1)]) (rest := []) ⟨hx, hb, hml, hown, hu⟩ (t_Text_find l G σ o1 (59 : Int32) (0 : Int32) (σ.1 o1 1) ho1 r8 hC8) (va_cwS 4 hu (uw_S mw_701 mw_537 mw_75 mw_538) rfl rfl rfl hd_Text_find ⟨Nat.le_of_ble_eq_true rfl, Nat.le_of_ble_eq_true rfl⟩) (x_preS hC hS hw) rfl rfl hl.1 rfl (lv_room (Nat.le_of_ble_eq_true rfl)) d_Text_chunkSize_8 ⟨Nat.le_of_ble_eq_true rfl, Nat.le_of_ble_eq_true rfl⟩) ?_
  refine lv_istore_n hx hb d_Text_chunkSize_11 rfl hl (by decide) rfl (fun ls hl => ?_)
  have hl : lv_has ls 5 [(1, .int r8), (0, .ref (G.2.1 o1))] := hl
  refine lv_iload_n hx hb d_Text_chunkSize_12 rfl (lv_at hl 0 rfl) ?_
  refine lv_iconst (v := (1 : Int32)) hx hb d_Text_chunkSize_13 (by decide) ?_
  refine lv_icmp_lt (tgt := 34) hx hb d_Text_chunkSize_14 (by decide) (fun hc14 => ?_) (fun hc14 => ?_)
  · rw [if_pos hc14] at hE
    refine lv_iconst (v := ((-1) : Int32)) hx hb d_Text_chunkSize_34 (by decide) ?_
    exact W.iret (v := ((-1) : Int32)) hx hb hr (fun t ht hW => ⟨by rw [Option.some.inj hE], ht⟩) (fun q h => by cases h) d_Text_chunkSize_35
  · rw [if_neg hc14] at hE
    refine lv_iload_n hx hb d_Text_chunkSize_17 rfl (lv_at hl 0 rfl) ?_
    refine lv_iconst (v := (3 : Int32)) hx hb d_Text_chunkSize_18 (by decide) ?_
    refine lv_icmp_gt (tgt := 34) hx hb d_Text_chunkSize_19 (by decide) (fun hc19 => ?_) (fun hc19 => ?_)
    · rw [if_pos hc19] at hE
      refine lv_iconst (v := ((-1) : Int32)) hx hb d_Text_chunkSize_34 (by decide) ?_
      exact W.iret (v := ((-1) : Int32)) hx hb hr (fun t ht hW => ⟨by rw [Option.some.inj hE], ht⟩) (fun q h => by cases h) d_Text_chunkSize_35
    · rw [if_neg hc19] at hE
      refine lv_aload_n hx hb d_Text_chunkSize_22 rfl (lv_at hl 1 rfl) ?_
      refine lv_iload_n hx hb d_Text_chunkSize_23 rfl (lv_at hl 0 rfl) ?_
      refine lv_aload_n hx hb d_Text_chunkSize_24 rfl (lv_at hl 1 rfl) ?_
      refine va_getN (D := G.1) (cl := xCl) (ci := 0) (v := .int (σ.1 o1 1)) (C := R_Bytes) (T := T_Bytes) (N := 2) hx hb hu fi_Bytes hown hK hw o1 (x_at (xB_lt ho1) (xcl_B G σ (xB_s ho1))) rfl 1 (by decide) (nl_6 hG) (fun _ h9 => h9) rfl d_Text_chunkSize_25 ?_
      obtain ⟨r28, hC28, hE⟩ := x_bind hE
      refine x_callR (W.runS (As := [.ref (G.2.1 o1), .int r8, .int (σ.1 o1 1)]) (rest := []) ⟨hx, hb, hml, hown, hu⟩ (t_Text_hasControl l G σ o1 r8 (σ.1 o1 1) ho1 r28 hC28) (va_cwS 3 hu (uw_S mw_703 mw_704 mw_75 mw_705) rfl rfl rfl hd_Text_hasControl ⟨Nat.le_of_ble_eq_true rfl, Nat.le_of_ble_eq_true rfl⟩) (x_preS hC hS hw) rfl rfl hl.1 rfl (lv_room (Nat.le_of_ble_eq_true rfl)) d_Text_chunkSize_28 ⟨Nat.le_of_ble_eq_true rfl, Nat.le_of_ble_eq_true rfl⟩) ?_
      refine lv_if_eq (tgt := 36) hx hb d_Text_chunkSize_31 (by decide) (fun hc31 => ?_) (fun hc31 => ?_)
      · rw [if_pos hc31] at hE
        refine lv_iconst (v := (0 : Int32)) hx hb d_Text_chunkSize_36 (by decide) ?_
        refine lv_istore_n hx hb d_Text_chunkSize_37 rfl hl (by decide) rfl (fun ls hl => ?_)
        have hl : lv_has ls 5 [(2, .int (0 : Int32)), (1, .int r8), (0, .ref (G.2.1 o1))] := hl
        refine lv_iconst (v := (0 : Int32)) hx hb d_Text_chunkSize_38 (by decide) ?_
        refine lv_istore_n hx hb d_Text_chunkSize_39 rfl hl (by decide) rfl (fun ls hl => ?_)
        have hl : lv_has ls 5 [(3, .int (0 : Int32)), (2, .int (0 : Int32)), (1, .int r8), (0, .ref (G.2.1 o1))] := hl
        exact jn40 x_fuel _ _ _ _ hE (lv_sub hl [3, 2, 1, 0] rfl)
      · rw [if_neg hc31] at hE
        refine lv_iconst (v := ((-1) : Int32)) hx hb d_Text_chunkSize_34 (by decide) ?_
        exact W.iret (v := ((-1) : Int32)) hx hb hr (fun t ht hW => ⟨by rw [Option.some.inj hE], ht⟩) (fun q h => by cases h) d_Text_chunkSize_35
