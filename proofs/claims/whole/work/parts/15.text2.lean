def y_Text_isLetterDigitOr : MethodName := ⟨"PlainOrigin$Text", "isLetterDigitOr", "(ILjava/lang/String;)Z"⟩
def ws_Text_isLetterDigitOr : List Cond := Cond.code y_Text_isLetterDigitOr prog_12_method_3_code 2 (some .boolean) :: UW
theorem hd_Text_isLetterDigitOr : y_Text_isLetterDigitOr.cls ≠ "java/lang/invoke/MethodHandle" ∧ y_Text_isLetterDigitOr.cls ≠ "java/lang/invoke/VarHandle" ∧ (parseMethodDescriptor y_Text_isLetterDigitOr.desc).map (fun d => d.parameters.length) = some 2 := by decide +kernel
theorem d_Text_isLetterDigitOr_0 : decode prog_12_method_3_code 0 = .ok (.iload_n 0, 1) := by decide +kernel
theorem d_Text_isLetterDigitOr_1 : decode prog_12_method_3_code 1 = .ok (.bipush (97), 2) := by decide +kernel
theorem d_Text_isLetterDigitOr_3 : decode prog_12_method_3_code 3 = .ok (.if_icmp .lt (9), 3) := by decide +kernel
theorem d_Text_isLetterDigitOr_6 : decode prog_12_method_3_code 6 = .ok (.iload_n 0, 1) := by decide +kernel
theorem d_Text_isLetterDigitOr_7 : decode prog_12_method_3_code 7 = .ok (.bipush (122), 2) := by decide +kernel
theorem d_Text_isLetterDigitOr_9 : decode prog_12_method_3_code 9 = .ok (.if_icmp .le (35), 3) := by decide +kernel
theorem d_Text_isLetterDigitOr_12 : decode prog_12_method_3_code 12 = .ok (.iload_n 0, 1) := by decide +kernel
theorem d_Text_isLetterDigitOr_13 : decode prog_12_method_3_code 13 = .ok (.bipush (65), 2) := by decide +kernel
theorem d_Text_isLetterDigitOr_15 : decode prog_12_method_3_code 15 = .ok (.if_icmp .lt (9), 3) := by decide +kernel
theorem d_Text_isLetterDigitOr_18 : decode prog_12_method_3_code 18 = .ok (.iload_n 0, 1) := by decide +kernel
theorem d_Text_isLetterDigitOr_19 : decode prog_12_method_3_code 19 = .ok (.bipush (90), 2) := by decide +kernel
theorem d_Text_isLetterDigitOr_21 : decode prog_12_method_3_code 21 = .ok (.if_icmp .le (23), 3) := by decide +kernel
theorem d_Text_isLetterDigitOr_24 : decode prog_12_method_3_code 24 = .ok (.iload_n 0, 1) := by decide +kernel
theorem d_Text_isLetterDigitOr_25 : decode prog_12_method_3_code 25 = .ok (.invokestatic 9, 3) := by decide +kernel
theorem d_Text_isLetterDigitOr_28 : decode prog_12_method_3_code 28 = .ok (.ifCond .ne (16), 3) := by decide +kernel
theorem d_Text_isLetterDigitOr_31 : decode prog_12_method_3_code 31 = .ok (.iload_n 0, 1) := by decide +kernel
theorem d_Text_isLetterDigitOr_32 : decode prog_12_method_3_code 32 = .ok (.ifCond .lt (16), 3) := by decide +kernel
theorem d_Text_isLetterDigitOr_35 : decode prog_12_method_3_code 35 = .ok (.aload_n 1, 1) := by decide +kernel
theorem d_Text_isLetterDigitOr_36 : decode prog_12_method_3_code 36 = .ok (.iload_n 0, 1) := by decide +kernel
theorem d_Text_isLetterDigitOr_37 : decode prog_12_method_3_code 37 = .ok (.i2c, 1) := by decide +kernel
theorem d_Text_isLetterDigitOr_38 : decode prog_12_method_3_code 38 = .ok (.invokevirtual 15, 3) := by decide +kernel
theorem d_Text_isLetterDigitOr_41 : decode prog_12_method_3_code 41 = .ok (.ifCond .lt (7), 3) := by decide +kernel
theorem d_Text_isLetterDigitOr_44 : decode prog_12_method_3_code 44 = .ok (.iconst 1, 1) := by decide +kernel
theorem d_Text_isLetterDigitOr_45 : decode prog_12_method_3_code 45 = .ok (.goto (4), 3) := by decide +kernel
theorem d_Text_isLetterDigitOr_48 : decode prog_12_method_3_code 48 = .ok (.iconst 0, 1) := by decide +kernel
theorem d_Text_isLetterDigitOr_49 : decode prog_12_method_3_code 49 = .ok (.ireturn, 1) := by decide +kernel
def x_Text_isLetterDigitOr_24 (a1 : Int32) (w2 : Nat) : Option Int32 := (Option.bind (x_Text_isDigit a1) (fun r25 => (if r25 = 0 then (if a1 < 0 then some (0 : Int32) else (Option.bind (x_String_indexOf w2 ((Int32.toUInt32 a1 % 65536).toInt32)) (fun r38 => (if r38 < 0 then some (0 : Int32) else some (1 : Int32))))) else some (1 : Int32))))
def x_Text_isLetterDigitOr_12 (a1 : Int32) (w2 : Nat) : Option Int32 := (if a1 < (65 : Int32) then x_Text_isLetterDigitOr_24 a1 w2 else (if a1 ≤ (90 : Int32) then some (1 : Int32) else x_Text_isLetterDigitOr_24 a1 w2))
def x_Text_isLetterDigitOr (a1 : Int32) (w2 : Nat) : Option Int32 := (if a1 < (97 : Int32) then x_Text_isLetterDigitOr_12 a1 w2 else (if a1 ≤ (122 : Int32) then some (1 : Int32) else x_Text_isLetterDigitOr_12 a1 w2))
abbrev rm_Text_isLetterDigitOr : Room := { frames := 4, cells := 0, slots := 0, locals := 91 }
set_option maxHeartbeats 4000000 in
set_option maxRecDepth 100000 in
theorem t_Text_isLetterDigitOr (l : Launch) (G : xG) (σ : St) (a1 : Int32) (w2 : Nat) (hw2 : w2 < nStr) (r : Int32) (hE : x_Text_isLetterDigitOr a1 w2 = some r) : Met l y_Text_isLetterDigitOr (ws_Text_isLetterDigitOr) rm_Text_isLetterDigitOr (xP G σ [.int a1, .ref (G.2.2.2.1 w2)]) (xRd (some (.int r))) 0 0 (fun _ => False) := by
  refine Met.ofW (cc := prog_12_method_3_code) (maxL := 2) (ret := (some .boolean)) (by decide) rfl ?_
  intro p e s m args below meth c s₁ B hml hv
  obtain ⟨rfl, hw, hC⟩ := hv
  have hx := B.exec
  have hb := B.bytes
  have hr := B.returns
  have hu : ∀ w ∈ UW, w.before _ s = true := fun w h => atoms_spec B.pre w (List.mem_cons_of_mem _ h)
  have hown : s.vm.findClass R_Text = some m.cls := findClass_of_methodNamed B.named
  have hlocks := B.notSynchronized
  have hK := hC.1
  have hI := hC.2.1
  have hG := hC.2.2.1
  have hN := hC.2.2.2
  have hS : va_S (xA G) s.heap s.heap [] := va_S.rf
  have jn24 : ∀ (ls : Array Slot), x_Text_isLetterDigitOr_24 a1 w2 = some r → lv_has ls 2 [(0, .int a1), (1, .ref (G.2.2.2.1 w2))] → W p l e (headSpec (ws_Text_isLetterDigitOr) rm_Text_isLetterDigitOr).room s m ([.int a1, .ref (G.2.2.2.1 w2)] : List Value).toArray below meth c s.heap [] 0 0 (MQ below (xRd (some (.int r))) ([.int a1, .ref (G.2.2.2.1 w2)] : List Value).toArray s 0 0 (fun _ => False)) (F0 m 24 ls []) := by
    intro ls hE hl
    unfold x_Text_isLetterDigitOr_24 at hE
    refine lv_iload_n hx hb d_Text_isLetterDigitOr_24 rfl (lv_at hl 0 rfl) ?_
    obtain ⟨r25, hC25, hE⟩ := x_bind hE
    refine x_callR (W.runS (As := [.int a1]) (rest := []) ⟨hx, hb, hml, hown, hu⟩ (t_Text_isDigit l G σ a1 r25 hC25) (va_cwS 1 hu (uw_S mw_550 mw_551 mw_75 mw_552) rfl rfl rfl hd_Text_isDigit ⟨Nat.le_of_ble_eq_true rfl, Nat.le_of_ble_eq_true rfl⟩) (x_preS hC hS hw) rfl rfl hl.1 rfl (lv_room (Nat.le_of_ble_eq_true rfl)) d_Text_isLetterDigitOr_25 ⟨Nat.le_of_ble_eq_true rfl, Nat.le_of_ble_eq_true rfl⟩) ?_
    refine lv_if_ne (tgt := 44) hx hb d_Text_isLetterDigitOr_28 (by decide) (fun hc28 => ?_) (fun hc28 => ?_)
    · rw [if_neg hc28] at hE
      refine lv_iconst (v := (1 : Int32)) hx hb d_Text_isLetterDigitOr_44 (by decide) ?_
      refine lv_goto (tgt := 49) hx hb d_Text_isLetterDigitOr_45 (by decide) ?_
      exact W.zret (v := (1 : Int32)) hx hb hr rfl (fun t ht hW => ⟨by rw [Option.some.inj hE], ht⟩) (fun q h => by cases h) d_Text_isLetterDigitOr_49
    · rw [if_pos hc28] at hE
      refine lv_iload_n hx hb d_Text_isLetterDigitOr_31 rfl (lv_at hl 0 rfl) ?_
      refine lv_if_lt (tgt := 48) hx hb d_Text_isLetterDigitOr_32 (by decide) (fun hc32 => ?_) (fun hc32 => ?_)
      · rw [if_pos hc32] at hE
        refine lv_iconst (v := (0 : Int32)) hx hb d_Text_isLetterDigitOr_48 (by decide) ?_
        exact W.zret (v := (0 : Int32)) hx hb hr rfl (fun t ht hW => ⟨by rw [Option.some.inj hE], ht⟩) (fun q h => by cases h) d_Text_isLetterDigitOr_49
      · rw [if_neg hc32] at hE
        refine lv_aload_n hx hb d_Text_isLetterDigitOr_35 rfl (lv_at hl 1 rfl) ?_
        refine lv_iload_n hx hb d_Text_isLetterDigitOr_36 rfl (lv_at hl 0 rfl) ?_
        refine lv_i2c hx hb d_Text_isLetterDigitOr_37 rfl ?_
        obtain ⟨r38, hC38, hE⟩ := x_bind hE
        refine x_callR (W.runV (As := [.int ((Int32.toUInt32 a1 % 65536).toInt32)]) (rest := []) ⟨hx, hb, hml, hown, hu⟩ (t_String_indexOf l G σ w2 ((Int32.toUInt32 a1 % 65536).toInt32) hw2 r38 hC38) (cwV 1 hu (uw_V mw_553 mw_554 mw_555 mw_76 mw_556) rfl rfl rfl hd_String_indexOf ⟨Nat.le_of_ble_eq_true rfl, Nat.le_of_ble_eq_true rfl⟩) (x_preV hC hS hw (x_recvS hN hw2 hS)) rfl rfl hl.1 rfl (lv_room (Nat.le_of_ble_eq_true rfl)) d_Text_isLetterDigitOr_38 ⟨Nat.le_of_ble_eq_true rfl, Nat.le_of_ble_eq_true rfl⟩) ?_
        refine lv_if_lt (tgt := 48) hx hb d_Text_isLetterDigitOr_41 (by decide) (fun hc41 => ?_) (fun hc41 => ?_)
        · rw [if_pos hc41] at hE
          refine lv_iconst (v := (0 : Int32)) hx hb d_Text_isLetterDigitOr_48 (by decide) ?_
          exact W.zret (v := (0 : Int32)) hx hb hr rfl (fun t ht hW => ⟨by rw [Option.some.inj hE], ht⟩) (fun q h => by cases h) d_Text_isLetterDigitOr_49
        · rw [if_neg hc41] at hE
          refine lv_iconst (v := (1 : Int32)) hx hb d_Text_isLetterDigitOr_44 (by decide) ?_
          refine lv_goto (tgt := 49) hx hb d_Text_isLetterDigitOr_45 (by decide) ?_
          exact W.zret (v := (1 : Int32)) hx hb hr rfl (fun t ht hW => ⟨by rw [Option.some.inj hE], ht⟩) (fun q h => by cases h) d_Text_isLetterDigitOr_49
  have jn12 : ∀ (ls : Array Slot), x_Text_isLetterDigitOr_12 a1 w2 = some r → lv_has ls 2 [(0, .int a1), (1, .ref (G.2.2.2.1 w2))] → W p l e (headSpec (ws_Text_isLetterDigitOr) rm_Text_isLetterDigitOr).room s m ([.int a1, .ref (G.2.2.2.1 w2)] : List Value).toArray below meth c s.heap [] 0 0 (MQ below (xRd (some (.int r))) ([.int a1, .ref (G.2.2.2.1 w2)] : List Value).toArray s 0 0 (fun _ => False)) (F0 m 12 ls []) := by
    intro ls hE hl
    unfold x_Text_isLetterDigitOr_12 at hE
    refine lv_iload_n hx hb d_Text_isLetterDigitOr_12 rfl (lv_at hl 0 rfl) ?_
    refine lv_bipush (v := (65 : Int32)) hx hb d_Text_isLetterDigitOr_13 (by decide) ?_
    refine lv_icmp_lt (tgt := 24) hx hb d_Text_isLetterDigitOr_15 (by decide) (fun hc15 => ?_) (fun hc15 => ?_)
    · rw [if_pos hc15] at hE
      exact jn24 _ hE (lv_sub hl [0, 1] rfl)
    · rw [if_neg hc15] at hE
      refine lv_iload_n hx hb d_Text_isLetterDigitOr_18 rfl (lv_at hl 0 rfl) ?_
      refine lv_bipush (v := (90 : Int32)) hx hb d_Text_isLetterDigitOr_19 (by decide) ?_
      refine lv_icmp_le (tgt := 44) hx hb d_Text_isLetterDigitOr_21 (by decide) (fun hc21 => ?_) (fun hc21 => ?_)
      · rw [if_pos hc21] at hE
        refine lv_iconst (v := (1 : Int32)) hx hb d_Text_isLetterDigitOr_44 (by decide) ?_
        refine lv_goto (tgt := 49) hx hb d_Text_isLetterDigitOr_45 (by decide) ?_
        exact W.zret (v := (1 : Int32)) hx hb hr rfl (fun t ht hW => ⟨by rw [Option.some.inj hE], ht⟩) (fun q h => by cases h) d_Text_isLetterDigitOr_49
      · rw [if_neg hc21] at hE
        exact jn24 _ hE (lv_sub hl [0, 1] rfl)
  have hl := lv_entry ([.int a1, .ref (G.2.2.2.1 w2)]) (n := 2) (Nat.le_of_ble_eq_true rfl)
  rw [lg_entry_eq]
  generalize (lg_sl ([.int a1, .ref (G.2.2.2.1 w2)]) ++ List.replicate (2 - (lg_sl ([.int a1, .ref (G.2.2.2.1 w2)])).length) Slot.unset).toArray = ls at hl ⊢
  have hl : lv_has ls 2 [(0, .int a1), (1, .ref (G.2.2.2.1 w2))] := hl
  unfold x_Text_isLetterDigitOr at hE
  refine lv_iload_n hx hb d_Text_isLetterDigitOr_0 rfl (lv_at hl 0 rfl) ?_
  refine lv_bipush (v := (97 : Int32)) hx hb d_Text_isLetterDigitOr_1 (by decide) ?_
  refine lv_icmp_lt (tgt := 12) hx hb d_Text_isLetterDigitOr_3 (by decide) (fun hc3 => ?_) (fun hc3 => ?_)
  · rw [if_pos hc3] at hE
    exact jn12 _ hE (lv_sub hl [0, 1] rfl)
  · rw [if_neg hc3] at hE
    refine lv_iload_n hx hb d_Text_isLetterDigitOr_6 rfl (lv_at hl 0 rfl) ?_
    refine lv_bipush (v := (122 : Int32)) hx hb d_Text_isLetterDigitOr_7 (by decide) ?_
    refine lv_icmp_le (tgt := 44) hx hb d_Text_isLetterDigitOr_9 (by decide) (fun hc9 => ?_) (fun hc9 => ?_)
    · rw [if_pos hc9] at hE
      refine lv_iconst (v := (1 : Int32)) hx hb d_Text_isLetterDigitOr_44 (by decide) ?_
      refine lv_goto (tgt := 49) hx hb d_Text_isLetterDigitOr_45 (by decide) ?_
      exact W.zret (v := (1 : Int32)) hx hb hr rfl (fun t ht hW => ⟨by rw [Option.some.inj hE], ht⟩) (fun q h => by cases h) d_Text_isLetterDigitOr_49
    · rw [if_neg hc9] at hE
      exact jn12 _ hE (lv_sub hl [0, 1] rfl)

def y_Text_isExactly : MethodName := ⟨"PlainOrigin$Text", "isExactly", "(LPlainOrigin$Bytes;IILjava/lang/String;)Z"⟩
def ws_Text_isExactly : List Cond := Cond.code y_Text_isExactly prog_12_method_11_code 5 (some .boolean) :: UW
theorem hd_Text_isExactly : y_Text_isExactly.cls ≠ "java/lang/invoke/MethodHandle" ∧ y_Text_isExactly.cls ≠ "java/lang/invoke/VarHandle" ∧ (parseMethodDescriptor y_Text_isExactly.desc).map (fun d => d.parameters.length) = some 4 := by decide +kernel
theorem d_Text_isExactly_0 : decode prog_12_method_11_code 0 = .ok (.iload_n 2, 1) := by decide +kernel
theorem d_Text_isExactly_1 : decode prog_12_method_11_code 1 = .ok (.iload_n 1, 1) := by decide +kernel
theorem d_Text_isExactly_2 : decode prog_12_method_11_code 2 = .ok (.isub, 1) := by decide +kernel
theorem d_Text_isExactly_3 : decode prog_12_method_11_code 3 = .ok (.aload_n 3, 1) := by decide +kernel
theorem d_Text_isExactly_4 : decode prog_12_method_11_code 4 = .ok (.invokevirtual 29, 3) := by decide +kernel
theorem d_Text_isExactly_7 : decode prog_12_method_11_code 7 = .ok (.if_icmp .eq (5), 3) := by decide +kernel
theorem d_Text_isExactly_10 : decode prog_12_method_11_code 10 = .ok (.iconst 0, 1) := by decide +kernel
theorem d_Text_isExactly_11 : decode prog_12_method_11_code 11 = .ok (.ireturn, 1) := by decide +kernel
theorem d_Text_isExactly_12 : decode prog_12_method_11_code 12 = .ok (.iconst 0, 1) := by decide +kernel
theorem d_Text_isExactly_13 : decode prog_12_method_11_code 13 = .ok (.istore 4, 2) := by decide +kernel
theorem d_Text_isExactly_15 : decode prog_12_method_11_code 15 = .ok (.iload 4, 2) := by decide +kernel
theorem d_Text_isExactly_17 : decode prog_12_method_11_code 17 = .ok (.aload_n 3, 1) := by decide +kernel
theorem d_Text_isExactly_18 : decode prog_12_method_11_code 18 = .ok (.invokevirtual 29, 3) := by decide +kernel
theorem d_Text_isExactly_21 : decode prog_12_method_11_code 21 = .ok (.if_icmp .ge (28), 3) := by decide +kernel
theorem d_Text_isExactly_24 : decode prog_12_method_11_code 24 = .ok (.aload_n 0, 1) := by decide +kernel
theorem d_Text_isExactly_25 : decode prog_12_method_11_code 25 = .ok (.iload_n 1, 1) := by decide +kernel
theorem d_Text_isExactly_26 : decode prog_12_method_11_code 26 = .ok (.iload 4, 2) := by decide +kernel
theorem d_Text_isExactly_28 : decode prog_12_method_11_code 28 = .ok (.iadd, 1) := by decide +kernel
theorem d_Text_isExactly_29 : decode prog_12_method_11_code 29 = .ok (.invokevirtual 21, 3) := by decide +kernel
theorem d_Text_isExactly_32 : decode prog_12_method_11_code 32 = .ok (.aload_n 3, 1) := by decide +kernel
theorem d_Text_isExactly_33 : decode prog_12_method_11_code 33 = .ok (.iload 4, 2) := by decide +kernel
theorem d_Text_isExactly_35 : decode prog_12_method_11_code 35 = .ok (.invokevirtual 33, 3) := by decide +kernel
theorem d_Text_isExactly_38 : decode prog_12_method_11_code 38 = .ok (.if_icmp .eq (5), 3) := by decide +kernel
theorem d_Text_isExactly_41 : decode prog_12_method_11_code 41 = .ok (.iconst 0, 1) := by decide +kernel
theorem d_Text_isExactly_42 : decode prog_12_method_11_code 42 = .ok (.ireturn, 1) := by decide +kernel
theorem d_Text_isExactly_43 : decode prog_12_method_11_code 43 = .ok (.iinc 4 (1), 3) := by decide +kernel
theorem d_Text_isExactly_46 : decode prog_12_method_11_code 46 = .ok (.goto (-31), 3) := by decide +kernel
theorem d_Text_isExactly_49 : decode prog_12_method_11_code 49 = .ok (.iconst 1, 1) := by decide +kernel
theorem d_Text_isExactly_50 : decode prog_12_method_11_code 50 = .ok (.ireturn, 1) := by decide +kernel
def x_Text_isExactly_15 (o1 : Nat) (a2 : Int32) (a3 : Int32) (w4 : Nat) (σ : St) : Nat → Int32 → Option Int32
  | 0, _ => none
  | n + 1, l4 => (Option.bind (x_String_length w4) (fun r18 => (if r18 ≤ l4 then some (1 : Int32) else (Option.bind (x_Bytes_get o1 (a2 + l4) σ) (fun r29 => (Option.bind (x_String_charAt w4 l4) (fun r35 => (if r29 = r35 then (x_let (l4 + (1 : Int32)) (fun (v43 : Int32) => x_Text_isExactly_15 o1 a2 a3 w4 σ n v43)) else some (0 : Int32)))))))))
def x_Text_isExactly (o1 : Nat) (a2 : Int32) (a3 : Int32) (w4 : Nat) (σ : St) : Option Int32 := (Option.bind (x_String_length w4) (fun r4 => (if (a3 - a2) = r4 then x_Text_isExactly_15 o1 a2 a3 w4 σ x_fuel (0 : Int32) else some (0 : Int32))))
abbrev rm_Text_isExactly : Room := { frames := 4, cells := 0, slots := 0, locals := 85 }
set_option maxHeartbeats 4000000 in
set_option maxRecDepth 100000 in
theorem t_Text_isExactly (l : Launch) (G : xG) (σ : St) (o1 : Nat) (a2 : Int32) (a3 : Int32) (w4 : Nat) (ho1 : xB o1) (hw4 : w4 < nStr) (r : Int32) (hE : x_Text_isExactly o1 a2 a3 w4 σ = some r) : Met l y_Text_isExactly (ws_Text_isExactly) rm_Text_isExactly (xP G σ [.ref (G.2.1 o1), .int a2, .int a3, .ref (G.2.2.2.1 w4)]) (xRd (some (.int r))) 0 0 (fun _ => False) := by
  refine Met.ofW (cc := prog_12_method_11_code) (maxL := 5) (ret := (some .boolean)) (by decide) rfl ?_
  intro p e s m args below meth c s₁ B hml hv
  obtain ⟨rfl, hw, hC⟩ := hv
  have hx := B.exec
  have hb := B.bytes
  have hr := B.returns
  have hu : ∀ w ∈ UW, w.before _ s = true := fun w h => atoms_spec B.pre w (List.mem_cons_of_mem _ h)
  have hown : s.vm.findClass R_Text = some m.cls := findClass_of_methodNamed B.named
  have hlocks := B.notSynchronized
  have hK := hC.1
  have hI := hC.2.1
  have hG := hC.2.2.1
  have hN := hC.2.2.2
  have hS : va_S (xA G) s.heap s.heap [] := va_S.rf
  have jn15 : ∀ (n : Nat) (ls : Array Slot) (l4 : Int32), x_Text_isExactly_15 o1 a2 a3 w4 σ n l4 = some r → lv_has ls 5 [(0, .ref (G.2.1 o1)), (1, .int a2), (2, .int a3), (3, .ref (G.2.2.2.1 w4)), (4, .int l4)] → W p l e (headSpec (ws_Text_isExactly) rm_Text_isExactly).room s m ([.ref (G.2.1 o1), .int a2, .int a3, .ref (G.2.2.2.1 w4)] : List Value).toArray below meth c s.heap [] 0 0 (MQ below (xRd (some (.int r))) ([.ref (G.2.1 o1), .int a2, .int a3, .ref (G.2.2.2.1 w4)] : List Value).toArray s 0 0 (fun _ => False)) (F0 m 15 ls []) := by
    intro n
    induction n with
    | zero => intro ls l4 hE; rw [x_Text_isExactly_15] at hE; cases hE
    | succ n ih =>
      intro ls l4 hE hl
      rw [x_Text_isExactly_15] at hE
      refine lv_iload hx hb d_Text_isExactly_15 (lv_at hl 4 rfl) ?_
      refine lv_aload_n hx hb d_Text_isExactly_17 rfl (lv_at hl 3 rfl) ?_
      obtain ⟨r18, hC18, hE⟩ := x_bind hE
      refine x_callR (W.runV (As := []) (rest := [.int l4]) ⟨hx, hb, hml, hown, hu⟩ (t_String_length l G σ w4 hw4 r18 hC18) (cwV 0 hu (uw_V mw_646 mw_568 mw_569 mw_76 mw_570) rfl rfl rfl hd_String_length ⟨Nat.le_of_ble_eq_true rfl, Nat.le_of_ble_eq_true rfl⟩) (x_preV hC hS hw (x_recvS hN hw4 hS)) rfl rfl hl.1 rfl (lv_room (Nat.le_of_ble_eq_true rfl)) d_Text_isExactly_18 ⟨Nat.le_of_ble_eq_true rfl, Nat.le_of_ble_eq_true rfl⟩) ?_
      refine lv_icmp_ge (tgt := 49) hx hb d_Text_isExactly_21 (by decide) (fun hc21 => ?_) (fun hc21 => ?_)
      · rw [if_pos hc21] at hE
        refine lv_iconst (v := (1 : Int32)) hx hb d_Text_isExactly_49 (by decide) ?_
        exact W.zret (v := (1 : Int32)) hx hb hr rfl (fun t ht hW => ⟨by rw [Option.some.inj hE], ht⟩) (fun q h => by cases h) d_Text_isExactly_50
      · rw [if_neg hc21] at hE
        refine lv_aload_n hx hb d_Text_isExactly_24 rfl (lv_at hl 0 rfl) ?_
        refine lv_iload_n hx hb d_Text_isExactly_25 rfl (lv_at hl 1 rfl) ?_
        refine lv_iload hx hb d_Text_isExactly_26 (lv_at hl 4 rfl) ?_
        refine lv_iadd hx hb d_Text_isExactly_28 ?_
        obtain ⟨r29, hC29, hE⟩ := x_bind hE
        refine x_callR (W.runV (As := [.int (a2 + l4)]) (rest := []) ⟨hx, hb, hml, hown, hu⟩ (t_Bytes_get l G σ o1 (a2 + l4) ho1 r29 hC29) (cwV 1 hu (uw_V mw_539 mw_540 mw_541 mw_63 mw_542) rfl rfl rfl hd_Bytes_get ⟨Nat.le_of_ble_eq_true rfl, Nat.le_of_ble_eq_true rfl⟩) (x_preV hC hS hw (va_recv hK hw (q := (R_Bytes, T_Bytes, 2)) (ci := 0) rfl (x_at (xB_lt ho1) (xcl_B G σ (xB_s ho1))))) rfl rfl hl.1 rfl (lv_room (Nat.le_of_ble_eq_true rfl)) d_Text_isExactly_29 ⟨Nat.le_of_ble_eq_true rfl, Nat.le_of_ble_eq_true rfl⟩) ?_
        refine lv_aload_n hx hb d_Text_isExactly_32 rfl (lv_at hl 3 rfl) ?_
        refine lv_iload hx hb d_Text_isExactly_33 (lv_at hl 4 rfl) ?_
        obtain ⟨r35, hC35, hE⟩ := x_bind hE
        refine x_callR (W.runV (As := [.int l4]) (rest := [.int r29]) ⟨hx, hb, hml, hown, hu⟩ (t_String_charAt l G σ w4 l4 hw4 r35 hC35) (cwV 1 hu (uw_V mw_647 mw_648 mw_649 mw_76 mw_650) rfl rfl rfl hd_String_charAt ⟨Nat.le_of_ble_eq_true rfl, Nat.le_of_ble_eq_true rfl⟩) (x_preV hC hS hw (x_recvS hN hw4 hS)) rfl rfl hl.1 rfl (lv_room (Nat.le_of_ble_eq_true rfl)) d_Text_isExactly_35 ⟨Nat.le_of_ble_eq_true rfl, Nat.le_of_ble_eq_true rfl⟩) ?_
        refine lv_icmp_eq (tgt := 43) hx hb d_Text_isExactly_38 (by decide) (fun hc38 => ?_) (fun hc38 => ?_)
        · rw [if_pos hc38] at hE
          obtain ⟨v43, e43, hE⟩ := x_letE hE
          refine lv_iinc hx hb d_Text_isExactly_43 hl (k := 4) rfl (x_inc v43 e43 (by decide)) (by decide) rfl (fun ls hl => ?_)
          have hl : lv_has ls 5 [(4, .int v43), (0, .ref (G.2.1 o1)), (1, .int a2), (2, .int a3), (3, .ref (G.2.2.2.1 w4))] := hl
          refine lv_goto (tgt := 15) hx hb d_Text_isExactly_46 (by decide) ?_
          exact ih _ _ hE (lv_sub hl [1, 2, 3, 4, 0] rfl)
        · rw [if_neg hc38] at hE
          refine lv_iconst (v := (0 : Int32)) hx hb d_Text_isExactly_41 (by decide) ?_
          exact W.zret (v := (0 : Int32)) hx hb hr rfl (fun t ht hW => ⟨by rw [Option.some.inj hE], ht⟩) (fun q h => by cases h) d_Text_isExactly_42
  have hl := lv_entry ([.ref (G.2.1 o1), .int a2, .int a3, .ref (G.2.2.2.1 w4)]) (n := 5) (Nat.le_of_ble_eq_true rfl)
  rw [lg_entry_eq]
  generalize (lg_sl ([.ref (G.2.1 o1), .int a2, .int a3, .ref (G.2.2.2.1 w4)]) ++ List.replicate (5 - (lg_sl ([.ref (G.2.1 o1), .int a2, .int a3, .ref (G.2.2.2.1 w4)])).length) Slot.unset).toArray = ls at hl ⊢
  have hl : lv_has ls 5 [(0, .ref (G.2.1 o1)), (1, .int a2), (2, .int a3), (3, .ref (G.2.2.2.1 w4))] := hl
  unfold x_Text_isExactly at hE
  refine lv_iload_n hx hb d_Text_isExactly_0 rfl (lv_at hl 2 rfl) ?_
  refine lv_iload_n hx hb d_Text_isExactly_1 rfl (lv_at hl 1 rfl) ?_
  refine lv_isub hx hb d_Text_isExactly_2 ?_
  refine lv_aload_n hx hb d_Text_isExactly_3 rfl (lv_at hl 3 rfl) ?_
  obtain ⟨r4, hC4, hE⟩ := x_bind hE
  refine x_callR (W.runV (As := []) (rest := [.int (a3 - a2)]) ⟨hx, hb, hml, hown, hu⟩ (t_String_length l G σ w4 hw4 r4 hC4) (cwV 0 hu (uw_V mw_646 mw_568 mw_569 mw_76 mw_570) rfl rfl rfl hd_String_length ⟨Nat.le_of_ble_eq_true rfl, Nat.le_of_ble_eq_true rfl⟩) (x_preV hC hS hw (x_recvS hN hw4 hS)) rfl rfl hl.1 rfl (lv_room (Nat.le_of_ble_eq_true rfl)) d_Text_isExactly_4 ⟨Nat.le_of_ble_eq_true rfl, Nat.le_of_ble_eq_true rfl⟩) ?_
  refine lv_icmp_eq (tgt := 12) hx hb d_Text_isExactly_7 (by decide) (fun hc7 => ?_) (fun hc7 => ?_)
  · rw [if_pos hc7] at hE
    refine lv_iconst (v := (0 : Int32)) hx hb d_Text_isExactly_12 (by decide) ?_
    refine lv_istore hx hb d_Text_isExactly_13 hl (by decide) rfl (fun ls hl => ?_)
    have hl : lv_has ls 5 [(4, .int (0 : Int32)), (0, .ref (G.2.1 o1)), (1, .int a2), (2, .int a3), (3, .ref (G.2.2.2.1 w4))] := hl
    exact jn15 x_fuel _ _ hE (lv_sub hl [1, 2, 3, 4, 0] rfl)
  · rw [if_neg hc7] at hE
    refine lv_iconst (v := (0 : Int32)) hx hb d_Text_isExactly_10 (by decide) ?_
    exact W.zret (v := (0 : Int32)) hx hb hr rfl (fun t ht hW => ⟨by rw [Option.some.inj hE], ht⟩) (fun q h => by cases h) d_Text_isExactly_11

def y_Text_isWord : MethodName := ⟨"PlainOrigin$Text", "isWord", "(LPlainOrigin$Bytes;IILjava/lang/String;)Z"⟩
def ws_Text_isWord : List Cond := Cond.code y_Text_isWord prog_12_method_12_code 5 (some .boolean) :: UW
theorem hd_Text_isWord : y_Text_isWord.cls ≠ "java/lang/invoke/MethodHandle" ∧ y_Text_isWord.cls ≠ "java/lang/invoke/VarHandle" ∧ (parseMethodDescriptor y_Text_isWord.desc).map (fun d => d.parameters.length) = some 4 := by decide +kernel
theorem d_Text_isWord_0 : decode prog_12_method_12_code 0 = .ok (.iload_n 2, 1) := by decide +kernel
theorem d_Text_isWord_1 : decode prog_12_method_12_code 1 = .ok (.iload_n 1, 1) := by decide +kernel
theorem d_Text_isWord_2 : decode prog_12_method_12_code 2 = .ok (.isub, 1) := by decide +kernel
theorem d_Text_isWord_3 : decode prog_12_method_12_code 3 = .ok (.aload_n 3, 1) := by decide +kernel
theorem d_Text_isWord_4 : decode prog_12_method_12_code 4 = .ok (.invokevirtual 29, 3) := by decide +kernel
theorem d_Text_isWord_7 : decode prog_12_method_12_code 7 = .ok (.if_icmp .eq (5), 3) := by decide +kernel
theorem d_Text_isWord_10 : decode prog_12_method_12_code 10 = .ok (.iconst 0, 1) := by decide +kernel
theorem d_Text_isWord_11 : decode prog_12_method_12_code 11 = .ok (.ireturn, 1) := by decide +kernel
theorem d_Text_isWord_12 : decode prog_12_method_12_code 12 = .ok (.iconst 0, 1) := by decide +kernel
theorem d_Text_isWord_13 : decode prog_12_method_12_code 13 = .ok (.istore 4, 2) := by decide +kernel
theorem d_Text_isWord_15 : decode prog_12_method_12_code 15 = .ok (.iload 4, 2) := by decide +kernel
theorem d_Text_isWord_17 : decode prog_12_method_12_code 17 = .ok (.aload_n 3, 1) := by decide +kernel
theorem d_Text_isWord_18 : decode prog_12_method_12_code 18 = .ok (.invokevirtual 29, 3) := by decide +kernel
theorem d_Text_isWord_21 : decode prog_12_method_12_code 21 = .ok (.if_icmp .ge (31), 3) := by decide +kernel
theorem d_Text_isWord_24 : decode prog_12_method_12_code 24 = .ok (.aload_n 0, 1) := by decide +kernel
theorem d_Text_isWord_25 : decode prog_12_method_12_code 25 = .ok (.iload_n 1, 1) := by decide +kernel
theorem d_Text_isWord_26 : decode prog_12_method_12_code 26 = .ok (.iload 4, 2) := by decide +kernel
theorem d_Text_isWord_28 : decode prog_12_method_12_code 28 = .ok (.iadd, 1) := by decide +kernel
theorem d_Text_isWord_29 : decode prog_12_method_12_code 29 = .ok (.invokevirtual 21, 3) := by decide +kernel
theorem d_Text_isWord_32 : decode prog_12_method_12_code 32 = .ok (.invokestatic 37, 3) := by decide +kernel
theorem d_Text_isWord_35 : decode prog_12_method_12_code 35 = .ok (.aload_n 3, 1) := by decide +kernel
theorem d_Text_isWord_36 : decode prog_12_method_12_code 36 = .ok (.iload 4, 2) := by decide +kernel
theorem d_Text_isWord_38 : decode prog_12_method_12_code 38 = .ok (.invokevirtual 33, 3) := by decide +kernel
theorem d_Text_isWord_41 : decode prog_12_method_12_code 41 = .ok (.if_icmp .eq (5), 3) := by decide +kernel
theorem d_Text_isWord_44 : decode prog_12_method_12_code 44 = .ok (.iconst 0, 1) := by decide +kernel
theorem d_Text_isWord_45 : decode prog_12_method_12_code 45 = .ok (.ireturn, 1) := by decide +kernel
theorem d_Text_isWord_46 : decode prog_12_method_12_code 46 = .ok (.iinc 4 (1), 3) := by decide +kernel
theorem d_Text_isWord_49 : decode prog_12_method_12_code 49 = .ok (.goto (-34), 3) := by decide +kernel
theorem d_Text_isWord_52 : decode prog_12_method_12_code 52 = .ok (.iconst 1, 1) := by decide +kernel
theorem d_Text_isWord_53 : decode prog_12_method_12_code 53 = .ok (.ireturn, 1) := by decide +kernel
def x_Text_isWord_15 (o1 : Nat) (a2 : Int32) (a3 : Int32) (w4 : Nat) (σ : St) : Nat → Int32 → Option Int32
  | 0, _ => none
  | n + 1, l4 => (Option.bind (x_String_length w4) (fun r18 => (if r18 ≤ l4 then some (1 : Int32) else (Option.bind (x_Bytes_get o1 (a2 + l4) σ) (fun r29 => (Option.bind (x_Text_lower r29) (fun r32 => (Option.bind (x_String_charAt w4 l4) (fun r38 => (if r32 = r38 then (x_let (l4 + (1 : Int32)) (fun (v46 : Int32) => x_Text_isWord_15 o1 a2 a3 w4 σ n v46)) else some (0 : Int32)))))))))))
def x_Text_isWord (o1 : Nat) (a2 : Int32) (a3 : Int32) (w4 : Nat) (σ : St) : Option Int32 := (Option.bind (x_String_length w4) (fun r4 => (if (a3 - a2) = r4 then x_Text_isWord_15 o1 a2 a3 w4 σ x_fuel (0 : Int32) else some (0 : Int32))))
abbrev rm_Text_isWord : Room := { frames := 4, cells := 0, slots := 0, locals := 85 }
set_option maxHeartbeats 4000000 in
set_option maxRecDepth 100000 in
theorem t_Text_isWord (l : Launch) (G : xG) (σ : St) (o1 : Nat) (a2 : Int32) (a3 : Int32) (w4 : Nat) (ho1 : xB o1) (hw4 : w4 < nStr) (r : Int32) (hE : x_Text_isWord o1 a2 a3 w4 σ = some r) : Met l y_Text_isWord (ws_Text_isWord) rm_Text_isWord (xP G σ [.ref (G.2.1 o1), .int a2, .int a3, .ref (G.2.2.2.1 w4)]) (xRd (some (.int r))) 0 0 (fun _ => False) := by
  refine Met.ofW (cc := prog_12_method_12_code) (maxL := 5) (ret := (some .boolean)) (by decide) rfl ?_
  intro p e s m args below meth c s₁ B hml hv
  obtain ⟨rfl, hw, hC⟩ := hv
  have hx := B.exec
  have hb := B.bytes
  have hr := B.returns
  have hu : ∀ w ∈ UW, w.before _ s = true := fun w h => atoms_spec B.pre w (List.mem_cons_of_mem _ h)
  have hown : s.vm.findClass R_Text = some m.cls := findClass_of_methodNamed B.named
  have hlocks := B.notSynchronized
  have hK := hC.1
  have hI := hC.2.1
  have hG := hC.2.2.1
  have hN := hC.2.2.2
  have hS : va_S (xA G) s.heap s.heap [] := va_S.rf
  have jn15 : ∀ (n : Nat) (ls : Array Slot) (l4 : Int32), x_Text_isWord_15 o1 a2 a3 w4 σ n l4 = some r → lv_has ls 5 [(0, .ref (G.2.1 o1)), (1, .int a2), (2, .int a3), (3, .ref (G.2.2.2.1 w4)), (4, .int l4)] → W p l e (headSpec (ws_Text_isWord) rm_Text_isWord).room s m ([.ref (G.2.1 o1), .int a2, .int a3, .ref (G.2.2.2.1 w4)] : List Value).toArray below meth c s.heap [] 0 0 (MQ below (xRd (some (.int r))) ([.ref (G.2.1 o1), .int a2, .int a3, .ref (G.2.2.2.1 w4)] : List Value).toArray s 0 0 (fun _ => False)) (F0 m 15 ls []) := by
    intro n
    induction n with
    | zero => intro ls l4 hE; rw [x_Text_isWord_15] at hE; cases hE
    | succ n ih =>
      intro ls l4 hE hl
      rw [x_Text_isWord_15] at hE
      refine lv_iload hx hb d_Text_isWord_15 (lv_at hl 4 rfl) ?_
      refine lv_aload_n hx hb d_Text_isWord_17 rfl (lv_at hl 3 rfl) ?_
      obtain ⟨r18, hC18, hE⟩ := x_bind hE
      refine x_callR (W.runV (As := []) (rest := [.int l4]) ⟨hx, hb, hml, hown, hu⟩ (t_String_length l G σ w4 hw4 r18 hC18) (cwV 0 hu (uw_V mw_646 mw_568 mw_569 mw_76 mw_570) rfl rfl rfl hd_String_length ⟨Nat.le_of_ble_eq_true rfl, Nat.le_of_ble_eq_true rfl⟩) (x_preV hC hS hw (x_recvS hN hw4 hS)) rfl rfl hl.1 rfl (lv_room (Nat.le_of_ble_eq_true rfl)) d_Text_isWord_18 ⟨Nat.le_of_ble_eq_true rfl, Nat.le_of_ble_eq_true rfl⟩) ?_
      refine lv_icmp_ge (tgt := 52) hx hb d_Text_isWord_21 (by decide) (fun hc21 => ?_) (fun hc21 => ?_)
      · rw [if_pos hc21] at hE
        refine lv_iconst (v := (1 : Int32)) hx hb d_Text_isWord_52 (by decide) ?_
        exact W.zret (v := (1 : Int32)) hx hb hr rfl (fun t ht hW => ⟨by rw [Option.some.inj hE], ht⟩) (fun q h => by cases h) d_Text_isWord_53
      · rw [if_neg hc21] at hE
        refine lv_aload_n hx hb d_Text_isWord_24 rfl (lv_at hl 0 rfl) ?_
        refine lv_iload_n hx hb d_Text_isWord_25 rfl (lv_at hl 1 rfl) ?_
        refine lv_iload hx hb d_Text_isWord_26 (lv_at hl 4 rfl) ?_
        refine lv_iadd hx hb d_Text_isWord_28 ?_
        obtain ⟨r29, hC29, hE⟩ := x_bind hE
        refine x_callR (W.runV (As := [.int (a2 + l4)]) (rest := []) ⟨hx, hb, hml, hown, hu⟩ (t_Bytes_get l G σ o1 (a2 + l4) ho1 r29 hC29) (cwV 1 hu (uw_V mw_539 mw_540 mw_541 mw_63 mw_542) rfl rfl rfl hd_Bytes_get ⟨Nat.le_of_ble_eq_true rfl, Nat.le_of_ble_eq_true rfl⟩) (x_preV hC hS hw (va_recv hK hw (q := (R_Bytes, T_Bytes, 2)) (ci := 0) rfl (x_at (xB_lt ho1) (xcl_B G σ (xB_s ho1))))) rfl rfl hl.1 rfl (lv_room (Nat.le_of_ble_eq_true rfl)) d_Text_isWord_29 ⟨Nat.le_of_ble_eq_true rfl, Nat.le_of_ble_eq_true rfl⟩) ?_
        obtain ⟨r32, hC32, hE⟩ := x_bind hE
        refine x_callR (W.runS (As := [.int r29]) (rest := []) ⟨hx, hb, hml, hown, hu⟩ (t_Text_lower l G σ r29 r32 hC32) (va_cwS 1 hu (uw_S mw_752 mw_753 mw_75 mw_754) rfl rfl rfl hd_Text_lower ⟨Nat.le_of_ble_eq_true rfl, Nat.le_of_ble_eq_true rfl⟩) (x_preS hC hS hw) rfl rfl hl.1 rfl (lv_room (Nat.le_of_ble_eq_true rfl)) d_Text_isWord_32 ⟨Nat.le_of_ble_eq_true rfl, Nat.le_of_ble_eq_true rfl⟩) ?_
        refine lv_aload_n hx hb d_Text_isWord_35 rfl (lv_at hl 3 rfl) ?_
        refine lv_iload hx hb d_Text_isWord_36 (lv_at hl 4 rfl) ?_
        obtain ⟨r38, hC38, hE⟩ := x_bind hE
        refine x_callR (W.runV (As := [.int l4]) (rest := [.int r32]) ⟨hx, hb, hml, hown, hu⟩ (t_String_charAt l G σ w4 l4 hw4 r38 hC38) (cwV 1 hu (uw_V mw_647 mw_648 mw_649 mw_76 mw_650) rfl rfl rfl hd_String_charAt ⟨Nat.le_of_ble_eq_true rfl, Nat.le_of_ble_eq_true rfl⟩) (x_preV hC hS hw (x_recvS hN hw4 hS)) rfl rfl hl.1 rfl (lv_room (Nat.le_of_ble_eq_true rfl)) d_Text_isWord_38 ⟨Nat.le_of_ble_eq_true rfl, Nat.le_of_ble_eq_true rfl⟩) ?_
        refine lv_icmp_eq (tgt := 46) hx hb d_Text_isWord_41 (by decide) (fun hc41 => ?_) (fun hc41 => ?_)
        · rw [if_pos hc41] at hE
          obtain ⟨v46, e46, hE⟩ := x_letE hE
          refine lv_iinc hx hb d_Text_isWord_46 hl (k := 4) rfl (x_inc v46 e46 (by decide)) (by decide) rfl (fun ls hl => ?_)
          have hl : lv_has ls 5 [(4, .int v46), (0, .ref (G.2.1 o1)), (1, .int a2), (2, .int a3), (3, .ref (G.2.2.2.1 w4))] := hl
          refine lv_goto (tgt := 15) hx hb d_Text_isWord_49 (by decide) ?_
          exact ih _ _ hE (lv_sub hl [1, 2, 3, 4, 0] rfl)
        · rw [if_neg hc41] at hE
          refine lv_iconst (v := (0 : Int32)) hx hb d_Text_isWord_44 (by decide) ?_
          exact W.zret (v := (0 : Int32)) hx hb hr rfl (fun t ht hW => ⟨by rw [Option.some.inj hE], ht⟩) (fun q h => by cases h) d_Text_isWord_45
  have hl := lv_entry ([.ref (G.2.1 o1), .int a2, .int a3, .ref (G.2.2.2.1 w4)]) (n := 5) (Nat.le_of_ble_eq_true rfl)
  rw [lg_entry_eq]
  generalize (lg_sl ([.ref (G.2.1 o1), .int a2, .int a3, .ref (G.2.2.2.1 w4)]) ++ List.replicate (5 - (lg_sl ([.ref (G.2.1 o1), .int a2, .int a3, .ref (G.2.2.2.1 w4)])).length) Slot.unset).toArray = ls at hl ⊢
  have hl : lv_has ls 5 [(0, .ref (G.2.1 o1)), (1, .int a2), (2, .int a3), (3, .ref (G.2.2.2.1 w4))] := hl
  unfold x_Text_isWord at hE
  refine lv_iload_n hx hb d_Text_isWord_0 rfl (lv_at hl 2 rfl) ?_
  refine lv_iload_n hx hb d_Text_isWord_1 rfl (lv_at hl 1 rfl) ?_
  refine lv_isub hx hb d_Text_isWord_2 ?_
  refine lv_aload_n hx hb d_Text_isWord_3 rfl (lv_at hl 3 rfl) ?_
  obtain ⟨r4, hC4, hE⟩ := x_bind hE
  refine x_callR (W.runV (As := []) (rest := [.int (a3 - a2)]) ⟨hx, hb, hml, hown, hu⟩ (t_String_length l G σ w4 hw4 r4 hC4) (cwV 0 hu (uw_V mw_646 mw_568 mw_569 mw_76 mw_570) rfl rfl rfl hd_String_length ⟨Nat.le_of_ble_eq_true rfl, Nat.le_of_ble_eq_true rfl⟩) (x_preV hC hS hw (x_recvS hN hw4 hS)) rfl rfl hl.1 rfl (lv_room (Nat.le_of_ble_eq_true rfl)) d_Text_isWord_4 ⟨Nat.le_of_ble_eq_true rfl, Nat.le_of_ble_eq_true rfl⟩) ?_
  refine lv_icmp_eq (tgt := 12) hx hb d_Text_isWord_7 (by decide) (fun hc7 => ?_) (fun hc7 => ?_)
  · rw [if_pos hc7] at hE
    refine lv_iconst (v := (0 : Int32)) hx hb d_Text_isWord_12 (by decide) ?_
    refine lv_istore hx hb d_Text_isWord_13 hl (by decide) rfl (fun ls hl => ?_)
    have hl : lv_has ls 5 [(4, .int (0 : Int32)), (0, .ref (G.2.1 o1)), (1, .int a2), (2, .int a3), (3, .ref (G.2.2.2.1 w4))] := hl
    exact jn15 x_fuel _ _ hE (lv_sub hl [1, 2, 3, 4, 0] rfl)
  · rw [if_neg hc7] at hE
    refine lv_iconst (v := (0 : Int32)) hx hb d_Text_isWord_10 (by decide) ?_
    exact W.zret (v := (0 : Int32)) hx hb hr rfl (fun t ht hW => ⟨by rw [Option.some.inj hE], ht⟩) (fun q h => by cases h) d_Text_isWord_11

def y_Text_isToken : MethodName := ⟨"PlainOrigin$Text", "isToken", "(LPlainOrigin$Bytes;II)Z"⟩
def ws_Text_isToken : List Cond := Cond.code y_Text_isToken prog_12_method_13_code 4 (some .boolean) :: UW
theorem hd_Text_isToken : y_Text_isToken.cls ≠ "java/lang/invoke/MethodHandle" ∧ y_Text_isToken.cls ≠ "java/lang/invoke/VarHandle" ∧ (parseMethodDescriptor y_Text_isToken.desc).map (fun d => d.parameters.length) = some 3 := by decide +kernel
theorem d_Text_isToken_0 : decode prog_12_method_13_code 0 = .ok (.iload_n 1, 1) := by decide +kernel
theorem d_Text_isToken_1 : decode prog_12_method_13_code 1 = .ok (.istore_n 3, 1) := by decide +kernel
theorem d_Text_isToken_2 : decode prog_12_method_13_code 2 = .ok (.iload_n 3, 1) := by decide +kernel
theorem d_Text_isToken_3 : decode prog_12_method_13_code 3 = .ok (.iload_n 2, 1) := by decide +kernel
theorem d_Text_isToken_4 : decode prog_12_method_13_code 4 = .ok (.if_icmp .ge (24), 3) := by decide +kernel
theorem d_Text_isToken_7 : decode prog_12_method_13_code 7 = .ok (.aload_n 0, 1) := by decide +kernel
theorem d_Text_isToken_8 : decode prog_12_method_13_code 8 = .ok (.iload_n 3, 1) := by decide +kernel
theorem d_Text_isToken_9 : decode prog_12_method_13_code 9 = .ok (.invokevirtual 21, 3) := by decide +kernel
theorem d_Text_isToken_12 : decode prog_12_method_13_code 12 = .ok (.ldc 40, 2) := by decide +kernel
theorem d_Text_isToken_14 : decode prog_12_method_13_code 14 = .ok (.invokestatic 42, 3) := by decide +kernel
theorem d_Text_isToken_17 : decode prog_12_method_13_code 17 = .ok (.ifCond .ne (5), 3) := by decide +kernel
theorem d_Text_isToken_20 : decode prog_12_method_13_code 20 = .ok (.iconst 0, 1) := by decide +kernel
theorem d_Text_isToken_21 : decode prog_12_method_13_code 21 = .ok (.ireturn, 1) := by decide +kernel
theorem d_Text_isToken_22 : decode prog_12_method_13_code 22 = .ok (.iinc 3 (1), 3) := by decide +kernel
theorem d_Text_isToken_25 : decode prog_12_method_13_code 25 = .ok (.goto (-23), 3) := by decide +kernel
theorem d_Text_isToken_28 : decode prog_12_method_13_code 28 = .ok (.iload_n 1, 1) := by decide +kernel
theorem d_Text_isToken_29 : decode prog_12_method_13_code 29 = .ok (.iload_n 2, 1) := by decide +kernel
theorem d_Text_isToken_30 : decode prog_12_method_13_code 30 = .ok (.if_icmp .ge (7), 3) := by decide +kernel
theorem d_Text_isToken_33 : decode prog_12_method_13_code 33 = .ok (.iconst 1, 1) := by decide +kernel
theorem d_Text_isToken_34 : decode prog_12_method_13_code 34 = .ok (.goto (4), 3) := by decide +kernel
theorem d_Text_isToken_37 : decode prog_12_method_13_code 37 = .ok (.iconst 0, 1) := by decide +kernel
theorem d_Text_isToken_38 : decode prog_12_method_13_code 38 = .ok (.ireturn, 1) := by decide +kernel
def x_Text_isToken_2 (o1 : Nat) (a2 : Int32) (a3 : Int32) (σ : St) : Nat → Int32 → Option Int32
  | 0, _ => none
  | n + 1, l3 => (if a3 ≤ l3 then (if a3 ≤ a2 then some (0 : Int32) else some (1 : Int32)) else (Option.bind (x_Bytes_get o1 l3 σ) (fun r9 => (Option.bind (x_Text_isLetterDigitOr r9 1) (fun r14 => (if r14 = 0 then some (0 : Int32) else (x_let (l3 + (1 : Int32)) (fun (v22 : Int32) => x_Text_isToken_2 o1 a2 a3 σ n v22))))))))
def x_Text_isToken (o1 : Nat) (a2 : Int32) (a3 : Int32) (σ : St) : Option Int32 := x_Text_isToken_2 o1 a2 a3 σ x_fuel a2
abbrev rm_Text_isToken : Room := { frames := 5, cells := 0, slots := 0, locals := 112 }
set_option maxHeartbeats 4000000 in
set_option maxRecDepth 100000 in
theorem t_Text_isToken (l : Launch) (G : xG) (σ : St) (o1 : Nat) (a2 : Int32) (a3 : Int32) (ho1 : xB o1) (r : Int32) (hE : x_Text_isToken o1 a2 a3 σ = some r) : Met l y_Text_isToken (ws_Text_isToken) rm_Text_isToken (xP G σ [.ref (G.2.1 o1), .int a2, .int a3]) (xRd (some (.int r))) 0 0 (fun _ => False) := by
  refine Met.ofW (cc := prog_12_method_13_code) (maxL := 4) (ret := (some .boolean)) (by decide) rfl ?_
  intro p e s m args below meth c s₁ B hml hv
  obtain ⟨rfl, hw, hC⟩ := hv
  have hx := B.exec
  have hb := B.bytes
  have hr := B.returns
  have hu : ∀ w ∈ UW, w.before _ s = true := fun w h => atoms_spec B.pre w (List.mem_cons_of_mem _ h)
  have hown : s.vm.findClass R_Text = some m.cls := findClass_of_methodNamed B.named
  have hlocks := B.notSynchronized
  have hK := hC.1
  have hI := hC.2.1
  have hG := hC.2.2.1
  have hN := hC.2.2.2
  have hS : va_S (xA G) s.heap s.heap [] := va_S.rf
  have jn2 : ∀ (n : Nat) (ls : Array Slot) (l3 : Int32), x_Text_isToken_2 o1 a2 a3 σ n l3 = some r → lv_has ls 4 [(0, .ref (G.2.1 o1)), (1, .int a2), (2, .int a3), (3, .int l3)] → W p l e (headSpec (ws_Text_isToken) rm_Text_isToken).room s m ([.ref (G.2.1 o1), .int a2, .int a3] : List Value).toArray below meth c s.heap [] 0 0 (MQ below (xRd (some (.int r))) ([.ref (G.2.1 o1), .int a2, .int a3] : List Value).toArray s 0 0 (fun _ => False)) (F0 m 2 ls []) := by
    intro n
    induction n with
    | zero => intro ls l3 hE; rw [x_Text_isToken_2] at hE; cases hE
    | succ n ih =>
      intro ls l3 hE hl
      rw [x_Text_isToken_2] at hE
      refine lv_iload_n hx hb d_Text_isToken_2 rfl (lv_at hl 3 rfl) ?_
      refine lv_iload_n hx hb d_Text_isToken_3 rfl (lv_at hl 2 rfl) ?_
      refine lv_icmp_ge (tgt := 28) hx hb d_Text_isToken_4 (by decide) (fun hc4 => ?_) (fun hc4 => ?_)
      · rw [if_pos hc4] at hE
        refine lv_iload_n hx hb d_Text_isToken_28 rfl (lv_at hl 1 rfl) ?_
        refine lv_iload_n hx hb d_Text_isToken_29 rfl (lv_at hl 2 rfl) ?_
        refine lv_icmp_ge (tgt := 37) hx hb d_Text_isToken_30 (by decide) (fun hc30 => ?_) (fun hc30 => ?_)
        · rw [if_pos hc30] at hE
          refine lv_iconst (v := (0 : Int32)) hx hb d_Text_isToken_37 (by decide) ?_
          exact W.zret (v := (0 : Int32)) hx hb hr rfl (fun t ht hW => ⟨by rw [Option.some.inj hE], ht⟩) (fun q h => by cases h) d_Text_isToken_38
        · rw [if_neg hc30] at hE
          refine lv_iconst (v := (1 : Int32)) hx hb d_Text_isToken_33 (by decide) ?_
          refine lv_goto (tgt := 38) hx hb d_Text_isToken_34 (by decide) ?_
          exact W.zret (v := (1 : Int32)) hx hb hr rfl (fun t ht hW => ⟨by rw [Option.some.inj hE], ht⟩) (fun q h => by cases h) d_Text_isToken_38
      · rw [if_neg hc4] at hE
        refine lv_aload_n hx hb d_Text_isToken_7 rfl (lv_at hl 0 rfl) ?_
        refine lv_iload_n hx hb d_Text_isToken_8 rfl (lv_at hl 3 rfl) ?_
        obtain ⟨r9, hC9, hE⟩ := x_bind hE
        refine x_callR (W.runV (As := [.int l3]) (rest := []) ⟨hx, hb, hml, hown, hu⟩ (t_Bytes_get l G σ o1 l3 ho1 r9 hC9) (cwV 1 hu (uw_V mw_539 mw_540 mw_541 mw_63 mw_542) rfl rfl rfl hd_Bytes_get ⟨Nat.le_of_ble_eq_true rfl, Nat.le_of_ble_eq_true rfl⟩) (x_preV hC hS hw (va_recv hK hw (q := (R_Bytes, T_Bytes, 2)) (ci := 0) rfl (x_at (xB_lt ho1) (xcl_B G σ (xB_s ho1))))) rfl rfl hl.1 rfl (lv_room (Nat.le_of_ble_eq_true rfl)) d_Text_isToken_9 ⟨Nat.le_of_ble_eq_true rfl, Nat.le_of_ble_eq_true rfl⟩) ?_
        refine va_ldcS hx hb hown (str_1 hN) d_Text_isToken_12 ?_
        obtain ⟨r14, hC14, hE⟩ := x_bind hE
        refine x_callR (W.runS (As := [.int r9, .ref (G.2.2.2.1 1)]) (rest := []) ⟨hx, hb, hml, hown, hu⟩ (t_Text_isLetterDigitOr l G σ r9 1 (by decide) r14 hC14) (va_cwS 2 hu (uw_S mw_547 mw_548 mw_75 mw_549) rfl rfl rfl hd_Text_isLetterDigitOr ⟨Nat.le_of_ble_eq_true rfl, Nat.le_of_ble_eq_true rfl⟩) (x_preS hC hS hw) rfl rfl hl.1 rfl (lv_room (Nat.le_of_ble_eq_true rfl)) d_Text_isToken_14 ⟨Nat.le_of_ble_eq_true rfl, Nat.le_of_ble_eq_true rfl⟩) ?_
        refine lv_if_ne (tgt := 22) hx hb d_Text_isToken_17 (by decide) (fun hc17 => ?_) (fun hc17 => ?_)
        · rw [if_neg hc17] at hE
          obtain ⟨v22, e22, hE⟩ := x_letE hE
          refine lv_iinc hx hb d_Text_isToken_22 hl (k := 3) rfl (x_inc v22 e22 (by decide)) (by decide) rfl (fun ls hl => ?_)
          have hl : lv_has ls 4 [(3, .int v22), (0, .ref (G.2.1 o1)), (1, .int a2), (2, .int a3)] := hl
          refine lv_goto (tgt := 2) hx hb d_Text_isToken_25 (by decide) ?_
          exact ih _ _ hE (lv_sub hl [1, 2, 3, 0] rfl)
        · rw [if_pos hc17] at hE
          refine lv_iconst (v := (0 : Int32)) hx hb d_Text_isToken_20 (by decide) ?_
          exact W.zret (v := (0 : Int32)) hx hb hr rfl (fun t ht hW => ⟨by rw [Option.some.inj hE], ht⟩) (fun q h => by cases h) d_Text_isToken_21
  have hl := lv_entry ([.ref (G.2.1 o1), .int a2, .int a3]) (n := 4) (Nat.le_of_ble_eq_true rfl)
  rw [lg_entry_eq]
  generalize (lg_sl ([.ref (G.2.1 o1), .int a2, .int a3]) ++ List.replicate (4 - (lg_sl ([.ref (G.2.1 o1), .int a2, .int a3])).length) Slot.unset).toArray = ls at hl ⊢
  have hl : lv_has ls 4 [(0, .ref (G.2.1 o1)), (1, .int a2), (2, .int a3)] := hl
  unfold x_Text_isToken at hE
  refine lv_iload_n hx hb d_Text_isToken_0 rfl (lv_at hl 1 rfl) ?_
  refine lv_istore_n hx hb d_Text_isToken_1 rfl hl (by decide) rfl (fun ls hl => ?_)
  have hl : lv_has ls 4 [(3, .int a2), (0, .ref (G.2.1 o1)), (1, .int a2), (2, .int a3)] := hl
  exact jn2 x_fuel _ _ hE (lv_sub hl [1, 2, 3, 0] rfl)

def y_Text_isTarget : MethodName := ⟨"PlainOrigin$Text", "isTarget", "(LPlainOrigin$Bytes;II)Z"⟩
def ws_Text_isTarget : List Cond := Cond.code y_Text_isTarget prog_12_method_14_code 6 (some .boolean) :: UW
theorem hd_Text_isTarget : y_Text_isTarget.cls ≠ "java/lang/invoke/MethodHandle" ∧ y_Text_isTarget.cls ≠ "java/lang/invoke/VarHandle" ∧ (parseMethodDescriptor y_Text_isTarget.desc).map (fun d => d.parameters.length) = some 3 := by decide +kernel
theorem d_Text_isTarget_0 : decode prog_12_method_14_code 0 = .ok (.iload_n 1, 1) := by decide +kernel
theorem d_Text_isTarget_1 : decode prog_12_method_14_code 1 = .ok (.istore_n 3, 1) := by decide +kernel
theorem d_Text_isTarget_2 : decode prog_12_method_14_code 2 = .ok (.iload_n 3, 1) := by decide +kernel
theorem d_Text_isTarget_3 : decode prog_12_method_14_code 3 = .ok (.iload_n 2, 1) := by decide +kernel
theorem d_Text_isTarget_4 : decode prog_12_method_14_code 4 = .ok (.if_icmp .ge (48), 3) := by decide +kernel
theorem d_Text_isTarget_7 : decode prog_12_method_14_code 7 = .ok (.aload_n 0, 1) := by decide +kernel
theorem d_Text_isTarget_8 : decode prog_12_method_14_code 8 = .ok (.iload_n 3, 1) := by decide +kernel
theorem d_Text_isTarget_9 : decode prog_12_method_14_code 9 = .ok (.invokevirtual 21, 3) := by decide +kernel
theorem d_Text_isTarget_12 : decode prog_12_method_14_code 12 = .ok (.istore 4, 2) := by decide +kernel
theorem d_Text_isTarget_14 : decode prog_12_method_14_code 14 = .ok (.iload 4, 2) := by decide +kernel
theorem d_Text_isTarget_16 : decode prog_12_method_14_code 16 = .ok (.bipush (37), 2) := by decide +kernel
theorem d_Text_isTarget_18 : decode prog_12_method_14_code 18 = .ok (.if_icmp .ne (12), 3) := by decide +kernel
theorem d_Text_isTarget_21 : decode prog_12_method_14_code 21 = .ok (.aload_n 0, 1) := by decide +kernel
theorem d_Text_isTarget_22 : decode prog_12_method_14_code 22 = .ok (.iload_n 3, 1) := by decide +kernel
theorem d_Text_isTarget_23 : decode prog_12_method_14_code 23 = .ok (.iload_n 2, 1) := by decide +kernel
theorem d_Text_isTarget_24 : decode prog_12_method_14_code 24 = .ok (.invokestatic 46, 3) := by decide +kernel
theorem d_Text_isTarget_27 : decode prog_12_method_14_code 27 = .ok (.goto (10), 3) := by decide +kernel
theorem d_Text_isTarget_30 : decode prog_12_method_14_code 30 = .ok (.iload 4, 2) := by decide +kernel
theorem d_Text_isTarget_32 : decode prog_12_method_14_code 32 = .ok (.ldc 50, 2) := by decide +kernel
theorem d_Text_isTarget_34 : decode prog_12_method_14_code 34 = .ok (.invokestatic 42, 3) := by decide +kernel
theorem d_Text_isTarget_37 : decode prog_12_method_14_code 37 = .ok (.istore 5, 2) := by decide +kernel
theorem d_Text_isTarget_39 : decode prog_12_method_14_code 39 = .ok (.iload 5, 2) := by decide +kernel
theorem d_Text_isTarget_41 : decode prog_12_method_14_code 41 = .ok (.ifCond .ne (5), 3) := by decide +kernel
theorem d_Text_isTarget_44 : decode prog_12_method_14_code 44 = .ok (.iconst 0, 1) := by decide +kernel
theorem d_Text_isTarget_45 : decode prog_12_method_14_code 45 = .ok (.ireturn, 1) := by decide +kernel
theorem d_Text_isTarget_46 : decode prog_12_method_14_code 46 = .ok (.iinc 3 (1), 3) := by decide +kernel
theorem d_Text_isTarget_49 : decode prog_12_method_14_code 49 = .ok (.goto (-47), 3) := by decide +kernel
theorem d_Text_isTarget_52 : decode prog_12_method_14_code 52 = .ok (.iload_n 1, 1) := by decide +kernel
theorem d_Text_isTarget_53 : decode prog_12_method_14_code 53 = .ok (.iload_n 2, 1) := by decide +kernel
theorem d_Text_isTarget_54 : decode prog_12_method_14_code 54 = .ok (.if_icmp .ge (7), 3) := by decide +kernel
theorem d_Text_isTarget_57 : decode prog_12_method_14_code 57 = .ok (.iconst 1, 1) := by decide +kernel
theorem d_Text_isTarget_58 : decode prog_12_method_14_code 58 = .ok (.goto (4), 3) := by decide +kernel
theorem d_Text_isTarget_61 : decode prog_12_method_14_code 61 = .ok (.iconst 0, 1) := by decide +kernel
theorem d_Text_isTarget_62 : decode prog_12_method_14_code 62 = .ok (.ireturn, 1) := by decide +kernel
def x_Text_isTarget_37 (o1 : Nat) (a2 : Int32) (a3 : Int32) (σ : St) (bk2 : Int32 → Option Int32) (l3 : Int32) (k0 : Int32) : Option Int32 := (if k0 = 0 then some (0 : Int32) else (x_let (l3 + (1 : Int32)) (fun (v46 : Int32) => bk2 v46)))
def x_Text_isTarget_2 (o1 : Nat) (a2 : Int32) (a3 : Int32) (σ : St) : Nat → Int32 → Option Int32
  | 0, _ => none
  | n + 1, l3 => (if a3 ≤ l3 then (if a3 ≤ a2 then some (0 : Int32) else some (1 : Int32)) else (Option.bind (x_Bytes_get o1 l3 σ) (fun r9 => (if r9 = (37 : Int32) then (Option.bind (x_Text_isEscape o1 l3 a3 σ) (fun r24 => x_Text_isTarget_37 o1 a2 a3 σ (x_Text_isTarget_2 o1 a2 a3 σ n) l3 r24)) else (Option.bind (x_Text_isLetterDigitOr r9 3) (fun r34 => x_Text_isTarget_37 o1 a2 a3 σ (x_Text_isTarget_2 o1 a2 a3 σ n) l3 r34))))))
def x_Text_isTarget (o1 : Nat) (a2 : Int32) (a3 : Int32) (σ : St) : Option Int32 := x_Text_isTarget_2 o1 a2 a3 σ x_fuel a2
abbrev rm_Text_isTarget : Room := { frames := 5, cells := 0, slots := 0, locals := 112 }
set_option maxHeartbeats 4000000 in
set_option maxRecDepth 100000 in
theorem t_Text_isTarget (l : Launch) (G : xG) (σ : St) (o1 : Nat) (a2 : Int32) (a3 : Int32) (ho1 : xB o1) (r : Int32) (hE : x_Text_isTarget o1 a2 a3 σ = some r) : Met l y_Text_isTarget (ws_Text_isTarget) rm_Text_isTarget (xP G σ [.ref (G.2.1 o1), .int a2, .int a3]) (xRd (some (.int r))) 0 0 (fun _ => False) := by
  refine Met.ofW (cc := prog_12_method_14_code) (maxL := 6) (ret := (some .boolean)) (by decide) rfl ?_
  intro p e s m args below meth c s₁ B hml hv
  obtain ⟨rfl, hw, hC⟩ := hv
  have hx := B.exec
  have hb := B.bytes
  have hr := B.returns
  have hu : ∀ w ∈ UW, w.before _ s = true := fun w h => atoms_spec B.pre w (List.mem_cons_of_mem _ h)
  have hown : s.vm.findClass R_Text = some m.cls := findClass_of_methodNamed B.named
  have hlocks := B.notSynchronized
  have hK := hC.1
  have hI := hC.2.1
  have hG := hC.2.2.1
  have hN := hC.2.2.2
  have hS : va_S (xA G) s.heap s.heap [] := va_S.rf
  have jn37 : ∀ (bk2 : Int32 → Option Int32) (hbk2 : ∀ (ls : Array Slot) (l3 : Int32), bk2 l3 = some r → lv_has ls 6 [(0, .ref (G.2.1 o1)), (1, .int a2), (2, .int a3), (3, .int l3)] → W p l e (headSpec (ws_Text_isTarget) rm_Text_isTarget).room s m ([.ref (G.2.1 o1), .int a2, .int a3] : List Value).toArray below meth c s.heap [] 0 0 (MQ below (xRd (some (.int r))) ([.ref (G.2.1 o1), .int a2, .int a3] : List Value).toArray s 0 0 (fun _ => False)) (F0 m 2 ls [])) (ls : Array Slot) (l3 : Int32) (k0 : Int32), x_Text_isTarget_37 o1 a2 a3 σ bk2 l3 k0 = some r → lv_has ls 6 [(0, .ref (G.2.1 o1)), (1, .int a2), (2, .int a3), (3, .int l3)] → W p l e (headSpec (ws_Text_isTarget) rm_Text_isTarget).room s m ([.ref (G.2.1 o1), .int a2, .int a3] : List Value).toArray below meth c s.heap [] 0 0 (MQ below (xRd (some (.int r))) ([.ref (G.2.1 o1), .int a2, .int a3] : List Value).toArray s 0 0 (fun _ => False)) (F0 m 37 ls [.int k0]) := by
    intro bk2 hbk2 ls l3 k0 hE hl
    unfold x_Text_isTarget_37 at hE
    refine lv_istore hx hb d_Text_isTarget_37 hl (by decide) rfl (fun ls hl => ?_)
    have hl : lv_has ls 6 [(5, .int k0), (0, .ref (G.2.1 o1)), (1, .int a2), (2, .int a3), (3, .int l3)] := hl
    refine lv_iload hx hb d_Text_isTarget_39 (lv_at hl 0 rfl) ?_
    refine lv_if_ne (tgt := 46) hx hb d_Text_isTarget_41 (by decide) (fun hc41 => ?_) (fun hc41 => ?_)
    · rw [if_neg hc41] at hE
      obtain ⟨v46, e46, hE⟩ := x_letE hE
      refine lv_iinc hx hb d_Text_isTarget_46 hl (k := 4) rfl (x_inc v46 e46 (by decide)) (by decide) rfl (fun ls hl => ?_)
      have hl : lv_has ls 6 [(3, .int v46), (5, .int k0), (0, .ref (G.2.1 o1)), (1, .int a2), (2, .int a3)] := hl
      refine lv_goto (tgt := 2) hx hb d_Text_isTarget_49 (by decide) ?_
      exact hbk2 _ _ hE (lv_sub hl [2, 3, 4, 0] rfl)
    · rw [if_pos hc41] at hE
      refine lv_iconst (v := (0 : Int32)) hx hb d_Text_isTarget_44 (by decide) ?_
      exact W.zret (v := (0 : Int32)) hx hb hr rfl (fun t ht hW => ⟨by rw [Option.some.inj hE], ht⟩) (fun q h => by cases h) d_Text_isTarget_45
  have jn2 : ∀ (n : Nat) (ls : Array Slot) (l3 : Int32), x_Text_isTarget_2 o1 a2 a3 σ n l3 = some r → lv_has ls 6 [(0, .ref (G.2.1 o1)), (1, .int a2), (2, .int a3), (3, .int l3)] → W p l e (headSpec (ws_Text_isTarget) rm_Text_isTarget).room s m ([.ref (G.2.1 o1), .int a2, .int a3] : List Value).toArray below meth c s.heap [] 0 0 (MQ below (xRd (some (.int r))) ([.ref (G.2.1 o1), .int a2, .int a3] : List Value).toArray s 0 0 (fun _ => False)) (F0 m 2 ls []) := by
    intro n
    induction n with
    | zero => intro ls l3 hE; rw [x_Text_isTarget_2] at hE; cases hE
    | succ n ih =>
      intro ls l3 hE hl
      rw [x_Text_isTarget_2] at hE
      refine lv_iload_n hx hb d_Text_isTarget_2 rfl (lv_at hl 3 rfl) ?_
      refine lv_iload_n hx hb d_Text_isTarget_3 rfl (lv_at hl 2 rfl) ?_
      refine lv_icmp_ge (tgt := 52) hx hb d_Text_isTarget_4 (by decide) (fun hc4 => ?_) (fun hc4 => ?_)
      · rw [if_pos hc4] at hE
        refine lv_iload_n hx hb d_Text_isTarget_52 rfl (lv_at hl 1 rfl) ?_
        refine lv_iload_n hx hb d_Text_isTarget_53 rfl (lv_at hl 2 rfl) ?_
        refine lv_icmp_ge (tgt := 61) hx hb d_Text_isTarget_54 (by decide) (fun hc54 => ?_) (fun hc54 => ?_)
        · rw [if_pos hc54] at hE
          refine lv_iconst (v := (0 : Int32)) hx hb d_Text_isTarget_61 (by decide) ?_
          exact W.zret (v := (0 : Int32)) hx hb hr rfl (fun t ht hW => ⟨by rw [Option.some.inj hE], ht⟩) (fun q h => by cases h) d_Text_isTarget_62
        · rw [if_neg hc54] at hE
          refine lv_iconst (v := (1 : Int32)) hx hb d_Text_isTarget_57 (by decide) ?_
          refine lv_goto (tgt := 62) hx hb d_Text_isTarget_58 (by decide) ?_
          exact W.zret (v := (1 : Int32)) hx hb hr rfl (fun t ht hW => ⟨by rw [Option.some.inj hE], ht⟩) (fun q h => by cases h) d_Text_isTarget_62
      · rw [if_neg hc4] at hE
        refine lv_aload_n hx hb d_Text_isTarget_7 rfl (lv_at hl 0 rfl) ?_
        refine lv_iload_n hx hb d_Text_isTarget_8 rfl (lv_at hl 3 rfl) ?_
        obtain ⟨r9, hC9, hE⟩ := x_bind hE
        refine x_callR (W.runV (As := [.int l3]) (rest := []) ⟨hx, hb, hml, hown, hu⟩ (t_Bytes_get l G σ o1 l3 ho1 r9 hC9) (cwV 1 hu (uw_V mw_539 mw_540 mw_541 mw_63 mw_542) rfl rfl rfl hd_Bytes_get ⟨Nat.le_of_ble_eq_true rfl, Nat.le_of_ble_eq_true rfl⟩) (x_preV hC hS hw (va_recv hK hw (q := (R_Bytes, T_Bytes, 2)) (ci := 0) rfl (x_at (xB_lt ho1) (xcl_B G σ (xB_s ho1))))) rfl rfl hl.1 rfl (lv_room (Nat.le_of_ble_eq_true rfl)) d_Text_isTarget_9 ⟨Nat.le_of_ble_eq_true rfl, Nat.le_of_ble_eq_true rfl⟩) ?_
        refine lv_istore hx hb d_Text_isTarget_12 hl (by decide) rfl (fun ls hl => ?_)
        have hl : lv_has ls 6 [(4, .int r9), (0, .ref (G.2.1 o1)), (1, .int a2), (2, .int a3), (3, .int l3)] := hl
        refine lv_iload hx hb d_Text_isTarget_14 (lv_at hl 0 rfl) ?_
        refine lv_bipush (v := (37 : Int32)) hx hb d_Text_isTarget_16 (by decide) ?_
        refine lv_icmp_ne (tgt := 30) hx hb d_Text_isTarget_18 (by decide) (fun hc18 => ?_) (fun hc18 => ?_)
        · rw [if_neg hc18] at hE
          refine lv_iload hx hb d_Text_isTarget_30 (lv_at hl 0 rfl) ?_
          refine va_ldcS hx hb hown (str_3 hN) d_Text_isTarget_32 ?_
          obtain ⟨r34, hC34, hE⟩ := x_bind hE
          refine x_callR (W.runS (As := [.int r9, .ref (G.2.2.2.1 3)]) (rest := []) ⟨hx, hb, hml, hown, hu⟩ (t_Text_isLetterDigitOr l G σ r9 3 (by decide) r34 hC34) (va_cwS 2 hu (uw_S mw_547 mw_548 mw_75 mw_549) rfl rfl rfl hd_Text_isLetterDigitOr ⟨Nat.le_of_ble_eq_true rfl, Nat.le_of_ble_eq_true rfl⟩) (x_preS hC hS hw) rfl rfl hl.1 rfl (lv_room (Nat.le_of_ble_eq_true rfl)) d_Text_isTarget_34 ⟨Nat.le_of_ble_eq_true rfl, Nat.le_of_ble_eq_true rfl⟩) ?_
          exact jn37 _ ih _ _ _ hE (lv_sub hl [1, 2, 3, 4] rfl)
        · rw [if_pos hc18] at hE
          refine lv_aload_n hx hb d_Text_isTarget_21 rfl (lv_at hl 1 rfl) ?_
          refine lv_iload_n hx hb d_Text_isTarget_22 rfl (lv_at hl 4 rfl) ?_
          refine lv_iload_n hx hb d_Text_isTarget_23 rfl (lv_at hl 3 rfl) ?_
          obtain ⟨r24, hC24, hE⟩ := x_bind hE
          refine x_callR (W.runS (As := [.ref (G.2.1 o1), .int l3, .int a3]) (rest := []) ⟨hx, hb, hml, hown, hu⟩ (t_Text_isEscape l G σ o1 l3 a3 ho1 r24 hC24) (va_cwS 3 hu (uw_S mw_670 mw_671 mw_75 mw_672) rfl rfl rfl hd_Text_isEscape ⟨Nat.le_of_ble_eq_true rfl, Nat.le_of_ble_eq_true rfl⟩) (x_preS hC hS hw) rfl rfl hl.1 rfl (lv_room (Nat.le_of_ble_eq_true rfl)) d_Text_isTarget_24 ⟨Nat.le_of_ble_eq_true rfl, Nat.le_of_ble_eq_true rfl⟩) ?_
          refine lv_goto (tgt := 37) hx hb d_Text_isTarget_27 (by decide) ?_
          exact jn37 _ ih _ _ _ hE (lv_sub hl [1, 2, 3, 4] rfl)
  have hl := lv_entry ([.ref (G.2.1 o1), .int a2, .int a3]) (n := 6) (Nat.le_of_ble_eq_true rfl)
  rw [lg_entry_eq]
  generalize (lg_sl ([.ref (G.2.1 o1), .int a2, .int a3]) ++ List.replicate (6 - (lg_sl ([.ref (G.2.1 o1), .int a2, .int a3])).length) Slot.unset).toArray = ls at hl ⊢
  have hl : lv_has ls 6 [(0, .ref (G.2.1 o1)), (1, .int a2), (2, .int a3)] := hl
  unfold x_Text_isTarget at hE
  refine lv_iload_n hx hb d_Text_isTarget_0 rfl (lv_at hl 1 rfl) ?_
  refine lv_istore_n hx hb d_Text_isTarget_1 rfl hl (by decide) rfl (fun ls hl => ?_)
  have hl : lv_has ls 6 [(3, .int a2), (0, .ref (G.2.1 o1)), (1, .int a2), (2, .int a3)] := hl
  exact jn2 x_fuel _ _ hE (lv_sub hl [1, 2, 3, 0] rfl)

def y_Text_isVersion : MethodName := ⟨"PlainOrigin$Text", "isVersion", "(LPlainOrigin$Bytes;II)Z"⟩
def ws_Text_isVersion : List Cond := Cond.code y_Text_isVersion prog_12_method_16_code 3 (some .boolean) :: UW
theorem hd_Text_isVersion : y_Text_isVersion.cls ≠ "java/lang/invoke/MethodHandle" ∧ y_Text_isVersion.cls ≠ "java/lang/invoke/VarHandle" ∧ (parseMethodDescriptor y_Text_isVersion.desc).map (fun d => d.parameters.length) = some 3 := by decide +kernel
theorem d_Text_isVersion_0 : decode prog_12_method_16_code 0 = .ok (.iload_n 2, 1) := by decide +kernel
theorem d_Text_isVersion_1 : decode prog_12_method_16_code 1 = .ok (.iload_n 1, 1) := by decide +kernel
theorem d_Text_isVersion_2 : decode prog_12_method_16_code 2 = .ok (.isub, 1) := by decide +kernel
theorem d_Text_isVersion_3 : decode prog_12_method_16_code 3 = .ok (.bipush (8), 2) := by decide +kernel
theorem d_Text_isVersion_5 : decode prog_12_method_16_code 5 = .ok (.if_icmp .ne (60), 3) := by decide +kernel
theorem d_Text_isVersion_8 : decode prog_12_method_16_code 8 = .ok (.aload_n 0, 1) := by decide +kernel
theorem d_Text_isVersion_9 : decode prog_12_method_16_code 9 = .ok (.iload_n 1, 1) := by decide +kernel
theorem d_Text_isVersion_10 : decode prog_12_method_16_code 10 = .ok (.iload_n 1, 1) := by decide +kernel
theorem d_Text_isVersion_11 : decode prog_12_method_16_code 11 = .ok (.iconst 5, 1) := by decide +kernel
theorem d_Text_isVersion_12 : decode prog_12_method_16_code 12 = .ok (.iadd, 1) := by decide +kernel
theorem d_Text_isVersion_13 : decode prog_12_method_16_code 13 = .ok (.ldc 55, 2) := by decide +kernel
theorem d_Text_isVersion_15 : decode prog_12_method_16_code 15 = .ok (.invokestatic 57, 3) := by decide +kernel
theorem d_Text_isVersion_18 : decode prog_12_method_16_code 18 = .ok (.ifCond .eq (47), 3) := by decide +kernel
theorem d_Text_isVersion_21 : decode prog_12_method_16_code 21 = .ok (.aload_n 0, 1) := by decide +kernel
theorem d_Text_isVersion_22 : decode prog_12_method_16_code 22 = .ok (.iload_n 1, 1) := by decide +kernel
theorem d_Text_isVersion_23 : decode prog_12_method_16_code 23 = .ok (.iconst 5, 1) := by decide +kernel
theorem d_Text_isVersion_24 : decode prog_12_method_16_code 24 = .ok (.iadd, 1) := by decide +kernel
theorem d_Text_isVersion_25 : decode prog_12_method_16_code 25 = .ok (.invokevirtual 21, 3) := by decide +kernel
theorem d_Text_isVersion_28 : decode prog_12_method_16_code 28 = .ok (.invokestatic 9, 3) := by decide +kernel
theorem d_Text_isVersion_31 : decode prog_12_method_16_code 31 = .ok (.ifCond .eq (34), 3) := by decide +kernel
theorem d_Text_isVersion_34 : decode prog_12_method_16_code 34 = .ok (.aload_n 0, 1) := by decide +kernel
theorem d_Text_isVersion_35 : decode prog_12_method_16_code 35 = .ok (.iload_n 1, 1) := by decide +kernel
theorem d_Text_isVersion_36 : decode prog_12_method_16_code 36 = .ok (.bipush (6), 2) := by decide +kernel
theorem d_Text_isVersion_38 : decode prog_12_method_16_code 38 = .ok (.iadd, 1) := by decide +kernel
theorem d_Text_isVersion_39 : decode prog_12_method_16_code 39 = .ok (.invokevirtual 21, 3) := by decide +kernel
theorem d_Text_isVersion_42 : decode prog_12_method_16_code 42 = .ok (.bipush (46), 2) := by decide +kernel
theorem d_Text_isVersion_44 : decode prog_12_method_16_code 44 = .ok (.if_icmp .ne (21), 3) := by decide +kernel
theorem d_Text_isVersion_47 : decode prog_12_method_16_code 47 = .ok (.aload_n 0, 1) := by decide +kernel
theorem d_Text_isVersion_48 : decode prog_12_method_16_code 48 = .ok (.iload_n 1, 1) := by decide +kernel
theorem d_Text_isVersion_49 : decode prog_12_method_16_code 49 = .ok (.bipush (7), 2) := by decide +kernel
theorem d_Text_isVersion_51 : decode prog_12_method_16_code 51 = .ok (.iadd, 1) := by decide +kernel
theorem d_Text_isVersion_52 : decode prog_12_method_16_code 52 = .ok (.invokevirtual 21, 3) := by decide +kernel
theorem d_Text_isVersion_55 : decode prog_12_method_16_code 55 = .ok (.invokestatic 9, 3) := by decide +kernel
theorem d_Text_isVersion_58 : decode prog_12_method_16_code 58 = .ok (.ifCond .eq (7), 3) := by decide +kernel
theorem d_Text_isVersion_61 : decode prog_12_method_16_code 61 = .ok (.iconst 1, 1) := by decide +kernel
theorem d_Text_isVersion_62 : decode prog_12_method_16_code 62 = .ok (.goto (4), 3) := by decide +kernel
theorem d_Text_isVersion_65 : decode prog_12_method_16_code 65 = .ok (.iconst 0, 1) := by decide +kernel
theorem d_Text_isVersion_66 : decode prog_12_method_16_code 66 = .ok (.ireturn, 1) := by decide +kernel
def x_Text_isVersion (o1 : Nat) (a2 : Int32) (a3 : Int32) (σ : St) : Option Int32 := (if (a3 - a2) = (8 : Int32) then (Option.bind (x_Text_isExactly o1 a2 (a2 + (5 : Int32)) 2 σ) (fun r15 => (if r15 = 0 then some (0 : Int32) else (Option.bind (x_Bytes_get o1 (a2 + (5 : Int32)) σ) (fun r25 => (Option.bind (x_Text_isDigit r25) (fun r28 => (if r28 = 0 then some (0 : Int32) else (Option.bind (x_Bytes_get o1 (a2 + (6 : Int32)) σ) (fun r39 => (if r39 = (46 : Int32) then (Option.bind (x_Bytes_get o1 (a2 + (7 : Int32)) σ) (fun r52 => (Option.bind (x_Text_isDigit r52) (fun r55 => (if r55 = 0 then some (0 : Int32) else some (1 : Int32)))))) else some (0 : Int32)))))))))))) else some (0 : Int32))
abbrev rm_Text_isVersion : Room := { frames := 5, cells := 0, slots := 0, locals := 109 }
set_option maxHeartbeats 4000000 in
set_option maxRecDepth 100000 in
theorem t_Text_isVersion (l : Launch) (G : xG) (σ : St) (o1 : Nat) (a2 : Int32) (a3 : Int32) (ho1 : xB o1) (r : Int32) (hE : x_Text_isVersion o1 a2 a3 σ = some r) : Met l y_Text_isVersion (ws_Text_isVersion) rm_Text_isVersion (xP G σ [.ref (G.2.1 o1), .int a2, .int a3]) (xRd (some (.int r))) 0 0 (fun _ => False) := by
  refine Met.ofW (cc := prog_12_method_16_code) (maxL := 3) (ret := (some .boolean)) (by decide) rfl ?_
  intro p e s m args below meth c s₁ B hml hv
  obtain ⟨rfl, hw, hC⟩ := hv
  have hx := B.exec
  have hb := B.bytes
  have hr := B.returns
  have hu : ∀ w ∈ UW, w.before _ s = true := fun w h => atoms_spec B.pre w (List.mem_cons_of_mem _ h)
  have hown : s.vm.findClass R_Text = some m.cls := findClass_of_methodNamed B.named
  have hlocks := B.notSynchronized
  have hK := hC.1
  have hI := hC.2.1
  have hG := hC.2.2.1
  have hN := hC.2.2.2
  have hS : va_S (xA G) s.heap s.heap [] := va_S.rf
  have hl := lv_entry ([.ref (G.2.1 o1), .int a2, .int a3]) (n := 3) (Nat.le_of_ble_eq_true rfl)
  rw [lg_entry_eq]
  generalize (lg_sl ([.ref (G.2.1 o1), .int a2, .int a3]) ++ List.replicate (3 - (lg_sl ([.ref (G.2.1 o1), .int a2, .int a3])).length) Slot.unset).toArray = ls at hl ⊢
  have hl : lv_has ls 3 [(0, .ref (G.2.1 o1)), (1, .int a2), (2, .int a3)] := hl
  unfold x_Text_isVersion at hE
  refine lv_iload_n hx hb d_Text_isVersion_0 rfl (lv_at hl 2 rfl) ?_
  refine lv_iload_n hx hb d_Text_isVersion_1 rfl (lv_at hl 1 rfl) ?_
  refine lv_isub hx hb d_Text_isVersion_2 ?_
  refine lv_bipush (v := (8 : Int32)) hx hb d_Text_isVersion_3 (by decide) ?_
  refine lv_icmp_ne (tgt := 65) hx hb d_Text_isVersion_5 (by decide) (fun hc5 => ?_) (fun hc5 => ?_)
  · rw [if_neg hc5] at hE
    refine lv_iconst (v := (0 : Int32)) hx hb d_Text_isVersion_65 (by decide) ?_
    exact W.zret (v := (0 : Int32)) hx hb hr rfl (fun t ht hW => ⟨by rw [Option.some.inj hE], ht⟩) (fun q h => by cases h) d_Text_isVersion_66
  · rw [if_pos hc5] at hE
    refine lv_aload_n hx hb d_Text_isVersion_8 rfl (lv_at hl 0 rfl) ?_
    refine lv_iload_n hx hb d_Text_isVersion_9 rfl (lv_at hl 1 rfl) ?_
    refine lv_iload_n hx hb d_Text_isVersion_10 rfl (lv_at hl 1 rfl) ?_
    refine lv_iconst (v := (5 : Int32)) hx hb d_Text_isVersion_11 (by decide) ?_
    refine lv_iadd hx hb d_Text_isVersion_12 ?_
    refine va_ldcS hx hb hown (str_2 hN) d_Text_isVersion_13 ?_
    obtain ⟨r15, hC15, hE⟩ := x_bind hE
    refine x_callR (W.runS (As := [.ref (G.2.1 o1), .int a2, .int (a2 + (5 : Int32)), .ref (G.2.2.2.1 2)]) (rest := []) ⟨hx, hb, hml, hown, hu⟩ (t_Text_isExactly l G σ o1 a2 (a2 + (5 : Int32)) 2 ho1 (by decide) r15 hC15) (va_cwS 4 hu (uw_S mw_643 mw_644 mw_75 mw_645) rfl rfl rfl hd_Text_isExactly ⟨Nat.le_of_ble_eq_true rfl, Nat.le_of_ble_eq_true rfl⟩) (x_preS hC hS hw) rfl rfl hl.1 rfl (lv_room (Nat.le_of_ble_eq_true rfl)) d_Text_isVersion_15 ⟨Nat.le_of_ble_eq_true rfl, Nat.le_of_ble_eq_true rfl⟩) ?_
    refine lv_if_eq (tgt := 65) hx hb d_Text_isVersion_18 (by decide) (fun hc18 => ?_) (fun hc18 => ?_)
    · rw [if_pos hc18] at hE
      refine lv_iconst (v := (0 : Int32)) hx hb d_Text_isVersion_65 (by decide) ?_
      exact W.zret (v := (0 : Int32)) hx hb hr rfl (fun t ht hW => ⟨by rw [Option.some.inj hE], ht⟩) (fun q h => by cases h) d_Text_isVersion_66
    · rw [if_neg hc18] at hE
      refine lv_aload_n hx hb d_Text_isVersion_21 rfl (lv_at hl 0 rfl) ?_
      refine lv_iload_n hx hb d_Text_isVersion_22 rfl (lv_at hl 1 rfl) ?_
      refine lv_iconst (v := (5 : Int32)) hx hb d_Text_isVersion_23 (by decide) ?_
      refine lv_iadd hx hb d_Text_isVersion_24 ?_
      obtain ⟨r25, hC25, hE⟩ := x_bind hE
      refine x_callR (W.runV (As := [.int (a2 + (5 : Int32))]) (rest := []) ⟨hx, hb, hml, hown, hu⟩ (t_Bytes_get l G σ o1 (a2 + (5 : Int32)) ho1 r25 hC25) (cwV 1 hu (uw_V mw_539 mw_540 mw_541 mw_63 mw_542) rfl rfl rfl hd_Bytes_get ⟨Nat.le_of_ble_eq_true rfl, Nat.le_of_ble_eq_true rfl⟩) (x_preV hC hS hw (va_recv hK hw (q := (R_Bytes, T_Bytes, 2)) (ci := 0) rfl (x_at (xB_lt ho1) (xcl_B G σ (xB_s ho1))))) rfl rfl hl.1 rfl (lv_room (Nat.le_of_ble_eq_true rfl)) d_Text_isVersion_25 ⟨Nat.le_of_ble_eq_true rfl, Nat.le_of_ble_eq_true rfl⟩) ?_
      obtain ⟨r28, hC28, hE⟩ := x_bind hE
      refine x_callR (W.runS (As := [.int r25]) (rest := []) ⟨hx, hb, hml, hown, hu⟩ (t_Text_isDigit l G σ r25 r28 hC28) (va_cwS 1 hu (uw_S mw_550 mw_551 mw_75 mw_552) rfl rfl rfl hd_Text_isDigit ⟨Nat.le_of_ble_eq_true rfl, Nat.le_of_ble_eq_true rfl⟩) (x_preS hC hS hw) rfl rfl hl.1 rfl (lv_room (Nat.le_of_ble_eq_true rfl)) d_Text_isVersion_28 ⟨Nat.le_of_ble_eq_true rfl, Nat.le_of_ble_eq_true rfl⟩) ?_
      refine lv_if_eq (tgt := 65) hx hb d_Text_isVersion_31 (by decide) (fun hc31 => ?_) (fun hc31 => ?_)
      · rw [if_pos hc31] at hE
        refine lv_iconst (v := (0 : Int32)) hx hb d_Text_isVersion_65 (by decide) ?_
        exact W.zret (v := (0 : Int32)) hx hb hr rfl (fun t ht hW => ⟨by rw [Option.some.inj hE], ht⟩) (fun q h => by cases h) d_Text_isVersion_66
      · rw [if_neg hc31] at hE
        refine lv_aload_n hx hb d_Text_isVersion_34 rfl (lv_at hl 0 rfl) ?_
        refine lv_iload_n hx hb d_Text_isVersion_35 rfl (lv_at hl 1 rfl) ?_
        refine lv_bipush (v := (6 : Int32)) hx hb d_Text_isVersion_36 (by decide) ?_
        refine lv_iadd hx hb d_Text_isVersion_38 ?_
        obtain ⟨r39, hC39, hE⟩ := x_bind hE
        refine x_callR (W.runV (As := [.int (a2 + (6 : Int32))]) (rest := []) ⟨hx, hb, hml, hown, hu⟩ (t_Bytes_get l G σ o1 (a2 + (6 : Int32)) ho1 r39 hC39) (cwV 1 hu (uw_V mw_539 mw_540 mw_541 mw_63 mw_542) rfl rfl rfl hd_Bytes_get ⟨Nat.le_of_ble_eq_true rfl, Nat.le_of_ble_eq_true rfl⟩) (x_preV hC hS hw (va_recv hK hw (q := (R_Bytes, T_Bytes, 2)) (ci := 0) rfl (x_at (xB_lt ho1) (xcl_B G σ (xB_s ho1))))) rfl rfl hl.1 rfl (lv_room (Nat.le_of_ble_eq_true rfl)) d_Text_isVersion_39 ⟨Nat.le_of_ble_eq_true rfl, Nat.le_of_ble_eq_true rfl⟩) ?_
        refine lv_bipush (v := (46 : Int32)) hx hb d_Text_isVersion_42 (by decide) ?_
        refine lv_icmp_ne (tgt := 65) hx hb d_Text_isVersion_44 (by decide) (fun hc44 => ?_) (fun hc44 => ?_)
        · rw [if_neg hc44] at hE
          refine lv_iconst (v := (0 : Int32)) hx hb d_Text_isVersion_65 (by decide) ?_
          exact W.zret (v := (0 : Int32)) hx hb hr rfl (fun t ht hW => ⟨by rw [Option.some.inj hE], ht⟩) (fun q h => by cases h) d_Text_isVersion_66
        · rw [if_pos hc44] at hE
          refine lv_aload_n hx hb d_Text_isVersion_47 rfl (lv_at hl 0 rfl) ?_
          refine lv_iload_n hx hb d_Text_isVersion_48 rfl (lv_at hl 1 rfl) ?_
          refine lv_bipush (v := (7 : Int32)) hx hb d_Text_isVersion_49 (by decide) ?_
          refine lv_iadd hx hb d_Text_isVersion_51 ?_
          obtain ⟨r52, hC52, hE⟩ := x_bind hE
          refine x_callR (W.runV (As := [.int (a2 + (7 : Int32))]) (rest := []) ⟨hx, hb, hml, hown, hu⟩ (t_Bytes_get l G σ o1 (a2 + (7 : Int32)) ho1 r52 hC52) (cwV 1 hu (uw_V mw_539 mw_540 mw_541 mw_63 mw_542) rfl rfl rfl hd_Bytes_get ⟨Nat.le_of_ble_eq_true rfl, Nat.le_of_ble_eq_true rfl⟩) (x_preV hC hS hw (va_recv hK hw (q := (R_Bytes, T_Bytes, 2)) (ci := 0) rfl (x_at (xB_lt ho1) (xcl_B G σ (xB_s ho1))))) rfl rfl hl.1 rfl (lv_room (Nat.le_of_ble_eq_true rfl)) d_Text_isVersion_52 ⟨Nat.le_of_ble_eq_true rfl, Nat.le_of_ble_eq_true rfl⟩) ?_
          obtain ⟨r55, hC55, hE⟩ := x_bind hE
          refine x_callR (W.runS (As := [.int r52]) (rest := []) ⟨hx, hb, hml, hown, hu⟩ (t_Text_isDigit l G σ r52 r55 hC55) (va_cwS 1 hu (uw_S mw_550 mw_551 mw_75 mw_552) rfl rfl rfl hd_Text_isDigit ⟨Nat.le_of_ble_eq_true rfl, Nat.le_of_ble_eq_true rfl⟩) (x_preS hC hS hw) rfl rfl hl.1 rfl (lv_room (Nat.le_of_ble_eq_true rfl)) d_Text_isVersion_55 ⟨Nat.le_of_ble_eq_true rfl, Nat.le_of_ble_eq_true rfl⟩) ?_
          refine lv_if_eq (tgt := 65) hx hb d_Text_isVersion_58 (by decide) (fun hc58 => ?_) (fun hc58 => ?_)
          · rw [if_pos hc58] at hE
            refine lv_iconst (v := (0 : Int32)) hx hb d_Text_isVersion_65 (by decide) ?_
            exact W.zret (v := (0 : Int32)) hx hb hr rfl (fun t ht hW => ⟨by rw [Option.some.inj hE], ht⟩) (fun q h => by cases h) d_Text_isVersion_66
          · rw [if_neg hc58] at hE
            refine lv_iconst (v := (1 : Int32)) hx hb d_Text_isVersion_61 (by decide) ?_
            refine lv_goto (tgt := 66) hx hb d_Text_isVersion_62 (by decide) ?_
            exact W.zret (v := (1 : Int32)) hx hb hr rfl (fun t ht hW => ⟨by rw [Option.some.inj hE], ht⟩) (fun q h => by cases h) d_Text_isVersion_66

def y_Text_isHost : MethodName := ⟨"PlainOrigin$Text", "isHost", "(LPlainOrigin$Bytes;II)Z"⟩
def ws_Text_isHost : List Cond := Cond.code y_Text_isHost prog_12_method_17_code 4 (some .boolean) :: UW
theorem hd_Text_isHost : y_Text_isHost.cls ≠ "java/lang/invoke/MethodHandle" ∧ y_Text_isHost.cls ≠ "java/lang/invoke/VarHandle" ∧ (parseMethodDescriptor y_Text_isHost.desc).map (fun d => d.parameters.length) = some 3 := by decide +kernel
theorem d_Text_isHost_0 : decode prog_12_method_17_code 0 = .ok (.iload_n 1, 1) := by decide +kernel
theorem d_Text_isHost_1 : decode prog_12_method_17_code 1 = .ok (.istore_n 3, 1) := by decide +kernel
theorem d_Text_isHost_2 : decode prog_12_method_17_code 2 = .ok (.iload_n 3, 1) := by decide +kernel
theorem d_Text_isHost_3 : decode prog_12_method_17_code 3 = .ok (.iload_n 2, 1) := by decide +kernel
theorem d_Text_isHost_4 : decode prog_12_method_17_code 4 = .ok (.if_icmp .ge (24), 3) := by decide +kernel
theorem d_Text_isHost_7 : decode prog_12_method_17_code 7 = .ok (.aload_n 0, 1) := by decide +kernel
theorem d_Text_isHost_8 : decode prog_12_method_17_code 8 = .ok (.iload_n 3, 1) := by decide +kernel
theorem d_Text_isHost_9 : decode prog_12_method_17_code 9 = .ok (.invokevirtual 21, 3) := by decide +kernel
theorem d_Text_isHost_12 : decode prog_12_method_17_code 12 = .ok (.ldc 61, 2) := by decide +kernel
theorem d_Text_isHost_14 : decode prog_12_method_17_code 14 = .ok (.invokestatic 42, 3) := by decide +kernel
theorem d_Text_isHost_17 : decode prog_12_method_17_code 17 = .ok (.ifCond .ne (5), 3) := by decide +kernel
theorem d_Text_isHost_20 : decode prog_12_method_17_code 20 = .ok (.iconst 0, 1) := by decide +kernel
theorem d_Text_isHost_21 : decode prog_12_method_17_code 21 = .ok (.ireturn, 1) := by decide +kernel
theorem d_Text_isHost_22 : decode prog_12_method_17_code 22 = .ok (.iinc 3 (1), 3) := by decide +kernel
theorem d_Text_isHost_25 : decode prog_12_method_17_code 25 = .ok (.goto (-23), 3) := by decide +kernel
theorem d_Text_isHost_28 : decode prog_12_method_17_code 28 = .ok (.iconst 1, 1) := by decide +kernel
theorem d_Text_isHost_29 : decode prog_12_method_17_code 29 = .ok (.ireturn, 1) := by decide +kernel
def x_Text_isHost_2 (o1 : Nat) (a2 : Int32) (a3 : Int32) (σ : St) : Nat → Int32 → Option Int32
  | 0, _ => none
  | n + 1, l3 => (if a3 ≤ l3 then some (1 : Int32) else (Option.bind (x_Bytes_get o1 l3 σ) (fun r9 => (Option.bind (x_Text_isLetterDigitOr r9 6) (fun r14 => (if r14 = 0 then some (0 : Int32) else (x_let (l3 + (1 : Int32)) (fun (v22 : Int32) => x_Text_isHost_2 o1 a2 a3 σ n v22))))))))
def x_Text_isHost (o1 : Nat) (a2 : Int32) (a3 : Int32) (σ : St) : Option Int32 := x_Text_isHost_2 o1 a2 a3 σ x_fuel a2
abbrev rm_Text_isHost : Room := { frames := 5, cells := 0, slots := 0, locals := 112 }
set_option maxHeartbeats 4000000 in
set_option maxRecDepth 100000 in
theorem t_Text_isHost (l : Launch) (G : xG) (σ : St) (o1 : Nat) (a2 : Int32) (a3 : Int32) (ho1 : xB o1) (r : Int32) (hE : x_Text_isHost o1 a2 a3 σ = some r) : Met l y_Text_isHost (ws_Text_isHost) rm_Text_isHost (xP G σ [.ref (G.2.1 o1), .int a2, .int a3]) (xRd (some (.int r))) 0 0 (fun _ => False) := by
  refine Met.ofW (cc := prog_12_method_17_code) (maxL := 4) (ret := (some .boolean)) (by decide) rfl ?_
  intro p e s m args below meth c s₁ B hml hv
  obtain ⟨rfl, hw, hC⟩ := hv
  have hx := B.exec
  have hb := B.bytes
  have hr := B.returns
  have hu : ∀ w ∈ UW, w.before _ s = true := fun w h => atoms_spec B.pre w (List.mem_cons_of_mem _ h)
  have hown : s.vm.findClass R_Text = some m.cls := findClass_of_methodNamed B.named
  have hlocks := B.notSynchronized
  have hK := hC.1
  have hI := hC.2.1
  have hG := hC.2.2.1
  have hN := hC.2.2.2
  have hS : va_S (xA G) s.heap s.heap [] := va_S.rf
  have jn2 : ∀ (n : Nat) (ls : Array Slot) (l3 : Int32), x_Text_isHost_2 o1 a2 a3 σ n l3 = some r → lv_has ls 4 [(0, .ref (G.2.1 o1)), (1, .int a2), (2, .int a3), (3, .int l3)] → W p l e (headSpec (ws_Text_isHost) rm_Text_isHost).room s m ([.ref (G.2.1 o1), .int a2, .int a3] : List Value).toArray below meth c s.heap [] 0 0 (MQ below (xRd (some (.int r))) ([.ref (G.2.1 o1), .int a2, .int a3] : List Value).toArray s 0 0 (fun _ => False)) (F0 m 2 ls []) := by
    intro n
    induction n with
    | zero => intro ls l3 hE; rw [x_Text_isHost_2] at hE; cases hE
    | succ n ih =>
      intro ls l3 hE hl
      rw [x_Text_isHost_2] at hE
      refine lv_iload_n hx hb d_Text_isHost_2 rfl (lv_at hl 3 rfl) ?_
      refine lv_iload_n hx hb d_Text_isHost_3 rfl (lv_at hl 2 rfl) ?_
      refine lv_icmp_ge (tgt := 28) hx hb d_Text_isHost_4 (by decide) (fun hc4 => ?_) (fun hc4 => ?_)
      · rw [if_pos hc4] at hE
        refine lv_iconst (v := (1 : Int32)) hx hb d_Text_isHost_28 (by decide) ?_
        exact W.zret (v := (1 : Int32)) hx hb hr rfl (fun t ht hW => ⟨by rw [Option.some.inj hE], ht⟩) (fun q h => by cases h) d_Text_isHost_29
      · rw [if_neg hc4] at hE
        refine lv_aload_n hx hb d_Text_isHost_7 rfl (lv_at hl 0 rfl) ?_
        refine lv_iload_n hx hb d_Text_isHost_8 rfl (lv_at hl 3 rfl) ?_
        obtain ⟨r9, hC9, hE⟩ := x_bind hE
        refine x_callR (W.runV (As := [.int l3]) (rest := []) ⟨hx, hb, hml, hown, hu⟩ (t_Bytes_get l G σ o1 l3 ho1 r9 hC9) (cwV 1 hu (uw_V mw_539 mw_540 mw_541 mw_63 mw_542) rfl rfl rfl hd_Bytes_get ⟨Nat.le_of_ble_eq_true rfl, Nat.le_of_ble_eq_true rfl⟩) (x_preV hC hS hw (va_recv hK hw (q := (R_Bytes, T_Bytes, 2)) (ci := 0) rfl (x_at (xB_lt ho1) (xcl_B G σ (xB_s ho1))))) rfl rfl hl.1 rfl (lv_room (Nat.le_of_ble_eq_true rfl)) d_Text_isHost_9 ⟨Nat.le_of_ble_eq_true rfl, Nat.le_of_ble_eq_true rfl⟩) ?_
        refine va_ldcS hx hb hown (str_6 hN) d_Text_isHost_12 ?_
        obtain ⟨r14, hC14, hE⟩ := x_bind hE
        refine x_callR (W.runS (As := [.int r9, .ref (G.2.2.2.1 6)]) (rest := []) ⟨hx, hb, hml, hown, hu⟩ (t_Text_isLetterDigitOr l G σ r9 6 (by decide) r14 hC14) (va_cwS 2 hu (uw_S mw_547 mw_548 mw_75 mw_549) rfl rfl rfl hd_Text_isLetterDigitOr ⟨Nat.le_of_ble_eq_true rfl, Nat.le_of_ble_eq_true rfl⟩) (x_preS hC hS hw) rfl rfl hl.1 rfl (lv_room (Nat.le_of_ble_eq_true rfl)) d_Text_isHost_14 ⟨Nat.le_of_ble_eq_true rfl, Nat.le_of_ble_eq_true rfl⟩) ?_
        refine lv_if_ne (tgt := 22) hx hb d_Text_isHost_17 (by decide) (fun hc17 => ?_) (fun hc17 => ?_)
        · rw [if_neg hc17] at hE
          obtain ⟨v22, e22, hE⟩ := x_letE hE
          refine lv_iinc hx hb d_Text_isHost_22 hl (k := 3) rfl (x_inc v22 e22 (by decide)) (by decide) rfl (fun ls hl => ?_)
          have hl : lv_has ls 4 [(3, .int v22), (0, .ref (G.2.1 o1)), (1, .int a2), (2, .int a3)] := hl
          refine lv_goto (tgt := 2) hx hb d_Text_isHost_25 (by decide) ?_
          exact ih _ _ hE (lv_sub hl [1, 2, 3, 0] rfl)
        · rw [if_pos hc17] at hE
          refine lv_iconst (v := (0 : Int32)) hx hb d_Text_isHost_20 (by decide) ?_
          exact W.zret (v := (0 : Int32)) hx hb hr rfl (fun t ht hW => ⟨by rw [Option.some.inj hE], ht⟩) (fun q h => by cases h) d_Text_isHost_21
  have hl := lv_entry ([.ref (G.2.1 o1), .int a2, .int a3]) (n := 4) (Nat.le_of_ble_eq_true rfl)
  rw [lg_entry_eq]
  generalize (lg_sl ([.ref (G.2.1 o1), .int a2, .int a3]) ++ List.replicate (4 - (lg_sl ([.ref (G.2.1 o1), .int a2, .int a3])).length) Slot.unset).toArray = ls at hl ⊢
  have hl : lv_has ls 4 [(0, .ref (G.2.1 o1)), (1, .int a2), (2, .int a3)] := hl
  unfold x_Text_isHost at hE
  refine lv_iload_n hx hb d_Text_isHost_0 rfl (lv_at hl 1 rfl) ?_
  refine lv_istore_n hx hb d_Text_isHost_1 rfl hl (by decide) rfl (fun ls hl => ?_)
  have hl : lv_has ls 4 [(3, .int a2), (0, .ref (G.2.1 o1)), (1, .int a2), (2, .int a3)] := hl
  exact jn2 x_fuel _ _ hE (lv_sub hl [1, 2, 3, 0] rfl)

def y_Text_colonOf : MethodName := ⟨"PlainOrigin$Text", "colonOf", "(LPlainOrigin$Bytes;)I"⟩
def ws_Text_colonOf : List Cond := Cond.code y_Text_colonOf prog_12_method_19_code 4 (some .int) :: UW
theorem hd_Text_colonOf : y_Text_colonOf.cls ≠ "java/lang/invoke/MethodHandle" ∧ y_Text_colonOf.cls ≠ "java/lang/invoke/VarHandle" ∧ (parseMethodDescriptor y_Text_colonOf.desc).map (fun d => d.parameters.length) = some 1 := by decide +kernel
theorem d_Text_colonOf_0 : decode prog_12_method_19_code 0 = .ok (.aload_n 0, 1) := by decide +kernel
theorem d_Text_colonOf_1 : decode prog_12_method_19_code 1 = .ok (.getfield 66, 3) := by decide +kernel
theorem d_Text_colonOf_4 : decode prog_12_method_19_code 4 = .ok (.istore_n 1, 1) := by decide +kernel
theorem d_Text_colonOf_5 : decode prog_12_method_19_code 5 = .ok (.aload_n 0, 1) := by decide +kernel
theorem d_Text_colonOf_6 : decode prog_12_method_19_code 6 = .ok (.bipush (58), 2) := by decide +kernel
theorem d_Text_colonOf_8 : decode prog_12_method_19_code 8 = .ok (.iconst 0, 1) := by decide +kernel
theorem d_Text_colonOf_9 : decode prog_12_method_19_code 9 = .ok (.iload_n 1, 1) := by decide +kernel
theorem d_Text_colonOf_10 : decode prog_12_method_19_code 10 = .ok (.invokestatic 70, 3) := by decide +kernel
theorem d_Text_colonOf_13 : decode prog_12_method_19_code 13 = .ok (.istore_n 2, 1) := by decide +kernel
theorem d_Text_colonOf_14 : decode prog_12_method_19_code 14 = .ok (.iload_n 2, 1) := by decide +kernel
theorem d_Text_colonOf_15 : decode prog_12_method_19_code 15 = .ok (.iload_n 1, 1) := by decide +kernel
theorem d_Text_colonOf_16 : decode prog_12_method_19_code 16 = .ok (.if_icmp .ge (27), 3) := by decide +kernel
theorem d_Text_colonOf_19 : decode prog_12_method_19_code 19 = .ok (.aload_n 0, 1) := by decide +kernel
theorem d_Text_colonOf_20 : decode prog_12_method_19_code 20 = .ok (.iconst 0, 1) := by decide +kernel
theorem d_Text_colonOf_21 : decode prog_12_method_19_code 21 = .ok (.iload_n 2, 1) := by decide +kernel
theorem d_Text_colonOf_22 : decode prog_12_method_19_code 22 = .ok (.invokestatic 74, 3) := by decide +kernel
theorem d_Text_colonOf_25 : decode prog_12_method_19_code 25 = .ok (.ifCond .eq (18), 3) := by decide +kernel
theorem d_Text_colonOf_28 : decode prog_12_method_19_code 28 = .ok (.aload_n 0, 1) := by decide +kernel
theorem d_Text_colonOf_29 : decode prog_12_method_19_code 29 = .ok (.iload_n 2, 1) := by decide +kernel
theorem d_Text_colonOf_30 : decode prog_12_method_19_code 30 = .ok (.iconst 1, 1) := by decide +kernel
theorem d_Text_colonOf_31 : decode prog_12_method_19_code 31 = .ok (.iadd, 1) := by decide +kernel
theorem d_Text_colonOf_32 : decode prog_12_method_19_code 32 = .ok (.iload_n 1, 1) := by decide +kernel
theorem d_Text_colonOf_33 : decode prog_12_method_19_code 33 = .ok (.invokestatic 77, 3) := by decide +kernel
theorem d_Text_colonOf_36 : decode prog_12_method_19_code 36 = .ok (.ifCond .ne (7), 3) := by decide +kernel
theorem d_Text_colonOf_39 : decode prog_12_method_19_code 39 = .ok (.iconst 1, 1) := by decide +kernel
theorem d_Text_colonOf_40 : decode prog_12_method_19_code 40 = .ok (.goto (4), 3) := by decide +kernel
theorem d_Text_colonOf_43 : decode prog_12_method_19_code 43 = .ok (.iconst 0, 1) := by decide +kernel
theorem d_Text_colonOf_44 : decode prog_12_method_19_code 44 = .ok (.istore_n 3, 1) := by decide +kernel
theorem d_Text_colonOf_45 : decode prog_12_method_19_code 45 = .ok (.iload_n 3, 1) := by decide +kernel
theorem d_Text_colonOf_46 : decode prog_12_method_19_code 46 = .ok (.ifCond .eq (7), 3) := by decide +kernel
theorem d_Text_colonOf_49 : decode prog_12_method_19_code 49 = .ok (.iload_n 2, 1) := by decide +kernel
theorem d_Text_colonOf_50 : decode prog_12_method_19_code 50 = .ok (.goto (4), 3) := by decide +kernel
theorem d_Text_colonOf_53 : decode prog_12_method_19_code 53 = .ok (.iconst (-1), 1) := by decide +kernel
theorem d_Text_colonOf_54 : decode prog_12_method_19_code 54 = .ok (.ireturn, 1) := by decide +kernel
def x_Text_colonOf_44 (o1 : Nat) (σ : St) (l2 : Int32) (k0 : Int32) : Option Int32 := (if k0 = 0 then some ((-1) : Int32) else some l2)
def x_Text_colonOf_43 (o1 : Nat) (σ : St) (l2 : Int32) : Option Int32 := x_Text_colonOf_44 o1 σ l2 (0 : Int32)
def x_Text_colonOf (o1 : Nat) (σ : St) : Option Int32 := (x_let (σ.1 o1 1) (fun (v4 : Int32) => (Option.bind (x_Text_find o1 (58 : Int32) (0 : Int32) v4 σ) (fun r10 => (if v4 ≤ r10 then x_Text_colonOf_43 o1 σ r10 else (Option.bind (x_Text_isToken o1 (0 : Int32) r10 σ) (fun r22 => (if r22 = 0 then x_Text_colonOf_43 o1 σ r10 else (Option.bind (x_Text_hasControl o1 (r10 + (1 : Int32)) v4 σ) (fun r33 => (if r33 = 0 then x_Text_colonOf_44 o1 σ r10 (1 : Int32) else x_Text_colonOf_43 o1 σ r10)))))))))))
abbrev rm_Text_colonOf : Room := { frames := 6, cells := 0, slots := 0, locals := 135 }
set_option maxHeartbeats 4000000 in
set_option maxRecDepth 100000 in
theorem t_Text_colonOf (l : Launch) (G : xG) (σ : St) (o1 : Nat) (ho1 : xB o1) (r : Int32) (hE : x_Text_colonOf o1 σ = some r) : Met l y_Text_colonOf (ws_Text_colonOf) rm_Text_colonOf (xP G σ [.ref (G.2.1 o1)]) (xRd (some (.int r))) 0 0 (fun _ => False) := by
  refine Met.ofW (cc := prog_12_method_19_code) (maxL := 4) (ret := (some .int)) (by decide) rfl ?_
  intro p e s m args below meth c s₁ B hml hv
  obtain ⟨rfl, hw, hC⟩ := hv
  have hx := B.exec
  have hb := B.bytes
  have hr := B.returns
  have hu : ∀ w ∈ UW, w.before _ s = true := fun w h => atoms_spec B.pre w (List.mem_cons_of_mem _ h)
  have hown : s.vm.findClass R_Text = some m.cls := findClass_of_methodNamed B.named
  have hlocks := B.notSynchronized
  have hK := hC.1
  have hI := hC.2.1
  have hG := hC.2.2.1
  have hN := hC.2.2.2
  have hS : va_S (xA G) s.heap s.heap [] := va_S.rf
  have jn44 : ∀ (ls : Array Slot) (l2 : Int32) (k0 : Int32), x_Text_colonOf_44 o1 σ l2 k0 = some r → lv_has ls 4 [(0, .ref (G.2.1 o1)), (2, .int l2)] → W p l e (headSpec (ws_Text_colonOf) rm_Text_colonOf).room s m ([.ref (G.2.1 o1)] : List Value).toArray below meth c s.heap [] 0 0 (MQ below (xRd (some (.int r))) ([.ref (G.2.1 o1)] : List Value).toArray s 0 0 (fun _ => False)) (F0 m 44 ls [.int k0]) := by
    intro ls l2 k0 hE hl
    unfold x_Text_colonOf_44 at hE
    refine lv_istore_n hx hb d_Text_colonOf_44 rfl hl (by decide) rfl (fun ls hl => ?_)
    have hl : lv_has ls 4 [(3, .int k0), (0, .ref (G.2.1 o1)), (2, .int l2)] := hl
    refine lv_iload_n hx hb d_Text_colonOf_45 rfl (lv_at hl 0 rfl) ?_
    refine lv_if_eq (tgt := 53) hx hb d_Text_colonOf_46 (by decide) (fun hc46 => ?_) (fun hc46 => ?_)
    · rw [if_pos hc46] at hE
      refine lv_iconst (v := ((-1) : Int32)) hx hb d_Text_colonOf_53 (by decide) ?_
      exact W.iret (v := ((-1) : Int32)) hx hb hr (fun t ht hW => ⟨by rw [Option.some.inj hE], ht⟩) (fun q h => by cases h) d_Text_colonOf_54
    · rw [if_neg hc46] at hE
      refine lv_iload_n hx hb d_Text_colonOf_49 rfl (lv_at hl 2 rfl) ?_
      refine lv_goto (tgt := 54) hx hb d_Text_colonOf_50 (by decide) ?_
      exact W.iret (v := l2) hx hb hr (fun t ht hW => ⟨by rw [Option.some.inj hE], ht⟩) (fun q h => by cases h) d_Text_colonOf_54
  have jn43 : ∀ (ls : Array Slot) (l2 : Int32), x_Text_colonOf_43 o1 σ l2 = some r → lv_has ls 4 [(0, .ref (G.2.1 o1)), (2, .int l2)] → W p l e (headSpec (ws_Text_colonOf) rm_Text_colonOf).room s m ([.ref (G.2.1 o1)] : List Value).toArray below meth c s.heap [] 0 0 (MQ below (xRd (some (.int r))) ([.ref (G.2.1 o1)] : List Value).toArray s 0 0 (fun _ => False)) (F0 m 43 ls []) := by
    intro ls l2 hE hl
    unfold x_Text_colonOf_43 at hE
    refine lv_iconst (v := (0 : Int32)) hx hb d_Text_colonOf_43 (by decide) ?_
    exact jn44 _ _ _ hE (lv_sub hl [0, 1] rfl)
  have hl := lv_entry ([.ref (G.2.1 o1)]) (n := 4) (Nat.le_of_ble_eq_true rfl)
  rw [lg_entry_eq]
  generalize (lg_sl ([.ref (G.2.1 o1)]) ++ List.replicate (4 - (lg_sl ([.ref (G.2.1 o1)])).length) Slot.unset).toArray = ls at hl ⊢
  have hl : lv_has ls 4 [(0, .ref (G.2.1 o1))] := hl
  unfold x_Text_colonOf at hE
  refine lv_aload_n hx hb d_Text_colonOf_0 rfl (lv_at hl 0 rfl) ?_
  refine va_getN (D := G.1) (cl := xCl) (ci := 0) (v := .int (σ.1 o1 1)) (C := R_Bytes) (T := T_Bytes) (N := 2) hx hb hu fi_Bytes hown hK hw o1 (x_at (xB_lt ho1) (xcl_B G σ (xB_s ho1))) rfl 1 (by decide) (nl_6 hG) (fun _ h9 => h9) rfl d_Text_colonOf_1 ?_
  refine lv_topi (fun v4 e4 => ?_)
  replace hE := x_letT e4 hE
  refine lv_istore_n hx hb d_Text_colonOf_4 rfl hl (by decide) rfl (fun ls hl => ?_)
  have hl : lv_has ls 4 [(1, .int v4), (0, .ref (G.2.1 o1))] := hl
  refine lv_aload_n hx hb d_Text_colonOf_5 rfl (lv_at hl 1 rfl) ?_
  refine lv_bipush (v := (58 : Int32)) hx hb d_Text_colonOf_6 (by decide) ?_
  refine lv_iconst (v := (0 : Int32)) hx hb d_Text_colonOf_8 (by decide) ?_
  refine lv_iload_n hx hb d_Text_colonOf_9 rfl (lv_at hl 0 rfl) ?_
  obtain ⟨r10, hC10, hE⟩ := x_bind hE
  refine x_callR (W.runS (As := [.ref (G.2.1 o1), .int (58 : Int32), .int (0 : Int32), .int v4]) (rest := []) ⟨hx, hb, hml, hown, hu⟩ (t_Text_find l G σ o1 (58 : Int32) (0 : Int32) v4 ho1 r10 hC10) (va_cwS 4 hu (uw_S mw_701 mw_537 mw_75 mw_538) rfl rfl rfl hd_Text_find ⟨Nat.le_of_ble_eq_true rfl, Nat.le_of_ble_eq_true rfl⟩) (x_preS hC hS hw) rfl rfl hl.1 rfl (lv_room (Nat.le_of_ble_eq_true rfl)) d_Text_colonOf_10 ⟨Nat.le_of_ble_eq_true rfl, Nat.le_of_ble_eq_true rfl⟩) ?_
  refine lv_istore_n hx hb d_Text_colonOf_13 rfl hl (by decide) rfl (fun ls hl => ?_)
  have hl : lv_has ls 4 [(2, .int r10), (1, .int v4), (0, .ref (G.2.1 o1))] := hl
  refine lv_iload_n hx hb d_Text_colonOf_14 rfl (lv_at hl 0 rfl) ?_
  refine lv_iload_n hx hb d_Text_colonOf_15 rfl (lv_at hl 1 rfl) ?_
  refine lv_icmp_ge (tgt := 43) hx hb d_Text_colonOf_16 (by decide) (fun hc16 => ?_) (fun hc16 => ?_)
  · rw [if_pos hc16] at hE
    exact jn43 _ _ hE (lv_sub hl [2, 0] rfl)
  · rw [if_neg hc16] at hE
    refine lv_aload_n hx hb d_Text_colonOf_19 rfl (lv_at hl 2 rfl) ?_
    refine lv_iconst (v := (0 : Int32)) hx hb d_Text_colonOf_20 (by decide) ?_
    refine lv_iload_n hx hb d_Text_colonOf_21 rfl (lv_at hl 0 rfl) ?_
    obtain ⟨r22, hC22, hE⟩ := x_bind hE
    refine x_callR (W.runS (As := [.ref (G.2.1 o1), .int (0 : Int32), .int r10]) (rest := []) ⟨hx, hb, hml, hown, hu⟩ (t_Text_isToken l G σ o1 (0 : Int32) r10 ho1 r22 hC22) (va_cwS 3 hu (uw_S mw_702 mw_544 mw_75 mw_545) rfl rfl rfl hd_Text_isToken ⟨Nat.le_of_ble_eq_true rfl, Nat.le_of_ble_eq_true rfl⟩) (x_preS hC hS hw) rfl rfl hl.1 rfl (lv_room (Nat.le_of_ble_eq_true rfl)) d_Text_colonOf_22 ⟨Nat.le_of_ble_eq_true rfl, Nat.le_of_ble_eq_true rfl⟩) ?_
    refine lv_if_eq (tgt := 43) hx hb d_Text_colonOf_25 (by decide) (fun hc25 => ?_) (fun hc25 => ?_)
    · rw [if_pos hc25] at hE
      exact jn43 _ _ hE (lv_sub hl [2, 0] rfl)
    · rw [if_neg hc25] at hE
      refine lv_aload_n hx hb d_Text_colonOf_28 rfl (lv_at hl 2 rfl) ?_
      refine lv_iload_n hx hb d_Text_colonOf_29 rfl (lv_at hl 0 rfl) ?_
      refine lv_iconst (v := (1 : Int32)) hx hb d_Text_colonOf_30 (by decide) ?_
      refine lv_iadd hx hb d_Text_colonOf_31 ?_
      refine lv_iload_n hx hb d_Text_colonOf_32 rfl (lv_at hl 1 rfl) ?_
      obtain ⟨r33, hC33, hE⟩ := x_bind hE
      refine x_callR (W.runS (As := [.ref (G.2.1 o1), .int (r10 + (1 : Int32)), .int v4]) (rest := []) ⟨hx, hb, hml, hown, hu⟩ (t_Text_hasControl l G σ o1 (r10 + (1 : Int32)) v4 ho1 r33 hC33) (va_cwS 3 hu (uw_S mw_703 mw_704 mw_75 mw_705) rfl rfl rfl hd_Text_hasControl ⟨Nat.le_of_ble_eq_true rfl, Nat.le_of_ble_eq_true rfl⟩) (x_preS hC hS hw) rfl rfl hl.1 rfl (lv_room (Nat.le_of_ble_eq_true rfl)) d_Text_colonOf_33 ⟨Nat.le_of_ble_eq_true rfl, Nat.le_of_ble_eq_true rfl⟩) ?_
      refine lv_if_ne (tgt := 43) hx hb d_Text_colonOf_36 (by decide) (fun hc36 => ?_) (fun hc36 => ?_)
      · rw [if_neg hc36] at hE
        exact jn43 _ _ hE (lv_sub hl [2, 0] rfl)
      · rw [if_pos hc36] at hE
        refine lv_iconst (v := (1 : Int32)) hx hb d_Text_colonOf_39 (by decide) ?_
        refine lv_goto (tgt := 44) hx hb d_Text_colonOf_40 (by decide) ?_
        exact jn44 _ _ _ hE (lv_sub hl [2, 0] rfl)
