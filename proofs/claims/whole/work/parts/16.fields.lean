def y_Fields_clear : MethodName := ⟨"PlainOrigin$Fields", "clear", "()V"⟩
def ws_Fields_clear : List Cond := Cond.code y_Fields_clear prog_4_method_2_code 1 none :: UW
theorem hd_Fields_clear : y_Fields_clear.cls = R_Fields ∧ y_Fields_clear.cls ≠ "java/lang/invoke/MethodHandle" ∧ y_Fields_clear.cls ≠ "java/lang/invoke/VarHandle" ∧ (parseMethodDescriptor y_Fields_clear.desc).map (fun d => d.parameters.length) = some 0 := by decide +kernel
theorem d_Fields_clear_0 : decode prog_4_method_2_code 0 = .ok (.aload_n 0, 1) := by decide +kernel
theorem d_Fields_clear_1 : decode prog_4_method_2_code 1 = .ok (.getfield 14, 3) := by decide +kernel
theorem d_Fields_clear_4 : decode prog_4_method_2_code 4 = .ok (.invokevirtual 39, 3) := by decide +kernel
theorem d_Fields_clear_7 : decode prog_4_method_2_code 7 = .ok (.aload_n 0, 1) := by decide +kernel
theorem d_Fields_clear_8 : decode prog_4_method_2_code 8 = .ok (.iconst 0, 1) := by decide +kernel
theorem d_Fields_clear_9 : decode prog_4_method_2_code 9 = .ok (.putfield 42, 3) := by decide +kernel
theorem d_Fields_clear_12 : decode prog_4_method_2_code 12 = .ok (.aload_n 0, 1) := by decide +kernel
theorem d_Fields_clear_13 : decode prog_4_method_2_code 13 = .ok (.iconst 0, 1) := by decide +kernel
theorem d_Fields_clear_14 : decode prog_4_method_2_code 14 = .ok (.putfield 46, 3) := by decide +kernel
theorem d_Fields_clear_17 : decode prog_4_method_2_code 17 = .ok (.return_, 1) := by decide +kernel
def x_Fields_clear (σ : St) : Option St := (Option.bind (x_Bytes_clear 32 σ) (fun s4 => (x_let (x_updR s4 31 5 (0 : Int32)) (fun (s9 : St) => (x_let (x_updR s9 31 8 (0 : Int32)) (fun (s14 : St) => some s14))))))
abbrev rm_Fields_clear : Room := { frames := 1, cells := 0, slots := 0, locals := 20 }
set_option maxHeartbeats 4000000 in
set_option maxRecDepth 100000 in
theorem t_Fields_clear (l : Launch) (G : xG) (σ : St) (σ' : St) (hE : x_Fields_clear σ = some σ') : Met l y_Fields_clear (ws_Fields_clear) rm_Fields_clear (xP G σ [.ref (G.2.1 31)]) (xQ G none σ') 0 0 (xA G) := by
  refine Met.ofW (cc := prog_4_method_2_code) (maxL := 1) (ret := none) (by decide) rfl ?_
  intro p e s m args below meth c s₁ B hml hv
  obtain ⟨rfl, hw, hC⟩ := hv
  have hx := B.exec
  have hb := B.bytes
  have hr := B.returns
  have hu : ∀ w ∈ UW, w.before _ s = true := fun w h => atoms_spec B.pre w (List.mem_cons_of_mem _ h)
  have hown : s.vm.findClass R_Fields = some m.cls := findClass_of_methodNamed B.named
  have hlocks := B.notSynchronized
  have hK := hC.1
  have hI := hC.2.1
  have hG := hC.2.2.1
  have hN := hC.2.2.2
  have hS : va_S (xA G) s.heap s.heap [] := va_S.rf
  have hl := lv_entry ([.ref (G.2.1 31)]) (n := 1) (Nat.le_of_ble_eq_true rfl)
  rw [lg_entry_eq]
  generalize (lg_sl ([.ref (G.2.1 31)]) ++ List.replicate (1 - (lg_sl ([.ref (G.2.1 31)])).length) Slot.unset).toArray = ls at hl ⊢
  have hl : lv_has ls 1 [(0, .ref (G.2.1 31))] := hl
  unfold x_Fields_clear at hE
  refine lv_aload_n hx hb d_Fields_clear_0 rfl (lv_at hl 0 rfl) ?_
  refine va_get (D := G.1) (cl := xCl) (ci := 1) (v := .ref (G.2.1 32)) (C := R_Fields) (T := T_Fields) (N := 9) hx hb hu fi_Fields hown hK hw 31 (x_at (by decide) (xcl_31 G σ)) rfl 0 (by decide) (hu _ mw_173) (fun _ h9 => h9) rfl d_Fields_clear_1 ?_
  obtain ⟨s4, hC4, hE⟩ := x_bind hE
  refine x_callV hS (W.runV (As := []) (rest := []) ⟨hx, hb, hml, hown, hu⟩ (t_Bytes_clear l G σ 32 (by decide) s4 hC4) (cwV 0 hu (uw_V mw_397 mw_386 mw_387 mw_63 mw_388) rfl rfl rfl hd_Bytes_clear ⟨Nat.le_of_ble_eq_true rfl, Nat.le_of_ble_eq_true rfl⟩) (x_preV hC hS hw (va_recv hK hw (q := (R_Bytes, T_Bytes, 2)) (ci := 0) rfl (x_at (by decide) (xcl_32 G σ)))) rfl rfl hl.1 rfl (lv_room (Nat.le_of_ble_eq_true rfl)) d_Fields_clear_4 ⟨Nat.le_of_ble_eq_true rfl, Nat.le_of_ble_eq_true rfl⟩) (fun H locs hw hS => ?_)
  refine lv_aload_n hx hb d_Fields_clear_7 rfl (lv_at hl 0 rfl) ?_
  refine lv_iconst (v := (0 : Int32)) hx hb d_Fields_clear_8 (by decide) ?_
  refine va_put (D := G.1) (cl := xCl) (ci := 1) (v := .int (0 : Int32)) (ty := .int) (C := R_Fields) (T := T_Fields) (N := 9) hx hb hu fi_Fields ty_Fields tyok_Fields nm_Fields hown hK hw (x_D hI _) hS 31 (x_at (by decide) (xcl_31 G s4)) rfl 5 (by decide) (hu _ mw_184) (fun _ h9 => h9) rfl (tyok_Fields 5 (by decide)) rfl rfl (Nat.le_of_ble_eq_true rfl) d_Fields_clear_9 (fun H locs hw _ hS => ?_)
  replace hw := x_setR hw (by decide) rfl
  obtain ⟨s9, e9, hE⟩ := x_letE hE
  rw [← e9] at hw
  refine lv_aload_n hx hb d_Fields_clear_12 rfl (lv_at hl 0 rfl) ?_
  refine lv_iconst (v := (0 : Int32)) hx hb d_Fields_clear_13 (by decide) ?_
  refine va_put (D := G.1) (cl := xCl) (ci := 1) (v := .int (0 : Int32)) (ty := .int) (C := R_Fields) (T := T_Fields) (N := 9) hx hb hu fi_Fields ty_Fields tyok_Fields nm_Fields hown hK hw (x_D hI _) hS 31 (x_at (by decide) (xcl_31 G s9)) rfl 8 (by decide) (hu _ mw_187) (fun _ h9 => h9) rfl (tyok_Fields 8 (by decide)) rfl rfl (Nat.le_of_ble_eq_true rfl) d_Fields_clear_14 (fun H locs hw _ hS => ?_)
  replace hw := x_setR hw (by decide) rfl
  obtain ⟨s14, e14, hE⟩ := x_letE hE
  rw [← e14] at hw
  have e1 := Option.some.inj hE
  exact W.vret hx hb hr (fun t ht hW => ⟨rfl, by rw [ht, ← e1]; exact hw, hS.F ht⟩) hS.2.2 d_Fields_clear_17

def y_Fields_take : MethodName := ⟨"PlainOrigin$Fields", "take", "(LPlainOrigin$Bytes;)I"⟩
def ws_Fields_take : List Cond := Cond.code y_Fields_take prog_4_method_3_code 5 (some .int) :: UW
theorem hd_Fields_take : y_Fields_take.cls = R_Fields ∧ y_Fields_take.cls ≠ "java/lang/invoke/MethodHandle" ∧ y_Fields_take.cls ≠ "java/lang/invoke/VarHandle" ∧ (parseMethodDescriptor y_Fields_take.desc).map (fun d => d.parameters.length) = some 1 := by decide +kernel
theorem d_Fields_take_0 : decode prog_4_method_3_code 0 = .ok (.aload_n 1, 1) := by decide +kernel
theorem d_Fields_take_1 : decode prog_4_method_3_code 1 = .ok (.invokestatic 49, 3) := by decide +kernel
theorem d_Fields_take_4 : decode prog_4_method_3_code 4 = .ok (.istore_n 2, 1) := by decide +kernel
theorem d_Fields_take_5 : decode prog_4_method_3_code 5 = .ok (.iload_n 2, 1) := by decide +kernel
theorem d_Fields_take_6 : decode prog_4_method_3_code 6 = .ok (.iconst (-1), 1) := by decide +kernel
theorem d_Fields_take_7 : decode prog_4_method_3_code 7 = .ok (.if_icmp .ne (7), 3) := by decide +kernel
theorem d_Fields_take_10 : decode prog_4_method_3_code 10 = .ok (.sipush (400), 3) := by decide +kernel
theorem d_Fields_take_13 : decode prog_4_method_3_code 13 = .ok (.ireturn, 1) := by decide +kernel
theorem d_Fields_take_14 : decode prog_4_method_3_code 14 = .ok (.aload_n 0, 1) := by decide +kernel
theorem d_Fields_take_15 : decode prog_4_method_3_code 15 = .ok (.getfield 42, 3) := by decide +kernel
theorem d_Fields_take_18 : decode prog_4_method_3_code 18 = .ok (.bipush (12), 2) := by decide +kernel
theorem d_Fields_take_20 : decode prog_4_method_3_code 20 = .ok (.if_icmp .lt (7), 3) := by decide +kernel
theorem d_Fields_take_23 : decode prog_4_method_3_code 23 = .ok (.sipush (431), 3) := by decide +kernel
theorem d_Fields_take_26 : decode prog_4_method_3_code 26 = .ok (.ireturn, 1) := by decide +kernel
theorem d_Fields_take_27 : decode prog_4_method_3_code 27 = .ok (.aload_n 0, 1) := by decide +kernel
theorem d_Fields_take_28 : decode prog_4_method_3_code 28 = .ok (.getfield 14, 3) := by decide +kernel
theorem d_Fields_take_31 : decode prog_4_method_3_code 31 = .ok (.getfield 55, 3) := by decide +kernel
theorem d_Fields_take_34 : decode prog_4_method_3_code 34 = .ok (.istore_n 3, 1) := by decide +kernel
theorem d_Fields_take_35 : decode prog_4_method_3_code 35 = .ok (.aload_n 0, 1) := by decide +kernel
theorem d_Fields_take_36 : decode prog_4_method_3_code 36 = .ok (.getfield 14, 3) := by decide +kernel
theorem d_Fields_take_39 : decode prog_4_method_3_code 39 = .ok (.aload_n 1, 1) := by decide +kernel
theorem d_Fields_take_40 : decode prog_4_method_3_code 40 = .ok (.invokevirtual 58, 3) := by decide +kernel
theorem d_Fields_take_43 : decode prog_4_method_3_code 43 = .ok (.aload_n 0, 1) := by decide +kernel
theorem d_Fields_take_44 : decode prog_4_method_3_code 44 = .ok (.getfield 14, 3) := by decide +kernel
theorem d_Fields_take_47 : decode prog_4_method_3_code 47 = .ok (.iload_n 3, 1) := by decide +kernel
theorem d_Fields_take_48 : decode prog_4_method_3_code 48 = .ok (.iload_n 2, 1) := by decide +kernel
theorem d_Fields_take_49 : decode prog_4_method_3_code 49 = .ok (.iadd, 1) := by decide +kernel
theorem d_Fields_take_50 : decode prog_4_method_3_code 50 = .ok (.iconst 1, 1) := by decide +kernel
theorem d_Fields_take_51 : decode prog_4_method_3_code 51 = .ok (.iadd, 1) := by decide +kernel
theorem d_Fields_take_52 : decode prog_4_method_3_code 52 = .ok (.aload_n 0, 1) := by decide +kernel
theorem d_Fields_take_53 : decode prog_4_method_3_code 53 = .ok (.getfield 14, 3) := by decide +kernel
theorem d_Fields_take_56 : decode prog_4_method_3_code 56 = .ok (.getfield 55, 3) := by decide +kernel
theorem d_Fields_take_59 : decode prog_4_method_3_code 59 = .ok (.invokestatic 62, 3) := by decide +kernel
theorem d_Fields_take_62 : decode prog_4_method_3_code 62 = .ok (.istore 4, 2) := by decide +kernel
theorem d_Fields_take_64 : decode prog_4_method_3_code 64 = .ok (.aload_n 0, 1) := by decide +kernel
theorem d_Fields_take_65 : decode prog_4_method_3_code 65 = .ok (.getfield 20, 3) := by decide +kernel
theorem d_Fields_take_68 : decode prog_4_method_3_code 68 = .ok (.aload_n 0, 1) := by decide +kernel
theorem d_Fields_take_69 : decode prog_4_method_3_code 69 = .ok (.getfield 42, 3) := by decide +kernel
theorem d_Fields_take_72 : decode prog_4_method_3_code 72 = .ok (.iload_n 3, 1) := by decide +kernel
theorem d_Fields_take_73 : decode prog_4_method_3_code 73 = .ok (.iastore, 1) := by decide +kernel
theorem d_Fields_take_74 : decode prog_4_method_3_code 74 = .ok (.aload_n 0, 1) := by decide +kernel
theorem d_Fields_take_75 : decode prog_4_method_3_code 75 = .ok (.getfield 24, 3) := by decide +kernel
theorem d_Fields_take_78 : decode prog_4_method_3_code 78 = .ok (.aload_n 0, 1) := by decide +kernel
theorem d_Fields_take_79 : decode prog_4_method_3_code 79 = .ok (.getfield 42, 3) := by decide +kernel
theorem d_Fields_take_82 : decode prog_4_method_3_code 82 = .ok (.iload_n 3, 1) := by decide +kernel
theorem d_Fields_take_83 : decode prog_4_method_3_code 83 = .ok (.iload_n 2, 1) := by decide +kernel
theorem d_Fields_take_84 : decode prog_4_method_3_code 84 = .ok (.iadd, 1) := by decide +kernel
theorem d_Fields_take_85 : decode prog_4_method_3_code 85 = .ok (.iastore, 1) := by decide +kernel
theorem d_Fields_take_86 : decode prog_4_method_3_code 86 = .ok (.aload_n 0, 1) := by decide +kernel
theorem d_Fields_take_87 : decode prog_4_method_3_code 87 = .ok (.getfield 27, 3) := by decide +kernel
theorem d_Fields_take_90 : decode prog_4_method_3_code 90 = .ok (.aload_n 0, 1) := by decide +kernel
theorem d_Fields_take_91 : decode prog_4_method_3_code 91 = .ok (.getfield 42, 3) := by decide +kernel
theorem d_Fields_take_94 : decode prog_4_method_3_code 94 = .ok (.iload 4, 2) := by decide +kernel
theorem d_Fields_take_96 : decode prog_4_method_3_code 96 = .ok (.iastore, 1) := by decide +kernel
theorem d_Fields_take_97 : decode prog_4_method_3_code 97 = .ok (.aload_n 0, 1) := by decide +kernel
theorem d_Fields_take_98 : decode prog_4_method_3_code 98 = .ok (.getfield 30, 3) := by decide +kernel
theorem d_Fields_take_101 : decode prog_4_method_3_code 101 = .ok (.aload_n 0, 1) := by decide +kernel
theorem d_Fields_take_102 : decode prog_4_method_3_code 102 = .ok (.getfield 42, 3) := by decide +kernel
theorem d_Fields_take_105 : decode prog_4_method_3_code 105 = .ok (.aload_n 0, 1) := by decide +kernel
theorem d_Fields_take_106 : decode prog_4_method_3_code 106 = .ok (.getfield 14, 3) := by decide +kernel
theorem d_Fields_take_109 : decode prog_4_method_3_code 109 = .ok (.iload 4, 2) := by decide +kernel
theorem d_Fields_take_111 : decode prog_4_method_3_code 111 = .ok (.aload_n 0, 1) := by decide +kernel
theorem d_Fields_take_112 : decode prog_4_method_3_code 112 = .ok (.getfield 14, 3) := by decide +kernel
theorem d_Fields_take_115 : decode prog_4_method_3_code 115 = .ok (.getfield 55, 3) := by decide +kernel
theorem d_Fields_take_118 : decode prog_4_method_3_code 118 = .ok (.invokestatic 66, 3) := by decide +kernel
theorem d_Fields_take_121 : decode prog_4_method_3_code 121 = .ok (.iastore, 1) := by decide +kernel
theorem d_Fields_take_122 : decode prog_4_method_3_code 122 = .ok (.aload_n 0, 1) := by decide +kernel
theorem d_Fields_take_123 : decode prog_4_method_3_code 123 = .ok (.dup, 1) := by decide +kernel
theorem d_Fields_take_124 : decode prog_4_method_3_code 124 = .ok (.getfield 42, 3) := by decide +kernel
theorem d_Fields_take_127 : decode prog_4_method_3_code 127 = .ok (.iconst 1, 1) := by decide +kernel
theorem d_Fields_take_128 : decode prog_4_method_3_code 128 = .ok (.iadd, 1) := by decide +kernel
theorem d_Fields_take_129 : decode prog_4_method_3_code 129 = .ok (.putfield 42, 3) := by decide +kernel
theorem d_Fields_take_132 : decode prog_4_method_3_code 132 = .ok (.iconst 0, 1) := by decide +kernel
theorem d_Fields_take_133 : decode prog_4_method_3_code 133 = .ok (.ireturn, 1) := by decide +kernel
def x_Fields_take (o1 : Nat) (σ : St) : Option (Int32 × St) := (Option.bind (x_Text_colonOf o1 σ) (fun r1 => (if r1 = ((-1) : Int32) then some ((400 : Int32), σ) else (if (σ.1 31 5) < (12 : Int32) then (x_let (σ.1 32 1) (fun (v34 : Int32) => (Option.bind (x_Bytes_addAll 32 o1 σ) (fun s40 => (Option.bind (x_Text_skipBlanks 32 ((v34 + r1) + (1 : Int32)) (s40.1 32 1) s40) (fun r59 => (if x_in (s40.1 31 5) 12 then (x_let (x_updM s40 34 (s40.1 31 5).toNatClampNeg v34) (fun (s73 : St) => (if x_in (s73.1 31 5) 12 then (x_let (x_updM s73 35 (s73.1 31 5).toNatClampNeg (v34 + r1)) (fun (s85 : St) => (if x_in (s85.1 31 5) 12 then (x_let (x_updM s85 36 (s85.1 31 5).toNatClampNeg r59) (fun (s96 : St) => (Option.bind (x_Text_dropBlanks 32 r59 (s96.1 32 1) s96) (fun r118 => (if x_in (s96.1 31 5) 12 then (x_let (x_updM s96 37 (s96.1 31 5).toNatClampNeg r118) (fun (s121 : St) => (x_let (x_updR s121 31 5 ((s121.1 31 5) + (1 : Int32))) (fun (s129 : St) => some ((0 : Int32), s129))))) else none))))) else none))) else none))) else none))))))) else some ((431 : Int32), σ)))))
abbrev rm_Fields_take : Room := { frames := 7, cells := 0, slots := 0, locals := 158 }
set_option maxHeartbeats 4000000 in
set_option maxRecDepth 100000 in
theorem t_Fields_take (l : Launch) (G : xG) (σ : St) (o1 : Nat) (ho1 : xB o1) (r : Int32) (σ' : St) (hE : x_Fields_take o1 σ = some (r, σ')) : Met l y_Fields_take (ws_Fields_take) rm_Fields_take (xP G σ [.ref (G.2.1 31), .ref (G.2.1 o1)]) (xQ G (some (.int r)) σ') 0 0 (xA G) := by
  refine Met.ofW (cc := prog_4_method_3_code) (maxL := 5) (ret := (some .int)) (by decide) rfl ?_
  intro p e s m args below meth c s₁ B hml hv
  obtain ⟨rfl, hw, hC⟩ := hv
  have hx := B.exec
  have hb := B.bytes
  have hr := B.returns
  have hu : ∀ w ∈ UW, w.before _ s = true := fun w h => atoms_spec B.pre w (List.mem_cons_of_mem _ h)
  have hown : s.vm.findClass R_Fields = some m.cls := findClass_of_methodNamed B.named
  have hlocks := B.notSynchronized
  have hK := hC.1
  have hI := hC.2.1
  have hG := hC.2.2.1
  have hN := hC.2.2.2
  have hS : va_S (xA G) s.heap s.heap [] := va_S.rf
  have hl := lv_entry ([.ref (G.2.1 31), .ref (G.2.1 o1)]) (n := 5) (Nat.le_of_ble_eq_true rfl)
  rw [lg_entry_eq]
  generalize (lg_sl ([.ref (G.2.1 31), .ref (G.2.1 o1)]) ++ List.replicate (5 - (lg_sl ([.ref (G.2.1 31), .ref (G.2.1 o1)])).length) Slot.unset).toArray = ls at hl ⊢
  have hl : lv_has ls 5 [(0, .ref (G.2.1 31)), (1, .ref (G.2.1 o1))] := hl
  unfold x_Fields_take at hE
  refine lv_aload_n hx hb d_Fields_take_0 rfl (lv_at hl 1 rfl) ?_
  obtain ⟨r1, hC1, hE⟩ := x_bind hE
  refine x_callR (W.runS (As := [.ref (G.2.1 o1)]) (rest := []) ⟨hx, hb, hml, hown, hu⟩ (t_Text_colonOf l G σ o1 ho1 r1 hC1) (va_cwS 1 hu (uw_S mw_698 mw_699 mw_75 mw_700) rfl rfl rfl hd_Text_colonOf ⟨Nat.le_of_ble_eq_true rfl, Nat.le_of_ble_eq_true rfl⟩) (x_preS hC hS hw) rfl rfl hl.1 rfl (lv_room (Nat.le_of_ble_eq_true rfl)) d_Fields_take_1 ⟨Nat.le_of_ble_eq_true rfl, Nat.le_of_ble_eq_true rfl⟩) ?_
  refine lv_istore_n hx hb d_Fields_take_4 rfl hl (by decide) rfl (fun ls hl => ?_)
  have hl : lv_has ls 5 [(2, .int r1), (0, .ref (G.2.1 31)), (1, .ref (G.2.1 o1))] := hl
  refine lv_iload_n hx hb d_Fields_take_5 rfl (lv_at hl 0 rfl) ?_
  refine lv_iconst (v := ((-1) : Int32)) hx hb d_Fields_take_6 (by decide) ?_
  refine lv_icmp_ne (tgt := 14) hx hb d_Fields_take_7 (by decide) (fun hc7 => ?_) (fun hc7 => ?_)
  · rw [if_neg hc7] at hE
    refine lv_aload_n hx hb d_Fields_take_14 rfl (lv_at hl 1 rfl) ?_
    refine va_get (D := G.1) (cl := xCl) (ci := 1) (v := .int (σ.1 31 5)) (C := R_Fields) (T := T_Fields) (N := 9) hx hb hu fi_Fields hown hK hw 31 (x_at (by decide) (xcl_31 G σ)) rfl 5 (by decide) (hu _ mw_184) (fun _ h9 => h9) rfl d_Fields_take_15 ?_
    refine lv_bipush (v := (12 : Int32)) hx hb d_Fields_take_18 (by decide) ?_
    refine lv_icmp_lt (tgt := 27) hx hb d_Fields_take_20 (by decide) (fun hc20 => ?_) (fun hc20 => ?_)
    · rw [if_pos hc20] at hE
      refine lv_aload_n hx hb d_Fields_take_27 rfl (lv_at hl 1 rfl) ?_
      refine va_get (D := G.1) (cl := xCl) (ci := 1) (v := .ref (G.2.1 32)) (C := R_Fields) (T := T_Fields) (N := 9) hx hb hu fi_Fields hown hK hw 31 (x_at (by decide) (xcl_31 G σ)) rfl 0 (by decide) (hu _ mw_173) (fun _ h9 => h9) rfl d_Fields_take_28 ?_
      refine va_getN (D := G.1) (cl := xCl) (ci := 0) (v := .int (σ.1 32 1)) (C := R_Bytes) (T := T_Bytes) (N := 2) hx hb hu fi_Bytes hown hK hw 32 (x_at (by decide) (xcl_32 G σ)) rfl 1 (by decide) (nl_1 hG) (fun _ h9 => h9) rfl d_Fields_take_31 ?_
      refine lv_topi (fun v34 e34 => ?_)
      replace hE := x_letT e34 hE
      refine lv_istore_n hx hb d_Fields_take_34 rfl hl (by decide) rfl (fun ls hl => ?_)
      have hl : lv_has ls 5 [(3, .int v34), (2, .int r1), (0, .ref (G.2.1 31)), (1, .ref (G.2.1 o1))] := hl
      refine lv_aload_n hx hb d_Fields_take_35 rfl (lv_at hl 2 rfl) ?_
      refine va_get (D := G.1) (cl := xCl) (ci := 1) (v := .ref (G.2.1 32)) (C := R_Fields) (T := T_Fields) (N := 9) hx hb hu fi_Fields hown hK hw 31 (x_at (by decide) (xcl_31 G σ)) rfl 0 (by decide) (hu _ mw_173) (fun _ h9 => h9) rfl d_Fields_take_36 ?_
      refine lv_aload_n hx hb d_Fields_take_39 rfl (lv_at hl 3 rfl) ?_
      obtain ⟨s40, hC40, hE⟩ := x_bind hE
      refine x_callV hS (W.runV (As := [.ref (G.2.1 o1)]) (rest := []) ⟨hx, hb, hml, hown, hu⟩ (t_Bytes_addAll l G σ 32 o1 (by decide) ho1 s40 hC40) (cwV 1 hu (uw_V mw_709 mw_710 mw_711 mw_63 mw_712) rfl rfl rfl hd_Bytes_addAll ⟨Nat.le_of_ble_eq_true rfl, Nat.le_of_ble_eq_true rfl⟩) (x_preV hC hS hw (va_recv hK hw (q := (R_Bytes, T_Bytes, 2)) (ci := 0) rfl (x_at (by decide) (xcl_32 G σ)))) rfl rfl hl.1 rfl (lv_room (Nat.le_of_ble_eq_true rfl)) d_Fields_take_40 ⟨Nat.le_of_ble_eq_true rfl, Nat.le_of_ble_eq_true rfl⟩) (fun H locs hw hS => ?_)
      refine lv_aload_n hx hb d_Fields_take_43 rfl (lv_at hl 2 rfl) ?_
      refine va_get (D := G.1) (cl := xCl) (ci := 1) (v := .ref (G.2.1 32)) (C := R_Fields) (T := T_Fields) (N := 9) hx hb hu fi_Fields hown hK hw 31 (x_at (by decide) (xcl_31 G s40)) rfl 0 (by decide) (hu _ mw_173) (fun _ h9 => h9) rfl d_Fields_take_44 ?_
      refine lv_iload_n hx hb d_Fields_take_47 rfl (lv_at hl 0 rfl) ?_
      refine lv_iload_n hx hb d_Fields_take_48 rfl (lv_at hl 1 rfl) ?_
      refine lv_iadd hx hb d_Fields_take_49 ?_
      refine lv_iconst (v := (1 : Int32)) hx hb d_Fields_take_50 (by decide) ?_
      refine lv_iadd hx hb d_Fields_take_51 ?_
      refine lv_aload_n hx hb d_Fields_take_52 rfl (lv_at hl 2 rfl) ?_
      refine va_get (D := G.1) (cl := xCl) (ci := 1) (v := .ref (G.2.1 32)) (C := R_Fields) (T := T_Fields) (N := 9) hx hb hu fi_Fields hown hK hw 31 (x_at (by decide) (xcl_31 G s40)) rfl 0 (by decide) (hu _ mw_173) (fun _ h9 => h9) rfl d_Fields_take_53 ?_
      refine va_getN (D := G.1) (cl := xCl) (ci := 0) (v := .int (s40.1 32 1)) (C := R_Bytes) (T := T_Bytes) (N := 2) hx hb hu fi_Bytes hown hK hw 32 (x_at (by decide) (xcl_32 G s40)) rfl 1 (by decide) (nl_1 hG) (fun _ h9 => h9) rfl d_Fields_take_56 ?_
      obtain ⟨r59, hC59, hE⟩ := x_bind hE
      refine x_callR (W.runS (As := [.ref (G.2.1 32), .int ((v34 + r1) + (1 : Int32)), .int (s40.1 32 1)]) (rest := []) ⟨hx, hb, hml, hown, hu⟩ (t_Text_skipBlanks l G s40 32 ((v34 + r1) + (1 : Int32)) (s40.1 32 1) (by decide) r59 hC59) (va_cwS 3 hu (uw_S mw_715 mw_716 mw_75 mw_717) rfl rfl rfl hd_Text_skipBlanks ⟨Nat.le_of_ble_eq_true rfl, Nat.le_of_ble_eq_true rfl⟩) (x_preS hC hS hw) rfl rfl hl.1 rfl (lv_room (Nat.le_of_ble_eq_true rfl)) d_Fields_take_59 ⟨Nat.le_of_ble_eq_true rfl, Nat.le_of_ble_eq_true rfl⟩) ?_
      refine lv_istore hx hb d_Fields_take_62 hl (by decide) rfl (fun ls hl => ?_)
      have hl : lv_has ls 5 [(4, .int r59), (3, .int v34), (2, .int r1), (0, .ref (G.2.1 31)), (1, .ref (G.2.1 o1))] := hl
      refine lv_aload_n hx hb d_Fields_take_64 rfl (lv_at hl 3 rfl) ?_
      refine va_get (D := G.1) (cl := xCl) (ci := 1) (v := .ref (G.2.1 34)) (C := R_Fields) (T := T_Fields) (N := 9) hx hb hu fi_Fields hown hK hw 31 (x_at (by decide) (xcl_31 G s40)) rfl 1 (by decide) (hu _ mw_176) (fun _ h9 => h9) rfl d_Fields_take_65 ?_
      refine lv_aload_n hx hb d_Fields_take_68 rfl (lv_at hl 3 rfl) ?_
      refine va_get (D := G.1) (cl := xCl) (ci := 1) (v := .int (s40.1 31 5)) (C := R_Fields) (T := T_Fields) (N := 9) hx hb hu fi_Fields hown hK hw 31 (x_at (by decide) (xcl_31 G s40)) rfl 5 (by decide) (hu _ mw_184) (fun _ h9 => h9) rfl d_Fields_take_69 ?_
      refine lv_iload_n hx hb d_Fields_take_72 rfl (lv_at hl 1 rfl) ?_
      obtain ⟨g73, hE⟩ := x_guard hE
      refine va_iast hx hb hK hw (x_D hI _) hS 34 0 (x_at (by decide) (xcl_34 G s40)) rfl g73 d_Fields_take_73 (fun H locs hw _ hS => ?_)
      replace hw := x_setM hw (by decide) (by decide)
      obtain ⟨s73, e73, hE⟩ := x_letE hE
      rw [← e73] at hw
      refine lv_aload_n hx hb d_Fields_take_74 rfl (lv_at hl 3 rfl) ?_
      refine va_get (D := G.1) (cl := xCl) (ci := 1) (v := .ref (G.2.1 35)) (C := R_Fields) (T := T_Fields) (N := 9) hx hb hu fi_Fields hown hK hw 31 (x_at (by decide) (xcl_31 G s73)) rfl 2 (by decide) (hu _ mw_177) (fun _ h9 => h9) rfl d_Fields_take_75 ?_
      refine lv_aload_n hx hb d_Fields_take_78 rfl (lv_at hl 3 rfl) ?_
      refine va_get (D := G.1) (cl := xCl) (ci := 1) (v := .int (s73.1 31 5)) (C := R_Fields) (T := T_Fields) (N := 9) hx hb hu fi_Fields hown hK hw 31 (x_at (by decide) (xcl_31 G s73)) rfl 5 (by decide) (hu _ mw_184) (fun _ h9 => h9) rfl d_Fields_take_79 ?_
      refine lv_iload_n hx hb d_Fields_take_82 rfl (lv_at hl 1 rfl) ?_
      refine lv_iload_n hx hb d_Fields_take_83 rfl (lv_at hl 2 rfl) ?_
      refine lv_iadd hx hb d_Fields_take_84 ?_
      obtain ⟨g85, hE⟩ := x_guard hE
      refine va_iast hx hb hK hw (x_D hI _) hS 35 0 (x_at (by decide) (xcl_35 G s73)) rfl g85 d_Fields_take_85 (fun H locs hw _ hS => ?_)
      replace hw := x_setM hw (by decide) (by decide)
      obtain ⟨s85, e85, hE⟩ := x_letE hE
      rw [← e85] at hw
      refine lv_aload_n hx hb d_Fields_take_86 rfl (lv_at hl 3 rfl) ?_
      refine va_get (D := G.1) (cl := xCl) (ci := 1) (v := .ref (G.2.1 36)) (C := R_Fields) (T := T_Fields) (N := 9) hx hb hu fi_Fields hown hK hw 31 (x_at (by decide) (xcl_31 G s85)) rfl 3 (by decide) (hu _ mw_178) (fun _ h9 => h9) rfl d_Fields_take_87 ?_
      refine lv_aload_n hx hb d_Fields_take_90 rfl (lv_at hl 3 rfl) ?_
      refine va_get (D := G.1) (cl := xCl) (ci := 1) (v := .int (s85.1 31 5)) (C := R_Fields) (T := T_Fields) (N := 9) hx hb hu fi_Fields hown hK hw 31 (x_at (by decide) (xcl_31 G s85)) rfl 5 (by decide) (hu _ mw_184) (fun _ h9 => h9) rfl d_Fields_take_91 ?_
      refine lv_iload hx hb d_Fields_take_94 (lv_at hl 0 rfl) ?_
      obtain ⟨g96, hE⟩ := x_guard hE
      refine va_iast hx hb hK hw (x_D hI _) hS 36 0 (x_at (by decide) (xcl_36 G s85)) rfl g96 d_Fields_take_96 (fun H locs hw _ hS => ?_)
      replace hw := x_setM hw (by decide) (by decide)
      obtain ⟨s96, e96, hE⟩ := x_letE hE
      rw [← e96] at hw
      refine lv_aload_n hx hb d_Fields_take_97 rfl (lv_at hl 3 rfl) ?_
      refine va_get (D := G.1) (cl := xCl) (ci := 1) (v := .ref (G.2.1 37)) (C := R_Fields) (T := T_Fields) (N := 9) hx hb hu fi_Fields hown hK hw 31 (x_at (by decide) (xcl_31 G s96)) rfl 4 (by decide) (hu _ mw_181) (fun _ h9 => h9) rfl d_Fields_take_98 ?_
      refine lv_aload_n hx hb d_Fields_take_101 rfl (lv_at hl 3 rfl) ?_
      refine va_get (D := G.1) (cl := xCl) (ci := 1) (v := .int (s96.1 31 5)) (C := R_Fields) (T := T_Fields) (N := 9) hx hb hu fi_Fields hown hK hw 31 (x_at (by decide) (xcl_31 G s96)) rfl 5 (by decide) (hu _ mw_184) (fun _ h9 => h9) rfl d_Fields_take_102 ?_
      refine lv_aload_n hx hb d_Fields_take_105 rfl (lv_at hl 3 rfl) ?_
      refine va_get (D := G.1) (cl := xCl) (ci := 1) (v := .ref (G.2.1 32)) (C := R_Fields) (T := T_Fields) (N := 9) hx hb hu fi_Fields hown hK hw 31 (x_at (by decide) (xcl_31 G s96)) rfl 0 (by decide) (hu _ mw_173) (fun _ h9 => h9) rfl d_Fields_take_106 ?_
      refine lv_iload hx hb d_Fields_take_109 (lv_at hl 0 rfl) ?_
      refine lv_aload_n hx hb d_Fields_take_111 rfl (lv_at hl 3 rfl) ?_
      refine va_get (D := G.1) (cl := xCl) (ci := 1) (v := .ref (G.2.1 32)) (C := R_Fields) (T := T_Fields) (N := 9) hx hb hu fi_Fields hown hK hw 31 (x_at (by decide) (xcl_31 G s96)) rfl 0 (by decide) (hu _ mw_173) (fun _ h9 => h9) rfl d_Fields_take_112 ?_
      refine va_getN (D := G.1) (cl := xCl) (ci := 0) (v := .int (s96.1 32 1)) (C := R_Bytes) (T := T_Bytes) (N := 2) hx hb hu fi_Bytes hown hK hw 32 (x_at (by decide) (xcl_32 G s96)) rfl 1 (by decide) (nl_1 hG) (fun _ h9 => h9) rfl d_Fields_take_115 ?_
      obtain ⟨r118, hC118, hE⟩ := x_bind hE
      refine x_callR (W.runS (As := [.ref (G.2.1 32), .int r59, .int (s96.1 32 1)]) (rest := [.int (s96.1 31 5), .ref (G.2.1 37)]) ⟨hx, hb, hml, hown, hu⟩ (t_Text_dropBlanks l G s96 32 r59 (s96.1 32 1) (by decide) r118 hC118) (va_cwS 3 hu (uw_S mw_721 mw_722 mw_75 mw_723) rfl rfl rfl hd_Text_dropBlanks ⟨Nat.le_of_ble_eq_true rfl, Nat.le_of_ble_eq_true rfl⟩) (x_preS hC hS hw) rfl rfl hl.1 rfl (lv_room (Nat.le_of_ble_eq_true rfl)) d_Fields_take_118 ⟨Nat.le_of_ble_eq_true rfl, Nat.le_of_ble_eq_true rfl⟩) ?_
      obtain ⟨g121, hE⟩ := x_guard hE
      refine va_iast hx hb hK hw (x_D hI _) hS 37 0 (x_at (by decide) (xcl_37 G s96)) rfl g121 d_Fields_take_121 (fun H locs hw _ hS => ?_)
      replace hw := x_setM hw (by decide) (by decide)
      obtain ⟨s121, e121, hE⟩ := x_letE hE
      rw [← e121] at hw
      refine lv_aload_n hx hb d_Fields_take_122 rfl (lv_at hl 3 rfl) ?_
      refine lv_dup hx hb d_Fields_take_123 rfl ?_
      refine va_get (D := G.1) (cl := xCl) (ci := 1) (v := .int (s121.1 31 5)) (C := R_Fields) (T := T_Fields) (N := 9) hx hb hu fi_Fields hown hK hw 31 (x_at (by decide) (xcl_31 G s121)) rfl 5 (by decide) (hu _ mw_184) (fun _ h9 => h9) rfl d_Fields_take_124 ?_
      refine lv_iconst (v := (1 : Int32)) hx hb d_Fields_take_127 (by decide) ?_
      refine lv_iadd hx hb d_Fields_take_128 ?_
      refine va_put (D := G.1) (cl := xCl) (ci := 1) (v := .int ((s121.1 31 5) + (1 : Int32))) (ty := .int) (C := R_Fields) (T := T_Fields) (N := 9) hx hb hu fi_Fields ty_Fields tyok_Fields nm_Fields hown hK hw (x_D hI _) hS 31 (x_at (by decide) (xcl_31 G s121)) rfl 5 (by decide) (hu _ mw_184) (fun _ h9 => h9) rfl (tyok_Fields 5 (by decide)) rfl rfl (Nat.le_of_ble_eq_true rfl) d_Fields_take_129 (fun H locs hw _ hS => ?_)
      replace hw := x_setR hw (by decide) rfl
      obtain ⟨s129, e129, hE⟩ := x_letE hE
      rw [← e129] at hw
      refine lv_iconst (v := (0 : Int32)) hx hb d_Fields_take_132 (by decide) ?_
      obtain ⟨e1, e2⟩ := x_pair hE
      exact W.iret (v := (0 : Int32)) hx hb hr (fun t ht hW => ⟨by rw [e1], by rw [ht, ← e2]; exact hw, hS.F ht⟩) hS.2.2 d_Fields_take_133
    · rw [if_neg hc20] at hE
      refine lv_sipush (v := (431 : Int32)) hx hb d_Fields_take_23 (by decide) ?_
      obtain ⟨e1, e2⟩ := x_pair hE
      exact W.iret (v := (431 : Int32)) hx hb hr (fun t ht hW => ⟨by rw [e1], by rw [ht, ← e2]; exact hw, hS.F ht⟩) hS.2.2 d_Fields_take_26
  · rw [if_pos hc7] at hE
    refine lv_sipush (v := (400 : Int32)) hx hb d_Fields_take_10 (by decide) ?_
    obtain ⟨e1, e2⟩ := x_pair hE
    exact W.iret (v := (400 : Int32)) hx hb hr (fun t ht hW => ⟨by rw [e1], by rw [ht, ← e2]; exact hw, hS.F ht⟩) hS.2.2 d_Fields_take_13

def y_Fields_countOf : MethodName := ⟨"PlainOrigin$Fields", "countOf", "(Ljava/lang/String;)I"⟩
def ws_Fields_countOf : List Cond := Cond.code y_Fields_countOf prog_4_method_4_code 4 (some .int) :: UW
theorem hd_Fields_countOf : y_Fields_countOf.cls = R_Fields ∧ y_Fields_countOf.cls ≠ "java/lang/invoke/MethodHandle" ∧ y_Fields_countOf.cls ≠ "java/lang/invoke/VarHandle" ∧ (parseMethodDescriptor y_Fields_countOf.desc).map (fun d => d.parameters.length) = some 1 := by decide +kernel
theorem d_Fields_countOf_0 : decode prog_4_method_4_code 0 = .ok (.iconst 0, 1) := by decide +kernel
theorem d_Fields_countOf_1 : decode prog_4_method_4_code 1 = .ok (.istore_n 2, 1) := by decide +kernel
theorem d_Fields_countOf_2 : decode prog_4_method_4_code 2 = .ok (.iconst 0, 1) := by decide +kernel
theorem d_Fields_countOf_3 : decode prog_4_method_4_code 3 = .ok (.istore_n 3, 1) := by decide +kernel
theorem d_Fields_countOf_4 : decode prog_4_method_4_code 4 = .ok (.iload_n 3, 1) := by decide +kernel
theorem d_Fields_countOf_5 : decode prog_4_method_4_code 5 = .ok (.aload_n 0, 1) := by decide +kernel
theorem d_Fields_countOf_6 : decode prog_4_method_4_code 6 = .ok (.getfield 42, 3) := by decide +kernel
theorem d_Fields_countOf_9 : decode prog_4_method_4_code 9 = .ok (.if_icmp .ge (35), 3) := by decide +kernel
theorem d_Fields_countOf_12 : decode prog_4_method_4_code 12 = .ok (.aload_n 0, 1) := by decide +kernel
theorem d_Fields_countOf_13 : decode prog_4_method_4_code 13 = .ok (.getfield 14, 3) := by decide +kernel
theorem d_Fields_countOf_16 : decode prog_4_method_4_code 16 = .ok (.aload_n 0, 1) := by decide +kernel
theorem d_Fields_countOf_17 : decode prog_4_method_4_code 17 = .ok (.getfield 20, 3) := by decide +kernel
theorem d_Fields_countOf_20 : decode prog_4_method_4_code 20 = .ok (.iload_n 3, 1) := by decide +kernel
theorem d_Fields_countOf_21 : decode prog_4_method_4_code 21 = .ok (.iaload, 1) := by decide +kernel
theorem d_Fields_countOf_22 : decode prog_4_method_4_code 22 = .ok (.aload_n 0, 1) := by decide +kernel
theorem d_Fields_countOf_23 : decode prog_4_method_4_code 23 = .ok (.getfield 24, 3) := by decide +kernel
theorem d_Fields_countOf_26 : decode prog_4_method_4_code 26 = .ok (.iload_n 3, 1) := by decide +kernel
theorem d_Fields_countOf_27 : decode prog_4_method_4_code 27 = .ok (.iaload, 1) := by decide +kernel
theorem d_Fields_countOf_28 : decode prog_4_method_4_code 28 = .ok (.aload_n 1, 1) := by decide +kernel
theorem d_Fields_countOf_29 : decode prog_4_method_4_code 29 = .ok (.invokestatic 69, 3) := by decide +kernel
theorem d_Fields_countOf_32 : decode prog_4_method_4_code 32 = .ok (.ifCond .eq (6), 3) := by decide +kernel
theorem d_Fields_countOf_35 : decode prog_4_method_4_code 35 = .ok (.iinc 2 (1), 3) := by decide +kernel
theorem d_Fields_countOf_38 : decode prog_4_method_4_code 38 = .ok (.iinc 3 (1), 3) := by decide +kernel
theorem d_Fields_countOf_41 : decode prog_4_method_4_code 41 = .ok (.goto (-37), 3) := by decide +kernel
theorem d_Fields_countOf_44 : decode prog_4_method_4_code 44 = .ok (.iload_n 2, 1) := by decide +kernel
theorem d_Fields_countOf_45 : decode prog_4_method_4_code 45 = .ok (.ireturn, 1) := by decide +kernel
def x_Fields_countOf_38 (w1 : Nat) (σ : St) (bk4 : Int32 → Int32 → Option Int32) (l2 : Int32) (l3 : Int32) : Option Int32 := (x_let (l3 + (1 : Int32)) (fun (v38 : Int32) => bk4 l2 v38))
def x_Fields_countOf_4 (w1 : Nat) (σ : St) : Nat → Int32 → Int32 → Option Int32
  | 0, _, _ => none
  | n + 1, l2, l3 => (if (σ.1 31 5) ≤ l3 then some l2 else (if x_in l3 12 then (if x_in l3 12 then (Option.bind (x_Text_isWord 32 (σ.2.1 34 l3.toNatClampNeg) (σ.2.1 35 l3.toNatClampNeg) w1 σ) (fun r29 => (if r29 = 0 then x_Fields_countOf_38 w1 σ (x_Fields_countOf_4 w1 σ n) l2 l3 else (x_let (l2 + (1 : Int32)) (fun (v35 : Int32) => x_Fields_countOf_38 w1 σ (x_Fields_countOf_4 w1 σ n) v35 l3))))) else none) else none))
def x_Fields_countOf (w1 : Nat) (σ : St) : Option Int32 := x_Fields_countOf_4 w1 σ x_fuel (0 : Int32) (0 : Int32)
abbrev rm_Fields_countOf : Room := { frames := 5, cells := 0, slots := 0, locals := 109 }
set_option maxHeartbeats 4000000 in
set_option maxRecDepth 100000 in
theorem t_Fields_countOf (l : Launch) (G : xG) (σ : St) (w1 : Nat) (hw1 : w1 < nStr) (r : Int32) (hE : x_Fields_countOf w1 σ = some r) : Met l y_Fields_countOf (ws_Fields_countOf) rm_Fields_countOf (xP G σ [.ref (G.2.1 31), .ref (G.2.2.2.1 w1)]) (xRd (some (.int r))) 0 0 (fun _ => False) := by
  refine Met.ofW (cc := prog_4_method_4_code) (maxL := 4) (ret := (some .int)) (by decide) rfl ?_
  intro p e s m args below meth c s₁ B hml hv
  obtain ⟨rfl, hw, hC⟩ := hv
  have hx := B.exec
  have hb := B.bytes
  have hr := B.returns
  have hu : ∀ w ∈ UW, w.before _ s = true := fun w h => atoms_spec B.pre w (List.mem_cons_of_mem _ h)
  have hown : s.vm.findClass R_Fields = some m.cls := findClass_of_methodNamed B.named
  have hlocks := B.notSynchronized
  have hK := hC.1
  have hI := hC.2.1
  have hG := hC.2.2.1
  have hN := hC.2.2.2
  have hS : va_S (xA G) s.heap s.heap [] := va_S.rf
  have jn38 : ∀ (bk4 : Int32 → Int32 → Option Int32) (hbk4 : ∀ (ls : Array Slot) (l2 : Int32) (l3 : Int32), bk4 l2 l3 = some r → lv_has ls 4 [(0, .ref (G.2.1 31)), (1, .ref (G.2.2.2.1 w1)), (2, .int l2), (3, .int l3)] → W p l e (headSpec (ws_Fields_countOf) rm_Fields_countOf).room s m ([.ref (G.2.1 31), .ref (G.2.2.2.1 w1)] : List Value).toArray below meth c s.heap [] 0 0 (MQ below (xRd (some (.int r))) ([.ref (G.2.1 31), .ref (G.2.2.2.1 w1)] : List Value).toArray s 0 0 (fun _ => False)) (F0 m 4 ls [])) (ls : Array Slot) (l2 : Int32) (l3 : Int32), x_Fields_countOf_38 w1 σ bk4 l2 l3 = some r → lv_has ls 4 [(0, .ref (G.2.1 31)), (1, .ref (G.2.2.2.1 w1)), (2, .int l2), (3, .int l3)] → W p l e (headSpec (ws_Fields_countOf) rm_Fields_countOf).room s m ([.ref (G.2.1 31), .ref (G.2.2.2.1 w1)] : List Value).toArray below meth c s.heap [] 0 0 (MQ below (xRd (some (.int r))) ([.ref (G.2.1 31), .ref (G.2.2.2.1 w1)] : List Value).toArray s 0 0 (fun _ => False)) (F0 m 38 ls []) := by
    intro bk4 hbk4 ls l2 l3 hE hl
    unfold x_Fields_countOf_38 at hE
    obtain ⟨v38, e38, hE⟩ := x_letE hE
    refine lv_iinc hx hb d_Fields_countOf_38 hl (k := 3) rfl (x_inc v38 e38 (by decide)) (by decide) rfl (fun ls hl => ?_)
    have hl : lv_has ls 4 [(3, .int v38), (0, .ref (G.2.1 31)), (1, .ref (G.2.2.2.1 w1)), (2, .int l2)] := hl
    refine lv_goto (tgt := 4) hx hb d_Fields_countOf_41 (by decide) ?_
    exact hbk4 _ _ _ hE (lv_sub hl [1, 2, 3, 0] rfl)
  have jn4 : ∀ (n : Nat) (ls : Array Slot) (l2 : Int32) (l3 : Int32), x_Fields_countOf_4 w1 σ n l2 l3 = some r → lv_has ls 4 [(0, .ref (G.2.1 31)), (1, .ref (G.2.2.2.1 w1)), (2, .int l2), (3, .int l3)] → W p l e (headSpec (ws_Fields_countOf) rm_Fields_countOf).room s m ([.ref (G.2.1 31), .ref (G.2.2.2.1 w1)] : List Value).toArray below meth c s.heap [] 0 0 (MQ below (xRd (some (.int r))) ([.ref (G.2.1 31), .ref (G.2.2.2.1 w1)] : List Value).toArray s 0 0 (fun _ => False)) (F0 m 4 ls []) := by
    intro n
    induction n with
    | zero => intro ls l2 l3 hE; rw [x_Fields_countOf_4] at hE; cases hE
    | succ n ih =>
      intro ls l2 l3 hE hl
      rw [x_Fields_countOf_4] at hE
      refine lv_iload_n hx hb d_Fields_countOf_4 rfl (lv_at hl 3 rfl) ?_
      refine lv_aload_n hx hb d_Fields_countOf_5 rfl (lv_at hl 0 rfl) ?_
      refine va_get (D := G.1) (cl := xCl) (ci := 1) (v := .int (σ.1 31 5)) (C := R_Fields) (T := T_Fields) (N := 9) hx hb hu fi_Fields hown hK hw 31 (x_at (by decide) (xcl_31 G σ)) rfl 5 (by decide) (hu _ mw_184) (fun _ h9 => h9) rfl d_Fields_countOf_6 ?_
      refine lv_icmp_ge (tgt := 44) hx hb d_Fields_countOf_9 (by decide) (fun hc9 => ?_) (fun hc9 => ?_)
      · rw [if_pos hc9] at hE
        refine lv_iload_n hx hb d_Fields_countOf_44 rfl (lv_at hl 2 rfl) ?_
        exact W.iret (v := l2) hx hb hr (fun t ht hW => ⟨by rw [Option.some.inj hE], ht⟩) (fun q h => by cases h) d_Fields_countOf_45
      · rw [if_neg hc9] at hE
        refine lv_aload_n hx hb d_Fields_countOf_12 rfl (lv_at hl 0 rfl) ?_
        refine va_get (D := G.1) (cl := xCl) (ci := 1) (v := .ref (G.2.1 32)) (C := R_Fields) (T := T_Fields) (N := 9) hx hb hu fi_Fields hown hK hw 31 (x_at (by decide) (xcl_31 G σ)) rfl 0 (by decide) (hu _ mw_173) (fun _ h9 => h9) rfl d_Fields_countOf_13 ?_
        refine lv_aload_n hx hb d_Fields_countOf_16 rfl (lv_at hl 0 rfl) ?_
        refine va_get (D := G.1) (cl := xCl) (ci := 1) (v := .ref (G.2.1 34)) (C := R_Fields) (T := T_Fields) (N := 9) hx hb hu fi_Fields hown hK hw 31 (x_at (by decide) (xcl_31 G σ)) rfl 1 (by decide) (hu _ mw_176) (fun _ h9 => h9) rfl d_Fields_countOf_17 ?_
        refine lv_iload_n hx hb d_Fields_countOf_20 rfl (lv_at hl 3 rfl) ?_
        obtain ⟨g21, hE⟩ := x_guard hE
        refine va_iald hx hb hK hw 34 0 (x_at (by decide) (xcl_34 G σ)) rfl g21 d_Fields_countOf_21 ?_
        refine lv_aload_n hx hb d_Fields_countOf_22 rfl (lv_at hl 0 rfl) ?_
        refine va_get (D := G.1) (cl := xCl) (ci := 1) (v := .ref (G.2.1 35)) (C := R_Fields) (T := T_Fields) (N := 9) hx hb hu fi_Fields hown hK hw 31 (x_at (by decide) (xcl_31 G σ)) rfl 2 (by decide) (hu _ mw_177) (fun _ h9 => h9) rfl d_Fields_countOf_23 ?_
        refine lv_iload_n hx hb d_Fields_countOf_26 rfl (lv_at hl 3 rfl) ?_
        obtain ⟨g27, hE⟩ := x_guard hE
        refine va_iald hx hb hK hw 35 0 (x_at (by decide) (xcl_35 G σ)) rfl g27 d_Fields_countOf_27 ?_
        refine lv_aload_n hx hb d_Fields_countOf_28 rfl (lv_at hl 1 rfl) ?_
        obtain ⟨r29, hC29, hE⟩ := x_bind hE
        refine x_callR (W.runS (As := [.ref (G.2.1 32), .int (σ.2.1 34 l3.toNatClampNeg), .int (σ.2.1 35 l3.toNatClampNeg), .ref (G.2.2.2.1 w1)]) (rest := []) ⟨hx, hb, hml, hown, hu⟩ (t_Text_isWord l G σ 32 (σ.2.1 34 l3.toNatClampNeg) (σ.2.1 35 l3.toNatClampNeg) w1 (by decide) hw1 r29 hC29) (va_cwS 4 hu (uw_S mw_749 mw_750 mw_75 mw_751) rfl rfl rfl hd_Text_isWord ⟨Nat.le_of_ble_eq_true rfl, Nat.le_of_ble_eq_true rfl⟩) (x_preS hC hS hw) rfl rfl hl.1 rfl (lv_room (Nat.le_of_ble_eq_true rfl)) d_Fields_countOf_29 ⟨Nat.le_of_ble_eq_true rfl, Nat.le_of_ble_eq_true rfl⟩) ?_
        refine lv_if_eq (tgt := 38) hx hb d_Fields_countOf_32 (by decide) (fun hc32 => ?_) (fun hc32 => ?_)
        · rw [if_pos hc32] at hE
          exact jn38 _ ih _ _ _ hE (lv_sub hl [0, 1, 2, 3] rfl)
        · rw [if_neg hc32] at hE
          obtain ⟨v35, e35, hE⟩ := x_letE hE
          refine lv_iinc hx hb d_Fields_countOf_35 hl (k := 2) rfl (x_inc v35 e35 (by decide)) (by decide) rfl (fun ls hl => ?_)
          have hl : lv_has ls 4 [(2, .int v35), (0, .ref (G.2.1 31)), (1, .ref (G.2.2.2.1 w1)), (3, .int l3)] := hl
          exact jn38 _ ih _ _ _ hE (lv_sub hl [1, 2, 0, 3] rfl)
  have hl := lv_entry ([.ref (G.2.1 31), .ref (G.2.2.2.1 w1)]) (n := 4) (Nat.le_of_ble_eq_true rfl)
  rw [lg_entry_eq]
  generalize (lg_sl ([.ref (G.2.1 31), .ref (G.2.2.2.1 w1)]) ++ List.replicate (4 - (lg_sl ([.ref (G.2.1 31), .ref (G.2.2.2.1 w1)])).length) Slot.unset).toArray = ls at hl ⊢
  have hl : lv_has ls 4 [(0, .ref (G.2.1 31)), (1, .ref (G.2.2.2.1 w1))] := hl
  unfold x_Fields_countOf at hE
  refine lv_iconst (v := (0 : Int32)) hx hb d_Fields_countOf_0 (by decide) ?_
  refine lv_istore_n hx hb d_Fields_countOf_1 rfl hl (by decide) rfl (fun ls hl => ?_)
  have hl : lv_has ls 4 [(2, .int (0 : Int32)), (0, .ref (G.2.1 31)), (1, .ref (G.2.2.2.1 w1))] := hl
  refine lv_iconst (v := (0 : Int32)) hx hb d_Fields_countOf_2 (by decide) ?_
  refine lv_istore_n hx hb d_Fields_countOf_3 rfl hl (by decide) rfl (fun ls hl => ?_)
  have hl : lv_has ls 4 [(3, .int (0 : Int32)), (2, .int (0 : Int32)), (0, .ref (G.2.1 31)), (1, .ref (G.2.2.2.1 w1))] := hl
  exact jn4 x_fuel _ _ _ hE (lv_sub hl [2, 3, 1, 0] rfl)

def y_Fields_indexOf : MethodName := ⟨"PlainOrigin$Fields", "indexOf", "(Ljava/lang/String;)I"⟩
def ws_Fields_indexOf : List Cond := Cond.code y_Fields_indexOf prog_4_method_5_code 3 (some .int) :: UW
theorem hd_Fields_indexOf : y_Fields_indexOf.cls = R_Fields ∧ y_Fields_indexOf.cls ≠ "java/lang/invoke/MethodHandle" ∧ y_Fields_indexOf.cls ≠ "java/lang/invoke/VarHandle" ∧ (parseMethodDescriptor y_Fields_indexOf.desc).map (fun d => d.parameters.length) = some 1 := by decide +kernel
theorem d_Fields_indexOf_0 : decode prog_4_method_5_code 0 = .ok (.iconst 0, 1) := by decide +kernel
theorem d_Fields_indexOf_1 : decode prog_4_method_5_code 1 = .ok (.istore_n 2, 1) := by decide +kernel
theorem d_Fields_indexOf_2 : decode prog_4_method_5_code 2 = .ok (.iload_n 2, 1) := by decide +kernel
theorem d_Fields_indexOf_3 : decode prog_4_method_5_code 3 = .ok (.aload_n 0, 1) := by decide +kernel
theorem d_Fields_indexOf_4 : decode prog_4_method_5_code 4 = .ok (.getfield 42, 3) := by decide +kernel
theorem d_Fields_indexOf_7 : decode prog_4_method_5_code 7 = .ok (.if_icmp .ge (34), 3) := by decide +kernel
theorem d_Fields_indexOf_10 : decode prog_4_method_5_code 10 = .ok (.aload_n 0, 1) := by decide +kernel
theorem d_Fields_indexOf_11 : decode prog_4_method_5_code 11 = .ok (.getfield 14, 3) := by decide +kernel
theorem d_Fields_indexOf_14 : decode prog_4_method_5_code 14 = .ok (.aload_n 0, 1) := by decide +kernel
theorem d_Fields_indexOf_15 : decode prog_4_method_5_code 15 = .ok (.getfield 20, 3) := by decide +kernel
theorem d_Fields_indexOf_18 : decode prog_4_method_5_code 18 = .ok (.iload_n 2, 1) := by decide +kernel
theorem d_Fields_indexOf_19 : decode prog_4_method_5_code 19 = .ok (.iaload, 1) := by decide +kernel
theorem d_Fields_indexOf_20 : decode prog_4_method_5_code 20 = .ok (.aload_n 0, 1) := by decide +kernel
theorem d_Fields_indexOf_21 : decode prog_4_method_5_code 21 = .ok (.getfield 24, 3) := by decide +kernel
theorem d_Fields_indexOf_24 : decode prog_4_method_5_code 24 = .ok (.iload_n 2, 1) := by decide +kernel
theorem d_Fields_indexOf_25 : decode prog_4_method_5_code 25 = .ok (.iaload, 1) := by decide +kernel
theorem d_Fields_indexOf_26 : decode prog_4_method_5_code 26 = .ok (.aload_n 1, 1) := by decide +kernel
theorem d_Fields_indexOf_27 : decode prog_4_method_5_code 27 = .ok (.invokestatic 69, 3) := by decide +kernel
theorem d_Fields_indexOf_30 : decode prog_4_method_5_code 30 = .ok (.ifCond .eq (5), 3) := by decide +kernel
theorem d_Fields_indexOf_33 : decode prog_4_method_5_code 33 = .ok (.iload_n 2, 1) := by decide +kernel
theorem d_Fields_indexOf_34 : decode prog_4_method_5_code 34 = .ok (.ireturn, 1) := by decide +kernel
theorem d_Fields_indexOf_35 : decode prog_4_method_5_code 35 = .ok (.iinc 2 (1), 3) := by decide +kernel
theorem d_Fields_indexOf_38 : decode prog_4_method_5_code 38 = .ok (.goto (-36), 3) := by decide +kernel
theorem d_Fields_indexOf_41 : decode prog_4_method_5_code 41 = .ok (.iconst (-1), 1) := by decide +kernel
theorem d_Fields_indexOf_42 : decode prog_4_method_5_code 42 = .ok (.ireturn, 1) := by decide +kernel
def x_Fields_indexOf_2 (w1 : Nat) (σ : St) : Nat → Int32 → Option Int32
  | 0, _ => none
  | n + 1, l2 => (if (σ.1 31 5) ≤ l2 then some ((-1) : Int32) else (if x_in l2 12 then (if x_in l2 12 then (Option.bind (x_Text_isWord 32 (σ.2.1 34 l2.toNatClampNeg) (σ.2.1 35 l2.toNatClampNeg) w1 σ) (fun r27 => (if r27 = 0 then (x_let (l2 + (1 : Int32)) (fun (v35 : Int32) => x_Fields_indexOf_2 w1 σ n v35)) else some l2))) else none) else none))
def x_Fields_indexOf (w1 : Nat) (σ : St) : Option Int32 := x_Fields_indexOf_2 w1 σ x_fuel (0 : Int32)
abbrev rm_Fields_indexOf : Room := { frames := 5, cells := 0, slots := 0, locals := 109 }
set_option maxHeartbeats 4000000 in
set_option maxRecDepth 100000 in
theorem t_Fields_indexOf (l : Launch) (G : xG) (σ : St) (w1 : Nat) (hw1 : w1 < nStr) (r : Int32) (hE : x_Fields_indexOf w1 σ = some r) : Met l y_Fields_indexOf (ws_Fields_indexOf) rm_Fields_indexOf (xP G σ [.ref (G.2.1 31), .ref (G.2.2.2.1 w1)]) (xRd (some (.int r))) 0 0 (fun _ => False) := by
  refine Met.ofW (cc := prog_4_method_5_code) (maxL := 3) (ret := (some .int)) (by decide) rfl ?_
  intro p e s m args below meth c s₁ B hml hv
  obtain ⟨rfl, hw, hC⟩ := hv
  have hx := B.exec
  have hb := B.bytes
  have hr := B.returns
  have hu : ∀ w ∈ UW, w.before _ s = true := fun w h => atoms_spec B.pre w (List.mem_cons_of_mem _ h)
  have hown : s.vm.findClass R_Fields = some m.cls := findClass_of_methodNamed B.named
  have hlocks := B.notSynchronized
  have hK := hC.1
  have hI := hC.2.1
  have hG := hC.2.2.1
  have hN := hC.2.2.2
  have hS : va_S (xA G) s.heap s.heap [] := va_S.rf
  have jn2 : ∀ (n : Nat) (ls : Array Slot) (l2 : Int32), x_Fields_indexOf_2 w1 σ n l2 = some r → lv_has ls 3 [(0, .ref (G.2.1 31)), (1, .ref (G.2.2.2.1 w1)), (2, .int l2)] → W p l e (headSpec (ws_Fields_indexOf) rm_Fields_indexOf).room s m ([.ref (G.2.1 31), .ref (G.2.2.2.1 w1)] : List Value).toArray below meth c s.heap [] 0 0 (MQ below (xRd (some (.int r))) ([.ref (G.2.1 31), .ref (G.2.2.2.1 w1)] : List Value).toArray s 0 0 (fun _ => False)) (F0 m 2 ls []) := by
    intro n
    induction n with
    | zero => intro ls l2 hE; rw [x_Fields_indexOf_2] at hE; cases hE
    | succ n ih =>
      intro ls l2 hE hl
      rw [x_Fields_indexOf_2] at hE
      refine lv_iload_n hx hb d_Fields_indexOf_2 rfl (lv_at hl 2 rfl) ?_
      refine lv_aload_n hx hb d_Fields_indexOf_3 rfl (lv_at hl 0 rfl) ?_
      refine va_get (D := G.1) (cl := xCl) (ci := 1) (v := .int (σ.1 31 5)) (C := R_Fields) (T := T_Fields) (N := 9) hx hb hu fi_Fields hown hK hw 31 (x_at (by decide) (xcl_31 G σ)) rfl 5 (by decide) (hu _ mw_184) (fun _ h9 => h9) rfl d_Fields_indexOf_4 ?_
      refine lv_icmp_ge (tgt := 41) hx hb d_Fields_indexOf_7 (by decide) (fun hc7 => ?_) (fun hc7 => ?_)
      · rw [if_pos hc7] at hE
        refine lv_iconst (v := ((-1) : Int32)) hx hb d_Fields_indexOf_41 (by decide) ?_
        exact W.iret (v := ((-1) : Int32)) hx hb hr (fun t ht hW => ⟨by rw [Option.some.inj hE], ht⟩) (fun q h => by cases h) d_Fields_indexOf_42
      · rw [if_neg hc7] at hE
        refine lv_aload_n hx hb d_Fields_indexOf_10 rfl (lv_at hl 0 rfl) ?_
        refine va_get (D := G.1) (cl := xCl) (ci := 1) (v := .ref (G.2.1 32)) (C := R_Fields) (T := T_Fields) (N := 9) hx hb hu fi_Fields hown hK hw 31 (x_at (by decide) (xcl_31 G σ)) rfl 0 (by decide) (hu _ mw_173) (fun _ h9 => h9) rfl d_Fields_indexOf_11 ?_
        refine lv_aload_n hx hb d_Fields_indexOf_14 rfl (lv_at hl 0 rfl) ?_
        refine va_get (D := G.1) (cl := xCl) (ci := 1) (v := .ref (G.2.1 34)) (C := R_Fields) (T := T_Fields) (N := 9) hx hb hu fi_Fields hown hK hw 31 (x_at (by decide) (xcl_31 G σ)) rfl 1 (by decide) (hu _ mw_176) (fun _ h9 => h9) rfl d_Fields_indexOf_15 ?_
        refine lv_iload_n hx hb d_Fields_indexOf_18 rfl (lv_at hl 2 rfl) ?_
        obtain ⟨g19, hE⟩ := x_guard hE
        refine va_iald hx hb hK hw 34 0 (x_at (by decide) (xcl_34 G σ)) rfl g19 d_Fields_indexOf_19 ?_
        refine lv_aload_n hx hb d_Fields_indexOf_20 rfl (lv_at hl 0 rfl) ?_
        refine va_get (D := G.1) (cl := xCl) (ci := 1) (v := .ref (G.2.1 35)) (C := R_Fields) (T := T_Fields) (N := 9) hx hb hu fi_Fields hown hK hw 31 (x_at (by decide) (xcl_31 G σ)) rfl 2 (by decide) (hu _ mw_177) (fun _ h9 => h9) rfl d_Fields_indexOf_21 ?_
        refine lv_iload_n hx hb d_Fields_indexOf_24 rfl (lv_at hl 2 rfl) ?_
        obtain ⟨g25, hE⟩ := x_guard hE
        refine va_iald hx hb hK hw 35 0 (x_at (by decide) (xcl_35 G σ)) rfl g25 d_Fields_indexOf_25 ?_
        refine lv_aload_n hx hb d_Fields_indexOf_26 rfl (lv_at hl 1 rfl) ?_
        obtain ⟨r27, hC27, hE⟩ := x_bind hE
        refine x_callR (W.runS (As := [.ref (G.2.1 32), .int (σ.2.1 34 l2.toNatClampNeg), .int (σ.2.1 35 l2.toNatClampNeg), .ref (G.2.2.2.1 w1)]) (rest := []) ⟨hx, hb, hml, hown, hu⟩ (t_Text_isWord l G σ 32 (σ.2.1 34 l2.toNatClampNeg) (σ.2.1 35 l2.toNatClampNeg) w1 (by decide) hw1 r27 hC27) (va_cwS 4 hu (uw_S mw_749 mw_750 mw_75 mw_751) rfl rfl rfl hd_Text_isWord ⟨Nat.le_of_ble_eq_true rfl, Nat.le_of_ble_eq_true rfl⟩) (x_preS hC hS hw) rfl rfl hl.1 rfl (lv_room (Nat.le_of_ble_eq_true rfl)) d_Fields_indexOf_27 ⟨Nat.le_of_ble_eq_true rfl, Nat.le_of_ble_eq_true rfl⟩) ?_
        refine lv_if_eq (tgt := 35) hx hb d_Fields_indexOf_30 (by decide) (fun hc30 => ?_) (fun hc30 => ?_)
        · rw [if_pos hc30] at hE
          obtain ⟨v35, e35, hE⟩ := x_letE hE
          refine lv_iinc hx hb d_Fields_indexOf_35 hl (k := 2) rfl (x_inc v35 e35 (by decide)) (by decide) rfl (fun ls hl => ?_)
          have hl : lv_has ls 3 [(2, .int v35), (0, .ref (G.2.1 31)), (1, .ref (G.2.2.2.1 w1))] := hl
          refine lv_goto (tgt := 2) hx hb d_Fields_indexOf_38 (by decide) ?_
          exact ih _ _ hE (lv_sub hl [1, 2, 0] rfl)
        · rw [if_neg hc30] at hE
          refine lv_iload_n hx hb d_Fields_indexOf_33 rfl (lv_at hl 2 rfl) ?_
          exact W.iret (v := l2) hx hb hr (fun t ht hW => ⟨by rw [Option.some.inj hE], ht⟩) (fun q h => by cases h) d_Fields_indexOf_34
  have hl := lv_entry ([.ref (G.2.1 31), .ref (G.2.2.2.1 w1)]) (n := 3) (Nat.le_of_ble_eq_true rfl)
  rw [lg_entry_eq]
  generalize (lg_sl ([.ref (G.2.1 31), .ref (G.2.2.2.1 w1)]) ++ List.replicate (3 - (lg_sl ([.ref (G.2.1 31), .ref (G.2.2.2.1 w1)])).length) Slot.unset).toArray = ls at hl ⊢
  have hl : lv_has ls 3 [(0, .ref (G.2.1 31)), (1, .ref (G.2.2.2.1 w1))] := hl
  unfold x_Fields_indexOf at hE
  refine lv_iconst (v := (0 : Int32)) hx hb d_Fields_indexOf_0 (by decide) ?_
  refine lv_istore_n hx hb d_Fields_indexOf_1 rfl hl (by decide) rfl (fun ls hl => ?_)
  have hl : lv_has ls 3 [(2, .int (0 : Int32)), (0, .ref (G.2.1 31)), (1, .ref (G.2.2.2.1 w1))] := hl
  exact jn2 x_fuel _ _ hE (lv_sub hl [1, 2, 0] rfl)

def y_Fields_keepElement : MethodName := ⟨"PlainOrigin$Fields", "keepElement", "(II)V"⟩
def ws_Fields_keepElement : List Cond := Cond.code y_Fields_keepElement prog_4_method_8_code 3 none :: UW
theorem hd_Fields_keepElement : y_Fields_keepElement.cls = R_Fields ∧ y_Fields_keepElement.cls ≠ "java/lang/invoke/MethodHandle" ∧ y_Fields_keepElement.cls ≠ "java/lang/invoke/VarHandle" ∧ (parseMethodDescriptor y_Fields_keepElement.desc).map (fun d => d.parameters.length) = some 2 := by decide +kernel
theorem d_Fields_keepElement_0 : decode prog_4_method_8_code 0 = .ok (.iload_n 1, 1) := by decide +kernel
theorem d_Fields_keepElement_1 : decode prog_4_method_8_code 1 = .ok (.iconst (-1), 1) := by decide +kernel
theorem d_Fields_keepElement_2 : decode prog_4_method_8_code 2 = .ok (.if_icmp .eq (43), 3) := by decide +kernel
theorem d_Fields_keepElement_5 : decode prog_4_method_8_code 5 = .ok (.aload_n 0, 1) := by decide +kernel
theorem d_Fields_keepElement_6 : decode prog_4_method_8_code 6 = .ok (.getfield 46, 3) := by decide +kernel
theorem d_Fields_keepElement_9 : decode prog_4_method_8_code 9 = .ok (.sipush (480), 3) := by decide +kernel
theorem d_Fields_keepElement_12 : decode prog_4_method_8_code 12 = .ok (.if_icmp .ge (33), 3) := by decide +kernel
theorem d_Fields_keepElement_15 : decode prog_4_method_8_code 15 = .ok (.aload_n 0, 1) := by decide +kernel
theorem d_Fields_keepElement_16 : decode prog_4_method_8_code 16 = .ok (.getfield 33, 3) := by decide +kernel
theorem d_Fields_keepElement_19 : decode prog_4_method_8_code 19 = .ok (.aload_n 0, 1) := by decide +kernel
theorem d_Fields_keepElement_20 : decode prog_4_method_8_code 20 = .ok (.getfield 46, 3) := by decide +kernel
theorem d_Fields_keepElement_23 : decode prog_4_method_8_code 23 = .ok (.iload_n 1, 1) := by decide +kernel
theorem d_Fields_keepElement_24 : decode prog_4_method_8_code 24 = .ok (.iastore, 1) := by decide +kernel
theorem d_Fields_keepElement_25 : decode prog_4_method_8_code 25 = .ok (.aload_n 0, 1) := by decide +kernel
theorem d_Fields_keepElement_26 : decode prog_4_method_8_code 26 = .ok (.getfield 36, 3) := by decide +kernel
theorem d_Fields_keepElement_29 : decode prog_4_method_8_code 29 = .ok (.aload_n 0, 1) := by decide +kernel
theorem d_Fields_keepElement_30 : decode prog_4_method_8_code 30 = .ok (.getfield 46, 3) := by decide +kernel
theorem d_Fields_keepElement_33 : decode prog_4_method_8_code 33 = .ok (.iload_n 2, 1) := by decide +kernel
theorem d_Fields_keepElement_34 : decode prog_4_method_8_code 34 = .ok (.iastore, 1) := by decide +kernel
theorem d_Fields_keepElement_35 : decode prog_4_method_8_code 35 = .ok (.aload_n 0, 1) := by decide +kernel
theorem d_Fields_keepElement_36 : decode prog_4_method_8_code 36 = .ok (.dup, 1) := by decide +kernel
theorem d_Fields_keepElement_37 : decode prog_4_method_8_code 37 = .ok (.getfield 46, 3) := by decide +kernel
theorem d_Fields_keepElement_40 : decode prog_4_method_8_code 40 = .ok (.iconst 1, 1) := by decide +kernel
theorem d_Fields_keepElement_41 : decode prog_4_method_8_code 41 = .ok (.iadd, 1) := by decide +kernel
theorem d_Fields_keepElement_42 : decode prog_4_method_8_code 42 = .ok (.putfield 46, 3) := by decide +kernel
theorem d_Fields_keepElement_45 : decode prog_4_method_8_code 45 = .ok (.return_, 1) := by decide +kernel
def x_Fields_keepElement (a1 : Int32) (a2 : Int32) (σ : St) : Option St := (if a1 = ((-1) : Int32) then some σ else (if (480 : Int32) ≤ (σ.1 31 8) then some σ else (if x_in (σ.1 31 8) 480 then (x_let (x_updM σ 38 (σ.1 31 8).toNatClampNeg a1) (fun (s24 : St) => (if x_in (s24.1 31 8) 480 then (x_let (x_updM s24 39 (s24.1 31 8).toNatClampNeg a2) (fun (s34 : St) => (x_let (x_updR s34 31 8 ((s34.1 31 8) + (1 : Int32))) (fun (s42 : St) => some s42)))) else none))) else none)))
abbrev rm_Fields_keepElement : Room := { frames := 0, cells := 0, slots := 0, locals := 0 }
set_option maxHeartbeats 4000000 in
set_option maxRecDepth 100000 in
theorem t_Fields_keepElement (l : Launch) (G : xG) (σ : St) (a1 : Int32) (a2 : Int32) (σ' : St) (hE : x_Fields_keepElement a1 a2 σ = some σ') : Met l y_Fields_keepElement (ws_Fields_keepElement) rm_Fields_keepElement (xP G σ [.ref (G.2.1 31), .int a1, .int a2]) (xQ G none σ') 0 0 (xA G) := by
  refine Met.ofW (cc := prog_4_method_8_code) (maxL := 3) (ret := none) (by decide) rfl ?_
  intro p e s m args below meth c s₁ B hml hv
  obtain ⟨rfl, hw, hC⟩ := hv
  have hx := B.exec
  have hb := B.bytes
  have hr := B.returns
  have hu : ∀ w ∈ UW, w.before _ s = true := fun w h => atoms_spec B.pre w (List.mem_cons_of_mem _ h)
  have hown : s.vm.findClass R_Fields = some m.cls := findClass_of_methodNamed B.named
  have hlocks := B.notSynchronized
  have hK := hC.1
  have hI := hC.2.1
  have hG := hC.2.2.1
  have hN := hC.2.2.2
  have hS : va_S (xA G) s.heap s.heap [] := va_S.rf
  have hl := lv_entry ([.ref (G.2.1 31), .int a1, .int a2]) (n := 3) (Nat.le_of_ble_eq_true rfl)
  rw [lg_entry_eq]
  generalize (lg_sl ([.ref (G.2.1 31), .int a1, .int a2]) ++ List.replicate (3 - (lg_sl ([.ref (G.2.1 31), .int a1, .int a2])).length) Slot.unset).toArray = ls at hl ⊢
  have hl : lv_has ls 3 [(0, .ref (G.2.1 31)), (1, .int a1), (2, .int a2)] := hl
  unfold x_Fields_keepElement at hE
  refine lv_iload_n hx hb d_Fields_keepElement_0 rfl (lv_at hl 1 rfl) ?_
  refine lv_iconst (v := ((-1) : Int32)) hx hb d_Fields_keepElement_1 (by decide) ?_
  refine lv_icmp_eq (tgt := 45) hx hb d_Fields_keepElement_2 (by decide) (fun hc2 => ?_) (fun hc2 => ?_)
  · rw [if_pos hc2] at hE
    have e1 := Option.some.inj hE
    exact W.vret hx hb hr (fun t ht hW => ⟨rfl, by rw [ht, ← e1]; exact hw, hS.F ht⟩) hS.2.2 d_Fields_keepElement_45
  · rw [if_neg hc2] at hE
    refine lv_aload_n hx hb d_Fields_keepElement_5 rfl (lv_at hl 0 rfl) ?_
    refine va_get (D := G.1) (cl := xCl) (ci := 1) (v := .int (σ.1 31 8)) (C := R_Fields) (T := T_Fields) (N := 9) hx hb hu fi_Fields hown hK hw 31 (x_at (by decide) (xcl_31 G σ)) rfl 8 (by decide) (hu _ mw_187) (fun _ h9 => h9) rfl d_Fields_keepElement_6 ?_
    refine lv_sipush (v := (480 : Int32)) hx hb d_Fields_keepElement_9 (by decide) ?_
    refine lv_icmp_ge (tgt := 45) hx hb d_Fields_keepElement_12 (by decide) (fun hc12 => ?_) (fun hc12 => ?_)
    · rw [if_pos hc12] at hE
      have e1 := Option.some.inj hE
      exact W.vret hx hb hr (fun t ht hW => ⟨rfl, by rw [ht, ← e1]; exact hw, hS.F ht⟩) hS.2.2 d_Fields_keepElement_45
    · rw [if_neg hc12] at hE
      refine lv_aload_n hx hb d_Fields_keepElement_15 rfl (lv_at hl 0 rfl) ?_
      refine va_get (D := G.1) (cl := xCl) (ci := 1) (v := .ref (G.2.1 38)) (C := R_Fields) (T := T_Fields) (N := 9) hx hb hu fi_Fields hown hK hw 31 (x_at (by decide) (xcl_31 G σ)) rfl 6 (by decide) (hu _ mw_185) (fun _ h9 => h9) rfl d_Fields_keepElement_16 ?_
      refine lv_aload_n hx hb d_Fields_keepElement_19 rfl (lv_at hl 0 rfl) ?_
      refine va_get (D := G.1) (cl := xCl) (ci := 1) (v := .int (σ.1 31 8)) (C := R_Fields) (T := T_Fields) (N := 9) hx hb hu fi_Fields hown hK hw 31 (x_at (by decide) (xcl_31 G σ)) rfl 8 (by decide) (hu _ mw_187) (fun _ h9 => h9) rfl d_Fields_keepElement_20 ?_
      refine lv_iload_n hx hb d_Fields_keepElement_23 rfl (lv_at hl 1 rfl) ?_
      obtain ⟨g24, hE⟩ := x_guard hE
      refine va_iast hx hb hK hw (x_D hI _) hS 38 0 (x_at (by decide) (xcl_38 G σ)) rfl g24 d_Fields_keepElement_24 (fun H locs hw _ hS => ?_)
      replace hw := x_setM hw (by decide) (by decide)
      obtain ⟨s24, e24, hE⟩ := x_letE hE
      rw [← e24] at hw
      refine lv_aload_n hx hb d_Fields_keepElement_25 rfl (lv_at hl 0 rfl) ?_
      refine va_get (D := G.1) (cl := xCl) (ci := 1) (v := .ref (G.2.1 39)) (C := R_Fields) (T := T_Fields) (N := 9) hx hb hu fi_Fields hown hK hw 31 (x_at (by decide) (xcl_31 G s24)) rfl 7 (by decide) (hu _ mw_186) (fun _ h9 => h9) rfl d_Fields_keepElement_26 ?_
      refine lv_aload_n hx hb d_Fields_keepElement_29 rfl (lv_at hl 0 rfl) ?_
      refine va_get (D := G.1) (cl := xCl) (ci := 1) (v := .int (s24.1 31 8)) (C := R_Fields) (T := T_Fields) (N := 9) hx hb hu fi_Fields hown hK hw 31 (x_at (by decide) (xcl_31 G s24)) rfl 8 (by decide) (hu _ mw_187) (fun _ h9 => h9) rfl d_Fields_keepElement_30 ?_
      refine lv_iload_n hx hb d_Fields_keepElement_33 rfl (lv_at hl 2 rfl) ?_
      obtain ⟨g34, hE⟩ := x_guard hE
      refine va_iast hx hb hK hw (x_D hI _) hS 39 0 (x_at (by decide) (xcl_39 G s24)) rfl g34 d_Fields_keepElement_34 (fun H locs hw _ hS => ?_)
      replace hw := x_setM hw (by decide) (by decide)
      obtain ⟨s34, e34, hE⟩ := x_letE hE
      rw [← e34] at hw
      refine lv_aload_n hx hb d_Fields_keepElement_35 rfl (lv_at hl 0 rfl) ?_
      refine lv_dup hx hb d_Fields_keepElement_36 rfl ?_
      refine va_get (D := G.1) (cl := xCl) (ci := 1) (v := .int (s34.1 31 8)) (C := R_Fields) (T := T_Fields) (N := 9) hx hb hu fi_Fields hown hK hw 31 (x_at (by decide) (xcl_31 G s34)) rfl 8 (by decide) (hu _ mw_187) (fun _ h9 => h9) rfl d_Fields_keepElement_37 ?_
      refine lv_iconst (v := (1 : Int32)) hx hb d_Fields_keepElement_40 (by decide) ?_
      refine lv_iadd hx hb d_Fields_keepElement_41 ?_
      refine va_put (D := G.1) (cl := xCl) (ci := 1) (v := .int ((s34.1 31 8) + (1 : Int32))) (ty := .int) (C := R_Fields) (T := T_Fields) (N := 9) hx hb hu fi_Fields ty_Fields tyok_Fields nm_Fields hown hK hw (x_D hI _) hS 31 (x_at (by decide) (xcl_31 G s34)) rfl 8 (by decide) (hu _ mw_187) (fun _ h9 => h9) rfl (tyok_Fields 8 (by decide)) rfl rfl (Nat.le_of_ble_eq_true rfl) d_Fields_keepElement_42 (fun H locs hw _ hS => ?_)
      replace hw := x_setR hw (by decide) rfl
      obtain ⟨s42, e42, hE⟩ := x_letE hE
      rw [← e42] at hw
      have e1 := Option.some.inj hE
      exact W.vret hx hb hr (fun t ht hW => ⟨rfl, by rw [ht, ← e1]; exact hw, hS.F ht⟩) hS.2.2 d_Fields_keepElement_45

def y_Fields_cut : MethodName := ⟨"PlainOrigin$Fields", "cut", "(II)V"⟩
def ws_Fields_cut : List Cond := Cond.code y_Fields_cut prog_4_method_7_code 7 none :: UW
theorem hd_Fields_cut : y_Fields_cut.cls = R_Fields ∧ y_Fields_cut.cls ≠ "java/lang/invoke/MethodHandle" ∧ y_Fields_cut.cls ≠ "java/lang/invoke/VarHandle" ∧ (parseMethodDescriptor y_Fields_cut.desc).map (fun d => d.parameters.length) = some 2 := by decide +kernel
theorem d_Fields_cut_0 : decode prog_4_method_7_code 0 = .ok (.iconst (-1), 1) := by decide +kernel
theorem d_Fields_cut_1 : decode prog_4_method_7_code 1 = .ok (.istore_n 3, 1) := by decide +kernel
theorem d_Fields_cut_2 : decode prog_4_method_7_code 2 = .ok (.iconst (-1), 1) := by decide +kernel
theorem d_Fields_cut_3 : decode prog_4_method_7_code 3 = .ok (.istore 4, 2) := by decide +kernel
theorem d_Fields_cut_5 : decode prog_4_method_7_code 5 = .ok (.iload_n 1, 1) := by decide +kernel
theorem d_Fields_cut_6 : decode prog_4_method_7_code 6 = .ok (.istore 5, 2) := by decide +kernel
theorem d_Fields_cut_8 : decode prog_4_method_7_code 8 = .ok (.iload 5, 2) := by decide +kernel
theorem d_Fields_cut_10 : decode prog_4_method_7_code 10 = .ok (.iload_n 2, 1) := by decide +kernel
theorem d_Fields_cut_11 : decode prog_4_method_7_code 11 = .ok (.if_icmp .gt (76), 3) := by decide +kernel
theorem d_Fields_cut_14 : decode prog_4_method_7_code 14 = .ok (.iload 5, 2) := by decide +kernel
theorem d_Fields_cut_16 : decode prog_4_method_7_code 16 = .ok (.iload_n 2, 1) := by decide +kernel
theorem d_Fields_cut_17 : decode prog_4_method_7_code 17 = .ok (.if_icmp .ge (15), 3) := by decide +kernel
theorem d_Fields_cut_20 : decode prog_4_method_7_code 20 = .ok (.aload_n 0, 1) := by decide +kernel
theorem d_Fields_cut_21 : decode prog_4_method_7_code 21 = .ok (.getfield 14, 3) := by decide +kernel
theorem d_Fields_cut_24 : decode prog_4_method_7_code 24 = .ok (.iload 5, 2) := by decide +kernel
theorem d_Fields_cut_26 : decode prog_4_method_7_code 26 = .ok (.invokevirtual 77, 3) := by decide +kernel
theorem d_Fields_cut_29 : decode prog_4_method_7_code 29 = .ok (.goto (5), 3) := by decide +kernel
theorem d_Fields_cut_32 : decode prog_4_method_7_code 32 = .ok (.bipush (44), 2) := by decide +kernel
theorem d_Fields_cut_34 : decode prog_4_method_7_code 34 = .ok (.istore 6, 2) := by decide +kernel
theorem d_Fields_cut_36 : decode prog_4_method_7_code 36 = .ok (.iload 6, 2) := by decide +kernel
theorem d_Fields_cut_38 : decode prog_4_method_7_code 38 = .ok (.bipush (44), 2) := by decide +kernel
theorem d_Fields_cut_40 : decode prog_4_method_7_code 40 = .ok (.if_icmp .ne (15), 3) := by decide +kernel
theorem d_Fields_cut_43 : decode prog_4_method_7_code 43 = .ok (.aload_n 0, 1) := by decide +kernel
theorem d_Fields_cut_44 : decode prog_4_method_7_code 44 = .ok (.iload_n 3, 1) := by decide +kernel
theorem d_Fields_cut_45 : decode prog_4_method_7_code 45 = .ok (.iload 4, 2) := by decide +kernel
theorem d_Fields_cut_47 : decode prog_4_method_7_code 47 = .ok (.invokevirtual 81, 3) := by decide +kernel
theorem d_Fields_cut_50 : decode prog_4_method_7_code 50 = .ok (.iconst (-1), 1) := by decide +kernel
theorem d_Fields_cut_51 : decode prog_4_method_7_code 51 = .ok (.istore_n 3, 1) := by decide +kernel
theorem d_Fields_cut_52 : decode prog_4_method_7_code 52 = .ok (.goto (29), 3) := by decide +kernel
theorem d_Fields_cut_55 : decode prog_4_method_7_code 55 = .ok (.iload 6, 2) := by decide +kernel
theorem d_Fields_cut_57 : decode prog_4_method_7_code 57 = .ok (.invokestatic 84, 3) := by decide +kernel
theorem d_Fields_cut_60 : decode prog_4_method_7_code 60 = .ok (.ifCond .ne (21), 3) := by decide +kernel
theorem d_Fields_cut_63 : decode prog_4_method_7_code 63 = .ok (.iload_n 3, 1) := by decide +kernel
theorem d_Fields_cut_64 : decode prog_4_method_7_code 64 = .ok (.iconst (-1), 1) := by decide +kernel
theorem d_Fields_cut_65 : decode prog_4_method_7_code 65 = .ok (.if_icmp .ne (8), 3) := by decide +kernel
theorem d_Fields_cut_68 : decode prog_4_method_7_code 68 = .ok (.iload 5, 2) := by decide +kernel
theorem d_Fields_cut_70 : decode prog_4_method_7_code 70 = .ok (.goto (4), 3) := by decide +kernel
theorem d_Fields_cut_73 : decode prog_4_method_7_code 73 = .ok (.iload_n 3, 1) := by decide +kernel
theorem d_Fields_cut_74 : decode prog_4_method_7_code 74 = .ok (.istore_n 3, 1) := by decide +kernel
theorem d_Fields_cut_75 : decode prog_4_method_7_code 75 = .ok (.iload 5, 2) := by decide +kernel
theorem d_Fields_cut_77 : decode prog_4_method_7_code 77 = .ok (.iconst 1, 1) := by decide +kernel
theorem d_Fields_cut_78 : decode prog_4_method_7_code 78 = .ok (.iadd, 1) := by decide +kernel
theorem d_Fields_cut_79 : decode prog_4_method_7_code 79 = .ok (.istore 4, 2) := by decide +kernel
theorem d_Fields_cut_81 : decode prog_4_method_7_code 81 = .ok (.iinc 5 (1), 3) := by decide +kernel
theorem d_Fields_cut_84 : decode prog_4_method_7_code 84 = .ok (.goto (-76), 3) := by decide +kernel
theorem d_Fields_cut_87 : decode prog_4_method_7_code 87 = .ok (.return_, 1) := by decide +kernel
def x_Fields_cut_81 (a1 : Int32) (a2 : Int32) (bk8 : Int32 → Int32 → Int32 → St → Option St) (l3 : Int32) (l4 : Int32) (l5 : Int32) (σ : St) : Option St := (x_let (l5 + (1 : Int32)) (fun (v81 : Int32) => bk8 l3 l4 v81 σ))
def x_Fields_cut_74 (a1 : Int32) (a2 : Int32) (bk8 : Int32 → Int32 → Int32 → St → Option St) (l5 : Int32) (k0 : Int32) (σ : St) : Option St := (x_let (l5 + (1 : Int32)) (fun (v79 : Int32) => x_Fields_cut_81 a1 a2 bk8 k0 v79 l5 σ))
def x_Fields_cut_34 (a1 : Int32) (a2 : Int32) (bk8 : Int32 → Int32 → Int32 → St → Option St) (l3 : Int32) (l4 : Int32) (l5 : Int32) (k0 : Int32) (σ : St) : Option St := (if k0 = (44 : Int32) then (Option.bind (x_Fields_keepElement l3 l4 σ) (fun s47 => x_Fields_cut_81 a1 a2 bk8 ((-1) : Int32) l4 l5 s47)) else (Option.bind (x_Text_isBlank k0) (fun r57 => (if r57 = 0 then (if l3 = ((-1) : Int32) then x_Fields_cut_74 a1 a2 bk8 l5 l5 σ else x_Fields_cut_74 a1 a2 bk8 l5 l3 σ) else x_Fields_cut_81 a1 a2 bk8 l3 l4 l5 σ))))
def x_Fields_cut_8 (a1 : Int32) (a2 : Int32) : Nat → Int32 → Int32 → Int32 → St → Option St
  | 0, _, _, _, _ => none
  | n + 1, l3, l4, l5, σ => (if a2 < l5 then some σ else (if a2 ≤ l5 then x_Fields_cut_34 a1 a2 (x_Fields_cut_8 a1 a2 n) l3 l4 l5 (44 : Int32) σ else (Option.bind (x_Bytes_get 32 l5 σ) (fun r26 => x_Fields_cut_34 a1 a2 (x_Fields_cut_8 a1 a2 n) l3 l4 l5 r26 σ))))
def x_Fields_cut (a1 : Int32) (a2 : Int32) (σ : St) : Option St := x_Fields_cut_8 a1 a2 x_fuel ((-1) : Int32) ((-1) : Int32) a1 σ
abbrev rm_Fields_cut : Room := { frames := 1, cells := 0, slots := 0, locals := 22 }
set_option maxHeartbeats 4000000 in
set_option maxRecDepth 100000 in
theorem t_Fields_cut (l : Launch) (G : xG) (σ : St) (a1 : Int32) (a2 : Int32) (σ' : St) (hE : x_Fields_cut a1 a2 σ = some σ') : Met l y_Fields_cut (ws_Fields_cut) rm_Fields_cut (xP G σ [.ref (G.2.1 31), .int a1, .int a2]) (xQ G none σ') 0 0 (xA G) := by
  refine Met.ofW (cc := prog_4_method_7_code) (maxL := 7) (ret := none) (by decide) rfl ?_
  intro p e s m args below meth c s₁ B hml hv
  obtain ⟨rfl, hw, hC⟩ := hv
  have hx := B.exec
  have hb := B.bytes
  have hr := B.returns
  have hu : ∀ w ∈ UW, w.before _ s = true := fun w h => atoms_spec B.pre w (List.mem_cons_of_mem _ h)
  have hown : s.vm.findClass R_Fields = some m.cls := findClass_of_methodNamed B.named
  have hlocks := B.notSynchronized
  have hK := hC.1
  have hI := hC.2.1
  have hG := hC.2.2.1
  have hN := hC.2.2.2
  have hS : va_S (xA G) s.heap s.heap [] := va_S.rf
  have jn81 : ∀ (bk8 : Int32 → Int32 → Int32 → St → Option St) (hbk8 : ∀ (ls : Array Slot) (H : Heap) (locs : List Loc) (σ : St) (l3 : Int32) (l4 : Int32) (l5 : Int32), bk8 l3 l4 l5 σ = some σ' → lv_has ls 7 [(0, .ref (G.2.1 31)), (1, .int a1), (2, .int a2), (3, .int l3), (4, .int l4), (5, .int l5)] → xw G σ H → va_S (xA G) s.heap H locs → W p l e (headSpec (ws_Fields_cut) rm_Fields_cut).room s m ([.ref (G.2.1 31), .int a1, .int a2] : List Value).toArray below meth c H locs 0 0 (MQ below (xQ G none σ') ([.ref (G.2.1 31), .int a1, .int a2] : List Value).toArray s 0 0 (xA G)) (F0 m 8 ls [])) (ls : Array Slot) (H : Heap) (locs : List Loc) (σ : St) (l3 : Int32) (l4 : Int32) (l5 : Int32), x_Fields_cut_81 a1 a2 bk8 l3 l4 l5 σ = some σ' → lv_has ls 7 [(0, .ref (G.2.1 31)), (1, .int a1), (2, .int a2), (3, .int l3), (4, .int l4), (5, .int l5)] → xw G σ H → va_S (xA G) s.heap H locs → W p l e (headSpec (ws_Fields_cut) rm_Fields_cut).room s m ([.ref (G.2.1 31), .int a1, .int a2] : List Value).toArray below meth c H locs 0 0 (MQ below (xQ G none σ') ([.ref (G.2.1 31), .int a1, .int a2] : List Value).toArray s 0 0 (xA G)) (F0 m 81 ls []) := by
    intro bk8 hbk8 ls H locs σ l3 l4 l5 hE hl hw hS
    unfold x_Fields_cut_81 at hE
    obtain ⟨v81, e81, hE⟩ := x_letE hE
    refine lv_iinc hx hb d_Fields_cut_81 hl (k := 5) rfl (x_inc v81 e81 (by decide)) (by decide) rfl (fun ls hl => ?_)
    have hl : lv_has ls 7 [(5, .int v81), (0, .ref (G.2.1 31)), (1, .int a1), (2, .int a2), (3, .int l3), (4, .int l4)] := hl
    refine lv_goto (tgt := 8) hx hb d_Fields_cut_84 (by decide) ?_
    exact hbk8 _ _ _ _ _ _ _ hE (lv_sub hl [1, 2, 3, 4, 5, 0] rfl) hw hS
  have jn74 : ∀ (bk8 : Int32 → Int32 → Int32 → St → Option St) (hbk8 : ∀ (ls : Array Slot) (H : Heap) (locs : List Loc) (σ : St) (l3 : Int32) (l4 : Int32) (l5 : Int32), bk8 l3 l4 l5 σ = some σ' → lv_has ls 7 [(0, .ref (G.2.1 31)), (1, .int a1), (2, .int a2), (3, .int l3), (4, .int l4), (5, .int l5)] → xw G σ H → va_S (xA G) s.heap H locs → W p l e (headSpec (ws_Fields_cut) rm_Fields_cut).room s m ([.ref (G.2.1 31), .int a1, .int a2] : List Value).toArray below meth c H locs 0 0 (MQ below (xQ G none σ') ([.ref (G.2.1 31), .int a1, .int a2] : List Value).toArray s 0 0 (xA G)) (F0 m 8 ls [])) (ls : Array Slot) (H : Heap) (locs : List Loc) (σ : St) (l5 : Int32) (k0 : Int32), x_Fields_cut_74 a1 a2 bk8 l5 k0 σ = some σ' → lv_has ls 7 [(0, .ref (G.2.1 31)), (1, .int a1), (2, .int a2), (5, .int l5)] → xw G σ H → va_S (xA G) s.heap H locs → W p l e (headSpec (ws_Fields_cut) rm_Fields_cut).room s m ([.ref (G.2.1 31), .int a1, .int a2] : List Value).toArray below meth c H locs 0 0 (MQ below (xQ G none σ') ([.ref (G.2.1 31), .int a1, .int a2] : List Value).toArray s 0 0 (xA G)) (F0 m 74 ls [.int k0]) := by
    intro bk8 hbk8 ls H locs σ l5 k0 hE hl hw hS
    unfold x_Fields_cut_74 at hE
    refine lv_istore_n hx hb d_Fields_cut_74 rfl hl (by decide) rfl (fun ls hl => ?_)
    have hl : lv_has ls 7 [(3, .int k0), (0, .ref (G.2.1 31)), (1, .int a1), (2, .int a2), (5, .int l5)] := hl
    refine lv_iload hx hb d_Fields_cut_75 (lv_at hl 4 rfl) ?_
    refine lv_iconst (v := (1 : Int32)) hx hb d_Fields_cut_77 (by decide) ?_
    refine lv_iadd hx hb d_Fields_cut_78 ?_
    refine lv_topi (fun v79 e79 => ?_)
    replace hE := x_letT e79 hE
    refine lv_istore hx hb d_Fields_cut_79 hl (by decide) rfl (fun ls hl => ?_)
    have hl : lv_has ls 7 [(4, .int v79), (3, .int k0), (0, .ref (G.2.1 31)), (1, .int a1), (2, .int a2), (5, .int l5)] := hl
    exact jn81 _ hbk8 _ _ _ _ _ _ _ hE (lv_sub hl [2, 3, 4, 1, 0, 5] rfl) hw hS
  have jn34 : ∀ (bk8 : Int32 → Int32 → Int32 → St → Option St) (hbk8 : ∀ (ls : Array Slot) (H : Heap) (locs : List Loc) (σ : St) (l3 : Int32) (l4 : Int32) (l5 : Int32), bk8 l3 l4 l5 σ = some σ' → lv_has ls 7 [(0, .ref (G.2.1 31)), (1, .int a1), (2, .int a2), (3, .int l3), (4, .int l4), (5, .int l5)] → xw G σ H → va_S (xA G) s.heap H locs → W p l e (headSpec (ws_Fields_cut) rm_Fields_cut).room s m ([.ref (G.2.1 31), .int a1, .int a2] : List Value).toArray below meth c H locs 0 0 (MQ below (xQ G none σ') ([.ref (G.2.1 31), .int a1, .int a2] : List Value).toArray s 0 0 (xA G)) (F0 m 8 ls [])) (ls : Array Slot) (H : Heap) (locs : List Loc) (σ : St) (l3 : Int32) (l4 : Int32) (l5 : Int32) (k0 : Int32), x_Fields_cut_34 a1 a2 bk8 l3 l4 l5 k0 σ = some σ' → lv_has ls 7 [(0, .ref (G.2.1 31)), (1, .int a1), (2, .int a2), (3, .int l3), (4, .int l4), (5, .int l5)] → xw G σ H → va_S (xA G) s.heap H locs → W p l e (headSpec (ws_Fields_cut) rm_Fields_cut).room s m ([.ref (G.2.1 31), .int a1, .int a2] : List Value).toArray below meth c H locs 0 0 (MQ below (xQ G none σ') ([.ref (G.2.1 31), .int a1, .int a2] : List Value).toArray s 0 0 (xA G)) (F0 m 34 ls [.int k0]) := by
    intro bk8 hbk8 ls H locs σ l3 l4 l5 k0 hE hl hw hS
    unfold x_Fields_cut_34 at hE
    refine lv_istore hx hb d_Fields_cut_34 hl (by decide) rfl (fun ls hl => ?_)
    have hl : lv_has ls 7 [(6, .int k0), (0, .ref (G.2.1 31)), (1, .int a1), (2, .int a2), (3, .int l3), (4, .int l4), (5, .int l5)] := hl
    refine lv_iload hx hb d_Fields_cut_36 (lv_at hl 0 rfl) ?_
    refine lv_bipush (v := (44 : Int32)) hx hb d_Fields_cut_38 (by decide) ?_
    refine lv_icmp_ne (tgt := 55) hx hb d_Fields_cut_40 (by decide) (fun hc40 => ?_) (fun hc40 => ?_)
    · rw [if_neg hc40] at hE
      refine lv_iload hx hb d_Fields_cut_55 (lv_at hl 0 rfl) ?_
      obtain ⟨r57, hC57, hE⟩ := x_bind hE
      refine x_callR (W.runS (As := [.int k0]) (rest := []) ⟨hx, hb, hml, hown, hu⟩ (t_Text_isBlank l G σ k0 r57 hC57) (va_cwS 1 hu (uw_S mw_786 mw_719 mw_75 mw_720) rfl rfl rfl hd_Text_isBlank ⟨Nat.le_of_ble_eq_true rfl, Nat.le_of_ble_eq_true rfl⟩) (x_preS hC hS hw) rfl rfl hl.1 rfl (lv_room (Nat.le_of_ble_eq_true rfl)) d_Fields_cut_57 ⟨Nat.le_of_ble_eq_true rfl, Nat.le_of_ble_eq_true rfl⟩) ?_
      refine lv_if_ne (tgt := 81) hx hb d_Fields_cut_60 (by decide) (fun hc60 => ?_) (fun hc60 => ?_)
      · rw [if_neg hc60] at hE
        exact jn81 _ hbk8 _ _ _ _ _ _ _ hE (lv_sub hl [1, 2, 3, 4, 5, 6] rfl) hw hS
      · rw [if_pos hc60] at hE
        refine lv_iload_n hx hb d_Fields_cut_63 rfl (lv_at hl 4 rfl) ?_
        refine lv_iconst (v := ((-1) : Int32)) hx hb d_Fields_cut_64 (by decide) ?_
        refine lv_icmp_ne (tgt := 73) hx hb d_Fields_cut_65 (by decide) (fun hc65 => ?_) (fun hc65 => ?_)
        · rw [if_neg hc65] at hE
          refine lv_iload_n hx hb d_Fields_cut_73 rfl (lv_at hl 4 rfl) ?_
          exact jn74 _ hbk8 _ _ _ _ _ _ hE (lv_sub hl [1, 2, 3, 6] rfl) hw hS
        · rw [if_pos hc65] at hE
          refine lv_iload hx hb d_Fields_cut_68 (lv_at hl 6 rfl) ?_
          refine lv_goto (tgt := 74) hx hb d_Fields_cut_70 (by decide) ?_
          exact jn74 _ hbk8 _ _ _ _ _ _ hE (lv_sub hl [1, 2, 3, 6] rfl) hw hS
    · rw [if_pos hc40] at hE
      refine lv_aload_n hx hb d_Fields_cut_43 rfl (lv_at hl 1 rfl) ?_
      refine lv_iload_n hx hb d_Fields_cut_44 rfl (lv_at hl 4 rfl) ?_
      refine lv_iload hx hb d_Fields_cut_45 (lv_at hl 5 rfl) ?_
      obtain ⟨s47, hC47, hE⟩ := x_bind hE
      refine x_callV hS (W.runV (As := [.int l3, .int l4]) (rest := []) ⟨hx, hb, hml, hown, hu⟩ (t_Fields_keepElement l G σ l3 l4 s47 hC47) (cwV 2 hu (uw_V mw_782 mw_784 mw_10 mw_66 mw_785) rfl rfl rfl hd_Fields_keepElement ⟨Nat.le_of_ble_eq_true rfl, Nat.le_of_ble_eq_true rfl⟩) (x_preV hC hS hw (va_recv hK hw (q := (R_Fields, T_Fields, 9)) (ci := 1) rfl (x_at (by decide) (xcl_31 G σ)))) rfl rfl hl.1 rfl (lv_room (Nat.le_of_ble_eq_true rfl)) d_Fields_cut_47 ⟨Nat.le_of_ble_eq_true rfl, Nat.le_of_ble_eq_true rfl⟩) (fun H locs hw hS => ?_)
      refine lv_iconst (v := ((-1) : Int32)) hx hb d_Fields_cut_50 (by decide) ?_
      refine lv_istore_n hx hb d_Fields_cut_51 rfl hl (by decide) rfl (fun ls hl => ?_)
      have hl : lv_has ls 7 [(3, .int ((-1) : Int32)), (6, .int k0), (0, .ref (G.2.1 31)), (1, .int a1), (2, .int a2), (4, .int l4), (5, .int l5)] := hl
      refine lv_goto (tgt := 81) hx hb d_Fields_cut_52 (by decide) ?_
      exact jn81 _ hbk8 _ _ _ _ _ _ _ hE (lv_sub hl [2, 3, 4, 0, 5, 6] rfl) hw hS
  have jn8 : ∀ (n : Nat) (ls : Array Slot) (H : Heap) (locs : List Loc) (σ : St) (l3 : Int32) (l4 : Int32) (l5 : Int32), x_Fields_cut_8 a1 a2 n l3 l4 l5 σ = some σ' → lv_has ls 7 [(0, .ref (G.2.1 31)), (1, .int a1), (2, .int a2), (3, .int l3), (4, .int l4), (5, .int l5)] → xw G σ H → va_S (xA G) s.heap H locs → W p l e (headSpec (ws_Fields_cut) rm_Fields_cut).room s m ([.ref (G.2.1 31), .int a1, .int a2] : List Value).toArray below meth c H locs 0 0 (MQ below (xQ G none σ') ([.ref (G.2.1 31), .int a1, .int a2] : List Value).toArray s 0 0 (xA G)) (F0 m 8 ls []) := by
    intro n
    induction n with
    | zero => intro ls H locs σ l3 l4 l5 hE; rw [x_Fields_cut_8] at hE; cases hE
    | succ n ih =>
      intro ls H locs σ l3 l4 l5 hE hl hw hS
      rw [x_Fields_cut_8] at hE
      refine lv_iload hx hb d_Fields_cut_8 (lv_at hl 5 rfl) ?_
      refine lv_iload_n hx hb d_Fields_cut_10 rfl (lv_at hl 2 rfl) ?_
      refine lv_icmp_gt (tgt := 87) hx hb d_Fields_cut_11 (by decide) (fun hc11 => ?_) (fun hc11 => ?_)
      · rw [if_pos hc11] at hE
        have e1 := Option.some.inj hE
        exact W.vret hx hb hr (fun t ht hW => ⟨rfl, by rw [ht, ← e1]; exact hw, hS.F ht⟩) hS.2.2 d_Fields_cut_87
      · rw [if_neg hc11] at hE
        refine lv_iload hx hb d_Fields_cut_14 (lv_at hl 5 rfl) ?_
        refine lv_iload_n hx hb d_Fields_cut_16 rfl (lv_at hl 2 rfl) ?_
        refine lv_icmp_ge (tgt := 32) hx hb d_Fields_cut_17 (by decide) (fun hc17 => ?_) (fun hc17 => ?_)
        · rw [if_pos hc17] at hE
          refine lv_bipush (v := (44 : Int32)) hx hb d_Fields_cut_32 (by decide) ?_
          exact jn34 _ ih _ _ _ _ _ _ _ _ hE (lv_sub hl [0, 1, 2, 3, 4, 5] rfl) hw hS
        · rw [if_neg hc17] at hE
          refine lv_aload_n hx hb d_Fields_cut_20 rfl (lv_at hl 0 rfl) ?_
          refine va_get (D := G.1) (cl := xCl) (ci := 1) (v := .ref (G.2.1 32)) (C := R_Fields) (T := T_Fields) (N := 9) hx hb hu fi_Fields hown hK hw 31 (x_at (by decide) (xcl_31 G σ)) rfl 0 (by decide) (hu _ mw_173) (fun _ h9 => h9) rfl d_Fields_cut_21 ?_
          refine lv_iload hx hb d_Fields_cut_24 (lv_at hl 5 rfl) ?_
          obtain ⟨r26, hC26, hE⟩ := x_bind hE
          refine x_callR (W.runV (As := [.int l5]) (rest := []) ⟨hx, hb, hml, hown, hu⟩ (t_Bytes_get l G σ 32 l5 (by decide) r26 hC26) (cwV 1 hu (uw_V mw_781 mw_540 mw_541 mw_63 mw_542) rfl rfl rfl hd_Bytes_get ⟨Nat.le_of_ble_eq_true rfl, Nat.le_of_ble_eq_true rfl⟩) (x_preV hC hS hw (va_recv hK hw (q := (R_Bytes, T_Bytes, 2)) (ci := 0) rfl (x_at (by decide) (xcl_32 G σ)))) rfl rfl hl.1 rfl (lv_room (Nat.le_of_ble_eq_true rfl)) d_Fields_cut_26 ⟨Nat.le_of_ble_eq_true rfl, Nat.le_of_ble_eq_true rfl⟩) ?_
          refine lv_goto (tgt := 34) hx hb d_Fields_cut_29 (by decide) ?_
          exact jn34 _ ih _ _ _ _ _ _ _ _ hE (lv_sub hl [0, 1, 2, 3, 4, 5] rfl) hw hS
  have hl := lv_entry ([.ref (G.2.1 31), .int a1, .int a2]) (n := 7) (Nat.le_of_ble_eq_true rfl)
  rw [lg_entry_eq]
  generalize (lg_sl ([.ref (G.2.1 31), .int a1, .int a2]) ++ List.replicate (7 - (lg_sl ([.ref (G.2.1 31), .int a1, .int a2])).length) Slot.unset).toArray = ls at hl ⊢
  have hl : lv_has ls 7 [(0, .ref (G.2.1 31)), (1, .int a1), (2, .int a2)] := hl
  unfold x_Fields_cut at hE
  refine lv_iconst (v := ((-1) : Int32)) hx hb d_Fields_cut_0 (by decide) ?_
  refine lv_istore_n hx hb d_Fields_cut_1 rfl hl (by decide) rfl (fun ls hl => ?_)
  have hl : lv_has ls 7 [(3, .int ((-1) : Int32)), (0, .ref (G.2.1 31)), (1, .int a1), (2, .int a2)] := hl
  refine lv_iconst (v := ((-1) : Int32)) hx hb d_Fields_cut_2 (by decide) ?_
  refine lv_istore hx hb d_Fields_cut_3 hl (by decide) rfl (fun ls hl => ?_)
  have hl : lv_has ls 7 [(4, .int ((-1) : Int32)), (3, .int ((-1) : Int32)), (0, .ref (G.2.1 31)), (1, .int a1), (2, .int a2)] := hl
  refine lv_iload_n hx hb d_Fields_cut_5 rfl (lv_at hl 3 rfl) ?_
  refine lv_istore hx hb d_Fields_cut_6 hl (by decide) rfl (fun ls hl => ?_)
  have hl : lv_has ls 7 [(5, .int a1), (4, .int ((-1) : Int32)), (3, .int ((-1) : Int32)), (0, .ref (G.2.1 31)), (1, .int a1), (2, .int a2)] := hl
  exact jn8 x_fuel _ _ _ _ _ _ _ hE (lv_sub hl [3, 4, 5, 2, 1, 0] rfl) hw hS

def y_Fields_gather : MethodName := ⟨"PlainOrigin$Fields", "gather", "(Ljava/lang/String;)I"⟩
def ws_Fields_gather : List Cond := Cond.code y_Fields_gather prog_4_method_6_code 3 (some .int) :: UW
theorem hd_Fields_gather : y_Fields_gather.cls = R_Fields ∧ y_Fields_gather.cls ≠ "java/lang/invoke/MethodHandle" ∧ y_Fields_gather.cls ≠ "java/lang/invoke/VarHandle" ∧ (parseMethodDescriptor y_Fields_gather.desc).map (fun d => d.parameters.length) = some 1 := by decide +kernel
theorem d_Fields_gather_0 : decode prog_4_method_6_code 0 = .ok (.aload_n 0, 1) := by decide +kernel
theorem d_Fields_gather_1 : decode prog_4_method_6_code 1 = .ok (.iconst 0, 1) := by decide +kernel
theorem d_Fields_gather_2 : decode prog_4_method_6_code 2 = .ok (.putfield 46, 3) := by decide +kernel
theorem d_Fields_gather_5 : decode prog_4_method_6_code 5 = .ok (.iconst 0, 1) := by decide +kernel
theorem d_Fields_gather_6 : decode prog_4_method_6_code 6 = .ok (.istore_n 2, 1) := by decide +kernel
theorem d_Fields_gather_7 : decode prog_4_method_6_code 7 = .ok (.iload_n 2, 1) := by decide +kernel
theorem d_Fields_gather_8 : decode prog_4_method_6_code 8 = .ok (.aload_n 0, 1) := by decide +kernel
theorem d_Fields_gather_9 : decode prog_4_method_6_code 9 = .ok (.getfield 42, 3) := by decide +kernel
theorem d_Fields_gather_12 : decode prog_4_method_6_code 12 = .ok (.if_icmp .ge (48), 3) := by decide +kernel
theorem d_Fields_gather_15 : decode prog_4_method_6_code 15 = .ok (.aload_n 0, 1) := by decide +kernel
theorem d_Fields_gather_16 : decode prog_4_method_6_code 16 = .ok (.getfield 14, 3) := by decide +kernel
theorem d_Fields_gather_19 : decode prog_4_method_6_code 19 = .ok (.aload_n 0, 1) := by decide +kernel
theorem d_Fields_gather_20 : decode prog_4_method_6_code 20 = .ok (.getfield 20, 3) := by decide +kernel
theorem d_Fields_gather_23 : decode prog_4_method_6_code 23 = .ok (.iload_n 2, 1) := by decide +kernel
theorem d_Fields_gather_24 : decode prog_4_method_6_code 24 = .ok (.iaload, 1) := by decide +kernel
theorem d_Fields_gather_25 : decode prog_4_method_6_code 25 = .ok (.aload_n 0, 1) := by decide +kernel
theorem d_Fields_gather_26 : decode prog_4_method_6_code 26 = .ok (.getfield 24, 3) := by decide +kernel
theorem d_Fields_gather_29 : decode prog_4_method_6_code 29 = .ok (.iload_n 2, 1) := by decide +kernel
theorem d_Fields_gather_30 : decode prog_4_method_6_code 30 = .ok (.iaload, 1) := by decide +kernel
theorem d_Fields_gather_31 : decode prog_4_method_6_code 31 = .ok (.aload_n 1, 1) := by decide +kernel
theorem d_Fields_gather_32 : decode prog_4_method_6_code 32 = .ok (.invokestatic 69, 3) := by decide +kernel
theorem d_Fields_gather_35 : decode prog_4_method_6_code 35 = .ok (.ifCond .eq (19), 3) := by decide +kernel
theorem d_Fields_gather_38 : decode prog_4_method_6_code 38 = .ok (.aload_n 0, 1) := by decide +kernel
theorem d_Fields_gather_39 : decode prog_4_method_6_code 39 = .ok (.aload_n 0, 1) := by decide +kernel
theorem d_Fields_gather_40 : decode prog_4_method_6_code 40 = .ok (.getfield 27, 3) := by decide +kernel
theorem d_Fields_gather_43 : decode prog_4_method_6_code 43 = .ok (.iload_n 2, 1) := by decide +kernel
theorem d_Fields_gather_44 : decode prog_4_method_6_code 44 = .ok (.iaload, 1) := by decide +kernel
theorem d_Fields_gather_45 : decode prog_4_method_6_code 45 = .ok (.aload_n 0, 1) := by decide +kernel
theorem d_Fields_gather_46 : decode prog_4_method_6_code 46 = .ok (.getfield 30, 3) := by decide +kernel
theorem d_Fields_gather_49 : decode prog_4_method_6_code 49 = .ok (.iload_n 2, 1) := by decide +kernel
theorem d_Fields_gather_50 : decode prog_4_method_6_code 50 = .ok (.iaload, 1) := by decide +kernel
theorem d_Fields_gather_51 : decode prog_4_method_6_code 51 = .ok (.invokevirtual 73, 3) := by decide +kernel
theorem d_Fields_gather_54 : decode prog_4_method_6_code 54 = .ok (.iinc 2 (1), 3) := by decide +kernel
theorem d_Fields_gather_57 : decode prog_4_method_6_code 57 = .ok (.goto (-50), 3) := by decide +kernel
theorem d_Fields_gather_60 : decode prog_4_method_6_code 60 = .ok (.aload_n 0, 1) := by decide +kernel
theorem d_Fields_gather_61 : decode prog_4_method_6_code 61 = .ok (.getfield 46, 3) := by decide +kernel
theorem d_Fields_gather_64 : decode prog_4_method_6_code 64 = .ok (.ireturn, 1) := by decide +kernel
def x_Fields_gather_54 (w1 : Nat) (bk7 : Int32 → St → Option (Int32 × St)) (l2 : Int32) (σ : St) : Option (Int32 × St) := (x_let (l2 + (1 : Int32)) (fun (v54 : Int32) => bk7 v54 σ))
def x_Fields_gather_7 (w1 : Nat) : Nat → Int32 → St → Option (Int32 × St)
  | 0, _, _ => none
  | n + 1, l2, σ => (if (σ.1 31 5) ≤ l2 then some (σ.1 31 8, σ) else (if x_in l2 12 then (if x_in l2 12 then (Option.bind (x_Text_isWord 32 (σ.2.1 34 l2.toNatClampNeg) (σ.2.1 35 l2.toNatClampNeg) w1 σ) (fun r32 => (if r32 = 0 then x_Fields_gather_54 w1 (x_Fields_gather_7 w1 n) l2 σ else (if x_in l2 12 then (if x_in l2 12 then (Option.bind (x_Fields_cut (σ.2.1 36 l2.toNatClampNeg) (σ.2.1 37 l2.toNatClampNeg) σ) (fun s51 => x_Fields_gather_54 w1 (x_Fields_gather_7 w1 n) l2 s51)) else none) else none)))) else none) else none))
def x_Fields_gather (w1 : Nat) (σ : St) : Option (Int32 × St) := (x_let (x_updR σ 31 8 (0 : Int32)) (fun (s2 : St) => x_Fields_gather_7 w1 x_fuel (0 : Int32) s2))
abbrev rm_Fields_gather : Room := { frames := 5, cells := 0, slots := 0, locals := 109 }
set_option maxHeartbeats 4000000 in
set_option maxRecDepth 100000 in
theorem t_Fields_gather (l : Launch) (G : xG) (σ : St) (w1 : Nat) (hw1 : w1 < nStr) (r : Int32) (σ' : St) (hE : x_Fields_gather w1 σ = some (r, σ')) : Met l y_Fields_gather (ws_Fields_gather) rm_Fields_gather (xP G σ [.ref (G.2.1 31), .ref (G.2.2.2.1 w1)]) (xQ G (some (.int r)) σ') 0 0 (xA G) := by
  refine Met.ofW (cc := prog_4_method_6_code) (maxL := 3) (ret := (some .int)) (by decide) rfl ?_
  intro p e s m args below meth c s₁ B hml hv
  obtain ⟨rfl, hw, hC⟩ := hv
  have hx := B.exec
  have hb := B.bytes
  have hr := B.returns
  have hu : ∀ w ∈ UW, w.before _ s = true := fun w h => atoms_spec B.pre w (List.mem_cons_of_mem _ h)
  have hown : s.vm.findClass R_Fields = some m.cls := findClass_of_methodNamed B.named
  have hlocks := B.notSynchronized
  have hK := hC.1
  have hI := hC.2.1
  have hG := hC.2.2.1
  have hN := hC.2.2.2
  have hS : va_S (xA G) s.heap s.heap [] := va_S.rf
  have jn54 : ∀ (bk7 : Int32 → St → Option (Int32 × St)) (hbk7 : ∀ (ls : Array Slot) (H : Heap) (locs : List Loc) (σ : St) (l2 : Int32), bk7 l2 σ = some (r, σ') → lv_has ls 3 [(0, .ref (G.2.1 31)), (1, .ref (G.2.2.2.1 w1)), (2, .int l2)] → xw G σ H → va_S (xA G) s.heap H locs → W p l e (headSpec (ws_Fields_gather) rm_Fields_gather).room s m ([.ref (G.2.1 31), .ref (G.2.2.2.1 w1)] : List Value).toArray below meth c H locs 0 0 (MQ below (xQ G (some (.int r)) σ') ([.ref (G.2.1 31), .ref (G.2.2.2.1 w1)] : List Value).toArray s 0 0 (xA G)) (F0 m 7 ls [])) (ls : Array Slot) (H : Heap) (locs : List Loc) (σ : St) (l2 : Int32), x_Fields_gather_54 w1 bk7 l2 σ = some (r, σ') → lv_has ls 3 [(0, .ref (G.2.1 31)), (1, .ref (G.2.2.2.1 w1)), (2, .int l2)] → xw G σ H → va_S (xA G) s.heap H locs → W p l e (headSpec (ws_Fields_gather) rm_Fields_gather).room s m ([.ref (G.2.1 31), .ref (G.2.2.2.1 w1)] : List Value).toArray below meth c H locs 0 0 (MQ below (xQ G (some (.int r)) σ') ([.ref (G.2.1 31), .ref (G.2.2.2.1 w1)] : List Value).toArray s 0 0 (xA G)) (F0 m 54 ls []) := by
    intro bk7 hbk7 ls H locs σ l2 hE hl hw hS
    unfold x_Fields_gather_54 at hE
    obtain ⟨v54, e54, hE⟩ := x_letE hE
    refine lv_iinc hx hb d_Fields_gather_54 hl (k := 2) rfl (x_inc v54 e54 (by decide)) (by decide) rfl (fun ls hl => ?_)
    have hl : lv_has ls 3 [(2, .int v54), (0, .ref (G.2.1 31)), (1, .ref (G.2.2.2.1 w1))] := hl
    refine lv_goto (tgt := 7) hx hb d_Fields_gather_57 (by decide) ?_
    exact hbk7 _ _ _ _ _ hE (lv_sub hl [1, 2, 0] rfl) hw hS
  have jn7 : ∀ (n : Nat) (ls : Array Slot) (H : Heap) (locs : List Loc) (σ : St) (l2 : Int32), x_Fields_gather_7 w1 n l2 σ = some (r, σ') → lv_has ls 3 [(0, .ref (G.2.1 31)), (1, .ref (G.2.2.2.1 w1)), (2, .int l2)] → xw G σ H → va_S (xA G) s.heap H locs → W p l e (headSpec (ws_Fields_gather) rm_Fields_gather).room s m ([.ref (G.2.1 31), .ref (G.2.2.2.1 w1)] : List Value).toArray below meth c H locs 0 0 (MQ below (xQ G (some (.int r)) σ') ([.ref (G.2.1 31), .ref (G.2.2.2.1 w1)] : List Value).toArray s 0 0 (xA G)) (F0 m 7 ls []) := by
    intro n
    induction n with
    | zero => intro ls H locs σ l2 hE; rw [x_Fields_gather_7] at hE; cases hE
    | succ n ih =>
      intro ls H locs σ l2 hE hl hw hS
      rw [x_Fields_gather_7] at hE
      refine lv_iload_n hx hb d_Fields_gather_7 rfl (lv_at hl 2 rfl) ?_
      refine lv_aload_n hx hb d_Fields_gather_8 rfl (lv_at hl 0 rfl) ?_
      refine va_get (D := G.1) (cl := xCl) (ci := 1) (v := .int (σ.1 31 5)) (C := R_Fields) (T := T_Fields) (N := 9) hx hb hu fi_Fields hown hK hw 31 (x_at (by decide) (xcl_31 G σ)) rfl 5 (by decide) (hu _ mw_184) (fun _ h9 => h9) rfl d_Fields_gather_9 ?_
      refine lv_icmp_ge (tgt := 60) hx hb d_Fields_gather_12 (by decide) (fun hc12 => ?_) (fun hc12 => ?_)
      · rw [if_pos hc12] at hE
        refine lv_aload_n hx hb d_Fields_gather_60 rfl (lv_at hl 0 rfl) ?_
        refine va_get (D := G.1) (cl := xCl) (ci := 1) (v := .int (σ.1 31 8)) (C := R_Fields) (T := T_Fields) (N := 9) hx hb hu fi_Fields hown hK hw 31 (x_at (by decide) (xcl_31 G σ)) rfl 8 (by decide) (hu _ mw_187) (fun _ h9 => h9) rfl d_Fields_gather_61 ?_
        obtain ⟨e1, e2⟩ := x_pair hE
        exact W.iret (v := σ.1 31 8) hx hb hr (fun t ht hW => ⟨by rw [e1], by rw [ht, ← e2]; exact hw, hS.F ht⟩) hS.2.2 d_Fields_gather_64
      · rw [if_neg hc12] at hE
        refine lv_aload_n hx hb d_Fields_gather_15 rfl (lv_at hl 0 rfl) ?_
        refine va_get (D := G.1) (cl := xCl) (ci := 1) (v := .ref (G.2.1 32)) (C := R_Fields) (T := T_Fields) (N := 9) hx hb hu fi_Fields hown hK hw 31 (x_at (by decide) (xcl_31 G σ)) rfl 0 (by decide) (hu _ mw_173) (fun _ h9 => h9) rfl d_Fields_gather_16 ?_
        refine lv_aload_n hx hb d_Fields_gather_19 rfl (lv_at hl 0 rfl) ?_
        refine va_get (D := G.1) (cl := xCl) (ci := 1) (v := .ref (G.2.1 34)) (C := R_Fields) (T := T_Fields) (N := 9) hx hb hu fi_Fields hown hK hw 31 (x_at (by decide) (xcl_31 G σ)) rfl 1 (by decide) (hu _ mw_176) (fun _ h9 => h9) rfl d_Fields_gather_20 ?_
        refine lv_iload_n hx hb d_Fields_gather_23 rfl (lv_at hl 2 rfl) ?_
        obtain ⟨g24, hE⟩ := x_guard hE
        refine va_iald hx hb hK hw 34 0 (x_at (by decide) (xcl_34 G σ)) rfl g24 d_Fields_gather_24 ?_
        refine lv_aload_n hx hb d_Fields_gather_25 rfl (lv_at hl 0 rfl) ?_
        refine va_get (D := G.1) (cl := xCl) (ci := 1) (v := .ref (G.2.1 35)) (C := R_Fields) (T := T_Fields) (N := 9) hx hb hu fi_Fields hown hK hw 31 (x_at (by decide) (xcl_31 G σ)) rfl 2 (by decide) (hu _ mw_177) (fun _ h9 => h9) rfl d_Fields_gather_26 ?_
        refine lv_iload_n hx hb d_Fields_gather_29 rfl (lv_at hl 2 rfl) ?_
        obtain ⟨g30, hE⟩ := x_guard hE
        refine va_iald hx hb hK hw 35 0 (x_at (by decide) (xcl_35 G σ)) rfl g30 d_Fields_gather_30 ?_
        refine lv_aload_n hx hb d_Fields_gather_31 rfl (lv_at hl 1 rfl) ?_
        obtain ⟨r32, hC32, hE⟩ := x_bind hE
        refine x_callR (W.runS (As := [.ref (G.2.1 32), .int (σ.2.1 34 l2.toNatClampNeg), .int (σ.2.1 35 l2.toNatClampNeg), .ref (G.2.2.2.1 w1)]) (rest := []) ⟨hx, hb, hml, hown, hu⟩ (t_Text_isWord l G σ 32 (σ.2.1 34 l2.toNatClampNeg) (σ.2.1 35 l2.toNatClampNeg) w1 (by decide) hw1 r32 hC32) (va_cwS 4 hu (uw_S mw_749 mw_750 mw_75 mw_751) rfl rfl rfl hd_Text_isWord ⟨Nat.le_of_ble_eq_true rfl, Nat.le_of_ble_eq_true rfl⟩) (x_preS hC hS hw) rfl rfl hl.1 rfl (lv_room (Nat.le_of_ble_eq_true rfl)) d_Fields_gather_32 ⟨Nat.le_of_ble_eq_true rfl, Nat.le_of_ble_eq_true rfl⟩) ?_
        refine lv_if_eq (tgt := 54) hx hb d_Fields_gather_35 (by decide) (fun hc35 => ?_) (fun hc35 => ?_)
        · rw [if_pos hc35] at hE
          exact jn54 _ ih _ _ _ _ _ hE (lv_sub hl [0, 1, 2] rfl) hw hS
        · rw [if_neg hc35] at hE
          refine lv_aload_n hx hb d_Fields_gather_38 rfl (lv_at hl 0 rfl) ?_
          refine lv_aload_n hx hb d_Fields_gather_39 rfl (lv_at hl 0 rfl) ?_
          refine va_get (D := G.1) (cl := xCl) (ci := 1) (v := .ref (G.2.1 36)) (C := R_Fields) (T := T_Fields) (N := 9) hx hb hu fi_Fields hown hK hw 31 (x_at (by decide) (xcl_31 G σ)) rfl 3 (by decide) (hu _ mw_178) (fun _ h9 => h9) rfl d_Fields_gather_40 ?_
          refine lv_iload_n hx hb d_Fields_gather_43 rfl (lv_at hl 2 rfl) ?_
          obtain ⟨g44, hE⟩ := x_guard hE
          refine va_iald hx hb hK hw 36 0 (x_at (by decide) (xcl_36 G σ)) rfl g44 d_Fields_gather_44 ?_
          refine lv_aload_n hx hb d_Fields_gather_45 rfl (lv_at hl 0 rfl) ?_
          refine va_get (D := G.1) (cl := xCl) (ci := 1) (v := .ref (G.2.1 37)) (C := R_Fields) (T := T_Fields) (N := 9) hx hb hu fi_Fields hown hK hw 31 (x_at (by decide) (xcl_31 G σ)) rfl 4 (by decide) (hu _ mw_181) (fun _ h9 => h9) rfl d_Fields_gather_46 ?_
          refine lv_iload_n hx hb d_Fields_gather_49 rfl (lv_at hl 2 rfl) ?_
          obtain ⟨g50, hE⟩ := x_guard hE
          refine va_iald hx hb hK hw 37 0 (x_at (by decide) (xcl_37 G σ)) rfl g50 d_Fields_gather_50 ?_
          obtain ⟨s51, hC51, hE⟩ := x_bind hE
          refine x_callV hS (W.runV (As := [.int (σ.2.1 36 l2.toNatClampNeg), .int (σ.2.1 37 l2.toNatClampNeg)]) (rest := []) ⟨hx, hb, hml, hown, hu⟩ (t_Fields_cut l G σ (σ.2.1 36 l2.toNatClampNeg) (σ.2.1 37 l2.toNatClampNeg) s51 hC51) (cwV 2 hu (uw_V mw_777 mw_779 mw_9 mw_66 mw_780) rfl rfl rfl hd_Fields_cut ⟨Nat.le_of_ble_eq_true rfl, Nat.le_of_ble_eq_true rfl⟩) (x_preV hC hS hw (va_recv hK hw (q := (R_Fields, T_Fields, 9)) (ci := 1) rfl (x_at (by decide) (xcl_31 G σ)))) rfl rfl hl.1 rfl (lv_room (Nat.le_of_ble_eq_true rfl)) d_Fields_gather_51 ⟨Nat.le_of_ble_eq_true rfl, Nat.le_of_ble_eq_true rfl⟩) (fun H locs hw hS => ?_)
          exact jn54 _ ih _ _ _ _ _ hE (lv_sub hl [0, 1, 2] rfl) hw hS
  have hl := lv_entry ([.ref (G.2.1 31), .ref (G.2.2.2.1 w1)]) (n := 3) (Nat.le_of_ble_eq_true rfl)
  rw [lg_entry_eq]
  generalize (lg_sl ([.ref (G.2.1 31), .ref (G.2.2.2.1 w1)]) ++ List.replicate (3 - (lg_sl ([.ref (G.2.1 31), .ref (G.2.2.2.1 w1)])).length) Slot.unset).toArray = ls at hl ⊢
  have hl : lv_has ls 3 [(0, .ref (G.2.1 31)), (1, .ref (G.2.2.2.1 w1))] := hl
  unfold x_Fields_gather at hE
  refine lv_aload_n hx hb d_Fields_gather_0 rfl (lv_at hl 0 rfl) ?_
  refine lv_iconst (v := (0 : Int32)) hx hb d_Fields_gather_1 (by decide) ?_
  refine va_put (D := G.1) (cl := xCl) (ci := 1) (v := .int (0 : Int32)) (ty := .int) (C := R_Fields) (T := T_Fields) (N := 9) hx hb hu fi_Fields ty_Fields tyok_Fields nm_Fields hown hK hw (x_D hI _) hS 31 (x_at (by decide) (xcl_31 G σ)) rfl 8 (by decide) (hu _ mw_187) (fun _ h9 => h9) rfl (tyok_Fields 8 (by decide)) rfl rfl (Nat.le_of_ble_eq_true rfl) d_Fields_gather_2 (fun H locs hw _ hS => ?_)
  replace hw := x_setR hw (by decide) rfl
  obtain ⟨s2, e2, hE⟩ := x_letE hE
  rw [← e2] at hw
  refine lv_iconst (v := (0 : Int32)) hx hb d_Fields_gather_5 (by decide) ?_
  refine lv_istore_n hx hb d_Fields_gather_6 rfl hl (by decide) rfl (fun ls hl => ?_)
  have hl : lv_has ls 3 [(2, .int (0 : Int32)), (0, .ref (G.2.1 31)), (1, .ref (G.2.2.2.1 w1))] := hl
  exact jn7 x_fuel _ _ _ _ _ hE (lv_sub hl [1, 2, 0] rfl) hw hS

def y_Fields_elementIs : MethodName := ⟨"PlainOrigin$Fields", "elementIs", "(ILjava/lang/String;)Z"⟩
def ws_Fields_elementIs : List Cond := Cond.code y_Fields_elementIs prog_4_method_9_code 3 (some .boolean) :: UW
theorem hd_Fields_elementIs : y_Fields_elementIs.cls = R_Fields ∧ y_Fields_elementIs.cls ≠ "java/lang/invoke/MethodHandle" ∧ y_Fields_elementIs.cls ≠ "java/lang/invoke/VarHandle" ∧ (parseMethodDescriptor y_Fields_elementIs.desc).map (fun d => d.parameters.length) = some 2 := by decide +kernel
theorem d_Fields_elementIs_0 : decode prog_4_method_9_code 0 = .ok (.iload_n 1, 1) := by decide +kernel
theorem d_Fields_elementIs_1 : decode prog_4_method_9_code 1 = .ok (.ifCond .lt (38), 3) := by decide +kernel
theorem d_Fields_elementIs_4 : decode prog_4_method_9_code 4 = .ok (.iload_n 1, 1) := by decide +kernel
theorem d_Fields_elementIs_5 : decode prog_4_method_9_code 5 = .ok (.aload_n 0, 1) := by decide +kernel
theorem d_Fields_elementIs_6 : decode prog_4_method_9_code 6 = .ok (.getfield 46, 3) := by decide +kernel
theorem d_Fields_elementIs_9 : decode prog_4_method_9_code 9 = .ok (.if_icmp .ge (30), 3) := by decide +kernel
theorem d_Fields_elementIs_12 : decode prog_4_method_9_code 12 = .ok (.aload_n 0, 1) := by decide +kernel
theorem d_Fields_elementIs_13 : decode prog_4_method_9_code 13 = .ok (.getfield 14, 3) := by decide +kernel
theorem d_Fields_elementIs_16 : decode prog_4_method_9_code 16 = .ok (.aload_n 0, 1) := by decide +kernel
theorem d_Fields_elementIs_17 : decode prog_4_method_9_code 17 = .ok (.getfield 33, 3) := by decide +kernel
theorem d_Fields_elementIs_20 : decode prog_4_method_9_code 20 = .ok (.iload_n 1, 1) := by decide +kernel
theorem d_Fields_elementIs_21 : decode prog_4_method_9_code 21 = .ok (.iaload, 1) := by decide +kernel
theorem d_Fields_elementIs_22 : decode prog_4_method_9_code 22 = .ok (.aload_n 0, 1) := by decide +kernel
theorem d_Fields_elementIs_23 : decode prog_4_method_9_code 23 = .ok (.getfield 36, 3) := by decide +kernel
theorem d_Fields_elementIs_26 : decode prog_4_method_9_code 26 = .ok (.iload_n 1, 1) := by decide +kernel
theorem d_Fields_elementIs_27 : decode prog_4_method_9_code 27 = .ok (.iaload, 1) := by decide +kernel
theorem d_Fields_elementIs_28 : decode prog_4_method_9_code 28 = .ok (.aload_n 2, 1) := by decide +kernel
theorem d_Fields_elementIs_29 : decode prog_4_method_9_code 29 = .ok (.invokestatic 69, 3) := by decide +kernel
theorem d_Fields_elementIs_32 : decode prog_4_method_9_code 32 = .ok (.ifCond .eq (7), 3) := by decide +kernel
theorem d_Fields_elementIs_35 : decode prog_4_method_9_code 35 = .ok (.iconst 1, 1) := by decide +kernel
theorem d_Fields_elementIs_36 : decode prog_4_method_9_code 36 = .ok (.goto (4), 3) := by decide +kernel
theorem d_Fields_elementIs_39 : decode prog_4_method_9_code 39 = .ok (.iconst 0, 1) := by decide +kernel
theorem d_Fields_elementIs_40 : decode prog_4_method_9_code 40 = .ok (.ireturn, 1) := by decide +kernel
def x_Fields_elementIs (a1 : Int32) (w2 : Nat) (σ : St) : Option Int32 := (if a1 < 0 then some (0 : Int32) else (if (σ.1 31 8) ≤ a1 then some (0 : Int32) else (if x_in a1 480 then (if x_in a1 480 then (Option.bind (x_Text_isWord 32 (σ.2.1 38 a1.toNatClampNeg) (σ.2.1 39 a1.toNatClampNeg) w2 σ) (fun r29 => (if r29 = 0 then some (0 : Int32) else some (1 : Int32)))) else none) else none)))
abbrev rm_Fields_elementIs : Room := { frames := 5, cells := 0, slots := 0, locals := 109 }
set_option maxHeartbeats 4000000 in
set_option maxRecDepth 100000 in
theorem t_Fields_elementIs (l : Launch) (G : xG) (σ : St) (a1 : Int32) (w2 : Nat) (hw2 : w2 < nStr) (r : Int32) (hE : x_Fields_elementIs a1 w2 σ = some r) : Met l y_Fields_elementIs (ws_Fields_elementIs) rm_Fields_elementIs (xP G σ [.ref (G.2.1 31), .int a1, .ref (G.2.2.2.1 w2)]) (xRd (some (.int r))) 0 0 (fun _ => False) := by
  refine Met.ofW (cc := prog_4_method_9_code) (maxL := 3) (ret := (some .boolean)) (by decide) rfl ?_
  intro p e s m args below meth c s₁ B hml hv
  obtain ⟨rfl, hw, hC⟩ := hv
  have hx := B.exec
  have hb := B.bytes
  have hr := B.returns
  have hu : ∀ w ∈ UW, w.before _ s = true := fun w h => atoms_spec B.pre w (List.mem_cons_of_mem _ h)
  have hown : s.vm.findClass R_Fields = some m.cls := findClass_of_methodNamed B.named
  have hlocks := B.notSynchronized
  have hK := hC.1
  have hI := hC.2.1
  have hG := hC.2.2.1
  have hN := hC.2.2.2
  have hS : va_S (xA G) s.heap s.heap [] := va_S.rf
  have hl := lv_entry ([.ref (G.2.1 31), .int a1, .ref (G.2.2.2.1 w2)]) (n := 3) (Nat.le_of_ble_eq_true rfl)
  rw [lg_entry_eq]
  generalize (lg_sl ([.ref (G.2.1 31), .int a1, .ref (G.2.2.2.1 w2)]) ++ List.replicate (3 - (lg_sl ([.ref (G.2.1 31), .int a1, .ref (G.2.2.2.1 w2)])).length) Slot.unset).toArray = ls at hl ⊢
  have hl : lv_has ls 3 [(0, .ref (G.2.1 31)), (1, .int a1), (2, .ref (G.2.2.2.1 w2))] := hl
  unfold x_Fields_elementIs at hE
  refine lv_iload_n hx hb d_Fields_elementIs_0 rfl (lv_at hl 1 rfl) ?_
  refine lv_if_lt (tgt := 39) hx hb d_Fields_elementIs_1 (by decide) (fun hc1 => ?_) (fun hc1 => ?_)
  · rw [if_pos hc1] at hE
    refine lv_iconst (v := (0 : Int32)) hx hb d_Fields_elementIs_39 (by decide) ?_
    exact W.zret (v := (0 : Int32)) hx hb hr rfl (fun t ht hW => ⟨by rw [Option.some.inj hE], ht⟩) (fun q h => by cases h) d_Fields_elementIs_40
  · rw [if_neg hc1] at hE
    refine lv_iload_n hx hb d_Fields_elementIs_4 rfl (lv_at hl 1 rfl) ?_
    refine lv_aload_n hx hb d_Fields_elementIs_5 rfl (lv_at hl 0 rfl) ?_
    refine va_get (D := G.1) (cl := xCl) (ci := 1) (v := .int (σ.1 31 8)) (C := R_Fields) (T := T_Fields) (N := 9) hx hb hu fi_Fields hown hK hw 31 (x_at (by decide) (xcl_31 G σ)) rfl 8 (by decide) (hu _ mw_187) (fun _ h9 => h9) rfl d_Fields_elementIs_6 ?_
    refine lv_icmp_ge (tgt := 39) hx hb d_Fields_elementIs_9 (by decide) (fun hc9 => ?_) (fun hc9 => ?_)
    · rw [if_pos hc9] at hE
      refine lv_iconst (v := (0 : Int32)) hx hb d_Fields_elementIs_39 (by decide) ?_
      exact W.zret (v := (0 : Int32)) hx hb hr rfl (fun t ht hW => ⟨by rw [Option.some.inj hE], ht⟩) (fun q h => by cases h) d_Fields_elementIs_40
    · rw [if_neg hc9] at hE
      refine lv_aload_n hx hb d_Fields_elementIs_12 rfl (lv_at hl 0 rfl) ?_
      refine va_get (D := G.1) (cl := xCl) (ci := 1) (v := .ref (G.2.1 32)) (C := R_Fields) (T := T_Fields) (N := 9) hx hb hu fi_Fields hown hK hw 31 (x_at (by decide) (xcl_31 G σ)) rfl 0 (by decide) (hu _ mw_173) (fun _ h9 => h9) rfl d_Fields_elementIs_13 ?_
      refine lv_aload_n hx hb d_Fields_elementIs_16 rfl (lv_at hl 0 rfl) ?_
      refine va_get (D := G.1) (cl := xCl) (ci := 1) (v := .ref (G.2.1 38)) (C := R_Fields) (T := T_Fields) (N := 9) hx hb hu fi_Fields hown hK hw 31 (x_at (by decide) (xcl_31 G σ)) rfl 6 (by decide) (hu _ mw_185) (fun _ h9 => h9) rfl d_Fields_elementIs_17 ?_
      refine lv_iload_n hx hb d_Fields_elementIs_20 rfl (lv_at hl 1 rfl) ?_
      obtain ⟨g21, hE⟩ := x_guard hE
      refine va_iald hx hb hK hw 38 0 (x_at (by decide) (xcl_38 G σ)) rfl g21 d_Fields_elementIs_21 ?_
      refine lv_aload_n hx hb d_Fields_elementIs_22 rfl (lv_at hl 0 rfl) ?_
      refine va_get (D := G.1) (cl := xCl) (ci := 1) (v := .ref (G.2.1 39)) (C := R_Fields) (T := T_Fields) (N := 9) hx hb hu fi_Fields hown hK hw 31 (x_at (by decide) (xcl_31 G σ)) rfl 7 (by decide) (hu _ mw_186) (fun _ h9 => h9) rfl d_Fields_elementIs_23 ?_
      refine lv_iload_n hx hb d_Fields_elementIs_26 rfl (lv_at hl 1 rfl) ?_
      obtain ⟨g27, hE⟩ := x_guard hE
      refine va_iald hx hb hK hw 39 0 (x_at (by decide) (xcl_39 G σ)) rfl g27 d_Fields_elementIs_27 ?_
      refine lv_aload_n hx hb d_Fields_elementIs_28 rfl (lv_at hl 2 rfl) ?_
      obtain ⟨r29, hC29, hE⟩ := x_bind hE
      refine x_callR (W.runS (As := [.ref (G.2.1 32), .int (σ.2.1 38 a1.toNatClampNeg), .int (σ.2.1 39 a1.toNatClampNeg), .ref (G.2.2.2.1 w2)]) (rest := []) ⟨hx, hb, hml, hown, hu⟩ (t_Text_isWord l G σ 32 (σ.2.1 38 a1.toNatClampNeg) (σ.2.1 39 a1.toNatClampNeg) w2 (by decide) hw2 r29 hC29) (va_cwS 4 hu (uw_S mw_749 mw_750 mw_75 mw_751) rfl rfl rfl hd_Text_isWord ⟨Nat.le_of_ble_eq_true rfl, Nat.le_of_ble_eq_true rfl⟩) (x_preS hC hS hw) rfl rfl hl.1 rfl (lv_room (Nat.le_of_ble_eq_true rfl)) d_Fields_elementIs_29 ⟨Nat.le_of_ble_eq_true rfl, Nat.le_of_ble_eq_true rfl⟩) ?_
      refine lv_if_eq (tgt := 39) hx hb d_Fields_elementIs_32 (by decide) (fun hc32 => ?_) (fun hc32 => ?_)
      · rw [if_pos hc32] at hE
        refine lv_iconst (v := (0 : Int32)) hx hb d_Fields_elementIs_39 (by decide) ?_
        exact W.zret (v := (0 : Int32)) hx hb hr rfl (fun t ht hW => ⟨by rw [Option.some.inj hE], ht⟩) (fun q h => by cases h) d_Fields_elementIs_40
      · rw [if_neg hc32] at hE
        refine lv_iconst (v := (1 : Int32)) hx hb d_Fields_elementIs_35 (by decide) ?_
        refine lv_goto (tgt := 40) hx hb d_Fields_elementIs_36 (by decide) ?_
        exact W.zret (v := (1 : Int32)) hx hb hr rfl (fun t ht hW => ⟨by rw [Option.some.inj hE], ht⟩) (fun q h => by cases h) d_Fields_elementIs_40

def y_Fields_elementNumber : MethodName := ⟨"PlainOrigin$Fields", "elementNumber", "(I)I"⟩
def ws_Fields_elementNumber : List Cond := Cond.code y_Fields_elementNumber prog_4_method_10_code 2 (some .int) :: UW
theorem hd_Fields_elementNumber : y_Fields_elementNumber.cls = R_Fields ∧ y_Fields_elementNumber.cls ≠ "java/lang/invoke/MethodHandle" ∧ y_Fields_elementNumber.cls ≠ "java/lang/invoke/VarHandle" ∧ (parseMethodDescriptor y_Fields_elementNumber.desc).map (fun d => d.parameters.length) = some 1 := by decide +kernel
theorem d_Fields_elementNumber_0 : decode prog_4_method_10_code 0 = .ok (.iload_n 1, 1) := by decide +kernel
theorem d_Fields_elementNumber_1 : decode prog_4_method_10_code 1 = .ok (.ifCond .lt (33), 3) := by decide +kernel
theorem d_Fields_elementNumber_4 : decode prog_4_method_10_code 4 = .ok (.iload_n 1, 1) := by decide +kernel
theorem d_Fields_elementNumber_5 : decode prog_4_method_10_code 5 = .ok (.aload_n 0, 1) := by decide +kernel
theorem d_Fields_elementNumber_6 : decode prog_4_method_10_code 6 = .ok (.getfield 46, 3) := by decide +kernel
theorem d_Fields_elementNumber_9 : decode prog_4_method_10_code 9 = .ok (.if_icmp .ge (25), 3) := by decide +kernel
theorem d_Fields_elementNumber_12 : decode prog_4_method_10_code 12 = .ok (.aload_n 0, 1) := by decide +kernel
theorem d_Fields_elementNumber_13 : decode prog_4_method_10_code 13 = .ok (.getfield 14, 3) := by decide +kernel
theorem d_Fields_elementNumber_16 : decode prog_4_method_10_code 16 = .ok (.aload_n 0, 1) := by decide +kernel
theorem d_Fields_elementNumber_17 : decode prog_4_method_10_code 17 = .ok (.getfield 33, 3) := by decide +kernel
theorem d_Fields_elementNumber_20 : decode prog_4_method_10_code 20 = .ok (.iload_n 1, 1) := by decide +kernel
theorem d_Fields_elementNumber_21 : decode prog_4_method_10_code 21 = .ok (.iaload, 1) := by decide +kernel
theorem d_Fields_elementNumber_22 : decode prog_4_method_10_code 22 = .ok (.aload_n 0, 1) := by decide +kernel
theorem d_Fields_elementNumber_23 : decode prog_4_method_10_code 23 = .ok (.getfield 36, 3) := by decide +kernel
theorem d_Fields_elementNumber_26 : decode prog_4_method_10_code 26 = .ok (.iload_n 1, 1) := by decide +kernel
theorem d_Fields_elementNumber_27 : decode prog_4_method_10_code 27 = .ok (.iaload, 1) := by decide +kernel
theorem d_Fields_elementNumber_28 : decode prog_4_method_10_code 28 = .ok (.invokestatic 88, 3) := by decide +kernel
theorem d_Fields_elementNumber_31 : decode prog_4_method_10_code 31 = .ok (.goto (4), 3) := by decide +kernel
theorem d_Fields_elementNumber_34 : decode prog_4_method_10_code 34 = .ok (.iconst (-1), 1) := by decide +kernel
theorem d_Fields_elementNumber_35 : decode prog_4_method_10_code 35 = .ok (.ireturn, 1) := by decide +kernel
def x_Fields_elementNumber (a1 : Int32) (σ : St) : Option Int32 := (if a1 < 0 then some ((-1) : Int32) else (if (σ.1 31 8) ≤ a1 then some ((-1) : Int32) else (if x_in a1 480 then (if x_in a1 480 then (Option.bind (x_Text_number 32 (σ.2.1 38 a1.toNatClampNeg) (σ.2.1 39 a1.toNatClampNeg) σ) (fun r28 => some r28)) else none) else none)))
abbrev rm_Fields_elementNumber : Room := { frames := 2, cells := 0, slots := 0, locals := 46 }
set_option maxHeartbeats 4000000 in
set_option maxRecDepth 100000 in
theorem t_Fields_elementNumber (l : Launch) (G : xG) (σ : St) (a1 : Int32) (r : Int32) (hE : x_Fields_elementNumber a1 σ = some r) : Met l y_Fields_elementNumber (ws_Fields_elementNumber) rm_Fields_elementNumber (xP G σ [.ref (G.2.1 31), .int a1]) (xRd (some (.int r))) 0 0 (fun _ => False) := by
  refine Met.ofW (cc := prog_4_method_10_code) (maxL := 2) (ret := (some .int)) (by decide) rfl ?_
  intro p e s m args below meth c s₁ B hml hv
  obtain ⟨rfl, hw, hC⟩ := hv
  have hx := B.exec
  have hb := B.bytes
  have hr := B.returns
  have hu : ∀ w ∈ UW, w.before _ s = true := fun w h => atoms_spec B.pre w (List.mem_cons_of_mem _ h)
  have hown : s.vm.findClass R_Fields = some m.cls := findClass_of_methodNamed B.named
  have hlocks := B.notSynchronized
  have hK := hC.1
  have hI := hC.2.1
  have hG := hC.2.2.1
  have hN := hC.2.2.2
  have hS : va_S (xA G) s.heap s.heap [] := va_S.rf
  have hl := lv_entry ([.ref (G.2.1 31), .int a1]) (n := 2) (Nat.le_of_ble_eq_true rfl)
  rw [lg_entry_eq]
  generalize (lg_sl ([.ref (G.2.1 31), .int a1]) ++ List.replicate (2 - (lg_sl ([.ref (G.2.1 31), .int a1])).length) Slot.unset).toArray = ls at hl ⊢
  have hl : lv_has ls 2 [(0, .ref (G.2.1 31)), (1, .int a1)] := hl
  unfold x_Fields_elementNumber at hE
  refine lv_iload_n hx hb d_Fields_elementNumber_0 rfl (lv_at hl 1 rfl) ?_
  refine lv_if_lt (tgt := 34) hx hb d_Fields_elementNumber_1 (by decide) (fun hc1 => ?_) (fun hc1 => ?_)
  · rw [if_pos hc1] at hE
    refine lv_iconst (v := ((-1) : Int32)) hx hb d_Fields_elementNumber_34 (by decide) ?_
    exact W.iret (v := ((-1) : Int32)) hx hb hr (fun t ht hW => ⟨by rw [Option.some.inj hE], ht⟩) (fun q h => by cases h) d_Fields_elementNumber_35
  · rw [if_neg hc1] at hE
    refine lv_iload_n hx hb d_Fields_elementNumber_4 rfl (lv_at hl 1 rfl) ?_
    refine lv_aload_n hx hb d_Fields_elementNumber_5 rfl (lv_at hl 0 rfl) ?_
    refine va_get (D := G.1) (cl := xCl) (ci := 1) (v := .int (σ.1 31 8)) (C := R_Fields) (T := T_Fields) (N := 9) hx hb hu fi_Fields hown hK hw 31 (x_at (by decide) (xcl_31 G σ)) rfl 8 (by decide) (hu _ mw_187) (fun _ h9 => h9) rfl d_Fields_elementNumber_6 ?_
    refine lv_icmp_ge (tgt := 34) hx hb d_Fields_elementNumber_9 (by decide) (fun hc9 => ?_) (fun hc9 => ?_)
    · rw [if_pos hc9] at hE
      refine lv_iconst (v := ((-1) : Int32)) hx hb d_Fields_elementNumber_34 (by decide) ?_
      exact W.iret (v := ((-1) : Int32)) hx hb hr (fun t ht hW => ⟨by rw [Option.some.inj hE], ht⟩) (fun q h => by cases h) d_Fields_elementNumber_35
    · rw [if_neg hc9] at hE
      refine lv_aload_n hx hb d_Fields_elementNumber_12 rfl (lv_at hl 0 rfl) ?_
      refine va_get (D := G.1) (cl := xCl) (ci := 1) (v := .ref (G.2.1 32)) (C := R_Fields) (T := T_Fields) (N := 9) hx hb hu fi_Fields hown hK hw 31 (x_at (by decide) (xcl_31 G σ)) rfl 0 (by decide) (hu _ mw_173) (fun _ h9 => h9) rfl d_Fields_elementNumber_13 ?_
      refine lv_aload_n hx hb d_Fields_elementNumber_16 rfl (lv_at hl 0 rfl) ?_
      refine va_get (D := G.1) (cl := xCl) (ci := 1) (v := .ref (G.2.1 38)) (C := R_Fields) (T := T_Fields) (N := 9) hx hb hu fi_Fields hown hK hw 31 (x_at (by decide) (xcl_31 G σ)) rfl 6 (by decide) (hu _ mw_185) (fun _ h9 => h9) rfl d_Fields_elementNumber_17 ?_
      refine lv_iload_n hx hb d_Fields_elementNumber_20 rfl (lv_at hl 1 rfl) ?_
      obtain ⟨g21, hE⟩ := x_guard hE
      refine va_iald hx hb hK hw 38 0 (x_at (by decide) (xcl_38 G σ)) rfl g21 d_Fields_elementNumber_21 ?_
      refine lv_aload_n hx hb d_Fields_elementNumber_22 rfl (lv_at hl 0 rfl) ?_
      refine va_get (D := G.1) (cl := xCl) (ci := 1) (v := .ref (G.2.1 39)) (C := R_Fields) (T := T_Fields) (N := 9) hx hb hu fi_Fields hown hK hw 31 (x_at (by decide) (xcl_31 G σ)) rfl 7 (by decide) (hu _ mw_186) (fun _ h9 => h9) rfl d_Fields_elementNumber_23 ?_
      refine lv_iload_n hx hb d_Fields_elementNumber_26 rfl (lv_at hl 1 rfl) ?_
      obtain ⟨g27, hE⟩ := x_guard hE
      refine va_iald hx hb hK hw 39 0 (x_at (by decide) (xcl_39 G σ)) rfl g27 d_Fields_elementNumber_27 ?_
      obtain ⟨r28, hC28, hE⟩ := x_bind hE
      refine x_callR (W.runS (As := [.ref (G.2.1 32), .int (σ.2.1 38 a1.toNatClampNeg), .int (σ.2.1 39 a1.toNatClampNeg)]) (rest := []) ⟨hx, hb, hml, hown, hu⟩ (t_Text_number l G σ 32 (σ.2.1 38 a1.toNatClampNeg) (σ.2.1 39 a1.toNatClampNeg) (by decide) r28 hC28) (va_cwS 3 hu (uw_S mw_800 mw_801 mw_75 mw_802) rfl rfl rfl hd_Text_number ⟨Nat.le_of_ble_eq_true rfl, Nat.le_of_ble_eq_true rfl⟩) (x_preS hC hS hw) rfl rfl hl.1 rfl (lv_room (Nat.le_of_ble_eq_true rfl)) d_Fields_elementNumber_28 ⟨Nat.le_of_ble_eq_true rfl, Nat.le_of_ble_eq_true rfl⟩) ?_
      refine lv_goto (tgt := 35) hx hb d_Fields_elementNumber_31 (by decide) ?_
      exact W.iret (v := r28) hx hb hr (fun t ht hW => ⟨by rw [Option.some.inj hE], ht⟩) (fun q h => by cases h) d_Fields_elementNumber_35

def y_Fields_elementIsTag : MethodName := ⟨"PlainOrigin$Fields", "elementIsTag", "(II)Z"⟩
def ws_Fields_elementIsTag : List Cond := Cond.code y_Fields_elementIsTag prog_4_method_11_code 5 (some .boolean) :: UW
theorem hd_Fields_elementIsTag : y_Fields_elementIsTag.cls = R_Fields ∧ y_Fields_elementIsTag.cls ≠ "java/lang/invoke/MethodHandle" ∧ y_Fields_elementIsTag.cls ≠ "java/lang/invoke/VarHandle" ∧ (parseMethodDescriptor y_Fields_elementIsTag.desc).map (fun d => d.parameters.length) = some 2 := by decide +kernel
theorem d_Fields_elementIsTag_0 : decode prog_4_method_11_code 0 = .ok (.iload_n 1, 1) := by decide +kernel
theorem d_Fields_elementIsTag_1 : decode prog_4_method_11_code 1 = .ok (.ifCond .lt (11), 3) := by decide +kernel
theorem d_Fields_elementIsTag_4 : decode prog_4_method_11_code 4 = .ok (.iload_n 1, 1) := by decide +kernel
theorem d_Fields_elementIsTag_5 : decode prog_4_method_11_code 5 = .ok (.aload_n 0, 1) := by decide +kernel
theorem d_Fields_elementIsTag_6 : decode prog_4_method_11_code 6 = .ok (.getfield 46, 3) := by decide +kernel
theorem d_Fields_elementIsTag_9 : decode prog_4_method_11_code 9 = .ok (.if_icmp .lt (5), 3) := by decide +kernel
theorem d_Fields_elementIsTag_12 : decode prog_4_method_11_code 12 = .ok (.iconst 0, 1) := by decide +kernel
theorem d_Fields_elementIsTag_13 : decode prog_4_method_11_code 13 = .ok (.ireturn, 1) := by decide +kernel
theorem d_Fields_elementIsTag_14 : decode prog_4_method_11_code 14 = .ok (.aload_n 0, 1) := by decide +kernel
theorem d_Fields_elementIsTag_15 : decode prog_4_method_11_code 15 = .ok (.getfield 33, 3) := by decide +kernel
theorem d_Fields_elementIsTag_18 : decode prog_4_method_11_code 18 = .ok (.iload_n 1, 1) := by decide +kernel
theorem d_Fields_elementIsTag_19 : decode prog_4_method_11_code 19 = .ok (.iaload, 1) := by decide +kernel
theorem d_Fields_elementIsTag_20 : decode prog_4_method_11_code 20 = .ok (.istore_n 3, 1) := by decide +kernel
theorem d_Fields_elementIsTag_21 : decode prog_4_method_11_code 21 = .ok (.aload_n 0, 1) := by decide +kernel
theorem d_Fields_elementIsTag_22 : decode prog_4_method_11_code 22 = .ok (.getfield 36, 3) := by decide +kernel
theorem d_Fields_elementIsTag_25 : decode prog_4_method_11_code 25 = .ok (.iload_n 1, 1) := by decide +kernel
theorem d_Fields_elementIsTag_26 : decode prog_4_method_11_code 26 = .ok (.iaload, 1) := by decide +kernel
theorem d_Fields_elementIsTag_27 : decode prog_4_method_11_code 27 = .ok (.istore 4, 2) := by decide +kernel
theorem d_Fields_elementIsTag_29 : decode prog_4_method_11_code 29 = .ok (.aload_n 0, 1) := by decide +kernel
theorem d_Fields_elementIsTag_30 : decode prog_4_method_11_code 30 = .ok (.getfield 14, 3) := by decide +kernel
theorem d_Fields_elementIsTag_33 : decode prog_4_method_11_code 33 = .ok (.iload_n 3, 1) := by decide +kernel
theorem d_Fields_elementIsTag_34 : decode prog_4_method_11_code 34 = .ok (.invokevirtual 77, 3) := by decide +kernel
theorem d_Fields_elementIsTag_37 : decode prog_4_method_11_code 37 = .ok (.bipush (34), 2) := by decide +kernel
theorem d_Fields_elementIsTag_39 : decode prog_4_method_11_code 39 = .ok (.if_icmp .ne (56), 3) := by decide +kernel
theorem d_Fields_elementIsTag_42 : decode prog_4_method_11_code 42 = .ok (.aload_n 0, 1) := by decide +kernel
theorem d_Fields_elementIsTag_43 : decode prog_4_method_11_code 43 = .ok (.getfield 14, 3) := by decide +kernel
theorem d_Fields_elementIsTag_46 : decode prog_4_method_11_code 46 = .ok (.iload 4, 2) := by decide +kernel
theorem d_Fields_elementIsTag_48 : decode prog_4_method_11_code 48 = .ok (.iconst 1, 1) := by decide +kernel
theorem d_Fields_elementIsTag_49 : decode prog_4_method_11_code 49 = .ok (.isub, 1) := by decide +kernel
theorem d_Fields_elementIsTag_50 : decode prog_4_method_11_code 50 = .ok (.invokevirtual 77, 3) := by decide +kernel
theorem d_Fields_elementIsTag_53 : decode prog_4_method_11_code 53 = .ok (.bipush (34), 2) := by decide +kernel
theorem d_Fields_elementIsTag_55 : decode prog_4_method_11_code 55 = .ok (.if_icmp .ne (40), 3) := by decide +kernel
theorem d_Fields_elementIsTag_58 : decode prog_4_method_11_code 58 = .ok (.aload_n 0, 1) := by decide +kernel
theorem d_Fields_elementIsTag_59 : decode prog_4_method_11_code 59 = .ok (.getfield 14, 3) := by decide +kernel
theorem d_Fields_elementIsTag_62 : decode prog_4_method_11_code 62 = .ok (.iload_n 3, 1) := by decide +kernel
theorem d_Fields_elementIsTag_63 : decode prog_4_method_11_code 63 = .ok (.iconst 1, 1) := by decide +kernel
theorem d_Fields_elementIsTag_64 : decode prog_4_method_11_code 64 = .ok (.iadd, 1) := by decide +kernel
theorem d_Fields_elementIsTag_65 : decode prog_4_method_11_code 65 = .ok (.invokevirtual 77, 3) := by decide +kernel
theorem d_Fields_elementIsTag_68 : decode prog_4_method_11_code 68 = .ok (.bipush (48), 2) := by decide +kernel
theorem d_Fields_elementIsTag_70 : decode prog_4_method_11_code 70 = .ok (.if_icmp .eq (25), 3) := by decide +kernel
theorem d_Fields_elementIsTag_73 : decode prog_4_method_11_code 73 = .ok (.aload_n 0, 1) := by decide +kernel
theorem d_Fields_elementIsTag_74 : decode prog_4_method_11_code 74 = .ok (.getfield 14, 3) := by decide +kernel
theorem d_Fields_elementIsTag_77 : decode prog_4_method_11_code 77 = .ok (.iload_n 3, 1) := by decide +kernel
theorem d_Fields_elementIsTag_78 : decode prog_4_method_11_code 78 = .ok (.iconst 1, 1) := by decide +kernel
theorem d_Fields_elementIsTag_79 : decode prog_4_method_11_code 79 = .ok (.iadd, 1) := by decide +kernel
theorem d_Fields_elementIsTag_80 : decode prog_4_method_11_code 80 = .ok (.iload 4, 2) := by decide +kernel
theorem d_Fields_elementIsTag_82 : decode prog_4_method_11_code 82 = .ok (.iconst 1, 1) := by decide +kernel
theorem d_Fields_elementIsTag_83 : decode prog_4_method_11_code 83 = .ok (.isub, 1) := by decide +kernel
theorem d_Fields_elementIsTag_84 : decode prog_4_method_11_code 84 = .ok (.invokestatic 88, 3) := by decide +kernel
theorem d_Fields_elementIsTag_87 : decode prog_4_method_11_code 87 = .ok (.iload_n 2, 1) := by decide +kernel
theorem d_Fields_elementIsTag_88 : decode prog_4_method_11_code 88 = .ok (.if_icmp .ne (7), 3) := by decide +kernel
theorem d_Fields_elementIsTag_91 : decode prog_4_method_11_code 91 = .ok (.iconst 1, 1) := by decide +kernel
theorem d_Fields_elementIsTag_92 : decode prog_4_method_11_code 92 = .ok (.goto (4), 3) := by decide +kernel
theorem d_Fields_elementIsTag_95 : decode prog_4_method_11_code 95 = .ok (.iconst 0, 1) := by decide +kernel
theorem d_Fields_elementIsTag_96 : decode prog_4_method_11_code 96 = .ok (.ireturn, 1) := by decide +kernel
def x_Fields_elementIsTag (a1 : Int32) (a2 : Int32) (σ : St) : Option Int32 := (if a1 < 0 then some (0 : Int32) else (if a1 < (σ.1 31 8) then (if x_in a1 480 then (x_let (σ.2.1 38 a1.toNatClampNeg) (fun (v20 : Int32) => (if x_in a1 480 then (x_let (σ.2.1 39 a1.toNatClampNeg) (fun (v27 : Int32) => (Option.bind (x_Bytes_get 32 v20 σ) (fun r34 => (if r34 = (34 : Int32) then (Option.bind (x_Bytes_get 32 (v27 - (1 : Int32)) σ) (fun r50 => (if r50 = (34 : Int32) then (Option.bind (x_Bytes_get 32 (v20 + (1 : Int32)) σ) (fun r65 => (if r65 = (48 : Int32) then some (0 : Int32) else (Option.bind (x_Text_number 32 (v20 + (1 : Int32)) (v27 - (1 : Int32)) σ) (fun r84 => (if r84 = a2 then some (1 : Int32) else some (0 : Int32))))))) else some (0 : Int32)))) else some (0 : Int32)))))) else none))) else none) else some (0 : Int32)))
abbrev rm_Fields_elementIsTag : Room := { frames := 2, cells := 0, slots := 0, locals := 46 }
set_option maxHeartbeats 4000000 in
set_option maxRecDepth 100000 in
theorem t_Fields_elementIsTag (l : Launch) (G : xG) (σ : St) (a1 : Int32) (a2 : Int32) (r : Int32) (hE : x_Fields_elementIsTag a1 a2 σ = some r) : Met l y_Fields_elementIsTag (ws_Fields_elementIsTag) rm_Fields_elementIsTag (xP G σ [.ref (G.2.1 31), .int a1, .int a2]) (xRd (some (.int r))) 0 0 (fun _ => False) := by
  refine Met.ofW (cc := prog_4_method_11_code) (maxL := 5) (ret := (some .boolean)) (by decide) rfl ?_
  intro p e s m args below meth c s₁ B hml hv
  obtain ⟨rfl, hw, hC⟩ := hv
  have hx := B.exec
  have hb := B.bytes
  have hr := B.returns
  have hu : ∀ w ∈ UW, w.before _ s = true := fun w h => atoms_spec B.pre w (List.mem_cons_of_mem _ h)
  have hown : s.vm.findClass R_Fields = some m.cls := findClass_of_methodNamed B.named
  have hlocks := B.notSynchronized
  have hK := hC.1
  have hI := hC.2.1
  have hG := hC.2.2.1
  have hN := hC.2.2.2
  have hS : va_S (xA G) s.heap s.heap [] := va_S.rf
  have hl := lv_entry ([.ref (G.2.1 31), .int a1, .int a2]) (n := 5) (Nat.le_of_ble_eq_true rfl)
  rw [lg_entry_eq]
  generalize (lg_sl ([.ref (G.2.1 31), .int a1, .int a2]) ++ List.replicate (5 - (lg_sl ([.ref (G.2.1 31), .int a1, .int a2])).length) Slot.unset).toArray = ls at hl ⊢
  have hl : lv_has ls 5 [(0, .ref (G.2.1 31)), (1, .int a1), (2, .int a2)] := hl
  unfold x_Fields_elementIsTag at hE
  refine lv_iload_n hx hb d_Fields_elementIsTag_0 rfl (lv_at hl 1 rfl) ?_
  refine lv_if_lt (tgt := 12) hx hb d_Fields_elementIsTag_1 (by decide) (fun hc1 => ?_) (fun hc1 => ?_)
  · rw [if_pos hc1] at hE
    refine lv_iconst (v := (0 : Int32)) hx hb d_Fields_elementIsTag_12 (by decide) ?_
    exact W.zret (v := (0 : Int32)) hx hb hr rfl (fun t ht hW => ⟨by rw [Option.some.inj hE], ht⟩) (fun q h => by cases h) d_Fields_elementIsTag_13
  · rw [if_neg hc1] at hE
    refine lv_iload_n hx hb d_Fields_elementIsTag_4 rfl (lv_at hl 1 rfl) ?_
    refine lv_aload_n hx hb d_Fields_elementIsTag_5 rfl (lv_at hl 0 rfl) ?_
    refine va_get (D := G.1) (cl := xCl) (ci := 1) (v := .int (σ.1 31 8)) (C := R_Fields) (T := T_Fields) (N := 9) hx hb hu fi_Fields hown hK hw 31 (x_at (by decide) (xcl_31 G σ)) rfl 8 (by decide) (hu _ mw_187) (fun _ h9 => h9) rfl d_Fields_elementIsTag_6 ?_
    refine lv_icmp_lt (tgt := 14) hx hb d_Fields_elementIsTag_9 (by decide) (fun hc9 => ?_) (fun hc9 => ?_)
    · rw [if_pos hc9] at hE
      refine lv_aload_n hx hb d_Fields_elementIsTag_14 rfl (lv_at hl 0 rfl) ?_
      refine va_get (D := G.1) (cl := xCl) (ci := 1) (v := .ref (G.2.1 38)) (C := R_Fields) (T := T_Fields) (N := 9) hx hb hu fi_Fields hown hK hw 31 (x_at (by decide) (xcl_31 G σ)) rfl 6 (by decide) (hu _ mw_185) (fun _ h9 => h9) rfl d_Fields_elementIsTag_15 ?_
      refine lv_iload_n hx hb d_Fields_elementIsTag_18 rfl (lv_at hl 1 rfl) ?_
      obtain ⟨g19, hE⟩ := x_guard hE
      refine va_iald hx hb hK hw 38 0 (x_at (by decide) (xcl_38 G σ)) rfl g19 d_Fields_elementIsTag_19 ?_
      refine lv_topi (fun v20 e20 => ?_)
      replace hE := x_letT e20 hE
      refine lv_istore_n hx hb d_Fields_elementIsTag_20 rfl hl (by decide) rfl (fun ls hl => ?_)
      have hl : lv_has ls 5 [(3, .int v20), (0, .ref (G.2.1 31)), (1, .int a1), (2, .int a2)] := hl
      refine lv_aload_n hx hb d_Fields_elementIsTag_21 rfl (lv_at hl 1 rfl) ?_
      refine va_get (D := G.1) (cl := xCl) (ci := 1) (v := .ref (G.2.1 39)) (C := R_Fields) (T := T_Fields) (N := 9) hx hb hu fi_Fields hown hK hw 31 (x_at (by decide) (xcl_31 G σ)) rfl 7 (by decide) (hu _ mw_186) (fun _ h9 => h9) rfl d_Fields_elementIsTag_22 ?_
      refine lv_iload_n hx hb d_Fields_elementIsTag_25 rfl (lv_at hl 2 rfl) ?_
      obtain ⟨g26, hE⟩ := x_guard hE
      refine va_iald hx hb hK hw 39 0 (x_at (by decide) (xcl_39 G σ)) rfl g26 d_Fields_elementIsTag_26 ?_
      refine lv_topi (fun v27 e27 => ?_)
      replace hE := x_letT e27 hE
      refine lv_istore hx hb d_Fields_elementIsTag_27 hl (by decide) rfl (fun ls hl => ?_)
      have hl : lv_has ls 5 [(4, .int v27), (3, .int v20), (0, .ref (G.2.1 31)), (1, .int a1), (2, .int a2)] := hl
      refine lv_aload_n hx hb d_Fields_elementIsTag_29 rfl (lv_at hl 2 rfl) ?_
      refine va_get (D := G.1) (cl := xCl) (ci := 1) (v := .ref (G.2.1 32)) (C := R_Fields) (T := T_Fields) (N := 9) hx hb hu fi_Fields hown hK hw 31 (x_at (by decide) (xcl_31 G σ)) rfl 0 (by decide) (hu _ mw_173) (fun _ h9 => h9) rfl d_Fields_elementIsTag_30 ?_
      refine lv_iload_n hx hb d_Fields_elementIsTag_33 rfl (lv_at hl 1 rfl) ?_
      obtain ⟨r34, hC34, hE⟩ := x_bind hE
      refine x_callR (W.runV (As := [.int v20]) (rest := []) ⟨hx, hb, hml, hown, hu⟩ (t_Bytes_get l G σ 32 v20 (by decide) r34 hC34) (cwV 1 hu (uw_V mw_781 mw_540 mw_541 mw_63 mw_542) rfl rfl rfl hd_Bytes_get ⟨Nat.le_of_ble_eq_true rfl, Nat.le_of_ble_eq_true rfl⟩) (x_preV hC hS hw (va_recv hK hw (q := (R_Bytes, T_Bytes, 2)) (ci := 0) rfl (x_at (by decide) (xcl_32 G σ)))) rfl rfl hl.1 rfl (lv_room (Nat.le_of_ble_eq_true rfl)) d_Fields_elementIsTag_34 ⟨Nat.le_of_ble_eq_true rfl, Nat.le_of_ble_eq_true rfl⟩) ?_
      refine lv_bipush (v := (34 : Int32)) hx hb d_Fields_elementIsTag_37 (by decide) ?_
      refine lv_icmp_ne (tgt := 95) hx hb d_Fields_elementIsTag_39 (by decide) (fun hc39 => ?_) (fun hc39 => ?_)
      · rw [if_neg hc39] at hE
        refine lv_iconst (v := (0 : Int32)) hx hb d_Fields_elementIsTag_95 (by decide) ?_
        exact W.zret (v := (0 : Int32)) hx hb hr rfl (fun t ht hW => ⟨by rw [Option.some.inj hE], ht⟩) (fun q h => by cases h) d_Fields_elementIsTag_96
      · rw [if_pos hc39] at hE
        refine lv_aload_n hx hb d_Fields_elementIsTag_42 rfl (lv_at hl 2 rfl) ?_
        refine va_get (D := G.1) (cl := xCl) (ci := 1) (v := .ref (G.2.1 32)) (C := R_Fields) (T := T_Fields) (N := 9) hx hb hu fi_Fields hown hK hw 31 (x_at (by decide) (xcl_31 G σ)) rfl 0 (by decide) (hu _ mw_173) (fun _ h9 => h9) rfl d_Fields_elementIsTag_43 ?_
        refine lv_iload hx hb d_Fields_elementIsTag_46 (lv_at hl 0 rfl) ?_
        refine lv_iconst (v := (1 : Int32)) hx hb d_Fields_elementIsTag_48 (by decide) ?_
        refine lv_isub hx hb d_Fields_elementIsTag_49 ?_
        obtain ⟨r50, hC50, hE⟩ := x_bind hE
        refine x_callR (W.runV (As := [.int (v27 - (1 : Int32))]) (rest := []) ⟨hx, hb, hml, hown, hu⟩ (t_Bytes_get l G σ 32 (v27 - (1 : Int32)) (by decide) r50 hC50) (cwV 1 hu (uw_V mw_781 mw_540 mw_541 mw_63 mw_542) rfl rfl rfl hd_Bytes_get ⟨Nat.le_of_ble_eq_true rfl, Nat.le_of_ble_eq_true rfl⟩) (x_preV hC hS hw (va_recv hK hw (q := (R_Bytes, T_Bytes, 2)) (ci := 0) rfl (x_at (by decide) (xcl_32 G σ)))) rfl rfl hl.1 rfl (lv_room (Nat.le_of_ble_eq_true rfl)) d_Fields_elementIsTag_50 ⟨Nat.le_of_ble_eq_true rfl, Nat.le_of_ble_eq_true rfl⟩) ?_
        refine lv_bipush (v := (34 : Int32)) hx hb d_Fields_elementIsTag_53 (by decide) ?_
        refine lv_icmp_ne (tgt := 95) hx hb d_Fields_elementIsTag_55 (by decide) (fun hc55 => ?_) (fun hc55 => ?_)
        · rw [if_neg hc55] at hE
          refine lv_iconst (v := (0 : Int32)) hx hb d_Fields_elementIsTag_95 (by decide) ?_
          exact W.zret (v := (0 : Int32)) hx hb hr rfl (fun t ht hW => ⟨by rw [Option.some.inj hE], ht⟩) (fun q h => by cases h) d_Fields_elementIsTag_96
        · rw [if_pos hc55] at hE
          refine lv_aload_n hx hb d_Fields_elementIsTag_58 rfl (lv_at hl 2 rfl) ?_
          refine va_get (D := G.1) (cl := xCl) (ci := 1) (v := .ref (G.2.1 32)) (C := R_Fields) (T := T_Fields) (N := 9) hx hb hu fi_Fields hown hK hw 31 (x_at (by decide) (xcl_31 G σ)) rfl 0 (by decide) (hu _ mw_173) (fun _ h9 => h9) rfl d_Fields_elementIsTag_59 ?_
          refine lv_iload_n hx hb d_Fields_elementIsTag_62 rfl (lv_at hl 1 rfl) ?_
          refine lv_iconst (v := (1 : Int32)) hx hb d_Fields_elementIsTag_63 (by decide) ?_
          refine lv_iadd hx hb d_Fields_elementIsTag_64 ?_
          obtain ⟨r65, hC65, hE⟩ := x_bind hE
          refine x_callR (W.runV (As := [.int (v20 + (1 : Int32))]) (rest := []) ⟨hx, hb, hml, hown, hu⟩ (t_Bytes_get l G σ 32 (v20 + (1 : Int32)) (by decide) r65 hC65) (cwV 1 hu (uw_V mw_781 mw_540 mw_541 mw_63 mw_542) rfl rfl rfl hd_Bytes_get ⟨Nat.le_of_ble_eq_true rfl, Nat.le_of_ble_eq_true rfl⟩) (x_preV hC hS hw (va_recv hK hw (q := (R_Bytes, T_Bytes, 2)) (ci := 0) rfl (x_at (by decide) (xcl_32 G σ)))) rfl rfl hl.1 rfl (lv_room (Nat.le_of_ble_eq_true rfl)) d_Fields_elementIsTag_65 ⟨Nat.le_of_ble_eq_true rfl, Nat.le_of_ble_eq_true rfl⟩) ?_
          refine lv_bipush (v := (48 : Int32)) hx hb d_Fields_elementIsTag_68 (by decide) ?_
          refine lv_icmp_eq (tgt := 95) hx hb d_Fields_elementIsTag_70 (by decide) (fun hc70 => ?_) (fun hc70 => ?_)
          · rw [if_pos hc70] at hE
            refine lv_iconst (v := (0 : Int32)) hx hb d_Fields_elementIsTag_95 (by decide) ?_
            exact W.zret (v := (0 : Int32)) hx hb hr rfl (fun t ht hW => ⟨by rw [Option.some.inj hE], ht⟩) (fun q h => by cases h) d_Fields_elementIsTag_96
          · rw [if_neg hc70] at hE
            refine lv_aload_n hx hb d_Fields_elementIsTag_73 rfl (lv_at hl 2 rfl) ?_
            refine va_get (D := G.1) (cl := xCl) (ci := 1) (v := .ref (G.2.1 32)) (C := R_Fields) (T := T_Fields) (N := 9) hx hb hu fi_Fields hown hK hw 31 (x_at (by decide) (xcl_31 G σ)) rfl 0 (by decide) (hu _ mw_173) (fun _ h9 => h9) rfl d_Fields_elementIsTag_74 ?_
            refine lv_iload_n hx hb d_Fields_elementIsTag_77 rfl (lv_at hl 1 rfl) ?_
            refine lv_iconst (v := (1 : Int32)) hx hb d_Fields_elementIsTag_78 (by decide) ?_
            refine lv_iadd hx hb d_Fields_elementIsTag_79 ?_
            refine lv_iload hx hb d_Fields_elementIsTag_80 (lv_at hl 0 rfl) ?_
            refine lv_iconst (v := (1 : Int32)) hx hb d_Fields_elementIsTag_82 (by decide) ?_
            refine lv_isub hx hb d_Fields_elementIsTag_83 ?_
            obtain ⟨r84, hC84, hE⟩ := x_bind hE
            refine x_callR (W.runS (As := [.ref (G.2.1 32), .int (v20 + (1 : Int32)), .int (v27 - (1 : Int32))]) (rest := []) ⟨hx, hb, hml, hown, hu⟩ (t_Text_number l G σ 32 (v20 + (1 : Int32)) (v27 - (1 : Int32)) (by decide) r84 hC84) (va_cwS 3 hu (uw_S mw_800 mw_801 mw_75 mw_802) rfl rfl rfl hd_Text_number ⟨Nat.le_of_ble_eq_true rfl, Nat.le_of_ble_eq_true rfl⟩) (x_preS hC hS hw) rfl rfl hl.1 rfl (lv_room (Nat.le_of_ble_eq_true rfl)) d_Fields_elementIsTag_84 ⟨Nat.le_of_ble_eq_true rfl, Nat.le_of_ble_eq_true rfl⟩) ?_
            refine lv_iload_n hx hb d_Fields_elementIsTag_87 rfl (lv_at hl 4 rfl) ?_
            refine lv_icmp_ne (tgt := 95) hx hb d_Fields_elementIsTag_88 (by decide) (fun hc88 => ?_) (fun hc88 => ?_)
            · rw [if_neg hc88] at hE
              refine lv_iconst (v := (0 : Int32)) hx hb d_Fields_elementIsTag_95 (by decide) ?_
              exact W.zret (v := (0 : Int32)) hx hb hr rfl (fun t ht hW => ⟨by rw [Option.some.inj hE], ht⟩) (fun q h => by cases h) d_Fields_elementIsTag_96
            · rw [if_pos hc88] at hE
              refine lv_iconst (v := (1 : Int32)) hx hb d_Fields_elementIsTag_91 (by decide) ?_
              refine lv_goto (tgt := 96) hx hb d_Fields_elementIsTag_92 (by decide) ?_
              exact W.zret (v := (1 : Int32)) hx hb hr rfl (fun t ht hW => ⟨by rw [Option.some.inj hE], ht⟩) (fun q h => by cases h) d_Fields_elementIsTag_96
    · rw [if_neg hc9] at hE
      refine lv_iconst (v := (0 : Int32)) hx hb d_Fields_elementIsTag_12 (by decide) ?_
      exact W.zret (v := (0 : Int32)) hx hb hr rfl (fun t ht hW => ⟨by rw [Option.some.inj hE], ht⟩) (fun q h => by cases h) d_Fields_elementIsTag_13

def y_Fields_hasElement : MethodName := ⟨"PlainOrigin$Fields", "hasElement", "(Ljava/lang/String;Ljava/lang/String;)Z"⟩
def ws_Fields_hasElement : List Cond := Cond.code y_Fields_hasElement prog_4_method_12_code 5 (some .boolean) :: UW
theorem hd_Fields_hasElement : y_Fields_hasElement.cls = R_Fields ∧ y_Fields_hasElement.cls ≠ "java/lang/invoke/MethodHandle" ∧ y_Fields_hasElement.cls ≠ "java/lang/invoke/VarHandle" ∧ (parseMethodDescriptor y_Fields_hasElement.desc).map (fun d => d.parameters.length) = some 2 := by decide +kernel
theorem d_Fields_hasElement_0 : decode prog_4_method_12_code 0 = .ok (.aload_n 0, 1) := by decide +kernel
theorem d_Fields_hasElement_1 : decode prog_4_method_12_code 1 = .ok (.aload_n 1, 1) := by decide +kernel
theorem d_Fields_hasElement_2 : decode prog_4_method_12_code 2 = .ok (.invokevirtual 91, 3) := by decide +kernel
theorem d_Fields_hasElement_5 : decode prog_4_method_12_code 5 = .ok (.istore_n 3, 1) := by decide +kernel
theorem d_Fields_hasElement_6 : decode prog_4_method_12_code 6 = .ok (.iconst 0, 1) := by decide +kernel
theorem d_Fields_hasElement_7 : decode prog_4_method_12_code 7 = .ok (.istore 4, 2) := by decide +kernel
theorem d_Fields_hasElement_9 : decode prog_4_method_12_code 9 = .ok (.iload 4, 2) := by decide +kernel
theorem d_Fields_hasElement_11 : decode prog_4_method_12_code 11 = .ok (.iload_n 3, 1) := by decide +kernel
theorem d_Fields_hasElement_12 : decode prog_4_method_12_code 12 = .ok (.if_icmp .ge (21), 3) := by decide +kernel
theorem d_Fields_hasElement_15 : decode prog_4_method_12_code 15 = .ok (.aload_n 0, 1) := by decide +kernel
theorem d_Fields_hasElement_16 : decode prog_4_method_12_code 16 = .ok (.iload 4, 2) := by decide +kernel
theorem d_Fields_hasElement_18 : decode prog_4_method_12_code 18 = .ok (.aload_n 2, 1) := by decide +kernel
theorem d_Fields_hasElement_19 : decode prog_4_method_12_code 19 = .ok (.invokevirtual 95, 3) := by decide +kernel
theorem d_Fields_hasElement_22 : decode prog_4_method_12_code 22 = .ok (.ifCond .eq (5), 3) := by decide +kernel
theorem d_Fields_hasElement_25 : decode prog_4_method_12_code 25 = .ok (.iconst 1, 1) := by decide +kernel
theorem d_Fields_hasElement_26 : decode prog_4_method_12_code 26 = .ok (.ireturn, 1) := by decide +kernel
theorem d_Fields_hasElement_27 : decode prog_4_method_12_code 27 = .ok (.iinc 4 (1), 3) := by decide +kernel
theorem d_Fields_hasElement_30 : decode prog_4_method_12_code 30 = .ok (.goto (-21), 3) := by decide +kernel
theorem d_Fields_hasElement_33 : decode prog_4_method_12_code 33 = .ok (.iconst 0, 1) := by decide +kernel
theorem d_Fields_hasElement_34 : decode prog_4_method_12_code 34 = .ok (.ireturn, 1) := by decide +kernel
def x_Fields_hasElement_9 (w1 : Nat) (w2 : Nat) : Nat → Int32 → Int32 → St → Option (Int32 × St)
  | 0, _, _, _ => none
  | n + 1, l3, l4, σ => (if l3 ≤ l4 then some ((0 : Int32), σ) else (Option.bind (x_Fields_elementIs l4 w2 σ) (fun r19 => (if r19 = 0 then (x_let (l4 + (1 : Int32)) (fun (v27 : Int32) => x_Fields_hasElement_9 w1 w2 n l3 v27 σ)) else some ((1 : Int32), σ)))))
def x_Fields_hasElement (w1 : Nat) (w2 : Nat) (σ : St) : Option (Int32 × St) := (x_bind2 (x_Fields_gather w1 σ) (fun r2 s2 => x_Fields_hasElement_9 w1 w2 x_fuel r2 (0 : Int32) s2))
abbrev rm_Fields_hasElement : Room := { frames := 6, cells := 0, slots := 0, locals := 131 }
set_option maxHeartbeats 4000000 in
set_option maxRecDepth 100000 in
theorem t_Fields_hasElement (l : Launch) (G : xG) (σ : St) (w1 : Nat) (w2 : Nat) (hw1 : w1 < nStr) (hw2 : w2 < nStr) (r : Int32) (σ' : St) (hE : x_Fields_hasElement w1 w2 σ = some (r, σ')) : Met l y_Fields_hasElement (ws_Fields_hasElement) rm_Fields_hasElement (xP G σ [.ref (G.2.1 31), .ref (G.2.2.2.1 w1), .ref (G.2.2.2.1 w2)]) (xQ G (some (.int r)) σ') 0 0 (xA G) := by
  refine Met.ofW (cc := prog_4_method_12_code) (maxL := 5) (ret := (some .boolean)) (by decide) rfl ?_
  intro p e s m args below meth c s₁ B hml hv
  obtain ⟨rfl, hw, hC⟩ := hv
  have hx := B.exec
  have hb := B.bytes
  have hr := B.returns
  have hu : ∀ w ∈ UW, w.before _ s = true := fun w h => atoms_spec B.pre w (List.mem_cons_of_mem _ h)
  have hown : s.vm.findClass R_Fields = some m.cls := findClass_of_methodNamed B.named
  have hlocks := B.notSynchronized
  have hK := hC.1
  have hI := hC.2.1
  have hG := hC.2.2.1
  have hN := hC.2.2.2
  have hS : va_S (xA G) s.heap s.heap [] := va_S.rf
  have jn9 : ∀ (n : Nat) (ls : Array Slot) (H : Heap) (locs : List Loc) (σ : St) (l3 : Int32) (l4 : Int32), x_Fields_hasElement_9 w1 w2 n l3 l4 σ = some (r, σ') → lv_has ls 5 [(0, .ref (G.2.1 31)), (1, .ref (G.2.2.2.1 w1)), (2, .ref (G.2.2.2.1 w2)), (3, .int l3), (4, .int l4)] → xw G σ H → va_S (xA G) s.heap H locs → W p l e (headSpec (ws_Fields_hasElement) rm_Fields_hasElement).room s m ([.ref (G.2.1 31), .ref (G.2.2.2.1 w1), .ref (G.2.2.2.1 w2)] : List Value).toArray below meth c H locs 0 0 (MQ below (xQ G (some (.int r)) σ') ([.ref (G.2.1 31), .ref (G.2.2.2.1 w1), .ref (G.2.2.2.1 w2)] : List Value).toArray s 0 0 (xA G)) (F0 m 9 ls []) := by
    intro n
    induction n with
    | zero => intro ls H locs σ l3 l4 hE; rw [x_Fields_hasElement_9] at hE; cases hE
    | succ n ih =>
      intro ls H locs σ l3 l4 hE hl hw hS
      rw [x_Fields_hasElement_9] at hE
      refine lv_iload hx hb d_Fields_hasElement_9 (lv_at hl 4 rfl) ?_
      refine lv_iload_n hx hb d_Fields_hasElement_11 rfl (lv_at hl 3 rfl) ?_
      refine lv_icmp_ge (tgt := 33) hx hb d_Fields_hasElement_12 (by decide) (fun hc12 => ?_) (fun hc12 => ?_)
      · rw [if_pos hc12] at hE
        refine lv_iconst (v := (0 : Int32)) hx hb d_Fields_hasElement_33 (by decide) ?_
        obtain ⟨e1, e2⟩ := x_pair hE
        exact W.zret (v := (0 : Int32)) hx hb hr rfl (fun t ht hW => ⟨by rw [e1], by rw [ht, ← e2]; exact hw, hS.F ht⟩) hS.2.2 d_Fields_hasElement_34
      · rw [if_neg hc12] at hE
        refine lv_aload_n hx hb d_Fields_hasElement_15 rfl (lv_at hl 0 rfl) ?_
        refine lv_iload hx hb d_Fields_hasElement_16 (lv_at hl 4 rfl) ?_
        refine lv_aload_n hx hb d_Fields_hasElement_18 rfl (lv_at hl 2 rfl) ?_
        obtain ⟨r19, hC19, hE⟩ := x_bind hE
        refine x_callR (W.runV (As := [.int l4, .ref (G.2.2.2.1 w2)]) (rest := []) ⟨hx, hb, hml, hown, hu⟩ (t_Fields_elementIs l G σ l4 w2 hw2 r19 hC19) (cwV 2 hu (uw_V mw_820 mw_789 mw_790 mw_66 mw_791) rfl rfl rfl hd_Fields_elementIs ⟨Nat.le_of_ble_eq_true rfl, Nat.le_of_ble_eq_true rfl⟩) (x_preV hC hS hw (va_recv hK hw (q := (R_Fields, T_Fields, 9)) (ci := 1) rfl (x_at (by decide) (xcl_31 G σ)))) rfl rfl hl.1 rfl (lv_room (Nat.le_of_ble_eq_true rfl)) d_Fields_hasElement_19 ⟨Nat.le_of_ble_eq_true rfl, Nat.le_of_ble_eq_true rfl⟩) ?_
        refine lv_if_eq (tgt := 27) hx hb d_Fields_hasElement_22 (by decide) (fun hc22 => ?_) (fun hc22 => ?_)
        · rw [if_pos hc22] at hE
          obtain ⟨v27, e27, hE⟩ := x_letE hE
          refine lv_iinc hx hb d_Fields_hasElement_27 hl (k := 4) rfl (x_inc v27 e27 (by decide)) (by decide) rfl (fun ls hl => ?_)
          have hl : lv_has ls 5 [(4, .int v27), (0, .ref (G.2.1 31)), (1, .ref (G.2.2.2.1 w1)), (2, .ref (G.2.2.2.1 w2)), (3, .int l3)] := hl
          refine lv_goto (tgt := 9) hx hb d_Fields_hasElement_30 (by decide) ?_
          exact ih _ _ _ _ _ _ hE (lv_sub hl [1, 2, 3, 4, 0] rfl) hw hS
        · rw [if_neg hc22] at hE
          refine lv_iconst (v := (1 : Int32)) hx hb d_Fields_hasElement_25 (by decide) ?_
          obtain ⟨e1, e2⟩ := x_pair hE
          exact W.zret (v := (1 : Int32)) hx hb hr rfl (fun t ht hW => ⟨by rw [e1], by rw [ht, ← e2]; exact hw, hS.F ht⟩) hS.2.2 d_Fields_hasElement_26
  have hl := lv_entry ([.ref (G.2.1 31), .ref (G.2.2.2.1 w1), .ref (G.2.2.2.1 w2)]) (n := 5) (Nat.le_of_ble_eq_true rfl)
  rw [lg_entry_eq]
  generalize (lg_sl ([.ref (G.2.1 31), .ref (G.2.2.2.1 w1), .ref (G.2.2.2.1 w2)]) ++ List.replicate (5 - (lg_sl ([.ref (G.2.1 31), .ref (G.2.2.2.1 w1), .ref (G.2.2.2.1 w2)])).length) Slot.unset).toArray = ls at hl ⊢
  have hl : lv_has ls 5 [(0, .ref (G.2.1 31)), (1, .ref (G.2.2.2.1 w1)), (2, .ref (G.2.2.2.1 w2))] := hl
  unfold x_Fields_hasElement at hE
  refine lv_aload_n hx hb d_Fields_hasElement_0 rfl (lv_at hl 0 rfl) ?_
  refine lv_aload_n hx hb d_Fields_hasElement_1 rfl (lv_at hl 1 rfl) ?_
  obtain ⟨r2, s2, hC2, hE⟩ := x_bind2E hE
  refine x_callS hS (W.runV (As := [.ref (G.2.2.2.1 w1)]) (rest := []) ⟨hx, hb, hml, hown, hu⟩ (t_Fields_gather l G σ w1 hw1 r2 s2 hC2) (cwV 1 hu (uw_V mw_819 mw_774 mw_775 mw_66 mw_776) rfl rfl rfl hd_Fields_gather ⟨Nat.le_of_ble_eq_true rfl, Nat.le_of_ble_eq_true rfl⟩) (x_preV hC hS hw (va_recv hK hw (q := (R_Fields, T_Fields, 9)) (ci := 1) rfl (x_at (by decide) (xcl_31 G σ)))) rfl rfl hl.1 rfl (lv_room (Nat.le_of_ble_eq_true rfl)) d_Fields_hasElement_2 ⟨Nat.le_of_ble_eq_true rfl, Nat.le_of_ble_eq_true rfl⟩) (fun H locs hw hS => ?_)
  refine lv_istore_n hx hb d_Fields_hasElement_5 rfl hl (by decide) rfl (fun ls hl => ?_)
  have hl : lv_has ls 5 [(3, .int r2), (0, .ref (G.2.1 31)), (1, .ref (G.2.2.2.1 w1)), (2, .ref (G.2.2.2.1 w2))] := hl
  refine lv_iconst (v := (0 : Int32)) hx hb d_Fields_hasElement_6 (by decide) ?_
  refine lv_istore hx hb d_Fields_hasElement_7 hl (by decide) rfl (fun ls hl => ?_)
  have hl : lv_has ls 5 [(4, .int (0 : Int32)), (3, .int r2), (0, .ref (G.2.1 31)), (1, .ref (G.2.2.2.1 w1)), (2, .ref (G.2.2.2.1 w2))] := hl
  exact jn9 x_fuel _ _ _ _ _ _ hE (lv_sub hl [2, 3, 4, 1, 0] rfl) hw hS
