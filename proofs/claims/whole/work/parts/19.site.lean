def y_Resource_isThere : MethodName := ⟨"PlainOrigin$Resource", "isThere", "()Z"⟩
def ws_Resource_isThere : List Cond := Cond.code y_Resource_isThere prog_10_method_2_code 1 (some .boolean) :: UW
theorem hd_Resource_isThere : y_Resource_isThere.cls = R_Resource ∧ y_Resource_isThere.cls ≠ "java/lang/invoke/MethodHandle" ∧ y_Resource_isThere.cls ≠ "java/lang/invoke/VarHandle" ∧ (parseMethodDescriptor y_Resource_isThere.desc).map (fun d => d.parameters.length) = some 0 := by decide +kernel
theorem d_Resource_isThere_0 : decode prog_10_method_2_code 0 = .ok (.aload_n 0, 1) := by decide +kernel
theorem d_Resource_isThere_1 : decode prog_10_method_2_code 1 = .ok (.getfield 20, 3) := by decide +kernel
theorem d_Resource_isThere_4 : decode prog_10_method_2_code 4 = .ok (.iconst (-1), 1) := by decide +kernel
theorem d_Resource_isThere_5 : decode prog_10_method_2_code 5 = .ok (.if_icmp .eq (7), 3) := by decide +kernel
theorem d_Resource_isThere_8 : decode prog_10_method_2_code 8 = .ok (.iconst 1, 1) := by decide +kernel
theorem d_Resource_isThere_9 : decode prog_10_method_2_code 9 = .ok (.goto (4), 3) := by decide +kernel
theorem d_Resource_isThere_12 : decode prog_10_method_2_code 12 = .ok (.iconst 0, 1) := by decide +kernel
theorem d_Resource_isThere_13 : decode prog_10_method_2_code 13 = .ok (.ireturn, 1) := by decide +kernel
def x_Resource_isThere (o0 : Nat) (σ : St) : Option Int32 := (if (σ.1 o0 1) = ((-1) : Int32) then some (0 : Int32) else some (1 : Int32))
abbrev rm_Resource_isThere : Room := { frames := 0, cells := 0, slots := 0, locals := 0 }
set_option maxHeartbeats 4000000 in
set_option maxRecDepth 100000 in
theorem t_Resource_isThere (l : Launch) (G : xG) (σ : St) (o0 : Nat) (ho0 : xS o0) (r : Int32) (hE : x_Resource_isThere o0 σ = some r) : Met l y_Resource_isThere (ws_Resource_isThere) rm_Resource_isThere (xP G σ [.ref (G.2.1 o0)]) (xRd (some (.int r))) 0 0 (fun _ => False) := by
  refine Met.ofW (cc := prog_10_method_2_code) (maxL := 1) (ret := (some .boolean)) (by decide) rfl ?_
  intro p e s m args below meth c s₁ B hml hv
  obtain ⟨rfl, hw, hC⟩ := hv
  have hx := B.exec
  have hb := B.bytes
  have hr := B.returns
  have hu : ∀ w ∈ UW, w.before _ s = true := fun w h => atoms_spec B.pre w (List.mem_cons_of_mem _ h)
  have hown : s.vm.findClass R_Resource = some m.cls := findClass_of_methodNamed B.named
  have hlocks := B.notSynchronized
  have hK := hC.1
  have hI := hC.2.1
  have hG := hC.2.2.1
  have hN := hC.2.2.2
  have hS : va_S (xA G) s.heap s.heap [] := va_S.rf
  have hl := lv_entry ([.ref (G.2.1 o0)]) (n := 1) (Nat.le_of_ble_eq_true rfl)
  rw [lg_entry_eq]
  generalize (lg_sl ([.ref (G.2.1 o0)]) ++ List.replicate (1 - (lg_sl ([.ref (G.2.1 o0)])).length) Slot.unset).toArray = ls at hl ⊢
  have hl : lv_has ls 1 [(0, .ref (G.2.1 o0))] := hl
  unfold x_Resource_isThere at hE
  refine lv_aload_n hx hb d_Resource_isThere_0 rfl (lv_at hl 0 rfl) ?_
  refine va_get (D := G.1) (cl := xCl) (ci := 4) (v := .int (σ.1 o0 1)) (C := R_Resource) (T := T_Resource) (N := 2) hx hb hu fi_Resource hown hK hw o0 (x_at (xS_lt ho0) (xcl_S G σ (xS_s ho0))) rfl 1 (by decide) (hu _ mw_132) (fun _ h9 => h9) rfl d_Resource_isThere_1 ?_
  refine lv_iconst (v := ((-1) : Int32)) hx hb d_Resource_isThere_4 (by decide) ?_
  refine lv_icmp_eq (tgt := 12) hx hb d_Resource_isThere_5 (by decide) (fun hc5 => ?_) (fun hc5 => ?_)
  · rw [if_pos hc5] at hE
    refine lv_iconst (v := (0 : Int32)) hx hb d_Resource_isThere_12 (by decide) ?_
    exact W.zret (v := (0 : Int32)) hx hb hr rfl (fun t ht hW => ⟨by rw [Option.some.inj hE], ht⟩) (fun q h => by cases h) d_Resource_isThere_13
  · rw [if_neg hc5] at hE
    refine lv_iconst (v := (1 : Int32)) hx hb d_Resource_isThere_8 (by decide) ?_
    refine lv_goto (tgt := 13) hx hb d_Resource_isThere_9 (by decide) ?_
    exact W.zret (v := (1 : Int32)) hx hb hr rfl (fun t ht hW => ⟨by rw [Option.some.inj hE], ht⟩) (fun q h => by cases h) d_Resource_isThere_13

def y_Site_find : MethodName := ⟨"PlainOrigin$Site", "find", "(LPlainOrigin$Bytes;)LPlainOrigin$Resource;"⟩
def ws_Site_find : List Cond := Cond.code y_Site_find prog_11_method_2_code 3 (some (.object "PlainOrigin$Resource")) :: UW
theorem hd_Site_find : y_Site_find.cls = R_Site ∧ y_Site_find.cls ≠ "java/lang/invoke/MethodHandle" ∧ y_Site_find.cls ≠ "java/lang/invoke/VarHandle" ∧ (parseMethodDescriptor y_Site_find.desc).map (fun d => d.parameters.length) = some 1 := by decide +kernel
theorem d_Site_find_0 : decode prog_11_method_2_code 0 = .ok (.aload_n 1, 1) := by decide +kernel
theorem d_Site_find_1 : decode prog_11_method_2_code 1 = .ok (.iconst 1, 1) := by decide +kernel
theorem d_Site_find_2 : decode prog_11_method_2_code 2 = .ok (.invokevirtual 18, 3) := by decide +kernel
theorem d_Site_find_5 : decode prog_11_method_2_code 5 = .ok (.bipush (97), 2) := by decide +kernel
theorem d_Site_find_7 : decode prog_11_method_2_code 7 = .ok (.isub, 1) := by decide +kernel
theorem d_Site_find_8 : decode prog_11_method_2_code 8 = .ok (.istore_n 2, 1) := by decide +kernel
theorem d_Site_find_9 : decode prog_11_method_2_code 9 = .ok (.aload_n 1, 1) := by decide +kernel
theorem d_Site_find_10 : decode prog_11_method_2_code 10 = .ok (.getfield 24, 3) := by decide +kernel
theorem d_Site_find_13 : decode prog_11_method_2_code 13 = .ok (.iconst 2, 1) := by decide +kernel
theorem d_Site_find_14 : decode prog_11_method_2_code 14 = .ok (.if_icmp .ne (22), 3) := by decide +kernel
theorem d_Site_find_17 : decode prog_11_method_2_code 17 = .ok (.iload_n 2, 1) := by decide +kernel
theorem d_Site_find_18 : decode prog_11_method_2_code 18 = .ok (.ifCond .lt (18), 3) := by decide +kernel
theorem d_Site_find_21 : decode prog_11_method_2_code 21 = .ok (.iload_n 2, 1) := by decide +kernel
theorem d_Site_find_22 : decode prog_11_method_2_code 22 = .ok (.bipush (8), 2) := by decide +kernel
theorem d_Site_find_24 : decode prog_11_method_2_code 24 = .ok (.if_icmp .ge (12), 3) := by decide +kernel
theorem d_Site_find_27 : decode prog_11_method_2_code 27 = .ok (.aload_n 0, 1) := by decide +kernel
theorem d_Site_find_28 : decode prog_11_method_2_code 28 = .ok (.getfield 11, 3) := by decide +kernel
theorem d_Site_find_31 : decode prog_11_method_2_code 31 = .ok (.iload_n 2, 1) := by decide +kernel
theorem d_Site_find_32 : decode prog_11_method_2_code 32 = .ok (.aaload, 1) := by decide +kernel
theorem d_Site_find_33 : decode prog_11_method_2_code 33 = .ok (.goto (4), 3) := by decide +kernel
theorem d_Site_find_36 : decode prog_11_method_2_code 36 = .ok (.aconst_null, 1) := by decide +kernel
theorem d_Site_find_37 : decode prog_11_method_2_code 37 = .ok (.areturn, 1) := by decide +kernel
def x_Site_find (o1 : Nat) (σ : St) : Option (Option Nat) := (Option.bind (x_Bytes_get o1 (1 : Int32) σ) (fun r2 => (x_let (r2 - (97 : Int32)) (fun (v8 : Int32) => (if (σ.1 o1 1) = (2 : Int32) then (if v8 < 0 then some none else (if (8 : Int32) ≤ v8 then some none else (if x_in v8 8 then some (some (3 + 3 * v8.toNatClampNeg)) else none))) else some none)))))
abbrev rm_Site_find : Room := { frames := 1, cells := 0, slots := 0, locals := 21 }
set_option maxHeartbeats 4000000 in
set_option maxRecDepth 100000 in
theorem t_Site_find (l : Launch) (G : xG) (σ : St) (o1 : Nat) (ho1 : xB o1) (r : (Option Nat)) (hE : x_Site_find o1 σ = some r) : Met l y_Site_find (ws_Site_find) rm_Site_find (xP G σ [.ref (G.2.1 1), .ref (G.2.1 o1)]) (xRd (some (va_rf (Option.map G.2.1 r)))) 0 0 (fun _ => False) := by
  refine Met.ofW (cc := prog_11_method_2_code) (maxL := 3) (ret := (some (.object "PlainOrigin$Resource"))) (by decide) rfl ?_
  intro p e s m args below meth c s₁ B hml hv
  obtain ⟨rfl, hw, hC⟩ := hv
  have hx := B.exec
  have hb := B.bytes
  have hr := B.returns
  have hu : ∀ w ∈ UW, w.before _ s = true := fun w h => atoms_spec B.pre w (List.mem_cons_of_mem _ h)
  have hown : s.vm.findClass R_Site = some m.cls := findClass_of_methodNamed B.named
  have hlocks := B.notSynchronized
  have hK := hC.1
  have hI := hC.2.1
  have hG := hC.2.2.1
  have hN := hC.2.2.2
  have hS : va_S (xA G) s.heap s.heap [] := va_S.rf
  have hl := lv_entry ([.ref (G.2.1 1), .ref (G.2.1 o1)]) (n := 3) (Nat.le_of_ble_eq_true rfl)
  rw [lg_entry_eq]
  generalize (lg_sl ([.ref (G.2.1 1), .ref (G.2.1 o1)]) ++ List.replicate (3 - (lg_sl ([.ref (G.2.1 1), .ref (G.2.1 o1)])).length) Slot.unset).toArray = ls at hl ⊢
  have hl : lv_has ls 3 [(0, .ref (G.2.1 1)), (1, .ref (G.2.1 o1))] := hl
  unfold x_Site_find at hE
  refine lv_aload_n hx hb d_Site_find_0 rfl (lv_at hl 1 rfl) ?_
  refine lv_iconst (v := (1 : Int32)) hx hb d_Site_find_1 (by decide) ?_
  obtain ⟨r2, hC2, hE⟩ := x_bind hE
  refine x_callR (W.runV (As := [.int (1 : Int32)]) (rest := []) ⟨hx, hb, hml, hown, hu⟩ (t_Bytes_get l G σ o1 (1 : Int32) ho1 r2 hC2) (cwV 1 hu (uw_V mw_841 mw_540 mw_541 mw_63 mw_542) rfl rfl rfl hd_Bytes_get ⟨Nat.le_of_ble_eq_true rfl, Nat.le_of_ble_eq_true rfl⟩) (x_preV hC hS hw (va_recv hK hw (q := (R_Bytes, T_Bytes, 2)) (ci := 0) rfl (x_at (xB_lt ho1) (xcl_B G σ (xB_s ho1))))) rfl rfl hl.1 rfl (lv_room (Nat.le_of_ble_eq_true rfl)) d_Site_find_2 ⟨Nat.le_of_ble_eq_true rfl, Nat.le_of_ble_eq_true rfl⟩) ?_
  refine lv_bipush (v := (97 : Int32)) hx hb d_Site_find_5 (by decide) ?_
  refine lv_isub hx hb d_Site_find_7 ?_
  refine lv_topi (fun v8 e8 => ?_)
  replace hE := x_letT e8 hE
  refine lv_istore_n hx hb d_Site_find_8 rfl hl (by decide) rfl (fun ls hl => ?_)
  have hl : lv_has ls 3 [(2, .int v8), (0, .ref (G.2.1 1)), (1, .ref (G.2.1 o1))] := hl
  refine lv_aload_n hx hb d_Site_find_9 rfl (lv_at hl 2 rfl) ?_
  refine va_getN (D := G.1) (cl := xCl) (ci := 0) (v := .int (σ.1 o1 1)) (C := R_Bytes) (T := T_Bytes) (N := 2) hx hb hu fi_Bytes hown hK hw o1 (x_at (xB_lt ho1) (xcl_B G σ (xB_s ho1))) rfl 1 (by decide) (nl_0 hG) (fun _ h9 => h9) rfl d_Site_find_10 ?_
  refine lv_iconst (v := (2 : Int32)) hx hb d_Site_find_13 (by decide) ?_
  refine lv_icmp_ne (tgt := 36) hx hb d_Site_find_14 (by decide) (fun hc14 => ?_) (fun hc14 => ?_)
  · rw [if_neg hc14] at hE
    refine lv_null hx hb d_Site_find_36 ?_
    exact W.aret (v := va_rf (Option.map G.2.1 none)) hx hb hr (Or.inl ⟨_, rfl⟩) (va_rf_or _) (fun t ht hW => ⟨by rw [Option.some.inj hE], ht⟩) (fun q h => by cases h) d_Site_find_37
  · rw [if_pos hc14] at hE
    refine lv_iload_n hx hb d_Site_find_17 rfl (lv_at hl 0 rfl) ?_
    refine lv_if_lt (tgt := 36) hx hb d_Site_find_18 (by decide) (fun hc18 => ?_) (fun hc18 => ?_)
    · rw [if_pos hc18] at hE
      refine lv_null hx hb d_Site_find_36 ?_
      exact W.aret (v := va_rf (Option.map G.2.1 none)) hx hb hr (Or.inl ⟨_, rfl⟩) (va_rf_or _) (fun t ht hW => ⟨by rw [Option.some.inj hE], ht⟩) (fun q h => by cases h) d_Site_find_37
    · rw [if_neg hc18] at hE
      refine lv_iload_n hx hb d_Site_find_21 rfl (lv_at hl 0 rfl) ?_
      refine lv_bipush (v := (8 : Int32)) hx hb d_Site_find_22 (by decide) ?_
      refine lv_icmp_ge (tgt := 36) hx hb d_Site_find_24 (by decide) (fun hc24 => ?_) (fun hc24 => ?_)
      · rw [if_pos hc24] at hE
        refine lv_null hx hb d_Site_find_36 ?_
        exact W.aret (v := va_rf (Option.map G.2.1 none)) hx hb hr (Or.inl ⟨_, rfl⟩) (va_rf_or _) (fun t ht hW => ⟨by rw [Option.some.inj hE], ht⟩) (fun q h => by cases h) d_Site_find_37
      · rw [if_neg hc24] at hE
        refine lv_aload_n hx hb d_Site_find_27 rfl (lv_at hl 1 rfl) ?_
        refine va_get (D := G.1) (cl := xCl) (ci := 5) (v := .ref (G.2.1 2)) (C := R_Site) (T := T_Site) (N := 2) hx hb hu fi_Site hown hK hw 1 (x_at (by decide) (xcl_1 G σ)) rfl 0 (by decide) (hu _ mw_141) (fun _ h9 => h9) rfl d_Site_find_28 ?_
        refine lv_iload_n hx hb d_Site_find_31 rfl (lv_at hl 0 rfl) ?_
        obtain ⟨g32, hE⟩ := x_guard hE
        refine va_aldq hx hb hK hw 2 3 (x_at (by decide) (xcl_2 G _)) rfl g32 d_Site_find_32 ?_
        refine lv_goto (tgt := 37) hx hb d_Site_find_33 (by decide) ?_
        exact W.aret (v := va_rf (Option.map G.2.1 (some (3 + 3 * v8.toNatClampNeg)))) hx hb hr (Or.inl ⟨_, rfl⟩) (va_rf_or _) (fun t ht hW => ⟨by rw [Option.some.inj hE], ht⟩) (fun q h => by cases h) d_Site_find_37

def y_Site_replace : MethodName := ⟨"PlainOrigin$Site", "replace", "(LPlainOrigin$Resource;LPlainOrigin$Request;)I"⟩
def ws_Site_replace : List Cond := Cond.code y_Site_replace prog_11_method_3_code 4 (some .int) :: UW
theorem hd_Site_replace : y_Site_replace.cls = R_Site ∧ y_Site_replace.cls ≠ "java/lang/invoke/MethodHandle" ∧ y_Site_replace.cls ≠ "java/lang/invoke/VarHandle" ∧ (parseMethodDescriptor y_Site_replace.desc).map (fun d => d.parameters.length) = some 2 := by decide +kernel
theorem d_Site_replace_0 : decode prog_11_method_3_code 0 = .ok (.aload_n 1, 1) := by decide +kernel
theorem d_Site_replace_1 : decode prog_11_method_3_code 1 = .ok (.invokevirtual 28, 3) := by decide +kernel
theorem d_Site_replace_4 : decode prog_11_method_3_code 4 = .ok (.istore_n 3, 1) := by decide +kernel
theorem d_Site_replace_5 : decode prog_11_method_3_code 5 = .ok (.iload_n 3, 1) := by decide +kernel
theorem d_Site_replace_6 : decode prog_11_method_3_code 6 = .ok (.ifCond .eq (21), 3) := by decide +kernel
theorem d_Site_replace_9 : decode prog_11_method_3_code 9 = .ok (.aload_n 2, 1) := by decide +kernel
theorem d_Site_replace_10 : decode prog_11_method_3_code 10 = .ok (.getfield 32, 3) := by decide +kernel
theorem d_Site_replace_13 : decode prog_11_method_3_code 13 = .ok (.ldc 38, 2) := by decide +kernel
theorem d_Site_replace_15 : decode prog_11_method_3_code 15 = .ok (.ldc 40, 2) := by decide +kernel
theorem d_Site_replace_17 : decode prog_11_method_3_code 17 = .ok (.invokevirtual 42, 3) := by decide +kernel
theorem d_Site_replace_20 : decode prog_11_method_3_code 20 = .ok (.ifCond .eq (7), 3) := by decide +kernel
theorem d_Site_replace_23 : decode prog_11_method_3_code 23 = .ok (.sipush (412), 3) := by decide +kernel
theorem d_Site_replace_26 : decode prog_11_method_3_code 26 = .ok (.ireturn, 1) := by decide +kernel
theorem d_Site_replace_27 : decode prog_11_method_3_code 27 = .ok (.aload_n 1, 1) := by decide +kernel
theorem d_Site_replace_28 : decode prog_11_method_3_code 28 = .ok (.getfield 48, 3) := by decide +kernel
theorem d_Site_replace_31 : decode prog_11_method_3_code 31 = .ok (.invokevirtual 52, 3) := by decide +kernel
theorem d_Site_replace_34 : decode prog_11_method_3_code 34 = .ok (.aload_n 1, 1) := by decide +kernel
theorem d_Site_replace_35 : decode prog_11_method_3_code 35 = .ok (.getfield 48, 3) := by decide +kernel
theorem d_Site_replace_38 : decode prog_11_method_3_code 38 = .ok (.aload_n 2, 1) := by decide +kernel
theorem d_Site_replace_39 : decode prog_11_method_3_code 39 = .ok (.getfield 55, 3) := by decide +kernel
theorem d_Site_replace_42 : decode prog_11_method_3_code 42 = .ok (.invokevirtual 58, 3) := by decide +kernel
theorem d_Site_replace_45 : decode prog_11_method_3_code 45 = .ok (.aload_n 0, 1) := by decide +kernel
theorem d_Site_replace_46 : decode prog_11_method_3_code 46 = .ok (.dup, 1) := by decide +kernel
theorem d_Site_replace_47 : decode prog_11_method_3_code 47 = .ok (.getfield 62, 3) := by decide +kernel
theorem d_Site_replace_50 : decode prog_11_method_3_code 50 = .ok (.iconst 1, 1) := by decide +kernel
theorem d_Site_replace_51 : decode prog_11_method_3_code 51 = .ok (.iadd, 1) := by decide +kernel
theorem d_Site_replace_52 : decode prog_11_method_3_code 52 = .ok (.putfield 62, 3) := by decide +kernel
theorem d_Site_replace_55 : decode prog_11_method_3_code 55 = .ok (.aload_n 1, 1) := by decide +kernel
theorem d_Site_replace_56 : decode prog_11_method_3_code 56 = .ok (.aload_n 0, 1) := by decide +kernel
theorem d_Site_replace_57 : decode prog_11_method_3_code 57 = .ok (.getfield 62, 3) := by decide +kernel
theorem d_Site_replace_60 : decode prog_11_method_3_code 60 = .ok (.putfield 65, 3) := by decide +kernel
theorem d_Site_replace_63 : decode prog_11_method_3_code 63 = .ok (.iload_n 3, 1) := by decide +kernel
theorem d_Site_replace_64 : decode prog_11_method_3_code 64 = .ok (.ifCond .eq (9), 3) := by decide +kernel
theorem d_Site_replace_67 : decode prog_11_method_3_code 67 = .ok (.sipush (204), 3) := by decide +kernel
theorem d_Site_replace_70 : decode prog_11_method_3_code 70 = .ok (.goto (6), 3) := by decide +kernel
theorem d_Site_replace_73 : decode prog_11_method_3_code 73 = .ok (.sipush (201), 3) := by decide +kernel
theorem d_Site_replace_76 : decode prog_11_method_3_code 76 = .ok (.ireturn, 1) := by decide +kernel
def x_Site_replace_27 (o1 : Nat) (l3 : Int32) (σ : St) : Option (Int32 × St) := (Option.bind (x_Bytes_clear (o1 + 1) σ) (fun s31 => (Option.bind (x_Bytes_addAll (o1 + 1) 42 s31) (fun s42 => (x_let (x_updR s42 1 1 ((s42.1 1 1) + (1 : Int32))) (fun (s52 : St) => (x_let (x_updR s52 o1 1 (s52.1 1 1)) (fun (s60 : St) => (if l3 = 0 then some ((201 : Int32), s60) else some ((204 : Int32), s60))))))))))
def x_Site_replace (o1 : Nat) (σ : St) : Option (Int32 × St) := (Option.bind (x_Resource_isThere o1 σ) (fun r1 => (if r1 = 0 then x_Site_replace_27 o1 r1 σ else (x_bind2 (x_Fields_hasElement 19 20 σ) (fun r17 s17 => (if r17 = 0 then x_Site_replace_27 o1 r1 s17 else some ((412 : Int32), s17)))))))
abbrev rm_Site_replace : Room := { frames := 7, cells := 0, slots := 0, locals := 155 }
set_option maxHeartbeats 4000000 in
set_option maxRecDepth 100000 in
theorem t_Site_replace (l : Launch) (G : xG) (σ : St) (o1 : Nat) (ho1 : xS o1) (r : Int32) (σ' : St) (hE : x_Site_replace o1 σ = some (r, σ')) : Met l y_Site_replace (ws_Site_replace) rm_Site_replace (xP G σ [.ref (G.2.1 1), .ref (G.2.1 o1), .ref (G.2.1 30)]) (xQ G (some (.int r)) σ') 0 0 (xA G) := by
  refine Met.ofW (cc := prog_11_method_3_code) (maxL := 4) (ret := (some .int)) (by decide) rfl ?_
  intro p e s m args below meth c s₁ B hml hv
  obtain ⟨rfl, hw, hC⟩ := hv
  have hx := B.exec
  have hb := B.bytes
  have hr := B.returns
  have hu : ∀ w ∈ UW, w.before _ s = true := fun w h => atoms_spec B.pre w (List.mem_cons_of_mem _ h)
  have hown : s.vm.findClass R_Site = some m.cls := findClass_of_methodNamed B.named
  have hlocks := B.notSynchronized
  have hK := hC.1
  have hI := hC.2.1
  have hG := hC.2.2.1
  have hN := hC.2.2.2
  have hS : va_S (xA G) s.heap s.heap [] := va_S.rf
  have jn27 : ∀ (ls : Array Slot) (H : Heap) (locs : List Loc) (σ : St) (l3 : Int32), x_Site_replace_27 o1 l3 σ = some (r, σ') → lv_has ls 4 [(0, .ref (G.2.1 1)), (1, .ref (G.2.1 o1)), (2, .ref (G.2.1 30)), (3, .int l3)] → xw G σ H → va_S (xA G) s.heap H locs → W p l e (headSpec (ws_Site_replace) rm_Site_replace).room s m ([.ref (G.2.1 1), .ref (G.2.1 o1), .ref (G.2.1 30)] : List Value).toArray below meth c H locs 0 0 (MQ below (xQ G (some (.int r)) σ') ([.ref (G.2.1 1), .ref (G.2.1 o1), .ref (G.2.1 30)] : List Value).toArray s 0 0 (xA G)) (F0 m 27 ls []) := by
    intro ls H locs σ l3 hE hl hw hS
    unfold x_Site_replace_27 at hE
    refine lv_aload_n hx hb d_Site_replace_27 rfl (lv_at hl 1 rfl) ?_
    refine va_getN (D := G.1) (cl := xCl) (ci := 4) (v := .ref (G.2.1 (o1 + 1))) (C := R_Resource) (T := T_Resource) (N := 2) hx hb hu fi_Resource hown hK hw o1 (x_at (xS_lt ho1) (xcl_S G σ (xS_s ho1))) rfl 0 (by decide) (nl_7 hG) (fun _ h9 => h9) rfl d_Site_replace_28 ?_
    obtain ⟨s31, hC31, hE⟩ := x_bind hE
    refine x_callV hS (W.runV (As := []) (rest := []) ⟨hx, hb, hml, hown, hu⟩ (t_Bytes_clear l G σ (o1 + 1) (xS_b ho1) s31 hC31) (cwV 0 hu (uw_V mw_899 mw_386 mw_387 mw_63 mw_388) rfl rfl rfl hd_Bytes_clear ⟨Nat.le_of_ble_eq_true rfl, Nat.le_of_ble_eq_true rfl⟩) (x_preV hC hS hw (va_recv hK hw (q := (R_Bytes, T_Bytes, 2)) (ci := 0) rfl (x_at (xB_lt (xS_b ho1)) (xcl_B G σ (xB_s (xS_b ho1)))))) rfl rfl hl.1 rfl (lv_room (Nat.le_of_ble_eq_true rfl)) d_Site_replace_31 ⟨Nat.le_of_ble_eq_true rfl, Nat.le_of_ble_eq_true rfl⟩) (fun H locs hw hS => ?_)
    refine lv_aload_n hx hb d_Site_replace_34 rfl (lv_at hl 1 rfl) ?_
    refine va_getN (D := G.1) (cl := xCl) (ci := 4) (v := .ref (G.2.1 (o1 + 1))) (C := R_Resource) (T := T_Resource) (N := 2) hx hb hu fi_Resource hown hK hw o1 (x_at (xS_lt ho1) (xcl_S G s31 (xS_s ho1))) rfl 0 (by decide) (nl_7 hG) (fun _ h9 => h9) rfl d_Site_replace_35 ?_
    refine lv_aload_n hx hb d_Site_replace_38 rfl (lv_at hl 2 rfl) ?_
    refine va_getN (D := G.1) (cl := xCl) (ci := 2) (v := .ref (G.2.1 42)) (C := R_Request) (T := T_Request) (N := 9) hx hb hu fi_Request hown hK hw 30 (x_at (by decide) (xcl_30 G s31)) rfl 2 (by decide) (nl_26 hG) (fun _ h9 => h9) rfl d_Site_replace_39 ?_
    obtain ⟨s42, hC42, hE⟩ := x_bind hE
    refine x_callV hS (W.runV (As := [.ref (G.2.1 42)]) (rest := []) ⟨hx, hb, hml, hown, hu⟩ (t_Bytes_addAll l G s31 (o1 + 1) 42 (xS_b ho1) (by decide) s42 hC42) (cwV 1 hu (uw_V mw_900 mw_710 mw_711 mw_63 mw_712) rfl rfl rfl hd_Bytes_addAll ⟨Nat.le_of_ble_eq_true rfl, Nat.le_of_ble_eq_true rfl⟩) (x_preV hC hS hw (va_recv hK hw (q := (R_Bytes, T_Bytes, 2)) (ci := 0) rfl (x_at (xB_lt (xS_b ho1)) (xcl_B G s31 (xB_s (xS_b ho1)))))) rfl rfl hl.1 rfl (lv_room (Nat.le_of_ble_eq_true rfl)) d_Site_replace_42 ⟨Nat.le_of_ble_eq_true rfl, Nat.le_of_ble_eq_true rfl⟩) (fun H locs hw hS => ?_)
    refine lv_aload_n hx hb d_Site_replace_45 rfl (lv_at hl 0 rfl) ?_
    refine lv_dup hx hb d_Site_replace_46 rfl ?_
    refine va_get (D := G.1) (cl := xCl) (ci := 5) (v := .int (s42.1 1 1)) (C := R_Site) (T := T_Site) (N := 2) hx hb hu fi_Site hown hK hw 1 (x_at (by decide) (xcl_1 G s42)) rfl 1 (by decide) (hu _ mw_144) (fun _ h9 => h9) rfl d_Site_replace_47 ?_
    refine lv_iconst (v := (1 : Int32)) hx hb d_Site_replace_50 (by decide) ?_
    refine lv_iadd hx hb d_Site_replace_51 ?_
    refine va_put (D := G.1) (cl := xCl) (ci := 5) (v := .int ((s42.1 1 1) + (1 : Int32))) (ty := .int) (C := R_Site) (T := T_Site) (N := 2) hx hb hu fi_Site ty_Site tyok_Site nm_Site hown hK hw (x_D hI _) hS 1 (x_at (by decide) (xcl_1 G s42)) rfl 1 (by decide) (hu _ mw_144) (fun _ h9 => h9) rfl (tyok_Site 1 (by decide)) rfl rfl (Nat.le_of_ble_eq_true rfl) d_Site_replace_52 (fun H locs hw _ hS => ?_)
    replace hw := x_setR hw (by decide) rfl
    obtain ⟨s52, e52, hE⟩ := x_letE hE
    rw [← e52] at hw
    refine lv_aload_n hx hb d_Site_replace_55 rfl (lv_at hl 1 rfl) ?_
    refine lv_aload_n hx hb d_Site_replace_56 rfl (lv_at hl 0 rfl) ?_
    refine va_get (D := G.1) (cl := xCl) (ci := 5) (v := .int (s52.1 1 1)) (C := R_Site) (T := T_Site) (N := 2) hx hb hu fi_Site hown hK hw 1 (x_at (by decide) (xcl_1 G s52)) rfl 1 (by decide) (hu _ mw_144) (fun _ h9 => h9) rfl d_Site_replace_57 ?_
    refine va_putN (D := G.1) (cl := xCl) (ci := 4) (v := .int (s52.1 1 1)) (ty := .int) (C := R_Resource) (T := T_Resource) (N := 2) hx hb hu fi_Resource ty_Resource tyok_Resource nm_Resource hown hK hw (x_D hI _) hS o1 (x_at (xS_lt ho1) (xcl_S G s52 (xS_s ho1))) rfl 1 (by decide) (nl_10 hG) (fun _ h9 => h9) rfl (tyok_Resource 1 (by decide)) rfl rfl (Nat.le_of_ble_eq_true rfl) d_Site_replace_60 (fun H locs hw _ hS => ?_)
    replace hw := x_setR hw (xS_lt ho1) (x_putS (xS_s ho1))
    obtain ⟨s60, e60, hE⟩ := x_letE hE
    rw [← e60] at hw
    refine lv_iload_n hx hb d_Site_replace_63 rfl (lv_at hl 3 rfl) ?_
    refine lv_if_eq (tgt := 73) hx hb d_Site_replace_64 (by decide) (fun hc64 => ?_) (fun hc64 => ?_)
    · rw [if_pos hc64] at hE
      refine lv_sipush (v := (201 : Int32)) hx hb d_Site_replace_73 (by decide) ?_
      obtain ⟨e1, e2⟩ := x_pair hE
      exact W.iret (v := (201 : Int32)) hx hb hr (fun t ht hW => ⟨by rw [e1], by rw [ht, ← e2]; exact hw, hS.F ht⟩) hS.2.2 d_Site_replace_76
    · rw [if_neg hc64] at hE
      refine lv_sipush (v := (204 : Int32)) hx hb d_Site_replace_67 (by decide) ?_
      refine lv_goto (tgt := 76) hx hb d_Site_replace_70 (by decide) ?_
      obtain ⟨e1, e2⟩ := x_pair hE
      exact W.iret (v := (204 : Int32)) hx hb hr (fun t ht hW => ⟨by rw [e1], by rw [ht, ← e2]; exact hw, hS.F ht⟩) hS.2.2 d_Site_replace_76
  have hl := lv_entry ([.ref (G.2.1 1), .ref (G.2.1 o1), .ref (G.2.1 30)]) (n := 4) (Nat.le_of_ble_eq_true rfl)
  rw [lg_entry_eq]
  generalize (lg_sl ([.ref (G.2.1 1), .ref (G.2.1 o1), .ref (G.2.1 30)]) ++ List.replicate (4 - (lg_sl ([.ref (G.2.1 1), .ref (G.2.1 o1), .ref (G.2.1 30)])).length) Slot.unset).toArray = ls at hl ⊢
  have hl : lv_has ls 4 [(0, .ref (G.2.1 1)), (1, .ref (G.2.1 o1)), (2, .ref (G.2.1 30))] := hl
  unfold x_Site_replace at hE
  refine lv_aload_n hx hb d_Site_replace_0 rfl (lv_at hl 1 rfl) ?_
  obtain ⟨r1, hC1, hE⟩ := x_bind hE
  refine x_callR (W.runV (As := []) (rest := []) ⟨hx, hb, hml, hown, hu⟩ (t_Resource_isThere l G σ o1 ho1 r1 hC1) (cwV 0 hu (uw_V mw_895 mw_848 mw_849 mw_62 mw_850) rfl rfl rfl hd_Resource_isThere ⟨Nat.le_of_ble_eq_true rfl, Nat.le_of_ble_eq_true rfl⟩) (x_preV hC hS hw (va_recv hK hw (q := (R_Resource, T_Resource, 2)) (ci := 4) rfl (x_at (xS_lt ho1) (xcl_S G σ (xS_s ho1))))) rfl rfl hl.1 rfl (lv_room (Nat.le_of_ble_eq_true rfl)) d_Site_replace_1 ⟨Nat.le_of_ble_eq_true rfl, Nat.le_of_ble_eq_true rfl⟩) ?_
  refine lv_istore_n hx hb d_Site_replace_4 rfl hl (by decide) rfl (fun ls hl => ?_)
  have hl : lv_has ls 4 [(3, .int r1), (0, .ref (G.2.1 1)), (1, .ref (G.2.1 o1)), (2, .ref (G.2.1 30))] := hl
  refine lv_iload_n hx hb d_Site_replace_5 rfl (lv_at hl 0 rfl) ?_
  refine lv_if_eq (tgt := 27) hx hb d_Site_replace_6 (by decide) (fun hc6 => ?_) (fun hc6 => ?_)
  · rw [if_pos hc6] at hE
    exact jn27 _ _ _ _ _ hE (lv_sub hl [1, 2, 3, 0] rfl) hw hS
  · rw [if_neg hc6] at hE
    refine lv_aload_n hx hb d_Site_replace_9 rfl (lv_at hl 3 rfl) ?_
    refine va_getN (D := G.1) (cl := xCl) (ci := 2) (v := .ref (G.2.1 31)) (C := R_Request) (T := T_Request) (N := 9) hx hb hu fi_Request hown hK hw 30 (x_at (by decide) (xcl_30 G σ)) rfl 0 (by decide) (nl_22 hG) (fun _ h9 => h9) rfl d_Site_replace_10 ?_
    refine va_ldcS hx hb hown (str_19 hN) d_Site_replace_13 ?_
    refine va_ldcS hx hb hown (str_20 hN) d_Site_replace_15 ?_
    obtain ⟨r17, s17, hC17, hE⟩ := x_bind2E hE
    refine x_callS hS (W.runV (As := [.ref (G.2.2.2.1 19), .ref (G.2.2.2.1 20)]) (rest := []) ⟨hx, hb, hml, hown, hu⟩ (t_Fields_hasElement l G σ 19 20 (by decide) (by decide) r17 s17 hC17) (cwV 2 hu (uw_V mw_898 mw_816 mw_817 mw_66 mw_818) rfl rfl rfl hd_Fields_hasElement ⟨Nat.le_of_ble_eq_true rfl, Nat.le_of_ble_eq_true rfl⟩) (x_preV hC hS hw (va_recv hK hw (q := (R_Fields, T_Fields, 9)) (ci := 1) rfl (x_at (by decide) (xcl_31 G σ)))) rfl rfl hl.1 rfl (lv_room (Nat.le_of_ble_eq_true rfl)) d_Site_replace_17 ⟨Nat.le_of_ble_eq_true rfl, Nat.le_of_ble_eq_true rfl⟩) (fun H locs hw hS => ?_)
    refine lv_if_eq (tgt := 27) hx hb d_Site_replace_20 (by decide) (fun hc20 => ?_) (fun hc20 => ?_)
    · rw [if_pos hc20] at hE
      exact jn27 _ _ _ _ _ hE (lv_sub hl [1, 2, 3, 0] rfl) hw hS
    · rw [if_neg hc20] at hE
      refine lv_sipush (v := (412 : Int32)) hx hb d_Site_replace_23 (by decide) ?_
      obtain ⟨e1, e2⟩ := x_pair hE
      exact W.iret (v := (412 : Int32)) hx hb hr (fun t ht hW => ⟨by rw [e1], by rw [ht, ← e2]; exact hw, hS.F ht⟩) hS.2.2 d_Site_replace_26

def y_Site_extend : MethodName := ⟨"PlainOrigin$Site", "extend", "(LPlainOrigin$Resource;LPlainOrigin$Request;)I"⟩
def ws_Site_extend : List Cond := Cond.code y_Site_extend prog_11_method_4_code 3 (some .int) :: UW
theorem hd_Site_extend : y_Site_extend.cls = R_Site ∧ y_Site_extend.cls ≠ "java/lang/invoke/MethodHandle" ∧ y_Site_extend.cls ≠ "java/lang/invoke/VarHandle" ∧ (parseMethodDescriptor y_Site_extend.desc).map (fun d => d.parameters.length) = some 2 := by decide +kernel
theorem d_Site_extend_0 : decode prog_11_method_4_code 0 = .ok (.aload_n 1, 1) := by decide +kernel
theorem d_Site_extend_1 : decode prog_11_method_4_code 1 = .ok (.invokevirtual 28, 3) := by decide +kernel
theorem d_Site_extend_4 : decode prog_11_method_4_code 4 = .ok (.ifCond .ne (7), 3) := by decide +kernel
theorem d_Site_extend_7 : decode prog_11_method_4_code 7 = .ok (.sipush (404), 3) := by decide +kernel
theorem d_Site_extend_10 : decode prog_11_method_4_code 10 = .ok (.ireturn, 1) := by decide +kernel
theorem d_Site_extend_11 : decode prog_11_method_4_code 11 = .ok (.aload_n 1, 1) := by decide +kernel
theorem d_Site_extend_12 : decode prog_11_method_4_code 12 = .ok (.getfield 48, 3) := by decide +kernel
theorem d_Site_extend_15 : decode prog_11_method_4_code 15 = .ok (.getfield 24, 3) := by decide +kernel
theorem d_Site_extend_18 : decode prog_11_method_4_code 18 = .ok (.aload_n 2, 1) := by decide +kernel
theorem d_Site_extend_19 : decode prog_11_method_4_code 19 = .ok (.getfield 55, 3) := by decide +kernel
theorem d_Site_extend_22 : decode prog_11_method_4_code 22 = .ok (.getfield 24, 3) := by decide +kernel
theorem d_Site_extend_25 : decode prog_11_method_4_code 25 = .ok (.iadd, 1) := by decide +kernel
theorem d_Site_extend_26 : decode prog_11_method_4_code 26 = .ok (.sipush (200), 3) := by decide +kernel
theorem d_Site_extend_29 : decode prog_11_method_4_code 29 = .ok (.if_icmp .le (7), 3) := by decide +kernel
theorem d_Site_extend_32 : decode prog_11_method_4_code 32 = .ok (.sipush (413), 3) := by decide +kernel
theorem d_Site_extend_35 : decode prog_11_method_4_code 35 = .ok (.ireturn, 1) := by decide +kernel
theorem d_Site_extend_36 : decode prog_11_method_4_code 36 = .ok (.aload_n 1, 1) := by decide +kernel
theorem d_Site_extend_37 : decode prog_11_method_4_code 37 = .ok (.getfield 48, 3) := by decide +kernel
theorem d_Site_extend_40 : decode prog_11_method_4_code 40 = .ok (.aload_n 2, 1) := by decide +kernel
theorem d_Site_extend_41 : decode prog_11_method_4_code 41 = .ok (.getfield 55, 3) := by decide +kernel
theorem d_Site_extend_44 : decode prog_11_method_4_code 44 = .ok (.invokevirtual 58, 3) := by decide +kernel
theorem d_Site_extend_47 : decode prog_11_method_4_code 47 = .ok (.aload_n 0, 1) := by decide +kernel
theorem d_Site_extend_48 : decode prog_11_method_4_code 48 = .ok (.dup, 1) := by decide +kernel
theorem d_Site_extend_49 : decode prog_11_method_4_code 49 = .ok (.getfield 62, 3) := by decide +kernel
theorem d_Site_extend_52 : decode prog_11_method_4_code 52 = .ok (.iconst 1, 1) := by decide +kernel
theorem d_Site_extend_53 : decode prog_11_method_4_code 53 = .ok (.iadd, 1) := by decide +kernel
theorem d_Site_extend_54 : decode prog_11_method_4_code 54 = .ok (.putfield 62, 3) := by decide +kernel
theorem d_Site_extend_57 : decode prog_11_method_4_code 57 = .ok (.aload_n 1, 1) := by decide +kernel
theorem d_Site_extend_58 : decode prog_11_method_4_code 58 = .ok (.aload_n 0, 1) := by decide +kernel
theorem d_Site_extend_59 : decode prog_11_method_4_code 59 = .ok (.getfield 62, 3) := by decide +kernel
theorem d_Site_extend_62 : decode prog_11_method_4_code 62 = .ok (.putfield 65, 3) := by decide +kernel
theorem d_Site_extend_65 : decode prog_11_method_4_code 65 = .ok (.sipush (204), 3) := by decide +kernel
theorem d_Site_extend_68 : decode prog_11_method_4_code 68 = .ok (.ireturn, 1) := by decide +kernel
def x_Site_extend (o1 : Nat) (σ : St) : Option (Int32 × St) := (Option.bind (x_Resource_isThere o1 σ) (fun r1 => (if r1 = 0 then some ((404 : Int32), σ) else (if ((σ.1 (o1 + 1) 1) + (σ.1 42 1)) ≤ (200 : Int32) then (Option.bind (x_Bytes_addAll (o1 + 1) 42 σ) (fun s44 => (x_let (x_updR s44 1 1 ((s44.1 1 1) + (1 : Int32))) (fun (s54 : St) => (x_let (x_updR s54 o1 1 (s54.1 1 1)) (fun (s62 : St) => some ((204 : Int32), s62))))))) else some ((413 : Int32), σ)))))
abbrev rm_Site_extend : Room := { frames := 2, cells := 0, slots := 0, locals := 43 }
set_option maxHeartbeats 4000000 in
set_option maxRecDepth 100000 in
theorem t_Site_extend (l : Launch) (G : xG) (σ : St) (o1 : Nat) (ho1 : xS o1) (r : Int32) (σ' : St) (hE : x_Site_extend o1 σ = some (r, σ')) : Met l y_Site_extend (ws_Site_extend) rm_Site_extend (xP G σ [.ref (G.2.1 1), .ref (G.2.1 o1), .ref (G.2.1 30)]) (xQ G (some (.int r)) σ') 0 0 (xA G) := by
  refine Met.ofW (cc := prog_11_method_4_code) (maxL := 3) (ret := (some .int)) (by decide) rfl ?_
  intro p e s m args below meth c s₁ B hml hv
  obtain ⟨rfl, hw, hC⟩ := hv
  have hx := B.exec
  have hb := B.bytes
  have hr := B.returns
  have hu : ∀ w ∈ UW, w.before _ s = true := fun w h => atoms_spec B.pre w (List.mem_cons_of_mem _ h)
  have hown : s.vm.findClass R_Site = some m.cls := findClass_of_methodNamed B.named
  have hlocks := B.notSynchronized
  have hK := hC.1
  have hI := hC.2.1
  have hG := hC.2.2.1
  have hN := hC.2.2.2
  have hS : va_S (xA G) s.heap s.heap [] := va_S.rf
  have hl := lv_entry ([.ref (G.2.1 1), .ref (G.2.1 o1), .ref (G.2.1 30)]) (n := 3) (Nat.le_of_ble_eq_true rfl)
  rw [lg_entry_eq]
  generalize (lg_sl ([.ref (G.2.1 1), .ref (G.2.1 o1), .ref (G.2.1 30)]) ++ List.replicate (3 - (lg_sl ([.ref (G.2.1 1), .ref (G.2.1 o1), .ref (G.2.1 30)])).length) Slot.unset).toArray = ls at hl ⊢
  have hl : lv_has ls 3 [(0, .ref (G.2.1 1)), (1, .ref (G.2.1 o1)), (2, .ref (G.2.1 30))] := hl
  unfold x_Site_extend at hE
  refine lv_aload_n hx hb d_Site_extend_0 rfl (lv_at hl 1 rfl) ?_
  obtain ⟨r1, hC1, hE⟩ := x_bind hE
  refine x_callR (W.runV (As := []) (rest := []) ⟨hx, hb, hml, hown, hu⟩ (t_Resource_isThere l G σ o1 ho1 r1 hC1) (cwV 0 hu (uw_V mw_895 mw_848 mw_849 mw_62 mw_850) rfl rfl rfl hd_Resource_isThere ⟨Nat.le_of_ble_eq_true rfl, Nat.le_of_ble_eq_true rfl⟩) (x_preV hC hS hw (va_recv hK hw (q := (R_Resource, T_Resource, 2)) (ci := 4) rfl (x_at (xS_lt ho1) (xcl_S G σ (xS_s ho1))))) rfl rfl hl.1 rfl (lv_room (Nat.le_of_ble_eq_true rfl)) d_Site_extend_1 ⟨Nat.le_of_ble_eq_true rfl, Nat.le_of_ble_eq_true rfl⟩) ?_
  refine lv_if_ne (tgt := 11) hx hb d_Site_extend_4 (by decide) (fun hc4 => ?_) (fun hc4 => ?_)
  · rw [if_neg hc4] at hE
    refine lv_aload_n hx hb d_Site_extend_11 rfl (lv_at hl 1 rfl) ?_
    refine va_getN (D := G.1) (cl := xCl) (ci := 4) (v := .ref (G.2.1 (o1 + 1))) (C := R_Resource) (T := T_Resource) (N := 2) hx hb hu fi_Resource hown hK hw o1 (x_at (xS_lt ho1) (xcl_S G σ (xS_s ho1))) rfl 0 (by decide) (nl_7 hG) (fun _ h9 => h9) rfl d_Site_extend_12 ?_
    refine va_getN (D := G.1) (cl := xCl) (ci := 0) (v := .int (σ.1 (o1 + 1) 1)) (C := R_Bytes) (T := T_Bytes) (N := 2) hx hb hu fi_Bytes hown hK hw (o1 + 1) (x_at (xB_lt (xS_b ho1)) (xcl_B G σ (xB_s (xS_b ho1)))) rfl 1 (by decide) (nl_0 hG) (fun _ h9 => h9) rfl d_Site_extend_15 ?_
    refine lv_aload_n hx hb d_Site_extend_18 rfl (lv_at hl 2 rfl) ?_
    refine va_getN (D := G.1) (cl := xCl) (ci := 2) (v := .ref (G.2.1 42)) (C := R_Request) (T := T_Request) (N := 9) hx hb hu fi_Request hown hK hw 30 (x_at (by decide) (xcl_30 G σ)) rfl 2 (by decide) (nl_26 hG) (fun _ h9 => h9) rfl d_Site_extend_19 ?_
    refine va_getN (D := G.1) (cl := xCl) (ci := 0) (v := .int (σ.1 42 1)) (C := R_Bytes) (T := T_Bytes) (N := 2) hx hb hu fi_Bytes hown hK hw 42 (x_at (by decide) (xcl_42 G σ)) rfl 1 (by decide) (nl_0 hG) (fun _ h9 => h9) rfl d_Site_extend_22 ?_
    refine lv_iadd hx hb d_Site_extend_25 ?_
    refine lv_sipush (v := (200 : Int32)) hx hb d_Site_extend_26 (by decide) ?_
    refine lv_icmp_le (tgt := 36) hx hb d_Site_extend_29 (by decide) (fun hc29 => ?_) (fun hc29 => ?_)
    · rw [if_pos hc29] at hE
      refine lv_aload_n hx hb d_Site_extend_36 rfl (lv_at hl 1 rfl) ?_
      refine va_getN (D := G.1) (cl := xCl) (ci := 4) (v := .ref (G.2.1 (o1 + 1))) (C := R_Resource) (T := T_Resource) (N := 2) hx hb hu fi_Resource hown hK hw o1 (x_at (xS_lt ho1) (xcl_S G σ (xS_s ho1))) rfl 0 (by decide) (nl_7 hG) (fun _ h9 => h9) rfl d_Site_extend_37 ?_
      refine lv_aload_n hx hb d_Site_extend_40 rfl (lv_at hl 2 rfl) ?_
      refine va_getN (D := G.1) (cl := xCl) (ci := 2) (v := .ref (G.2.1 42)) (C := R_Request) (T := T_Request) (N := 9) hx hb hu fi_Request hown hK hw 30 (x_at (by decide) (xcl_30 G σ)) rfl 2 (by decide) (nl_26 hG) (fun _ h9 => h9) rfl d_Site_extend_41 ?_
      obtain ⟨s44, hC44, hE⟩ := x_bind hE
      refine x_callV hS (W.runV (As := [.ref (G.2.1 42)]) (rest := []) ⟨hx, hb, hml, hown, hu⟩ (t_Bytes_addAll l G σ (o1 + 1) 42 (xS_b ho1) (by decide) s44 hC44) (cwV 1 hu (uw_V mw_900 mw_710 mw_711 mw_63 mw_712) rfl rfl rfl hd_Bytes_addAll ⟨Nat.le_of_ble_eq_true rfl, Nat.le_of_ble_eq_true rfl⟩) (x_preV hC hS hw (va_recv hK hw (q := (R_Bytes, T_Bytes, 2)) (ci := 0) rfl (x_at (xB_lt (xS_b ho1)) (xcl_B G σ (xB_s (xS_b ho1)))))) rfl rfl hl.1 rfl (lv_room (Nat.le_of_ble_eq_true rfl)) d_Site_extend_44 ⟨Nat.le_of_ble_eq_true rfl, Nat.le_of_ble_eq_true rfl⟩) (fun H locs hw hS => ?_)
      refine lv_aload_n hx hb d_Site_extend_47 rfl (lv_at hl 0 rfl) ?_
      refine lv_dup hx hb d_Site_extend_48 rfl ?_
      refine va_get (D := G.1) (cl := xCl) (ci := 5) (v := .int (s44.1 1 1)) (C := R_Site) (T := T_Site) (N := 2) hx hb hu fi_Site hown hK hw 1 (x_at (by decide) (xcl_1 G s44)) rfl 1 (by decide) (hu _ mw_144) (fun _ h9 => h9) rfl d_Site_extend_49 ?_
      refine lv_iconst (v := (1 : Int32)) hx hb d_Site_extend_52 (by decide) ?_
      refine lv_iadd hx hb d_Site_extend_53 ?_
      refine va_put (D := G.1) (cl := xCl) (ci := 5) (v := .int ((s44.1 1 1) + (1 : Int32))) (ty := .int) (C := R_Site) (T := T_Site) (N := 2) hx hb hu fi_Site ty_Site tyok_Site nm_Site hown hK hw (x_D hI _) hS 1 (x_at (by decide) (xcl_1 G s44)) rfl 1 (by decide) (hu _ mw_144) (fun _ h9 => h9) rfl (tyok_Site 1 (by decide)) rfl rfl (Nat.le_of_ble_eq_true rfl) d_Site_extend_54 (fun H locs hw _ hS => ?_)
      replace hw := x_setR hw (by decide) rfl
      obtain ⟨s54, e54, hE⟩ := x_letE hE
      rw [← e54] at hw
      refine lv_aload_n hx hb d_Site_extend_57 rfl (lv_at hl 1 rfl) ?_
      refine lv_aload_n hx hb d_Site_extend_58 rfl (lv_at hl 0 rfl) ?_
      refine va_get (D := G.1) (cl := xCl) (ci := 5) (v := .int (s54.1 1 1)) (C := R_Site) (T := T_Site) (N := 2) hx hb hu fi_Site hown hK hw 1 (x_at (by decide) (xcl_1 G s54)) rfl 1 (by decide) (hu _ mw_144) (fun _ h9 => h9) rfl d_Site_extend_59 ?_
      refine va_putN (D := G.1) (cl := xCl) (ci := 4) (v := .int (s54.1 1 1)) (ty := .int) (C := R_Resource) (T := T_Resource) (N := 2) hx hb hu fi_Resource ty_Resource tyok_Resource nm_Resource hown hK hw (x_D hI _) hS o1 (x_at (xS_lt ho1) (xcl_S G s54 (xS_s ho1))) rfl 1 (by decide) (nl_10 hG) (fun _ h9 => h9) rfl (tyok_Resource 1 (by decide)) rfl rfl (Nat.le_of_ble_eq_true rfl) d_Site_extend_62 (fun H locs hw _ hS => ?_)
      replace hw := x_setR hw (xS_lt ho1) (x_putS (xS_s ho1))
      obtain ⟨s62, e62, hE⟩ := x_letE hE
      rw [← e62] at hw
      refine lv_sipush (v := (204 : Int32)) hx hb d_Site_extend_65 (by decide) ?_
      obtain ⟨e1, e2⟩ := x_pair hE
      exact W.iret (v := (204 : Int32)) hx hb hr (fun t ht hW => ⟨by rw [e1], by rw [ht, ← e2]; exact hw, hS.F ht⟩) hS.2.2 d_Site_extend_68
    · rw [if_neg hc29] at hE
      refine lv_sipush (v := (413 : Int32)) hx hb d_Site_extend_32 (by decide) ?_
      obtain ⟨e1, e2⟩ := x_pair hE
      exact W.iret (v := (413 : Int32)) hx hb hr (fun t ht hW => ⟨by rw [e1], by rw [ht, ← e2]; exact hw, hS.F ht⟩) hS.2.2 d_Site_extend_35
  · rw [if_pos hc4] at hE
    refine lv_sipush (v := (404 : Int32)) hx hb d_Site_extend_7 (by decide) ?_
    obtain ⟨e1, e2⟩ := x_pair hE
    exact W.iret (v := (404 : Int32)) hx hb hr (fun t ht hW => ⟨by rw [e1], by rw [ht, ← e2]; exact hw, hS.F ht⟩) hS.2.2 d_Site_extend_10

def y_Site_remove : MethodName := ⟨"PlainOrigin$Site", "remove", "(LPlainOrigin$Resource;)I"⟩
def ws_Site_remove : List Cond := Cond.code y_Site_remove prog_11_method_5_code 2 (some .int) :: UW
theorem hd_Site_remove : y_Site_remove.cls = R_Site ∧ y_Site_remove.cls ≠ "java/lang/invoke/MethodHandle" ∧ y_Site_remove.cls ≠ "java/lang/invoke/VarHandle" ∧ (parseMethodDescriptor y_Site_remove.desc).map (fun d => d.parameters.length) = some 1 := by decide +kernel
theorem d_Site_remove_0 : decode prog_11_method_5_code 0 = .ok (.aload_n 1, 1) := by decide +kernel
theorem d_Site_remove_1 : decode prog_11_method_5_code 1 = .ok (.invokevirtual 28, 3) := by decide +kernel
theorem d_Site_remove_4 : decode prog_11_method_5_code 4 = .ok (.ifCond .ne (7), 3) := by decide +kernel
theorem d_Site_remove_7 : decode prog_11_method_5_code 7 = .ok (.sipush (404), 3) := by decide +kernel
theorem d_Site_remove_10 : decode prog_11_method_5_code 10 = .ok (.ireturn, 1) := by decide +kernel
theorem d_Site_remove_11 : decode prog_11_method_5_code 11 = .ok (.aload_n 1, 1) := by decide +kernel
theorem d_Site_remove_12 : decode prog_11_method_5_code 12 = .ok (.getfield 48, 3) := by decide +kernel
theorem d_Site_remove_15 : decode prog_11_method_5_code 15 = .ok (.invokevirtual 52, 3) := by decide +kernel
theorem d_Site_remove_18 : decode prog_11_method_5_code 18 = .ok (.aload_n 1, 1) := by decide +kernel
theorem d_Site_remove_19 : decode prog_11_method_5_code 19 = .ok (.iconst (-1), 1) := by decide +kernel
theorem d_Site_remove_20 : decode prog_11_method_5_code 20 = .ok (.putfield 65, 3) := by decide +kernel
theorem d_Site_remove_23 : decode prog_11_method_5_code 23 = .ok (.aload_n 0, 1) := by decide +kernel
theorem d_Site_remove_24 : decode prog_11_method_5_code 24 = .ok (.dup, 1) := by decide +kernel
theorem d_Site_remove_25 : decode prog_11_method_5_code 25 = .ok (.getfield 62, 3) := by decide +kernel
theorem d_Site_remove_28 : decode prog_11_method_5_code 28 = .ok (.iconst 1, 1) := by decide +kernel
theorem d_Site_remove_29 : decode prog_11_method_5_code 29 = .ok (.iadd, 1) := by decide +kernel
theorem d_Site_remove_30 : decode prog_11_method_5_code 30 = .ok (.putfield 62, 3) := by decide +kernel
theorem d_Site_remove_33 : decode prog_11_method_5_code 33 = .ok (.sipush (204), 3) := by decide +kernel
theorem d_Site_remove_36 : decode prog_11_method_5_code 36 = .ok (.ireturn, 1) := by decide +kernel
def x_Site_remove (o1 : Nat) (σ : St) : Option (Int32 × St) := (Option.bind (x_Resource_isThere o1 σ) (fun r1 => (if r1 = 0 then some ((404 : Int32), σ) else (Option.bind (x_Bytes_clear (o1 + 1) σ) (fun s15 => (x_let (x_updR s15 o1 1 ((-1) : Int32)) (fun (s20 : St) => (x_let (x_updR s20 1 1 ((s20.1 1 1) + (1 : Int32))) (fun (s30 : St) => some ((204 : Int32), s30))))))))))
abbrev rm_Site_remove : Room := { frames := 1, cells := 0, slots := 0, locals := 20 }
set_option maxHeartbeats 4000000 in
set_option maxRecDepth 100000 in
theorem t_Site_remove (l : Launch) (G : xG) (σ : St) (o1 : Nat) (ho1 : xS o1) (r : Int32) (σ' : St) (hE : x_Site_remove o1 σ = some (r, σ')) : Met l y_Site_remove (ws_Site_remove) rm_Site_remove (xP G σ [.ref (G.2.1 1), .ref (G.2.1 o1)]) (xQ G (some (.int r)) σ') 0 0 (xA G) := by
  refine Met.ofW (cc := prog_11_method_5_code) (maxL := 2) (ret := (some .int)) (by decide) rfl ?_
  intro p e s m args below meth c s₁ B hml hv
  obtain ⟨rfl, hw, hC⟩ := hv
  have hx := B.exec
  have hb := B.bytes
  have hr := B.returns
  have hu : ∀ w ∈ UW, w.before _ s = true := fun w h => atoms_spec B.pre w (List.mem_cons_of_mem _ h)
  have hown : s.vm.findClass R_Site = some m.cls := findClass_of_methodNamed B.named
  have hlocks := B.notSynchronized
  have hK := hC.1
  have hI := hC.2.1
  have hG := hC.2.2.1
  have hN := hC.2.2.2
  have hS : va_S (xA G) s.heap s.heap [] := va_S.rf
  have hl := lv_entry ([.ref (G.2.1 1), .ref (G.2.1 o1)]) (n := 2) (Nat.le_of_ble_eq_true rfl)
  rw [lg_entry_eq]
  generalize (lg_sl ([.ref (G.2.1 1), .ref (G.2.1 o1)]) ++ List.replicate (2 - (lg_sl ([.ref (G.2.1 1), .ref (G.2.1 o1)])).length) Slot.unset).toArray = ls at hl ⊢
  have hl : lv_has ls 2 [(0, .ref (G.2.1 1)), (1, .ref (G.2.1 o1))] := hl
  unfold x_Site_remove at hE
  refine lv_aload_n hx hb d_Site_remove_0 rfl (lv_at hl 1 rfl) ?_
  obtain ⟨r1, hC1, hE⟩ := x_bind hE
  refine x_callR (W.runV (As := []) (rest := []) ⟨hx, hb, hml, hown, hu⟩ (t_Resource_isThere l G σ o1 ho1 r1 hC1) (cwV 0 hu (uw_V mw_895 mw_848 mw_849 mw_62 mw_850) rfl rfl rfl hd_Resource_isThere ⟨Nat.le_of_ble_eq_true rfl, Nat.le_of_ble_eq_true rfl⟩) (x_preV hC hS hw (va_recv hK hw (q := (R_Resource, T_Resource, 2)) (ci := 4) rfl (x_at (xS_lt ho1) (xcl_S G σ (xS_s ho1))))) rfl rfl hl.1 rfl (lv_room (Nat.le_of_ble_eq_true rfl)) d_Site_remove_1 ⟨Nat.le_of_ble_eq_true rfl, Nat.le_of_ble_eq_true rfl⟩) ?_
  refine lv_if_ne (tgt := 11) hx hb d_Site_remove_4 (by decide) (fun hc4 => ?_) (fun hc4 => ?_)
  · rw [if_neg hc4] at hE
    refine lv_aload_n hx hb d_Site_remove_11 rfl (lv_at hl 1 rfl) ?_
    refine va_getN (D := G.1) (cl := xCl) (ci := 4) (v := .ref (G.2.1 (o1 + 1))) (C := R_Resource) (T := T_Resource) (N := 2) hx hb hu fi_Resource hown hK hw o1 (x_at (xS_lt ho1) (xcl_S G σ (xS_s ho1))) rfl 0 (by decide) (nl_7 hG) (fun _ h9 => h9) rfl d_Site_remove_12 ?_
    obtain ⟨s15, hC15, hE⟩ := x_bind hE
    refine x_callV hS (W.runV (As := []) (rest := []) ⟨hx, hb, hml, hown, hu⟩ (t_Bytes_clear l G σ (o1 + 1) (xS_b ho1) s15 hC15) (cwV 0 hu (uw_V mw_899 mw_386 mw_387 mw_63 mw_388) rfl rfl rfl hd_Bytes_clear ⟨Nat.le_of_ble_eq_true rfl, Nat.le_of_ble_eq_true rfl⟩) (x_preV hC hS hw (va_recv hK hw (q := (R_Bytes, T_Bytes, 2)) (ci := 0) rfl (x_at (xB_lt (xS_b ho1)) (xcl_B G σ (xB_s (xS_b ho1)))))) rfl rfl hl.1 rfl (lv_room (Nat.le_of_ble_eq_true rfl)) d_Site_remove_15 ⟨Nat.le_of_ble_eq_true rfl, Nat.le_of_ble_eq_true rfl⟩) (fun H locs hw hS => ?_)
    refine lv_aload_n hx hb d_Site_remove_18 rfl (lv_at hl 1 rfl) ?_
    refine lv_iconst (v := ((-1) : Int32)) hx hb d_Site_remove_19 (by decide) ?_
    refine va_putN (D := G.1) (cl := xCl) (ci := 4) (v := .int ((-1) : Int32)) (ty := .int) (C := R_Resource) (T := T_Resource) (N := 2) hx hb hu fi_Resource ty_Resource tyok_Resource nm_Resource hown hK hw (x_D hI _) hS o1 (x_at (xS_lt ho1) (xcl_S G s15 (xS_s ho1))) rfl 1 (by decide) (nl_10 hG) (fun _ h9 => h9) rfl (tyok_Resource 1 (by decide)) rfl rfl (Nat.le_of_ble_eq_true rfl) d_Site_remove_20 (fun H locs hw _ hS => ?_)
    replace hw := x_setR hw (xS_lt ho1) (x_putS (xS_s ho1))
    obtain ⟨s20, e20, hE⟩ := x_letE hE
    rw [← e20] at hw
    refine lv_aload_n hx hb d_Site_remove_23 rfl (lv_at hl 0 rfl) ?_
    refine lv_dup hx hb d_Site_remove_24 rfl ?_
    refine va_get (D := G.1) (cl := xCl) (ci := 5) (v := .int (s20.1 1 1)) (C := R_Site) (T := T_Site) (N := 2) hx hb hu fi_Site hown hK hw 1 (x_at (by decide) (xcl_1 G s20)) rfl 1 (by decide) (hu _ mw_144) (fun _ h9 => h9) rfl d_Site_remove_25 ?_
    refine lv_iconst (v := (1 : Int32)) hx hb d_Site_remove_28 (by decide) ?_
    refine lv_iadd hx hb d_Site_remove_29 ?_
    refine va_put (D := G.1) (cl := xCl) (ci := 5) (v := .int ((s20.1 1 1) + (1 : Int32))) (ty := .int) (C := R_Site) (T := T_Site) (N := 2) hx hb hu fi_Site ty_Site tyok_Site nm_Site hown hK hw (x_D hI _) hS 1 (x_at (by decide) (xcl_1 G s20)) rfl 1 (by decide) (hu _ mw_144) (fun _ h9 => h9) rfl (tyok_Site 1 (by decide)) rfl rfl (Nat.le_of_ble_eq_true rfl) d_Site_remove_30 (fun H locs hw _ hS => ?_)
    replace hw := x_setR hw (by decide) rfl
    obtain ⟨s30, e30, hE⟩ := x_letE hE
    rw [← e30] at hw
    refine lv_sipush (v := (204 : Int32)) hx hb d_Site_remove_33 (by decide) ?_
    obtain ⟨e1, e2⟩ := x_pair hE
    exact W.iret (v := (204 : Int32)) hx hb hr (fun t ht hW => ⟨by rw [e1], by rw [ht, ← e2]; exact hw, hS.F ht⟩) hS.2.2 d_Site_remove_36
  · rw [if_pos hc4] at hE
    refine lv_sipush (v := (404 : Int32)) hx hb d_Site_remove_7 (by decide) ?_
    obtain ⟨e1, e2⟩ := x_pair hE
    exact W.iret (v := (404 : Int32)) hx hb hr (fun t ht hW => ⟨by rw [e1], by rw [ht, ← e2]; exact hw, hS.F ht⟩) hS.2.2 d_Site_remove_10

def y_Range_take : MethodName := ⟨"PlainOrigin$Range", "take", "(LPlainOrigin$Fields;)Z"⟩
def ws_Range_take : List Cond := Cond.code y_Range_take prog_7_method_2_code 7 (some .boolean) :: UW
theorem hd_Range_take : y_Range_take.cls = R_Range ∧ y_Range_take.cls ≠ "java/lang/invoke/MethodHandle" ∧ y_Range_take.cls ≠ "java/lang/invoke/VarHandle" ∧ (parseMethodDescriptor y_Range_take.desc).map (fun d => d.parameters.length) = some 1 := by decide +kernel
theorem d_Range_take_0 : decode prog_7_method_2_code 0 = .ok (.aload_n 1, 1) := by decide +kernel
theorem d_Range_take_1 : decode prog_7_method_2_code 1 = .ok (.ldc 9, 2) := by decide +kernel
theorem d_Range_take_3 : decode prog_7_method_2_code 3 = .ok (.invokevirtual 11, 3) := by decide +kernel
theorem d_Range_take_6 : decode prog_7_method_2_code 6 = .ok (.istore_n 2, 1) := by decide +kernel
theorem d_Range_take_7 : decode prog_7_method_2_code 7 = .ok (.iload_n 2, 1) := by decide +kernel
theorem d_Range_take_8 : decode prog_7_method_2_code 8 = .ok (.iconst (-1), 1) := by decide +kernel
theorem d_Range_take_9 : decode prog_7_method_2_code 9 = .ok (.if_icmp .eq (13), 3) := by decide +kernel
theorem d_Range_take_12 : decode prog_7_method_2_code 12 = .ok (.aload_n 1, 1) := by decide +kernel
theorem d_Range_take_13 : decode prog_7_method_2_code 13 = .ok (.ldc 9, 2) := by decide +kernel
theorem d_Range_take_15 : decode prog_7_method_2_code 15 = .ok (.invokevirtual 17, 3) := by decide +kernel
theorem d_Range_take_18 : decode prog_7_method_2_code 18 = .ok (.iconst 1, 1) := by decide +kernel
theorem d_Range_take_19 : decode prog_7_method_2_code 19 = .ok (.if_icmp .le (5), 3) := by decide +kernel
theorem d_Range_take_22 : decode prog_7_method_2_code 22 = .ok (.iconst 0, 1) := by decide +kernel
theorem d_Range_take_23 : decode prog_7_method_2_code 23 = .ok (.ireturn, 1) := by decide +kernel
theorem d_Range_take_24 : decode prog_7_method_2_code 24 = .ok (.aload_n 1, 1) := by decide +kernel
theorem d_Range_take_25 : decode prog_7_method_2_code 25 = .ok (.getfield 20, 3) := by decide +kernel
theorem d_Range_take_28 : decode prog_7_method_2_code 28 = .ok (.astore_n 3, 1) := by decide +kernel
theorem d_Range_take_29 : decode prog_7_method_2_code 29 = .ok (.aload_n 1, 1) := by decide +kernel
theorem d_Range_take_30 : decode prog_7_method_2_code 30 = .ok (.getfield 24, 3) := by decide +kernel
theorem d_Range_take_33 : decode prog_7_method_2_code 33 = .ok (.iload_n 2, 1) := by decide +kernel
theorem d_Range_take_34 : decode prog_7_method_2_code 34 = .ok (.iaload, 1) := by decide +kernel
theorem d_Range_take_35 : decode prog_7_method_2_code 35 = .ok (.bipush (6), 2) := by decide +kernel
theorem d_Range_take_37 : decode prog_7_method_2_code 37 = .ok (.iadd, 1) := by decide +kernel
theorem d_Range_take_38 : decode prog_7_method_2_code 38 = .ok (.istore 4, 2) := by decide +kernel
theorem d_Range_take_40 : decode prog_7_method_2_code 40 = .ok (.aload_n 1, 1) := by decide +kernel
theorem d_Range_take_41 : decode prog_7_method_2_code 41 = .ok (.getfield 28, 3) := by decide +kernel
theorem d_Range_take_44 : decode prog_7_method_2_code 44 = .ok (.iload_n 2, 1) := by decide +kernel
theorem d_Range_take_45 : decode prog_7_method_2_code 45 = .ok (.iaload, 1) := by decide +kernel
theorem d_Range_take_46 : decode prog_7_method_2_code 46 = .ok (.istore 5, 2) := by decide +kernel
theorem d_Range_take_48 : decode prog_7_method_2_code 48 = .ok (.iload 4, 2) := by decide +kernel
theorem d_Range_take_50 : decode prog_7_method_2_code 50 = .ok (.iload 5, 2) := by decide +kernel
theorem d_Range_take_52 : decode prog_7_method_2_code 52 = .ok (.if_icmp .gt (19), 3) := by decide +kernel
theorem d_Range_take_55 : decode prog_7_method_2_code 55 = .ok (.aload_n 3, 1) := by decide +kernel
theorem d_Range_take_56 : decode prog_7_method_2_code 56 = .ok (.iload 4, 2) := by decide +kernel
theorem d_Range_take_58 : decode prog_7_method_2_code 58 = .ok (.bipush (6), 2) := by decide +kernel
theorem d_Range_take_60 : decode prog_7_method_2_code 60 = .ok (.isub, 1) := by decide +kernel
theorem d_Range_take_61 : decode prog_7_method_2_code 61 = .ok (.iload 4, 2) := by decide +kernel
theorem d_Range_take_63 : decode prog_7_method_2_code 63 = .ok (.ldc 31, 2) := by decide +kernel
theorem d_Range_take_65 : decode prog_7_method_2_code 65 = .ok (.invokestatic 33, 3) := by decide +kernel
theorem d_Range_take_68 : decode prog_7_method_2_code 68 = .ok (.ifCond .ne (5), 3) := by decide +kernel
theorem d_Range_take_71 : decode prog_7_method_2_code 71 = .ok (.iconst 0, 1) := by decide +kernel
theorem d_Range_take_72 : decode prog_7_method_2_code 72 = .ok (.ireturn, 1) := by decide +kernel
theorem d_Range_take_73 : decode prog_7_method_2_code 73 = .ok (.aload_n 3, 1) := by decide +kernel
theorem d_Range_take_74 : decode prog_7_method_2_code 74 = .ok (.bipush (45), 2) := by decide +kernel
theorem d_Range_take_76 : decode prog_7_method_2_code 76 = .ok (.iload 4, 2) := by decide +kernel
theorem d_Range_take_78 : decode prog_7_method_2_code 78 = .ok (.iload 5, 2) := by decide +kernel
theorem d_Range_take_80 : decode prog_7_method_2_code 80 = .ok (.invokestatic 39, 3) := by decide +kernel
theorem d_Range_take_83 : decode prog_7_method_2_code 83 = .ok (.istore 6, 2) := by decide +kernel
theorem d_Range_take_85 : decode prog_7_method_2_code 85 = .ok (.aload_n 0, 1) := by decide +kernel
theorem d_Range_take_86 : decode prog_7_method_2_code 86 = .ok (.aload_n 3, 1) := by decide +kernel
theorem d_Range_take_87 : decode prog_7_method_2_code 87 = .ok (.iload 4, 2) := by decide +kernel
theorem d_Range_take_89 : decode prog_7_method_2_code 89 = .ok (.iload 6, 2) := by decide +kernel
theorem d_Range_take_91 : decode prog_7_method_2_code 91 = .ok (.invokestatic 43, 3) := by decide +kernel
theorem d_Range_take_94 : decode prog_7_method_2_code 94 = .ok (.putfield 47, 3) := by decide +kernel
theorem d_Range_take_97 : decode prog_7_method_2_code 97 = .ok (.aload_n 0, 1) := by decide +kernel
theorem d_Range_take_98 : decode prog_7_method_2_code 98 = .ok (.aload_n 3, 1) := by decide +kernel
theorem d_Range_take_99 : decode prog_7_method_2_code 99 = .ok (.iload 6, 2) := by decide +kernel
theorem d_Range_take_101 : decode prog_7_method_2_code 101 = .ok (.iconst 1, 1) := by decide +kernel
theorem d_Range_take_102 : decode prog_7_method_2_code 102 = .ok (.iadd, 1) := by decide +kernel
theorem d_Range_take_103 : decode prog_7_method_2_code 103 = .ok (.iload 5, 2) := by decide +kernel
theorem d_Range_take_105 : decode prog_7_method_2_code 105 = .ok (.invokestatic 43, 3) := by decide +kernel
theorem d_Range_take_108 : decode prog_7_method_2_code 108 = .ok (.putfield 53, 3) := by decide +kernel
theorem d_Range_take_111 : decode prog_7_method_2_code 111 = .ok (.iload 6, 2) := by decide +kernel
theorem d_Range_take_113 : decode prog_7_method_2_code 113 = .ok (.iload 4, 2) := by decide +kernel
theorem d_Range_take_115 : decode prog_7_method_2_code 115 = .ok (.if_icmp .ne (16), 3) := by decide +kernel
theorem d_Range_take_118 : decode prog_7_method_2_code 118 = .ok (.aload_n 0, 1) := by decide +kernel
theorem d_Range_take_119 : decode prog_7_method_2_code 119 = .ok (.getfield 53, 3) := by decide +kernel
theorem d_Range_take_122 : decode prog_7_method_2_code 122 = .ok (.ifCond .le (7), 3) := by decide +kernel
theorem d_Range_take_125 : decode prog_7_method_2_code 125 = .ok (.iconst 1, 1) := by decide +kernel
theorem d_Range_take_126 : decode prog_7_method_2_code 126 = .ok (.goto (4), 3) := by decide +kernel
theorem d_Range_take_129 : decode prog_7_method_2_code 129 = .ok (.iconst 0, 1) := by decide +kernel
theorem d_Range_take_130 : decode prog_7_method_2_code 130 = .ok (.ireturn, 1) := by decide +kernel
theorem d_Range_take_131 : decode prog_7_method_2_code 131 = .ok (.iload 6, 2) := by decide +kernel
theorem d_Range_take_133 : decode prog_7_method_2_code 133 = .ok (.iconst 1, 1) := by decide +kernel
theorem d_Range_take_134 : decode prog_7_method_2_code 134 = .ok (.iadd, 1) := by decide +kernel
theorem d_Range_take_135 : decode prog_7_method_2_code 135 = .ok (.iload 5, 2) := by decide +kernel
theorem d_Range_take_137 : decode prog_7_method_2_code 137 = .ok (.if_icmp .ne (17), 3) := by decide +kernel
theorem d_Range_take_140 : decode prog_7_method_2_code 140 = .ok (.aload_n 0, 1) := by decide +kernel
theorem d_Range_take_141 : decode prog_7_method_2_code 141 = .ok (.getfield 47, 3) := by decide +kernel
theorem d_Range_take_144 : decode prog_7_method_2_code 144 = .ok (.iconst (-1), 1) := by decide +kernel
theorem d_Range_take_145 : decode prog_7_method_2_code 145 = .ok (.if_icmp .eq (7), 3) := by decide +kernel
theorem d_Range_take_148 : decode prog_7_method_2_code 148 = .ok (.iconst 1, 1) := by decide +kernel
theorem d_Range_take_149 : decode prog_7_method_2_code 149 = .ok (.goto (4), 3) := by decide +kernel
theorem d_Range_take_152 : decode prog_7_method_2_code 152 = .ok (.iconst 0, 1) := by decide +kernel
theorem d_Range_take_153 : decode prog_7_method_2_code 153 = .ok (.ireturn, 1) := by decide +kernel
theorem d_Range_take_154 : decode prog_7_method_2_code 154 = .ok (.aload_n 0, 1) := by decide +kernel
theorem d_Range_take_155 : decode prog_7_method_2_code 155 = .ok (.getfield 47, 3) := by decide +kernel
theorem d_Range_take_158 : decode prog_7_method_2_code 158 = .ok (.iconst (-1), 1) := by decide +kernel
theorem d_Range_take_159 : decode prog_7_method_2_code 159 = .ok (.if_icmp .eq (18), 3) := by decide +kernel
theorem d_Range_take_162 : decode prog_7_method_2_code 162 = .ok (.aload_n 0, 1) := by decide +kernel
theorem d_Range_take_163 : decode prog_7_method_2_code 163 = .ok (.getfield 47, 3) := by decide +kernel
theorem d_Range_take_166 : decode prog_7_method_2_code 166 = .ok (.aload_n 0, 1) := by decide +kernel
theorem d_Range_take_167 : decode prog_7_method_2_code 167 = .ok (.getfield 53, 3) := by decide +kernel
theorem d_Range_take_170 : decode prog_7_method_2_code 170 = .ok (.if_icmp .gt (7), 3) := by decide +kernel
theorem d_Range_take_173 : decode prog_7_method_2_code 173 = .ok (.iconst 1, 1) := by decide +kernel
theorem d_Range_take_174 : decode prog_7_method_2_code 174 = .ok (.goto (4), 3) := by decide +kernel
theorem d_Range_take_177 : decode prog_7_method_2_code 177 = .ok (.iconst 0, 1) := by decide +kernel
theorem d_Range_take_178 : decode prog_7_method_2_code 178 = .ok (.ireturn, 1) := by decide +kernel
def x_Range_take (σ : St) : Option (Int32 × St) := (Option.bind (x_Fields_indexOf 17 σ) (fun r3 => (if r3 = ((-1) : Int32) then some ((0 : Int32), σ) else (Option.bind (x_Fields_countOf 17 σ) (fun r15 => (if r15 ≤ (1 : Int32) then (if x_in r3 12 then (x_let ((σ.2.1 36 r3.toNatClampNeg) + (6 : Int32)) (fun (v38 : Int32) => (if x_in r3 12 then (x_let (σ.2.1 37 r3.toNatClampNeg) (fun (v46 : Int32) => (if v46 < v38 then some ((0 : Int32), σ) else (Option.bind (x_Text_isWord 32 (v38 - (6 : Int32)) v38 18 σ) (fun r65 => (if r65 = 0 then some ((0 : Int32), σ) else (Option.bind (x_Text_find 32 (45 : Int32) v38 v46 σ) (fun r80 => (Option.bind (x_Text_number 32 v38 r80 σ) (fun r91 => (x_let (x_updR σ 45 0 r91) (fun (s94 : St) => (Option.bind (x_Text_number 32 (r80 + (1 : Int32)) v46 s94) (fun r105 => (x_let (x_updR s94 45 1 r105) (fun (s108 : St) => (if r80 = v38 then (if (s108.1 45 1) ≤ 0 then some ((0 : Int32), s108) else some ((1 : Int32), s108)) else (if (r80 + (1 : Int32)) = v46 then (if (s108.1 45 0) = ((-1) : Int32) then some ((0 : Int32), s108) else some ((1 : Int32), s108)) else (if (s108.1 45 0) = ((-1) : Int32) then some ((0 : Int32), s108) else (if (s108.1 45 1) < (s108.1 45 0) then some ((0 : Int32), s108) else some ((1 : Int32), s108))))))))))))))))))))) else none))) else none) else some ((0 : Int32), σ)))))))
abbrev rm_Range_take : Room := { frames := 6, cells := 0, slots := 0, locals := 132 }
set_option maxHeartbeats 4000000 in
set_option maxRecDepth 100000 in
theorem t_Range_take (l : Launch) (G : xG) (σ : St) (r : Int32) (σ' : St) (hE : x_Range_take σ = some (r, σ')) : Met l y_Range_take (ws_Range_take) rm_Range_take (xP G σ [.ref (G.2.1 45), .ref (G.2.1 31)]) (xQ G (some (.int r)) σ') 0 0 (xA G) := by
  refine Met.ofW (cc := prog_7_method_2_code) (maxL := 7) (ret := (some .boolean)) (by decide) rfl ?_
  intro p e s m args below meth c s₁ B hml hv
  obtain ⟨rfl, hw, hC⟩ := hv
  have hx := B.exec
  have hb := B.bytes
  have hr := B.returns
  have hu : ∀ w ∈ UW, w.before _ s = true := fun w h => atoms_spec B.pre w (List.mem_cons_of_mem _ h)
  have hown : s.vm.findClass R_Range = some m.cls := findClass_of_methodNamed B.named
  have hlocks := B.notSynchronized
  have hK := hC.1
  have hI := hC.2.1
  have hG := hC.2.2.1
  have hN := hC.2.2.2
  have hS : va_S (xA G) s.heap s.heap [] := va_S.rf
  have hl := lv_entry ([.ref (G.2.1 45), .ref (G.2.1 31)]) (n := 7) (Nat.le_of_ble_eq_true rfl)
  rw [lg_entry_eq]
  generalize (lg_sl ([.ref (G.2.1 45), .ref (G.2.1 31)]) ++ List.replicate (7 - (lg_sl ([.ref (G.2.1 45), .ref (G.2.1 31)])).length) Slot.unset).toArray = ls at hl ⊢
  have hl : lv_has ls 7 [(0, .ref (G.2.1 45)), (1, .ref (G.2.1 31))] := hl
  unfold x_Range_take at hE
  refine lv_aload_n hx hb d_Range_take_0 rfl (lv_at hl 1 rfl) ?_
  refine va_ldcS hx hb hown (str_17 hN) d_Range_take_1 ?_
  obtain ⟨r3, hC3, hE⟩ := x_bind hE
  refine x_callR (W.runV (As := [.ref (G.2.2.2.1 17)]) (rest := []) ⟨hx, hb, hml, hown, hu⟩ (t_Fields_indexOf l G σ 17 (by decide) r3 hC3) (cwV 1 hu (uw_V mw_877 mw_760 mw_761 mw_66 mw_762) rfl rfl rfl hd_Fields_indexOf ⟨Nat.le_of_ble_eq_true rfl, Nat.le_of_ble_eq_true rfl⟩) (x_preV hC hS hw (va_recv hK hw (q := (R_Fields, T_Fields, 9)) (ci := 1) rfl (x_at (by decide) (xcl_31 G σ)))) rfl rfl hl.1 rfl (lv_room (Nat.le_of_ble_eq_true rfl)) d_Range_take_3 ⟨Nat.le_of_ble_eq_true rfl, Nat.le_of_ble_eq_true rfl⟩) ?_
  refine lv_istore_n hx hb d_Range_take_6 rfl hl (by decide) rfl (fun ls hl => ?_)
  have hl : lv_has ls 7 [(2, .int r3), (0, .ref (G.2.1 45)), (1, .ref (G.2.1 31))] := hl
  refine lv_iload_n hx hb d_Range_take_7 rfl (lv_at hl 0 rfl) ?_
  refine lv_iconst (v := ((-1) : Int32)) hx hb d_Range_take_8 (by decide) ?_
  refine lv_icmp_eq (tgt := 22) hx hb d_Range_take_9 (by decide) (fun hc9 => ?_) (fun hc9 => ?_)
  · rw [if_pos hc9] at hE
    refine lv_iconst (v := (0 : Int32)) hx hb d_Range_take_22 (by decide) ?_
    obtain ⟨e1, e2⟩ := x_pair hE
    exact W.zret (v := (0 : Int32)) hx hb hr rfl (fun t ht hW => ⟨by rw [e1], by rw [ht, ← e2]; exact hw, hS.F ht⟩) hS.2.2 d_Range_take_23
  · rw [if_neg hc9] at hE
    refine lv_aload_n hx hb d_Range_take_12 rfl (lv_at hl 2 rfl) ?_
    refine va_ldcS hx hb hown (str_17 hN) d_Range_take_13 ?_
    obtain ⟨r15, hC15, hE⟩ := x_bind hE
    refine x_callR (W.runV (As := [.ref (G.2.2.2.1 17)]) (rest := []) ⟨hx, hb, hml, hown, hu⟩ (t_Fields_countOf l G σ 17 (by decide) r15 hC15) (cwV 1 hu (uw_V mw_878 mw_746 mw_747 mw_66 mw_748) rfl rfl rfl hd_Fields_countOf ⟨Nat.le_of_ble_eq_true rfl, Nat.le_of_ble_eq_true rfl⟩) (x_preV hC hS hw (va_recv hK hw (q := (R_Fields, T_Fields, 9)) (ci := 1) rfl (x_at (by decide) (xcl_31 G σ)))) rfl rfl hl.1 rfl (lv_room (Nat.le_of_ble_eq_true rfl)) d_Range_take_15 ⟨Nat.le_of_ble_eq_true rfl, Nat.le_of_ble_eq_true rfl⟩) ?_
    refine lv_iconst (v := (1 : Int32)) hx hb d_Range_take_18 (by decide) ?_
    refine lv_icmp_le (tgt := 24) hx hb d_Range_take_19 (by decide) (fun hc19 => ?_) (fun hc19 => ?_)
    · rw [if_pos hc19] at hE
      refine lv_aload_n hx hb d_Range_take_24 rfl (lv_at hl 2 rfl) ?_
      refine va_getN (D := G.1) (cl := xCl) (ci := 1) (v := .ref (G.2.1 32)) (C := R_Fields) (T := T_Fields) (N := 9) hx hb hu fi_Fields hown hK hw 31 (x_at (by decide) (xcl_31 G σ)) rfl 0 (by decide) (nl_16 hG) (fun _ h9 => h9) rfl d_Range_take_25 ?_
      refine lv_astore_n hx hb d_Range_take_28 rfl hl (by decide) rfl (fun ls hl => ?_)
      have hl : lv_has ls 7 [(3, .ref (G.2.1 32)), (2, .int r3), (0, .ref (G.2.1 45)), (1, .ref (G.2.1 31))] := hl
      refine lv_aload_n hx hb d_Range_take_29 rfl (lv_at hl 3 rfl) ?_
      refine va_getN (D := G.1) (cl := xCl) (ci := 1) (v := .ref (G.2.1 36)) (C := R_Fields) (T := T_Fields) (N := 9) hx hb hu fi_Fields hown hK hw 31 (x_at (by decide) (xcl_31 G σ)) rfl 3 (by decide) (nl_18 hG) (fun _ h9 => h9) rfl d_Range_take_30 ?_
      refine lv_iload_n hx hb d_Range_take_33 rfl (lv_at hl 1 rfl) ?_
      obtain ⟨g34, hE⟩ := x_guard hE
      refine va_iald hx hb hK hw 36 0 (x_at (by decide) (xcl_36 G σ)) rfl g34 d_Range_take_34 ?_
      refine lv_bipush (v := (6 : Int32)) hx hb d_Range_take_35 (by decide) ?_
      refine lv_iadd hx hb d_Range_take_37 ?_
      refine lv_topi (fun v38 e38 => ?_)
      replace hE := x_letT e38 hE
      refine lv_istore hx hb d_Range_take_38 hl (by decide) rfl (fun ls hl => ?_)
      have hl : lv_has ls 7 [(4, .int v38), (3, .ref (G.2.1 32)), (2, .int r3), (0, .ref (G.2.1 45)), (1, .ref (G.2.1 31))] := hl
      refine lv_aload_n hx hb d_Range_take_40 rfl (lv_at hl 4 rfl) ?_
      refine va_getN (D := G.1) (cl := xCl) (ci := 1) (v := .ref (G.2.1 37)) (C := R_Fields) (T := T_Fields) (N := 9) hx hb hu fi_Fields hown hK hw 31 (x_at (by decide) (xcl_31 G σ)) rfl 4 (by decide) (nl_20 hG) (fun _ h9 => h9) rfl d_Range_take_41 ?_
      refine lv_iload_n hx hb d_Range_take_44 rfl (lv_at hl 2 rfl) ?_
      obtain ⟨g45, hE⟩ := x_guard hE
      refine va_iald hx hb hK hw 37 0 (x_at (by decide) (xcl_37 G σ)) rfl g45 d_Range_take_45 ?_
      refine lv_topi (fun v46 e46 => ?_)
      replace hE := x_letT e46 hE
      refine lv_istore hx hb d_Range_take_46 hl (by decide) rfl (fun ls hl => ?_)
      have hl : lv_has ls 7 [(5, .int v46), (4, .int v38), (3, .ref (G.2.1 32)), (2, .int r3), (0, .ref (G.2.1 45)), (1, .ref (G.2.1 31))] := hl
      refine lv_iload hx hb d_Range_take_48 (lv_at hl 1 rfl) ?_
      refine lv_iload hx hb d_Range_take_50 (lv_at hl 0 rfl) ?_
      refine lv_icmp_gt (tgt := 71) hx hb d_Range_take_52 (by decide) (fun hc52 => ?_) (fun hc52 => ?_)
      · rw [if_pos hc52] at hE
        refine lv_iconst (v := (0 : Int32)) hx hb d_Range_take_71 (by decide) ?_
        obtain ⟨e1, e2⟩ := x_pair hE
        exact W.zret (v := (0 : Int32)) hx hb hr rfl (fun t ht hW => ⟨by rw [e1], by rw [ht, ← e2]; exact hw, hS.F ht⟩) hS.2.2 d_Range_take_72
      · rw [if_neg hc52] at hE
        refine lv_aload_n hx hb d_Range_take_55 rfl (lv_at hl 2 rfl) ?_
        refine lv_iload hx hb d_Range_take_56 (lv_at hl 1 rfl) ?_
        refine lv_bipush (v := (6 : Int32)) hx hb d_Range_take_58 (by decide) ?_
        refine lv_isub hx hb d_Range_take_60 ?_
        refine lv_iload hx hb d_Range_take_61 (lv_at hl 1 rfl) ?_
        refine va_ldcS hx hb hown (str_18 hN) d_Range_take_63 ?_
        obtain ⟨r65, hC65, hE⟩ := x_bind hE
        refine x_callR (W.runS (As := [.ref (G.2.1 32), .int (v38 - (6 : Int32)), .int v38, .ref (G.2.2.2.1 18)]) (rest := []) ⟨hx, hb, hml, hown, hu⟩ (t_Text_isWord l G σ 32 (v38 - (6 : Int32)) v38 18 (by decide) (by decide) r65 hC65) (va_cwS 4 hu (uw_S mw_880 mw_750 mw_75 mw_751) rfl rfl rfl hd_Text_isWord ⟨Nat.le_of_ble_eq_true rfl, Nat.le_of_ble_eq_true rfl⟩) (x_preS hC hS hw) rfl rfl hl.1 rfl (lv_room (Nat.le_of_ble_eq_true rfl)) d_Range_take_65 ⟨Nat.le_of_ble_eq_true rfl, Nat.le_of_ble_eq_true rfl⟩) ?_
        refine lv_if_ne (tgt := 73) hx hb d_Range_take_68 (by decide) (fun hc68 => ?_) (fun hc68 => ?_)
        · rw [if_neg hc68] at hE
          refine lv_aload_n hx hb d_Range_take_73 rfl (lv_at hl 2 rfl) ?_
          refine lv_bipush (v := (45 : Int32)) hx hb d_Range_take_74 (by decide) ?_
          refine lv_iload hx hb d_Range_take_76 (lv_at hl 1 rfl) ?_
          refine lv_iload hx hb d_Range_take_78 (lv_at hl 0 rfl) ?_
          obtain ⟨r80, hC80, hE⟩ := x_bind hE
          refine x_callR (W.runS (As := [.ref (G.2.1 32), .int (45 : Int32), .int v38, .int v46]) (rest := []) ⟨hx, hb, hml, hown, hu⟩ (t_Text_find l G σ 32 (45 : Int32) v38 v46 (by decide) r80 hC80) (va_cwS 4 hu (uw_S mw_881 mw_537 mw_75 mw_538) rfl rfl rfl hd_Text_find ⟨Nat.le_of_ble_eq_true rfl, Nat.le_of_ble_eq_true rfl⟩) (x_preS hC hS hw) rfl rfl hl.1 rfl (lv_room (Nat.le_of_ble_eq_true rfl)) d_Range_take_80 ⟨Nat.le_of_ble_eq_true rfl, Nat.le_of_ble_eq_true rfl⟩) ?_
          refine lv_istore hx hb d_Range_take_83 hl (by decide) rfl (fun ls hl => ?_)
          have hl : lv_has ls 7 [(6, .int r80), (5, .int v46), (4, .int v38), (3, .ref (G.2.1 32)), (2, .int r3), (0, .ref (G.2.1 45)), (1, .ref (G.2.1 31))] := hl
          refine lv_aload_n hx hb d_Range_take_85 rfl (lv_at hl 5 rfl) ?_
          refine lv_aload_n hx hb d_Range_take_86 rfl (lv_at hl 3 rfl) ?_
          refine lv_iload hx hb d_Range_take_87 (lv_at hl 2 rfl) ?_
          refine lv_iload hx hb d_Range_take_89 (lv_at hl 0 rfl) ?_
          obtain ⟨r91, hC91, hE⟩ := x_bind hE
          refine x_callR (W.runS (As := [.ref (G.2.1 32), .int v38, .int r80]) (rest := [.ref (G.2.1 45)]) ⟨hx, hb, hml, hown, hu⟩ (t_Text_number l G σ 32 v38 r80 (by decide) r91 hC91) (va_cwS 3 hu (uw_S mw_882 mw_801 mw_75 mw_802) rfl rfl rfl hd_Text_number ⟨Nat.le_of_ble_eq_true rfl, Nat.le_of_ble_eq_true rfl⟩) (x_preS hC hS hw) rfl rfl hl.1 rfl (lv_room (Nat.le_of_ble_eq_true rfl)) d_Range_take_91 ⟨Nat.le_of_ble_eq_true rfl, Nat.le_of_ble_eq_true rfl⟩) ?_
          refine va_put (D := G.1) (cl := xCl) (ci := 6) (v := .int r91) (ty := .int) (C := R_Range) (T := T_Range) (N := 2) hx hb hu fi_Range ty_Range tyok_Range nm_Range hown hK hw (x_D hI _) hS 45 (x_at (by decide) (xcl_45 G σ)) rfl 0 (by decide) (hu _ mw_281) (fun _ h9 => h9) rfl (tyok_Range 0 (by decide)) rfl rfl (Nat.le_of_ble_eq_true rfl) d_Range_take_94 (fun H locs hw _ hS => ?_)
          replace hw := x_setR hw (by decide) rfl
          obtain ⟨s94, e94, hE⟩ := x_letE hE
          rw [← e94] at hw
          refine lv_aload_n hx hb d_Range_take_97 rfl (lv_at hl 5 rfl) ?_
          refine lv_aload_n hx hb d_Range_take_98 rfl (lv_at hl 3 rfl) ?_
          refine lv_iload hx hb d_Range_take_99 (lv_at hl 0 rfl) ?_
          refine lv_iconst (v := (1 : Int32)) hx hb d_Range_take_101 (by decide) ?_
          refine lv_iadd hx hb d_Range_take_102 ?_
          refine lv_iload hx hb d_Range_take_103 (lv_at hl 1 rfl) ?_
          obtain ⟨r105, hC105, hE⟩ := x_bind hE
          refine x_callR (W.runS (As := [.ref (G.2.1 32), .int (r80 + (1 : Int32)), .int v46]) (rest := [.ref (G.2.1 45)]) ⟨hx, hb, hml, hown, hu⟩ (t_Text_number l G s94 32 (r80 + (1 : Int32)) v46 (by decide) r105 hC105) (va_cwS 3 hu (uw_S mw_882 mw_801 mw_75 mw_802) rfl rfl rfl hd_Text_number ⟨Nat.le_of_ble_eq_true rfl, Nat.le_of_ble_eq_true rfl⟩) (x_preS hC hS hw) rfl rfl hl.1 rfl (lv_room (Nat.le_of_ble_eq_true rfl)) d_Range_take_105 ⟨Nat.le_of_ble_eq_true rfl, Nat.le_of_ble_eq_true rfl⟩) ?_
          refine va_put (D := G.1) (cl := xCl) (ci := 6) (v := .int r105) (ty := .int) (C := R_Range) (T := T_Range) (N := 2) hx hb hu fi_Range ty_Range tyok_Range nm_Range hown hK hw (x_D hI _) hS 45 (x_at (by decide) (xcl_45 G s94)) rfl 1 (by decide) (hu _ mw_283) (fun _ h9 => h9) rfl (tyok_Range 1 (by decide)) rfl rfl (Nat.le_of_ble_eq_true rfl) d_Range_take_108 (fun H locs hw _ hS => ?_)
          replace hw := x_setR hw (by decide) rfl
          obtain ⟨s108, e108, hE⟩ := x_letE hE
          rw [← e108] at hw
          refine lv_iload hx hb d_Range_take_111 (lv_at hl 0 rfl) ?_
          refine lv_iload hx hb d_Range_take_113 (lv_at hl 2 rfl) ?_
          refine lv_icmp_ne (tgt := 131) hx hb d_Range_take_115 (by decide) (fun hc115 => ?_) (fun hc115 => ?_)
          · rw [if_neg hc115] at hE
            refine lv_iload hx hb d_Range_take_131 (lv_at hl 0 rfl) ?_
            refine lv_iconst (v := (1 : Int32)) hx hb d_Range_take_133 (by decide) ?_
            refine lv_iadd hx hb d_Range_take_134 ?_
            refine lv_iload hx hb d_Range_take_135 (lv_at hl 1 rfl) ?_
            refine lv_icmp_ne (tgt := 154) hx hb d_Range_take_137 (by decide) (fun hc137 => ?_) (fun hc137 => ?_)
            · rw [if_neg hc137] at hE
              refine lv_aload_n hx hb d_Range_take_154 rfl (lv_at hl 5 rfl) ?_
              refine va_get (D := G.1) (cl := xCl) (ci := 6) (v := .int (s108.1 45 0)) (C := R_Range) (T := T_Range) (N := 2) hx hb hu fi_Range hown hK hw 45 (x_at (by decide) (xcl_45 G s108)) rfl 0 (by decide) (hu _ mw_281) (fun _ h9 => h9) rfl d_Range_take_155 ?_
              refine lv_iconst (v := ((-1) : Int32)) hx hb d_Range_take_158 (by decide) ?_
              refine lv_icmp_eq (tgt := 177) hx hb d_Range_take_159 (by decide) (fun hc159 => ?_) (fun hc159 => ?_)
              · rw [if_pos hc159] at hE
                refine lv_iconst (v := (0 : Int32)) hx hb d_Range_take_177 (by decide) ?_
                obtain ⟨e1, e2⟩ := x_pair hE
                exact W.zret (v := (0 : Int32)) hx hb hr rfl (fun t ht hW => ⟨by rw [e1], by rw [ht, ← e2]; exact hw, hS.F ht⟩) hS.2.2 d_Range_take_178
              · rw [if_neg hc159] at hE
                refine lv_aload_n hx hb d_Range_take_162 rfl (lv_at hl 5 rfl) ?_
                refine va_get (D := G.1) (cl := xCl) (ci := 6) (v := .int (s108.1 45 0)) (C := R_Range) (T := T_Range) (N := 2) hx hb hu fi_Range hown hK hw 45 (x_at (by decide) (xcl_45 G s108)) rfl 0 (by decide) (hu _ mw_281) (fun _ h9 => h9) rfl d_Range_take_163 ?_
                refine lv_aload_n hx hb d_Range_take_166 rfl (lv_at hl 5 rfl) ?_
                refine va_get (D := G.1) (cl := xCl) (ci := 6) (v := .int (s108.1 45 1)) (C := R_Range) (T := T_Range) (N := 2) hx hb hu fi_Range hown hK hw 45 (x_at (by decide) (xcl_45 G s108)) rfl 1 (by decide) (hu _ mw_283) (fun _ h9 => h9) rfl d_Range_take_167 ?_
                refine lv_icmp_gt (tgt := 177) hx hb d_Range_take_170 (by decide) (fun hc170 => ?_) (fun hc170 => ?_)
                · rw [if_pos hc170] at hE
                  refine lv_iconst (v := (0 : Int32)) hx hb d_Range_take_177 (by decide) ?_
                  obtain ⟨e1, e2⟩ := x_pair hE
                  exact W.zret (v := (0 : Int32)) hx hb hr rfl (fun t ht hW => ⟨by rw [e1], by rw [ht, ← e2]; exact hw, hS.F ht⟩) hS.2.2 d_Range_take_178
                · rw [if_neg hc170] at hE
                  refine lv_iconst (v := (1 : Int32)) hx hb d_Range_take_173 (by decide) ?_
                  refine lv_goto (tgt := 178) hx hb d_Range_take_174 (by decide) ?_
                  obtain ⟨e1, e2⟩ := x_pair hE
                  exact W.zret (v := (1 : Int32)) hx hb hr rfl (fun t ht hW => ⟨by rw [e1], by rw [ht, ← e2]; exact hw, hS.F ht⟩) hS.2.2 d_Range_take_178
            · rw [if_pos hc137] at hE
              refine lv_aload_n hx hb d_Range_take_140 rfl (lv_at hl 5 rfl) ?_
              refine va_get (D := G.1) (cl := xCl) (ci := 6) (v := .int (s108.1 45 0)) (C := R_Range) (T := T_Range) (N := 2) hx hb hu fi_Range hown hK hw 45 (x_at (by decide) (xcl_45 G s108)) rfl 0 (by decide) (hu _ mw_281) (fun _ h9 => h9) rfl d_Range_take_141 ?_
              refine lv_iconst (v := ((-1) : Int32)) hx hb d_Range_take_144 (by decide) ?_
              refine lv_icmp_eq (tgt := 152) hx hb d_Range_take_145 (by decide) (fun hc145 => ?_) (fun hc145 => ?_)
              · rw [if_pos hc145] at hE
                refine lv_iconst (v := (0 : Int32)) hx hb d_Range_take_152 (by decide) ?_
                obtain ⟨e1, e2⟩ := x_pair hE
                exact W.zret (v := (0 : Int32)) hx hb hr rfl (fun t ht hW => ⟨by rw [e1], by rw [ht, ← e2]; exact hw, hS.F ht⟩) hS.2.2 d_Range_take_153
              · rw [if_neg hc145] at hE
                refine lv_iconst (v := (1 : Int32)) hx hb d_Range_take_148 (by decide) ?_
                refine lv_goto (tgt := 153) hx hb d_Range_take_149 (by decide) ?_
                obtain ⟨e1, e2⟩ := x_pair hE
                exact W.zret (v := (1 : Int32)) hx hb hr rfl (fun t ht hW => ⟨by rw [e1], by rw [ht, ← e2]; exact hw, hS.F ht⟩) hS.2.2 d_Range_take_153
          · rw [if_pos hc115] at hE
            refine lv_aload_n hx hb d_Range_take_118 rfl (lv_at hl 5 rfl) ?_
            refine va_get (D := G.1) (cl := xCl) (ci := 6) (v := .int (s108.1 45 1)) (C := R_Range) (T := T_Range) (N := 2) hx hb hu fi_Range hown hK hw 45 (x_at (by decide) (xcl_45 G s108)) rfl 1 (by decide) (hu _ mw_283) (fun _ h9 => h9) rfl d_Range_take_119 ?_
            refine lv_if_le (tgt := 129) hx hb d_Range_take_122 (by decide) (fun hc122 => ?_) (fun hc122 => ?_)
            · rw [if_pos hc122] at hE
              refine lv_iconst (v := (0 : Int32)) hx hb d_Range_take_129 (by decide) ?_
              obtain ⟨e1, e2⟩ := x_pair hE
              exact W.zret (v := (0 : Int32)) hx hb hr rfl (fun t ht hW => ⟨by rw [e1], by rw [ht, ← e2]; exact hw, hS.F ht⟩) hS.2.2 d_Range_take_130
            · rw [if_neg hc122] at hE
              refine lv_iconst (v := (1 : Int32)) hx hb d_Range_take_125 (by decide) ?_
              refine lv_goto (tgt := 130) hx hb d_Range_take_126 (by decide) ?_
              obtain ⟨e1, e2⟩ := x_pair hE
              exact W.zret (v := (1 : Int32)) hx hb hr rfl (fun t ht hW => ⟨by rw [e1], by rw [ht, ← e2]; exact hw, hS.F ht⟩) hS.2.2 d_Range_take_130
        · rw [if_pos hc68] at hE
          refine lv_iconst (v := (0 : Int32)) hx hb d_Range_take_71 (by decide) ?_
          obtain ⟨e1, e2⟩ := x_pair hE
          exact W.zret (v := (0 : Int32)) hx hb hr rfl (fun t ht hW => ⟨by rw [e1], by rw [ht, ← e2]; exact hw, hS.F ht⟩) hS.2.2 d_Range_take_72
    · rw [if_neg hc19] at hE
      refine lv_iconst (v := (0 : Int32)) hx hb d_Range_take_22 (by decide) ?_
      obtain ⟨e1, e2⟩ := x_pair hE
      exact W.zret (v := (0 : Int32)) hx hb hr rfl (fun t ht hW => ⟨by rw [e1], by rw [ht, ← e2]; exact hw, hS.F ht⟩) hS.2.2 d_Range_take_23
