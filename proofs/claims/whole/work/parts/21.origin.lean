def y_PlainOrigin_send : MethodName := ⟨"PlainOrigin", "send", "(I)V"⟩
def ws_PlainOrigin_send : List Cond := Cond.code y_PlainOrigin_send prog_1_method_15_code 3 none :: UW
theorem hd_PlainOrigin_send : y_PlainOrigin_send.cls = R_PlainOrigin ∧ y_PlainOrigin_send.cls ≠ "java/lang/invoke/MethodHandle" ∧ y_PlainOrigin_send.cls ≠ "java/lang/invoke/VarHandle" ∧ (parseMethodDescriptor y_PlainOrigin_send.desc).map (fun d => d.parameters.length) = some 1 := by decide +kernel
theorem d_PlainOrigin_send_0 : decode prog_1_method_15_code 0 = .ok (.iload_n 1, 1) := by decide +kernel
theorem d_PlainOrigin_send_1 : decode prog_1_method_15_code 1 = .ok (.iconst 3, 1) := by decide +kernel
theorem d_PlainOrigin_send_2 : decode prog_1_method_15_code 2 = .ok (.if_icmp .ne (7), 3) := by decide +kernel
theorem d_PlainOrigin_send_5 : decode prog_1_method_15_code 5 = .ok (.iconst 1, 1) := by decide +kernel
theorem d_PlainOrigin_send_6 : decode prog_1_method_15_code 6 = .ok (.goto (4), 3) := by decide +kernel
theorem d_PlainOrigin_send_9 : decode prog_1_method_15_code 9 = .ok (.iconst 0, 1) := by decide +kernel
theorem d_PlainOrigin_send_10 : decode prog_1_method_15_code 10 = .ok (.istore_n 2, 1) := by decide +kernel
theorem d_PlainOrigin_send_11 : decode prog_1_method_15_code 11 = .ok (.aload_n 0, 1) := by decide +kernel
theorem d_PlainOrigin_send_12 : decode prog_1_method_15_code 12 = .ok (.getfield 26, 3) := by decide +kernel
theorem d_PlainOrigin_send_15 : decode prog_1_method_15_code 15 = .ok (.iload_n 2, 1) := by decide +kernel
theorem d_PlainOrigin_send_16 : decode prog_1_method_15_code 16 = .ok (.ifCond .eq (16), 3) := by decide +kernel
theorem d_PlainOrigin_send_19 : decode prog_1_method_15_code 19 = .ok (.aload_n 0, 1) := by decide +kernel
theorem d_PlainOrigin_send_20 : decode prog_1_method_15_code 20 = .ok (.getfield 19, 3) := by decide +kernel
theorem d_PlainOrigin_send_23 : decode prog_1_method_15_code 23 = .ok (.getfield 59, 3) := by decide +kernel
theorem d_PlainOrigin_send_26 : decode prog_1_method_15_code 26 = .ok (.getfield 133, 3) := by decide +kernel
theorem d_PlainOrigin_send_29 : decode prog_1_method_15_code 29 = .ok (.goto (14), 3) := by decide +kernel
theorem d_PlainOrigin_send_32 : decode prog_1_method_15_code 32 = .ok (.iload_n 1, 1) := by decide +kernel
theorem d_PlainOrigin_send_33 : decode prog_1_method_15_code 33 = .ok (.bipush (100), 2) := by decide +kernel
theorem d_PlainOrigin_send_35 : decode prog_1_method_15_code 35 = .ok (.if_icmp .eq (7), 3) := by decide +kernel
theorem d_PlainOrigin_send_38 : decode prog_1_method_15_code 38 = .ok (.iconst 1, 1) := by decide +kernel
theorem d_PlainOrigin_send_39 : decode prog_1_method_15_code 39 = .ok (.goto (4), 3) := by decide +kernel
theorem d_PlainOrigin_send_42 : decode prog_1_method_15_code 42 = .ok (.iconst 0, 1) := by decide +kernel
theorem d_PlainOrigin_send_43 : decode prog_1_method_15_code 43 = .ok (.putfield 139, 3) := by decide +kernel
theorem d_PlainOrigin_send_46 : decode prog_1_method_15_code 46 = .ok (.aload_n 0, 1) := by decide +kernel
theorem d_PlainOrigin_send_47 : decode prog_1_method_15_code 47 = .ok (.getfield 26, 3) := by decide +kernel
theorem d_PlainOrigin_send_50 : decode prog_1_method_15_code 50 = .ok (.aload_n 0, 1) := by decide +kernel
theorem d_PlainOrigin_send_51 : decode prog_1_method_15_code 51 = .ok (.getfield 26, 3) := by decide +kernel
theorem d_PlainOrigin_send_54 : decode prog_1_method_15_code 54 = .ok (.getfield 139, 3) := by decide +kernel
theorem d_PlainOrigin_send_57 : decode prog_1_method_15_code 57 = .ok (.ifCond .ne (20), 3) := by decide +kernel
theorem d_PlainOrigin_send_60 : decode prog_1_method_15_code 60 = .ok (.aload_n 0, 1) := by decide +kernel
theorem d_PlainOrigin_send_61 : decode prog_1_method_15_code 61 = .ok (.getfield 19, 3) := by decide +kernel
theorem d_PlainOrigin_send_64 : decode prog_1_method_15_code 64 = .ok (.getfield 59, 3) := by decide +kernel
theorem d_PlainOrigin_send_67 : decode prog_1_method_15_code 67 = .ok (.invokevirtual 142, 3) := by decide +kernel
theorem d_PlainOrigin_send_70 : decode prog_1_method_15_code 70 = .ok (.ifCond .eq (7), 3) := by decide +kernel
theorem d_PlainOrigin_send_73 : decode prog_1_method_15_code 73 = .ok (.iconst 1, 1) := by decide +kernel
theorem d_PlainOrigin_send_74 : decode prog_1_method_15_code 74 = .ok (.goto (4), 3) := by decide +kernel
theorem d_PlainOrigin_send_77 : decode prog_1_method_15_code 77 = .ok (.iconst 0, 1) := by decide +kernel
theorem d_PlainOrigin_send_78 : decode prog_1_method_15_code 78 = .ok (.putfield 145, 3) := by decide +kernel
theorem d_PlainOrigin_send_81 : decode prog_1_method_15_code 81 = .ok (.aload_n 0, 1) := by decide +kernel
theorem d_PlainOrigin_send_82 : decode prog_1_method_15_code 82 = .ok (.getfield 33, 3) := by decide +kernel
theorem d_PlainOrigin_send_85 : decode prog_1_method_15_code 85 = .ok (.aload_n 0, 1) := by decide +kernel
theorem d_PlainOrigin_send_86 : decode prog_1_method_15_code 86 = .ok (.getfield 26, 3) := by decide +kernel
theorem d_PlainOrigin_send_89 : decode prog_1_method_15_code 89 = .ok (.invokevirtual 148, 3) := by decide +kernel
theorem d_PlainOrigin_send_92 : decode prog_1_method_15_code 92 = .ok (.aload_n 0, 1) := by decide +kernel
theorem d_PlainOrigin_send_93 : decode prog_1_method_15_code 93 = .ok (.aload_n 0, 1) := by decide +kernel
theorem d_PlainOrigin_send_94 : decode prog_1_method_15_code 94 = .ok (.getfield 26, 3) := by decide +kernel
theorem d_PlainOrigin_send_97 : decode prog_1_method_15_code 97 = .ok (.getfield 152, 3) := by decide +kernel
theorem d_PlainOrigin_send_100 : decode prog_1_method_15_code 100 = .ok (.putfield 37, 3) := by decide +kernel
theorem d_PlainOrigin_send_103 : decode prog_1_method_15_code 103 = .ok (.aload_n 0, 1) := by decide +kernel
theorem d_PlainOrigin_send_104 : decode prog_1_method_15_code 104 = .ok (.getfield 26, 3) := by decide +kernel
theorem d_PlainOrigin_send_107 : decode prog_1_method_15_code 107 = .ok (.getfield 139, 3) := by decide +kernel
theorem d_PlainOrigin_send_110 : decode prog_1_method_15_code 110 = .ok (.ifCond .eq (14), 3) := by decide +kernel
theorem d_PlainOrigin_send_113 : decode prog_1_method_15_code 113 = .ok (.aload_n 0, 1) := by decide +kernel
theorem d_PlainOrigin_send_114 : decode prog_1_method_15_code 114 = .ok (.getfield 19, 3) := by decide +kernel
theorem d_PlainOrigin_send_117 : decode prog_1_method_15_code 117 = .ok (.iconst (-1), 1) := by decide +kernel
theorem d_PlainOrigin_send_118 : decode prog_1_method_15_code 118 = .ok (.putfield 74, 3) := by decide +kernel
theorem d_PlainOrigin_send_121 : decode prog_1_method_15_code 121 = .ok (.goto (14), 3) := by decide +kernel
theorem d_PlainOrigin_send_124 : decode prog_1_method_15_code 124 = .ok (.iload_n 2, 1) := by decide +kernel
theorem d_PlainOrigin_send_125 : decode prog_1_method_15_code 125 = .ok (.ifCond .eq (10), 3) := by decide +kernel
theorem d_PlainOrigin_send_128 : decode prog_1_method_15_code 128 = .ok (.aload_n 0, 1) := by decide +kernel
theorem d_PlainOrigin_send_129 : decode prog_1_method_15_code 129 = .ok (.getfield 19, 3) := by decide +kernel
theorem d_PlainOrigin_send_132 : decode prog_1_method_15_code 132 = .ok (.invokevirtual 77, 3) := by decide +kernel
theorem d_PlainOrigin_send_135 : decode prog_1_method_15_code 135 = .ok (.return_, 1) := by decide +kernel
def x_PlainOrigin_send_78 (a1 : Int32) (l2 : Int32) (k0 : Int32) (σ : St) : Option St := (if x_bit k0 then (x_let (x_updR σ 44 6 k0) (fun (s78 : St) => (Option.bind (x_Outbox_write s78) (fun s89 => (x_let (x_updR s89 0 4 (s89.1 44 2)) (fun (s100 : St) => (if (s100.1 44 5) = 0 then (if l2 = 0 then some s100 else (Option.bind (x_Reader_restart s100) (fun s132 => some s132))) else (x_let (x_updR s100 27 2 ((-1) : Int32)) (fun (s118 : St) => some s118))))))))) else none)
def x_PlainOrigin_send_77 (a1 : Int32) (l2 : Int32) (σ : St) : Option St := x_PlainOrigin_send_78 a1 l2 (0 : Int32) σ
def x_PlainOrigin_send_43 (a1 : Int32) (l2 : Int32) (k0 : Int32) (σ : St) : Option St := (if x_bit k0 then (x_let (x_updR σ 44 5 k0) (fun (s43 : St) => (if (s43.1 44 5) = 0 then (Option.bind (x_Request_isOld s43) (fun r67 => (if r67 = 0 then x_PlainOrigin_send_77 a1 l2 s43 else x_PlainOrigin_send_78 a1 l2 (1 : Int32) s43))) else x_PlainOrigin_send_77 a1 l2 s43))) else none)
def x_PlainOrigin_send_10 (a1 : Int32) (k0 : Int32) (σ : St) : Option St := (if k0 = 0 then (if a1 = (100 : Int32) then x_PlainOrigin_send_43 a1 k0 (0 : Int32) σ else x_PlainOrigin_send_43 a1 k0 (1 : Int32) σ) else x_PlainOrigin_send_43 a1 k0 (σ.1 30 8) σ)
def x_PlainOrigin_send (a1 : Int32) (σ : St) : Option St := (if a1 = (3 : Int32) then x_PlainOrigin_send_10 a1 (1 : Int32) σ else x_PlainOrigin_send_10 a1 (0 : Int32) σ)
abbrev rm_PlainOrigin_send : Room := { frames := 8, cells := 0, slots := 0, locals := 171 }
set_option maxHeartbeats 4000000 in
set_option maxRecDepth 100000 in
theorem t_PlainOrigin_send (l : Launch) (G : xG) (σ : St) (a1 : Int32) (σ' : St) (hE : x_PlainOrigin_send a1 σ = some σ') : Met l y_PlainOrigin_send (ws_PlainOrigin_send) rm_PlainOrigin_send (xP G σ [.ref (G.2.1 0), .int a1]) (xQ G none σ') 0 0 (xA G) := by
  refine Met.ofW (cc := prog_1_method_15_code) (maxL := 3) (ret := none) (by decide) rfl ?_
  intro p e s m args below meth c s₁ B hml hv
  obtain ⟨rfl, hw, hC⟩ := hv
  have hx := B.exec
  have hb := B.bytes
  have hr := B.returns
  have hu : ∀ w ∈ UW, w.before _ s = true := fun w h => atoms_spec B.pre w (List.mem_cons_of_mem _ h)
  have hown : s.vm.findClass R_PlainOrigin = some m.cls := findClass_of_methodNamed B.named
  have hlocks := B.notSynchronized
  have hK := hC.1
  have hI := hC.2.1
  have hG := hC.2.2.1
  have hN := hC.2.2.2
  have hS : va_S (xA G) s.heap s.heap [] := va_S.rf
  have jn78 : ∀ (ls : Array Slot) (H : Heap) (locs : List Loc) (σ : St) (l2 : Int32) (k0 : Int32), x_PlainOrigin_send_78 a1 l2 k0 σ = some σ' → lv_has ls 3 [(0, .ref (G.2.1 0)), (1, .int a1), (2, .int l2)] → xw G σ H → va_S (xA G) s.heap H locs → W p l e (headSpec (ws_PlainOrigin_send) rm_PlainOrigin_send).room s m ([.ref (G.2.1 0), .int a1] : List Value).toArray below meth c H locs 0 0 (MQ below (xQ G none σ') ([.ref (G.2.1 0), .int a1] : List Value).toArray s 0 0 (xA G)) (F0 m 78 ls [.int k0, .ref (G.2.1 44)]) := by
    intro ls H locs σ l2 k0 hE hl hw hS
    unfold x_PlainOrigin_send_78 at hE
    obtain ⟨g78, hE⟩ := x_guard hE
    refine va_putN (D := G.1) (cl := xCl) (ci := 7) (v := .int k0) (ty := .boolean) (C := R_Answer) (T := T_Answer) (N := 12) hx hb hu fi_Answer ty_Answer tyok_Answer nm_Answer hown hK hw (x_D hI _) hS 44 (x_at (by decide) (xcl_44 G σ)) rfl 6 (by decide) (nl_44 hG) (fun _ h9 => h9) rfl (tyok_Answer 6 (by decide)) (x_nz g78) (x_fz g78) (Nat.le_of_ble_eq_true rfl) d_PlainOrigin_send_78 (fun H locs hw _ hS => ?_)
    replace hw := x_setR hw (by decide) rfl
    obtain ⟨s78, e78, hE⟩ := x_letE hE
    rw [← e78] at hw
    refine lv_aload_n hx hb d_PlainOrigin_send_81 rfl (lv_at hl 0 rfl) ?_
    refine va_get (D := G.1) (cl := xCl) (ci := 9) (v := .ref (G.2.1 48)) (C := R_PlainOrigin) (T := T_PlainOrigin) (N := 5) hx hb hu fi_PlainOrigin hown hK hw 0 (x_at (by decide) (xcl_0 G s78)) rfl 3 (by decide) (hu _ mw_360) (fun _ h9 => h9) rfl d_PlainOrigin_send_82 ?_
    refine lv_aload_n hx hb d_PlainOrigin_send_85 rfl (lv_at hl 0 rfl) ?_
    refine va_get (D := G.1) (cl := xCl) (ci := 9) (v := .ref (G.2.1 44)) (C := R_PlainOrigin) (T := T_PlainOrigin) (N := 5) hx hb hu fi_PlainOrigin hown hK hw 0 (x_at (by decide) (xcl_0 G s78)) rfl 2 (by decide) (hu _ mw_359) (fun _ h9 => h9) rfl d_PlainOrigin_send_86 ?_
    obtain ⟨s89, hC89, hE⟩ := x_bind hE
    refine x_callV hS (W.runV (As := [.ref (G.2.1 44)]) (rest := []) ⟨hx, hb, hml, hown, hu⟩ (t_Outbox_write l G s78 s89 hC89) (cwV 1 hu (uw_V mw_917 mw_918 mw_919 mw_69 mw_920) rfl rfl rfl hd_Outbox_write ⟨Nat.le_of_ble_eq_true rfl, Nat.le_of_ble_eq_true rfl⟩) (x_preV hC hS hw (va_recv hK hw (q := (R_Outbox, T_Outbox, 2)) (ci := 8) rfl (x_at (by decide) (xcl_48 G s78)))) rfl rfl hl.1 rfl (lv_room (Nat.le_of_ble_eq_true rfl)) d_PlainOrigin_send_89 ⟨Nat.le_of_ble_eq_true rfl, Nat.le_of_ble_eq_true rfl⟩) (fun H locs hw hS => ?_)
    refine lv_aload_n hx hb d_PlainOrigin_send_92 rfl (lv_at hl 0 rfl) ?_
    refine lv_aload_n hx hb d_PlainOrigin_send_93 rfl (lv_at hl 0 rfl) ?_
    refine va_get (D := G.1) (cl := xCl) (ci := 9) (v := .ref (G.2.1 44)) (C := R_PlainOrigin) (T := T_PlainOrigin) (N := 5) hx hb hu fi_PlainOrigin hown hK hw 0 (x_at (by decide) (xcl_0 G s89)) rfl 2 (by decide) (hu _ mw_359) (fun _ h9 => h9) rfl d_PlainOrigin_send_94 ?_
    refine va_getN (D := G.1) (cl := xCl) (ci := 7) (v := .int (s89.1 44 2)) (C := R_Answer) (T := T_Answer) (N := 12) hx hb hu fi_Answer hown hK hw 44 (x_at (by decide) (xcl_44 G s89)) rfl 2 (by decide) (nl_38 hG) (fun _ h9 => h9) rfl d_PlainOrigin_send_97 ?_
    refine va_put (D := G.1) (cl := xCl) (ci := 9) (v := .int (s89.1 44 2)) (ty := .int) (C := R_PlainOrigin) (T := T_PlainOrigin) (N := 5) hx hb hu fi_PlainOrigin ty_PlainOrigin tyok_PlainOrigin nm_PlainOrigin hown hK hw (x_D hI _) hS 0 (x_at (by decide) (xcl_0 G s89)) rfl 4 (by decide) (hu _ mw_361) (fun _ h9 => h9) rfl (tyok_PlainOrigin 4 (by decide)) rfl rfl (Nat.le_of_ble_eq_true rfl) d_PlainOrigin_send_100 (fun H locs hw _ hS => ?_)
    replace hw := x_setR hw (by decide) rfl
    obtain ⟨s100, e100, hE⟩ := x_letE hE
    rw [← e100] at hw
    refine lv_aload_n hx hb d_PlainOrigin_send_103 rfl (lv_at hl 0 rfl) ?_
    refine va_get (D := G.1) (cl := xCl) (ci := 9) (v := .ref (G.2.1 44)) (C := R_PlainOrigin) (T := T_PlainOrigin) (N := 5) hx hb hu fi_PlainOrigin hown hK hw 0 (x_at (by decide) (xcl_0 G s100)) rfl 2 (by decide) (hu _ mw_359) (fun _ h9 => h9) rfl d_PlainOrigin_send_104 ?_
    refine va_getN (D := G.1) (cl := xCl) (ci := 7) (v := .int (s100.1 44 5)) (C := R_Answer) (T := T_Answer) (N := 12) hx hb hu fi_Answer hown hK hw 44 (x_at (by decide) (xcl_44 G s100)) rfl 5 (by decide) (nl_42 hG) (fun _ h9 => h9) rfl d_PlainOrigin_send_107 ?_
    refine lv_if_eq (tgt := 124) hx hb d_PlainOrigin_send_110 (by decide) (fun hc110 => ?_) (fun hc110 => ?_)
    · rw [if_pos hc110] at hE
      refine lv_iload_n hx hb d_PlainOrigin_send_124 rfl (lv_at hl 2 rfl) ?_
      refine lv_if_eq (tgt := 135) hx hb d_PlainOrigin_send_125 (by decide) (fun hc125 => ?_) (fun hc125 => ?_)
      · rw [if_pos hc125] at hE
        have e1 := Option.some.inj hE
        exact W.vret hx hb hr (fun t ht hW => ⟨rfl, by rw [ht, ← e1]; exact hw, hS.F ht⟩) hS.2.2 d_PlainOrigin_send_135
      · rw [if_neg hc125] at hE
        refine lv_aload_n hx hb d_PlainOrigin_send_128 rfl (lv_at hl 0 rfl) ?_
        refine va_get (D := G.1) (cl := xCl) (ci := 9) (v := .ref (G.2.1 27)) (C := R_PlainOrigin) (T := T_PlainOrigin) (N := 5) hx hb hu fi_PlainOrigin hown hK hw 0 (x_at (by decide) (xcl_0 G s100)) rfl 1 (by decide) (hu _ mw_358) (fun _ h9 => h9) rfl d_PlainOrigin_send_129 ?_
        obtain ⟨s132, hC132, hE⟩ := x_bind hE
        refine x_callV hS (W.runV (As := []) (rest := []) ⟨hx, hb, hml, hown, hu⟩ (t_Reader_restart l G s100 s132 hC132) (cwV 0 hu (uw_V mw_381 mw_382 mw_383 mw_64 mw_384) rfl rfl rfl hd_Reader_restart ⟨Nat.le_of_ble_eq_true rfl, Nat.le_of_ble_eq_true rfl⟩) (x_preV hC hS hw (va_recv hK hw (q := (R_Reader, T_Reader, 6)) (ci := 3) rfl (x_at (by decide) (xcl_27 G s100)))) rfl rfl hl.1 rfl (lv_room (Nat.le_of_ble_eq_true rfl)) d_PlainOrigin_send_132 ⟨Nat.le_of_ble_eq_true rfl, Nat.le_of_ble_eq_true rfl⟩) (fun H locs hw hS => ?_)
        have e1 := Option.some.inj hE
        exact W.vret hx hb hr (fun t ht hW => ⟨rfl, by rw [ht, ← e1]; exact hw, hS.F ht⟩) hS.2.2 d_PlainOrigin_send_135
    · rw [if_neg hc110] at hE
      refine lv_aload_n hx hb d_PlainOrigin_send_113 rfl (lv_at hl 0 rfl) ?_
      refine va_get (D := G.1) (cl := xCl) (ci := 9) (v := .ref (G.2.1 27)) (C := R_PlainOrigin) (T := T_PlainOrigin) (N := 5) hx hb hu fi_PlainOrigin hown hK hw 0 (x_at (by decide) (xcl_0 G s100)) rfl 1 (by decide) (hu _ mw_358) (fun _ h9 => h9) rfl d_PlainOrigin_send_114 ?_
      refine lv_iconst (v := ((-1) : Int32)) hx hb d_PlainOrigin_send_117 (by decide) ?_
      refine va_putN (D := G.1) (cl := xCl) (ci := 3) (v := .int ((-1) : Int32)) (ty := .int) (C := R_Reader) (T := T_Reader) (N := 6) hx hb hu fi_Reader ty_Reader tyok_Reader nm_Reader hown hK hw (x_D hI _) hS 27 (x_at (by decide) (xcl_27 G s100)) rfl 2 (by decide) (nl_34 hG) (fun _ h9 => h9) rfl (tyok_Reader 2 (by decide)) rfl rfl (Nat.le_of_ble_eq_true rfl) d_PlainOrigin_send_118 (fun H locs hw _ hS => ?_)
      replace hw := x_setR hw (by decide) rfl
      obtain ⟨s118, e118, hE⟩ := x_letE hE
      rw [← e118] at hw
      refine lv_goto (tgt := 135) hx hb d_PlainOrigin_send_121 (by decide) ?_
      have e1 := Option.some.inj hE
      exact W.vret hx hb hr (fun t ht hW => ⟨rfl, by rw [ht, ← e1]; exact hw, hS.F ht⟩) hS.2.2 d_PlainOrigin_send_135
  have jn77 : ∀ (ls : Array Slot) (H : Heap) (locs : List Loc) (σ : St) (l2 : Int32), x_PlainOrigin_send_77 a1 l2 σ = some σ' → lv_has ls 3 [(0, .ref (G.2.1 0)), (1, .int a1), (2, .int l2)] → xw G σ H → va_S (xA G) s.heap H locs → W p l e (headSpec (ws_PlainOrigin_send) rm_PlainOrigin_send).room s m ([.ref (G.2.1 0), .int a1] : List Value).toArray below meth c H locs 0 0 (MQ below (xQ G none σ') ([.ref (G.2.1 0), .int a1] : List Value).toArray s 0 0 (xA G)) (F0 m 77 ls [.ref (G.2.1 44)]) := by
    intro ls H locs σ l2 hE hl hw hS
    unfold x_PlainOrigin_send_77 at hE
    refine lv_iconst (v := (0 : Int32)) hx hb d_PlainOrigin_send_77 (by decide) ?_
    exact jn78 _ _ _ _ _ _ hE (lv_sub hl [0, 1, 2] rfl) hw hS
  have jn43 : ∀ (ls : Array Slot) (H : Heap) (locs : List Loc) (σ : St) (l2 : Int32) (k0 : Int32), x_PlainOrigin_send_43 a1 l2 k0 σ = some σ' → lv_has ls 3 [(0, .ref (G.2.1 0)), (1, .int a1), (2, .int l2)] → xw G σ H → va_S (xA G) s.heap H locs → W p l e (headSpec (ws_PlainOrigin_send) rm_PlainOrigin_send).room s m ([.ref (G.2.1 0), .int a1] : List Value).toArray below meth c H locs 0 0 (MQ below (xQ G none σ') ([.ref (G.2.1 0), .int a1] : List Value).toArray s 0 0 (xA G)) (F0 m 43 ls [.int k0, .ref (G.2.1 44)]) := by
    intro ls H locs σ l2 k0 hE hl hw hS
    unfold x_PlainOrigin_send_43 at hE
    obtain ⟨g43, hE⟩ := x_guard hE
    refine va_putN (D := G.1) (cl := xCl) (ci := 7) (v := .int k0) (ty := .boolean) (C := R_Answer) (T := T_Answer) (N := 12) hx hb hu fi_Answer ty_Answer tyok_Answer nm_Answer hown hK hw (x_D hI _) hS 44 (x_at (by decide) (xcl_44 G σ)) rfl 5 (by decide) (nl_42 hG) (fun _ h9 => h9) rfl (tyok_Answer 5 (by decide)) (x_nz g43) (x_fz g43) (Nat.le_of_ble_eq_true rfl) d_PlainOrigin_send_43 (fun H locs hw _ hS => ?_)
    replace hw := x_setR hw (by decide) rfl
    obtain ⟨s43, e43, hE⟩ := x_letE hE
    rw [← e43] at hw
    refine lv_aload_n hx hb d_PlainOrigin_send_46 rfl (lv_at hl 0 rfl) ?_
    refine va_get (D := G.1) (cl := xCl) (ci := 9) (v := .ref (G.2.1 44)) (C := R_PlainOrigin) (T := T_PlainOrigin) (N := 5) hx hb hu fi_PlainOrigin hown hK hw 0 (x_at (by decide) (xcl_0 G s43)) rfl 2 (by decide) (hu _ mw_359) (fun _ h9 => h9) rfl d_PlainOrigin_send_47 ?_
    refine lv_aload_n hx hb d_PlainOrigin_send_50 rfl (lv_at hl 0 rfl) ?_
    refine va_get (D := G.1) (cl := xCl) (ci := 9) (v := .ref (G.2.1 44)) (C := R_PlainOrigin) (T := T_PlainOrigin) (N := 5) hx hb hu fi_PlainOrigin hown hK hw 0 (x_at (by decide) (xcl_0 G s43)) rfl 2 (by decide) (hu _ mw_359) (fun _ h9 => h9) rfl d_PlainOrigin_send_51 ?_
    refine va_getN (D := G.1) (cl := xCl) (ci := 7) (v := .int (s43.1 44 5)) (C := R_Answer) (T := T_Answer) (N := 12) hx hb hu fi_Answer hown hK hw 44 (x_at (by decide) (xcl_44 G s43)) rfl 5 (by decide) (nl_42 hG) (fun _ h9 => h9) rfl d_PlainOrigin_send_54 ?_
    refine lv_if_ne (tgt := 77) hx hb d_PlainOrigin_send_57 (by decide) (fun hc57 => ?_) (fun hc57 => ?_)
    · rw [if_neg hc57] at hE
      exact jn77 _ _ _ _ _ hE (lv_sub hl [0, 1, 2] rfl) hw hS
    · rw [if_pos hc57] at hE
      refine lv_aload_n hx hb d_PlainOrigin_send_60 rfl (lv_at hl 0 rfl) ?_
      refine va_get (D := G.1) (cl := xCl) (ci := 9) (v := .ref (G.2.1 27)) (C := R_PlainOrigin) (T := T_PlainOrigin) (N := 5) hx hb hu fi_PlainOrigin hown hK hw 0 (x_at (by decide) (xcl_0 G s43)) rfl 1 (by decide) (hu _ mw_358) (fun _ h9 => h9) rfl d_PlainOrigin_send_61 ?_
      refine va_getN (D := G.1) (cl := xCl) (ci := 3) (v := .ref (G.2.1 30)) (C := R_Reader) (T := T_Reader) (N := 6) hx hb hu fi_Reader hown hK hw 27 (x_at (by decide) (xcl_27 G s43)) rfl 1 (by decide) (nl_33 hG) (fun _ h9 => h9) rfl d_PlainOrigin_send_64 ?_
      obtain ⟨r67, hC67, hE⟩ := x_bind hE
      refine x_callR (W.runV (As := []) (rest := [.ref (G.2.1 44)]) ⟨hx, hb, hml, hown, hu⟩ (t_Request_isOld l G s43 r67 hC67) (cwV 0 hu (uw_V mw_916 mw_756 mw_757 mw_65 mw_758) rfl rfl rfl hd_Request_isOld ⟨Nat.le_of_ble_eq_true rfl, Nat.le_of_ble_eq_true rfl⟩) (x_preV hC hS hw (va_recv hK hw (q := (R_Request, T_Request, 9)) (ci := 2) rfl (x_at (by decide) (xcl_30 G s43)))) rfl rfl hl.1 rfl (lv_room (Nat.le_of_ble_eq_true rfl)) d_PlainOrigin_send_67 ⟨Nat.le_of_ble_eq_true rfl, Nat.le_of_ble_eq_true rfl⟩) ?_
      refine lv_if_eq (tgt := 77) hx hb d_PlainOrigin_send_70 (by decide) (fun hc70 => ?_) (fun hc70 => ?_)
      · rw [if_pos hc70] at hE
        exact jn77 _ _ _ _ _ hE (lv_sub hl [0, 1, 2] rfl) hw hS
      · rw [if_neg hc70] at hE
        refine lv_iconst (v := (1 : Int32)) hx hb d_PlainOrigin_send_73 (by decide) ?_
        refine lv_goto (tgt := 78) hx hb d_PlainOrigin_send_74 (by decide) ?_
        exact jn78 _ _ _ _ _ _ hE (lv_sub hl [0, 1, 2] rfl) hw hS
  have jn10 : ∀ (ls : Array Slot) (H : Heap) (locs : List Loc) (σ : St) (k0 : Int32), x_PlainOrigin_send_10 a1 k0 σ = some σ' → lv_has ls 3 [(0, .ref (G.2.1 0)), (1, .int a1)] → xw G σ H → va_S (xA G) s.heap H locs → W p l e (headSpec (ws_PlainOrigin_send) rm_PlainOrigin_send).room s m ([.ref (G.2.1 0), .int a1] : List Value).toArray below meth c H locs 0 0 (MQ below (xQ G none σ') ([.ref (G.2.1 0), .int a1] : List Value).toArray s 0 0 (xA G)) (F0 m 10 ls [.int k0]) := by
    intro ls H locs σ k0 hE hl hw hS
    unfold x_PlainOrigin_send_10 at hE
    refine lv_istore_n hx hb d_PlainOrigin_send_10 rfl hl (by decide) rfl (fun ls hl => ?_)
    have hl : lv_has ls 3 [(2, .int k0), (0, .ref (G.2.1 0)), (1, .int a1)] := hl
    refine lv_aload_n hx hb d_PlainOrigin_send_11 rfl (lv_at hl 1 rfl) ?_
    refine va_get (D := G.1) (cl := xCl) (ci := 9) (v := .ref (G.2.1 44)) (C := R_PlainOrigin) (T := T_PlainOrigin) (N := 5) hx hb hu fi_PlainOrigin hown hK hw 0 (x_at (by decide) (xcl_0 G σ)) rfl 2 (by decide) (hu _ mw_359) (fun _ h9 => h9) rfl d_PlainOrigin_send_12 ?_
    refine lv_iload_n hx hb d_PlainOrigin_send_15 rfl (lv_at hl 0 rfl) ?_
    refine lv_if_eq (tgt := 32) hx hb d_PlainOrigin_send_16 (by decide) (fun hc16 => ?_) (fun hc16 => ?_)
    · rw [if_pos hc16] at hE
      refine lv_iload_n hx hb d_PlainOrigin_send_32 rfl (lv_at hl 2 rfl) ?_
      refine lv_bipush (v := (100 : Int32)) hx hb d_PlainOrigin_send_33 (by decide) ?_
      refine lv_icmp_eq (tgt := 42) hx hb d_PlainOrigin_send_35 (by decide) (fun hc35 => ?_) (fun hc35 => ?_)
      · rw [if_pos hc35] at hE
        refine lv_iconst (v := (0 : Int32)) hx hb d_PlainOrigin_send_42 (by decide) ?_
        exact jn43 _ _ _ _ _ _ hE (lv_sub hl [1, 2, 0] rfl) hw hS
      · rw [if_neg hc35] at hE
        refine lv_iconst (v := (1 : Int32)) hx hb d_PlainOrigin_send_38 (by decide) ?_
        refine lv_goto (tgt := 43) hx hb d_PlainOrigin_send_39 (by decide) ?_
        exact jn43 _ _ _ _ _ _ hE (lv_sub hl [1, 2, 0] rfl) hw hS
    · rw [if_neg hc16] at hE
      refine lv_aload_n hx hb d_PlainOrigin_send_19 rfl (lv_at hl 1 rfl) ?_
      refine va_get (D := G.1) (cl := xCl) (ci := 9) (v := .ref (G.2.1 27)) (C := R_PlainOrigin) (T := T_PlainOrigin) (N := 5) hx hb hu fi_PlainOrigin hown hK hw 0 (x_at (by decide) (xcl_0 G σ)) rfl 1 (by decide) (hu _ mw_358) (fun _ h9 => h9) rfl d_PlainOrigin_send_20 ?_
      refine va_getN (D := G.1) (cl := xCl) (ci := 3) (v := .ref (G.2.1 30)) (C := R_Reader) (T := T_Reader) (N := 6) hx hb hu fi_Reader hown hK hw 27 (x_at (by decide) (xcl_27 G σ)) rfl 1 (by decide) (nl_33 hG) (fun _ h9 => h9) rfl d_PlainOrigin_send_23 ?_
      refine va_getN (D := G.1) (cl := xCl) (ci := 2) (v := .int (σ.1 30 8)) (C := R_Request) (T := T_Request) (N := 9) hx hb hu fi_Request hown hK hw 30 (x_at (by decide) (xcl_30 G σ)) rfl 8 (by decide) (nl_32 hG) (fun _ h9 => h9) rfl d_PlainOrigin_send_26 ?_
      refine lv_goto (tgt := 43) hx hb d_PlainOrigin_send_29 (by decide) ?_
      exact jn43 _ _ _ _ _ _ hE (lv_sub hl [1, 2, 0] rfl) hw hS
  have hl := lv_entry ([.ref (G.2.1 0), .int a1]) (n := 3) (Nat.le_of_ble_eq_true rfl)
  rw [lg_entry_eq]
  generalize (lg_sl ([.ref (G.2.1 0), .int a1]) ++ List.replicate (3 - (lg_sl ([.ref (G.2.1 0), .int a1])).length) Slot.unset).toArray = ls at hl ⊢
  have hl : lv_has ls 3 [(0, .ref (G.2.1 0)), (1, .int a1)] := hl
  unfold x_PlainOrigin_send at hE
  refine lv_iload_n hx hb d_PlainOrigin_send_0 rfl (lv_at hl 1 rfl) ?_
  refine lv_iconst (v := (3 : Int32)) hx hb d_PlainOrigin_send_1 (by decide) ?_
  refine lv_icmp_ne (tgt := 9) hx hb d_PlainOrigin_send_2 (by decide) (fun hc2 => ?_) (fun hc2 => ?_)
  · rw [if_neg hc2] at hE
    refine lv_iconst (v := (0 : Int32)) hx hb d_PlainOrigin_send_9 (by decide) ?_
    exact jn10 _ _ _ _ _ hE (lv_sub hl [0, 1] rfl) hw hS
  · rw [if_pos hc2] at hE
    refine lv_iconst (v := (1 : Int32)) hx hb d_PlainOrigin_send_5 (by decide) ?_
    refine lv_goto (tgt := 10) hx hb d_PlainOrigin_send_6 (by decide) ?_
    exact jn10 _ _ _ _ _ hE (lv_sub hl [0, 1] rfl) hw hS

def y_PlainOrigin_feed : MethodName := ⟨"PlainOrigin", "feed", "(JI)I"⟩
def ws_PlainOrigin_feed : List Cond := Cond.code y_PlainOrigin_feed prog_1_method_2_code 7 (some .int) :: UW
theorem hd_PlainOrigin_feed : y_PlainOrigin_feed.cls = R_PlainOrigin ∧ y_PlainOrigin_feed.cls ≠ "java/lang/invoke/MethodHandle" ∧ y_PlainOrigin_feed.cls ≠ "java/lang/invoke/VarHandle" ∧ (parseMethodDescriptor y_PlainOrigin_feed.desc).map (fun d => d.parameters.length) = some 2 := by decide +kernel
theorem d_PlainOrigin_feed_0 : decode prog_1_method_2_code 0 = .ok (.iload_n 3, 1) := by decide +kernel
theorem d_PlainOrigin_feed_1 : decode prog_1_method_2_code 1 = .ok (.ifCond .lt (9), 3) := by decide +kernel
theorem d_PlainOrigin_feed_4 : decode prog_1_method_2_code 4 = .ok (.iload_n 3, 1) := by decide +kernel
theorem d_PlainOrigin_feed_5 : decode prog_1_method_2_code 5 = .ok (.bipush (8), 2) := by decide +kernel
theorem d_PlainOrigin_feed_7 : decode prog_1_method_2_code 7 = .ok (.if_icmp .le (13), 3) := by decide +kernel
theorem d_PlainOrigin_feed_10 : decode prog_1_method_2_code 10 = .ok (.new 41, 3) := by decide +kernel
theorem d_PlainOrigin_feed_13 : decode prog_1_method_2_code 13 = .ok (.dup, 1) := by decide +kernel
theorem d_PlainOrigin_feed_14 : decode prog_1_method_2_code 14 = .ok (.ldc 43, 2) := by decide +kernel
theorem d_PlainOrigin_feed_16 : decode prog_1_method_2_code 16 = .ok (.invokespecial 45, 3) := by decide +kernel
theorem d_PlainOrigin_feed_19 : decode prog_1_method_2_code 19 = .ok (.athrow, 1) := by decide +kernel
theorem d_PlainOrigin_feed_20 : decode prog_1_method_2_code 20 = .ok (.iconst 0, 1) := by decide +kernel
theorem d_PlainOrigin_feed_21 : decode prog_1_method_2_code 21 = .ok (.istore 4, 2) := by decide +kernel
theorem d_PlainOrigin_feed_23 : decode prog_1_method_2_code 23 = .ok (.iconst 0, 1) := by decide +kernel
theorem d_PlainOrigin_feed_24 : decode prog_1_method_2_code 24 = .ok (.istore 5, 2) := by decide +kernel
theorem d_PlainOrigin_feed_26 : decode prog_1_method_2_code 26 = .ok (.iload 5, 2) := by decide +kernel
theorem d_PlainOrigin_feed_28 : decode prog_1_method_2_code 28 = .ok (.iload_n 3, 1) := by decide +kernel
theorem d_PlainOrigin_feed_29 : decode prog_1_method_2_code 29 = .ok (.if_icmp .ge (113), 3) := by decide +kernel
theorem d_PlainOrigin_feed_32 : decode prog_1_method_2_code 32 = .ok (.aload_n 0, 1) := by decide +kernel
theorem d_PlainOrigin_feed_33 : decode prog_1_method_2_code 33 = .ok (.getfield 19, 3) := by decide +kernel
theorem d_PlainOrigin_feed_36 : decode prog_1_method_2_code 36 = .ok (.lload_n 1, 1) := by decide +kernel
theorem d_PlainOrigin_feed_37 : decode prog_1_method_2_code 37 = .ok (.bipush (8), 2) := by decide +kernel
theorem d_PlainOrigin_feed_39 : decode prog_1_method_2_code 39 = .ok (.iload 5, 2) := by decide +kernel
theorem d_PlainOrigin_feed_41 : decode prog_1_method_2_code 41 = .ok (.imul, 1) := by decide +kernel
theorem d_PlainOrigin_feed_42 : decode prog_1_method_2_code 42 = .ok (.lushr, 1) := by decide +kernel
theorem d_PlainOrigin_feed_43 : decode prog_1_method_2_code 43 = .ok (.l2i, 1) := by decide +kernel
theorem d_PlainOrigin_feed_44 : decode prog_1_method_2_code 44 = .ok (.sipush (255), 3) := by decide +kernel
theorem d_PlainOrigin_feed_47 : decode prog_1_method_2_code 47 = .ok (.iand, 1) := by decide +kernel
theorem d_PlainOrigin_feed_48 : decode prog_1_method_2_code 48 = .ok (.invokevirtual 48, 3) := by decide +kernel
theorem d_PlainOrigin_feed_51 : decode prog_1_method_2_code 51 = .ok (.istore 6, 2) := by decide +kernel
theorem d_PlainOrigin_feed_53 : decode prog_1_method_2_code 53 = .ok (.iload 6, 2) := by decide +kernel
theorem d_PlainOrigin_feed_55 : decode prog_1_method_2_code 55 = .ok (.iconst 1, 1) := by decide +kernel
theorem d_PlainOrigin_feed_56 : decode prog_1_method_2_code 56 = .ok (.if_icmp .ne (12), 3) := by decide +kernel
theorem d_PlainOrigin_feed_59 : decode prog_1_method_2_code 59 = .ok (.aload_n 0, 1) := by decide +kernel
theorem d_PlainOrigin_feed_60 : decode prog_1_method_2_code 60 = .ok (.getfield 19, 3) := by decide +kernel
theorem d_PlainOrigin_feed_63 : decode prog_1_method_2_code 63 = .ok (.invokevirtual 52, 3) := by decide +kernel
theorem d_PlainOrigin_feed_66 : decode prog_1_method_2_code 66 = .ok (.istore 6, 2) := by decide +kernel
theorem d_PlainOrigin_feed_68 : decode prog_1_method_2_code 68 = .ok (.iload 6, 2) := by decide +kernel
theorem d_PlainOrigin_feed_70 : decode prog_1_method_2_code 70 = .ok (.iconst 2, 1) := by decide +kernel
theorem d_PlainOrigin_feed_71 : decode prog_1_method_2_code 71 = .ok (.if_icmp .ne (12), 3) := by decide +kernel
theorem d_PlainOrigin_feed_74 : decode prog_1_method_2_code 74 = .ok (.aload_n 0, 1) := by decide +kernel
theorem d_PlainOrigin_feed_75 : decode prog_1_method_2_code 75 = .ok (.getfield 19, 3) := by decide +kernel
theorem d_PlainOrigin_feed_78 : decode prog_1_method_2_code 78 = .ok (.invokevirtual 56, 3) := by decide +kernel
theorem d_PlainOrigin_feed_81 : decode prog_1_method_2_code 81 = .ok (.istore 6, 2) := by decide +kernel
theorem d_PlainOrigin_feed_83 : decode prog_1_method_2_code 83 = .ok (.iload 6, 2) := by decide +kernel
theorem d_PlainOrigin_feed_85 : decode prog_1_method_2_code 85 = .ok (.ifCond .ne (6), 3) := by decide +kernel
theorem d_PlainOrigin_feed_88 : decode prog_1_method_2_code 88 = .ok (.goto (48), 3) := by decide +kernel
theorem d_PlainOrigin_feed_91 : decode prog_1_method_2_code 91 = .ok (.iload 6, 2) := by decide +kernel
theorem d_PlainOrigin_feed_93 : decode prog_1_method_2_code 93 = .ok (.iconst 3, 1) := by decide +kernel
theorem d_PlainOrigin_feed_94 : decode prog_1_method_2_code 94 = .ok (.if_icmp .ne (24), 3) := by decide +kernel
theorem d_PlainOrigin_feed_97 : decode prog_1_method_2_code 97 = .ok (.aload_n 0, 1) := by decide +kernel
theorem d_PlainOrigin_feed_98 : decode prog_1_method_2_code 98 = .ok (.getfield 26, 3) := by decide +kernel
theorem d_PlainOrigin_feed_101 : decode prog_1_method_2_code 101 = .ok (.aload_n 0, 1) := by decide +kernel
theorem d_PlainOrigin_feed_102 : decode prog_1_method_2_code 102 = .ok (.getfield 19, 3) := by decide +kernel
theorem d_PlainOrigin_feed_105 : decode prog_1_method_2_code 105 = .ok (.getfield 59, 3) := by decide +kernel
theorem d_PlainOrigin_feed_108 : decode prog_1_method_2_code 108 = .ok (.aload_n 0, 1) := by decide +kernel
theorem d_PlainOrigin_feed_109 : decode prog_1_method_2_code 109 = .ok (.getfield 10, 3) := by decide +kernel
theorem d_PlainOrigin_feed_112 : decode prog_1_method_2_code 112 = .ok (.invokevirtual 63, 3) := by decide +kernel
theorem d_PlainOrigin_feed_115 : decode prog_1_method_2_code 115 = .ok (.goto (12), 3) := by decide +kernel
theorem d_PlainOrigin_feed_118 : decode prog_1_method_2_code 118 = .ok (.aload_n 0, 1) := by decide +kernel
theorem d_PlainOrigin_feed_119 : decode prog_1_method_2_code 119 = .ok (.getfield 26, 3) := by decide +kernel
theorem d_PlainOrigin_feed_122 : decode prog_1_method_2_code 122 = .ok (.iload 6, 2) := by decide +kernel
theorem d_PlainOrigin_feed_124 : decode prog_1_method_2_code 124 = .ok (.invokevirtual 67, 3) := by decide +kernel
theorem d_PlainOrigin_feed_127 : decode prog_1_method_2_code 127 = .ok (.aload_n 0, 1) := by decide +kernel
theorem d_PlainOrigin_feed_128 : decode prog_1_method_2_code 128 = .ok (.iload 6, 2) := by decide +kernel
theorem d_PlainOrigin_feed_130 : decode prog_1_method_2_code 130 = .ok (.invokevirtual 71, 3) := by decide +kernel
theorem d_PlainOrigin_feed_133 : decode prog_1_method_2_code 133 = .ok (.iinc 4 (1), 3) := by decide +kernel
theorem d_PlainOrigin_feed_136 : decode prog_1_method_2_code 136 = .ok (.iinc 5 (1), 3) := by decide +kernel
theorem d_PlainOrigin_feed_139 : decode prog_1_method_2_code 139 = .ok (.goto (-113), 3) := by decide +kernel
theorem d_PlainOrigin_feed_142 : decode prog_1_method_2_code 142 = .ok (.iload 4, 2) := by decide +kernel
theorem d_PlainOrigin_feed_144 : decode prog_1_method_2_code 144 = .ok (.ireturn, 1) := by decide +kernel
def x_PlainOrigin_feed_10 (j1 : Int64) (a2 : Int32) (σ : St) : Option (Int32 × St) := none
def x_PlainOrigin_feed_136 (j1 : Int64) (a2 : Int32) (bk26 : Int32 → Int32 → St → Option (Int32 × St)) (l4 : Int32) (l5 : Int32) (σ : St) : Option (Int32 × St) := (x_let (l5 + (1 : Int32)) (fun (v136 : Int32) => bk26 l4 v136 σ))
def x_PlainOrigin_feed_127 (j1 : Int64) (a2 : Int32) (bk26 : Int32 → Int32 → St → Option (Int32 × St)) (l4 : Int32) (l5 : Int32) (l6 : Int32) (σ : St) : Option (Int32 × St) := (Option.bind (x_PlainOrigin_send l6 σ) (fun s130 => (x_let (l4 + (1 : Int32)) (fun (v133 : Int32) => x_PlainOrigin_feed_136 j1 a2 bk26 v133 l5 s130))))
def x_PlainOrigin_feed_83 (j1 : Int64) (a2 : Int32) (bk26 : Int32 → Int32 → St → Option (Int32 × St)) (l4 : Int32) (l5 : Int32) (l6 : Int32) (σ : St) : Option (Int32 × St) := (if l6 = 0 then x_PlainOrigin_feed_136 j1 a2 bk26 l4 l5 σ else (if l6 = (3 : Int32) then (Option.bind (x_Answer_decide σ) (fun s112 => x_PlainOrigin_feed_127 j1 a2 bk26 l4 l5 l6 s112)) else (Option.bind (x_Answer_begin l6 σ) (fun s124 => x_PlainOrigin_feed_127 j1 a2 bk26 l4 l5 l6 s124))))
def x_PlainOrigin_feed_68 (j1 : Int64) (a2 : Int32) (bk26 : Int32 → Int32 → St → Option (Int32 × St)) (l4 : Int32) (l5 : Int32) (l6 : Int32) (σ : St) : Option (Int32 × St) := (if l6 = (2 : Int32) then (x_bind2 (x_Reader_endHead σ) (fun r78 s78 => x_PlainOrigin_feed_83 j1 a2 bk26 l4 l5 r78 s78)) else x_PlainOrigin_feed_83 j1 a2 bk26 l4 l5 l6 σ)
def x_PlainOrigin_feed_26 (j1 : Int64) (a2 : Int32) : Nat → Int32 → Int32 → St → Option (Int32 × St)
  | 0, _, _, _ => none
  | n + 1, l4, l5, σ => (if a2 ≤ l5 then some (l4, σ) else (x_bind2 (x_Reader_take ((Int64.toInt32 ((Int64.toUInt64 j1 >>> ((Int32.toInt64 ((8 : Int32) * l5)).toUInt64 &&& Int64.toUInt64 63)).toInt64)) &&& (255 : Int32)) σ) (fun r48 s48 => (if r48 = (1 : Int32) then (x_bind2 (x_Reader_endLine s48) (fun r63 s63 => x_PlainOrigin_feed_68 j1 a2 (x_PlainOrigin_feed_26 j1 a2 n) l4 l5 r63 s63)) else x_PlainOrigin_feed_68 j1 a2 (x_PlainOrigin_feed_26 j1 a2 n) l4 l5 r48 s48))))
def x_PlainOrigin_feed (j1 : Int64) (a2 : Int32) (σ : St) : Option (Int32 × St) := (if a2 < 0 then x_PlainOrigin_feed_10 j1 a2 σ else (if a2 ≤ (8 : Int32) then x_PlainOrigin_feed_26 j1 a2 x_fuel (0 : Int32) (0 : Int32) σ else x_PlainOrigin_feed_10 j1 a2 σ))
abbrev rm_PlainOrigin_feed : Room := { frames := 9, cells := 0, slots := 0, locals := 205 }
set_option maxHeartbeats 4000000 in
set_option maxRecDepth 100000 in
theorem t_PlainOrigin_feed (l : Launch) (G : xG) (σ : St) (j1 : Int64) (a2 : Int32) (r : Int32) (σ' : St) (hE : x_PlainOrigin_feed j1 a2 σ = some (r, σ')) : Met l y_PlainOrigin_feed (ws_PlainOrigin_feed) rm_PlainOrigin_feed (xP G σ [.ref (G.2.1 0), .long j1, .int a2]) (xQ G (some (.int r)) σ') 0 0 (xA G) := by
  refine Met.ofW (cc := prog_1_method_2_code) (maxL := 7) (ret := (some .int)) (by decide) rfl ?_
  intro p e s m args below meth c s₁ B hml hv
  obtain ⟨rfl, hw, hC⟩ := hv
  have hx := B.exec
  have hb := B.bytes
  have hr := B.returns
  have hu : ∀ w ∈ UW, w.before _ s = true := fun w h => atoms_spec B.pre w (List.mem_cons_of_mem _ h)
  have hown : s.vm.findClass R_PlainOrigin = some m.cls := findClass_of_methodNamed B.named
  have hlocks := B.notSynchronized
  have hK := hC.1
  have hI := hC.2.1
  have hG := hC.2.2.1
  have hN := hC.2.2.2
  have hS : va_S (xA G) s.heap s.heap [] := va_S.rf
  have jn10 : ∀ (ls : Array Slot) (H : Heap) (locs : List Loc) (σ : St), x_PlainOrigin_feed_10 j1 a2 σ = some (r, σ') → lv_has ls 7 [(0, .ref (G.2.1 0)), (1, .long j1), (3, .int a2)] → xw G σ H → va_S (xA G) s.heap H locs → W p l e (headSpec (ws_PlainOrigin_feed) rm_PlainOrigin_feed).room s m ([.ref (G.2.1 0), .long j1, .int a2] : List Value).toArray below meth c H locs 0 0 (MQ below (xQ G (some (.int r)) σ') ([.ref (G.2.1 0), .long j1, .int a2] : List Value).toArray s 0 0 (xA G)) (F0 m 10 ls []) := by
    intro ls H locs σ hE hl hw hS
    unfold x_PlainOrigin_feed_10 at hE
    cases hE
  have jn136 : ∀ (bk26 : Int32 → Int32 → St → Option (Int32 × St)) (hbk26 : ∀ (ls : Array Slot) (H : Heap) (locs : List Loc) (σ : St) (l4 : Int32) (l5 : Int32), bk26 l4 l5 σ = some (r, σ') → lv_has ls 7 [(0, .ref (G.2.1 0)), (1, .long j1), (3, .int a2), (4, .int l4), (5, .int l5)] → xw G σ H → va_S (xA G) s.heap H locs → W p l e (headSpec (ws_PlainOrigin_feed) rm_PlainOrigin_feed).room s m ([.ref (G.2.1 0), .long j1, .int a2] : List Value).toArray below meth c H locs 0 0 (MQ below (xQ G (some (.int r)) σ') ([.ref (G.2.1 0), .long j1, .int a2] : List Value).toArray s 0 0 (xA G)) (F0 m 26 ls [])) (ls : Array Slot) (H : Heap) (locs : List Loc) (σ : St) (l4 : Int32) (l5 : Int32), x_PlainOrigin_feed_136 j1 a2 bk26 l4 l5 σ = some (r, σ') → lv_has ls 7 [(0, .ref (G.2.1 0)), (1, .long j1), (3, .int a2), (4, .int l4), (5, .int l5)] → xw G σ H → va_S (xA G) s.heap H locs → W p l e (headSpec (ws_PlainOrigin_feed) rm_PlainOrigin_feed).room s m ([.ref (G.2.1 0), .long j1, .int a2] : List Value).toArray below meth c H locs 0 0 (MQ below (xQ G (some (.int r)) σ') ([.ref (G.2.1 0), .long j1, .int a2] : List Value).toArray s 0 0 (xA G)) (F0 m 136 ls []) := by
    intro bk26 hbk26 ls H locs σ l4 l5 hE hl hw hS
    unfold x_PlainOrigin_feed_136 at hE
    obtain ⟨v136, e136, hE⟩ := x_letE hE
    refine lv_iinc hx hb d_PlainOrigin_feed_136 hl (k := 4) rfl (x_inc v136 e136 (by decide)) (by decide) rfl (fun ls hl => ?_)
    have hl : lv_has ls 7 [(5, .int v136), (0, .ref (G.2.1 0)), (1, .long j1), (3, .int a2), (4, .int l4)] := hl
    refine lv_goto (tgt := 26) hx hb d_PlainOrigin_feed_139 (by decide) ?_
    exact hbk26 _ _ _ _ _ _ hE (lv_sub hl [1, 2, 3, 4, 0] rfl) hw hS
  have jn127 : ∀ (bk26 : Int32 → Int32 → St → Option (Int32 × St)) (hbk26 : ∀ (ls : Array Slot) (H : Heap) (locs : List Loc) (σ : St) (l4 : Int32) (l5 : Int32), bk26 l4 l5 σ = some (r, σ') → lv_has ls 7 [(0, .ref (G.2.1 0)), (1, .long j1), (3, .int a2), (4, .int l4), (5, .int l5)] → xw G σ H → va_S (xA G) s.heap H locs → W p l e (headSpec (ws_PlainOrigin_feed) rm_PlainOrigin_feed).room s m ([.ref (G.2.1 0), .long j1, .int a2] : List Value).toArray below meth c H locs 0 0 (MQ below (xQ G (some (.int r)) σ') ([.ref (G.2.1 0), .long j1, .int a2] : List Value).toArray s 0 0 (xA G)) (F0 m 26 ls [])) (ls : Array Slot) (H : Heap) (locs : List Loc) (σ : St) (l4 : Int32) (l5 : Int32) (l6 : Int32), x_PlainOrigin_feed_127 j1 a2 bk26 l4 l5 l6 σ = some (r, σ') → lv_has ls 7 [(0, .ref (G.2.1 0)), (1, .long j1), (3, .int a2), (4, .int l4), (5, .int l5), (6, .int l6)] → xw G σ H → va_S (xA G) s.heap H locs → W p l e (headSpec (ws_PlainOrigin_feed) rm_PlainOrigin_feed).room s m ([.ref (G.2.1 0), .long j1, .int a2] : List Value).toArray below meth c H locs 0 0 (MQ below (xQ G (some (.int r)) σ') ([.ref (G.2.1 0), .long j1, .int a2] : List Value).toArray s 0 0 (xA G)) (F0 m 127 ls []) := by
    intro bk26 hbk26 ls H locs σ l4 l5 l6 hE hl hw hS
    unfold x_PlainOrigin_feed_127 at hE
    refine lv_aload_n hx hb d_PlainOrigin_feed_127 rfl (lv_at hl 0 rfl) ?_
    refine lv_iload hx hb d_PlainOrigin_feed_128 (lv_at hl 5 rfl) ?_
    obtain ⟨s130, hC130, hE⟩ := x_bind hE
    refine x_callV hS (W.runV (As := [.int l6]) (rest := []) ⟨hx, hb, hml, hown, hu⟩ (t_PlainOrigin_send l G σ l6 s130 hC130) (cwV 1 hu (uw_V mw_912 mw_914 mw_16 mw_60 mw_915) rfl rfl rfl hd_PlainOrigin_send ⟨Nat.le_of_ble_eq_true rfl, Nat.le_of_ble_eq_true rfl⟩) (x_preV hC hS hw (va_recv hK hw (q := (R_PlainOrigin, T_PlainOrigin, 5)) (ci := 9) rfl (x_at (by decide) (xcl_0 G σ)))) rfl rfl hl.1 rfl (lv_room (Nat.le_of_ble_eq_true rfl)) d_PlainOrigin_feed_130 ⟨Nat.le_of_ble_eq_true rfl, Nat.le_of_ble_eq_true rfl⟩) (fun H locs hw hS => ?_)
    obtain ⟨v133, e133, hE⟩ := x_letE hE
    refine lv_iinc hx hb d_PlainOrigin_feed_133 hl (k := 3) rfl (x_inc v133 e133 (by decide)) (by decide) rfl (fun ls hl => ?_)
    have hl : lv_has ls 7 [(4, .int v133), (0, .ref (G.2.1 0)), (1, .long j1), (3, .int a2), (5, .int l5), (6, .int l6)] := hl
    exact jn136 _ hbk26 _ _ _ _ _ _ hE (lv_sub hl [1, 2, 3, 0, 4] rfl) hw hS
  have jn83 : ∀ (bk26 : Int32 → Int32 → St → Option (Int32 × St)) (hbk26 : ∀ (ls : Array Slot) (H : Heap) (locs : List Loc) (σ : St) (l4 : Int32) (l5 : Int32), bk26 l4 l5 σ = some (r, σ') → lv_has ls 7 [(0, .ref (G.2.1 0)), (1, .long j1), (3, .int a2), (4, .int l4), (5, .int l5)] → xw G σ H → va_S (xA G) s.heap H locs → W p l e (headSpec (ws_PlainOrigin_feed) rm_PlainOrigin_feed).room s m ([.ref (G.2.1 0), .long j1, .int a2] : List Value).toArray below meth c H locs 0 0 (MQ below (xQ G (some (.int r)) σ') ([.ref (G.2.1 0), .long j1, .int a2] : List Value).toArray s 0 0 (xA G)) (F0 m 26 ls [])) (ls : Array Slot) (H : Heap) (locs : List Loc) (σ : St) (l4 : Int32) (l5 : Int32) (l6 : Int32), x_PlainOrigin_feed_83 j1 a2 bk26 l4 l5 l6 σ = some (r, σ') → lv_has ls 7 [(0, .ref (G.2.1 0)), (1, .long j1), (3, .int a2), (4, .int l4), (5, .int l5), (6, .int l6)] → xw G σ H → va_S (xA G) s.heap H locs → W p l e (headSpec (ws_PlainOrigin_feed) rm_PlainOrigin_feed).room s m ([.ref (G.2.1 0), .long j1, .int a2] : List Value).toArray below meth c H locs 0 0 (MQ below (xQ G (some (.int r)) σ') ([.ref (G.2.1 0), .long j1, .int a2] : List Value).toArray s 0 0 (xA G)) (F0 m 83 ls []) := by
    intro bk26 hbk26 ls H locs σ l4 l5 l6 hE hl hw hS
    unfold x_PlainOrigin_feed_83 at hE
    refine lv_iload hx hb d_PlainOrigin_feed_83 (lv_at hl 5 rfl) ?_
    refine lv_if_ne (tgt := 91) hx hb d_PlainOrigin_feed_85 (by decide) (fun hc85 => ?_) (fun hc85 => ?_)
    · rw [if_neg hc85] at hE
      refine lv_iload hx hb d_PlainOrigin_feed_91 (lv_at hl 5 rfl) ?_
      refine lv_iconst (v := (3 : Int32)) hx hb d_PlainOrigin_feed_93 (by decide) ?_
      refine lv_icmp_ne (tgt := 118) hx hb d_PlainOrigin_feed_94 (by decide) (fun hc94 => ?_) (fun hc94 => ?_)
      · rw [if_neg hc94] at hE
        refine lv_aload_n hx hb d_PlainOrigin_feed_118 rfl (lv_at hl 0 rfl) ?_
        refine va_get (D := G.1) (cl := xCl) (ci := 9) (v := .ref (G.2.1 44)) (C := R_PlainOrigin) (T := T_PlainOrigin) (N := 5) hx hb hu fi_PlainOrigin hown hK hw 0 (x_at (by decide) (xcl_0 G σ)) rfl 2 (by decide) (hu _ mw_359) (fun _ h9 => h9) rfl d_PlainOrigin_feed_119 ?_
        refine lv_iload hx hb d_PlainOrigin_feed_122 (lv_at hl 5 rfl) ?_
        obtain ⟨s124, hC124, hE⟩ := x_bind hE
        refine x_callV hS (W.runV (As := [.int l6]) (rest := []) ⟨hx, hb, hml, hown, hu⟩ (t_Answer_begin l G σ l6 s124 hC124) (cwV 1 hu (uw_V mw_911 mw_830 mw_831 mw_67 mw_832) rfl rfl rfl hd_Answer_begin ⟨Nat.le_of_ble_eq_true rfl, Nat.le_of_ble_eq_true rfl⟩) (x_preV hC hS hw (va_recv hK hw (q := (R_Answer, T_Answer, 12)) (ci := 7) rfl (x_at (by decide) (xcl_44 G σ)))) rfl rfl hl.1 rfl (lv_room (Nat.le_of_ble_eq_true rfl)) d_PlainOrigin_feed_124 ⟨Nat.le_of_ble_eq_true rfl, Nat.le_of_ble_eq_true rfl⟩) (fun H locs hw hS => ?_)
        exact jn127 _ hbk26 _ _ _ _ _ _ _ hE (lv_sub hl [0, 1, 2, 3, 4, 5] rfl) hw hS
      · rw [if_pos hc94] at hE
        refine lv_aload_n hx hb d_PlainOrigin_feed_97 rfl (lv_at hl 0 rfl) ?_
        refine va_get (D := G.1) (cl := xCl) (ci := 9) (v := .ref (G.2.1 44)) (C := R_PlainOrigin) (T := T_PlainOrigin) (N := 5) hx hb hu fi_PlainOrigin hown hK hw 0 (x_at (by decide) (xcl_0 G σ)) rfl 2 (by decide) (hu _ mw_359) (fun _ h9 => h9) rfl d_PlainOrigin_feed_98 ?_
        refine lv_aload_n hx hb d_PlainOrigin_feed_101 rfl (lv_at hl 0 rfl) ?_
        refine va_get (D := G.1) (cl := xCl) (ci := 9) (v := .ref (G.2.1 27)) (C := R_PlainOrigin) (T := T_PlainOrigin) (N := 5) hx hb hu fi_PlainOrigin hown hK hw 0 (x_at (by decide) (xcl_0 G σ)) rfl 1 (by decide) (hu _ mw_358) (fun _ h9 => h9) rfl d_PlainOrigin_feed_102 ?_
        refine va_getN (D := G.1) (cl := xCl) (ci := 3) (v := .ref (G.2.1 30)) (C := R_Reader) (T := T_Reader) (N := 6) hx hb hu fi_Reader hown hK hw 27 (x_at (by decide) (xcl_27 G σ)) rfl 1 (by decide) (nl_33 hG) (fun _ h9 => h9) rfl d_PlainOrigin_feed_105 ?_
        refine lv_aload_n hx hb d_PlainOrigin_feed_108 rfl (lv_at hl 0 rfl) ?_
        refine va_get (D := G.1) (cl := xCl) (ci := 9) (v := .ref (G.2.1 1)) (C := R_PlainOrigin) (T := T_PlainOrigin) (N := 5) hx hb hu fi_PlainOrigin hown hK hw 0 (x_at (by decide) (xcl_0 G σ)) rfl 0 (by decide) (hu _ mw_357) (fun _ h9 => h9) rfl d_PlainOrigin_feed_109 ?_
        obtain ⟨s112, hC112, hE⟩ := x_bind hE
        refine x_callV hS (W.runV (As := [.ref (G.2.1 30), .ref (G.2.1 1)]) (rest := []) ⟨hx, hb, hml, hown, hu⟩ (t_Answer_decide l G σ s112 hC112) (cwV 2 hu (uw_V mw_822 mw_823 mw_824 mw_67 mw_825) rfl rfl rfl hd_Answer_decide ⟨Nat.le_of_ble_eq_true rfl, Nat.le_of_ble_eq_true rfl⟩) (x_preV hC hS hw (va_recv hK hw (q := (R_Answer, T_Answer, 12)) (ci := 7) rfl (x_at (by decide) (xcl_44 G σ)))) rfl rfl hl.1 rfl (lv_room (Nat.le_of_ble_eq_true rfl)) d_PlainOrigin_feed_112 ⟨Nat.le_of_ble_eq_true rfl, Nat.le_of_ble_eq_true rfl⟩) (fun H locs hw hS => ?_)
        refine lv_goto (tgt := 127) hx hb d_PlainOrigin_feed_115 (by decide) ?_
        exact jn127 _ hbk26 _ _ _ _ _ _ _ hE (lv_sub hl [0, 1, 2, 3, 4, 5] rfl) hw hS
    · rw [if_pos hc85] at hE
      refine lv_goto (tgt := 136) hx hb d_PlainOrigin_feed_88 (by decide) ?_
      exact jn136 _ hbk26 _ _ _ _ _ _ hE (lv_sub hl [0, 1, 2, 3, 4] rfl) hw hS
  have jn68 : ∀ (bk26 : Int32 → Int32 → St → Option (Int32 × St)) (hbk26 : ∀ (ls : Array Slot) (H : Heap) (locs : List Loc) (σ : St) (l4 : Int32) (l5 : Int32), bk26 l4 l5 σ = some (r, σ') → lv_has ls 7 [(0, .ref (G.2.1 0)), (1, .long j1), (3, .int a2), (4, .int l4), (5, .int l5)] → xw G σ H → va_S (xA G) s.heap H locs → W p l e (headSpec (ws_PlainOrigin_feed) rm_PlainOrigin_feed).room s m ([.ref (G.2.1 0), .long j1, .int a2] : List Value).toArray below meth c H locs 0 0 (MQ below (xQ G (some (.int r)) σ') ([.ref (G.2.1 0), .long j1, .int a2] : List Value).toArray s 0 0 (xA G)) (F0 m 26 ls [])) (ls : Array Slot) (H : Heap) (locs : List Loc) (σ : St) (l4 : Int32) (l5 : Int32) (l6 : Int32), x_PlainOrigin_feed_68 j1 a2 bk26 l4 l5 l6 σ = some (r, σ') → lv_has ls 7 [(0, .ref (G.2.1 0)), (1, .long j1), (3, .int a2), (4, .int l4), (5, .int l5), (6, .int l6)] → xw G σ H → va_S (xA G) s.heap H locs → W p l e (headSpec (ws_PlainOrigin_feed) rm_PlainOrigin_feed).room s m ([.ref (G.2.1 0), .long j1, .int a2] : List Value).toArray below meth c H locs 0 0 (MQ below (xQ G (some (.int r)) σ') ([.ref (G.2.1 0), .long j1, .int a2] : List Value).toArray s 0 0 (xA G)) (F0 m 68 ls []) := by
    intro bk26 hbk26 ls H locs σ l4 l5 l6 hE hl hw hS
    unfold x_PlainOrigin_feed_68 at hE
    refine lv_iload hx hb d_PlainOrigin_feed_68 (lv_at hl 5 rfl) ?_
    refine lv_iconst (v := (2 : Int32)) hx hb d_PlainOrigin_feed_70 (by decide) ?_
    refine lv_icmp_ne (tgt := 83) hx hb d_PlainOrigin_feed_71 (by decide) (fun hc71 => ?_) (fun hc71 => ?_)
    · rw [if_neg hc71] at hE
      exact jn83 _ hbk26 _ _ _ _ _ _ _ hE (lv_sub hl [0, 1, 2, 3, 4, 5] rfl) hw hS
    · rw [if_pos hc71] at hE
      refine lv_aload_n hx hb d_PlainOrigin_feed_74 rfl (lv_at hl 0 rfl) ?_
      refine va_get (D := G.1) (cl := xCl) (ci := 9) (v := .ref (G.2.1 27)) (C := R_PlainOrigin) (T := T_PlainOrigin) (N := 5) hx hb hu fi_PlainOrigin hown hK hw 0 (x_at (by decide) (xcl_0 G σ)) rfl 1 (by decide) (hu _ mw_358) (fun _ h9 => h9) rfl d_PlainOrigin_feed_75 ?_
      obtain ⟨r78, s78, hC78, hE⟩ := x_bind2E hE
      refine x_callS hS (W.runV (As := []) (rest := []) ⟨hx, hb, hml, hown, hu⟩ (t_Reader_endHead l G σ r78 s78 hC78) (cwV 0 hu (uw_V mw_736 mw_737 mw_738 mw_64 mw_739) rfl rfl rfl hd_Reader_endHead ⟨Nat.le_of_ble_eq_true rfl, Nat.le_of_ble_eq_true rfl⟩) (x_preV hC hS hw (va_recv hK hw (q := (R_Reader, T_Reader, 6)) (ci := 3) rfl (x_at (by decide) (xcl_27 G σ)))) rfl rfl hl.1 rfl (lv_room (Nat.le_of_ble_eq_true rfl)) d_PlainOrigin_feed_78 ⟨Nat.le_of_ble_eq_true rfl, Nat.le_of_ble_eq_true rfl⟩) (fun H locs hw hS => ?_)
      refine lv_istore hx hb d_PlainOrigin_feed_81 hl (by decide) rfl (fun ls hl => ?_)
      have hl : lv_has ls 7 [(6, .int r78), (0, .ref (G.2.1 0)), (1, .long j1), (3, .int a2), (4, .int l4), (5, .int l5)] := hl
      exact jn83 _ hbk26 _ _ _ _ _ _ _ hE (lv_sub hl [1, 2, 3, 4, 5, 0] rfl) hw hS
  have jn26 : ∀ (n : Nat) (ls : Array Slot) (H : Heap) (locs : List Loc) (σ : St) (l4 : Int32) (l5 : Int32), x_PlainOrigin_feed_26 j1 a2 n l4 l5 σ = some (r, σ') → lv_has ls 7 [(0, .ref (G.2.1 0)), (1, .long j1), (3, .int a2), (4, .int l4), (5, .int l5)] → xw G σ H → va_S (xA G) s.heap H locs → W p l e (headSpec (ws_PlainOrigin_feed) rm_PlainOrigin_feed).room s m ([.ref (G.2.1 0), .long j1, .int a2] : List Value).toArray below meth c H locs 0 0 (MQ below (xQ G (some (.int r)) σ') ([.ref (G.2.1 0), .long j1, .int a2] : List Value).toArray s 0 0 (xA G)) (F0 m 26 ls []) := by
    intro n
    induction n with
    | zero => intro ls H locs σ l4 l5 hE; rw [x_PlainOrigin_feed_26] at hE; cases hE
    | succ n ih =>
      intro ls H locs σ l4 l5 hE hl hw hS
      rw [x_PlainOrigin_feed_26] at hE
      refine lv_iload hx hb d_PlainOrigin_feed_26 (lv_at hl 4 rfl) ?_
      refine lv_iload_n hx hb d_PlainOrigin_feed_28 rfl (lv_at hl 2 rfl) ?_
      refine lv_icmp_ge (tgt := 142) hx hb d_PlainOrigin_feed_29 (by decide) (fun hc29 => ?_) (fun hc29 => ?_)
      · rw [if_pos hc29] at hE
        refine lv_iload hx hb d_PlainOrigin_feed_142 (lv_at hl 3 rfl) ?_
        obtain ⟨e1, e2⟩ := x_pair hE
        exact W.iret (v := l4) hx hb hr (fun t ht hW => ⟨by rw [e1], by rw [ht, ← e2]; exact hw, hS.F ht⟩) hS.2.2 d_PlainOrigin_feed_144
      · rw [if_neg hc29] at hE
        refine lv_aload_n hx hb d_PlainOrigin_feed_32 rfl (lv_at hl 0 rfl) ?_
        refine va_get (D := G.1) (cl := xCl) (ci := 9) (v := .ref (G.2.1 27)) (C := R_PlainOrigin) (T := T_PlainOrigin) (N := 5) hx hb hu fi_PlainOrigin hown hK hw 0 (x_at (by decide) (xcl_0 G σ)) rfl 1 (by decide) (hu _ mw_358) (fun _ h9 => h9) rfl d_PlainOrigin_feed_33 ?_
        refine lv_lload_n hx hb d_PlainOrigin_feed_36 rfl (lv_at hl 1 rfl) ?_
        refine lv_bipush (v := (8 : Int32)) hx hb d_PlainOrigin_feed_37 (by decide) ?_
        refine lv_iload hx hb d_PlainOrigin_feed_39 (lv_at hl 4 rfl) ?_
        refine lv_imul hx hb d_PlainOrigin_feed_41 ?_
        refine lv_lushr hx hb d_PlainOrigin_feed_42 rfl ?_
        refine lv_l2i hx hb d_PlainOrigin_feed_43 rfl ?_
        refine lv_sipush (v := (255 : Int32)) hx hb d_PlainOrigin_feed_44 (by decide) ?_
        refine lv_iand hx hb d_PlainOrigin_feed_47 ?_
        obtain ⟨r48, s48, hC48, hE⟩ := x_bind2E hE
        refine x_callS hS (W.runV (As := [.int ((Int64.toInt32 ((Int64.toUInt64 j1 >>> ((Int32.toInt64 ((8 : Int32) * l5)).toUInt64 &&& Int64.toUInt64 63)).toInt64)) &&& (255 : Int32))]) (rest := []) ⟨hx, hb, hml, hown, hu⟩ (t_Reader_take l G σ ((Int64.toInt32 ((Int64.toUInt64 j1 >>> ((Int32.toInt64 ((8 : Int32) * l5)).toUInt64 &&& Int64.toUInt64 63)).toInt64)) &&& (255 : Int32)) r48 s48 hC48) (cwV 1 hu (uw_V mw_500 mw_501 mw_502 mw_64 mw_503) rfl rfl rfl hd_Reader_take ⟨Nat.le_of_ble_eq_true rfl, Nat.le_of_ble_eq_true rfl⟩) (x_preV hC hS hw (va_recv hK hw (q := (R_Reader, T_Reader, 6)) (ci := 3) rfl (x_at (by decide) (xcl_27 G σ)))) rfl rfl hl.1 rfl (lv_room (Nat.le_of_ble_eq_true rfl)) d_PlainOrigin_feed_48 ⟨Nat.le_of_ble_eq_true rfl, Nat.le_of_ble_eq_true rfl⟩) (fun H locs hw hS => ?_)
        refine lv_istore hx hb d_PlainOrigin_feed_51 hl (by decide) rfl (fun ls hl => ?_)
        have hl : lv_has ls 7 [(6, .int r48), (0, .ref (G.2.1 0)), (1, .long j1), (3, .int a2), (4, .int l4), (5, .int l5)] := hl
        refine lv_iload hx hb d_PlainOrigin_feed_53 (lv_at hl 0 rfl) ?_
        refine lv_iconst (v := (1 : Int32)) hx hb d_PlainOrigin_feed_55 (by decide) ?_
        refine lv_icmp_ne (tgt := 68) hx hb d_PlainOrigin_feed_56 (by decide) (fun hc56 => ?_) (fun hc56 => ?_)
        · rw [if_neg hc56] at hE
          exact jn68 _ ih _ _ _ _ _ _ _ hE (lv_sub hl [1, 2, 3, 4, 5, 0] rfl) hw hS
        · rw [if_pos hc56] at hE
          refine lv_aload_n hx hb d_PlainOrigin_feed_59 rfl (lv_at hl 1 rfl) ?_
          refine va_get (D := G.1) (cl := xCl) (ci := 9) (v := .ref (G.2.1 27)) (C := R_PlainOrigin) (T := T_PlainOrigin) (N := 5) hx hb hu fi_PlainOrigin hown hK hw 0 (x_at (by decide) (xcl_0 G s48)) rfl 1 (by decide) (hu _ mw_358) (fun _ h9 => h9) rfl d_PlainOrigin_feed_60 ?_
          obtain ⟨r63, s63, hC63, hE⟩ := x_bind2E hE
          refine x_callS hS (W.runV (As := []) (rest := []) ⟨hx, hb, hml, hown, hu⟩ (t_Reader_endLine l G s48 r63 s63 hC63) (cwV 0 hu (uw_V mw_524 mw_525 mw_526 mw_64 mw_527) rfl rfl rfl hd_Reader_endLine ⟨Nat.le_of_ble_eq_true rfl, Nat.le_of_ble_eq_true rfl⟩) (x_preV hC hS hw (va_recv hK hw (q := (R_Reader, T_Reader, 6)) (ci := 3) rfl (x_at (by decide) (xcl_27 G s48)))) rfl rfl hl.1 rfl (lv_room (Nat.le_of_ble_eq_true rfl)) d_PlainOrigin_feed_63 ⟨Nat.le_of_ble_eq_true rfl, Nat.le_of_ble_eq_true rfl⟩) (fun H locs hw hS => ?_)
          refine lv_istore hx hb d_PlainOrigin_feed_66 hl (by decide) rfl (fun ls hl => ?_)
          have hl : lv_has ls 7 [(6, .int r63), (0, .ref (G.2.1 0)), (1, .long j1), (3, .int a2), (4, .int l4), (5, .int l5)] := hl
          exact jn68 _ ih _ _ _ _ _ _ _ hE (lv_sub hl [1, 2, 3, 4, 5, 0] rfl) hw hS
  have hl := lv_entry ([.ref (G.2.1 0), .long j1, .int a2]) (n := 7) (Nat.le_of_ble_eq_true rfl)
  rw [lg_entry_eq]
  generalize (lg_sl ([.ref (G.2.1 0), .long j1, .int a2]) ++ List.replicate (7 - (lg_sl ([.ref (G.2.1 0), .long j1, .int a2])).length) Slot.unset).toArray = ls at hl ⊢
  have hl : lv_has ls 7 [(0, .ref (G.2.1 0)), (1, .long j1), (3, .int a2)] := hl
  unfold x_PlainOrigin_feed at hE
  refine lv_iload_n hx hb d_PlainOrigin_feed_0 rfl (lv_at hl 2 rfl) ?_
  refine lv_if_lt (tgt := 10) hx hb d_PlainOrigin_feed_1 (by decide) (fun hc1 => ?_) (fun hc1 => ?_)
  · rw [if_pos hc1] at hE
    exact jn10 _ _ _ _ hE (lv_sub hl [0, 1, 2] rfl) hw hS
  · rw [if_neg hc1] at hE
    refine lv_iload_n hx hb d_PlainOrigin_feed_4 rfl (lv_at hl 2 rfl) ?_
    refine lv_bipush (v := (8 : Int32)) hx hb d_PlainOrigin_feed_5 (by decide) ?_
    refine lv_icmp_le (tgt := 20) hx hb d_PlainOrigin_feed_7 (by decide) (fun hc7 => ?_) (fun hc7 => ?_)
    · rw [if_pos hc7] at hE
      refine lv_iconst (v := (0 : Int32)) hx hb d_PlainOrigin_feed_20 (by decide) ?_
      refine lv_istore hx hb d_PlainOrigin_feed_21 hl (by decide) rfl (fun ls hl => ?_)
      have hl : lv_has ls 7 [(4, .int (0 : Int32)), (0, .ref (G.2.1 0)), (1, .long j1), (3, .int a2)] := hl
      refine lv_iconst (v := (0 : Int32)) hx hb d_PlainOrigin_feed_23 (by decide) ?_
      refine lv_istore hx hb d_PlainOrigin_feed_24 hl (by decide) rfl (fun ls hl => ?_)
      have hl : lv_has ls 7 [(5, .int (0 : Int32)), (4, .int (0 : Int32)), (0, .ref (G.2.1 0)), (1, .long j1), (3, .int a2)] := hl
      exact jn26 x_fuel _ _ _ _ _ _ hE (lv_sub hl [2, 3, 4, 1, 0] rfl) hw hS
    · rw [if_neg hc7] at hE
      exact jn10 _ _ _ _ hE (lv_sub hl [0, 1, 2] rfl) hw hS

def y_PlainOrigin_isOpen : MethodName := ⟨"PlainOrigin", "isOpen", "()Z"⟩
def ws_PlainOrigin_isOpen : List Cond := Cond.code y_PlainOrigin_isOpen prog_1_method_3_code 1 (some .boolean) :: UW
theorem hd_PlainOrigin_isOpen : y_PlainOrigin_isOpen.cls = R_PlainOrigin ∧ y_PlainOrigin_isOpen.cls ≠ "java/lang/invoke/MethodHandle" ∧ y_PlainOrigin_isOpen.cls ≠ "java/lang/invoke/VarHandle" ∧ (parseMethodDescriptor y_PlainOrigin_isOpen.desc).map (fun d => d.parameters.length) = some 0 := by decide +kernel
theorem d_PlainOrigin_isOpen_0 : decode prog_1_method_3_code 0 = .ok (.aload_n 0, 1) := by decide +kernel
theorem d_PlainOrigin_isOpen_1 : decode prog_1_method_3_code 1 = .ok (.getfield 19, 3) := by decide +kernel
theorem d_PlainOrigin_isOpen_4 : decode prog_1_method_3_code 4 = .ok (.getfield 74, 3) := by decide +kernel
theorem d_PlainOrigin_isOpen_7 : decode prog_1_method_3_code 7 = .ok (.iconst (-1), 1) := by decide +kernel
theorem d_PlainOrigin_isOpen_8 : decode prog_1_method_3_code 8 = .ok (.if_icmp .eq (7), 3) := by decide +kernel
theorem d_PlainOrigin_isOpen_11 : decode prog_1_method_3_code 11 = .ok (.iconst 1, 1) := by decide +kernel
theorem d_PlainOrigin_isOpen_12 : decode prog_1_method_3_code 12 = .ok (.goto (4), 3) := by decide +kernel
theorem d_PlainOrigin_isOpen_15 : decode prog_1_method_3_code 15 = .ok (.iconst 0, 1) := by decide +kernel
theorem d_PlainOrigin_isOpen_16 : decode prog_1_method_3_code 16 = .ok (.ireturn, 1) := by decide +kernel
def x_PlainOrigin_isOpen (σ : St) : Option Int32 := (if (σ.1 27 2) = ((-1) : Int32) then some (0 : Int32) else some (1 : Int32))
abbrev rm_PlainOrigin_isOpen : Room := { frames := 0, cells := 0, slots := 0, locals := 0 }
set_option maxHeartbeats 4000000 in
set_option maxRecDepth 100000 in
theorem t_PlainOrigin_isOpen (l : Launch) (G : xG) (σ : St) (r : Int32) (hE : x_PlainOrigin_isOpen σ = some r) : Met l y_PlainOrigin_isOpen (ws_PlainOrigin_isOpen) rm_PlainOrigin_isOpen (xP G σ [.ref (G.2.1 0)]) (xRd (some (.int r))) 0 0 (fun _ => False) := by
  refine Met.ofW (cc := prog_1_method_3_code) (maxL := 1) (ret := (some .boolean)) (by decide) rfl ?_
  intro p e s m args below meth c s₁ B hml hv
  obtain ⟨rfl, hw, hC⟩ := hv
  have hx := B.exec
  have hb := B.bytes
  have hr := B.returns
  have hu : ∀ w ∈ UW, w.before _ s = true := fun w h => atoms_spec B.pre w (List.mem_cons_of_mem _ h)
  have hown : s.vm.findClass R_PlainOrigin = some m.cls := findClass_of_methodNamed B.named
  have hlocks := B.notSynchronized
  have hK := hC.1
  have hI := hC.2.1
  have hG := hC.2.2.1
  have hN := hC.2.2.2
  have hS : va_S (xA G) s.heap s.heap [] := va_S.rf
  have hl := lv_entry ([.ref (G.2.1 0)]) (n := 1) (Nat.le_of_ble_eq_true rfl)
  rw [lg_entry_eq]
  generalize (lg_sl ([.ref (G.2.1 0)]) ++ List.replicate (1 - (lg_sl ([.ref (G.2.1 0)])).length) Slot.unset).toArray = ls at hl ⊢
  have hl : lv_has ls 1 [(0, .ref (G.2.1 0))] := hl
  unfold x_PlainOrigin_isOpen at hE
  refine lv_aload_n hx hb d_PlainOrigin_isOpen_0 rfl (lv_at hl 0 rfl) ?_
  refine va_get (D := G.1) (cl := xCl) (ci := 9) (v := .ref (G.2.1 27)) (C := R_PlainOrigin) (T := T_PlainOrigin) (N := 5) hx hb hu fi_PlainOrigin hown hK hw 0 (x_at (by decide) (xcl_0 G σ)) rfl 1 (by decide) (hu _ mw_358) (fun _ h9 => h9) rfl d_PlainOrigin_isOpen_1 ?_
  refine va_getN (D := G.1) (cl := xCl) (ci := 3) (v := .int (σ.1 27 2)) (C := R_Reader) (T := T_Reader) (N := 6) hx hb hu fi_Reader hown hK hw 27 (x_at (by decide) (xcl_27 G σ)) rfl 2 (by decide) (nl_34 hG) (fun _ h9 => h9) rfl d_PlainOrigin_isOpen_4 ?_
  refine lv_iconst (v := ((-1) : Int32)) hx hb d_PlainOrigin_isOpen_7 (by decide) ?_
  refine lv_icmp_eq (tgt := 15) hx hb d_PlainOrigin_isOpen_8 (by decide) (fun hc8 => ?_) (fun hc8 => ?_)
  · rw [if_pos hc8] at hE
    refine lv_iconst (v := (0 : Int32)) hx hb d_PlainOrigin_isOpen_15 (by decide) ?_
    exact W.zret (v := (0 : Int32)) hx hb hr rfl (fun t ht hW => ⟨by rw [Option.some.inj hE], ht⟩) (fun q h => by cases h) d_PlainOrigin_isOpen_16
  · rw [if_neg hc8] at hE
    refine lv_iconst (v := (1 : Int32)) hx hb d_PlainOrigin_isOpen_11 (by decide) ?_
    refine lv_goto (tgt := 16) hx hb d_PlainOrigin_isOpen_12 (by decide) ?_
    exact W.zret (v := (1 : Int32)) hx hb hr rfl (fun t ht hW => ⟨by rw [Option.some.inj hE], ht⟩) (fun q h => by cases h) d_PlainOrigin_isOpen_16

def y_PlainOrigin_connect : MethodName := ⟨"PlainOrigin", "connect", "()V"⟩
def ws_PlainOrigin_connect : List Cond := Cond.code y_PlainOrigin_connect prog_1_method_4_code 1 none :: UW
theorem hd_PlainOrigin_connect : y_PlainOrigin_connect.cls = R_PlainOrigin ∧ y_PlainOrigin_connect.cls ≠ "java/lang/invoke/MethodHandle" ∧ y_PlainOrigin_connect.cls ≠ "java/lang/invoke/VarHandle" ∧ (parseMethodDescriptor y_PlainOrigin_connect.desc).map (fun d => d.parameters.length) = some 0 := by decide +kernel
theorem d_PlainOrigin_connect_0 : decode prog_1_method_4_code 0 = .ok (.aload_n 0, 1) := by decide +kernel
theorem d_PlainOrigin_connect_1 : decode prog_1_method_4_code 1 = .ok (.getfield 19, 3) := by decide +kernel
theorem d_PlainOrigin_connect_4 : decode prog_1_method_4_code 4 = .ok (.invokevirtual 77, 3) := by decide +kernel
theorem d_PlainOrigin_connect_7 : decode prog_1_method_4_code 7 = .ok (.aload_n 0, 1) := by decide +kernel
theorem d_PlainOrigin_connect_8 : decode prog_1_method_4_code 8 = .ok (.getfield 33, 3) := by decide +kernel
theorem d_PlainOrigin_connect_11 : decode prog_1_method_4_code 11 = .ok (.invokevirtual 80, 3) := by decide +kernel
theorem d_PlainOrigin_connect_14 : decode prog_1_method_4_code 14 = .ok (.aload_n 0, 1) := by decide +kernel
theorem d_PlainOrigin_connect_15 : decode prog_1_method_4_code 15 = .ok (.iconst (-1), 1) := by decide +kernel
theorem d_PlainOrigin_connect_16 : decode prog_1_method_4_code 16 = .ok (.putfield 37, 3) := by decide +kernel
theorem d_PlainOrigin_connect_19 : decode prog_1_method_4_code 19 = .ok (.return_, 1) := by decide +kernel
def x_PlainOrigin_connect (σ : St) : Option St := (Option.bind (x_Reader_restart σ) (fun s4 => (Option.bind (x_Outbox_empty s4) (fun s11 => (x_let (x_updR s11 0 4 ((-1) : Int32)) (fun (s16 : St) => some s16))))))
abbrev rm_PlainOrigin_connect : Room := { frames := 4, cells := 0, slots := 0, locals := 80 }
set_option maxHeartbeats 4000000 in
set_option maxRecDepth 100000 in
theorem t_PlainOrigin_connect (l : Launch) (G : xG) (σ : St) (σ' : St) (hE : x_PlainOrigin_connect σ = some σ') : Met l y_PlainOrigin_connect (ws_PlainOrigin_connect) rm_PlainOrigin_connect (xP G σ [.ref (G.2.1 0)]) (xQ G none σ') 0 0 (xA G) := by
  refine Met.ofW (cc := prog_1_method_4_code) (maxL := 1) (ret := none) (by decide) rfl ?_
  intro p e s m args below meth c s₁ B hml hv
  obtain ⟨rfl, hw, hC⟩ := hv
  have hx := B.exec
  have hb := B.bytes
  have hr := B.returns
  have hu : ∀ w ∈ UW, w.before _ s = true := fun w h => atoms_spec B.pre w (List.mem_cons_of_mem _ h)
  have hown : s.vm.findClass R_PlainOrigin = some m.cls := findClass_of_methodNamed B.named
  have hlocks := B.notSynchronized
  have hK := hC.1
  have hI := hC.2.1
  have hG := hC.2.2.1
  have hN := hC.2.2.2
  have hS : va_S (xA G) s.heap s.heap [] := va_S.rf
  have hl := lv_entry ([.ref (G.2.1 0)]) (n := 1) (Nat.le_of_ble_eq_true rfl)
  rw [lg_entry_eq]
  generalize (lg_sl ([.ref (G.2.1 0)]) ++ List.replicate (1 - (lg_sl ([.ref (G.2.1 0)])).length) Slot.unset).toArray = ls at hl ⊢
  have hl : lv_has ls 1 [(0, .ref (G.2.1 0))] := hl
  unfold x_PlainOrigin_connect at hE
  refine lv_aload_n hx hb d_PlainOrigin_connect_0 rfl (lv_at hl 0 rfl) ?_
  refine va_get (D := G.1) (cl := xCl) (ci := 9) (v := .ref (G.2.1 27)) (C := R_PlainOrigin) (T := T_PlainOrigin) (N := 5) hx hb hu fi_PlainOrigin hown hK hw 0 (x_at (by decide) (xcl_0 G σ)) rfl 1 (by decide) (hu _ mw_358) (fun _ h9 => h9) rfl d_PlainOrigin_connect_1 ?_
  obtain ⟨s4, hC4, hE⟩ := x_bind hE
  refine x_callV hS (W.runV (As := []) (rest := []) ⟨hx, hb, hml, hown, hu⟩ (t_Reader_restart l G σ s4 hC4) (cwV 0 hu (uw_V mw_381 mw_382 mw_383 mw_64 mw_384) rfl rfl rfl hd_Reader_restart ⟨Nat.le_of_ble_eq_true rfl, Nat.le_of_ble_eq_true rfl⟩) (x_preV hC hS hw (va_recv hK hw (q := (R_Reader, T_Reader, 6)) (ci := 3) rfl (x_at (by decide) (xcl_27 G σ)))) rfl rfl hl.1 rfl (lv_room (Nat.le_of_ble_eq_true rfl)) d_PlainOrigin_connect_4 ⟨Nat.le_of_ble_eq_true rfl, Nat.le_of_ble_eq_true rfl⟩) (fun H locs hw hS => ?_)
  refine lv_aload_n hx hb d_PlainOrigin_connect_7 rfl (lv_at hl 0 rfl) ?_
  refine va_get (D := G.1) (cl := xCl) (ci := 9) (v := .ref (G.2.1 48)) (C := R_PlainOrigin) (T := T_PlainOrigin) (N := 5) hx hb hu fi_PlainOrigin hown hK hw 0 (x_at (by decide) (xcl_0 G s4)) rfl 3 (by decide) (hu _ mw_360) (fun _ h9 => h9) rfl d_PlainOrigin_connect_8 ?_
  obtain ⟨s11, hC11, hE⟩ := x_bind hE
  refine x_callV hS (W.runV (As := []) (rest := []) ⟨hx, hb, hml, hown, hu⟩ (t_Outbox_empty l G s4 s11 hC11) (cwV 0 hu (uw_V mw_399 mw_400 mw_401 mw_69 mw_402) rfl rfl rfl hd_Outbox_empty ⟨Nat.le_of_ble_eq_true rfl, Nat.le_of_ble_eq_true rfl⟩) (x_preV hC hS hw (va_recv hK hw (q := (R_Outbox, T_Outbox, 2)) (ci := 8) rfl (x_at (by decide) (xcl_48 G s4)))) rfl rfl hl.1 rfl (lv_room (Nat.le_of_ble_eq_true rfl)) d_PlainOrigin_connect_11 ⟨Nat.le_of_ble_eq_true rfl, Nat.le_of_ble_eq_true rfl⟩) (fun H locs hw hS => ?_)
  refine lv_aload_n hx hb d_PlainOrigin_connect_14 rfl (lv_at hl 0 rfl) ?_
  refine lv_iconst (v := ((-1) : Int32)) hx hb d_PlainOrigin_connect_15 (by decide) ?_
  refine va_put (D := G.1) (cl := xCl) (ci := 9) (v := .int ((-1) : Int32)) (ty := .int) (C := R_PlainOrigin) (T := T_PlainOrigin) (N := 5) hx hb hu fi_PlainOrigin ty_PlainOrigin tyok_PlainOrigin nm_PlainOrigin hown hK hw (x_D hI _) hS 0 (x_at (by decide) (xcl_0 G s11)) rfl 4 (by decide) (hu _ mw_361) (fun _ h9 => h9) rfl (tyok_PlainOrigin 4 (by decide)) rfl rfl (Nat.le_of_ble_eq_true rfl) d_PlainOrigin_connect_16 (fun H locs hw _ hS => ?_)
  replace hw := x_setR hw (by decide) rfl
  obtain ⟨s16, e16, hE⟩ := x_letE hE
  rw [← e16] at hw
  have e1 := Option.some.inj hE
  exact W.vret hx hb hr (fun t ht hW => ⟨rfl, by rw [ht, ← e1]; exact hw, hS.F ht⟩) hS.2.2 d_PlainOrigin_connect_19

def y_PlainOrigin_sent : MethodName := ⟨"PlainOrigin", "sent", "()I"⟩
def ws_PlainOrigin_sent : List Cond := Cond.code y_PlainOrigin_sent prog_1_method_5_code 1 (some .int) :: UW
theorem hd_PlainOrigin_sent : y_PlainOrigin_sent.cls = R_PlainOrigin ∧ y_PlainOrigin_sent.cls ≠ "java/lang/invoke/MethodHandle" ∧ y_PlainOrigin_sent.cls ≠ "java/lang/invoke/VarHandle" ∧ (parseMethodDescriptor y_PlainOrigin_sent.desc).map (fun d => d.parameters.length) = some 0 := by decide +kernel
theorem d_PlainOrigin_sent_0 : decode prog_1_method_5_code 0 = .ok (.aload_n 0, 1) := by decide +kernel
theorem d_PlainOrigin_sent_1 : decode prog_1_method_5_code 1 = .ok (.getfield 33, 3) := by decide +kernel
theorem d_PlainOrigin_sent_4 : decode prog_1_method_5_code 4 = .ok (.getfield 83, 3) := by decide +kernel
theorem d_PlainOrigin_sent_7 : decode prog_1_method_5_code 7 = .ok (.ireturn, 1) := by decide +kernel
def x_PlainOrigin_sent (σ : St) : Option Int32 := some (σ.1 48 1)
abbrev rm_PlainOrigin_sent : Room := { frames := 0, cells := 0, slots := 0, locals := 0 }
set_option maxHeartbeats 4000000 in
set_option maxRecDepth 100000 in
theorem t_PlainOrigin_sent (l : Launch) (G : xG) (σ : St) (r : Int32) (hE : x_PlainOrigin_sent σ = some r) : Met l y_PlainOrigin_sent (ws_PlainOrigin_sent) rm_PlainOrigin_sent (xP G σ [.ref (G.2.1 0)]) (xRd (some (.int r))) 0 0 (fun _ => False) := by
  refine Met.ofW (cc := prog_1_method_5_code) (maxL := 1) (ret := (some .int)) (by decide) rfl ?_
  intro p e s m args below meth c s₁ B hml hv
  obtain ⟨rfl, hw, hC⟩ := hv
  have hx := B.exec
  have hb := B.bytes
  have hr := B.returns
  have hu : ∀ w ∈ UW, w.before _ s = true := fun w h => atoms_spec B.pre w (List.mem_cons_of_mem _ h)
  have hown : s.vm.findClass R_PlainOrigin = some m.cls := findClass_of_methodNamed B.named
  have hlocks := B.notSynchronized
  have hK := hC.1
  have hI := hC.2.1
  have hG := hC.2.2.1
  have hN := hC.2.2.2
  have hS : va_S (xA G) s.heap s.heap [] := va_S.rf
  have hl := lv_entry ([.ref (G.2.1 0)]) (n := 1) (Nat.le_of_ble_eq_true rfl)
  rw [lg_entry_eq]
  generalize (lg_sl ([.ref (G.2.1 0)]) ++ List.replicate (1 - (lg_sl ([.ref (G.2.1 0)])).length) Slot.unset).toArray = ls at hl ⊢
  have hl : lv_has ls 1 [(0, .ref (G.2.1 0))] := hl
  unfold x_PlainOrigin_sent at hE
  refine lv_aload_n hx hb d_PlainOrigin_sent_0 rfl (lv_at hl 0 rfl) ?_
  refine va_get (D := G.1) (cl := xCl) (ci := 9) (v := .ref (G.2.1 48)) (C := R_PlainOrigin) (T := T_PlainOrigin) (N := 5) hx hb hu fi_PlainOrigin hown hK hw 0 (x_at (by decide) (xcl_0 G σ)) rfl 3 (by decide) (hu _ mw_360) (fun _ h9 => h9) rfl d_PlainOrigin_sent_1 ?_
  refine va_getN (D := G.1) (cl := xCl) (ci := 8) (v := .int (σ.1 48 1)) (C := R_Outbox) (T := T_Outbox) (N := 2) hx hb hu fi_Outbox hown hK hw 48 (x_at (by decide) (xcl_48 G σ)) rfl 1 (by decide) (nl_51 hG) (fun _ h9 => h9) rfl d_PlainOrigin_sent_4 ?_
  exact W.iret (v := σ.1 48 1) hx hb hr (fun t ht hW => ⟨by rw [Option.some.inj hE], ht⟩) (fun q h => by cases h) d_PlainOrigin_sent_7

def y_PlainOrigin_out : MethodName := ⟨"PlainOrigin", "out", "(I)J"⟩
def ws_PlainOrigin_out : List Cond := Cond.code y_PlainOrigin_out prog_1_method_6_code 6 (some .long) :: UW
theorem hd_PlainOrigin_out : y_PlainOrigin_out.cls = R_PlainOrigin ∧ y_PlainOrigin_out.cls ≠ "java/lang/invoke/MethodHandle" ∧ y_PlainOrigin_out.cls ≠ "java/lang/invoke/VarHandle" ∧ (parseMethodDescriptor y_PlainOrigin_out.desc).map (fun d => d.parameters.length) = some 1 := by decide +kernel
theorem d_PlainOrigin_out_0 : decode prog_1_method_6_code 0 = .ok (.iload_n 1, 1) := by decide +kernel
theorem d_PlainOrigin_out_1 : decode prog_1_method_6_code 1 = .ok (.ifCond .lt (10), 3) := by decide +kernel
theorem d_PlainOrigin_out_4 : decode prog_1_method_6_code 4 = .ok (.iload_n 1, 1) := by decide +kernel
theorem d_PlainOrigin_out_5 : decode prog_1_method_6_code 5 = .ok (.sipush (250), 3) := by decide +kernel
theorem d_PlainOrigin_out_8 : decode prog_1_method_6_code 8 = .ok (.if_icmp .lt (13), 3) := by decide +kernel
theorem d_PlainOrigin_out_11 : decode prog_1_method_6_code 11 = .ok (.new 86, 3) := by decide +kernel
theorem d_PlainOrigin_out_14 : decode prog_1_method_6_code 14 = .ok (.dup, 1) := by decide +kernel
theorem d_PlainOrigin_out_15 : decode prog_1_method_6_code 15 = .ok (.ldc 88, 2) := by decide +kernel
theorem d_PlainOrigin_out_17 : decode prog_1_method_6_code 17 = .ok (.invokespecial 90, 3) := by decide +kernel
theorem d_PlainOrigin_out_20 : decode prog_1_method_6_code 20 = .ok (.athrow, 1) := by decide +kernel
theorem d_PlainOrigin_out_21 : decode prog_1_method_6_code 21 = .ok (.lconst 0, 1) := by decide +kernel
theorem d_PlainOrigin_out_22 : decode prog_1_method_6_code 22 = .ok (.lstore_n 2, 1) := by decide +kernel
theorem d_PlainOrigin_out_23 : decode prog_1_method_6_code 23 = .ok (.bipush (7), 2) := by decide +kernel
theorem d_PlainOrigin_out_25 : decode prog_1_method_6_code 25 = .ok (.istore 4, 2) := by decide +kernel
theorem d_PlainOrigin_out_27 : decode prog_1_method_6_code 27 = .ok (.iload 4, 2) := by decide +kernel
theorem d_PlainOrigin_out_29 : decode prog_1_method_6_code 29 = .ok (.ifCond .lt (47), 3) := by decide +kernel
theorem d_PlainOrigin_out_32 : decode prog_1_method_6_code 32 = .ok (.aload_n 0, 1) := by decide +kernel
theorem d_PlainOrigin_out_33 : decode prog_1_method_6_code 33 = .ok (.getfield 33, 3) := by decide +kernel
theorem d_PlainOrigin_out_36 : decode prog_1_method_6_code 36 = .ok (.getfield 91, 3) := by decide +kernel
theorem d_PlainOrigin_out_39 : decode prog_1_method_6_code 39 = .ok (.bipush (8), 2) := by decide +kernel
theorem d_PlainOrigin_out_41 : decode prog_1_method_6_code 41 = .ok (.iload_n 1, 1) := by decide +kernel
theorem d_PlainOrigin_out_42 : decode prog_1_method_6_code 42 = .ok (.imul, 1) := by decide +kernel
theorem d_PlainOrigin_out_43 : decode prog_1_method_6_code 43 = .ok (.iload 4, 2) := by decide +kernel
theorem d_PlainOrigin_out_45 : decode prog_1_method_6_code 45 = .ok (.iadd, 1) := by decide +kernel
theorem d_PlainOrigin_out_46 : decode prog_1_method_6_code 46 = .ok (.invokevirtual 95, 3) := by decide +kernel
theorem d_PlainOrigin_out_49 : decode prog_1_method_6_code 49 = .ok (.istore 5, 2) := by decide +kernel
theorem d_PlainOrigin_out_51 : decode prog_1_method_6_code 51 = .ok (.lload_n 2, 1) := by decide +kernel
theorem d_PlainOrigin_out_52 : decode prog_1_method_6_code 52 = .ok (.bipush (8), 2) := by decide +kernel
theorem d_PlainOrigin_out_54 : decode prog_1_method_6_code 54 = .ok (.lshl, 1) := by decide +kernel
theorem d_PlainOrigin_out_55 : decode prog_1_method_6_code 55 = .ok (.iload 5, 2) := by decide +kernel
theorem d_PlainOrigin_out_57 : decode prog_1_method_6_code 57 = .ok (.iconst (-1), 1) := by decide +kernel
theorem d_PlainOrigin_out_58 : decode prog_1_method_6_code 58 = .ok (.if_icmp .ne (7), 3) := by decide +kernel
theorem d_PlainOrigin_out_61 : decode prog_1_method_6_code 61 = .ok (.iconst 0, 1) := by decide +kernel
theorem d_PlainOrigin_out_62 : decode prog_1_method_6_code 62 = .ok (.goto (5), 3) := by decide +kernel
theorem d_PlainOrigin_out_65 : decode prog_1_method_6_code 65 = .ok (.iload 5, 2) := by decide +kernel
theorem d_PlainOrigin_out_67 : decode prog_1_method_6_code 67 = .ok (.i2l, 1) := by decide +kernel
theorem d_PlainOrigin_out_68 : decode prog_1_method_6_code 68 = .ok (.lor, 1) := by decide +kernel
theorem d_PlainOrigin_out_69 : decode prog_1_method_6_code 69 = .ok (.lstore_n 2, 1) := by decide +kernel
theorem d_PlainOrigin_out_70 : decode prog_1_method_6_code 70 = .ok (.iinc 4 (-1), 3) := by decide +kernel
theorem d_PlainOrigin_out_73 : decode prog_1_method_6_code 73 = .ok (.goto (-46), 3) := by decide +kernel
theorem d_PlainOrigin_out_76 : decode prog_1_method_6_code 76 = .ok (.lload_n 2, 1) := by decide +kernel
theorem d_PlainOrigin_out_77 : decode prog_1_method_6_code 77 = .ok (.lreturn, 1) := by decide +kernel
def x_PlainOrigin_out_11 (a1 : Int32) (σ : St) : Option Int64 := none
def x_PlainOrigin_out_67 (a1 : Int32) (σ : St) (bk27 : Int64 → Int32 → Option Int64) (l4 : Int32) (k0 : Int32) (k1 : Int64) : Option Int64 := (x_let (k1 ||| (Int32.toInt64 k0)) (fun (v69 : Int64) => (x_let (l4 + ((-1) : Int32)) (fun (v70 : Int32) => bk27 v69 v70))))
def x_PlainOrigin_out_27 (a1 : Int32) (σ : St) : Nat → Int64 → Int32 → Option Int64
  | 0, _, _ => none
  | n + 1, l2, l4 => (if l4 < 0 then some l2 else (Option.bind (x_Bytes_get 49 (((8 : Int32) * a1) + l4) σ) (fun r46 => (if r46 = ((-1) : Int32) then x_PlainOrigin_out_67 a1 σ (x_PlainOrigin_out_27 a1 σ n) l4 (0 : Int32) (l2 <<< (Int32.toInt64 (8 : Int32) &&& 63)) else x_PlainOrigin_out_67 a1 σ (x_PlainOrigin_out_27 a1 σ n) l4 r46 (l2 <<< (Int32.toInt64 (8 : Int32) &&& 63))))))
def x_PlainOrigin_out (a1 : Int32) (σ : St) : Option Int64 := (if a1 < 0 then x_PlainOrigin_out_11 a1 σ else (if a1 < (250 : Int32) then x_PlainOrigin_out_27 a1 σ x_fuel (0 : Int64) (7 : Int32) else x_PlainOrigin_out_11 a1 σ))
abbrev rm_PlainOrigin_out : Room := { frames := 1, cells := 0, slots := 0, locals := 21 }
set_option maxHeartbeats 4000000 in
set_option maxRecDepth 100000 in
theorem t_PlainOrigin_out (l : Launch) (G : xG) (σ : St) (a1 : Int32) (r : Int64) (hE : x_PlainOrigin_out a1 σ = some r) : Met l y_PlainOrigin_out (ws_PlainOrigin_out) rm_PlainOrigin_out (xP G σ [.ref (G.2.1 0), .int a1]) (xRd (some (.long r))) 0 0 (fun _ => False) := by
  refine Met.ofW (cc := prog_1_method_6_code) (maxL := 6) (ret := (some .long)) (by decide) rfl ?_
  intro p e s m args below meth c s₁ B hml hv
  obtain ⟨rfl, hw, hC⟩ := hv
  have hx := B.exec
  have hb := B.bytes
  have hr := B.returns
  have hu : ∀ w ∈ UW, w.before _ s = true := fun w h => atoms_spec B.pre w (List.mem_cons_of_mem _ h)
  have hown : s.vm.findClass R_PlainOrigin = some m.cls := findClass_of_methodNamed B.named
  have hlocks := B.notSynchronized
  have hK := hC.1
  have hI := hC.2.1
  have hG := hC.2.2.1
  have hN := hC.2.2.2
  have hS : va_S (xA G) s.heap s.heap [] := va_S.rf
  have jn11 : ∀ (ls : Array Slot), x_PlainOrigin_out_11 a1 σ = some r → lv_has ls 6 [(0, .ref (G.2.1 0)), (1, .int a1)] → W p l e (headSpec (ws_PlainOrigin_out) rm_PlainOrigin_out).room s m ([.ref (G.2.1 0), .int a1] : List Value).toArray below meth c s.heap [] 0 0 (MQ below (xRd (some (.long r))) ([.ref (G.2.1 0), .int a1] : List Value).toArray s 0 0 (fun _ => False)) (F0 m 11 ls []) := by
    intro ls hE hl
    unfold x_PlainOrigin_out_11 at hE
    cases hE
  have jn67 : ∀ (bk27 : Int64 → Int32 → Option Int64) (hbk27 : ∀ (ls : Array Slot) (l2 : Int64) (l4 : Int32), bk27 l2 l4 = some r → lv_has ls 6 [(0, .ref (G.2.1 0)), (1, .int a1), (2, .long l2), (4, .int l4)] → W p l e (headSpec (ws_PlainOrigin_out) rm_PlainOrigin_out).room s m ([.ref (G.2.1 0), .int a1] : List Value).toArray below meth c s.heap [] 0 0 (MQ below (xRd (some (.long r))) ([.ref (G.2.1 0), .int a1] : List Value).toArray s 0 0 (fun _ => False)) (F0 m 27 ls [])) (ls : Array Slot) (l4 : Int32) (k0 : Int32) (k1 : Int64), x_PlainOrigin_out_67 a1 σ bk27 l4 k0 k1 = some r → lv_has ls 6 [(0, .ref (G.2.1 0)), (1, .int a1), (4, .int l4)] → W p l e (headSpec (ws_PlainOrigin_out) rm_PlainOrigin_out).room s m ([.ref (G.2.1 0), .int a1] : List Value).toArray below meth c s.heap [] 0 0 (MQ below (xRd (some (.long r))) ([.ref (G.2.1 0), .int a1] : List Value).toArray s 0 0 (fun _ => False)) (F0 m 67 ls [.int k0, .long k1]) := by
    intro bk27 hbk27 ls l4 k0 k1 hE hl
    unfold x_PlainOrigin_out_67 at hE
    refine lv_i2l hx hb d_PlainOrigin_out_67 rfl ?_
    refine lv_lor hx hb d_PlainOrigin_out_68 ?_
    refine lv_topl (fun v69 e69 => ?_)
    replace hE := x_letT e69 hE
    refine lv_lstore_n hx hb d_PlainOrigin_out_69 rfl hl (by decide) rfl (fun ls hl => ?_)
    have hl : lv_has ls 6 [(2, .long v69), (0, .ref (G.2.1 0)), (1, .int a1), (4, .int l4)] := hl
    obtain ⟨v70, e70, hE⟩ := x_letE hE
    refine lv_iinc hx hb d_PlainOrigin_out_70 hl (k := 3) rfl (x_inc v70 e70 (by decide)) (by decide) rfl (fun ls hl => ?_)
    have hl : lv_has ls 6 [(4, .int v70), (2, .long v69), (0, .ref (G.2.1 0)), (1, .int a1)] := hl
    refine lv_goto (tgt := 27) hx hb d_PlainOrigin_out_73 (by decide) ?_
    exact hbk27 _ _ _ hE (lv_sub hl [2, 3, 1, 0] rfl)
  have jn27 : ∀ (n : Nat) (ls : Array Slot) (l2 : Int64) (l4 : Int32), x_PlainOrigin_out_27 a1 σ n l2 l4 = some r → lv_has ls 6 [(0, .ref (G.2.1 0)), (1, .int a1), (2, .long l2), (4, .int l4)] → W p l e (headSpec (ws_PlainOrigin_out) rm_PlainOrigin_out).room s m ([.ref (G.2.1 0), .int a1] : List Value).toArray below meth c s.heap [] 0 0 (MQ below (xRd (some (.long r))) ([.ref (G.2.1 0), .int a1] : List Value).toArray s 0 0 (fun _ => False)) (F0 m 27 ls []) := by
    intro n
    induction n with
    | zero => intro ls l2 l4 hE; rw [x_PlainOrigin_out_27] at hE; cases hE
    | succ n ih =>
      intro ls l2 l4 hE hl
      rw [x_PlainOrigin_out_27] at hE
      refine lv_iload hx hb d_PlainOrigin_out_27 (lv_at hl 3 rfl) ?_
      refine lv_if_lt (tgt := 76) hx hb d_PlainOrigin_out_29 (by decide) (fun hc29 => ?_) (fun hc29 => ?_)
      · rw [if_pos hc29] at hE
        refine lv_lload_n hx hb d_PlainOrigin_out_76 rfl (lv_at hl 2 rfl) ?_
        exact W.lret (v := l2) hx hb hr (fun t ht hW => ⟨by rw [Option.some.inj hE], ht⟩) (fun q h => by cases h) d_PlainOrigin_out_77
      · rw [if_neg hc29] at hE
        refine lv_aload_n hx hb d_PlainOrigin_out_32 rfl (lv_at hl 0 rfl) ?_
        refine va_get (D := G.1) (cl := xCl) (ci := 9) (v := .ref (G.2.1 48)) (C := R_PlainOrigin) (T := T_PlainOrigin) (N := 5) hx hb hu fi_PlainOrigin hown hK hw 0 (x_at (by decide) (xcl_0 G σ)) rfl 3 (by decide) (hu _ mw_360) (fun _ h9 => h9) rfl d_PlainOrigin_out_33 ?_
        refine va_getN (D := G.1) (cl := xCl) (ci := 8) (v := .ref (G.2.1 49)) (C := R_Outbox) (T := T_Outbox) (N := 2) hx hb hu fi_Outbox hown hK hw 48 (x_at (by decide) (xcl_48 G σ)) rfl 0 (by decide) (nl_50 hG) (fun _ h9 => h9) rfl d_PlainOrigin_out_36 ?_
        refine lv_bipush (v := (8 : Int32)) hx hb d_PlainOrigin_out_39 (by decide) ?_
        refine lv_iload_n hx hb d_PlainOrigin_out_41 rfl (lv_at hl 1 rfl) ?_
        refine lv_imul hx hb d_PlainOrigin_out_42 ?_
        refine lv_iload hx hb d_PlainOrigin_out_43 (lv_at hl 3 rfl) ?_
        refine lv_iadd hx hb d_PlainOrigin_out_45 ?_
        obtain ⟨r46, hC46, hE⟩ := x_bind hE
        refine x_callR (W.runV (As := [.int (((8 : Int32) * a1) + l4)]) (rest := []) ⟨hx, hb, hml, hown, hu⟩ (t_Bytes_get l G σ 49 (((8 : Int32) * a1) + l4) (by decide) r46 hC46) (cwV 1 hu (uw_V mw_980 mw_540 mw_541 mw_63 mw_542) rfl rfl rfl hd_Bytes_get ⟨Nat.le_of_ble_eq_true rfl, Nat.le_of_ble_eq_true rfl⟩) (x_preV hC hS hw (va_recv hK hw (q := (R_Bytes, T_Bytes, 2)) (ci := 0) rfl (x_at (by decide) (xcl_49 G σ)))) rfl rfl hl.1 rfl (lv_room (Nat.le_of_ble_eq_true rfl)) d_PlainOrigin_out_46 ⟨Nat.le_of_ble_eq_true rfl, Nat.le_of_ble_eq_true rfl⟩) ?_
        refine lv_istore hx hb d_PlainOrigin_out_49 hl (by decide) rfl (fun ls hl => ?_)
        have hl : lv_has ls 6 [(5, .int r46), (0, .ref (G.2.1 0)), (1, .int a1), (2, .long l2), (4, .int l4)] := hl
        refine lv_lload_n hx hb d_PlainOrigin_out_51 rfl (lv_at hl 3 rfl) ?_
        refine lv_bipush (v := (8 : Int32)) hx hb d_PlainOrigin_out_52 (by decide) ?_
        refine lv_lshl hx hb d_PlainOrigin_out_54 rfl ?_
        refine lv_iload hx hb d_PlainOrigin_out_55 (lv_at hl 0 rfl) ?_
        refine lv_iconst (v := ((-1) : Int32)) hx hb d_PlainOrigin_out_57 (by decide) ?_
        refine lv_icmp_ne (tgt := 65) hx hb d_PlainOrigin_out_58 (by decide) (fun hc58 => ?_) (fun hc58 => ?_)
        · rw [if_neg hc58] at hE
          refine lv_iload hx hb d_PlainOrigin_out_65 (lv_at hl 0 rfl) ?_
          exact jn67 _ ih _ _ _ _ hE (lv_sub hl [1, 2, 4] rfl)
        · rw [if_pos hc58] at hE
          refine lv_iconst (v := (0 : Int32)) hx hb d_PlainOrigin_out_61 (by decide) ?_
          refine lv_goto (tgt := 67) hx hb d_PlainOrigin_out_62 (by decide) ?_
          exact jn67 _ ih _ _ _ _ hE (lv_sub hl [1, 2, 4] rfl)
  have hl := lv_entry ([.ref (G.2.1 0), .int a1]) (n := 6) (Nat.le_of_ble_eq_true rfl)
  rw [lg_entry_eq]
  generalize (lg_sl ([.ref (G.2.1 0), .int a1]) ++ List.replicate (6 - (lg_sl ([.ref (G.2.1 0), .int a1])).length) Slot.unset).toArray = ls at hl ⊢
  have hl : lv_has ls 6 [(0, .ref (G.2.1 0)), (1, .int a1)] := hl
  unfold x_PlainOrigin_out at hE
  refine lv_iload_n hx hb d_PlainOrigin_out_0 rfl (lv_at hl 1 rfl) ?_
  refine lv_if_lt (tgt := 11) hx hb d_PlainOrigin_out_1 (by decide) (fun hc1 => ?_) (fun hc1 => ?_)
  · rw [if_pos hc1] at hE
    exact jn11 _ hE (lv_sub hl [0, 1] rfl)
  · rw [if_neg hc1] at hE
    refine lv_iload_n hx hb d_PlainOrigin_out_4 rfl (lv_at hl 1 rfl) ?_
    refine lv_sipush (v := (250 : Int32)) hx hb d_PlainOrigin_out_5 (by decide) ?_
    refine lv_icmp_lt (tgt := 21) hx hb d_PlainOrigin_out_8 (by decide) (fun hc8 => ?_) (fun hc8 => ?_)
    · rw [if_pos hc8] at hE
      refine lv_lconst (v := (0 : Int64)) hx hb d_PlainOrigin_out_21 (by decide) ?_
      refine lv_lstore_n hx hb d_PlainOrigin_out_22 rfl hl (by decide) rfl (fun ls hl => ?_)
      have hl : lv_has ls 6 [(2, .long (0 : Int64)), (0, .ref (G.2.1 0)), (1, .int a1)] := hl
      refine lv_bipush (v := (7 : Int32)) hx hb d_PlainOrigin_out_23 (by decide) ?_
      refine lv_istore hx hb d_PlainOrigin_out_25 hl (by decide) rfl (fun ls hl => ?_)
      have hl : lv_has ls 6 [(4, .int (7 : Int32)), (2, .long (0 : Int64)), (0, .ref (G.2.1 0)), (1, .int a1)] := hl
      exact jn27 x_fuel _ _ _ hE (lv_sub hl [2, 3, 1, 0] rfl)
    · rw [if_neg hc8] at hE
      exact jn11 _ hE (lv_sub hl [0, 1] rfl)

def y_PlainOrigin_drain : MethodName := ⟨"PlainOrigin", "drain", "()I"⟩
def ws_PlainOrigin_drain : List Cond := Cond.code y_PlainOrigin_drain prog_1_method_7_code 2 (some .int) :: UW
theorem hd_PlainOrigin_drain : y_PlainOrigin_drain.cls = R_PlainOrigin ∧ y_PlainOrigin_drain.cls ≠ "java/lang/invoke/MethodHandle" ∧ y_PlainOrigin_drain.cls ≠ "java/lang/invoke/VarHandle" ∧ (parseMethodDescriptor y_PlainOrigin_drain.desc).map (fun d => d.parameters.length) = some 0 := by decide +kernel
theorem d_PlainOrigin_drain_0 : decode prog_1_method_7_code 0 = .ok (.aload_n 0, 1) := by decide +kernel
theorem d_PlainOrigin_drain_1 : decode prog_1_method_7_code 1 = .ok (.getfield 33, 3) := by decide +kernel
theorem d_PlainOrigin_drain_4 : decode prog_1_method_7_code 4 = .ok (.getfield 83, 3) := by decide +kernel
theorem d_PlainOrigin_drain_7 : decode prog_1_method_7_code 7 = .ok (.istore_n 1, 1) := by decide +kernel
theorem d_PlainOrigin_drain_8 : decode prog_1_method_7_code 8 = .ok (.aload_n 0, 1) := by decide +kernel
theorem d_PlainOrigin_drain_9 : decode prog_1_method_7_code 9 = .ok (.getfield 33, 3) := by decide +kernel
theorem d_PlainOrigin_drain_12 : decode prog_1_method_7_code 12 = .ok (.invokevirtual 80, 3) := by decide +kernel
theorem d_PlainOrigin_drain_15 : decode prog_1_method_7_code 15 = .ok (.iload_n 1, 1) := by decide +kernel
theorem d_PlainOrigin_drain_16 : decode prog_1_method_7_code 16 = .ok (.ireturn, 1) := by decide +kernel
def x_PlainOrigin_drain (σ : St) : Option (Int32 × St) := (x_let (σ.1 48 1) (fun (v7 : Int32) => (Option.bind (x_Outbox_empty σ) (fun s12 => some (v7, s12)))))
abbrev rm_PlainOrigin_drain : Room := { frames := 2, cells := 0, slots := 0, locals := 40 }
set_option maxHeartbeats 4000000 in
set_option maxRecDepth 100000 in
theorem t_PlainOrigin_drain (l : Launch) (G : xG) (σ : St) (r : Int32) (σ' : St) (hE : x_PlainOrigin_drain σ = some (r, σ')) : Met l y_PlainOrigin_drain (ws_PlainOrigin_drain) rm_PlainOrigin_drain (xP G σ [.ref (G.2.1 0)]) (xQ G (some (.int r)) σ') 0 0 (xA G) := by
  refine Met.ofW (cc := prog_1_method_7_code) (maxL := 2) (ret := (some .int)) (by decide) rfl ?_
  intro p e s m args below meth c s₁ B hml hv
  obtain ⟨rfl, hw, hC⟩ := hv
  have hx := B.exec
  have hb := B.bytes
  have hr := B.returns
  have hu : ∀ w ∈ UW, w.before _ s = true := fun w h => atoms_spec B.pre w (List.mem_cons_of_mem _ h)
  have hown : s.vm.findClass R_PlainOrigin = some m.cls := findClass_of_methodNamed B.named
  have hlocks := B.notSynchronized
  have hK := hC.1
  have hI := hC.2.1
  have hG := hC.2.2.1
  have hN := hC.2.2.2
  have hS : va_S (xA G) s.heap s.heap [] := va_S.rf
  have hl := lv_entry ([.ref (G.2.1 0)]) (n := 2) (Nat.le_of_ble_eq_true rfl)
  rw [lg_entry_eq]
  generalize (lg_sl ([.ref (G.2.1 0)]) ++ List.replicate (2 - (lg_sl ([.ref (G.2.1 0)])).length) Slot.unset).toArray = ls at hl ⊢
  have hl : lv_has ls 2 [(0, .ref (G.2.1 0))] := hl
  unfold x_PlainOrigin_drain at hE
  refine lv_aload_n hx hb d_PlainOrigin_drain_0 rfl (lv_at hl 0 rfl) ?_
  refine va_get (D := G.1) (cl := xCl) (ci := 9) (v := .ref (G.2.1 48)) (C := R_PlainOrigin) (T := T_PlainOrigin) (N := 5) hx hb hu fi_PlainOrigin hown hK hw 0 (x_at (by decide) (xcl_0 G σ)) rfl 3 (by decide) (hu _ mw_360) (fun _ h9 => h9) rfl d_PlainOrigin_drain_1 ?_
  refine va_getN (D := G.1) (cl := xCl) (ci := 8) (v := .int (σ.1 48 1)) (C := R_Outbox) (T := T_Outbox) (N := 2) hx hb hu fi_Outbox hown hK hw 48 (x_at (by decide) (xcl_48 G σ)) rfl 1 (by decide) (nl_51 hG) (fun _ h9 => h9) rfl d_PlainOrigin_drain_4 ?_
  refine lv_topi (fun v7 e7 => ?_)
  replace hE := x_letT e7 hE
  refine lv_istore_n hx hb d_PlainOrigin_drain_7 rfl hl (by decide) rfl (fun ls hl => ?_)
  have hl : lv_has ls 2 [(1, .int v7), (0, .ref (G.2.1 0))] := hl
  refine lv_aload_n hx hb d_PlainOrigin_drain_8 rfl (lv_at hl 1 rfl) ?_
  refine va_get (D := G.1) (cl := xCl) (ci := 9) (v := .ref (G.2.1 48)) (C := R_PlainOrigin) (T := T_PlainOrigin) (N := 5) hx hb hu fi_PlainOrigin hown hK hw 0 (x_at (by decide) (xcl_0 G σ)) rfl 3 (by decide) (hu _ mw_360) (fun _ h9 => h9) rfl d_PlainOrigin_drain_9 ?_
  obtain ⟨s12, hC12, hE⟩ := x_bind hE
  refine x_callV hS (W.runV (As := []) (rest := []) ⟨hx, hb, hml, hown, hu⟩ (t_Outbox_empty l G σ s12 hC12) (cwV 0 hu (uw_V mw_399 mw_400 mw_401 mw_69 mw_402) rfl rfl rfl hd_Outbox_empty ⟨Nat.le_of_ble_eq_true rfl, Nat.le_of_ble_eq_true rfl⟩) (x_preV hC hS hw (va_recv hK hw (q := (R_Outbox, T_Outbox, 2)) (ci := 8) rfl (x_at (by decide) (xcl_48 G σ)))) rfl rfl hl.1 rfl (lv_room (Nat.le_of_ble_eq_true rfl)) d_PlainOrigin_drain_12 ⟨Nat.le_of_ble_eq_true rfl, Nat.le_of_ble_eq_true rfl⟩) (fun H locs hw hS => ?_)
  refine lv_iload_n hx hb d_PlainOrigin_drain_15 rfl (lv_at hl 0 rfl) ?_
  obtain ⟨e1, e2⟩ := x_pair hE
  exact W.iret (v := v7) hx hb hr (fun t ht hW => ⟨by rw [e1], by rw [ht, ← e2]; exact hw, hS.F ht⟩) hS.2.2 d_PlainOrigin_drain_16

def y_PlainOrigin_status : MethodName := ⟨"PlainOrigin", "status", "()I"⟩
def ws_PlainOrigin_status : List Cond := Cond.code y_PlainOrigin_status prog_1_method_8_code 1 (some .int) :: UW
theorem hd_PlainOrigin_status : y_PlainOrigin_status.cls = R_PlainOrigin ∧ y_PlainOrigin_status.cls ≠ "java/lang/invoke/MethodHandle" ∧ y_PlainOrigin_status.cls ≠ "java/lang/invoke/VarHandle" ∧ (parseMethodDescriptor y_PlainOrigin_status.desc).map (fun d => d.parameters.length) = some 0 := by decide +kernel
theorem d_PlainOrigin_status_0 : decode prog_1_method_8_code 0 = .ok (.aload_n 0, 1) := by decide +kernel
theorem d_PlainOrigin_status_1 : decode prog_1_method_8_code 1 = .ok (.getfield 37, 3) := by decide +kernel
theorem d_PlainOrigin_status_4 : decode prog_1_method_8_code 4 = .ok (.ireturn, 1) := by decide +kernel
def x_PlainOrigin_status (σ : St) : Option Int32 := some (σ.1 0 4)
abbrev rm_PlainOrigin_status : Room := { frames := 0, cells := 0, slots := 0, locals := 0 }
set_option maxHeartbeats 4000000 in
set_option maxRecDepth 100000 in
theorem t_PlainOrigin_status (l : Launch) (G : xG) (σ : St) (r : Int32) (hE : x_PlainOrigin_status σ = some r) : Met l y_PlainOrigin_status (ws_PlainOrigin_status) rm_PlainOrigin_status (xP G σ [.ref (G.2.1 0)]) (xRd (some (.int r))) 0 0 (fun _ => False) := by
  refine Met.ofW (cc := prog_1_method_8_code) (maxL := 1) (ret := (some .int)) (by decide) rfl ?_
  intro p e s m args below meth c s₁ B hml hv
  obtain ⟨rfl, hw, hC⟩ := hv
  have hx := B.exec
  have hb := B.bytes
  have hr := B.returns
  have hu : ∀ w ∈ UW, w.before _ s = true := fun w h => atoms_spec B.pre w (List.mem_cons_of_mem _ h)
  have hown : s.vm.findClass R_PlainOrigin = some m.cls := findClass_of_methodNamed B.named
  have hlocks := B.notSynchronized
  have hK := hC.1
  have hI := hC.2.1
  have hG := hC.2.2.1
  have hN := hC.2.2.2
  have hS : va_S (xA G) s.heap s.heap [] := va_S.rf
  have hl := lv_entry ([.ref (G.2.1 0)]) (n := 1) (Nat.le_of_ble_eq_true rfl)
  rw [lg_entry_eq]
  generalize (lg_sl ([.ref (G.2.1 0)]) ++ List.replicate (1 - (lg_sl ([.ref (G.2.1 0)])).length) Slot.unset).toArray = ls at hl ⊢
  have hl : lv_has ls 1 [(0, .ref (G.2.1 0))] := hl
  unfold x_PlainOrigin_status at hE
  refine lv_aload_n hx hb d_PlainOrigin_status_0 rfl (lv_at hl 0 rfl) ?_
  refine va_get (D := G.1) (cl := xCl) (ci := 9) (v := .int (σ.1 0 4)) (C := R_PlainOrigin) (T := T_PlainOrigin) (N := 5) hx hb hu fi_PlainOrigin hown hK hw 0 (x_at (by decide) (xcl_0 G σ)) rfl 4 (by decide) (hu _ mw_361) (fun _ h9 => h9) rfl d_PlainOrigin_status_1 ?_
  exact W.iret (v := σ.1 0 4) hx hb hr (fun t ht hW => ⟨by rw [Option.some.inj hE], ht⟩) (fun q h => by cases h) d_PlainOrigin_status_4

def y_PlainOrigin_reading : MethodName := ⟨"PlainOrigin", "reading", "()I"⟩
def ws_PlainOrigin_reading : List Cond := Cond.code y_PlainOrigin_reading prog_1_method_9_code 1 (some .int) :: UW
theorem hd_PlainOrigin_reading : y_PlainOrigin_reading.cls = R_PlainOrigin ∧ y_PlainOrigin_reading.cls ≠ "java/lang/invoke/MethodHandle" ∧ y_PlainOrigin_reading.cls ≠ "java/lang/invoke/VarHandle" ∧ (parseMethodDescriptor y_PlainOrigin_reading.desc).map (fun d => d.parameters.length) = some 0 := by decide +kernel
theorem d_PlainOrigin_reading_0 : decode prog_1_method_9_code 0 = .ok (.aload_n 0, 1) := by decide +kernel
theorem d_PlainOrigin_reading_1 : decode prog_1_method_9_code 1 = .ok (.getfield 19, 3) := by decide +kernel
theorem d_PlainOrigin_reading_4 : decode prog_1_method_9_code 4 = .ok (.getfield 74, 3) := by decide +kernel
theorem d_PlainOrigin_reading_7 : decode prog_1_method_9_code 7 = .ok (.ireturn, 1) := by decide +kernel
def x_PlainOrigin_reading (σ : St) : Option Int32 := some (σ.1 27 2)
abbrev rm_PlainOrigin_reading : Room := { frames := 0, cells := 0, slots := 0, locals := 0 }
set_option maxHeartbeats 4000000 in
set_option maxRecDepth 100000 in
theorem t_PlainOrigin_reading (l : Launch) (G : xG) (σ : St) (r : Int32) (hE : x_PlainOrigin_reading σ = some r) : Met l y_PlainOrigin_reading (ws_PlainOrigin_reading) rm_PlainOrigin_reading (xP G σ [.ref (G.2.1 0)]) (xRd (some (.int r))) 0 0 (fun _ => False) := by
  refine Met.ofW (cc := prog_1_method_9_code) (maxL := 1) (ret := (some .int)) (by decide) rfl ?_
  intro p e s m args below meth c s₁ B hml hv
  obtain ⟨rfl, hw, hC⟩ := hv
  have hx := B.exec
  have hb := B.bytes
  have hr := B.returns
  have hu : ∀ w ∈ UW, w.before _ s = true := fun w h => atoms_spec B.pre w (List.mem_cons_of_mem _ h)
  have hown : s.vm.findClass R_PlainOrigin = some m.cls := findClass_of_methodNamed B.named
  have hlocks := B.notSynchronized
  have hK := hC.1
  have hI := hC.2.1
  have hG := hC.2.2.1
  have hN := hC.2.2.2
  have hS : va_S (xA G) s.heap s.heap [] := va_S.rf
  have hl := lv_entry ([.ref (G.2.1 0)]) (n := 1) (Nat.le_of_ble_eq_true rfl)
  rw [lg_entry_eq]
  generalize (lg_sl ([.ref (G.2.1 0)]) ++ List.replicate (1 - (lg_sl ([.ref (G.2.1 0)])).length) Slot.unset).toArray = ls at hl ⊢
  have hl : lv_has ls 1 [(0, .ref (G.2.1 0))] := hl
  unfold x_PlainOrigin_reading at hE
  refine lv_aload_n hx hb d_PlainOrigin_reading_0 rfl (lv_at hl 0 rfl) ?_
  refine va_get (D := G.1) (cl := xCl) (ci := 9) (v := .ref (G.2.1 27)) (C := R_PlainOrigin) (T := T_PlainOrigin) (N := 5) hx hb hu fi_PlainOrigin hown hK hw 0 (x_at (by decide) (xcl_0 G σ)) rfl 1 (by decide) (hu _ mw_358) (fun _ h9 => h9) rfl d_PlainOrigin_reading_1 ?_
  refine va_getN (D := G.1) (cl := xCl) (ci := 3) (v := .int (σ.1 27 2)) (C := R_Reader) (T := T_Reader) (N := 6) hx hb hu fi_Reader hown hK hw 27 (x_at (by decide) (xcl_27 G σ)) rfl 2 (by decide) (nl_34 hG) (fun _ h9 => h9) rfl d_PlainOrigin_reading_4 ?_
  exact W.iret (v := σ.1 27 2) hx hb hr (fun t ht hW => ⟨by rw [Option.some.inj hE], ht⟩) (fun q h => by cases h) d_PlainOrigin_reading_7

def y_PlainOrigin_resourceOf : MethodName := ⟨"PlainOrigin", "resourceOf", "(I)LPlainOrigin$Resource;"⟩
def ws_PlainOrigin_resourceOf : List Cond := Cond.code y_PlainOrigin_resourceOf prog_1_method_14_code 2 (some (.object "PlainOrigin$Resource")) :: UW
theorem hd_PlainOrigin_resourceOf : y_PlainOrigin_resourceOf.cls = R_PlainOrigin ∧ y_PlainOrigin_resourceOf.cls ≠ "java/lang/invoke/MethodHandle" ∧ y_PlainOrigin_resourceOf.cls ≠ "java/lang/invoke/VarHandle" ∧ (parseMethodDescriptor y_PlainOrigin_resourceOf.desc).map (fun d => d.parameters.length) = some 1 := by decide +kernel
theorem d_PlainOrigin_resourceOf_0 : decode prog_1_method_14_code 0 = .ok (.iload_n 1, 1) := by decide +kernel
theorem d_PlainOrigin_resourceOf_1 : decode prog_1_method_14_code 1 = .ok (.ifCond .lt (9), 3) := by decide +kernel
theorem d_PlainOrigin_resourceOf_4 : decode prog_1_method_14_code 4 = .ok (.iload_n 1, 1) := by decide +kernel
theorem d_PlainOrigin_resourceOf_5 : decode prog_1_method_14_code 5 = .ok (.bipush (8), 2) := by decide +kernel
theorem d_PlainOrigin_resourceOf_7 : decode prog_1_method_14_code 7 = .ok (.if_icmp .lt (13), 3) := by decide +kernel
theorem d_PlainOrigin_resourceOf_10 : decode prog_1_method_14_code 10 = .ok (.new 41, 3) := by decide +kernel
theorem d_PlainOrigin_resourceOf_13 : decode prog_1_method_14_code 13 = .ok (.dup, 1) := by decide +kernel
theorem d_PlainOrigin_resourceOf_14 : decode prog_1_method_14_code 14 = .ok (.ldc 127, 2) := by decide +kernel
theorem d_PlainOrigin_resourceOf_16 : decode prog_1_method_14_code 16 = .ok (.invokespecial 45, 3) := by decide +kernel
theorem d_PlainOrigin_resourceOf_19 : decode prog_1_method_14_code 19 = .ok (.athrow, 1) := by decide +kernel
theorem d_PlainOrigin_resourceOf_20 : decode prog_1_method_14_code 20 = .ok (.aload_n 0, 1) := by decide +kernel
theorem d_PlainOrigin_resourceOf_21 : decode prog_1_method_14_code 21 = .ok (.getfield 10, 3) := by decide +kernel
theorem d_PlainOrigin_resourceOf_24 : decode prog_1_method_14_code 24 = .ok (.getfield 129, 3) := by decide +kernel
theorem d_PlainOrigin_resourceOf_27 : decode prog_1_method_14_code 27 = .ok (.iload_n 1, 1) := by decide +kernel
theorem d_PlainOrigin_resourceOf_28 : decode prog_1_method_14_code 28 = .ok (.aaload, 1) := by decide +kernel
theorem d_PlainOrigin_resourceOf_29 : decode prog_1_method_14_code 29 = .ok (.areturn, 1) := by decide +kernel
def x_PlainOrigin_resourceOf_10 (a1 : Int32) (σ : St) : Option Nat := none
def x_PlainOrigin_resourceOf (a1 : Int32) (σ : St) : Option Nat := (if a1 < 0 then x_PlainOrigin_resourceOf_10 a1 σ else (if a1 < (8 : Int32) then (if x_in a1 8 then some (3 + 3 * a1.toNatClampNeg) else none) else x_PlainOrigin_resourceOf_10 a1 σ))
abbrev rm_PlainOrigin_resourceOf : Room := { frames := 0, cells := 0, slots := 0, locals := 0 }
set_option maxHeartbeats 4000000 in
set_option maxRecDepth 100000 in
theorem t_PlainOrigin_resourceOf (l : Launch) (G : xG) (σ : St) (a1 : Int32) (r : Nat) (hE : x_PlainOrigin_resourceOf a1 σ = some r) : Met l y_PlainOrigin_resourceOf (ws_PlainOrigin_resourceOf) rm_PlainOrigin_resourceOf (xP G σ [.ref (G.2.1 0), .int a1]) (xRd (some (.ref (G.2.1 r)))) 0 0 (fun _ => False) := by
  refine Met.ofW (cc := prog_1_method_14_code) (maxL := 2) (ret := (some (.object "PlainOrigin$Resource"))) (by decide) rfl ?_
  intro p e s m args below meth c s₁ B hml hv
  obtain ⟨rfl, hw, hC⟩ := hv
  have hx := B.exec
  have hb := B.bytes
  have hr := B.returns
  have hu : ∀ w ∈ UW, w.before _ s = true := fun w h => atoms_spec B.pre w (List.mem_cons_of_mem _ h)
  have hown : s.vm.findClass R_PlainOrigin = some m.cls := findClass_of_methodNamed B.named
  have hlocks := B.notSynchronized
  have hK := hC.1
  have hI := hC.2.1
  have hG := hC.2.2.1
  have hN := hC.2.2.2
  have hS : va_S (xA G) s.heap s.heap [] := va_S.rf
  have jn10 : ∀ (ls : Array Slot), x_PlainOrigin_resourceOf_10 a1 σ = some r → lv_has ls 2 [(0, .ref (G.2.1 0)), (1, .int a1)] → W p l e (headSpec (ws_PlainOrigin_resourceOf) rm_PlainOrigin_resourceOf).room s m ([.ref (G.2.1 0), .int a1] : List Value).toArray below meth c s.heap [] 0 0 (MQ below (xRd (some (.ref (G.2.1 r)))) ([.ref (G.2.1 0), .int a1] : List Value).toArray s 0 0 (fun _ => False)) (F0 m 10 ls []) := by
    intro ls hE hl
    unfold x_PlainOrigin_resourceOf_10 at hE
    cases hE
  have hl := lv_entry ([.ref (G.2.1 0), .int a1]) (n := 2) (Nat.le_of_ble_eq_true rfl)
  rw [lg_entry_eq]
  generalize (lg_sl ([.ref (G.2.1 0), .int a1]) ++ List.replicate (2 - (lg_sl ([.ref (G.2.1 0), .int a1])).length) Slot.unset).toArray = ls at hl ⊢
  have hl : lv_has ls 2 [(0, .ref (G.2.1 0)), (1, .int a1)] := hl
  unfold x_PlainOrigin_resourceOf at hE
  refine lv_iload_n hx hb d_PlainOrigin_resourceOf_0 rfl (lv_at hl 1 rfl) ?_
  refine lv_if_lt (tgt := 10) hx hb d_PlainOrigin_resourceOf_1 (by decide) (fun hc1 => ?_) (fun hc1 => ?_)
  · rw [if_pos hc1] at hE
    exact jn10 _ hE (lv_sub hl [0, 1] rfl)
  · rw [if_neg hc1] at hE
    refine lv_iload_n hx hb d_PlainOrigin_resourceOf_4 rfl (lv_at hl 1 rfl) ?_
    refine lv_bipush (v := (8 : Int32)) hx hb d_PlainOrigin_resourceOf_5 (by decide) ?_
    refine lv_icmp_lt (tgt := 20) hx hb d_PlainOrigin_resourceOf_7 (by decide) (fun hc7 => ?_) (fun hc7 => ?_)
    · rw [if_pos hc7] at hE
      refine lv_aload_n hx hb d_PlainOrigin_resourceOf_20 rfl (lv_at hl 0 rfl) ?_
      refine va_get (D := G.1) (cl := xCl) (ci := 9) (v := .ref (G.2.1 1)) (C := R_PlainOrigin) (T := T_PlainOrigin) (N := 5) hx hb hu fi_PlainOrigin hown hK hw 0 (x_at (by decide) (xcl_0 G σ)) rfl 0 (by decide) (hu _ mw_357) (fun _ h9 => h9) rfl d_PlainOrigin_resourceOf_21 ?_
      refine va_getN (D := G.1) (cl := xCl) (ci := 5) (v := .ref (G.2.1 2)) (C := R_Site) (T := T_Site) (N := 2) hx hb hu fi_Site hown hK hw 1 (x_at (by decide) (xcl_1 G σ)) rfl 0 (by decide) (nl_14 hG) (fun _ h9 => h9) rfl d_PlainOrigin_resourceOf_24 ?_
      refine lv_iload_n hx hb d_PlainOrigin_resourceOf_27 rfl (lv_at hl 1 rfl) ?_
      obtain ⟨g28, hE⟩ := x_guard hE
      refine va_aldq hx hb hK hw 2 3 (x_at (by decide) (xcl_2 G _)) rfl g28 d_PlainOrigin_resourceOf_28 ?_
      exact W.aret (v := .ref (G.2.1 (3 + 3 * a1.toNatClampNeg))) hx hb hr (Or.inl ⟨_, rfl⟩) (Or.inr ⟨_, rfl⟩) (fun t ht hW => ⟨by rw [Option.some.inj hE], ht⟩) (fun q h => by cases h) d_PlainOrigin_resourceOf_29
    · rw [if_neg hc7] at hE
      exact jn10 _ hE (lv_sub hl [0, 1] rfl)

def y_PlainOrigin_size : MethodName := ⟨"PlainOrigin", "size", "(I)I"⟩
def ws_PlainOrigin_size : List Cond := Cond.code y_PlainOrigin_size prog_1_method_10_code 3 (some .int) :: UW
theorem hd_PlainOrigin_size : y_PlainOrigin_size.cls = R_PlainOrigin ∧ y_PlainOrigin_size.cls ≠ "java/lang/invoke/MethodHandle" ∧ y_PlainOrigin_size.cls ≠ "java/lang/invoke/VarHandle" ∧ (parseMethodDescriptor y_PlainOrigin_size.desc).map (fun d => d.parameters.length) = some 1 := by decide +kernel
theorem d_PlainOrigin_size_0 : decode prog_1_method_10_code 0 = .ok (.aload_n 0, 1) := by decide +kernel
theorem d_PlainOrigin_size_1 : decode prog_1_method_10_code 1 = .ok (.iload_n 1, 1) := by decide +kernel
theorem d_PlainOrigin_size_2 : decode prog_1_method_10_code 2 = .ok (.invokevirtual 100, 3) := by decide +kernel
theorem d_PlainOrigin_size_5 : decode prog_1_method_10_code 5 = .ok (.astore_n 2, 1) := by decide +kernel
theorem d_PlainOrigin_size_6 : decode prog_1_method_10_code 6 = .ok (.aload_n 2, 1) := by decide +kernel
theorem d_PlainOrigin_size_7 : decode prog_1_method_10_code 7 = .ok (.invokevirtual 104, 3) := by decide +kernel
theorem d_PlainOrigin_size_10 : decode prog_1_method_10_code 10 = .ok (.ifCond .eq (13), 3) := by decide +kernel
theorem d_PlainOrigin_size_13 : decode prog_1_method_10_code 13 = .ok (.aload_n 2, 1) := by decide +kernel
theorem d_PlainOrigin_size_14 : decode prog_1_method_10_code 14 = .ok (.getfield 110, 3) := by decide +kernel
theorem d_PlainOrigin_size_17 : decode prog_1_method_10_code 17 = .ok (.getfield 113, 3) := by decide +kernel
theorem d_PlainOrigin_size_20 : decode prog_1_method_10_code 20 = .ok (.goto (4), 3) := by decide +kernel
theorem d_PlainOrigin_size_23 : decode prog_1_method_10_code 23 = .ok (.iconst (-1), 1) := by decide +kernel
theorem d_PlainOrigin_size_24 : decode prog_1_method_10_code 24 = .ok (.ireturn, 1) := by decide +kernel
def x_PlainOrigin_size (a1 : Int32) (σ : St) : Option Int32 := (Option.bind (x_PlainOrigin_resourceOf a1 σ) (fun r2 => (if xS r2 then (Option.bind (x_Resource_isThere r2 σ) (fun r7 => (if r7 = 0 then some ((-1) : Int32) else (if xS r2 then some (σ.1 (r2 + 1) 1) else none)))) else none)))
abbrev rm_PlainOrigin_size : Room := { frames := 1, cells := 0, slots := 0, locals := 21 }
set_option maxHeartbeats 4000000 in
set_option maxRecDepth 100000 in
theorem t_PlainOrigin_size (l : Launch) (G : xG) (σ : St) (a1 : Int32) (r : Int32) (hE : x_PlainOrigin_size a1 σ = some r) : Met l y_PlainOrigin_size (ws_PlainOrigin_size) rm_PlainOrigin_size (xP G σ [.ref (G.2.1 0), .int a1]) (xRd (some (.int r))) 0 0 (fun _ => False) := by
  refine Met.ofW (cc := prog_1_method_10_code) (maxL := 3) (ret := (some .int)) (by decide) rfl ?_
  intro p e s m args below meth c s₁ B hml hv
  obtain ⟨rfl, hw, hC⟩ := hv
  have hx := B.exec
  have hb := B.bytes
  have hr := B.returns
  have hu : ∀ w ∈ UW, w.before _ s = true := fun w h => atoms_spec B.pre w (List.mem_cons_of_mem _ h)
  have hown : s.vm.findClass R_PlainOrigin = some m.cls := findClass_of_methodNamed B.named
  have hlocks := B.notSynchronized
  have hK := hC.1
  have hI := hC.2.1
  have hG := hC.2.2.1
  have hN := hC.2.2.2
  have hS : va_S (xA G) s.heap s.heap [] := va_S.rf
  have hl := lv_entry ([.ref (G.2.1 0), .int a1]) (n := 3) (Nat.le_of_ble_eq_true rfl)
  rw [lg_entry_eq]
  generalize (lg_sl ([.ref (G.2.1 0), .int a1]) ++ List.replicate (3 - (lg_sl ([.ref (G.2.1 0), .int a1])).length) Slot.unset).toArray = ls at hl ⊢
  have hl : lv_has ls 3 [(0, .ref (G.2.1 0)), (1, .int a1)] := hl
  unfold x_PlainOrigin_size at hE
  refine lv_aload_n hx hb d_PlainOrigin_size_0 rfl (lv_at hl 0 rfl) ?_
  refine lv_iload_n hx hb d_PlainOrigin_size_1 rfl (lv_at hl 1 rfl) ?_
  obtain ⟨r2, hC2, hE⟩ := x_bind hE
  refine x_callR (W.runV (As := [.int a1]) (rest := []) ⟨hx, hb, hml, hown, hu⟩ (t_PlainOrigin_resourceOf l G σ a1 r2 hC2) (cwV 1 hu (uw_V mw_988 mw_990 mw_22 mw_60 mw_991) rfl rfl rfl hd_PlainOrigin_resourceOf ⟨Nat.le_of_ble_eq_true rfl, Nat.le_of_ble_eq_true rfl⟩) (x_preV hC hS hw (va_recv hK hw (q := (R_PlainOrigin, T_PlainOrigin, 5)) (ci := 9) rfl (x_at (by decide) (xcl_0 G σ)))) rfl rfl hl.1 rfl (lv_room (Nat.le_of_ble_eq_true rfl)) d_PlainOrigin_size_2 ⟨Nat.le_of_ble_eq_true rfl, Nat.le_of_ble_eq_true rfl⟩) ?_
  refine lv_astore_n hx hb d_PlainOrigin_size_5 rfl hl (by decide) rfl (fun ls hl => ?_)
  have hl : lv_has ls 3 [(2, .ref (G.2.1 r2)), (0, .ref (G.2.1 0)), (1, .int a1)] := hl
  refine lv_aload_n hx hb d_PlainOrigin_size_6 rfl (lv_at hl 0 rfl) ?_
  obtain ⟨q7_0, hE⟩ := x_guard hE
  obtain ⟨r7, hC7, hE⟩ := x_bind hE
  refine x_callR (W.runV (As := []) (rest := []) ⟨hx, hb, hml, hown, hu⟩ (t_Resource_isThere l G σ r2 q7_0 r7 hC7) (cwV 0 hu (uw_V mw_993 mw_848 mw_849 mw_62 mw_850) rfl rfl rfl hd_Resource_isThere ⟨Nat.le_of_ble_eq_true rfl, Nat.le_of_ble_eq_true rfl⟩) (x_preV hC hS hw (va_recv hK hw (q := (R_Resource, T_Resource, 2)) (ci := 4) rfl (x_at (xS_lt q7_0) (xcl_S G σ (xS_s q7_0))))) rfl rfl hl.1 rfl (lv_room (Nat.le_of_ble_eq_true rfl)) d_PlainOrigin_size_7 ⟨Nat.le_of_ble_eq_true rfl, Nat.le_of_ble_eq_true rfl⟩) ?_
  refine lv_if_eq (tgt := 23) hx hb d_PlainOrigin_size_10 (by decide) (fun hc10 => ?_) (fun hc10 => ?_)
  · rw [if_pos hc10] at hE
    refine lv_iconst (v := ((-1) : Int32)) hx hb d_PlainOrigin_size_23 (by decide) ?_
    exact W.iret (v := ((-1) : Int32)) hx hb hr (fun t ht hW => ⟨by rw [Option.some.inj hE], ht⟩) (fun q h => by cases h) d_PlainOrigin_size_24
  · rw [if_neg hc10] at hE
    refine lv_aload_n hx hb d_PlainOrigin_size_13 rfl (lv_at hl 0 rfl) ?_
    obtain ⟨q14_0, hE⟩ := x_guard hE
    refine va_getN (D := G.1) (cl := xCl) (ci := 4) (v := .ref (G.2.1 (r2 + 1))) (C := R_Resource) (T := T_Resource) (N := 2) hx hb hu fi_Resource hown hK hw r2 (x_at (xS_lt q14_0) (xcl_S G σ (xS_s q14_0))) rfl 0 (by decide) (nl_9 hG) (fun _ h9 => h9) rfl d_PlainOrigin_size_14 ?_
    refine va_getN (D := G.1) (cl := xCl) (ci := 0) (v := .int (σ.1 (r2 + 1) 1)) (C := R_Bytes) (T := T_Bytes) (N := 2) hx hb hu fi_Bytes hown hK hw (r2 + 1) (x_at (xB_lt (xS_b q14_0)) (xcl_B G σ (xB_s (xS_b q14_0)))) rfl 1 (by decide) (nl_5 hG) (fun _ h9 => h9) rfl d_PlainOrigin_size_17 ?_
    refine lv_goto (tgt := 24) hx hb d_PlainOrigin_size_20 (by decide) ?_
    exact W.iret (v := σ.1 (r2 + 1) 1) hx hb hr (fun t ht hW => ⟨by rw [Option.some.inj hE], ht⟩) (fun q h => by cases h) d_PlainOrigin_size_24

def y_PlainOrigin_at : MethodName := ⟨"PlainOrigin", "at", "(II)I"⟩
def ws_PlainOrigin_at : List Cond := Cond.code y_PlainOrigin_at prog_1_method_11_code 4 (some .int) :: UW
theorem hd_PlainOrigin_at : y_PlainOrigin_at.cls = R_PlainOrigin ∧ y_PlainOrigin_at.cls ≠ "java/lang/invoke/MethodHandle" ∧ y_PlainOrigin_at.cls ≠ "java/lang/invoke/VarHandle" ∧ (parseMethodDescriptor y_PlainOrigin_at.desc).map (fun d => d.parameters.length) = some 2 := by decide +kernel
theorem d_PlainOrigin_at_0 : decode prog_1_method_11_code 0 = .ok (.aload_n 0, 1) := by decide +kernel
theorem d_PlainOrigin_at_1 : decode prog_1_method_11_code 1 = .ok (.iload_n 1, 1) := by decide +kernel
theorem d_PlainOrigin_at_2 : decode prog_1_method_11_code 2 = .ok (.invokevirtual 100, 3) := by decide +kernel
theorem d_PlainOrigin_at_5 : decode prog_1_method_11_code 5 = .ok (.astore_n 3, 1) := by decide +kernel
theorem d_PlainOrigin_at_6 : decode prog_1_method_11_code 6 = .ok (.aload_n 3, 1) := by decide +kernel
theorem d_PlainOrigin_at_7 : decode prog_1_method_11_code 7 = .ok (.invokevirtual 104, 3) := by decide +kernel
theorem d_PlainOrigin_at_10 : decode prog_1_method_11_code 10 = .ok (.ifCond .eq (18), 3) := by decide +kernel
theorem d_PlainOrigin_at_13 : decode prog_1_method_11_code 13 = .ok (.iload_n 2, 1) := by decide +kernel
theorem d_PlainOrigin_at_14 : decode prog_1_method_11_code 14 = .ok (.ifCond .lt (14), 3) := by decide +kernel
theorem d_PlainOrigin_at_17 : decode prog_1_method_11_code 17 = .ok (.iload_n 2, 1) := by decide +kernel
theorem d_PlainOrigin_at_18 : decode prog_1_method_11_code 18 = .ok (.aload_n 3, 1) := by decide +kernel
theorem d_PlainOrigin_at_19 : decode prog_1_method_11_code 19 = .ok (.getfield 110, 3) := by decide +kernel
theorem d_PlainOrigin_at_22 : decode prog_1_method_11_code 22 = .ok (.getfield 113, 3) := by decide +kernel
theorem d_PlainOrigin_at_25 : decode prog_1_method_11_code 25 = .ok (.if_icmp .lt (13), 3) := by decide +kernel
theorem d_PlainOrigin_at_28 : decode prog_1_method_11_code 28 = .ok (.new 116, 3) := by decide +kernel
theorem d_PlainOrigin_at_31 : decode prog_1_method_11_code 31 = .ok (.dup, 1) := by decide +kernel
theorem d_PlainOrigin_at_32 : decode prog_1_method_11_code 32 = .ok (.ldc 118, 2) := by decide +kernel
theorem d_PlainOrigin_at_34 : decode prog_1_method_11_code 34 = .ok (.invokespecial 120, 3) := by decide +kernel
theorem d_PlainOrigin_at_37 : decode prog_1_method_11_code 37 = .ok (.athrow, 1) := by decide +kernel
theorem d_PlainOrigin_at_38 : decode prog_1_method_11_code 38 = .ok (.aload_n 3, 1) := by decide +kernel
theorem d_PlainOrigin_at_39 : decode prog_1_method_11_code 39 = .ok (.getfield 110, 3) := by decide +kernel
theorem d_PlainOrigin_at_42 : decode prog_1_method_11_code 42 = .ok (.iload_n 2, 1) := by decide +kernel
theorem d_PlainOrigin_at_43 : decode prog_1_method_11_code 43 = .ok (.invokevirtual 95, 3) := by decide +kernel
theorem d_PlainOrigin_at_46 : decode prog_1_method_11_code 46 = .ok (.ireturn, 1) := by decide +kernel
def x_PlainOrigin_at_28 (a1 : Int32) (a2 : Int32) (σ : St) : Option Int32 := none
def x_PlainOrigin_at (a1 : Int32) (a2 : Int32) (σ : St) : Option Int32 := (Option.bind (x_PlainOrigin_resourceOf a1 σ) (fun r2 => (if xS r2 then (Option.bind (x_Resource_isThere r2 σ) (fun r7 => (if r7 = 0 then x_PlainOrigin_at_28 a1 a2 σ else (if a2 < 0 then x_PlainOrigin_at_28 a1 a2 σ else (if xS r2 then (if a2 < (σ.1 (r2 + 1) 1) then (if xS r2 then (Option.bind (x_Bytes_get (r2 + 1) a2 σ) (fun r43 => some r43)) else none) else x_PlainOrigin_at_28 a1 a2 σ) else none))))) else none)))
abbrev rm_PlainOrigin_at : Room := { frames := 1, cells := 0, slots := 0, locals := 21 }
set_option maxHeartbeats 4000000 in
set_option maxRecDepth 100000 in
theorem t_PlainOrigin_at (l : Launch) (G : xG) (σ : St) (a1 : Int32) (a2 : Int32) (r : Int32) (hE : x_PlainOrigin_at a1 a2 σ = some r) : Met l y_PlainOrigin_at (ws_PlainOrigin_at) rm_PlainOrigin_at (xP G σ [.ref (G.2.1 0), .int a1, .int a2]) (xRd (some (.int r))) 0 0 (fun _ => False) := by
  refine Met.ofW (cc := prog_1_method_11_code) (maxL := 4) (ret := (some .int)) (by decide) rfl ?_
  intro p e s m args below meth c s₁ B hml hv
  obtain ⟨rfl, hw, hC⟩ := hv
  have hx := B.exec
  have hb := B.bytes
  have hr := B.returns
  have hu : ∀ w ∈ UW, w.before _ s = true := fun w h => atoms_spec B.pre w (List.mem_cons_of_mem _ h)
  have hown : s.vm.findClass R_PlainOrigin = some m.cls := findClass_of_methodNamed B.named
  have hlocks := B.notSynchronized
  have hK := hC.1
  have hI := hC.2.1
  have hG := hC.2.2.1
  have hN := hC.2.2.2
  have hS : va_S (xA G) s.heap s.heap [] := va_S.rf
  have jn28 : ∀ (ls : Array Slot), x_PlainOrigin_at_28 a1 a2 σ = some r → lv_has ls 4 [(0, .ref (G.2.1 0)), (1, .int a1), (2, .int a2)] → W p l e (headSpec (ws_PlainOrigin_at) rm_PlainOrigin_at).room s m ([.ref (G.2.1 0), .int a1, .int a2] : List Value).toArray below meth c s.heap [] 0 0 (MQ below (xRd (some (.int r))) ([.ref (G.2.1 0), .int a1, .int a2] : List Value).toArray s 0 0 (fun _ => False)) (F0 m 28 ls []) := by
    intro ls hE hl
    unfold x_PlainOrigin_at_28 at hE
    cases hE
  have hl := lv_entry ([.ref (G.2.1 0), .int a1, .int a2]) (n := 4) (Nat.le_of_ble_eq_true rfl)
  rw [lg_entry_eq]
  generalize (lg_sl ([.ref (G.2.1 0), .int a1, .int a2]) ++ List.replicate (4 - (lg_sl ([.ref (G.2.1 0), .int a1, .int a2])).length) Slot.unset).toArray = ls at hl ⊢
  have hl : lv_has ls 4 [(0, .ref (G.2.1 0)), (1, .int a1), (2, .int a2)] := hl
  unfold x_PlainOrigin_at at hE
  refine lv_aload_n hx hb d_PlainOrigin_at_0 rfl (lv_at hl 0 rfl) ?_
  refine lv_iload_n hx hb d_PlainOrigin_at_1 rfl (lv_at hl 1 rfl) ?_
  obtain ⟨r2, hC2, hE⟩ := x_bind hE
  refine x_callR (W.runV (As := [.int a1]) (rest := []) ⟨hx, hb, hml, hown, hu⟩ (t_PlainOrigin_resourceOf l G σ a1 r2 hC2) (cwV 1 hu (uw_V mw_988 mw_990 mw_22 mw_60 mw_991) rfl rfl rfl hd_PlainOrigin_resourceOf ⟨Nat.le_of_ble_eq_true rfl, Nat.le_of_ble_eq_true rfl⟩) (x_preV hC hS hw (va_recv hK hw (q := (R_PlainOrigin, T_PlainOrigin, 5)) (ci := 9) rfl (x_at (by decide) (xcl_0 G σ)))) rfl rfl hl.1 rfl (lv_room (Nat.le_of_ble_eq_true rfl)) d_PlainOrigin_at_2 ⟨Nat.le_of_ble_eq_true rfl, Nat.le_of_ble_eq_true rfl⟩) ?_
  refine lv_astore_n hx hb d_PlainOrigin_at_5 rfl hl (by decide) rfl (fun ls hl => ?_)
  have hl : lv_has ls 4 [(3, .ref (G.2.1 r2)), (0, .ref (G.2.1 0)), (1, .int a1), (2, .int a2)] := hl
  refine lv_aload_n hx hb d_PlainOrigin_at_6 rfl (lv_at hl 0 rfl) ?_
  obtain ⟨q7_0, hE⟩ := x_guard hE
  obtain ⟨r7, hC7, hE⟩ := x_bind hE
  refine x_callR (W.runV (As := []) (rest := []) ⟨hx, hb, hml, hown, hu⟩ (t_Resource_isThere l G σ r2 q7_0 r7 hC7) (cwV 0 hu (uw_V mw_993 mw_848 mw_849 mw_62 mw_850) rfl rfl rfl hd_Resource_isThere ⟨Nat.le_of_ble_eq_true rfl, Nat.le_of_ble_eq_true rfl⟩) (x_preV hC hS hw (va_recv hK hw (q := (R_Resource, T_Resource, 2)) (ci := 4) rfl (x_at (xS_lt q7_0) (xcl_S G σ (xS_s q7_0))))) rfl rfl hl.1 rfl (lv_room (Nat.le_of_ble_eq_true rfl)) d_PlainOrigin_at_7 ⟨Nat.le_of_ble_eq_true rfl, Nat.le_of_ble_eq_true rfl⟩) ?_
  refine lv_if_eq (tgt := 28) hx hb d_PlainOrigin_at_10 (by decide) (fun hc10 => ?_) (fun hc10 => ?_)
  · rw [if_pos hc10] at hE
    exact jn28 _ hE (lv_sub hl [1, 2, 3] rfl)
  · rw [if_neg hc10] at hE
    refine lv_iload_n hx hb d_PlainOrigin_at_13 rfl (lv_at hl 3 rfl) ?_
    refine lv_if_lt (tgt := 28) hx hb d_PlainOrigin_at_14 (by decide) (fun hc14 => ?_) (fun hc14 => ?_)
    · rw [if_pos hc14] at hE
      exact jn28 _ hE (lv_sub hl [1, 2, 3] rfl)
    · rw [if_neg hc14] at hE
      refine lv_iload_n hx hb d_PlainOrigin_at_17 rfl (lv_at hl 3 rfl) ?_
      refine lv_aload_n hx hb d_PlainOrigin_at_18 rfl (lv_at hl 0 rfl) ?_
      obtain ⟨q19_0, hE⟩ := x_guard hE
      refine va_getN (D := G.1) (cl := xCl) (ci := 4) (v := .ref (G.2.1 (r2 + 1))) (C := R_Resource) (T := T_Resource) (N := 2) hx hb hu fi_Resource hown hK hw r2 (x_at (xS_lt q19_0) (xcl_S G σ (xS_s q19_0))) rfl 0 (by decide) (nl_9 hG) (fun _ h9 => h9) rfl d_PlainOrigin_at_19 ?_
      refine va_getN (D := G.1) (cl := xCl) (ci := 0) (v := .int (σ.1 (r2 + 1) 1)) (C := R_Bytes) (T := T_Bytes) (N := 2) hx hb hu fi_Bytes hown hK hw (r2 + 1) (x_at (xB_lt (xS_b q19_0)) (xcl_B G σ (xB_s (xS_b q19_0)))) rfl 1 (by decide) (nl_5 hG) (fun _ h9 => h9) rfl d_PlainOrigin_at_22 ?_
      refine lv_icmp_lt (tgt := 38) hx hb d_PlainOrigin_at_25 (by decide) (fun hc25 => ?_) (fun hc25 => ?_)
      · rw [if_pos hc25] at hE
        refine lv_aload_n hx hb d_PlainOrigin_at_38 rfl (lv_at hl 0 rfl) ?_
        obtain ⟨q39_0, hE⟩ := x_guard hE
        refine va_getN (D := G.1) (cl := xCl) (ci := 4) (v := .ref (G.2.1 (r2 + 1))) (C := R_Resource) (T := T_Resource) (N := 2) hx hb hu fi_Resource hown hK hw r2 (x_at (xS_lt q39_0) (xcl_S G σ (xS_s q39_0))) rfl 0 (by decide) (nl_9 hG) (fun _ h9 => h9) rfl d_PlainOrigin_at_39 ?_
        refine lv_iload_n hx hb d_PlainOrigin_at_42 rfl (lv_at hl 3 rfl) ?_
        obtain ⟨r43, hC43, hE⟩ := x_bind hE
        refine x_callR (W.runV (As := [.int a2]) (rest := []) ⟨hx, hb, hml, hown, hu⟩ (t_Bytes_get l G σ (r2 + 1) a2 (xS_b q39_0) r43 hC43) (cwV 1 hu (uw_V mw_980 mw_540 mw_541 mw_63 mw_542) rfl rfl rfl hd_Bytes_get ⟨Nat.le_of_ble_eq_true rfl, Nat.le_of_ble_eq_true rfl⟩) (x_preV hC hS hw (va_recv hK hw (q := (R_Bytes, T_Bytes, 2)) (ci := 0) rfl (x_at (xB_lt (xS_b q39_0)) (xcl_B G σ (xB_s (xS_b q39_0)))))) rfl rfl hl.1 rfl (lv_room (Nat.le_of_ble_eq_true rfl)) d_PlainOrigin_at_43 ⟨Nat.le_of_ble_eq_true rfl, Nat.le_of_ble_eq_true rfl⟩) ?_
        exact W.iret (v := r43) hx hb hr (fun t ht hW => ⟨by rw [Option.some.inj hE], ht⟩) (fun q h => by cases h) d_PlainOrigin_at_46
      · rw [if_neg hc25] at hE
        exact jn28 _ hE (lv_sub hl [1, 2, 3] rfl)

def y_PlainOrigin_mark : MethodName := ⟨"PlainOrigin", "mark", "(I)I"⟩
def ws_PlainOrigin_mark : List Cond := Cond.code y_PlainOrigin_mark prog_1_method_12_code 2 (some .int) :: UW
theorem hd_PlainOrigin_mark : y_PlainOrigin_mark.cls = R_PlainOrigin ∧ y_PlainOrigin_mark.cls ≠ "java/lang/invoke/MethodHandle" ∧ y_PlainOrigin_mark.cls ≠ "java/lang/invoke/VarHandle" ∧ (parseMethodDescriptor y_PlainOrigin_mark.desc).map (fun d => d.parameters.length) = some 1 := by decide +kernel
theorem d_PlainOrigin_mark_0 : decode prog_1_method_12_code 0 = .ok (.aload_n 0, 1) := by decide +kernel
theorem d_PlainOrigin_mark_1 : decode prog_1_method_12_code 1 = .ok (.iload_n 1, 1) := by decide +kernel
theorem d_PlainOrigin_mark_2 : decode prog_1_method_12_code 2 = .ok (.invokevirtual 100, 3) := by decide +kernel
theorem d_PlainOrigin_mark_5 : decode prog_1_method_12_code 5 = .ok (.getfield 121, 3) := by decide +kernel
theorem d_PlainOrigin_mark_8 : decode prog_1_method_12_code 8 = .ok (.ireturn, 1) := by decide +kernel
def x_PlainOrigin_mark (a1 : Int32) (σ : St) : Option Int32 := (Option.bind (x_PlainOrigin_resourceOf a1 σ) (fun r2 => (if xS r2 then some (σ.1 r2 1) else none)))
abbrev rm_PlainOrigin_mark : Room := { frames := 1, cells := 0, slots := 0, locals := 21 }
set_option maxHeartbeats 4000000 in
set_option maxRecDepth 100000 in
theorem t_PlainOrigin_mark (l : Launch) (G : xG) (σ : St) (a1 : Int32) (r : Int32) (hE : x_PlainOrigin_mark a1 σ = some r) : Met l y_PlainOrigin_mark (ws_PlainOrigin_mark) rm_PlainOrigin_mark (xP G σ [.ref (G.2.1 0), .int a1]) (xRd (some (.int r))) 0 0 (fun _ => False) := by
  refine Met.ofW (cc := prog_1_method_12_code) (maxL := 2) (ret := (some .int)) (by decide) rfl ?_
  intro p e s m args below meth c s₁ B hml hv
  obtain ⟨rfl, hw, hC⟩ := hv
  have hx := B.exec
  have hb := B.bytes
  have hr := B.returns
  have hu : ∀ w ∈ UW, w.before _ s = true := fun w h => atoms_spec B.pre w (List.mem_cons_of_mem _ h)
  have hown : s.vm.findClass R_PlainOrigin = some m.cls := findClass_of_methodNamed B.named
  have hlocks := B.notSynchronized
  have hK := hC.1
  have hI := hC.2.1
  have hG := hC.2.2.1
  have hN := hC.2.2.2
  have hS : va_S (xA G) s.heap s.heap [] := va_S.rf
  have hl := lv_entry ([.ref (G.2.1 0), .int a1]) (n := 2) (Nat.le_of_ble_eq_true rfl)
  rw [lg_entry_eq]
  generalize (lg_sl ([.ref (G.2.1 0), .int a1]) ++ List.replicate (2 - (lg_sl ([.ref (G.2.1 0), .int a1])).length) Slot.unset).toArray = ls at hl ⊢
  have hl : lv_has ls 2 [(0, .ref (G.2.1 0)), (1, .int a1)] := hl
  unfold x_PlainOrigin_mark at hE
  refine lv_aload_n hx hb d_PlainOrigin_mark_0 rfl (lv_at hl 0 rfl) ?_
  refine lv_iload_n hx hb d_PlainOrigin_mark_1 rfl (lv_at hl 1 rfl) ?_
  obtain ⟨r2, hC2, hE⟩ := x_bind hE
  refine x_callR (W.runV (As := [.int a1]) (rest := []) ⟨hx, hb, hml, hown, hu⟩ (t_PlainOrigin_resourceOf l G σ a1 r2 hC2) (cwV 1 hu (uw_V mw_988 mw_990 mw_22 mw_60 mw_991) rfl rfl rfl hd_PlainOrigin_resourceOf ⟨Nat.le_of_ble_eq_true rfl, Nat.le_of_ble_eq_true rfl⟩) (x_preV hC hS hw (va_recv hK hw (q := (R_PlainOrigin, T_PlainOrigin, 5)) (ci := 9) rfl (x_at (by decide) (xcl_0 G σ)))) rfl rfl hl.1 rfl (lv_room (Nat.le_of_ble_eq_true rfl)) d_PlainOrigin_mark_2 ⟨Nat.le_of_ble_eq_true rfl, Nat.le_of_ble_eq_true rfl⟩) ?_
  obtain ⟨q5_0, hE⟩ := x_guard hE
  refine va_getN (D := G.1) (cl := xCl) (ci := 4) (v := .int (σ.1 r2 1)) (C := R_Resource) (T := T_Resource) (N := 2) hx hb hu fi_Resource hown hK hw r2 (x_at (xS_lt q5_0) (xcl_S G σ (xS_s q5_0))) rfl 1 (by decide) (nl_12 hG) (fun _ h9 => h9) rfl d_PlainOrigin_mark_5 ?_
  exact W.iret (v := σ.1 r2 1) hx hb hr (fun t ht hW => ⟨by rw [Option.some.inj hE], ht⟩) (fun q h => by cases h) d_PlainOrigin_mark_8

def y_PlainOrigin_changes : MethodName := ⟨"PlainOrigin", "changes", "()I"⟩
def ws_PlainOrigin_changes : List Cond := Cond.code y_PlainOrigin_changes prog_1_method_13_code 1 (some .int) :: UW
theorem hd_PlainOrigin_changes : y_PlainOrigin_changes.cls = R_PlainOrigin ∧ y_PlainOrigin_changes.cls ≠ "java/lang/invoke/MethodHandle" ∧ y_PlainOrigin_changes.cls ≠ "java/lang/invoke/VarHandle" ∧ (parseMethodDescriptor y_PlainOrigin_changes.desc).map (fun d => d.parameters.length) = some 0 := by decide +kernel
theorem d_PlainOrigin_changes_0 : decode prog_1_method_13_code 0 = .ok (.aload_n 0, 1) := by decide +kernel
theorem d_PlainOrigin_changes_1 : decode prog_1_method_13_code 1 = .ok (.getfield 10, 3) := by decide +kernel
theorem d_PlainOrigin_changes_4 : decode prog_1_method_13_code 4 = .ok (.getfield 124, 3) := by decide +kernel
theorem d_PlainOrigin_changes_7 : decode prog_1_method_13_code 7 = .ok (.ireturn, 1) := by decide +kernel
def x_PlainOrigin_changes (σ : St) : Option Int32 := some (σ.1 1 1)
abbrev rm_PlainOrigin_changes : Room := { frames := 0, cells := 0, slots := 0, locals := 0 }
set_option maxHeartbeats 4000000 in
set_option maxRecDepth 100000 in
theorem t_PlainOrigin_changes (l : Launch) (G : xG) (σ : St) (r : Int32) (hE : x_PlainOrigin_changes σ = some r) : Met l y_PlainOrigin_changes (ws_PlainOrigin_changes) rm_PlainOrigin_changes (xP G σ [.ref (G.2.1 0)]) (xRd (some (.int r))) 0 0 (fun _ => False) := by
  refine Met.ofW (cc := prog_1_method_13_code) (maxL := 1) (ret := (some .int)) (by decide) rfl ?_
  intro p e s m args below meth c s₁ B hml hv
  obtain ⟨rfl, hw, hC⟩ := hv
  have hx := B.exec
  have hb := B.bytes
  have hr := B.returns
  have hu : ∀ w ∈ UW, w.before _ s = true := fun w h => atoms_spec B.pre w (List.mem_cons_of_mem _ h)
  have hown : s.vm.findClass R_PlainOrigin = some m.cls := findClass_of_methodNamed B.named
  have hlocks := B.notSynchronized
  have hK := hC.1
  have hI := hC.2.1
  have hG := hC.2.2.1
  have hN := hC.2.2.2
  have hS : va_S (xA G) s.heap s.heap [] := va_S.rf
  have hl := lv_entry ([.ref (G.2.1 0)]) (n := 1) (Nat.le_of_ble_eq_true rfl)
  rw [lg_entry_eq]
  generalize (lg_sl ([.ref (G.2.1 0)]) ++ List.replicate (1 - (lg_sl ([.ref (G.2.1 0)])).length) Slot.unset).toArray = ls at hl ⊢
  have hl : lv_has ls 1 [(0, .ref (G.2.1 0))] := hl
  unfold x_PlainOrigin_changes at hE
  refine lv_aload_n hx hb d_PlainOrigin_changes_0 rfl (lv_at hl 0 rfl) ?_
  refine va_get (D := G.1) (cl := xCl) (ci := 9) (v := .ref (G.2.1 1)) (C := R_PlainOrigin) (T := T_PlainOrigin) (N := 5) hx hb hu fi_PlainOrigin hown hK hw 0 (x_at (by decide) (xcl_0 G σ)) rfl 0 (by decide) (hu _ mw_357) (fun _ h9 => h9) rfl d_PlainOrigin_changes_1 ?_
  refine va_getN (D := G.1) (cl := xCl) (ci := 5) (v := .int (σ.1 1 1)) (C := R_Site) (T := T_Site) (N := 2) hx hb hu fi_Site hown hK hw 1 (x_at (by decide) (xcl_1 G σ)) rfl 1 (by decide) (nl_15 hG) (fun _ h9 => h9) rfl d_PlainOrigin_changes_4 ?_
  exact W.iret (v := σ.1 1 1) hx hb hr (fun t ht hW => ⟨by rw [Option.some.inj hE], ht⟩) (fun q h => by cases h) d_PlainOrigin_changes_7
