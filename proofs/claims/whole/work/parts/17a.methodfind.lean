def y_Method_find : MethodName := ⟨"PlainOrigin$Method", "find", "(LPlainOrigin$Bytes;II)LPlainOrigin$Method;"⟩
def ws_Method_find : List Cond := Cond.code y_Method_find prog_5_method_4_code 4 (some (.object "PlainOrigin$Method")) :: UW
theorem hd_Method_find : y_Method_find.cls ≠ "java/lang/invoke/MethodHandle" ∧ y_Method_find.cls ≠ "java/lang/invoke/VarHandle" ∧ (parseMethodDescriptor y_Method_find.desc).map (fun d => d.parameters.length) = some 3 := by decide +kernel
theorem d_Method_find_0 : decode prog_5_method_4_code 0 = .ok (.iconst 0, 1) := by decide +kernel
theorem d_Method_find_1 : decode prog_5_method_4_code 1 = .ok (.istore_n 3, 1) := by decide +kernel
theorem d_Method_find_2 : decode prog_5_method_4_code 2 = .ok (.iload_n 3, 1) := by decide +kernel
theorem d_Method_find_3 : decode prog_5_method_4_code 3 = .ok (.getstatic 48, 3) := by decide +kernel
theorem d_Method_find_6 : decode prog_5_method_4_code 6 = .ok (.arraylength, 1) := by decide +kernel
theorem d_Method_find_7 : decode prog_5_method_4_code 7 = .ok (.if_icmp .ge (32), 3) := by decide +kernel
theorem d_Method_find_10 : decode prog_5_method_4_code 10 = .ok (.aload_n 0, 1) := by decide +kernel
theorem d_Method_find_11 : decode prog_5_method_4_code 11 = .ok (.iload_n 1, 1) := by decide +kernel
theorem d_Method_find_12 : decode prog_5_method_4_code 12 = .ok (.iload_n 2, 1) := by decide +kernel
theorem d_Method_find_13 : decode prog_5_method_4_code 13 = .ok (.getstatic 48, 3) := by decide +kernel
theorem d_Method_find_16 : decode prog_5_method_4_code 16 = .ok (.iload_n 3, 1) := by decide +kernel
theorem d_Method_find_17 : decode prog_5_method_4_code 17 = .ok (.aaload, 1) := by decide +kernel
theorem d_Method_find_18 : decode prog_5_method_4_code 18 = .ok (.getfield 44, 3) := by decide +kernel
theorem d_Method_find_21 : decode prog_5_method_4_code 21 = .ok (.invokestatic 53, 3) := by decide +kernel
theorem d_Method_find_24 : decode prog_5_method_4_code 24 = .ok (.ifCond .eq (9), 3) := by decide +kernel
theorem d_Method_find_27 : decode prog_5_method_4_code 27 = .ok (.getstatic 48, 3) := by decide +kernel
theorem d_Method_find_30 : decode prog_5_method_4_code 30 = .ok (.iload_n 3, 1) := by decide +kernel
theorem d_Method_find_31 : decode prog_5_method_4_code 31 = .ok (.aaload, 1) := by decide +kernel
theorem d_Method_find_32 : decode prog_5_method_4_code 32 = .ok (.areturn, 1) := by decide +kernel
theorem d_Method_find_33 : decode prog_5_method_4_code 33 = .ok (.iinc 3 (1), 3) := by decide +kernel
theorem d_Method_find_36 : decode prog_5_method_4_code 36 = .ok (.goto (-34), 3) := by decide +kernel
theorem d_Method_find_39 : decode prog_5_method_4_code 39 = .ok (.aconst_null, 1) := by decide +kernel
theorem d_Method_find_40 : decode prog_5_method_4_code 40 = .ok (.areturn, 1) := by decide +kernel
def x_Method_find_2 (o1 : Nat) (a2 : Int32) (a3 : Int32) (σ : St) : Nat → Int32 → Option (Option Nat)
  | 0, _ => none
  | n + 1, l3 => (if (Int32.ofNat 7) ≤ l3 then some none else (if x_in l3 7 then (Option.bind (x_Text_isExactly o1 a2 a3 (x_mword l3.toNatClampNeg) σ) (fun r21 => (if r21 = 0 then (x_let (l3 + (1 : Int32)) (fun (v33 : Int32) => x_Method_find_2 o1 a2 a3 σ n v33)) else (if x_in l3 7 then some (some l3.toNatClampNeg) else none)))) else none))
def x_Method_find (o1 : Nat) (a2 : Int32) (a3 : Int32) (σ : St) : Option (Option Nat) := x_Method_find_2 o1 a2 a3 σ x_fuel (0 : Int32)
abbrev rm_Method_find : Room := { frames := 5, cells := 0, slots := 0, locals := 109 }
set_option maxHeartbeats 4000000 in
set_option maxRecDepth 100000 in
theorem t_Method_find (l : Launch) (G : xG) (σ : St) (o1 : Nat) (a2 : Int32) (a3 : Int32) (ho1 : xB o1) (r : (Option Nat)) (hE : x_Method_find o1 a2 a3 σ = some r) : Met l y_Method_find (ws_Method_find) rm_Method_find (xP G σ [.ref (G.2.1 o1), .int a2, .int a3]) (xRd (some (va_re G.2.2.2.2.1 r))) 0 0 (fun _ => False) := by
  refine Met.ofW (cc := prog_5_method_4_code) (maxL := 4) (ret := (some (.object "PlainOrigin$Method"))) (by decide) rfl ?_
  intro p e s m args below meth c s₁ B hml hv
  obtain ⟨rfl, hw, hC⟩ := hv
  have hx := B.exec
  have hb := B.bytes
  have hr := B.returns
  have hu : ∀ w ∈ UW, w.before _ s = true := fun w h => atoms_spec B.pre w (List.mem_cons_of_mem _ h)
  have hown : s.vm.findClass R_Method = some m.cls := findClass_of_methodNamed B.named
  have hlocks := B.notSynchronized
  have hK := hC.1
  have hI := hC.2.1
  have hG := hC.2.2.1
  have hN := hC.2.2.2
  have hS : va_S (xA G) s.heap s.heap [] := va_S.rf
  have jn2 : ∀ (n : Nat) (ls : Array Slot) (l3 : Int32), x_Method_find_2 o1 a2 a3 σ n l3 = some r → lv_has ls 4 [(0, .ref (G.2.1 o1)), (1, .int a2), (2, .int a3), (3, .int l3)] → W p l e (headSpec (ws_Method_find) rm_Method_find).room s m ([.ref (G.2.1 o1), .int a2, .int a3] : List Value).toArray below meth c s.heap [] 0 0 (MQ below (xRd (some (va_re G.2.2.2.2.1 r))) ([.ref (G.2.1 o1), .int a2, .int a3] : List Value).toArray s 0 0 (fun _ => False)) (F0 m 2 ls []) := by
    intro n
    induction n with
    | zero => intro ls l3 hE; rw [x_Method_find_2] at hE; cases hE
    | succ n ih =>
      intro ls l3 hE hl
      rw [x_Method_find_2] at hE
      refine lv_iload_n hx hb d_Method_find_2 rfl (lv_at hl 3 rfl) ?_
      refine va_getsN (v := .ref (G.2.2.2.2.2 1000)) hx hb hN.2.2.2.2.2.2.1 hS hown (nl_52 hG) (fun _ h9 => h9) d_Method_find_3 ?_
      refine va_tlen hx hb hN.2.2.2.2.2.2.2 hS (v := Int32.ofNat 7) rfl d_Method_find_6 ?_
      refine lv_icmp_ge (tgt := 39) hx hb d_Method_find_7 (by decide) (fun hc7 => ?_) (fun hc7 => ?_)
      · rw [if_pos hc7] at hE
        refine lv_null hx hb d_Method_find_39 ?_
        exact W.aret (v := va_re G.2.2.2.2.1 none) hx hb hr (Or.inl ⟨_, rfl⟩) (va_re_or _ _) (fun t ht hW => ⟨by rw [Option.some.inj hE], ht⟩) (fun q h => by cases h) d_Method_find_40
      · rw [if_neg hc7] at hE
        refine lv_aload_n hx hb d_Method_find_10 rfl (lv_at hl 0 rfl) ?_
        refine lv_iload_n hx hb d_Method_find_11 rfl (lv_at hl 1 rfl) ?_
        refine lv_iload_n hx hb d_Method_find_12 rfl (lv_at hl 2 rfl) ?_
        refine va_getsN (v := .ref (G.2.2.2.2.2 1000)) hx hb hN.2.2.2.2.2.2.1 hS hown (nl_52 hG) (fun _ h9 => h9) d_Method_find_13 ?_
        refine lv_iload_n hx hb d_Method_find_16 rfl (lv_at hl 3 rfl) ?_
        obtain ⟨g17, hE⟩ := x_guard hE
        refine vb_tq hx hb hN.2.2.2.2.2.2.2 hS g17 (v := va_re G.2.2.2.2.1 (some l3.toNatClampNeg)) rfl d_Method_find_17 ?_
        refine vk_getf (v := .ref (G.2.2.2.1 (x_mword l3.toNatClampNeg))) hx hb (hN.2.2.2.2.1 _ (x_inlt g17)).2 hS hown (hu _ mw_1395) (fun _ h9 => h9) d_Method_find_18 ?_
        obtain ⟨r21, hC21, hE⟩ := x_bind hE
        refine x_callR (W.runS (As := [.ref (G.2.1 o1), .int a2, .int a3, .ref (G.2.2.2.1 (x_mword l3.toNatClampNeg))]) (rest := []) ⟨hx, hb, hml, hown, hu⟩ (t_Text_isExactly l G σ o1 a2 a3 (x_mword l3.toNatClampNeg) ho1 (x_mword_lt (x_inlt g17)) r21 hC21) (va_cwS 4 hu (uw_S mw_683 mw_644 mw_75 mw_645) rfl rfl rfl hd_Text_isExactly ⟨Nat.le_of_ble_eq_true rfl, Nat.le_of_ble_eq_true rfl⟩) (x_preS hC hS hw) rfl rfl hl.1 rfl (lv_room (Nat.le_of_ble_eq_true rfl)) d_Method_find_21 ⟨Nat.le_of_ble_eq_true rfl, Nat.le_of_ble_eq_true rfl⟩) ?_
        refine lv_if_eq (tgt := 33) hx hb d_Method_find_24 (by decide) (fun hc24 => ?_) (fun hc24 => ?_)
        · rw [if_pos hc24] at hE
          obtain ⟨v33, e33, hE⟩ := x_letE hE
          refine lv_iinc hx hb d_Method_find_33 hl (k := 3) rfl (x_inc v33 e33 (by decide)) (by decide) rfl (fun ls hl => ?_)
          have hl : lv_has ls 4 [(3, .int v33), (0, .ref (G.2.1 o1)), (1, .int a2), (2, .int a3)] := hl
          refine lv_goto (tgt := 2) hx hb d_Method_find_36 (by decide) ?_
          exact ih _ _ hE (lv_sub hl [1, 2, 3, 0] rfl)
        · rw [if_neg hc24] at hE
          refine va_getsN (v := .ref (G.2.2.2.2.2 1000)) hx hb hN.2.2.2.2.2.2.1 hS hown (nl_52 hG) (fun _ h9 => h9) d_Method_find_27 ?_
          refine lv_iload_n hx hb d_Method_find_30 rfl (lv_at hl 3 rfl) ?_
          obtain ⟨g31, hE⟩ := x_guard hE
          refine vb_tq hx hb hN.2.2.2.2.2.2.2 hS g31 (v := va_re G.2.2.2.2.1 (some l3.toNatClampNeg)) rfl d_Method_find_31 ?_
          exact W.aret (v := va_re G.2.2.2.2.1 (some l3.toNatClampNeg)) hx hb hr (Or.inl ⟨_, rfl⟩) (va_re_or _ _) (fun t ht hW => ⟨by rw [Option.some.inj hE], ht⟩) (fun q h => by cases h) d_Method_find_32
  have hl := lv_entry ([.ref (G.2.1 o1), .int a2, .int a3]) (n := 4) (Nat.le_of_ble_eq_true rfl)
  rw [lg_entry_eq]
  generalize (lg_sl ([.ref (G.2.1 o1), .int a2, .int a3]) ++ List.replicate (4 - (lg_sl ([.ref (G.2.1 o1), .int a2, .int a3])).length) Slot.unset).toArray = ls at hl ⊢
  have hl : lv_has ls 4 [(0, .ref (G.2.1 o1)), (1, .int a2), (2, .int a3)] := hl
  unfold x_Method_find at hE
  refine lv_iconst (v := (0 : Int32)) hx hb d_Method_find_0 (by decide) ?_
  refine lv_istore_n hx hb d_Method_find_1 rfl hl (by decide) rfl (fun ls hl => ?_)
  have hl : lv_has ls 4 [(3, .int (0 : Int32)), (0, .ref (G.2.1 o1)), (1, .int a2), (2, .int a3)] := hl
  exact jn2 x_fuel _ _ hE (lv_sub hl [1, 2, 3, 0] rfl)
