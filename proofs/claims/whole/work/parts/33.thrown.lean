def z_PlainOrigin_feed_10 (j1 : Int64) (a2 : Int32) : Option Unit := some ()
def z_PlainOrigin_feed (j1 : Int64) (a2 : Int32) : Option Unit := (if a2 < 0 then z_PlainOrigin_feed_10 j1 a2 else (if a2 ≤ (8 : Int32) then none else z_PlainOrigin_feed_10 j1 a2))
abbrev rz_PlainOrigin_feed : Room := { frames := 6, cells := 1, slots := 6, locals := 83 }
set_option maxHeartbeats 4000000 in
set_option maxRecDepth 100000 in
theorem u_PlainOrigin_feed (l : Launch) (G : xG) (σ : St) (j1 : Int64) (a2 : Int32) (hfl : ∀ e : Env, l.admits e → e.platform.stackTraces = false) (hE : z_PlainOrigin_feed j1 a2 = some ()) : MetT l y_PlainOrigin_feed (ws_PlainOrigin_feed) rz_PlainOrigin_feed (xP2 G σ [.ref (G.2.1 0), .long j1, .int a2]) "java/lang/IllegalArgumentException" 1 6 := by
  refine MetT.ofW (cc := prog_1_method_2_code) (maxL := 7) (ret := (some .int)) (by decide) rfl ?_
  intro p e s m args below meth c s₁ B hml hv
  obtain ⟨rfl, hw, hC, hT⟩ := hv
  have hx := B.exec
  have hb := B.bytes
  have hr := B.returns
  have hu : ∀ w ∈ UW, w.before _ s = true := fun w h => atoms_spec B.pre w (List.mem_cons_of_mem _ h)
  have hown : s.vm.findClass R_PlainOrigin = some m.cls := findClass_of_methodNamed B.named
  have hlocks := B.notSynchronized
  have hK := hC.1
  have hI := hC.2.1
  have hG := hC.2.2.1
  have hN := hC.2.2.2
  have hS : va_S (xA G) s.heap s.heap [] := va_S.rf
  have hex := xt_empty B (atoms_spec B.pre _ List.mem_cons_self)
  have jn10 : ∀ (ls : Array Slot), z_PlainOrigin_feed_10 j1 a2 = some () → lv_has ls 7 [(0, .ref (G.2.1 0)), (1, .long j1), (3, .int a2)] → W p l e (headSpec (ws_PlainOrigin_feed) rz_PlainOrigin_feed).room s m ([.ref (G.2.1 0), .long j1, .int a2] : List Value).toArray below meth c s.heap [] 0 0 (xTQ below "java/lang/IllegalArgumentException" s 1 6) (F0 m 10 ls []) := by
    intro ls hE hl
    unfold z_PlainOrigin_feed_10 at hE
    obtain ⟨cX, hfX, -⟩ := classAt_of (hu _ mw_433)
    refine W.newcK hx hb hown (hu _ mw_432) (hu _ mw_433) (hu _ mw_74) (g := F0 m 10 ls []) rfl d_PlainOrigin_feed_10 (Nat.le_of_ble_eq_true rfl) (Nat.le_of_ble_eq_true rfl) hfX rfl (fun H kX hk1 hk2 hk3 hk4 => ?_)
    refine W.eq (g2 := F0 m 13 ls [.ref s.heap.size]) rfl ?_
    refine lv_dup hx hb d_PlainOrigin_feed_13 rfl ?_
    refine va_ldcS hx hb hown (str_0 hN) d_PlainOrigin_feed_14 ?_
    exact xt_own (names := ["java/lang/RuntimeException", "java/lang/Exception"]) (b := s.heap.size) hx hb (hml.trans hl.1.symm) hown (hfl e B.admits) (by decide +kernel) (by decide +kernel) (xa_IllegalArgumentException_45 hu hT) hfX hk1 hk2 (Nat.le_refl _) d_PlainOrigin_feed_16 d_PlainOrigin_feed_19 (hex _) (Nat.le_of_ble_eq_true rfl) (Nat.le_of_ble_eq_true rfl) hlocks
  have hl := lv_entry ([.ref (G.2.1 0), .long j1, .int a2]) (n := 7) (Nat.le_of_ble_eq_true rfl)
  rw [lg_entry_eq]
  generalize (lg_sl ([.ref (G.2.1 0), .long j1, .int a2]) ++ List.replicate (7 - (lg_sl ([.ref (G.2.1 0), .long j1, .int a2])).length) Slot.unset).toArray = ls at hl ⊢
  have hl : lv_has ls 7 [(0, .ref (G.2.1 0)), (1, .long j1), (3, .int a2)] := hl
  unfold z_PlainOrigin_feed at hE
  refine lv_iload_n hx hb d_PlainOrigin_feed_0 rfl (lv_at hl 2 rfl) ?_
  refine lv_if_lt (tgt := 10) hx hb d_PlainOrigin_feed_1 (by decide) (fun hc1 => ?_) (fun hc1 => ?_)
  · rw [if_pos hc1] at hE
    exact jn10 _ hE (lv_sub hl [0, 1, 2] rfl)
  · rw [if_neg hc1] at hE
    refine lv_iload_n hx hb d_PlainOrigin_feed_4 rfl (lv_at hl 2 rfl) ?_
    refine lv_bipush (v := (8 : Int32)) hx hb d_PlainOrigin_feed_5 (by decide) ?_
    refine lv_icmp_le (tgt := 20) hx hb d_PlainOrigin_feed_7 (by decide) (fun hc7 => ?_) (fun hc7 => ?_)
    · rw [if_pos hc7] at hE
      cases hE
    · rw [if_neg hc7] at hE
      exact jn10 _ hE (lv_sub hl [0, 1, 2] rfl)

def z_PlainOrigin_out_11 (a1 : Int32) : Option Unit := some ()
def z_PlainOrigin_out (a1 : Int32) : Option Unit := (if a1 < 0 then z_PlainOrigin_out_11 a1 else (if a1 < (250 : Int32) then none else z_PlainOrigin_out_11 a1))
abbrev rz_PlainOrigin_out : Room := { frames := 6, cells := 1, slots := 6, locals := 83 }
set_option maxHeartbeats 4000000 in
set_option maxRecDepth 100000 in
theorem u_PlainOrigin_out (l : Launch) (G : xG) (σ : St) (a1 : Int32) (hfl : ∀ e : Env, l.admits e → e.platform.stackTraces = false) (hE : z_PlainOrigin_out a1 = some ()) : MetT l y_PlainOrigin_out (ws_PlainOrigin_out) rz_PlainOrigin_out (xP2 G σ [.ref (G.2.1 0), .int a1]) "java/lang/IndexOutOfBoundsException" 1 6 := by
  refine MetT.ofW (cc := prog_1_method_6_code) (maxL := 6) (ret := (some .long)) (by decide) rfl ?_
  intro p e s m args below meth c s₁ B hml hv
  obtain ⟨rfl, hw, hC, hT⟩ := hv
  have hx := B.exec
  have hb := B.bytes
  have hr := B.returns
  have hu : ∀ w ∈ UW, w.before _ s = true := fun w h => atoms_spec B.pre w (List.mem_cons_of_mem _ h)
  have hown : s.vm.findClass R_PlainOrigin = some m.cls := findClass_of_methodNamed B.named
  have hlocks := B.notSynchronized
  have hK := hC.1
  have hI := hC.2.1
  have hG := hC.2.2.1
  have hN := hC.2.2.2
  have hS : va_S (xA G) s.heap s.heap [] := va_S.rf
  have hex := xt_empty B (atoms_spec B.pre _ List.mem_cons_self)
  have jn11 : ∀ (ls : Array Slot), z_PlainOrigin_out_11 a1 = some () → lv_has ls 6 [(0, .ref (G.2.1 0)), (1, .int a1)] → W p l e (headSpec (ws_PlainOrigin_out) rz_PlainOrigin_out).room s m ([.ref (G.2.1 0), .int a1] : List Value).toArray below meth c s.heap [] 0 0 (xTQ below "java/lang/IndexOutOfBoundsException" s 1 6) (F0 m 11 ls []) := by
    intro ls hE hl
    unfold z_PlainOrigin_out_11 at hE
    obtain ⟨cX, hfX, -⟩ := classAt_of (hu _ mw_965)
    refine W.newcK hx hb hown (hu _ mw_964) (hu _ mw_965) (hu _ mw_84) (g := F0 m 11 ls []) rfl d_PlainOrigin_out_11 (Nat.le_of_ble_eq_true rfl) (Nat.le_of_ble_eq_true rfl) hfX rfl (fun H kX hk1 hk2 hk3 hk4 => ?_)
    refine W.eq (g2 := F0 m 14 ls [.ref s.heap.size]) rfl ?_
    refine lv_dup hx hb d_PlainOrigin_out_14 rfl ?_
    refine va_ldcS hx hb hown (str_32 hN) d_PlainOrigin_out_15 ?_
    exact xt_own (names := ["java/lang/RuntimeException", "java/lang/Exception"]) (b := s.heap.size) hx hb (hml.trans hl.1.symm) hown (hfl e B.admits) (by decide +kernel) (by decide +kernel) (xa_IndexOutOfBoundsException_90 hu hT) hfX hk1 hk2 (Nat.le_refl _) d_PlainOrigin_out_17 d_PlainOrigin_out_20 (hex _) (Nat.le_of_ble_eq_true rfl) (Nat.le_of_ble_eq_true rfl) hlocks
  have hl := lv_entry ([.ref (G.2.1 0), .int a1]) (n := 6) (Nat.le_of_ble_eq_true rfl)
  rw [lg_entry_eq]
  generalize (lg_sl ([.ref (G.2.1 0), .int a1]) ++ List.replicate (6 - (lg_sl ([.ref (G.2.1 0), .int a1])).length) Slot.unset).toArray = ls at hl ⊢
  have hl : lv_has ls 6 [(0, .ref (G.2.1 0)), (1, .int a1)] := hl
  unfold z_PlainOrigin_out at hE
  refine lv_iload_n hx hb d_PlainOrigin_out_0 rfl (lv_at hl 1 rfl) ?_
  refine lv_if_lt (tgt := 11) hx hb d_PlainOrigin_out_1 (by decide) (fun hc1 => ?_) (fun hc1 => ?_)
  · rw [if_pos hc1] at hE
    exact jn11 _ hE (lv_sub hl [0, 1] rfl)
  · rw [if_neg hc1] at hE
    refine lv_iload_n hx hb d_PlainOrigin_out_4 rfl (lv_at hl 1 rfl) ?_
    refine lv_sipush (v := (250 : Int32)) hx hb d_PlainOrigin_out_5 (by decide) ?_
    refine lv_icmp_lt (tgt := 21) hx hb d_PlainOrigin_out_8 (by decide) (fun hc8 => ?_) (fun hc8 => ?_)
    · rw [if_pos hc8] at hE
      cases hE
    · rw [if_neg hc8] at hE
      exact jn11 _ hE (lv_sub hl [0, 1] rfl)

def z_PlainOrigin_resourceOf_10 (a1 : Int32) : Option Unit := some ()
def z_PlainOrigin_resourceOf (a1 : Int32) : Option Unit := (if a1 < 0 then z_PlainOrigin_resourceOf_10 a1 else (if a1 < (8 : Int32) then none else z_PlainOrigin_resourceOf_10 a1))
abbrev rz_PlainOrigin_resourceOf : Room := { frames := 6, cells := 1, slots := 6, locals := 83 }
set_option maxHeartbeats 4000000 in
set_option maxRecDepth 100000 in
theorem u_PlainOrigin_resourceOf (l : Launch) (G : xG) (σ : St) (a1 : Int32) (hfl : ∀ e : Env, l.admits e → e.platform.stackTraces = false) (hE : z_PlainOrigin_resourceOf a1 = some ()) : MetT l y_PlainOrigin_resourceOf (ws_PlainOrigin_resourceOf) rz_PlainOrigin_resourceOf (xP2 G σ [.ref (G.2.1 0), .int a1]) "java/lang/IllegalArgumentException" 1 6 := by
  refine MetT.ofW (cc := prog_1_method_14_code) (maxL := 2) (ret := (some (.object "PlainOrigin$Resource"))) (by decide) rfl ?_
  intro p e s m args below meth c s₁ B hml hv
  obtain ⟨rfl, hw, hC, hT⟩ := hv
  have hx := B.exec
  have hb := B.bytes
  have hr := B.returns
  have hu : ∀ w ∈ UW, w.before _ s = true := fun w h => atoms_spec B.pre w (List.mem_cons_of_mem _ h)
  have hown : s.vm.findClass R_PlainOrigin = some m.cls := findClass_of_methodNamed B.named
  have hlocks := B.notSynchronized
  have hK := hC.1
  have hI := hC.2.1
  have hG := hC.2.2.1
  have hN := hC.2.2.2
  have hS : va_S (xA G) s.heap s.heap [] := va_S.rf
  have hex := xt_empty B (atoms_spec B.pre _ List.mem_cons_self)
  have jn10 : ∀ (ls : Array Slot), z_PlainOrigin_resourceOf_10 a1 = some () → lv_has ls 2 [(0, .ref (G.2.1 0)), (1, .int a1)] → W p l e (headSpec (ws_PlainOrigin_resourceOf) rz_PlainOrigin_resourceOf).room s m ([.ref (G.2.1 0), .int a1] : List Value).toArray below meth c s.heap [] 0 0 (xTQ below "java/lang/IllegalArgumentException" s 1 6) (F0 m 10 ls []) := by
    intro ls hE hl
    unfold z_PlainOrigin_resourceOf_10 at hE
    obtain ⟨cX, hfX, -⟩ := classAt_of (hu _ mw_433)
    refine W.newcK hx hb hown (hu _ mw_432) (hu _ mw_433) (hu _ mw_74) (g := F0 m 10 ls []) rfl d_PlainOrigin_resourceOf_10 (Nat.le_of_ble_eq_true rfl) (Nat.le_of_ble_eq_true rfl) hfX rfl (fun H kX hk1 hk2 hk3 hk4 => ?_)
    refine W.eq (g2 := F0 m 13 ls [.ref s.heap.size]) rfl ?_
    refine lv_dup hx hb d_PlainOrigin_resourceOf_13 rfl ?_
    refine va_ldcS hx hb hown (str_33 hN) d_PlainOrigin_resourceOf_14 ?_
    exact xt_own (names := ["java/lang/RuntimeException", "java/lang/Exception"]) (b := s.heap.size) hx hb (hml.trans hl.1.symm) hown (hfl e B.admits) (by decide +kernel) (by decide +kernel) (xa_IllegalArgumentException_45 hu hT) hfX hk1 hk2 (Nat.le_refl _) d_PlainOrigin_resourceOf_16 d_PlainOrigin_resourceOf_19 (hex _) (Nat.le_of_ble_eq_true rfl) (Nat.le_of_ble_eq_true rfl) hlocks
  have hl := lv_entry ([.ref (G.2.1 0), .int a1]) (n := 2) (Nat.le_of_ble_eq_true rfl)
  rw [lg_entry_eq]
  generalize (lg_sl ([.ref (G.2.1 0), .int a1]) ++ List.replicate (2 - (lg_sl ([.ref (G.2.1 0), .int a1])).length) Slot.unset).toArray = ls at hl ⊢
  have hl : lv_has ls 2 [(0, .ref (G.2.1 0)), (1, .int a1)] := hl
  unfold z_PlainOrigin_resourceOf at hE
  refine lv_iload_n hx hb d_PlainOrigin_resourceOf_0 rfl (lv_at hl 1 rfl) ?_
  refine lv_if_lt (tgt := 10) hx hb d_PlainOrigin_resourceOf_1 (by decide) (fun hc1 => ?_) (fun hc1 => ?_)
  · rw [if_pos hc1] at hE
    exact jn10 _ hE (lv_sub hl [0, 1] rfl)
  · rw [if_neg hc1] at hE
    refine lv_iload_n hx hb d_PlainOrigin_resourceOf_4 rfl (lv_at hl 1 rfl) ?_
    refine lv_bipush (v := (8 : Int32)) hx hb d_PlainOrigin_resourceOf_5 (by decide) ?_
    refine lv_icmp_lt (tgt := 20) hx hb d_PlainOrigin_resourceOf_7 (by decide) (fun hc7 => ?_) (fun hc7 => ?_)
    · rw [if_pos hc7] at hE
      cases hE
    · rw [if_neg hc7] at hE
      exact jn10 _ hE (lv_sub hl [0, 1] rfl)

def z_PlainOrigin_size (a1 : Int32) : Option Unit := (if z_PlainOrigin_resourceOf a1 = some () then some () else none)
abbrev rz_PlainOrigin_size : Room := { frames := 7, cells := 1, slots := 6, locals := 104 }
set_option maxHeartbeats 4000000 in
set_option maxRecDepth 100000 in
theorem u_PlainOrigin_size (l : Launch) (G : xG) (σ : St) (a1 : Int32) (hfl : ∀ e : Env, l.admits e → e.platform.stackTraces = false) (hE : z_PlainOrigin_size a1 = some ()) : MetT l y_PlainOrigin_size (ws_PlainOrigin_size) rz_PlainOrigin_size (xP2 G σ [.ref (G.2.1 0), .int a1]) "java/lang/IllegalArgumentException" 1 6 := by
  refine MetT.ofW (cc := prog_1_method_10_code) (maxL := 3) (ret := (some .int)) (by decide) rfl ?_
  intro p e s m args below meth c s₁ B hml hv
  obtain ⟨rfl, hw, hC, hT⟩ := hv
  have hx := B.exec
  have hb := B.bytes
  have hr := B.returns
  have hu : ∀ w ∈ UW, w.before _ s = true := fun w h => atoms_spec B.pre w (List.mem_cons_of_mem _ h)
  have hown : s.vm.findClass R_PlainOrigin = some m.cls := findClass_of_methodNamed B.named
  have hlocks := B.notSynchronized
  have hK := hC.1
  have hI := hC.2.1
  have hG := hC.2.2.1
  have hN := hC.2.2.2
  have hS : va_S (xA G) s.heap s.heap [] := va_S.rf
  have hex := xt_empty B (atoms_spec B.pre _ List.mem_cons_self)
  have hl := lv_entry ([.ref (G.2.1 0), .int a1]) (n := 3) (Nat.le_of_ble_eq_true rfl)
  rw [lg_entry_eq]
  generalize (lg_sl ([.ref (G.2.1 0), .int a1]) ++ List.replicate (3 - (lg_sl ([.ref (G.2.1 0), .int a1])).length) Slot.unset).toArray = ls at hl ⊢
  have hl : lv_has ls 3 [(0, .ref (G.2.1 0)), (1, .int a1)] := hl
  unfold z_PlainOrigin_size at hE
  refine lv_aload_n hx hb d_PlainOrigin_size_0 rfl (lv_at hl 0 rfl) ?_
  refine lv_iload_n hx hb d_PlainOrigin_size_1 rfl (lv_at hl 1 rfl) ?_
  refine x_split (c := z_PlainOrigin_resourceOf a1 = some ()) (fun hz2 => ?_) (fun hz2 => ?_)
  · rw [if_pos hz2] at hE
    exact xt_pass (xt_runV (As := [.int a1]) (rest := []) ⟨hx, hb, hml, hown, hu⟩ (u_PlainOrigin_resourceOf l G σ a1 hfl hz2) (cwV 1 hu (uw_V mw_988 mw_990 mw_22 mw_60 mw_991) rfl rfl rfl hd_PlainOrigin_resourceOf ⟨Nat.le_of_ble_eq_true rfl, Nat.le_of_ble_eq_true rfl⟩) (x_preV2 hC hT hS hw (va_recv hK hw (q := (R_PlainOrigin, T_PlainOrigin, 5)) (ci := 9) rfl (x_at (by decide) (xcl_0 G σ)))) rfl rfl hl.1 rfl (lv_room (Nat.le_of_ble_eq_true rfl)) d_PlainOrigin_size_2 ⟨Nat.le_of_ble_eq_true rfl, Nat.le_of_ble_eq_true rfl⟩) (Nat.le_refl _) (hex _) hlocks
  · rw [if_neg hz2] at hE
    cases hE

def z_PlainOrigin_at (a1 : Int32) (a2 : Int32) (σ : St) : Option Unit := (if z_PlainOrigin_resourceOf a1 = some () then some () else none)
abbrev rz_PlainOrigin_at : Room := { frames := 7, cells := 1, slots := 6, locals := 104 }
set_option maxHeartbeats 4000000 in
set_option maxRecDepth 100000 in
theorem u_PlainOrigin_at (l : Launch) (G : xG) (σ : St) (a1 : Int32) (a2 : Int32) (hfl : ∀ e : Env, l.admits e → e.platform.stackTraces = false) (hE : z_PlainOrigin_at a1 a2 σ = some ()) : MetT l y_PlainOrigin_at (ws_PlainOrigin_at) rz_PlainOrigin_at (xP2 G σ [.ref (G.2.1 0), .int a1, .int a2]) "java/lang/IllegalArgumentException" 1 6 := by
  refine MetT.ofW (cc := prog_1_method_11_code) (maxL := 4) (ret := (some .int)) (by decide) rfl ?_
  intro p e s m args below meth c s₁ B hml hv
  obtain ⟨rfl, hw, hC, hT⟩ := hv
  have hx := B.exec
  have hb := B.bytes
  have hr := B.returns
  have hu : ∀ w ∈ UW, w.before _ s = true := fun w h => atoms_spec B.pre w (List.mem_cons_of_mem _ h)
  have hown : s.vm.findClass R_PlainOrigin = some m.cls := findClass_of_methodNamed B.named
  have hlocks := B.notSynchronized
  have hK := hC.1
  have hI := hC.2.1
  have hG := hC.2.2.1
  have hN := hC.2.2.2
  have hS : va_S (xA G) s.heap s.heap [] := va_S.rf
  have hex := xt_empty B (atoms_spec B.pre _ List.mem_cons_self)
  have hl := lv_entry ([.ref (G.2.1 0), .int a1, .int a2]) (n := 4) (Nat.le_of_ble_eq_true rfl)
  rw [lg_entry_eq]
  generalize (lg_sl ([.ref (G.2.1 0), .int a1, .int a2]) ++ List.replicate (4 - (lg_sl ([.ref (G.2.1 0), .int a1, .int a2])).length) Slot.unset).toArray = ls at hl ⊢
  have hl : lv_has ls 4 [(0, .ref (G.2.1 0)), (1, .int a1), (2, .int a2)] := hl
  unfold z_PlainOrigin_at at hE
  refine lv_aload_n hx hb d_PlainOrigin_at_0 rfl (lv_at hl 0 rfl) ?_
  refine lv_iload_n hx hb d_PlainOrigin_at_1 rfl (lv_at hl 1 rfl) ?_
  refine x_split (c := z_PlainOrigin_resourceOf a1 = some ()) (fun hz2 => ?_) (fun hz2 => ?_)
  · rw [if_pos hz2] at hE
    exact xt_pass (xt_runV (As := [.int a1]) (rest := []) ⟨hx, hb, hml, hown, hu⟩ (u_PlainOrigin_resourceOf l G σ a1 hfl hz2) (cwV 1 hu (uw_V mw_988 mw_990 mw_22 mw_60 mw_991) rfl rfl rfl hd_PlainOrigin_resourceOf ⟨Nat.le_of_ble_eq_true rfl, Nat.le_of_ble_eq_true rfl⟩) (x_preV2 hC hT hS hw (va_recv hK hw (q := (R_PlainOrigin, T_PlainOrigin, 5)) (ci := 9) rfl (x_at (by decide) (xcl_0 G σ)))) rfl rfl hl.1 rfl (lv_room (Nat.le_of_ble_eq_true rfl)) d_PlainOrigin_at_2 ⟨Nat.le_of_ble_eq_true rfl, Nat.le_of_ble_eq_true rfl⟩) (Nat.le_refl _) (hex _) hlocks
  · rw [if_neg hz2] at hE
    cases hE

def z_PlainOrigin_mark (a1 : Int32) : Option Unit := (if z_PlainOrigin_resourceOf a1 = some () then some () else none)
abbrev rz_PlainOrigin_mark : Room := { frames := 7, cells := 1, slots := 6, locals := 104 }
set_option maxHeartbeats 4000000 in
set_option maxRecDepth 100000 in
theorem u_PlainOrigin_mark (l : Launch) (G : xG) (σ : St) (a1 : Int32) (hfl : ∀ e : Env, l.admits e → e.platform.stackTraces = false) (hE : z_PlainOrigin_mark a1 = some ()) : MetT l y_PlainOrigin_mark (ws_PlainOrigin_mark) rz_PlainOrigin_mark (xP2 G σ [.ref (G.2.1 0), .int a1]) "java/lang/IllegalArgumentException" 1 6 := by
  refine MetT.ofW (cc := prog_1_method_12_code) (maxL := 2) (ret := (some .int)) (by decide) rfl ?_
  intro p e s m args below meth c s₁ B hml hv
  obtain ⟨rfl, hw, hC, hT⟩ := hv
  have hx := B.exec
  have hb := B.bytes
  have hr := B.returns
  have hu : ∀ w ∈ UW, w.before _ s = true := fun w h => atoms_spec B.pre w (List.mem_cons_of_mem _ h)
  have hown : s.vm.findClass R_PlainOrigin = some m.cls := findClass_of_methodNamed B.named
  have hlocks := B.notSynchronized
  have hK := hC.1
  have hI := hC.2.1
  have hG := hC.2.2.1
  have hN := hC.2.2.2
  have hS : va_S (xA G) s.heap s.heap [] := va_S.rf
  have hex := xt_empty B (atoms_spec B.pre _ List.mem_cons_self)
  have hl := lv_entry ([.ref (G.2.1 0), .int a1]) (n := 2) (Nat.le_of_ble_eq_true rfl)
  rw [lg_entry_eq]
  generalize (lg_sl ([.ref (G.2.1 0), .int a1]) ++ List.replicate (2 - (lg_sl ([.ref (G.2.1 0), .int a1])).length) Slot.unset).toArray = ls at hl ⊢
  have hl : lv_has ls 2 [(0, .ref (G.2.1 0)), (1, .int a1)] := hl
  unfold z_PlainOrigin_mark at hE
  refine lv_aload_n hx hb d_PlainOrigin_mark_0 rfl (lv_at hl 0 rfl) ?_
  refine lv_iload_n hx hb d_PlainOrigin_mark_1 rfl (lv_at hl 1 rfl) ?_
  refine x_split (c := z_PlainOrigin_resourceOf a1 = some ()) (fun hz2 => ?_) (fun hz2 => ?_)
  · rw [if_pos hz2] at hE
    exact xt_pass (xt_runV (As := [.int a1]) (rest := []) ⟨hx, hb, hml, hown, hu⟩ (u_PlainOrigin_resourceOf l G σ a1 hfl hz2) (cwV 1 hu (uw_V mw_988 mw_990 mw_22 mw_60 mw_991) rfl rfl rfl hd_PlainOrigin_resourceOf ⟨Nat.le_of_ble_eq_true rfl, Nat.le_of_ble_eq_true rfl⟩) (x_preV2 hC hT hS hw (va_recv hK hw (q := (R_PlainOrigin, T_PlainOrigin, 5)) (ci := 9) rfl (x_at (by decide) (xcl_0 G σ)))) rfl rfl hl.1 rfl (lv_room (Nat.le_of_ble_eq_true rfl)) d_PlainOrigin_mark_2 ⟨Nat.le_of_ble_eq_true rfl, Nat.le_of_ble_eq_true rfl⟩) (Nat.le_refl _) (hex _) hlocks
  · rw [if_neg hz2] at hE
    cases hE

def z_PlainOrigin_atN_28 (a1 : Int32) (a2 : Int32) (σ : St) : Option Unit := some ()
def z_PlainOrigin_atN (a1 : Int32) (a2 : Int32) (σ : St) : Option Unit := (Option.bind (x_PlainOrigin_resourceOf a1 σ) (fun r2 => (if xS r2 then (Option.bind (x_Resource_isThere r2 σ) (fun r7 => (if r7 = 0 then z_PlainOrigin_atN_28 a1 a2 σ else (if a2 < 0 then z_PlainOrigin_atN_28 a1 a2 σ else (if xS r2 then (if a2 < (σ.1 (r2 + 1) 1) then none else z_PlainOrigin_atN_28 a1 a2 σ) else none))))) else none)))
abbrev rz_PlainOrigin_atN : Room := { frames := 6, cells := 1, slots := 6, locals := 83 }
set_option maxHeartbeats 4000000 in
set_option maxRecDepth 100000 in
theorem u_PlainOrigin_atN (l : Launch) (G : xG) (σ : St) (a1 : Int32) (a2 : Int32) (hfl : ∀ e : Env, l.admits e → e.platform.stackTraces = false) (hE : z_PlainOrigin_atN a1 a2 σ = some ()) : MetT l y_PlainOrigin_at (ws_PlainOrigin_at) rz_PlainOrigin_atN (xP2 G σ [.ref (G.2.1 0), .int a1, .int a2]) "java/util/NoSuchElementException" 1 6 := by
  refine MetT.ofW (cc := prog_1_method_11_code) (maxL := 4) (ret := (some .int)) (by decide) rfl ?_
  intro p e s m args below meth c s₁ B hml hv
  obtain ⟨rfl, hw, hC, hT⟩ := hv
  have hx := B.exec
  have hb := B.bytes
  have hr := B.returns
  have hu : ∀ w ∈ UW, w.before _ s = true := fun w h => atoms_spec B.pre w (List.mem_cons_of_mem _ h)
  have hown : s.vm.findClass R_PlainOrigin = some m.cls := findClass_of_methodNamed B.named
  have hlocks := B.notSynchronized
  have hK := hC.1
  have hI := hC.2.1
  have hG := hC.2.2.1
  have hN := hC.2.2.2
  have hS : va_S (xA G) s.heap s.heap [] := va_S.rf
  have hex := xt_empty B (atoms_spec B.pre _ List.mem_cons_self)
  have jn28 : ∀ (ls : Array Slot), z_PlainOrigin_atN_28 a1 a2 σ = some () → lv_has ls 4 [(0, .ref (G.2.1 0)), (1, .int a1), (2, .int a2)] → W p l e (headSpec (ws_PlainOrigin_at) rz_PlainOrigin_atN).room s m ([.ref (G.2.1 0), .int a1, .int a2] : List Value).toArray below meth c s.heap [] 0 0 (xTQ below "java/util/NoSuchElementException" s 1 6) (F0 m 28 ls []) := by
    intro ls hE hl
    unfold z_PlainOrigin_atN_28 at hE
    obtain ⟨cX, hfX, -⟩ := classAt_of (hu _ mw_1003)
    refine W.newcK hx hb hown (hu _ mw_1002) (hu _ mw_1003) (hu _ mw_85) (g := F0 m 28 ls []) rfl d_PlainOrigin_at_28 (Nat.le_of_ble_eq_true rfl) (Nat.le_of_ble_eq_true rfl) hfX rfl (fun H kX hk1 hk2 hk3 hk4 => ?_)
    refine W.eq (g2 := F0 m 31 ls [.ref s.heap.size]) rfl ?_
    refine lv_dup hx hb d_PlainOrigin_at_31 rfl ?_
    refine va_ldcS hx hb hown (str_34 hN) d_PlainOrigin_at_32 ?_
    exact xt_ownAt (sup := "java/lang/RuntimeException") (names := ["java/lang/Exception"]) (ix := 13) (bytes := prog_26_method_4_code) (b := s.heap.size) hx hb (hml.trans hl.1.symm) hown (hfl e B.admits) (by decide +kernel) (by decide +kernel) (by decide +kernel) (by decide +kernel) (by decide +kernel) (by decide +kernel) (by decide +kernel) (xa_thr hu hT) (xa_thrS hu hT) (xa_passN hu hT) (xa_chainR hu hT) (hu _ mw_1012) (hu _ mw_1003) (hu _ mw_1005) (hu _ mw_466) (hu _ mw_1006) (hu _ mw_1007) (hu _ mw_1008) (hu _ mw_1009) (hu _ mw_1010) (xt_isRef (hT.2.1 _ (List.mem_of_getElem? (i := 0) rfl)).2) (xt_isRef (hT.2.1 _ (List.mem_of_getElem? (i := 1) rfl)).2) (hu _ mw_453) (hu _ mw_452) hfX hk1 hk2 (Nat.le_refl _) d_PlainOrigin_at_34 d_PlainOrigin_at_37 (hex _) (Nat.le_of_ble_eq_true rfl) (Nat.le_of_ble_eq_true rfl) hlocks
  have hl := lv_entry ([.ref (G.2.1 0), .int a1, .int a2]) (n := 4) (Nat.le_of_ble_eq_true rfl)
  rw [lg_entry_eq]
  generalize (lg_sl ([.ref (G.2.1 0), .int a1, .int a2]) ++ List.replicate (4 - (lg_sl ([.ref (G.2.1 0), .int a1, .int a2])).length) Slot.unset).toArray = ls at hl ⊢
  have hl : lv_has ls 4 [(0, .ref (G.2.1 0)), (1, .int a1), (2, .int a2)] := hl
  unfold z_PlainOrigin_atN at hE
  refine lv_aload_n hx hb d_PlainOrigin_at_0 rfl (lv_at hl 0 rfl) ?_
  refine lv_iload_n hx hb d_PlainOrigin_at_1 rfl (lv_at hl 1 rfl) ?_
  obtain ⟨r2, hC2, hE⟩ := x_bind hE
  refine x_callR (W.runV (As := [.int a1]) (rest := []) ⟨hx, hb, hml, hown, hu⟩ (t_PlainOrigin_resourceOf l G σ a1 r2 hC2) (cwV 1 hu (uw_V mw_988 mw_990 mw_22 mw_60 mw_991) rfl rfl rfl hd_PlainOrigin_resourceOf ⟨Nat.le_of_ble_eq_true rfl, Nat.le_of_ble_eq_true rfl⟩) (x_preV hC hS hw (va_recv hK hw (q := (R_PlainOrigin, T_PlainOrigin, 5)) (ci := 9) rfl (x_at (by decide) (xcl_0 G σ)))) rfl rfl hl.1 rfl (lv_room (Nat.le_of_ble_eq_true rfl)) d_PlainOrigin_at_2 ⟨Nat.le_of_ble_eq_true rfl, Nat.le_of_ble_eq_true rfl⟩) ?_
  refine lv_astore_n hx hb d_PlainOrigin_at_5 rfl hl (by decide) rfl (fun ls hl => ?_)
  have hl : lv_has ls 4 [(3, .ref (G.2.1 r2)), (0, .ref (G.2.1 0)), (1, .int a1), (2, .int a2)] := hl
  refine lv_aload_n hx hb d_PlainOrigin_at_6 rfl (lv_at hl 0 rfl) ?_
  obtain ⟨q7_0, hE⟩ := x_guard hE
  obtain ⟨r7, hC7, hE⟩ := x_bind hE
  refine x_callR (W.runV (As := []) (rest := []) ⟨hx, hb, hml, hown, hu⟩ (t_Resource_isThere l G σ r2 q7_0 r7 hC7) (cwV 0 hu (uw_V mw_993 mw_848 mw_849 mw_62 mw_850) rfl rfl rfl hd_Resource_isThere ⟨Nat.le_of_ble_eq_true rfl, Nat.le_of_ble_eq_true rfl⟩) (x_preV hC hS hw (va_recv hK hw (q := (R_Resource, T_Resource, 2)) (ci := 4) rfl (x_at (xS_lt q7_0) (xcl_S G σ (xS_s q7_0))))) rfl rfl hl.1 rfl (lv_room (Nat.le_of_ble_eq_true rfl)) d_PlainOrigin_at_7 ⟨Nat.le_of_ble_eq_true rfl, Nat.le_of_ble_eq_true rfl⟩) ?_
  refine lv_if_eq (tgt := 28) hx hb d_PlainOrigin_at_10 (by decide) (fun hc10 => ?_) (fun hc10 => ?_)
  · rw [if_pos hc10] at hE
    exact jn28 _ hE (lv_sub hl [1, 2, 3] rfl)
  · rw [if_neg hc10] at hE
    refine lv_iload_n hx hb d_PlainOrigin_at_13 rfl (lv_at hl 3 rfl) ?_
    refine lv_if_lt (tgt := 28) hx hb d_PlainOrigin_at_14 (by decide) (fun hc14 => ?_) (fun hc14 => ?_)
    · rw [if_pos hc14] at hE
      exact jn28 _ hE (lv_sub hl [1, 2, 3] rfl)
    · rw [if_neg hc14] at hE
      refine lv_iload_n hx hb d_PlainOrigin_at_17 rfl (lv_at hl 3 rfl) ?_
      refine lv_aload_n hx hb d_PlainOrigin_at_18 rfl (lv_at hl 0 rfl) ?_
      obtain ⟨q19_0, hE⟩ := x_guard hE
      refine va_getN (D := G.1) (cl := xCl) (ci := 4) (v := .ref (G.2.1 (r2 + 1))) (C := R_Resource) (T := T_Resource) (N := 2) hx hb hu fi_Resource hown hK hw r2 (x_at (xS_lt q19_0) (xcl_S G σ (xS_s q19_0))) rfl 0 (by decide) (nl_9 hG) (fun _ h9 => h9) rfl d_PlainOrigin_at_19 ?_
      refine va_getN (D := G.1) (cl := xCl) (ci := 0) (v := .int (σ.1 (r2 + 1) 1)) (C := R_Bytes) (T := T_Bytes) (N := 2) hx hb hu fi_Bytes hown hK hw (r2 + 1) (x_at (xB_lt (xS_b q19_0)) (xcl_B G σ (xB_s (xS_b q19_0)))) rfl 1 (by decide) (nl_5 hG) (fun _ h9 => h9) rfl d_PlainOrigin_at_22 ?_
      refine lv_icmp_lt (tgt := 38) hx hb d_PlainOrigin_at_25 (by decide) (fun hc25 => ?_) (fun hc25 => ?_)
      · rw [if_pos hc25] at hE
        cases hE
      · rw [if_neg hc25] at hE
        exact jn28 _ hE (lv_sub hl [1, 2, 3] rfl)
