def y_Model_takeField : MethodName := ⟨"PlainOriginModel", "takeField", "()V"⟩
def ws_Model_takeField : List Cond := Cond.code y_Model_takeField prog_14_method_21_code 3 none :: UW
theorem hd_Model_takeField : y_Model_takeField.cls = R_Model ∧ y_Model_takeField.cls ≠ "java/lang/invoke/MethodHandle" ∧ y_Model_takeField.cls ≠ "java/lang/invoke/VarHandle" ∧ (parseMethodDescriptor y_Model_takeField.desc).map (fun d => d.parameters.length) = some 0 := by decide +kernel
theorem d_Model_takeField_0 : decode prog_14_method_21_code 0 = .ok (.aload_n 0, 1) := by decide +kernel
theorem d_Model_takeField_1 : decode prog_14_method_21_code 1 = .ok (.bipush (58), 2) := by decide +kernel
theorem d_Model_takeField_3 : decode prog_14_method_21_code 3 = .ok (.iconst 0, 1) := by decide +kernel
theorem d_Model_takeField_4 : decode prog_14_method_21_code 4 = .ok (.invokevirtual 231, 3) := by decide +kernel
theorem d_Model_takeField_7 : decode prog_14_method_21_code 7 = .ok (.istore_n 1, 1) := by decide +kernel
theorem d_Model_takeField_8 : decode prog_14_method_21_code 8 = .ok (.aload_n 0, 1) := by decide +kernel
theorem d_Model_takeField_9 : decode prog_14_method_21_code 9 = .ok (.iload_n 1, 1) := by decide +kernel
theorem d_Model_takeField_10 : decode prog_14_method_21_code 10 = .ok (.aload_n 0, 1) := by decide +kernel
theorem d_Model_takeField_11 : decode prog_14_method_21_code 11 = .ok (.getfield 201, 3) := by decide +kernel
theorem d_Model_takeField_14 : decode prog_14_method_21_code 14 = .ok (.if_icmp .ge (15), 3) := by decide +kernel
theorem d_Model_takeField_17 : decode prog_14_method_21_code 17 = .ok (.aload_n 0, 1) := by decide +kernel
theorem d_Model_takeField_18 : decode prog_14_method_21_code 18 = .ok (.iload_n 1, 1) := by decide +kernel
theorem d_Model_takeField_19 : decode prog_14_method_21_code 19 = .ok (.invokevirtual 235, 3) := by decide +kernel
theorem d_Model_takeField_22 : decode prog_14_method_21_code 22 = .ok (.ifCond .eq (7), 3) := by decide +kernel
theorem d_Model_takeField_25 : decode prog_14_method_21_code 25 = .ok (.iconst 1, 1) := by decide +kernel
theorem d_Model_takeField_26 : decode prog_14_method_21_code 26 = .ok (.goto (4), 3) := by decide +kernel
theorem d_Model_takeField_29 : decode prog_14_method_21_code 29 = .ok (.iconst 0, 1) := by decide +kernel
theorem d_Model_takeField_30 : decode prog_14_method_21_code 30 = .ok (.sipush (400), 3) := by decide +kernel
theorem d_Model_takeField_33 : decode prog_14_method_21_code 33 = .ok (.invokevirtual 194, 3) := by decide +kernel
theorem d_Model_takeField_36 : decode prog_14_method_21_code 36 = .ok (.iload_n 1, 1) := by decide +kernel
theorem d_Model_takeField_37 : decode prog_14_method_21_code 37 = .ok (.iconst 1, 1) := by decide +kernel
theorem d_Model_takeField_38 : decode prog_14_method_21_code 38 = .ok (.iadd, 1) := by decide +kernel
theorem d_Model_takeField_39 : decode prog_14_method_21_code 39 = .ok (.istore_n 2, 1) := by decide +kernel
theorem d_Model_takeField_40 : decode prog_14_method_21_code 40 = .ok (.iload_n 2, 1) := by decide +kernel
theorem d_Model_takeField_41 : decode prog_14_method_21_code 41 = .ok (.aload_n 0, 1) := by decide +kernel
theorem d_Model_takeField_42 : decode prog_14_method_21_code 42 = .ok (.getfield 201, 3) := by decide +kernel
theorem d_Model_takeField_45 : decode prog_14_method_21_code 45 = .ok (.if_icmp .ge (25), 3) := by decide +kernel
theorem d_Model_takeField_48 : decode prog_14_method_21_code 48 = .ok (.aload_n 0, 1) := by decide +kernel
theorem d_Model_takeField_49 : decode prog_14_method_21_code 49 = .ok (.aload_n 0, 1) := by decide +kernel
theorem d_Model_takeField_50 : decode prog_14_method_21_code 50 = .ok (.getfield 105, 3) := by decide +kernel
theorem d_Model_takeField_53 : decode prog_14_method_21_code 53 = .ok (.iload_n 2, 1) := by decide +kernel
theorem d_Model_takeField_54 : decode prog_14_method_21_code 54 = .ok (.iaload, 1) := by decide +kernel
theorem d_Model_takeField_55 : decode prog_14_method_21_code 55 = .ok (.invokestatic 248, 3) := by decide +kernel
theorem d_Model_takeField_58 : decode prog_14_method_21_code 58 = .ok (.sipush (400), 3) := by decide +kernel
theorem d_Model_takeField_61 : decode prog_14_method_21_code 61 = .ok (.invokevirtual 194, 3) := by decide +kernel
theorem d_Model_takeField_64 : decode prog_14_method_21_code 64 = .ok (.iinc 2 (1), 3) := by decide +kernel
theorem d_Model_takeField_67 : decode prog_14_method_21_code 67 = .ok (.goto (-27), 3) := by decide +kernel
theorem d_Model_takeField_70 : decode prog_14_method_21_code 70 = .ok (.aload_n 0, 1) := by decide +kernel
theorem d_Model_takeField_71 : decode prog_14_method_21_code 71 = .ok (.aload_n 0, 1) := by decide +kernel
theorem d_Model_takeField_72 : decode prog_14_method_21_code 72 = .ok (.getfield 179, 3) := by decide +kernel
theorem d_Model_takeField_75 : decode prog_14_method_21_code 75 = .ok (.iconst 1, 1) := by decide +kernel
theorem d_Model_takeField_76 : decode prog_14_method_21_code 76 = .ok (.if_icmp .ne (20), 3) := by decide +kernel
theorem d_Model_takeField_79 : decode prog_14_method_21_code 79 = .ok (.aload_n 0, 1) := by decide +kernel
theorem d_Model_takeField_80 : decode prog_14_method_21_code 80 = .ok (.getfield 228, 3) := by decide +kernel
theorem d_Model_takeField_83 : decode prog_14_method_21_code 83 = .ok (.bipush (12), 2) := by decide +kernel
theorem d_Model_takeField_85 : decode prog_14_method_21_code 85 = .ok (.if_icmp .ge (7), 3) := by decide +kernel
theorem d_Model_takeField_88 : decode prog_14_method_21_code 88 = .ok (.iconst 1, 1) := by decide +kernel
theorem d_Model_takeField_89 : decode prog_14_method_21_code 89 = .ok (.goto (20), 3) := by decide +kernel
theorem d_Model_takeField_92 : decode prog_14_method_21_code 92 = .ok (.iconst 0, 1) := by decide +kernel
theorem d_Model_takeField_93 : decode prog_14_method_21_code 93 = .ok (.goto (16), 3) := by decide +kernel
theorem d_Model_takeField_96 : decode prog_14_method_21_code 96 = .ok (.aload_n 0, 1) := by decide +kernel
theorem d_Model_takeField_97 : decode prog_14_method_21_code 97 = .ok (.getfield 251, 3) := by decide +kernel
theorem d_Model_takeField_100 : decode prog_14_method_21_code 100 = .ok (.iconst 4, 1) := by decide +kernel
theorem d_Model_takeField_101 : decode prog_14_method_21_code 101 = .ok (.if_icmp .ge (7), 3) := by decide +kernel
theorem d_Model_takeField_104 : decode prog_14_method_21_code 104 = .ok (.iconst 1, 1) := by decide +kernel
theorem d_Model_takeField_105 : decode prog_14_method_21_code 105 = .ok (.goto (4), 3) := by decide +kernel
theorem d_Model_takeField_108 : decode prog_14_method_21_code 108 = .ok (.iconst 0, 1) := by decide +kernel
theorem d_Model_takeField_109 : decode prog_14_method_21_code 109 = .ok (.sipush (431), 3) := by decide +kernel
theorem d_Model_takeField_112 : decode prog_14_method_21_code 112 = .ok (.invokevirtual 194, 3) := by decide +kernel
theorem d_Model_takeField_115 : decode prog_14_method_21_code 115 = .ok (.aload_n 0, 1) := by decide +kernel
theorem d_Model_takeField_116 : decode prog_14_method_21_code 116 = .ok (.getfield 162, 3) := by decide +kernel
theorem d_Model_takeField_119 : decode prog_14_method_21_code 119 = .ok (.ifCond .le (4), 3) := by decide +kernel
theorem d_Model_takeField_122 : decode prog_14_method_21_code 122 = .ok (.return_, 1) := by decide +kernel
theorem d_Model_takeField_123 : decode prog_14_method_21_code 123 = .ok (.aload_n 0, 1) := by decide +kernel
theorem d_Model_takeField_124 : decode prog_14_method_21_code 124 = .ok (.getfield 179, 3) := by decide +kernel
theorem d_Model_takeField_127 : decode prog_14_method_21_code 127 = .ok (.iconst 5, 1) := by decide +kernel
theorem d_Model_takeField_128 : decode prog_14_method_21_code 128 = .ok (.if_icmp .ne (14), 3) := by decide +kernel
theorem d_Model_takeField_131 : decode prog_14_method_21_code 131 = .ok (.aload_n 0, 1) := by decide +kernel
theorem d_Model_takeField_132 : decode prog_14_method_21_code 132 = .ok (.dup, 1) := by decide +kernel
theorem d_Model_takeField_133 : decode prog_14_method_21_code 133 = .ok (.getfield 251, 3) := by decide +kernel
theorem d_Model_takeField_136 : decode prog_14_method_21_code 136 = .ok (.iconst 1, 1) := by decide +kernel
theorem d_Model_takeField_137 : decode prog_14_method_21_code 137 = .ok (.iadd, 1) := by decide +kernel
theorem d_Model_takeField_138 : decode prog_14_method_21_code 138 = .ok (.putfield 251, 3) := by decide +kernel
theorem d_Model_takeField_141 : decode prog_14_method_21_code 141 = .ok (.return_, 1) := by decide +kernel
theorem d_Model_takeField_142 : decode prog_14_method_21_code 142 = .ok (.aload_n 0, 1) := by decide +kernel
theorem d_Model_takeField_143 : decode prog_14_method_21_code 143 = .ok (.getfield 121, 3) := by decide +kernel
theorem d_Model_takeField_146 : decode prog_14_method_21_code 146 = .ok (.aload_n 0, 1) := by decide +kernel
theorem d_Model_takeField_147 : decode prog_14_method_21_code 147 = .ok (.getfield 228, 3) := by decide +kernel
theorem d_Model_takeField_150 : decode prog_14_method_21_code 150 = .ok (.iload_n 1, 1) := by decide +kernel
theorem d_Model_takeField_151 : decode prog_14_method_21_code 151 = .ok (.iastore, 1) := by decide +kernel
theorem d_Model_takeField_152 : decode prog_14_method_21_code 152 = .ok (.aload_n 0, 1) := by decide +kernel
theorem d_Model_takeField_153 : decode prog_14_method_21_code 153 = .ok (.getfield 124, 3) := by decide +kernel
theorem d_Model_takeField_156 : decode prog_14_method_21_code 156 = .ok (.aload_n 0, 1) := by decide +kernel
theorem d_Model_takeField_157 : decode prog_14_method_21_code 157 = .ok (.getfield 228, 3) := by decide +kernel
theorem d_Model_takeField_160 : decode prog_14_method_21_code 160 = .ok (.aload_n 0, 1) := by decide +kernel
theorem d_Model_takeField_161 : decode prog_14_method_21_code 161 = .ok (.getfield 201, 3) := by decide +kernel
theorem d_Model_takeField_164 : decode prog_14_method_21_code 164 = .ok (.iastore, 1) := by decide +kernel
theorem d_Model_takeField_165 : decode prog_14_method_21_code 165 = .ok (.iconst 0, 1) := by decide +kernel
theorem d_Model_takeField_166 : decode prog_14_method_21_code 166 = .ok (.istore_n 2, 1) := by decide +kernel
theorem d_Model_takeField_167 : decode prog_14_method_21_code 167 = .ok (.iload_n 2, 1) := by decide +kernel
theorem d_Model_takeField_168 : decode prog_14_method_21_code 168 = .ok (.aload_n 0, 1) := by decide +kernel
theorem d_Model_takeField_169 : decode prog_14_method_21_code 169 = .ok (.getfield 201, 3) := by decide +kernel
theorem d_Model_takeField_172 : decode prog_14_method_21_code 172 = .ok (.if_icmp .ge (29), 3) := by decide +kernel
theorem d_Model_takeField_175 : decode prog_14_method_21_code 175 = .ok (.aload_n 0, 1) := by decide +kernel
theorem d_Model_takeField_176 : decode prog_14_method_21_code 176 = .ok (.getfield 118, 3) := by decide +kernel
theorem d_Model_takeField_179 : decode prog_14_method_21_code 179 = .ok (.bipush (80), 2) := by decide +kernel
theorem d_Model_takeField_181 : decode prog_14_method_21_code 181 = .ok (.aload_n 0, 1) := by decide +kernel
theorem d_Model_takeField_182 : decode prog_14_method_21_code 182 = .ok (.getfield 228, 3) := by decide +kernel
theorem d_Model_takeField_185 : decode prog_14_method_21_code 185 = .ok (.imul, 1) := by decide +kernel
theorem d_Model_takeField_186 : decode prog_14_method_21_code 186 = .ok (.iload_n 2, 1) := by decide +kernel
theorem d_Model_takeField_187 : decode prog_14_method_21_code 187 = .ok (.iadd, 1) := by decide +kernel
theorem d_Model_takeField_188 : decode prog_14_method_21_code 188 = .ok (.aload_n 0, 1) := by decide +kernel
theorem d_Model_takeField_189 : decode prog_14_method_21_code 189 = .ok (.getfield 105, 3) := by decide +kernel
theorem d_Model_takeField_192 : decode prog_14_method_21_code 192 = .ok (.iload_n 2, 1) := by decide +kernel
theorem d_Model_takeField_193 : decode prog_14_method_21_code 193 = .ok (.iaload, 1) := by decide +kernel
theorem d_Model_takeField_194 : decode prog_14_method_21_code 194 = .ok (.iastore, 1) := by decide +kernel
theorem d_Model_takeField_195 : decode prog_14_method_21_code 195 = .ok (.iinc 2 (1), 3) := by decide +kernel
theorem d_Model_takeField_198 : decode prog_14_method_21_code 198 = .ok (.goto (-31), 3) := by decide +kernel
theorem d_Model_takeField_201 : decode prog_14_method_21_code 201 = .ok (.aload_n 0, 1) := by decide +kernel
theorem d_Model_takeField_202 : decode prog_14_method_21_code 202 = .ok (.dup, 1) := by decide +kernel
theorem d_Model_takeField_203 : decode prog_14_method_21_code 203 = .ok (.getfield 228, 3) := by decide +kernel
theorem d_Model_takeField_206 : decode prog_14_method_21_code 206 = .ok (.iconst 1, 1) := by decide +kernel
theorem d_Model_takeField_207 : decode prog_14_method_21_code 207 = .ok (.iadd, 1) := by decide +kernel
theorem d_Model_takeField_208 : decode prog_14_method_21_code 208 = .ok (.putfield 228, 3) := by decide +kernel
theorem d_Model_takeField_211 : decode prog_14_method_21_code 211 = .ok (.return_, 1) := by decide +kernel
def x_Model_takeField_167 : Nat → Int32 → St → Option St
  | 0, _, _ => none
  | n + 1, l2, σ => (if (σ.1 51 10) ≤ l2 then (x_let (x_updR σ 51 17 ((σ.1 51 17) + (1 : Int32))) (fun (s208 : St) => some s208)) else (if x_in l2 80 then (if x_in (((80 : Int32) * (σ.1 51 17)) + l2) 960 then (x_let (x_updM σ 59 (((80 : Int32) * (σ.1 51 17)) + l2).toNatClampNeg (σ.2.1 57 l2.toNatClampNeg)) (fun (s194 : St) => (x_let (l2 + (1 : Int32)) (fun (v195 : Int32) => x_Model_takeField_167 n v195 s194)))) else none) else none))
def x_Model_takeField_109 (l1 : Int32) (k0 : Int32) (σ : St) : Option St := (Option.bind (x_Model_blame k0 (431 : Int32) σ) (fun s112 => (if (s112.1 51 25) ≤ 0 then (if (s112.1 51 8) = (5 : Int32) then (x_let (x_updR s112 51 24 ((s112.1 51 24) + (1 : Int32))) (fun (s138 : St) => some s138)) else (if x_in (s112.1 51 17) 12 then (x_let (x_updM s112 60 (s112.1 51 17).toNatClampNeg l1) (fun (s151 : St) => (if x_in (s151.1 51 17) 12 then (x_let (x_updM s151 61 (s151.1 51 17).toNatClampNeg (s151.1 51 10)) (fun (s164 : St) => x_Model_takeField_167 x_fuel (0 : Int32) s164)) else none))) else none)) else some s112)))
def x_Model_takeField_40 : Nat → Int32 → Int32 → St → Option St
  | 0, _, _, _ => none
  | n + 1, l1, l2, σ => (if (σ.1 51 10) ≤ l2 then (if (σ.1 51 8) = (1 : Int32) then (if (12 : Int32) ≤ (σ.1 51 17) then x_Model_takeField_109 l1 (0 : Int32) σ else x_Model_takeField_109 l1 (1 : Int32) σ) else (if (4 : Int32) ≤ (σ.1 51 24) then x_Model_takeField_109 l1 (0 : Int32) σ else x_Model_takeField_109 l1 (1 : Int32) σ)) else (if x_in l2 80 then (Option.bind (x_Model_isShown (σ.2.1 57 l2.toNatClampNeg)) (fun r55 => (Option.bind (x_Model_blame r55 (400 : Int32) σ) (fun s61 => (x_let (l2 + (1 : Int32)) (fun (v64 : Int32) => x_Model_takeField_40 n l1 v64 s61)))))) else none))
def x_Model_takeField_30 (l1 : Int32) (k0 : Int32) (σ : St) : Option St := (Option.bind (x_Model_blame k0 (400 : Int32) σ) (fun s33 => (x_let (l1 + (1 : Int32)) (fun (v39 : Int32) => x_Model_takeField_40 x_fuel l1 v39 s33))))
def x_Model_takeField_29 (l1 : Int32) (σ : St) : Option St := x_Model_takeField_30 l1 (0 : Int32) σ
def x_Model_takeField (σ : St) : Option St := (Option.bind (x_Model_find (58 : Int32) (0 : Int32) σ) (fun r4 => (if (σ.1 51 10) ≤ r4 then x_Model_takeField_29 r4 σ else (Option.bind (x_Model_isToken r4 σ) (fun r19 => (if r19 = 0 then x_Model_takeField_29 r4 σ else x_Model_takeField_30 r4 (1 : Int32) σ))))))
abbrev rm_Model_takeField : Room := { frames := 4, cells := 0, slots := 0, locals := 86 }
set_option maxHeartbeats 4000000 in
set_option maxRecDepth 100000 in
theorem t_Model_takeField (l : Launch) (G : xG) (σ : St) (σ' : St) (hE : x_Model_takeField σ = some σ') : Met l y_Model_takeField (ws_Model_takeField) rm_Model_takeField (xP G σ [.ref (G.2.1 51)]) (xQ G none σ') 0 0 (xA G) := by
  refine Met.ofW (cc := prog_14_method_21_code) (maxL := 3) (ret := none) (by decide) rfl ?_
  intro p e s m args below meth c s₁ B hml hv
  obtain ⟨rfl, hw, hC⟩ := hv
  have hx := B.exec
  have hb := B.bytes
  have hr := B.returns
  have hu : ∀ w ∈ UW, w.before _ s = true := fun w h => atoms_spec B.pre w (List.mem_cons_of_mem _ h)
  have hown : s.vm.findClass R_Model = some m.cls := findClass_of_methodNamed B.named
  have hlocks := B.notSynchronized
  have hK := hC.1
  have hI := hC.2.1
  have hG := hC.2.2.1
  have hS : va_S (xA G) s.heap s.heap [] := va_S.rf
  have jn167 : ∀ (n : Nat) (ls : Array Slot) (H : Heap) (locs : List Loc) (σ : St) (l2 : Int32), x_Model_takeField_167 n l2 σ = some σ' → lv_has ls 3 [(0, .ref (G.2.1 51)), (2, .int l2)] → xw G σ H → va_S (xA G) s.heap H locs → W p l e (headSpec (ws_Model_takeField) rm_Model_takeField).room s m ([.ref (G.2.1 51)] : List Value).toArray below meth c H locs 0 0 (MQ below (xQ G none σ') ([.ref (G.2.1 51)] : List Value).toArray s 0 0 (xA G)) (F0 m 167 ls []) := by
    intro n
    induction n with
    | zero => intro ls H locs σ l2 hE; rw [x_Model_takeField_167] at hE; cases hE
    | succ n ih =>
      intro ls H locs σ l2 hE hl hw hS
      rw [x_Model_takeField_167] at hE
      refine lv_iload_n hx hb d_Model_takeField_167 rfl (lv_at hl 1 rfl) ?_
      refine lv_aload_n hx hb d_Model_takeField_168 rfl (lv_at hl 0 rfl) ?_
      refine va_get (D := G.1) (cl := xCl) (ci := 10) (v := .int (σ.1 51 10)) (C := R_Model) (T := T_Model) (N := 33) hx hb hu fi_Model hown hK hw 51 (x_at (by decide) (xcl_51 G σ)) rfl 10 (by decide) (hu _ mw_1078) (fun _ h9 => h9) rfl d_Model_takeField_169 ?_
      refine lv_icmp_ge (tgt := 201) hx hb d_Model_takeField_172 (by decide) (fun hc172 => ?_) (fun hc172 => ?_)
      · rw [if_pos hc172] at hE
        refine lv_aload_n hx hb d_Model_takeField_201 rfl (lv_at hl 0 rfl) ?_
        refine lv_dup hx hb d_Model_takeField_202 rfl ?_
        refine va_get (D := G.1) (cl := xCl) (ci := 10) (v := .int (σ.1 51 17)) (C := R_Model) (T := T_Model) (N := 33) hx hb hu fi_Model hown hK hw 51 (x_at (by decide) (xcl_51 G σ)) rfl 17 (by decide) (hu _ mw_1085) (fun _ h9 => h9) rfl d_Model_takeField_203 ?_
        refine lv_iconst (v := (1 : Int32)) hx hb d_Model_takeField_206 (by decide) ?_
        refine lv_iadd hx hb d_Model_takeField_207 ?_
        refine va_put (D := G.1) (cl := xCl) (ci := 10) (v := .int ((σ.1 51 17) + (1 : Int32))) (ty := .int) (C := R_Model) (T := T_Model) (N := 33) hx hb hu fi_Model ty_Model tyok_Model nm_Model hown hK hw (x_D hI _) hS 51 (x_at (by decide) (xcl_51 G σ)) rfl 17 (by decide) (hu _ mw_1085) (fun _ h9 => h9) rfl (tyok_Model 17 (by decide)) rfl rfl (Nat.le_of_ble_eq_true rfl) d_Model_takeField_208 (fun H locs hw _ hS => ?_)
        replace hw := x_setR hw (by decide) rfl
        obtain ⟨s208, e208, hE⟩ := x_letE hE
        rw [← e208] at hw
        have e1 := Option.some.inj hE
        exact W.vret hx hb hr (fun t ht hW => ⟨rfl, by rw [ht, ← e1]; exact hw, hS.F ht⟩) hS.2.2 d_Model_takeField_211
      · rw [if_neg hc172] at hE
        refine lv_aload_n hx hb d_Model_takeField_175 rfl (lv_at hl 0 rfl) ?_
        refine va_get (D := G.1) (cl := xCl) (ci := 10) (v := .ref (G.2.1 59)) (C := R_Model) (T := T_Model) (N := 33) hx hb hu fi_Model hown hK hw 51 (x_at (by decide) (xcl_51 G σ)) rfl 18 (by decide) (hu _ mw_1086) (fun _ h9 => h9) rfl d_Model_takeField_176 ?_
        refine lv_bipush (v := (80 : Int32)) hx hb d_Model_takeField_179 (by decide) ?_
        refine lv_aload_n hx hb d_Model_takeField_181 rfl (lv_at hl 0 rfl) ?_
        refine va_get (D := G.1) (cl := xCl) (ci := 10) (v := .int (σ.1 51 17)) (C := R_Model) (T := T_Model) (N := 33) hx hb hu fi_Model hown hK hw 51 (x_at (by decide) (xcl_51 G σ)) rfl 17 (by decide) (hu _ mw_1085) (fun _ h9 => h9) rfl d_Model_takeField_182 ?_
        refine lv_imul hx hb d_Model_takeField_185 ?_
        refine lv_iload_n hx hb d_Model_takeField_186 rfl (lv_at hl 1 rfl) ?_
        refine lv_iadd hx hb d_Model_takeField_187 ?_
        refine lv_aload_n hx hb d_Model_takeField_188 rfl (lv_at hl 0 rfl) ?_
        refine va_get (D := G.1) (cl := xCl) (ci := 10) (v := .ref (G.2.1 57)) (C := R_Model) (T := T_Model) (N := 33) hx hb hu fi_Model hown hK hw 51 (x_at (by decide) (xcl_51 G σ)) rfl 11 (by decide) (hu _ mw_1079) (fun _ h9 => h9) rfl d_Model_takeField_189 ?_
        refine lv_iload_n hx hb d_Model_takeField_192 rfl (lv_at hl 1 rfl) ?_
        obtain ⟨g193, hE⟩ := x_guard hE
        refine va_iald hx hb hK hw 57 0 (x_at (by decide) (xcl_57 G σ)) rfl g193 d_Model_takeField_193 ?_
        obtain ⟨g194, hE⟩ := x_guard hE
        refine va_iast hx hb hK hw (x_D hI _) hS 59 0 (x_at (by decide) (xcl_59 G σ)) rfl g194 d_Model_takeField_194 (fun H locs hw _ hS => ?_)
        replace hw := x_setM hw (by decide) (by decide)
        obtain ⟨s194, e194, hE⟩ := x_letE hE
        rw [← e194] at hw
        obtain ⟨v195, e195, hE⟩ := x_letE hE
        refine lv_iinc hx hb d_Model_takeField_195 hl (k := 1) rfl (x_inc v195 e195 (by decide)) (by decide) rfl (fun ls hl => ?_)
        have hl : lv_has ls 3 [(2, .int v195), (0, .ref (G.2.1 51))] := hl
        refine lv_goto (tgt := 167) hx hb d_Model_takeField_198 (by decide) ?_
        exact ih _ _ _ _ _ hE (lv_sub hl [1, 0] rfl) hw hS
  have jn109 : ∀ (ls : Array Slot) (H : Heap) (locs : List Loc) (σ : St) (l1 : Int32) (k0 : Int32), x_Model_takeField_109 l1 k0 σ = some σ' → lv_has ls 3 [(0, .ref (G.2.1 51)), (1, .int l1)] → xw G σ H → va_S (xA G) s.heap H locs → W p l e (headSpec (ws_Model_takeField) rm_Model_takeField).room s m ([.ref (G.2.1 51)] : List Value).toArray below meth c H locs 0 0 (MQ below (xQ G none σ') ([.ref (G.2.1 51)] : List Value).toArray s 0 0 (xA G)) (F0 m 109 ls [.int k0, .ref (G.2.1 51)]) := by
    intro ls H locs σ l1 k0 hE hl hw hS
    unfold x_Model_takeField_109 at hE
    refine lv_sipush (v := (431 : Int32)) hx hb d_Model_takeField_109 (by decide) ?_
    obtain ⟨s112, hC112, hE⟩ := x_bind hE
    refine x_callV hS (W.runV (As := [.int k0, .int (431 : Int32)]) (rest := []) ⟨hx, hb, hml, hown, hu⟩ (t_Model_blame l G σ k0 (431 : Int32) s112 hC112) (cwV 2 hu (uw_V mw_1279 mw_1281 mw_45 mw_70 mw_1282) rfl rfl rfl hd_Model_blame ⟨Nat.le_of_ble_eq_true rfl, Nat.le_of_ble_eq_true rfl⟩) (x_preV hC hS hw (va_recv hK hw (q := (R_Model, T_Model, 33)) (ci := 10) rfl (x_at (by decide) (xcl_51 G σ)))) rfl rfl hl.1 rfl (lv_room (Nat.le_of_ble_eq_true rfl)) d_Model_takeField_112 ⟨Nat.le_of_ble_eq_true rfl, Nat.le_of_ble_eq_true rfl⟩) (fun H locs hw hS => ?_)
    refine lv_aload_n hx hb d_Model_takeField_115 rfl (lv_at hl 0 rfl) ?_
    refine va_get (D := G.1) (cl := xCl) (ci := 10) (v := .int (s112.1 51 25)) (C := R_Model) (T := T_Model) (N := 33) hx hb hu fi_Model hown hK hw 51 (x_at (by decide) (xcl_51 G s112)) rfl 25 (by decide) (hu _ mw_1093) (fun _ h9 => h9) rfl d_Model_takeField_116 ?_
    refine lv_if_le (tgt := 123) hx hb d_Model_takeField_119 (by decide) (fun hc119 => ?_) (fun hc119 => ?_)
    · rw [if_pos hc119] at hE
      refine lv_aload_n hx hb d_Model_takeField_123 rfl (lv_at hl 0 rfl) ?_
      refine va_get (D := G.1) (cl := xCl) (ci := 10) (v := .int (s112.1 51 8)) (C := R_Model) (T := T_Model) (N := 33) hx hb hu fi_Model hown hK hw 51 (x_at (by decide) (xcl_51 G s112)) rfl 8 (by decide) (hu _ mw_1076) (fun _ h9 => h9) rfl d_Model_takeField_124 ?_
      refine lv_iconst (v := (5 : Int32)) hx hb d_Model_takeField_127 (by decide) ?_
      refine lv_icmp_ne (tgt := 142) hx hb d_Model_takeField_128 (by decide) (fun hc128 => ?_) (fun hc128 => ?_)
      · rw [if_neg hc128] at hE
        refine lv_aload_n hx hb d_Model_takeField_142 rfl (lv_at hl 0 rfl) ?_
        refine va_get (D := G.1) (cl := xCl) (ci := 10) (v := .ref (G.2.1 60)) (C := R_Model) (T := T_Model) (N := 33) hx hb hu fi_Model hown hK hw 51 (x_at (by decide) (xcl_51 G s112)) rfl 19 (by decide) (hu _ mw_1087) (fun _ h9 => h9) rfl d_Model_takeField_143 ?_
        refine lv_aload_n hx hb d_Model_takeField_146 rfl (lv_at hl 0 rfl) ?_
        refine va_get (D := G.1) (cl := xCl) (ci := 10) (v := .int (s112.1 51 17)) (C := R_Model) (T := T_Model) (N := 33) hx hb hu fi_Model hown hK hw 51 (x_at (by decide) (xcl_51 G s112)) rfl 17 (by decide) (hu _ mw_1085) (fun _ h9 => h9) rfl d_Model_takeField_147 ?_
        refine lv_iload_n hx hb d_Model_takeField_150 rfl (lv_at hl 1 rfl) ?_
        obtain ⟨g151, hE⟩ := x_guard hE
        refine va_iast hx hb hK hw (x_D hI _) hS 60 0 (x_at (by decide) (xcl_60 G s112)) rfl g151 d_Model_takeField_151 (fun H locs hw _ hS => ?_)
        replace hw := x_setM hw (by decide) (by decide)
        obtain ⟨s151, e151, hE⟩ := x_letE hE
        rw [← e151] at hw
        refine lv_aload_n hx hb d_Model_takeField_152 rfl (lv_at hl 0 rfl) ?_
        refine va_get (D := G.1) (cl := xCl) (ci := 10) (v := .ref (G.2.1 61)) (C := R_Model) (T := T_Model) (N := 33) hx hb hu fi_Model hown hK hw 51 (x_at (by decide) (xcl_51 G s151)) rfl 20 (by decide) (hu _ mw_1088) (fun _ h9 => h9) rfl d_Model_takeField_153 ?_
        refine lv_aload_n hx hb d_Model_takeField_156 rfl (lv_at hl 0 rfl) ?_
        refine va_get (D := G.1) (cl := xCl) (ci := 10) (v := .int (s151.1 51 17)) (C := R_Model) (T := T_Model) (N := 33) hx hb hu fi_Model hown hK hw 51 (x_at (by decide) (xcl_51 G s151)) rfl 17 (by decide) (hu _ mw_1085) (fun _ h9 => h9) rfl d_Model_takeField_157 ?_
        refine lv_aload_n hx hb d_Model_takeField_160 rfl (lv_at hl 0 rfl) ?_
        refine va_get (D := G.1) (cl := xCl) (ci := 10) (v := .int (s151.1 51 10)) (C := R_Model) (T := T_Model) (N := 33) hx hb hu fi_Model hown hK hw 51 (x_at (by decide) (xcl_51 G s151)) rfl 10 (by decide) (hu _ mw_1078) (fun _ h9 => h9) rfl d_Model_takeField_161 ?_
        obtain ⟨g164, hE⟩ := x_guard hE
        refine va_iast hx hb hK hw (x_D hI _) hS 61 0 (x_at (by decide) (xcl_61 G s151)) rfl g164 d_Model_takeField_164 (fun H locs hw _ hS => ?_)
        replace hw := x_setM hw (by decide) (by decide)
        obtain ⟨s164, e164, hE⟩ := x_letE hE
        rw [← e164] at hw
        refine lv_iconst (v := (0 : Int32)) hx hb d_Model_takeField_165 (by decide) ?_
        refine lv_istore_n hx hb d_Model_takeField_166 rfl hl (by decide) rfl (fun ls hl => ?_)
        have hl : lv_has ls 3 [(2, .int (0 : Int32)), (0, .ref (G.2.1 51)), (1, .int l1)] := hl
        exact jn167 x_fuel _ _ _ _ _ hE (lv_sub hl [1, 0] rfl) hw hS
      · rw [if_pos hc128] at hE
        refine lv_aload_n hx hb d_Model_takeField_131 rfl (lv_at hl 0 rfl) ?_
        refine lv_dup hx hb d_Model_takeField_132 rfl ?_
        refine va_get (D := G.1) (cl := xCl) (ci := 10) (v := .int (s112.1 51 24)) (C := R_Model) (T := T_Model) (N := 33) hx hb hu fi_Model hown hK hw 51 (x_at (by decide) (xcl_51 G s112)) rfl 24 (by decide) (hu _ mw_1092) (fun _ h9 => h9) rfl d_Model_takeField_133 ?_
        refine lv_iconst (v := (1 : Int32)) hx hb d_Model_takeField_136 (by decide) ?_
        refine lv_iadd hx hb d_Model_takeField_137 ?_
        refine va_put (D := G.1) (cl := xCl) (ci := 10) (v := .int ((s112.1 51 24) + (1 : Int32))) (ty := .int) (C := R_Model) (T := T_Model) (N := 33) hx hb hu fi_Model ty_Model tyok_Model nm_Model hown hK hw (x_D hI _) hS 51 (x_at (by decide) (xcl_51 G s112)) rfl 24 (by decide) (hu _ mw_1092) (fun _ h9 => h9) rfl (tyok_Model 24 (by decide)) rfl rfl (Nat.le_of_ble_eq_true rfl) d_Model_takeField_138 (fun H locs hw _ hS => ?_)
        replace hw := x_setR hw (by decide) rfl
        obtain ⟨s138, e138, hE⟩ := x_letE hE
        rw [← e138] at hw
        have e1 := Option.some.inj hE
        exact W.vret hx hb hr (fun t ht hW => ⟨rfl, by rw [ht, ← e1]; exact hw, hS.F ht⟩) hS.2.2 d_Model_takeField_141
    · rw [if_neg hc119] at hE
      have e1 := Option.some.inj hE
      exact W.vret hx hb hr (fun t ht hW => ⟨rfl, by rw [ht, ← e1]; exact hw, hS.F ht⟩) hS.2.2 d_Model_takeField_122
  have jn40 : ∀ (n : Nat) (ls : Array Slot) (H : Heap) (locs : List Loc) (σ : St) (l1 : Int32) (l2 : Int32), x_Model_takeField_40 n l1 l2 σ = some σ' → lv_has ls 3 [(0, .ref (G.2.1 51)), (1, .int l1), (2, .int l2)] → xw G σ H → va_S (xA G) s.heap H locs → W p l e (headSpec (ws_Model_takeField) rm_Model_takeField).room s m ([.ref (G.2.1 51)] : List Value).toArray below meth c H locs 0 0 (MQ below (xQ G none σ') ([.ref (G.2.1 51)] : List Value).toArray s 0 0 (xA G)) (F0 m 40 ls []) := by
    intro n
    induction n with
    | zero => intro ls H locs σ l1 l2 hE; rw [x_Model_takeField_40] at hE; cases hE
    | succ n ih =>
      intro ls H locs σ l1 l2 hE hl hw hS
      rw [x_Model_takeField_40] at hE
      refine lv_iload_n hx hb d_Model_takeField_40 rfl (lv_at hl 2 rfl) ?_
      refine lv_aload_n hx hb d_Model_takeField_41 rfl (lv_at hl 0 rfl) ?_
      refine va_get (D := G.1) (cl := xCl) (ci := 10) (v := .int (σ.1 51 10)) (C := R_Model) (T := T_Model) (N := 33) hx hb hu fi_Model hown hK hw 51 (x_at (by decide) (xcl_51 G σ)) rfl 10 (by decide) (hu _ mw_1078) (fun _ h9 => h9) rfl d_Model_takeField_42 ?_
      refine lv_icmp_ge (tgt := 70) hx hb d_Model_takeField_45 (by decide) (fun hc45 => ?_) (fun hc45 => ?_)
      · rw [if_pos hc45] at hE
        refine lv_aload_n hx hb d_Model_takeField_70 rfl (lv_at hl 0 rfl) ?_
        refine lv_aload_n hx hb d_Model_takeField_71 rfl (lv_at hl 0 rfl) ?_
        refine va_get (D := G.1) (cl := xCl) (ci := 10) (v := .int (σ.1 51 8)) (C := R_Model) (T := T_Model) (N := 33) hx hb hu fi_Model hown hK hw 51 (x_at (by decide) (xcl_51 G σ)) rfl 8 (by decide) (hu _ mw_1076) (fun _ h9 => h9) rfl d_Model_takeField_72 ?_
        refine lv_iconst (v := (1 : Int32)) hx hb d_Model_takeField_75 (by decide) ?_
        refine lv_icmp_ne (tgt := 96) hx hb d_Model_takeField_76 (by decide) (fun hc76 => ?_) (fun hc76 => ?_)
        · rw [if_neg hc76] at hE
          refine lv_aload_n hx hb d_Model_takeField_96 rfl (lv_at hl 0 rfl) ?_
          refine va_get (D := G.1) (cl := xCl) (ci := 10) (v := .int (σ.1 51 24)) (C := R_Model) (T := T_Model) (N := 33) hx hb hu fi_Model hown hK hw 51 (x_at (by decide) (xcl_51 G σ)) rfl 24 (by decide) (hu _ mw_1092) (fun _ h9 => h9) rfl d_Model_takeField_97 ?_
          refine lv_iconst (v := (4 : Int32)) hx hb d_Model_takeField_100 (by decide) ?_
          refine lv_icmp_ge (tgt := 108) hx hb d_Model_takeField_101 (by decide) (fun hc101 => ?_) (fun hc101 => ?_)
          · rw [if_pos hc101] at hE
            refine lv_iconst (v := (0 : Int32)) hx hb d_Model_takeField_108 (by decide) ?_
            exact jn109 _ _ _ _ _ _ hE (lv_sub hl [0, 1] rfl) hw hS
          · rw [if_neg hc101] at hE
            refine lv_iconst (v := (1 : Int32)) hx hb d_Model_takeField_104 (by decide) ?_
            refine lv_goto (tgt := 109) hx hb d_Model_takeField_105 (by decide) ?_
            exact jn109 _ _ _ _ _ _ hE (lv_sub hl [0, 1] rfl) hw hS
        · rw [if_pos hc76] at hE
          refine lv_aload_n hx hb d_Model_takeField_79 rfl (lv_at hl 0 rfl) ?_
          refine va_get (D := G.1) (cl := xCl) (ci := 10) (v := .int (σ.1 51 17)) (C := R_Model) (T := T_Model) (N := 33) hx hb hu fi_Model hown hK hw 51 (x_at (by decide) (xcl_51 G σ)) rfl 17 (by decide) (hu _ mw_1085) (fun _ h9 => h9) rfl d_Model_takeField_80 ?_
          refine lv_bipush (v := (12 : Int32)) hx hb d_Model_takeField_83 (by decide) ?_
          refine lv_icmp_ge (tgt := 92) hx hb d_Model_takeField_85 (by decide) (fun hc85 => ?_) (fun hc85 => ?_)
          · rw [if_pos hc85] at hE
            refine lv_iconst (v := (0 : Int32)) hx hb d_Model_takeField_92 (by decide) ?_
            refine lv_goto (tgt := 109) hx hb d_Model_takeField_93 (by decide) ?_
            exact jn109 _ _ _ _ _ _ hE (lv_sub hl [0, 1] rfl) hw hS
          · rw [if_neg hc85] at hE
            refine lv_iconst (v := (1 : Int32)) hx hb d_Model_takeField_88 (by decide) ?_
            refine lv_goto (tgt := 109) hx hb d_Model_takeField_89 (by decide) ?_
            exact jn109 _ _ _ _ _ _ hE (lv_sub hl [0, 1] rfl) hw hS
      · rw [if_neg hc45] at hE
        refine lv_aload_n hx hb d_Model_takeField_48 rfl (lv_at hl 0 rfl) ?_
        refine lv_aload_n hx hb d_Model_takeField_49 rfl (lv_at hl 0 rfl) ?_
        refine va_get (D := G.1) (cl := xCl) (ci := 10) (v := .ref (G.2.1 57)) (C := R_Model) (T := T_Model) (N := 33) hx hb hu fi_Model hown hK hw 51 (x_at (by decide) (xcl_51 G σ)) rfl 11 (by decide) (hu _ mw_1079) (fun _ h9 => h9) rfl d_Model_takeField_50 ?_
        refine lv_iload_n hx hb d_Model_takeField_53 rfl (lv_at hl 2 rfl) ?_
        obtain ⟨g54, hE⟩ := x_guard hE
        refine va_iald hx hb hK hw 57 0 (x_at (by decide) (xcl_57 G σ)) rfl g54 d_Model_takeField_54 ?_
        obtain ⟨r55, hC55, hE⟩ := x_bind hE
        refine x_callR (W.runS (As := [.int (σ.2.1 57 l2.toNatClampNeg)]) (rest := [.ref (G.2.1 51)]) ⟨hx, hb, hml, hown, hu⟩ (t_Model_isShown l G σ (σ.2.1 57 l2.toNatClampNeg) r55 hC55) (va_cwS 1 hu (uw_S mw_1320 mw_1321 mw_70 mw_1322) rfl rfl rfl hd_Model_isShown ⟨Nat.le_of_ble_eq_true rfl, Nat.le_of_ble_eq_true rfl⟩) (x_preS hC hS hw) rfl rfl hl.1 rfl (lv_room (Nat.le_of_ble_eq_true rfl)) d_Model_takeField_55 ⟨Nat.le_of_ble_eq_true rfl, Nat.le_of_ble_eq_true rfl⟩) ?_
        refine lv_sipush (v := (400 : Int32)) hx hb d_Model_takeField_58 (by decide) ?_
        obtain ⟨s61, hC61, hE⟩ := x_bind hE
        refine x_callV hS (W.runV (As := [.int r55, .int (400 : Int32)]) (rest := []) ⟨hx, hb, hml, hown, hu⟩ (t_Model_blame l G σ r55 (400 : Int32) s61 hC61) (cwV 2 hu (uw_V mw_1279 mw_1281 mw_45 mw_70 mw_1282) rfl rfl rfl hd_Model_blame ⟨Nat.le_of_ble_eq_true rfl, Nat.le_of_ble_eq_true rfl⟩) (x_preV hC hS hw (va_recv hK hw (q := (R_Model, T_Model, 33)) (ci := 10) rfl (x_at (by decide) (xcl_51 G σ)))) rfl rfl hl.1 rfl (lv_room (Nat.le_of_ble_eq_true rfl)) d_Model_takeField_61 ⟨Nat.le_of_ble_eq_true rfl, Nat.le_of_ble_eq_true rfl⟩) (fun H locs hw hS => ?_)
        obtain ⟨v64, e64, hE⟩ := x_letE hE
        refine lv_iinc hx hb d_Model_takeField_64 hl (k := 2) rfl (x_inc v64 e64 (by decide)) (by decide) rfl (fun ls hl => ?_)
        have hl : lv_has ls 3 [(2, .int v64), (0, .ref (G.2.1 51)), (1, .int l1)] := hl
        refine lv_goto (tgt := 40) hx hb d_Model_takeField_67 (by decide) ?_
        exact ih _ _ _ _ _ _ hE (lv_sub hl [1, 2, 0] rfl) hw hS
  have jn30 : ∀ (ls : Array Slot) (H : Heap) (locs : List Loc) (σ : St) (l1 : Int32) (k0 : Int32), x_Model_takeField_30 l1 k0 σ = some σ' → lv_has ls 3 [(0, .ref (G.2.1 51)), (1, .int l1)] → xw G σ H → va_S (xA G) s.heap H locs → W p l e (headSpec (ws_Model_takeField) rm_Model_takeField).room s m ([.ref (G.2.1 51)] : List Value).toArray below meth c H locs 0 0 (MQ below (xQ G none σ') ([.ref (G.2.1 51)] : List Value).toArray s 0 0 (xA G)) (F0 m 30 ls [.int k0, .ref (G.2.1 51)]) := by
    intro ls H locs σ l1 k0 hE hl hw hS
    unfold x_Model_takeField_30 at hE
    refine lv_sipush (v := (400 : Int32)) hx hb d_Model_takeField_30 (by decide) ?_
    obtain ⟨s33, hC33, hE⟩ := x_bind hE
    refine x_callV hS (W.runV (As := [.int k0, .int (400 : Int32)]) (rest := []) ⟨hx, hb, hml, hown, hu⟩ (t_Model_blame l G σ k0 (400 : Int32) s33 hC33) (cwV 2 hu (uw_V mw_1279 mw_1281 mw_45 mw_70 mw_1282) rfl rfl rfl hd_Model_blame ⟨Nat.le_of_ble_eq_true rfl, Nat.le_of_ble_eq_true rfl⟩) (x_preV hC hS hw (va_recv hK hw (q := (R_Model, T_Model, 33)) (ci := 10) rfl (x_at (by decide) (xcl_51 G σ)))) rfl rfl hl.1 rfl (lv_room (Nat.le_of_ble_eq_true rfl)) d_Model_takeField_33 ⟨Nat.le_of_ble_eq_true rfl, Nat.le_of_ble_eq_true rfl⟩) (fun H locs hw hS => ?_)
    refine lv_iload_n hx hb d_Model_takeField_36 rfl (lv_at hl 1 rfl) ?_
    refine lv_iconst (v := (1 : Int32)) hx hb d_Model_takeField_37 (by decide) ?_
    refine lv_iadd hx hb d_Model_takeField_38 ?_
    refine lv_topi (fun v39 e39 => ?_)
    replace hE := x_letT e39 hE
    refine lv_istore_n hx hb d_Model_takeField_39 rfl hl (by decide) rfl (fun ls hl => ?_)
    have hl : lv_has ls 3 [(2, .int v39), (0, .ref (G.2.1 51)), (1, .int l1)] := hl
    exact jn40 x_fuel _ _ _ _ _ _ hE (lv_sub hl [1, 2, 0] rfl) hw hS
  have jn29 : ∀ (ls : Array Slot) (H : Heap) (locs : List Loc) (σ : St) (l1 : Int32), x_Model_takeField_29 l1 σ = some σ' → lv_has ls 3 [(0, .ref (G.2.1 51)), (1, .int l1)] → xw G σ H → va_S (xA G) s.heap H locs → W p l e (headSpec (ws_Model_takeField) rm_Model_takeField).room s m ([.ref (G.2.1 51)] : List Value).toArray below meth c H locs 0 0 (MQ below (xQ G none σ') ([.ref (G.2.1 51)] : List Value).toArray s 0 0 (xA G)) (F0 m 29 ls [.ref (G.2.1 51)]) := by
    intro ls H locs σ l1 hE hl hw hS
    unfold x_Model_takeField_29 at hE
    refine lv_iconst (v := (0 : Int32)) hx hb d_Model_takeField_29 (by decide) ?_
    exact jn30 _ _ _ _ _ _ hE (lv_sub hl [0, 1] rfl) hw hS
  have hl := lv_entry ([.ref (G.2.1 51)]) (n := 3) (Nat.le_of_ble_eq_true rfl)
  rw [lg_entry_eq]
  generalize (lg_sl ([.ref (G.2.1 51)]) ++ List.replicate (3 - (lg_sl ([.ref (G.2.1 51)])).length) Slot.unset).toArray = ls at hl ⊢
  have hl : lv_has ls 3 [(0, .ref (G.2.1 51))] := hl
  unfold x_Model_takeField at hE
  refine lv_aload_n hx hb d_Model_takeField_0 rfl (lv_at hl 0 rfl) ?_
  refine lv_bipush (v := (58 : Int32)) hx hb d_Model_takeField_1 (by decide) ?_
  refine lv_iconst (v := (0 : Int32)) hx hb d_Model_takeField_3 (by decide) ?_
  obtain ⟨r4, hC4, hE⟩ := x_bind hE
  refine x_callR (W.runV (As := [.int (58 : Int32), .int (0 : Int32)]) (rest := []) ⟨hx, hb, hml, hown, hu⟩ (t_Model_find l G σ (58 : Int32) (0 : Int32) r4 hC4) (cwV 2 hu (uw_V mw_1291 mw_1293 mw_48 mw_70 mw_1294) rfl rfl rfl hd_Model_find ⟨Nat.le_of_ble_eq_true rfl, Nat.le_of_ble_eq_true rfl⟩) (x_preV hC hS hw (va_recv hK hw (q := (R_Model, T_Model, 33)) (ci := 10) rfl (x_at (by decide) (xcl_51 G σ)))) rfl rfl hl.1 rfl (lv_room (Nat.le_of_ble_eq_true rfl)) d_Model_takeField_4 ⟨Nat.le_of_ble_eq_true rfl, Nat.le_of_ble_eq_true rfl⟩) ?_
  refine lv_istore_n hx hb d_Model_takeField_7 rfl hl (by decide) rfl (fun ls hl => ?_)
  have hl : lv_has ls 3 [(1, .int r4), (0, .ref (G.2.1 51))] := hl
  refine lv_aload_n hx hb d_Model_takeField_8 rfl (lv_at hl 1 rfl) ?_
  refine lv_iload_n hx hb d_Model_takeField_9 rfl (lv_at hl 0 rfl) ?_
  refine lv_aload_n hx hb d_Model_takeField_10 rfl (lv_at hl 1 rfl) ?_
  refine va_get (D := G.1) (cl := xCl) (ci := 10) (v := .int (σ.1 51 10)) (C := R_Model) (T := T_Model) (N := 33) hx hb hu fi_Model hown hK hw 51 (x_at (by decide) (xcl_51 G σ)) rfl 10 (by decide) (hu _ mw_1078) (fun _ h9 => h9) rfl d_Model_takeField_11 ?_
  refine lv_icmp_ge (tgt := 29) hx hb d_Model_takeField_14 (by decide) (fun hc14 => ?_) (fun hc14 => ?_)
  · rw [if_pos hc14] at hE
    exact jn29 _ _ _ _ _ hE (lv_sub hl [1, 0] rfl) hw hS
  · rw [if_neg hc14] at hE
    refine lv_aload_n hx hb d_Model_takeField_17 rfl (lv_at hl 1 rfl) ?_
    refine lv_iload_n hx hb d_Model_takeField_18 rfl (lv_at hl 0 rfl) ?_
    obtain ⟨r19, hC19, hE⟩ := x_bind hE
    refine x_callR (W.runV (As := [.int r4]) (rest := [.ref (G.2.1 51)]) ⟨hx, hb, hml, hown, hu⟩ (t_Model_isToken l G σ r4 r19 hC19) (cwV 1 hu (uw_V mw_1295 mw_1297 mw_49 mw_70 mw_1298) rfl rfl rfl hd_Model_isToken ⟨Nat.le_of_ble_eq_true rfl, Nat.le_of_ble_eq_true rfl⟩) (x_preV hC hS hw (va_recv hK hw (q := (R_Model, T_Model, 33)) (ci := 10) rfl (x_at (by decide) (xcl_51 G σ)))) rfl rfl hl.1 rfl (lv_room (Nat.le_of_ble_eq_true rfl)) d_Model_takeField_19 ⟨Nat.le_of_ble_eq_true rfl, Nat.le_of_ble_eq_true rfl⟩) ?_
    refine lv_if_eq (tgt := 29) hx hb d_Model_takeField_22 (by decide) (fun hc22 => ?_) (fun hc22 => ?_)
    · rw [if_pos hc22] at hE
      exact jn29 _ _ _ _ _ hE (lv_sub hl [1, 0] rfl) hw hS
    · rw [if_neg hc22] at hE
      refine lv_iconst (v := (1 : Int32)) hx hb d_Model_takeField_25 (by decide) ?_
      refine lv_goto (tgt := 30) hx hb d_Model_takeField_26 (by decide) ?_
      exact jn30 _ _ _ _ _ _ hE (lv_sub hl [1, 0] rfl) hw hS

def y_Model_say : MethodName := ⟨"PlainOriginModel", "say", "(I)V"⟩
def ws_Model_say : List Cond := Cond.code y_Model_say prog_14_method_35_code 2 none :: UW
theorem hd_Model_say : y_Model_say.cls = R_Model ∧ y_Model_say.cls ≠ "java/lang/invoke/MethodHandle" ∧ y_Model_say.cls ≠ "java/lang/invoke/VarHandle" ∧ (parseMethodDescriptor y_Model_say.desc).map (fun d => d.parameters.length) = some 1 := by decide +kernel
theorem d_Model_say_0 : decode prog_14_method_35_code 0 = .ok (.aload_n 0, 1) := by decide +kernel
theorem d_Model_say_1 : decode prog_14_method_35_code 1 = .ok (.getfield 297, 3) := by decide +kernel
theorem d_Model_say_4 : decode prog_14_method_35_code 4 = .ok (.sipush (2000), 3) := by decide +kernel
theorem d_Model_say_7 : decode prog_14_method_35_code 7 = .ok (.if_icmp .ge (13), 3) := by decide +kernel
theorem d_Model_say_10 : decode prog_14_method_35_code 10 = .ok (.aload_n 0, 1) := by decide +kernel
theorem d_Model_say_11 : decode prog_14_method_35_code 11 = .ok (.getfield 139, 3) := by decide +kernel
theorem d_Model_say_14 : decode prog_14_method_35_code 14 = .ok (.aload_n 0, 1) := by decide +kernel
theorem d_Model_say_15 : decode prog_14_method_35_code 15 = .ok (.getfield 297, 3) := by decide +kernel
theorem d_Model_say_18 : decode prog_14_method_35_code 18 = .ok (.iload_n 1, 1) := by decide +kernel
theorem d_Model_say_19 : decode prog_14_method_35_code 19 = .ok (.iastore, 1) := by decide +kernel
theorem d_Model_say_20 : decode prog_14_method_35_code 20 = .ok (.aload_n 0, 1) := by decide +kernel
theorem d_Model_say_21 : decode prog_14_method_35_code 21 = .ok (.dup, 1) := by decide +kernel
theorem d_Model_say_22 : decode prog_14_method_35_code 22 = .ok (.getfield 297, 3) := by decide +kernel
theorem d_Model_say_25 : decode prog_14_method_35_code 25 = .ok (.iconst 1, 1) := by decide +kernel
theorem d_Model_say_26 : decode prog_14_method_35_code 26 = .ok (.iadd, 1) := by decide +kernel
theorem d_Model_say_27 : decode prog_14_method_35_code 27 = .ok (.putfield 297, 3) := by decide +kernel
theorem d_Model_say_30 : decode prog_14_method_35_code 30 = .ok (.return_, 1) := by decide +kernel
def x_Model_say_20 (a1 : Int32) (σ : St) : Option St := (x_let (x_updR σ 51 31 ((σ.1 51 31) + (1 : Int32))) (fun (s27 : St) => some s27))
def x_Model_say (a1 : Int32) (σ : St) : Option St := (if (2000 : Int32) ≤ (σ.1 51 31) then x_Model_say_20 a1 σ else (if x_in (σ.1 51 31) 2000 then (x_let (x_updM σ 65 (σ.1 51 31).toNatClampNeg a1) (fun (s19 : St) => x_Model_say_20 a1 s19)) else none))
abbrev rm_Model_say : Room := { frames := 0, cells := 0, slots := 0, locals := 0 }
set_option maxHeartbeats 4000000 in
set_option maxRecDepth 100000 in
theorem t_Model_say (l : Launch) (G : xG) (σ : St) (a1 : Int32) (σ' : St) (hE : x_Model_say a1 σ = some σ') : Met l y_Model_say (ws_Model_say) rm_Model_say (xP G σ [.ref (G.2.1 51), .int a1]) (xQ G none σ') 0 0 (xA G) := by
  refine Met.ofW (cc := prog_14_method_35_code) (maxL := 2) (ret := none) (by decide) rfl ?_
  intro p e s m args below meth c s₁ B hml hv
  obtain ⟨rfl, hw, hC⟩ := hv
  have hx := B.exec
  have hb := B.bytes
  have hr := B.returns
  have hu : ∀ w ∈ UW, w.before _ s = true := fun w h => atoms_spec B.pre w (List.mem_cons_of_mem _ h)
  have hown : s.vm.findClass R_Model = some m.cls := findClass_of_methodNamed B.named
  have hlocks := B.notSynchronized
  have hK := hC.1
  have hI := hC.2.1
  have hG := hC.2.2.1
  have hS : va_S (xA G) s.heap s.heap [] := va_S.rf
  have jn20 : ∀ (ls : Array Slot) (H : Heap) (locs : List Loc) (σ : St), x_Model_say_20 a1 σ = some σ' → lv_has ls 2 [(0, .ref (G.2.1 51)), (1, .int a1)] → xw G σ H → va_S (xA G) s.heap H locs → W p l e (headSpec (ws_Model_say) rm_Model_say).room s m ([.ref (G.2.1 51), .int a1] : List Value).toArray below meth c H locs 0 0 (MQ below (xQ G none σ') ([.ref (G.2.1 51), .int a1] : List Value).toArray s 0 0 (xA G)) (F0 m 20 ls []) := by
    intro ls H locs σ hE hl hw hS
    unfold x_Model_say_20 at hE
    refine lv_aload_n hx hb d_Model_say_20 rfl (lv_at hl 0 rfl) ?_
    refine lv_dup hx hb d_Model_say_21 rfl ?_
    refine va_get (D := G.1) (cl := xCl) (ci := 10) (v := .int (σ.1 51 31)) (C := R_Model) (T := T_Model) (N := 33) hx hb hu fi_Model hown hK hw 51 (x_at (by decide) (xcl_51 G σ)) rfl 31 (by decide) (hu _ mw_1099) (fun _ h9 => h9) rfl d_Model_say_22 ?_
    refine lv_iconst (v := (1 : Int32)) hx hb d_Model_say_25 (by decide) ?_
    refine lv_iadd hx hb d_Model_say_26 ?_
    refine va_put (D := G.1) (cl := xCl) (ci := 10) (v := .int ((σ.1 51 31) + (1 : Int32))) (ty := .int) (C := R_Model) (T := T_Model) (N := 33) hx hb hu fi_Model ty_Model tyok_Model nm_Model hown hK hw (x_D hI _) hS 51 (x_at (by decide) (xcl_51 G σ)) rfl 31 (by decide) (hu _ mw_1099) (fun _ h9 => h9) rfl (tyok_Model 31 (by decide)) rfl rfl (Nat.le_of_ble_eq_true rfl) d_Model_say_27 (fun H locs hw _ hS => ?_)
    replace hw := x_setR hw (by decide) rfl
    obtain ⟨s27, e27, hE⟩ := x_letE hE
    rw [← e27] at hw
    have e1 := Option.some.inj hE
    exact W.vret hx hb hr (fun t ht hW => ⟨rfl, by rw [ht, ← e1]; exact hw, hS.F ht⟩) hS.2.2 d_Model_say_30
  have hl := lv_entry ([.ref (G.2.1 51), .int a1]) (n := 2) (Nat.le_of_ble_eq_true rfl)
  rw [lg_entry_eq]
  generalize (lg_sl ([.ref (G.2.1 51), .int a1]) ++ List.replicate (2 - (lg_sl ([.ref (G.2.1 51), .int a1])).length) Slot.unset).toArray = ls at hl ⊢
  have hl : lv_has ls 2 [(0, .ref (G.2.1 51)), (1, .int a1)] := hl
  unfold x_Model_say at hE
  refine lv_aload_n hx hb d_Model_say_0 rfl (lv_at hl 0 rfl) ?_
  refine va_get (D := G.1) (cl := xCl) (ci := 10) (v := .int (σ.1 51 31)) (C := R_Model) (T := T_Model) (N := 33) hx hb hu fi_Model hown hK hw 51 (x_at (by decide) (xcl_51 G σ)) rfl 31 (by decide) (hu _ mw_1099) (fun _ h9 => h9) rfl d_Model_say_1 ?_
  refine lv_sipush (v := (2000 : Int32)) hx hb d_Model_say_4 (by decide) ?_
  refine lv_icmp_ge (tgt := 20) hx hb d_Model_say_7 (by decide) (fun hc7 => ?_) (fun hc7 => ?_)
  · rw [if_pos hc7] at hE
    exact jn20 _ _ _ _ hE (lv_sub hl [0, 1] rfl) hw hS
  · rw [if_neg hc7] at hE
    refine lv_aload_n hx hb d_Model_say_10 rfl (lv_at hl 0 rfl) ?_
    refine va_get (D := G.1) (cl := xCl) (ci := 10) (v := .ref (G.2.1 65)) (C := R_Model) (T := T_Model) (N := 33) hx hb hu fi_Model hown hK hw 51 (x_at (by decide) (xcl_51 G σ)) rfl 32 (by decide) (hu _ mw_1100) (fun _ h9 => h9) rfl d_Model_say_11 ?_
    refine lv_aload_n hx hb d_Model_say_14 rfl (lv_at hl 0 rfl) ?_
    refine va_get (D := G.1) (cl := xCl) (ci := 10) (v := .int (σ.1 51 31)) (C := R_Model) (T := T_Model) (N := 33) hx hb hu fi_Model hown hK hw 51 (x_at (by decide) (xcl_51 G σ)) rfl 31 (by decide) (hu _ mw_1099) (fun _ h9 => h9) rfl d_Model_say_15 ?_
    refine lv_iload_n hx hb d_Model_say_18 rfl (lv_at hl 1 rfl) ?_
    obtain ⟨g19, hE⟩ := x_guard hE
    refine va_iast hx hb hK hw (x_D hI _) hS 65 0 (x_at (by decide) (xcl_65 G σ)) rfl g19 d_Model_say_19 (fun H locs hw _ hS => ?_)
    replace hw := x_setM hw (by decide) (by decide)
    obtain ⟨s19, e19, hE⟩ := x_letE hE
    rw [← e19] at hw
    exact jn20 _ _ _ _ hE (lv_sub hl [0, 1] rfl) hw hS

def y_Model_sayNumber : MethodName := ⟨"PlainOriginModel", "sayNumber", "(I)V"⟩
def ws_Model_sayNumber : List Cond := Cond.code y_Model_sayNumber prog_14_method_37_code 3 none :: UW
theorem hd_Model_sayNumber : y_Model_sayNumber.cls = R_Model ∧ y_Model_sayNumber.cls ≠ "java/lang/invoke/MethodHandle" ∧ y_Model_sayNumber.cls ≠ "java/lang/invoke/VarHandle" ∧ (parseMethodDescriptor y_Model_sayNumber.desc).map (fun d => d.parameters.length) = some 1 := by decide +kernel
theorem d_Model_sayNumber_0 : decode prog_14_method_37_code 0 = .ok (.iconst 1, 1) := by decide +kernel
theorem d_Model_sayNumber_1 : decode prog_14_method_37_code 1 = .ok (.istore_n 2, 1) := by decide +kernel
theorem d_Model_sayNumber_2 : decode prog_14_method_37_code 2 = .ok (.iload_n 1, 1) := by decide +kernel
theorem d_Model_sayNumber_3 : decode prog_14_method_37_code 3 = .ok (.iload_n 2, 1) := by decide +kernel
theorem d_Model_sayNumber_4 : decode prog_14_method_37_code 4 = .ok (.idiv, 1) := by decide +kernel
theorem d_Model_sayNumber_5 : decode prog_14_method_37_code 5 = .ok (.bipush (9), 2) := by decide +kernel
theorem d_Model_sayNumber_7 : decode prog_14_method_37_code 7 = .ok (.if_icmp .le (11), 3) := by decide +kernel
theorem d_Model_sayNumber_10 : decode prog_14_method_37_code 10 = .ok (.bipush (10), 2) := by decide +kernel
theorem d_Model_sayNumber_12 : decode prog_14_method_37_code 12 = .ok (.iload_n 2, 1) := by decide +kernel
theorem d_Model_sayNumber_13 : decode prog_14_method_37_code 13 = .ok (.imul, 1) := by decide +kernel
theorem d_Model_sayNumber_14 : decode prog_14_method_37_code 14 = .ok (.istore_n 2, 1) := by decide +kernel
theorem d_Model_sayNumber_15 : decode prog_14_method_37_code 15 = .ok (.goto (-13), 3) := by decide +kernel
theorem d_Model_sayNumber_18 : decode prog_14_method_37_code 18 = .ok (.iload_n 2, 1) := by decide +kernel
theorem d_Model_sayNumber_19 : decode prog_14_method_37_code 19 = .ok (.ifCond .le (24), 3) := by decide +kernel
theorem d_Model_sayNumber_22 : decode prog_14_method_37_code 22 = .ok (.aload_n 0, 1) := by decide +kernel
theorem d_Model_sayNumber_23 : decode prog_14_method_37_code 23 = .ok (.bipush (48), 2) := by decide +kernel
theorem d_Model_sayNumber_25 : decode prog_14_method_37_code 25 = .ok (.iload_n 1, 1) := by decide +kernel
theorem d_Model_sayNumber_26 : decode prog_14_method_37_code 26 = .ok (.iload_n 2, 1) := by decide +kernel
theorem d_Model_sayNumber_27 : decode prog_14_method_37_code 27 = .ok (.idiv, 1) := by decide +kernel
theorem d_Model_sayNumber_28 : decode prog_14_method_37_code 28 = .ok (.bipush (10), 2) := by decide +kernel
theorem d_Model_sayNumber_30 : decode prog_14_method_37_code 30 = .ok (.irem, 1) := by decide +kernel
theorem d_Model_sayNumber_31 : decode prog_14_method_37_code 31 = .ok (.iadd, 1) := by decide +kernel
theorem d_Model_sayNumber_32 : decode prog_14_method_37_code 32 = .ok (.invokevirtual 294, 3) := by decide +kernel
theorem d_Model_sayNumber_35 : decode prog_14_method_37_code 35 = .ok (.iload_n 2, 1) := by decide +kernel
theorem d_Model_sayNumber_36 : decode prog_14_method_37_code 36 = .ok (.bipush (10), 2) := by decide +kernel
theorem d_Model_sayNumber_38 : decode prog_14_method_37_code 38 = .ok (.idiv, 1) := by decide +kernel
theorem d_Model_sayNumber_39 : decode prog_14_method_37_code 39 = .ok (.istore_n 2, 1) := by decide +kernel
theorem d_Model_sayNumber_40 : decode prog_14_method_37_code 40 = .ok (.goto (-22), 3) := by decide +kernel
theorem d_Model_sayNumber_43 : decode prog_14_method_37_code 43 = .ok (.return_, 1) := by decide +kernel
def x_Model_sayNumber_18 (a1 : Int32) : Nat → Int32 → St → Option St
  | 0, _, _ => none
  | n + 1, l2, σ => (if l2 ≤ 0 then some σ else (if ¬ l2 = 0 then (Option.bind (x_Model_say ((48 : Int32) + ((a1 / l2) - (a1 / l2) / (10 : Int32) * (10 : Int32))) σ) (fun s32 => (x_let (l2 / (10 : Int32)) (fun (v39 : Int32) => x_Model_sayNumber_18 a1 n v39 s32)))) else none))
def x_Model_sayNumber_2 (a1 : Int32) : Nat → Int32 → St → Option St
  | 0, _, _ => none
  | n + 1, l2, σ => (if ¬ l2 = 0 then (if (a1 / l2) ≤ (9 : Int32) then x_Model_sayNumber_18 a1 x_fuel l2 σ else (x_let ((10 : Int32) * l2) (fun (v14 : Int32) => x_Model_sayNumber_2 a1 n v14 σ))) else none)
def x_Model_sayNumber (a1 : Int32) (σ : St) : Option St := x_Model_sayNumber_2 a1 x_fuel (1 : Int32) σ
abbrev rm_Model_sayNumber : Room := { frames := 1, cells := 0, slots := 0, locals := 21 }
set_option maxHeartbeats 4000000 in
set_option maxRecDepth 100000 in
theorem t_Model_sayNumber (l : Launch) (G : xG) (σ : St) (a1 : Int32) (σ' : St) (hE : x_Model_sayNumber a1 σ = some σ') : Met l y_Model_sayNumber (ws_Model_sayNumber) rm_Model_sayNumber (xP G σ [.ref (G.2.1 51), .int a1]) (xQ G none σ') 0 0 (xA G) := by
  refine Met.ofW (cc := prog_14_method_37_code) (maxL := 3) (ret := none) (by decide) rfl ?_
  intro p e s m args below meth c s₁ B hml hv
  obtain ⟨rfl, hw, hC⟩ := hv
  have hx := B.exec
  have hb := B.bytes
  have hr := B.returns
  have hu : ∀ w ∈ UW, w.before _ s = true := fun w h => atoms_spec B.pre w (List.mem_cons_of_mem _ h)
  have hown : s.vm.findClass R_Model = some m.cls := findClass_of_methodNamed B.named
  have hlocks := B.notSynchronized
  have hK := hC.1
  have hI := hC.2.1
  have hG := hC.2.2.1
  have hS : va_S (xA G) s.heap s.heap [] := va_S.rf
  have jn18 : ∀ (n : Nat) (ls : Array Slot) (H : Heap) (locs : List Loc) (σ : St) (l2 : Int32), x_Model_sayNumber_18 a1 n l2 σ = some σ' → lv_has ls 3 [(0, .ref (G.2.1 51)), (1, .int a1), (2, .int l2)] → xw G σ H → va_S (xA G) s.heap H locs → W p l e (headSpec (ws_Model_sayNumber) rm_Model_sayNumber).room s m ([.ref (G.2.1 51), .int a1] : List Value).toArray below meth c H locs 0 0 (MQ below (xQ G none σ') ([.ref (G.2.1 51), .int a1] : List Value).toArray s 0 0 (xA G)) (F0 m 18 ls []) := by
    intro n
    induction n with
    | zero => intro ls H locs σ l2 hE; rw [x_Model_sayNumber_18] at hE; cases hE
    | succ n ih =>
      intro ls H locs σ l2 hE hl hw hS
      rw [x_Model_sayNumber_18] at hE
      refine lv_iload_n hx hb d_Model_sayNumber_18 rfl (lv_at hl 2 rfl) ?_
      refine lv_if_le (tgt := 43) hx hb d_Model_sayNumber_19 (by decide) (fun hc19 => ?_) (fun hc19 => ?_)
      · rw [if_pos hc19] at hE
        have e1 := Option.some.inj hE
        exact W.vret hx hb hr (fun t ht hW => ⟨rfl, by rw [ht, ← e1]; exact hw, hS.F ht⟩) hS.2.2 d_Model_sayNumber_43
      · rw [if_neg hc19] at hE
        refine lv_aload_n hx hb d_Model_sayNumber_22 rfl (lv_at hl 0 rfl) ?_
        refine lv_bipush (v := (48 : Int32)) hx hb d_Model_sayNumber_23 (by decide) ?_
        refine lv_iload_n hx hb d_Model_sayNumber_25 rfl (lv_at hl 1 rfl) ?_
        refine lv_iload_n hx hb d_Model_sayNumber_26 rfl (lv_at hl 2 rfl) ?_
        obtain ⟨g27, hE⟩ := x_guard hE
        refine lv_idiv hx hb d_Model_sayNumber_27 g27 ?_
        refine lv_bipush (v := (10 : Int32)) hx hb d_Model_sayNumber_28 (by decide) ?_
        refine lv_irem hx hb d_Model_sayNumber_30 (by decide) ?_
        refine lv_iadd hx hb d_Model_sayNumber_31 ?_
        obtain ⟨s32, hC32, hE⟩ := x_bind hE
        refine x_callV hS (W.runV (As := [.int ((48 : Int32) + ((a1 / l2) - (a1 / l2) / (10 : Int32) * (10 : Int32)))]) (rest := []) ⟨hx, hb, hml, hown, hu⟩ (t_Model_say l G σ ((48 : Int32) + ((a1 / l2) - (a1 / l2) / (10 : Int32) * (10 : Int32))) s32 hC32) (cwV 1 hu (uw_V mw_1219 mw_1221 mw_30 mw_70 mw_1222) rfl rfl rfl hd_Model_say ⟨Nat.le_of_ble_eq_true rfl, Nat.le_of_ble_eq_true rfl⟩) (x_preV hC hS hw (va_recv hK hw (q := (R_Model, T_Model, 33)) (ci := 10) rfl (x_at (by decide) (xcl_51 G σ)))) rfl rfl hl.1 rfl (lv_room (Nat.le_of_ble_eq_true rfl)) d_Model_sayNumber_32 ⟨Nat.le_of_ble_eq_true rfl, Nat.le_of_ble_eq_true rfl⟩) (fun H locs hw hS => ?_)
        refine lv_iload_n hx hb d_Model_sayNumber_35 rfl (lv_at hl 2 rfl) ?_
        refine lv_bipush (v := (10 : Int32)) hx hb d_Model_sayNumber_36 (by decide) ?_
        refine lv_idiv hx hb d_Model_sayNumber_38 (by decide) ?_
        refine lv_topi (fun v39 e39 => ?_)
        replace hE := x_letT e39 hE
        refine lv_istore_n hx hb d_Model_sayNumber_39 rfl hl (by decide) rfl (fun ls hl => ?_)
        have hl : lv_has ls 3 [(2, .int v39), (0, .ref (G.2.1 51)), (1, .int a1)] := hl
        refine lv_goto (tgt := 18) hx hb d_Model_sayNumber_40 (by decide) ?_
        exact ih _ _ _ _ _ hE (lv_sub hl [1, 2, 0] rfl) hw hS
  have jn2 : ∀ (n : Nat) (ls : Array Slot) (H : Heap) (locs : List Loc) (σ : St) (l2 : Int32), x_Model_sayNumber_2 a1 n l2 σ = some σ' → lv_has ls 3 [(0, .ref (G.2.1 51)), (1, .int a1), (2, .int l2)] → xw G σ H → va_S (xA G) s.heap H locs → W p l e (headSpec (ws_Model_sayNumber) rm_Model_sayNumber).room s m ([.ref (G.2.1 51), .int a1] : List Value).toArray below meth c H locs 0 0 (MQ below (xQ G none σ') ([.ref (G.2.1 51), .int a1] : List Value).toArray s 0 0 (xA G)) (F0 m 2 ls []) := by
    intro n
    induction n with
    | zero => intro ls H locs σ l2 hE; rw [x_Model_sayNumber_2] at hE; cases hE
    | succ n ih =>
      intro ls H locs σ l2 hE hl hw hS
      rw [x_Model_sayNumber_2] at hE
      refine lv_iload_n hx hb d_Model_sayNumber_2 rfl (lv_at hl 1 rfl) ?_
      refine lv_iload_n hx hb d_Model_sayNumber_3 rfl (lv_at hl 2 rfl) ?_
      obtain ⟨g4, hE⟩ := x_guard hE
      refine lv_idiv hx hb d_Model_sayNumber_4 g4 ?_
      refine lv_bipush (v := (9 : Int32)) hx hb d_Model_sayNumber_5 (by decide) ?_
      refine lv_icmp_le (tgt := 18) hx hb d_Model_sayNumber_7 (by decide) (fun hc7 => ?_) (fun hc7 => ?_)
      · rw [if_pos hc7] at hE
        exact jn18 x_fuel _ _ _ _ _ hE (lv_sub hl [0, 1, 2] rfl) hw hS
      · rw [if_neg hc7] at hE
        refine lv_bipush (v := (10 : Int32)) hx hb d_Model_sayNumber_10 (by decide) ?_
        refine lv_iload_n hx hb d_Model_sayNumber_12 rfl (lv_at hl 2 rfl) ?_
        refine lv_imul hx hb d_Model_sayNumber_13 ?_
        refine lv_topi (fun v14 e14 => ?_)
        replace hE := x_letT e14 hE
        refine lv_istore_n hx hb d_Model_sayNumber_14 rfl hl (by decide) rfl (fun ls hl => ?_)
        have hl : lv_has ls 3 [(2, .int v14), (0, .ref (G.2.1 51)), (1, .int a1)] := hl
        refine lv_goto (tgt := 2) hx hb d_Model_sayNumber_15 (by decide) ?_
        exact ih _ _ _ _ _ hE (lv_sub hl [1, 2, 0] rfl) hw hS
  have hl := lv_entry ([.ref (G.2.1 51), .int a1]) (n := 3) (Nat.le_of_ble_eq_true rfl)
  rw [lg_entry_eq]
  generalize (lg_sl ([.ref (G.2.1 51), .int a1]) ++ List.replicate (3 - (lg_sl ([.ref (G.2.1 51), .int a1])).length) Slot.unset).toArray = ls at hl ⊢
  have hl : lv_has ls 3 [(0, .ref (G.2.1 51)), (1, .int a1)] := hl
  unfold x_Model_sayNumber at hE
  refine lv_iconst (v := (1 : Int32)) hx hb d_Model_sayNumber_0 (by decide) ?_
  refine lv_istore_n hx hb d_Model_sayNumber_1 rfl hl (by decide) rfl (fun ls hl => ?_)
  have hl : lv_has ls 3 [(2, .int (1 : Int32)), (0, .ref (G.2.1 51)), (1, .int a1)] := hl
  exact jn2 x_fuel _ _ _ _ _ hE (lv_sub hl [1, 2, 0] rfl) hw hS

def y_Model_endSaying : MethodName := ⟨"PlainOriginModel", "endSaying", "()V"⟩
def ws_Model_endSaying : List Cond := Cond.code y_Model_endSaying prog_14_method_38_code 1 none :: UW
theorem hd_Model_endSaying : y_Model_endSaying.cls = R_Model ∧ y_Model_endSaying.cls ≠ "java/lang/invoke/MethodHandle" ∧ y_Model_endSaying.cls ≠ "java/lang/invoke/VarHandle" ∧ (parseMethodDescriptor y_Model_endSaying.desc).map (fun d => d.parameters.length) = some 0 := by decide +kernel
theorem d_Model_endSaying_0 : decode prog_14_method_38_code 0 = .ok (.aload_n 0, 1) := by decide +kernel
theorem d_Model_endSaying_1 : decode prog_14_method_38_code 1 = .ok (.bipush (13), 2) := by decide +kernel
theorem d_Model_endSaying_3 : decode prog_14_method_38_code 3 = .ok (.invokevirtual 294, 3) := by decide +kernel
theorem d_Model_endSaying_6 : decode prog_14_method_38_code 6 = .ok (.aload_n 0, 1) := by decide +kernel
theorem d_Model_endSaying_7 : decode prog_14_method_38_code 7 = .ok (.bipush (10), 2) := by decide +kernel
theorem d_Model_endSaying_9 : decode prog_14_method_38_code 9 = .ok (.invokevirtual 294, 3) := by decide +kernel
theorem d_Model_endSaying_12 : decode prog_14_method_38_code 12 = .ok (.return_, 1) := by decide +kernel
def x_Model_endSaying (σ : St) : Option St := (Option.bind (x_Model_say (13 : Int32) σ) (fun s3 => (Option.bind (x_Model_say (10 : Int32) s3) (fun s9 => some s9))))
abbrev rm_Model_endSaying : Room := { frames := 1, cells := 0, slots := 0, locals := 21 }
set_option maxHeartbeats 4000000 in
set_option maxRecDepth 100000 in
theorem t_Model_endSaying (l : Launch) (G : xG) (σ : St) (σ' : St) (hE : x_Model_endSaying σ = some σ') : Met l y_Model_endSaying (ws_Model_endSaying) rm_Model_endSaying (xP G σ [.ref (G.2.1 51)]) (xQ G none σ') 0 0 (xA G) := by
  refine Met.ofW (cc := prog_14_method_38_code) (maxL := 1) (ret := none) (by decide) rfl ?_
  intro p e s m args below meth c s₁ B hml hv
  obtain ⟨rfl, hw, hC⟩ := hv
  have hx := B.exec
  have hb := B.bytes
  have hr := B.returns
  have hu : ∀ w ∈ UW, w.before _ s = true := fun w h => atoms_spec B.pre w (List.mem_cons_of_mem _ h)
  have hown : s.vm.findClass R_Model = some m.cls := findClass_of_methodNamed B.named
  have hlocks := B.notSynchronized
  have hK := hC.1
  have hI := hC.2.1
  have hG := hC.2.2.1
  have hS : va_S (xA G) s.heap s.heap [] := va_S.rf
  have hl := lv_entry ([.ref (G.2.1 51)]) (n := 1) (Nat.le_of_ble_eq_true rfl)
  rw [lg_entry_eq]
  generalize (lg_sl ([.ref (G.2.1 51)]) ++ List.replicate (1 - (lg_sl ([.ref (G.2.1 51)])).length) Slot.unset).toArray = ls at hl ⊢
  have hl : lv_has ls 1 [(0, .ref (G.2.1 51))] := hl
  unfold x_Model_endSaying at hE
  refine lv_aload_n hx hb d_Model_endSaying_0 rfl (lv_at hl 0 rfl) ?_
  refine lv_bipush (v := (13 : Int32)) hx hb d_Model_endSaying_1 (by decide) ?_
  obtain ⟨s3, hC3, hE⟩ := x_bind hE
  refine x_callV hS (W.runV (As := [.int (13 : Int32)]) (rest := []) ⟨hx, hb, hml, hown, hu⟩ (t_Model_say l G σ (13 : Int32) s3 hC3) (cwV 1 hu (uw_V mw_1219 mw_1221 mw_30 mw_70 mw_1222) rfl rfl rfl hd_Model_say ⟨Nat.le_of_ble_eq_true rfl, Nat.le_of_ble_eq_true rfl⟩) (x_preV hC hS hw (va_recv hK hw (q := (R_Model, T_Model, 33)) (ci := 10) rfl (x_at (by decide) (xcl_51 G σ)))) rfl rfl hl.1 rfl (lv_room (Nat.le_of_ble_eq_true rfl)) d_Model_endSaying_3 ⟨Nat.le_of_ble_eq_true rfl, Nat.le_of_ble_eq_true rfl⟩) (fun H locs hw hS => ?_)
  refine lv_aload_n hx hb d_Model_endSaying_6 rfl (lv_at hl 0 rfl) ?_
  refine lv_bipush (v := (10 : Int32)) hx hb d_Model_endSaying_7 (by decide) ?_
  obtain ⟨s9, hC9, hE⟩ := x_bind hE
  refine x_callV hS (W.runV (As := [.int (10 : Int32)]) (rest := []) ⟨hx, hb, hml, hown, hu⟩ (t_Model_say l G s3 (10 : Int32) s9 hC9) (cwV 1 hu (uw_V mw_1219 mw_1221 mw_30 mw_70 mw_1222) rfl rfl rfl hd_Model_say ⟨Nat.le_of_ble_eq_true rfl, Nat.le_of_ble_eq_true rfl⟩) (x_preV hC hS hw (va_recv hK hw (q := (R_Model, T_Model, 33)) (ci := 10) rfl (x_at (by decide) (xcl_51 G s3)))) rfl rfl hl.1 rfl (lv_room (Nat.le_of_ble_eq_true rfl)) d_Model_endSaying_9 ⟨Nat.le_of_ble_eq_true rfl, Nat.le_of_ble_eq_true rfl⟩) (fun H locs hw hS => ?_)
  have e1 := Option.some.inj hE
  exact W.vret hx hb hr (fun t ht hW => ⟨rfl, by rw [ht, ← e1]; exact hw, hS.F ht⟩) hS.2.2 d_Model_endSaying_12

def y_Model_resource : MethodName := ⟨"PlainOriginModel", "resource", "()I"⟩
def ws_Model_resource : List Cond := Cond.code y_Model_resource prog_14_method_41_code 7 (some .int) :: UW
theorem hd_Model_resource : y_Model_resource.cls = R_Model ∧ y_Model_resource.cls ≠ "java/lang/invoke/MethodHandle" ∧ y_Model_resource.cls ≠ "java/lang/invoke/VarHandle" ∧ (parseMethodDescriptor y_Model_resource.desc).map (fun d => d.parameters.length) = some 0 := by decide +kernel
theorem d_Model_resource_0 : decode prog_14_method_41_code 0 = .ok (.iconst 0, 1) := by decide +kernel
theorem d_Model_resource_1 : decode prog_14_method_41_code 1 = .ok (.istore_n 1, 1) := by decide +kernel
theorem d_Model_resource_2 : decode prog_14_method_41_code 2 = .ok (.iconst 0, 1) := by decide +kernel
theorem d_Model_resource_3 : decode prog_14_method_41_code 3 = .ok (.istore_n 2, 1) := by decide +kernel
theorem d_Model_resource_4 : decode prog_14_method_41_code 4 = .ok (.iconst 0, 1) := by decide +kernel
theorem d_Model_resource_5 : decode prog_14_method_41_code 5 = .ok (.istore_n 3, 1) := by decide +kernel
theorem d_Model_resource_6 : decode prog_14_method_41_code 6 = .ok (.iconst 0, 1) := by decide +kernel
theorem d_Model_resource_7 : decode prog_14_method_41_code 7 = .ok (.istore 4, 2) := by decide +kernel
theorem d_Model_resource_9 : decode prog_14_method_41_code 9 = .ok (.iload 4, 2) := by decide +kernel
theorem d_Model_resource_11 : decode prog_14_method_41_code 11 = .ok (.aload_n 0, 1) := by decide +kernel
theorem d_Model_resource_12 : decode prog_14_method_41_code 12 = .ok (.getfield 245, 3) := by decide +kernel
theorem d_Model_resource_15 : decode prog_14_method_41_code 15 = .ok (.if_icmp .ge (126), 3) := by decide +kernel
theorem d_Model_resource_18 : decode prog_14_method_41_code 18 = .ok (.aload_n 0, 1) := by decide +kernel
theorem d_Model_resource_19 : decode prog_14_method_41_code 19 = .ok (.getfield 112, 3) := by decide +kernel
theorem d_Model_resource_22 : decode prog_14_method_41_code 22 = .ok (.iload 4, 2) := by decide +kernel
theorem d_Model_resource_24 : decode prog_14_method_41_code 24 = .ok (.iaload, 1) := by decide +kernel
theorem d_Model_resource_25 : decode prog_14_method_41_code 25 = .ok (.bipush (63), 2) := by decide +kernel
theorem d_Model_resource_27 : decode prog_14_method_41_code 27 = .ok (.if_icmp .eq (114), 3) := by decide +kernel
theorem d_Model_resource_30 : decode prog_14_method_41_code 30 = .ok (.aload_n 0, 1) := by decide +kernel
theorem d_Model_resource_31 : decode prog_14_method_41_code 31 = .ok (.getfield 112, 3) := by decide +kernel
theorem d_Model_resource_34 : decode prog_14_method_41_code 34 = .ok (.iload 4, 2) := by decide +kernel
theorem d_Model_resource_36 : decode prog_14_method_41_code 36 = .ok (.iaload, 1) := by decide +kernel
theorem d_Model_resource_37 : decode prog_14_method_41_code 37 = .ok (.bipush (37), 2) := by decide +kernel
theorem d_Model_resource_39 : decode prog_14_method_41_code 39 = .ok (.if_icmp .ne (7), 3) := by decide +kernel
theorem d_Model_resource_42 : decode prog_14_method_41_code 42 = .ok (.iconst 1, 1) := by decide +kernel
theorem d_Model_resource_43 : decode prog_14_method_41_code 43 = .ok (.goto (4), 3) := by decide +kernel
theorem d_Model_resource_46 : decode prog_14_method_41_code 46 = .ok (.iconst 0, 1) := by decide +kernel
theorem d_Model_resource_47 : decode prog_14_method_41_code 47 = .ok (.istore 5, 2) := by decide +kernel
theorem d_Model_resource_49 : decode prog_14_method_41_code 49 = .ok (.iload 5, 2) := by decide +kernel
theorem d_Model_resource_51 : decode prog_14_method_41_code 51 = .ok (.ifCond .eq (34), 3) := by decide +kernel
theorem d_Model_resource_54 : decode prog_14_method_41_code 54 = .ok (.bipush (16), 2) := by decide +kernel
theorem d_Model_resource_56 : decode prog_14_method_41_code 56 = .ok (.aload_n 0, 1) := by decide +kernel
theorem d_Model_resource_57 : decode prog_14_method_41_code 57 = .ok (.getfield 112, 3) := by decide +kernel
theorem d_Model_resource_60 : decode prog_14_method_41_code 60 = .ok (.iload 4, 2) := by decide +kernel
theorem d_Model_resource_62 : decode prog_14_method_41_code 62 = .ok (.iconst 1, 1) := by decide +kernel
theorem d_Model_resource_63 : decode prog_14_method_41_code 63 = .ok (.iadd, 1) := by decide +kernel
theorem d_Model_resource_64 : decode prog_14_method_41_code 64 = .ok (.iaload, 1) := by decide +kernel
theorem d_Model_resource_65 : decode prog_14_method_41_code 65 = .ok (.invokestatic 219, 3) := by decide +kernel
theorem d_Model_resource_68 : decode prog_14_method_41_code 68 = .ok (.imul, 1) := by decide +kernel
theorem d_Model_resource_69 : decode prog_14_method_41_code 69 = .ok (.aload_n 0, 1) := by decide +kernel
theorem d_Model_resource_70 : decode prog_14_method_41_code 70 = .ok (.getfield 112, 3) := by decide +kernel
theorem d_Model_resource_73 : decode prog_14_method_41_code 73 = .ok (.iload 4, 2) := by decide +kernel
theorem d_Model_resource_75 : decode prog_14_method_41_code 75 = .ok (.iconst 2, 1) := by decide +kernel
theorem d_Model_resource_76 : decode prog_14_method_41_code 76 = .ok (.iadd, 1) := by decide +kernel
theorem d_Model_resource_77 : decode prog_14_method_41_code 77 = .ok (.iaload, 1) := by decide +kernel
theorem d_Model_resource_78 : decode prog_14_method_41_code 78 = .ok (.invokestatic 219, 3) := by decide +kernel
theorem d_Model_resource_81 : decode prog_14_method_41_code 81 = .ok (.iadd, 1) := by decide +kernel
theorem d_Model_resource_82 : decode prog_14_method_41_code 82 = .ok (.goto (10), 3) := by decide +kernel
theorem d_Model_resource_85 : decode prog_14_method_41_code 85 = .ok (.aload_n 0, 1) := by decide +kernel
theorem d_Model_resource_86 : decode prog_14_method_41_code 86 = .ok (.getfield 112, 3) := by decide +kernel
theorem d_Model_resource_89 : decode prog_14_method_41_code 89 = .ok (.iload 4, 2) := by decide +kernel
theorem d_Model_resource_91 : decode prog_14_method_41_code 91 = .ok (.iaload, 1) := by decide +kernel
theorem d_Model_resource_92 : decode prog_14_method_41_code 92 = .ok (.istore 6, 2) := by decide +kernel
theorem d_Model_resource_94 : decode prog_14_method_41_code 94 = .ok (.iload_n 1, 1) := by decide +kernel
theorem d_Model_resource_95 : decode prog_14_method_41_code 95 = .ok (.ifCond .ne (8), 3) := by decide +kernel
theorem d_Model_resource_98 : decode prog_14_method_41_code 98 = .ok (.iload 6, 2) := by decide +kernel
theorem d_Model_resource_100 : decode prog_14_method_41_code 100 = .ok (.goto (4), 3) := by decide +kernel
theorem d_Model_resource_103 : decode prog_14_method_41_code 103 = .ok (.iload_n 2, 1) := by decide +kernel
theorem d_Model_resource_104 : decode prog_14_method_41_code 104 = .ok (.istore_n 2, 1) := by decide +kernel
theorem d_Model_resource_105 : decode prog_14_method_41_code 105 = .ok (.iload_n 1, 1) := by decide +kernel
theorem d_Model_resource_106 : decode prog_14_method_41_code 106 = .ok (.iconst 1, 1) := by decide +kernel
theorem d_Model_resource_107 : decode prog_14_method_41_code 107 = .ok (.if_icmp .ne (8), 3) := by decide +kernel
theorem d_Model_resource_110 : decode prog_14_method_41_code 110 = .ok (.iload 6, 2) := by decide +kernel
theorem d_Model_resource_112 : decode prog_14_method_41_code 112 = .ok (.goto (4), 3) := by decide +kernel
theorem d_Model_resource_115 : decode prog_14_method_41_code 115 = .ok (.iload_n 3, 1) := by decide +kernel
theorem d_Model_resource_116 : decode prog_14_method_41_code 116 = .ok (.istore_n 3, 1) := by decide +kernel
theorem d_Model_resource_117 : decode prog_14_method_41_code 117 = .ok (.iinc 1 (1), 3) := by decide +kernel
theorem d_Model_resource_120 : decode prog_14_method_41_code 120 = .ok (.iload 5, 2) := by decide +kernel
theorem d_Model_resource_122 : decode prog_14_method_41_code 122 = .ok (.ifCond .eq (10), 3) := by decide +kernel
theorem d_Model_resource_125 : decode prog_14_method_41_code 125 = .ok (.iload 4, 2) := by decide +kernel
theorem d_Model_resource_127 : decode prog_14_method_41_code 127 = .ok (.iconst 3, 1) := by decide +kernel
theorem d_Model_resource_128 : decode prog_14_method_41_code 128 = .ok (.iadd, 1) := by decide +kernel
theorem d_Model_resource_129 : decode prog_14_method_41_code 129 = .ok (.goto (7), 3) := by decide +kernel
theorem d_Model_resource_132 : decode prog_14_method_41_code 132 = .ok (.iload 4, 2) := by decide +kernel
theorem d_Model_resource_134 : decode prog_14_method_41_code 134 = .ok (.iconst 1, 1) := by decide +kernel
theorem d_Model_resource_135 : decode prog_14_method_41_code 135 = .ok (.iadd, 1) := by decide +kernel
theorem d_Model_resource_136 : decode prog_14_method_41_code 136 = .ok (.istore 4, 2) := by decide +kernel
theorem d_Model_resource_138 : decode prog_14_method_41_code 138 = .ok (.goto (-129), 3) := by decide +kernel
theorem d_Model_resource_141 : decode prog_14_method_41_code 141 = .ok (.iload_n 2, 1) := by decide +kernel
theorem d_Model_resource_142 : decode prog_14_method_41_code 142 = .ok (.bipush (47), 2) := by decide +kernel
theorem d_Model_resource_144 : decode prog_14_method_41_code 144 = .ok (.if_icmp .eq (7), 3) := by decide +kernel
theorem d_Model_resource_147 : decode prog_14_method_41_code 147 = .ok (.iconst (-1), 1) := by decide +kernel
theorem d_Model_resource_148 : decode prog_14_method_41_code 148 = .ok (.goto (37), 3) := by decide +kernel
theorem d_Model_resource_151 : decode prog_14_method_41_code 151 = .ok (.iload_n 1, 1) := by decide +kernel
theorem d_Model_resource_152 : decode prog_14_method_41_code 152 = .ok (.iconst 1, 1) := by decide +kernel
theorem d_Model_resource_153 : decode prog_14_method_41_code 153 = .ok (.if_icmp .ne (8), 3) := by decide +kernel
theorem d_Model_resource_156 : decode prog_14_method_41_code 156 = .ok (.bipush (-2), 2) := by decide +kernel
theorem d_Model_resource_158 : decode prog_14_method_41_code 158 = .ok (.goto (27), 3) := by decide +kernel
theorem d_Model_resource_161 : decode prog_14_method_41_code 161 = .ok (.iload_n 1, 1) := by decide +kernel
theorem d_Model_resource_162 : decode prog_14_method_41_code 162 = .ok (.iconst 2, 1) := by decide +kernel
theorem d_Model_resource_163 : decode prog_14_method_41_code 163 = .ok (.if_icmp .ne (21), 3) := by decide +kernel
theorem d_Model_resource_166 : decode prog_14_method_41_code 166 = .ok (.iload_n 3, 1) := by decide +kernel
theorem d_Model_resource_167 : decode prog_14_method_41_code 167 = .ok (.bipush (97), 2) := by decide +kernel
theorem d_Model_resource_169 : decode prog_14_method_41_code 169 = .ok (.bipush (104), 2) := by decide +kernel
theorem d_Model_resource_171 : decode prog_14_method_41_code 171 = .ok (.invokestatic 147, 3) := by decide +kernel
theorem d_Model_resource_174 : decode prog_14_method_41_code 174 = .ok (.ifCond .eq (10), 3) := by decide +kernel
theorem d_Model_resource_177 : decode prog_14_method_41_code 177 = .ok (.iload_n 3, 1) := by decide +kernel
theorem d_Model_resource_178 : decode prog_14_method_41_code 178 = .ok (.bipush (97), 2) := by decide +kernel
theorem d_Model_resource_180 : decode prog_14_method_41_code 180 = .ok (.isub, 1) := by decide +kernel
theorem d_Model_resource_181 : decode prog_14_method_41_code 181 = .ok (.goto (4), 3) := by decide +kernel
theorem d_Model_resource_184 : decode prog_14_method_41_code 184 = .ok (.iconst (-1), 1) := by decide +kernel
theorem d_Model_resource_185 : decode prog_14_method_41_code 185 = .ok (.ireturn, 1) := by decide +kernel
def x_Model_resource_141 (σ : St) (l1 : Int32) (l2 : Int32) (l3 : Int32) : Option Int32 := (if l2 = (47 : Int32) then (if l1 = (1 : Int32) then some ((-2) : Int32) else (if l1 = (2 : Int32) then (Option.bind (x_Model_within l3 (97 : Int32) (104 : Int32)) (fun r171 => (if r171 = 0 then some ((-1) : Int32) else some (l3 - (97 : Int32))))) else some ((-1) : Int32))) else some ((-1) : Int32))
def x_Model_resource_136 (σ : St) (bk9 : Int32 → Int32 → Int32 → Int32 → Option Int32) (l1 : Int32) (l2 : Int32) (l3 : Int32) (k0 : Int32) : Option Int32 := bk9 l1 l2 l3 k0
def x_Model_resource_116 (σ : St) (bk9 : Int32 → Int32 → Int32 → Int32 → Option Int32) (l1 : Int32) (l2 : Int32) (l4 : Int32) (l5 : Int32) (k0 : Int32) : Option Int32 := (x_let (l1 + (1 : Int32)) (fun (v117 : Int32) => (if l5 = 0 then x_Model_resource_136 σ bk9 v117 l2 k0 (l4 + (1 : Int32)) else x_Model_resource_136 σ bk9 v117 l2 k0 (l4 + (3 : Int32)))))
def x_Model_resource_104 (σ : St) (bk9 : Int32 → Int32 → Int32 → Int32 → Option Int32) (l1 : Int32) (l3 : Int32) (l4 : Int32) (l5 : Int32) (l6 : Int32) (k0 : Int32) : Option Int32 := (if l1 = (1 : Int32) then x_Model_resource_116 σ bk9 l1 k0 l4 l5 l6 else x_Model_resource_116 σ bk9 l1 k0 l4 l5 l3)
def x_Model_resource_92 (σ : St) (bk9 : Int32 → Int32 → Int32 → Int32 → Option Int32) (l1 : Int32) (l2 : Int32) (l3 : Int32) (l4 : Int32) (l5 : Int32) (k0 : Int32) : Option Int32 := (if l1 = 0 then x_Model_resource_104 σ bk9 l1 l3 l4 l5 k0 k0 else x_Model_resource_104 σ bk9 l1 l3 l4 l5 k0 l2)
def x_Model_resource_47 (σ : St) (bk9 : Int32 → Int32 → Int32 → Int32 → Option Int32) (l1 : Int32) (l2 : Int32) (l3 : Int32) (l4 : Int32) (k0 : Int32) : Option Int32 := (if k0 = 0 then (if x_in l4 80 then x_Model_resource_92 σ bk9 l1 l2 l3 l4 k0 (σ.2.1 58 l4.toNatClampNeg) else none) else (if x_in (l4 + (1 : Int32)) 80 then (Option.bind (x_Model_hexOf (σ.2.1 58 (l4 + (1 : Int32)).toNatClampNeg)) (fun r65 => (if x_in (l4 + (2 : Int32)) 80 then (Option.bind (x_Model_hexOf (σ.2.1 58 (l4 + (2 : Int32)).toNatClampNeg)) (fun r78 => x_Model_resource_92 σ bk9 l1 l2 l3 l4 k0 (((16 : Int32) * r65) + r78))) else none))) else none))
def x_Model_resource_9 (σ : St) : Nat → Int32 → Int32 → Int32 → Int32 → Option Int32
  | 0, _, _, _, _ => none
  | n + 1, l1, l2, l3, l4 => (if (σ.1 51 13) ≤ l4 then x_Model_resource_141 σ l1 l2 l3 else (if x_in l4 80 then (if (σ.2.1 58 l4.toNatClampNeg) = (63 : Int32) then x_Model_resource_141 σ l1 l2 l3 else (if x_in l4 80 then (if (σ.2.1 58 l4.toNatClampNeg) = (37 : Int32) then x_Model_resource_47 σ (x_Model_resource_9 σ n) l1 l2 l3 l4 (1 : Int32) else x_Model_resource_47 σ (x_Model_resource_9 σ n) l1 l2 l3 l4 (0 : Int32)) else none)) else none))
def x_Model_resource (σ : St) : Option Int32 := x_Model_resource_9 σ x_fuel (0 : Int32) (0 : Int32) (0 : Int32) (0 : Int32)
abbrev rm_Model_resource : Room := { frames := 3, cells := 0, slots := 0, locals := 62 }
set_option maxHeartbeats 4000000 in
set_option maxRecDepth 100000 in
theorem t_Model_resource (l : Launch) (G : xG) (σ : St) (r : Int32) (hE : x_Model_resource σ = some r) : Met l y_Model_resource (ws_Model_resource) rm_Model_resource (xP G σ [.ref (G.2.1 51)]) (xRd (some (.int r))) 0 0 (fun _ => False) := by
  refine Met.ofW (cc := prog_14_method_41_code) (maxL := 7) (ret := (some .int)) (by decide) rfl ?_
  intro p e s m args below meth c s₁ B hml hv
  obtain ⟨rfl, hw, hC⟩ := hv
  have hx := B.exec
  have hb := B.bytes
  have hr := B.returns
  have hu : ∀ w ∈ UW, w.before _ s = true := fun w h => atoms_spec B.pre w (List.mem_cons_of_mem _ h)
  have hown : s.vm.findClass R_Model = some m.cls := findClass_of_methodNamed B.named
  have hlocks := B.notSynchronized
  have hK := hC.1
  have hI := hC.2.1
  have hG := hC.2.2.1
  have hS : va_S (xA G) s.heap s.heap [] := va_S.rf
  have jn141 : ∀ (ls : Array Slot) (l1 : Int32) (l2 : Int32) (l3 : Int32), x_Model_resource_141 σ l1 l2 l3 = some r → lv_has ls 7 [(0, .ref (G.2.1 51)), (1, .int l1), (2, .int l2), (3, .int l3)] → W p l e (headSpec (ws_Model_resource) rm_Model_resource).room s m ([.ref (G.2.1 51)] : List Value).toArray below meth c s.heap [] 0 0 (MQ below (xRd (some (.int r))) ([.ref (G.2.1 51)] : List Value).toArray s 0 0 (fun _ => False)) (F0 m 141 ls []) := by
    intro ls l1 l2 l3 hE hl
    unfold x_Model_resource_141 at hE
    refine lv_iload_n hx hb d_Model_resource_141 rfl (lv_at hl 2 rfl) ?_
    refine lv_bipush (v := (47 : Int32)) hx hb d_Model_resource_142 (by decide) ?_
    refine lv_icmp_eq (tgt := 151) hx hb d_Model_resource_144 (by decide) (fun hc144 => ?_) (fun hc144 => ?_)
    · rw [if_pos hc144] at hE
      refine lv_iload_n hx hb d_Model_resource_151 rfl (lv_at hl 1 rfl) ?_
      refine lv_iconst (v := (1 : Int32)) hx hb d_Model_resource_152 (by decide) ?_
      refine lv_icmp_ne (tgt := 161) hx hb d_Model_resource_153 (by decide) (fun hc153 => ?_) (fun hc153 => ?_)
      · rw [if_neg hc153] at hE
        refine lv_iload_n hx hb d_Model_resource_161 rfl (lv_at hl 1 rfl) ?_
        refine lv_iconst (v := (2 : Int32)) hx hb d_Model_resource_162 (by decide) ?_
        refine lv_icmp_ne (tgt := 184) hx hb d_Model_resource_163 (by decide) (fun hc163 => ?_) (fun hc163 => ?_)
        · rw [if_neg hc163] at hE
          refine lv_iconst (v := ((-1) : Int32)) hx hb d_Model_resource_184 (by decide) ?_
          exact W.iret (v := ((-1) : Int32)) hx hb hr (fun t ht hW => ⟨by rw [Option.some.inj hE], ht⟩) (fun q h => by cases h) d_Model_resource_185
        · rw [if_pos hc163] at hE
          refine lv_iload_n hx hb d_Model_resource_166 rfl (lv_at hl 3 rfl) ?_
          refine lv_bipush (v := (97 : Int32)) hx hb d_Model_resource_167 (by decide) ?_
          refine lv_bipush (v := (104 : Int32)) hx hb d_Model_resource_169 (by decide) ?_
          obtain ⟨r171, hC171, hE⟩ := x_bind hE
          refine x_callR (W.runS (As := [.int l3, .int (97 : Int32), .int (104 : Int32)]) (rest := []) ⟨hx, hb, hml, hown, hu⟩ (t_Model_within l G σ l3 (97 : Int32) (104 : Int32) r171 hC171) (va_cwS 3 hu (uw_S mw_1178 mw_1179 mw_70 mw_1180) rfl rfl rfl hd_Model_within ⟨Nat.le_of_ble_eq_true rfl, Nat.le_of_ble_eq_true rfl⟩) (x_preS hC hS hw) rfl rfl hl.1 rfl (lv_room (Nat.le_of_ble_eq_true rfl)) d_Model_resource_171 ⟨Nat.le_of_ble_eq_true rfl, Nat.le_of_ble_eq_true rfl⟩) ?_
          refine lv_if_eq (tgt := 184) hx hb d_Model_resource_174 (by decide) (fun hc174 => ?_) (fun hc174 => ?_)
          · rw [if_pos hc174] at hE
            refine lv_iconst (v := ((-1) : Int32)) hx hb d_Model_resource_184 (by decide) ?_
            exact W.iret (v := ((-1) : Int32)) hx hb hr (fun t ht hW => ⟨by rw [Option.some.inj hE], ht⟩) (fun q h => by cases h) d_Model_resource_185
          · rw [if_neg hc174] at hE
            refine lv_iload_n hx hb d_Model_resource_177 rfl (lv_at hl 3 rfl) ?_
            refine lv_bipush (v := (97 : Int32)) hx hb d_Model_resource_178 (by decide) ?_
            refine lv_isub hx hb d_Model_resource_180 ?_
            refine lv_goto (tgt := 185) hx hb d_Model_resource_181 (by decide) ?_
            exact W.iret (v := l3 - (97 : Int32)) hx hb hr (fun t ht hW => ⟨by rw [Option.some.inj hE], ht⟩) (fun q h => by cases h) d_Model_resource_185
      · rw [if_pos hc153] at hE
        refine lv_bipush (v := ((-2) : Int32)) hx hb d_Model_resource_156 (by decide) ?_
        refine lv_goto (tgt := 185) hx hb d_Model_resource_158 (by decide) ?_
        exact W.iret (v := ((-2) : Int32)) hx hb hr (fun t ht hW => ⟨by rw [Option.some.inj hE], ht⟩) (fun q h => by cases h) d_Model_resource_185
    · rw [if_neg hc144] at hE
      refine lv_iconst (v := ((-1) : Int32)) hx hb d_Model_resource_147 (by decide) ?_
      refine lv_goto (tgt := 185) hx hb d_Model_resource_148 (by decide) ?_
      exact W.iret (v := ((-1) : Int32)) hx hb hr (fun t ht hW => ⟨by rw [Option.some.inj hE], ht⟩) (fun q h => by cases h) d_Model_resource_185
  have jn136 : ∀ (bk9 : Int32 → Int32 → Int32 → Int32 → Option Int32) (hbk9 : ∀ (ls : Array Slot) (l1 : Int32) (l2 : Int32) (l3 : Int32) (l4 : Int32), bk9 l1 l2 l3 l4 = some r → lv_has ls 7 [(0, .ref (G.2.1 51)), (1, .int l1), (2, .int l2), (3, .int l3), (4, .int l4)] → W p l e (headSpec (ws_Model_resource) rm_Model_resource).room s m ([.ref (G.2.1 51)] : List Value).toArray below meth c s.heap [] 0 0 (MQ below (xRd (some (.int r))) ([.ref (G.2.1 51)] : List Value).toArray s 0 0 (fun _ => False)) (F0 m 9 ls [])) (ls : Array Slot) (l1 : Int32) (l2 : Int32) (l3 : Int32) (k0 : Int32), x_Model_resource_136 σ bk9 l1 l2 l3 k0 = some r → lv_has ls 7 [(0, .ref (G.2.1 51)), (1, .int l1), (2, .int l2), (3, .int l3)] → W p l e (headSpec (ws_Model_resource) rm_Model_resource).room s m ([.ref (G.2.1 51)] : List Value).toArray below meth c s.heap [] 0 0 (MQ below (xRd (some (.int r))) ([.ref (G.2.1 51)] : List Value).toArray s 0 0 (fun _ => False)) (F0 m 136 ls [.int k0]) := by
    intro bk9 hbk9 ls l1 l2 l3 k0 hE hl
    unfold x_Model_resource_136 at hE
    refine lv_istore hx hb d_Model_resource_136 hl (by decide) rfl (fun ls hl => ?_)
    have hl : lv_has ls 7 [(4, .int k0), (0, .ref (G.2.1 51)), (1, .int l1), (2, .int l2), (3, .int l3)] := hl
    refine lv_goto (tgt := 9) hx hb d_Model_resource_138 (by decide) ?_
    exact hbk9 _ _ _ _ _ hE (lv_sub hl [1, 2, 3, 4, 0] rfl)
  have jn116 : ∀ (bk9 : Int32 → Int32 → Int32 → Int32 → Option Int32) (hbk9 : ∀ (ls : Array Slot) (l1 : Int32) (l2 : Int32) (l3 : Int32) (l4 : Int32), bk9 l1 l2 l3 l4 = some r → lv_has ls 7 [(0, .ref (G.2.1 51)), (1, .int l1), (2, .int l2), (3, .int l3), (4, .int l4)] → W p l e (headSpec (ws_Model_resource) rm_Model_resource).room s m ([.ref (G.2.1 51)] : List Value).toArray below meth c s.heap [] 0 0 (MQ below (xRd (some (.int r))) ([.ref (G.2.1 51)] : List Value).toArray s 0 0 (fun _ => False)) (F0 m 9 ls [])) (ls : Array Slot) (l1 : Int32) (l2 : Int32) (l4 : Int32) (l5 : Int32) (k0 : Int32), x_Model_resource_116 σ bk9 l1 l2 l4 l5 k0 = some r → lv_has ls 7 [(0, .ref (G.2.1 51)), (1, .int l1), (2, .int l2), (4, .int l4), (5, .int l5)] → W p l e (headSpec (ws_Model_resource) rm_Model_resource).room s m ([.ref (G.2.1 51)] : List Value).toArray below meth c s.heap [] 0 0 (MQ below (xRd (some (.int r))) ([.ref (G.2.1 51)] : List Value).toArray s 0 0 (fun _ => False)) (F0 m 116 ls [.int k0]) := by
    intro bk9 hbk9 ls l1 l2 l4 l5 k0 hE hl
    unfold x_Model_resource_116 at hE
    refine lv_istore_n hx hb d_Model_resource_116 rfl hl (by decide) rfl (fun ls hl => ?_)
    have hl : lv_has ls 7 [(3, .int k0), (0, .ref (G.2.1 51)), (1, .int l1), (2, .int l2), (4, .int l4), (5, .int l5)] := hl
    obtain ⟨v117, e117, hE⟩ := x_letE hE
    refine lv_iinc hx hb d_Model_resource_117 hl (k := 2) rfl (x_inc v117 e117 (by decide)) (by decide) rfl (fun ls hl => ?_)
    have hl : lv_has ls 7 [(1, .int v117), (3, .int k0), (0, .ref (G.2.1 51)), (2, .int l2), (4, .int l4), (5, .int l5)] := hl
    refine lv_iload hx hb d_Model_resource_120 (lv_at hl 5 rfl) ?_
    refine lv_if_eq (tgt := 132) hx hb d_Model_resource_122 (by decide) (fun hc122 => ?_) (fun hc122 => ?_)
    · rw [if_pos hc122] at hE
      refine lv_iload hx hb d_Model_resource_132 (lv_at hl 4 rfl) ?_
      refine lv_iconst (v := (1 : Int32)) hx hb d_Model_resource_134 (by decide) ?_
      refine lv_iadd hx hb d_Model_resource_135 ?_
      exact jn136 _ hbk9 _ _ _ _ _ hE (lv_sub hl [2, 0, 3, 1] rfl)
    · rw [if_neg hc122] at hE
      refine lv_iload hx hb d_Model_resource_125 (lv_at hl 4 rfl) ?_
      refine lv_iconst (v := (3 : Int32)) hx hb d_Model_resource_127 (by decide) ?_
      refine lv_iadd hx hb d_Model_resource_128 ?_
      refine lv_goto (tgt := 136) hx hb d_Model_resource_129 (by decide) ?_
      exact jn136 _ hbk9 _ _ _ _ _ hE (lv_sub hl [2, 0, 3, 1] rfl)
  have jn104 : ∀ (bk9 : Int32 → Int32 → Int32 → Int32 → Option Int32) (hbk9 : ∀ (ls : Array Slot) (l1 : Int32) (l2 : Int32) (l3 : Int32) (l4 : Int32), bk9 l1 l2 l3 l4 = some r → lv_has ls 7 [(0, .ref (G.2.1 51)), (1, .int l1), (2, .int l2), (3, .int l3), (4, .int l4)] → W p l e (headSpec (ws_Model_resource) rm_Model_resource).room s m ([.ref (G.2.1 51)] : List Value).toArray below meth c s.heap [] 0 0 (MQ below (xRd (some (.int r))) ([.ref (G.2.1 51)] : List Value).toArray s 0 0 (fun _ => False)) (F0 m 9 ls [])) (ls : Array Slot) (l1 : Int32) (l3 : Int32) (l4 : Int32) (l5 : Int32) (l6 : Int32) (k0 : Int32), x_Model_resource_104 σ bk9 l1 l3 l4 l5 l6 k0 = some r → lv_has ls 7 [(0, .ref (G.2.1 51)), (1, .int l1), (3, .int l3), (4, .int l4), (5, .int l5), (6, .int l6)] → W p l e (headSpec (ws_Model_resource) rm_Model_resource).room s m ([.ref (G.2.1 51)] : List Value).toArray below meth c s.heap [] 0 0 (MQ below (xRd (some (.int r))) ([.ref (G.2.1 51)] : List Value).toArray s 0 0 (fun _ => False)) (F0 m 104 ls [.int k0]) := by
    intro bk9 hbk9 ls l1 l3 l4 l5 l6 k0 hE hl
    unfold x_Model_resource_104 at hE
    refine lv_istore_n hx hb d_Model_resource_104 rfl hl (by decide) rfl (fun ls hl => ?_)
    have hl : lv_has ls 7 [(2, .int k0), (0, .ref (G.2.1 51)), (1, .int l1), (3, .int l3), (4, .int l4), (5, .int l5), (6, .int l6)] := hl
    refine lv_iload_n hx hb d_Model_resource_105 rfl (lv_at hl 2 rfl) ?_
    refine lv_iconst (v := (1 : Int32)) hx hb d_Model_resource_106 (by decide) ?_
    refine lv_icmp_ne (tgt := 115) hx hb d_Model_resource_107 (by decide) (fun hc107 => ?_) (fun hc107 => ?_)
    · rw [if_neg hc107] at hE
      refine lv_iload_n hx hb d_Model_resource_115 rfl (lv_at hl 3 rfl) ?_
      exact jn116 _ hbk9 _ _ _ _ _ _ hE (lv_sub hl [1, 2, 0, 4, 5] rfl)
    · rw [if_pos hc107] at hE
      refine lv_iload hx hb d_Model_resource_110 (lv_at hl 6 rfl) ?_
      refine lv_goto (tgt := 116) hx hb d_Model_resource_112 (by decide) ?_
      exact jn116 _ hbk9 _ _ _ _ _ _ hE (lv_sub hl [1, 2, 0, 4, 5] rfl)
  have jn92 : ∀ (bk9 : Int32 → Int32 → Int32 → Int32 → Option Int32) (hbk9 : ∀ (ls : Array Slot) (l1 : Int32) (l2 : Int32) (l3 : Int32) (l4 : Int32), bk9 l1 l2 l3 l4 = some r → lv_has ls 7 [(0, .ref (G.2.1 51)), (1, .int l1), (2, .int l2), (3, .int l3), (4, .int l4)] → W p l e (headSpec (ws_Model_resource) rm_Model_resource).room s m ([.ref (G.2.1 51)] : List Value).toArray below meth c s.heap [] 0 0 (MQ below (xRd (some (.int r))) ([.ref (G.2.1 51)] : List Value).toArray s 0 0 (fun _ => False)) (F0 m 9 ls [])) (ls : Array Slot) (l1 : Int32) (l2 : Int32) (l3 : Int32) (l4 : Int32) (l5 : Int32) (k0 : Int32), x_Model_resource_92 σ bk9 l1 l2 l3 l4 l5 k0 = some r → lv_has ls 7 [(0, .ref (G.2.1 51)), (1, .int l1), (2, .int l2), (3, .int l3), (4, .int l4), (5, .int l5)] → W p l e (headSpec (ws_Model_resource) rm_Model_resource).room s m ([.ref (G.2.1 51)] : List Value).toArray below meth c s.heap [] 0 0 (MQ below (xRd (some (.int r))) ([.ref (G.2.1 51)] : List Value).toArray s 0 0 (fun _ => False)) (F0 m 92 ls [.int k0]) := by
    intro bk9 hbk9 ls l1 l2 l3 l4 l5 k0 hE hl
    unfold x_Model_resource_92 at hE
    refine lv_istore hx hb d_Model_resource_92 hl (by decide) rfl (fun ls hl => ?_)
    have hl : lv_has ls 7 [(6, .int k0), (0, .ref (G.2.1 51)), (1, .int l1), (2, .int l2), (3, .int l3), (4, .int l4), (5, .int l5)] := hl
    refine lv_iload_n hx hb d_Model_resource_94 rfl (lv_at hl 2 rfl) ?_
    refine lv_if_ne (tgt := 103) hx hb d_Model_resource_95 (by decide) (fun hc95 => ?_) (fun hc95 => ?_)
    · rw [if_neg hc95] at hE
      refine lv_iload_n hx hb d_Model_resource_103 rfl (lv_at hl 3 rfl) ?_
      exact jn104 _ hbk9 _ _ _ _ _ _ _ hE (lv_sub hl [1, 2, 4, 5, 6, 0] rfl)
    · rw [if_pos hc95] at hE
      refine lv_iload hx hb d_Model_resource_98 (lv_at hl 0 rfl) ?_
      refine lv_goto (tgt := 104) hx hb d_Model_resource_100 (by decide) ?_
      exact jn104 _ hbk9 _ _ _ _ _ _ _ hE (lv_sub hl [1, 2, 4, 5, 6, 0] rfl)
  have jn47 : ∀ (bk9 : Int32 → Int32 → Int32 → Int32 → Option Int32) (hbk9 : ∀ (ls : Array Slot) (l1 : Int32) (l2 : Int32) (l3 : Int32) (l4 : Int32), bk9 l1 l2 l3 l4 = some r → lv_has ls 7 [(0, .ref (G.2.1 51)), (1, .int l1), (2, .int l2), (3, .int l3), (4, .int l4)] → W p l e (headSpec (ws_Model_resource) rm_Model_resource).room s m ([.ref (G.2.1 51)] : List Value).toArray below meth c s.heap [] 0 0 (MQ below (xRd (some (.int r))) ([.ref (G.2.1 51)] : List Value).toArray s 0 0 (fun _ => False)) (F0 m 9 ls [])) (ls : Array Slot) (l1 : Int32) (l2 : Int32) (l3 : Int32) (l4 : Int32) (k0 : Int32), x_Model_resource_47 σ bk9 l1 l2 l3 l4 k0 = some r → lv_has ls 7 [(0, .ref (G.2.1 51)), (1, .int l1), (2, .int l2), (3, .int l3), (4, .int l4)] → W p l e (headSpec (ws_Model_resource) rm_Model_resource).room s m ([.ref (G.2.1 51)] : List Value).toArray below meth c s.heap [] 0 0 (MQ below (xRd (some (.int r))) ([.ref (G.2.1 51)] : List Value).toArray s 0 0 (fun _ => False)) (F0 m 47 ls [.int k0]) := by
    intro bk9 hbk9 ls l1 l2 l3 l4 k0 hE hl
    unfold x_Model_resource_47 at hE
    refine lv_istore hx hb d_Model_resource_47 hl (by decide) rfl (fun ls hl => ?_)
    have hl : lv_has ls 7 [(5, .int k0), (0, .ref (G.2.1 51)), (1, .int l1), (2, .int l2), (3, .int l3), (4, .int l4)] := hl
    refine lv_iload hx hb d_Model_resource_49 (lv_at hl 0 rfl) ?_
    refine lv_if_eq (tgt := 85) hx hb d_Model_resource_51 (by decide) (fun hc51 => ?_) (fun hc51 => ?_)
    · rw [if_pos hc51] at hE
      refine lv_aload_n hx hb d_Model_resource_85 rfl (lv_at hl 1 rfl) ?_
      refine va_get (D := G.1) (cl := xCl) (ci := 10) (v := .ref (G.2.1 58)) (C := R_Model) (T := T_Model) (N := 33) hx hb hu fi_Model hown hK hw 51 (x_at (by decide) (xcl_51 G σ)) rfl 14 (by decide) (hu _ mw_1082) (fun _ h9 => h9) rfl d_Model_resource_86 ?_
      refine lv_iload hx hb d_Model_resource_89 (lv_at hl 5 rfl) ?_
      obtain ⟨g91, hE⟩ := x_guard hE
      refine va_iald hx hb hK hw 58 0 (x_at (by decide) (xcl_58 G σ)) rfl g91 d_Model_resource_91 ?_
      exact jn92 _ hbk9 _ _ _ _ _ _ _ hE (lv_sub hl [1, 2, 3, 4, 5, 0] rfl)
    · rw [if_neg hc51] at hE
      refine lv_bipush (v := (16 : Int32)) hx hb d_Model_resource_54 (by decide) ?_
      refine lv_aload_n hx hb d_Model_resource_56 rfl (lv_at hl 1 rfl) ?_
      refine va_get (D := G.1) (cl := xCl) (ci := 10) (v := .ref (G.2.1 58)) (C := R_Model) (T := T_Model) (N := 33) hx hb hu fi_Model hown hK hw 51 (x_at (by decide) (xcl_51 G σ)) rfl 14 (by decide) (hu _ mw_1082) (fun _ h9 => h9) rfl d_Model_resource_57 ?_
      refine lv_iload hx hb d_Model_resource_60 (lv_at hl 5 rfl) ?_
      refine lv_iconst (v := (1 : Int32)) hx hb d_Model_resource_62 (by decide) ?_
      refine lv_iadd hx hb d_Model_resource_63 ?_
      obtain ⟨g64, hE⟩ := x_guard hE
      refine va_iald hx hb hK hw 58 0 (x_at (by decide) (xcl_58 G σ)) rfl g64 d_Model_resource_64 ?_
      obtain ⟨r65, hC65, hE⟩ := x_bind hE
      refine x_callR (W.runS (As := [.int (σ.2.1 58 (l4 + (1 : Int32)).toNatClampNeg)]) (rest := [.int (16 : Int32)]) ⟨hx, hb, hml, hown, hu⟩ (t_Model_hexOf l G σ (σ.2.1 58 (l4 + (1 : Int32)).toNatClampNeg) r65 hC65) (va_cwS 1 hu (uw_S mw_1194 mw_1195 mw_70 mw_1196) rfl rfl rfl hd_Model_hexOf ⟨Nat.le_of_ble_eq_true rfl, Nat.le_of_ble_eq_true rfl⟩) (x_preS hC hS hw) rfl rfl hl.1 rfl (lv_room (Nat.le_of_ble_eq_true rfl)) d_Model_resource_65 ⟨Nat.le_of_ble_eq_true rfl, Nat.le_of_ble_eq_true rfl⟩) ?_
      refine lv_imul hx hb d_Model_resource_68 ?_
      refine lv_aload_n hx hb d_Model_resource_69 rfl (lv_at hl 1 rfl) ?_
      refine va_get (D := G.1) (cl := xCl) (ci := 10) (v := .ref (G.2.1 58)) (C := R_Model) (T := T_Model) (N := 33) hx hb hu fi_Model hown hK hw 51 (x_at (by decide) (xcl_51 G σ)) rfl 14 (by decide) (hu _ mw_1082) (fun _ h9 => h9) rfl d_Model_resource_70 ?_
      refine lv_iload hx hb d_Model_resource_73 (lv_at hl 5 rfl) ?_
      refine lv_iconst (v := (2 : Int32)) hx hb d_Model_resource_75 (by decide) ?_
      refine lv_iadd hx hb d_Model_resource_76 ?_
      obtain ⟨g77, hE⟩ := x_guard hE
      refine va_iald hx hb hK hw 58 0 (x_at (by decide) (xcl_58 G σ)) rfl g77 d_Model_resource_77 ?_
      obtain ⟨r78, hC78, hE⟩ := x_bind hE
      refine x_callR (W.runS (As := [.int (σ.2.1 58 (l4 + (2 : Int32)).toNatClampNeg)]) (rest := [.int ((16 : Int32) * r65)]) ⟨hx, hb, hml, hown, hu⟩ (t_Model_hexOf l G σ (σ.2.1 58 (l4 + (2 : Int32)).toNatClampNeg) r78 hC78) (va_cwS 1 hu (uw_S mw_1194 mw_1195 mw_70 mw_1196) rfl rfl rfl hd_Model_hexOf ⟨Nat.le_of_ble_eq_true rfl, Nat.le_of_ble_eq_true rfl⟩) (x_preS hC hS hw) rfl rfl hl.1 rfl (lv_room (Nat.le_of_ble_eq_true rfl)) d_Model_resource_78 ⟨Nat.le_of_ble_eq_true rfl, Nat.le_of_ble_eq_true rfl⟩) ?_
      refine lv_iadd hx hb d_Model_resource_81 ?_
      refine lv_goto (tgt := 92) hx hb d_Model_resource_82 (by decide) ?_
      exact jn92 _ hbk9 _ _ _ _ _ _ _ hE (lv_sub hl [1, 2, 3, 4, 5, 0] rfl)
  have jn9 : ∀ (n : Nat) (ls : Array Slot) (l1 : Int32) (l2 : Int32) (l3 : Int32) (l4 : Int32), x_Model_resource_9 σ n l1 l2 l3 l4 = some r → lv_has ls 7 [(0, .ref (G.2.1 51)), (1, .int l1), (2, .int l2), (3, .int l3), (4, .int l4)] → W p l e (headSpec (ws_Model_resource) rm_Model_resource).room s m ([.ref (G.2.1 51)] : List Value).toArray below meth c s.heap [] 0 0 (MQ below (xRd (some (.int r))) ([.ref (G.2.1 51)] : List Value).toArray s 0 0 (fun _ => False)) (F0 m 9 ls []) := by
    intro n
    induction n with
    | zero => intro ls l1 l2 l3 l4 hE; rw [x_Model_resource_9] at hE; cases hE
    | succ n ih =>
      intro ls l1 l2 l3 l4 hE hl
      rw [x_Model_resource_9] at hE
      refine lv_iload hx hb d_Model_resource_9 (lv_at hl 4 rfl) ?_
      refine lv_aload_n hx hb d_Model_resource_11 rfl (lv_at hl 0 rfl) ?_
      refine va_get (D := G.1) (cl := xCl) (ci := 10) (v := .int (σ.1 51 13)) (C := R_Model) (T := T_Model) (N := 33) hx hb hu fi_Model hown hK hw 51 (x_at (by decide) (xcl_51 G σ)) rfl 13 (by decide) (hu _ mw_1081) (fun _ h9 => h9) rfl d_Model_resource_12 ?_
      refine lv_icmp_ge (tgt := 141) hx hb d_Model_resource_15 (by decide) (fun hc15 => ?_) (fun hc15 => ?_)
      · rw [if_pos hc15] at hE
        exact jn141 _ _ _ _ hE (lv_sub hl [0, 1, 2, 3] rfl)
      · rw [if_neg hc15] at hE
        refine lv_aload_n hx hb d_Model_resource_18 rfl (lv_at hl 0 rfl) ?_
        refine va_get (D := G.1) (cl := xCl) (ci := 10) (v := .ref (G.2.1 58)) (C := R_Model) (T := T_Model) (N := 33) hx hb hu fi_Model hown hK hw 51 (x_at (by decide) (xcl_51 G σ)) rfl 14 (by decide) (hu _ mw_1082) (fun _ h9 => h9) rfl d_Model_resource_19 ?_
        refine lv_iload hx hb d_Model_resource_22 (lv_at hl 4 rfl) ?_
        obtain ⟨g24, hE⟩ := x_guard hE
        refine va_iald hx hb hK hw 58 0 (x_at (by decide) (xcl_58 G σ)) rfl g24 d_Model_resource_24 ?_
        refine lv_bipush (v := (63 : Int32)) hx hb d_Model_resource_25 (by decide) ?_
        refine lv_icmp_eq (tgt := 141) hx hb d_Model_resource_27 (by decide) (fun hc27 => ?_) (fun hc27 => ?_)
        · rw [if_pos hc27] at hE
          exact jn141 _ _ _ _ hE (lv_sub hl [0, 1, 2, 3] rfl)
        · rw [if_neg hc27] at hE
          refine lv_aload_n hx hb d_Model_resource_30 rfl (lv_at hl 0 rfl) ?_
          refine va_get (D := G.1) (cl := xCl) (ci := 10) (v := .ref (G.2.1 58)) (C := R_Model) (T := T_Model) (N := 33) hx hb hu fi_Model hown hK hw 51 (x_at (by decide) (xcl_51 G σ)) rfl 14 (by decide) (hu _ mw_1082) (fun _ h9 => h9) rfl d_Model_resource_31 ?_
          refine lv_iload hx hb d_Model_resource_34 (lv_at hl 4 rfl) ?_
          obtain ⟨g36, hE⟩ := x_guard hE
          refine va_iald hx hb hK hw 58 0 (x_at (by decide) (xcl_58 G σ)) rfl g36 d_Model_resource_36 ?_
          refine lv_bipush (v := (37 : Int32)) hx hb d_Model_resource_37 (by decide) ?_
          refine lv_icmp_ne (tgt := 46) hx hb d_Model_resource_39 (by decide) (fun hc39 => ?_) (fun hc39 => ?_)
          · rw [if_neg hc39] at hE
            refine lv_iconst (v := (0 : Int32)) hx hb d_Model_resource_46 (by decide) ?_
            exact jn47 _ ih _ _ _ _ _ _ hE (lv_sub hl [0, 1, 2, 3, 4] rfl)
          · rw [if_pos hc39] at hE
            refine lv_iconst (v := (1 : Int32)) hx hb d_Model_resource_42 (by decide) ?_
            refine lv_goto (tgt := 47) hx hb d_Model_resource_43 (by decide) ?_
            exact jn47 _ ih _ _ _ _ _ _ hE (lv_sub hl [0, 1, 2, 3, 4] rfl)
  have hl := lv_entry ([.ref (G.2.1 51)]) (n := 7) (Nat.le_of_ble_eq_true rfl)
  rw [lg_entry_eq]
  generalize (lg_sl ([.ref (G.2.1 51)]) ++ List.replicate (7 - (lg_sl ([.ref (G.2.1 51)])).length) Slot.unset).toArray = ls at hl ⊢
  have hl : lv_has ls 7 [(0, .ref (G.2.1 51))] := hl
  unfold x_Model_resource at hE
  refine lv_iconst (v := (0 : Int32)) hx hb d_Model_resource_0 (by decide) ?_
  refine lv_istore_n hx hb d_Model_resource_1 rfl hl (by decide) rfl (fun ls hl => ?_)
  have hl : lv_has ls 7 [(1, .int (0 : Int32)), (0, .ref (G.2.1 51))] := hl
  refine lv_iconst (v := (0 : Int32)) hx hb d_Model_resource_2 (by decide) ?_
  refine lv_istore_n hx hb d_Model_resource_3 rfl hl (by decide) rfl (fun ls hl => ?_)
  have hl : lv_has ls 7 [(2, .int (0 : Int32)), (1, .int (0 : Int32)), (0, .ref (G.2.1 51))] := hl
  refine lv_iconst (v := (0 : Int32)) hx hb d_Model_resource_4 (by decide) ?_
  refine lv_istore_n hx hb d_Model_resource_5 rfl hl (by decide) rfl (fun ls hl => ?_)
  have hl : lv_has ls 7 [(3, .int (0 : Int32)), (2, .int (0 : Int32)), (1, .int (0 : Int32)), (0, .ref (G.2.1 51))] := hl
  refine lv_iconst (v := (0 : Int32)) hx hb d_Model_resource_6 (by decide) ?_
  refine lv_istore hx hb d_Model_resource_7 hl (by decide) rfl (fun ls hl => ?_)
  have hl : lv_has ls 7 [(4, .int (0 : Int32)), (3, .int (0 : Int32)), (2, .int (0 : Int32)), (1, .int (0 : Int32)), (0, .ref (G.2.1 51))] := hl
  exact jn9 x_fuel _ _ _ _ _ hE (lv_sub hl [4, 3, 2, 1, 0] rfl)

def y_Model_takeChunkLine : MethodName := ⟨"PlainOriginModel", "takeChunkLine", "()V"⟩
def ws_Model_takeChunkLine : List Cond := Cond.code y_Model_takeChunkLine prog_14_method_34_code 4 none :: UW
theorem hd_Model_takeChunkLine : y_Model_takeChunkLine.cls = R_Model ∧ y_Model_takeChunkLine.cls ≠ "java/lang/invoke/MethodHandle" ∧ y_Model_takeChunkLine.cls ≠ "java/lang/invoke/VarHandle" ∧ (parseMethodDescriptor y_Model_takeChunkLine.desc).map (fun d => d.parameters.length) = some 0 := by decide +kernel
theorem d_Model_takeChunkLine_0 : decode prog_14_method_34_code 0 = .ok (.aload_n 0, 1) := by decide +kernel
theorem d_Model_takeChunkLine_1 : decode prog_14_method_34_code 1 = .ok (.bipush (59), 2) := by decide +kernel
theorem d_Model_takeChunkLine_3 : decode prog_14_method_34_code 3 = .ok (.iconst 0, 1) := by decide +kernel
theorem d_Model_takeChunkLine_4 : decode prog_14_method_34_code 4 = .ok (.invokevirtual 231, 3) := by decide +kernel
theorem d_Model_takeChunkLine_7 : decode prog_14_method_34_code 7 = .ok (.istore_n 1, 1) := by decide +kernel
theorem d_Model_takeChunkLine_8 : decode prog_14_method_34_code 8 = .ok (.aload_n 0, 1) := by decide +kernel
theorem d_Model_takeChunkLine_9 : decode prog_14_method_34_code 9 = .ok (.iload_n 1, 1) := by decide +kernel
theorem d_Model_takeChunkLine_10 : decode prog_14_method_34_code 10 = .ok (.ifCond .le (12), 3) := by decide +kernel
theorem d_Model_takeChunkLine_13 : decode prog_14_method_34_code 13 = .ok (.iload_n 1, 1) := by decide +kernel
theorem d_Model_takeChunkLine_14 : decode prog_14_method_34_code 14 = .ok (.iconst 4, 1) := by decide +kernel
theorem d_Model_takeChunkLine_15 : decode prog_14_method_34_code 15 = .ok (.if_icmp .ge (7), 3) := by decide +kernel
theorem d_Model_takeChunkLine_18 : decode prog_14_method_34_code 18 = .ok (.iconst 1, 1) := by decide +kernel
theorem d_Model_takeChunkLine_19 : decode prog_14_method_34_code 19 = .ok (.goto (4), 3) := by decide +kernel
theorem d_Model_takeChunkLine_22 : decode prog_14_method_34_code 22 = .ok (.iconst 0, 1) := by decide +kernel
theorem d_Model_takeChunkLine_23 : decode prog_14_method_34_code 23 = .ok (.sipush (400), 3) := by decide +kernel
theorem d_Model_takeChunkLine_26 : decode prog_14_method_34_code 26 = .ok (.invokevirtual 194, 3) := by decide +kernel
theorem d_Model_takeChunkLine_29 : decode prog_14_method_34_code 29 = .ok (.iconst 0, 1) := by decide +kernel
theorem d_Model_takeChunkLine_30 : decode prog_14_method_34_code 30 = .ok (.istore_n 2, 1) := by decide +kernel
theorem d_Model_takeChunkLine_31 : decode prog_14_method_34_code 31 = .ok (.iconst 0, 1) := by decide +kernel
theorem d_Model_takeChunkLine_32 : decode prog_14_method_34_code 32 = .ok (.istore_n 3, 1) := by decide +kernel
theorem d_Model_takeChunkLine_33 : decode prog_14_method_34_code 33 = .ok (.iload_n 3, 1) := by decide +kernel
theorem d_Model_takeChunkLine_34 : decode prog_14_method_34_code 34 = .ok (.aload_n 0, 1) := by decide +kernel
theorem d_Model_takeChunkLine_35 : decode prog_14_method_34_code 35 = .ok (.getfield 201, 3) := by decide +kernel
theorem d_Model_takeChunkLine_38 : decode prog_14_method_34_code 38 = .ok (.if_icmp .ge (81), 3) := by decide +kernel
theorem d_Model_takeChunkLine_41 : decode prog_14_method_34_code 41 = .ok (.aload_n 0, 1) := by decide +kernel
theorem d_Model_takeChunkLine_42 : decode prog_14_method_34_code 42 = .ok (.iload_n 3, 1) := by decide +kernel
theorem d_Model_takeChunkLine_43 : decode prog_14_method_34_code 43 = .ok (.iload_n 1, 1) := by decide +kernel
theorem d_Model_takeChunkLine_44 : decode prog_14_method_34_code 44 = .ok (.if_icmp .ge (23), 3) := by decide +kernel
theorem d_Model_takeChunkLine_47 : decode prog_14_method_34_code 47 = .ok (.aload_n 0, 1) := by decide +kernel
theorem d_Model_takeChunkLine_48 : decode prog_14_method_34_code 48 = .ok (.getfield 105, 3) := by decide +kernel
theorem d_Model_takeChunkLine_51 : decode prog_14_method_34_code 51 = .ok (.iload_n 3, 1) := by decide +kernel
theorem d_Model_takeChunkLine_52 : decode prog_14_method_34_code 52 = .ok (.iaload, 1) := by decide +kernel
theorem d_Model_takeChunkLine_53 : decode prog_14_method_34_code 53 = .ok (.invokestatic 219, 3) := by decide +kernel
theorem d_Model_takeChunkLine_56 : decode prog_14_method_34_code 56 = .ok (.ifCond .lt (7), 3) := by decide +kernel
theorem d_Model_takeChunkLine_59 : decode prog_14_method_34_code 59 = .ok (.iconst 1, 1) := by decide +kernel
theorem d_Model_takeChunkLine_60 : decode prog_14_method_34_code 60 = .ok (.goto (16), 3) := by decide +kernel
theorem d_Model_takeChunkLine_63 : decode prog_14_method_34_code 63 = .ok (.iconst 0, 1) := by decide +kernel
theorem d_Model_takeChunkLine_64 : decode prog_14_method_34_code 64 = .ok (.goto (12), 3) := by decide +kernel
theorem d_Model_takeChunkLine_67 : decode prog_14_method_34_code 67 = .ok (.aload_n 0, 1) := by decide +kernel
theorem d_Model_takeChunkLine_68 : decode prog_14_method_34_code 68 = .ok (.getfield 105, 3) := by decide +kernel
theorem d_Model_takeChunkLine_71 : decode prog_14_method_34_code 71 = .ok (.iload_n 3, 1) := by decide +kernel
theorem d_Model_takeChunkLine_72 : decode prog_14_method_34_code 72 = .ok (.iaload, 1) := by decide +kernel
theorem d_Model_takeChunkLine_73 : decode prog_14_method_34_code 73 = .ok (.invokestatic 248, 3) := by decide +kernel
theorem d_Model_takeChunkLine_76 : decode prog_14_method_34_code 76 = .ok (.sipush (400), 3) := by decide +kernel
theorem d_Model_takeChunkLine_79 : decode prog_14_method_34_code 79 = .ok (.invokevirtual 194, 3) := by decide +kernel
theorem d_Model_takeChunkLine_82 : decode prog_14_method_34_code 82 = .ok (.iload_n 3, 1) := by decide +kernel
theorem d_Model_takeChunkLine_83 : decode prog_14_method_34_code 83 = .ok (.iload_n 1, 1) := by decide +kernel
theorem d_Model_takeChunkLine_84 : decode prog_14_method_34_code 84 = .ok (.if_icmp .ge (27), 3) := by decide +kernel
theorem d_Model_takeChunkLine_87 : decode prog_14_method_34_code 87 = .ok (.aload_n 0, 1) := by decide +kernel
theorem d_Model_takeChunkLine_88 : decode prog_14_method_34_code 88 = .ok (.getfield 162, 3) := by decide +kernel
theorem d_Model_takeChunkLine_91 : decode prog_14_method_34_code 91 = .ok (.ifCond .ne (20), 3) := by decide +kernel
theorem d_Model_takeChunkLine_94 : decode prog_14_method_34_code 94 = .ok (.bipush (16), 2) := by decide +kernel
theorem d_Model_takeChunkLine_96 : decode prog_14_method_34_code 96 = .ok (.iload_n 2, 1) := by decide +kernel
theorem d_Model_takeChunkLine_97 : decode prog_14_method_34_code 97 = .ok (.imul, 1) := by decide +kernel
theorem d_Model_takeChunkLine_98 : decode prog_14_method_34_code 98 = .ok (.aload_n 0, 1) := by decide +kernel
theorem d_Model_takeChunkLine_99 : decode prog_14_method_34_code 99 = .ok (.getfield 105, 3) := by decide +kernel
theorem d_Model_takeChunkLine_102 : decode prog_14_method_34_code 102 = .ok (.iload_n 3, 1) := by decide +kernel
theorem d_Model_takeChunkLine_103 : decode prog_14_method_34_code 103 = .ok (.iaload, 1) := by decide +kernel
theorem d_Model_takeChunkLine_104 : decode prog_14_method_34_code 104 = .ok (.invokestatic 219, 3) := by decide +kernel
theorem d_Model_takeChunkLine_107 : decode prog_14_method_34_code 107 = .ok (.iadd, 1) := by decide +kernel
theorem d_Model_takeChunkLine_108 : decode prog_14_method_34_code 108 = .ok (.goto (4), 3) := by decide +kernel
theorem d_Model_takeChunkLine_111 : decode prog_14_method_34_code 111 = .ok (.iload_n 2, 1) := by decide +kernel
theorem d_Model_takeChunkLine_112 : decode prog_14_method_34_code 112 = .ok (.istore_n 2, 1) := by decide +kernel
theorem d_Model_takeChunkLine_113 : decode prog_14_method_34_code 113 = .ok (.iinc 3 (1), 3) := by decide +kernel
theorem d_Model_takeChunkLine_116 : decode prog_14_method_34_code 116 = .ok (.goto (-83), 3) := by decide +kernel
theorem d_Model_takeChunkLine_119 : decode prog_14_method_34_code 119 = .ok (.aload_n 0, 1) := by decide +kernel
theorem d_Model_takeChunkLine_120 : decode prog_14_method_34_code 120 = .ok (.aload_n 0, 1) := by decide +kernel
theorem d_Model_takeChunkLine_121 : decode prog_14_method_34_code 121 = .ok (.getfield 185, 3) := by decide +kernel
theorem d_Model_takeChunkLine_124 : decode prog_14_method_34_code 124 = .ok (.iload_n 2, 1) := by decide +kernel
theorem d_Model_takeChunkLine_125 : decode prog_14_method_34_code 125 = .ok (.iadd, 1) := by decide +kernel
theorem d_Model_takeChunkLine_126 : decode prog_14_method_34_code 126 = .ok (.sipush (200), 3) := by decide +kernel
theorem d_Model_takeChunkLine_129 : decode prog_14_method_34_code 129 = .ok (.if_icmp .gt (7), 3) := by decide +kernel
theorem d_Model_takeChunkLine_132 : decode prog_14_method_34_code 132 = .ok (.iconst 1, 1) := by decide +kernel
theorem d_Model_takeChunkLine_133 : decode prog_14_method_34_code 133 = .ok (.goto (4), 3) := by decide +kernel
theorem d_Model_takeChunkLine_136 : decode prog_14_method_34_code 136 = .ok (.iconst 0, 1) := by decide +kernel
theorem d_Model_takeChunkLine_137 : decode prog_14_method_34_code 137 = .ok (.sipush (413), 3) := by decide +kernel
theorem d_Model_takeChunkLine_140 : decode prog_14_method_34_code 140 = .ok (.invokevirtual 194, 3) := by decide +kernel
theorem d_Model_takeChunkLine_143 : decode prog_14_method_34_code 143 = .ok (.aload_n 0, 1) := by decide +kernel
theorem d_Model_takeChunkLine_144 : decode prog_14_method_34_code 144 = .ok (.iload_n 2, 1) := by decide +kernel
theorem d_Model_takeChunkLine_145 : decode prog_14_method_34_code 145 = .ok (.putfield 182, 3) := by decide +kernel
theorem d_Model_takeChunkLine_148 : decode prog_14_method_34_code 148 = .ok (.aload_n 0, 1) := by decide +kernel
theorem d_Model_takeChunkLine_149 : decode prog_14_method_34_code 149 = .ok (.iload_n 2, 1) := by decide +kernel
theorem d_Model_takeChunkLine_150 : decode prog_14_method_34_code 150 = .ok (.ifCond .le (7), 3) := by decide +kernel
theorem d_Model_takeChunkLine_153 : decode prog_14_method_34_code 153 = .ok (.iconst 4, 1) := by decide +kernel
theorem d_Model_takeChunkLine_154 : decode prog_14_method_34_code 154 = .ok (.goto (4), 3) := by decide +kernel
theorem d_Model_takeChunkLine_157 : decode prog_14_method_34_code 157 = .ok (.iconst 5, 1) := by decide +kernel
theorem d_Model_takeChunkLine_158 : decode prog_14_method_34_code 158 = .ok (.putfield 179, 3) := by decide +kernel
theorem d_Model_takeChunkLine_161 : decode prog_14_method_34_code 161 = .ok (.return_, 1) := by decide +kernel
def x_Model_takeChunkLine_137 (l2 : Int32) (k0 : Int32) (σ : St) : Option St := (Option.bind (x_Model_blame k0 (413 : Int32) σ) (fun s140 => (x_let (x_updR s140 51 21 l2) (fun (s145 : St) => (if l2 ≤ 0 then (x_let (x_updR s145 51 8 (5 : Int32)) (fun (s158 : St) => some s158)) else (x_let (x_updR s145 51 8 (4 : Int32)) (fun (s158 : St) => some s158)))))))
def x_Model_takeChunkLine_112 (bk33 : Int32 → Int32 → Int32 → St → Option St) (l1 : Int32) (l3 : Int32) (k0 : Int32) (σ : St) : Option St := (x_let (l3 + (1 : Int32)) (fun (v113 : Int32) => bk33 l1 k0 v113 σ))
def x_Model_takeChunkLine_111 (bk33 : Int32 → Int32 → Int32 → St → Option St) (l1 : Int32) (l2 : Int32) (l3 : Int32) (σ : St) : Option St := x_Model_takeChunkLine_112 bk33 l1 l3 l2 σ
def x_Model_takeChunkLine_76 (bk33 : Int32 → Int32 → Int32 → St → Option St) (l1 : Int32) (l2 : Int32) (l3 : Int32) (k0 : Int32) (σ : St) : Option St := (Option.bind (x_Model_blame k0 (400 : Int32) σ) (fun s79 => (if l1 ≤ l3 then x_Model_takeChunkLine_111 bk33 l1 l2 l3 s79 else (if (s79.1 51 25) = 0 then (if x_in l3 80 then (Option.bind (x_Model_hexOf (s79.2.1 57 l3.toNatClampNeg)) (fun r104 => x_Model_takeChunkLine_112 bk33 l1 l3 (((16 : Int32) * l2) + r104) s79)) else none) else x_Model_takeChunkLine_111 bk33 l1 l2 l3 s79))))
def x_Model_takeChunkLine_33 : Nat → Int32 → Int32 → Int32 → St → Option St
  | 0, _, _, _, _ => none
  | n + 1, l1, l2, l3, σ => (if (σ.1 51 10) ≤ l3 then (if (200 : Int32) < ((σ.1 51 22) + l2) then x_Model_takeChunkLine_137 l2 (0 : Int32) σ else x_Model_takeChunkLine_137 l2 (1 : Int32) σ) else (if l1 ≤ l3 then (if x_in l3 80 then (Option.bind (x_Model_isShown (σ.2.1 57 l3.toNatClampNeg)) (fun r73 => x_Model_takeChunkLine_76 (x_Model_takeChunkLine_33 n) l1 l2 l3 r73 σ)) else none) else (if x_in l3 80 then (Option.bind (x_Model_hexOf (σ.2.1 57 l3.toNatClampNeg)) (fun r53 => (if r53 < 0 then x_Model_takeChunkLine_76 (x_Model_takeChunkLine_33 n) l1 l2 l3 (0 : Int32) σ else x_Model_takeChunkLine_76 (x_Model_takeChunkLine_33 n) l1 l2 l3 (1 : Int32) σ))) else none)))
def x_Model_takeChunkLine_23 (l1 : Int32) (k0 : Int32) (σ : St) : Option St := (Option.bind (x_Model_blame k0 (400 : Int32) σ) (fun s26 => x_Model_takeChunkLine_33 x_fuel l1 (0 : Int32) (0 : Int32) s26))
def x_Model_takeChunkLine_22 (l1 : Int32) (σ : St) : Option St := x_Model_takeChunkLine_23 l1 (0 : Int32) σ
def x_Model_takeChunkLine (σ : St) : Option St := (Option.bind (x_Model_find (59 : Int32) (0 : Int32) σ) (fun r4 => (if r4 ≤ 0 then x_Model_takeChunkLine_22 r4 σ else (if (4 : Int32) ≤ r4 then x_Model_takeChunkLine_22 r4 σ else x_Model_takeChunkLine_23 r4 (1 : Int32) σ))))
abbrev rm_Model_takeChunkLine : Room := { frames := 3, cells := 0, slots := 0, locals := 62 }
set_option maxHeartbeats 4000000 in
set_option maxRecDepth 100000 in
theorem t_Model_takeChunkLine (l : Launch) (G : xG) (σ : St) (σ' : St) (hE : x_Model_takeChunkLine σ = some σ') : Met l y_Model_takeChunkLine (ws_Model_takeChunkLine) rm_Model_takeChunkLine (xP G σ [.ref (G.2.1 51)]) (xQ G none σ') 0 0 (xA G) := by
  refine Met.ofW (cc := prog_14_method_34_code) (maxL := 4) (ret := none) (by decide) rfl ?_
  intro p e s m args below meth c s₁ B hml hv
  obtain ⟨rfl, hw, hC⟩ := hv
  have hx := B.exec
  have hb := B.bytes
  have hr := B.returns
  have hu : ∀ w ∈ UW, w.before _ s = true := fun w h => atoms_spec B.pre w (List.mem_cons_of_mem _ h)
  have hown : s.vm.findClass R_Model = some m.cls := findClass_of_methodNamed B.named
  have hlocks := B.notSynchronized
  have hK := hC.1
  have hI := hC.2.1
  have hG := hC.2.2.1
  have hS : va_S (xA G) s.heap s.heap [] := va_S.rf
  have jn137 : ∀ (ls : Array Slot) (H : Heap) (locs : List Loc) (σ : St) (l2 : Int32) (k0 : Int32), x_Model_takeChunkLine_137 l2 k0 σ = some σ' → lv_has ls 4 [(0, .ref (G.2.1 51)), (2, .int l2)] → xw G σ H → va_S (xA G) s.heap H locs → W p l e (headSpec (ws_Model_takeChunkLine) rm_Model_takeChunkLine).room s m ([.ref (G.2.1 51)] : List Value).toArray below meth c H locs 0 0 (MQ below (xQ G none σ') ([.ref (G.2.1 51)] : List Value).toArray s 0 0 (xA G)) (F0 m 137 ls [.int k0, .ref (G.2.1 51)]) := by
    intro ls H locs σ l2 k0 hE hl hw hS
    unfold x_Model_takeChunkLine_137 at hE
    refine lv_sipush (v := (413 : Int32)) hx hb d_Model_takeChunkLine_137 (by decide) ?_
    obtain ⟨s140, hC140, hE⟩ := x_bind hE
    refine x_callV hS (W.runV (As := [.int k0, .int (413 : Int32)]) (rest := []) ⟨hx, hb, hml, hown, hu⟩ (t_Model_blame l G σ k0 (413 : Int32) s140 hC140) (cwV 2 hu (uw_V mw_1279 mw_1281 mw_45 mw_70 mw_1282) rfl rfl rfl hd_Model_blame ⟨Nat.le_of_ble_eq_true rfl, Nat.le_of_ble_eq_true rfl⟩) (x_preV hC hS hw (va_recv hK hw (q := (R_Model, T_Model, 33)) (ci := 10) rfl (x_at (by decide) (xcl_51 G σ)))) rfl rfl hl.1 rfl (lv_room (Nat.le_of_ble_eq_true rfl)) d_Model_takeChunkLine_140 ⟨Nat.le_of_ble_eq_true rfl, Nat.le_of_ble_eq_true rfl⟩) (fun H locs hw hS => ?_)
    refine lv_aload_n hx hb d_Model_takeChunkLine_143 rfl (lv_at hl 0 rfl) ?_
    refine lv_iload_n hx hb d_Model_takeChunkLine_144 rfl (lv_at hl 1 rfl) ?_
    refine va_put (D := G.1) (cl := xCl) (ci := 10) (v := .int l2) (ty := .int) (C := R_Model) (T := T_Model) (N := 33) hx hb hu fi_Model ty_Model tyok_Model nm_Model hown hK hw (x_D hI _) hS 51 (x_at (by decide) (xcl_51 G s140)) rfl 21 (by decide) (hu _ mw_1089) (fun _ h9 => h9) rfl (tyok_Model 21 (by decide)) rfl rfl (Nat.le_of_ble_eq_true rfl) d_Model_takeChunkLine_145 (fun H locs hw _ hS => ?_)
    replace hw := x_setR hw (by decide) rfl
    obtain ⟨s145, e145, hE⟩ := x_letE hE
    rw [← e145] at hw
    refine lv_aload_n hx hb d_Model_takeChunkLine_148 rfl (lv_at hl 0 rfl) ?_
    refine lv_iload_n hx hb d_Model_takeChunkLine_149 rfl (lv_at hl 1 rfl) ?_
    refine lv_if_le (tgt := 157) hx hb d_Model_takeChunkLine_150 (by decide) (fun hc150 => ?_) (fun hc150 => ?_)
    · rw [if_pos hc150] at hE
      refine lv_iconst (v := (5 : Int32)) hx hb d_Model_takeChunkLine_157 (by decide) ?_
      refine va_put (D := G.1) (cl := xCl) (ci := 10) (v := .int (5 : Int32)) (ty := .int) (C := R_Model) (T := T_Model) (N := 33) hx hb hu fi_Model ty_Model tyok_Model nm_Model hown hK hw (x_D hI _) hS 51 (x_at (by decide) (xcl_51 G s145)) rfl 8 (by decide) (hu _ mw_1076) (fun _ h9 => h9) rfl (tyok_Model 8 (by decide)) rfl rfl (Nat.le_of_ble_eq_true rfl) d_Model_takeChunkLine_158 (fun H locs hw _ hS => ?_)
      replace hw := x_setR hw (by decide) rfl
      obtain ⟨s158, e158, hE⟩ := x_letE hE
      rw [← e158] at hw
      have e1 := Option.some.inj hE
      exact W.vret hx hb hr (fun t ht hW => ⟨rfl, by rw [ht, ← e1]; exact hw, hS.F ht⟩) hS.2.2 d_Model_takeChunkLine_161
    · rw [if_neg hc150] at hE
      refine lv_iconst (v := (4 : Int32)) hx hb d_Model_takeChunkLine_153 (by decide) ?_
      refine lv_goto (tgt := 158) hx hb d_Model_takeChunkLine_154 (by decide) ?_
      refine va_put (D := G.1) (cl := xCl) (ci := 10) (v := .int (4 : Int32)) (ty := .int) (C := R_Model) (T := T_Model) (N := 33) hx hb hu fi_Model ty_Model tyok_Model nm_Model hown hK hw (x_D hI _) hS 51 (x_at (by decide) (xcl_51 G s145)) rfl 8 (by decide) (hu _ mw_1076) (fun _ h9 => h9) rfl (tyok_Model 8 (by decide)) rfl rfl (Nat.le_of_ble_eq_true rfl) d_Model_takeChunkLine_158 (fun H locs hw _ hS => ?_)
      replace hw := x_setR hw (by decide) rfl
      obtain ⟨s158, e158, hE⟩ := x_letE hE
      rw [← e158] at hw
      have e1 := Option.some.inj hE
      exact W.vret hx hb hr (fun t ht hW => ⟨rfl, by rw [ht, ← e1]; exact hw, hS.F ht⟩) hS.2.2 d_Model_takeChunkLine_161
  have jn112 : ∀ (bk33 : Int32 → Int32 → Int32 → St → Option St) (hbk33 : ∀ (ls : Array Slot) (H : Heap) (locs : List Loc) (σ : St) (l1 : Int32) (l2 : Int32) (l3 : Int32), bk33 l1 l2 l3 σ = some σ' → lv_has ls 4 [(0, .ref (G.2.1 51)), (1, .int l1), (2, .int l2), (3, .int l3)] → xw G σ H → va_S (xA G) s.heap H locs → W p l e (headSpec (ws_Model_takeChunkLine) rm_Model_takeChunkLine).room s m ([.ref (G.2.1 51)] : List Value).toArray below meth c H locs 0 0 (MQ below (xQ G none σ') ([.ref (G.2.1 51)] : List Value).toArray s 0 0 (xA G)) (F0 m 33 ls [])) (ls : Array Slot) (H : Heap) (locs : List Loc) (σ : St) (l1 : Int32) (l3 : Int32) (k0 : Int32), x_Model_takeChunkLine_112 bk33 l1 l3 k0 σ = some σ' → lv_has ls 4 [(0, .ref (G.2.1 51)), (1, .int l1), (3, .int l3)] → xw G σ H → va_S (xA G) s.heap H locs → W p l e (headSpec (ws_Model_takeChunkLine) rm_Model_takeChunkLine).room s m ([.ref (G.2.1 51)] : List Value).toArray below meth c H locs 0 0 (MQ below (xQ G none σ') ([.ref (G.2.1 51)] : List Value).toArray s 0 0 (xA G)) (F0 m 112 ls [.int k0]) := by
    intro bk33 hbk33 ls H locs σ l1 l3 k0 hE hl hw hS
    unfold x_Model_takeChunkLine_112 at hE
    refine lv_istore_n hx hb d_Model_takeChunkLine_112 rfl hl (by decide) rfl (fun ls hl => ?_)
    have hl : lv_has ls 4 [(2, .int k0), (0, .ref (G.2.1 51)), (1, .int l1), (3, .int l3)] := hl
    obtain ⟨v113, e113, hE⟩ := x_letE hE
    refine lv_iinc hx hb d_Model_takeChunkLine_113 hl (k := 3) rfl (x_inc v113 e113 (by decide)) (by decide) rfl (fun ls hl => ?_)
    have hl : lv_has ls 4 [(3, .int v113), (2, .int k0), (0, .ref (G.2.1 51)), (1, .int l1)] := hl
    refine lv_goto (tgt := 33) hx hb d_Model_takeChunkLine_116 (by decide) ?_
    exact hbk33 _ _ _ _ _ _ _ hE (lv_sub hl [2, 3, 1, 0] rfl) hw hS
  have jn111 : ∀ (bk33 : Int32 → Int32 → Int32 → St → Option St) (hbk33 : ∀ (ls : Array Slot) (H : Heap) (locs : List Loc) (σ : St) (l1 : Int32) (l2 : Int32) (l3 : Int32), bk33 l1 l2 l3 σ = some σ' → lv_has ls 4 [(0, .ref (G.2.1 51)), (1, .int l1), (2, .int l2), (3, .int l3)] → xw G σ H → va_S (xA G) s.heap H locs → W p l e (headSpec (ws_Model_takeChunkLine) rm_Model_takeChunkLine).room s m ([.ref (G.2.1 51)] : List Value).toArray below meth c H locs 0 0 (MQ below (xQ G none σ') ([.ref (G.2.1 51)] : List Value).toArray s 0 0 (xA G)) (F0 m 33 ls [])) (ls : Array Slot) (H : Heap) (locs : List Loc) (σ : St) (l1 : Int32) (l2 : Int32) (l3 : Int32), x_Model_takeChunkLine_111 bk33 l1 l2 l3 σ = some σ' → lv_has ls 4 [(0, .ref (G.2.1 51)), (1, .int l1), (2, .int l2), (3, .int l3)] → xw G σ H → va_S (xA G) s.heap H locs → W p l e (headSpec (ws_Model_takeChunkLine) rm_Model_takeChunkLine).room s m ([.ref (G.2.1 51)] : List Value).toArray below meth c H locs 0 0 (MQ below (xQ G none σ') ([.ref (G.2.1 51)] : List Value).toArray s 0 0 (xA G)) (F0 m 111 ls []) := by
    intro bk33 hbk33 ls H locs σ l1 l2 l3 hE hl hw hS
    unfold x_Model_takeChunkLine_111 at hE
    refine lv_iload_n hx hb d_Model_takeChunkLine_111 rfl (lv_at hl 2 rfl) ?_
    exact jn112 _ hbk33 _ _ _ _ _ _ _ hE (lv_sub hl [0, 1, 3] rfl) hw hS
  have jn76 : ∀ (bk33 : Int32 → Int32 → Int32 → St → Option St) (hbk33 : ∀ (ls : Array Slot) (H : Heap) (locs : List Loc) (σ : St) (l1 : Int32) (l2 : Int32) (l3 : Int32), bk33 l1 l2 l3 σ = some σ' → lv_has ls 4 [(0, .ref (G.2.1 51)), (1, .int l1), (2, .int l2), (3, .int l3)] → xw G σ H → va_S (xA G) s.heap H locs → W p l e (headSpec (ws_Model_takeChunkLine) rm_Model_takeChunkLine).room s m ([.ref (G.2.1 51)] : List Value).toArray below meth c H locs 0 0 (MQ below (xQ G none σ') ([.ref (G.2.1 51)] : List Value).toArray s 0 0 (xA G)) (F0 m 33 ls [])) (ls : Array Slot) (H : Heap) (locs : List Loc) (σ : St) (l1 : Int32) (l2 : Int32) (l3 : Int32) (k0 : Int32), x_Model_takeChunkLine_76 bk33 l1 l2 l3 k0 σ = some σ' → lv_has ls 4 [(0, .ref (G.2.1 51)), (1, .int l1), (2, .int l2), (3, .int l3)] → xw G σ H → va_S (xA G) s.heap H locs → W p l e (headSpec (ws_Model_takeChunkLine) rm_Model_takeChunkLine).room s m ([.ref (G.2.1 51)] : List Value).toArray below meth c H locs 0 0 (MQ below (xQ G none σ') ([.ref (G.2.1 51)] : List Value).toArray s 0 0 (xA G)) (F0 m 76 ls [.int k0, .ref (G.2.1 51)]) := by
    intro bk33 hbk33 ls H locs σ l1 l2 l3 k0 hE hl hw hS
    unfold x_Model_takeChunkLine_76 at hE
    refine lv_sipush (v := (400 : Int32)) hx hb d_Model_takeChunkLine_76 (by decide) ?_
    obtain ⟨s79, hC79, hE⟩ := x_bind hE
    refine x_callV hS (W.runV (As := [.int k0, .int (400 : Int32)]) (rest := []) ⟨hx, hb, hml, hown, hu⟩ (t_Model_blame l G σ k0 (400 : Int32) s79 hC79) (cwV 2 hu (uw_V mw_1279 mw_1281 mw_45 mw_70 mw_1282) rfl rfl rfl hd_Model_blame ⟨Nat.le_of_ble_eq_true rfl, Nat.le_of_ble_eq_true rfl⟩) (x_preV hC hS hw (va_recv hK hw (q := (R_Model, T_Model, 33)) (ci := 10) rfl (x_at (by decide) (xcl_51 G σ)))) rfl rfl hl.1 rfl (lv_room (Nat.le_of_ble_eq_true rfl)) d_Model_takeChunkLine_79 ⟨Nat.le_of_ble_eq_true rfl, Nat.le_of_ble_eq_true rfl⟩) (fun H locs hw hS => ?_)
    refine lv_iload_n hx hb d_Model_takeChunkLine_82 rfl (lv_at hl 3 rfl) ?_
    refine lv_iload_n hx hb d_Model_takeChunkLine_83 rfl (lv_at hl 1 rfl) ?_
    refine lv_icmp_ge (tgt := 111) hx hb d_Model_takeChunkLine_84 (by decide) (fun hc84 => ?_) (fun hc84 => ?_)
    · rw [if_pos hc84] at hE
      exact jn111 _ hbk33 _ _ _ _ _ _ _ hE (lv_sub hl [0, 1, 2, 3] rfl) hw hS
    · rw [if_neg hc84] at hE
      refine lv_aload_n hx hb d_Model_takeChunkLine_87 rfl (lv_at hl 0 rfl) ?_
      refine va_get (D := G.1) (cl := xCl) (ci := 10) (v := .int (s79.1 51 25)) (C := R_Model) (T := T_Model) (N := 33) hx hb hu fi_Model hown hK hw 51 (x_at (by decide) (xcl_51 G s79)) rfl 25 (by decide) (hu _ mw_1093) (fun _ h9 => h9) rfl d_Model_takeChunkLine_88 ?_
      refine lv_if_ne (tgt := 111) hx hb d_Model_takeChunkLine_91 (by decide) (fun hc91 => ?_) (fun hc91 => ?_)
      · rw [if_neg hc91] at hE
        exact jn111 _ hbk33 _ _ _ _ _ _ _ hE (lv_sub hl [0, 1, 2, 3] rfl) hw hS
      · rw [if_pos hc91] at hE
        refine lv_bipush (v := (16 : Int32)) hx hb d_Model_takeChunkLine_94 (by decide) ?_
        refine lv_iload_n hx hb d_Model_takeChunkLine_96 rfl (lv_at hl 2 rfl) ?_
        refine lv_imul hx hb d_Model_takeChunkLine_97 ?_
        refine lv_aload_n hx hb d_Model_takeChunkLine_98 rfl (lv_at hl 0 rfl) ?_
        refine va_get (D := G.1) (cl := xCl) (ci := 10) (v := .ref (G.2.1 57)) (C := R_Model) (T := T_Model) (N := 33) hx hb hu fi_Model hown hK hw 51 (x_at (by decide) (xcl_51 G s79)) rfl 11 (by decide) (hu _ mw_1079) (fun _ h9 => h9) rfl d_Model_takeChunkLine_99 ?_
        refine lv_iload_n hx hb d_Model_takeChunkLine_102 rfl (lv_at hl 3 rfl) ?_
        obtain ⟨g103, hE⟩ := x_guard hE
        refine va_iald hx hb hK hw 57 0 (x_at (by decide) (xcl_57 G s79)) rfl g103 d_Model_takeChunkLine_103 ?_
        obtain ⟨r104, hC104, hE⟩ := x_bind hE
        refine x_callR (W.runS (As := [.int (s79.2.1 57 l3.toNatClampNeg)]) (rest := [.int ((16 : Int32) * l2)]) ⟨hx, hb, hml, hown, hu⟩ (t_Model_hexOf l G s79 (s79.2.1 57 l3.toNatClampNeg) r104 hC104) (va_cwS 1 hu (uw_S mw_1194 mw_1195 mw_70 mw_1196) rfl rfl rfl hd_Model_hexOf ⟨Nat.le_of_ble_eq_true rfl, Nat.le_of_ble_eq_true rfl⟩) (x_preS hC hS hw) rfl rfl hl.1 rfl (lv_room (Nat.le_of_ble_eq_true rfl)) d_Model_takeChunkLine_104 ⟨Nat.le_of_ble_eq_true rfl, Nat.le_of_ble_eq_true rfl⟩) ?_
        refine lv_iadd hx hb d_Model_takeChunkLine_107 ?_
        refine lv_goto (tgt := 112) hx hb d_Model_takeChunkLine_108 (by decide) ?_
        exact jn112 _ hbk33 _ _ _ _ _ _ _ hE (lv_sub hl [0, 1, 3] rfl) hw hS
  have jn33 : ∀ (n : Nat) (ls : Array Slot) (H : Heap) (locs : List Loc) (σ : St) (l1 : Int32) (l2 : Int32) (l3 : Int32), x_Model_takeChunkLine_33 n l1 l2 l3 σ = some σ' → lv_has ls 4 [(0, .ref (G.2.1 51)), (1, .int l1), (2, .int l2), (3, .int l3)] → xw G σ H → va_S (xA G) s.heap H locs → W p l e (headSpec (ws_Model_takeChunkLine) rm_Model_takeChunkLine).room s m ([.ref (G.2.1 51)] : List Value).toArray below meth c H locs 0 0 (MQ below (xQ G none σ') ([.ref (G.2.1 51)] : List Value).toArray s 0 0 (xA G)) (F0 m 33 ls []) := by
    intro n
    induction n with
    | zero => intro ls H locs σ l1 l2 l3 hE; rw [x_Model_takeChunkLine_33] at hE; cases hE
    | succ n ih =>
      intro ls H locs σ l1 l2 l3 hE hl hw hS
      rw [x_Model_takeChunkLine_33] at hE
      refine lv_iload_n hx hb d_Model_takeChunkLine_33 rfl (lv_at hl 3 rfl) ?_
      refine lv_aload_n hx hb d_Model_takeChunkLine_34 rfl (lv_at hl 0 rfl) ?_
      refine va_get (D := G.1) (cl := xCl) (ci := 10) (v := .int (σ.1 51 10)) (C := R_Model) (T := T_Model) (N := 33) hx hb hu fi_Model hown hK hw 51 (x_at (by decide) (xcl_51 G σ)) rfl 10 (by decide) (hu _ mw_1078) (fun _ h9 => h9) rfl d_Model_takeChunkLine_35 ?_
      refine lv_icmp_ge (tgt := 119) hx hb d_Model_takeChunkLine_38 (by decide) (fun hc38 => ?_) (fun hc38 => ?_)
      · rw [if_pos hc38] at hE
        refine lv_aload_n hx hb d_Model_takeChunkLine_119 rfl (lv_at hl 0 rfl) ?_
        refine lv_aload_n hx hb d_Model_takeChunkLine_120 rfl (lv_at hl 0 rfl) ?_
        refine va_get (D := G.1) (cl := xCl) (ci := 10) (v := .int (σ.1 51 22)) (C := R_Model) (T := T_Model) (N := 33) hx hb hu fi_Model hown hK hw 51 (x_at (by decide) (xcl_51 G σ)) rfl 22 (by decide) (hu _ mw_1090) (fun _ h9 => h9) rfl d_Model_takeChunkLine_121 ?_
        refine lv_iload_n hx hb d_Model_takeChunkLine_124 rfl (lv_at hl 2 rfl) ?_
        refine lv_iadd hx hb d_Model_takeChunkLine_125 ?_
        refine lv_sipush (v := (200 : Int32)) hx hb d_Model_takeChunkLine_126 (by decide) ?_
        refine lv_icmp_gt (tgt := 136) hx hb d_Model_takeChunkLine_129 (by decide) (fun hc129 => ?_) (fun hc129 => ?_)
        · rw [if_pos hc129] at hE
          refine lv_iconst (v := (0 : Int32)) hx hb d_Model_takeChunkLine_136 (by decide) ?_
          exact jn137 _ _ _ _ _ _ hE (lv_sub hl [0, 2] rfl) hw hS
        · rw [if_neg hc129] at hE
          refine lv_iconst (v := (1 : Int32)) hx hb d_Model_takeChunkLine_132 (by decide) ?_
          refine lv_goto (tgt := 137) hx hb d_Model_takeChunkLine_133 (by decide) ?_
          exact jn137 _ _ _ _ _ _ hE (lv_sub hl [0, 2] rfl) hw hS
      · rw [if_neg hc38] at hE
        refine lv_aload_n hx hb d_Model_takeChunkLine_41 rfl (lv_at hl 0 rfl) ?_
        refine lv_iload_n hx hb d_Model_takeChunkLine_42 rfl (lv_at hl 3 rfl) ?_
        refine lv_iload_n hx hb d_Model_takeChunkLine_43 rfl (lv_at hl 1 rfl) ?_
        refine lv_icmp_ge (tgt := 67) hx hb d_Model_takeChunkLine_44 (by decide) (fun hc44 => ?_) (fun hc44 => ?_)
        · rw [if_pos hc44] at hE
          refine lv_aload_n hx hb d_Model_takeChunkLine_67 rfl (lv_at hl 0 rfl) ?_
          refine va_get (D := G.1) (cl := xCl) (ci := 10) (v := .ref (G.2.1 57)) (C := R_Model) (T := T_Model) (N := 33) hx hb hu fi_Model hown hK hw 51 (x_at (by decide) (xcl_51 G σ)) rfl 11 (by decide) (hu _ mw_1079) (fun _ h9 => h9) rfl d_Model_takeChunkLine_68 ?_
          refine lv_iload_n hx hb d_Model_takeChunkLine_71 rfl (lv_at hl 3 rfl) ?_
          obtain ⟨g72, hE⟩ := x_guard hE
          refine va_iald hx hb hK hw 57 0 (x_at (by decide) (xcl_57 G σ)) rfl g72 d_Model_takeChunkLine_72 ?_
          obtain ⟨r73, hC73, hE⟩ := x_bind hE
          refine x_callR (W.runS (As := [.int (σ.2.1 57 l3.toNatClampNeg)]) (rest := [.ref (G.2.1 51)]) ⟨hx, hb, hml, hown, hu⟩ (t_Model_isShown l G σ (σ.2.1 57 l3.toNatClampNeg) r73 hC73) (va_cwS 1 hu (uw_S mw_1320 mw_1321 mw_70 mw_1322) rfl rfl rfl hd_Model_isShown ⟨Nat.le_of_ble_eq_true rfl, Nat.le_of_ble_eq_true rfl⟩) (x_preS hC hS hw) rfl rfl hl.1 rfl (lv_room (Nat.le_of_ble_eq_true rfl)) d_Model_takeChunkLine_73 ⟨Nat.le_of_ble_eq_true rfl, Nat.le_of_ble_eq_true rfl⟩) ?_
          exact jn76 _ ih _ _ _ _ _ _ _ _ hE (lv_sub hl [0, 1, 2, 3] rfl) hw hS
        · rw [if_neg hc44] at hE
          refine lv_aload_n hx hb d_Model_takeChunkLine_47 rfl (lv_at hl 0 rfl) ?_
          refine va_get (D := G.1) (cl := xCl) (ci := 10) (v := .ref (G.2.1 57)) (C := R_Model) (T := T_Model) (N := 33) hx hb hu fi_Model hown hK hw 51 (x_at (by decide) (xcl_51 G σ)) rfl 11 (by decide) (hu _ mw_1079) (fun _ h9 => h9) rfl d_Model_takeChunkLine_48 ?_
          refine lv_iload_n hx hb d_Model_takeChunkLine_51 rfl (lv_at hl 3 rfl) ?_
          obtain ⟨g52, hE⟩ := x_guard hE
          refine va_iald hx hb hK hw 57 0 (x_at (by decide) (xcl_57 G σ)) rfl g52 d_Model_takeChunkLine_52 ?_
          obtain ⟨r53, hC53, hE⟩ := x_bind hE
          refine x_callR (W.runS (As := [.int (σ.2.1 57 l3.toNatClampNeg)]) (rest := [.ref (G.2.1 51)]) ⟨hx, hb, hml, hown, hu⟩ (t_Model_hexOf l G σ (σ.2.1 57 l3.toNatClampNeg) r53 hC53) (va_cwS 1 hu (uw_S mw_1194 mw_1195 mw_70 mw_1196) rfl rfl rfl hd_Model_hexOf ⟨Nat.le_of_ble_eq_true rfl, Nat.le_of_ble_eq_true rfl⟩) (x_preS hC hS hw) rfl rfl hl.1 rfl (lv_room (Nat.le_of_ble_eq_true rfl)) d_Model_takeChunkLine_53 ⟨Nat.le_of_ble_eq_true rfl, Nat.le_of_ble_eq_true rfl⟩) ?_
          refine lv_if_lt (tgt := 63) hx hb d_Model_takeChunkLine_56 (by decide) (fun hc56 => ?_) (fun hc56 => ?_)
          · rw [if_pos hc56] at hE
            refine lv_iconst (v := (0 : Int32)) hx hb d_Model_takeChunkLine_63 (by decide) ?_
            refine lv_goto (tgt := 76) hx hb d_Model_takeChunkLine_64 (by decide) ?_
            exact jn76 _ ih _ _ _ _ _ _ _ _ hE (lv_sub hl [0, 1, 2, 3] rfl) hw hS
          · rw [if_neg hc56] at hE
            refine lv_iconst (v := (1 : Int32)) hx hb d_Model_takeChunkLine_59 (by decide) ?_
            refine lv_goto (tgt := 76) hx hb d_Model_takeChunkLine_60 (by decide) ?_
            exact jn76 _ ih _ _ _ _ _ _ _ _ hE (lv_sub hl [0, 1, 2, 3] rfl) hw hS
  have jn23 : ∀ (ls : Array Slot) (H : Heap) (locs : List Loc) (σ : St) (l1 : Int32) (k0 : Int32), x_Model_takeChunkLine_23 l1 k0 σ = some σ' → lv_has ls 4 [(0, .ref (G.2.1 51)), (1, .int l1)] → xw G σ H → va_S (xA G) s.heap H locs → W p l e (headSpec (ws_Model_takeChunkLine) rm_Model_takeChunkLine).room s m ([.ref (G.2.1 51)] : List Value).toArray below meth c H locs 0 0 (MQ below (xQ G none σ') ([.ref (G.2.1 51)] : List Value).toArray s 0 0 (xA G)) (F0 m 23 ls [.int k0, .ref (G.2.1 51)]) := by
    intro ls H locs σ l1 k0 hE hl hw hS
    unfold x_Model_takeChunkLine_23 at hE
    refine lv_sipush (v := (400 : Int32)) hx hb d_Model_takeChunkLine_23 (by decide) ?_
    obtain ⟨s26, hC26, hE⟩ := x_bind hE
    refine x_callV hS (W.runV (As := [.int k0, .int (400 : Int32)]) (rest := []) ⟨hx, hb, hml, hown, hu⟩ (t_Model_blame l G σ k0 (400 : Int32) s26 hC26) (cwV 2 hu (uw_V mw_1279 mw_1281 mw_45 mw_70 mw_1282) rfl rfl rfl hd_Model_blame ⟨Nat.le_of_ble_eq_true rfl, Nat.le_of_ble_eq_true rfl⟩) (x_preV hC hS hw (va_recv hK hw (q := (R_Model, T_Model, 33)) (ci := 10) rfl (x_at (by decide) (xcl_51 G σ)))) rfl rfl hl.1 rfl (lv_room (Nat.le_of_ble_eq_true rfl)) d_Model_takeChunkLine_26 ⟨Nat.le_of_ble_eq_true rfl, Nat.le_of_ble_eq_true rfl⟩) (fun H locs hw hS => ?_)
    refine lv_iconst (v := (0 : Int32)) hx hb d_Model_takeChunkLine_29 (by decide) ?_
    refine lv_istore_n hx hb d_Model_takeChunkLine_30 rfl hl (by decide) rfl (fun ls hl => ?_)
    have hl : lv_has ls 4 [(2, .int (0 : Int32)), (0, .ref (G.2.1 51)), (1, .int l1)] := hl
    refine lv_iconst (v := (0 : Int32)) hx hb d_Model_takeChunkLine_31 (by decide) ?_
    refine lv_istore_n hx hb d_Model_takeChunkLine_32 rfl hl (by decide) rfl (fun ls hl => ?_)
    have hl : lv_has ls 4 [(3, .int (0 : Int32)), (2, .int (0 : Int32)), (0, .ref (G.2.1 51)), (1, .int l1)] := hl
    exact jn33 x_fuel _ _ _ _ _ _ _ hE (lv_sub hl [2, 3, 1, 0] rfl) hw hS
  have jn22 : ∀ (ls : Array Slot) (H : Heap) (locs : List Loc) (σ : St) (l1 : Int32), x_Model_takeChunkLine_22 l1 σ = some σ' → lv_has ls 4 [(0, .ref (G.2.1 51)), (1, .int l1)] → xw G σ H → va_S (xA G) s.heap H locs → W p l e (headSpec (ws_Model_takeChunkLine) rm_Model_takeChunkLine).room s m ([.ref (G.2.1 51)] : List Value).toArray below meth c H locs 0 0 (MQ below (xQ G none σ') ([.ref (G.2.1 51)] : List Value).toArray s 0 0 (xA G)) (F0 m 22 ls [.ref (G.2.1 51)]) := by
    intro ls H locs σ l1 hE hl hw hS
    unfold x_Model_takeChunkLine_22 at hE
    refine lv_iconst (v := (0 : Int32)) hx hb d_Model_takeChunkLine_22 (by decide) ?_
    exact jn23 _ _ _ _ _ _ hE (lv_sub hl [0, 1] rfl) hw hS
  have hl := lv_entry ([.ref (G.2.1 51)]) (n := 4) (Nat.le_of_ble_eq_true rfl)
  rw [lg_entry_eq]
  generalize (lg_sl ([.ref (G.2.1 51)]) ++ List.replicate (4 - (lg_sl ([.ref (G.2.1 51)])).length) Slot.unset).toArray = ls at hl ⊢
  have hl : lv_has ls 4 [(0, .ref (G.2.1 51))] := hl
  unfold x_Model_takeChunkLine at hE
  refine lv_aload_n hx hb d_Model_takeChunkLine_0 rfl (lv_at hl 0 rfl) ?_
  refine lv_bipush (v := (59 : Int32)) hx hb d_Model_takeChunkLine_1 (by decide) ?_
  refine lv_iconst (v := (0 : Int32)) hx hb d_Model_takeChunkLine_3 (by decide) ?_
  obtain ⟨r4, hC4, hE⟩ := x_bind hE
  refine x_callR (W.runV (As := [.int (59 : Int32), .int (0 : Int32)]) (rest := []) ⟨hx, hb, hml, hown, hu⟩ (t_Model_find l G σ (59 : Int32) (0 : Int32) r4 hC4) (cwV 2 hu (uw_V mw_1291 mw_1293 mw_48 mw_70 mw_1294) rfl rfl rfl hd_Model_find ⟨Nat.le_of_ble_eq_true rfl, Nat.le_of_ble_eq_true rfl⟩) (x_preV hC hS hw (va_recv hK hw (q := (R_Model, T_Model, 33)) (ci := 10) rfl (x_at (by decide) (xcl_51 G σ)))) rfl rfl hl.1 rfl (lv_room (Nat.le_of_ble_eq_true rfl)) d_Model_takeChunkLine_4 ⟨Nat.le_of_ble_eq_true rfl, Nat.le_of_ble_eq_true rfl⟩) ?_
  refine lv_istore_n hx hb d_Model_takeChunkLine_7 rfl hl (by decide) rfl (fun ls hl => ?_)
  have hl : lv_has ls 4 [(1, .int r4), (0, .ref (G.2.1 51))] := hl
  refine lv_aload_n hx hb d_Model_takeChunkLine_8 rfl (lv_at hl 1 rfl) ?_
  refine lv_iload_n hx hb d_Model_takeChunkLine_9 rfl (lv_at hl 0 rfl) ?_
  refine lv_if_le (tgt := 22) hx hb d_Model_takeChunkLine_10 (by decide) (fun hc10 => ?_) (fun hc10 => ?_)
  · rw [if_pos hc10] at hE
    exact jn22 _ _ _ _ _ hE (lv_sub hl [1, 0] rfl) hw hS
  · rw [if_neg hc10] at hE
    refine lv_iload_n hx hb d_Model_takeChunkLine_13 rfl (lv_at hl 0 rfl) ?_
    refine lv_iconst (v := (4 : Int32)) hx hb d_Model_takeChunkLine_14 (by decide) ?_
    refine lv_icmp_ge (tgt := 22) hx hb d_Model_takeChunkLine_15 (by decide) (fun hc15 => ?_) (fun hc15 => ?_)
    · rw [if_pos hc15] at hE
      exact jn22 _ _ _ _ _ hE (lv_sub hl [1, 0] rfl) hw hS
    · rw [if_neg hc15] at hE
      refine lv_iconst (v := (1 : Int32)) hx hb d_Model_takeChunkLine_18 (by decide) ?_
      refine lv_goto (tgt := 23) hx hb d_Model_takeChunkLine_19 (by decide) ?_
      exact jn23 _ _ _ _ _ _ hE (lv_sub hl [1, 0] rfl) hw hS

def y_Model_isOpen : MethodName := ⟨"PlainOriginModel", "isOpen", "()Z"⟩
def ws_Model_isOpen : List Cond := Cond.code y_Model_isOpen prog_14_method_48_code 1 (some .boolean) :: UW
theorem hd_Model_isOpen : y_Model_isOpen.cls = R_Model ∧ y_Model_isOpen.cls ≠ "java/lang/invoke/MethodHandle" ∧ y_Model_isOpen.cls ≠ "java/lang/invoke/VarHandle" ∧ (parseMethodDescriptor y_Model_isOpen.desc).map (fun d => d.parameters.length) = some 0 := by decide +kernel
theorem d_Model_isOpen_0 : decode prog_14_method_48_code 0 = .ok (.aload_n 0, 1) := by decide +kernel
theorem d_Model_isOpen_1 : decode prog_14_method_48_code 1 = .ok (.iconst 0, 1) := by decide +kernel
theorem d_Model_isOpen_2 : decode prog_14_method_48_code 2 = .ok (.putfield 142, 3) := by decide +kernel
theorem d_Model_isOpen_5 : decode prog_14_method_48_code 5 = .ok (.aload_n 0, 1) := by decide +kernel
theorem d_Model_isOpen_6 : decode prog_14_method_48_code 6 = .ok (.getfield 101, 3) := by decide +kernel
theorem d_Model_isOpen_9 : decode prog_14_method_48_code 9 = .ok (.ireturn, 1) := by decide +kernel
def x_Model_isOpen (σ : St) : Option (Int32 × St) := (x_let (x_updR σ 51 1 (0 : Int32)) (fun (s2 : St) => (if x_bit (s2.1 51 7) then some (s2.1 51 7, s2) else none)))
abbrev rm_Model_isOpen : Room := { frames := 0, cells := 0, slots := 0, locals := 0 }
set_option maxHeartbeats 4000000 in
set_option maxRecDepth 100000 in
theorem t_Model_isOpen (l : Launch) (G : xG) (σ : St) (r : Int32) (σ' : St) (hE : x_Model_isOpen σ = some (r, σ')) : Met l y_Model_isOpen (ws_Model_isOpen) rm_Model_isOpen (xP G σ [.ref (G.2.1 51)]) (xQ G (some (.int r)) σ') 0 0 (xA G) := by
  refine Met.ofW (cc := prog_14_method_48_code) (maxL := 1) (ret := (some .boolean)) (by decide) rfl ?_
  intro p e s m args below meth c s₁ B hml hv
  obtain ⟨rfl, hw, hC⟩ := hv
  have hx := B.exec
  have hb := B.bytes
  have hr := B.returns
  have hu : ∀ w ∈ UW, w.before _ s = true := fun w h => atoms_spec B.pre w (List.mem_cons_of_mem _ h)
  have hown : s.vm.findClass R_Model = some m.cls := findClass_of_methodNamed B.named
  have hlocks := B.notSynchronized
  have hK := hC.1
  have hI := hC.2.1
  have hG := hC.2.2.1
  have hS : va_S (xA G) s.heap s.heap [] := va_S.rf
  have hl := lv_entry ([.ref (G.2.1 51)]) (n := 1) (Nat.le_of_ble_eq_true rfl)
  rw [lg_entry_eq]
  generalize (lg_sl ([.ref (G.2.1 51)]) ++ List.replicate (1 - (lg_sl ([.ref (G.2.1 51)])).length) Slot.unset).toArray = ls at hl ⊢
  have hl : lv_has ls 1 [(0, .ref (G.2.1 51))] := hl
  unfold x_Model_isOpen at hE
  refine lv_aload_n hx hb d_Model_isOpen_0 rfl (lv_at hl 0 rfl) ?_
  refine lv_iconst (v := (0 : Int32)) hx hb d_Model_isOpen_1 (by decide) ?_
  refine va_put (D := G.1) (cl := xCl) (ci := 10) (v := .int (0 : Int32)) (ty := .int) (C := R_Model) (T := T_Model) (N := 33) hx hb hu fi_Model ty_Model tyok_Model nm_Model hown hK hw (x_D hI _) hS 51 (x_at (by decide) (xcl_51 G σ)) rfl 1 (by decide) (hu _ mw_1069) (fun _ h9 => h9) rfl (tyok_Model 1 (by decide)) rfl rfl (Nat.le_of_ble_eq_true rfl) d_Model_isOpen_2 (fun H locs hw _ hS => ?_)
  replace hw := x_setR hw (by decide) rfl
  obtain ⟨s2, e2, hE⟩ := x_letE hE
  rw [← e2] at hw
  refine lv_aload_n hx hb d_Model_isOpen_5 rfl (lv_at hl 0 rfl) ?_
  refine va_get (D := G.1) (cl := xCl) (ci := 10) (v := .int (s2.1 51 7)) (C := R_Model) (T := T_Model) (N := 33) hx hb hu fi_Model hown hK hw 51 (x_at (by decide) (xcl_51 G s2)) rfl 7 (by decide) (hu _ mw_1075) (fun _ h9 => h9) rfl d_Model_isOpen_6 ?_
  obtain ⟨g9, hE⟩ := x_guard hE
  obtain ⟨e1, e2⟩ := x_pair hE
  exact W.zret (v := s2.1 51 7) hx hb hr (x_nz g9) (fun t ht hW => ⟨by rw [e1], by rw [ht, ← e2]; exact hw, hS.F ht⟩) hS.2.2 d_Model_isOpen_9

def y_Model_connect : MethodName := ⟨"PlainOriginModel", "connect", "()V"⟩
def ws_Model_connect : List Cond := Cond.code y_Model_connect prog_14_method_49_code 1 none :: UW
theorem hd_Model_connect : y_Model_connect.cls = R_Model ∧ y_Model_connect.cls ≠ "java/lang/invoke/MethodHandle" ∧ y_Model_connect.cls ≠ "java/lang/invoke/VarHandle" ∧ (parseMethodDescriptor y_Model_connect.desc).map (fun d => d.parameters.length) = some 0 := by decide +kernel
theorem d_Model_connect_0 : decode prog_14_method_49_code 0 = .ok (.aload_n 0, 1) := by decide +kernel
theorem d_Model_connect_1 : decode prog_14_method_49_code 1 = .ok (.iconst 0, 1) := by decide +kernel
theorem d_Model_connect_2 : decode prog_14_method_49_code 2 = .ok (.putfield 142, 3) := by decide +kernel
theorem d_Model_connect_5 : decode prog_14_method_49_code 5 = .ok (.aload_n 0, 1) := by decide +kernel
theorem d_Model_connect_6 : decode prog_14_method_49_code 6 = .ok (.iconst 1, 1) := by decide +kernel
theorem d_Model_connect_7 : decode prog_14_method_49_code 7 = .ok (.putfield 101, 3) := by decide +kernel
theorem d_Model_connect_10 : decode prog_14_method_49_code 10 = .ok (.aload_n 0, 1) := by decide +kernel
theorem d_Model_connect_11 : decode prog_14_method_49_code 11 = .ok (.iconst 0, 1) := by decide +kernel
theorem d_Model_connect_12 : decode prog_14_method_49_code 12 = .ok (.putfield 179, 3) := by decide +kernel
theorem d_Model_connect_15 : decode prog_14_method_49_code 15 = .ok (.aload_n 0, 1) := by decide +kernel
theorem d_Model_connect_16 : decode prog_14_method_49_code 16 = .ok (.iconst 0, 1) := by decide +kernel
theorem d_Model_connect_17 : decode prog_14_method_49_code 17 = .ok (.putfield 191, 3) := by decide +kernel
theorem d_Model_connect_20 : decode prog_14_method_49_code 20 = .ok (.aload_n 0, 1) := by decide +kernel
theorem d_Model_connect_21 : decode prog_14_method_49_code 21 = .ok (.iconst 0, 1) := by decide +kernel
theorem d_Model_connect_22 : decode prog_14_method_49_code 22 = .ok (.putfield 201, 3) := by decide +kernel
theorem d_Model_connect_25 : decode prog_14_method_49_code 25 = .ok (.aload_n 0, 1) := by decide +kernel
theorem d_Model_connect_26 : decode prog_14_method_49_code 26 = .ok (.iconst 0, 1) := by decide +kernel
theorem d_Model_connect_27 : decode prog_14_method_49_code 27 = .ok (.putfield 297, 3) := by decide +kernel
theorem d_Model_connect_30 : decode prog_14_method_49_code 30 = .ok (.aload_n 0, 1) := by decide +kernel
theorem d_Model_connect_31 : decode prog_14_method_49_code 31 = .ok (.iconst (-1), 1) := by decide +kernel
theorem d_Model_connect_32 : decode prog_14_method_49_code 32 = .ok (.putfield 136, 3) := by decide +kernel
theorem d_Model_connect_35 : decode prog_14_method_49_code 35 = .ok (.return_, 1) := by decide +kernel
def x_Model_connect (σ : St) : Option St := (x_let (x_updR σ 51 1 (0 : Int32)) (fun (s2 : St) => (x_let (x_updR s2 51 7 (1 : Int32)) (fun (s7 : St) => (x_let (x_updR s7 51 8 (0 : Int32)) (fun (s12 : St) => (x_let (x_updR s12 51 9 (0 : Int32)) (fun (s17 : St) => (x_let (x_updR s17 51 10 (0 : Int32)) (fun (s22 : St) => (x_let (x_updR s22 51 31 (0 : Int32)) (fun (s27 : St) => (x_let (x_updR s27 51 29 ((-1) : Int32)) (fun (s32 : St) => some s32))))))))))))))
abbrev rm_Model_connect : Room := { frames := 0, cells := 0, slots := 0, locals := 0 }
set_option maxHeartbeats 4000000 in
set_option maxRecDepth 100000 in
theorem t_Model_connect (l : Launch) (G : xG) (σ : St) (σ' : St) (hE : x_Model_connect σ = some σ') : Met l y_Model_connect (ws_Model_connect) rm_Model_connect (xP G σ [.ref (G.2.1 51)]) (xQ G none σ') 0 0 (xA G) := by
  refine Met.ofW (cc := prog_14_method_49_code) (maxL := 1) (ret := none) (by decide) rfl ?_
  intro p e s m args below meth c s₁ B hml hv
  obtain ⟨rfl, hw, hC⟩ := hv
  have hx := B.exec
  have hb := B.bytes
  have hr := B.returns
  have hu : ∀ w ∈ UW, w.before _ s = true := fun w h => atoms_spec B.pre w (List.mem_cons_of_mem _ h)
  have hown : s.vm.findClass R_Model = some m.cls := findClass_of_methodNamed B.named
  have hlocks := B.notSynchronized
  have hK := hC.1
  have hI := hC.2.1
  have hG := hC.2.2.1
  have hS : va_S (xA G) s.heap s.heap [] := va_S.rf
  have hl := lv_entry ([.ref (G.2.1 51)]) (n := 1) (Nat.le_of_ble_eq_true rfl)
  rw [lg_entry_eq]
  generalize (lg_sl ([.ref (G.2.1 51)]) ++ List.replicate (1 - (lg_sl ([.ref (G.2.1 51)])).length) Slot.unset).toArray = ls at hl ⊢
  have hl : lv_has ls 1 [(0, .ref (G.2.1 51))] := hl
  unfold x_Model_connect at hE
  refine lv_aload_n hx hb d_Model_connect_0 rfl (lv_at hl 0 rfl) ?_
  refine lv_iconst (v := (0 : Int32)) hx hb d_Model_connect_1 (by decide) ?_
  refine va_put (D := G.1) (cl := xCl) (ci := 10) (v := .int (0 : Int32)) (ty := .int) (C := R_Model) (T := T_Model) (N := 33) hx hb hu fi_Model ty_Model tyok_Model nm_Model hown hK hw (x_D hI _) hS 51 (x_at (by decide) (xcl_51 G σ)) rfl 1 (by decide) (hu _ mw_1069) (fun _ h9 => h9) rfl (tyok_Model 1 (by decide)) rfl rfl (Nat.le_of_ble_eq_true rfl) d_Model_connect_2 (fun H locs hw _ hS => ?_)
  replace hw := x_setR hw (by decide) rfl
  obtain ⟨s2, e2, hE⟩ := x_letE hE
  rw [← e2] at hw
  refine lv_aload_n hx hb d_Model_connect_5 rfl (lv_at hl 0 rfl) ?_
  refine lv_iconst (v := (1 : Int32)) hx hb d_Model_connect_6 (by decide) ?_
  refine va_put (D := G.1) (cl := xCl) (ci := 10) (v := .int (1 : Int32)) (ty := .boolean) (C := R_Model) (T := T_Model) (N := 33) hx hb hu fi_Model ty_Model tyok_Model nm_Model hown hK hw (x_D hI _) hS 51 (x_at (by decide) (xcl_51 G s2)) rfl 7 (by decide) (hu _ mw_1075) (fun _ h9 => h9) rfl (tyok_Model 7 (by decide)) rfl rfl (Nat.le_of_ble_eq_true rfl) d_Model_connect_7 (fun H locs hw _ hS => ?_)
  replace hw := x_setR hw (by decide) rfl
  obtain ⟨s7, e7, hE⟩ := x_letE hE
  rw [← e7] at hw
  refine lv_aload_n hx hb d_Model_connect_10 rfl (lv_at hl 0 rfl) ?_
  refine lv_iconst (v := (0 : Int32)) hx hb d_Model_connect_11 (by decide) ?_
  refine va_put (D := G.1) (cl := xCl) (ci := 10) (v := .int (0 : Int32)) (ty := .int) (C := R_Model) (T := T_Model) (N := 33) hx hb hu fi_Model ty_Model tyok_Model nm_Model hown hK hw (x_D hI _) hS 51 (x_at (by decide) (xcl_51 G s7)) rfl 8 (by decide) (hu _ mw_1076) (fun _ h9 => h9) rfl (tyok_Model 8 (by decide)) rfl rfl (Nat.le_of_ble_eq_true rfl) d_Model_connect_12 (fun H locs hw _ hS => ?_)
  replace hw := x_setR hw (by decide) rfl
  obtain ⟨s12, e12, hE⟩ := x_letE hE
  rw [← e12] at hw
  refine lv_aload_n hx hb d_Model_connect_15 rfl (lv_at hl 0 rfl) ?_
  refine lv_iconst (v := (0 : Int32)) hx hb d_Model_connect_16 (by decide) ?_
  refine va_put (D := G.1) (cl := xCl) (ci := 10) (v := .int (0 : Int32)) (ty := .boolean) (C := R_Model) (T := T_Model) (N := 33) hx hb hu fi_Model ty_Model tyok_Model nm_Model hown hK hw (x_D hI _) hS 51 (x_at (by decide) (xcl_51 G s12)) rfl 9 (by decide) (hu _ mw_1077) (fun _ h9 => h9) rfl (tyok_Model 9 (by decide)) rfl rfl (Nat.le_of_ble_eq_true rfl) d_Model_connect_17 (fun H locs hw _ hS => ?_)
  replace hw := x_setR hw (by decide) rfl
  obtain ⟨s17, e17, hE⟩ := x_letE hE
  rw [← e17] at hw
  refine lv_aload_n hx hb d_Model_connect_20 rfl (lv_at hl 0 rfl) ?_
  refine lv_iconst (v := (0 : Int32)) hx hb d_Model_connect_21 (by decide) ?_
  refine va_put (D := G.1) (cl := xCl) (ci := 10) (v := .int (0 : Int32)) (ty := .int) (C := R_Model) (T := T_Model) (N := 33) hx hb hu fi_Model ty_Model tyok_Model nm_Model hown hK hw (x_D hI _) hS 51 (x_at (by decide) (xcl_51 G s17)) rfl 10 (by decide) (hu _ mw_1078) (fun _ h9 => h9) rfl (tyok_Model 10 (by decide)) rfl rfl (Nat.le_of_ble_eq_true rfl) d_Model_connect_22 (fun H locs hw _ hS => ?_)
  replace hw := x_setR hw (by decide) rfl
  obtain ⟨s22, e22, hE⟩ := x_letE hE
  rw [← e22] at hw
  refine lv_aload_n hx hb d_Model_connect_25 rfl (lv_at hl 0 rfl) ?_
  refine lv_iconst (v := (0 : Int32)) hx hb d_Model_connect_26 (by decide) ?_
  refine va_put (D := G.1) (cl := xCl) (ci := 10) (v := .int (0 : Int32)) (ty := .int) (C := R_Model) (T := T_Model) (N := 33) hx hb hu fi_Model ty_Model tyok_Model nm_Model hown hK hw (x_D hI _) hS 51 (x_at (by decide) (xcl_51 G s22)) rfl 31 (by decide) (hu _ mw_1099) (fun _ h9 => h9) rfl (tyok_Model 31 (by decide)) rfl rfl (Nat.le_of_ble_eq_true rfl) d_Model_connect_27 (fun H locs hw _ hS => ?_)
  replace hw := x_setR hw (by decide) rfl
  obtain ⟨s27, e27, hE⟩ := x_letE hE
  rw [← e27] at hw
  refine lv_aload_n hx hb d_Model_connect_30 rfl (lv_at hl 0 rfl) ?_
  refine lv_iconst (v := ((-1) : Int32)) hx hb d_Model_connect_31 (by decide) ?_
  refine va_put (D := G.1) (cl := xCl) (ci := 10) (v := .int ((-1) : Int32)) (ty := .int) (C := R_Model) (T := T_Model) (N := 33) hx hb hu fi_Model ty_Model tyok_Model nm_Model hown hK hw (x_D hI _) hS 51 (x_at (by decide) (xcl_51 G s27)) rfl 29 (by decide) (hu _ mw_1097) (fun _ h9 => h9) rfl (tyok_Model 29 (by decide)) rfl rfl (Nat.le_of_ble_eq_true rfl) d_Model_connect_32 (fun H locs hw _ hS => ?_)
  replace hw := x_setR hw (by decide) rfl
  obtain ⟨s32, e32, hE⟩ := x_letE hE
  rw [← e32] at hw
  have e1 := Option.some.inj hE
  exact W.vret hx hb hr (fun t ht hW => ⟨rfl, by rw [ht, ← e1]; exact hw, hS.F ht⟩) hS.2.2 d_Model_connect_35

def y_Model_sent : MethodName := ⟨"PlainOriginModel", "sent", "()I"⟩
def ws_Model_sent : List Cond := Cond.code y_Model_sent prog_14_method_50_code 1 (some .int) :: UW
theorem hd_Model_sent : y_Model_sent.cls = R_Model ∧ y_Model_sent.cls ≠ "java/lang/invoke/MethodHandle" ∧ y_Model_sent.cls ≠ "java/lang/invoke/VarHandle" ∧ (parseMethodDescriptor y_Model_sent.desc).map (fun d => d.parameters.length) = some 0 := by decide +kernel
theorem d_Model_sent_0 : decode prog_14_method_50_code 0 = .ok (.aload_n 0, 1) := by decide +kernel
theorem d_Model_sent_1 : decode prog_14_method_50_code 1 = .ok (.iconst 0, 1) := by decide +kernel
theorem d_Model_sent_2 : decode prog_14_method_50_code 2 = .ok (.putfield 142, 3) := by decide +kernel
theorem d_Model_sent_5 : decode prog_14_method_50_code 5 = .ok (.aload_n 0, 1) := by decide +kernel
theorem d_Model_sent_6 : decode prog_14_method_50_code 6 = .ok (.getfield 297, 3) := by decide +kernel
theorem d_Model_sent_9 : decode prog_14_method_50_code 9 = .ok (.ireturn, 1) := by decide +kernel
def x_Model_sent (σ : St) : Option (Int32 × St) := (x_let (x_updR σ 51 1 (0 : Int32)) (fun (s2 : St) => some (s2.1 51 31, s2)))
abbrev rm_Model_sent : Room := { frames := 0, cells := 0, slots := 0, locals := 0 }
set_option maxHeartbeats 4000000 in
set_option maxRecDepth 100000 in
theorem t_Model_sent (l : Launch) (G : xG) (σ : St) (r : Int32) (σ' : St) (hE : x_Model_sent σ = some (r, σ')) : Met l y_Model_sent (ws_Model_sent) rm_Model_sent (xP G σ [.ref (G.2.1 51)]) (xQ G (some (.int r)) σ') 0 0 (xA G) := by
  refine Met.ofW (cc := prog_14_method_50_code) (maxL := 1) (ret := (some .int)) (by decide) rfl ?_
  intro p e s m args below meth c s₁ B hml hv
  obtain ⟨rfl, hw, hC⟩ := hv
  have hx := B.exec
  have hb := B.bytes
  have hr := B.returns
  have hu : ∀ w ∈ UW, w.before _ s = true := fun w h => atoms_spec B.pre w (List.mem_cons_of_mem _ h)
  have hown : s.vm.findClass R_Model = some m.cls := findClass_of_methodNamed B.named
  have hlocks := B.notSynchronized
  have hK := hC.1
  have hI := hC.2.1
  have hG := hC.2.2.1
  have hS : va_S (xA G) s.heap s.heap [] := va_S.rf
  have hl := lv_entry ([.ref (G.2.1 51)]) (n := 1) (Nat.le_of_ble_eq_true rfl)
  rw [lg_entry_eq]
  generalize (lg_sl ([.ref (G.2.1 51)]) ++ List.replicate (1 - (lg_sl ([.ref (G.2.1 51)])).length) Slot.unset).toArray = ls at hl ⊢
  have hl : lv_has ls 1 [(0, .ref (G.2.1 51))] := hl
  unfold x_Model_sent at hE
  refine lv_aload_n hx hb d_Model_sent_0 rfl (lv_at hl 0 rfl) ?_
  refine lv_iconst (v := (0 : Int32)) hx hb d_Model_sent_1 (by decide) ?_
  refine va_put (D := G.1) (cl := xCl) (ci := 10) (v := .int (0 : Int32)) (ty := .int) (C := R_Model) (T := T_Model) (N := 33) hx hb hu fi_Model ty_Model tyok_Model nm_Model hown hK hw (x_D hI _) hS 51 (x_at (by decide) (xcl_51 G σ)) rfl 1 (by decide) (hu _ mw_1069) (fun _ h9 => h9) rfl (tyok_Model 1 (by decide)) rfl rfl (Nat.le_of_ble_eq_true rfl) d_Model_sent_2 (fun H locs hw _ hS => ?_)
  replace hw := x_setR hw (by decide) rfl
  obtain ⟨s2, e2, hE⟩ := x_letE hE
  rw [← e2] at hw
  refine lv_aload_n hx hb d_Model_sent_5 rfl (lv_at hl 0 rfl) ?_
  refine va_get (D := G.1) (cl := xCl) (ci := 10) (v := .int (s2.1 51 31)) (C := R_Model) (T := T_Model) (N := 33) hx hb hu fi_Model hown hK hw 51 (x_at (by decide) (xcl_51 G s2)) rfl 31 (by decide) (hu _ mw_1099) (fun _ h9 => h9) rfl d_Model_sent_6 ?_
  obtain ⟨e1, e2⟩ := x_pair hE
  exact W.iret (v := s2.1 51 31) hx hb hr (fun t ht hW => ⟨by rw [e1], by rw [ht, ← e2]; exact hw, hS.F ht⟩) hS.2.2 d_Model_sent_9

def y_Model_out : MethodName := ⟨"PlainOriginModel", "out", "(I)J"⟩
def ws_Model_out : List Cond := Cond.code y_Model_out prog_14_method_51_code 5 (some .long) :: UW
theorem hd_Model_out : y_Model_out.cls = R_Model ∧ y_Model_out.cls ≠ "java/lang/invoke/MethodHandle" ∧ y_Model_out.cls ≠ "java/lang/invoke/VarHandle" ∧ (parseMethodDescriptor y_Model_out.desc).map (fun d => d.parameters.length) = some 1 := by decide +kernel
theorem d_Model_out_0 : decode prog_14_method_51_code 0 = .ok (.aload_n 0, 1) := by decide +kernel
theorem d_Model_out_1 : decode prog_14_method_51_code 1 = .ok (.iload_n 1, 1) := by decide +kernel
theorem d_Model_out_2 : decode prog_14_method_51_code 2 = .ok (.iconst 0, 1) := by decide +kernel
theorem d_Model_out_3 : decode prog_14_method_51_code 3 = .ok (.sipush (249), 3) := by decide +kernel
theorem d_Model_out_6 : decode prog_14_method_51_code 6 = .ok (.invokestatic 147, 3) := by decide +kernel
theorem d_Model_out_9 : decode prog_14_method_51_code 9 = .ok (.ifCond .eq (7), 3) := by decide +kernel
theorem d_Model_out_12 : decode prog_14_method_51_code 12 = .ok (.iconst 0, 1) := by decide +kernel
theorem d_Model_out_13 : decode prog_14_method_51_code 13 = .ok (.goto (4), 3) := by decide +kernel
theorem d_Model_out_16 : decode prog_14_method_51_code 16 = .ok (.iconst 1, 1) := by decide +kernel
theorem d_Model_out_17 : decode prog_14_method_51_code 17 = .ok (.putfield 142, 3) := by decide +kernel
theorem d_Model_out_20 : decode prog_14_method_51_code 20 = .ok (.lconst 0, 1) := by decide +kernel
theorem d_Model_out_21 : decode prog_14_method_51_code 21 = .ok (.lstore_n 2, 1) := by decide +kernel
theorem d_Model_out_22 : decode prog_14_method_51_code 22 = .ok (.bipush (7), 2) := by decide +kernel
theorem d_Model_out_24 : decode prog_14_method_51_code 24 = .ok (.istore 4, 2) := by decide +kernel
theorem d_Model_out_26 : decode prog_14_method_51_code 26 = .ok (.iload 4, 2) := by decide +kernel
theorem d_Model_out_28 : decode prog_14_method_51_code 28 = .ok (.ifCond .lt (53), 3) := by decide +kernel
theorem d_Model_out_31 : decode prog_14_method_51_code 31 = .ok (.aload_n 0, 1) := by decide +kernel
theorem d_Model_out_32 : decode prog_14_method_51_code 32 = .ok (.getfield 142, 3) := by decide +kernel
theorem d_Model_out_35 : decode prog_14_method_51_code 35 = .ok (.ifCond .ne (46), 3) := by decide +kernel
theorem d_Model_out_38 : decode prog_14_method_51_code 38 = .ok (.lload_n 2, 1) := by decide +kernel
theorem d_Model_out_39 : decode prog_14_method_51_code 39 = .ok (.bipush (8), 2) := by decide +kernel
theorem d_Model_out_41 : decode prog_14_method_51_code 41 = .ok (.lshl, 1) := by decide +kernel
theorem d_Model_out_42 : decode prog_14_method_51_code 42 = .ok (.bipush (8), 2) := by decide +kernel
theorem d_Model_out_44 : decode prog_14_method_51_code 44 = .ok (.iload_n 1, 1) := by decide +kernel
theorem d_Model_out_45 : decode prog_14_method_51_code 45 = .ok (.imul, 1) := by decide +kernel
theorem d_Model_out_46 : decode prog_14_method_51_code 46 = .ok (.iload 4, 2) := by decide +kernel
theorem d_Model_out_48 : decode prog_14_method_51_code 48 = .ok (.iadd, 1) := by decide +kernel
theorem d_Model_out_49 : decode prog_14_method_51_code 49 = .ok (.aload_n 0, 1) := by decide +kernel
theorem d_Model_out_50 : decode prog_14_method_51_code 50 = .ok (.getfield 297, 3) := by decide +kernel
theorem d_Model_out_53 : decode prog_14_method_51_code 53 = .ok (.if_icmp .ge (18), 3) := by decide +kernel
theorem d_Model_out_56 : decode prog_14_method_51_code 56 = .ok (.aload_n 0, 1) := by decide +kernel
theorem d_Model_out_57 : decode prog_14_method_51_code 57 = .ok (.getfield 139, 3) := by decide +kernel
theorem d_Model_out_60 : decode prog_14_method_51_code 60 = .ok (.bipush (8), 2) := by decide +kernel
theorem d_Model_out_62 : decode prog_14_method_51_code 62 = .ok (.iload_n 1, 1) := by decide +kernel
theorem d_Model_out_63 : decode prog_14_method_51_code 63 = .ok (.imul, 1) := by decide +kernel
theorem d_Model_out_64 : decode prog_14_method_51_code 64 = .ok (.iload 4, 2) := by decide +kernel
theorem d_Model_out_66 : decode prog_14_method_51_code 66 = .ok (.iadd, 1) := by decide +kernel
theorem d_Model_out_67 : decode prog_14_method_51_code 67 = .ok (.iaload, 1) := by decide +kernel
theorem d_Model_out_68 : decode prog_14_method_51_code 68 = .ok (.goto (4), 3) := by decide +kernel
theorem d_Model_out_71 : decode prog_14_method_51_code 71 = .ok (.iconst 0, 1) := by decide +kernel
theorem d_Model_out_72 : decode prog_14_method_51_code 72 = .ok (.i2l, 1) := by decide +kernel
theorem d_Model_out_73 : decode prog_14_method_51_code 73 = .ok (.lor, 1) := by decide +kernel
theorem d_Model_out_74 : decode prog_14_method_51_code 74 = .ok (.lstore_n 2, 1) := by decide +kernel
theorem d_Model_out_75 : decode prog_14_method_51_code 75 = .ok (.iinc 4 (-1), 3) := by decide +kernel
theorem d_Model_out_78 : decode prog_14_method_51_code 78 = .ok (.goto (-52), 3) := by decide +kernel
theorem d_Model_out_81 : decode prog_14_method_51_code 81 = .ok (.lload_n 2, 1) := by decide +kernel
theorem d_Model_out_82 : decode prog_14_method_51_code 82 = .ok (.lreturn, 1) := by decide +kernel
def x_Model_out_72 (a1 : Int32) (bk26 : Int64 → Int32 → St → Option (Int64 × St)) (l4 : Int32) (k0 : Int32) (k1 : Int64) (σ : St) : Option (Int64 × St) := (x_let (k1 ||| (Int32.toInt64 k0)) (fun (v74 : Int64) => (x_let (l4 + ((-1) : Int32)) (fun (v75 : Int32) => bk26 v74 v75 σ))))
def x_Model_out_26 (a1 : Int32) : Nat → Int64 → Int32 → St → Option (Int64 × St)
  | 0, _, _, _ => none
  | n + 1, l2, l4, σ => (if l4 < 0 then some (l2, σ) else (if (σ.1 51 1) = 0 then (if (σ.1 51 31) ≤ (((8 : Int32) * a1) + l4) then x_Model_out_72 a1 (x_Model_out_26 a1 n) l4 (0 : Int32) (l2 <<< (Int32.toInt64 (8 : Int32) &&& 63)) σ else (if x_in (((8 : Int32) * a1) + l4) 2000 then x_Model_out_72 a1 (x_Model_out_26 a1 n) l4 (σ.2.1 65 (((8 : Int32) * a1) + l4).toNatClampNeg) (l2 <<< (Int32.toInt64 (8 : Int32) &&& 63)) σ else none)) else some (l2, σ)))
def x_Model_out_17 (a1 : Int32) (k0 : Int32) (σ : St) : Option (Int64 × St) := (x_let (x_updR σ 51 1 k0) (fun (s17 : St) => x_Model_out_26 a1 x_fuel (0 : Int64) (7 : Int32) s17))
def x_Model_out (a1 : Int32) (σ : St) : Option (Int64 × St) := (Option.bind (x_Model_within a1 (0 : Int32) (249 : Int32)) (fun r6 => (if r6 = 0 then x_Model_out_17 a1 (1 : Int32) σ else x_Model_out_17 a1 (0 : Int32) σ)))
abbrev rm_Model_out : Room := { frames := 1, cells := 0, slots := 0, locals := 22 }
set_option maxHeartbeats 4000000 in
set_option maxRecDepth 100000 in
theorem t_Model_out (l : Launch) (G : xG) (σ : St) (a1 : Int32) (r : Int64) (σ' : St) (hE : x_Model_out a1 σ = some (r, σ')) : Met l y_Model_out (ws_Model_out) rm_Model_out (xP G σ [.ref (G.2.1 51), .int a1]) (xQ G (some (.long r)) σ') 0 0 (xA G) := by
  refine Met.ofW (cc := prog_14_method_51_code) (maxL := 5) (ret := (some .long)) (by decide) rfl ?_
  intro p e s m args below meth c s₁ B hml hv
  obtain ⟨rfl, hw, hC⟩ := hv
  have hx := B.exec
  have hb := B.bytes
  have hr := B.returns
  have hu : ∀ w ∈ UW, w.before _ s = true := fun w h => atoms_spec B.pre w (List.mem_cons_of_mem _ h)
  have hown : s.vm.findClass R_Model = some m.cls := findClass_of_methodNamed B.named
  have hlocks := B.notSynchronized
  have hK := hC.1
  have hI := hC.2.1
  have hG := hC.2.2.1
  have hS : va_S (xA G) s.heap s.heap [] := va_S.rf
  have jn72 : ∀ (bk26 : Int64 → Int32 → St → Option (Int64 × St)) (hbk26 : ∀ (ls : Array Slot) (H : Heap) (locs : List Loc) (σ : St) (l2 : Int64) (l4 : Int32), bk26 l2 l4 σ = some (r, σ') → lv_has ls 5 [(0, .ref (G.2.1 51)), (1, .int a1), (2, .long l2), (4, .int l4)] → xw G σ H → va_S (xA G) s.heap H locs → W p l e (headSpec (ws_Model_out) rm_Model_out).room s m ([.ref (G.2.1 51), .int a1] : List Value).toArray below meth c H locs 0 0 (MQ below (xQ G (some (.long r)) σ') ([.ref (G.2.1 51), .int a1] : List Value).toArray s 0 0 (xA G)) (F0 m 26 ls [])) (ls : Array Slot) (H : Heap) (locs : List Loc) (σ : St) (l4 : Int32) (k0 : Int32) (k1 : Int64), x_Model_out_72 a1 bk26 l4 k0 k1 σ = some (r, σ') → lv_has ls 5 [(0, .ref (G.2.1 51)), (1, .int a1), (4, .int l4)] → xw G σ H → va_S (xA G) s.heap H locs → W p l e (headSpec (ws_Model_out) rm_Model_out).room s m ([.ref (G.2.1 51), .int a1] : List Value).toArray below meth c H locs 0 0 (MQ below (xQ G (some (.long r)) σ') ([.ref (G.2.1 51), .int a1] : List Value).toArray s 0 0 (xA G)) (F0 m 72 ls [.int k0, .long k1]) := by
    intro bk26 hbk26 ls H locs σ l4 k0 k1 hE hl hw hS
    unfold x_Model_out_72 at hE
    refine lv_i2l hx hb d_Model_out_72 rfl ?_
    refine lv_lor hx hb d_Model_out_73 ?_
    refine lv_topl (fun v74 e74 => ?_)
    replace hE := x_letT e74 hE
    refine lv_lstore_n hx hb d_Model_out_74 rfl hl (by decide) rfl (fun ls hl => ?_)
    have hl : lv_has ls 5 [(2, .long v74), (0, .ref (G.2.1 51)), (1, .int a1), (4, .int l4)] := hl
    obtain ⟨v75, e75, hE⟩ := x_letE hE
    refine lv_iinc hx hb d_Model_out_75 hl (k := 3) rfl (x_inc v75 e75 (by decide)) (by decide) rfl (fun ls hl => ?_)
    have hl : lv_has ls 5 [(4, .int v75), (2, .long v74), (0, .ref (G.2.1 51)), (1, .int a1)] := hl
    refine lv_goto (tgt := 26) hx hb d_Model_out_78 (by decide) ?_
    exact hbk26 _ _ _ _ _ _ hE (lv_sub hl [2, 3, 1, 0] rfl) hw hS
  have jn26 : ∀ (n : Nat) (ls : Array Slot) (H : Heap) (locs : List Loc) (σ : St) (l2 : Int64) (l4 : Int32), x_Model_out_26 a1 n l2 l4 σ = some (r, σ') → lv_has ls 5 [(0, .ref (G.2.1 51)), (1, .int a1), (2, .long l2), (4, .int l4)] → xw G σ H → va_S (xA G) s.heap H locs → W p l e (headSpec (ws_Model_out) rm_Model_out).room s m ([.ref (G.2.1 51), .int a1] : List Value).toArray below meth c H locs 0 0 (MQ below (xQ G (some (.long r)) σ') ([.ref (G.2.1 51), .int a1] : List Value).toArray s 0 0 (xA G)) (F0 m 26 ls []) := by
    intro n
    induction n with
    | zero => intro ls H locs σ l2 l4 hE; rw [x_Model_out_26] at hE; cases hE
    | succ n ih =>
      intro ls H locs σ l2 l4 hE hl hw hS
      rw [x_Model_out_26] at hE
      refine lv_iload hx hb d_Model_out_26 (lv_at hl 3 rfl) ?_
      refine lv_if_lt (tgt := 81) hx hb d_Model_out_28 (by decide) (fun hc28 => ?_) (fun hc28 => ?_)
      · rw [if_pos hc28] at hE
        refine lv_lload_n hx hb d_Model_out_81 rfl (lv_at hl 2 rfl) ?_
        obtain ⟨e1, e2⟩ := x_pair hE
        exact W.lret (v := l2) hx hb hr (fun t ht hW => ⟨by rw [e1], by rw [ht, ← e2]; exact hw, hS.F ht⟩) hS.2.2 d_Model_out_82
      · rw [if_neg hc28] at hE
        refine lv_aload_n hx hb d_Model_out_31 rfl (lv_at hl 0 rfl) ?_
        refine va_get (D := G.1) (cl := xCl) (ci := 10) (v := .int (σ.1 51 1)) (C := R_Model) (T := T_Model) (N := 33) hx hb hu fi_Model hown hK hw 51 (x_at (by decide) (xcl_51 G σ)) rfl 1 (by decide) (hu _ mw_1069) (fun _ h9 => h9) rfl d_Model_out_32 ?_
        refine lv_if_ne (tgt := 81) hx hb d_Model_out_35 (by decide) (fun hc35 => ?_) (fun hc35 => ?_)
        · rw [if_neg hc35] at hE
          refine lv_lload_n hx hb d_Model_out_81 rfl (lv_at hl 2 rfl) ?_
          obtain ⟨e1, e2⟩ := x_pair hE
          exact W.lret (v := l2) hx hb hr (fun t ht hW => ⟨by rw [e1], by rw [ht, ← e2]; exact hw, hS.F ht⟩) hS.2.2 d_Model_out_82
        · rw [if_pos hc35] at hE
          refine lv_lload_n hx hb d_Model_out_38 rfl (lv_at hl 2 rfl) ?_
          refine lv_bipush (v := (8 : Int32)) hx hb d_Model_out_39 (by decide) ?_
          refine lv_lshl hx hb d_Model_out_41 rfl ?_
          refine lv_bipush (v := (8 : Int32)) hx hb d_Model_out_42 (by decide) ?_
          refine lv_iload_n hx hb d_Model_out_44 rfl (lv_at hl 1 rfl) ?_
          refine lv_imul hx hb d_Model_out_45 ?_
          refine lv_iload hx hb d_Model_out_46 (lv_at hl 3 rfl) ?_
          refine lv_iadd hx hb d_Model_out_48 ?_
          refine lv_aload_n hx hb d_Model_out_49 rfl (lv_at hl 0 rfl) ?_
          refine va_get (D := G.1) (cl := xCl) (ci := 10) (v := .int (σ.1 51 31)) (C := R_Model) (T := T_Model) (N := 33) hx hb hu fi_Model hown hK hw 51 (x_at (by decide) (xcl_51 G σ)) rfl 31 (by decide) (hu _ mw_1099) (fun _ h9 => h9) rfl d_Model_out_50 ?_
          refine lv_icmp_ge (tgt := 71) hx hb d_Model_out_53 (by decide) (fun hc53 => ?_) (fun hc53 => ?_)
          · rw [if_pos hc53] at hE
            refine lv_iconst (v := (0 : Int32)) hx hb d_Model_out_71 (by decide) ?_
            exact jn72 _ ih _ _ _ _ _ _ _ hE (lv_sub hl [0, 1, 3] rfl) hw hS
          · rw [if_neg hc53] at hE
            refine lv_aload_n hx hb d_Model_out_56 rfl (lv_at hl 0 rfl) ?_
            refine va_get (D := G.1) (cl := xCl) (ci := 10) (v := .ref (G.2.1 65)) (C := R_Model) (T := T_Model) (N := 33) hx hb hu fi_Model hown hK hw 51 (x_at (by decide) (xcl_51 G σ)) rfl 32 (by decide) (hu _ mw_1100) (fun _ h9 => h9) rfl d_Model_out_57 ?_
            refine lv_bipush (v := (8 : Int32)) hx hb d_Model_out_60 (by decide) ?_
            refine lv_iload_n hx hb d_Model_out_62 rfl (lv_at hl 1 rfl) ?_
            refine lv_imul hx hb d_Model_out_63 ?_
            refine lv_iload hx hb d_Model_out_64 (lv_at hl 3 rfl) ?_
            refine lv_iadd hx hb d_Model_out_66 ?_
            obtain ⟨g67, hE⟩ := x_guard hE
            refine va_iald hx hb hK hw 65 0 (x_at (by decide) (xcl_65 G σ)) rfl g67 d_Model_out_67 ?_
            refine lv_goto (tgt := 72) hx hb d_Model_out_68 (by decide) ?_
            exact jn72 _ ih _ _ _ _ _ _ _ hE (lv_sub hl [0, 1, 3] rfl) hw hS
  have jn17 : ∀ (ls : Array Slot) (H : Heap) (locs : List Loc) (σ : St) (k0 : Int32), x_Model_out_17 a1 k0 σ = some (r, σ') → lv_has ls 5 [(0, .ref (G.2.1 51)), (1, .int a1)] → xw G σ H → va_S (xA G) s.heap H locs → W p l e (headSpec (ws_Model_out) rm_Model_out).room s m ([.ref (G.2.1 51), .int a1] : List Value).toArray below meth c H locs 0 0 (MQ below (xQ G (some (.long r)) σ') ([.ref (G.2.1 51), .int a1] : List Value).toArray s 0 0 (xA G)) (F0 m 17 ls [.int k0, .ref (G.2.1 51)]) := by
    intro ls H locs σ k0 hE hl hw hS
    unfold x_Model_out_17 at hE
    refine va_put (D := G.1) (cl := xCl) (ci := 10) (v := .int k0) (ty := .int) (C := R_Model) (T := T_Model) (N := 33) hx hb hu fi_Model ty_Model tyok_Model nm_Model hown hK hw (x_D hI _) hS 51 (x_at (by decide) (xcl_51 G σ)) rfl 1 (by decide) (hu _ mw_1069) (fun _ h9 => h9) rfl (tyok_Model 1 (by decide)) rfl rfl (Nat.le_of_ble_eq_true rfl) d_Model_out_17 (fun H locs hw _ hS => ?_)
    replace hw := x_setR hw (by decide) rfl
    obtain ⟨s17, e17, hE⟩ := x_letE hE
    rw [← e17] at hw
    refine lv_lconst (v := (0 : Int64)) hx hb d_Model_out_20 (by decide) ?_
    refine lv_lstore_n hx hb d_Model_out_21 rfl hl (by decide) rfl (fun ls hl => ?_)
    have hl : lv_has ls 5 [(2, .long (0 : Int64)), (0, .ref (G.2.1 51)), (1, .int a1)] := hl
    refine lv_bipush (v := (7 : Int32)) hx hb d_Model_out_22 (by decide) ?_
    refine lv_istore hx hb d_Model_out_24 hl (by decide) rfl (fun ls hl => ?_)
    have hl : lv_has ls 5 [(4, .int (7 : Int32)), (2, .long (0 : Int64)), (0, .ref (G.2.1 51)), (1, .int a1)] := hl
    exact jn26 x_fuel _ _ _ _ _ _ hE (lv_sub hl [2, 3, 1, 0] rfl) hw hS
  have hl := lv_entry ([.ref (G.2.1 51), .int a1]) (n := 5) (Nat.le_of_ble_eq_true rfl)
  rw [lg_entry_eq]
  generalize (lg_sl ([.ref (G.2.1 51), .int a1]) ++ List.replicate (5 - (lg_sl ([.ref (G.2.1 51), .int a1])).length) Slot.unset).toArray = ls at hl ⊢
  have hl : lv_has ls 5 [(0, .ref (G.2.1 51)), (1, .int a1)] := hl
  unfold x_Model_out at hE
  refine lv_aload_n hx hb d_Model_out_0 rfl (lv_at hl 0 rfl) ?_
  refine lv_iload_n hx hb d_Model_out_1 rfl (lv_at hl 1 rfl) ?_
  refine lv_iconst (v := (0 : Int32)) hx hb d_Model_out_2 (by decide) ?_
  refine lv_sipush (v := (249 : Int32)) hx hb d_Model_out_3 (by decide) ?_
  obtain ⟨r6, hC6, hE⟩ := x_bind hE
  refine x_callR (W.runS (As := [.int a1, .int (0 : Int32), .int (249 : Int32)]) (rest := [.ref (G.2.1 51)]) ⟨hx, hb, hml, hown, hu⟩ (t_Model_within l G σ a1 (0 : Int32) (249 : Int32) r6 hC6) (va_cwS 3 hu (uw_S mw_1178 mw_1179 mw_70 mw_1180) rfl rfl rfl hd_Model_within ⟨Nat.le_of_ble_eq_true rfl, Nat.le_of_ble_eq_true rfl⟩) (x_preS hC hS hw) rfl rfl hl.1 rfl (lv_room (Nat.le_of_ble_eq_true rfl)) d_Model_out_6 ⟨Nat.le_of_ble_eq_true rfl, Nat.le_of_ble_eq_true rfl⟩) ?_
  refine lv_if_eq (tgt := 16) hx hb d_Model_out_9 (by decide) (fun hc9 => ?_) (fun hc9 => ?_)
  · rw [if_pos hc9] at hE
    refine lv_iconst (v := (1 : Int32)) hx hb d_Model_out_16 (by decide) ?_
    exact jn17 _ _ _ _ _ hE (lv_sub hl [0, 1] rfl) hw hS
  · rw [if_neg hc9] at hE
    refine lv_iconst (v := (0 : Int32)) hx hb d_Model_out_12 (by decide) ?_
    refine lv_goto (tgt := 17) hx hb d_Model_out_13 (by decide) ?_
    exact jn17 _ _ _ _ _ hE (lv_sub hl [0, 1] rfl) hw hS

def y_Model_drain : MethodName := ⟨"PlainOriginModel", "drain", "()I"⟩
def ws_Model_drain : List Cond := Cond.code y_Model_drain prog_14_method_52_code 2 (some .int) :: UW
theorem hd_Model_drain : y_Model_drain.cls = R_Model ∧ y_Model_drain.cls ≠ "java/lang/invoke/MethodHandle" ∧ y_Model_drain.cls ≠ "java/lang/invoke/VarHandle" ∧ (parseMethodDescriptor y_Model_drain.desc).map (fun d => d.parameters.length) = some 0 := by decide +kernel
theorem d_Model_drain_0 : decode prog_14_method_52_code 0 = .ok (.aload_n 0, 1) := by decide +kernel
theorem d_Model_drain_1 : decode prog_14_method_52_code 1 = .ok (.iconst 0, 1) := by decide +kernel
theorem d_Model_drain_2 : decode prog_14_method_52_code 2 = .ok (.putfield 142, 3) := by decide +kernel
theorem d_Model_drain_5 : decode prog_14_method_52_code 5 = .ok (.aload_n 0, 1) := by decide +kernel
theorem d_Model_drain_6 : decode prog_14_method_52_code 6 = .ok (.getfield 297, 3) := by decide +kernel
theorem d_Model_drain_9 : decode prog_14_method_52_code 9 = .ok (.istore_n 1, 1) := by decide +kernel
theorem d_Model_drain_10 : decode prog_14_method_52_code 10 = .ok (.aload_n 0, 1) := by decide +kernel
theorem d_Model_drain_11 : decode prog_14_method_52_code 11 = .ok (.iconst 0, 1) := by decide +kernel
theorem d_Model_drain_12 : decode prog_14_method_52_code 12 = .ok (.putfield 297, 3) := by decide +kernel
theorem d_Model_drain_15 : decode prog_14_method_52_code 15 = .ok (.iload_n 1, 1) := by decide +kernel
theorem d_Model_drain_16 : decode prog_14_method_52_code 16 = .ok (.ireturn, 1) := by decide +kernel
def x_Model_drain (σ : St) : Option (Int32 × St) := (x_let (x_updR σ 51 1 (0 : Int32)) (fun (s2 : St) => (x_let (s2.1 51 31) (fun (v9 : Int32) => (x_let (x_updR s2 51 31 (0 : Int32)) (fun (s12 : St) => some (v9, s12)))))))
abbrev rm_Model_drain : Room := { frames := 0, cells := 0, slots := 0, locals := 0 }
set_option maxHeartbeats 4000000 in
set_option maxRecDepth 100000 in
theorem t_Model_drain (l : Launch) (G : xG) (σ : St) (r : Int32) (σ' : St) (hE : x_Model_drain σ = some (r, σ')) : Met l y_Model_drain (ws_Model_drain) rm_Model_drain (xP G σ [.ref (G.2.1 51)]) (xQ G (some (.int r)) σ') 0 0 (xA G) := by
  refine Met.ofW (cc := prog_14_method_52_code) (maxL := 2) (ret := (some .int)) (by decide) rfl ?_
  intro p e s m args below meth c s₁ B hml hv
  obtain ⟨rfl, hw, hC⟩ := hv
  have hx := B.exec
  have hb := B.bytes
  have hr := B.returns
  have hu : ∀ w ∈ UW, w.before _ s = true := fun w h => atoms_spec B.pre w (List.mem_cons_of_mem _ h)
  have hown : s.vm.findClass R_Model = some m.cls := findClass_of_methodNamed B.named
  have hlocks := B.notSynchronized
  have hK := hC.1
  have hI := hC.2.1
  have hG := hC.2.2.1
  have hS : va_S (xA G) s.heap s.heap [] := va_S.rf
  have hl := lv_entry ([.ref (G.2.1 51)]) (n := 2) (Nat.le_of_ble_eq_true rfl)
  rw [lg_entry_eq]
  generalize (lg_sl ([.ref (G.2.1 51)]) ++ List.replicate (2 - (lg_sl ([.ref (G.2.1 51)])).length) Slot.unset).toArray = ls at hl ⊢
  have hl : lv_has ls 2 [(0, .ref (G.2.1 51))] := hl
  unfold x_Model_drain at hE
  refine lv_aload_n hx hb d_Model_drain_0 rfl (lv_at hl 0 rfl) ?_
  refine lv_iconst (v := (0 : Int32)) hx hb d_Model_drain_1 (by decide) ?_
  refine va_put (D := G.1) (cl := xCl) (ci := 10) (v := .int (0 : Int32)) (ty := .int) (C := R_Model) (T := T_Model) (N := 33) hx hb hu fi_Model ty_Model tyok_Model nm_Model hown hK hw (x_D hI _) hS 51 (x_at (by decide) (xcl_51 G σ)) rfl 1 (by decide) (hu _ mw_1069) (fun _ h9 => h9) rfl (tyok_Model 1 (by decide)) rfl rfl (Nat.le_of_ble_eq_true rfl) d_Model_drain_2 (fun H locs hw _ hS => ?_)
  replace hw := x_setR hw (by decide) rfl
  obtain ⟨s2, e2, hE⟩ := x_letE hE
  rw [← e2] at hw
  refine lv_aload_n hx hb d_Model_drain_5 rfl (lv_at hl 0 rfl) ?_
  refine va_get (D := G.1) (cl := xCl) (ci := 10) (v := .int (s2.1 51 31)) (C := R_Model) (T := T_Model) (N := 33) hx hb hu fi_Model hown hK hw 51 (x_at (by decide) (xcl_51 G s2)) rfl 31 (by decide) (hu _ mw_1099) (fun _ h9 => h9) rfl d_Model_drain_6 ?_
  refine lv_topi (fun v9 e9 => ?_)
  replace hE := x_letT e9 hE
  refine lv_istore_n hx hb d_Model_drain_9 rfl hl (by decide) rfl (fun ls hl => ?_)
  have hl : lv_has ls 2 [(1, .int v9), (0, .ref (G.2.1 51))] := hl
  refine lv_aload_n hx hb d_Model_drain_10 rfl (lv_at hl 1 rfl) ?_
  refine lv_iconst (v := (0 : Int32)) hx hb d_Model_drain_11 (by decide) ?_
  refine va_put (D := G.1) (cl := xCl) (ci := 10) (v := .int (0 : Int32)) (ty := .int) (C := R_Model) (T := T_Model) (N := 33) hx hb hu fi_Model ty_Model tyok_Model nm_Model hown hK hw (x_D hI _) hS 51 (x_at (by decide) (xcl_51 G s2)) rfl 31 (by decide) (hu _ mw_1099) (fun _ h9 => h9) rfl (tyok_Model 31 (by decide)) rfl rfl (Nat.le_of_ble_eq_true rfl) d_Model_drain_12 (fun H locs hw _ hS => ?_)
  replace hw := x_setR hw (by decide) rfl
  obtain ⟨s12, e12, hE⟩ := x_letE hE
  rw [← e12] at hw
  refine lv_iload_n hx hb d_Model_drain_15 rfl (lv_at hl 0 rfl) ?_
  obtain ⟨e1, e2⟩ := x_pair hE
  exact W.iret (v := v9) hx hb hr (fun t ht hW => ⟨by rw [e1], by rw [ht, ← e2]; exact hw, hS.F ht⟩) hS.2.2 d_Model_drain_16

def y_Model_status : MethodName := ⟨"PlainOriginModel", "status", "()I"⟩
def ws_Model_status : List Cond := Cond.code y_Model_status prog_14_method_53_code 1 (some .int) :: UW
theorem hd_Model_status : y_Model_status.cls = R_Model ∧ y_Model_status.cls ≠ "java/lang/invoke/MethodHandle" ∧ y_Model_status.cls ≠ "java/lang/invoke/VarHandle" ∧ (parseMethodDescriptor y_Model_status.desc).map (fun d => d.parameters.length) = some 0 := by decide +kernel
theorem d_Model_status_0 : decode prog_14_method_53_code 0 = .ok (.aload_n 0, 1) := by decide +kernel
theorem d_Model_status_1 : decode prog_14_method_53_code 1 = .ok (.iconst 0, 1) := by decide +kernel
theorem d_Model_status_2 : decode prog_14_method_53_code 2 = .ok (.putfield 142, 3) := by decide +kernel
theorem d_Model_status_5 : decode prog_14_method_53_code 5 = .ok (.aload_n 0, 1) := by decide +kernel
theorem d_Model_status_6 : decode prog_14_method_53_code 6 = .ok (.getfield 136, 3) := by decide +kernel
theorem d_Model_status_9 : decode prog_14_method_53_code 9 = .ok (.ireturn, 1) := by decide +kernel
def x_Model_status (σ : St) : Option (Int32 × St) := (x_let (x_updR σ 51 1 (0 : Int32)) (fun (s2 : St) => some (s2.1 51 29, s2)))
abbrev rm_Model_status : Room := { frames := 0, cells := 0, slots := 0, locals := 0 }
set_option maxHeartbeats 4000000 in
set_option maxRecDepth 100000 in
theorem t_Model_status (l : Launch) (G : xG) (σ : St) (r : Int32) (σ' : St) (hE : x_Model_status σ = some (r, σ')) : Met l y_Model_status (ws_Model_status) rm_Model_status (xP G σ [.ref (G.2.1 51)]) (xQ G (some (.int r)) σ') 0 0 (xA G) := by
  refine Met.ofW (cc := prog_14_method_53_code) (maxL := 1) (ret := (some .int)) (by decide) rfl ?_
  intro p e s m args below meth c s₁ B hml hv
  obtain ⟨rfl, hw, hC⟩ := hv
  have hx := B.exec
  have hb := B.bytes
  have hr := B.returns
  have hu : ∀ w ∈ UW, w.before _ s = true := fun w h => atoms_spec B.pre w (List.mem_cons_of_mem _ h)
  have hown : s.vm.findClass R_Model = some m.cls := findClass_of_methodNamed B.named
  have hlocks := B.notSynchronized
  have hK := hC.1
  have hI := hC.2.1
  have hG := hC.2.2.1
  have hS : va_S (xA G) s.heap s.heap [] := va_S.rf
  have hl := lv_entry ([.ref (G.2.1 51)]) (n := 1) (Nat.le_of_ble_eq_true rfl)
  rw [lg_entry_eq]
  generalize (lg_sl ([.ref (G.2.1 51)]) ++ List.replicate (1 - (lg_sl ([.ref (G.2.1 51)])).length) Slot.unset).toArray = ls at hl ⊢
  have hl : lv_has ls 1 [(0, .ref (G.2.1 51))] := hl
  unfold x_Model_status at hE
  refine lv_aload_n hx hb d_Model_status_0 rfl (lv_at hl 0 rfl) ?_
  refine lv_iconst (v := (0 : Int32)) hx hb d_Model_status_1 (by decide) ?_
  refine va_put (D := G.1) (cl := xCl) (ci := 10) (v := .int (0 : Int32)) (ty := .int) (C := R_Model) (T := T_Model) (N := 33) hx hb hu fi_Model ty_Model tyok_Model nm_Model hown hK hw (x_D hI _) hS 51 (x_at (by decide) (xcl_51 G σ)) rfl 1 (by decide) (hu _ mw_1069) (fun _ h9 => h9) rfl (tyok_Model 1 (by decide)) rfl rfl (Nat.le_of_ble_eq_true rfl) d_Model_status_2 (fun H locs hw _ hS => ?_)
  replace hw := x_setR hw (by decide) rfl
  obtain ⟨s2, e2, hE⟩ := x_letE hE
  rw [← e2] at hw
  refine lv_aload_n hx hb d_Model_status_5 rfl (lv_at hl 0 rfl) ?_
  refine va_get (D := G.1) (cl := xCl) (ci := 10) (v := .int (s2.1 51 29)) (C := R_Model) (T := T_Model) (N := 33) hx hb hu fi_Model hown hK hw 51 (x_at (by decide) (xcl_51 G s2)) rfl 29 (by decide) (hu _ mw_1097) (fun _ h9 => h9) rfl d_Model_status_6 ?_
  obtain ⟨e1, e2⟩ := x_pair hE
  exact W.iret (v := s2.1 51 29) hx hb hr (fun t ht hW => ⟨by rw [e1], by rw [ht, ← e2]; exact hw, hS.F ht⟩) hS.2.2 d_Model_status_9

def y_Model_reading : MethodName := ⟨"PlainOriginModel", "reading", "()I"⟩
def ws_Model_reading : List Cond := Cond.code y_Model_reading prog_14_method_54_code 1 (some .int) :: UW
theorem hd_Model_reading : y_Model_reading.cls = R_Model ∧ y_Model_reading.cls ≠ "java/lang/invoke/MethodHandle" ∧ y_Model_reading.cls ≠ "java/lang/invoke/VarHandle" ∧ (parseMethodDescriptor y_Model_reading.desc).map (fun d => d.parameters.length) = some 0 := by decide +kernel
theorem d_Model_reading_0 : decode prog_14_method_54_code 0 = .ok (.aload_n 0, 1) := by decide +kernel
theorem d_Model_reading_1 : decode prog_14_method_54_code 1 = .ok (.iconst 0, 1) := by decide +kernel
theorem d_Model_reading_2 : decode prog_14_method_54_code 2 = .ok (.putfield 142, 3) := by decide +kernel
theorem d_Model_reading_5 : decode prog_14_method_54_code 5 = .ok (.aload_n 0, 1) := by decide +kernel
theorem d_Model_reading_6 : decode prog_14_method_54_code 6 = .ok (.getfield 101, 3) := by decide +kernel
theorem d_Model_reading_9 : decode prog_14_method_54_code 9 = .ok (.ifCond .eq (10), 3) := by decide +kernel
theorem d_Model_reading_12 : decode prog_14_method_54_code 12 = .ok (.aload_n 0, 1) := by decide +kernel
theorem d_Model_reading_13 : decode prog_14_method_54_code 13 = .ok (.getfield 179, 3) := by decide +kernel
theorem d_Model_reading_16 : decode prog_14_method_54_code 16 = .ok (.goto (4), 3) := by decide +kernel
theorem d_Model_reading_19 : decode prog_14_method_54_code 19 = .ok (.iconst (-1), 1) := by decide +kernel
theorem d_Model_reading_20 : decode prog_14_method_54_code 20 = .ok (.ireturn, 1) := by decide +kernel
def x_Model_reading (σ : St) : Option (Int32 × St) := (x_let (x_updR σ 51 1 (0 : Int32)) (fun (s2 : St) => (if (s2.1 51 7) = 0 then some (((-1) : Int32), s2) else some (s2.1 51 8, s2))))
abbrev rm_Model_reading : Room := { frames := 0, cells := 0, slots := 0, locals := 0 }
set_option maxHeartbeats 4000000 in
set_option maxRecDepth 100000 in
theorem t_Model_reading (l : Launch) (G : xG) (σ : St) (r : Int32) (σ' : St) (hE : x_Model_reading σ = some (r, σ')) : Met l y_Model_reading (ws_Model_reading) rm_Model_reading (xP G σ [.ref (G.2.1 51)]) (xQ G (some (.int r)) σ') 0 0 (xA G) := by
  refine Met.ofW (cc := prog_14_method_54_code) (maxL := 1) (ret := (some .int)) (by decide) rfl ?_
  intro p e s m args below meth c s₁ B hml hv
  obtain ⟨rfl, hw, hC⟩ := hv
  have hx := B.exec
  have hb := B.bytes
  have hr := B.returns
  have hu : ∀ w ∈ UW, w.before _ s = true := fun w h => atoms_spec B.pre w (List.mem_cons_of_mem _ h)
  have hown : s.vm.findClass R_Model = some m.cls := findClass_of_methodNamed B.named
  have hlocks := B.notSynchronized
  have hK := hC.1
  have hI := hC.2.1
  have hG := hC.2.2.1
  have hS : va_S (xA G) s.heap s.heap [] := va_S.rf
  have hl := lv_entry ([.ref (G.2.1 51)]) (n := 1) (Nat.le_of_ble_eq_true rfl)
  rw [lg_entry_eq]
  generalize (lg_sl ([.ref (G.2.1 51)]) ++ List.replicate (1 - (lg_sl ([.ref (G.2.1 51)])).length) Slot.unset).toArray = ls at hl ⊢
  have hl : lv_has ls 1 [(0, .ref (G.2.1 51))] := hl
  unfold x_Model_reading at hE
  refine lv_aload_n hx hb d_Model_reading_0 rfl (lv_at hl 0 rfl) ?_
  refine lv_iconst (v := (0 : Int32)) hx hb d_Model_reading_1 (by decide) ?_
  refine va_put (D := G.1) (cl := xCl) (ci := 10) (v := .int (0 : Int32)) (ty := .int) (C := R_Model) (T := T_Model) (N := 33) hx hb hu fi_Model ty_Model tyok_Model nm_Model hown hK hw (x_D hI _) hS 51 (x_at (by decide) (xcl_51 G σ)) rfl 1 (by decide) (hu _ mw_1069) (fun _ h9 => h9) rfl (tyok_Model 1 (by decide)) rfl rfl (Nat.le_of_ble_eq_true rfl) d_Model_reading_2 (fun H locs hw _ hS => ?_)
  replace hw := x_setR hw (by decide) rfl
  obtain ⟨s2, e2, hE⟩ := x_letE hE
  rw [← e2] at hw
  refine lv_aload_n hx hb d_Model_reading_5 rfl (lv_at hl 0 rfl) ?_
  refine va_get (D := G.1) (cl := xCl) (ci := 10) (v := .int (s2.1 51 7)) (C := R_Model) (T := T_Model) (N := 33) hx hb hu fi_Model hown hK hw 51 (x_at (by decide) (xcl_51 G s2)) rfl 7 (by decide) (hu _ mw_1075) (fun _ h9 => h9) rfl d_Model_reading_6 ?_
  refine lv_if_eq (tgt := 19) hx hb d_Model_reading_9 (by decide) (fun hc9 => ?_) (fun hc9 => ?_)
  · rw [if_pos hc9] at hE
    refine lv_iconst (v := ((-1) : Int32)) hx hb d_Model_reading_19 (by decide) ?_
    obtain ⟨e1, e2⟩ := x_pair hE
    exact W.iret (v := ((-1) : Int32)) hx hb hr (fun t ht hW => ⟨by rw [e1], by rw [ht, ← e2]; exact hw, hS.F ht⟩) hS.2.2 d_Model_reading_20
  · rw [if_neg hc9] at hE
    refine lv_aload_n hx hb d_Model_reading_12 rfl (lv_at hl 0 rfl) ?_
    refine va_get (D := G.1) (cl := xCl) (ci := 10) (v := .int (s2.1 51 8)) (C := R_Model) (T := T_Model) (N := 33) hx hb hu fi_Model hown hK hw 51 (x_at (by decide) (xcl_51 G s2)) rfl 8 (by decide) (hu _ mw_1076) (fun _ h9 => h9) rfl d_Model_reading_13 ?_
    refine lv_goto (tgt := 20) hx hb d_Model_reading_16 (by decide) ?_
    obtain ⟨e1, e2⟩ := x_pair hE
    exact W.iret (v := s2.1 51 8) hx hb hr (fun t ht hW => ⟨by rw [e1], by rw [ht, ← e2]; exact hw, hS.F ht⟩) hS.2.2 d_Model_reading_20

def y_Model_size : MethodName := ⟨"PlainOriginModel", "size", "(I)I"⟩
def ws_Model_size : List Cond := Cond.code y_Model_size prog_14_method_55_code 2 (some .int) :: UW
theorem hd_Model_size : y_Model_size.cls = R_Model ∧ y_Model_size.cls ≠ "java/lang/invoke/MethodHandle" ∧ y_Model_size.cls ≠ "java/lang/invoke/VarHandle" ∧ (parseMethodDescriptor y_Model_size.desc).map (fun d => d.parameters.length) = some 1 := by decide +kernel
theorem d_Model_size_0 : decode prog_14_method_55_code 0 = .ok (.aload_n 0, 1) := by decide +kernel
theorem d_Model_size_1 : decode prog_14_method_55_code 1 = .ok (.iload_n 1, 1) := by decide +kernel
theorem d_Model_size_2 : decode prog_14_method_55_code 2 = .ok (.iconst 0, 1) := by decide +kernel
theorem d_Model_size_3 : decode prog_14_method_55_code 3 = .ok (.bipush (7), 2) := by decide +kernel
theorem d_Model_size_5 : decode prog_14_method_55_code 5 = .ok (.invokestatic 147, 3) := by decide +kernel
theorem d_Model_size_8 : decode prog_14_method_55_code 8 = .ok (.ifCond .eq (7), 3) := by decide +kernel
theorem d_Model_size_11 : decode prog_14_method_55_code 11 = .ok (.iconst 0, 1) := by decide +kernel
theorem d_Model_size_12 : decode prog_14_method_55_code 12 = .ok (.goto (4), 3) := by decide +kernel
theorem d_Model_size_15 : decode prog_14_method_55_code 15 = .ok (.iconst 1, 1) := by decide +kernel
theorem d_Model_size_16 : decode prog_14_method_55_code 16 = .ok (.putfield 142, 3) := by decide +kernel
theorem d_Model_size_19 : decode prog_14_method_55_code 19 = .ok (.aload_n 0, 1) := by decide +kernel
theorem d_Model_size_20 : decode prog_14_method_55_code 20 = .ok (.getfield 142, 3) := by decide +kernel
theorem d_Model_size_23 : decode prog_14_method_55_code 23 = .ok (.ifCond .le (7), 3) := by decide +kernel
theorem d_Model_size_26 : decode prog_14_method_55_code 26 = .ok (.iconst 0, 1) := by decide +kernel
theorem d_Model_size_27 : decode prog_14_method_55_code 27 = .ok (.goto (22), 3) := by decide +kernel
theorem d_Model_size_30 : decode prog_14_method_55_code 30 = .ok (.aload_n 0, 1) := by decide +kernel
theorem d_Model_size_31 : decode prog_14_method_55_code 31 = .ok (.getfield 87, 3) := by decide +kernel
theorem d_Model_size_34 : decode prog_14_method_55_code 34 = .ok (.iload_n 1, 1) := by decide +kernel
theorem d_Model_size_35 : decode prog_14_method_55_code 35 = .ok (.baload, 1) := by decide +kernel
theorem d_Model_size_36 : decode prog_14_method_55_code 36 = .ok (.ifCond .eq (12), 3) := by decide +kernel
theorem d_Model_size_39 : decode prog_14_method_55_code 39 = .ok (.aload_n 0, 1) := by decide +kernel
theorem d_Model_size_40 : decode prog_14_method_55_code 40 = .ok (.getfield 95, 3) := by decide +kernel
theorem d_Model_size_43 : decode prog_14_method_55_code 43 = .ok (.iload_n 1, 1) := by decide +kernel
theorem d_Model_size_44 : decode prog_14_method_55_code 44 = .ok (.iaload, 1) := by decide +kernel
theorem d_Model_size_45 : decode prog_14_method_55_code 45 = .ok (.goto (4), 3) := by decide +kernel
theorem d_Model_size_48 : decode prog_14_method_55_code 48 = .ok (.iconst (-1), 1) := by decide +kernel
theorem d_Model_size_49 : decode prog_14_method_55_code 49 = .ok (.ireturn, 1) := by decide +kernel
def x_Model_size_16 (a1 : Int32) (k0 : Int32) (σ : St) : Option (Int32 × St) := (x_let (x_updR σ 51 1 k0) (fun (s16 : St) => (if (s16.1 51 1) ≤ 0 then (if x_in a1 8 then (if (s16.2.1 53 a1.toNatClampNeg) = 0 then some (((-1) : Int32), s16) else (if x_in a1 8 then some (s16.2.1 55 a1.toNatClampNeg, s16) else none)) else none) else some ((0 : Int32), s16))))
def x_Model_size (a1 : Int32) (σ : St) : Option (Int32 × St) := (Option.bind (x_Model_within a1 (0 : Int32) (7 : Int32)) (fun r5 => (if r5 = 0 then x_Model_size_16 a1 (1 : Int32) σ else x_Model_size_16 a1 (0 : Int32) σ)))
abbrev rm_Model_size : Room := { frames := 1, cells := 0, slots := 0, locals := 22 }
set_option maxHeartbeats 4000000 in
set_option maxRecDepth 100000 in
theorem t_Model_size (l : Launch) (G : xG) (σ : St) (a1 : Int32) (r : Int32) (σ' : St) (hE : x_Model_size a1 σ = some (r, σ')) : Met l y_Model_size (ws_Model_size) rm_Model_size (xP G σ [.ref (G.2.1 51), .int a1]) (xQ G (some (.int r)) σ') 0 0 (xA G) := by
  refine Met.ofW (cc := prog_14_method_55_code) (maxL := 2) (ret := (some .int)) (by decide) rfl ?_
  intro p e s m args below meth c s₁ B hml hv
  obtain ⟨rfl, hw, hC⟩ := hv
  have hx := B.exec
  have hb := B.bytes
  have hr := B.returns
  have hu : ∀ w ∈ UW, w.before _ s = true := fun w h => atoms_spec B.pre w (List.mem_cons_of_mem _ h)
  have hown : s.vm.findClass R_Model = some m.cls := findClass_of_methodNamed B.named
  have hlocks := B.notSynchronized
  have hK := hC.1
  have hI := hC.2.1
  have hG := hC.2.2.1
  have hS : va_S (xA G) s.heap s.heap [] := va_S.rf
  have jn16 : ∀ (ls : Array Slot) (H : Heap) (locs : List Loc) (σ : St) (k0 : Int32), x_Model_size_16 a1 k0 σ = some (r, σ') → lv_has ls 2 [(0, .ref (G.2.1 51)), (1, .int a1)] → xw G σ H → va_S (xA G) s.heap H locs → W p l e (headSpec (ws_Model_size) rm_Model_size).room s m ([.ref (G.2.1 51), .int a1] : List Value).toArray below meth c H locs 0 0 (MQ below (xQ G (some (.int r)) σ') ([.ref (G.2.1 51), .int a1] : List Value).toArray s 0 0 (xA G)) (F0 m 16 ls [.int k0, .ref (G.2.1 51)]) := by
    intro ls H locs σ k0 hE hl hw hS
    unfold x_Model_size_16 at hE
    refine va_put (D := G.1) (cl := xCl) (ci := 10) (v := .int k0) (ty := .int) (C := R_Model) (T := T_Model) (N := 33) hx hb hu fi_Model ty_Model tyok_Model nm_Model hown hK hw (x_D hI _) hS 51 (x_at (by decide) (xcl_51 G σ)) rfl 1 (by decide) (hu _ mw_1069) (fun _ h9 => h9) rfl (tyok_Model 1 (by decide)) rfl rfl (Nat.le_of_ble_eq_true rfl) d_Model_size_16 (fun H locs hw _ hS => ?_)
    replace hw := x_setR hw (by decide) rfl
    obtain ⟨s16, e16, hE⟩ := x_letE hE
    rw [← e16] at hw
    refine lv_aload_n hx hb d_Model_size_19 rfl (lv_at hl 0 rfl) ?_
    refine va_get (D := G.1) (cl := xCl) (ci := 10) (v := .int (s16.1 51 1)) (C := R_Model) (T := T_Model) (N := 33) hx hb hu fi_Model hown hK hw 51 (x_at (by decide) (xcl_51 G s16)) rfl 1 (by decide) (hu _ mw_1069) (fun _ h9 => h9) rfl d_Model_size_20 ?_
    refine lv_if_le (tgt := 30) hx hb d_Model_size_23 (by decide) (fun hc23 => ?_) (fun hc23 => ?_)
    · rw [if_pos hc23] at hE
      refine lv_aload_n hx hb d_Model_size_30 rfl (lv_at hl 0 rfl) ?_
      refine va_get (D := G.1) (cl := xCl) (ci := 10) (v := .ref (G.2.1 53)) (C := R_Model) (T := T_Model) (N := 33) hx hb hu fi_Model hown hK hw 51 (x_at (by decide) (xcl_51 G s16)) rfl 2 (by decide) (hu _ mw_1070) (fun _ h9 => h9) rfl d_Model_size_31 ?_
      refine lv_iload_n hx hb d_Model_size_34 rfl (lv_at hl 1 rfl) ?_
      obtain ⟨g35, hE⟩ := x_guard hE
      refine va_zald hx hb hK hw 53 1 (x_at (by decide) (xcl_53 G s16)) rfl g35 d_Model_size_35 ?_
      refine lv_if_eq (tgt := 48) hx hb d_Model_size_36 (by decide) (fun hc36 => ?_) (fun hc36 => ?_)
      · rw [if_pos hc36] at hE
        refine lv_iconst (v := ((-1) : Int32)) hx hb d_Model_size_48 (by decide) ?_
        obtain ⟨e1, e2⟩ := x_pair hE
        exact W.iret (v := ((-1) : Int32)) hx hb hr (fun t ht hW => ⟨by rw [e1], by rw [ht, ← e2]; exact hw, hS.F ht⟩) hS.2.2 d_Model_size_49
      · rw [if_neg hc36] at hE
        refine lv_aload_n hx hb d_Model_size_39 rfl (lv_at hl 0 rfl) ?_
        refine va_get (D := G.1) (cl := xCl) (ci := 10) (v := .ref (G.2.1 55)) (C := R_Model) (T := T_Model) (N := 33) hx hb hu fi_Model hown hK hw 51 (x_at (by decide) (xcl_51 G s16)) rfl 4 (by decide) (hu _ mw_1072) (fun _ h9 => h9) rfl d_Model_size_40 ?_
        refine lv_iload_n hx hb d_Model_size_43 rfl (lv_at hl 1 rfl) ?_
        obtain ⟨g44, hE⟩ := x_guard hE
        refine va_iald hx hb hK hw 55 0 (x_at (by decide) (xcl_55 G s16)) rfl g44 d_Model_size_44 ?_
        refine lv_goto (tgt := 49) hx hb d_Model_size_45 (by decide) ?_
        obtain ⟨e1, e2⟩ := x_pair hE
        exact W.iret (v := s16.2.1 55 a1.toNatClampNeg) hx hb hr (fun t ht hW => ⟨by rw [e1], by rw [ht, ← e2]; exact hw, hS.F ht⟩) hS.2.2 d_Model_size_49
    · rw [if_neg hc23] at hE
      refine lv_iconst (v := (0 : Int32)) hx hb d_Model_size_26 (by decide) ?_
      refine lv_goto (tgt := 49) hx hb d_Model_size_27 (by decide) ?_
      obtain ⟨e1, e2⟩ := x_pair hE
      exact W.iret (v := (0 : Int32)) hx hb hr (fun t ht hW => ⟨by rw [e1], by rw [ht, ← e2]; exact hw, hS.F ht⟩) hS.2.2 d_Model_size_49
  have hl := lv_entry ([.ref (G.2.1 51), .int a1]) (n := 2) (Nat.le_of_ble_eq_true rfl)
  rw [lg_entry_eq]
  generalize (lg_sl ([.ref (G.2.1 51), .int a1]) ++ List.replicate (2 - (lg_sl ([.ref (G.2.1 51), .int a1])).length) Slot.unset).toArray = ls at hl ⊢
  have hl : lv_has ls 2 [(0, .ref (G.2.1 51)), (1, .int a1)] := hl
  unfold x_Model_size at hE
  refine lv_aload_n hx hb d_Model_size_0 rfl (lv_at hl 0 rfl) ?_
  refine lv_iload_n hx hb d_Model_size_1 rfl (lv_at hl 1 rfl) ?_
  refine lv_iconst (v := (0 : Int32)) hx hb d_Model_size_2 (by decide) ?_
  refine lv_bipush (v := (7 : Int32)) hx hb d_Model_size_3 (by decide) ?_
  obtain ⟨r5, hC5, hE⟩ := x_bind hE
  refine x_callR (W.runS (As := [.int a1, .int (0 : Int32), .int (7 : Int32)]) (rest := [.ref (G.2.1 51)]) ⟨hx, hb, hml, hown, hu⟩ (t_Model_within l G σ a1 (0 : Int32) (7 : Int32) r5 hC5) (va_cwS 3 hu (uw_S mw_1178 mw_1179 mw_70 mw_1180) rfl rfl rfl hd_Model_within ⟨Nat.le_of_ble_eq_true rfl, Nat.le_of_ble_eq_true rfl⟩) (x_preS hC hS hw) rfl rfl hl.1 rfl (lv_room (Nat.le_of_ble_eq_true rfl)) d_Model_size_5 ⟨Nat.le_of_ble_eq_true rfl, Nat.le_of_ble_eq_true rfl⟩) ?_
  refine lv_if_eq (tgt := 15) hx hb d_Model_size_8 (by decide) (fun hc8 => ?_) (fun hc8 => ?_)
  · rw [if_pos hc8] at hE
    refine lv_iconst (v := (1 : Int32)) hx hb d_Model_size_15 (by decide) ?_
    exact jn16 _ _ _ _ _ hE (lv_sub hl [0, 1] rfl) hw hS
  · rw [if_neg hc8] at hE
    refine lv_iconst (v := (0 : Int32)) hx hb d_Model_size_11 (by decide) ?_
    refine lv_goto (tgt := 16) hx hb d_Model_size_12 (by decide) ?_
    exact jn16 _ _ _ _ _ hE (lv_sub hl [0, 1] rfl) hw hS

def y_Model_at : MethodName := ⟨"PlainOriginModel", "at", "(II)I"⟩
def ws_Model_at : List Cond := Cond.code y_Model_at prog_14_method_56_code 3 (some .int) :: UW
theorem hd_Model_at : y_Model_at.cls = R_Model ∧ y_Model_at.cls ≠ "java/lang/invoke/MethodHandle" ∧ y_Model_at.cls ≠ "java/lang/invoke/VarHandle" ∧ (parseMethodDescriptor y_Model_at.desc).map (fun d => d.parameters.length) = some 2 := by decide +kernel
theorem d_Model_at_0 : decode prog_14_method_56_code 0 = .ok (.aload_n 0, 1) := by decide +kernel
theorem d_Model_at_1 : decode prog_14_method_56_code 1 = .ok (.iload_n 1, 1) := by decide +kernel
theorem d_Model_at_2 : decode prog_14_method_56_code 2 = .ok (.iconst 0, 1) := by decide +kernel
theorem d_Model_at_3 : decode prog_14_method_56_code 3 = .ok (.bipush (7), 2) := by decide +kernel
theorem d_Model_at_5 : decode prog_14_method_56_code 5 = .ok (.invokestatic 147, 3) := by decide +kernel
theorem d_Model_at_8 : decode prog_14_method_56_code 8 = .ok (.ifCond .ne (7), 3) := by decide +kernel
theorem d_Model_at_11 : decode prog_14_method_56_code 11 = .ok (.iconst 1, 1) := by decide +kernel
theorem d_Model_at_12 : decode prog_14_method_56_code 12 = .ok (.goto (31), 3) := by decide +kernel
theorem d_Model_at_15 : decode prog_14_method_56_code 15 = .ok (.aload_n 0, 1) := by decide +kernel
theorem d_Model_at_16 : decode prog_14_method_56_code 16 = .ok (.getfield 87, 3) := by decide +kernel
theorem d_Model_at_19 : decode prog_14_method_56_code 19 = .ok (.iload_n 1, 1) := by decide +kernel
theorem d_Model_at_20 : decode prog_14_method_56_code 20 = .ok (.baload, 1) := by decide +kernel
theorem d_Model_at_21 : decode prog_14_method_56_code 21 = .ok (.ifCond .eq (17), 3) := by decide +kernel
theorem d_Model_at_24 : decode prog_14_method_56_code 24 = .ok (.iload_n 2, 1) := by decide +kernel
theorem d_Model_at_25 : decode prog_14_method_56_code 25 = .ok (.ifCond .lt (13), 3) := by decide +kernel
theorem d_Model_at_28 : decode prog_14_method_56_code 28 = .ok (.iload_n 2, 1) := by decide +kernel
theorem d_Model_at_29 : decode prog_14_method_56_code 29 = .ok (.aload_n 0, 1) := by decide +kernel
theorem d_Model_at_30 : decode prog_14_method_56_code 30 = .ok (.getfield 95, 3) := by decide +kernel
theorem d_Model_at_33 : decode prog_14_method_56_code 33 = .ok (.iload_n 1, 1) := by decide +kernel
theorem d_Model_at_34 : decode prog_14_method_56_code 34 = .ok (.iaload, 1) := by decide +kernel
theorem d_Model_at_35 : decode prog_14_method_56_code 35 = .ok (.if_icmp .lt (7), 3) := by decide +kernel
theorem d_Model_at_38 : decode prog_14_method_56_code 38 = .ok (.iconst 2, 1) := by decide +kernel
theorem d_Model_at_39 : decode prog_14_method_56_code 39 = .ok (.goto (4), 3) := by decide +kernel
theorem d_Model_at_42 : decode prog_14_method_56_code 42 = .ok (.iconst 0, 1) := by decide +kernel
theorem d_Model_at_43 : decode prog_14_method_56_code 43 = .ok (.putfield 142, 3) := by decide +kernel
theorem d_Model_at_46 : decode prog_14_method_56_code 46 = .ok (.aload_n 0, 1) := by decide +kernel
theorem d_Model_at_47 : decode prog_14_method_56_code 47 = .ok (.getfield 142, 3) := by decide +kernel
theorem d_Model_at_50 : decode prog_14_method_56_code 50 = .ok (.ifCond .le (7), 3) := by decide +kernel
theorem d_Model_at_53 : decode prog_14_method_56_code 53 = .ok (.iconst 0, 1) := by decide +kernel
theorem d_Model_at_54 : decode prog_14_method_56_code 54 = .ok (.goto (15), 3) := by decide +kernel
theorem d_Model_at_57 : decode prog_14_method_56_code 57 = .ok (.aload_n 0, 1) := by decide +kernel
theorem d_Model_at_58 : decode prog_14_method_56_code 58 = .ok (.getfield 98, 3) := by decide +kernel
theorem d_Model_at_61 : decode prog_14_method_56_code 61 = .ok (.sipush (200), 3) := by decide +kernel
theorem d_Model_at_64 : decode prog_14_method_56_code 64 = .ok (.iload_n 1, 1) := by decide +kernel
theorem d_Model_at_65 : decode prog_14_method_56_code 65 = .ok (.imul, 1) := by decide +kernel
theorem d_Model_at_66 : decode prog_14_method_56_code 66 = .ok (.iload_n 2, 1) := by decide +kernel
theorem d_Model_at_67 : decode prog_14_method_56_code 67 = .ok (.iadd, 1) := by decide +kernel
theorem d_Model_at_68 : decode prog_14_method_56_code 68 = .ok (.iaload, 1) := by decide +kernel
theorem d_Model_at_69 : decode prog_14_method_56_code 69 = .ok (.ireturn, 1) := by decide +kernel
def x_Model_at_43 (a1 : Int32) (a2 : Int32) (k0 : Int32) (σ : St) : Option (Int32 × St) := (x_let (x_updR σ 51 1 k0) (fun (s43 : St) => (if (s43.1 51 1) ≤ 0 then (if x_in (((200 : Int32) * a1) + a2) 1600 then some (s43.2.1 56 (((200 : Int32) * a1) + a2).toNatClampNeg, s43) else none) else some ((0 : Int32), s43))))
def x_Model_at_38 (a1 : Int32) (a2 : Int32) (σ : St) : Option (Int32 × St) := x_Model_at_43 a1 a2 (2 : Int32) σ
def x_Model_at (a1 : Int32) (a2 : Int32) (σ : St) : Option (Int32 × St) := (Option.bind (x_Model_within a1 (0 : Int32) (7 : Int32)) (fun r5 => (if r5 = 0 then x_Model_at_43 a1 a2 (1 : Int32) σ else (if x_in a1 8 then (if (σ.2.1 53 a1.toNatClampNeg) = 0 then x_Model_at_38 a1 a2 σ else (if a2 < 0 then x_Model_at_38 a1 a2 σ else (if x_in a1 8 then (if a2 < (σ.2.1 55 a1.toNatClampNeg) then x_Model_at_43 a1 a2 (0 : Int32) σ else x_Model_at_38 a1 a2 σ) else none))) else none))))
abbrev rm_Model_at : Room := { frames := 1, cells := 0, slots := 0, locals := 22 }
set_option maxHeartbeats 4000000 in
set_option maxRecDepth 100000 in
theorem t_Model_at (l : Launch) (G : xG) (σ : St) (a1 : Int32) (a2 : Int32) (r : Int32) (σ' : St) (hE : x_Model_at a1 a2 σ = some (r, σ')) : Met l y_Model_at (ws_Model_at) rm_Model_at (xP G σ [.ref (G.2.1 51), .int a1, .int a2]) (xQ G (some (.int r)) σ') 0 0 (xA G) := by
  refine Met.ofW (cc := prog_14_method_56_code) (maxL := 3) (ret := (some .int)) (by decide) rfl ?_
  intro p e s m args below meth c s₁ B hml hv
  obtain ⟨rfl, hw, hC⟩ := hv
  have hx := B.exec
  have hb := B.bytes
  have hr := B.returns
  have hu : ∀ w ∈ UW, w.before _ s = true := fun w h => atoms_spec B.pre w (List.mem_cons_of_mem _ h)
  have hown : s.vm.findClass R_Model = some m.cls := findClass_of_methodNamed B.named
  have hlocks := B.notSynchronized
  have hK := hC.1
  have hI := hC.2.1
  have hG := hC.2.2.1
  have hS : va_S (xA G) s.heap s.heap [] := va_S.rf
  have jn43 : ∀ (ls : Array Slot) (H : Heap) (locs : List Loc) (σ : St) (k0 : Int32), x_Model_at_43 a1 a2 k0 σ = some (r, σ') → lv_has ls 3 [(0, .ref (G.2.1 51)), (1, .int a1), (2, .int a2)] → xw G σ H → va_S (xA G) s.heap H locs → W p l e (headSpec (ws_Model_at) rm_Model_at).room s m ([.ref (G.2.1 51), .int a1, .int a2] : List Value).toArray below meth c H locs 0 0 (MQ below (xQ G (some (.int r)) σ') ([.ref (G.2.1 51), .int a1, .int a2] : List Value).toArray s 0 0 (xA G)) (F0 m 43 ls [.int k0, .ref (G.2.1 51)]) := by
    intro ls H locs σ k0 hE hl hw hS
    unfold x_Model_at_43 at hE
    refine va_put (D := G.1) (cl := xCl) (ci := 10) (v := .int k0) (ty := .int) (C := R_Model) (T := T_Model) (N := 33) hx hb hu fi_Model ty_Model tyok_Model nm_Model hown hK hw (x_D hI _) hS 51 (x_at (by decide) (xcl_51 G σ)) rfl 1 (by decide) (hu _ mw_1069) (fun _ h9 => h9) rfl (tyok_Model 1 (by decide)) rfl rfl (Nat.le_of_ble_eq_true rfl) d_Model_at_43 (fun H locs hw _ hS => ?_)
    replace hw := x_setR hw (by decide) rfl
    obtain ⟨s43, e43, hE⟩ := x_letE hE
    rw [← e43] at hw
    refine lv_aload_n hx hb d_Model_at_46 rfl (lv_at hl 0 rfl) ?_
    refine va_get (D := G.1) (cl := xCl) (ci := 10) (v := .int (s43.1 51 1)) (C := R_Model) (T := T_Model) (N := 33) hx hb hu fi_Model hown hK hw 51 (x_at (by decide) (xcl_51 G s43)) rfl 1 (by decide) (hu _ mw_1069) (fun _ h9 => h9) rfl d_Model_at_47 ?_
    refine lv_if_le (tgt := 57) hx hb d_Model_at_50 (by decide) (fun hc50 => ?_) (fun hc50 => ?_)
    · rw [if_pos hc50] at hE
      refine lv_aload_n hx hb d_Model_at_57 rfl (lv_at hl 0 rfl) ?_
      refine va_get (D := G.1) (cl := xCl) (ci := 10) (v := .ref (G.2.1 56)) (C := R_Model) (T := T_Model) (N := 33) hx hb hu fi_Model hown hK hw 51 (x_at (by decide) (xcl_51 G s43)) rfl 5 (by decide) (hu _ mw_1073) (fun _ h9 => h9) rfl d_Model_at_58 ?_
      refine lv_sipush (v := (200 : Int32)) hx hb d_Model_at_61 (by decide) ?_
      refine lv_iload_n hx hb d_Model_at_64 rfl (lv_at hl 1 rfl) ?_
      refine lv_imul hx hb d_Model_at_65 ?_
      refine lv_iload_n hx hb d_Model_at_66 rfl (lv_at hl 2 rfl) ?_
      refine lv_iadd hx hb d_Model_at_67 ?_
      obtain ⟨g68, hE⟩ := x_guard hE
      refine va_iald hx hb hK hw 56 0 (x_at (by decide) (xcl_56 G s43)) rfl g68 d_Model_at_68 ?_
      obtain ⟨e1, e2⟩ := x_pair hE
      exact W.iret (v := s43.2.1 56 (((200 : Int32) * a1) + a2).toNatClampNeg) hx hb hr (fun t ht hW => ⟨by rw [e1], by rw [ht, ← e2]; exact hw, hS.F ht⟩) hS.2.2 d_Model_at_69
    · rw [if_neg hc50] at hE
      refine lv_iconst (v := (0 : Int32)) hx hb d_Model_at_53 (by decide) ?_
      refine lv_goto (tgt := 69) hx hb d_Model_at_54 (by decide) ?_
      obtain ⟨e1, e2⟩ := x_pair hE
      exact W.iret (v := (0 : Int32)) hx hb hr (fun t ht hW => ⟨by rw [e1], by rw [ht, ← e2]; exact hw, hS.F ht⟩) hS.2.2 d_Model_at_69
  have jn38 : ∀ (ls : Array Slot) (H : Heap) (locs : List Loc) (σ : St), x_Model_at_38 a1 a2 σ = some (r, σ') → lv_has ls 3 [(0, .ref (G.2.1 51)), (1, .int a1), (2, .int a2)] → xw G σ H → va_S (xA G) s.heap H locs → W p l e (headSpec (ws_Model_at) rm_Model_at).room s m ([.ref (G.2.1 51), .int a1, .int a2] : List Value).toArray below meth c H locs 0 0 (MQ below (xQ G (some (.int r)) σ') ([.ref (G.2.1 51), .int a1, .int a2] : List Value).toArray s 0 0 (xA G)) (F0 m 38 ls [.ref (G.2.1 51)]) := by
    intro ls H locs σ hE hl hw hS
    unfold x_Model_at_38 at hE
    refine lv_iconst (v := (2 : Int32)) hx hb d_Model_at_38 (by decide) ?_
    refine lv_goto (tgt := 43) hx hb d_Model_at_39 (by decide) ?_
    exact jn43 _ _ _ _ _ hE (lv_sub hl [0, 1, 2] rfl) hw hS
  have hl := lv_entry ([.ref (G.2.1 51), .int a1, .int a2]) (n := 3) (Nat.le_of_ble_eq_true rfl)
  rw [lg_entry_eq]
  generalize (lg_sl ([.ref (G.2.1 51), .int a1, .int a2]) ++ List.replicate (3 - (lg_sl ([.ref (G.2.1 51), .int a1, .int a2])).length) Slot.unset).toArray = ls at hl ⊢
  have hl : lv_has ls 3 [(0, .ref (G.2.1 51)), (1, .int a1), (2, .int a2)] := hl
  unfold x_Model_at at hE
  refine lv_aload_n hx hb d_Model_at_0 rfl (lv_at hl 0 rfl) ?_
  refine lv_iload_n hx hb d_Model_at_1 rfl (lv_at hl 1 rfl) ?_
  refine lv_iconst (v := (0 : Int32)) hx hb d_Model_at_2 (by decide) ?_
  refine lv_bipush (v := (7 : Int32)) hx hb d_Model_at_3 (by decide) ?_
  obtain ⟨r5, hC5, hE⟩ := x_bind hE
  refine x_callR (W.runS (As := [.int a1, .int (0 : Int32), .int (7 : Int32)]) (rest := [.ref (G.2.1 51)]) ⟨hx, hb, hml, hown, hu⟩ (t_Model_within l G σ a1 (0 : Int32) (7 : Int32) r5 hC5) (va_cwS 3 hu (uw_S mw_1178 mw_1179 mw_70 mw_1180) rfl rfl rfl hd_Model_within ⟨Nat.le_of_ble_eq_true rfl, Nat.le_of_ble_eq_true rfl⟩) (x_preS hC hS hw) rfl rfl hl.1 rfl (lv_room (Nat.le_of_ble_eq_true rfl)) d_Model_at_5 ⟨Nat.le_of_ble_eq_true rfl, Nat.le_of_ble_eq_true rfl⟩) ?_
  refine lv_if_ne (tgt := 15) hx hb d_Model_at_8 (by decide) (fun hc8 => ?_) (fun hc8 => ?_)
  · rw [if_neg hc8] at hE
    refine lv_aload_n hx hb d_Model_at_15 rfl (lv_at hl 0 rfl) ?_
    refine va_get (D := G.1) (cl := xCl) (ci := 10) (v := .ref (G.2.1 53)) (C := R_Model) (T := T_Model) (N := 33) hx hb hu fi_Model hown hK hw 51 (x_at (by decide) (xcl_51 G σ)) rfl 2 (by decide) (hu _ mw_1070) (fun _ h9 => h9) rfl d_Model_at_16 ?_
    refine lv_iload_n hx hb d_Model_at_19 rfl (lv_at hl 1 rfl) ?_
    obtain ⟨g20, hE⟩ := x_guard hE
    refine va_zald hx hb hK hw 53 1 (x_at (by decide) (xcl_53 G σ)) rfl g20 d_Model_at_20 ?_
    refine lv_if_eq (tgt := 38) hx hb d_Model_at_21 (by decide) (fun hc21 => ?_) (fun hc21 => ?_)
    · rw [if_pos hc21] at hE
      exact jn38 _ _ _ _ hE (lv_sub hl [0, 1, 2] rfl) hw hS
    · rw [if_neg hc21] at hE
      refine lv_iload_n hx hb d_Model_at_24 rfl (lv_at hl 2 rfl) ?_
      refine lv_if_lt (tgt := 38) hx hb d_Model_at_25 (by decide) (fun hc25 => ?_) (fun hc25 => ?_)
      · rw [if_pos hc25] at hE
        exact jn38 _ _ _ _ hE (lv_sub hl [0, 1, 2] rfl) hw hS
      · rw [if_neg hc25] at hE
        refine lv_iload_n hx hb d_Model_at_28 rfl (lv_at hl 2 rfl) ?_
        refine lv_aload_n hx hb d_Model_at_29 rfl (lv_at hl 0 rfl) ?_
        refine va_get (D := G.1) (cl := xCl) (ci := 10) (v := .ref (G.2.1 55)) (C := R_Model) (T := T_Model) (N := 33) hx hb hu fi_Model hown hK hw 51 (x_at (by decide) (xcl_51 G σ)) rfl 4 (by decide) (hu _ mw_1072) (fun _ h9 => h9) rfl d_Model_at_30 ?_
        refine lv_iload_n hx hb d_Model_at_33 rfl (lv_at hl 1 rfl) ?_
        obtain ⟨g34, hE⟩ := x_guard hE
        refine va_iald hx hb hK hw 55 0 (x_at (by decide) (xcl_55 G σ)) rfl g34 d_Model_at_34 ?_
        refine lv_icmp_lt (tgt := 42) hx hb d_Model_at_35 (by decide) (fun hc35 => ?_) (fun hc35 => ?_)
        · rw [if_pos hc35] at hE
          refine lv_iconst (v := (0 : Int32)) hx hb d_Model_at_42 (by decide) ?_
          exact jn43 _ _ _ _ _ hE (lv_sub hl [0, 1, 2] rfl) hw hS
        · rw [if_neg hc35] at hE
          exact jn38 _ _ _ _ hE (lv_sub hl [0, 1, 2] rfl) hw hS
  · rw [if_pos hc8] at hE
    refine lv_iconst (v := (1 : Int32)) hx hb d_Model_at_11 (by decide) ?_
    refine lv_goto (tgt := 43) hx hb d_Model_at_12 (by decide) ?_
    exact jn43 _ _ _ _ _ hE (lv_sub hl [0, 1, 2] rfl) hw hS

def y_Model_mark : MethodName := ⟨"PlainOriginModel", "mark", "(I)I"⟩
def ws_Model_mark : List Cond := Cond.code y_Model_mark prog_14_method_57_code 2 (some .int) :: UW
theorem hd_Model_mark : y_Model_mark.cls = R_Model ∧ y_Model_mark.cls ≠ "java/lang/invoke/MethodHandle" ∧ y_Model_mark.cls ≠ "java/lang/invoke/VarHandle" ∧ (parseMethodDescriptor y_Model_mark.desc).map (fun d => d.parameters.length) = some 1 := by decide +kernel
theorem d_Model_mark_0 : decode prog_14_method_57_code 0 = .ok (.aload_n 0, 1) := by decide +kernel
theorem d_Model_mark_1 : decode prog_14_method_57_code 1 = .ok (.iload_n 1, 1) := by decide +kernel
theorem d_Model_mark_2 : decode prog_14_method_57_code 2 = .ok (.iconst 0, 1) := by decide +kernel
theorem d_Model_mark_3 : decode prog_14_method_57_code 3 = .ok (.bipush (7), 2) := by decide +kernel
theorem d_Model_mark_5 : decode prog_14_method_57_code 5 = .ok (.invokestatic 147, 3) := by decide +kernel
theorem d_Model_mark_8 : decode prog_14_method_57_code 8 = .ok (.ifCond .eq (7), 3) := by decide +kernel
theorem d_Model_mark_11 : decode prog_14_method_57_code 11 = .ok (.iconst 0, 1) := by decide +kernel
theorem d_Model_mark_12 : decode prog_14_method_57_code 12 = .ok (.goto (4), 3) := by decide +kernel
theorem d_Model_mark_15 : decode prog_14_method_57_code 15 = .ok (.iconst 1, 1) := by decide +kernel
theorem d_Model_mark_16 : decode prog_14_method_57_code 16 = .ok (.putfield 142, 3) := by decide +kernel
theorem d_Model_mark_19 : decode prog_14_method_57_code 19 = .ok (.aload_n 0, 1) := by decide +kernel
theorem d_Model_mark_20 : decode prog_14_method_57_code 20 = .ok (.getfield 142, 3) := by decide +kernel
theorem d_Model_mark_23 : decode prog_14_method_57_code 23 = .ok (.ifCond .le (7), 3) := by decide +kernel
theorem d_Model_mark_26 : decode prog_14_method_57_code 26 = .ok (.iconst 0, 1) := by decide +kernel
theorem d_Model_mark_27 : decode prog_14_method_57_code 27 = .ok (.goto (22), 3) := by decide +kernel
theorem d_Model_mark_30 : decode prog_14_method_57_code 30 = .ok (.aload_n 0, 1) := by decide +kernel
theorem d_Model_mark_31 : decode prog_14_method_57_code 31 = .ok (.getfield 87, 3) := by decide +kernel
theorem d_Model_mark_34 : decode prog_14_method_57_code 34 = .ok (.iload_n 1, 1) := by decide +kernel
theorem d_Model_mark_35 : decode prog_14_method_57_code 35 = .ok (.baload, 1) := by decide +kernel
theorem d_Model_mark_36 : decode prog_14_method_57_code 36 = .ok (.ifCond .eq (12), 3) := by decide +kernel
theorem d_Model_mark_39 : decode prog_14_method_57_code 39 = .ok (.aload_n 0, 1) := by decide +kernel
theorem d_Model_mark_40 : decode prog_14_method_57_code 40 = .ok (.getfield 91, 3) := by decide +kernel
theorem d_Model_mark_43 : decode prog_14_method_57_code 43 = .ok (.iload_n 1, 1) := by decide +kernel
theorem d_Model_mark_44 : decode prog_14_method_57_code 44 = .ok (.iaload, 1) := by decide +kernel
theorem d_Model_mark_45 : decode prog_14_method_57_code 45 = .ok (.goto (4), 3) := by decide +kernel
theorem d_Model_mark_48 : decode prog_14_method_57_code 48 = .ok (.iconst (-1), 1) := by decide +kernel
theorem d_Model_mark_49 : decode prog_14_method_57_code 49 = .ok (.ireturn, 1) := by decide +kernel
def x_Model_mark_16 (a1 : Int32) (k0 : Int32) (σ : St) : Option (Int32 × St) := (x_let (x_updR σ 51 1 k0) (fun (s16 : St) => (if (s16.1 51 1) ≤ 0 then (if x_in a1 8 then (if (s16.2.1 53 a1.toNatClampNeg) = 0 then some (((-1) : Int32), s16) else (if x_in a1 8 then some (s16.2.1 54 a1.toNatClampNeg, s16) else none)) else none) else some ((0 : Int32), s16))))
def x_Model_mark (a1 : Int32) (σ : St) : Option (Int32 × St) := (Option.bind (x_Model_within a1 (0 : Int32) (7 : Int32)) (fun r5 => (if r5 = 0 then x_Model_mark_16 a1 (1 : Int32) σ else x_Model_mark_16 a1 (0 : Int32) σ)))
abbrev rm_Model_mark : Room := { frames := 1, cells := 0, slots := 0, locals := 22 }
set_option maxHeartbeats 4000000 in
set_option maxRecDepth 100000 in
theorem t_Model_mark (l : Launch) (G : xG) (σ : St) (a1 : Int32) (r : Int32) (σ' : St) (hE : x_Model_mark a1 σ = some (r, σ')) : Met l y_Model_mark (ws_Model_mark) rm_Model_mark (xP G σ [.ref (G.2.1 51), .int a1]) (xQ G (some (.int r)) σ') 0 0 (xA G) := by
  refine Met.ofW (cc := prog_14_method_57_code) (maxL := 2) (ret := (some .int)) (by decide) rfl ?_
  intro p e s m args below meth c s₁ B hml hv
  obtain ⟨rfl, hw, hC⟩ := hv
  have hx := B.exec
  have hb := B.bytes
  have hr := B.returns
  have hu : ∀ w ∈ UW, w.before _ s = true := fun w h => atoms_spec B.pre w (List.mem_cons_of_mem _ h)
  have hown : s.vm.findClass R_Model = some m.cls := findClass_of_methodNamed B.named
  have hlocks := B.notSynchronized
  have hK := hC.1
  have hI := hC.2.1
  have hG := hC.2.2.1
  have hS : va_S (xA G) s.heap s.heap [] := va_S.rf
  have jn16 : ∀ (ls : Array Slot) (H : Heap) (locs : List Loc) (σ : St) (k0 : Int32), x_Model_mark_16 a1 k0 σ = some (r, σ') → lv_has ls 2 [(0, .ref (G.2.1 51)), (1, .int a1)] → xw G σ H → va_S (xA G) s.heap H locs → W p l e (headSpec (ws_Model_mark) rm_Model_mark).room s m ([.ref (G.2.1 51), .int a1] : List Value).toArray below meth c H locs 0 0 (MQ below (xQ G (some (.int r)) σ') ([.ref (G.2.1 51), .int a1] : List Value).toArray s 0 0 (xA G)) (F0 m 16 ls [.int k0, .ref (G.2.1 51)]) := by
    intro ls H locs σ k0 hE hl hw hS
    unfold x_Model_mark_16 at hE
    refine va_put (D := G.1) (cl := xCl) (ci := 10) (v := .int k0) (ty := .int) (C := R_Model) (T := T_Model) (N := 33) hx hb hu fi_Model ty_Model tyok_Model nm_Model hown hK hw (x_D hI _) hS 51 (x_at (by decide) (xcl_51 G σ)) rfl 1 (by decide) (hu _ mw_1069) (fun _ h9 => h9) rfl (tyok_Model 1 (by decide)) rfl rfl (Nat.le_of_ble_eq_true rfl) d_Model_mark_16 (fun H locs hw _ hS => ?_)
    replace hw := x_setR hw (by decide) rfl
    obtain ⟨s16, e16, hE⟩ := x_letE hE
    rw [← e16] at hw
    refine lv_aload_n hx hb d_Model_mark_19 rfl (lv_at hl 0 rfl) ?_
    refine va_get (D := G.1) (cl := xCl) (ci := 10) (v := .int (s16.1 51 1)) (C := R_Model) (T := T_Model) (N := 33) hx hb hu fi_Model hown hK hw 51 (x_at (by decide) (xcl_51 G s16)) rfl 1 (by decide) (hu _ mw_1069) (fun _ h9 => h9) rfl d_Model_mark_20 ?_
    refine lv_if_le (tgt := 30) hx hb d_Model_mark_23 (by decide) (fun hc23 => ?_) (fun hc23 => ?_)
    · rw [if_pos hc23] at hE
      refine lv_aload_n hx hb d_Model_mark_30 rfl (lv_at hl 0 rfl) ?_
      refine va_get (D := G.1) (cl := xCl) (ci := 10) (v := .ref (G.2.1 53)) (C := R_Model) (T := T_Model) (N := 33) hx hb hu fi_Model hown hK hw 51 (x_at (by decide) (xcl_51 G s16)) rfl 2 (by decide) (hu _ mw_1070) (fun _ h9 => h9) rfl d_Model_mark_31 ?_
      refine lv_iload_n hx hb d_Model_mark_34 rfl (lv_at hl 1 rfl) ?_
      obtain ⟨g35, hE⟩ := x_guard hE
      refine va_zald hx hb hK hw 53 1 (x_at (by decide) (xcl_53 G s16)) rfl g35 d_Model_mark_35 ?_
      refine lv_if_eq (tgt := 48) hx hb d_Model_mark_36 (by decide) (fun hc36 => ?_) (fun hc36 => ?_)
      · rw [if_pos hc36] at hE
        refine lv_iconst (v := ((-1) : Int32)) hx hb d_Model_mark_48 (by decide) ?_
        obtain ⟨e1, e2⟩ := x_pair hE
        exact W.iret (v := ((-1) : Int32)) hx hb hr (fun t ht hW => ⟨by rw [e1], by rw [ht, ← e2]; exact hw, hS.F ht⟩) hS.2.2 d_Model_mark_49
      · rw [if_neg hc36] at hE
        refine lv_aload_n hx hb d_Model_mark_39 rfl (lv_at hl 0 rfl) ?_
        refine va_get (D := G.1) (cl := xCl) (ci := 10) (v := .ref (G.2.1 54)) (C := R_Model) (T := T_Model) (N := 33) hx hb hu fi_Model hown hK hw 51 (x_at (by decide) (xcl_51 G s16)) rfl 3 (by decide) (hu _ mw_1071) (fun _ h9 => h9) rfl d_Model_mark_40 ?_
        refine lv_iload_n hx hb d_Model_mark_43 rfl (lv_at hl 1 rfl) ?_
        obtain ⟨g44, hE⟩ := x_guard hE
        refine va_iald hx hb hK hw 54 0 (x_at (by decide) (xcl_54 G s16)) rfl g44 d_Model_mark_44 ?_
        refine lv_goto (tgt := 49) hx hb d_Model_mark_45 (by decide) ?_
        obtain ⟨e1, e2⟩ := x_pair hE
        exact W.iret (v := s16.2.1 54 a1.toNatClampNeg) hx hb hr (fun t ht hW => ⟨by rw [e1], by rw [ht, ← e2]; exact hw, hS.F ht⟩) hS.2.2 d_Model_mark_49
    · rw [if_neg hc23] at hE
      refine lv_iconst (v := (0 : Int32)) hx hb d_Model_mark_26 (by decide) ?_
      refine lv_goto (tgt := 49) hx hb d_Model_mark_27 (by decide) ?_
      obtain ⟨e1, e2⟩ := x_pair hE
      exact W.iret (v := (0 : Int32)) hx hb hr (fun t ht hW => ⟨by rw [e1], by rw [ht, ← e2]; exact hw, hS.F ht⟩) hS.2.2 d_Model_mark_49
  have hl := lv_entry ([.ref (G.2.1 51), .int a1]) (n := 2) (Nat.le_of_ble_eq_true rfl)
  rw [lg_entry_eq]
  generalize (lg_sl ([.ref (G.2.1 51), .int a1]) ++ List.replicate (2 - (lg_sl ([.ref (G.2.1 51), .int a1])).length) Slot.unset).toArray = ls at hl ⊢
  have hl : lv_has ls 2 [(0, .ref (G.2.1 51)), (1, .int a1)] := hl
  unfold x_Model_mark at hE
  refine lv_aload_n hx hb d_Model_mark_0 rfl (lv_at hl 0 rfl) ?_
  refine lv_iload_n hx hb d_Model_mark_1 rfl (lv_at hl 1 rfl) ?_
  refine lv_iconst (v := (0 : Int32)) hx hb d_Model_mark_2 (by decide) ?_
  refine lv_bipush (v := (7 : Int32)) hx hb d_Model_mark_3 (by decide) ?_
  obtain ⟨r5, hC5, hE⟩ := x_bind hE
  refine x_callR (W.runS (As := [.int a1, .int (0 : Int32), .int (7 : Int32)]) (rest := [.ref (G.2.1 51)]) ⟨hx, hb, hml, hown, hu⟩ (t_Model_within l G σ a1 (0 : Int32) (7 : Int32) r5 hC5) (va_cwS 3 hu (uw_S mw_1178 mw_1179 mw_70 mw_1180) rfl rfl rfl hd_Model_within ⟨Nat.le_of_ble_eq_true rfl, Nat.le_of_ble_eq_true rfl⟩) (x_preS hC hS hw) rfl rfl hl.1 rfl (lv_room (Nat.le_of_ble_eq_true rfl)) d_Model_mark_5 ⟨Nat.le_of_ble_eq_true rfl, Nat.le_of_ble_eq_true rfl⟩) ?_
  refine lv_if_eq (tgt := 15) hx hb d_Model_mark_8 (by decide) (fun hc8 => ?_) (fun hc8 => ?_)
  · rw [if_pos hc8] at hE
    refine lv_iconst (v := (1 : Int32)) hx hb d_Model_mark_15 (by decide) ?_
    exact jn16 _ _ _ _ _ hE (lv_sub hl [0, 1] rfl) hw hS
  · rw [if_neg hc8] at hE
    refine lv_iconst (v := (0 : Int32)) hx hb d_Model_mark_11 (by decide) ?_
    refine lv_goto (tgt := 16) hx hb d_Model_mark_12 (by decide) ?_
    exact jn16 _ _ _ _ _ hE (lv_sub hl [0, 1] rfl) hw hS

def y_Model_changes : MethodName := ⟨"PlainOriginModel", "changes", "()I"⟩
def ws_Model_changes : List Cond := Cond.code y_Model_changes prog_14_method_58_code 1 (some .int) :: UW
theorem hd_Model_changes : y_Model_changes.cls = R_Model ∧ y_Model_changes.cls ≠ "java/lang/invoke/MethodHandle" ∧ y_Model_changes.cls ≠ "java/lang/invoke/VarHandle" ∧ (parseMethodDescriptor y_Model_changes.desc).map (fun d => d.parameters.length) = some 0 := by decide +kernel
theorem d_Model_changes_0 : decode prog_14_method_58_code 0 = .ok (.aload_n 0, 1) := by decide +kernel
theorem d_Model_changes_1 : decode prog_14_method_58_code 1 = .ok (.iconst 0, 1) := by decide +kernel
theorem d_Model_changes_2 : decode prog_14_method_58_code 2 = .ok (.putfield 142, 3) := by decide +kernel
theorem d_Model_changes_5 : decode prog_14_method_58_code 5 = .ok (.aload_n 0, 1) := by decide +kernel
theorem d_Model_changes_6 : decode prog_14_method_58_code 6 = .ok (.getfield 329, 3) := by decide +kernel
theorem d_Model_changes_9 : decode prog_14_method_58_code 9 = .ok (.ireturn, 1) := by decide +kernel
def x_Model_changes (σ : St) : Option (Int32 × St) := (x_let (x_updR σ 51 1 (0 : Int32)) (fun (s2 : St) => some (s2.1 51 6, s2)))
abbrev rm_Model_changes : Room := { frames := 0, cells := 0, slots := 0, locals := 0 }
set_option maxHeartbeats 4000000 in
set_option maxRecDepth 100000 in
theorem t_Model_changes (l : Launch) (G : xG) (σ : St) (r : Int32) (σ' : St) (hE : x_Model_changes σ = some (r, σ')) : Met l y_Model_changes (ws_Model_changes) rm_Model_changes (xP G σ [.ref (G.2.1 51)]) (xQ G (some (.int r)) σ') 0 0 (xA G) := by
  refine Met.ofW (cc := prog_14_method_58_code) (maxL := 1) (ret := (some .int)) (by decide) rfl ?_
  intro p e s m args below meth c s₁ B hml hv
  obtain ⟨rfl, hw, hC⟩ := hv
  have hx := B.exec
  have hb := B.bytes
  have hr := B.returns
  have hu : ∀ w ∈ UW, w.before _ s = true := fun w h => atoms_spec B.pre w (List.mem_cons_of_mem _ h)
  have hown : s.vm.findClass R_Model = some m.cls := findClass_of_methodNamed B.named
  have hlocks := B.notSynchronized
  have hK := hC.1
  have hI := hC.2.1
  have hG := hC.2.2.1
  have hS : va_S (xA G) s.heap s.heap [] := va_S.rf
  have hl := lv_entry ([.ref (G.2.1 51)]) (n := 1) (Nat.le_of_ble_eq_true rfl)
  rw [lg_entry_eq]
  generalize (lg_sl ([.ref (G.2.1 51)]) ++ List.replicate (1 - (lg_sl ([.ref (G.2.1 51)])).length) Slot.unset).toArray = ls at hl ⊢
  have hl : lv_has ls 1 [(0, .ref (G.2.1 51))] := hl
  unfold x_Model_changes at hE
  refine lv_aload_n hx hb d_Model_changes_0 rfl (lv_at hl 0 rfl) ?_
  refine lv_iconst (v := (0 : Int32)) hx hb d_Model_changes_1 (by decide) ?_
  refine va_put (D := G.1) (cl := xCl) (ci := 10) (v := .int (0 : Int32)) (ty := .int) (C := R_Model) (T := T_Model) (N := 33) hx hb hu fi_Model ty_Model tyok_Model nm_Model hown hK hw (x_D hI _) hS 51 (x_at (by decide) (xcl_51 G σ)) rfl 1 (by decide) (hu _ mw_1069) (fun _ h9 => h9) rfl (tyok_Model 1 (by decide)) rfl rfl (Nat.le_of_ble_eq_true rfl) d_Model_changes_2 (fun H locs hw _ hS => ?_)
  replace hw := x_setR hw (by decide) rfl
  obtain ⟨s2, e2, hE⟩ := x_letE hE
  rw [← e2] at hw
  refine lv_aload_n hx hb d_Model_changes_5 rfl (lv_at hl 0 rfl) ?_
  refine va_get (D := G.1) (cl := xCl) (ci := 10) (v := .int (s2.1 51 6)) (C := R_Model) (T := T_Model) (N := 33) hx hb hu fi_Model hown hK hw 51 (x_at (by decide) (xcl_51 G s2)) rfl 6 (by decide) (hu _ mw_1074) (fun _ h9 => h9) rfl d_Model_changes_6 ?_
  obtain ⟨e1, e2⟩ := x_pair hE
  exact W.iret (v := s2.1 51 6) hx hb hr (fun t ht hW => ⟨by rw [e1], by rw [ht, ← e2]; exact hw, hS.F ht⟩) hS.2.2 d_Model_changes_9
