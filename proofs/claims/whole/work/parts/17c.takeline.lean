def y_Request_takeLine : MethodName := ⟨"PlainOrigin$Request", "takeLine", "(LPlainOrigin$Bytes;)I"⟩
def ws_Request_takeLine : List Cond := Cond.code y_Request_takeLine prog_9_method_4_code 6 (some .int) :: UW
theorem hd_Request_takeLine : y_Request_takeLine.cls = R_Request ∧ y_Request_takeLine.cls ≠ "java/lang/invoke/MethodHandle" ∧ y_Request_takeLine.cls ≠ "java/lang/invoke/VarHandle" ∧ (parseMethodDescriptor y_Request_takeLine.desc).map (fun d => d.parameters.length) = some 1 := by decide +kernel
theorem d_Request_takeLine_0 : decode prog_9_method_4_code 0 = .ok (.aload_n 1, 1) := by decide +kernel
theorem d_Request_takeLine_1 : decode prog_9_method_4_code 1 = .ok (.getfield 55, 3) := by decide +kernel
theorem d_Request_takeLine_4 : decode prog_9_method_4_code 4 = .ok (.istore_n 2, 1) := by decide +kernel
theorem d_Request_takeLine_5 : decode prog_9_method_4_code 5 = .ok (.aload_n 1, 1) := by decide +kernel
theorem d_Request_takeLine_6 : decode prog_9_method_4_code 6 = .ok (.bipush (32), 2) := by decide +kernel
theorem d_Request_takeLine_8 : decode prog_9_method_4_code 8 = .ok (.iconst 0, 1) := by decide +kernel
theorem d_Request_takeLine_9 : decode prog_9_method_4_code 9 = .ok (.iload_n 2, 1) := by decide +kernel
theorem d_Request_takeLine_10 : decode prog_9_method_4_code 10 = .ok (.invokestatic 58, 3) := by decide +kernel
theorem d_Request_takeLine_13 : decode prog_9_method_4_code 13 = .ok (.istore_n 3, 1) := by decide +kernel
theorem d_Request_takeLine_14 : decode prog_9_method_4_code 14 = .ok (.aload_n 1, 1) := by decide +kernel
theorem d_Request_takeLine_15 : decode prog_9_method_4_code 15 = .ok (.bipush (32), 2) := by decide +kernel
theorem d_Request_takeLine_17 : decode prog_9_method_4_code 17 = .ok (.iload_n 3, 1) := by decide +kernel
theorem d_Request_takeLine_18 : decode prog_9_method_4_code 18 = .ok (.iconst 1, 1) := by decide +kernel
theorem d_Request_takeLine_19 : decode prog_9_method_4_code 19 = .ok (.iadd, 1) := by decide +kernel
theorem d_Request_takeLine_20 : decode prog_9_method_4_code 20 = .ok (.iload_n 2, 1) := by decide +kernel
theorem d_Request_takeLine_21 : decode prog_9_method_4_code 21 = .ok (.invokestatic 58, 3) := by decide +kernel
theorem d_Request_takeLine_24 : decode prog_9_method_4_code 24 = .ok (.istore 4, 2) := by decide +kernel
theorem d_Request_takeLine_26 : decode prog_9_method_4_code 26 = .ok (.iload 4, 2) := by decide +kernel
theorem d_Request_takeLine_28 : decode prog_9_method_4_code 28 = .ok (.iload_n 2, 1) := by decide +kernel
theorem d_Request_takeLine_29 : decode prog_9_method_4_code 29 = .ok (.if_icmp .ge (18), 3) := by decide +kernel
theorem d_Request_takeLine_32 : decode prog_9_method_4_code 32 = .ok (.aload_n 1, 1) := by decide +kernel
theorem d_Request_takeLine_33 : decode prog_9_method_4_code 33 = .ok (.bipush (32), 2) := by decide +kernel
theorem d_Request_takeLine_35 : decode prog_9_method_4_code 35 = .ok (.iload 4, 2) := by decide +kernel
theorem d_Request_takeLine_37 : decode prog_9_method_4_code 37 = .ok (.iconst 1, 1) := by decide +kernel
theorem d_Request_takeLine_38 : decode prog_9_method_4_code 38 = .ok (.iadd, 1) := by decide +kernel
theorem d_Request_takeLine_39 : decode prog_9_method_4_code 39 = .ok (.iload_n 2, 1) := by decide +kernel
theorem d_Request_takeLine_40 : decode prog_9_method_4_code 40 = .ok (.invokestatic 58, 3) := by decide +kernel
theorem d_Request_takeLine_43 : decode prog_9_method_4_code 43 = .ok (.iload_n 2, 1) := by decide +kernel
theorem d_Request_takeLine_44 : decode prog_9_method_4_code 44 = .ok (.if_icmp .ge (7), 3) := by decide +kernel
theorem d_Request_takeLine_47 : decode prog_9_method_4_code 47 = .ok (.sipush (400), 3) := by decide +kernel
theorem d_Request_takeLine_50 : decode prog_9_method_4_code 50 = .ok (.ireturn, 1) := by decide +kernel
theorem d_Request_takeLine_51 : decode prog_9_method_4_code 51 = .ok (.iload_n 3, 1) := by decide +kernel
theorem d_Request_takeLine_52 : decode prog_9_method_4_code 52 = .ok (.bipush (7), 2) := by decide +kernel
theorem d_Request_takeLine_54 : decode prog_9_method_4_code 54 = .ok (.if_icmp .gt (36), 3) := by decide +kernel
theorem d_Request_takeLine_57 : decode prog_9_method_4_code 57 = .ok (.aload_n 1, 1) := by decide +kernel
theorem d_Request_takeLine_58 : decode prog_9_method_4_code 58 = .ok (.iconst 0, 1) := by decide +kernel
theorem d_Request_takeLine_59 : decode prog_9_method_4_code 59 = .ok (.iload_n 3, 1) := by decide +kernel
theorem d_Request_takeLine_60 : decode prog_9_method_4_code 60 = .ok (.invokestatic 64, 3) := by decide +kernel
theorem d_Request_takeLine_63 : decode prog_9_method_4_code 63 = .ok (.ifCond .eq (27), 3) := by decide +kernel
theorem d_Request_takeLine_66 : decode prog_9_method_4_code 66 = .ok (.aload_n 1, 1) := by decide +kernel
theorem d_Request_takeLine_67 : decode prog_9_method_4_code 67 = .ok (.iload 4, 2) := by decide +kernel
theorem d_Request_takeLine_69 : decode prog_9_method_4_code 69 = .ok (.iconst 1, 1) := by decide +kernel
theorem d_Request_takeLine_70 : decode prog_9_method_4_code 70 = .ok (.iadd, 1) := by decide +kernel
theorem d_Request_takeLine_71 : decode prog_9_method_4_code 71 = .ok (.iload_n 2, 1) := by decide +kernel
theorem d_Request_takeLine_72 : decode prog_9_method_4_code 72 = .ok (.invokestatic 68, 3) := by decide +kernel
theorem d_Request_takeLine_75 : decode prog_9_method_4_code 75 = .ok (.ifCond .eq (15), 3) := by decide +kernel
theorem d_Request_takeLine_78 : decode prog_9_method_4_code 78 = .ok (.aload_n 1, 1) := by decide +kernel
theorem d_Request_takeLine_79 : decode prog_9_method_4_code 79 = .ok (.iload_n 3, 1) := by decide +kernel
theorem d_Request_takeLine_80 : decode prog_9_method_4_code 80 = .ok (.iconst 1, 1) := by decide +kernel
theorem d_Request_takeLine_81 : decode prog_9_method_4_code 81 = .ok (.iadd, 1) := by decide +kernel
theorem d_Request_takeLine_82 : decode prog_9_method_4_code 82 = .ok (.iload 4, 2) := by decide +kernel
theorem d_Request_takeLine_84 : decode prog_9_method_4_code 84 = .ok (.invokestatic 71, 3) := by decide +kernel
theorem d_Request_takeLine_87 : decode prog_9_method_4_code 87 = .ok (.ifCond .ne (7), 3) := by decide +kernel
theorem d_Request_takeLine_90 : decode prog_9_method_4_code 90 = .ok (.sipush (400), 3) := by decide +kernel
theorem d_Request_takeLine_93 : decode prog_9_method_4_code 93 = .ok (.ireturn, 1) := by decide +kernel
theorem d_Request_takeLine_94 : decode prog_9_method_4_code 94 = .ok (.aload_n 1, 1) := by decide +kernel
theorem d_Request_takeLine_95 : decode prog_9_method_4_code 95 = .ok (.iload_n 2, 1) := by decide +kernel
theorem d_Request_takeLine_96 : decode prog_9_method_4_code 96 = .ok (.iconst 3, 1) := by decide +kernel
theorem d_Request_takeLine_97 : decode prog_9_method_4_code 97 = .ok (.isub, 1) := by decide +kernel
theorem d_Request_takeLine_98 : decode prog_9_method_4_code 98 = .ok (.invokevirtual 74, 3) := by decide +kernel
theorem d_Request_takeLine_101 : decode prog_9_method_4_code 101 = .ok (.bipush (49), 2) := by decide +kernel
theorem d_Request_takeLine_103 : decode prog_9_method_4_code 103 = .ok (.if_icmp .eq (7), 3) := by decide +kernel
theorem d_Request_takeLine_106 : decode prog_9_method_4_code 106 = .ok (.sipush (505), 3) := by decide +kernel
theorem d_Request_takeLine_109 : decode prog_9_method_4_code 109 = .ok (.ireturn, 1) := by decide +kernel
theorem d_Request_takeLine_110 : decode prog_9_method_4_code 110 = .ok (.aload_n 0, 1) := by decide +kernel
theorem d_Request_takeLine_111 : decode prog_9_method_4_code 111 = .ok (.aload_n 1, 1) := by decide +kernel
theorem d_Request_takeLine_112 : decode prog_9_method_4_code 112 = .ok (.iconst 0, 1) := by decide +kernel
theorem d_Request_takeLine_113 : decode prog_9_method_4_code 113 = .ok (.iload_n 3, 1) := by decide +kernel
theorem d_Request_takeLine_114 : decode prog_9_method_4_code 114 = .ok (.invokestatic 78, 3) := by decide +kernel
theorem d_Request_takeLine_117 : decode prog_9_method_4_code 117 = .ok (.putfield 34, 3) := by decide +kernel
theorem d_Request_takeLine_120 : decode prog_9_method_4_code 120 = .ok (.aload_n 0, 1) := by decide +kernel
theorem d_Request_takeLine_121 : decode prog_9_method_4_code 121 = .ok (.getfield 34, 3) := by decide +kernel
theorem d_Request_takeLine_124 : decode prog_9_method_4_code 124 = .ok (.ifnonnull (7), 3) := by decide +kernel
theorem d_Request_takeLine_127 : decode prog_9_method_4_code 127 = .ok (.sipush (501), 3) := by decide +kernel
theorem d_Request_takeLine_130 : decode prog_9_method_4_code 130 = .ok (.ireturn, 1) := by decide +kernel
theorem d_Request_takeLine_131 : decode prog_9_method_4_code 131 = .ok (.aload_n 0, 1) := by decide +kernel
theorem d_Request_takeLine_132 : decode prog_9_method_4_code 132 = .ok (.getfield 34, 3) := by decide +kernel
theorem d_Request_takeLine_135 : decode prog_9_method_4_code 135 = .ok (.getstatic 83, 3) := by decide +kernel
theorem d_Request_takeLine_138 : decode prog_9_method_4_code 138 = .ok (.if_acmp .ne (21), 3) := by decide +kernel
theorem d_Request_takeLine_141 : decode prog_9_method_4_code 141 = .ok (.aload_n 1, 1) := by decide +kernel
theorem d_Request_takeLine_142 : decode prog_9_method_4_code 142 = .ok (.iload_n 3, 1) := by decide +kernel
theorem d_Request_takeLine_143 : decode prog_9_method_4_code 143 = .ok (.iconst 1, 1) := by decide +kernel
theorem d_Request_takeLine_144 : decode prog_9_method_4_code 144 = .ok (.iadd, 1) := by decide +kernel
theorem d_Request_takeLine_145 : decode prog_9_method_4_code 145 = .ok (.iload 4, 2) := by decide +kernel
theorem d_Request_takeLine_147 : decode prog_9_method_4_code 147 = .ok (.ldc 86, 2) := by decide +kernel
theorem d_Request_takeLine_149 : decode prog_9_method_4_code 149 = .ok (.invokestatic 88, 3) := by decide +kernel
theorem d_Request_takeLine_152 : decode prog_9_method_4_code 152 = .ok (.ifCond .eq (7), 3) := by decide +kernel
theorem d_Request_takeLine_155 : decode prog_9_method_4_code 155 = .ok (.iconst 1, 1) := by decide +kernel
theorem d_Request_takeLine_156 : decode prog_9_method_4_code 156 = .ok (.goto (4), 3) := by decide +kernel
theorem d_Request_takeLine_159 : decode prog_9_method_4_code 159 = .ok (.iconst 0, 1) := by decide +kernel
theorem d_Request_takeLine_160 : decode prog_9_method_4_code 160 = .ok (.istore 5, 2) := by decide +kernel
theorem d_Request_takeLine_162 : decode prog_9_method_4_code 162 = .ok (.aload_n 1, 1) := by decide +kernel
theorem d_Request_takeLine_163 : decode prog_9_method_4_code 163 = .ok (.iload_n 3, 1) := by decide +kernel
theorem d_Request_takeLine_164 : decode prog_9_method_4_code 164 = .ok (.iconst 1, 1) := by decide +kernel
theorem d_Request_takeLine_165 : decode prog_9_method_4_code 165 = .ok (.iadd, 1) := by decide +kernel
theorem d_Request_takeLine_166 : decode prog_9_method_4_code 166 = .ok (.invokevirtual 74, 3) := by decide +kernel
theorem d_Request_takeLine_169 : decode prog_9_method_4_code 169 = .ok (.bipush (47), 2) := by decide +kernel
theorem d_Request_takeLine_171 : decode prog_9_method_4_code 171 = .ok (.if_icmp .eq (12), 3) := by decide +kernel
theorem d_Request_takeLine_174 : decode prog_9_method_4_code 174 = .ok (.iload 5, 2) := by decide +kernel
theorem d_Request_takeLine_176 : decode prog_9_method_4_code 176 = .ok (.ifCond .ne (7), 3) := by decide +kernel
theorem d_Request_takeLine_179 : decode prog_9_method_4_code 179 = .ok (.sipush (400), 3) := by decide +kernel
theorem d_Request_takeLine_182 : decode prog_9_method_4_code 182 = .ok (.ireturn, 1) := by decide +kernel
theorem d_Request_takeLine_183 : decode prog_9_method_4_code 183 = .ok (.aload_n 0, 1) := by decide +kernel
theorem d_Request_takeLine_184 : decode prog_9_method_4_code 184 = .ok (.aload_n 1, 1) := by decide +kernel
theorem d_Request_takeLine_185 : decode prog_9_method_4_code 185 = .ok (.iload_n 2, 1) := by decide +kernel
theorem d_Request_takeLine_186 : decode prog_9_method_4_code 186 = .ok (.iconst 1, 1) := by decide +kernel
theorem d_Request_takeLine_187 : decode prog_9_method_4_code 187 = .ok (.isub, 1) := by decide +kernel
theorem d_Request_takeLine_188 : decode prog_9_method_4_code 188 = .ok (.invokevirtual 74, 3) := by decide +kernel
theorem d_Request_takeLine_191 : decode prog_9_method_4_code 191 = .ok (.putfield 38, 3) := by decide +kernel
theorem d_Request_takeLine_194 : decode prog_9_method_4_code 194 = .ok (.aload_n 0, 1) := by decide +kernel
theorem d_Request_takeLine_195 : decode prog_9_method_4_code 195 = .ok (.aload_n 1, 1) := by decide +kernel
theorem d_Request_takeLine_196 : decode prog_9_method_4_code 196 = .ok (.iload_n 3, 1) := by decide +kernel
theorem d_Request_takeLine_197 : decode prog_9_method_4_code 197 = .ok (.iconst 1, 1) := by decide +kernel
theorem d_Request_takeLine_198 : decode prog_9_method_4_code 198 = .ok (.iadd, 1) := by decide +kernel
theorem d_Request_takeLine_199 : decode prog_9_method_4_code 199 = .ok (.aload_n 1, 1) := by decide +kernel
theorem d_Request_takeLine_200 : decode prog_9_method_4_code 200 = .ok (.bipush (63), 2) := by decide +kernel
theorem d_Request_takeLine_202 : decode prog_9_method_4_code 202 = .ok (.iload_n 3, 1) := by decide +kernel
theorem d_Request_takeLine_203 : decode prog_9_method_4_code 203 = .ok (.iconst 1, 1) := by decide +kernel
theorem d_Request_takeLine_204 : decode prog_9_method_4_code 204 = .ok (.iadd, 1) := by decide +kernel
theorem d_Request_takeLine_205 : decode prog_9_method_4_code 205 = .ok (.iload 4, 2) := by decide +kernel
theorem d_Request_takeLine_207 : decode prog_9_method_4_code 207 = .ok (.invokestatic 58, 3) := by decide +kernel
theorem d_Request_takeLine_210 : decode prog_9_method_4_code 210 = .ok (.invokevirtual 92, 3) := by decide +kernel
theorem d_Request_takeLine_213 : decode prog_9_method_4_code 213 = .ok (.iconst 0, 1) := by decide +kernel
theorem d_Request_takeLine_214 : decode prog_9_method_4_code 214 = .ok (.ireturn, 1) := by decide +kernel
def x_Request_takeLine_183 (o1 : Nat) (l2 : Int32) (l3 : Int32) (l4 : Int32) (σ : St) : Option (Int32 × St) := (Option.bind (x_Bytes_get o1 (l2 - (1 : Int32)) σ) (fun r188 => (x_let (x_updR σ 30 4 r188) (fun (s191 : St) => (Option.bind (x_Text_find o1 (63 : Int32) (l3 + (1 : Int32)) l4 s191) (fun r207 => (Option.bind (x_Request_takePath o1 (l3 + (1 : Int32)) r207 s191) (fun s210 => some ((0 : Int32), s210)))))))))
def x_Request_takeLine_160 (o1 : Nat) (l2 : Int32) (l3 : Int32) (l4 : Int32) (k0 : Int32) (σ : St) : Option (Int32 × St) := (Option.bind (x_Bytes_get o1 (l3 + (1 : Int32)) σ) (fun r166 => (if r166 = (47 : Int32) then x_Request_takeLine_183 o1 l2 l3 l4 σ else (if k0 = 0 then some ((400 : Int32), σ) else x_Request_takeLine_183 o1 l2 l3 l4 σ))))
def x_Request_takeLine_159 (o1 : Nat) (l2 : Int32) (l3 : Int32) (l4 : Int32) (σ : St) : Option (Int32 × St) := x_Request_takeLine_160 o1 l2 l3 l4 (0 : Int32) σ
def x_Request_takeLine (o1 : Nat) (σ : St) : Option (Int32 × St) := (x_let (σ.1 o1 1) (fun (v4 : Int32) => (Option.bind (x_Text_find o1 (32 : Int32) (0 : Int32) v4 σ) (fun r10 => (Option.bind (x_Text_find o1 (32 : Int32) (r10 + (1 : Int32)) v4 σ) (fun r21 => (if v4 ≤ r21 then some ((400 : Int32), σ) else (Option.bind (x_Text_find o1 (32 : Int32) (r21 + (1 : Int32)) v4 σ) (fun r40 => (if v4 ≤ r40 then (if (7 : Int32) < r10 then some ((400 : Int32), σ) else (Option.bind (x_Text_isToken o1 (0 : Int32) r10 σ) (fun r60 => (if r60 = 0 then some ((400 : Int32), σ) else (Option.bind (x_Text_isVersion o1 (r21 + (1 : Int32)) v4 σ) (fun r72 => (if r72 = 0 then some ((400 : Int32), σ) else (Option.bind (x_Text_isTarget o1 (r10 + (1 : Int32)) r21 σ) (fun r84 => (if r84 = 0 then some ((400 : Int32), σ) else (Option.bind (x_Bytes_get o1 (v4 - (3 : Int32)) σ) (fun r98 => (if r98 = (49 : Int32) then (Option.bind (x_Method_find o1 (0 : Int32) r10 σ) (fun r114 => (x_let (x_updQ σ r114) (fun (s117 : St) => (if s117.2.2.2.1 = none then some ((501 : Int32), s117) else (if x_e7 s117.2.2.2.1 then (if s117.2.2.2.1 = (some 5) then (Option.bind (x_Text_isExactly o1 (r10 + (1 : Int32)) r21 4 s117) (fun r149 => (if r149 = 0 then x_Request_takeLine_159 o1 v4 r10 r21 s117 else x_Request_takeLine_160 o1 v4 r10 r21 (1 : Int32) s117))) else x_Request_takeLine_159 o1 v4 r10 r21 s117) else none)))))) else some ((505 : Int32), σ)))))))))))))) else some ((400 : Int32), σ)))))))))))
abbrev rm_Request_takeLine : Room := { frames := 6, cells := 0, slots := 0, locals := 137 }
set_option maxHeartbeats 4000000 in
set_option maxRecDepth 100000 in
theorem t_Request_takeLine (l : Launch) (G : xG) (σ : St) (o1 : Nat) (ho1 : xB o1) (r : Int32) (σ' : St) (hE : x_Request_takeLine o1 σ = some (r, σ')) : Met l y_Request_takeLine (ws_Request_takeLine) rm_Request_takeLine (xP G σ [.ref (G.2.1 30), .ref (G.2.1 o1)]) (xQ G (some (.int r)) σ') 0 0 (xA G) := by
  refine Met.ofW (cc := prog_9_method_4_code) (maxL := 6) (ret := (some .int)) (by decide) rfl ?_
  intro p e s m args below meth c s₁ B hml hv
  obtain ⟨rfl, hw, hC⟩ := hv
  have hx := B.exec
  have hb := B.bytes
  have hr := B.returns
  have hu : ∀ w ∈ UW, w.before _ s = true := fun w h => atoms_spec B.pre w (List.mem_cons_of_mem _ h)
  have hown : s.vm.findClass R_Request = some m.cls := findClass_of_methodNamed B.named
  have hlocks := B.notSynchronized
  have hK := hC.1
  have hI := hC.2.1
  have hG := hC.2.2.1
  have hN := hC.2.2.2
  have hS : va_S (xA G) s.heap s.heap [] := va_S.rf
  have jn183 : ∀ (ls : Array Slot) (H : Heap) (locs : List Loc) (σ : St) (l2 : Int32) (l3 : Int32) (l4 : Int32), x_Request_takeLine_183 o1 l2 l3 l4 σ = some (r, σ') → lv_has ls 6 [(0, .ref (G.2.1 30)), (1, .ref (G.2.1 o1)), (2, .int l2), (3, .int l3), (4, .int l4)] → xw G σ H → va_S (xA G) s.heap H locs → W p l e (headSpec (ws_Request_takeLine) rm_Request_takeLine).room s m ([.ref (G.2.1 30), .ref (G.2.1 o1)] : List Value).toArray below meth c H locs 0 0 (MQ below (xQ G (some (.int r)) σ') ([.ref (G.2.1 30), .ref (G.2.1 o1)] : List Value).toArray s 0 0 (xA G)) (F0 m 183 ls []) := by
    intro ls H locs σ l2 l3 l4 hE hl hw hS
    unfold x_Request_takeLine_183 at hE
    refine lv_aload_n hx hb d_Request_takeLine_183 rfl (lv_at hl 0 rfl) ?_
    refine lv_aload_n hx hb d_Request_takeLine_184 rfl (lv_at hl 1 rfl) ?_
    refine lv_iload_n hx hb d_Request_takeLine_185 rfl (lv_at hl 2 rfl) ?_
    refine lv_iconst (v := (1 : Int32)) hx hb d_Request_takeLine_186 (by decide) ?_
    refine lv_isub hx hb d_Request_takeLine_187 ?_
    obtain ⟨r188, hC188, hE⟩ := x_bind hE
    refine x_callR (W.runV (As := [.int (l2 - (1 : Int32))]) (rest := [.ref (G.2.1 30)]) ⟨hx, hb, hml, hown, hu⟩ (t_Bytes_get l G σ o1 (l2 - (1 : Int32)) ho1 r188 hC188) (cwV 1 hu (uw_V mw_677 mw_540 mw_541 mw_63 mw_542) rfl rfl rfl hd_Bytes_get ⟨Nat.le_of_ble_eq_true rfl, Nat.le_of_ble_eq_true rfl⟩) (x_preV hC hS hw (va_recv hK hw (q := (R_Bytes, T_Bytes, 2)) (ci := 0) rfl (x_at (xB_lt ho1) (xcl_B G σ (xB_s ho1))))) rfl rfl hl.1 rfl (lv_room (Nat.le_of_ble_eq_true rfl)) d_Request_takeLine_188 ⟨Nat.le_of_ble_eq_true rfl, Nat.le_of_ble_eq_true rfl⟩) ?_
    refine va_put (D := G.1) (cl := xCl) (ci := 2) (v := .int r188) (ty := .int) (C := R_Request) (T := T_Request) (N := 9) hx hb hu fi_Request ty_Request tyok_Request nm_Request hown hK hw (x_D hI _) hS 30 (x_at (by decide) (xcl_30 G σ)) rfl 4 (by decide) (hu _ mw_220) (fun _ h9 => h9) rfl (tyok_Request 4 (by decide)) rfl rfl (Nat.le_of_ble_eq_true rfl) d_Request_takeLine_191 (fun H locs hw _ hS => ?_)
    replace hw := x_setR hw (by decide) rfl
    obtain ⟨s191, e191, hE⟩ := x_letE hE
    rw [← e191] at hw
    refine lv_aload_n hx hb d_Request_takeLine_194 rfl (lv_at hl 0 rfl) ?_
    refine lv_aload_n hx hb d_Request_takeLine_195 rfl (lv_at hl 1 rfl) ?_
    refine lv_iload_n hx hb d_Request_takeLine_196 rfl (lv_at hl 3 rfl) ?_
    refine lv_iconst (v := (1 : Int32)) hx hb d_Request_takeLine_197 (by decide) ?_
    refine lv_iadd hx hb d_Request_takeLine_198 ?_
    refine lv_aload_n hx hb d_Request_takeLine_199 rfl (lv_at hl 1 rfl) ?_
    refine lv_bipush (v := (63 : Int32)) hx hb d_Request_takeLine_200 (by decide) ?_
    refine lv_iload_n hx hb d_Request_takeLine_202 rfl (lv_at hl 3 rfl) ?_
    refine lv_iconst (v := (1 : Int32)) hx hb d_Request_takeLine_203 (by decide) ?_
    refine lv_iadd hx hb d_Request_takeLine_204 ?_
    refine lv_iload hx hb d_Request_takeLine_205 (lv_at hl 4 rfl) ?_
    obtain ⟨r207, hC207, hE⟩ := x_bind hE
    refine x_callR (W.runS (As := [.ref (G.2.1 o1), .int (63 : Int32), .int (l3 + (1 : Int32)), .int l4]) (rest := [.int (l3 + (1 : Int32)), .ref (G.2.1 o1), .ref (G.2.1 30)]) ⟨hx, hb, hml, hown, hu⟩ (t_Text_find l G s191 o1 (63 : Int32) (l3 + (1 : Int32)) l4 ho1 r207 hC207) (va_cwS 4 hu (uw_S mw_536 mw_537 mw_75 mw_538) rfl rfl rfl hd_Text_find ⟨Nat.le_of_ble_eq_true rfl, Nat.le_of_ble_eq_true rfl⟩) (x_preS hC hS hw) rfl rfl hl.1 rfl (lv_room (Nat.le_of_ble_eq_true rfl)) d_Request_takeLine_207 ⟨Nat.le_of_ble_eq_true rfl, Nat.le_of_ble_eq_true rfl⟩) ?_
    obtain ⟨s210, hC210, hE⟩ := x_bind hE
    refine x_callV hS (W.runV (As := [.ref (G.2.1 o1), .int (l3 + (1 : Int32)), .int r207]) (rest := []) ⟨hx, hb, hml, hown, hu⟩ (t_Request_takePath l G s191 o1 (l3 + (1 : Int32)) r207 ho1 s210 hC210) (cwV 3 hu (uw_V mw_688 mw_690 mw_6 mw_65 mw_691) rfl rfl rfl hd_Request_takePath ⟨Nat.le_of_ble_eq_true rfl, Nat.le_of_ble_eq_true rfl⟩) (x_preV hC hS hw (va_recv hK hw (q := (R_Request, T_Request, 9)) (ci := 2) rfl (x_at (by decide) (xcl_30 G s191)))) rfl rfl hl.1 rfl (lv_room (Nat.le_of_ble_eq_true rfl)) d_Request_takeLine_210 ⟨Nat.le_of_ble_eq_true rfl, Nat.le_of_ble_eq_true rfl⟩) (fun H locs hw hS => ?_)
    refine lv_iconst (v := (0 : Int32)) hx hb d_Request_takeLine_213 (by decide) ?_
    obtain ⟨e1, e2⟩ := x_pair hE
    exact W.iret (v := (0 : Int32)) hx hb hr (fun t ht hW => ⟨by rw [e1], by rw [ht, ← e2]; exact hw, hS.F ht⟩) hS.2.2 d_Request_takeLine_214
  have jn160 : ∀ (ls : Array Slot) (H : Heap) (locs : List Loc) (σ : St) (l2 : Int32) (l3 : Int32) (l4 : Int32) (k0 : Int32), x_Request_takeLine_160 o1 l2 l3 l4 k0 σ = some (r, σ') → lv_has ls 6 [(0, .ref (G.2.1 30)), (1, .ref (G.2.1 o1)), (2, .int l2), (3, .int l3), (4, .int l4)] → xw G σ H → va_S (xA G) s.heap H locs → W p l e (headSpec (ws_Request_takeLine) rm_Request_takeLine).room s m ([.ref (G.2.1 30), .ref (G.2.1 o1)] : List Value).toArray below meth c H locs 0 0 (MQ below (xQ G (some (.int r)) σ') ([.ref (G.2.1 30), .ref (G.2.1 o1)] : List Value).toArray s 0 0 (xA G)) (F0 m 160 ls [.int k0]) := by
    intro ls H locs σ l2 l3 l4 k0 hE hl hw hS
    unfold x_Request_takeLine_160 at hE
    refine lv_istore hx hb d_Request_takeLine_160 hl (by decide) rfl (fun ls hl => ?_)
    have hl : lv_has ls 6 [(5, .int k0), (0, .ref (G.2.1 30)), (1, .ref (G.2.1 o1)), (2, .int l2), (3, .int l3), (4, .int l4)] := hl
    refine lv_aload_n hx hb d_Request_takeLine_162 rfl (lv_at hl 2 rfl) ?_
    refine lv_iload_n hx hb d_Request_takeLine_163 rfl (lv_at hl 4 rfl) ?_
    refine lv_iconst (v := (1 : Int32)) hx hb d_Request_takeLine_164 (by decide) ?_
    refine lv_iadd hx hb d_Request_takeLine_165 ?_
    obtain ⟨r166, hC166, hE⟩ := x_bind hE
    refine x_callR (W.runV (As := [.int (l3 + (1 : Int32))]) (rest := []) ⟨hx, hb, hml, hown, hu⟩ (t_Bytes_get l G σ o1 (l3 + (1 : Int32)) ho1 r166 hC166) (cwV 1 hu (uw_V mw_677 mw_540 mw_541 mw_63 mw_542) rfl rfl rfl hd_Bytes_get ⟨Nat.le_of_ble_eq_true rfl, Nat.le_of_ble_eq_true rfl⟩) (x_preV hC hS hw (va_recv hK hw (q := (R_Bytes, T_Bytes, 2)) (ci := 0) rfl (x_at (xB_lt ho1) (xcl_B G σ (xB_s ho1))))) rfl rfl hl.1 rfl (lv_room (Nat.le_of_ble_eq_true rfl)) d_Request_takeLine_166 ⟨Nat.le_of_ble_eq_true rfl, Nat.le_of_ble_eq_true rfl⟩) ?_
    refine lv_bipush (v := (47 : Int32)) hx hb d_Request_takeLine_169 (by decide) ?_
    refine lv_icmp_eq (tgt := 183) hx hb d_Request_takeLine_171 (by decide) (fun hc171 => ?_) (fun hc171 => ?_)
    · rw [if_pos hc171] at hE
      exact jn183 _ _ _ _ _ _ _ hE (lv_sub hl [1, 2, 3, 4, 5] rfl) hw hS
    · rw [if_neg hc171] at hE
      refine lv_iload hx hb d_Request_takeLine_174 (lv_at hl 0 rfl) ?_
      refine lv_if_ne (tgt := 183) hx hb d_Request_takeLine_176 (by decide) (fun hc176 => ?_) (fun hc176 => ?_)
      · rw [if_neg hc176] at hE
        exact jn183 _ _ _ _ _ _ _ hE (lv_sub hl [1, 2, 3, 4, 5] rfl) hw hS
      · rw [if_pos hc176] at hE
        refine lv_sipush (v := (400 : Int32)) hx hb d_Request_takeLine_179 (by decide) ?_
        obtain ⟨e1, e2⟩ := x_pair hE
        exact W.iret (v := (400 : Int32)) hx hb hr (fun t ht hW => ⟨by rw [e1], by rw [ht, ← e2]; exact hw, hS.F ht⟩) hS.2.2 d_Request_takeLine_182
  have jn159 : ∀ (ls : Array Slot) (H : Heap) (locs : List Loc) (σ : St) (l2 : Int32) (l3 : Int32) (l4 : Int32), x_Request_takeLine_159 o1 l2 l3 l4 σ = some (r, σ') → lv_has ls 6 [(0, .ref (G.2.1 30)), (1, .ref (G.2.1 o1)), (2, .int l2), (3, .int l3), (4, .int l4)] → xw G σ H → va_S (xA G) s.heap H locs → W p l e (headSpec (ws_Request_takeLine) rm_Request_takeLine).room s m ([.ref (G.2.1 30), .ref (G.2.1 o1)] : List Value).toArray below meth c H locs 0 0 (MQ below (xQ G (some (.int r)) σ') ([.ref (G.2.1 30), .ref (G.2.1 o1)] : List Value).toArray s 0 0 (xA G)) (F0 m 159 ls []) := by
    intro ls H locs σ l2 l3 l4 hE hl hw hS
    unfold x_Request_takeLine_159 at hE
    refine lv_iconst (v := (0 : Int32)) hx hb d_Request_takeLine_159 (by decide) ?_
    exact jn160 _ _ _ _ _ _ _ _ hE (lv_sub hl [0, 1, 2, 3, 4] rfl) hw hS
  have hl := lv_entry ([.ref (G.2.1 30), .ref (G.2.1 o1)]) (n := 6) (Nat.le_of_ble_eq_true rfl)
  rw [lg_entry_eq]
  generalize (lg_sl ([.ref (G.2.1 30), .ref (G.2.1 o1)]) ++ List.replicate (6 - (lg_sl ([.ref (G.2.1 30), .ref (G.2.1 o1)])).length) Slot.unset).toArray = ls at hl ⊢
  have hl : lv_has ls 6 [(0, .ref (G.2.1 30)), (1, .ref (G.2.1 o1))] := hl
  unfold x_Request_takeLine at hE
  refine lv_aload_n hx hb d_Request_takeLine_0 rfl (lv_at hl 1 rfl) ?_
  refine va_getN (D := G.1) (cl := xCl) (ci := 0) (v := .int (σ.1 o1 1)) (C := R_Bytes) (T := T_Bytes) (N := 2) hx hb hu fi_Bytes hown hK hw o1 (x_at (xB_lt ho1) (xcl_B G σ (xB_s ho1))) rfl 1 (by decide) (nl_3 hG) (fun _ h9 => h9) rfl d_Request_takeLine_1 ?_
  refine lv_topi (fun v4 e4 => ?_)
  replace hE := x_letT e4 hE
  refine lv_istore_n hx hb d_Request_takeLine_4 rfl hl (by decide) rfl (fun ls hl => ?_)
  have hl : lv_has ls 6 [(2, .int v4), (0, .ref (G.2.1 30)), (1, .ref (G.2.1 o1))] := hl
  refine lv_aload_n hx hb d_Request_takeLine_5 rfl (lv_at hl 2 rfl) ?_
  refine lv_bipush (v := (32 : Int32)) hx hb d_Request_takeLine_6 (by decide) ?_
  refine lv_iconst (v := (0 : Int32)) hx hb d_Request_takeLine_8 (by decide) ?_
  refine lv_iload_n hx hb d_Request_takeLine_9 rfl (lv_at hl 0 rfl) ?_
  obtain ⟨r10, hC10, hE⟩ := x_bind hE
  refine x_callR (W.runS (As := [.ref (G.2.1 o1), .int (32 : Int32), .int (0 : Int32), .int v4]) (rest := []) ⟨hx, hb, hml, hown, hu⟩ (t_Text_find l G σ o1 (32 : Int32) (0 : Int32) v4 ho1 r10 hC10) (va_cwS 4 hu (uw_S mw_536 mw_537 mw_75 mw_538) rfl rfl rfl hd_Text_find ⟨Nat.le_of_ble_eq_true rfl, Nat.le_of_ble_eq_true rfl⟩) (x_preS hC hS hw) rfl rfl hl.1 rfl (lv_room (Nat.le_of_ble_eq_true rfl)) d_Request_takeLine_10 ⟨Nat.le_of_ble_eq_true rfl, Nat.le_of_ble_eq_true rfl⟩) ?_
  refine lv_istore_n hx hb d_Request_takeLine_13 rfl hl (by decide) rfl (fun ls hl => ?_)
  have hl : lv_has ls 6 [(3, .int r10), (2, .int v4), (0, .ref (G.2.1 30)), (1, .ref (G.2.1 o1))] := hl
  refine lv_aload_n hx hb d_Request_takeLine_14 rfl (lv_at hl 3 rfl) ?_
  refine lv_bipush (v := (32 : Int32)) hx hb d_Request_takeLine_15 (by decide) ?_
  refine lv_iload_n hx hb d_Request_takeLine_17 rfl (lv_at hl 0 rfl) ?_
  refine lv_iconst (v := (1 : Int32)) hx hb d_Request_takeLine_18 (by decide) ?_
  refine lv_iadd hx hb d_Request_takeLine_19 ?_
  refine lv_iload_n hx hb d_Request_takeLine_20 rfl (lv_at hl 1 rfl) ?_
  obtain ⟨r21, hC21, hE⟩ := x_bind hE
  refine x_callR (W.runS (As := [.ref (G.2.1 o1), .int (32 : Int32), .int (r10 + (1 : Int32)), .int v4]) (rest := []) ⟨hx, hb, hml, hown, hu⟩ (t_Text_find l G σ o1 (32 : Int32) (r10 + (1 : Int32)) v4 ho1 r21 hC21) (va_cwS 4 hu (uw_S mw_536 mw_537 mw_75 mw_538) rfl rfl rfl hd_Text_find ⟨Nat.le_of_ble_eq_true rfl, Nat.le_of_ble_eq_true rfl⟩) (x_preS hC hS hw) rfl rfl hl.1 rfl (lv_room (Nat.le_of_ble_eq_true rfl)) d_Request_takeLine_21 ⟨Nat.le_of_ble_eq_true rfl, Nat.le_of_ble_eq_true rfl⟩) ?_
  refine lv_istore hx hb d_Request_takeLine_24 hl (by decide) rfl (fun ls hl => ?_)
  have hl : lv_has ls 6 [(4, .int r21), (3, .int r10), (2, .int v4), (0, .ref (G.2.1 30)), (1, .ref (G.2.1 o1))] := hl
  refine lv_iload hx hb d_Request_takeLine_26 (lv_at hl 0 rfl) ?_
  refine lv_iload_n hx hb d_Request_takeLine_28 rfl (lv_at hl 2 rfl) ?_
  refine lv_icmp_ge (tgt := 47) hx hb d_Request_takeLine_29 (by decide) (fun hc29 => ?_) (fun hc29 => ?_)
  · rw [if_pos hc29] at hE
    refine lv_sipush (v := (400 : Int32)) hx hb d_Request_takeLine_47 (by decide) ?_
    obtain ⟨e1, e2⟩ := x_pair hE
    exact W.iret (v := (400 : Int32)) hx hb hr (fun t ht hW => ⟨by rw [e1], by rw [ht, ← e2]; exact hw, hS.F ht⟩) hS.2.2 d_Request_takeLine_50
  · rw [if_neg hc29] at hE
    refine lv_aload_n hx hb d_Request_takeLine_32 rfl (lv_at hl 4 rfl) ?_
    refine lv_bipush (v := (32 : Int32)) hx hb d_Request_takeLine_33 (by decide) ?_
    refine lv_iload hx hb d_Request_takeLine_35 (lv_at hl 0 rfl) ?_
    refine lv_iconst (v := (1 : Int32)) hx hb d_Request_takeLine_37 (by decide) ?_
    refine lv_iadd hx hb d_Request_takeLine_38 ?_
    refine lv_iload_n hx hb d_Request_takeLine_39 rfl (lv_at hl 2 rfl) ?_
    obtain ⟨r40, hC40, hE⟩ := x_bind hE
    refine x_callR (W.runS (As := [.ref (G.2.1 o1), .int (32 : Int32), .int (r21 + (1 : Int32)), .int v4]) (rest := []) ⟨hx, hb, hml, hown, hu⟩ (t_Text_find l G σ o1 (32 : Int32) (r21 + (1 : Int32)) v4 ho1 r40 hC40) (va_cwS 4 hu (uw_S mw_536 mw_537 mw_75 mw_538) rfl rfl rfl hd_Text_find ⟨Nat.le_of_ble_eq_true rfl, Nat.le_of_ble_eq_true rfl⟩) (x_preS hC hS hw) rfl rfl hl.1 rfl (lv_room (Nat.le_of_ble_eq_true rfl)) d_Request_takeLine_40 ⟨Nat.le_of_ble_eq_true rfl, Nat.le_of_ble_eq_true rfl⟩) ?_
    refine lv_iload_n hx hb d_Request_takeLine_43 rfl (lv_at hl 2 rfl) ?_
    refine lv_icmp_ge (tgt := 51) hx hb d_Request_takeLine_44 (by decide) (fun hc44 => ?_) (fun hc44 => ?_)
    · rw [if_pos hc44] at hE
      refine lv_iload_n hx hb d_Request_takeLine_51 rfl (lv_at hl 1 rfl) ?_
      refine lv_bipush (v := (7 : Int32)) hx hb d_Request_takeLine_52 (by decide) ?_
      refine lv_icmp_gt (tgt := 90) hx hb d_Request_takeLine_54 (by decide) (fun hc54 => ?_) (fun hc54 => ?_)
      · rw [if_pos hc54] at hE
        refine lv_sipush (v := (400 : Int32)) hx hb d_Request_takeLine_90 (by decide) ?_
        obtain ⟨e1, e2⟩ := x_pair hE
        exact W.iret (v := (400 : Int32)) hx hb hr (fun t ht hW => ⟨by rw [e1], by rw [ht, ← e2]; exact hw, hS.F ht⟩) hS.2.2 d_Request_takeLine_93
      · rw [if_neg hc54] at hE
        refine lv_aload_n hx hb d_Request_takeLine_57 rfl (lv_at hl 4 rfl) ?_
        refine lv_iconst (v := (0 : Int32)) hx hb d_Request_takeLine_58 (by decide) ?_
        refine lv_iload_n hx hb d_Request_takeLine_59 rfl (lv_at hl 1 rfl) ?_
        obtain ⟨r60, hC60, hE⟩ := x_bind hE
        refine x_callR (W.runS (As := [.ref (G.2.1 o1), .int (0 : Int32), .int r10]) (rest := []) ⟨hx, hb, hml, hown, hu⟩ (t_Text_isToken l G σ o1 (0 : Int32) r10 ho1 r60 hC60) (va_cwS 3 hu (uw_S mw_543 mw_544 mw_75 mw_545) rfl rfl rfl hd_Text_isToken ⟨Nat.le_of_ble_eq_true rfl, Nat.le_of_ble_eq_true rfl⟩) (x_preS hC hS hw) rfl rfl hl.1 rfl (lv_room (Nat.le_of_ble_eq_true rfl)) d_Request_takeLine_60 ⟨Nat.le_of_ble_eq_true rfl, Nat.le_of_ble_eq_true rfl⟩) ?_
        refine lv_if_eq (tgt := 90) hx hb d_Request_takeLine_63 (by decide) (fun hc63 => ?_) (fun hc63 => ?_)
        · rw [if_pos hc63] at hE
          refine lv_sipush (v := (400 : Int32)) hx hb d_Request_takeLine_90 (by decide) ?_
          obtain ⟨e1, e2⟩ := x_pair hE
          exact W.iret (v := (400 : Int32)) hx hb hr (fun t ht hW => ⟨by rw [e1], by rw [ht, ← e2]; exact hw, hS.F ht⟩) hS.2.2 d_Request_takeLine_93
        · rw [if_neg hc63] at hE
          refine lv_aload_n hx hb d_Request_takeLine_66 rfl (lv_at hl 4 rfl) ?_
          refine lv_iload hx hb d_Request_takeLine_67 (lv_at hl 0 rfl) ?_
          refine lv_iconst (v := (1 : Int32)) hx hb d_Request_takeLine_69 (by decide) ?_
          refine lv_iadd hx hb d_Request_takeLine_70 ?_
          refine lv_iload_n hx hb d_Request_takeLine_71 rfl (lv_at hl 2 rfl) ?_
          obtain ⟨r72, hC72, hE⟩ := x_bind hE
          refine x_callR (W.runS (As := [.ref (G.2.1 o1), .int (r21 + (1 : Int32)), .int v4]) (rest := []) ⟨hx, hb, hml, hown, hu⟩ (t_Text_isVersion l G σ o1 (r21 + (1 : Int32)) v4 ho1 r72 hC72) (va_cwS 3 hu (uw_S mw_639 mw_640 mw_75 mw_641) rfl rfl rfl hd_Text_isVersion ⟨Nat.le_of_ble_eq_true rfl, Nat.le_of_ble_eq_true rfl⟩) (x_preS hC hS hw) rfl rfl hl.1 rfl (lv_room (Nat.le_of_ble_eq_true rfl)) d_Request_takeLine_72 ⟨Nat.le_of_ble_eq_true rfl, Nat.le_of_ble_eq_true rfl⟩) ?_
          refine lv_if_eq (tgt := 90) hx hb d_Request_takeLine_75 (by decide) (fun hc75 => ?_) (fun hc75 => ?_)
          · rw [if_pos hc75] at hE
            refine lv_sipush (v := (400 : Int32)) hx hb d_Request_takeLine_90 (by decide) ?_
            obtain ⟨e1, e2⟩ := x_pair hE
            exact W.iret (v := (400 : Int32)) hx hb hr (fun t ht hW => ⟨by rw [e1], by rw [ht, ← e2]; exact hw, hS.F ht⟩) hS.2.2 d_Request_takeLine_93
          · rw [if_neg hc75] at hE
            refine lv_aload_n hx hb d_Request_takeLine_78 rfl (lv_at hl 4 rfl) ?_
            refine lv_iload_n hx hb d_Request_takeLine_79 rfl (lv_at hl 1 rfl) ?_
            refine lv_iconst (v := (1 : Int32)) hx hb d_Request_takeLine_80 (by decide) ?_
            refine lv_iadd hx hb d_Request_takeLine_81 ?_
            refine lv_iload hx hb d_Request_takeLine_82 (lv_at hl 0 rfl) ?_
            obtain ⟨r84, hC84, hE⟩ := x_bind hE
            refine x_callR (W.runS (As := [.ref (G.2.1 o1), .int (r10 + (1 : Int32)), .int r21]) (rest := []) ⟨hx, hb, hml, hown, hu⟩ (t_Text_isTarget l G σ o1 (r10 + (1 : Int32)) r21 ho1 r84 hC84) (va_cwS 3 hu (uw_S mw_667 mw_668 mw_75 mw_669) rfl rfl rfl hd_Text_isTarget ⟨Nat.le_of_ble_eq_true rfl, Nat.le_of_ble_eq_true rfl⟩) (x_preS hC hS hw) rfl rfl hl.1 rfl (lv_room (Nat.le_of_ble_eq_true rfl)) d_Request_takeLine_84 ⟨Nat.le_of_ble_eq_true rfl, Nat.le_of_ble_eq_true rfl⟩) ?_
            refine lv_if_ne (tgt := 94) hx hb d_Request_takeLine_87 (by decide) (fun hc87 => ?_) (fun hc87 => ?_)
            · rw [if_neg hc87] at hE
              refine lv_aload_n hx hb d_Request_takeLine_94 rfl (lv_at hl 4 rfl) ?_
              refine lv_iload_n hx hb d_Request_takeLine_95 rfl (lv_at hl 2 rfl) ?_
              refine lv_iconst (v := (3 : Int32)) hx hb d_Request_takeLine_96 (by decide) ?_
              refine lv_isub hx hb d_Request_takeLine_97 ?_
              obtain ⟨r98, hC98, hE⟩ := x_bind hE
              refine x_callR (W.runV (As := [.int (v4 - (3 : Int32))]) (rest := []) ⟨hx, hb, hml, hown, hu⟩ (t_Bytes_get l G σ o1 (v4 - (3 : Int32)) ho1 r98 hC98) (cwV 1 hu (uw_V mw_677 mw_540 mw_541 mw_63 mw_542) rfl rfl rfl hd_Bytes_get ⟨Nat.le_of_ble_eq_true rfl, Nat.le_of_ble_eq_true rfl⟩) (x_preV hC hS hw (va_recv hK hw (q := (R_Bytes, T_Bytes, 2)) (ci := 0) rfl (x_at (xB_lt ho1) (xcl_B G σ (xB_s ho1))))) rfl rfl hl.1 rfl (lv_room (Nat.le_of_ble_eq_true rfl)) d_Request_takeLine_98 ⟨Nat.le_of_ble_eq_true rfl, Nat.le_of_ble_eq_true rfl⟩) ?_
              refine lv_bipush (v := (49 : Int32)) hx hb d_Request_takeLine_101 (by decide) ?_
              refine lv_icmp_eq (tgt := 110) hx hb d_Request_takeLine_103 (by decide) (fun hc103 => ?_) (fun hc103 => ?_)
              · rw [if_pos hc103] at hE
                refine lv_aload_n hx hb d_Request_takeLine_110 rfl (lv_at hl 3 rfl) ?_
                refine lv_aload_n hx hb d_Request_takeLine_111 rfl (lv_at hl 4 rfl) ?_
                refine lv_iconst (v := (0 : Int32)) hx hb d_Request_takeLine_112 (by decide) ?_
                refine lv_iload_n hx hb d_Request_takeLine_113 rfl (lv_at hl 1 rfl) ?_
                obtain ⟨r114, hC114, hE⟩ := x_bind hE
                refine x_callR (W.runS (As := [.ref (G.2.1 o1), .int (0 : Int32), .int r10]) (rest := [.ref (G.2.1 30)]) ⟨hx, hb, hml, hown, hu⟩ (t_Method_find l G σ o1 (0 : Int32) r10 ho1 r114 hC114) (va_cwS 3 hu (uw_S mw_678 mw_679 mw_83 mw_680) rfl rfl rfl hd_Method_find ⟨Nat.le_of_ble_eq_true rfl, Nat.le_of_ble_eq_true rfl⟩) (x_preS hC hS hw) rfl rfl hl.1 rfl (lv_room (Nat.le_of_ble_eq_true rfl)) d_Request_takeLine_114 ⟨Nat.le_of_ble_eq_true rfl, Nat.le_of_ble_eq_true rfl⟩) ?_
                refine va_put (D := G.1) (cl := xCl) (ci := 2) (v := va_re G.2.2.2.2.1 r114) (ty := ty_Request 3) (C := R_Request) (T := T_Request) (N := 9) hx hb hu fi_Request ty_Request tyok_Request nm_Request hown hK hw (x_D hI _) hS 30 (x_at (by decide) (xcl_30 G σ)) rfl 3 (by decide) (hu _ mw_218) (fun _ h9 => h9) rfl (tyok_Request 3 (by decide)) (x_nq _ _) (x_fq _ _) (Nat.le_of_ble_eq_true rfl) d_Request_takeLine_117 (fun H locs hw _ hS => ?_)
                replace hw := x_setQ hw rfl
                obtain ⟨s117, e117, hE⟩ := x_letE hE
                rw [← e117] at hw
                refine lv_aload_n hx hb d_Request_takeLine_120 rfl (lv_at hl 3 rfl) ?_
                refine va_get (D := G.1) (cl := xCl) (ci := 2) (v := va_re G.2.2.2.2.1 s117.2.2.2.1) (C := R_Request) (T := T_Request) (N := 9) hx hb hu fi_Request hown hK hw 30 (x_at (by decide) (xcl_30 G s117)) rfl 3 (by decide) (hu _ mw_218) (fun _ h9 => h9) rfl d_Request_takeLine_121 ?_
                refine x_ifnonnullE (tgt := 131) hx hb d_Request_takeLine_124 (by decide) (fun hc124 => ?_) (fun hc124 => ?_)
                · rw [if_neg hc124] at hE
                  refine lv_aload_n hx hb d_Request_takeLine_131 rfl (lv_at hl 3 rfl) ?_
                  refine va_get (D := G.1) (cl := xCl) (ci := 2) (v := va_re G.2.2.2.2.1 s117.2.2.2.1) (C := R_Request) (T := T_Request) (N := 9) hx hb hu fi_Request hown hK hw 30 (x_at (by decide) (xcl_30 G s117)) rfl 3 (by decide) (hu _ mw_218) (fun _ h9 => h9) rfl d_Request_takeLine_132 ?_
                  refine va_gets (v := va_re G.2.2.2.2.1 (some 5)) hx hb (hN.2.2.2.2.1 5 (by decide)).1 hS hown (hu _ mw_684) (fun _ h9 => h9) d_Request_takeLine_135 ?_
                  obtain ⟨q138_1, hE⟩ := x_guard hE
                  refine x_acmp_ne (tgt := 159) hx hb hN.2.2.2.2.2.1 q138_1 (by decide) d_Request_takeLine_138 (by decide) (fun hc138 => ?_) (fun hc138 => ?_)
                  · rw [if_neg hc138] at hE
                    exact jn159 _ _ _ _ _ _ _ hE (lv_sub hl [3, 4, 2, 1, 0] rfl) hw hS
                  · rw [if_pos hc138] at hE
                    refine lv_aload_n hx hb d_Request_takeLine_141 rfl (lv_at hl 4 rfl) ?_
                    refine lv_iload_n hx hb d_Request_takeLine_142 rfl (lv_at hl 1 rfl) ?_
                    refine lv_iconst (v := (1 : Int32)) hx hb d_Request_takeLine_143 (by decide) ?_
                    refine lv_iadd hx hb d_Request_takeLine_144 ?_
                    refine lv_iload hx hb d_Request_takeLine_145 (lv_at hl 0 rfl) ?_
                    refine va_ldcS hx hb hown (str_4 hN) d_Request_takeLine_147 ?_
                    obtain ⟨r149, hC149, hE⟩ := x_bind hE
                    refine x_callR (W.runS (As := [.ref (G.2.1 o1), .int (r10 + (1 : Int32)), .int r21, .ref (G.2.2.2.1 4)]) (rest := []) ⟨hx, hb, hml, hown, hu⟩ (t_Text_isExactly l G s117 o1 (r10 + (1 : Int32)) r21 4 ho1 (by decide) r149 hC149) (va_cwS 4 hu (uw_S mw_687 mw_644 mw_75 mw_645) rfl rfl rfl hd_Text_isExactly ⟨Nat.le_of_ble_eq_true rfl, Nat.le_of_ble_eq_true rfl⟩) (x_preS hC hS hw) rfl rfl hl.1 rfl (lv_room (Nat.le_of_ble_eq_true rfl)) d_Request_takeLine_149 ⟨Nat.le_of_ble_eq_true rfl, Nat.le_of_ble_eq_true rfl⟩) ?_
                    refine lv_if_eq (tgt := 159) hx hb d_Request_takeLine_152 (by decide) (fun hc152 => ?_) (fun hc152 => ?_)
                    · rw [if_pos hc152] at hE
                      exact jn159 _ _ _ _ _ _ _ hE (lv_sub hl [3, 4, 2, 1, 0] rfl) hw hS
                    · rw [if_neg hc152] at hE
                      refine lv_iconst (v := (1 : Int32)) hx hb d_Request_takeLine_155 (by decide) ?_
                      refine lv_goto (tgt := 160) hx hb d_Request_takeLine_156 (by decide) ?_
                      exact jn160 _ _ _ _ _ _ _ _ hE (lv_sub hl [3, 4, 2, 1, 0] rfl) hw hS
                · rw [if_pos hc124] at hE
                  refine lv_sipush (v := (501 : Int32)) hx hb d_Request_takeLine_127 (by decide) ?_
                  obtain ⟨e1, e2⟩ := x_pair hE
                  exact W.iret (v := (501 : Int32)) hx hb hr (fun t ht hW => ⟨by rw [e1], by rw [ht, ← e2]; exact hw, hS.F ht⟩) hS.2.2 d_Request_takeLine_130
              · rw [if_neg hc103] at hE
                refine lv_sipush (v := (505 : Int32)) hx hb d_Request_takeLine_106 (by decide) ?_
                obtain ⟨e1, e2⟩ := x_pair hE
                exact W.iret (v := (505 : Int32)) hx hb hr (fun t ht hW => ⟨by rw [e1], by rw [ht, ← e2]; exact hw, hS.F ht⟩) hS.2.2 d_Request_takeLine_109
            · rw [if_pos hc87] at hE
              refine lv_sipush (v := (400 : Int32)) hx hb d_Request_takeLine_90 (by decide) ?_
              obtain ⟨e1, e2⟩ := x_pair hE
              exact W.iret (v := (400 : Int32)) hx hb hr (fun t ht hW => ⟨by rw [e1], by rw [ht, ← e2]; exact hw, hS.F ht⟩) hS.2.2 d_Request_takeLine_93
    · rw [if_neg hc44] at hE
      refine lv_sipush (v := (400 : Int32)) hx hb d_Request_takeLine_47 (by decide) ?_
      obtain ⟨e1, e2⟩ := x_pair hE
      exact W.iret (v := (400 : Int32)) hx hb hr (fun t ht hW => ⟨by rw [e1], by rw [ht, ← e2]; exact hw, hS.F ht⟩) hS.2.2 d_Request_takeLine_50
