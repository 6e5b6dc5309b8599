def B_X8_beside_0 (Q : SQ) (nx : Nat → SK) : SK := (o_iload 1 (o_sw [(0, (o_iload 0 (o_const (.int 6) (o_ic (fun x y => x < y) (o_const (.int (-1)) (nx 46)) (o_iload 0 (o_const (.int 6) (o_i2 (fun x y => x - y) (nx 46)))))))), (1, (o_iload 0 (o_const (.int 6) (o_div (fun x y => x - x / y * y) (o_const (.int 5) (o_ic (fun x y => y ≤ x) (o_const (.int (-1)) (nx 62)) (o_iload 0 (o_const (.int 1) (o_i2 (fun x y => x + y) (nx 62)))))))))), (2, (o_iload 0 (o_const (.int 30) (o_ic (fun x y => y ≤ x) (o_const (.int (-1)) (nx 77)) (o_iload 0 (o_const (.int 6) (o_i2 (fun x y => x + y) (nx 77)))))))), (3, (o_iload 0 (o_const (.int 6) (o_div (fun x y => x - x / y * y) (o_if (fun x => x ≤ 0) (o_const (.int (-1)) (nx 92)) (o_iload 0 (o_const (.int 1) (o_i2 (fun x y => x - y) (nx 92)))))))))] (o_const (.int (-1)) (o_iret Q))))
def B_X8_beside_46 (Q : SQ) (nx : Nat → SK) : SK := (o_iret Q)
def B_X8_beside_62 (Q : SQ) (nx : Nat → SK) : SK := (o_iret Q)
def B_X8_beside_77 (Q : SQ) (nx : Nat → SK) : SK := (o_iret Q)
def B_X8_beside_92 (Q : SQ) (nx : Nat → SK) : SK := (o_iret Q)
def P_X8_beside (Q : SQ) (nx : Nat → SK) : Nat → SK := s_tab [(0, B_X8_beside_0 Q nx), (46, B_X8_beside_46 Q nx), (62, B_X8_beside_62 Q nx), (77, B_X8_beside_77 Q nx), (92, B_X8_beside_92 Q nx)]
def C_X8_beside : SC := fun av sh me Q => match av with
  | [.int a0, .int a1] => s_wp P_X8_beside Q 0 [some (.int a0), some (.int a1)] [] sh me
  | _ => False
abbrev rm_X8_beside : Room := { frames := 0, cells := 0, slots := 0, locals := 0 }
theorem hd_X8_beside : (yX8_beside).cls ≠ "java/lang/invoke/MethodHandle" ∧ (yX8_beside).cls ≠ "java/lang/invoke/VarHandle" ∧ (parseMethodDescriptor (yX8_beside).desc).map (fun d => d.parameters.length) = some 2 := by decide +kernel
set_option maxRecDepth 100000 in
set_option maxHeartbeats 4000000 in
theorem b_X8_beside_0 (l : Launch) : s_B l rm_X8_beside yX8_beside cX8_beside 2 ((some FieldType.int)) false 0 B_X8_beside_0 := fun p e s m args below meth c D ty ad A n0 φ0 Q G Y hY => (u_iload_n G dX8_beside_0 rfl (u_tsw G [(0, 32), (1, 47), (2, 63), (3, 78)] dX8_beside_1 (by decide) (by decide) rfl ⟨(u_iload_n G dX8_beside_32 rfl (u_bipush G dX8_beside_33 (by decide) (u_icmp_lt G dX8_beside_35 (by decide) (u_iconst G dX8_beside_45 (by decide) (hY 46)) (u_iload_n G dX8_beside_38 rfl (u_bipush G dX8_beside_39 (by decide) (u_isub G dX8_beside_41 (t_goto G dX8_beside_42 (by decide) (hY 46)))))))), ⟨(u_iload_n G dX8_beside_47 rfl (u_bipush G dX8_beside_48 (by decide) (u_irem G dX8_beside_50 (u_iconst G dX8_beside_51 (by decide) (u_icmp_ge G dX8_beside_52 (by decide) (u_iconst G dX8_beside_61 (by decide) (hY 62)) (u_iload_n G dX8_beside_55 rfl (u_iconst G dX8_beside_56 (by decide) (u_iadd G dX8_beside_57 (t_goto G dX8_beside_58 (by decide) (hY 62)))))))))), ⟨(u_iload_n G dX8_beside_63 rfl (u_bipush G dX8_beside_64 (by decide) (u_icmp_ge G dX8_beside_66 (by decide) (u_iconst G dX8_beside_76 (by decide) (hY 77)) (u_iload_n G dX8_beside_69 rfl (u_bipush G dX8_beside_70 (by decide) (u_iadd G dX8_beside_72 (t_goto G dX8_beside_73 (by decide) (hY 77)))))))), ⟨(u_iload_n G dX8_beside_78 rfl (u_bipush G dX8_beside_79 (by decide) (u_irem G dX8_beside_81 (u_if_le G dX8_beside_82 (by decide) (u_iconst G dX8_beside_91 (by decide) (hY 92)) (u_iload_n G dX8_beside_85 rfl (u_iconst G dX8_beside_86 (by decide) (u_isub G dX8_beside_87 (t_goto G dX8_beside_88 (by decide) (hY 92))))))))), trivial⟩⟩⟩⟩ (u_iconst G dX8_beside_93 (by decide) (t_iret G rfl dX8_beside_94))))
set_option maxRecDepth 100000 in
set_option maxHeartbeats 4000000 in
theorem b_X8_beside_46 (l : Launch) : s_B l rm_X8_beside yX8_beside cX8_beside 2 ((some FieldType.int)) false 46 B_X8_beside_46 := fun p e s m args below meth c D ty ad A n0 φ0 Q G Y hY => (t_iret G rfl dX8_beside_46)
set_option maxRecDepth 100000 in
set_option maxHeartbeats 4000000 in
theorem b_X8_beside_62 (l : Launch) : s_B l rm_X8_beside yX8_beside cX8_beside 2 ((some FieldType.int)) false 62 B_X8_beside_62 := fun p e s m args below meth c D ty ad A n0 φ0 Q G Y hY => (t_iret G rfl dX8_beside_62)
set_option maxRecDepth 100000 in
set_option maxHeartbeats 4000000 in
theorem b_X8_beside_77 (l : Launch) : s_B l rm_X8_beside yX8_beside cX8_beside 2 ((some FieldType.int)) false 77 B_X8_beside_77 := fun p e s m args below meth c D ty ad A n0 φ0 Q G Y hY => (t_iret G rfl dX8_beside_77)
set_option maxRecDepth 100000 in
set_option maxHeartbeats 4000000 in
theorem b_X8_beside_92 (l : Launch) : s_B l rm_X8_beside yX8_beside cX8_beside 2 ((some FieldType.int)) false 92 B_X8_beside_92 := fun p e s m args below meth c D ty ad A n0 φ0 Q G Y hY => (t_iret G rfl dX8_beside_92)
set_option maxRecDepth 100000 in
theorem m_X8_beside (l : Launch) : s_Met l yX8_beside cX8_beside 2 ((some FieldType.int)) rm_X8_beside false C_X8_beside := by
  intro D ty ad av φ sz sh me Q hsh hC
  unfold C_X8_beside at hC
  split at hC
  · exact s_met1 (P := P_X8_beside) (by decide +kernel) (fun _ => ⟨rfl, rfl⟩) (fun p e s m args below meth c D ty ad A n0 φ0 Q G Y hY => s_tab_T _ (List.forall_mem_cons.mpr ⟨b_X8_beside_0 l p e s m args below meth c D ty ad A n0 φ0 Q G Y hY, List.forall_mem_cons.mpr ⟨b_X8_beside_46 l p e s m args below meth c D ty ad A n0 φ0 Q G Y hY, List.forall_mem_cons.mpr ⟨b_X8_beside_62 l p e s m args below meth c D ty ad A n0 φ0 Q G Y hY, List.forall_mem_cons.mpr ⟨b_X8_beside_77 l p e s m args below meth c D ty ad A n0 φ0 Q G Y hY, List.forall_mem_cons.mpr ⟨b_X8_beside_92 l p e s m args below meth c D ty ad A n0 φ0 Q G Y hY, fun _ h => absurd h List.not_mem_nil⟩⟩⟩⟩⟩)) hsh rfl rfl (Nat.le_of_ble_eq_true rfl) hC
  · exact hC.elim
def B_X7_isWall_0 (Q : SQ) (nx : Nat → SK) : SK := (o_aload 0 (o_getJ 7 2 (o_iload 1 (o_lsh (fun x y => (x.toUInt64 >>> (y.toInt64.toUInt64 &&& Int64.toUInt64 63)).toInt64) (o_const (.long 1) (o_l2 (fun x y => x &&& y) (o_const (.long 0) (o_lcmp (o_if (fun x => x = 0) (o_const (.int 0) (nx 18)) (o_const (.int 1) (nx 18)))))))))))
def B_X7_isWall_18 (Q : SQ) (nx : Nat → SK) : SK := (o_zret Q)
def P_X7_isWall (Q : SQ) (nx : Nat → SK) : Nat → SK := s_tab [(0, B_X7_isWall_0 Q nx), (18, B_X7_isWall_18 Q nx)]
def C_X7_isWall : SC := fun av sh me Q => match av with
  | [.ref a0, .int a1] => s_wp P_X7_isWall Q 0 [some (.ref a0), some (.int a1)] [] sh me
  | _ => False
abbrev rm_X7_isWall : Room := { frames := 0, cells := 0, slots := 0, locals := 0 }
theorem hd_X7_isWall : (yX7_isWall).cls ≠ "java/lang/invoke/MethodHandle" ∧ (yX7_isWall).cls ≠ "java/lang/invoke/VarHandle" ∧ (parseMethodDescriptor (yX7_isWall).desc).map (fun d => d.parameters.length) = some 1 := by decide +kernel
set_option maxRecDepth 100000 in
set_option maxHeartbeats 4000000 in
theorem b_X7_isWall_0 (l : Launch) : s_B l rm_X7_isWall yX7_isWall cX7_isWall 2 ((some FieldType.boolean)) false 0 B_X7_isWall_0 := fun p e s m args below meth c D ty ad A n0 φ0 Q G Y hY => (u_aload_n G dX7_isWall_0 rfl (t_getJ G cl_7 (k := 2) (by decide) (Or.inl q1_96) rfl rfl dX7_isWall_1 (u_iload_n G dX7_isWall_4 rfl (u_lushr G dX7_isWall_5 (u_lconst G dX7_isWall_6 (by decide) (u_land G dX7_isWall_7 (u_lconst G dX7_isWall_8 (by decide) (t_lcmp G dX7_isWall_9 (u_if_eq G dX7_isWall_10 (by decide) (u_iconst G dX7_isWall_17 (by decide) (hY 18)) (u_iconst G dX7_isWall_13 (by decide) (t_goto G dX7_isWall_14 (by decide) (hY 18))))))))))))
set_option maxRecDepth 100000 in
set_option maxHeartbeats 4000000 in
theorem b_X7_isWall_18 (l : Launch) : s_B l rm_X7_isWall yX7_isWall cX7_isWall 2 ((some FieldType.boolean)) false 18 B_X7_isWall_18 := fun p e s m args below meth c D ty ad A n0 φ0 Q G Y hY => (t_zret G rfl dX7_isWall_18)
set_option maxRecDepth 100000 in
theorem m_X7_isWall (l : Launch) : s_Met l yX7_isWall cX7_isWall 2 ((some FieldType.boolean)) rm_X7_isWall false C_X7_isWall := by
  intro D ty ad av φ sz sh me Q hsh hC
  unfold C_X7_isWall at hC
  split at hC
  · exact s_met1 (P := P_X7_isWall) (by decide +kernel) (fun _ => ⟨rfl, rfl⟩) (fun p e s m args below meth c D ty ad A n0 φ0 Q G Y hY => s_tab_T _ (List.forall_mem_cons.mpr ⟨b_X7_isWall_0 l p e s m args below meth c D ty ad A n0 φ0 Q G Y hY, List.forall_mem_cons.mpr ⟨b_X7_isWall_18 l p e s m args below meth c D ty ad A n0 φ0 Q G Y hY, fun _ h => absurd h List.not_mem_nil⟩⟩)) hsh rfl rfl (Nat.le_of_ble_eq_true rfl) hC
  · exact hC.elim
def B_X7_viewFrom_0 (Q : SQ) (nx : Nat → SK) : SK := (o_const (.long 1) (o_iload 1 (o_lsh (fun x y => x <<< (y.toInt64 &&& 63)) (o_lstore 2 (o_const (.int 0) (o_istore 4 (nx 7)))))))
def B_X7_viewFrom_7 (Q : SQ) (nx : Nat → SK) : SK := (o_iload 4 (o_const (.int 4) (o_ic (fun x y => y ≤ x) (o_lload 2 (o_lret Q)) (o_iload 1 (o_iload 4 (o_call C_X8_beside 2 (o_istore 5 (o_const (.int 1) (o_istore 6 (nx 24))))))))))
def B_X7_viewFrom_24 (Q : SQ) (nx : Nat → SK) : SK := (o_iload 6 (o_aload 0 (o_getI 7 5 (o_ic (fun x y => y < x) (nx 74) (o_iload 5 (o_const (.int (-1)) (o_ic (fun x y => x = y) (nx 74) (o_lload 2 (o_const (.long 1) (o_iload 5 (o_lsh (fun x y => x <<< (y.toInt64 &&& 63)) (o_l2 (fun x y => x ||| y) (o_lstore 2 (o_aload 0 (o_iload 5 (o_callV C_X7_isWall 7 2 (o_if (fun x => x = 0) (o_iload 5 (o_iload 4 (o_call C_X8_beside 2 (nx 66)))) (o_const (.int (-1)) (nx 66)))))))))))))))))))
def B_X7_viewFrom_66 (Q : SQ) (nx : Nat → SK) : SK := (o_istore 5 (o_iinc 6 1 (nx 24)))
def B_X7_viewFrom_74 (Q : SQ) (nx : Nat → SK) : SK := (o_iinc 4 1 (nx 7))
def P_X7_viewFrom (Q : SQ) (nx : Nat → SK) : Nat → SK := s_tab [(0, B_X7_viewFrom_0 Q nx), (7, B_X7_viewFrom_7 Q nx), (24, B_X7_viewFrom_24 Q nx), (66, B_X7_viewFrom_66 Q nx), (74, B_X7_viewFrom_74 Q nx)]
def C_X7_viewFrom : SC := fun av sh me Q => match av with
  | [.ref a0, .int a1] => s_wp P_X7_viewFrom Q 0 [some (.ref a0), some (.int a1), none, none, none, none, none] [] sh me
  | _ => False
abbrev rm_X7_viewFrom : Room := { frames := 1, cells := 0, slots := 0, locals := 21 }
theorem hd_X7_viewFrom : (yX7_viewFrom).cls ≠ "java/lang/invoke/MethodHandle" ∧ (yX7_viewFrom).cls ≠ "java/lang/invoke/VarHandle" ∧ (parseMethodDescriptor (yX7_viewFrom).desc).map (fun d => d.parameters.length) = some 1 := by decide +kernel
set_option maxRecDepth 100000 in
set_option maxHeartbeats 4000000 in
theorem b_X7_viewFrom_0 (l : Launch) : s_B l rm_X7_viewFrom yX7_viewFrom cX7_viewFrom 7 ((some FieldType.long)) false 0 B_X7_viewFrom_0 := fun p e s m args below meth c D ty ad A n0 φ0 Q G Y hY => (u_lconst G dX7_viewFrom_0 (by decide) (u_iload_n G dX7_viewFrom_1 rfl (u_lshl G dX7_viewFrom_2 (u_lstore_n G dX7_viewFrom_3 rfl (u_iconst G dX7_viewFrom_4 (by decide) (u_istore G dX7_viewFrom_5 (hY 7)))))))
set_option maxRecDepth 100000 in
set_option maxHeartbeats 4000000 in
theorem b_X7_viewFrom_7 (l : Launch) : s_B l rm_X7_viewFrom yX7_viewFrom cX7_viewFrom 7 ((some FieldType.long)) false 7 B_X7_viewFrom_7 := fun p e s m args below meth c D ty ad A n0 φ0 Q G Y hY => (u_iload G dX7_viewFrom_7 (u_iconst G dX7_viewFrom_9 (by decide) (u_icmp_ge G dX7_viewFrom_10 (by decide) (u_lload_n G dX7_viewFrom_80 rfl (t_lret G rfl dX7_viewFrom_81)) (u_iload_n G dX7_viewFrom_13 rfl (u_iload G dX7_viewFrom_14 (t_callS G (m_X8_beside l) ⟨rfl, rfl⟩ rfl ⟨Nat.le_of_ble_eq_true rfl, Nat.le_of_ble_eq_true rfl⟩ q3_180 q1_1 (Or.inr ⟨_, q3_178⟩) q3_179 hd_X8_beside dX7_viewFrom_16 (u_istore G dX7_viewFrom_19 (u_iconst G dX7_viewFrom_21 (by decide) (u_istore G dX7_viewFrom_22 (hY 24))))))))))
set_option maxRecDepth 100000 in
set_option maxHeartbeats 4000000 in
theorem b_X7_viewFrom_24 (l : Launch) : s_B l rm_X7_viewFrom yX7_viewFrom cX7_viewFrom 7 ((some FieldType.long)) false 24 B_X7_viewFrom_24 := fun p e s m args below meth c D ty ad A n0 φ0 Q G Y hY => (u_iload G dX7_viewFrom_24 (u_aload_n G dX7_viewFrom_26 rfl (t_getI G cl_7 (k := 5) (by decide) (Or.inl q1_106) rfl (Or.inl rfl) dX7_viewFrom_27 (u_icmp_gt G dX7_viewFrom_30 (by decide) (hY 74) (u_iload G dX7_viewFrom_33 (u_iconst G dX7_viewFrom_35 (by decide) (u_icmp_eq G dX7_viewFrom_36 (by decide) (hY 74) (u_lload_n G dX7_viewFrom_39 rfl (u_lconst G dX7_viewFrom_40 (by decide) (u_iload G dX7_viewFrom_41 (u_lshl G dX7_viewFrom_43 (u_lor G dX7_viewFrom_44 (u_lstore_n G dX7_viewFrom_45 rfl (u_aload_n G dX7_viewFrom_46 rfl (u_iload G dX7_viewFrom_47 (t_callV G cl_7 (m_X7_isWall l) ⟨rfl, rfl⟩ rfl ⟨Nat.le_of_ble_eq_true rfl, Nat.le_of_ble_eq_true rfl⟩ q2_208 q1_2 (Or.inl q2_205) q2_206 q2_207 hd_X7_isWall dX7_viewFrom_49 (u_if_eq G dX7_viewFrom_52 (by decide) (u_iload G dX7_viewFrom_59 (u_iload G dX7_viewFrom_61 (t_callS G (m_X8_beside l) ⟨rfl, rfl⟩ rfl ⟨Nat.le_of_ble_eq_true rfl, Nat.le_of_ble_eq_true rfl⟩ q3_180 q1_1 (Or.inr ⟨_, q3_178⟩) q3_179 hd_X8_beside dX7_viewFrom_63 (hY 66)))) (u_iconst G dX7_viewFrom_55 (by decide) (t_goto G dX7_viewFrom_56 (by decide) (hY 66))))))))))))))))))))
set_option maxRecDepth 100000 in
set_option maxHeartbeats 4000000 in
theorem b_X7_viewFrom_66 (l : Launch) : s_B l rm_X7_viewFrom yX7_viewFrom cX7_viewFrom 7 ((some FieldType.long)) false 66 B_X7_viewFrom_66 := fun p e s m args below meth c D ty ad A n0 φ0 Q G Y hY => (u_istore G dX7_viewFrom_66 (t_iinc G dX7_viewFrom_68 (by decide) (t_goto G dX7_viewFrom_71 (by decide) (hY 24))))
set_option maxRecDepth 100000 in
set_option maxHeartbeats 4000000 in
theorem b_X7_viewFrom_74 (l : Launch) : s_B l rm_X7_viewFrom yX7_viewFrom cX7_viewFrom 7 ((some FieldType.long)) false 74 B_X7_viewFrom_74 := fun p e s m args below meth c D ty ad A n0 φ0 Q G Y hY => (t_iinc G dX7_viewFrom_74 (by decide) (t_goto G dX7_viewFrom_77 (by decide) (hY 7)))
set_option maxRecDepth 100000 in
theorem m_X7_viewFrom (l : Launch) : s_Met l yX7_viewFrom cX7_viewFrom 7 ((some FieldType.long)) rm_X7_viewFrom false C_X7_viewFrom := by
  intro D ty ad av φ sz sh me Q hsh hC
  unfold C_X7_viewFrom at hC
  split at hC
  · exact s_met1 (P := P_X7_viewFrom) (by decide +kernel) (fun _ => ⟨rfl, rfl⟩) (fun p e s m args below meth c D ty ad A n0 φ0 Q G Y hY => s_tab_T _ (List.forall_mem_cons.mpr ⟨b_X7_viewFrom_0 l p e s m args below meth c D ty ad A n0 φ0 Q G Y hY, List.forall_mem_cons.mpr ⟨b_X7_viewFrom_7 l p e s m args below meth c D ty ad A n0 φ0 Q G Y hY, List.forall_mem_cons.mpr ⟨b_X7_viewFrom_24 l p e s m args below meth c D ty ad A n0 φ0 Q G Y hY, List.forall_mem_cons.mpr ⟨b_X7_viewFrom_66 l p e s m args below meth c D ty ad A n0 φ0 Q G Y hY, List.forall_mem_cons.mpr ⟨b_X7_viewFrom_74 l p e s m args below meth c D ty ad A n0 φ0 Q G Y hY, fun _ h => absurd h List.not_mem_nil⟩⟩⟩⟩⟩)) hsh rfl rfl (Nat.le_of_ble_eq_true rfl) hC
  · exact hC.elim
def B_X8_hasBit_0 (Q : SQ) (nx : Nat → SK) : SK := (o_lload 0 (o_iload 2 (o_lsh (fun x y => (x.toUInt64 >>> (y.toInt64.toUInt64 &&& Int64.toUInt64 63)).toInt64) (o_const (.long 1) (o_l2 (fun x y => x &&& y) (o_const (.long 0) (o_lcmp (o_if (fun x => x = 0) (o_const (.int 0) (nx 15)) (o_const (.int 1) (nx 15))))))))))
def B_X8_hasBit_15 (Q : SQ) (nx : Nat → SK) : SK := (o_zret Q)
def P_X8_hasBit (Q : SQ) (nx : Nat → SK) : Nat → SK := s_tab [(0, B_X8_hasBit_0 Q nx), (15, B_X8_hasBit_15 Q nx)]
def C_X8_hasBit : SC := fun av sh me Q => match av with
  | [.long a0, .int a1] => s_wp P_X8_hasBit Q 0 [some (.long a0), none, some (.int a1)] [] sh me
  | _ => False
abbrev rm_X8_hasBit : Room := { frames := 0, cells := 0, slots := 0, locals := 0 }
theorem hd_X8_hasBit : (yX8_hasBit).cls ≠ "java/lang/invoke/MethodHandle" ∧ (yX8_hasBit).cls ≠ "java/lang/invoke/VarHandle" ∧ (parseMethodDescriptor (yX8_hasBit).desc).map (fun d => d.parameters.length) = some 2 := by decide +kernel
set_option maxRecDepth 100000 in
set_option maxHeartbeats 4000000 in
theorem b_X8_hasBit_0 (l : Launch) : s_B l rm_X8_hasBit yX8_hasBit cX8_hasBit 3 ((some FieldType.boolean)) false 0 B_X8_hasBit_0 := fun p e s m args below meth c D ty ad A n0 φ0 Q G Y hY => (u_lload_n G dX8_hasBit_0 rfl (u_iload_n G dX8_hasBit_1 rfl (u_lushr G dX8_hasBit_2 (u_lconst G dX8_hasBit_3 (by decide) (u_land G dX8_hasBit_4 (u_lconst G dX8_hasBit_5 (by decide) (t_lcmp G dX8_hasBit_6 (u_if_eq G dX8_hasBit_7 (by decide) (u_iconst G dX8_hasBit_14 (by decide) (hY 15)) (u_iconst G dX8_hasBit_10 (by decide) (t_goto G dX8_hasBit_11 (by decide) (hY 15)))))))))))
set_option maxRecDepth 100000 in
set_option maxHeartbeats 4000000 in
theorem b_X8_hasBit_15 (l : Launch) : s_B l rm_X8_hasBit yX8_hasBit cX8_hasBit 3 ((some FieldType.boolean)) false 15 B_X8_hasBit_15 := fun p e s m args below meth c D ty ad A n0 φ0 Q G Y hY => (t_zret G rfl dX8_hasBit_15)
set_option maxRecDepth 100000 in
theorem m_X8_hasBit (l : Launch) : s_Met l yX8_hasBit cX8_hasBit 3 ((some FieldType.boolean)) rm_X8_hasBit false C_X8_hasBit := by
  intro D ty ad av φ sz sh me Q hsh hC
  unfold C_X8_hasBit at hC
  split at hC
  · exact s_met1 (P := P_X8_hasBit) (by decide +kernel) (fun _ => ⟨rfl, rfl⟩) (fun p e s m args below meth c D ty ad A n0 φ0 Q G Y hY => s_tab_T _ (List.forall_mem_cons.mpr ⟨b_X8_hasBit_0 l p e s m args below meth c D ty ad A n0 φ0 Q G Y hY, List.forall_mem_cons.mpr ⟨b_X8_hasBit_15 l p e s m args below meth c D ty ad A n0 φ0 Q G Y hY, fun _ h => absurd h List.not_mem_nil⟩⟩)) hsh rfl rfl (Nat.le_of_ble_eq_true rfl) hC
  · exact hC.elim
def B_X8_distance_0 (Q : SQ) (nx : Nat → SK) : SK := (o_iload 0 (o_const (.int 6) (o_div (fun x y => x / y) (o_iload 1 (o_const (.int 6) (o_div (fun x y => x / y) (o_i2 (fun x y => x - y) (o_math1 s_abs (o_iload 0 (o_const (.int 6) (o_div (fun x y => x - x / y * y) (o_iload 1 (o_const (.int 6) (o_div (fun x y => x - x / y * y) (o_i2 (fun x y => x - y) (o_math1 s_abs (o_i2 (fun x y => x + y) (o_iret Q))))))))))))))))))
def P_X8_distance (Q : SQ) (nx : Nat → SK) : Nat → SK := s_tab [(0, B_X8_distance_0 Q nx)]
def C_X8_distance : SC := fun av sh me Q => match av with
  | [.int a0, .int a1] => s_wp P_X8_distance Q 0 [some (.int a0), some (.int a1)] [] sh me
  | _ => False
abbrev rm_X8_distance : Room := { frames := 1, cells := 0, slots := 0, locals := 21 }
theorem hd_X8_distance : (yX8_distance).cls ≠ "java/lang/invoke/MethodHandle" ∧ (yX8_distance).cls ≠ "java/lang/invoke/VarHandle" ∧ (parseMethodDescriptor (yX8_distance).desc).map (fun d => d.parameters.length) = some 2 := by decide +kernel
set_option maxRecDepth 100000 in
set_option maxHeartbeats 4000000 in
theorem b_X8_distance_0 (l : Launch) : s_B l rm_X8_distance yX8_distance cX8_distance 2 ((some FieldType.int)) false 0 B_X8_distance_0 := fun p e s m args below meth c D ty ad A n0 φ0 Q G Y hY => (u_iload_n G dX8_distance_0 rfl (u_bipush G dX8_distance_1 (by decide) (u_idiv G dX8_distance_3 (u_iload_n G dX8_distance_4 rfl (u_bipush G dX8_distance_5 (by decide) (u_idiv G dX8_distance_7 (u_isub G dX8_distance_8 (t_abs G q3_201 q3_202 q1_13 q3_203 ⟨Nat.le_of_ble_eq_true rfl, Nat.le_of_ble_eq_true rfl⟩ dX8_distance_9 (u_iload_n G dX8_distance_12 rfl (u_bipush G dX8_distance_13 (by decide) (u_irem G dX8_distance_15 (u_iload_n G dX8_distance_16 rfl (u_bipush G dX8_distance_17 (by decide) (u_irem G dX8_distance_19 (u_isub G dX8_distance_20 (t_abs G q3_201 q3_202 q1_13 q3_203 ⟨Nat.le_of_ble_eq_true rfl, Nat.le_of_ble_eq_true rfl⟩ dX8_distance_21 (u_iadd G dX8_distance_24 (t_iret G rfl dX8_distance_25))))))))))))))))))
set_option maxRecDepth 100000 in
theorem m_X8_distance (l : Launch) : s_Met l yX8_distance cX8_distance 2 ((some FieldType.int)) rm_X8_distance false C_X8_distance := by
  intro D ty ad av φ sz sh me Q hsh hC
  unfold C_X8_distance at hC
  split at hC
  · exact s_met1 (P := P_X8_distance) (by decide +kernel) (fun _ => ⟨rfl, rfl⟩) (fun p e s m args below meth c D ty ad A n0 φ0 Q G Y hY => s_tab_T _ (List.forall_mem_cons.mpr ⟨b_X8_distance_0 l p e s m args below meth c D ty ad A n0 φ0 Q G Y hY, fun _ h => absurd h List.not_mem_nil⟩)) hsh rfl rfl (Nat.le_of_ble_eq_true rfl) hC
  · exact hC.elim
def B_X4_worthAGlance_0 (Q : SQ) (nx : Nat → SK) : SK := (o_aload 1 (o_getR 7 0 (o_iload 2 (o_aald 12 (o_astore 3 (o_aload 3 (o_const (.int 3) (o_callV C_X1_isOf 1 2 (o_if (fun x => x = 0) (o_const (.int 0) (o_istore 4 (o_const (.int 0) (o_istore 5 (nx 23))))) (o_const (.int 0) (o_iret Q)))))))))))
def B_X4_worthAGlance_23 (Q : SQ) (nx : Nat → SK) : SK := (o_iload 5 (o_aload 1 (o_getI 7 1 (o_ic (fun x y => y ≤ x) (o_iload 4 (o_iret Q)) (o_aload 1 (o_getR 7 0 (o_iload 5 (o_aald 12 (o_getI 1 5 (o_istore 6 (o_iload 5 (o_iload 2 (o_ic (fun x y => x = y) (nx 97) (o_aload 0 (o_getR 4 0 (o_iload 2 (o_lald (o_iload 6 (o_call C_X8_hasBit 2 (o_if (fun x => x = 0) (nx 97) (o_aload 0 (o_getR 4 1 (o_iload 5 (o_iald (o_aload 3 (o_getI 1 3 (o_aload 3 (o_getI 1 5 (o_iload 6 (o_call C_X8_distance 2 (o_i2 (fun x y => x + y) (o_ic (fun x y => x ≤ y) (nx 97) (o_iload 4 (o_const (.int 1) (o_iload 5 (o_i2 (fun x y => x <<< (y &&& 31)) (o_i2 (fun x y => x ||| y) (o_istore 4 (nx 97)))))))))))))))))))))))))))))))))))))))
def B_X4_worthAGlance_97 (Q : SQ) (nx : Nat → SK) : SK := (o_iinc 5 1 (nx 23))
def P_X4_worthAGlance (Q : SQ) (nx : Nat → SK) : Nat → SK := s_tab [(0, B_X4_worthAGlance_0 Q nx), (23, B_X4_worthAGlance_23 Q nx), (97, B_X4_worthAGlance_97 Q nx)]
def C_X4_worthAGlance : SC := fun av sh me Q => match av with
  | [.ref a0, .ref a1, .int a2] => s_wp P_X4_worthAGlance Q 0 [some (.ref a0), some (.ref a1), some (.int a2), none, none, none, none] [] sh me
  | _ => False
abbrev rm_X4_worthAGlance : Room := { frames := 2, cells := 0, slots := 0, locals := 42 }
theorem hd_X4_worthAGlance : (yX4_worthAGlance).cls ≠ "java/lang/invoke/MethodHandle" ∧ (yX4_worthAGlance).cls ≠ "java/lang/invoke/VarHandle" ∧ (parseMethodDescriptor (yX4_worthAGlance).desc).map (fun d => d.parameters.length) = some 2 := by decide +kernel
set_option maxRecDepth 100000 in
set_option maxHeartbeats 4000000 in
theorem b_X4_worthAGlance_0 (l : Launch) : s_B l rm_X4_worthAGlance yX4_worthAGlance cX4_worthAGlance 7 ((some FieldType.int)) false 0 B_X4_worthAGlance_0 := fun p e s m args below meth c D ty ad A n0 φ0 Q G Y hY => (u_aload_n G dX4_worthAGlance_0 rfl (t_getR G cl_7 (k := 0) (by decide) (Or.inr ⟨_, q1_86⟩) rfl (Or.inr ⟨_, rfl⟩) dX4_worthAGlance_1 (u_iload_n G dX4_worthAGlance_4 rfl (t_aald G (by decide) dX4_worthAGlance_5 (u_astore_n G dX4_worthAGlance_6 rfl (u_aload_n G dX4_worthAGlance_7 rfl (u_iconst G dX4_worthAGlance_8 (by decide) (t_callV G cl_1 (m_X1_isOf l) ⟨rfl, rfl⟩ rfl ⟨Nat.le_of_ble_eq_true rfl, Nat.le_of_ble_eq_true rfl⟩ q2_176 q1_3 (Or.inl q3_196) q2_174 q2_175 hd_X1_isOf dX4_worthAGlance_9 (u_if_eq G dX4_worthAGlance_12 (by decide) (u_iconst G dX4_worthAGlance_17 (by decide) (u_istore G dX4_worthAGlance_18 (u_iconst G dX4_worthAGlance_20 (by decide) (u_istore G dX4_worthAGlance_21 (hY 23))))) (u_iconst G dX4_worthAGlance_15 (by decide) (t_iret G rfl dX4_worthAGlance_16)))))))))))
set_option maxRecDepth 100000 in
set_option maxHeartbeats 4000000 in
theorem b_X4_worthAGlance_23 (l : Launch) : s_B l rm_X4_worthAGlance yX4_worthAGlance cX4_worthAGlance 7 ((some FieldType.int)) false 23 B_X4_worthAGlance_23 := fun p e s m args below meth c D ty ad A n0 φ0 Q G Y hY => (u_iload G dX4_worthAGlance_23 (u_aload_n G dX4_worthAGlance_25 rfl (t_getI G cl_7 (k := 1) (by decide) (Or.inr ⟨_, q1_91⟩) rfl (Or.inl rfl) dX4_worthAGlance_26 (u_icmp_ge G dX4_worthAGlance_29 (by decide) (u_iload G dX4_worthAGlance_103 (t_iret G rfl dX4_worthAGlance_105)) (u_aload_n G dX4_worthAGlance_32 rfl (t_getR G cl_7 (k := 0) (by decide) (Or.inr ⟨_, q1_86⟩) rfl (Or.inr ⟨_, rfl⟩) dX4_worthAGlance_33 (u_iload G dX4_worthAGlance_36 (t_aald G (by decide) dX4_worthAGlance_38 (t_getI G cl_1 (k := 5) (by decide) (Or.inr ⟨_, q1_60⟩) rfl (Or.inl rfl) dX4_worthAGlance_39 (u_istore G dX4_worthAGlance_42 (u_iload G dX4_worthAGlance_44 (u_iload_n G dX4_worthAGlance_46 rfl (u_icmp_eq G dX4_worthAGlance_47 (by decide) (hY 97) (u_aload_n G dX4_worthAGlance_50 rfl (t_getR G cl_4 (k := 0) (by decide) (Or.inl q1_147) rfl (Or.inr ⟨_, rfl⟩) dX4_worthAGlance_51 (u_iload_n G dX4_worthAGlance_54 rfl (t_lald G dX4_worthAGlance_55 (u_iload G dX4_worthAGlance_56 (t_callS G (m_X8_hasBit l) ⟨rfl, rfl⟩ rfl ⟨Nat.le_of_ble_eq_true rfl, Nat.le_of_ble_eq_true rfl⟩ q2_232 q1_1 (Or.inr ⟨_, q3_197⟩) q2_231 hd_X8_hasBit dX4_worthAGlance_58 (u_if_eq G dX4_worthAGlance_61 (by decide) (hY 97) (u_aload_n G dX4_worthAGlance_64 rfl (t_getR G cl_4 (k := 1) (by decide) (Or.inl q1_148) rfl (Or.inr ⟨_, rfl⟩) dX4_worthAGlance_65 (u_iload G dX4_worthAGlance_68 (t_iald G dX4_worthAGlance_70 (u_aload_n G dX4_worthAGlance_71 rfl (t_getI G cl_1 (k := 3) (by decide) (Or.inr ⟨_, q1_53⟩) rfl (Or.inl rfl) dX4_worthAGlance_72 (u_aload_n G dX4_worthAGlance_75 rfl (t_getI G cl_1 (k := 5) (by decide) (Or.inr ⟨_, q1_60⟩) rfl (Or.inl rfl) dX4_worthAGlance_76 (u_iload G dX4_worthAGlance_79 (t_callS G (m_X8_distance l) ⟨rfl, rfl⟩ rfl ⟨Nat.le_of_ble_eq_true rfl, Nat.le_of_ble_eq_true rfl⟩ q3_200 q1_1 (Or.inr ⟨_, q3_198⟩) q3_199 hd_X8_distance dX4_worthAGlance_81 (u_iadd G dX4_worthAGlance_84 (u_icmp_le G dX4_worthAGlance_85 (by decide) (hY 97) (u_iload G dX4_worthAGlance_88 (u_iconst G dX4_worthAGlance_90 (by decide) (u_iload G dX4_worthAGlance_91 (u_ishl G dX4_worthAGlance_93 (u_ior G dX4_worthAGlance_94 (u_istore G dX4_worthAGlance_95 (hY 97)))))))))))))))))))))))))))))))))))))))
set_option maxRecDepth 100000 in
set_option maxHeartbeats 4000000 in
theorem b_X4_worthAGlance_97 (l : Launch) : s_B l rm_X4_worthAGlance yX4_worthAGlance cX4_worthAGlance 7 ((some FieldType.int)) false 97 B_X4_worthAGlance_97 := fun p e s m args below meth c D ty ad A n0 φ0 Q G Y hY => (t_iinc G dX4_worthAGlance_97 (by decide) (t_goto G dX4_worthAGlance_100 (by decide) (hY 23)))
set_option maxRecDepth 100000 in
theorem m_X4_worthAGlance (l : Launch) : s_Met l yX4_worthAGlance cX4_worthAGlance 7 ((some FieldType.int)) rm_X4_worthAGlance false C_X4_worthAGlance := by
  intro D ty ad av φ sz sh me Q hsh hC
  unfold C_X4_worthAGlance at hC
  split at hC
  · exact s_met1 (P := P_X4_worthAGlance) (by decide +kernel) (fun _ => ⟨rfl, rfl⟩) (fun p e s m args below meth c D ty ad A n0 φ0 Q G Y hY => s_tab_T _ (List.forall_mem_cons.mpr ⟨b_X4_worthAGlance_0 l p e s m args below meth c D ty ad A n0 φ0 Q G Y hY, List.forall_mem_cons.mpr ⟨b_X4_worthAGlance_23 l p e s m args below meth c D ty ad A n0 φ0 Q G Y hY, List.forall_mem_cons.mpr ⟨b_X4_worthAGlance_97 l p e s m args below meth c D ty ad A n0 φ0 Q G Y hY, fun _ h => absurd h List.not_mem_nil⟩⟩⟩)) hsh rfl rfl (Nat.le_of_ble_eq_true rfl) hC
  · exact hC.elim
def B_X4_dearestOf_0 (Q : SQ) (nx : Nat → SK) : SK := (o_const (.int 0) (o_istore 4 (o_const (.int 0) (o_istore 5 (o_const (.int 0) (o_istore 6 (o_const (.int 0) (o_istore 7 (nx 12)))))))))
def B_X4_dearestOf_12 (Q : SQ) (nx : Nat → SK) : SK := (o_iload 7 (o_aload 1 (o_getI 7 1 (o_ic (fun x y => y ≤ x) (o_iload 4 (o_iret Q)) (o_aload 1 (o_getR 7 0 (o_iload 2 (o_aald 12 (o_getI 1 5 (o_aload 1 (o_getR 7 0 (o_iload 7 (o_aald 12 (o_getI 1 5 (o_call C_X8_distance 2 (o_istore 8 (o_iload 3 (o_il (o_iload 7 (o_call C_X8_hasBit 2 (o_if (fun x => x = 0) (nx 105) (o_iload 4 (o_if (fun x => x = 0) (nx 86) (o_iload 8 (o_iload 5 (o_ic (fun x y => x < y) (nx 86) (o_iload 8 (o_iload 5 (o_ic (fun x y => ¬ x = y) (nx 105) (o_aload 0 (o_getR 4 1 (o_iload 7 (o_iald (o_iload 6 (o_ic (fun x y => x ≤ y) (nx 105) (nx 86))))))))))))))))))))))))))))))))))))
def B_X4_dearestOf_86 (Q : SQ) (nx : Nat → SK) : SK := (o_const (.int 1) (o_iload 7 (o_i2 (fun x y => x <<< (y &&& 31)) (o_istore 4 (o_iload 8 (o_istore 5 (o_aload 0 (o_getR 4 1 (o_iload 7 (o_iald (o_istore 6 (nx 105))))))))))))
def B_X4_dearestOf_105 (Q : SQ) (nx : Nat → SK) : SK := (o_iinc 7 1 (nx 12))
def P_X4_dearestOf (Q : SQ) (nx : Nat → SK) : Nat → SK := s_tab [(0, B_X4_dearestOf_0 Q nx), (12, B_X4_dearestOf_12 Q nx), (86, B_X4_dearestOf_86 Q nx), (105, B_X4_dearestOf_105 Q nx)]
def C_X4_dearestOf : SC := fun av sh me Q => match av with
  | [.ref a0, .ref a1, .int a2, .int a3] => s_wp P_X4_dearestOf Q 0 [some (.ref a0), some (.ref a1), some (.int a2), some (.int a3), none, none, none, none, none] [] sh me
  | _ => False
abbrev rm_X4_dearestOf : Room := { frames := 2, cells := 0, slots := 0, locals := 42 }
theorem hd_X4_dearestOf : (yX4_dearestOf).cls ≠ "java/lang/invoke/MethodHandle" ∧ (yX4_dearestOf).cls ≠ "java/lang/invoke/VarHandle" ∧ (parseMethodDescriptor (yX4_dearestOf).desc).map (fun d => d.parameters.length) = some 3 := by decide +kernel
set_option maxRecDepth 100000 in
set_option maxHeartbeats 4000000 in
theorem b_X4_dearestOf_0 (l : Launch) : s_B l rm_X4_dearestOf yX4_dearestOf cX4_dearestOf 9 ((some FieldType.int)) false 0 B_X4_dearestOf_0 := fun p e s m args below meth c D ty ad A n0 φ0 Q G Y hY => (u_iconst G dX4_dearestOf_0 (by decide) (u_istore G dX4_dearestOf_1 (u_iconst G dX4_dearestOf_3 (by decide) (u_istore G dX4_dearestOf_4 (u_iconst G dX4_dearestOf_6 (by decide) (u_istore G dX4_dearestOf_7 (u_iconst G dX4_dearestOf_9 (by decide) (u_istore G dX4_dearestOf_10 (hY 12)))))))))
set_option maxRecDepth 100000 in
set_option maxHeartbeats 4000000 in
theorem b_X4_dearestOf_12 (l : Launch) : s_B l rm_X4_dearestOf yX4_dearestOf cX4_dearestOf 9 ((some FieldType.int)) false 12 B_X4_dearestOf_12 := fun p e s m args below meth c D ty ad A n0 φ0 Q G Y hY => (u_iload G dX4_dearestOf_12 (u_aload_n G dX4_dearestOf_14 rfl (t_getI G cl_7 (k := 1) (by decide) (Or.inr ⟨_, q1_91⟩) rfl (Or.inl rfl) dX4_dearestOf_15 (u_icmp_ge G dX4_dearestOf_18 (by decide) (u_iload G dX4_dearestOf_111 (t_iret G rfl dX4_dearestOf_113)) (u_aload_n G dX4_dearestOf_21 rfl (t_getR G cl_7 (k := 0) (by decide) (Or.inr ⟨_, q1_86⟩) rfl (Or.inr ⟨_, rfl⟩) dX4_dearestOf_22 (u_iload_n G dX4_dearestOf_25 rfl (t_aald G (by decide) dX4_dearestOf_26 (t_getI G cl_1 (k := 5) (by decide) (Or.inr ⟨_, q1_60⟩) rfl (Or.inl rfl) dX4_dearestOf_27 (u_aload_n G dX4_dearestOf_30 rfl (t_getR G cl_7 (k := 0) (by decide) (Or.inr ⟨_, q1_86⟩) rfl (Or.inr ⟨_, rfl⟩) dX4_dearestOf_31 (u_iload G dX4_dearestOf_34 (t_aald G (by decide) dX4_dearestOf_36 (t_getI G cl_1 (k := 5) (by decide) (Or.inr ⟨_, q1_60⟩) rfl (Or.inl rfl) dX4_dearestOf_37 (t_callS G (m_X8_distance l) ⟨rfl, rfl⟩ rfl ⟨Nat.le_of_ble_eq_true rfl, Nat.le_of_ble_eq_true rfl⟩ q3_200 q1_1 (Or.inr ⟨_, q3_198⟩) q3_199 hd_X8_distance dX4_dearestOf_40 (u_istore G dX4_dearestOf_43 (u_iload_n G dX4_dearestOf_45 rfl (t_il G dX4_dearestOf_46 (u_iload G dX4_dearestOf_47 (t_callS G (m_X8_hasBit l) ⟨rfl, rfl⟩ rfl ⟨Nat.le_of_ble_eq_true rfl, Nat.le_of_ble_eq_true rfl⟩ q2_232 q1_1 (Or.inr ⟨_, q3_197⟩) q2_231 hd_X8_hasBit dX4_dearestOf_49 (u_if_eq G dX4_dearestOf_52 (by decide) (hY 105) (u_iload G dX4_dearestOf_55 (u_if_eq G dX4_dearestOf_57 (by decide) (hY 86) (u_iload G dX4_dearestOf_60 (u_iload G dX4_dearestOf_62 (u_icmp_lt G dX4_dearestOf_64 (by decide) (hY 86) (u_iload G dX4_dearestOf_67 (u_iload G dX4_dearestOf_69 (u_icmp_ne G dX4_dearestOf_71 (by decide) (hY 105) (u_aload_n G dX4_dearestOf_74 rfl (t_getR G cl_4 (k := 1) (by decide) (Or.inl q1_148) rfl (Or.inr ⟨_, rfl⟩) dX4_dearestOf_75 (u_iload G dX4_dearestOf_78 (t_iald G dX4_dearestOf_80 (u_iload G dX4_dearestOf_81 (u_icmp_le G dX4_dearestOf_83 (by decide) (hY 105) (hY 86))))))))))))))))))))))))))))))))))))
set_option maxRecDepth 100000 in
set_option maxHeartbeats 4000000 in
theorem b_X4_dearestOf_86 (l : Launch) : s_B l rm_X4_dearestOf yX4_dearestOf cX4_dearestOf 9 ((some FieldType.int)) false 86 B_X4_dearestOf_86 := fun p e s m args below meth c D ty ad A n0 φ0 Q G Y hY => (u_iconst G dX4_dearestOf_86 (by decide) (u_iload G dX4_dearestOf_87 (u_ishl G dX4_dearestOf_89 (u_istore G dX4_dearestOf_90 (u_iload G dX4_dearestOf_92 (u_istore G dX4_dearestOf_94 (u_aload_n G dX4_dearestOf_96 rfl (t_getR G cl_4 (k := 1) (by decide) (Or.inl q1_148) rfl (Or.inr ⟨_, rfl⟩) dX4_dearestOf_97 (u_iload G dX4_dearestOf_100 (t_iald G dX4_dearestOf_102 (u_istore G dX4_dearestOf_103 (hY 105))))))))))))
set_option maxRecDepth 100000 in
set_option maxHeartbeats 4000000 in
theorem b_X4_dearestOf_105 (l : Launch) : s_B l rm_X4_dearestOf yX4_dearestOf cX4_dearestOf 9 ((some FieldType.int)) false 105 B_X4_dearestOf_105 := fun p e s m args below meth c D ty ad A n0 φ0 Q G Y hY => (t_iinc G dX4_dearestOf_105 (by decide) (t_goto G dX4_dearestOf_108 (by decide) (hY 12)))
set_option maxRecDepth 100000 in
theorem m_X4_dearestOf (l : Launch) : s_Met l yX4_dearestOf cX4_dearestOf 9 ((some FieldType.int)) rm_X4_dearestOf false C_X4_dearestOf := by
  intro D ty ad av φ sz sh me Q hsh hC
  unfold C_X4_dearestOf at hC
  split at hC
  · exact s_met1 (P := P_X4_dearestOf) (by decide +kernel) (fun _ => ⟨rfl, rfl⟩) (fun p e s m args below meth c D ty ad A n0 φ0 Q G Y hY => s_tab_T _ (List.forall_mem_cons.mpr ⟨b_X4_dearestOf_0 l p e s m args below meth c D ty ad A n0 φ0 Q G Y hY, List.forall_mem_cons.mpr ⟨b_X4_dearestOf_12 l p e s m args below meth c D ty ad A n0 φ0 Q G Y hY, List.forall_mem_cons.mpr ⟨b_X4_dearestOf_86 l p e s m args below meth c D ty ad A n0 φ0 Q G Y hY, List.forall_mem_cons.mpr ⟨b_X4_dearestOf_105 l p e s m args below meth c D ty ad A n0 φ0 Q G Y hY, fun _ h => absurd h List.not_mem_nil⟩⟩⟩⟩)) hsh rfl rfl (Nat.le_of_ble_eq_true rfl) hC
  · exact hC.elim
def B_X4_lookersAt_0 (Q : SQ) (nx : Nat → SK) : SK := (o_const (.int 0) (o_istore 3 (o_const (.int 0) (o_istore 4 (nx 5)))))
def B_X4_lookersAt_5 (Q : SQ) (nx : Nat → SK) : SK := (o_iload 4 (o_aload 1 (o_getI 7 1 (o_ic (fun x y => y ≤ x) (o_iload 3 (o_iret Q)) (o_aload 0 (o_getR 4 2 (o_iload 4 (o_iald (o_il (o_iload 2 (o_call C_X8_hasBit 2 (o_if (fun x => x = 0) (nx 36) (o_iload 3 (o_const (.int 1) (o_iload 4 (o_i2 (fun x y => x <<< (y &&& 31)) (o_i2 (fun x y => x ||| y) (o_istore 3 (nx 36)))))))))))))))))))
def B_X4_lookersAt_36 (Q : SQ) (nx : Nat → SK) : SK := (o_iinc 4 1 (nx 5))
def P_X4_lookersAt (Q : SQ) (nx : Nat → SK) : Nat → SK := s_tab [(0, B_X4_lookersAt_0 Q nx), (5, B_X4_lookersAt_5 Q nx), (36, B_X4_lookersAt_36 Q nx)]
def C_X4_lookersAt : SC := fun av sh me Q => match av with
  | [.ref a0, .ref a1, .int a2] => s_wp P_X4_lookersAt Q 0 [some (.ref a0), some (.ref a1), some (.int a2), none, none] [] sh me
  | _ => False
abbrev rm_X4_lookersAt : Room := { frames := 1, cells := 0, slots := 0, locals := 22 }
theorem hd_X4_lookersAt : (yX4_lookersAt).cls ≠ "java/lang/invoke/MethodHandle" ∧ (yX4_lookersAt).cls ≠ "java/lang/invoke/VarHandle" ∧ (parseMethodDescriptor (yX4_lookersAt).desc).map (fun d => d.parameters.length) = some 2 := by decide +kernel
set_option maxRecDepth 100000 in
set_option maxHeartbeats 4000000 in
theorem b_X4_lookersAt_0 (l : Launch) : s_B l rm_X4_lookersAt yX4_lookersAt cX4_lookersAt 5 ((some FieldType.int)) false 0 B_X4_lookersAt_0 := fun p e s m args below meth c D ty ad A n0 φ0 Q G Y hY => (u_iconst G dX4_lookersAt_0 (by decide) (u_istore_n G dX4_lookersAt_1 rfl (u_iconst G dX4_lookersAt_2 (by decide) (u_istore G dX4_lookersAt_3 (hY 5)))))
set_option maxRecDepth 100000 in
set_option maxHeartbeats 4000000 in
theorem b_X4_lookersAt_5 (l : Launch) : s_B l rm_X4_lookersAt yX4_lookersAt cX4_lookersAt 5 ((some FieldType.int)) false 5 B_X4_lookersAt_5 := fun p e s m args below meth c D ty ad A n0 φ0 Q G Y hY => (u_iload G dX4_lookersAt_5 (u_aload_n G dX4_lookersAt_7 rfl (t_getI G cl_7 (k := 1) (by decide) (Or.inr ⟨_, q1_91⟩) rfl (Or.inl rfl) dX4_lookersAt_8 (u_icmp_ge G dX4_lookersAt_11 (by decide) (u_iload_n G dX4_lookersAt_42 rfl (t_iret G rfl dX4_lookersAt_43)) (u_aload_n G dX4_lookersAt_14 rfl (t_getR G cl_4 (k := 2) (by decide) (Or.inl q1_149) rfl (Or.inr ⟨_, rfl⟩) dX4_lookersAt_15 (u_iload G dX4_lookersAt_18 (t_iald G dX4_lookersAt_20 (t_il G dX4_lookersAt_21 (u_iload_n G dX4_lookersAt_22 rfl (t_callS G (m_X8_hasBit l) ⟨rfl, rfl⟩ rfl ⟨Nat.le_of_ble_eq_true rfl, Nat.le_of_ble_eq_true rfl⟩ q2_232 q1_1 (Or.inr ⟨_, q3_197⟩) q2_231 hd_X8_hasBit dX4_lookersAt_23 (u_if_eq G dX4_lookersAt_26 (by decide) (hY 36) (u_iload_n G dX4_lookersAt_29 rfl (u_iconst G dX4_lookersAt_30 (by decide) (u_iload G dX4_lookersAt_31 (u_ishl G dX4_lookersAt_33 (u_ior G dX4_lookersAt_34 (u_istore_n G dX4_lookersAt_35 rfl (hY 36)))))))))))))))))))
set_option maxRecDepth 100000 in
set_option maxHeartbeats 4000000 in
theorem b_X4_lookersAt_36 (l : Launch) : s_B l rm_X4_lookersAt yX4_lookersAt cX4_lookersAt 5 ((some FieldType.int)) false 36 B_X4_lookersAt_36 := fun p e s m args below meth c D ty ad A n0 φ0 Q G Y hY => (t_iinc G dX4_lookersAt_36 (by decide) (t_goto G dX4_lookersAt_39 (by decide) (hY 5)))
set_option maxRecDepth 100000 in
theorem m_X4_lookersAt (l : Launch) : s_Met l yX4_lookersAt cX4_lookersAt 5 ((some FieldType.int)) rm_X4_lookersAt false C_X4_lookersAt := by
  intro D ty ad av φ sz sh me Q hsh hC
  unfold C_X4_lookersAt at hC
  split at hC
  · exact s_met1 (P := P_X4_lookersAt) (by decide +kernel) (fun _ => ⟨rfl, rfl⟩) (fun p e s m args below meth c D ty ad A n0 φ0 Q G Y hY => s_tab_T _ (List.forall_mem_cons.mpr ⟨b_X4_lookersAt_0 l p e s m args below meth c D ty ad A n0 φ0 Q G Y hY, List.forall_mem_cons.mpr ⟨b_X4_lookersAt_5 l p e s m args below meth c D ty ad A n0 φ0 Q G Y hY, List.forall_mem_cons.mpr ⟨b_X4_lookersAt_36 l p e s m args below meth c D ty ad A n0 φ0 Q G Y hY, fun _ h => absurd h List.not_mem_nil⟩⟩⟩)) hsh rfl rfl (Nat.le_of_ble_eq_true rfl) hC
  · exact hC.elim
def B_X4_enter_0 (Q : SQ) (nx : Nat → SK) : SK := (o_aload 0 (o_dup (o_getI 4 5 (o_iload 2 (o_call C_J6_bitCount_0f7a4 1 (o_i2 (fun x y => x + y) (o_putI 4 5 (o_const (.int 0) (o_istore 3 (nx 15))))))))))
def B_X4_enter_15 (Q : SQ) (nx : Nat → SK) : SK := (o_iload 3 (o_aload 1 (o_getI 7 1 (o_ic (fun x y => y ≤ x) (o_vret Q) (o_iload 2 (o_il (o_iload 3 (o_call C_X8_hasBit 2 (o_if (fun x => x = 0) (nx 45) (o_aload 0 (o_getR 4 4 (o_iload 3 (o_dup2 (o_iald (o_aload 1 (o_getI 7 4 (o_i2 (fun x y => x + y) (o_iast (nx 45)))))))))))))))))))
def B_X4_enter_45 (Q : SQ) (nx : Nat → SK) : SK := (o_iinc 3 1 (nx 15))
def P_X4_enter (Q : SQ) (nx : Nat → SK) : Nat → SK := s_tab [(0, B_X4_enter_0 Q nx), (15, B_X4_enter_15 Q nx), (45, B_X4_enter_45 Q nx)]
def C_X4_enter : SC := fun av sh me Q => match av with
  | [.ref a0, .ref a1, .int a2] => s_wp P_X4_enter Q 0 [some (.ref a0), some (.ref a1), some (.int a2), none] [] sh me
  | _ => False
abbrev rm_X4_enter : Room := { frames := 1, cells := 0, slots := 0, locals := 22 }
theorem hd_X4_enter : (yX4_enter).cls ≠ "java/lang/invoke/MethodHandle" ∧ (yX4_enter).cls ≠ "java/lang/invoke/VarHandle" ∧ (parseMethodDescriptor (yX4_enter).desc).map (fun d => d.parameters.length) = some 2 := by decide +kernel
set_option maxRecDepth 100000 in
set_option maxHeartbeats 4000000 in
theorem b_X4_enter_0 (l : Launch) : s_B l rm_X4_enter yX4_enter cX4_enter 4 ((none : Option FieldType)) false 0 B_X4_enter_0 := fun p e s m args below meth c D ty ad A n0 φ0 Q G Y hY => (u_aload_n G dX4_enter_0 rfl (t_dup G dX4_enter_1 (t_getI G cl_4 (k := 5) (by decide) (Or.inl q1_157) rfl (Or.inl rfl) dX4_enter_2 (u_iload_n G dX4_enter_5 rfl (t_callS G (m_J6_bitCount_0f7a4 l) ⟨rfl, rfl⟩ rfl ⟨Nat.le_of_ble_eq_true rfl, Nat.le_of_ble_eq_true rfl⟩ q3_218 q1_18 (Or.inl q3_216) q3_217 hd_J6_bitCount_0f7a4 dX4_enter_6 (u_iadd G dX4_enter_9 (t_putI G cl_4 (k := 5) (by decide) (Or.inl ⟨rfl, Or.inl q1_157⟩) rfl rfl dX4_enter_10 (u_iconst G dX4_enter_13 (by decide) (u_istore_n G dX4_enter_14 rfl (hY 15))))))))))
set_option maxRecDepth 100000 in
set_option maxHeartbeats 4000000 in
theorem b_X4_enter_15 (l : Launch) : s_B l rm_X4_enter yX4_enter cX4_enter 4 ((none : Option FieldType)) false 15 B_X4_enter_15 := fun p e s m args below meth c D ty ad A n0 φ0 Q G Y hY => (u_iload_n G dX4_enter_15 rfl (u_aload_n G dX4_enter_16 rfl (t_getI G cl_7 (k := 1) (by decide) (Or.inr ⟨_, q1_91⟩) rfl (Or.inl rfl) dX4_enter_17 (u_icmp_ge G dX4_enter_20 (by decide) (t_vret G rfl dX4_enter_51) (u_iload_n G dX4_enter_23 rfl (t_il G dX4_enter_24 (u_iload_n G dX4_enter_25 rfl (t_callS G (m_X8_hasBit l) ⟨rfl, rfl⟩ rfl ⟨Nat.le_of_ble_eq_true rfl, Nat.le_of_ble_eq_true rfl⟩ q2_232 q1_1 (Or.inr ⟨_, q3_197⟩) q2_231 hd_X8_hasBit dX4_enter_26 (u_if_eq G dX4_enter_29 (by decide) (hY 45) (u_aload_n G dX4_enter_32 rfl (t_getR G cl_4 (k := 4) (by decide) (Or.inl q1_155) rfl (Or.inr ⟨_, rfl⟩) dX4_enter_33 (u_iload_n G dX4_enter_36 rfl (t_dup2 G dX4_enter_37 (t_iald G dX4_enter_38 (u_aload_n G dX4_enter_39 rfl (t_getI G cl_7 (k := 4) (by decide) (Or.inr ⟨_, q1_103⟩) rfl (Or.inl rfl) dX4_enter_40 (u_iadd G dX4_enter_43 (t_iast G dX4_enter_44 (hY 45)))))))))))))))))))
set_option maxRecDepth 100000 in
set_option maxHeartbeats 4000000 in
theorem b_X4_enter_45 (l : Launch) : s_B l rm_X4_enter yX4_enter cX4_enter 4 ((none : Option FieldType)) false 45 B_X4_enter_45 := fun p e s m args below meth c D ty ad A n0 φ0 Q G Y hY => (t_iinc G dX4_enter_45 (by decide) (t_goto G dX4_enter_48 (by decide) (hY 15)))
set_option maxRecDepth 100000 in
theorem m_X4_enter (l : Launch) : s_Met l yX4_enter cX4_enter 4 ((none : Option FieldType)) rm_X4_enter false C_X4_enter := by
  intro D ty ad av φ sz sh me Q hsh hC
  unfold C_X4_enter at hC
  split at hC
  · exact s_met1 (P := P_X4_enter) (by decide +kernel) (fun _ => ⟨rfl, rfl⟩) (fun p e s m args below meth c D ty ad A n0 φ0 Q G Y hY => s_tab_T _ (List.forall_mem_cons.mpr ⟨b_X4_enter_0 l p e s m args below meth c D ty ad A n0 φ0 Q G Y hY, List.forall_mem_cons.mpr ⟨b_X4_enter_15 l p e s m args below meth c D ty ad A n0 φ0 Q G Y hY, List.forall_mem_cons.mpr ⟨b_X4_enter_45 l p e s m args below meth c D ty ad A n0 φ0 Q G Y hY, fun _ h => absurd h List.not_mem_nil⟩⟩⟩)) hsh rfl rfl (Nat.le_of_ble_eq_true rfl) hC
  · exact hC.elim
def B_X4_dutyFor_0 (Q : SQ) (nx : Nat → SK) : SK := (o_iload 0 (o_sw [(2, (o_iload 1 (o_iload 1 (o_const (.int 9) (o_div (fun x y => x / y) (o_i2 (fun x y => x - y) (o_iret Q))))))), (5, (o_const (.int 0) (o_iret Q)))] (o_iload 1 (o_iret Q))))
def P_X4_dutyFor (Q : SQ) (nx : Nat → SK) : Nat → SK := s_tab [(0, B_X4_dutyFor_0 Q nx)]
def C_X4_dutyFor : SC := fun av sh me Q => match av with
  | [.int a0, .int a1] => s_wp P_X4_dutyFor Q 0 [some (.int a0), some (.int a1)] [] sh me
  | _ => False
abbrev rm_X4_dutyFor : Room := { frames := 0, cells := 0, slots := 0, locals := 0 }
theorem hd_X4_dutyFor : (yX4_dutyFor).cls ≠ "java/lang/invoke/MethodHandle" ∧ (yX4_dutyFor).cls ≠ "java/lang/invoke/VarHandle" ∧ (parseMethodDescriptor (yX4_dutyFor).desc).map (fun d => d.parameters.length) = some 2 := by decide +kernel
set_option maxRecDepth 100000 in
set_option maxHeartbeats 4000000 in
theorem b_X4_dutyFor_0 (l : Launch) : s_B l rm_X4_dutyFor yX4_dutyFor cX4_dutyFor 2 ((some FieldType.int)) false 0 B_X4_dutyFor_0 := fun p e s m args below meth c D ty ad A n0 φ0 Q G Y hY => (u_iload_n G dX4_dutyFor_0 rfl (u_lsw G [(2, 28), (5, 35)] dX4_dutyFor_1 (by decide) (by decide) rfl ⟨(u_iload_n G dX4_dutyFor_28 rfl (u_iload_n G dX4_dutyFor_29 rfl (u_bipush G dX4_dutyFor_30 (by decide) (u_idiv G dX4_dutyFor_32 (u_isub G dX4_dutyFor_33 (t_iret G rfl dX4_dutyFor_34)))))), ⟨(u_iconst G dX4_dutyFor_35 (by decide) (t_iret G rfl dX4_dutyFor_36)), trivial⟩⟩ (u_iload_n G dX4_dutyFor_37 rfl (t_iret G rfl dX4_dutyFor_38))))
set_option maxRecDepth 100000 in
theorem m_X4_dutyFor (l : Launch) : s_Met l yX4_dutyFor cX4_dutyFor 2 ((some FieldType.int)) rm_X4_dutyFor false C_X4_dutyFor := by
  intro D ty ad av φ sz sh me Q hsh hC
  unfold C_X4_dutyFor at hC
  split at hC
  · exact s_met1 (P := P_X4_dutyFor) (by decide +kernel) (fun _ => ⟨rfl, rfl⟩) (fun p e s m args below meth c D ty ad A n0 φ0 Q G Y hY => s_tab_T _ (List.forall_mem_cons.mpr ⟨b_X4_dutyFor_0 l p e s m args below meth c D ty ad A n0 φ0 Q G Y hY, fun _ h => absurd h List.not_mem_nil⟩)) hsh rfl rfl (Nat.le_of_ble_eq_true rfl) hC
  · exact hC.elim
def B_X4_take_0 (Q : SQ) (nx : Nat → SK) : SK := (o_aload 0 (o_const (.int 0) (o_putI 4 5 (o_const (.int 0) (o_istore 2 (nx 7))))))
def B_X4_take_7 (Q : SQ) (nx : Nat → SK) : SK := (o_iload 2 (o_aload 1 (o_getI 7 1 (o_ic (fun x y => y ≤ x) (o_const (.int 0) (o_istore 2 (nx 68))) (o_aload 0 (o_getR 4 0 (o_iload 2 (o_aload 1 (o_aload 1 (o_getR 7 0 (o_iload 2 (o_aald 12 (o_getI 1 5 (o_callV C_X7_viewFrom 7 2 (o_last (o_aload 0 (o_getR 4 1 (o_iload 2 (o_aload 1 (o_getR 7 0 (o_iload 2 (o_aald 12 (o_aload 1 (o_getI 7 6 (o_callV C_X1_shown 1 2 (o_iast (o_aload 0 (o_getR 4 4 (o_iload 2 (o_const (.int 0) (o_iast (o_iinc 2 1 (nx 7)))))))))))))))))))))))))))))))))
def B_X4_take_68 (Q : SQ) (nx : Nat → SK) : SK := (o_iload 2 (o_aload 1 (o_getI 7 1 (o_ic (fun x y => y ≤ x) (o_const (.int 0) (o_istore 2 (nx 121))) (o_aload 0 (o_aload 1 (o_iload 2 (o_callV C_X4_worthAGlance 4 3 (o_istore 3 (o_aload 0 (o_getR 4 2 (o_iload 2 (o_aload 1 (o_getR 7 0 (o_iload 2 (o_aald 12 (o_const (.int 4) (o_callV C_X1_isOf 1 2 (o_if (fun x => x = 0) (o_iload 3 (nx 112)) (o_aload 0 (o_aload 1 (o_iload 2 (o_iload 3 (o_callV C_X4_dearestOf 4 4 (nx 112)))))))))))))))))))))))))
def B_X4_take_112 (Q : SQ) (nx : Nat → SK) : SK := (o_iast (o_iinc 2 1 (nx 68)))
def B_X4_take_121 (Q : SQ) (nx : Nat → SK) : SK := (o_iload 2 (o_aload 1 (o_getI 7 1 (o_ic (fun x y => y ≤ x) (o_vret Q) (o_aload 0 (o_getR 4 0 (o_iload 2 (o_lald (o_aload 1 (o_getJ 7 3 (o_l2 (fun x y => x &&& y) (o_const (.long 0) (o_lcmp (o_if (fun x => x = 0) (o_const (.int 0) (nx 150)) (o_const (.int 1) (nx 150))))))))))))))))
def B_X4_take_150 (Q : SQ) (nx : Nat → SK) : SK := (o_istore 3 (o_iload 3 (o_if (fun x => x = 0) (o_const (.int 0) (nx 165)) (o_aload 0 (o_aload 1 (o_iload 2 (o_callV C_X4_lookersAt 4 3 (nx 165))))))))
def B_X4_take_165 (Q : SQ) (nx : Nat → SK) : SK := (o_istore 4 (o_aload 0 (o_aload 1 (o_iload 4 (o_callV C_X4_enter 4 3 (o_aload 0 (o_getR 4 3 (o_iload 2 (o_aload 1 (o_getR 7 0 (o_iload 2 (o_aald 12 (o_getI 1 0 (o_iload 4 (o_call C_J6_bitCount_0f7a4 1 (o_aload 1 (o_getI 7 4 (o_i2 (fun x y => x * y) (o_call C_X4_dutyFor 2 (o_iast (o_iinc 2 1 (nx 121))))))))))))))))))))))
def P_X4_take (Q : SQ) (nx : Nat → SK) : Nat → SK := s_tab [(0, B_X4_take_0 Q nx), (7, B_X4_take_7 Q nx), (68, B_X4_take_68 Q nx), (112, B_X4_take_112 Q nx), (121, B_X4_take_121 Q nx), (150, B_X4_take_150 Q nx), (165, B_X4_take_165 Q nx)]
def C_X4_take : SC := fun av sh me Q => match av with
  | [.ref a0, .ref a1] => s_wp P_X4_take Q 0 [some (.ref a0), some (.ref a1), none, none, none] [] sh me
  | _ => False
abbrev rm_X4_take : Room := { frames := 3, cells := 0, slots := 0, locals := 70 }
theorem hd_X4_take : (yX4_take).cls ≠ "java/lang/invoke/MethodHandle" ∧ (yX4_take).cls ≠ "java/lang/invoke/VarHandle" ∧ (parseMethodDescriptor (yX4_take).desc).map (fun d => d.parameters.length) = some 1 := by decide +kernel
set_option maxRecDepth 100000 in
set_option maxHeartbeats 4000000 in
theorem b_X4_take_0 (l : Launch) : s_B l rm_X4_take yX4_take cX4_take 5 ((none : Option FieldType)) false 0 B_X4_take_0 := fun p e s m args below meth c D ty ad A n0 φ0 Q G Y hY => (u_aload_n G dX4_take_0 rfl (u_iconst G dX4_take_1 (by decide) (t_putI G cl_4 (k := 5) (by decide) (Or.inl ⟨rfl, Or.inl q1_157⟩) rfl rfl dX4_take_2 (u_iconst G dX4_take_5 (by decide) (u_istore_n G dX4_take_6 rfl (hY 7))))))
set_option maxRecDepth 100000 in
set_option maxHeartbeats 4000000 in
theorem b_X4_take_7 (l : Launch) : s_B l rm_X4_take yX4_take cX4_take 5 ((none : Option FieldType)) false 7 B_X4_take_7 := fun p e s m args below meth c D ty ad A n0 φ0 Q G Y hY => (u_iload_n G dX4_take_7 rfl (u_aload_n G dX4_take_8 rfl (t_getI G cl_7 (k := 1) (by decide) (Or.inr ⟨_, q1_91⟩) rfl (Or.inl rfl) dX4_take_9 (u_icmp_ge G dX4_take_12 (by decide) (u_iconst G dX4_take_66 (by decide) (u_istore_n G dX4_take_67 rfl (hY 68))) (u_aload_n G dX4_take_15 rfl (t_getR G cl_4 (k := 0) (by decide) (Or.inl q1_147) rfl (Or.inr ⟨_, rfl⟩) dX4_take_16 (u_iload_n G dX4_take_19 rfl (u_aload_n G dX4_take_20 rfl (u_aload_n G dX4_take_21 rfl (t_getR G cl_7 (k := 0) (by decide) (Or.inr ⟨_, q1_86⟩) rfl (Or.inr ⟨_, rfl⟩) dX4_take_22 (u_iload_n G dX4_take_25 rfl (t_aald G (by decide) dX4_take_26 (t_getI G cl_1 (k := 5) (by decide) (Or.inr ⟨_, q1_60⟩) rfl (Or.inl rfl) dX4_take_27 (t_callV G cl_7 (m_X7_viewFrom l) ⟨rfl, rfl⟩ rfl ⟨Nat.le_of_ble_eq_true rfl, Nat.le_of_ble_eq_true rfl⟩ q3_177 q1_2 (Or.inl q3_190) q3_175 q3_176 hd_X7_viewFrom dX4_take_30 (t_last G dX4_take_33 (u_aload_n G dX4_take_34 rfl (t_getR G cl_4 (k := 1) (by decide) (Or.inl q1_148) rfl (Or.inr ⟨_, rfl⟩) dX4_take_35 (u_iload_n G dX4_take_38 rfl (u_aload_n G dX4_take_39 rfl (t_getR G cl_7 (k := 0) (by decide) (Or.inr ⟨_, q1_86⟩) rfl (Or.inr ⟨_, rfl⟩) dX4_take_40 (u_iload_n G dX4_take_43 rfl (t_aald G (by decide) dX4_take_44 (u_aload_n G dX4_take_45 rfl (t_getI G cl_7 (k := 6) (by decide) (Or.inr ⟨_, q1_109⟩) rfl (Or.inr rfl) dX4_take_46 (t_callV G cl_1 (m_X1_shown l) ⟨rfl, rfl⟩ rfl ⟨Nat.le_of_ble_eq_true rfl, Nat.le_of_ble_eq_true rfl⟩ q2_186 q1_3 (Or.inl q3_191) q2_184 q2_185 hd_X1_shown dX4_take_49 (t_iast G dX4_take_52 (u_aload_n G dX4_take_53 rfl (t_getR G cl_4 (k := 4) (by decide) (Or.inl q1_155) rfl (Or.inr ⟨_, rfl⟩) dX4_take_54 (u_iload_n G dX4_take_57 rfl (u_iconst G dX4_take_58 (by decide) (t_iast G dX4_take_59 (t_iinc G dX4_take_60 (by decide) (t_goto G dX4_take_63 (by decide) (hY 7))))))))))))))))))))))))))))))))))
set_option maxRecDepth 100000 in
set_option maxHeartbeats 4000000 in
theorem b_X4_take_68 (l : Launch) : s_B l rm_X4_take yX4_take cX4_take 5 ((none : Option FieldType)) false 68 B_X4_take_68 := fun p e s m args below meth c D ty ad A n0 φ0 Q G Y hY => (u_iload_n G dX4_take_68 rfl (u_aload_n G dX4_take_69 rfl (t_getI G cl_7 (k := 1) (by decide) (Or.inr ⟨_, q1_91⟩) rfl (Or.inl rfl) dX4_take_70 (u_icmp_ge G dX4_take_73 (by decide) (u_iconst G dX4_take_119 (by decide) (u_istore_n G dX4_take_120 rfl (hY 121))) (u_aload_n G dX4_take_76 rfl (u_aload_n G dX4_take_77 rfl (u_iload_n G dX4_take_78 rfl (t_callV G cl_4 (m_X4_worthAGlance l) ⟨rfl, rfl⟩ rfl ⟨Nat.le_of_ble_eq_true rfl, Nat.le_of_ble_eq_true rfl⟩ q3_195 q1_4 (Or.inl q3_192) q3_194 qs_16 hd_X4_worthAGlance dX4_take_79 (u_istore_n G dX4_take_82 rfl (u_aload_n G dX4_take_83 rfl (t_getR G cl_4 (k := 2) (by decide) (Or.inl q1_149) rfl (Or.inr ⟨_, rfl⟩) dX4_take_84 (u_iload_n G dX4_take_87 rfl (u_aload_n G dX4_take_88 rfl (t_getR G cl_7 (k := 0) (by decide) (Or.inr ⟨_, q1_86⟩) rfl (Or.inr ⟨_, rfl⟩) dX4_take_89 (u_iload_n G dX4_take_92 rfl (t_aald G (by decide) dX4_take_93 (u_iconst G dX4_take_94 (by decide) (t_callV G cl_1 (m_X1_isOf l) ⟨rfl, rfl⟩ rfl ⟨Nat.le_of_ble_eq_true rfl, Nat.le_of_ble_eq_true rfl⟩ q2_176 q1_3 (Or.inl q3_196) q2_174 q2_175 hd_X1_isOf dX4_take_95 (u_if_eq G dX4_take_98 (by decide) (u_iload_n G dX4_take_111 rfl (hY 112)) (u_aload_n G dX4_take_101 rfl (u_aload_n G dX4_take_102 rfl (u_iload_n G dX4_take_103 rfl (u_iload_n G dX4_take_104 rfl (t_callV G cl_4 (m_X4_dearestOf l) ⟨rfl, rfl⟩ rfl ⟨Nat.le_of_ble_eq_true rfl, Nat.le_of_ble_eq_true rfl⟩ q3_207 q1_4 (Or.inl q3_204) q3_206 qs_17 hd_X4_dearestOf dX4_take_105 (t_goto G dX4_take_108 (by decide) (hY 112))))))))))))))))))))))))))
set_option maxRecDepth 100000 in
set_option maxHeartbeats 4000000 in
theorem b_X4_take_112 (l : Launch) : s_B l rm_X4_take yX4_take cX4_take 5 ((none : Option FieldType)) false 112 B_X4_take_112 := fun p e s m args below meth c D ty ad A n0 φ0 Q G Y hY => (t_iast G dX4_take_112 (t_iinc G dX4_take_113 (by decide) (t_goto G dX4_take_116 (by decide) (hY 68))))
set_option maxRecDepth 100000 in
set_option maxHeartbeats 4000000 in
theorem b_X4_take_121 (l : Launch) : s_B l rm_X4_take yX4_take cX4_take 5 ((none : Option FieldType)) false 121 B_X4_take_121 := fun p e s m args below meth c D ty ad A n0 φ0 Q G Y hY => (u_iload_n G dX4_take_121 rfl (u_aload_n G dX4_take_122 rfl (t_getI G cl_7 (k := 1) (by decide) (Or.inr ⟨_, q1_91⟩) rfl (Or.inl rfl) dX4_take_123 (u_icmp_ge G dX4_take_126 (by decide) (t_vret G rfl dX4_take_208) (u_aload_n G dX4_take_129 rfl (t_getR G cl_4 (k := 0) (by decide) (Or.inl q1_147) rfl (Or.inr ⟨_, rfl⟩) dX4_take_130 (u_iload_n G dX4_take_133 rfl (t_lald G dX4_take_134 (u_aload_n G dX4_take_135 rfl (t_getJ G cl_7 (k := 3) (by decide) (Or.inr ⟨_, q1_99⟩) rfl rfl dX4_take_136 (u_land G dX4_take_139 (u_lconst G dX4_take_140 (by decide) (t_lcmp G dX4_take_141 (u_if_eq G dX4_take_142 (by decide) (u_iconst G dX4_take_149 (by decide) (hY 150)) (u_iconst G dX4_take_145 (by decide) (t_goto G dX4_take_146 (by decide) (hY 150)))))))))))))))))
set_option maxRecDepth 100000 in
set_option maxHeartbeats 4000000 in
theorem b_X4_take_150 (l : Launch) : s_B l rm_X4_take yX4_take cX4_take 5 ((none : Option FieldType)) false 150 B_X4_take_150 := fun p e s m args below meth c D ty ad A n0 φ0 Q G Y hY => (u_istore_n G dX4_take_150 rfl (u_iload_n G dX4_take_151 rfl (u_if_eq G dX4_take_152 (by decide) (u_iconst G dX4_take_164 (by decide) (hY 165)) (u_aload_n G dX4_take_155 rfl (u_aload_n G dX4_take_156 rfl (u_iload_n G dX4_take_157 rfl (t_callV G cl_4 (m_X4_lookersAt l) ⟨rfl, rfl⟩ rfl ⟨Nat.le_of_ble_eq_true rfl, Nat.le_of_ble_eq_true rfl⟩ q3_211 q1_4 (Or.inl q3_208) q3_209 q3_210 hd_X4_lookersAt dX4_take_158 (t_goto G dX4_take_161 (by decide) (hY 165)))))))))
set_option maxRecDepth 100000 in
set_option maxHeartbeats 4000000 in
theorem b_X4_take_165 (l : Launch) : s_B l rm_X4_take yX4_take cX4_take 5 ((none : Option FieldType)) false 165 B_X4_take_165 := fun p e s m args below meth c D ty ad A n0 φ0 Q G Y hY => (u_istore G dX4_take_165 (u_aload_n G dX4_take_167 rfl (u_aload_n G dX4_take_168 rfl (u_iload G dX4_take_169 (t_callV G cl_4 (m_X4_enter l) ⟨rfl, rfl⟩ rfl ⟨Nat.le_of_ble_eq_true rfl, Nat.le_of_ble_eq_true rfl⟩ q3_215 q1_4 (Or.inl q3_212) q3_214 qs_18 hd_X4_enter dX4_take_171 (u_aload_n G dX4_take_174 rfl (t_getR G cl_4 (k := 3) (by decide) (Or.inl q1_151) rfl (Or.inr ⟨_, rfl⟩) dX4_take_175 (u_iload_n G dX4_take_178 rfl (u_aload_n G dX4_take_179 rfl (t_getR G cl_7 (k := 0) (by decide) (Or.inr ⟨_, q1_86⟩) rfl (Or.inr ⟨_, rfl⟩) dX4_take_180 (u_iload_n G dX4_take_183 rfl (t_aald G (by decide) dX4_take_184 (t_getI G cl_1 (k := 0) (by decide) (Or.inr ⟨_, q1_42⟩) rfl (Or.inl rfl) dX4_take_185 (u_iload G dX4_take_188 (t_callS G (m_J6_bitCount_0f7a4 l) ⟨rfl, rfl⟩ rfl ⟨Nat.le_of_ble_eq_true rfl, Nat.le_of_ble_eq_true rfl⟩ q3_218 q1_18 (Or.inl q3_216) q3_217 hd_J6_bitCount_0f7a4 dX4_take_190 (u_aload_n G dX4_take_193 rfl (t_getI G cl_7 (k := 4) (by decide) (Or.inr ⟨_, q1_103⟩) rfl (Or.inl rfl) dX4_take_194 (u_imul G dX4_take_197 (t_callS G (m_X4_dutyFor l) ⟨rfl, rfl⟩ rfl ⟨Nat.le_of_ble_eq_true rfl, Nat.le_of_ble_eq_true rfl⟩ q3_224 q1_4 (Or.inl q3_222) q3_223 hd_X4_dutyFor dX4_take_198 (t_iast G dX4_take_201 (t_iinc G dX4_take_202 (by decide) (t_goto G dX4_take_205 (by decide) (hY 121)))))))))))))))))))))))
set_option maxRecDepth 100000 in
theorem m_X4_take (l : Launch) : s_Met l yX4_take cX4_take 5 ((none : Option FieldType)) rm_X4_take false C_X4_take := by
  intro D ty ad av φ sz sh me Q hsh hC
  unfold C_X4_take at hC
  split at hC
  · exact s_met1 (P := P_X4_take) (by decide +kernel) (fun _ => ⟨rfl, rfl⟩) (fun p e s m args below meth c D ty ad A n0 φ0 Q G Y hY => s_tab_T _ (List.forall_mem_cons.mpr ⟨b_X4_take_0 l p e s m args below meth c D ty ad A n0 φ0 Q G Y hY, List.forall_mem_cons.mpr ⟨b_X4_take_7 l p e s m args below meth c D ty ad A n0 φ0 Q G Y hY, List.forall_mem_cons.mpr ⟨b_X4_take_68 l p e s m args below meth c D ty ad A n0 φ0 Q G Y hY, List.forall_mem_cons.mpr ⟨b_X4_take_112 l p e s m args below meth c D ty ad A n0 φ0 Q G Y hY, List.forall_mem_cons.mpr ⟨b_X4_take_121 l p e s m args below meth c D ty ad A n0 φ0 Q G Y hY, List.forall_mem_cons.mpr ⟨b_X4_take_150 l p e s m args below meth c D ty ad A n0 φ0 Q G Y hY, List.forall_mem_cons.mpr ⟨b_X4_take_165 l p e s m args below meth c D ty ad A n0 φ0 Q G Y hY, fun _ h => absurd h List.not_mem_nil⟩⟩⟩⟩⟩⟩⟩)) hsh rfl rfl (Nat.le_of_ble_eq_true rfl) hC
  · exact hC.elim
def B_X2_bestBalcony_0 (Q : SQ) (nx : Nat → SK) : SK := (o_aload 0 (o_getR 2 0 (o_aload 1 (o_callV C_X7_copyFrom 7 2 (o_const (.int (-1)) (o_istore 3 (o_const (.int 0) (o_istore 4 (o_const (.int 0) (o_istore 5 (nx 16)))))))))))
def B_X2_bestBalcony_16 (Q : SQ) (nx : Nat → SK) : SK := (o_iload 5 (o_const (.int 36) (o_ic (fun x y => y ≤ x) (o_iload 2 (o_if (fun x => ¬ x = 0) (o_iload 4 (nx 96)) (o_iload 3 (nx 96)))) (o_aload 0 (o_getR 2 0 (o_aload 1 (o_getJ 7 3 (o_iload 5 (o_const (.int 1) (o_call C_X8_withBit 3 (o_putJ 7 3 (o_aload 0 (o_getR 2 1 (o_aload 0 (o_getR 2 0 (o_callV C_X4_take 4 2 (o_iload 3 (o_const (.int (-1)) (o_ic (fun x y => x = y) (nx 68) (o_aload 0 (o_getR 2 1 (o_getI 4 5 (o_iload 4 (o_ic (fun x y => x ≤ y) (nx 80) (nx 68)))))))))))))))))))))))))
def B_X2_bestBalcony_68 (Q : SQ) (nx : Nat → SK) : SK := (o_iload 5 (o_istore 3 (o_aload 0 (o_getR 2 1 (o_getI 4 5 (o_istore 4 (nx 80)))))))
def B_X2_bestBalcony_80 (Q : SQ) (nx : Nat → SK) : SK := (o_iinc 5 1 (nx 16))
def B_X2_bestBalcony_96 (Q : SQ) (nx : Nat → SK) : SK := (o_iret Q)
def P_X2_bestBalcony (Q : SQ) (nx : Nat → SK) : Nat → SK := s_tab [(0, B_X2_bestBalcony_0 Q nx), (16, B_X2_bestBalcony_16 Q nx), (68, B_X2_bestBalcony_68 Q nx), (80, B_X2_bestBalcony_80 Q nx), (96, B_X2_bestBalcony_96 Q nx)]
def C_X2_bestBalcony : SC := fun av sh me Q => match av with
  | [.ref a0, .ref a1, .int a2] => s_wp P_X2_bestBalcony Q 0 [some (.ref a0), some (.ref a1), some (.int a2), none, none, none] [] sh me
  | _ => False
abbrev rm_X2_bestBalcony : Room := { frames := 4, cells := 0, slots := 0, locals := 94 }
theorem hd_X2_bestBalcony : (yX2_bestBalcony).cls ≠ "java/lang/invoke/MethodHandle" ∧ (yX2_bestBalcony).cls ≠ "java/lang/invoke/VarHandle" ∧ (parseMethodDescriptor (yX2_bestBalcony).desc).map (fun d => d.parameters.length) = some 2 := by decide +kernel
set_option maxRecDepth 100000 in
set_option maxHeartbeats 4000000 in
theorem b_X2_bestBalcony_0 (l : Launch) : s_B l rm_X2_bestBalcony yX2_bestBalcony cX2_bestBalcony 6 ((some FieldType.int)) false 0 B_X2_bestBalcony_0 := fun p e s m args below meth c D ty ad A n0 φ0 Q G Y hY => (u_aload_n G dX2_bestBalcony_0 rfl (t_getR G cl_2 (k := 0) (by decide) (Or.inl q1_185) rfl (Or.inl ⟨_, rfl⟩) dX2_bestBalcony_1 (u_aload_n G dX2_bestBalcony_4 rfl (t_callV G cl_7 (m_X7_copyFrom l) ⟨rfl, rfl⟩ rfl ⟨Nat.le_of_ble_eq_true rfl, Nat.le_of_ble_eq_true rfl⟩ q3_40 q1_2 (Or.inl q4_19) q3_38 q3_39 hd_X7_copyFrom dX2_bestBalcony_5 (u_iconst G dX2_bestBalcony_8 (by decide) (u_istore_n G dX2_bestBalcony_9 rfl (u_iconst G dX2_bestBalcony_10 (by decide) (u_istore G dX2_bestBalcony_11 (u_iconst G dX2_bestBalcony_13 (by decide) (u_istore G dX2_bestBalcony_14 (hY 16)))))))))))
set_option maxRecDepth 100000 in
set_option maxHeartbeats 4000000 in
theorem b_X2_bestBalcony_16 (l : Launch) : s_B l rm_X2_bestBalcony yX2_bestBalcony cX2_bestBalcony 6 ((some FieldType.int)) false 16 B_X2_bestBalcony_16 := fun p e s m args below meth c D ty ad A n0 φ0 Q G Y hY => (u_iload G dX2_bestBalcony_16 (u_bipush G dX2_bestBalcony_18 (by decide) (u_icmp_ge G dX2_bestBalcony_20 (by decide) (u_iload_n G dX2_bestBalcony_86 rfl (u_if_ne G dX2_bestBalcony_87 (by decide) (u_iload G dX2_bestBalcony_94 (hY 96)) (u_iload_n G dX2_bestBalcony_90 rfl (t_goto G dX2_bestBalcony_91 (by decide) (hY 96))))) (u_aload_n G dX2_bestBalcony_23 rfl (t_getR G cl_2 (k := 0) (by decide) (Or.inl q1_185) rfl (Or.inl ⟨_, rfl⟩) dX2_bestBalcony_24 (u_aload_n G dX2_bestBalcony_27 rfl (t_getJ G cl_7 (k := 3) (by decide) (Or.inr ⟨_, q1_100⟩) rfl rfl dX2_bestBalcony_28 (u_iload G dX2_bestBalcony_31 (u_iconst G dX2_bestBalcony_33 (by decide) (t_callS G (m_X8_withBit l) ⟨rfl, rfl⟩ rfl ⟨Nat.le_of_ble_eq_true rfl, Nat.le_of_ble_eq_true rfl⟩ q2_239 q1_1 (Or.inr ⟨_, q4_82⟩) q2_238 hd_X8_withBit dX2_bestBalcony_34 (t_putJ G cl_7 (k := 3) (by decide) (Or.inl ⟨rfl, Or.inr ⟨_, q1_100⟩⟩) rfl rfl dX2_bestBalcony_37 (u_aload_n G dX2_bestBalcony_40 rfl (t_getR G cl_2 (k := 1) (by decide) (Or.inl q1_186) rfl (Or.inl ⟨_, rfl⟩) dX2_bestBalcony_41 (u_aload_n G dX2_bestBalcony_44 rfl (t_getR G cl_2 (k := 0) (by decide) (Or.inl q1_185) rfl (Or.inl ⟨_, rfl⟩) dX2_bestBalcony_45 (t_callV G cl_4 (m_X4_take l) ⟨rfl, rfl⟩ rfl ⟨Nat.le_of_ble_eq_true rfl, Nat.le_of_ble_eq_true rfl⟩ q3_189 q1_4 (Or.inl q4_29) q3_187 q3_188 hd_X4_take dX2_bestBalcony_48 (u_iload_n G dX2_bestBalcony_51 rfl (u_iconst G dX2_bestBalcony_52 (by decide) (u_icmp_eq G dX2_bestBalcony_53 (by decide) (hY 68) (u_aload_n G dX2_bestBalcony_56 rfl (t_getR G cl_2 (k := 1) (by decide) (Or.inl q1_186) rfl (Or.inl ⟨_, rfl⟩) dX2_bestBalcony_57 (t_getI G cl_4 (k := 5) (by decide) (Or.inr ⟨_, q1_158⟩) rfl (Or.inl rfl) dX2_bestBalcony_60 (u_iload G dX2_bestBalcony_63 (u_icmp_le G dX2_bestBalcony_65 (by decide) (hY 80) (hY 68)))))))))))))))))))))))))
set_option maxRecDepth 100000 in
set_option maxHeartbeats 4000000 in
theorem b_X2_bestBalcony_68 (l : Launch) : s_B l rm_X2_bestBalcony yX2_bestBalcony cX2_bestBalcony 6 ((some FieldType.int)) false 68 B_X2_bestBalcony_68 := fun p e s m args below meth c D ty ad A n0 φ0 Q G Y hY => (u_iload G dX2_bestBalcony_68 (u_istore_n G dX2_bestBalcony_70 rfl (u_aload_n G dX2_bestBalcony_71 rfl (t_getR G cl_2 (k := 1) (by decide) (Or.inl q1_186) rfl (Or.inl ⟨_, rfl⟩) dX2_bestBalcony_72 (t_getI G cl_4 (k := 5) (by decide) (Or.inr ⟨_, q1_158⟩) rfl (Or.inl rfl) dX2_bestBalcony_75 (u_istore G dX2_bestBalcony_78 (hY 80)))))))
set_option maxRecDepth 100000 in
set_option maxHeartbeats 4000000 in
theorem b_X2_bestBalcony_80 (l : Launch) : s_B l rm_X2_bestBalcony yX2_bestBalcony cX2_bestBalcony 6 ((some FieldType.int)) false 80 B_X2_bestBalcony_80 := fun p e s m args below meth c D ty ad A n0 φ0 Q G Y hY => (t_iinc G dX2_bestBalcony_80 (by decide) (t_goto G dX2_bestBalcony_83 (by decide) (hY 16)))
set_option maxRecDepth 100000 in
set_option maxHeartbeats 4000000 in
theorem b_X2_bestBalcony_96 (l : Launch) : s_B l rm_X2_bestBalcony yX2_bestBalcony cX2_bestBalcony 6 ((some FieldType.int)) false 96 B_X2_bestBalcony_96 := fun p e s m args below meth c D ty ad A n0 φ0 Q G Y hY => (t_iret G rfl dX2_bestBalcony_96)
set_option maxRecDepth 100000 in
theorem m_X2_bestBalcony (l : Launch) : s_Met l yX2_bestBalcony cX2_bestBalcony 6 ((some FieldType.int)) rm_X2_bestBalcony false C_X2_bestBalcony := by
  intro D ty ad av φ sz sh me Q hsh hC
  unfold C_X2_bestBalcony at hC
  split at hC
  · exact s_met1 (P := P_X2_bestBalcony) (by decide +kernel) (fun _ => ⟨rfl, rfl⟩) (fun p e s m args below meth c D ty ad A n0 φ0 Q G Y hY => s_tab_T _ (List.forall_mem_cons.mpr ⟨b_X2_bestBalcony_0 l p e s m args below meth c D ty ad A n0 φ0 Q G Y hY, List.forall_mem_cons.mpr ⟨b_X2_bestBalcony_16 l p e s m args below meth c D ty ad A n0 φ0 Q G Y hY, List.forall_mem_cons.mpr ⟨b_X2_bestBalcony_68 l p e s m args below meth c D ty ad A n0 φ0 Q G Y hY, List.forall_mem_cons.mpr ⟨b_X2_bestBalcony_80 l p e s m args below meth c D ty ad A n0 φ0 Q G Y hY, List.forall_mem_cons.mpr ⟨b_X2_bestBalcony_96 l p e s m args below meth c D ty ad A n0 φ0 Q G Y hY, fun _ h => absurd h List.not_mem_nil⟩⟩⟩⟩⟩)) hsh rfl rfl (Nat.le_of_ble_eq_true rfl) hC
  · exact hC.elim
