def B_X9_intAt_0 (Q : SQ) (nx : Nat → SK) : SK := (o_aload 0 (o_getR 9 22 (o_const (.int 160) (o_iload 1 (o_i2 (fun x y => x * y) (o_iload 2 (o_i2 (fun x y => x + y) (o_lald (o_li (o_iret Q))))))))))
def P_X9_intAt (Q : SQ) (nx : Nat → SK) : Nat → SK := s_tab [(0, B_X9_intAt_0 Q nx)]
def C_X9_intAt : SC := fun av sh me Q => match av with
  | [.ref a0, .int a1, .int a2] => s_wp P_X9_intAt Q 0 [some (.ref a0), some (.int a1), some (.int a2)] [] sh me
  | _ => False
abbrev rm_X9_intAt : Room := { frames := 0, cells := 0, slots := 0, locals := 0 }
theorem hd_X9_intAt : (yX9_intAt).cls ≠ "java/lang/invoke/MethodHandle" ∧ (yX9_intAt).cls ≠ "java/lang/invoke/VarHandle" ∧ (parseMethodDescriptor (yX9_intAt).desc).map (fun d => d.parameters.length) = some 2 := by decide +kernel
set_option maxRecDepth 100000 in
set_option maxHeartbeats 4000000 in
theorem b_X9_intAt_0 (l : Launch) : s_B l rm_X9_intAt yX9_intAt cX9_intAt 3 ((some FieldType.int)) false 0 B_X9_intAt_0 := fun p e s m args below meth c D ty ad A n0 φ0 Q G Y hY => (u_aload_n G dX9_intAt_0 rfl (t_getR G cl_9 (k := 22) (by decide) (Or.inl q5_38) rfl (Or.inr ⟨_, rfl⟩) dX9_intAt_1 (u_sipush G dX9_intAt_4 (by decide) (u_iload_n G dX9_intAt_7 rfl (u_imul G dX9_intAt_8 (u_iload_n G dX9_intAt_9 rfl (u_iadd G dX9_intAt_10 (t_lald G dX9_intAt_11 (t_li G dX9_intAt_12 (t_iret G rfl dX9_intAt_13))))))))))
set_option maxRecDepth 100000 in
theorem m_X9_intAt (l : Launch) : s_Met l yX9_intAt cX9_intAt 3 ((some FieldType.int)) rm_X9_intAt false C_X9_intAt := by
  intro D ty ad av φ sz sh me Q hsh hC
  unfold C_X9_intAt at hC
  split at hC
  · exact s_met1 (P := P_X9_intAt) (by decide +kernel) (fun _ => ⟨rfl, rfl⟩) (fun p e s m args below meth c D ty ad A n0 φ0 Q G Y hY => s_tab_T _ (List.forall_mem_cons.mpr ⟨b_X9_intAt_0 l p e s m args below meth c D ty ad A n0 φ0 Q G Y hY, fun _ h => absurd h List.not_mem_nil⟩)) hsh rfl rfl (Nat.le_of_ble_eq_true rfl) hC
  · exact hC.elim
def B_X9_beside_0 (Q : SQ) (nx : Nat → SK) : SK := (o_iload 1 (o_const (.int 6) (o_div (fun x y => x / y) (o_istore 3 (o_iload 1 (o_const (.int 6) (o_div (fun x y => x - x / y * y) (o_istore 4 (o_iload 2 (o_if (fun x => ¬ x = 0) (o_iload 2 (o_const (.int 1) (o_ic (fun x y => ¬ x = y) (o_iload 2 (o_const (.int 2) (o_ic (fun x y => ¬ x = y) (o_iload 4 (o_if (fun x => ¬ x = 0) (o_iload 1 (o_const (.int 1) (o_i2 (fun x y => x - y) (nx 78)))) (o_const (.int (-1)) (nx 78)))) (o_iload 3 (o_const (.int 5) (o_ic (fun x y => ¬ x = y) (o_iload 1 (o_const (.int 6) (o_i2 (fun x y => x + y) (nx 65)))) (o_const (.int (-1)) (nx 65)))))))) (o_iload 4 (o_const (.int 5) (o_ic (fun x y => ¬ x = y) (o_iload 1 (o_const (.int 1) (o_i2 (fun x y => x + y) (nx 46)))) (o_const (.int (-1)) (nx 46)))))))) (o_iload 3 (o_if (fun x => ¬ x = 0) (o_iload 1 (o_const (.int 6) (o_i2 (fun x y => x - y) (nx 27)))) (o_const (.int (-1)) (nx 27))))))))))))))
def B_X9_beside_27 (Q : SQ) (nx : Nat → SK) : SK := (o_iret Q)
def B_X9_beside_46 (Q : SQ) (nx : Nat → SK) : SK := (o_iret Q)
def B_X9_beside_65 (Q : SQ) (nx : Nat → SK) : SK := (o_iret Q)
def B_X9_beside_78 (Q : SQ) (nx : Nat → SK) : SK := (o_iret Q)
def P_X9_beside (Q : SQ) (nx : Nat → SK) : Nat → SK := s_tab [(0, B_X9_beside_0 Q nx), (27, B_X9_beside_27 Q nx), (46, B_X9_beside_46 Q nx), (65, B_X9_beside_65 Q nx), (78, B_X9_beside_78 Q nx)]
def C_X9_beside : SC := fun av sh me Q => match av with
  | [.ref a0, .int a1, .int a2] => s_wp P_X9_beside Q 0 [some (.ref a0), some (.int a1), some (.int a2), none, none] [] sh me
  | _ => False
abbrev rm_X9_beside : Room := { frames := 0, cells := 0, slots := 0, locals := 0 }
theorem hd_X9_beside : (yX9_beside).cls ≠ "java/lang/invoke/MethodHandle" ∧ (yX9_beside).cls ≠ "java/lang/invoke/VarHandle" ∧ (parseMethodDescriptor (yX9_beside).desc).map (fun d => d.parameters.length) = some 2 := by decide +kernel
set_option maxRecDepth 100000 in
set_option maxHeartbeats 4000000 in
theorem b_X9_beside_0 (l : Launch) : s_B l rm_X9_beside yX9_beside cX9_beside 5 ((some FieldType.int)) false 0 B_X9_beside_0 := fun p e s m args below meth c D ty ad A n0 φ0 Q G Y hY => (u_iload_n G dX9_beside_0 rfl (u_bipush G dX9_beside_1 (by decide) (u_idiv G dX9_beside_3 (u_istore_n G dX9_beside_4 rfl (u_iload_n G dX9_beside_5 rfl (u_bipush G dX9_beside_6 (by decide) (u_irem G dX9_beside_8 (u_istore G dX9_beside_9 (u_iload_n G dX9_beside_11 rfl (u_if_ne G dX9_beside_12 (by decide) (u_iload_n G dX9_beside_28 rfl (u_iconst G dX9_beside_29 (by decide) (u_icmp_ne G dX9_beside_30 (by decide) (u_iload_n G dX9_beside_47 rfl (u_iconst G dX9_beside_48 (by decide) (u_icmp_ne G dX9_beside_49 (by decide) (u_iload G dX9_beside_66 (u_if_ne G dX9_beside_68 (by decide) (u_iload_n G dX9_beside_75 rfl (u_iconst G dX9_beside_76 (by decide) (u_isub G dX9_beside_77 (hY 78)))) (u_iconst G dX9_beside_71 (by decide) (t_goto G dX9_beside_72 (by decide) (hY 78))))) (u_iload_n G dX9_beside_52 rfl (u_iconst G dX9_beside_53 (by decide) (u_icmp_ne G dX9_beside_54 (by decide) (u_iload_n G dX9_beside_61 rfl (u_bipush G dX9_beside_62 (by decide) (u_iadd G dX9_beside_64 (hY 65)))) (u_iconst G dX9_beside_57 (by decide) (t_goto G dX9_beside_58 (by decide) (hY 65))))))))) (u_iload G dX9_beside_33 (u_iconst G dX9_beside_35 (by decide) (u_icmp_ne G dX9_beside_36 (by decide) (u_iload_n G dX9_beside_43 rfl (u_iconst G dX9_beside_44 (by decide) (u_iadd G dX9_beside_45 (hY 46)))) (u_iconst G dX9_beside_39 (by decide) (t_goto G dX9_beside_40 (by decide) (hY 46))))))))) (u_iload_n G dX9_beside_15 rfl (u_if_ne G dX9_beside_16 (by decide) (u_iload_n G dX9_beside_23 rfl (u_bipush G dX9_beside_24 (by decide) (u_isub G dX9_beside_26 (hY 27)))) (u_iconst G dX9_beside_19 (by decide) (t_goto G dX9_beside_20 (by decide) (hY 27)))))))))))))))
set_option maxRecDepth 100000 in
set_option maxHeartbeats 4000000 in
theorem b_X9_beside_27 (l : Launch) : s_B l rm_X9_beside yX9_beside cX9_beside 5 ((some FieldType.int)) false 27 B_X9_beside_27 := fun p e s m args below meth c D ty ad A n0 φ0 Q G Y hY => (t_iret G rfl dX9_beside_27)
set_option maxRecDepth 100000 in
set_option maxHeartbeats 4000000 in
theorem b_X9_beside_46 (l : Launch) : s_B l rm_X9_beside yX9_beside cX9_beside 5 ((some FieldType.int)) false 46 B_X9_beside_46 := fun p e s m args below meth c D ty ad A n0 φ0 Q G Y hY => (t_iret G rfl dX9_beside_46)
set_option maxRecDepth 100000 in
set_option maxHeartbeats 4000000 in
theorem b_X9_beside_65 (l : Launch) : s_B l rm_X9_beside yX9_beside cX9_beside 5 ((some FieldType.int)) false 65 B_X9_beside_65 := fun p e s m args below meth c D ty ad A n0 φ0 Q G Y hY => (t_iret G rfl dX9_beside_65)
set_option maxRecDepth 100000 in
set_option maxHeartbeats 4000000 in
theorem b_X9_beside_78 (l : Launch) : s_B l rm_X9_beside yX9_beside cX9_beside 5 ((some FieldType.int)) false 78 B_X9_beside_78 := fun p e s m args below meth c D ty ad A n0 φ0 Q G Y hY => (t_iret G rfl dX9_beside_78)
set_option maxRecDepth 100000 in
theorem m_X9_beside (l : Launch) : s_Met l yX9_beside cX9_beside 5 ((some FieldType.int)) rm_X9_beside false C_X9_beside := by
  intro D ty ad av φ sz sh me Q hsh hC
  unfold C_X9_beside at hC
  split at hC
  · exact s_met1 (P := P_X9_beside) (by decide +kernel) (fun _ => ⟨rfl, rfl⟩) (fun p e s m args below meth c D ty ad A n0 φ0 Q G Y hY => s_tab_T _ (List.forall_mem_cons.mpr ⟨b_X9_beside_0 l p e s m args below meth c D ty ad A n0 φ0 Q G Y hY, List.forall_mem_cons.mpr ⟨b_X9_beside_27 l p e s m args below meth c D ty ad A n0 φ0 Q G Y hY, List.forall_mem_cons.mpr ⟨b_X9_beside_46 l p e s m args below meth c D ty ad A n0 φ0 Q G Y hY, List.forall_mem_cons.mpr ⟨b_X9_beside_65 l p e s m args below meth c D ty ad A n0 φ0 Q G Y hY, List.forall_mem_cons.mpr ⟨b_X9_beside_78 l p e s m args below meth c D ty ad A n0 φ0 Q G Y hY, fun _ h => absurd h List.not_mem_nil⟩⟩⟩⟩⟩)) hsh rfl rfl (Nat.le_of_ble_eq_true rfl) hC
  · exact hC.elim
def B_X9_pays_0 (Q : SQ) (nx : Nat → SK) : SK := (o_aload 0 (o_iload 1 (o_callV C_X9_owes 9 2 (o_istore 2 (o_iload 2 (o_aload 0 (o_getR 9 13 (o_iload 1 (o_iald (o_ic (fun x y => x ≤ y) (nx 23) (o_aload 0 (o_getR 9 13 (o_iload 1 (o_iald (o_istore 2 (nx 23))))))))))))))))
def B_X9_pays_23 (Q : SQ) (nx : Nat → SK) : SK := (o_aload 0 (o_getR 9 13 (o_iload 1 (o_dup2 (o_iald (o_iload 2 (o_i2 (fun x y => x - y) (o_iast (o_aload 0 (o_dup (o_getI 9 40 (o_iload 2 (o_i2 (fun x y => x + y) (o_putI 9 40 (o_vret Q)))))))))))))))
def P_X9_pays (Q : SQ) (nx : Nat → SK) : Nat → SK := s_tab [(0, B_X9_pays_0 Q nx), (23, B_X9_pays_23 Q nx)]
def C_X9_pays : SC := fun av sh me Q => match av with
  | [.ref a0, .int a1] => s_wp P_X9_pays Q 0 [some (.ref a0), some (.int a1), none] [] sh me
  | _ => False
abbrev rm_X9_pays : Room := { frames := 6, cells := 0, slots := 0, locals := 143 }
theorem hd_X9_pays : (yX9_pays).cls ≠ "java/lang/invoke/MethodHandle" ∧ (yX9_pays).cls ≠ "java/lang/invoke/VarHandle" ∧ (parseMethodDescriptor (yX9_pays).desc).map (fun d => d.parameters.length) = some 1 := by decide +kernel
set_option maxRecDepth 100000 in
set_option maxHeartbeats 4000000 in
theorem b_X9_pays_0 (l : Launch) : s_B l rm_X9_pays yX9_pays cX9_pays 3 ((none : Option FieldType)) false 0 B_X9_pays_0 := fun p e s m args below meth c D ty ad A n0 φ0 Q G Y hY => (u_aload_n G dX9_pays_0 rfl (u_iload_n G dX9_pays_1 rfl (t_callV G cl_9 (m_X9_owes l) ⟨rfl, rfl⟩ rfl ⟨Nat.le_of_ble_eq_true rfl, Nat.le_of_ble_eq_true rfl⟩ q6_88 q1_10 (Or.inl q6_85) q6_87 qs_58 hd_X9_owes dX9_pays_2 (u_istore_n G dX9_pays_5 rfl (u_iload_n G dX9_pays_6 rfl (u_aload_n G dX9_pays_7 rfl (t_getR G cl_9 (k := 13) (by decide) (Or.inl q5_29) rfl (Or.inr ⟨_, rfl⟩) dX9_pays_8 (u_iload_n G dX9_pays_11 rfl (t_iald G dX9_pays_12 (u_icmp_le G dX9_pays_13 (by decide) (hY 23) (u_aload_n G dX9_pays_16 rfl (t_getR G cl_9 (k := 13) (by decide) (Or.inl q5_29) rfl (Or.inr ⟨_, rfl⟩) dX9_pays_17 (u_iload_n G dX9_pays_20 rfl (t_iald G dX9_pays_21 (u_istore_n G dX9_pays_22 rfl (hY 23))))))))))))))))
set_option maxRecDepth 100000 in
set_option maxHeartbeats 4000000 in
theorem b_X9_pays_23 (l : Launch) : s_B l rm_X9_pays yX9_pays cX9_pays 3 ((none : Option FieldType)) false 23 B_X9_pays_23 := fun p e s m args below meth c D ty ad A n0 φ0 Q G Y hY => (u_aload_n G dX9_pays_23 rfl (t_getR G cl_9 (k := 13) (by decide) (Or.inl q5_29) rfl (Or.inr ⟨_, rfl⟩) dX9_pays_24 (u_iload_n G dX9_pays_27 rfl (t_dup2 G dX9_pays_28 (t_iald G dX9_pays_29 (u_iload_n G dX9_pays_30 rfl (u_isub G dX9_pays_31 (t_iast G dX9_pays_32 (u_aload_n G dX9_pays_33 rfl (t_dup G dX9_pays_34 (t_getI G cl_9 (k := 40) (by decide) (Or.inl q5_56) rfl (Or.inl rfl) dX9_pays_35 (u_iload_n G dX9_pays_38 rfl (u_iadd G dX9_pays_39 (t_putI G cl_9 (k := 40) (by decide) (Or.inl ⟨rfl, Or.inl q5_56⟩) rfl rfl dX9_pays_40 (t_vret G rfl dX9_pays_43)))))))))))))))
set_option maxRecDepth 100000 in
theorem m_X9_pays (l : Launch) : s_Met l yX9_pays cX9_pays 3 ((none : Option FieldType)) rm_X9_pays false C_X9_pays := by
  intro D ty ad av φ sz sh me Q hsh hC
  unfold C_X9_pays at hC
  split at hC
  · exact s_met1 (P := P_X9_pays) (by decide +kernel) (fun _ => ⟨rfl, rfl⟩) (fun p e s m args below meth c D ty ad A n0 φ0 Q G Y hY => s_tab_T _ (List.forall_mem_cons.mpr ⟨b_X9_pays_0 l p e s m args below meth c D ty ad A n0 φ0 Q G Y hY, List.forall_mem_cons.mpr ⟨b_X9_pays_23 l p e s m args below meth c D ty ad A n0 φ0 Q G Y hY, fun _ h => absurd h List.not_mem_nil⟩⟩)) hsh rfl rfl (Nat.le_of_ble_eq_true rfl) hC
  · exact hC.elim
def B_X9_strolls_0 (Q : SQ) (nx : Nat → SK) : SK := (o_aload 0 (o_const (.int 0) (o_putI 9 40 (o_const (.int 0) (o_istore 3 (nx 7))))))
def B_X9_strolls_7 (Q : SQ) (nx : Nat → SK) : SK := (o_iload 3 (o_iload 2 (o_ic (fun x y => y ≤ x) (o_const (.int (-1)) (o_iret Q)) (o_aload 0 (o_iload 1 (o_iload 3 (o_callV C_X9_intAt 9 3 (o_istore 4 (o_iload 4 (o_const (.int 10) (o_div (fun x y => x / y) (o_istore 5 (o_iload 4 (o_if (fun x => x < 0) (nx 50) (o_iload 5 (o_aload 0 (o_getI 9 0 (o_ic (fun x y => y ≤ x) (nx 50) (o_iload 4 (o_const (.int 10) (o_div (fun x y => x - x / y * y) (o_const (.int 3) (o_ic (fun x y => x ≤ y) (o_aload 0 (o_aload 0 (o_getR 9 14 (o_iload 5 (o_iald (o_iload 4 (o_const (.int 10) (o_div (fun x y => x - x / y * y) (o_callV C_X9_beside 9 3 (nx 70)))))))))) (nx 50))))))))))))))))))))))))
def B_X9_strolls_50 (Q : SQ) (nx : Nat → SK) : SK := (o_const (.int (-1)) (nx 70))
def B_X9_strolls_70 (Q : SQ) (nx : Nat → SK) : SK := (o_istore 6 (o_iload 6 (o_const (.int (-1)) (o_ic (fun x y => x = y) (nx 89) (o_aload 0 (o_getR 9 16 (o_iload 6 (o_iald (o_const (.int 1) (o_ic (fun x y => ¬ x = y) (o_aload 0 (o_getR 9 14 (o_iload 5 (o_iload 6 (o_iast (o_aload 0 (o_iload 5 (o_callV C_X9_pays 9 2 (o_iinc 3 1 (nx 7)))))))))) (nx 89)))))))))))
def B_X9_strolls_89 (Q : SQ) (nx : Nat → SK) : SK := (o_iload 3 (o_iret Q))
def P_X9_strolls (Q : SQ) (nx : Nat → SK) : Nat → SK := s_tab [(0, B_X9_strolls_0 Q nx), (7, B_X9_strolls_7 Q nx), (50, B_X9_strolls_50 Q nx), (70, B_X9_strolls_70 Q nx), (89, B_X9_strolls_89 Q nx)]
def C_X9_strolls : SC := fun av sh me Q => match av with
  | [.ref a0, .int a1, .int a2] => s_wp P_X9_strolls Q 0 [some (.ref a0), some (.int a1), some (.int a2), none, none, none, none] [] sh me
  | _ => False
abbrev rm_X9_strolls : Room := { frames := 7, cells := 0, slots := 0, locals := 165 }
theorem hd_X9_strolls : (yX9_strolls).cls ≠ "java/lang/invoke/MethodHandle" ∧ (yX9_strolls).cls ≠ "java/lang/invoke/VarHandle" ∧ (parseMethodDescriptor (yX9_strolls).desc).map (fun d => d.parameters.length) = some 2 := by decide +kernel
set_option maxRecDepth 100000 in
set_option maxHeartbeats 4000000 in
theorem b_X9_strolls_0 (l : Launch) : s_B l rm_X9_strolls yX9_strolls cX9_strolls 7 ((some FieldType.int)) false 0 B_X9_strolls_0 := fun p e s m args below meth c D ty ad A n0 φ0 Q G Y hY => (u_aload_n G dX9_strolls_0 rfl (u_iconst G dX9_strolls_1 (by decide) (t_putI G cl_9 (k := 40) (by decide) (Or.inl ⟨rfl, Or.inl q5_56⟩) rfl rfl dX9_strolls_2 (u_iconst G dX9_strolls_5 (by decide) (u_istore_n G dX9_strolls_6 rfl (hY 7))))))
set_option maxRecDepth 100000 in
set_option maxHeartbeats 4000000 in
theorem b_X9_strolls_7 (l : Launch) : s_B l rm_X9_strolls yX9_strolls cX9_strolls 7 ((some FieldType.int)) false 7 B_X9_strolls_7 := fun p e s m args below meth c D ty ad A n0 φ0 Q G Y hY => (u_iload_n G dX9_strolls_7 rfl (u_iload_n G dX9_strolls_8 rfl (u_icmp_ge G dX9_strolls_9 (by decide) (u_iconst G dX9_strolls_112 (by decide) (t_iret G rfl dX9_strolls_113)) (u_aload_n G dX9_strolls_12 rfl (u_iload_n G dX9_strolls_13 rfl (u_iload_n G dX9_strolls_14 rfl (t_callV G cl_9 (m_X9_intAt l) ⟨rfl, rfl⟩ rfl ⟨Nat.le_of_ble_eq_true rfl, Nat.le_of_ble_eq_true rfl⟩ q6_157 q1_10 (Or.inl q6_154) q6_156 qs_69 hd_X9_intAt dX9_strolls_15 (u_istore G dX9_strolls_18 (u_iload G dX9_strolls_20 (u_bipush G dX9_strolls_22 (by decide) (u_idiv G dX9_strolls_24 (u_istore G dX9_strolls_25 (u_iload G dX9_strolls_27 (u_if_lt G dX9_strolls_29 (by decide) (hY 50) (u_iload G dX9_strolls_32 (u_aload_n G dX9_strolls_34 rfl (t_getI G cl_9 (k := 0) (by decide) (Or.inl q5_16) rfl (Or.inl rfl) dX9_strolls_35 (u_icmp_ge G dX9_strolls_38 (by decide) (hY 50) (u_iload G dX9_strolls_41 (u_bipush G dX9_strolls_43 (by decide) (u_irem G dX9_strolls_45 (u_iconst G dX9_strolls_46 (by decide) (u_icmp_le G dX9_strolls_47 (by decide) (u_aload_n G dX9_strolls_54 rfl (u_aload_n G dX9_strolls_55 rfl (t_getR G cl_9 (k := 14) (by decide) (Or.inl q5_30) rfl (Or.inr ⟨_, rfl⟩) dX9_strolls_56 (u_iload G dX9_strolls_59 (t_iald G dX9_strolls_61 (u_iload G dX9_strolls_62 (u_bipush G dX9_strolls_64 (by decide) (u_irem G dX9_strolls_66 (t_callV G cl_9 (m_X9_beside l) ⟨rfl, rfl⟩ rfl ⟨Nat.le_of_ble_eq_true rfl, Nat.le_of_ble_eq_true rfl⟩ q6_125 q1_10 (Or.inl q6_122) q6_124 qs_65 hd_X9_beside dX9_strolls_67 (hY 70)))))))))) (hY 50))))))))))))))))))))))))
set_option maxRecDepth 100000 in
set_option maxHeartbeats 4000000 in
theorem b_X9_strolls_50 (l : Launch) : s_B l rm_X9_strolls yX9_strolls cX9_strolls 7 ((some FieldType.int)) false 50 B_X9_strolls_50 := fun p e s m args below meth c D ty ad A n0 φ0 Q G Y hY => (u_iconst G dX9_strolls_50 (by decide) (t_goto G dX9_strolls_51 (by decide) (hY 70)))
set_option maxRecDepth 100000 in
set_option maxHeartbeats 4000000 in
theorem b_X9_strolls_70 (l : Launch) : s_B l rm_X9_strolls yX9_strolls cX9_strolls 7 ((some FieldType.int)) false 70 B_X9_strolls_70 := fun p e s m args below meth c D ty ad A n0 φ0 Q G Y hY => (u_istore G dX9_strolls_70 (u_iload G dX9_strolls_72 (u_iconst G dX9_strolls_74 (by decide) (u_icmp_eq G dX9_strolls_75 (by decide) (hY 89) (u_aload_n G dX9_strolls_78 rfl (t_getR G cl_9 (k := 16) (by decide) (Or.inl q5_32) rfl (Or.inr ⟨_, rfl⟩) dX9_strolls_79 (u_iload G dX9_strolls_82 (t_iald G dX9_strolls_84 (u_iconst G dX9_strolls_85 (by decide) (u_icmp_ne G dX9_strolls_86 (by decide) (u_aload_n G dX9_strolls_91 rfl (t_getR G cl_9 (k := 14) (by decide) (Or.inl q5_30) rfl (Or.inr ⟨_, rfl⟩) dX9_strolls_92 (u_iload G dX9_strolls_95 (u_iload G dX9_strolls_97 (t_iast G dX9_strolls_99 (u_aload_n G dX9_strolls_100 rfl (u_iload G dX9_strolls_101 (t_callV G cl_9 (m_X9_pays l) ⟨rfl, rfl⟩ rfl ⟨Nat.le_of_ble_eq_true rfl, Nat.le_of_ble_eq_true rfl⟩ q6_189 q1_10 (Or.inl q6_186) q6_188 qs_74 hd_X9_pays dX9_strolls_103 (t_iinc G dX9_strolls_106 (by decide) (t_goto G dX9_strolls_109 (by decide) (hY 7))))))))))) (hY 89)))))))))))
set_option maxRecDepth 100000 in
set_option maxHeartbeats 4000000 in
theorem b_X9_strolls_89 (l : Launch) : s_B l rm_X9_strolls yX9_strolls cX9_strolls 7 ((some FieldType.int)) false 89 B_X9_strolls_89 := fun p e s m args below meth c D ty ad A n0 φ0 Q G Y hY => (u_iload_n G dX9_strolls_89 rfl (t_iret G rfl dX9_strolls_90))
set_option maxRecDepth 100000 in
theorem m_X9_strolls (l : Launch) : s_Met l yX9_strolls cX9_strolls 7 ((some FieldType.int)) rm_X9_strolls false C_X9_strolls := by
  intro D ty ad av φ sz sh me Q hsh hC
  unfold C_X9_strolls at hC
  split at hC
  · exact s_met1 (P := P_X9_strolls) (by decide +kernel) (fun _ => ⟨rfl, rfl⟩) (fun p e s m args below meth c D ty ad A n0 φ0 Q G Y hY => s_tab_T _ (List.forall_mem_cons.mpr ⟨b_X9_strolls_0 l p e s m args below meth c D ty ad A n0 φ0 Q G Y hY, List.forall_mem_cons.mpr ⟨b_X9_strolls_7 l p e s m args below meth c D ty ad A n0 φ0 Q G Y hY, List.forall_mem_cons.mpr ⟨b_X9_strolls_50 l p e s m args below meth c D ty ad A n0 φ0 Q G Y hY, List.forall_mem_cons.mpr ⟨b_X9_strolls_70 l p e s m args below meth c D ty ad A n0 φ0 Q G Y hY, List.forall_mem_cons.mpr ⟨b_X9_strolls_89 l p e s m args below meth c D ty ad A n0 φ0 Q G Y hY, fun _ h => absurd h List.not_mem_nil⟩⟩⟩⟩⟩)) hsh rfl rfl (Nat.le_of_ble_eq_true rfl) hC
  · exact hC.elim
def B_X9_empty_0 (Q : SQ) (nx : Nat → SK) : SK := (o_const (.int 0) (o_istore 1 (o_const (.int 0) (o_istore 2 (nx 4)))))
def B_X9_empty_4 (Q : SQ) (nx : Nat → SK) : SK := (o_iload 2 (o_aload 0 (o_getI 9 0 (o_ic (fun x y => y ≤ x) (o_iload 1 (o_iret Q)) (o_aload 0 (o_getR 9 13 (o_iload 2 (o_iald (o_if (fun x => ¬ x = 0) (nx 24) (o_iinc 1 1 (nx 24)))))))))))
def B_X9_empty_24 (Q : SQ) (nx : Nat → SK) : SK := (o_iinc 2 1 (nx 4))
def P_X9_empty (Q : SQ) (nx : Nat → SK) : Nat → SK := s_tab [(0, B_X9_empty_0 Q nx), (4, B_X9_empty_4 Q nx), (24, B_X9_empty_24 Q nx)]
def C_X9_empty : SC := fun av sh me Q => match av with
  | [.ref a0] => s_wp P_X9_empty Q 0 [some (.ref a0), none, none] [] sh me
  | _ => False
abbrev rm_X9_empty : Room := { frames := 0, cells := 0, slots := 0, locals := 0 }
theorem hd_X9_empty : (yX9_empty).cls ≠ "java/lang/invoke/MethodHandle" ∧ (yX9_empty).cls ≠ "java/lang/invoke/VarHandle" ∧ (parseMethodDescriptor (yX9_empty).desc).map (fun d => d.parameters.length) = some 0 := by decide +kernel
set_option maxRecDepth 100000 in
set_option maxHeartbeats 4000000 in
theorem b_X9_empty_0 (l : Launch) : s_B l rm_X9_empty yX9_empty cX9_empty 3 ((some FieldType.int)) false 0 B_X9_empty_0 := fun p e s m args below meth c D ty ad A n0 φ0 Q G Y hY => (u_iconst G dX9_empty_0 (by decide) (u_istore_n G dX9_empty_1 rfl (u_iconst G dX9_empty_2 (by decide) (u_istore_n G dX9_empty_3 rfl (hY 4)))))
set_option maxRecDepth 100000 in
set_option maxHeartbeats 4000000 in
theorem b_X9_empty_4 (l : Launch) : s_B l rm_X9_empty yX9_empty cX9_empty 3 ((some FieldType.int)) false 4 B_X9_empty_4 := fun p e s m args below meth c D ty ad A n0 φ0 Q G Y hY => (u_iload_n G dX9_empty_4 rfl (u_aload_n G dX9_empty_5 rfl (t_getI G cl_9 (k := 0) (by decide) (Or.inl q5_16) rfl (Or.inl rfl) dX9_empty_6 (u_icmp_ge G dX9_empty_9 (by decide) (u_iload_n G dX9_empty_30 rfl (t_iret G rfl dX9_empty_31)) (u_aload_n G dX9_empty_12 rfl (t_getR G cl_9 (k := 13) (by decide) (Or.inl q5_29) rfl (Or.inr ⟨_, rfl⟩) dX9_empty_13 (u_iload_n G dX9_empty_16 rfl (t_iald G dX9_empty_17 (u_if_ne G dX9_empty_18 (by decide) (hY 24) (t_iinc G dX9_empty_21 (by decide) (hY 24)))))))))))
set_option maxRecDepth 100000 in
set_option maxHeartbeats 4000000 in
theorem b_X9_empty_24 (l : Launch) : s_B l rm_X9_empty yX9_empty cX9_empty 3 ((some FieldType.int)) false 24 B_X9_empty_24 := fun p e s m args below meth c D ty ad A n0 φ0 Q G Y hY => (t_iinc G dX9_empty_24 (by decide) (t_goto G dX9_empty_27 (by decide) (hY 4)))
set_option maxRecDepth 100000 in
theorem m_X9_empty (l : Launch) : s_Met l yX9_empty cX9_empty 3 ((some FieldType.int)) rm_X9_empty false C_X9_empty := by
  intro D ty ad av φ sz sh me Q hsh hC
  unfold C_X9_empty at hC
  split at hC
  · exact s_met1 (P := P_X9_empty) (by decide +kernel) (fun _ => ⟨rfl, rfl⟩) (fun p e s m args below meth c D ty ad A n0 φ0 Q G Y hY => s_tab_T _ (List.forall_mem_cons.mpr ⟨b_X9_empty_0 l p e s m args below meth c D ty ad A n0 φ0 Q G Y hY, List.forall_mem_cons.mpr ⟨b_X9_empty_4 l p e s m args below meth c D ty ad A n0 φ0 Q G Y hY, List.forall_mem_cons.mpr ⟨b_X9_empty_24 l p e s m args below meth c D ty ad A n0 φ0 Q G Y hY, fun _ h => absurd h List.not_mem_nil⟩⟩⟩)) hsh rfl rfl (Nat.le_of_ble_eq_true rfl) hC
  · exact hC.elim
def B_X9_behind_0 (Q : SQ) (nx : Nat → SK) : SK := (o_aload 0 (o_iload 1 (o_iload 2 (o_callV C_X9_barsOf 9 3 (o_istore 4 (o_iload 4 (o_if (fun x => x = 0) (nx 20) (o_iload 4 (o_const (.int (-6)) (o_ic (fun x y => ¬ x = y) (nx 45) (nx 20)))))))))))
def B_X9_behind_20 (Q : SQ) (nx : Nat → SK) : SK := (o_iload 3 (o_if (fun x => x < 0) (nx 41) (o_iload 3 (o_const (.int 2) (o_ic (fun x y => y < x) (nx 41) (o_iload 3 (o_const (.int 1) (o_ic (fun x y => ¬ x = y) (nx 45) (o_aload 0 (o_getI 9 0 (o_if (fun x => ¬ x = 0) (nx 45) (nx 41))))))))))))
def B_X9_behind_41 (Q : SQ) (nx : Nat → SK) : SK := (o_const (.int (-5)) (o_istore 4 (nx 45)))
def B_X9_behind_45 (Q : SQ) (nx : Nat → SK) : SK := (o_iload 4 (o_if (fun x => x = 0) (o_aload 0 (o_aload 0 (o_getR 9 35 (o_const (.int 0) (o_callV C_X9_carriesAll 9 3 (o_aload 0 (o_iload 1 (o_iload 2 (o_callV C_X9_strolls 9 3 (o_istore 5 (o_iload 3 (o_if (fun x => ¬ x = 0) (o_iload 3 (o_const (.int 1) (o_ic (fun x y => ¬ x = y) (o_aload 0 (o_callV C_X9_empty 9 1 (nx 103))) (o_aload 0 (o_getR 9 14 (o_const (.int 0) (o_iald (nx 103)))))))) (o_aload 0 (o_getI 9 40 (nx 103))))))))))))))) (o_aload 0 (o_iload 4 (o_callV C_X9_no 9 2 (o_iret Q))))))
def B_X9_behind_103 (Q : SQ) (nx : Nat → SK) : SK := (o_istore 6 (o_aload 0 (o_aload 0 (o_getR 9 35 (o_const (.int 1) (o_callV C_X9_carriesAll 9 3 (o_iload 5 (o_const (.int (-1)) (o_ic (fun x y => ¬ x = y) (o_aload 0 (o_const (.int (-6)) (o_callV C_X9_no 9 2 (nx 131)))) (o_iload 6 (nx 131)))))))))))
def B_X9_behind_131 (Q : SQ) (nx : Nat → SK) : SK := (o_iret Q)
def P_X9_behind (Q : SQ) (nx : Nat → SK) : Nat → SK := s_tab [(0, B_X9_behind_0 Q nx), (20, B_X9_behind_20 Q nx), (41, B_X9_behind_41 Q nx), (45, B_X9_behind_45 Q nx), (103, B_X9_behind_103 Q nx), (131, B_X9_behind_131 Q nx)]
def C_X9_behind : SC := fun av sh me Q => match av with
  | [.ref a0, .int a1, .int a2, .int a3] => s_wp P_X9_behind Q 0 [some (.ref a0), some (.int a1), some (.int a2), some (.int a3), none, none, none] [] sh me
  | _ => False
abbrev rm_X9_behind : Room := { frames := 8, cells := 0, slots := 0, locals := 191 }
theorem hd_X9_behind : (yX9_behind).cls ≠ "java/lang/invoke/MethodHandle" ∧ (yX9_behind).cls ≠ "java/lang/invoke/VarHandle" ∧ (parseMethodDescriptor (yX9_behind).desc).map (fun d => d.parameters.length) = some 3 := by decide +kernel
set_option maxRecDepth 100000 in
set_option maxHeartbeats 4000000 in
theorem b_X9_behind_0 (l : Launch) : s_B l rm_X9_behind yX9_behind cX9_behind 7 ((some FieldType.int)) false 0 B_X9_behind_0 := fun p e s m args below meth c D ty ad A n0 φ0 Q G Y hY => (u_aload_n G dX9_behind_0 rfl (u_iload_n G dX9_behind_1 rfl (u_iload_n G dX9_behind_2 rfl (t_callV G cl_9 (m_X9_barsOf l) ⟨rfl, rfl⟩ rfl ⟨Nat.le_of_ble_eq_true rfl, Nat.le_of_ble_eq_true rfl⟩ q6_181 q1_10 (Or.inl q6_178) q6_180 qs_72 hd_X9_barsOf dX9_behind_3 (u_istore G dX9_behind_6 (u_iload G dX9_behind_8 (u_if_eq G dX9_behind_10 (by decide) (hY 20) (u_iload G dX9_behind_13 (u_bipush G dX9_behind_15 (by decide) (u_icmp_ne G dX9_behind_17 (by decide) (hY 45) (hY 20)))))))))))
set_option maxRecDepth 100000 in
set_option maxHeartbeats 4000000 in
theorem b_X9_behind_20 (l : Launch) : s_B l rm_X9_behind yX9_behind cX9_behind 7 ((some FieldType.int)) false 20 B_X9_behind_20 := fun p e s m args below meth c D ty ad A n0 φ0 Q G Y hY => (u_iload_n G dX9_behind_20 rfl (u_if_lt G dX9_behind_21 (by decide) (hY 41) (u_iload_n G dX9_behind_24 rfl (u_iconst G dX9_behind_25 (by decide) (u_icmp_gt G dX9_behind_26 (by decide) (hY 41) (u_iload_n G dX9_behind_29 rfl (u_iconst G dX9_behind_30 (by decide) (u_icmp_ne G dX9_behind_31 (by decide) (hY 45) (u_aload_n G dX9_behind_34 rfl (t_getI G cl_9 (k := 0) (by decide) (Or.inl q5_16) rfl (Or.inl rfl) dX9_behind_35 (u_if_ne G dX9_behind_38 (by decide) (hY 45) (hY 41))))))))))))
set_option maxRecDepth 100000 in
set_option maxHeartbeats 4000000 in
theorem b_X9_behind_41 (l : Launch) : s_B l rm_X9_behind yX9_behind cX9_behind 7 ((some FieldType.int)) false 41 B_X9_behind_41 := fun p e s m args below meth c D ty ad A n0 φ0 Q G Y hY => (u_bipush G dX9_behind_41 (by decide) (u_istore G dX9_behind_43 (hY 45)))
set_option maxRecDepth 100000 in
set_option maxHeartbeats 4000000 in
theorem b_X9_behind_45 (l : Launch) : s_B l rm_X9_behind yX9_behind cX9_behind 7 ((some FieldType.int)) false 45 B_X9_behind_45 := fun p e s m args below meth c D ty ad A n0 φ0 Q G Y hY => (u_iload G dX9_behind_45 (u_if_eq G dX9_behind_47 (by decide) (u_aload_n G dX9_behind_57 rfl (u_aload_n G dX9_behind_58 rfl (t_getR G cl_9 (k := 35) (by decide) (Or.inl q5_51) rfl (Or.inr ⟨_, rfl⟩) dX9_behind_59 (u_iconst G dX9_behind_62 (by decide) (t_callV G cl_9 (m_X9_carriesAll l) ⟨rfl, rfl⟩ rfl ⟨Nat.le_of_ble_eq_true rfl, Nat.le_of_ble_eq_true rfl⟩ q6_16 q1_10 (Or.inl q6_13) q6_15 qs_44 hd_X9_carriesAll dX9_behind_63 (u_aload_n G dX9_behind_66 rfl (u_iload_n G dX9_behind_67 rfl (u_iload_n G dX9_behind_68 rfl (t_callV G cl_9 (m_X9_strolls l) ⟨rfl, rfl⟩ rfl ⟨Nat.le_of_ble_eq_true rfl, Nat.le_of_ble_eq_true rfl⟩ q6_185 q1_10 (Or.inl q6_182) q6_184 qs_73 hd_X9_strolls dX9_behind_69 (u_istore G dX9_behind_72 (u_iload_n G dX9_behind_74 rfl (u_if_ne G dX9_behind_75 (by decide) (u_iload_n G dX9_behind_85 rfl (u_iconst G dX9_behind_86 (by decide) (u_icmp_ne G dX9_behind_87 (by decide) (u_aload_n G dX9_behind_99 rfl (t_callV G cl_9 (m_X9_empty l) ⟨rfl, rfl⟩ rfl ⟨Nat.le_of_ble_eq_true rfl, Nat.le_of_ble_eq_true rfl⟩ q6_197 q1_10 (Or.inl q6_194) q6_196 qs_75 hd_X9_empty dX9_behind_100 (hY 103))) (u_aload_n G dX9_behind_90 rfl (t_getR G cl_9 (k := 14) (by decide) (Or.inl q5_30) rfl (Or.inr ⟨_, rfl⟩) dX9_behind_91 (u_iconst G dX9_behind_94 (by decide) (t_iald G dX9_behind_95 (t_goto G dX9_behind_96 (by decide) (hY 103))))))))) (u_aload_n G dX9_behind_78 rfl (t_getI G cl_9 (k := 40) (by decide) (Or.inl q5_56) rfl (Or.inl rfl) dX9_behind_79 (t_goto G dX9_behind_82 (by decide) (hY 103)))))))))))))))) (u_aload_n G dX9_behind_50 rfl (u_iload G dX9_behind_51 (t_callV G cl_9 (m_X9_no l) ⟨rfl, rfl⟩ rfl ⟨Nat.le_of_ble_eq_true rfl, Nat.le_of_ble_eq_true rfl⟩ q5_160 q1_10 (Or.inl q5_157) q5_159 qs_34 hd_X9_no dX9_behind_53 (t_iret G rfl dX9_behind_56))))))
set_option maxRecDepth 100000 in
set_option maxHeartbeats 4000000 in
theorem b_X9_behind_103 (l : Launch) : s_B l rm_X9_behind yX9_behind cX9_behind 7 ((some FieldType.int)) false 103 B_X9_behind_103 := fun p e s m args below meth c D ty ad A n0 φ0 Q G Y hY => (u_istore G dX9_behind_103 (u_aload_n G dX9_behind_105 rfl (u_aload_n G dX9_behind_106 rfl (t_getR G cl_9 (k := 35) (by decide) (Or.inl q5_51) rfl (Or.inr ⟨_, rfl⟩) dX9_behind_107 (u_iconst G dX9_behind_110 (by decide) (t_callV G cl_9 (m_X9_carriesAll l) ⟨rfl, rfl⟩ rfl ⟨Nat.le_of_ble_eq_true rfl, Nat.le_of_ble_eq_true rfl⟩ q6_16 q1_10 (Or.inl q6_13) q6_15 qs_44 hd_X9_carriesAll dX9_behind_111 (u_iload G dX9_behind_114 (u_iconst G dX9_behind_116 (by decide) (u_icmp_ne G dX9_behind_117 (by decide) (u_aload_n G dX9_behind_125 rfl (u_bipush G dX9_behind_126 (by decide) (t_callV G cl_9 (m_X9_no l) ⟨rfl, rfl⟩ rfl ⟨Nat.le_of_ble_eq_true rfl, Nat.le_of_ble_eq_true rfl⟩ q5_160 q1_10 (Or.inl q5_157) q5_159 qs_34 hd_X9_no dX9_behind_128 (hY 131)))) (u_iload G dX9_behind_120 (t_goto G dX9_behind_122 (by decide) (hY 131))))))))))))
set_option maxRecDepth 100000 in
set_option maxHeartbeats 4000000 in
theorem b_X9_behind_131 (l : Launch) : s_B l rm_X9_behind yX9_behind cX9_behind 7 ((some FieldType.int)) false 131 B_X9_behind_131 := fun p e s m args below meth c D ty ad A n0 φ0 Q G Y hY => (t_iret G rfl dX9_behind_131)
set_option maxRecDepth 100000 in
theorem m_X9_behind (l : Launch) : s_Met l yX9_behind cX9_behind 7 ((some FieldType.int)) rm_X9_behind false C_X9_behind := by
  intro D ty ad av φ sz sh me Q hsh hC
  unfold C_X9_behind at hC
  split at hC
  · exact s_met1 (P := P_X9_behind) (by decide +kernel) (fun _ => ⟨rfl, rfl⟩) (fun p e s m args below meth c D ty ad A n0 φ0 Q G Y hY => s_tab_T _ (List.forall_mem_cons.mpr ⟨b_X9_behind_0 l p e s m args below meth c D ty ad A n0 φ0 Q G Y hY, List.forall_mem_cons.mpr ⟨b_X9_behind_20 l p e s m args below meth c D ty ad A n0 φ0 Q G Y hY, List.forall_mem_cons.mpr ⟨b_X9_behind_41 l p e s m args below meth c D ty ad A n0 φ0 Q G Y hY, List.forall_mem_cons.mpr ⟨b_X9_behind_45 l p e s m args below meth c D ty ad A n0 φ0 Q G Y hY, List.forall_mem_cons.mpr ⟨b_X9_behind_103 l p e s m args below meth c D ty ad A n0 φ0 Q G Y hY, List.forall_mem_cons.mpr ⟨b_X9_behind_131 l p e s m args below meth c D ty ad A n0 φ0 Q G Y hY, fun _ h => absurd h List.not_mem_nil⟩⟩⟩⟩⟩⟩)) hsh rfl rfl (Nat.le_of_ble_eq_true rfl) hC
  · exact hC.elim
def B_X9_isSquare_0 (Q : SQ) (nx : Nat → SK) : SK := (o_iload 1 (o_if (fun x => x < 0) (nx 14) (o_iload 1 (o_const (.int 36) (o_ic (fun x y => y ≤ x) (nx 14) (o_const (.int 1) (nx 15)))))))
def B_X9_isSquare_14 (Q : SQ) (nx : Nat → SK) : SK := (o_const (.int 0) (nx 15))
def B_X9_isSquare_15 (Q : SQ) (nx : Nat → SK) : SK := (o_zret Q)
def P_X9_isSquare (Q : SQ) (nx : Nat → SK) : Nat → SK := s_tab [(0, B_X9_isSquare_0 Q nx), (14, B_X9_isSquare_14 Q nx), (15, B_X9_isSquare_15 Q nx)]
def C_X9_isSquare : SC := fun av sh me Q => match av with
  | [.ref a0, .int a1] => s_wp P_X9_isSquare Q 0 [some (.ref a0), some (.int a1)] [] sh me
  | _ => False
abbrev rm_X9_isSquare : Room := { frames := 0, cells := 0, slots := 0, locals := 0 }
theorem hd_X9_isSquare : (yX9_isSquare).cls ≠ "java/lang/invoke/MethodHandle" ∧ (yX9_isSquare).cls ≠ "java/lang/invoke/VarHandle" ∧ (parseMethodDescriptor (yX9_isSquare).desc).map (fun d => d.parameters.length) = some 1 := by decide +kernel
set_option maxRecDepth 100000 in
set_option maxHeartbeats 4000000 in
theorem b_X9_isSquare_0 (l : Launch) : s_B l rm_X9_isSquare yX9_isSquare cX9_isSquare 2 ((some FieldType.boolean)) false 0 B_X9_isSquare_0 := fun p e s m args below meth c D ty ad A n0 φ0 Q G Y hY => (u_iload_n G dX9_isSquare_0 rfl (u_if_lt G dX9_isSquare_1 (by decide) (hY 14) (u_iload_n G dX9_isSquare_4 rfl (u_bipush G dX9_isSquare_5 (by decide) (u_icmp_ge G dX9_isSquare_7 (by decide) (hY 14) (u_iconst G dX9_isSquare_10 (by decide) (t_goto G dX9_isSquare_11 (by decide) (hY 15))))))))
set_option maxRecDepth 100000 in
set_option maxHeartbeats 4000000 in
theorem b_X9_isSquare_14 (l : Launch) : s_B l rm_X9_isSquare yX9_isSquare cX9_isSquare 2 ((some FieldType.boolean)) false 14 B_X9_isSquare_14 := fun p e s m args below meth c D ty ad A n0 φ0 Q G Y hY => (u_iconst G dX9_isSquare_14 (by decide) (hY 15))
set_option maxRecDepth 100000 in
set_option maxHeartbeats 4000000 in
theorem b_X9_isSquare_15 (l : Launch) : s_B l rm_X9_isSquare yX9_isSquare cX9_isSquare 2 ((some FieldType.boolean)) false 15 B_X9_isSquare_15 := fun p e s m args below meth c D ty ad A n0 φ0 Q G Y hY => (t_zret G rfl dX9_isSquare_15)
set_option maxRecDepth 100000 in
theorem m_X9_isSquare (l : Launch) : s_Met l yX9_isSquare cX9_isSquare 2 ((some FieldType.boolean)) rm_X9_isSquare false C_X9_isSquare := by
  intro D ty ad av φ sz sh me Q hsh hC
  unfold C_X9_isSquare at hC
  split at hC
  · exact s_met1 (P := P_X9_isSquare) (by decide +kernel) (fun _ => ⟨rfl, rfl⟩) (fun p e s m args below meth c D ty ad A n0 φ0 Q G Y hY => s_tab_T _ (List.forall_mem_cons.mpr ⟨b_X9_isSquare_0 l p e s m args below meth c D ty ad A n0 φ0 Q G Y hY, List.forall_mem_cons.mpr ⟨b_X9_isSquare_14 l p e s m args below meth c D ty ad A n0 φ0 Q G Y hY, List.forall_mem_cons.mpr ⟨b_X9_isSquare_15 l p e s m args below meth c D ty ad A n0 φ0 Q G Y hY, fun _ h => absurd h List.not_mem_nil⟩⟩⟩)) hsh rfl rfl (Nat.le_of_ble_eq_true rfl) hC
  · exact hC.elim
def B_X9_thereAt_0 (Q : SQ) (nx : Nat → SK) : SK := (o_const (.int 0) (o_istore 2 (o_const (.int 0) (o_istore 3 (nx 4)))))
def B_X9_thereAt_4 (Q : SQ) (nx : Nat → SK) : SK := (o_iload 3 (o_aload 0 (o_getI 9 0 (o_ic (fun x y => y ≤ x) (o_iload 2 (o_iret Q)) (o_aload 0 (o_getR 9 14 (o_iload 3 (o_iald (o_iload 1 (o_ic (fun x y => ¬ x = y) (nx 28) (o_iload 2 (o_const (.int 1) (o_iload 3 (o_i2 (fun x y => x <<< (y &&& 31)) (o_i2 (fun x y => x + y) (o_istore 2 (nx 28)))))))))))))))))
def B_X9_thereAt_28 (Q : SQ) (nx : Nat → SK) : SK := (o_iinc 3 1 (nx 4))
def P_X9_thereAt (Q : SQ) (nx : Nat → SK) : Nat → SK := s_tab [(0, B_X9_thereAt_0 Q nx), (4, B_X9_thereAt_4 Q nx), (28, B_X9_thereAt_28 Q nx)]
def C_X9_thereAt : SC := fun av sh me Q => match av with
  | [.ref a0, .int a1] => s_wp P_X9_thereAt Q 0 [some (.ref a0), some (.int a1), none, none] [] sh me
  | _ => False
abbrev rm_X9_thereAt : Room := { frames := 0, cells := 0, slots := 0, locals := 0 }
theorem hd_X9_thereAt : (yX9_thereAt).cls ≠ "java/lang/invoke/MethodHandle" ∧ (yX9_thereAt).cls ≠ "java/lang/invoke/VarHandle" ∧ (parseMethodDescriptor (yX9_thereAt).desc).map (fun d => d.parameters.length) = some 1 := by decide +kernel
set_option maxRecDepth 100000 in
set_option maxHeartbeats 4000000 in
theorem b_X9_thereAt_0 (l : Launch) : s_B l rm_X9_thereAt yX9_thereAt cX9_thereAt 4 ((some FieldType.int)) false 0 B_X9_thereAt_0 := fun p e s m args below meth c D ty ad A n0 φ0 Q G Y hY => (u_iconst G dX9_thereAt_0 (by decide) (u_istore_n G dX9_thereAt_1 rfl (u_iconst G dX9_thereAt_2 (by decide) (u_istore_n G dX9_thereAt_3 rfl (hY 4)))))
set_option maxRecDepth 100000 in
set_option maxHeartbeats 4000000 in
theorem b_X9_thereAt_4 (l : Launch) : s_B l rm_X9_thereAt yX9_thereAt cX9_thereAt 4 ((some FieldType.int)) false 4 B_X9_thereAt_4 := fun p e s m args below meth c D ty ad A n0 φ0 Q G Y hY => (u_iload_n G dX9_thereAt_4 rfl (u_aload_n G dX9_thereAt_5 rfl (t_getI G cl_9 (k := 0) (by decide) (Or.inl q5_16) rfl (Or.inl rfl) dX9_thereAt_6 (u_icmp_ge G dX9_thereAt_9 (by decide) (u_iload_n G dX9_thereAt_34 rfl (t_iret G rfl dX9_thereAt_35)) (u_aload_n G dX9_thereAt_12 rfl (t_getR G cl_9 (k := 14) (by decide) (Or.inl q5_30) rfl (Or.inr ⟨_, rfl⟩) dX9_thereAt_13 (u_iload_n G dX9_thereAt_16 rfl (t_iald G dX9_thereAt_17 (u_iload_n G dX9_thereAt_18 rfl (u_icmp_ne G dX9_thereAt_19 (by decide) (hY 28) (u_iload_n G dX9_thereAt_22 rfl (u_iconst G dX9_thereAt_23 (by decide) (u_iload_n G dX9_thereAt_24 rfl (u_ishl G dX9_thereAt_25 (u_iadd G dX9_thereAt_26 (u_istore_n G dX9_thereAt_27 rfl (hY 28)))))))))))))))))
set_option maxRecDepth 100000 in
set_option maxHeartbeats 4000000 in
theorem b_X9_thereAt_28 (l : Launch) : s_B l rm_X9_thereAt yX9_thereAt cX9_thereAt 4 ((some FieldType.int)) false 28 B_X9_thereAt_28 := fun p e s m args below meth c D ty ad A n0 φ0 Q G Y hY => (t_iinc G dX9_thereAt_28 (by decide) (t_goto G dX9_thereAt_31 (by decide) (hY 4)))
set_option maxRecDepth 100000 in
theorem m_X9_thereAt (l : Launch) : s_Met l yX9_thereAt cX9_thereAt 4 ((some FieldType.int)) rm_X9_thereAt false C_X9_thereAt := by
  intro D ty ad av φ sz sh me Q hsh hC
  unfold C_X9_thereAt at hC
  split at hC
  · exact s_met1 (P := P_X9_thereAt) (by decide +kernel) (fun _ => ⟨rfl, rfl⟩) (fun p e s m args below meth c D ty ad A n0 φ0 Q G Y hY => s_tab_T _ (List.forall_mem_cons.mpr ⟨b_X9_thereAt_0 l p e s m args below meth c D ty ad A n0 φ0 Q G Y hY, List.forall_mem_cons.mpr ⟨b_X9_thereAt_4 l p e s m args below meth c D ty ad A n0 φ0 Q G Y hY, List.forall_mem_cons.mpr ⟨b_X9_thereAt_28 l p e s m args below meth c D ty ad A n0 φ0 Q G Y hY, fun _ h => absurd h List.not_mem_nil⟩⟩⟩)) hsh rfl rfl (Nat.le_of_ble_eq_true rfl) hC
  · exact hC.elim
def B_X9_build_0 (Q : SQ) (nx : Nat → SK) : SK := (o_aload 0 (o_iload 1 (o_callV C_X9_isSquare 9 2 (o_if (fun x => x = 0) (nx 33) (o_iload 2 (o_if (fun x => x < 0) (nx 33) (o_iload 2 (o_const (.int 1) (o_ic (fun x y => y < x) (nx 33) (o_iload 2 (o_if (fun x => ¬ x = 0) (nx 40) (o_iload 3 (o_if (fun x => x = 0) (nx 40) (o_aload 0 (o_iload 1 (o_callV C_X9_thereAt 9 2 (o_if (fun x => x = 0) (nx 40) (nx 33))))))))))))))))))
def B_X9_build_33 (Q : SQ) (nx : Nat → SK) : SK := (o_aload 0 (o_const (.int (-6)) (o_callV C_X9_no 9 2 (o_iret Q))))
def B_X9_build_40 (Q : SQ) (nx : Nat → SK) : SK := (o_iload 2 (o_if (fun x => ¬ x = 0) (o_aload 0 (o_getR 9 17 (o_iload 1 (o_iald (nx 59))))) (o_aload 0 (o_getR 9 16 (o_iload 1 (o_iald (nx 59)))))))
def B_X9_build_59 (Q : SQ) (nx : Nat → SK) : SK := (o_istore 4 (o_iload 2 (o_if (fun x => ¬ x = 0) (o_aload 0 (o_getR 9 17 (o_iload 1 (o_iload 3 (o_if (fun x => x = 0) (o_const (.int 0) (nx 97)) (o_const (.int 1) (nx 97))))))) (o_aload 0 (o_getR 9 16 (o_iload 1 (o_iload 3 (o_if (fun x => x = 0) (o_const (.int 0) (nx 79)) (o_const (.int 1) (nx 79))))))))))
def B_X9_build_79 (Q : SQ) (nx : Nat → SK) : SK := (o_iast (nx 98))
def B_X9_build_97 (Q : SQ) (nx : Nat → SK) : SK := (o_iast (nx 98))
def B_X9_build_98 (Q : SQ) (nx : Nat → SK) : SK := (o_iload 4 (o_iret Q))
def P_X9_build (Q : SQ) (nx : Nat → SK) : Nat → SK := s_tab [(0, B_X9_build_0 Q nx), (33, B_X9_build_33 Q nx), (40, B_X9_build_40 Q nx), (59, B_X9_build_59 Q nx), (79, B_X9_build_79 Q nx), (97, B_X9_build_97 Q nx), (98, B_X9_build_98 Q nx)]
def C_X9_build : SC := fun av sh me Q => match av with
  | [.ref a0, .int a1, .int a2, .int a3] => s_wp P_X9_build Q 0 [some (.ref a0), some (.int a1), some (.int a2), some (.int a3), none] [] sh me
  | _ => False
abbrev rm_X9_build : Room := { frames := 1, cells := 0, slots := 0, locals := 23 }
theorem hd_X9_build : (yX9_build).cls ≠ "java/lang/invoke/MethodHandle" ∧ (yX9_build).cls ≠ "java/lang/invoke/VarHandle" ∧ (parseMethodDescriptor (yX9_build).desc).map (fun d => d.parameters.length) = some 3 := by decide +kernel
set_option maxRecDepth 100000 in
set_option maxHeartbeats 4000000 in
theorem b_X9_build_0 (l : Launch) : s_B l rm_X9_build yX9_build cX9_build 5 ((some FieldType.int)) false 0 B_X9_build_0 := fun p e s m args below meth c D ty ad A n0 φ0 Q G Y hY => (u_aload_n G dX9_build_0 rfl (u_iload_n G dX9_build_1 rfl (t_callV G cl_9 (m_X9_isSquare l) ⟨rfl, rfl⟩ rfl ⟨Nat.le_of_ble_eq_true rfl, Nat.le_of_ble_eq_true rfl⟩ q5_204 q1_10 (Or.inl q5_201) q5_203 qs_38 hd_X9_isSquare dX9_build_2 (u_if_eq G dX9_build_5 (by decide) (hY 33) (u_iload_n G dX9_build_8 rfl (u_if_lt G dX9_build_9 (by decide) (hY 33) (u_iload_n G dX9_build_12 rfl (u_iconst G dX9_build_13 (by decide) (u_icmp_gt G dX9_build_14 (by decide) (hY 33) (u_iload_n G dX9_build_17 rfl (u_if_ne G dX9_build_18 (by decide) (hY 40) (u_iload_n G dX9_build_21 rfl (u_if_eq G dX9_build_22 (by decide) (hY 40) (u_aload_n G dX9_build_25 rfl (u_iload_n G dX9_build_26 rfl (t_callV G cl_9 (m_X9_thereAt l) ⟨rfl, rfl⟩ rfl ⟨Nat.le_of_ble_eq_true rfl, Nat.le_of_ble_eq_true rfl⟩ q5_216 q1_10 (Or.inl q5_213) q5_215 qs_40 hd_X9_thereAt dX9_build_27 (u_if_eq G dX9_build_30 (by decide) (hY 40) (hY 33))))))))))))))))))
set_option maxRecDepth 100000 in
set_option maxHeartbeats 4000000 in
theorem b_X9_build_33 (l : Launch) : s_B l rm_X9_build yX9_build cX9_build 5 ((some FieldType.int)) false 33 B_X9_build_33 := fun p e s m args below meth c D ty ad A n0 φ0 Q G Y hY => (u_aload_n G dX9_build_33 rfl (u_bipush G dX9_build_34 (by decide) (t_callV G cl_9 (m_X9_no l) ⟨rfl, rfl⟩ rfl ⟨Nat.le_of_ble_eq_true rfl, Nat.le_of_ble_eq_true rfl⟩ q5_160 q1_10 (Or.inl q5_157) q5_159 qs_34 hd_X9_no dX9_build_36 (t_iret G rfl dX9_build_39))))
set_option maxRecDepth 100000 in
set_option maxHeartbeats 4000000 in
theorem b_X9_build_40 (l : Launch) : s_B l rm_X9_build yX9_build cX9_build 5 ((some FieldType.int)) false 40 B_X9_build_40 := fun p e s m args below meth c D ty ad A n0 φ0 Q G Y hY => (u_iload_n G dX9_build_40 rfl (u_if_ne G dX9_build_41 (by decide) (u_aload_n G dX9_build_53 rfl (t_getR G cl_9 (k := 17) (by decide) (Or.inl q5_33) rfl (Or.inr ⟨_, rfl⟩) dX9_build_54 (u_iload_n G dX9_build_57 rfl (t_iald G dX9_build_58 (hY 59))))) (u_aload_n G dX9_build_44 rfl (t_getR G cl_9 (k := 16) (by decide) (Or.inl q5_32) rfl (Or.inr ⟨_, rfl⟩) dX9_build_45 (u_iload_n G dX9_build_48 rfl (t_iald G dX9_build_49 (t_goto G dX9_build_50 (by decide) (hY 59))))))))
set_option maxRecDepth 100000 in
set_option maxHeartbeats 4000000 in
theorem b_X9_build_59 (l : Launch) : s_B l rm_X9_build yX9_build cX9_build 5 ((some FieldType.int)) false 59 B_X9_build_59 := fun p e s m args below meth c D ty ad A n0 φ0 Q G Y hY => (u_istore G dX9_build_59 (u_iload_n G dX9_build_61 rfl (u_if_ne G dX9_build_62 (by decide) (u_aload_n G dX9_build_83 rfl (t_getR G cl_9 (k := 17) (by decide) (Or.inl q5_33) rfl (Or.inr ⟨_, rfl⟩) dX9_build_84 (u_iload_n G dX9_build_87 rfl (u_iload_n G dX9_build_88 rfl (u_if_eq G dX9_build_89 (by decide) (u_iconst G dX9_build_96 (by decide) (hY 97)) (u_iconst G dX9_build_92 (by decide) (t_goto G dX9_build_93 (by decide) (hY 97)))))))) (u_aload_n G dX9_build_65 rfl (t_getR G cl_9 (k := 16) (by decide) (Or.inl q5_32) rfl (Or.inr ⟨_, rfl⟩) dX9_build_66 (u_iload_n G dX9_build_69 rfl (u_iload_n G dX9_build_70 rfl (u_if_eq G dX9_build_71 (by decide) (u_iconst G dX9_build_78 (by decide) (hY 79)) (u_iconst G dX9_build_74 (by decide) (t_goto G dX9_build_75 (by decide) (hY 79)))))))))))
set_option maxRecDepth 100000 in
set_option maxHeartbeats 4000000 in
theorem b_X9_build_79 (l : Launch) : s_B l rm_X9_build yX9_build cX9_build 5 ((some FieldType.int)) false 79 B_X9_build_79 := fun p e s m args below meth c D ty ad A n0 φ0 Q G Y hY => (t_iast G dX9_build_79 (t_goto G dX9_build_80 (by decide) (hY 98)))
set_option maxRecDepth 100000 in
set_option maxHeartbeats 4000000 in
theorem b_X9_build_97 (l : Launch) : s_B l rm_X9_build yX9_build cX9_build 5 ((some FieldType.int)) false 97 B_X9_build_97 := fun p e s m args below meth c D ty ad A n0 φ0 Q G Y hY => (t_iast G dX9_build_97 (hY 98))
set_option maxRecDepth 100000 in
set_option maxHeartbeats 4000000 in
theorem b_X9_build_98 (l : Launch) : s_B l rm_X9_build yX9_build cX9_build 5 ((some FieldType.int)) false 98 B_X9_build_98 := fun p e s m args below meth c D ty ad A n0 φ0 Q G Y hY => (u_iload G dX9_build_98 (t_iret G rfl dX9_build_100))
set_option maxRecDepth 100000 in
theorem m_X9_build (l : Launch) : s_Met l yX9_build cX9_build 5 ((some FieldType.int)) rm_X9_build false C_X9_build := by
  intro D ty ad av φ sz sh me Q hsh hC
  unfold C_X9_build at hC
  split at hC
  · exact s_met1 (P := P_X9_build) (by decide +kernel) (fun _ => ⟨rfl, rfl⟩) (fun p e s m args below meth c D ty ad A n0 φ0 Q G Y hY => s_tab_T _ (List.forall_mem_cons.mpr ⟨b_X9_build_0 l p e s m args below meth c D ty ad A n0 φ0 Q G Y hY, List.forall_mem_cons.mpr ⟨b_X9_build_33 l p e s m args below meth c D ty ad A n0 φ0 Q G Y hY, List.forall_mem_cons.mpr ⟨b_X9_build_40 l p e s m args below meth c D ty ad A n0 φ0 Q G Y hY, List.forall_mem_cons.mpr ⟨b_X9_build_59 l p e s m args below meth c D ty ad A n0 φ0 Q G Y hY, List.forall_mem_cons.mpr ⟨b_X9_build_79 l p e s m args below meth c D ty ad A n0 φ0 Q G Y hY, List.forall_mem_cons.mpr ⟨b_X9_build_97 l p e s m args below meth c D ty ad A n0 φ0 Q G Y hY, List.forall_mem_cons.mpr ⟨b_X9_build_98 l p e s m args below meth c D ty ad A n0 φ0 Q G Y hY, fun _ h => absurd h List.not_mem_nil⟩⟩⟩⟩⟩⟩⟩)) hsh rfl rfl (Nat.le_of_ble_eq_true rfl) hC
  · exact hC.elim
def B_X9_copy_0 (Q : SQ) (nx : Nat → SK) : SK := (o_aload 0 (o_iload 1 (o_callV C_X9_isShelf 9 2 (o_if (fun x => x = 0) (nx 16) (o_aload 0 (o_iload 2 (o_callV C_X9_isShelf 9 2 (o_if (fun x => ¬ x = 0) (o_aload 0 (o_getR 9 18 (o_iload 1 (o_iald (o_const (.int 2) (o_ic (fun x y => x = y) (nx 77) (o_aload 0 (o_getR 9 18 (o_iload 2 (o_iald (o_const (.int 2) (o_ic (fun x y => x = y) (nx 77) (o_aload 0 (o_getR 9 18 (o_iload 1 (o_iald (o_const (.int 1) (o_ic (fun x y => ¬ x = y) (nx 84) (o_aload 0 (o_getR 9 18 (o_iload 2 (o_iald (o_const (.int 1) (o_ic (fun x y => ¬ x = y) (nx 84) (o_aload 0 (o_getR 9 19 (o_iload 1 (o_iald (o_aload 0 (o_getR 9 19 (o_iload 2 (o_iald (o_ic (fun x y => x = y) (nx 84) (nx 77)))))))))))))))))))))))))))))))))) (nx 16)))))))))
def B_X9_copy_16 (Q : SQ) (nx : Nat → SK) : SK := (o_aload 0 (o_const (.int (-1)) (o_callV C_X9_no 9 2 (o_iret Q))))
def B_X9_copy_77 (Q : SQ) (nx : Nat → SK) : SK := (o_aload 0 (o_const (.int (-2)) (o_callV C_X9_no 9 2 (o_iret Q))))
def B_X9_copy_84 (Q : SQ) (nx : Nat → SK) : SK := (o_aload 0 (o_getR 9 18 (o_iload 1 (o_iald (o_if (fun x => x = 0) (nx 102) (o_aload 0 (o_getR 9 18 (o_iload 2 (o_iald (o_if (fun x => ¬ x = 0) (o_iload 5 (o_if (fun x => 0 ≤ x) (o_iload 3 (o_if (fun x => x < 0) (nx 157) (o_iload 4 (o_if (fun x => x < 0) (nx 157) (o_iload 3 (o_aload 0 (o_getR 9 20 (o_iload 1 (o_iald (o_iload 5 (o_i2 (fun x y => x - y) (o_ic (fun x y => y < x) (nx 157) (o_iload 4 (o_aload 0 (o_getR 9 20 (o_iload 2 (o_iald (o_iload 5 (o_i2 (fun x y => x - y) (o_ic (fun x y => x ≤ y) (o_const (.int 0) (o_istore 6 (nx 167))) (nx 157))))))))))))))))))))) (o_aload 0 (o_const (.int (-4)) (o_callV C_X9_no 9 2 (o_iret Q)))))) (nx 102)))))))))))
def B_X9_copy_102 (Q : SQ) (nx : Nat → SK) : SK := (o_aload 0 (o_const (.int (-3)) (o_callV C_X9_no 9 2 (o_iret Q))))
def B_X9_copy_157 (Q : SQ) (nx : Nat → SK) : SK := (o_aload 0 (o_const (.int (-5)) (o_callV C_X9_no 9 2 (o_iret Q))))
def B_X9_copy_167 (Q : SQ) (nx : Nat → SK) : SK := (o_iload 6 (o_iload 5 (o_ic (fun x y => y ≤ x) (o_const (.int 0) (o_istore 6 (nx 205))) (o_aload 0 (o_getR 9 23 (o_iload 6 (o_aload 0 (o_getR 9 22 (o_const (.int 160) (o_iload 1 (o_i2 (fun x y => x * y) (o_iload 3 (o_i2 (fun x y => x + y) (o_iload 6 (o_i2 (fun x y => x + y) (o_lald (o_last (o_iinc 6 1 (nx 167)))))))))))))))))))
def B_X9_copy_205 (Q : SQ) (nx : Nat → SK) : SK := (o_iload 6 (o_iload 5 (o_ic (fun x y => y ≤ x) (o_const (.int 1) (o_iret Q)) (o_aload 0 (o_getR 9 22 (o_const (.int 160) (o_iload 2 (o_i2 (fun x y => x * y) (o_iload 4 (o_i2 (fun x y => x + y) (o_iload 6 (o_i2 (fun x y => x + y) (o_aload 0 (o_getR 9 23 (o_iload 6 (o_lald (o_last (o_iinc 6 1 (nx 205)))))))))))))))))))
def P_X9_copy (Q : SQ) (nx : Nat → SK) : Nat → SK := s_tab [(0, B_X9_copy_0 Q nx), (16, B_X9_copy_16 Q nx), (77, B_X9_copy_77 Q nx), (84, B_X9_copy_84 Q nx), (102, B_X9_copy_102 Q nx), (157, B_X9_copy_157 Q nx), (167, B_X9_copy_167 Q nx), (205, B_X9_copy_205 Q nx)]
def C_X9_copy : SC := fun av sh me Q => match av with
  | [.ref a0, .int a1, .int a2, .int a3, .int a4, .int a5] => s_wp P_X9_copy Q 0 [some (.ref a0), some (.int a1), some (.int a2), some (.int a3), some (.int a4), some (.int a5), none] [] sh me
  | _ => False
abbrev rm_X9_copy : Room := { frames := 1, cells := 0, slots := 0, locals := 21 }
theorem hd_X9_copy : (yX9_copy).cls ≠ "java/lang/invoke/MethodHandle" ∧ (yX9_copy).cls ≠ "java/lang/invoke/VarHandle" ∧ (parseMethodDescriptor (yX9_copy).desc).map (fun d => d.parameters.length) = some 5 := by decide +kernel
set_option maxRecDepth 100000 in
set_option maxHeartbeats 4000000 in
theorem b_X9_copy_0 (l : Launch) : s_B l rm_X9_copy yX9_copy cX9_copy 7 ((some FieldType.int)) false 0 B_X9_copy_0 := fun p e s m args below meth c D ty ad A n0 φ0 Q G Y hY => (u_aload_n G dX9_copy_0 rfl (u_iload_n G dX9_copy_1 rfl (t_callV G cl_9 (m_X9_isShelf l) ⟨rfl, rfl⟩ rfl ⟨Nat.le_of_ble_eq_true rfl, Nat.le_of_ble_eq_true rfl⟩ q5_156 q1_10 (Or.inl q5_153) q5_155 qs_33 hd_X9_isShelf dX9_copy_2 (u_if_eq G dX9_copy_5 (by decide) (hY 16) (u_aload_n G dX9_copy_8 rfl (u_iload_n G dX9_copy_9 rfl (t_callV G cl_9 (m_X9_isShelf l) ⟨rfl, rfl⟩ rfl ⟨Nat.le_of_ble_eq_true rfl, Nat.le_of_ble_eq_true rfl⟩ q5_156 q1_10 (Or.inl q5_153) q5_155 qs_33 hd_X9_isShelf dX9_copy_10 (u_if_ne G dX9_copy_13 (by decide) (u_aload_n G dX9_copy_22 rfl (t_getR G cl_9 (k := 18) (by decide) (Or.inl q5_34) rfl (Or.inr ⟨_, rfl⟩) dX9_copy_23 (u_iload_n G dX9_copy_26 rfl (t_iald G dX9_copy_27 (u_iconst G dX9_copy_28 (by decide) (u_icmp_eq G dX9_copy_29 (by decide) (hY 77) (u_aload_n G dX9_copy_32 rfl (t_getR G cl_9 (k := 18) (by decide) (Or.inl q5_34) rfl (Or.inr ⟨_, rfl⟩) dX9_copy_33 (u_iload_n G dX9_copy_36 rfl (t_iald G dX9_copy_37 (u_iconst G dX9_copy_38 (by decide) (u_icmp_eq G dX9_copy_39 (by decide) (hY 77) (u_aload_n G dX9_copy_42 rfl (t_getR G cl_9 (k := 18) (by decide) (Or.inl q5_34) rfl (Or.inr ⟨_, rfl⟩) dX9_copy_43 (u_iload_n G dX9_copy_46 rfl (t_iald G dX9_copy_47 (u_iconst G dX9_copy_48 (by decide) (u_icmp_ne G dX9_copy_49 (by decide) (hY 84) (u_aload_n G dX9_copy_52 rfl (t_getR G cl_9 (k := 18) (by decide) (Or.inl q5_34) rfl (Or.inr ⟨_, rfl⟩) dX9_copy_53 (u_iload_n G dX9_copy_56 rfl (t_iald G dX9_copy_57 (u_iconst G dX9_copy_58 (by decide) (u_icmp_ne G dX9_copy_59 (by decide) (hY 84) (u_aload_n G dX9_copy_62 rfl (t_getR G cl_9 (k := 19) (by decide) (Or.inl q5_35) rfl (Or.inr ⟨_, rfl⟩) dX9_copy_63 (u_iload_n G dX9_copy_66 rfl (t_iald G dX9_copy_67 (u_aload_n G dX9_copy_68 rfl (t_getR G cl_9 (k := 19) (by decide) (Or.inl q5_35) rfl (Or.inr ⟨_, rfl⟩) dX9_copy_69 (u_iload_n G dX9_copy_72 rfl (t_iald G dX9_copy_73 (u_icmp_eq G dX9_copy_74 (by decide) (hY 84) (hY 77)))))))))))))))))))))))))))))))))) (hY 16)))))))))
set_option maxRecDepth 100000 in
set_option maxHeartbeats 4000000 in
theorem b_X9_copy_16 (l : Launch) : s_B l rm_X9_copy yX9_copy cX9_copy 7 ((some FieldType.int)) false 16 B_X9_copy_16 := fun p e s m args below meth c D ty ad A n0 φ0 Q G Y hY => (u_aload_n G dX9_copy_16 rfl (u_iconst G dX9_copy_17 (by decide) (t_callV G cl_9 (m_X9_no l) ⟨rfl, rfl⟩ rfl ⟨Nat.le_of_ble_eq_true rfl, Nat.le_of_ble_eq_true rfl⟩ q5_160 q1_10 (Or.inl q5_157) q5_159 qs_34 hd_X9_no dX9_copy_18 (t_iret G rfl dX9_copy_21))))
set_option maxRecDepth 100000 in
set_option maxHeartbeats 4000000 in
theorem b_X9_copy_77 (l : Launch) : s_B l rm_X9_copy yX9_copy cX9_copy 7 ((some FieldType.int)) false 77 B_X9_copy_77 := fun p e s m args below meth c D ty ad A n0 φ0 Q G Y hY => (u_aload_n G dX9_copy_77 rfl (u_bipush G dX9_copy_78 (by decide) (t_callV G cl_9 (m_X9_no l) ⟨rfl, rfl⟩ rfl ⟨Nat.le_of_ble_eq_true rfl, Nat.le_of_ble_eq_true rfl⟩ q5_160 q1_10 (Or.inl q5_157) q5_159 qs_34 hd_X9_no dX9_copy_80 (t_iret G rfl dX9_copy_83))))
set_option maxRecDepth 100000 in
set_option maxHeartbeats 4000000 in
theorem b_X9_copy_84 (l : Launch) : s_B l rm_X9_copy yX9_copy cX9_copy 7 ((some FieldType.int)) false 84 B_X9_copy_84 := fun p e s m args below meth c D ty ad A n0 φ0 Q G Y hY => (u_aload_n G dX9_copy_84 rfl (t_getR G cl_9 (k := 18) (by decide) (Or.inl q5_34) rfl (Or.inr ⟨_, rfl⟩) dX9_copy_85 (u_iload_n G dX9_copy_88 rfl (t_iald G dX9_copy_89 (u_if_eq G dX9_copy_90 (by decide) (hY 102) (u_aload_n G dX9_copy_93 rfl (t_getR G cl_9 (k := 18) (by decide) (Or.inl q5_34) rfl (Or.inr ⟨_, rfl⟩) dX9_copy_94 (u_iload_n G dX9_copy_97 rfl (t_iald G dX9_copy_98 (u_if_ne G dX9_copy_99 (by decide) (u_iload G dX9_copy_109 (u_if_ge G dX9_copy_111 (by decide) (u_iload_n G dX9_copy_121 rfl (u_if_lt G dX9_copy_122 (by decide) (hY 157) (u_iload G dX9_copy_125 (u_if_lt G dX9_copy_127 (by decide) (hY 157) (u_iload_n G dX9_copy_130 rfl (u_aload_n G dX9_copy_131 rfl (t_getR G cl_9 (k := 20) (by decide) (Or.inl q5_36) rfl (Or.inr ⟨_, rfl⟩) dX9_copy_132 (u_iload_n G dX9_copy_135 rfl (t_iald G dX9_copy_136 (u_iload G dX9_copy_137 (u_isub G dX9_copy_139 (u_icmp_gt G dX9_copy_140 (by decide) (hY 157) (u_iload G dX9_copy_143 (u_aload_n G dX9_copy_145 rfl (t_getR G cl_9 (k := 20) (by decide) (Or.inl q5_36) rfl (Or.inr ⟨_, rfl⟩) dX9_copy_146 (u_iload_n G dX9_copy_149 rfl (t_iald G dX9_copy_150 (u_iload G dX9_copy_151 (u_isub G dX9_copy_153 (u_icmp_le G dX9_copy_154 (by decide) (u_iconst G dX9_copy_164 (by decide) (u_istore G dX9_copy_165 (hY 167))) (hY 157))))))))))))))))))))) (u_aload_n G dX9_copy_114 rfl (u_bipush G dX9_copy_115 (by decide) (t_callV G cl_9 (m_X9_no l) ⟨rfl, rfl⟩ rfl ⟨Nat.le_of_ble_eq_true rfl, Nat.le_of_ble_eq_true rfl⟩ q5_160 q1_10 (Or.inl q5_157) q5_159 qs_34 hd_X9_no dX9_copy_117 (t_iret G rfl dX9_copy_120)))))) (hY 102)))))))))))
set_option maxRecDepth 100000 in
set_option maxHeartbeats 4000000 in
theorem b_X9_copy_102 (l : Launch) : s_B l rm_X9_copy yX9_copy cX9_copy 7 ((some FieldType.int)) false 102 B_X9_copy_102 := fun p e s m args below meth c D ty ad A n0 φ0 Q G Y hY => (u_aload_n G dX9_copy_102 rfl (u_bipush G dX9_copy_103 (by decide) (t_callV G cl_9 (m_X9_no l) ⟨rfl, rfl⟩ rfl ⟨Nat.le_of_ble_eq_true rfl, Nat.le_of_ble_eq_true rfl⟩ q5_160 q1_10 (Or.inl q5_157) q5_159 qs_34 hd_X9_no dX9_copy_105 (t_iret G rfl dX9_copy_108))))
set_option maxRecDepth 100000 in
set_option maxHeartbeats 4000000 in
theorem b_X9_copy_157 (l : Launch) : s_B l rm_X9_copy yX9_copy cX9_copy 7 ((some FieldType.int)) false 157 B_X9_copy_157 := fun p e s m args below meth c D ty ad A n0 φ0 Q G Y hY => (u_aload_n G dX9_copy_157 rfl (u_bipush G dX9_copy_158 (by decide) (t_callV G cl_9 (m_X9_no l) ⟨rfl, rfl⟩ rfl ⟨Nat.le_of_ble_eq_true rfl, Nat.le_of_ble_eq_true rfl⟩ q5_160 q1_10 (Or.inl q5_157) q5_159 qs_34 hd_X9_no dX9_copy_160 (t_iret G rfl dX9_copy_163))))
set_option maxRecDepth 100000 in
set_option maxHeartbeats 4000000 in
theorem b_X9_copy_167 (l : Launch) : s_B l rm_X9_copy yX9_copy cX9_copy 7 ((some FieldType.int)) false 167 B_X9_copy_167 := fun p e s m args below meth c D ty ad A n0 φ0 Q G Y hY => (u_iload G dX9_copy_167 (u_iload G dX9_copy_169 (u_icmp_ge G dX9_copy_171 (by decide) (u_iconst G dX9_copy_202 (by decide) (u_istore G dX9_copy_203 (hY 205))) (u_aload_n G dX9_copy_174 rfl (t_getR G cl_9 (k := 23) (by decide) (Or.inl q5_39) rfl (Or.inr ⟨_, rfl⟩) dX9_copy_175 (u_iload G dX9_copy_178 (u_aload_n G dX9_copy_180 rfl (t_getR G cl_9 (k := 22) (by decide) (Or.inl q5_38) rfl (Or.inr ⟨_, rfl⟩) dX9_copy_181 (u_sipush G dX9_copy_184 (by decide) (u_iload_n G dX9_copy_187 rfl (u_imul G dX9_copy_188 (u_iload_n G dX9_copy_189 rfl (u_iadd G dX9_copy_190 (u_iload G dX9_copy_191 (u_iadd G dX9_copy_193 (t_lald G dX9_copy_194 (t_last G dX9_copy_195 (t_iinc G dX9_copy_196 (by decide) (t_goto G dX9_copy_199 (by decide) (hY 167))))))))))))))))))))
set_option maxRecDepth 100000 in
set_option maxHeartbeats 4000000 in
theorem b_X9_copy_205 (l : Launch) : s_B l rm_X9_copy yX9_copy cX9_copy 7 ((some FieldType.int)) false 205 B_X9_copy_205 := fun p e s m args below meth c D ty ad A n0 φ0 Q G Y hY => (u_iload G dX9_copy_205 (u_iload G dX9_copy_207 (u_icmp_ge G dX9_copy_209 (by decide) (u_iconst G dX9_copy_241 (by decide) (t_iret G rfl dX9_copy_242)) (u_aload_n G dX9_copy_212 rfl (t_getR G cl_9 (k := 22) (by decide) (Or.inl q5_38) rfl (Or.inr ⟨_, rfl⟩) dX9_copy_213 (u_sipush G dX9_copy_216 (by decide) (u_iload_n G dX9_copy_219 rfl (u_imul G dX9_copy_220 (u_iload G dX9_copy_221 (u_iadd G dX9_copy_223 (u_iload G dX9_copy_224 (u_iadd G dX9_copy_226 (u_aload_n G dX9_copy_227 rfl (t_getR G cl_9 (k := 23) (by decide) (Or.inl q5_39) rfl (Or.inr ⟨_, rfl⟩) dX9_copy_228 (u_iload G dX9_copy_231 (t_lald G dX9_copy_233 (t_last G dX9_copy_234 (t_iinc G dX9_copy_235 (by decide) (t_goto G dX9_copy_238 (by decide) (hY 205))))))))))))))))))))
set_option maxRecDepth 100000 in
theorem m_X9_copy (l : Launch) : s_Met l yX9_copy cX9_copy 7 ((some FieldType.int)) rm_X9_copy false C_X9_copy := by
  intro D ty ad av φ sz sh me Q hsh hC
  unfold C_X9_copy at hC
  split at hC
  · exact s_met1 (P := P_X9_copy) (by decide +kernel) (fun _ => ⟨rfl, rfl⟩) (fun p e s m args below meth c D ty ad A n0 φ0 Q G Y hY => s_tab_T _ (List.forall_mem_cons.mpr ⟨b_X9_copy_0 l p e s m args below meth c D ty ad A n0 φ0 Q G Y hY, List.forall_mem_cons.mpr ⟨b_X9_copy_16 l p e s m args below meth c D ty ad A n0 φ0 Q G Y hY, List.forall_mem_cons.mpr ⟨b_X9_copy_77 l p e s m args below meth c D ty ad A n0 φ0 Q G Y hY, List.forall_mem_cons.mpr ⟨b_X9_copy_84 l p e s m args below meth c D ty ad A n0 φ0 Q G Y hY, List.forall_mem_cons.mpr ⟨b_X9_copy_102 l p e s m args below meth c D ty ad A n0 φ0 Q G Y hY, List.forall_mem_cons.mpr ⟨b_X9_copy_157 l p e s m args below meth c D ty ad A n0 φ0 Q G Y hY, List.forall_mem_cons.mpr ⟨b_X9_copy_167 l p e s m args below meth c D ty ad A n0 φ0 Q G Y hY, List.forall_mem_cons.mpr ⟨b_X9_copy_205 l p e s m args below meth c D ty ad A n0 φ0 Q G Y hY, fun _ h => absurd h List.not_mem_nil⟩⟩⟩⟩⟩⟩⟩⟩)) hsh rfl rfl (Nat.le_of_ble_eq_true rfl) hC
  · exact hC.elim
