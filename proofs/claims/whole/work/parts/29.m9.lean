def B_X9_act_0 (Q : SQ) (nx : Nat → SK) : SK := (o_aload 0 (o_const (.int 0) (o_putI 9 42 (o_aload 0 (o_iload 1 (o_callV C_X9_isOne 9 2 (o_if (fun x => x = 0) (nx 22) (o_iload 2 (o_if (fun x => x < 0) (nx 22) (o_iload 2 (o_const (.int 2) (o_ic (fun x y => x ≤ y) (o_iload 2 (o_if (fun x => ¬ x = 0) (o_iload 2 (o_const (.int 1) (o_ic (fun x y => ¬ x = y) (o_aload 0 (o_iload 1 (o_iload 3 (o_callV C_X9_paying 9 3 (nx 57))))) (o_aload 0 (o_iload 1 (o_iload 3 (o_callV C_X9_walking 9 3 (nx 57)))))))) (o_aload 0 (o_iload 1 (o_iload 3 (o_callV C_X9_looking 9 3 (nx 57))))))) (nx 22)))))))))))))
def B_X9_act_22 (Q : SQ) (nx : Nat → SK) : SK := (o_const (.int 0) (o_iret Q))
def B_X9_act_57 (Q : SQ) (nx : Nat → SK) : SK := (o_iret Q)
def P_X9_act (Q : SQ) (nx : Nat → SK) : Nat → SK := s_tab [(0, B_X9_act_0 Q nx), (22, B_X9_act_22 Q nx), (57, B_X9_act_57 Q nx)]
def C_X9_act : SC := fun av sh me Q => match av with
  | [.ref a0, .int a1, .int a2, .int a3] => s_wp P_X9_act Q 0 [some (.ref a0), some (.int a1), some (.int a2), some (.int a3)] [] sh me
  | _ => False
abbrev rm_X9_act : Room := { frames := 4, cells := 0, slots := 0, locals := 99 }
theorem hd_X9_act : (yX9_act).cls ≠ "java/lang/invoke/MethodHandle" ∧ (yX9_act).cls ≠ "java/lang/invoke/VarHandle" ∧ (parseMethodDescriptor (yX9_act).desc).map (fun d => d.parameters.length) = some 3 := by decide +kernel
set_option maxRecDepth 100000 in
set_option maxHeartbeats 4000000 in
theorem b_X9_act_0 (l : Launch) : s_B l rm_X9_act yX9_act cX9_act 4 ((some FieldType.int)) false 0 B_X9_act_0 := fun p e s m args below meth c D ty ad A n0 φ0 Q G Y hY => (u_aload_n G dX9_act_0 rfl (u_iconst G dX9_act_1 (by decide) (t_putI G cl_9 (k := 42) (by decide) (Or.inl ⟨rfl, Or.inl q5_58⟩) rfl rfl dX9_act_2 (u_aload_n G dX9_act_5 rfl (u_iload_n G dX9_act_6 rfl (t_callV G cl_9 (m_X9_isOne l) ⟨rfl, rfl⟩ rfl ⟨Nat.le_of_ble_eq_true rfl, Nat.le_of_ble_eq_true rfl⟩ q5_180 q1_10 (Or.inl q5_177) q5_179 qs_35 hd_X9_isOne dX9_act_7 (u_if_eq G dX9_act_10 (by decide) (hY 22) (u_iload_n G dX9_act_13 rfl (u_if_lt G dX9_act_14 (by decide) (hY 22) (u_iload_n G dX9_act_17 rfl (u_iconst G dX9_act_18 (by decide) (u_icmp_le G dX9_act_19 (by decide) (u_iload_n G dX9_act_24 rfl (u_if_ne G dX9_act_25 (by decide) (u_iload_n G dX9_act_37 rfl (u_iconst G dX9_act_38 (by decide) (u_icmp_ne G dX9_act_39 (by decide) (u_aload_n G dX9_act_51 rfl (u_iload_n G dX9_act_52 rfl (u_iload_n G dX9_act_53 rfl (t_callV G cl_9 (m_X9_paying l) ⟨rfl, rfl⟩ rfl ⟨Nat.le_of_ble_eq_true rfl, Nat.le_of_ble_eq_true rfl⟩ q6_234 q1_10 (Or.inl q6_231) q6_233 qs_80 hd_X9_paying dX9_act_54 (hY 57))))) (u_aload_n G dX9_act_42 rfl (u_iload_n G dX9_act_43 rfl (u_iload_n G dX9_act_44 rfl (t_callV G cl_9 (m_X9_walking l) ⟨rfl, rfl⟩ rfl ⟨Nat.le_of_ble_eq_true rfl, Nat.le_of_ble_eq_true rfl⟩ q6_230 q1_10 (Or.inl q6_227) q6_229 qs_79 hd_X9_walking dX9_act_45 (t_goto G dX9_act_48 (by decide) (hY 57))))))))) (u_aload_n G dX9_act_28 rfl (u_iload_n G dX9_act_29 rfl (u_iload_n G dX9_act_30 rfl (t_callV G cl_9 (m_X9_looking l) ⟨rfl, rfl⟩ rfl ⟨Nat.le_of_ble_eq_true rfl, Nat.le_of_ble_eq_true rfl⟩ q6_222 q1_10 (Or.inl q6_219) q6_221 qs_77 hd_X9_looking dX9_act_31 (t_goto G dX9_act_34 (by decide) (hY 57)))))))) (hY 22)))))))))))))
set_option maxRecDepth 100000 in
set_option maxHeartbeats 4000000 in
theorem b_X9_act_22 (l : Launch) : s_B l rm_X9_act yX9_act cX9_act 4 ((some FieldType.int)) false 22 B_X9_act_22 := fun p e s m args below meth c D ty ad A n0 φ0 Q G Y hY => (u_iconst G dX9_act_22 (by decide) (t_iret G rfl dX9_act_23))
set_option maxRecDepth 100000 in
set_option maxHeartbeats 4000000 in
theorem b_X9_act_57 (l : Launch) : s_B l rm_X9_act yX9_act cX9_act 4 ((some FieldType.int)) false 57 B_X9_act_57 := fun p e s m args below meth c D ty ad A n0 φ0 Q G Y hY => (t_iret G rfl dX9_act_57)
set_option maxRecDepth 100000 in
theorem m_X9_act (l : Launch) : s_Met l yX9_act cX9_act 4 ((some FieldType.int)) rm_X9_act false C_X9_act := by
  intro D ty ad av φ sz sh me Q hsh hC
  unfold C_X9_act at hC
  split at hC
  · exact s_met1 (P := P_X9_act) (by decide +kernel) (fun _ => ⟨rfl, rfl⟩) (fun p e s m args below meth c D ty ad A n0 φ0 Q G Y hY => s_tab_T _ (List.forall_mem_cons.mpr ⟨b_X9_act_0 l p e s m args below meth c D ty ad A n0 φ0 Q G Y hY, List.forall_mem_cons.mpr ⟨b_X9_act_22 l p e s m args below meth c D ty ad A n0 φ0 Q G Y hY, List.forall_mem_cons.mpr ⟨b_X9_act_57 l p e s m args below meth c D ty ad A n0 φ0 Q G Y hY, fun _ h => absurd h List.not_mem_nil⟩⟩⟩)) hsh rfl rfl (Nat.le_of_ble_eq_true rfl) hC
  · exact hC.elim
def B_X9_adds_0 (Q : SQ) (nx : Nat → SK) : SK := (o_aload 0 (o_getR 9 9 (o_aload 0 (o_getI 9 0 (o_iload 1 (o_iast (o_aload 0 (o_getR 9 10 (o_aload 0 (o_getI 9 0 (o_iload 2 (o_iast (o_aload 0 (o_getR 9 11 (o_aload 0 (o_getI 9 0 (o_iload 3 (o_iast (o_aload 0 (o_getR 9 12 (o_aload 0 (o_getI 9 0 (o_iload 4 (o_iast (o_aload 0 (o_getR 9 13 (o_aload 0 (o_getI 9 0 (o_iload 5 (o_iast (o_aload 0 (o_getR 9 14 (o_aload 0 (o_getI 9 0 (o_iload 6 (o_iast (o_aload 0 (o_getR 9 15 (o_aload 0 (o_getI 9 0 (o_const (.int 0) (o_iast (o_aload 0 (o_dup (o_getI 9 0 (o_dupx1 (o_const (.int 1) (o_i2 (fun x y => x + y) (o_putI 9 0 (o_iret Q))))))))))))))))))))))))))))))))))))))))))))))))))
def P_X9_adds (Q : SQ) (nx : Nat → SK) : Nat → SK := s_tab [(0, B_X9_adds_0 Q nx)]
def C_X9_adds : SC := fun av sh me Q => match av with
  | [.ref a0, .int a1, .int a2, .int a3, .int a4, .int a5, .int a6] => s_wp P_X9_adds Q 0 [some (.ref a0), some (.int a1), some (.int a2), some (.int a3), some (.int a4), some (.int a5), some (.int a6)] [] sh me
  | _ => False
abbrev rm_X9_adds : Room := { frames := 0, cells := 0, slots := 0, locals := 0 }
theorem hd_X9_adds : (yX9_adds).cls ≠ "java/lang/invoke/MethodHandle" ∧ (yX9_adds).cls ≠ "java/lang/invoke/VarHandle" ∧ (parseMethodDescriptor (yX9_adds).desc).map (fun d => d.parameters.length) = some 6 := by decide +kernel
set_option maxRecDepth 100000 in
set_option maxHeartbeats 4000000 in
theorem b_X9_adds_0 (l : Launch) : s_B l rm_X9_adds yX9_adds cX9_adds 7 ((some FieldType.int)) false 0 B_X9_adds_0 := fun p e s m args below meth c D ty ad A n0 φ0 Q G Y hY => (u_aload_n G dX9_adds_0 rfl (t_getR G cl_9 (k := 9) (by decide) (Or.inl q5_25) rfl (Or.inr ⟨_, rfl⟩) dX9_adds_1 (u_aload_n G dX9_adds_4 rfl (t_getI G cl_9 (k := 0) (by decide) (Or.inl q5_16) rfl (Or.inl rfl) dX9_adds_5 (u_iload_n G dX9_adds_8 rfl (t_iast G dX9_adds_9 (u_aload_n G dX9_adds_10 rfl (t_getR G cl_9 (k := 10) (by decide) (Or.inl q5_26) rfl (Or.inr ⟨_, rfl⟩) dX9_adds_11 (u_aload_n G dX9_adds_14 rfl (t_getI G cl_9 (k := 0) (by decide) (Or.inl q5_16) rfl (Or.inl rfl) dX9_adds_15 (u_iload_n G dX9_adds_18 rfl (t_iast G dX9_adds_19 (u_aload_n G dX9_adds_20 rfl (t_getR G cl_9 (k := 11) (by decide) (Or.inl q5_27) rfl (Or.inr ⟨_, rfl⟩) dX9_adds_21 (u_aload_n G dX9_adds_24 rfl (t_getI G cl_9 (k := 0) (by decide) (Or.inl q5_16) rfl (Or.inl rfl) dX9_adds_25 (u_iload_n G dX9_adds_28 rfl (t_iast G dX9_adds_29 (u_aload_n G dX9_adds_30 rfl (t_getR G cl_9 (k := 12) (by decide) (Or.inl q5_28) rfl (Or.inr ⟨_, rfl⟩) dX9_adds_31 (u_aload_n G dX9_adds_34 rfl (t_getI G cl_9 (k := 0) (by decide) (Or.inl q5_16) rfl (Or.inl rfl) dX9_adds_35 (u_iload G dX9_adds_38 (t_iast G dX9_adds_40 (u_aload_n G dX9_adds_41 rfl (t_getR G cl_9 (k := 13) (by decide) (Or.inl q5_29) rfl (Or.inr ⟨_, rfl⟩) dX9_adds_42 (u_aload_n G dX9_adds_45 rfl (t_getI G cl_9 (k := 0) (by decide) (Or.inl q5_16) rfl (Or.inl rfl) dX9_adds_46 (u_iload G dX9_adds_49 (t_iast G dX9_adds_51 (u_aload_n G dX9_adds_52 rfl (t_getR G cl_9 (k := 14) (by decide) (Or.inl q5_30) rfl (Or.inr ⟨_, rfl⟩) dX9_adds_53 (u_aload_n G dX9_adds_56 rfl (t_getI G cl_9 (k := 0) (by decide) (Or.inl q5_16) rfl (Or.inl rfl) dX9_adds_57 (u_iload G dX9_adds_60 (t_iast G dX9_adds_62 (u_aload_n G dX9_adds_63 rfl (t_getR G cl_9 (k := 15) (by decide) (Or.inl q5_31) rfl (Or.inr ⟨_, rfl⟩) dX9_adds_64 (u_aload_n G dX9_adds_67 rfl (t_getI G cl_9 (k := 0) (by decide) (Or.inl q5_16) rfl (Or.inl rfl) dX9_adds_68 (u_iconst G dX9_adds_71 (by decide) (t_iast G dX9_adds_72 (u_aload_n G dX9_adds_73 rfl (t_dup G dX9_adds_74 (t_getI G cl_9 (k := 0) (by decide) (Or.inl q5_16) rfl (Or.inl rfl) dX9_adds_75 (t_dupx1 G dX9_adds_78 (u_iconst G dX9_adds_79 (by decide) (u_iadd G dX9_adds_80 (t_putI G cl_9 (k := 0) (by decide) (Or.inl ⟨rfl, Or.inl q5_16⟩) rfl rfl dX9_adds_81 (t_iret G rfl dX9_adds_84))))))))))))))))))))))))))))))))))))))))))))))))))
set_option maxRecDepth 100000 in
theorem m_X9_adds (l : Launch) : s_Met l yX9_adds cX9_adds 7 ((some FieldType.int)) rm_X9_adds false C_X9_adds := by
  intro D ty ad av φ sz sh me Q hsh hC
  unfold C_X9_adds at hC
  split at hC
  · exact s_met1 (P := P_X9_adds) (by decide +kernel) (fun _ => ⟨rfl, rfl⟩) (fun p e s m args below meth c D ty ad A n0 φ0 Q G Y hY => s_tab_T _ (List.forall_mem_cons.mpr ⟨b_X9_adds_0 l p e s m args below meth c D ty ad A n0 φ0 Q G Y hY, fun _ h => absurd h List.not_mem_nil⟩)) hsh rfl rfl (Nat.le_of_ble_eq_true rfl) hC
  · exact hC.elim
def B_X9_no_0 (Q : SQ) (nx : Nat → SK) : SK := (o_aload 0 (o_getR 9 8 (o_iload 1 (o_i1 (fun x => -x) (o_dup2 (o_iald (o_const (.int 1) (o_i2 (fun x y => x + y) (o_iast (o_iload 1 (o_iret Q)))))))))))
def P_X9_no (Q : SQ) (nx : Nat → SK) : Nat → SK := s_tab [(0, B_X9_no_0 Q nx)]
def C_X9_no : SC := fun av sh me Q => match av with
  | [.ref a0, .int a1] => s_wp P_X9_no Q 0 [some (.ref a0), some (.int a1)] [] sh me
  | _ => False
abbrev rm_X9_no : Room := { frames := 0, cells := 0, slots := 0, locals := 0 }
theorem hd_X9_no : (yX9_no).cls ≠ "java/lang/invoke/MethodHandle" ∧ (yX9_no).cls ≠ "java/lang/invoke/VarHandle" ∧ (parseMethodDescriptor (yX9_no).desc).map (fun d => d.parameters.length) = some 1 := by decide +kernel
set_option maxRecDepth 100000 in
set_option maxHeartbeats 4000000 in
theorem b_X9_no_0 (l : Launch) : s_B l rm_X9_no yX9_no cX9_no 2 ((some FieldType.int)) false 0 B_X9_no_0 := fun p e s m args below meth c D ty ad A n0 φ0 Q G Y hY => (u_aload_n G dX9_no_0 rfl (t_getR G cl_9 (k := 8) (by decide) (Or.inl q5_24) rfl (Or.inr ⟨_, rfl⟩) dX9_no_1 (u_iload_n G dX9_no_4 rfl (u_ineg G dX9_no_5 (t_dup2 G dX9_no_6 (t_iald G dX9_no_7 (u_iconst G dX9_no_8 (by decide) (u_iadd G dX9_no_9 (t_iast G dX9_no_10 (u_iload_n G dX9_no_11 rfl (t_iret G rfl dX9_no_12)))))))))))
set_option maxRecDepth 100000 in
theorem m_X9_no (l : Launch) : s_Met l yX9_no cX9_no 2 ((some FieldType.int)) rm_X9_no false C_X9_no := by
  intro D ty ad av φ sz sh me Q hsh hC
  unfold C_X9_no at hC
  split at hC
  · exact s_met1 (P := P_X9_no) (by decide +kernel) (fun _ => ⟨rfl, rfl⟩) (fun p e s m args below meth c D ty ad A n0 φ0 Q G Y hY => s_tab_T _ (List.forall_mem_cons.mpr ⟨b_X9_no_0 l p e s m args below meth c D ty ad A n0 φ0 Q G Y hY, fun _ h => absurd h List.not_mem_nil⟩)) hsh rfl rfl (Nat.le_of_ble_eq_true rfl) hC
  · exact hC.elim
def B_X9_distance_0 (Q : SQ) (nx : Nat → SK) : SK := (o_iload 1 (o_const (.int 6) (o_div (fun x y => x / y) (o_iload 2 (o_const (.int 6) (o_div (fun x y => x / y) (o_i2 (fun x y => x - y) (o_istore 3 (o_iload 1 (o_const (.int 6) (o_div (fun x y => x - x / y * y) (o_iload 2 (o_const (.int 6) (o_div (fun x y => x - x / y * y) (o_i2 (fun x y => x - y) (o_istore 4 (o_iload 3 (o_iload 4 (o_i2 (fun x y => x + y) (o_istore 5 (o_iload 5 (o_if (fun x => 0 ≤ x) (o_iload 5 (nx 40)) (o_iload 5 (o_i1 (fun x => -x) (nx 40)))))))))))))))))))))))))
def B_X9_distance_40 (Q : SQ) (nx : Nat → SK) : SK := (o_iret Q)
def P_X9_distance (Q : SQ) (nx : Nat → SK) : Nat → SK := s_tab [(0, B_X9_distance_0 Q nx), (40, B_X9_distance_40 Q nx)]
def C_X9_distance : SC := fun av sh me Q => match av with
  | [.ref a0, .int a1, .int a2] => s_wp P_X9_distance Q 0 [some (.ref a0), some (.int a1), some (.int a2), none, none, none] [] sh me
  | _ => False
abbrev rm_X9_distance : Room := { frames := 0, cells := 0, slots := 0, locals := 0 }
theorem hd_X9_distance : (yX9_distance).cls ≠ "java/lang/invoke/MethodHandle" ∧ (yX9_distance).cls ≠ "java/lang/invoke/VarHandle" ∧ (parseMethodDescriptor (yX9_distance).desc).map (fun d => d.parameters.length) = some 2 := by decide +kernel
set_option maxRecDepth 100000 in
set_option maxHeartbeats 4000000 in
theorem b_X9_distance_0 (l : Launch) : s_B l rm_X9_distance yX9_distance cX9_distance 6 ((some FieldType.int)) false 0 B_X9_distance_0 := fun p e s m args below meth c D ty ad A n0 φ0 Q G Y hY => (u_iload_n G dX9_distance_0 rfl (u_bipush G dX9_distance_1 (by decide) (u_idiv G dX9_distance_3 (u_iload_n G dX9_distance_4 rfl (u_bipush G dX9_distance_5 (by decide) (u_idiv G dX9_distance_7 (u_isub G dX9_distance_8 (u_istore_n G dX9_distance_9 rfl (u_iload_n G dX9_distance_10 rfl (u_bipush G dX9_distance_11 (by decide) (u_irem G dX9_distance_13 (u_iload_n G dX9_distance_14 rfl (u_bipush G dX9_distance_15 (by decide) (u_irem G dX9_distance_17 (u_isub G dX9_distance_18 (u_istore G dX9_distance_19 (u_iload_n G dX9_distance_21 rfl (u_iload G dX9_distance_22 (u_iadd G dX9_distance_24 (u_istore G dX9_distance_25 (u_iload G dX9_distance_27 (u_if_ge G dX9_distance_29 (by decide) (u_iload G dX9_distance_38 (hY 40)) (u_iload G dX9_distance_32 (u_ineg G dX9_distance_34 (t_goto G dX9_distance_35 (by decide) (hY 40))))))))))))))))))))))))))
set_option maxRecDepth 100000 in
set_option maxHeartbeats 4000000 in
theorem b_X9_distance_40 (l : Launch) : s_B l rm_X9_distance yX9_distance cX9_distance 6 ((some FieldType.int)) false 40 B_X9_distance_40 := fun p e s m args below meth c D ty ad A n0 φ0 Q G Y hY => (t_iret G rfl dX9_distance_40)
set_option maxRecDepth 100000 in
theorem m_X9_distance (l : Launch) : s_Met l yX9_distance cX9_distance 6 ((some FieldType.int)) rm_X9_distance false C_X9_distance := by
  intro D ty ad av φ sz sh me Q hsh hC
  unfold C_X9_distance at hC
  split at hC
  · exact s_met1 (P := P_X9_distance) (by decide +kernel) (fun _ => ⟨rfl, rfl⟩) (fun p e s m args below meth c D ty ad A n0 φ0 Q G Y hY => s_tab_T _ (List.forall_mem_cons.mpr ⟨b_X9_distance_0 l p e s m args below meth c D ty ad A n0 φ0 Q G Y hY, List.forall_mem_cons.mpr ⟨b_X9_distance_40 l p e s m args below meth c D ty ad A n0 φ0 Q G Y hY, fun _ h => absurd h List.not_mem_nil⟩⟩)) hsh rfl rfl (Nat.le_of_ble_eq_true rfl) hC
  · exact hC.elim
def B_X9_sees_0 (Q : SQ) (nx : Nat → SK) : SK := (o_iload 1 (o_iload 2 (o_ic (fun x y => ¬ x = y) (o_iload 1 (o_const (.int 6) (o_div (fun x y => x / y) (o_iload 2 (o_const (.int 6) (o_div (fun x y => x / y) (o_ic (fun x y => x = y) (nx 29) (o_iload 1 (o_const (.int 6) (o_div (fun x y => x - x / y * y) (o_iload 2 (o_const (.int 6) (o_div (fun x y => x - x / y * y) (o_ic (fun x y => ¬ x = y) (nx 42) (nx 29))))))))))))))) (o_const (.int 1) (o_zret Q)))))
def B_X9_sees_29 (Q : SQ) (nx : Nat → SK) : SK := (o_aload 0 (o_iload 1 (o_iload 2 (o_callV C_X9_distance 9 3 (o_aload 0 (o_getI 9 2 (o_ic (fun x y => x ≤ y) (o_iload 1 (o_iload 2 (o_ic (fun x y => y ≤ x) (o_iload 2 (nx 54)) (o_iload 1 (nx 54))))) (nx 42))))))))
def B_X9_sees_42 (Q : SQ) (nx : Nat → SK) : SK := (o_const (.int 0) (o_zret Q))
def B_X9_sees_54 (Q : SQ) (nx : Nat → SK) : SK := (o_istore 3 (o_iload 1 (o_iload 2 (o_ic (fun x y => y ≤ x) (o_iload 1 (nx 65)) (o_iload 2 (nx 65))))))
def B_X9_sees_65 (Q : SQ) (nx : Nat → SK) : SK := (o_istore 4 (o_iload 3 (o_const (.int 6) (o_div (fun x y => x / y) (o_iload 4 (o_const (.int 6) (o_div (fun x y => x / y) (o_ic (fun x y => ¬ x = y) (o_const (.int 6) (nx 85)) (o_const (.int 1) (nx 85))))))))))
def B_X9_sees_85 (Q : SQ) (nx : Nat → SK) : SK := (o_istore 5 (o_iload 3 (o_iload 5 (o_i2 (fun x y => x + y) (o_istore 6 (nx 93))))))
def B_X9_sees_93 (Q : SQ) (nx : Nat → SK) : SK := (o_iload 6 (o_iload 4 (o_ic (fun x y => y ≤ x) (o_const (.int 1) (o_zret Q)) (o_aload 0 (o_getR 9 16 (o_iload 6 (o_iald (o_const (.int 1) (o_ic (fun x y => ¬ x = y) (o_iload 6 (o_iload 5 (o_i2 (fun x y => x + y) (o_istore 6 (nx 93))))) (o_const (.int 0) (o_zret Q)))))))))))
def P_X9_sees (Q : SQ) (nx : Nat → SK) : Nat → SK := s_tab [(0, B_X9_sees_0 Q nx), (29, B_X9_sees_29 Q nx), (42, B_X9_sees_42 Q nx), (54, B_X9_sees_54 Q nx), (65, B_X9_sees_65 Q nx), (85, B_X9_sees_85 Q nx), (93, B_X9_sees_93 Q nx)]
def C_X9_sees : SC := fun av sh me Q => match av with
  | [.ref a0, .int a1, .int a2] => s_wp P_X9_sees Q 0 [some (.ref a0), some (.int a1), some (.int a2), none, none, none, none] [] sh me
  | _ => False
abbrev rm_X9_sees : Room := { frames := 1, cells := 0, slots := 0, locals := 25 }
theorem hd_X9_sees : (yX9_sees).cls ≠ "java/lang/invoke/MethodHandle" ∧ (yX9_sees).cls ≠ "java/lang/invoke/VarHandle" ∧ (parseMethodDescriptor (yX9_sees).desc).map (fun d => d.parameters.length) = some 2 := by decide +kernel
set_option maxRecDepth 100000 in
set_option maxHeartbeats 4000000 in
theorem b_X9_sees_0 (l : Launch) : s_B l rm_X9_sees yX9_sees cX9_sees 7 ((some FieldType.boolean)) false 0 B_X9_sees_0 := fun p e s m args below meth c D ty ad A n0 φ0 Q G Y hY => (u_iload_n G dX9_sees_0 rfl (u_iload_n G dX9_sees_1 rfl (u_icmp_ne G dX9_sees_2 (by decide) (u_iload_n G dX9_sees_7 rfl (u_bipush G dX9_sees_8 (by decide) (u_idiv G dX9_sees_10 (u_iload_n G dX9_sees_11 rfl (u_bipush G dX9_sees_12 (by decide) (u_idiv G dX9_sees_14 (u_icmp_eq G dX9_sees_15 (by decide) (hY 29) (u_iload_n G dX9_sees_18 rfl (u_bipush G dX9_sees_19 (by decide) (u_irem G dX9_sees_21 (u_iload_n G dX9_sees_22 rfl (u_bipush G dX9_sees_23 (by decide) (u_irem G dX9_sees_25 (u_icmp_ne G dX9_sees_26 (by decide) (hY 42) (hY 29))))))))))))))) (u_iconst G dX9_sees_5 (by decide) (t_zret G rfl dX9_sees_6)))))
set_option maxRecDepth 100000 in
set_option maxHeartbeats 4000000 in
theorem b_X9_sees_29 (l : Launch) : s_B l rm_X9_sees yX9_sees cX9_sees 7 ((some FieldType.boolean)) false 29 B_X9_sees_29 := fun p e s m args below meth c D ty ad A n0 φ0 Q G Y hY => (u_aload_n G dX9_sees_29 rfl (u_iload_n G dX9_sees_30 rfl (u_iload_n G dX9_sees_31 rfl (t_callV G cl_9 (m_X9_distance l) ⟨rfl, rfl⟩ rfl ⟨Nat.le_of_ble_eq_true rfl, Nat.le_of_ble_eq_true rfl⟩ q6_64 q1_10 (Or.inl q6_61) q6_63 qs_54 hd_X9_distance dX9_sees_32 (u_aload_n G dX9_sees_35 rfl (t_getI G cl_9 (k := 2) (by decide) (Or.inl q5_18) rfl (Or.inl rfl) dX9_sees_36 (u_icmp_le G dX9_sees_39 (by decide) (u_iload_n G dX9_sees_44 rfl (u_iload_n G dX9_sees_45 rfl (u_icmp_ge G dX9_sees_46 (by decide) (u_iload_n G dX9_sees_53 rfl (hY 54)) (u_iload_n G dX9_sees_49 rfl (t_goto G dX9_sees_50 (by decide) (hY 54)))))) (hY 42))))))))
set_option maxRecDepth 100000 in
set_option maxHeartbeats 4000000 in
theorem b_X9_sees_42 (l : Launch) : s_B l rm_X9_sees yX9_sees cX9_sees 7 ((some FieldType.boolean)) false 42 B_X9_sees_42 := fun p e s m args below meth c D ty ad A n0 φ0 Q G Y hY => (u_iconst G dX9_sees_42 (by decide) (t_zret G rfl dX9_sees_43))
set_option maxRecDepth 100000 in
set_option maxHeartbeats 4000000 in
theorem b_X9_sees_54 (l : Launch) : s_B l rm_X9_sees yX9_sees cX9_sees 7 ((some FieldType.boolean)) false 54 B_X9_sees_54 := fun p e s m args below meth c D ty ad A n0 φ0 Q G Y hY => (u_istore_n G dX9_sees_54 rfl (u_iload_n G dX9_sees_55 rfl (u_iload_n G dX9_sees_56 rfl (u_icmp_ge G dX9_sees_57 (by decide) (u_iload_n G dX9_sees_64 rfl (hY 65)) (u_iload_n G dX9_sees_60 rfl (t_goto G dX9_sees_61 (by decide) (hY 65)))))))
set_option maxRecDepth 100000 in
set_option maxHeartbeats 4000000 in
theorem b_X9_sees_65 (l : Launch) : s_B l rm_X9_sees yX9_sees cX9_sees 7 ((some FieldType.boolean)) false 65 B_X9_sees_65 := fun p e s m args below meth c D ty ad A n0 φ0 Q G Y hY => (u_istore G dX9_sees_65 (u_iload_n G dX9_sees_67 rfl (u_bipush G dX9_sees_68 (by decide) (u_idiv G dX9_sees_70 (u_iload G dX9_sees_71 (u_bipush G dX9_sees_73 (by decide) (u_idiv G dX9_sees_75 (u_icmp_ne G dX9_sees_76 (by decide) (u_bipush G dX9_sees_83 (by decide) (hY 85)) (u_iconst G dX9_sees_79 (by decide) (t_goto G dX9_sees_80 (by decide) (hY 85)))))))))))
set_option maxRecDepth 100000 in
set_option maxHeartbeats 4000000 in
theorem b_X9_sees_85 (l : Launch) : s_B l rm_X9_sees yX9_sees cX9_sees 7 ((some FieldType.boolean)) false 85 B_X9_sees_85 := fun p e s m args below meth c D ty ad A n0 φ0 Q G Y hY => (u_istore G dX9_sees_85 (u_iload_n G dX9_sees_87 rfl (u_iload G dX9_sees_88 (u_iadd G dX9_sees_90 (u_istore G dX9_sees_91 (hY 93))))))
set_option maxRecDepth 100000 in
set_option maxHeartbeats 4000000 in
theorem b_X9_sees_93 (l : Launch) : s_B l rm_X9_sees yX9_sees cX9_sees 7 ((some FieldType.boolean)) false 93 B_X9_sees_93 := fun p e s m args below meth c D ty ad A n0 φ0 Q G Y hY => (u_iload G dX9_sees_93 (u_iload G dX9_sees_95 (u_icmp_ge G dX9_sees_97 (by decide) (u_iconst G dX9_sees_123 (by decide) (t_zret G rfl dX9_sees_124)) (u_aload_n G dX9_sees_100 rfl (t_getR G cl_9 (k := 16) (by decide) (Or.inl q5_32) rfl (Or.inr ⟨_, rfl⟩) dX9_sees_101 (u_iload G dX9_sees_104 (t_iald G dX9_sees_106 (u_iconst G dX9_sees_107 (by decide) (u_icmp_ne G dX9_sees_108 (by decide) (u_iload G dX9_sees_113 (u_iload G dX9_sees_115 (u_iadd G dX9_sees_117 (u_istore G dX9_sees_118 (t_goto G dX9_sees_120 (by decide) (hY 93)))))) (u_iconst G dX9_sees_111 (by decide) (t_zret G rfl dX9_sees_112)))))))))))
set_option maxRecDepth 100000 in
theorem m_X9_sees (l : Launch) : s_Met l yX9_sees cX9_sees 7 ((some FieldType.boolean)) rm_X9_sees false C_X9_sees := by
  intro D ty ad av φ sz sh me Q hsh hC
  unfold C_X9_sees at hC
  split at hC
  · exact s_met1 (P := P_X9_sees) (by decide +kernel) (fun _ => ⟨rfl, rfl⟩) (fun p e s m args below meth c D ty ad A n0 φ0 Q G Y hY => s_tab_T _ (List.forall_mem_cons.mpr ⟨b_X9_sees_0 l p e s m args below meth c D ty ad A n0 φ0 Q G Y hY, List.forall_mem_cons.mpr ⟨b_X9_sees_29 l p e s m args below meth c D ty ad A n0 φ0 Q G Y hY, List.forall_mem_cons.mpr ⟨b_X9_sees_42 l p e s m args below meth c D ty ad A n0 φ0 Q G Y hY, List.forall_mem_cons.mpr ⟨b_X9_sees_54 l p e s m args below meth c D ty ad A n0 φ0 Q G Y hY, List.forall_mem_cons.mpr ⟨b_X9_sees_65 l p e s m args below meth c D ty ad A n0 φ0 Q G Y hY, List.forall_mem_cons.mpr ⟨b_X9_sees_85 l p e s m args below meth c D ty ad A n0 φ0 Q G Y hY, List.forall_mem_cons.mpr ⟨b_X9_sees_93 l p e s m args below meth c D ty ad A n0 φ0 Q G Y hY, fun _ h => absurd h List.not_mem_nil⟩⟩⟩⟩⟩⟩⟩)) hsh rfl rfl (Nat.le_of_ble_eq_true rfl) hC
  · exact hC.elim
def B_X9_isLit_0 (Q : SQ) (nx : Nat → SK) : SK := (o_const (.int 0) (o_istore 2 (nx 2)))
def B_X9_isLit_2 (Q : SQ) (nx : Nat → SK) : SK := (o_iload 2 (o_const (.int 36) (o_ic (fun x y => y ≤ x) (o_const (.int 0) (o_zret Q)) (o_aload 0 (o_getR 9 17 (o_iload 2 (o_iald (o_const (.int 1) (o_ic (fun x y => ¬ x = y) (nx 29) (o_aload 0 (o_iload 2 (o_iload 1 (o_callV C_X9_sees 9 3 (o_if (fun x => x = 0) (nx 29) (o_const (.int 1) (o_zret Q))))))))))))))))
def B_X9_isLit_29 (Q : SQ) (nx : Nat → SK) : SK := (o_iinc 2 1 (nx 2))
def P_X9_isLit (Q : SQ) (nx : Nat → SK) : Nat → SK := s_tab [(0, B_X9_isLit_0 Q nx), (2, B_X9_isLit_2 Q nx), (29, B_X9_isLit_29 Q nx)]
def C_X9_isLit : SC := fun av sh me Q => match av with
  | [.ref a0, .int a1] => s_wp P_X9_isLit Q 0 [some (.ref a0), some (.int a1), none] [] sh me
  | _ => False
abbrev rm_X9_isLit : Room := { frames := 2, cells := 0, slots := 0, locals := 51 }
theorem hd_X9_isLit : (yX9_isLit).cls ≠ "java/lang/invoke/MethodHandle" ∧ (yX9_isLit).cls ≠ "java/lang/invoke/VarHandle" ∧ (parseMethodDescriptor (yX9_isLit).desc).map (fun d => d.parameters.length) = some 1 := by decide +kernel
set_option maxRecDepth 100000 in
set_option maxHeartbeats 4000000 in
theorem b_X9_isLit_0 (l : Launch) : s_B l rm_X9_isLit yX9_isLit cX9_isLit 3 ((some FieldType.boolean)) false 0 B_X9_isLit_0 := fun p e s m args below meth c D ty ad A n0 φ0 Q G Y hY => (u_iconst G dX9_isLit_0 (by decide) (u_istore_n G dX9_isLit_1 rfl (hY 2)))
set_option maxRecDepth 100000 in
set_option maxHeartbeats 4000000 in
theorem b_X9_isLit_2 (l : Launch) : s_B l rm_X9_isLit yX9_isLit cX9_isLit 3 ((some FieldType.boolean)) false 2 B_X9_isLit_2 := fun p e s m args below meth c D ty ad A n0 φ0 Q G Y hY => (u_iload_n G dX9_isLit_2 rfl (u_bipush G dX9_isLit_3 (by decide) (u_icmp_ge G dX9_isLit_5 (by decide) (u_iconst G dX9_isLit_35 (by decide) (t_zret G rfl dX9_isLit_36)) (u_aload_n G dX9_isLit_8 rfl (t_getR G cl_9 (k := 17) (by decide) (Or.inl q5_33) rfl (Or.inr ⟨_, rfl⟩) dX9_isLit_9 (u_iload_n G dX9_isLit_12 rfl (t_iald G dX9_isLit_13 (u_iconst G dX9_isLit_14 (by decide) (u_icmp_ne G dX9_isLit_15 (by decide) (hY 29) (u_aload_n G dX9_isLit_18 rfl (u_iload_n G dX9_isLit_19 rfl (u_iload_n G dX9_isLit_20 rfl (t_callV G cl_9 (m_X9_sees l) ⟨rfl, rfl⟩ rfl ⟨Nat.le_of_ble_eq_true rfl, Nat.le_of_ble_eq_true rfl⟩ q6_60 q1_10 (Or.inl q6_57) q6_59 qs_53 hd_X9_sees dX9_isLit_21 (u_if_eq G dX9_isLit_24 (by decide) (hY 29) (u_iconst G dX9_isLit_27 (by decide) (t_zret G rfl dX9_isLit_28))))))))))))))))
set_option maxRecDepth 100000 in
set_option maxHeartbeats 4000000 in
theorem b_X9_isLit_29 (l : Launch) : s_B l rm_X9_isLit yX9_isLit cX9_isLit 3 ((some FieldType.boolean)) false 29 B_X9_isLit_29 := fun p e s m args below meth c D ty ad A n0 φ0 Q G Y hY => (t_iinc G dX9_isLit_29 (by decide) (t_goto G dX9_isLit_32 (by decide) (hY 2)))
set_option maxRecDepth 100000 in
theorem m_X9_isLit (l : Launch) : s_Met l yX9_isLit cX9_isLit 3 ((some FieldType.boolean)) rm_X9_isLit false C_X9_isLit := by
  intro D ty ad av φ sz sh me Q hsh hC
  unfold C_X9_isLit at hC
  split at hC
  · exact s_met1 (P := P_X9_isLit) (by decide +kernel) (fun _ => ⟨rfl, rfl⟩) (fun p e s m args below meth c D ty ad A n0 φ0 Q G Y hY => s_tab_T _ (List.forall_mem_cons.mpr ⟨b_X9_isLit_0 l p e s m args below meth c D ty ad A n0 φ0 Q G Y hY, List.forall_mem_cons.mpr ⟨b_X9_isLit_2 l p e s m args below meth c D ty ad A n0 φ0 Q G Y hY, List.forall_mem_cons.mpr ⟨b_X9_isLit_29 l p e s m args below meth c D ty ad A n0 φ0 Q G Y hY, fun _ h => absurd h List.not_mem_nil⟩⟩⟩)) hsh rfl rfl (Nat.le_of_ble_eq_true rfl) hC
  · exact hC.elim
def B_X9_shows_0 (Q : SQ) (nx : Nat → SK) : SK := (o_aload 0 (o_getR 9 15 (o_iload 1 (o_iald (o_const (.int 1) (o_ic (fun x y => ¬ x = y) (o_aload 0 (o_getR 9 11 (o_iload 1 (o_iald (o_istore 2 (o_aload 0 (o_getR 9 9 (o_iload 1 (o_iald (o_const (.int 1) (o_ic (fun x y => x = y) (nx 39) (o_aload 0 (o_getR 9 9 (o_iload 1 (o_iald (o_const (.int 2) (o_ic (fun x y => ¬ x = y) (nx 43) (nx 39)))))))))))))))))) (o_const (.int 0) (o_iret Q))))))))
def B_X9_shows_39 (Q : SQ) (nx : Nat → SK) : SK := (o_iload 2 (o_const (.int 2) (o_i2 (fun x y => x * y) (o_istore 2 (nx 43)))))
def B_X9_shows_43 (Q : SQ) (nx : Nat → SK) : SK := (o_aload 0 (o_getR 9 9 (o_iload 1 (o_iald (o_const (.int 2) (o_ic (fun x y => ¬ x = y) (nx 62) (o_iload 2 (o_aload 0 (o_getR 9 10 (o_iload 1 (o_iald (o_i2 (fun x y => x + y) (o_istore 2 (nx 62))))))))))))))
def B_X9_shows_62 (Q : SQ) (nx : Nat → SK) : SK := (o_aload 0 (o_getR 9 9 (o_iload 1 (o_iald (o_const (.int 6) (o_ic (fun x y => ¬ x = y) (nx 96) (o_iload 2 (o_aload 0 (o_getR 9 12 (o_iload 1 (o_iald (o_ic (fun x y => x ≤ y) (o_const (.int 0) (nx 95)) (o_iload 2 (o_aload 0 (o_getR 9 12 (o_iload 1 (o_iald (o_i2 (fun x y => x - y) (nx 95)))))))))))))))))))
def B_X9_shows_95 (Q : SQ) (nx : Nat → SK) : SK := (o_istore 2 (nx 96))
def B_X9_shows_96 (Q : SQ) (nx : Nat → SK) : SK := (o_aload 0 (o_getI 9 3 (o_const (.int 1) (o_ic (fun x y => ¬ x = y) (o_iload 2 (nx 111)) (o_iload 2 (o_const (.int 2) (o_div (fun x y => x / y) (nx 111))))))))
def B_X9_shows_111 (Q : SQ) (nx : Nat → SK) : SK := (o_iret Q)
def P_X9_shows (Q : SQ) (nx : Nat → SK) : Nat → SK := s_tab [(0, B_X9_shows_0 Q nx), (39, B_X9_shows_39 Q nx), (43, B_X9_shows_43 Q nx), (62, B_X9_shows_62 Q nx), (95, B_X9_shows_95 Q nx), (96, B_X9_shows_96 Q nx), (111, B_X9_shows_111 Q nx)]
def C_X9_shows : SC := fun av sh me Q => match av with
  | [.ref a0, .int a1] => s_wp P_X9_shows Q 0 [some (.ref a0), some (.int a1), none] [] sh me
  | _ => False
abbrev rm_X9_shows : Room := { frames := 0, cells := 0, slots := 0, locals := 0 }
theorem hd_X9_shows : (yX9_shows).cls ≠ "java/lang/invoke/MethodHandle" ∧ (yX9_shows).cls ≠ "java/lang/invoke/VarHandle" ∧ (parseMethodDescriptor (yX9_shows).desc).map (fun d => d.parameters.length) = some 1 := by decide +kernel
set_option maxRecDepth 100000 in
set_option maxHeartbeats 4000000 in
theorem b_X9_shows_0 (l : Launch) : s_B l rm_X9_shows yX9_shows cX9_shows 3 ((some FieldType.int)) false 0 B_X9_shows_0 := fun p e s m args below meth c D ty ad A n0 φ0 Q G Y hY => (u_aload_n G dX9_shows_0 rfl (t_getR G cl_9 (k := 15) (by decide) (Or.inl q5_31) rfl (Or.inr ⟨_, rfl⟩) dX9_shows_1 (u_iload_n G dX9_shows_4 rfl (t_iald G dX9_shows_5 (u_iconst G dX9_shows_6 (by decide) (u_icmp_ne G dX9_shows_7 (by decide) (u_aload_n G dX9_shows_12 rfl (t_getR G cl_9 (k := 11) (by decide) (Or.inl q5_27) rfl (Or.inr ⟨_, rfl⟩) dX9_shows_13 (u_iload_n G dX9_shows_16 rfl (t_iald G dX9_shows_17 (u_istore_n G dX9_shows_18 rfl (u_aload_n G dX9_shows_19 rfl (t_getR G cl_9 (k := 9) (by decide) (Or.inl q5_25) rfl (Or.inr ⟨_, rfl⟩) dX9_shows_20 (u_iload_n G dX9_shows_23 rfl (t_iald G dX9_shows_24 (u_iconst G dX9_shows_25 (by decide) (u_icmp_eq G dX9_shows_26 (by decide) (hY 39) (u_aload_n G dX9_shows_29 rfl (t_getR G cl_9 (k := 9) (by decide) (Or.inl q5_25) rfl (Or.inr ⟨_, rfl⟩) dX9_shows_30 (u_iload_n G dX9_shows_33 rfl (t_iald G dX9_shows_34 (u_iconst G dX9_shows_35 (by decide) (u_icmp_ne G dX9_shows_36 (by decide) (hY 43) (hY 39)))))))))))))))))) (u_iconst G dX9_shows_10 (by decide) (t_iret G rfl dX9_shows_11))))))))
set_option maxRecDepth 100000 in
set_option maxHeartbeats 4000000 in
theorem b_X9_shows_39 (l : Launch) : s_B l rm_X9_shows yX9_shows cX9_shows 3 ((some FieldType.int)) false 39 B_X9_shows_39 := fun p e s m args below meth c D ty ad A n0 φ0 Q G Y hY => (u_iload_n G dX9_shows_39 rfl (u_iconst G dX9_shows_40 (by decide) (u_imul G dX9_shows_41 (u_istore_n G dX9_shows_42 rfl (hY 43)))))
set_option maxRecDepth 100000 in
set_option maxHeartbeats 4000000 in
theorem b_X9_shows_43 (l : Launch) : s_B l rm_X9_shows yX9_shows cX9_shows 3 ((some FieldType.int)) false 43 B_X9_shows_43 := fun p e s m args below meth c D ty ad A n0 φ0 Q G Y hY => (u_aload_n G dX9_shows_43 rfl (t_getR G cl_9 (k := 9) (by decide) (Or.inl q5_25) rfl (Or.inr ⟨_, rfl⟩) dX9_shows_44 (u_iload_n G dX9_shows_47 rfl (t_iald G dX9_shows_48 (u_iconst G dX9_shows_49 (by decide) (u_icmp_ne G dX9_shows_50 (by decide) (hY 62) (u_iload_n G dX9_shows_53 rfl (u_aload_n G dX9_shows_54 rfl (t_getR G cl_9 (k := 10) (by decide) (Or.inl q5_26) rfl (Or.inr ⟨_, rfl⟩) dX9_shows_55 (u_iload_n G dX9_shows_58 rfl (t_iald G dX9_shows_59 (u_iadd G dX9_shows_60 (u_istore_n G dX9_shows_61 rfl (hY 62))))))))))))))
set_option maxRecDepth 100000 in
set_option maxHeartbeats 4000000 in
theorem b_X9_shows_62 (l : Launch) : s_B l rm_X9_shows yX9_shows cX9_shows 3 ((some FieldType.int)) false 62 B_X9_shows_62 := fun p e s m args below meth c D ty ad A n0 φ0 Q G Y hY => (u_aload_n G dX9_shows_62 rfl (t_getR G cl_9 (k := 9) (by decide) (Or.inl q5_25) rfl (Or.inr ⟨_, rfl⟩) dX9_shows_63 (u_iload_n G dX9_shows_66 rfl (t_iald G dX9_shows_67 (u_bipush G dX9_shows_68 (by decide) (u_icmp_ne G dX9_shows_70 (by decide) (hY 96) (u_iload_n G dX9_shows_73 rfl (u_aload_n G dX9_shows_74 rfl (t_getR G cl_9 (k := 12) (by decide) (Or.inl q5_28) rfl (Or.inr ⟨_, rfl⟩) dX9_shows_75 (u_iload_n G dX9_shows_78 rfl (t_iald G dX9_shows_79 (u_icmp_le G dX9_shows_80 (by decide) (u_iconst G dX9_shows_94 (by decide) (hY 95)) (u_iload_n G dX9_shows_83 rfl (u_aload_n G dX9_shows_84 rfl (t_getR G cl_9 (k := 12) (by decide) (Or.inl q5_28) rfl (Or.inr ⟨_, rfl⟩) dX9_shows_85 (u_iload_n G dX9_shows_88 rfl (t_iald G dX9_shows_89 (u_isub G dX9_shows_90 (t_goto G dX9_shows_91 (by decide) (hY 95))))))))))))))))))))
set_option maxRecDepth 100000 in
set_option maxHeartbeats 4000000 in
theorem b_X9_shows_95 (l : Launch) : s_B l rm_X9_shows yX9_shows cX9_shows 3 ((some FieldType.int)) false 95 B_X9_shows_95 := fun p e s m args below meth c D ty ad A n0 φ0 Q G Y hY => (u_istore_n G dX9_shows_95 rfl (hY 96))
set_option maxRecDepth 100000 in
set_option maxHeartbeats 4000000 in
theorem b_X9_shows_96 (l : Launch) : s_B l rm_X9_shows yX9_shows cX9_shows 3 ((some FieldType.int)) false 96 B_X9_shows_96 := fun p e s m args below meth c D ty ad A n0 φ0 Q G Y hY => (u_aload_n G dX9_shows_96 rfl (t_getI G cl_9 (k := 3) (by decide) (Or.inl q5_19) rfl (Or.inl rfl) dX9_shows_97 (u_iconst G dX9_shows_100 (by decide) (u_icmp_ne G dX9_shows_101 (by decide) (u_iload_n G dX9_shows_110 rfl (hY 111)) (u_iload_n G dX9_shows_104 rfl (u_iconst G dX9_shows_105 (by decide) (u_idiv G dX9_shows_106 (t_goto G dX9_shows_107 (by decide) (hY 111)))))))))
set_option maxRecDepth 100000 in
set_option maxHeartbeats 4000000 in
theorem b_X9_shows_111 (l : Launch) : s_B l rm_X9_shows yX9_shows cX9_shows 3 ((some FieldType.int)) false 111 B_X9_shows_111 := fun p e s m args below meth c D ty ad A n0 φ0 Q G Y hY => (t_iret G rfl dX9_shows_111)
set_option maxRecDepth 100000 in
theorem m_X9_shows (l : Launch) : s_Met l yX9_shows cX9_shows 3 ((some FieldType.int)) rm_X9_shows false C_X9_shows := by
  intro D ty ad av φ sz sh me Q hsh hC
  unfold C_X9_shows at hC
  split at hC
  · exact s_met1 (P := P_X9_shows) (by decide +kernel) (fun _ => ⟨rfl, rfl⟩) (fun p e s m args below meth c D ty ad A n0 φ0 Q G Y hY => s_tab_T _ (List.forall_mem_cons.mpr ⟨b_X9_shows_0 l p e s m args below meth c D ty ad A n0 φ0 Q G Y hY, List.forall_mem_cons.mpr ⟨b_X9_shows_39 l p e s m args below meth c D ty ad A n0 φ0 Q G Y hY, List.forall_mem_cons.mpr ⟨b_X9_shows_43 l p e s m args below meth c D ty ad A n0 φ0 Q G Y hY, List.forall_mem_cons.mpr ⟨b_X9_shows_62 l p e s m args below meth c D ty ad A n0 φ0 Q G Y hY, List.forall_mem_cons.mpr ⟨b_X9_shows_95 l p e s m args below meth c D ty ad A n0 φ0 Q G Y hY, List.forall_mem_cons.mpr ⟨b_X9_shows_96 l p e s m args below meth c D ty ad A n0 φ0 Q G Y hY, List.forall_mem_cons.mpr ⟨b_X9_shows_111 l p e s m args below meth c D ty ad A n0 φ0 Q G Y hY, fun _ h => absurd h List.not_mem_nil⟩⟩⟩⟩⟩⟩⟩)) hsh rfl rfl (Nat.le_of_ble_eq_true rfl) hC
  · exact hC.elim
def B_X9_would_0 (Q : SQ) (nx : Nat → SK) : SK := (o_iload 1 (o_iload 2 (o_ic (fun x y => x = y) (nx 41) (o_iload 1 (o_aload 0 (o_getI 9 36 (o_ic (fun x y => x = y) (nx 41) (o_iload 2 (o_aload 0 (o_getI 9 36 (o_ic (fun x y => x = y) (nx 41) (o_aload 0 (o_getR 9 9 (o_iload 1 (o_iald (o_const (.int 3) (o_ic (fun x y => x = y) (nx 41) (o_aload 0 (o_getR 9 9 (o_iload 1 (o_iald (o_const (.int 5) (o_ic (fun x y => ¬ x = y) (o_aload 0 (o_aload 0 (o_getR 9 14 (o_iload 1 (o_iald (o_aload 0 (o_getR 9 14 (o_iload 2 (o_iald (o_callV C_X9_sees 9 3 (o_if (fun x => x = 0) (nx 97) (o_aload 0 (o_iload 2 (o_callV C_X9_shows 9 2 (o_aload 0 (o_getR 9 12 (o_iload 1 (o_iald (o_aload 0 (o_aload 0 (o_getR 9 14 (o_iload 1 (o_iald (o_aload 0 (o_getR 9 14 (o_iload 2 (o_iald (o_callV C_X9_distance 9 3 (o_i2 (fun x y => x + y) (o_ic (fun x y => x ≤ y) (nx 97) (o_const (.int 1) (nx 98)))))))))))))))))))))))))))))))) (nx 41))))))))))))))))))))))))
def B_X9_would_41 (Q : SQ) (nx : Nat → SK) : SK := (o_const (.int 0) (o_zret Q))
def B_X9_would_97 (Q : SQ) (nx : Nat → SK) : SK := (o_const (.int 0) (nx 98))
def B_X9_would_98 (Q : SQ) (nx : Nat → SK) : SK := (o_zret Q)
def P_X9_would (Q : SQ) (nx : Nat → SK) : Nat → SK := s_tab [(0, B_X9_would_0 Q nx), (41, B_X9_would_41 Q nx), (97, B_X9_would_97 Q nx), (98, B_X9_would_98 Q nx)]
def C_X9_would : SC := fun av sh me Q => match av with
  | [.ref a0, .int a1, .int a2] => s_wp P_X9_would Q 0 [some (.ref a0), some (.int a1), some (.int a2)] [] sh me
  | _ => False
abbrev rm_X9_would : Room := { frames := 2, cells := 0, slots := 0, locals := 51 }
theorem hd_X9_would : (yX9_would).cls ≠ "java/lang/invoke/MethodHandle" ∧ (yX9_would).cls ≠ "java/lang/invoke/VarHandle" ∧ (parseMethodDescriptor (yX9_would).desc).map (fun d => d.parameters.length) = some 2 := by decide +kernel
set_option maxRecDepth 100000 in
set_option maxHeartbeats 4000000 in
theorem b_X9_would_0 (l : Launch) : s_B l rm_X9_would yX9_would cX9_would 3 ((some FieldType.boolean)) false 0 B_X9_would_0 := fun p e s m args below meth c D ty ad A n0 φ0 Q G Y hY => (u_iload_n G dX9_would_0 rfl (u_iload_n G dX9_would_1 rfl (u_icmp_eq G dX9_would_2 (by decide) (hY 41) (u_iload_n G dX9_would_5 rfl (u_aload_n G dX9_would_6 rfl (t_getI G cl_9 (k := 36) (by decide) (Or.inl q5_52) rfl (Or.inl rfl) dX9_would_7 (u_icmp_eq G dX9_would_10 (by decide) (hY 41) (u_iload_n G dX9_would_13 rfl (u_aload_n G dX9_would_14 rfl (t_getI G cl_9 (k := 36) (by decide) (Or.inl q5_52) rfl (Or.inl rfl) dX9_would_15 (u_icmp_eq G dX9_would_18 (by decide) (hY 41) (u_aload_n G dX9_would_21 rfl (t_getR G cl_9 (k := 9) (by decide) (Or.inl q5_25) rfl (Or.inr ⟨_, rfl⟩) dX9_would_22 (u_iload_n G dX9_would_25 rfl (t_iald G dX9_would_26 (u_iconst G dX9_would_27 (by decide) (u_icmp_eq G dX9_would_28 (by decide) (hY 41) (u_aload_n G dX9_would_31 rfl (t_getR G cl_9 (k := 9) (by decide) (Or.inl q5_25) rfl (Or.inr ⟨_, rfl⟩) dX9_would_32 (u_iload_n G dX9_would_35 rfl (t_iald G dX9_would_36 (u_iconst G dX9_would_37 (by decide) (u_icmp_ne G dX9_would_38 (by decide) (u_aload_n G dX9_would_43 rfl (u_aload_n G dX9_would_44 rfl (t_getR G cl_9 (k := 14) (by decide) (Or.inl q5_30) rfl (Or.inr ⟨_, rfl⟩) dX9_would_45 (u_iload_n G dX9_would_48 rfl (t_iald G dX9_would_49 (u_aload_n G dX9_would_50 rfl (t_getR G cl_9 (k := 14) (by decide) (Or.inl q5_30) rfl (Or.inr ⟨_, rfl⟩) dX9_would_51 (u_iload_n G dX9_would_54 rfl (t_iald G dX9_would_55 (t_callV G cl_9 (m_X9_sees l) ⟨rfl, rfl⟩ rfl ⟨Nat.le_of_ble_eq_true rfl, Nat.le_of_ble_eq_true rfl⟩ q6_60 q1_10 (Or.inl q6_57) q6_59 qs_53 hd_X9_sees dX9_would_56 (u_if_eq G dX9_would_59 (by decide) (hY 97) (u_aload_n G dX9_would_62 rfl (u_iload_n G dX9_would_63 rfl (t_callV G cl_9 (m_X9_shows l) ⟨rfl, rfl⟩ rfl ⟨Nat.le_of_ble_eq_true rfl, Nat.le_of_ble_eq_true rfl⟩ q5_192 q1_10 (Or.inl q5_189) q5_191 qs_36 hd_X9_shows dX9_would_64 (u_aload_n G dX9_would_67 rfl (t_getR G cl_9 (k := 12) (by decide) (Or.inl q5_28) rfl (Or.inr ⟨_, rfl⟩) dX9_would_68 (u_iload_n G dX9_would_71 rfl (t_iald G dX9_would_72 (u_aload_n G dX9_would_73 rfl (u_aload_n G dX9_would_74 rfl (t_getR G cl_9 (k := 14) (by decide) (Or.inl q5_30) rfl (Or.inr ⟨_, rfl⟩) dX9_would_75 (u_iload_n G dX9_would_78 rfl (t_iald G dX9_would_79 (u_aload_n G dX9_would_80 rfl (t_getR G cl_9 (k := 14) (by decide) (Or.inl q5_30) rfl (Or.inr ⟨_, rfl⟩) dX9_would_81 (u_iload_n G dX9_would_84 rfl (t_iald G dX9_would_85 (t_callV G cl_9 (m_X9_distance l) ⟨rfl, rfl⟩ rfl ⟨Nat.le_of_ble_eq_true rfl, Nat.le_of_ble_eq_true rfl⟩ q6_64 q1_10 (Or.inl q6_61) q6_63 qs_54 hd_X9_distance dX9_would_86 (u_iadd G dX9_would_89 (u_icmp_le G dX9_would_90 (by decide) (hY 97) (u_iconst G dX9_would_93 (by decide) (t_goto G dX9_would_94 (by decide) (hY 98))))))))))))))))))))))))))))))))) (hY 41))))))))))))))))))))))))
set_option maxRecDepth 100000 in
set_option maxHeartbeats 4000000 in
theorem b_X9_would_41 (l : Launch) : s_B l rm_X9_would yX9_would cX9_would 3 ((some FieldType.boolean)) false 41 B_X9_would_41 := fun p e s m args below meth c D ty ad A n0 φ0 Q G Y hY => (u_iconst G dX9_would_41 (by decide) (t_zret G rfl dX9_would_42))
set_option maxRecDepth 100000 in
set_option maxHeartbeats 4000000 in
theorem b_X9_would_97 (l : Launch) : s_B l rm_X9_would yX9_would cX9_would 3 ((some FieldType.boolean)) false 97 B_X9_would_97 := fun p e s m args below meth c D ty ad A n0 φ0 Q G Y hY => (u_iconst G dX9_would_97 (by decide) (hY 98))
set_option maxRecDepth 100000 in
set_option maxHeartbeats 4000000 in
theorem b_X9_would_98 (l : Launch) : s_B l rm_X9_would yX9_would cX9_would 3 ((some FieldType.boolean)) false 98 B_X9_would_98 := fun p e s m args below meth c D ty ad A n0 φ0 Q G Y hY => (t_zret G rfl dX9_would_98)
set_option maxRecDepth 100000 in
theorem m_X9_would (l : Launch) : s_Met l yX9_would cX9_would 3 ((some FieldType.boolean)) rm_X9_would false C_X9_would := by
  intro D ty ad av φ sz sh me Q hsh hC
  unfold C_X9_would at hC
  split at hC
  · exact s_met1 (P := P_X9_would) (by decide +kernel) (fun _ => ⟨rfl, rfl⟩) (fun p e s m args below meth c D ty ad A n0 φ0 Q G Y hY => s_tab_T _ (List.forall_mem_cons.mpr ⟨b_X9_would_0 l p e s m args below meth c D ty ad A n0 φ0 Q G Y hY, List.forall_mem_cons.mpr ⟨b_X9_would_41 l p e s m args below meth c D ty ad A n0 φ0 Q G Y hY, List.forall_mem_cons.mpr ⟨b_X9_would_97 l p e s m args below meth c D ty ad A n0 φ0 Q G Y hY, List.forall_mem_cons.mpr ⟨b_X9_would_98 l p e s m args below meth c D ty ad A n0 φ0 Q G Y hY, fun _ h => absurd h List.not_mem_nil⟩⟩⟩⟩)) hsh rfl rfl (Nat.le_of_ble_eq_true rfl) hC
  · exact hC.elim
def B_X9_lookedAt_0 (Q : SQ) (nx : Nat → SK) : SK := (o_const (.int 0) (o_istore 2 (o_const (.int (-1)) (o_istore 3 (o_const (.int 0) (o_istore 4 (nx 7)))))))
def B_X9_lookedAt_7 (Q : SQ) (nx : Nat → SK) : SK := (o_iload 4 (o_aload 0 (o_getI 9 0 (o_ic (fun x y => y ≤ x) (o_aload 0 (o_getR 9 9 (o_iload 1 (o_iald (o_const (.int 4) (o_ic (fun x y => x = y) (nx 137) (o_aload 0 (o_getR 9 9 (o_iload 1 (o_iald (o_const (.int 6) (o_ic (fun x y => x = y) (nx 137) (o_iload 2 (o_iret Q)))))))))))))) (o_aload 0 (o_iload 1 (o_iload 4 (o_callV C_X9_would 9 3 (o_if (fun x => ¬ x = 0) (o_iload 2 (o_const (.int 1) (o_iload 4 (o_i2 (fun x y => x <<< (y &&& 31)) (o_i2 (fun x y => x + y) (o_istore 2 (o_iload 3 (o_const (.int (-1)) (o_ic (fun x y => ¬ x = y) (o_aload 0 (o_aload 0 (o_getR 9 14 (o_iload 1 (o_iald (o_aload 0 (o_getR 9 14 (o_iload 3 (o_iald (o_callV C_X9_distance 9 3 (o_aload 0 (o_aload 0 (o_getR 9 14 (o_iload 1 (o_iald (o_aload 0 (o_getR 9 14 (o_iload 4 (o_iald (o_callV C_X9_distance 9 3 (o_i2 (fun x y => x - y) (nx 79)))))))))))))))))))))) (o_const (.int 1) (nx 79))))))))))) (nx 108))))))))))
def B_X9_lookedAt_79 (Q : SQ) (nx : Nat → SK) : SK := (o_istore 5 (o_iload 5 (o_if (fun x => 0 < x) (nx 105) (o_iload 5 (o_if (fun x => ¬ x = 0) (nx 108) (o_aload 0 (o_iload 4 (o_callV C_X9_shows 9 2 (o_aload 0 (o_iload 3 (o_callV C_X9_shows 9 2 (o_ic (fun x y => x ≤ y) (nx 108) (nx 105)))))))))))))
def B_X9_lookedAt_105 (Q : SQ) (nx : Nat → SK) : SK := (o_iload 4 (o_istore 3 (nx 108)))
def B_X9_lookedAt_108 (Q : SQ) (nx : Nat → SK) : SK := (o_iinc 4 1 (nx 7))
def B_X9_lookedAt_137 (Q : SQ) (nx : Nat → SK) : SK := (o_iload 3 (o_const (.int (-1)) (o_ic (fun x y => ¬ x = y) (o_const (.int 1) (o_iload 3 (o_i2 (fun x y => x <<< (y &&& 31)) (nx 149)))) (o_const (.int 0) (nx 149)))))
def B_X9_lookedAt_149 (Q : SQ) (nx : Nat → SK) : SK := (o_iret Q)
def P_X9_lookedAt (Q : SQ) (nx : Nat → SK) : Nat → SK := s_tab [(0, B_X9_lookedAt_0 Q nx), (7, B_X9_lookedAt_7 Q nx), (79, B_X9_lookedAt_79 Q nx), (105, B_X9_lookedAt_105 Q nx), (108, B_X9_lookedAt_108 Q nx), (137, B_X9_lookedAt_137 Q nx), (149, B_X9_lookedAt_149 Q nx)]
def C_X9_lookedAt : SC := fun av sh me Q => match av with
  | [.ref a0, .int a1] => s_wp P_X9_lookedAt Q 0 [some (.ref a0), some (.int a1), none, none, none, none] [] sh me
  | _ => False
abbrev rm_X9_lookedAt : Room := { frames := 3, cells := 0, slots := 0, locals := 73 }
theorem hd_X9_lookedAt : (yX9_lookedAt).cls ≠ "java/lang/invoke/MethodHandle" ∧ (yX9_lookedAt).cls ≠ "java/lang/invoke/VarHandle" ∧ (parseMethodDescriptor (yX9_lookedAt).desc).map (fun d => d.parameters.length) = some 1 := by decide +kernel
set_option maxRecDepth 100000 in
set_option maxHeartbeats 4000000 in
theorem b_X9_lookedAt_0 (l : Launch) : s_B l rm_X9_lookedAt yX9_lookedAt cX9_lookedAt 6 ((some FieldType.int)) false 0 B_X9_lookedAt_0 := fun p e s m args below meth c D ty ad A n0 φ0 Q G Y hY => (u_iconst G dX9_lookedAt_0 (by decide) (u_istore_n G dX9_lookedAt_1 rfl (u_iconst G dX9_lookedAt_2 (by decide) (u_istore_n G dX9_lookedAt_3 rfl (u_iconst G dX9_lookedAt_4 (by decide) (u_istore G dX9_lookedAt_5 (hY 7)))))))
set_option maxRecDepth 100000 in
set_option maxHeartbeats 4000000 in
theorem b_X9_lookedAt_7 (l : Launch) : s_B l rm_X9_lookedAt yX9_lookedAt cX9_lookedAt 6 ((some FieldType.int)) false 7 B_X9_lookedAt_7 := fun p e s m args below meth c D ty ad A n0 φ0 Q G Y hY => (u_iload G dX9_lookedAt_7 (u_aload_n G dX9_lookedAt_9 rfl (t_getI G cl_9 (k := 0) (by decide) (Or.inl q5_16) rfl (Or.inl rfl) dX9_lookedAt_10 (u_icmp_ge G dX9_lookedAt_13 (by decide) (u_aload_n G dX9_lookedAt_114 rfl (t_getR G cl_9 (k := 9) (by decide) (Or.inl q5_25) rfl (Or.inr ⟨_, rfl⟩) dX9_lookedAt_115 (u_iload_n G dX9_lookedAt_118 rfl (t_iald G dX9_lookedAt_119 (u_iconst G dX9_lookedAt_120 (by decide) (u_icmp_eq G dX9_lookedAt_121 (by decide) (hY 137) (u_aload_n G dX9_lookedAt_124 rfl (t_getR G cl_9 (k := 9) (by decide) (Or.inl q5_25) rfl (Or.inr ⟨_, rfl⟩) dX9_lookedAt_125 (u_iload_n G dX9_lookedAt_128 rfl (t_iald G dX9_lookedAt_129 (u_bipush G dX9_lookedAt_130 (by decide) (u_icmp_eq G dX9_lookedAt_132 (by decide) (hY 137) (u_iload_n G dX9_lookedAt_135 rfl (t_iret G rfl dX9_lookedAt_136)))))))))))))) (u_aload_n G dX9_lookedAt_16 rfl (u_iload_n G dX9_lookedAt_17 rfl (u_iload G dX9_lookedAt_18 (t_callV G cl_9 (m_X9_would l) ⟨rfl, rfl⟩ rfl ⟨Nat.le_of_ble_eq_true rfl, Nat.le_of_ble_eq_true rfl⟩ q6_80 q1_10 (Or.inl q6_77) q6_79 qs_57 hd_X9_would dX9_lookedAt_20 (u_if_ne G dX9_lookedAt_23 (by decide) (u_iload_n G dX9_lookedAt_29 rfl (u_iconst G dX9_lookedAt_30 (by decide) (u_iload G dX9_lookedAt_31 (u_ishl G dX9_lookedAt_33 (u_iadd G dX9_lookedAt_34 (u_istore_n G dX9_lookedAt_35 rfl (u_iload_n G dX9_lookedAt_36 rfl (u_iconst G dX9_lookedAt_37 (by decide) (u_icmp_ne G dX9_lookedAt_38 (by decide) (u_aload_n G dX9_lookedAt_45 rfl (u_aload_n G dX9_lookedAt_46 rfl (t_getR G cl_9 (k := 14) (by decide) (Or.inl q5_30) rfl (Or.inr ⟨_, rfl⟩) dX9_lookedAt_47 (u_iload_n G dX9_lookedAt_50 rfl (t_iald G dX9_lookedAt_51 (u_aload_n G dX9_lookedAt_52 rfl (t_getR G cl_9 (k := 14) (by decide) (Or.inl q5_30) rfl (Or.inr ⟨_, rfl⟩) dX9_lookedAt_53 (u_iload_n G dX9_lookedAt_56 rfl (t_iald G dX9_lookedAt_57 (t_callV G cl_9 (m_X9_distance l) ⟨rfl, rfl⟩ rfl ⟨Nat.le_of_ble_eq_true rfl, Nat.le_of_ble_eq_true rfl⟩ q6_64 q1_10 (Or.inl q6_61) q6_63 qs_54 hd_X9_distance dX9_lookedAt_58 (u_aload_n G dX9_lookedAt_61 rfl (u_aload_n G dX9_lookedAt_62 rfl (t_getR G cl_9 (k := 14) (by decide) (Or.inl q5_30) rfl (Or.inr ⟨_, rfl⟩) dX9_lookedAt_63 (u_iload_n G dX9_lookedAt_66 rfl (t_iald G dX9_lookedAt_67 (u_aload_n G dX9_lookedAt_68 rfl (t_getR G cl_9 (k := 14) (by decide) (Or.inl q5_30) rfl (Or.inr ⟨_, rfl⟩) dX9_lookedAt_69 (u_iload G dX9_lookedAt_72 (t_iald G dX9_lookedAt_74 (t_callV G cl_9 (m_X9_distance l) ⟨rfl, rfl⟩ rfl ⟨Nat.le_of_ble_eq_true rfl, Nat.le_of_ble_eq_true rfl⟩ q6_64 q1_10 (Or.inl q6_61) q6_63 qs_54 hd_X9_distance dX9_lookedAt_75 (u_isub G dX9_lookedAt_78 (hY 79)))))))))))))))))))))) (u_iconst G dX9_lookedAt_41 (by decide) (t_goto G dX9_lookedAt_42 (by decide) (hY 79)))))))))))) (t_goto G dX9_lookedAt_26 (by decide) (hY 108)))))))))))
set_option maxRecDepth 100000 in
set_option maxHeartbeats 4000000 in
theorem b_X9_lookedAt_79 (l : Launch) : s_B l rm_X9_lookedAt yX9_lookedAt cX9_lookedAt 6 ((some FieldType.int)) false 79 B_X9_lookedAt_79 := fun p e s m args below meth c D ty ad A n0 φ0 Q G Y hY => (u_istore G dX9_lookedAt_79 (u_iload G dX9_lookedAt_81 (u_if_gt G dX9_lookedAt_83 (by decide) (hY 105) (u_iload G dX9_lookedAt_86 (u_if_ne G dX9_lookedAt_88 (by decide) (hY 108) (u_aload_n G dX9_lookedAt_91 rfl (u_iload G dX9_lookedAt_92 (t_callV G cl_9 (m_X9_shows l) ⟨rfl, rfl⟩ rfl ⟨Nat.le_of_ble_eq_true rfl, Nat.le_of_ble_eq_true rfl⟩ q5_192 q1_10 (Or.inl q5_189) q5_191 qs_36 hd_X9_shows dX9_lookedAt_94 (u_aload_n G dX9_lookedAt_97 rfl (u_iload_n G dX9_lookedAt_98 rfl (t_callV G cl_9 (m_X9_shows l) ⟨rfl, rfl⟩ rfl ⟨Nat.le_of_ble_eq_true rfl, Nat.le_of_ble_eq_true rfl⟩ q5_192 q1_10 (Or.inl q5_189) q5_191 qs_36 hd_X9_shows dX9_lookedAt_99 (u_icmp_le G dX9_lookedAt_102 (by decide) (hY 108) (hY 105)))))))))))))
set_option maxRecDepth 100000 in
set_option maxHeartbeats 4000000 in
theorem b_X9_lookedAt_105 (l : Launch) : s_B l rm_X9_lookedAt yX9_lookedAt cX9_lookedAt 6 ((some FieldType.int)) false 105 B_X9_lookedAt_105 := fun p e s m args below meth c D ty ad A n0 φ0 Q G Y hY => (u_iload G dX9_lookedAt_105 (u_istore_n G dX9_lookedAt_107 rfl (hY 108)))
set_option maxRecDepth 100000 in
set_option maxHeartbeats 4000000 in
theorem b_X9_lookedAt_108 (l : Launch) : s_B l rm_X9_lookedAt yX9_lookedAt cX9_lookedAt 6 ((some FieldType.int)) false 108 B_X9_lookedAt_108 := fun p e s m args below meth c D ty ad A n0 φ0 Q G Y hY => (t_iinc G dX9_lookedAt_108 (by decide) (t_goto G dX9_lookedAt_111 (by decide) (hY 7)))
set_option maxRecDepth 100000 in
set_option maxHeartbeats 4000000 in
theorem b_X9_lookedAt_137 (l : Launch) : s_B l rm_X9_lookedAt yX9_lookedAt cX9_lookedAt 6 ((some FieldType.int)) false 137 B_X9_lookedAt_137 := fun p e s m args below meth c D ty ad A n0 φ0 Q G Y hY => (u_iload_n G dX9_lookedAt_137 rfl (u_iconst G dX9_lookedAt_138 (by decide) (u_icmp_ne G dX9_lookedAt_139 (by decide) (u_iconst G dX9_lookedAt_146 (by decide) (u_iload_n G dX9_lookedAt_147 rfl (u_ishl G dX9_lookedAt_148 (hY 149)))) (u_iconst G dX9_lookedAt_142 (by decide) (t_goto G dX9_lookedAt_143 (by decide) (hY 149))))))
set_option maxRecDepth 100000 in
set_option maxHeartbeats 4000000 in
theorem b_X9_lookedAt_149 (l : Launch) : s_B l rm_X9_lookedAt yX9_lookedAt cX9_lookedAt 6 ((some FieldType.int)) false 149 B_X9_lookedAt_149 := fun p e s m args below meth c D ty ad A n0 φ0 Q G Y hY => (t_iret G rfl dX9_lookedAt_149)
set_option maxRecDepth 100000 in
theorem m_X9_lookedAt (l : Launch) : s_Met l yX9_lookedAt cX9_lookedAt 6 ((some FieldType.int)) rm_X9_lookedAt false C_X9_lookedAt := by
  intro D ty ad av φ sz sh me Q hsh hC
  unfold C_X9_lookedAt at hC
  split at hC
  · exact s_met1 (P := P_X9_lookedAt) (by decide +kernel) (fun _ => ⟨rfl, rfl⟩) (fun p e s m args below meth c D ty ad A n0 φ0 Q G Y hY => s_tab_T _ (List.forall_mem_cons.mpr ⟨b_X9_lookedAt_0 l p e s m args below meth c D ty ad A n0 φ0 Q G Y hY, List.forall_mem_cons.mpr ⟨b_X9_lookedAt_7 l p e s m args below meth c D ty ad A n0 φ0 Q G Y hY, List.forall_mem_cons.mpr ⟨b_X9_lookedAt_79 l p e s m args below meth c D ty ad A n0 φ0 Q G Y hY, List.forall_mem_cons.mpr ⟨b_X9_lookedAt_105 l p e s m args below meth c D ty ad A n0 φ0 Q G Y hY, List.forall_mem_cons.mpr ⟨b_X9_lookedAt_108 l p e s m args below meth c D ty ad A n0 φ0 Q G Y hY, List.forall_mem_cons.mpr ⟨b_X9_lookedAt_137 l p e s m args below meth c D ty ad A n0 φ0 Q G Y hY, List.forall_mem_cons.mpr ⟨b_X9_lookedAt_149 l p e s m args below meth c D ty ad A n0 φ0 Q G Y hY, fun _ h => absurd h List.not_mem_nil⟩⟩⟩⟩⟩⟩⟩)) hsh rfl rfl (Nat.le_of_ble_eq_true rfl) hC
  · exact hC.elim
def B_X9_lookers_0 (Q : SQ) (nx : Nat → SK) : SK := (o_const (.int 0) (o_istore 2 (o_const (.int 0) (o_istore 3 (nx 4)))))
def B_X9_lookers_4 (Q : SQ) (nx : Nat → SK) : SK := (o_iload 3 (o_aload 0 (o_getI 9 0 (o_ic (fun x y => y ≤ x) (o_iload 2 (o_iret Q)) (o_aload 0 (o_iload 3 (o_callV C_X9_lookedAt 9 2 (o_iload 1 (o_i2 (fun x y => x >>> (y &&& 31)) (o_const (.int 1) (o_i2 (fun x y => x &&& y) (o_const (.int 1) (o_ic (fun x y => ¬ x = y) (nx 31) (o_iload 2 (o_const (.int 1) (o_iload 3 (o_i2 (fun x y => x <<< (y &&& 31)) (o_i2 (fun x y => x + y) (o_istore 2 (nx 31))))))))))))))))))))
def B_X9_lookers_31 (Q : SQ) (nx : Nat → SK) : SK := (o_iinc 3 1 (nx 4))
def P_X9_lookers (Q : SQ) (nx : Nat → SK) : Nat → SK := s_tab [(0, B_X9_lookers_0 Q nx), (4, B_X9_lookers_4 Q nx), (31, B_X9_lookers_31 Q nx)]
def C_X9_lookers : SC := fun av sh me Q => match av with
  | [.ref a0, .int a1] => s_wp P_X9_lookers Q 0 [some (.ref a0), some (.int a1), none, none] [] sh me
  | _ => False
abbrev rm_X9_lookers : Room := { frames := 4, cells := 0, slots := 0, locals := 98 }
theorem hd_X9_lookers : (yX9_lookers).cls ≠ "java/lang/invoke/MethodHandle" ∧ (yX9_lookers).cls ≠ "java/lang/invoke/VarHandle" ∧ (parseMethodDescriptor (yX9_lookers).desc).map (fun d => d.parameters.length) = some 1 := by decide +kernel
set_option maxRecDepth 100000 in
set_option maxHeartbeats 4000000 in
theorem b_X9_lookers_0 (l : Launch) : s_B l rm_X9_lookers yX9_lookers cX9_lookers 4 ((some FieldType.int)) false 0 B_X9_lookers_0 := fun p e s m args below meth c D ty ad A n0 φ0 Q G Y hY => (u_iconst G dX9_lookers_0 (by decide) (u_istore_n G dX9_lookers_1 rfl (u_iconst G dX9_lookers_2 (by decide) (u_istore_n G dX9_lookers_3 rfl (hY 4)))))
set_option maxRecDepth 100000 in
set_option maxHeartbeats 4000000 in
theorem b_X9_lookers_4 (l : Launch) : s_B l rm_X9_lookers yX9_lookers cX9_lookers 4 ((some FieldType.int)) false 4 B_X9_lookers_4 := fun p e s m args below meth c D ty ad A n0 φ0 Q G Y hY => (u_iload_n G dX9_lookers_4 rfl (u_aload_n G dX9_lookers_5 rfl (t_getI G cl_9 (k := 0) (by decide) (Or.inl q5_16) rfl (Or.inl rfl) dX9_lookers_6 (u_icmp_ge G dX9_lookers_9 (by decide) (u_iload_n G dX9_lookers_37 rfl (t_iret G rfl dX9_lookers_38)) (u_aload_n G dX9_lookers_12 rfl (u_iload_n G dX9_lookers_13 rfl (t_callV G cl_9 (m_X9_lookedAt l) ⟨rfl, rfl⟩ rfl ⟨Nat.le_of_ble_eq_true rfl, Nat.le_of_ble_eq_true rfl⟩ q6_76 q1_10 (Or.inl q6_73) q6_75 qs_56 hd_X9_lookedAt dX9_lookers_14 (u_iload_n G dX9_lookers_17 rfl (u_ishr G dX9_lookers_18 (u_iconst G dX9_lookers_19 (by decide) (u_iand G dX9_lookers_20 (u_iconst G dX9_lookers_21 (by decide) (u_icmp_ne G dX9_lookers_22 (by decide) (hY 31) (u_iload_n G dX9_lookers_25 rfl (u_iconst G dX9_lookers_26 (by decide) (u_iload_n G dX9_lookers_27 rfl (u_ishl G dX9_lookers_28 (u_iadd G dX9_lookers_29 (u_istore_n G dX9_lookers_30 rfl (hY 31))))))))))))))))))))
set_option maxRecDepth 100000 in
set_option maxHeartbeats 4000000 in
theorem b_X9_lookers_31 (l : Launch) : s_B l rm_X9_lookers yX9_lookers cX9_lookers 4 ((some FieldType.int)) false 31 B_X9_lookers_31 := fun p e s m args below meth c D ty ad A n0 φ0 Q G Y hY => (t_iinc G dX9_lookers_31 (by decide) (t_goto G dX9_lookers_34 (by decide) (hY 4)))
set_option maxRecDepth 100000 in
theorem m_X9_lookers (l : Launch) : s_Met l yX9_lookers cX9_lookers 4 ((some FieldType.int)) rm_X9_lookers false C_X9_lookers := by
  intro D ty ad av φ sz sh me Q hsh hC
  unfold C_X9_lookers at hC
  split at hC
  · exact s_met1 (P := P_X9_lookers) (by decide +kernel) (fun _ => ⟨rfl, rfl⟩) (fun p e s m args below meth c D ty ad A n0 φ0 Q G Y hY => s_tab_T _ (List.forall_mem_cons.mpr ⟨b_X9_lookers_0 l p e s m args below meth c D ty ad A n0 φ0 Q G Y hY, List.forall_mem_cons.mpr ⟨b_X9_lookers_4 l p e s m args below meth c D ty ad A n0 φ0 Q G Y hY, List.forall_mem_cons.mpr ⟨b_X9_lookers_31 l p e s m args below meth c D ty ad A n0 φ0 Q G Y hY, fun _ h => absurd h List.not_mem_nil⟩⟩⟩)) hsh rfl rfl (Nat.le_of_ble_eq_true rfl) hC
  · exact hC.elim
