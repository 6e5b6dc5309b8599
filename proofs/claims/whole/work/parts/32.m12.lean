def B_X9_seers_0 (Q : SQ) (nx : Nat → SK) : SK := (o_const (.int 0) (o_istore 2 (o_const (.int 0) (o_istore 3 (nx 4)))))
def B_X9_seers_4 (Q : SQ) (nx : Nat → SK) : SK := (o_iload 3 (o_aload 0 (o_getI 9 0 (o_ic (fun x y => y ≤ x) (o_iload 2 (o_iret Q)) (o_aload 0 (o_getR 9 9 (o_iload 3 (o_iald (o_const (.int 3) (o_ic (fun x y => x = y) (nx 49) (o_aload 0 (o_getR 9 9 (o_iload 3 (o_iald (o_const (.int 5) (o_ic (fun x y => x = y) (nx 49) (o_aload 0 (o_aload 0 (o_getR 9 14 (o_iload 3 (o_iald (o_iload 1 (o_callV C_X9_sees 9 3 (o_if (fun x => x = 0) (nx 49) (o_iinc 2 1 (nx 49))))))))))))))))))))))))))
def B_X9_seers_49 (Q : SQ) (nx : Nat → SK) : SK := (o_iinc 3 1 (nx 4))
def P_X9_seers (Q : SQ) (nx : Nat → SK) : Nat → SK := s_tab [(0, B_X9_seers_0 Q nx), (4, B_X9_seers_4 Q nx), (49, B_X9_seers_49 Q nx)]
def C_X9_seers : SC := fun av sh me Q => match av with
  | [.ref a0, .int a1] => s_wp P_X9_seers Q 0 [some (.ref a0), some (.int a1), none, none] [] sh me
  | _ => False
abbrev rm_X9_seers : Room := { frames := 2, cells := 0, slots := 0, locals := 51 }
theorem hd_X9_seers : (yX9_seers).cls ≠ "java/lang/invoke/MethodHandle" ∧ (yX9_seers).cls ≠ "java/lang/invoke/VarHandle" ∧ (parseMethodDescriptor (yX9_seers).desc).map (fun d => d.parameters.length) = some 1 := by decide +kernel
set_option maxRecDepth 100000 in
set_option maxHeartbeats 4000000 in
theorem b_X9_seers_0 (l : Launch) : s_B l rm_X9_seers yX9_seers cX9_seers 4 ((some FieldType.int)) false 0 B_X9_seers_0 := fun p e s m args below meth c D ty ad A n0 φ0 Q G Y hY => (u_iconst G dX9_seers_0 (by decide) (u_istore_n G dX9_seers_1 rfl (u_iconst G dX9_seers_2 (by decide) (u_istore_n G dX9_seers_3 rfl (hY 4)))))
set_option maxRecDepth 100000 in
set_option maxHeartbeats 4000000 in
theorem b_X9_seers_4 (l : Launch) : s_B l rm_X9_seers yX9_seers cX9_seers 4 ((some FieldType.int)) false 4 B_X9_seers_4 := fun p e s m args below meth c D ty ad A n0 φ0 Q G Y hY => (u_iload_n G dX9_seers_4 rfl (u_aload_n G dX9_seers_5 rfl (t_getI G cl_9 (k := 0) (by decide) (Or.inl q5_16) rfl (Or.inl rfl) dX9_seers_6 (u_icmp_ge G dX9_seers_9 (by decide) (u_iload_n G dX9_seers_55 rfl (t_iret G rfl dX9_seers_56)) (u_aload_n G dX9_seers_12 rfl (t_getR G cl_9 (k := 9) (by decide) (Or.inl q5_25) rfl (Or.inr ⟨_, rfl⟩) dX9_seers_13 (u_iload_n G dX9_seers_16 rfl (t_iald G dX9_seers_17 (u_iconst G dX9_seers_18 (by decide) (u_icmp_eq G dX9_seers_19 (by decide) (hY 49) (u_aload_n G dX9_seers_22 rfl (t_getR G cl_9 (k := 9) (by decide) (Or.inl q5_25) rfl (Or.inr ⟨_, rfl⟩) dX9_seers_23 (u_iload_n G dX9_seers_26 rfl (t_iald G dX9_seers_27 (u_iconst G dX9_seers_28 (by decide) (u_icmp_eq G dX9_seers_29 (by decide) (hY 49) (u_aload_n G dX9_seers_32 rfl (u_aload_n G dX9_seers_33 rfl (t_getR G cl_9 (k := 14) (by decide) (Or.inl q5_30) rfl (Or.inr ⟨_, rfl⟩) dX9_seers_34 (u_iload_n G dX9_seers_37 rfl (t_iald G dX9_seers_38 (u_iload_n G dX9_seers_39 rfl (t_callV G cl_9 (m_X9_sees l) ⟨rfl, rfl⟩ rfl ⟨Nat.le_of_ble_eq_true rfl, Nat.le_of_ble_eq_true rfl⟩ q6_60 q1_10 (Or.inl q6_57) q6_59 qs_53 hd_X9_sees dX9_seers_40 (u_if_eq G dX9_seers_43 (by decide) (hY 49) (t_iinc G dX9_seers_46 (by decide) (hY 49))))))))))))))))))))))))))
set_option maxRecDepth 100000 in
set_option maxHeartbeats 4000000 in
theorem b_X9_seers_49 (l : Launch) : s_B l rm_X9_seers yX9_seers cX9_seers 4 ((some FieldType.int)) false 49 B_X9_seers_49 := fun p e s m args below meth c D ty ad A n0 φ0 Q G Y hY => (t_iinc G dX9_seers_49 (by decide) (t_goto G dX9_seers_52 (by decide) (hY 4)))
set_option maxRecDepth 100000 in
theorem m_X9_seers (l : Launch) : s_Met l yX9_seers cX9_seers 4 ((some FieldType.int)) rm_X9_seers false C_X9_seers := by
  intro D ty ad av φ sz sh me Q hsh hC
  unfold C_X9_seers at hC
  split at hC
  · exact s_met1 (P := P_X9_seers) (by decide +kernel) (fun _ => ⟨rfl, rfl⟩) (fun p e s m args below meth c D ty ad A n0 φ0 Q G Y hY => s_tab_T _ (List.forall_mem_cons.mpr ⟨b_X9_seers_0 l p e s m args below meth c D ty ad A n0 φ0 Q G Y hY, List.forall_mem_cons.mpr ⟨b_X9_seers_4 l p e s m args below meth c D ty ad A n0 φ0 Q G Y hY, List.forall_mem_cons.mpr ⟨b_X9_seers_49 l p e s m args below meth c D ty ad A n0 φ0 Q G Y hY, fun _ h => absurd h List.not_mem_nil⟩⟩⟩)) hsh rfl rfl (Nat.le_of_ble_eq_true rfl) hC
  · exact hC.elim
def B_X9_crowd_0 (Q : SQ) (nx : Nat → SK) : SK := (o_iload 1 (o_if (fun x => x < 0) (nx 9) (o_iload 1 (o_const (.int 1) (o_ic (fun x y => x ≤ y) (o_const (.int 0) (o_istore 2 (o_const (.int 0) (o_istore 3 (o_const (.int 0) (o_istore 4 (nx 23))))))) (nx 9))))))
def B_X9_crowd_9 (Q : SQ) (nx : Nat → SK) : SK := (o_aload 0 (o_const (.int (-5)) (o_callV C_X9_no 9 2 (o_iret Q))))
def B_X9_crowd_23 (Q : SQ) (nx : Nat → SK) : SK := (o_iload 4 (o_const (.int 36) (o_ic (fun x y => y ≤ x) (o_iload 1 (o_if (fun x => ¬ x = 0) (o_iload 3 (nx 74)) (o_iload 2 (nx 74)))) (o_aload 0 (o_iload 4 (o_callV C_X9_seers 9 2 (o_aload 0 (o_iload 2 (o_callV C_X9_seers 9 2 (o_ic (fun x y => x ≤ y) (nx 47) (o_iload 4 (o_istore 2 (nx 47)))))))))))))
def B_X9_crowd_47 (Q : SQ) (nx : Nat → SK) : SK := (o_aload 0 (o_iload 4 (o_callV C_X9_isLit 9 2 (o_if (fun x => x = 0) (nx 59) (o_iinc 3 1 (nx 59))))))
def B_X9_crowd_59 (Q : SQ) (nx : Nat → SK) : SK := (o_iinc 4 1 (nx 23))
def B_X9_crowd_74 (Q : SQ) (nx : Nat → SK) : SK := (o_iret Q)
def P_X9_crowd (Q : SQ) (nx : Nat → SK) : Nat → SK := s_tab [(0, B_X9_crowd_0 Q nx), (9, B_X9_crowd_9 Q nx), (23, B_X9_crowd_23 Q nx), (47, B_X9_crowd_47 Q nx), (59, B_X9_crowd_59 Q nx), (74, B_X9_crowd_74 Q nx)]
def C_X9_crowd : SC := fun av sh me Q => match av with
  | [.ref a0, .int a1] => s_wp P_X9_crowd Q 0 [some (.ref a0), some (.int a1), none, none, none] [] sh me
  | _ => False
abbrev rm_X9_crowd : Room := { frames := 3, cells := 0, slots := 0, locals := 74 }
theorem hd_X9_crowd : (yX9_crowd).cls ≠ "java/lang/invoke/MethodHandle" ∧ (yX9_crowd).cls ≠ "java/lang/invoke/VarHandle" ∧ (parseMethodDescriptor (yX9_crowd).desc).map (fun d => d.parameters.length) = some 1 := by decide +kernel
set_option maxRecDepth 100000 in
set_option maxHeartbeats 4000000 in
theorem b_X9_crowd_0 (l : Launch) : s_B l rm_X9_crowd yX9_crowd cX9_crowd 5 ((some FieldType.int)) false 0 B_X9_crowd_0 := fun p e s m args below meth c D ty ad A n0 φ0 Q G Y hY => (u_iload_n G dX9_crowd_0 rfl (u_if_lt G dX9_crowd_1 (by decide) (hY 9) (u_iload_n G dX9_crowd_4 rfl (u_iconst G dX9_crowd_5 (by decide) (u_icmp_le G dX9_crowd_6 (by decide) (u_iconst G dX9_crowd_16 (by decide) (u_istore_n G dX9_crowd_17 rfl (u_iconst G dX9_crowd_18 (by decide) (u_istore_n G dX9_crowd_19 rfl (u_iconst G dX9_crowd_20 (by decide) (u_istore G dX9_crowd_21 (hY 23))))))) (hY 9))))))
set_option maxRecDepth 100000 in
set_option maxHeartbeats 4000000 in
theorem b_X9_crowd_9 (l : Launch) : s_B l rm_X9_crowd yX9_crowd cX9_crowd 5 ((some FieldType.int)) false 9 B_X9_crowd_9 := fun p e s m args below meth c D ty ad A n0 φ0 Q G Y hY => (u_aload_n G dX9_crowd_9 rfl (u_bipush G dX9_crowd_10 (by decide) (t_callV G cl_9 (m_X9_no l) ⟨rfl, rfl⟩ rfl ⟨Nat.le_of_ble_eq_true rfl, Nat.le_of_ble_eq_true rfl⟩ q5_160 q1_10 (Or.inl q5_157) q5_159 qs_34 hd_X9_no dX9_crowd_12 (t_iret G rfl dX9_crowd_15))))
set_option maxRecDepth 100000 in
set_option maxHeartbeats 4000000 in
theorem b_X9_crowd_23 (l : Launch) : s_B l rm_X9_crowd yX9_crowd cX9_crowd 5 ((some FieldType.int)) false 23 B_X9_crowd_23 := fun p e s m args below meth c D ty ad A n0 φ0 Q G Y hY => (u_iload G dX9_crowd_23 (u_bipush G dX9_crowd_25 (by decide) (u_icmp_ge G dX9_crowd_27 (by decide) (u_iload_n G dX9_crowd_65 rfl (u_if_ne G dX9_crowd_66 (by decide) (u_iload_n G dX9_crowd_73 rfl (hY 74)) (u_iload_n G dX9_crowd_69 rfl (t_goto G dX9_crowd_70 (by decide) (hY 74))))) (u_aload_n G dX9_crowd_30 rfl (u_iload G dX9_crowd_31 (t_callV G cl_9 (m_X9_seers l) ⟨rfl, rfl⟩ rfl ⟨Nat.le_of_ble_eq_true rfl, Nat.le_of_ble_eq_true rfl⟩ q6_173 q1_10 (Or.inl q6_170) q6_172 qs_71 hd_X9_seers dX9_crowd_33 (u_aload_n G dX9_crowd_36 rfl (u_iload_n G dX9_crowd_37 rfl (t_callV G cl_9 (m_X9_seers l) ⟨rfl, rfl⟩ rfl ⟨Nat.le_of_ble_eq_true rfl, Nat.le_of_ble_eq_true rfl⟩ q6_173 q1_10 (Or.inl q6_170) q6_172 qs_71 hd_X9_seers dX9_crowd_38 (u_icmp_le G dX9_crowd_41 (by decide) (hY 47) (u_iload G dX9_crowd_44 (u_istore_n G dX9_crowd_46 rfl (hY 47)))))))))))))
set_option maxRecDepth 100000 in
set_option maxHeartbeats 4000000 in
theorem b_X9_crowd_47 (l : Launch) : s_B l rm_X9_crowd yX9_crowd cX9_crowd 5 ((some FieldType.int)) false 47 B_X9_crowd_47 := fun p e s m args below meth c D ty ad A n0 φ0 Q G Y hY => (u_aload_n G dX9_crowd_47 rfl (u_iload G dX9_crowd_48 (t_callV G cl_9 (m_X9_isLit l) ⟨rfl, rfl⟩ rfl ⟨Nat.le_of_ble_eq_true rfl, Nat.le_of_ble_eq_true rfl⟩ q6_92 q1_10 (Or.inl q6_89) q6_91 qs_59 hd_X9_isLit dX9_crowd_50 (u_if_eq G dX9_crowd_53 (by decide) (hY 59) (t_iinc G dX9_crowd_56 (by decide) (hY 59))))))
set_option maxRecDepth 100000 in
set_option maxHeartbeats 4000000 in
theorem b_X9_crowd_59 (l : Launch) : s_B l rm_X9_crowd yX9_crowd cX9_crowd 5 ((some FieldType.int)) false 59 B_X9_crowd_59 := fun p e s m args below meth c D ty ad A n0 φ0 Q G Y hY => (t_iinc G dX9_crowd_59 (by decide) (t_goto G dX9_crowd_62 (by decide) (hY 23)))
set_option maxRecDepth 100000 in
set_option maxHeartbeats 4000000 in
theorem b_X9_crowd_74 (l : Launch) : s_B l rm_X9_crowd yX9_crowd cX9_crowd 5 ((some FieldType.int)) false 74 B_X9_crowd_74 := fun p e s m args below meth c D ty ad A n0 φ0 Q G Y hY => (t_iret G rfl dX9_crowd_74)
set_option maxRecDepth 100000 in
theorem m_X9_crowd (l : Launch) : s_Met l yX9_crowd cX9_crowd 5 ((some FieldType.int)) rm_X9_crowd false C_X9_crowd := by
  intro D ty ad av φ sz sh me Q hsh hC
  unfold C_X9_crowd at hC
  split at hC
  · exact s_met1 (P := P_X9_crowd) (by decide +kernel) (fun _ => ⟨rfl, rfl⟩) (fun p e s m args below meth c D ty ad A n0 φ0 Q G Y hY => s_tab_T _ (List.forall_mem_cons.mpr ⟨b_X9_crowd_0 l p e s m args below meth c D ty ad A n0 φ0 Q G Y hY, List.forall_mem_cons.mpr ⟨b_X9_crowd_9 l p e s m args below meth c D ty ad A n0 φ0 Q G Y hY, List.forall_mem_cons.mpr ⟨b_X9_crowd_23 l p e s m args below meth c D ty ad A n0 φ0 Q G Y hY, List.forall_mem_cons.mpr ⟨b_X9_crowd_47 l p e s m args below meth c D ty ad A n0 φ0 Q G Y hY, List.forall_mem_cons.mpr ⟨b_X9_crowd_59 l p e s m args below meth c D ty ad A n0 φ0 Q G Y hY, List.forall_mem_cons.mpr ⟨b_X9_crowd_74 l p e s m args below meth c D ty ad A n0 φ0 Q G Y hY, fun _ h => absurd h List.not_mem_nil⟩⟩⟩⟩⟩⟩)) hsh rfl rfl (Nat.le_of_ble_eq_true rfl) hC
  · exact hC.elim
def B_X9_done_0 (Q : SQ) (nx : Nat → SK) : SK := (o_aload 0 (o_iload 1 (o_iload 2 (o_callV C_X9_barsOf 9 3 (o_istore 3 (o_iload 3 (o_if (fun x => x = 0) (o_aload 0 (o_aload 0 (o_getR 9 35 (o_const (.int 0) (o_callV C_X9_carriesAll 9 3 (o_aload 0 (o_iload 1 (o_iload 2 (o_callV C_X9_strolls 9 3 (o_const (.int (-1)) (o_ic (fun x y => x = y) (o_aload 0 (o_dup (o_getI 9 5 (o_aload 0 (o_getI 9 40 (o_i2 (fun x y => x + y) (o_putI 9 5 (o_aload 0 (o_dup (o_getI 9 4 (o_const (.int 1) (o_i2 (fun x y => x + y) (o_putI 9 4 (o_aload 0 (o_getI 9 5 (o_iret Q)))))))))))))))) (o_aload 0 (o_aload 0 (o_getR 9 35 (o_const (.int 1) (o_callV C_X9_carriesAll 9 3 (o_aload 0 (o_const (.int (-6)) (o_callV C_X9_no 9 2 (o_iret Q)))))))))))))))))))) (o_aload 0 (o_iload 3 (o_callV C_X9_no 9 2 (o_iret Q)))))))))))
def P_X9_done (Q : SQ) (nx : Nat → SK) : Nat → SK := s_tab [(0, B_X9_done_0 Q nx)]
def C_X9_done : SC := fun av sh me Q => match av with
  | [.ref a0, .int a1, .int a2] => s_wp P_X9_done Q 0 [some (.ref a0), some (.int a1), some (.int a2), none] [] sh me
  | _ => False
abbrev rm_X9_done : Room := { frames := 8, cells := 0, slots := 0, locals := 191 }
theorem hd_X9_done : (yX9_done).cls ≠ "java/lang/invoke/MethodHandle" ∧ (yX9_done).cls ≠ "java/lang/invoke/VarHandle" ∧ (parseMethodDescriptor (yX9_done).desc).map (fun d => d.parameters.length) = some 2 := by decide +kernel
set_option maxRecDepth 100000 in
set_option maxHeartbeats 4000000 in
theorem b_X9_done_0 (l : Launch) : s_B l rm_X9_done yX9_done cX9_done 4 ((some FieldType.int)) false 0 B_X9_done_0 := fun p e s m args below meth c D ty ad A n0 φ0 Q G Y hY => (u_aload_n G dX9_done_0 rfl (u_iload_n G dX9_done_1 rfl (u_iload_n G dX9_done_2 rfl (t_callV G cl_9 (m_X9_barsOf l) ⟨rfl, rfl⟩ rfl ⟨Nat.le_of_ble_eq_true rfl, Nat.le_of_ble_eq_true rfl⟩ q6_181 q1_10 (Or.inl q6_178) q6_180 qs_72 hd_X9_barsOf dX9_done_3 (u_istore_n G dX9_done_6 rfl (u_iload_n G dX9_done_7 rfl (u_if_eq G dX9_done_8 (by decide) (u_aload_n G dX9_done_17 rfl (u_aload_n G dX9_done_18 rfl (t_getR G cl_9 (k := 35) (by decide) (Or.inl q5_51) rfl (Or.inr ⟨_, rfl⟩) dX9_done_19 (u_iconst G dX9_done_22 (by decide) (t_callV G cl_9 (m_X9_carriesAll l) ⟨rfl, rfl⟩ rfl ⟨Nat.le_of_ble_eq_true rfl, Nat.le_of_ble_eq_true rfl⟩ q6_16 q1_10 (Or.inl q6_13) q6_15 qs_44 hd_X9_carriesAll dX9_done_23 (u_aload_n G dX9_done_26 rfl (u_iload_n G dX9_done_27 rfl (u_iload_n G dX9_done_28 rfl (t_callV G cl_9 (m_X9_strolls l) ⟨rfl, rfl⟩ rfl ⟨Nat.le_of_ble_eq_true rfl, Nat.le_of_ble_eq_true rfl⟩ q6_185 q1_10 (Or.inl q6_182) q6_184 qs_73 hd_X9_strolls dX9_done_29 (u_iconst G dX9_done_32 (by decide) (u_icmp_eq G dX9_done_33 (by decide) (u_aload_n G dX9_done_52 rfl (t_dup G dX9_done_53 (t_getI G cl_9 (k := 5) (by decide) (Or.inl q5_21) rfl (Or.inl rfl) dX9_done_54 (u_aload_n G dX9_done_57 rfl (t_getI G cl_9 (k := 40) (by decide) (Or.inl q5_56) rfl (Or.inl rfl) dX9_done_58 (u_iadd G dX9_done_61 (t_putI G cl_9 (k := 5) (by decide) (Or.inl ⟨rfl, Or.inl q5_21⟩) rfl rfl dX9_done_62 (u_aload_n G dX9_done_65 rfl (t_dup G dX9_done_66 (t_getI G cl_9 (k := 4) (by decide) (Or.inl q5_20) rfl (Or.inl rfl) dX9_done_67 (u_iconst G dX9_done_70 (by decide) (u_iadd G dX9_done_71 (t_putI G cl_9 (k := 4) (by decide) (Or.inl ⟨rfl, Or.inl q5_20⟩) rfl rfl dX9_done_72 (u_aload_n G dX9_done_75 rfl (t_getI G cl_9 (k := 5) (by decide) (Or.inl q5_21) rfl (Or.inl rfl) dX9_done_76 (t_iret G rfl dX9_done_79)))))))))))))))) (u_aload_n G dX9_done_36 rfl (u_aload_n G dX9_done_37 rfl (t_getR G cl_9 (k := 35) (by decide) (Or.inl q5_51) rfl (Or.inr ⟨_, rfl⟩) dX9_done_38 (u_iconst G dX9_done_41 (by decide) (t_callV G cl_9 (m_X9_carriesAll l) ⟨rfl, rfl⟩ rfl ⟨Nat.le_of_ble_eq_true rfl, Nat.le_of_ble_eq_true rfl⟩ q6_16 q1_10 (Or.inl q6_13) q6_15 qs_44 hd_X9_carriesAll dX9_done_42 (u_aload_n G dX9_done_45 rfl (u_bipush G dX9_done_46 (by decide) (t_callV G cl_9 (m_X9_no l) ⟨rfl, rfl⟩ rfl ⟨Nat.le_of_ble_eq_true rfl, Nat.le_of_ble_eq_true rfl⟩ q5_160 q1_10 (Or.inl q5_157) q5_159 qs_34 hd_X9_no dX9_done_48 (t_iret G rfl dX9_done_51)))))))))))))))))))) (u_aload_n G dX9_done_11 rfl (u_iload_n G dX9_done_12 rfl (t_callV G cl_9 (m_X9_no l) ⟨rfl, rfl⟩ rfl ⟨Nat.le_of_ble_eq_true rfl, Nat.le_of_ble_eq_true rfl⟩ q5_160 q1_10 (Or.inl q5_157) q5_159 qs_34 hd_X9_no dX9_done_13 (t_iret G rfl dX9_done_16)))))))))))
set_option maxRecDepth 100000 in
theorem m_X9_done (l : Launch) : s_Met l yX9_done cX9_done 4 ((some FieldType.int)) rm_X9_done false C_X9_done := by
  intro D ty ad av φ sz sh me Q hsh hC
  unfold C_X9_done at hC
  split at hC
  · exact s_met1 (P := P_X9_done) (by decide +kernel) (fun _ => ⟨rfl, rfl⟩) (fun p e s m args below meth c D ty ad A n0 φ0 Q G Y hY => s_tab_T _ (List.forall_mem_cons.mpr ⟨b_X9_done_0 l p e s m args below meth c D ty ad A n0 φ0 Q G Y hY, fun _ h => absurd h List.not_mem_nil⟩)) hsh rfl rfl (Nat.le_of_ble_eq_true rfl) hC
  · exact hC.elim
def B_X9_draw_0 (Q : SQ) (nx : Nat → SK) : SK := (o_aload 0 (o_aload 0 (o_getI 9 6 (o_const (.int 1103515245) (o_i2 (fun x y => x * y) (o_const (.int 12345) (o_i2 (fun x y => x + y) (o_putI 9 6 (o_aload 0 (o_getI 9 6 (o_const (.int 16) (o_i2 (fun x y => (x.toUInt32 >>> (y.toUInt32 &&& Int32.toUInt32 31)).toInt32) (o_iload 1 (o_div (fun x y => x - x / y * y) (o_iret Q)))))))))))))))
def P_X9_draw (Q : SQ) (nx : Nat → SK) : Nat → SK := s_tab [(0, B_X9_draw_0 Q nx)]
def C_X9_draw : SC := fun av sh me Q => match av with
  | [.ref a0, .int a1] => s_wp P_X9_draw Q 0 [some (.ref a0), some (.int a1)] [] sh me
  | _ => False
abbrev rm_X9_draw : Room := { frames := 0, cells := 0, slots := 0, locals := 0 }
theorem hd_X9_draw : (yX9_draw).cls ≠ "java/lang/invoke/MethodHandle" ∧ (yX9_draw).cls ≠ "java/lang/invoke/VarHandle" ∧ (parseMethodDescriptor (yX9_draw).desc).map (fun d => d.parameters.length) = some 1 := by decide +kernel
set_option maxRecDepth 100000 in
set_option maxHeartbeats 4000000 in
theorem b_X9_draw_0 (l : Launch) : s_B l rm_X9_draw yX9_draw cX9_draw 2 ((some FieldType.int)) false 0 B_X9_draw_0 := fun p e s m args below meth c D ty ad A n0 φ0 Q G Y hY => (u_aload_n G dX9_draw_0 rfl (u_aload_n G dX9_draw_1 rfl (t_getI G cl_9 (k := 6) (by decide) (Or.inl q5_22) rfl (Or.inl rfl) dX9_draw_2 (u_ldc_w G q6_210 dX9_draw_5 (u_imul G dX9_draw_8 (u_sipush G dX9_draw_9 (by decide) (u_iadd G dX9_draw_12 (t_putI G cl_9 (k := 6) (by decide) (Or.inl ⟨rfl, Or.inl q5_22⟩) rfl rfl dX9_draw_13 (u_aload_n G dX9_draw_16 rfl (t_getI G cl_9 (k := 6) (by decide) (Or.inl q5_22) rfl (Or.inl rfl) dX9_draw_17 (u_bipush G dX9_draw_20 (by decide) (u_iushr G dX9_draw_22 (u_iload_n G dX9_draw_23 rfl (u_irem G dX9_draw_24 (t_iret G rfl dX9_draw_25)))))))))))))))
set_option maxRecDepth 100000 in
theorem m_X9_draw (l : Launch) : s_Met l yX9_draw cX9_draw 2 ((some FieldType.int)) rm_X9_draw false C_X9_draw := by
  intro D ty ad av φ sz sh me Q hsh hC
  unfold C_X9_draw at hC
  split at hC
  · exact s_met1 (P := P_X9_draw) (by decide +kernel) (fun _ => ⟨rfl, rfl⟩) (fun p e s m args below meth c D ty ad A n0 φ0 Q G Y hY => s_tab_T _ (List.forall_mem_cons.mpr ⟨b_X9_draw_0 l p e s m args below meth c D ty ad A n0 φ0 Q G Y hY, fun _ h => absurd h List.not_mem_nil⟩)) hsh rfl rfl (Nat.le_of_ble_eq_true rfl) hC
  · exact hC.elim
def B_X9_duty_0 (Q : SQ) (nx : Nat → SK) : SK := (o_aload 0 (o_iload 1 (o_callV C_X9_isOne 9 2 (o_if (fun x => ¬ x = 0) (o_iload 2 (o_if (fun x => x < 0) (nx 23) (o_iload 2 (o_const (.int 1) (o_ic (fun x y => x ≤ y) (o_iload 2 (o_if (fun x => ¬ x = 0) (o_aload 0 (o_iload 1 (o_callV C_X9_wouldPay 9 2 (nx 47)))) (o_aload 0 (o_iload 1 (o_callV C_X9_owes 9 2 (nx 47)))))) (nx 23)))))) (o_aload 0 (o_const (.int (-1)) (o_callV C_X9_no 9 2 (o_iret Q))))))))
def B_X9_duty_23 (Q : SQ) (nx : Nat → SK) : SK := (o_aload 0 (o_const (.int (-5)) (o_callV C_X9_no 9 2 (o_iret Q))))
def B_X9_duty_47 (Q : SQ) (nx : Nat → SK) : SK := (o_iret Q)
def P_X9_duty (Q : SQ) (nx : Nat → SK) : Nat → SK := s_tab [(0, B_X9_duty_0 Q nx), (23, B_X9_duty_23 Q nx), (47, B_X9_duty_47 Q nx)]
def C_X9_duty : SC := fun av sh me Q => match av with
  | [.ref a0, .int a1, .int a2] => s_wp P_X9_duty Q 0 [some (.ref a0), some (.int a1), some (.int a2)] [] sh me
  | _ => False
abbrev rm_X9_duty : Room := { frames := 6, cells := 0, slots := 0, locals := 143 }
theorem hd_X9_duty : (yX9_duty).cls ≠ "java/lang/invoke/MethodHandle" ∧ (yX9_duty).cls ≠ "java/lang/invoke/VarHandle" ∧ (parseMethodDescriptor (yX9_duty).desc).map (fun d => d.parameters.length) = some 2 := by decide +kernel
set_option maxRecDepth 100000 in
set_option maxHeartbeats 4000000 in
theorem b_X9_duty_0 (l : Launch) : s_B l rm_X9_duty yX9_duty cX9_duty 3 ((some FieldType.int)) false 0 B_X9_duty_0 := fun p e s m args below meth c D ty ad A n0 φ0 Q G Y hY => (u_aload_n G dX9_duty_0 rfl (u_iload_n G dX9_duty_1 rfl (t_callV G cl_9 (m_X9_isOne l) ⟨rfl, rfl⟩ rfl ⟨Nat.le_of_ble_eq_true rfl, Nat.le_of_ble_eq_true rfl⟩ q5_180 q1_10 (Or.inl q5_177) q5_179 qs_35 hd_X9_isOne dX9_duty_2 (u_if_ne G dX9_duty_5 (by decide) (u_iload_n G dX9_duty_14 rfl (u_if_lt G dX9_duty_15 (by decide) (hY 23) (u_iload_n G dX9_duty_18 rfl (u_iconst G dX9_duty_19 (by decide) (u_icmp_le G dX9_duty_20 (by decide) (u_iload_n G dX9_duty_30 rfl (u_if_ne G dX9_duty_31 (by decide) (u_aload_n G dX9_duty_42 rfl (u_iload_n G dX9_duty_43 rfl (t_callV G cl_9 (m_X9_wouldPay l) ⟨rfl, rfl⟩ rfl ⟨Nat.le_of_ble_eq_true rfl, Nat.le_of_ble_eq_true rfl⟩ q6_100 q1_10 (Or.inl q6_97) q6_99 qs_61 hd_X9_wouldPay dX9_duty_44 (hY 47)))) (u_aload_n G dX9_duty_34 rfl (u_iload_n G dX9_duty_35 rfl (t_callV G cl_9 (m_X9_owes l) ⟨rfl, rfl⟩ rfl ⟨Nat.le_of_ble_eq_true rfl, Nat.le_of_ble_eq_true rfl⟩ q6_88 q1_10 (Or.inl q6_85) q6_87 qs_58 hd_X9_owes dX9_duty_36 (t_goto G dX9_duty_39 (by decide) (hY 47))))))) (hY 23)))))) (u_aload_n G dX9_duty_8 rfl (u_iconst G dX9_duty_9 (by decide) (t_callV G cl_9 (m_X9_no l) ⟨rfl, rfl⟩ rfl ⟨Nat.le_of_ble_eq_true rfl, Nat.le_of_ble_eq_true rfl⟩ q5_160 q1_10 (Or.inl q5_157) q5_159 qs_34 hd_X9_no dX9_duty_10 (t_iret G rfl dX9_duty_13))))))))
set_option maxRecDepth 100000 in
set_option maxHeartbeats 4000000 in
theorem b_X9_duty_23 (l : Launch) : s_B l rm_X9_duty yX9_duty cX9_duty 3 ((some FieldType.int)) false 23 B_X9_duty_23 := fun p e s m args below meth c D ty ad A n0 φ0 Q G Y hY => (u_aload_n G dX9_duty_23 rfl (u_bipush G dX9_duty_24 (by decide) (t_callV G cl_9 (m_X9_no l) ⟨rfl, rfl⟩ rfl ⟨Nat.le_of_ble_eq_true rfl, Nat.le_of_ble_eq_true rfl⟩ q5_160 q1_10 (Or.inl q5_157) q5_159 qs_34 hd_X9_no dX9_duty_26 (t_iret G rfl dX9_duty_29))))
set_option maxRecDepth 100000 in
set_option maxHeartbeats 4000000 in
theorem b_X9_duty_47 (l : Launch) : s_B l rm_X9_duty yX9_duty cX9_duty 3 ((some FieldType.int)) false 47 B_X9_duty_47 := fun p e s m args below meth c D ty ad A n0 φ0 Q G Y hY => (t_iret G rfl dX9_duty_47)
set_option maxRecDepth 100000 in
theorem m_X9_duty (l : Launch) : s_Met l yX9_duty cX9_duty 3 ((some FieldType.int)) rm_X9_duty false C_X9_duty := by
  intro D ty ad av φ sz sh me Q hsh hC
  unfold C_X9_duty at hC
  split at hC
  · exact s_met1 (P := P_X9_duty) (by decide +kernel) (fun _ => ⟨rfl, rfl⟩) (fun p e s m args below meth c D ty ad A n0 φ0 Q G Y hY => s_tab_T _ (List.forall_mem_cons.mpr ⟨b_X9_duty_0 l p e s m args below meth c D ty ad A n0 φ0 Q G Y hY, List.forall_mem_cons.mpr ⟨b_X9_duty_23 l p e s m args below meth c D ty ad A n0 φ0 Q G Y hY, List.forall_mem_cons.mpr ⟨b_X9_duty_47 l p e s m args below meth c D ty ad A n0 φ0 Q G Y hY, fun _ h => absurd h List.not_mem_nil⟩⟩⟩)) hsh rfl rfl (Nat.le_of_ble_eq_true rfl) hC
  · exact hC.elim
def B_X9_element_0 (Q : SQ) (nx : Nat → SK) : SK := (o_aload 0 (o_iload 1 (o_callV C_X9_isShelf 9 2 (o_if (fun x => x = 0) (nx 47) (o_aload 0 (o_getR 9 18 (o_iload 1 (o_iald (o_const (.int 1) (o_ic (fun x y => ¬ x = y) (nx 47) (o_iload 2 (o_if (fun x => x < 0) (nx 47) (o_iload 2 (o_aload 0 (o_getR 9 20 (o_iload 1 (o_iald (o_ic (fun x y => y ≤ x) (nx 47) (o_aload 0 (o_getR 9 22 (o_const (.int 160) (o_iload 1 (o_i2 (fun x y => x * y) (o_iload 2 (o_i2 (fun x y => x + y) (o_lald (nx 48)))))))))))))))))))))))))))
def B_X9_element_47 (Q : SQ) (nx : Nat → SK) : SK := (o_const (.long 0) (nx 48))
def B_X9_element_48 (Q : SQ) (nx : Nat → SK) : SK := (o_lret Q)
def P_X9_element (Q : SQ) (nx : Nat → SK) : Nat → SK := s_tab [(0, B_X9_element_0 Q nx), (47, B_X9_element_47 Q nx), (48, B_X9_element_48 Q nx)]
def C_X9_element : SC := fun av sh me Q => match av with
  | [.ref a0, .int a1, .int a2] => s_wp P_X9_element Q 0 [some (.ref a0), some (.int a1), some (.int a2)] [] sh me
  | _ => False
abbrev rm_X9_element : Room := { frames := 1, cells := 0, slots := 0, locals := 21 }
theorem hd_X9_element : (yX9_element).cls ≠ "java/lang/invoke/MethodHandle" ∧ (yX9_element).cls ≠ "java/lang/invoke/VarHandle" ∧ (parseMethodDescriptor (yX9_element).desc).map (fun d => d.parameters.length) = some 2 := by decide +kernel
set_option maxRecDepth 100000 in
set_option maxHeartbeats 4000000 in
theorem b_X9_element_0 (l : Launch) : s_B l rm_X9_element yX9_element cX9_element 3 ((some FieldType.long)) false 0 B_X9_element_0 := fun p e s m args below meth c D ty ad A n0 φ0 Q G Y hY => (u_aload_n G dX9_element_0 rfl (u_iload_n G dX9_element_1 rfl (t_callV G cl_9 (m_X9_isShelf l) ⟨rfl, rfl⟩ rfl ⟨Nat.le_of_ble_eq_true rfl, Nat.le_of_ble_eq_true rfl⟩ q5_156 q1_10 (Or.inl q5_153) q5_155 qs_33 hd_X9_isShelf dX9_element_2 (u_if_eq G dX9_element_5 (by decide) (hY 47) (u_aload_n G dX9_element_8 rfl (t_getR G cl_9 (k := 18) (by decide) (Or.inl q5_34) rfl (Or.inr ⟨_, rfl⟩) dX9_element_9 (u_iload_n G dX9_element_12 rfl (t_iald G dX9_element_13 (u_iconst G dX9_element_14 (by decide) (u_icmp_ne G dX9_element_15 (by decide) (hY 47) (u_iload_n G dX9_element_18 rfl (u_if_lt G dX9_element_19 (by decide) (hY 47) (u_iload_n G dX9_element_22 rfl (u_aload_n G dX9_element_23 rfl (t_getR G cl_9 (k := 20) (by decide) (Or.inl q5_36) rfl (Or.inr ⟨_, rfl⟩) dX9_element_24 (u_iload_n G dX9_element_27 rfl (t_iald G dX9_element_28 (u_icmp_ge G dX9_element_29 (by decide) (hY 47) (u_aload_n G dX9_element_32 rfl (t_getR G cl_9 (k := 22) (by decide) (Or.inl q5_38) rfl (Or.inr ⟨_, rfl⟩) dX9_element_33 (u_sipush G dX9_element_36 (by decide) (u_iload_n G dX9_element_39 rfl (u_imul G dX9_element_40 (u_iload_n G dX9_element_41 rfl (u_iadd G dX9_element_42 (t_lald G dX9_element_43 (t_goto G dX9_element_44 (by decide) (hY 48))))))))))))))))))))))))))))
set_option maxRecDepth 100000 in
set_option maxHeartbeats 4000000 in
theorem b_X9_element_47 (l : Launch) : s_B l rm_X9_element yX9_element cX9_element 3 ((some FieldType.long)) false 47 B_X9_element_47 := fun p e s m args below meth c D ty ad A n0 φ0 Q G Y hY => (u_lconst G dX9_element_47 (by decide) (hY 48))
set_option maxRecDepth 100000 in
set_option maxHeartbeats 4000000 in
theorem b_X9_element_48 (l : Launch) : s_B l rm_X9_element yX9_element cX9_element 3 ((some FieldType.long)) false 48 B_X9_element_48 := fun p e s m args below meth c D ty ad A n0 φ0 Q G Y hY => (t_lret G rfl dX9_element_48)
set_option maxRecDepth 100000 in
theorem m_X9_element (l : Launch) : s_Met l yX9_element cX9_element 3 ((some FieldType.long)) rm_X9_element false C_X9_element := by
  intro D ty ad av φ sz sh me Q hsh hC
  unfold C_X9_element at hC
  split at hC
  · exact s_met1 (P := P_X9_element) (by decide +kernel) (fun _ => ⟨rfl, rfl⟩) (fun p e s m args below meth c D ty ad A n0 φ0 Q G Y hY => s_tab_T _ (List.forall_mem_cons.mpr ⟨b_X9_element_0 l p e s m args below meth c D ty ad A n0 φ0 Q G Y hY, List.forall_mem_cons.mpr ⟨b_X9_element_47 l p e s m args below meth c D ty ad A n0 φ0 Q G Y hY, List.forall_mem_cons.mpr ⟨b_X9_element_48 l p e s m args below meth c D ty ad A n0 φ0 Q G Y hY, fun _ h => absurd h List.not_mem_nil⟩⟩⟩)) hsh rfl rfl (Nat.le_of_ble_eq_true rfl) hC
  · exact hC.elim
def B_X9_fault_0 (Q : SQ) (nx : Nat → SK) : SK := (o_aload 0 (o_getI 9 7 (o_iret Q)))
def P_X9_fault (Q : SQ) (nx : Nat → SK) : Nat → SK := s_tab [(0, B_X9_fault_0 Q nx)]
def C_X9_fault : SC := fun av sh me Q => match av with
  | [.ref a0] => s_wp P_X9_fault Q 0 [some (.ref a0)] [] sh me
  | _ => False
abbrev rm_X9_fault : Room := { frames := 0, cells := 0, slots := 0, locals := 0 }
theorem hd_X9_fault : (yX9_fault).cls ≠ "java/lang/invoke/MethodHandle" ∧ (yX9_fault).cls ≠ "java/lang/invoke/VarHandle" ∧ (parseMethodDescriptor (yX9_fault).desc).map (fun d => d.parameters.length) = some 0 := by decide +kernel
set_option maxRecDepth 100000 in
set_option maxHeartbeats 4000000 in
theorem b_X9_fault_0 (l : Launch) : s_B l rm_X9_fault yX9_fault cX9_fault 1 ((some FieldType.int)) false 0 B_X9_fault_0 := fun p e s m args below meth c D ty ad A n0 φ0 Q G Y hY => (u_aload_n G dX9_fault_0 rfl (t_getI G cl_9 (k := 7) (by decide) (Or.inl q5_23) rfl (Or.inl rfl) dX9_fault_1 (t_iret G rfl dX9_fault_4)))
set_option maxRecDepth 100000 in
theorem m_X9_fault (l : Launch) : s_Met l yX9_fault cX9_fault 1 ((some FieldType.int)) rm_X9_fault false C_X9_fault := by
  intro D ty ad av φ sz sh me Q hsh hC
  unfold C_X9_fault at hC
  split at hC
  · exact s_met1 (P := P_X9_fault) (by decide +kernel) (fun _ => ⟨rfl, rfl⟩) (fun p e s m args below meth c D ty ad A n0 φ0 Q G Y hY => s_tab_T _ (List.forall_mem_cons.mpr ⟨b_X9_fault_0 l p e s m args below meth c D ty ad A n0 φ0 Q G Y hY, fun _ h => absurd h List.not_mem_nil⟩)) hsh rfl rfl (Nat.le_of_ble_eq_true rfl) hC
  · exact hC.elim
def B_X9_firstOn_0 (Q : SQ) (nx : Nat → SK) : SK := (o_aload 0 (o_getR 9 38 (o_iload 1 (o_iald (o_if (fun x => ¬ x = 0) (o_const (.int (-1)) (o_istore 2 (o_const (.int 0) (o_istore 3 (nx 15))))) (o_iload 1 (o_iret Q)))))))
def B_X9_firstOn_15 (Q : SQ) (nx : Nat → SK) : SK := (o_iload 3 (o_const (.int 4) (o_ic (fun x y => y ≤ x) (o_iload 2 (o_iret Q)) (o_aload 0 (o_iload 1 (o_iload 3 (o_callV C_X9_beside 9 3 (o_istore 4 (o_iload 4 (o_const (.int (-1)) (o_ic (fun x y => x = y) (nx 104) (o_aload 0 (o_getR 9 16 (o_iload 4 (o_iald (o_const (.int 1) (o_ic (fun x y => x = y) (nx 104) (o_aload 0 (o_getR 9 38 (o_iload 4 (o_iald (o_const (.int 100000000) (o_ic (fun x y => x = y) (nx 104) (o_aload 0 (o_getR 9 38 (o_iload 4 (o_iald (o_const (.int 1000) (o_aload 0 (o_getR 9 37 (o_iload 4 (o_iald (o_i2 (fun x y => x * y) (o_i2 (fun x y => x + y) (o_const (.int 1) (o_i2 (fun x y => x + y) (o_aload 0 (o_getR 9 38 (o_iload 1 (o_iald (o_ic (fun x y => x = y) (o_iload 2 (o_const (.int (-1)) (o_ic (fun x y => x = y) (nx 101) (o_iload 4 (o_iload 2 (o_ic (fun x y => y ≤ x) (nx 104) (nx 101))))))) (nx 104))))))))))))))))))))))))))))))))))))))))))
def B_X9_firstOn_101 (Q : SQ) (nx : Nat → SK) : SK := (o_iload 4 (o_istore 2 (nx 104)))
def B_X9_firstOn_104 (Q : SQ) (nx : Nat → SK) : SK := (o_iinc 3 1 (nx 15))
def P_X9_firstOn (Q : SQ) (nx : Nat → SK) : Nat → SK := s_tab [(0, B_X9_firstOn_0 Q nx), (15, B_X9_firstOn_15 Q nx), (101, B_X9_firstOn_101 Q nx), (104, B_X9_firstOn_104 Q nx)]
def C_X9_firstOn : SC := fun av sh me Q => match av with
  | [.ref a0, .int a1] => s_wp P_X9_firstOn Q 0 [some (.ref a0), some (.int a1), none, none, none] [] sh me
  | _ => False
abbrev rm_X9_firstOn : Room := { frames := 1, cells := 0, slots := 0, locals := 24 }
theorem hd_X9_firstOn : (yX9_firstOn).cls ≠ "java/lang/invoke/MethodHandle" ∧ (yX9_firstOn).cls ≠ "java/lang/invoke/VarHandle" ∧ (parseMethodDescriptor (yX9_firstOn).desc).map (fun d => d.parameters.length) = some 1 := by decide +kernel
set_option maxRecDepth 100000 in
set_option maxHeartbeats 4000000 in
theorem b_X9_firstOn_0 (l : Launch) : s_B l rm_X9_firstOn yX9_firstOn cX9_firstOn 5 ((some FieldType.int)) false 0 B_X9_firstOn_0 := fun p e s m args below meth c D ty ad A n0 φ0 Q G Y hY => (u_aload_n G dX9_firstOn_0 rfl (t_getR G cl_9 (k := 38) (by decide) (Or.inl q5_54) rfl (Or.inr ⟨_, rfl⟩) dX9_firstOn_1 (u_iload_n G dX9_firstOn_4 rfl (t_iald G dX9_firstOn_5 (u_if_ne G dX9_firstOn_6 (by decide) (u_iconst G dX9_firstOn_11 (by decide) (u_istore_n G dX9_firstOn_12 rfl (u_iconst G dX9_firstOn_13 (by decide) (u_istore_n G dX9_firstOn_14 rfl (hY 15))))) (u_iload_n G dX9_firstOn_9 rfl (t_iret G rfl dX9_firstOn_10)))))))
set_option maxRecDepth 100000 in
set_option maxHeartbeats 4000000 in
theorem b_X9_firstOn_15 (l : Launch) : s_B l rm_X9_firstOn yX9_firstOn cX9_firstOn 5 ((some FieldType.int)) false 15 B_X9_firstOn_15 := fun p e s m args below meth c D ty ad A n0 φ0 Q G Y hY => (u_iload_n G dX9_firstOn_15 rfl (u_iconst G dX9_firstOn_16 (by decide) (u_icmp_ge G dX9_firstOn_17 (by decide) (u_iload_n G dX9_firstOn_110 rfl (t_iret G rfl dX9_firstOn_111)) (u_aload_n G dX9_firstOn_20 rfl (u_iload_n G dX9_firstOn_21 rfl (u_iload_n G dX9_firstOn_22 rfl (t_callV G cl_9 (m_X9_beside l) ⟨rfl, rfl⟩ rfl ⟨Nat.le_of_ble_eq_true rfl, Nat.le_of_ble_eq_true rfl⟩ q6_125 q1_10 (Or.inl q6_122) q6_124 qs_65 hd_X9_beside dX9_firstOn_23 (u_istore G dX9_firstOn_26 (u_iload G dX9_firstOn_28 (u_iconst G dX9_firstOn_30 (by decide) (u_icmp_eq G dX9_firstOn_31 (by decide) (hY 104) (u_aload_n G dX9_firstOn_34 rfl (t_getR G cl_9 (k := 16) (by decide) (Or.inl q5_32) rfl (Or.inr ⟨_, rfl⟩) dX9_firstOn_35 (u_iload G dX9_firstOn_38 (t_iald G dX9_firstOn_40 (u_iconst G dX9_firstOn_41 (by decide) (u_icmp_eq G dX9_firstOn_42 (by decide) (hY 104) (u_aload_n G dX9_firstOn_45 rfl (t_getR G cl_9 (k := 38) (by decide) (Or.inl q5_54) rfl (Or.inr ⟨_, rfl⟩) dX9_firstOn_46 (u_iload G dX9_firstOn_49 (t_iald G dX9_firstOn_51 (u_ldc G q6_117 dX9_firstOn_52 (u_icmp_eq G dX9_firstOn_54 (by decide) (hY 104) (u_aload_n G dX9_firstOn_57 rfl (t_getR G cl_9 (k := 38) (by decide) (Or.inl q5_54) rfl (Or.inr ⟨_, rfl⟩) dX9_firstOn_58 (u_iload G dX9_firstOn_61 (t_iald G dX9_firstOn_63 (u_sipush G dX9_firstOn_64 (by decide) (u_aload_n G dX9_firstOn_67 rfl (t_getR G cl_9 (k := 37) (by decide) (Or.inl q5_53) rfl (Or.inr ⟨_, rfl⟩) dX9_firstOn_68 (u_iload G dX9_firstOn_71 (t_iald G dX9_firstOn_73 (u_imul G dX9_firstOn_74 (u_iadd G dX9_firstOn_75 (u_iconst G dX9_firstOn_76 (by decide) (u_iadd G dX9_firstOn_77 (u_aload_n G dX9_firstOn_78 rfl (t_getR G cl_9 (k := 38) (by decide) (Or.inl q5_54) rfl (Or.inr ⟨_, rfl⟩) dX9_firstOn_79 (u_iload_n G dX9_firstOn_82 rfl (t_iald G dX9_firstOn_83 (u_icmp_eq G dX9_firstOn_84 (by decide) (u_iload_n G dX9_firstOn_90 rfl (u_iconst G dX9_firstOn_91 (by decide) (u_icmp_eq G dX9_firstOn_92 (by decide) (hY 101) (u_iload G dX9_firstOn_95 (u_iload_n G dX9_firstOn_97 rfl (u_icmp_ge G dX9_firstOn_98 (by decide) (hY 104) (hY 101))))))) (t_goto G dX9_firstOn_87 (by decide) (hY 104)))))))))))))))))))))))))))))))))))))))))))
set_option maxRecDepth 100000 in
set_option maxHeartbeats 4000000 in
theorem b_X9_firstOn_101 (l : Launch) : s_B l rm_X9_firstOn yX9_firstOn cX9_firstOn 5 ((some FieldType.int)) false 101 B_X9_firstOn_101 := fun p e s m args below meth c D ty ad A n0 φ0 Q G Y hY => (u_iload G dX9_firstOn_101 (u_istore_n G dX9_firstOn_103 rfl (hY 104)))
set_option maxRecDepth 100000 in
set_option maxHeartbeats 4000000 in
theorem b_X9_firstOn_104 (l : Launch) : s_B l rm_X9_firstOn yX9_firstOn cX9_firstOn 5 ((some FieldType.int)) false 104 B_X9_firstOn_104 := fun p e s m args below meth c D ty ad A n0 φ0 Q G Y hY => (t_iinc G dX9_firstOn_104 (by decide) (t_goto G dX9_firstOn_107 (by decide) (hY 15)))
set_option maxRecDepth 100000 in
theorem m_X9_firstOn (l : Launch) : s_Met l yX9_firstOn cX9_firstOn 5 ((some FieldType.int)) rm_X9_firstOn false C_X9_firstOn := by
  intro D ty ad av φ sz sh me Q hsh hC
  unfold C_X9_firstOn at hC
  split at hC
  · exact s_met1 (P := P_X9_firstOn) (by decide +kernel) (fun _ => ⟨rfl, rfl⟩) (fun p e s m args below meth c D ty ad A n0 φ0 Q G Y hY => s_tab_T _ (List.forall_mem_cons.mpr ⟨b_X9_firstOn_0 l p e s m args below meth c D ty ad A n0 φ0 Q G Y hY, List.forall_mem_cons.mpr ⟨b_X9_firstOn_15 l p e s m args below meth c D ty ad A n0 φ0 Q G Y hY, List.forall_mem_cons.mpr ⟨b_X9_firstOn_101 l p e s m args below meth c D ty ad A n0 φ0 Q G Y hY, List.forall_mem_cons.mpr ⟨b_X9_firstOn_104 l p e s m args below meth c D ty ad A n0 φ0 Q G Y hY, fun _ h => absurd h List.not_mem_nil⟩⟩⟩⟩)) hsh rfl rfl (Nat.le_of_ble_eq_true rfl) hC
  · exact hC.elim
def B_X9_fits_0 (Q : SQ) (nx : Nat → SK) : SK := (o_aload 0 (o_iload 2 (o_callV C_X9_isOne 9 2 (o_if (fun x => ¬ x = 0) (o_aload 0 (o_iload 1 (o_callV C_X9_wanted 9 2 (nx 17)))) (o_const (.int (-1)) (nx 17))))))
def B_X9_fits_17 (Q : SQ) (nx : Nat → SK) : SK := (o_istore 3 (o_iload 3 (o_if (fun x => ¬ x = 0) (nx 38) (o_aload 0 (o_getR 9 20 (o_iload 1 (o_iald (o_aload 0 (o_getI 9 0 (o_ic (fun x y => y ≤ x) (nx 38) (o_const (.int (-5)) (o_istore 3 (nx 38)))))))))))))
def B_X9_fits_38 (Q : SQ) (nx : Nat → SK) : SK := (o_iload 3 (o_if (fun x => x = 0) (o_aload 0 (o_getR 9 11 (o_iload 2 (o_iald (o_istore 4 (o_const (.int 0) (o_istore 5 (o_const (.int 0) (o_istore 6 (nx 62)))))))))) (o_aload 0 (o_iload 3 (o_callV C_X9_no 9 2 (o_iret Q))))))
def B_X9_fits_62 (Q : SQ) (nx : Nat → SK) : SK := (o_iload 6 (o_const (.int 20) (o_ic (fun x y => y < x) (o_aload 0 (o_getR 9 11 (o_iload 2 (o_iload 4 (o_iast (o_iload 5 (o_iret Q))))))) (o_aload 0 (o_getR 9 11 (o_iload 2 (o_iload 6 (o_iast (o_const (.int 1) (o_istore 7 (o_const (.int 0) (o_istore 8 (nx 83)))))))))))))
def B_X9_fits_83 (Q : SQ) (nx : Nat → SK) : SK := (o_iload 8 (o_aload 0 (o_getI 9 0 (o_ic (fun x y => y ≤ x) (nx 126) (o_iload 7 (o_if (fun x => x = 0) (nx 126) (o_aload 0 (o_iload 8 (o_callV C_X9_owes 9 2 (o_aload 0 (o_iload 1 (o_iload 8 (o_callV C_X9_intAt 9 3 (o_ic (fun x y => ¬ x = y) (o_const (.int 0) (nx 118)) (o_const (.int 1) (nx 118))))))))))))))))
def B_X9_fits_118 (Q : SQ) (nx : Nat → SK) : SK := (o_istore 7 (o_iinc 8 1 (nx 83)))
def B_X9_fits_126 (Q : SQ) (nx : Nat → SK) : SK := (o_iload 7 (o_if (fun x => x = 0) (nx 140) (o_iload 5 (o_const (.int 1) (o_iload 6 (o_i2 (fun x y => x <<< (y &&& 31)) (o_i2 (fun x y => x + y) (o_istore 5 (nx 140)))))))))
def B_X9_fits_140 (Q : SQ) (nx : Nat → SK) : SK := (o_iinc 6 1 (nx 62))
def P_X9_fits (Q : SQ) (nx : Nat → SK) : Nat → SK := s_tab [(0, B_X9_fits_0 Q nx), (17, B_X9_fits_17 Q nx), (38, B_X9_fits_38 Q nx), (62, B_X9_fits_62 Q nx), (83, B_X9_fits_83 Q nx), (118, B_X9_fits_118 Q nx), (126, B_X9_fits_126 Q nx), (140, B_X9_fits_140 Q nx)]
def C_X9_fits : SC := fun av sh me Q => match av with
  | [.ref a0, .int a1, .int a2] => s_wp P_X9_fits Q 0 [some (.ref a0), some (.int a1), some (.int a2), none, none, none, none, none, none] [] sh me
  | _ => False
abbrev rm_X9_fits : Room := { frames := 6, cells := 0, slots := 0, locals := 143 }
theorem hd_X9_fits : (yX9_fits).cls ≠ "java/lang/invoke/MethodHandle" ∧ (yX9_fits).cls ≠ "java/lang/invoke/VarHandle" ∧ (parseMethodDescriptor (yX9_fits).desc).map (fun d => d.parameters.length) = some 2 := by decide +kernel
set_option maxRecDepth 100000 in
set_option maxHeartbeats 4000000 in
theorem b_X9_fits_0 (l : Launch) : s_B l rm_X9_fits yX9_fits cX9_fits 9 ((some FieldType.int)) false 0 B_X9_fits_0 := fun p e s m args below meth c D ty ad A n0 φ0 Q G Y hY => (u_aload_n G dX9_fits_0 rfl (u_iload_n G dX9_fits_1 rfl (t_callV G cl_9 (m_X9_isOne l) ⟨rfl, rfl⟩ rfl ⟨Nat.le_of_ble_eq_true rfl, Nat.le_of_ble_eq_true rfl⟩ q5_180 q1_10 (Or.inl q5_177) q5_179 qs_35 hd_X9_isOne dX9_fits_2 (u_if_ne G dX9_fits_5 (by decide) (u_aload_n G dX9_fits_12 rfl (u_iload_n G dX9_fits_13 rfl (t_callV G cl_9 (m_X9_wanted l) ⟨rfl, rfl⟩ rfl ⟨Nat.le_of_ble_eq_true rfl, Nat.le_of_ble_eq_true rfl⟩ q6_12 q1_10 (Or.inl q6_9) q6_11 qs_43 hd_X9_wanted dX9_fits_14 (hY 17)))) (u_iconst G dX9_fits_8 (by decide) (t_goto G dX9_fits_9 (by decide) (hY 17)))))))
set_option maxRecDepth 100000 in
set_option maxHeartbeats 4000000 in
theorem b_X9_fits_17 (l : Launch) : s_B l rm_X9_fits yX9_fits cX9_fits 9 ((some FieldType.int)) false 17 B_X9_fits_17 := fun p e s m args below meth c D ty ad A n0 φ0 Q G Y hY => (u_istore_n G dX9_fits_17 rfl (u_iload_n G dX9_fits_18 rfl (u_if_ne G dX9_fits_19 (by decide) (hY 38) (u_aload_n G dX9_fits_22 rfl (t_getR G cl_9 (k := 20) (by decide) (Or.inl q5_36) rfl (Or.inr ⟨_, rfl⟩) dX9_fits_23 (u_iload_n G dX9_fits_26 rfl (t_iald G dX9_fits_27 (u_aload_n G dX9_fits_28 rfl (t_getI G cl_9 (k := 0) (by decide) (Or.inl q5_16) rfl (Or.inl rfl) dX9_fits_29 (u_icmp_ge G dX9_fits_32 (by decide) (hY 38) (u_bipush G dX9_fits_35 (by decide) (u_istore_n G dX9_fits_37 rfl (hY 38)))))))))))))
set_option maxRecDepth 100000 in
set_option maxHeartbeats 4000000 in
theorem b_X9_fits_38 (l : Launch) : s_B l rm_X9_fits yX9_fits cX9_fits 9 ((some FieldType.int)) false 38 B_X9_fits_38 := fun p e s m args below meth c D ty ad A n0 φ0 Q G Y hY => (u_iload_n G dX9_fits_38 rfl (u_if_eq G dX9_fits_39 (by decide) (u_aload_n G dX9_fits_48 rfl (t_getR G cl_9 (k := 11) (by decide) (Or.inl q5_27) rfl (Or.inr ⟨_, rfl⟩) dX9_fits_49 (u_iload_n G dX9_fits_52 rfl (t_iald G dX9_fits_53 (u_istore G dX9_fits_54 (u_iconst G dX9_fits_56 (by decide) (u_istore G dX9_fits_57 (u_iconst G dX9_fits_59 (by decide) (u_istore G dX9_fits_60 (hY 62)))))))))) (u_aload_n G dX9_fits_42 rfl (u_iload_n G dX9_fits_43 rfl (t_callV G cl_9 (m_X9_no l) ⟨rfl, rfl⟩ rfl ⟨Nat.le_of_ble_eq_true rfl, Nat.le_of_ble_eq_true rfl⟩ q5_160 q1_10 (Or.inl q5_157) q5_159 qs_34 hd_X9_no dX9_fits_44 (t_iret G rfl dX9_fits_47))))))
set_option maxRecDepth 100000 in
set_option maxHeartbeats 4000000 in
theorem b_X9_fits_62 (l : Launch) : s_B l rm_X9_fits yX9_fits cX9_fits 9 ((some FieldType.int)) false 62 B_X9_fits_62 := fun p e s m args below meth c D ty ad A n0 φ0 Q G Y hY => (u_iload G dX9_fits_62 (u_bipush G dX9_fits_64 (by decide) (u_icmp_gt G dX9_fits_66 (by decide) (u_aload_n G dX9_fits_146 rfl (t_getR G cl_9 (k := 11) (by decide) (Or.inl q5_27) rfl (Or.inr ⟨_, rfl⟩) dX9_fits_147 (u_iload_n G dX9_fits_150 rfl (u_iload G dX9_fits_151 (t_iast G dX9_fits_153 (u_iload G dX9_fits_154 (t_iret G rfl dX9_fits_156))))))) (u_aload_n G dX9_fits_69 rfl (t_getR G cl_9 (k := 11) (by decide) (Or.inl q5_27) rfl (Or.inr ⟨_, rfl⟩) dX9_fits_70 (u_iload_n G dX9_fits_73 rfl (u_iload G dX9_fits_74 (t_iast G dX9_fits_76 (u_iconst G dX9_fits_77 (by decide) (u_istore G dX9_fits_78 (u_iconst G dX9_fits_80 (by decide) (u_istore G dX9_fits_81 (hY 83)))))))))))))
set_option maxRecDepth 100000 in
set_option maxHeartbeats 4000000 in
theorem b_X9_fits_83 (l : Launch) : s_B l rm_X9_fits yX9_fits cX9_fits 9 ((some FieldType.int)) false 83 B_X9_fits_83 := fun p e s m args below meth c D ty ad A n0 φ0 Q G Y hY => (u_iload G dX9_fits_83 (u_aload_n G dX9_fits_85 rfl (t_getI G cl_9 (k := 0) (by decide) (Or.inl q5_16) rfl (Or.inl rfl) dX9_fits_86 (u_icmp_ge G dX9_fits_89 (by decide) (hY 126) (u_iload G dX9_fits_92 (u_if_eq G dX9_fits_94 (by decide) (hY 126) (u_aload_n G dX9_fits_97 rfl (u_iload G dX9_fits_98 (t_callV G cl_9 (m_X9_owes l) ⟨rfl, rfl⟩ rfl ⟨Nat.le_of_ble_eq_true rfl, Nat.le_of_ble_eq_true rfl⟩ q6_88 q1_10 (Or.inl q6_85) q6_87 qs_58 hd_X9_owes dX9_fits_100 (u_aload_n G dX9_fits_103 rfl (u_iload_n G dX9_fits_104 rfl (u_iload G dX9_fits_105 (t_callV G cl_9 (m_X9_intAt l) ⟨rfl, rfl⟩ rfl ⟨Nat.le_of_ble_eq_true rfl, Nat.le_of_ble_eq_true rfl⟩ q6_157 q1_10 (Or.inl q6_154) q6_156 qs_69 hd_X9_intAt dX9_fits_107 (u_icmp_ne G dX9_fits_110 (by decide) (u_iconst G dX9_fits_117 (by decide) (hY 118)) (u_iconst G dX9_fits_113 (by decide) (t_goto G dX9_fits_114 (by decide) (hY 118)))))))))))))))))
set_option maxRecDepth 100000 in
set_option maxHeartbeats 4000000 in
theorem b_X9_fits_118 (l : Launch) : s_B l rm_X9_fits yX9_fits cX9_fits 9 ((some FieldType.int)) false 118 B_X9_fits_118 := fun p e s m args below meth c D ty ad A n0 φ0 Q G Y hY => (u_istore G dX9_fits_118 (t_iinc G dX9_fits_120 (by decide) (t_goto G dX9_fits_123 (by decide) (hY 83))))
set_option maxRecDepth 100000 in
set_option maxHeartbeats 4000000 in
theorem b_X9_fits_126 (l : Launch) : s_B l rm_X9_fits yX9_fits cX9_fits 9 ((some FieldType.int)) false 126 B_X9_fits_126 := fun p e s m args below meth c D ty ad A n0 φ0 Q G Y hY => (u_iload G dX9_fits_126 (u_if_eq G dX9_fits_128 (by decide) (hY 140) (u_iload G dX9_fits_131 (u_iconst G dX9_fits_133 (by decide) (u_iload G dX9_fits_134 (u_ishl G dX9_fits_136 (u_iadd G dX9_fits_137 (u_istore G dX9_fits_138 (hY 140)))))))))
set_option maxRecDepth 100000 in
set_option maxHeartbeats 4000000 in
theorem b_X9_fits_140 (l : Launch) : s_B l rm_X9_fits yX9_fits cX9_fits 9 ((some FieldType.int)) false 140 B_X9_fits_140 := fun p e s m args below meth c D ty ad A n0 φ0 Q G Y hY => (t_iinc G dX9_fits_140 (by decide) (t_goto G dX9_fits_143 (by decide) (hY 62)))
set_option maxRecDepth 100000 in
theorem m_X9_fits (l : Launch) : s_Met l yX9_fits cX9_fits 9 ((some FieldType.int)) rm_X9_fits false C_X9_fits := by
  intro D ty ad av φ sz sh me Q hsh hC
  unfold C_X9_fits at hC
  split at hC
  · exact s_met1 (P := P_X9_fits) (by decide +kernel) (fun _ => ⟨rfl, rfl⟩) (fun p e s m args below meth c D ty ad A n0 φ0 Q G Y hY => s_tab_T _ (List.forall_mem_cons.mpr ⟨b_X9_fits_0 l p e s m args below meth c D ty ad A n0 φ0 Q G Y hY, List.forall_mem_cons.mpr ⟨b_X9_fits_17 l p e s m args below meth c D ty ad A n0 φ0 Q G Y hY, List.forall_mem_cons.mpr ⟨b_X9_fits_38 l p e s m args below meth c D ty ad A n0 φ0 Q G Y hY, List.forall_mem_cons.mpr ⟨b_X9_fits_62 l p e s m args below meth c D ty ad A n0 φ0 Q G Y hY, List.forall_mem_cons.mpr ⟨b_X9_fits_83 l p e s m args below meth c D ty ad A n0 φ0 Q G Y hY, List.forall_mem_cons.mpr ⟨b_X9_fits_118 l p e s m args below meth c D ty ad A n0 φ0 Q G Y hY, List.forall_mem_cons.mpr ⟨b_X9_fits_126 l p e s m args below meth c D ty ad A n0 φ0 Q G Y hY, List.forall_mem_cons.mpr ⟨b_X9_fits_140 l p e s m args below meth c D ty ad A n0 φ0 Q G Y hY, fun _ h => absurd h List.not_mem_nil⟩⟩⟩⟩⟩⟩⟩⟩)) hsh rfl rfl (Nat.le_of_ble_eq_true rfl) hC
  · exact hC.elim
def B_X9_glances_0 (Q : SQ) (nx : Nat → SK) : SK := (o_aload 0 (o_iload 1 (o_callV C_X9_isOne 9 2 (o_if (fun x => ¬ x = 0) (o_iload 2 (o_if (fun x => x < 0) (nx 23) (o_iload 2 (o_const (.int 1) (o_ic (fun x y => x ≤ y) (o_iload 2 (o_if (fun x => ¬ x = 0) (o_aload 0 (o_iload 1 (o_callV C_X9_lookedAt 9 2 (nx 47)))) (o_aload 0 (o_iload 1 (o_callV C_X9_lookers 9 2 (nx 47)))))) (nx 23)))))) (o_aload 0 (o_const (.int (-1)) (o_callV C_X9_no 9 2 (o_iret Q))))))))
def B_X9_glances_23 (Q : SQ) (nx : Nat → SK) : SK := (o_aload 0 (o_const (.int (-5)) (o_callV C_X9_no 9 2 (o_iret Q))))
def B_X9_glances_47 (Q : SQ) (nx : Nat → SK) : SK := (o_iret Q)
def P_X9_glances (Q : SQ) (nx : Nat → SK) : Nat → SK := s_tab [(0, B_X9_glances_0 Q nx), (23, B_X9_glances_23 Q nx), (47, B_X9_glances_47 Q nx)]
def C_X9_glances : SC := fun av sh me Q => match av with
  | [.ref a0, .int a1, .int a2] => s_wp P_X9_glances Q 0 [some (.ref a0), some (.int a1), some (.int a2)] [] sh me
  | _ => False
abbrev rm_X9_glances : Room := { frames := 5, cells := 0, slots := 0, locals := 121 }
theorem hd_X9_glances : (yX9_glances).cls ≠ "java/lang/invoke/MethodHandle" ∧ (yX9_glances).cls ≠ "java/lang/invoke/VarHandle" ∧ (parseMethodDescriptor (yX9_glances).desc).map (fun d => d.parameters.length) = some 2 := by decide +kernel
set_option maxRecDepth 100000 in
set_option maxHeartbeats 4000000 in
theorem b_X9_glances_0 (l : Launch) : s_B l rm_X9_glances yX9_glances cX9_glances 3 ((some FieldType.int)) false 0 B_X9_glances_0 := fun p e s m args below meth c D ty ad A n0 φ0 Q G Y hY => (u_aload_n G dX9_glances_0 rfl (u_iload_n G dX9_glances_1 rfl (t_callV G cl_9 (m_X9_isOne l) ⟨rfl, rfl⟩ rfl ⟨Nat.le_of_ble_eq_true rfl, Nat.le_of_ble_eq_true rfl⟩ q5_180 q1_10 (Or.inl q5_177) q5_179 qs_35 hd_X9_isOne dX9_glances_2 (u_if_ne G dX9_glances_5 (by decide) (u_iload_n G dX9_glances_14 rfl (u_if_lt G dX9_glances_15 (by decide) (hY 23) (u_iload_n G dX9_glances_18 rfl (u_iconst G dX9_glances_19 (by decide) (u_icmp_le G dX9_glances_20 (by decide) (u_iload_n G dX9_glances_30 rfl (u_if_ne G dX9_glances_31 (by decide) (u_aload_n G dX9_glances_42 rfl (u_iload_n G dX9_glances_43 rfl (t_callV G cl_9 (m_X9_lookedAt l) ⟨rfl, rfl⟩ rfl ⟨Nat.le_of_ble_eq_true rfl, Nat.le_of_ble_eq_true rfl⟩ q6_76 q1_10 (Or.inl q6_73) q6_75 qs_56 hd_X9_lookedAt dX9_glances_44 (hY 47)))) (u_aload_n G dX9_glances_34 rfl (u_iload_n G dX9_glances_35 rfl (t_callV G cl_9 (m_X9_lookers l) ⟨rfl, rfl⟩ rfl ⟨Nat.le_of_ble_eq_true rfl, Nat.le_of_ble_eq_true rfl⟩ q6_72 q1_10 (Or.inl q6_69) q6_71 qs_55 hd_X9_lookers dX9_glances_36 (t_goto G dX9_glances_39 (by decide) (hY 47))))))) (hY 23)))))) (u_aload_n G dX9_glances_8 rfl (u_iconst G dX9_glances_9 (by decide) (t_callV G cl_9 (m_X9_no l) ⟨rfl, rfl⟩ rfl ⟨Nat.le_of_ble_eq_true rfl, Nat.le_of_ble_eq_true rfl⟩ q5_160 q1_10 (Or.inl q5_157) q5_159 qs_34 hd_X9_no dX9_glances_10 (t_iret G rfl dX9_glances_13))))))))
set_option maxRecDepth 100000 in
set_option maxHeartbeats 4000000 in
theorem b_X9_glances_23 (l : Launch) : s_B l rm_X9_glances yX9_glances cX9_glances 3 ((some FieldType.int)) false 23 B_X9_glances_23 := fun p e s m args below meth c D ty ad A n0 φ0 Q G Y hY => (u_aload_n G dX9_glances_23 rfl (u_bipush G dX9_glances_24 (by decide) (t_callV G cl_9 (m_X9_no l) ⟨rfl, rfl⟩ rfl ⟨Nat.le_of_ble_eq_true rfl, Nat.le_of_ble_eq_true rfl⟩ q5_160 q1_10 (Or.inl q5_157) q5_159 qs_34 hd_X9_no dX9_glances_26 (t_iret G rfl dX9_glances_29))))
set_option maxRecDepth 100000 in
set_option maxHeartbeats 4000000 in
theorem b_X9_glances_47 (l : Launch) : s_B l rm_X9_glances yX9_glances cX9_glances 3 ((some FieldType.int)) false 47 B_X9_glances_47 := fun p e s m args below meth c D ty ad A n0 φ0 Q G Y hY => (t_iret G rfl dX9_glances_47)
set_option maxRecDepth 100000 in
theorem m_X9_glances (l : Launch) : s_Met l yX9_glances cX9_glances 3 ((some FieldType.int)) rm_X9_glances false C_X9_glances := by
  intro D ty ad av φ sz sh me Q hsh hC
  unfold C_X9_glances at hC
  split at hC
  · exact s_met1 (P := P_X9_glances) (by decide +kernel) (fun _ => ⟨rfl, rfl⟩) (fun p e s m args below meth c D ty ad A n0 φ0 Q G Y hY => s_tab_T _ (List.forall_mem_cons.mpr ⟨b_X9_glances_0 l p e s m args below meth c D ty ad A n0 φ0 Q G Y hY, List.forall_mem_cons.mpr ⟨b_X9_glances_23 l p e s m args below meth c D ty ad A n0 φ0 Q G Y hY, List.forall_mem_cons.mpr ⟨b_X9_glances_47 l p e s m args below meth c D ty ad A n0 φ0 Q G Y hY, fun _ h => absurd h List.not_mem_nil⟩⟩⟩)) hsh rfl rfl (Nat.le_of_ble_eq_true rfl) hC
  · exact hC.elim
def B_X9_holds_0 (Q : SQ) (nx : Nat → SK) : SK := (o_aload 0 (o_iload 1 (o_callV C_X9_isShelf 9 2 (o_if (fun x => x = 0) (nx 17) (o_aload 0 (o_getR 9 18 (o_iload 1 (o_iald (o_if (fun x => ¬ x = 0) (o_aload 0 (o_getR 9 18 (o_iload 1 (o_iald (o_const (.int 1) (o_ic (fun x y => ¬ x = y) (o_aload 0 (o_getR 9 21 (o_iload 1 (o_iald (nx 47))))) (o_const (.int 100) (o_aload 0 (o_getR 9 19 (o_iload 1 (o_iald (o_i2 (fun x y => x + y) (nx 47))))))))))))) (nx 17))))))))))
def B_X9_holds_17 (Q : SQ) (nx : Nat → SK) : SK := (o_const (.int (-1)) (o_iret Q))
def B_X9_holds_47 (Q : SQ) (nx : Nat → SK) : SK := (o_iret Q)
def P_X9_holds (Q : SQ) (nx : Nat → SK) : Nat → SK := s_tab [(0, B_X9_holds_0 Q nx), (17, B_X9_holds_17 Q nx), (47, B_X9_holds_47 Q nx)]
def C_X9_holds : SC := fun av sh me Q => match av with
  | [.ref a0, .int a1] => s_wp P_X9_holds Q 0 [some (.ref a0), some (.int a1)] [] sh me
  | _ => False
abbrev rm_X9_holds : Room := { frames := 1, cells := 0, slots := 0, locals := 21 }
theorem hd_X9_holds : (yX9_holds).cls ≠ "java/lang/invoke/MethodHandle" ∧ (yX9_holds).cls ≠ "java/lang/invoke/VarHandle" ∧ (parseMethodDescriptor (yX9_holds).desc).map (fun d => d.parameters.length) = some 1 := by decide +kernel
set_option maxRecDepth 100000 in
set_option maxHeartbeats 4000000 in
theorem b_X9_holds_0 (l : Launch) : s_B l rm_X9_holds yX9_holds cX9_holds 2 ((some FieldType.int)) false 0 B_X9_holds_0 := fun p e s m args below meth c D ty ad A n0 φ0 Q G Y hY => (u_aload_n G dX9_holds_0 rfl (u_iload_n G dX9_holds_1 rfl (t_callV G cl_9 (m_X9_isShelf l) ⟨rfl, rfl⟩ rfl ⟨Nat.le_of_ble_eq_true rfl, Nat.le_of_ble_eq_true rfl⟩ q5_156 q1_10 (Or.inl q5_153) q5_155 qs_33 hd_X9_isShelf dX9_holds_2 (u_if_eq G dX9_holds_5 (by decide) (hY 17) (u_aload_n G dX9_holds_8 rfl (t_getR G cl_9 (k := 18) (by decide) (Or.inl q5_34) rfl (Or.inr ⟨_, rfl⟩) dX9_holds_9 (u_iload_n G dX9_holds_12 rfl (t_iald G dX9_holds_13 (u_if_ne G dX9_holds_14 (by decide) (u_aload_n G dX9_holds_19 rfl (t_getR G cl_9 (k := 18) (by decide) (Or.inl q5_34) rfl (Or.inr ⟨_, rfl⟩) dX9_holds_20 (u_iload_n G dX9_holds_23 rfl (t_iald G dX9_holds_24 (u_iconst G dX9_holds_25 (by decide) (u_icmp_ne G dX9_holds_26 (by decide) (u_aload_n G dX9_holds_41 rfl (t_getR G cl_9 (k := 21) (by decide) (Or.inl q5_37) rfl (Or.inr ⟨_, rfl⟩) dX9_holds_42 (u_iload_n G dX9_holds_45 rfl (t_iald G dX9_holds_46 (hY 47))))) (u_bipush G dX9_holds_29 (by decide) (u_aload_n G dX9_holds_31 rfl (t_getR G cl_9 (k := 19) (by decide) (Or.inl q5_35) rfl (Or.inr ⟨_, rfl⟩) dX9_holds_32 (u_iload_n G dX9_holds_35 rfl (t_iald G dX9_holds_36 (u_iadd G dX9_holds_37 (t_goto G dX9_holds_38 (by decide) (hY 47)))))))))))))) (hY 17))))))))))
set_option maxRecDepth 100000 in
set_option maxHeartbeats 4000000 in
theorem b_X9_holds_17 (l : Launch) : s_B l rm_X9_holds yX9_holds cX9_holds 2 ((some FieldType.int)) false 17 B_X9_holds_17 := fun p e s m args below meth c D ty ad A n0 φ0 Q G Y hY => (u_iconst G dX9_holds_17 (by decide) (t_iret G rfl dX9_holds_18))
set_option maxRecDepth 100000 in
set_option maxHeartbeats 4000000 in
theorem b_X9_holds_47 (l : Launch) : s_B l rm_X9_holds yX9_holds cX9_holds 2 ((some FieldType.int)) false 47 B_X9_holds_47 := fun p e s m args below meth c D ty ad A n0 φ0 Q G Y hY => (t_iret G rfl dX9_holds_47)
set_option maxRecDepth 100000 in
theorem m_X9_holds (l : Launch) : s_Met l yX9_holds cX9_holds 2 ((some FieldType.int)) rm_X9_holds false C_X9_holds := by
  intro D ty ad av φ sz sh me Q hsh hC
  unfold C_X9_holds at hC
  split at hC
  · exact s_met1 (P := P_X9_holds) (by decide +kernel) (fun _ => ⟨rfl, rfl⟩) (fun p e s m args below meth c D ty ad A n0 φ0 Q G Y hY => s_tab_T _ (List.forall_mem_cons.mpr ⟨b_X9_holds_0 l p e s m args below meth c D ty ad A n0 φ0 Q G Y hY, List.forall_mem_cons.mpr ⟨b_X9_holds_17 l p e s m args below meth c D ty ad A n0 φ0 Q G Y hY, List.forall_mem_cons.mpr ⟨b_X9_holds_47 l p e s m args below meth c D ty ad A n0 φ0 Q G Y hY, fun _ h => absurd h List.not_mem_nil⟩⟩⟩)) hsh rfl rfl (Nat.le_of_ble_eq_true rfl) hC
  · exact hC.elim
def B_X9_hours_0 (Q : SQ) (nx : Nat → SK) : SK := (o_aload 0 (o_iload 1 (o_const (.int 1) (o_const (.int 40) (o_callV C_X9_isFrom 9 4 (o_if (fun x => ¬ x = 0) (o_const (.int 0) (o_istore 2 (nx 20))) (o_aload 0 (o_const (.int (-6)) (o_callV C_X9_no 9 2 (o_iret Q))))))))))
def B_X9_hours_20 (Q : SQ) (nx : Nat → SK) : SK := (o_iload 2 (o_iload 1 (o_ic (fun x y => y ≤ x) (o_aload 0 (o_getI 9 5 (o_iret Q))) (o_aload 0 (o_aload 0 (o_const (.int 4) (o_callV C_X9_draw 9 2 (o_if (fun x => ¬ x = 0) (o_const (.int 0) (nx 39)) (o_const (.int 1) (nx 39))))))))))
def B_X9_hours_39 (Q : SQ) (nx : Nat → SK) : SK := (o_putI 9 3 (o_const (.int 0) (o_istore 3 (nx 44))))
def B_X9_hours_44 (Q : SQ) (nx : Nat → SK) : SK := (o_iload 3 (o_aload 0 (o_getI 9 0 (o_ic (fun x y => y ≤ x) (o_aload 0 (o_const (.int 0) (o_putI 9 40 (o_const (.int 0) (o_istore 3 (nx 120)))))) (o_aload 0 (o_const (.int 5) (o_callV C_X9_draw 9 2 (o_istore 4 (o_iload 4 (o_const (.int 4) (o_ic (fun x y => ¬ x = y) (o_aload 0 (o_aload 0 (o_getR 9 14 (o_iload 3 (o_iald (o_iload 4 (o_callV C_X9_beside 9 3 (nx 81)))))))) (o_const (.int (-1)) (nx 81)))))))))))))
def B_X9_hours_81 (Q : SQ) (nx : Nat → SK) : SK := (o_istore 5 (o_iload 5 (o_const (.int (-1)) (o_ic (fun x y => x = y) (nx 107) (o_aload 0 (o_getR 9 16 (o_iload 5 (o_iald (o_if (fun x => ¬ x = 0) (nx 107) (o_aload 0 (o_getR 9 14 (o_iload 3 (o_iload 5 (o_iast (nx 107)))))))))))))))
def B_X9_hours_107 (Q : SQ) (nx : Nat → SK) : SK := (o_iinc 3 1 (nx 44))
def B_X9_hours_120 (Q : SQ) (nx : Nat → SK) : SK := (o_iload 3 (o_aload 0 (o_getI 9 0 (o_ic (fun x y => y ≤ x) (o_aload 0 (o_dup (o_getI 9 5 (o_aload 0 (o_getI 9 40 (o_i2 (fun x y => x + y) (o_putI 9 5 (o_aload 0 (o_dup (o_getI 9 4 (o_const (.int 1) (o_i2 (fun x y => x + y) (o_putI 9 4 (o_iinc 2 1 (nx 20))))))))))))))) (o_aload 0 (o_iload 3 (o_callV C_X9_pays 9 2 (o_iinc 3 1 (nx 120)))))))))
def P_X9_hours (Q : SQ) (nx : Nat → SK) : Nat → SK := s_tab [(0, B_X9_hours_0 Q nx), (20, B_X9_hours_20 Q nx), (39, B_X9_hours_39 Q nx), (44, B_X9_hours_44 Q nx), (81, B_X9_hours_81 Q nx), (107, B_X9_hours_107 Q nx), (120, B_X9_hours_120 Q nx)]
def C_X9_hours : SC := fun av sh me Q => match av with
  | [.ref a0, .int a1] => s_wp P_X9_hours Q 0 [some (.ref a0), some (.int a1), none, none, none, none] [] sh me
  | _ => False
abbrev rm_X9_hours : Room := { frames := 7, cells := 0, slots := 0, locals := 165 }
theorem hd_X9_hours : (yX9_hours).cls ≠ "java/lang/invoke/MethodHandle" ∧ (yX9_hours).cls ≠ "java/lang/invoke/VarHandle" ∧ (parseMethodDescriptor (yX9_hours).desc).map (fun d => d.parameters.length) = some 1 := by decide +kernel
set_option maxRecDepth 100000 in
set_option maxHeartbeats 4000000 in
theorem b_X9_hours_0 (l : Launch) : s_B l rm_X9_hours yX9_hours cX9_hours 6 ((some FieldType.int)) false 0 B_X9_hours_0 := fun p e s m args below meth c D ty ad A n0 φ0 Q G Y hY => (u_aload_n G dX9_hours_0 rfl (u_iload_n G dX9_hours_1 rfl (u_iconst G dX9_hours_2 (by decide) (u_bipush G dX9_hours_3 (by decide) (t_callV G cl_9 (m_X9_isFrom l) ⟨rfl, rfl⟩ rfl ⟨Nat.le_of_ble_eq_true rfl, Nat.le_of_ble_eq_true rfl⟩ q5_200 q1_10 (Or.inl q5_197) q5_199 qs_37 hd_X9_isFrom dX9_hours_5 (u_if_ne G dX9_hours_8 (by decide) (u_iconst G dX9_hours_18 (by decide) (u_istore_n G dX9_hours_19 rfl (hY 20))) (u_aload_n G dX9_hours_11 rfl (u_bipush G dX9_hours_12 (by decide) (t_callV G cl_9 (m_X9_no l) ⟨rfl, rfl⟩ rfl ⟨Nat.le_of_ble_eq_true rfl, Nat.le_of_ble_eq_true rfl⟩ q5_160 q1_10 (Or.inl q5_157) q5_159 qs_34 hd_X9_no dX9_hours_14 (t_iret G rfl dX9_hours_17))))))))))
set_option maxRecDepth 100000 in
set_option maxHeartbeats 4000000 in
theorem b_X9_hours_20 (l : Launch) : s_B l rm_X9_hours yX9_hours cX9_hours 6 ((some FieldType.int)) false 20 B_X9_hours_20 := fun p e s m args below meth c D ty ad A n0 φ0 Q G Y hY => (u_iload_n G dX9_hours_20 rfl (u_iload_n G dX9_hours_21 rfl (u_icmp_ge G dX9_hours_22 (by decide) (u_aload_n G dX9_hours_168 rfl (t_getI G cl_9 (k := 5) (by decide) (Or.inl q5_21) rfl (Or.inl rfl) dX9_hours_169 (t_iret G rfl dX9_hours_172))) (u_aload_n G dX9_hours_25 rfl (u_aload_n G dX9_hours_26 rfl (u_iconst G dX9_hours_27 (by decide) (t_callV G cl_9 (m_X9_draw l) ⟨rfl, rfl⟩ rfl ⟨Nat.le_of_ble_eq_true rfl, Nat.le_of_ble_eq_true rfl⟩ q6_209 q1_10 (Or.inl q6_206) q6_208 qs_76 hd_X9_draw dX9_hours_28 (u_if_ne G dX9_hours_31 (by decide) (u_iconst G dX9_hours_38 (by decide) (hY 39)) (u_iconst G dX9_hours_34 (by decide) (t_goto G dX9_hours_35 (by decide) (hY 39)))))))))))
set_option maxRecDepth 100000 in
set_option maxHeartbeats 4000000 in
theorem b_X9_hours_39 (l : Launch) : s_B l rm_X9_hours yX9_hours cX9_hours 6 ((some FieldType.int)) false 39 B_X9_hours_39 := fun p e s m args below meth c D ty ad A n0 φ0 Q G Y hY => (t_putI G cl_9 (k := 3) (by decide) (Or.inl ⟨rfl, Or.inl q5_19⟩) rfl rfl dX9_hours_39 (u_iconst G dX9_hours_42 (by decide) (u_istore_n G dX9_hours_43 rfl (hY 44))))
set_option maxRecDepth 100000 in
set_option maxHeartbeats 4000000 in
theorem b_X9_hours_44 (l : Launch) : s_B l rm_X9_hours yX9_hours cX9_hours 6 ((some FieldType.int)) false 44 B_X9_hours_44 := fun p e s m args below meth c D ty ad A n0 φ0 Q G Y hY => (u_iload_n G dX9_hours_44 rfl (u_aload_n G dX9_hours_45 rfl (t_getI G cl_9 (k := 0) (by decide) (Or.inl q5_16) rfl (Or.inl rfl) dX9_hours_46 (u_icmp_ge G dX9_hours_49 (by decide) (u_aload_n G dX9_hours_113 rfl (u_iconst G dX9_hours_114 (by decide) (t_putI G cl_9 (k := 40) (by decide) (Or.inl ⟨rfl, Or.inl q5_56⟩) rfl rfl dX9_hours_115 (u_iconst G dX9_hours_118 (by decide) (u_istore_n G dX9_hours_119 rfl (hY 120)))))) (u_aload_n G dX9_hours_52 rfl (u_iconst G dX9_hours_53 (by decide) (t_callV G cl_9 (m_X9_draw l) ⟨rfl, rfl⟩ rfl ⟨Nat.le_of_ble_eq_true rfl, Nat.le_of_ble_eq_true rfl⟩ q6_209 q1_10 (Or.inl q6_206) q6_208 qs_76 hd_X9_draw dX9_hours_54 (u_istore G dX9_hours_57 (u_iload G dX9_hours_59 (u_iconst G dX9_hours_61 (by decide) (u_icmp_ne G dX9_hours_62 (by decide) (u_aload_n G dX9_hours_69 rfl (u_aload_n G dX9_hours_70 rfl (t_getR G cl_9 (k := 14) (by decide) (Or.inl q5_30) rfl (Or.inr ⟨_, rfl⟩) dX9_hours_71 (u_iload_n G dX9_hours_74 rfl (t_iald G dX9_hours_75 (u_iload G dX9_hours_76 (t_callV G cl_9 (m_X9_beside l) ⟨rfl, rfl⟩ rfl ⟨Nat.le_of_ble_eq_true rfl, Nat.le_of_ble_eq_true rfl⟩ q6_125 q1_10 (Or.inl q6_122) q6_124 qs_65 hd_X9_beside dX9_hours_78 (hY 81)))))))) (u_iconst G dX9_hours_65 (by decide) (t_goto G dX9_hours_66 (by decide) (hY 81))))))))))))))
set_option maxRecDepth 100000 in
set_option maxHeartbeats 4000000 in
theorem b_X9_hours_81 (l : Launch) : s_B l rm_X9_hours yX9_hours cX9_hours 6 ((some FieldType.int)) false 81 B_X9_hours_81 := fun p e s m args below meth c D ty ad A n0 φ0 Q G Y hY => (u_istore G dX9_hours_81 (u_iload G dX9_hours_83 (u_iconst G dX9_hours_85 (by decide) (u_icmp_eq G dX9_hours_86 (by decide) (hY 107) (u_aload_n G dX9_hours_89 rfl (t_getR G cl_9 (k := 16) (by decide) (Or.inl q5_32) rfl (Or.inr ⟨_, rfl⟩) dX9_hours_90 (u_iload G dX9_hours_93 (t_iald G dX9_hours_95 (u_if_ne G dX9_hours_96 (by decide) (hY 107) (u_aload_n G dX9_hours_99 rfl (t_getR G cl_9 (k := 14) (by decide) (Or.inl q5_30) rfl (Or.inr ⟨_, rfl⟩) dX9_hours_100 (u_iload_n G dX9_hours_103 rfl (u_iload G dX9_hours_104 (t_iast G dX9_hours_106 (hY 107)))))))))))))))
set_option maxRecDepth 100000 in
set_option maxHeartbeats 4000000 in
theorem b_X9_hours_107 (l : Launch) : s_B l rm_X9_hours yX9_hours cX9_hours 6 ((some FieldType.int)) false 107 B_X9_hours_107 := fun p e s m args below meth c D ty ad A n0 φ0 Q G Y hY => (t_iinc G dX9_hours_107 (by decide) (t_goto G dX9_hours_110 (by decide) (hY 44)))
set_option maxRecDepth 100000 in
set_option maxHeartbeats 4000000 in
theorem b_X9_hours_120 (l : Launch) : s_B l rm_X9_hours yX9_hours cX9_hours 6 ((some FieldType.int)) false 120 B_X9_hours_120 := fun p e s m args below meth c D ty ad A n0 φ0 Q G Y hY => (u_iload_n G dX9_hours_120 rfl (u_aload_n G dX9_hours_121 rfl (t_getI G cl_9 (k := 0) (by decide) (Or.inl q5_16) rfl (Or.inl rfl) dX9_hours_122 (u_icmp_ge G dX9_hours_125 (by decide) (u_aload_n G dX9_hours_139 rfl (t_dup G dX9_hours_140 (t_getI G cl_9 (k := 5) (by decide) (Or.inl q5_21) rfl (Or.inl rfl) dX9_hours_141 (u_aload_n G dX9_hours_144 rfl (t_getI G cl_9 (k := 40) (by decide) (Or.inl q5_56) rfl (Or.inl rfl) dX9_hours_145 (u_iadd G dX9_hours_148 (t_putI G cl_9 (k := 5) (by decide) (Or.inl ⟨rfl, Or.inl q5_21⟩) rfl rfl dX9_hours_149 (u_aload_n G dX9_hours_152 rfl (t_dup G dX9_hours_153 (t_getI G cl_9 (k := 4) (by decide) (Or.inl q5_20) rfl (Or.inl rfl) dX9_hours_154 (u_iconst G dX9_hours_157 (by decide) (u_iadd G dX9_hours_158 (t_putI G cl_9 (k := 4) (by decide) (Or.inl ⟨rfl, Or.inl q5_20⟩) rfl rfl dX9_hours_159 (t_iinc G dX9_hours_162 (by decide) (t_goto G dX9_hours_165 (by decide) (hY 20)))))))))))))))) (u_aload_n G dX9_hours_128 rfl (u_iload_n G dX9_hours_129 rfl (t_callV G cl_9 (m_X9_pays l) ⟨rfl, rfl⟩ rfl ⟨Nat.le_of_ble_eq_true rfl, Nat.le_of_ble_eq_true rfl⟩ q6_189 q1_10 (Or.inl q6_186) q6_188 qs_74 hd_X9_pays dX9_hours_130 (t_iinc G dX9_hours_133 (by decide) (t_goto G dX9_hours_136 (by decide) (hY 120))))))))))
set_option maxRecDepth 100000 in
theorem m_X9_hours (l : Launch) : s_Met l yX9_hours cX9_hours 6 ((some FieldType.int)) rm_X9_hours false C_X9_hours := by
  intro D ty ad av φ sz sh me Q hsh hC
  unfold C_X9_hours at hC
  split at hC
  · exact s_met1 (P := P_X9_hours) (by decide +kernel) (fun _ => ⟨rfl, rfl⟩) (fun p e s m args below meth c D ty ad A n0 φ0 Q G Y hY => s_tab_T _ (List.forall_mem_cons.mpr ⟨b_X9_hours_0 l p e s m args below meth c D ty ad A n0 φ0 Q G Y hY, List.forall_mem_cons.mpr ⟨b_X9_hours_20 l p e s m args below meth c D ty ad A n0 φ0 Q G Y hY, List.forall_mem_cons.mpr ⟨b_X9_hours_39 l p e s m args below meth c D ty ad A n0 φ0 Q G Y hY, List.forall_mem_cons.mpr ⟨b_X9_hours_44 l p e s m args below meth c D ty ad A n0 φ0 Q G Y hY, List.forall_mem_cons.mpr ⟨b_X9_hours_81 l p e s m args below meth c D ty ad A n0 φ0 Q G Y hY, List.forall_mem_cons.mpr ⟨b_X9_hours_107 l p e s m args below meth c D ty ad A n0 φ0 Q G Y hY, List.forall_mem_cons.mpr ⟨b_X9_hours_120 l p e s m args below meth c D ty ad A n0 φ0 Q G Y hY, fun _ h => absurd h List.not_mem_nil⟩⟩⟩⟩⟩⟩⟩)) hsh rfl rfl (Nat.le_of_ble_eq_true rfl) hC
  · exact hC.elim
