def B_X9_many_0 (Q : SQ) (nx : Nat → SK) : SK := (o_const (.int 0) (o_istore 2 (o_const (.int 0) (o_istore 3 (nx 4)))))
def B_X9_many_4 (Q : SQ) (nx : Nat → SK) : SK := (o_iload 3 (o_const (.int 7) (o_ic (fun x y => y ≤ x) (o_iload 2 (o_iret Q)) (o_iload 2 (o_iload 1 (o_iload 3 (o_i2 (fun x y => x >>> (y &&& 31)) (o_const (.int 1) (o_i2 (fun x y => x &&& y) (o_i2 (fun x y => x + y) (o_istore 2 (o_iinc 3 1 (nx 4)))))))))))))
def P_X9_many (Q : SQ) (nx : Nat → SK) : Nat → SK := s_tab [(0, B_X9_many_0 Q nx), (4, B_X9_many_4 Q nx)]
def C_X9_many : SC := fun av sh me Q => match av with
  | [.ref a0, .int a1] => s_wp P_X9_many Q 0 [some (.ref a0), some (.int a1), none, none] [] sh me
  | _ => False
abbrev rm_X9_many : Room := { frames := 0, cells := 0, slots := 0, locals := 0 }
theorem hd_X9_many : (yX9_many).cls ≠ "java/lang/invoke/MethodHandle" ∧ (yX9_many).cls ≠ "java/lang/invoke/VarHandle" ∧ (parseMethodDescriptor (yX9_many).desc).map (fun d => d.parameters.length) = some 1 := by decide +kernel
set_option maxRecDepth 100000 in
set_option maxHeartbeats 4000000 in
theorem b_X9_many_0 (l : Launch) : s_B l rm_X9_many yX9_many cX9_many 4 ((some FieldType.int)) false 0 B_X9_many_0 := fun p e s m args below meth c D ty ad A n0 φ0 Q G Y hY => (u_iconst G dX9_many_0 (by decide) (u_istore_n G dX9_many_1 rfl (u_iconst G dX9_many_2 (by decide) (u_istore_n G dX9_many_3 rfl (hY 4)))))
set_option maxRecDepth 100000 in
set_option maxHeartbeats 4000000 in
theorem b_X9_many_4 (l : Launch) : s_B l rm_X9_many yX9_many cX9_many 4 ((some FieldType.int)) false 4 B_X9_many_4 := fun p e s m args below meth c D ty ad A n0 φ0 Q G Y hY => (u_iload_n G dX9_many_4 rfl (u_bipush G dX9_many_5 (by decide) (u_icmp_ge G dX9_many_7 (by decide) (u_iload_n G dX9_many_24 rfl (t_iret G rfl dX9_many_25)) (u_iload_n G dX9_many_10 rfl (u_iload_n G dX9_many_11 rfl (u_iload_n G dX9_many_12 rfl (u_ishr G dX9_many_13 (u_iconst G dX9_many_14 (by decide) (u_iand G dX9_many_15 (u_iadd G dX9_many_16 (u_istore_n G dX9_many_17 rfl (t_iinc G dX9_many_18 (by decide) (t_goto G dX9_many_21 (by decide) (hY 4))))))))))))))
set_option maxRecDepth 100000 in
theorem m_X9_many (l : Launch) : s_Met l yX9_many cX9_many 4 ((some FieldType.int)) rm_X9_many false C_X9_many := by
  intro D ty ad av φ sz sh me Q hsh hC
  unfold C_X9_many at hC
  split at hC
  · exact s_met1 (P := P_X9_many) (by decide +kernel) (fun _ => ⟨rfl, rfl⟩) (fun p e s m args below meth c D ty ad A n0 φ0 Q G Y hY => s_tab_T _ (List.forall_mem_cons.mpr ⟨b_X9_many_0 l p e s m args below meth c D ty ad A n0 φ0 Q G Y hY, List.forall_mem_cons.mpr ⟨b_X9_many_4 l p e s m args below meth c D ty ad A n0 φ0 Q G Y hY, fun _ h => absurd h List.not_mem_nil⟩⟩)) hsh rfl rfl (Nat.le_of_ble_eq_true rfl) hC
  · exact hC.elim
def B_X9_owes_0 (Q : SQ) (nx : Nat → SK) : SK := (o_aload 0 (o_getR 9 9 (o_iload 1 (o_iald (o_const (.int 5) (o_ic (fun x y => x = y) (nx 31) (o_iload 1 (o_aload 0 (o_getI 9 36 (o_ic (fun x y => x = y) (nx 31) (o_aload 0 (o_aload 0 (o_getR 9 14 (o_iload 1 (o_iald (o_callV C_X9_isLit 9 2 (o_if (fun x => ¬ x = 0) (o_aload 0 (o_getI 9 1 (o_aload 0 (o_aload 0 (o_iload 1 (o_callV C_X9_lookers 9 2 (o_callV C_X9_many 9 2 (o_i2 (fun x y => x * y) (o_istore 2 (o_aload 0 (o_getR 9 9 (o_iload 1 (o_iald (o_const (.int 2) (o_ic (fun x y => ¬ x = y) (o_iload 2 (nx 68)) (o_iload 2 (o_iload 2 (o_const (.int 9) (o_div (fun x y => x / y) (o_i2 (fun x y => x - y) (nx 68))))))))))))))))))))) (nx 31))))))))))))))))))
def B_X9_owes_31 (Q : SQ) (nx : Nat → SK) : SK := (o_const (.int 0) (o_iret Q))
def B_X9_owes_68 (Q : SQ) (nx : Nat → SK) : SK := (o_iret Q)
def P_X9_owes (Q : SQ) (nx : Nat → SK) : Nat → SK := s_tab [(0, B_X9_owes_0 Q nx), (31, B_X9_owes_31 Q nx), (68, B_X9_owes_68 Q nx)]
def C_X9_owes : SC := fun av sh me Q => match av with
  | [.ref a0, .int a1] => s_wp P_X9_owes Q 0 [some (.ref a0), some (.int a1), none] [] sh me
  | _ => False
abbrev rm_X9_owes : Room := { frames := 5, cells := 0, slots := 0, locals := 121 }
theorem hd_X9_owes : (yX9_owes).cls ≠ "java/lang/invoke/MethodHandle" ∧ (yX9_owes).cls ≠ "java/lang/invoke/VarHandle" ∧ (parseMethodDescriptor (yX9_owes).desc).map (fun d => d.parameters.length) = some 1 := by decide +kernel
set_option maxRecDepth 100000 in
set_option maxHeartbeats 4000000 in
theorem b_X9_owes_0 (l : Launch) : s_B l rm_X9_owes yX9_owes cX9_owes 3 ((some FieldType.int)) false 0 B_X9_owes_0 := fun p e s m args below meth c D ty ad A n0 φ0 Q G Y hY => (u_aload_n G dX9_owes_0 rfl (t_getR G cl_9 (k := 9) (by decide) (Or.inl q5_25) rfl (Or.inr ⟨_, rfl⟩) dX9_owes_1 (u_iload_n G dX9_owes_4 rfl (t_iald G dX9_owes_5 (u_iconst G dX9_owes_6 (by decide) (u_icmp_eq G dX9_owes_7 (by decide) (hY 31) (u_iload_n G dX9_owes_10 rfl (u_aload_n G dX9_owes_11 rfl (t_getI G cl_9 (k := 36) (by decide) (Or.inl q5_52) rfl (Or.inl rfl) dX9_owes_12 (u_icmp_eq G dX9_owes_15 (by decide) (hY 31) (u_aload_n G dX9_owes_18 rfl (u_aload_n G dX9_owes_19 rfl (t_getR G cl_9 (k := 14) (by decide) (Or.inl q5_30) rfl (Or.inr ⟨_, rfl⟩) dX9_owes_20 (u_iload_n G dX9_owes_23 rfl (t_iald G dX9_owes_24 (t_callV G cl_9 (m_X9_isLit l) ⟨rfl, rfl⟩ rfl ⟨Nat.le_of_ble_eq_true rfl, Nat.le_of_ble_eq_true rfl⟩ q6_92 q1_10 (Or.inl q6_89) q6_91 qs_59 hd_X9_isLit dX9_owes_25 (u_if_ne G dX9_owes_28 (by decide) (u_aload_n G dX9_owes_33 rfl (t_getI G cl_9 (k := 1) (by decide) (Or.inl q5_17) rfl (Or.inl rfl) dX9_owes_34 (u_aload_n G dX9_owes_37 rfl (u_aload_n G dX9_owes_38 rfl (u_iload_n G dX9_owes_39 rfl (t_callV G cl_9 (m_X9_lookers l) ⟨rfl, rfl⟩ rfl ⟨Nat.le_of_ble_eq_true rfl, Nat.le_of_ble_eq_true rfl⟩ q6_72 q1_10 (Or.inl q6_69) q6_71 qs_55 hd_X9_lookers dX9_owes_40 (t_callV G cl_9 (m_X9_many l) ⟨rfl, rfl⟩ rfl ⟨Nat.le_of_ble_eq_true rfl, Nat.le_of_ble_eq_true rfl⟩ q6_96 q1_10 (Or.inl q6_93) q6_95 qs_60 hd_X9_many dX9_owes_43 (u_imul G dX9_owes_46 (u_istore_n G dX9_owes_47 rfl (u_aload_n G dX9_owes_48 rfl (t_getR G cl_9 (k := 9) (by decide) (Or.inl q5_25) rfl (Or.inr ⟨_, rfl⟩) dX9_owes_49 (u_iload_n G dX9_owes_52 rfl (t_iald G dX9_owes_53 (u_iconst G dX9_owes_54 (by decide) (u_icmp_ne G dX9_owes_55 (by decide) (u_iload_n G dX9_owes_67 rfl (hY 68)) (u_iload_n G dX9_owes_58 rfl (u_iload_n G dX9_owes_59 rfl (u_bipush G dX9_owes_60 (by decide) (u_idiv G dX9_owes_62 (u_isub G dX9_owes_63 (t_goto G dX9_owes_64 (by decide) (hY 68)))))))))))))))))))))) (hY 31))))))))))))))))))
set_option maxRecDepth 100000 in
set_option maxHeartbeats 4000000 in
theorem b_X9_owes_31 (l : Launch) : s_B l rm_X9_owes yX9_owes cX9_owes 3 ((some FieldType.int)) false 31 B_X9_owes_31 := fun p e s m args below meth c D ty ad A n0 φ0 Q G Y hY => (u_iconst G dX9_owes_31 (by decide) (t_iret G rfl dX9_owes_32))
set_option maxRecDepth 100000 in
set_option maxHeartbeats 4000000 in
theorem b_X9_owes_68 (l : Launch) : s_B l rm_X9_owes yX9_owes cX9_owes 3 ((some FieldType.int)) false 68 B_X9_owes_68 := fun p e s m args below meth c D ty ad A n0 φ0 Q G Y hY => (t_iret G rfl dX9_owes_68)
set_option maxRecDepth 100000 in
theorem m_X9_owes (l : Launch) : s_Met l yX9_owes cX9_owes 3 ((some FieldType.int)) rm_X9_owes false C_X9_owes := by
  intro D ty ad av φ sz sh me Q hsh hC
  unfold C_X9_owes at hC
  split at hC
  · exact s_met1 (P := P_X9_owes) (by decide +kernel) (fun _ => ⟨rfl, rfl⟩) (fun p e s m args below meth c D ty ad A n0 φ0 Q G Y hY => s_tab_T _ (List.forall_mem_cons.mpr ⟨b_X9_owes_0 l p e s m args below meth c D ty ad A n0 φ0 Q G Y hY, List.forall_mem_cons.mpr ⟨b_X9_owes_31 l p e s m args below meth c D ty ad A n0 φ0 Q G Y hY, List.forall_mem_cons.mpr ⟨b_X9_owes_68 l p e s m args below meth c D ty ad A n0 φ0 Q G Y hY, fun _ h => absurd h List.not_mem_nil⟩⟩⟩)) hsh rfl rfl (Nat.le_of_ble_eq_true rfl) hC
  · exact hC.elim
def B_X9_wouldPay_0 (Q : SQ) (nx : Nat → SK) : SK := (o_aload 0 (o_iload 1 (o_callV C_X9_lookedAt 9 2 (o_istore 2 (o_const (.int 0) (o_istore 3 (o_const (.int 0) (o_istore 4 (nx 11)))))))))
def B_X9_wouldPay_11 (Q : SQ) (nx : Nat → SK) : SK := (o_iload 4 (o_aload 0 (o_getI 9 0 (o_ic (fun x y => y ≤ x) (o_aload 0 (o_getI 9 1 (o_iload 3 (o_i2 (fun x y => x * y) (o_iret Q))))) (o_iload 2 (o_iload 4 (o_i2 (fun x y => x >>> (y &&& 31)) (o_const (.int 1) (o_i2 (fun x y => x &&& y) (o_const (.int 1) (o_ic (fun x y => ¬ x = y) (nx 47) (o_aload 0 (o_aload 0 (o_getR 9 14 (o_iload 4 (o_iald (o_callV C_X9_isLit 9 2 (o_if (fun x => x = 0) (nx 47) (o_iinc 3 1 (nx 47))))))))))))))))))))
def B_X9_wouldPay_47 (Q : SQ) (nx : Nat → SK) : SK := (o_iinc 4 1 (nx 11))
def P_X9_wouldPay (Q : SQ) (nx : Nat → SK) : Nat → SK := s_tab [(0, B_X9_wouldPay_0 Q nx), (11, B_X9_wouldPay_11 Q nx), (47, B_X9_wouldPay_47 Q nx)]
def C_X9_wouldPay : SC := fun av sh me Q => match av with
  | [.ref a0, .int a1] => s_wp P_X9_wouldPay Q 0 [some (.ref a0), some (.int a1), none, none, none] [] sh me
  | _ => False
abbrev rm_X9_wouldPay : Room := { frames := 4, cells := 0, slots := 0, locals := 98 }
theorem hd_X9_wouldPay : (yX9_wouldPay).cls ≠ "java/lang/invoke/MethodHandle" ∧ (yX9_wouldPay).cls ≠ "java/lang/invoke/VarHandle" ∧ (parseMethodDescriptor (yX9_wouldPay).desc).map (fun d => d.parameters.length) = some 1 := by decide +kernel
set_option maxRecDepth 100000 in
set_option maxHeartbeats 4000000 in
theorem b_X9_wouldPay_0 (l : Launch) : s_B l rm_X9_wouldPay yX9_wouldPay cX9_wouldPay 5 ((some FieldType.int)) false 0 B_X9_wouldPay_0 := fun p e s m args below meth c D ty ad A n0 φ0 Q G Y hY => (u_aload_n G dX9_wouldPay_0 rfl (u_iload_n G dX9_wouldPay_1 rfl (t_callV G cl_9 (m_X9_lookedAt l) ⟨rfl, rfl⟩ rfl ⟨Nat.le_of_ble_eq_true rfl, Nat.le_of_ble_eq_true rfl⟩ q6_76 q1_10 (Or.inl q6_73) q6_75 qs_56 hd_X9_lookedAt dX9_wouldPay_2 (u_istore_n G dX9_wouldPay_5 rfl (u_iconst G dX9_wouldPay_6 (by decide) (u_istore_n G dX9_wouldPay_7 rfl (u_iconst G dX9_wouldPay_8 (by decide) (u_istore G dX9_wouldPay_9 (hY 11)))))))))
set_option maxRecDepth 100000 in
set_option maxHeartbeats 4000000 in
theorem b_X9_wouldPay_11 (l : Launch) : s_B l rm_X9_wouldPay yX9_wouldPay cX9_wouldPay 5 ((some FieldType.int)) false 11 B_X9_wouldPay_11 := fun p e s m args below meth c D ty ad A n0 φ0 Q G Y hY => (u_iload G dX9_wouldPay_11 (u_aload_n G dX9_wouldPay_13 rfl (t_getI G cl_9 (k := 0) (by decide) (Or.inl q5_16) rfl (Or.inl rfl) dX9_wouldPay_14 (u_icmp_ge G dX9_wouldPay_17 (by decide) (u_aload_n G dX9_wouldPay_53 rfl (t_getI G cl_9 (k := 1) (by decide) (Or.inl q5_17) rfl (Or.inl rfl) dX9_wouldPay_54 (u_iload_n G dX9_wouldPay_57 rfl (u_imul G dX9_wouldPay_58 (t_iret G rfl dX9_wouldPay_59))))) (u_iload_n G dX9_wouldPay_20 rfl (u_iload G dX9_wouldPay_21 (u_ishr G dX9_wouldPay_23 (u_iconst G dX9_wouldPay_24 (by decide) (u_iand G dX9_wouldPay_25 (u_iconst G dX9_wouldPay_26 (by decide) (u_icmp_ne G dX9_wouldPay_27 (by decide) (hY 47) (u_aload_n G dX9_wouldPay_30 rfl (u_aload_n G dX9_wouldPay_31 rfl (t_getR G cl_9 (k := 14) (by decide) (Or.inl q5_30) rfl (Or.inr ⟨_, rfl⟩) dX9_wouldPay_32 (u_iload G dX9_wouldPay_35 (t_iald G dX9_wouldPay_37 (t_callV G cl_9 (m_X9_isLit l) ⟨rfl, rfl⟩ rfl ⟨Nat.le_of_ble_eq_true rfl, Nat.le_of_ble_eq_true rfl⟩ q6_92 q1_10 (Or.inl q6_89) q6_91 qs_59 hd_X9_isLit dX9_wouldPay_38 (u_if_eq G dX9_wouldPay_41 (by decide) (hY 47) (t_iinc G dX9_wouldPay_44 (by decide) (hY 47))))))))))))))))))))
set_option maxRecDepth 100000 in
set_option maxHeartbeats 4000000 in
theorem b_X9_wouldPay_47 (l : Launch) : s_B l rm_X9_wouldPay yX9_wouldPay cX9_wouldPay 5 ((some FieldType.int)) false 47 B_X9_wouldPay_47 := fun p e s m args below meth c D ty ad A n0 φ0 Q G Y hY => (t_iinc G dX9_wouldPay_47 (by decide) (t_goto G dX9_wouldPay_50 (by decide) (hY 11)))
set_option maxRecDepth 100000 in
theorem m_X9_wouldPay (l : Launch) : s_Met l yX9_wouldPay cX9_wouldPay 5 ((some FieldType.int)) rm_X9_wouldPay false C_X9_wouldPay := by
  intro D ty ad av φ sz sh me Q hsh hC
  unfold C_X9_wouldPay at hC
  split at hC
  · exact s_met1 (P := P_X9_wouldPay) (by decide +kernel) (fun _ => ⟨rfl, rfl⟩) (fun p e s m args below meth c D ty ad A n0 φ0 Q G Y hY => s_tab_T _ (List.forall_mem_cons.mpr ⟨b_X9_wouldPay_0 l p e s m args below meth c D ty ad A n0 φ0 Q G Y hY, List.forall_mem_cons.mpr ⟨b_X9_wouldPay_11 l p e s m args below meth c D ty ad A n0 φ0 Q G Y hY, List.forall_mem_cons.mpr ⟨b_X9_wouldPay_47 l p e s m args below meth c D ty ad A n0 φ0 Q G Y hY, fun _ h => absurd h List.not_mem_nil⟩⟩⟩)) hsh rfl rfl (Nat.le_of_ble_eq_true rfl) hC
  · exact hC.elim
def B_X9_all_0 (Q : SQ) (nx : Nat → SK) : SK := (o_iload 1 (o_if (fun x => x < 0) (nx 9) (o_iload 1 (o_const (.int 3) (o_ic (fun x y => x ≤ y) (o_const (.int 0) (o_istore 2 (o_const (.int 0) (o_istore 3 (nx 20))))) (nx 9))))))
def B_X9_all_9 (Q : SQ) (nx : Nat → SK) : SK := (o_aload 0 (o_const (.int (-5)) (o_callV C_X9_no 9 2 (o_iret Q))))
def B_X9_all_20 (Q : SQ) (nx : Nat → SK) : SK := (o_iload 3 (o_aload 0 (o_getI 9 0 (o_ic (fun x y => y ≤ x) (o_iload 2 (o_iret Q)) (o_aload 0 (o_iload 3 (o_callV C_X9_owes 9 2 (o_istore 4 (o_iload 1 (o_if (fun x => ¬ x = 0) (o_iload 1 (o_const (.int 1) (o_ic (fun x y => ¬ x = y) (o_iload 1 (o_const (.int 2) (o_ic (fun x y => ¬ x = y) (o_iload 2 (o_iload 4 (o_if (fun x => ¬ x = 0) (o_const (.int 0) (nx 103)) (o_const (.int 1) (nx 103))))) (o_iload 2 (o_iload 4 (o_aload 0 (o_getR 9 13 (o_iload 3 (o_iald (o_ic (fun x y => x ≤ y) (o_const (.int 0) (nx 87)) (o_const (.int 1) (o_iload 3 (o_i2 (fun x y => x <<< (y &&& 31)) (nx 87)))))))))))))) (o_iload 2 (o_aload 0 (o_iload 3 (o_callV C_X9_wouldPay 9 2 (o_i2 (fun x y => x + y) (o_istore 2 (nx 105)))))))))) (o_iload 2 (o_iload 4 (o_i2 (fun x y => x + y) (o_istore 2 (nx 105)))))))))))))))
def B_X9_all_87 (Q : SQ) (nx : Nat → SK) : SK := (o_i2 (fun x y => x + y) (o_istore 2 (nx 105)))
def B_X9_all_103 (Q : SQ) (nx : Nat → SK) : SK := (o_i2 (fun x y => x + y) (o_istore 2 (nx 105)))
def B_X9_all_105 (Q : SQ) (nx : Nat → SK) : SK := (o_iinc 3 1 (nx 20))
def P_X9_all (Q : SQ) (nx : Nat → SK) : Nat → SK := s_tab [(0, B_X9_all_0 Q nx), (9, B_X9_all_9 Q nx), (20, B_X9_all_20 Q nx), (87, B_X9_all_87 Q nx), (103, B_X9_all_103 Q nx), (105, B_X9_all_105 Q nx)]
def C_X9_all : SC := fun av sh me Q => match av with
  | [.ref a0, .int a1] => s_wp P_X9_all Q 0 [some (.ref a0), some (.int a1), none, none, none] [] sh me
  | _ => False
abbrev rm_X9_all : Room := { frames := 6, cells := 0, slots := 0, locals := 143 }
theorem hd_X9_all : (yX9_all).cls ≠ "java/lang/invoke/MethodHandle" ∧ (yX9_all).cls ≠ "java/lang/invoke/VarHandle" ∧ (parseMethodDescriptor (yX9_all).desc).map (fun d => d.parameters.length) = some 1 := by decide +kernel
set_option maxRecDepth 100000 in
set_option maxHeartbeats 4000000 in
theorem b_X9_all_0 (l : Launch) : s_B l rm_X9_all yX9_all cX9_all 5 ((some FieldType.int)) false 0 B_X9_all_0 := fun p e s m args below meth c D ty ad A n0 φ0 Q G Y hY => (u_iload_n G dX9_all_0 rfl (u_if_lt G dX9_all_1 (by decide) (hY 9) (u_iload_n G dX9_all_4 rfl (u_iconst G dX9_all_5 (by decide) (u_icmp_le G dX9_all_6 (by decide) (u_iconst G dX9_all_16 (by decide) (u_istore_n G dX9_all_17 rfl (u_iconst G dX9_all_18 (by decide) (u_istore_n G dX9_all_19 rfl (hY 20))))) (hY 9))))))
set_option maxRecDepth 100000 in
set_option maxHeartbeats 4000000 in
theorem b_X9_all_9 (l : Launch) : s_B l rm_X9_all yX9_all cX9_all 5 ((some FieldType.int)) false 9 B_X9_all_9 := fun p e s m args below meth c D ty ad A n0 φ0 Q G Y hY => (u_aload_n G dX9_all_9 rfl (u_bipush G dX9_all_10 (by decide) (t_callV G cl_9 (m_X9_no l) ⟨rfl, rfl⟩ rfl ⟨Nat.le_of_ble_eq_true rfl, Nat.le_of_ble_eq_true rfl⟩ q5_160 q1_10 (Or.inl q5_157) q5_159 qs_34 hd_X9_no dX9_all_12 (t_iret G rfl dX9_all_15))))
set_option maxRecDepth 100000 in
set_option maxHeartbeats 4000000 in
theorem b_X9_all_20 (l : Launch) : s_B l rm_X9_all yX9_all cX9_all 5 ((some FieldType.int)) false 20 B_X9_all_20 := fun p e s m args below meth c D ty ad A n0 φ0 Q G Y hY => (u_iload_n G dX9_all_20 rfl (u_aload_n G dX9_all_21 rfl (t_getI G cl_9 (k := 0) (by decide) (Or.inl q5_16) rfl (Or.inl rfl) dX9_all_22 (u_icmp_ge G dX9_all_25 (by decide) (u_iload_n G dX9_all_111 rfl (t_iret G rfl dX9_all_112)) (u_aload_n G dX9_all_28 rfl (u_iload_n G dX9_all_29 rfl (t_callV G cl_9 (m_X9_owes l) ⟨rfl, rfl⟩ rfl ⟨Nat.le_of_ble_eq_true rfl, Nat.le_of_ble_eq_true rfl⟩ q6_88 q1_10 (Or.inl q6_85) q6_87 qs_58 hd_X9_owes dX9_all_30 (u_istore G dX9_all_33 (u_iload_n G dX9_all_35 rfl (u_if_ne G dX9_all_36 (by decide) (u_iload_n G dX9_all_47 rfl (u_iconst G dX9_all_48 (by decide) (u_icmp_ne G dX9_all_49 (by decide) (u_iload_n G dX9_all_63 rfl (u_iconst G dX9_all_64 (by decide) (u_icmp_ne G dX9_all_65 (by decide) (u_iload_n G dX9_all_92 rfl (u_iload G dX9_all_93 (u_if_ne G dX9_all_95 (by decide) (u_iconst G dX9_all_102 (by decide) (hY 103)) (u_iconst G dX9_all_98 (by decide) (t_goto G dX9_all_99 (by decide) (hY 103)))))) (u_iload_n G dX9_all_68 rfl (u_iload G dX9_all_69 (u_aload_n G dX9_all_71 rfl (t_getR G cl_9 (k := 13) (by decide) (Or.inl q5_29) rfl (Or.inr ⟨_, rfl⟩) dX9_all_72 (u_iload_n G dX9_all_75 rfl (t_iald G dX9_all_76 (u_icmp_le G dX9_all_77 (by decide) (u_iconst G dX9_all_86 (by decide) (hY 87)) (u_iconst G dX9_all_80 (by decide) (u_iload_n G dX9_all_81 rfl (u_ishl G dX9_all_82 (t_goto G dX9_all_83 (by decide) (hY 87))))))))))))))) (u_iload_n G dX9_all_52 rfl (u_aload_n G dX9_all_53 rfl (u_iload_n G dX9_all_54 rfl (t_callV G cl_9 (m_X9_wouldPay l) ⟨rfl, rfl⟩ rfl ⟨Nat.le_of_ble_eq_true rfl, Nat.le_of_ble_eq_true rfl⟩ q6_100 q1_10 (Or.inl q6_97) q6_99 qs_61 hd_X9_wouldPay dX9_all_55 (u_iadd G dX9_all_58 (u_istore_n G dX9_all_59 rfl (t_goto G dX9_all_60 (by decide) (hY 105))))))))))) (u_iload_n G dX9_all_39 rfl (u_iload G dX9_all_40 (u_iadd G dX9_all_42 (u_istore_n G dX9_all_43 rfl (t_goto G dX9_all_44 (by decide) (hY 105))))))))))))))))
set_option maxRecDepth 100000 in
set_option maxHeartbeats 4000000 in
theorem b_X9_all_87 (l : Launch) : s_B l rm_X9_all yX9_all cX9_all 5 ((some FieldType.int)) false 87 B_X9_all_87 := fun p e s m args below meth c D ty ad A n0 φ0 Q G Y hY => (u_iadd G dX9_all_87 (u_istore_n G dX9_all_88 rfl (t_goto G dX9_all_89 (by decide) (hY 105))))
set_option maxRecDepth 100000 in
set_option maxHeartbeats 4000000 in
theorem b_X9_all_103 (l : Launch) : s_B l rm_X9_all yX9_all cX9_all 5 ((some FieldType.int)) false 103 B_X9_all_103 := fun p e s m args below meth c D ty ad A n0 φ0 Q G Y hY => (u_iadd G dX9_all_103 (u_istore_n G dX9_all_104 rfl (hY 105)))
set_option maxRecDepth 100000 in
set_option maxHeartbeats 4000000 in
theorem b_X9_all_105 (l : Launch) : s_B l rm_X9_all yX9_all cX9_all 5 ((some FieldType.int)) false 105 B_X9_all_105 := fun p e s m args below meth c D ty ad A n0 φ0 Q G Y hY => (t_iinc G dX9_all_105 (by decide) (t_goto G dX9_all_108 (by decide) (hY 20)))
set_option maxRecDepth 100000 in
theorem m_X9_all (l : Launch) : s_Met l yX9_all cX9_all 5 ((some FieldType.int)) rm_X9_all false C_X9_all := by
  intro D ty ad av φ sz sh me Q hsh hC
  unfold C_X9_all at hC
  split at hC
  · exact s_met1 (P := P_X9_all) (by decide +kernel) (fun _ => ⟨rfl, rfl⟩) (fun p e s m args below meth c D ty ad A n0 φ0 Q G Y hY => s_tab_T _ (List.forall_mem_cons.mpr ⟨b_X9_all_0 l p e s m args below meth c D ty ad A n0 φ0 Q G Y hY, List.forall_mem_cons.mpr ⟨b_X9_all_9 l p e s m args below meth c D ty ad A n0 φ0 Q G Y hY, List.forall_mem_cons.mpr ⟨b_X9_all_20 l p e s m args below meth c D ty ad A n0 φ0 Q G Y hY, List.forall_mem_cons.mpr ⟨b_X9_all_87 l p e s m args below meth c D ty ad A n0 φ0 Q G Y hY, List.forall_mem_cons.mpr ⟨b_X9_all_103 l p e s m args below meth c D ty ad A n0 φ0 Q G Y hY, List.forall_mem_cons.mpr ⟨b_X9_all_105 l p e s m args below meth c D ty ad A n0 φ0 Q G Y hY, fun _ h => absurd h List.not_mem_nil⟩⟩⟩⟩⟩⟩)) hsh rfl rfl (Nat.le_of_ble_eq_true rfl) hC
  · exact hC.elim
def B_X9_allDuties_0 (Q : SQ) (nx : Nat → SK) : SK := (o_const (.int 0) (o_istore 1 (o_const (.int 0) (o_istore 2 (nx 4)))))
def B_X9_allDuties_4 (Q : SQ) (nx : Nat → SK) : SK := (o_iload 2 (o_aload 0 (o_getI 9 0 (o_ic (fun x y => y ≤ x) (o_iload 1 (o_iret Q)) (o_iload 1 (o_aload 0 (o_iload 2 (o_callV C_X9_owes 9 2 (o_i2 (fun x y => x + y) (o_istore 1 (o_iinc 2 1 (nx 4))))))))))))
def P_X9_allDuties (Q : SQ) (nx : Nat → SK) : Nat → SK := s_tab [(0, B_X9_allDuties_0 Q nx), (4, B_X9_allDuties_4 Q nx)]
def C_X9_allDuties : SC := fun av sh me Q => match av with
  | [.ref a0] => s_wp P_X9_allDuties Q 0 [some (.ref a0), none, none] [] sh me
  | _ => False
abbrev rm_X9_allDuties : Room := { frames := 6, cells := 0, slots := 0, locals := 143 }
theorem hd_X9_allDuties : (yX9_allDuties).cls ≠ "java/lang/invoke/MethodHandle" ∧ (yX9_allDuties).cls ≠ "java/lang/invoke/VarHandle" ∧ (parseMethodDescriptor (yX9_allDuties).desc).map (fun d => d.parameters.length) = some 0 := by decide +kernel
set_option maxRecDepth 100000 in
set_option maxHeartbeats 4000000 in
theorem b_X9_allDuties_0 (l : Launch) : s_B l rm_X9_allDuties yX9_allDuties cX9_allDuties 3 ((some FieldType.int)) false 0 B_X9_allDuties_0 := fun p e s m args below meth c D ty ad A n0 φ0 Q G Y hY => (u_iconst G dX9_allDuties_0 (by decide) (u_istore_n G dX9_allDuties_1 rfl (u_iconst G dX9_allDuties_2 (by decide) (u_istore_n G dX9_allDuties_3 rfl (hY 4)))))
set_option maxRecDepth 100000 in
set_option maxHeartbeats 4000000 in
theorem b_X9_allDuties_4 (l : Launch) : s_B l rm_X9_allDuties yX9_allDuties cX9_allDuties 3 ((some FieldType.int)) false 4 B_X9_allDuties_4 := fun p e s m args below meth c D ty ad A n0 φ0 Q G Y hY => (u_iload_n G dX9_allDuties_4 rfl (u_aload_n G dX9_allDuties_5 rfl (t_getI G cl_9 (k := 0) (by decide) (Or.inl q5_16) rfl (Or.inl rfl) dX9_allDuties_6 (u_icmp_ge G dX9_allDuties_9 (by decide) (u_iload_n G dX9_allDuties_26 rfl (t_iret G rfl dX9_allDuties_27)) (u_iload_n G dX9_allDuties_12 rfl (u_aload_n G dX9_allDuties_13 rfl (u_iload_n G dX9_allDuties_14 rfl (t_callV G cl_9 (m_X9_owes l) ⟨rfl, rfl⟩ rfl ⟨Nat.le_of_ble_eq_true rfl, Nat.le_of_ble_eq_true rfl⟩ q6_88 q1_10 (Or.inl q6_85) q6_87 qs_58 hd_X9_owes dX9_allDuties_15 (u_iadd G dX9_allDuties_18 (u_istore_n G dX9_allDuties_19 rfl (t_iinc G dX9_allDuties_20 (by decide) (t_goto G dX9_allDuties_23 (by decide) (hY 4)))))))))))))
set_option maxRecDepth 100000 in
theorem m_X9_allDuties (l : Launch) : s_Met l yX9_allDuties cX9_allDuties 3 ((some FieldType.int)) rm_X9_allDuties false C_X9_allDuties := by
  intro D ty ad av φ sz sh me Q hsh hC
  unfold C_X9_allDuties at hC
  split at hC
  · exact s_met1 (P := P_X9_allDuties) (by decide +kernel) (fun _ => ⟨rfl, rfl⟩) (fun p e s m args below meth c D ty ad A n0 φ0 Q G Y hY => s_tab_T _ (List.forall_mem_cons.mpr ⟨b_X9_allDuties_0 l p e s m args below meth c D ty ad A n0 φ0 Q G Y hY, List.forall_mem_cons.mpr ⟨b_X9_allDuties_4 l p e s m args below meth c D ty ad A n0 φ0 Q G Y hY, fun _ h => absurd h List.not_mem_nil⟩⟩)) hsh rfl rfl (Nat.le_of_ble_eq_true rfl) hC
  · exact hC.elim
def B_X9_allEntered_0 (Q : SQ) (nx : Nat → SK) : SK := (o_const (.int 0) (o_istore 1 (o_const (.int 0) (o_istore 2 (nx 4)))))
def B_X9_allEntered_4 (Q : SQ) (nx : Nat → SK) : SK := (o_iload 2 (o_aload 0 (o_getI 9 0 (o_ic (fun x y => y ≤ x) (o_iload 1 (o_iret Q)) (o_aload 0 (o_aload 0 (o_getR 9 14 (o_iload 2 (o_iald (o_callV C_X9_isLit 9 2 (o_if (fun x => x = 0) (nx 37) (o_iload 1 (o_aload 0 (o_aload 0 (o_iload 2 (o_callV C_X9_lookers 9 2 (o_callV C_X9_many 9 2 (o_i2 (fun x y => x + y) (o_istore 1 (nx 37))))))))))))))))))))
def B_X9_allEntered_37 (Q : SQ) (nx : Nat → SK) : SK := (o_iinc 2 1 (nx 4))
def P_X9_allEntered (Q : SQ) (nx : Nat → SK) : Nat → SK := s_tab [(0, B_X9_allEntered_0 Q nx), (4, B_X9_allEntered_4 Q nx), (37, B_X9_allEntered_37 Q nx)]
def C_X9_allEntered : SC := fun av sh me Q => match av with
  | [.ref a0] => s_wp P_X9_allEntered Q 0 [some (.ref a0), none, none] [] sh me
  | _ => False
abbrev rm_X9_allEntered : Room := { frames := 5, cells := 0, slots := 0, locals := 121 }
theorem hd_X9_allEntered : (yX9_allEntered).cls ≠ "java/lang/invoke/MethodHandle" ∧ (yX9_allEntered).cls ≠ "java/lang/invoke/VarHandle" ∧ (parseMethodDescriptor (yX9_allEntered).desc).map (fun d => d.parameters.length) = some 0 := by decide +kernel
set_option maxRecDepth 100000 in
set_option maxHeartbeats 4000000 in
theorem b_X9_allEntered_0 (l : Launch) : s_B l rm_X9_allEntered yX9_allEntered cX9_allEntered 3 ((some FieldType.int)) false 0 B_X9_allEntered_0 := fun p e s m args below meth c D ty ad A n0 φ0 Q G Y hY => (u_iconst G dX9_allEntered_0 (by decide) (u_istore_n G dX9_allEntered_1 rfl (u_iconst G dX9_allEntered_2 (by decide) (u_istore_n G dX9_allEntered_3 rfl (hY 4)))))
set_option maxRecDepth 100000 in
set_option maxHeartbeats 4000000 in
theorem b_X9_allEntered_4 (l : Launch) : s_B l rm_X9_allEntered yX9_allEntered cX9_allEntered 3 ((some FieldType.int)) false 4 B_X9_allEntered_4 := fun p e s m args below meth c D ty ad A n0 φ0 Q G Y hY => (u_iload_n G dX9_allEntered_4 rfl (u_aload_n G dX9_allEntered_5 rfl (t_getI G cl_9 (k := 0) (by decide) (Or.inl q5_16) rfl (Or.inl rfl) dX9_allEntered_6 (u_icmp_ge G dX9_allEntered_9 (by decide) (u_iload_n G dX9_allEntered_43 rfl (t_iret G rfl dX9_allEntered_44)) (u_aload_n G dX9_allEntered_12 rfl (u_aload_n G dX9_allEntered_13 rfl (t_getR G cl_9 (k := 14) (by decide) (Or.inl q5_30) rfl (Or.inr ⟨_, rfl⟩) dX9_allEntered_14 (u_iload_n G dX9_allEntered_17 rfl (t_iald G dX9_allEntered_18 (t_callV G cl_9 (m_X9_isLit l) ⟨rfl, rfl⟩ rfl ⟨Nat.le_of_ble_eq_true rfl, Nat.le_of_ble_eq_true rfl⟩ q6_92 q1_10 (Or.inl q6_89) q6_91 qs_59 hd_X9_isLit dX9_allEntered_19 (u_if_eq G dX9_allEntered_22 (by decide) (hY 37) (u_iload_n G dX9_allEntered_25 rfl (u_aload_n G dX9_allEntered_26 rfl (u_aload_n G dX9_allEntered_27 rfl (u_iload_n G dX9_allEntered_28 rfl (t_callV G cl_9 (m_X9_lookers l) ⟨rfl, rfl⟩ rfl ⟨Nat.le_of_ble_eq_true rfl, Nat.le_of_ble_eq_true rfl⟩ q6_72 q1_10 (Or.inl q6_69) q6_71 qs_55 hd_X9_lookers dX9_allEntered_29 (t_callV G cl_9 (m_X9_many l) ⟨rfl, rfl⟩ rfl ⟨Nat.le_of_ble_eq_true rfl, Nat.le_of_ble_eq_true rfl⟩ q6_96 q1_10 (Or.inl q6_93) q6_95 qs_60 hd_X9_many dX9_allEntered_32 (u_iadd G dX9_allEntered_35 (u_istore_n G dX9_allEntered_36 rfl (hY 37))))))))))))))))))))
set_option maxRecDepth 100000 in
set_option maxHeartbeats 4000000 in
theorem b_X9_allEntered_37 (l : Launch) : s_B l rm_X9_allEntered yX9_allEntered cX9_allEntered 3 ((some FieldType.int)) false 37 B_X9_allEntered_37 := fun p e s m args below meth c D ty ad A n0 φ0 Q G Y hY => (t_iinc G dX9_allEntered_37 (by decide) (t_goto G dX9_allEntered_40 (by decide) (hY 4)))
set_option maxRecDepth 100000 in
theorem m_X9_allEntered (l : Launch) : s_Met l yX9_allEntered cX9_allEntered 3 ((some FieldType.int)) rm_X9_allEntered false C_X9_allEntered := by
  intro D ty ad av φ sz sh me Q hsh hC
  unfold C_X9_allEntered at hC
  split at hC
  · exact s_met1 (P := P_X9_allEntered) (by decide +kernel) (fun _ => ⟨rfl, rfl⟩) (fun p e s m args below meth c D ty ad A n0 φ0 Q G Y hY => s_tab_T _ (List.forall_mem_cons.mpr ⟨b_X9_allEntered_0 l p e s m args below meth c D ty ad A n0 φ0 Q G Y hY, List.forall_mem_cons.mpr ⟨b_X9_allEntered_4 l p e s m args below meth c D ty ad A n0 φ0 Q G Y hY, List.forall_mem_cons.mpr ⟨b_X9_allEntered_37 l p e s m args below meth c D ty ad A n0 φ0 Q G Y hY, fun _ h => absurd h List.not_mem_nil⟩⟩⟩)) hsh rfl rfl (Nat.le_of_ble_eq_true rfl) hC
  · exact hC.elim
def B_X9_isFrom_0 (Q : SQ) (nx : Nat → SK) : SK := (o_iload 1 (o_iload 2 (o_ic (fun x y => x < y) (nx 14) (o_iload 1 (o_iload 3 (o_ic (fun x y => y < x) (nx 14) (o_const (.int 1) (nx 15))))))))
def B_X9_isFrom_14 (Q : SQ) (nx : Nat → SK) : SK := (o_const (.int 0) (nx 15))
def B_X9_isFrom_15 (Q : SQ) (nx : Nat → SK) : SK := (o_zret Q)
def P_X9_isFrom (Q : SQ) (nx : Nat → SK) : Nat → SK := s_tab [(0, B_X9_isFrom_0 Q nx), (14, B_X9_isFrom_14 Q nx), (15, B_X9_isFrom_15 Q nx)]
def C_X9_isFrom : SC := fun av sh me Q => match av with
  | [.ref a0, .int a1, .int a2, .int a3] => s_wp P_X9_isFrom Q 0 [some (.ref a0), some (.int a1), some (.int a2), some (.int a3)] [] sh me
  | _ => False
abbrev rm_X9_isFrom : Room := { frames := 0, cells := 0, slots := 0, locals := 0 }
theorem hd_X9_isFrom : (yX9_isFrom).cls ≠ "java/lang/invoke/MethodHandle" ∧ (yX9_isFrom).cls ≠ "java/lang/invoke/VarHandle" ∧ (parseMethodDescriptor (yX9_isFrom).desc).map (fun d => d.parameters.length) = some 3 := by decide +kernel
set_option maxRecDepth 100000 in
set_option maxHeartbeats 4000000 in
theorem b_X9_isFrom_0 (l : Launch) : s_B l rm_X9_isFrom yX9_isFrom cX9_isFrom 4 ((some FieldType.boolean)) false 0 B_X9_isFrom_0 := fun p e s m args below meth c D ty ad A n0 φ0 Q G Y hY => (u_iload_n G dX9_isFrom_0 rfl (u_iload_n G dX9_isFrom_1 rfl (u_icmp_lt G dX9_isFrom_2 (by decide) (hY 14) (u_iload_n G dX9_isFrom_5 rfl (u_iload_n G dX9_isFrom_6 rfl (u_icmp_gt G dX9_isFrom_7 (by decide) (hY 14) (u_iconst G dX9_isFrom_10 (by decide) (t_goto G dX9_isFrom_11 (by decide) (hY 15)))))))))
set_option maxRecDepth 100000 in
set_option maxHeartbeats 4000000 in
theorem b_X9_isFrom_14 (l : Launch) : s_B l rm_X9_isFrom yX9_isFrom cX9_isFrom 4 ((some FieldType.boolean)) false 14 B_X9_isFrom_14 := fun p e s m args below meth c D ty ad A n0 φ0 Q G Y hY => (u_iconst G dX9_isFrom_14 (by decide) (hY 15))
set_option maxRecDepth 100000 in
set_option maxHeartbeats 4000000 in
theorem b_X9_isFrom_15 (l : Launch) : s_B l rm_X9_isFrom yX9_isFrom cX9_isFrom 4 ((some FieldType.boolean)) false 15 B_X9_isFrom_15 := fun p e s m args below meth c D ty ad A n0 φ0 Q G Y hY => (t_zret G rfl dX9_isFrom_15)
set_option maxRecDepth 100000 in
theorem m_X9_isFrom (l : Launch) : s_Met l yX9_isFrom cX9_isFrom 4 ((some FieldType.boolean)) rm_X9_isFrom false C_X9_isFrom := by
  intro D ty ad av φ sz sh me Q hsh hC
  unfold C_X9_isFrom at hC
  split at hC
  · exact s_met1 (P := P_X9_isFrom) (by decide +kernel) (fun _ => ⟨rfl, rfl⟩) (fun p e s m args below meth c D ty ad A n0 φ0 Q G Y hY => s_tab_T _ (List.forall_mem_cons.mpr ⟨b_X9_isFrom_0 l p e s m args below meth c D ty ad A n0 φ0 Q G Y hY, List.forall_mem_cons.mpr ⟨b_X9_isFrom_14 l p e s m args below meth c D ty ad A n0 φ0 Q G Y hY, List.forall_mem_cons.mpr ⟨b_X9_isFrom_15 l p e s m args below meth c D ty ad A n0 φ0 Q G Y hY, fun _ h => absurd h List.not_mem_nil⟩⟩⟩)) hsh rfl rfl (Nat.le_of_ble_eq_true rfl) hC
  · exact hC.elim
def B_X9_isAsked_0 (Q : SQ) (nx : Nat → SK) : SK := (o_iload 1 (o_if (fun x => ¬ x = 0) (o_iload 1 (o_const (.int 1) (o_ic (fun x y => ¬ x = y) (o_aload 0 (o_iload 2 (o_const (.int 0) (o_const (.int 1) (o_callV C_X9_isFrom 9 4 (nx 37)))))) (o_aload 0 (o_iload 2 (o_const (.int 1) (o_const (.int 5) (o_callV C_X9_isFrom 9 4 (nx 37))))))))) (o_aload 0 (o_iload 2 (o_const (.int 1) (o_const (.int 9) (o_callV C_X9_isFrom 9 4 (nx 37))))))))
def B_X9_isAsked_37 (Q : SQ) (nx : Nat → SK) : SK := (o_zret Q)
def P_X9_isAsked (Q : SQ) (nx : Nat → SK) : Nat → SK := s_tab [(0, B_X9_isAsked_0 Q nx), (37, B_X9_isAsked_37 Q nx)]
def C_X9_isAsked : SC := fun av sh me Q => match av with
  | [.ref a0, .int a1, .int a2] => s_wp P_X9_isAsked Q 0 [some (.ref a0), some (.int a1), some (.int a2)] [] sh me
  | _ => False
abbrev rm_X9_isAsked : Room := { frames := 1, cells := 0, slots := 0, locals := 23 }
theorem hd_X9_isAsked : (yX9_isAsked).cls ≠ "java/lang/invoke/MethodHandle" ∧ (yX9_isAsked).cls ≠ "java/lang/invoke/VarHandle" ∧ (parseMethodDescriptor (yX9_isAsked).desc).map (fun d => d.parameters.length) = some 2 := by decide +kernel
set_option maxRecDepth 100000 in
set_option maxHeartbeats 4000000 in
theorem b_X9_isAsked_0 (l : Launch) : s_B l rm_X9_isAsked yX9_isAsked cX9_isAsked 3 ((some FieldType.boolean)) false 0 B_X9_isAsked_0 := fun p e s m args below meth c D ty ad A n0 φ0 Q G Y hY => (u_iload_n G dX9_isAsked_0 rfl (u_if_ne G dX9_isAsked_1 (by decide) (u_iload_n G dX9_isAsked_15 rfl (u_iconst G dX9_isAsked_16 (by decide) (u_icmp_ne G dX9_isAsked_17 (by decide) (u_aload_n G dX9_isAsked_30 rfl (u_iload_n G dX9_isAsked_31 rfl (u_iconst G dX9_isAsked_32 (by decide) (u_iconst G dX9_isAsked_33 (by decide) (t_callV G cl_9 (m_X9_isFrom l) ⟨rfl, rfl⟩ rfl ⟨Nat.le_of_ble_eq_true rfl, Nat.le_of_ble_eq_true rfl⟩ q5_200 q1_10 (Or.inl q5_197) q5_199 qs_37 hd_X9_isFrom dX9_isAsked_34 (hY 37)))))) (u_aload_n G dX9_isAsked_20 rfl (u_iload_n G dX9_isAsked_21 rfl (u_iconst G dX9_isAsked_22 (by decide) (u_iconst G dX9_isAsked_23 (by decide) (t_callV G cl_9 (m_X9_isFrom l) ⟨rfl, rfl⟩ rfl ⟨Nat.le_of_ble_eq_true rfl, Nat.le_of_ble_eq_true rfl⟩ q5_200 q1_10 (Or.inl q5_197) q5_199 qs_37 hd_X9_isFrom dX9_isAsked_24 (t_goto G dX9_isAsked_27 (by decide) (hY 37)))))))))) (u_aload_n G dX9_isAsked_4 rfl (u_iload_n G dX9_isAsked_5 rfl (u_iconst G dX9_isAsked_6 (by decide) (u_bipush G dX9_isAsked_7 (by decide) (t_callV G cl_9 (m_X9_isFrom l) ⟨rfl, rfl⟩ rfl ⟨Nat.le_of_ble_eq_true rfl, Nat.le_of_ble_eq_true rfl⟩ q5_200 q1_10 (Or.inl q5_197) q5_199 qs_37 hd_X9_isFrom dX9_isAsked_9 (t_goto G dX9_isAsked_12 (by decide) (hY 37)))))))))
set_option maxRecDepth 100000 in
set_option maxHeartbeats 4000000 in
theorem b_X9_isAsked_37 (l : Launch) : s_B l rm_X9_isAsked yX9_isAsked cX9_isAsked 3 ((some FieldType.boolean)) false 37 B_X9_isAsked_37 := fun p e s m args below meth c D ty ad A n0 φ0 Q G Y hY => (t_zret G rfl dX9_isAsked_37)
set_option maxRecDepth 100000 in
theorem m_X9_isAsked (l : Launch) : s_Met l yX9_isAsked cX9_isAsked 3 ((some FieldType.boolean)) rm_X9_isAsked false C_X9_isAsked := by
  intro D ty ad av φ sz sh me Q hsh hC
  unfold C_X9_isAsked at hC
  split at hC
  · exact s_met1 (P := P_X9_isAsked) (by decide +kernel) (fun _ => ⟨rfl, rfl⟩) (fun p e s m args below meth c D ty ad A n0 φ0 Q G Y hY => s_tab_T _ (List.forall_mem_cons.mpr ⟨b_X9_isAsked_0 l p e s m args below meth c D ty ad A n0 φ0 Q G Y hY, List.forall_mem_cons.mpr ⟨b_X9_isAsked_37 l p e s m args below meth c D ty ad A n0 φ0 Q G Y hY, fun _ h => absurd h List.not_mem_nil⟩⟩)) hsh rfl rfl (Nat.le_of_ble_eq_true rfl) hC
  · exact hC.elim
def B_X9_asks_0 (Q : SQ) (nx : Nat → SK) : SK := (o_iload 1 (o_if (fun x => ¬ x = 0) (o_iload 1 (o_const (.int 1) (o_ic (fun x y => ¬ x = y) (o_aload 0 (o_iload 2 (o_putI 9 3 (nx 30)))) (o_aload 0 (o_iload 2 (o_putI 9 2 (nx 30))))))) (o_aload 0 (o_iload 2 (o_putI 9 1 (nx 30))))))
def B_X9_asks_30 (Q : SQ) (nx : Nat → SK) : SK := (o_vret Q)
def P_X9_asks (Q : SQ) (nx : Nat → SK) : Nat → SK := s_tab [(0, B_X9_asks_0 Q nx), (30, B_X9_asks_30 Q nx)]
def C_X9_asks : SC := fun av sh me Q => match av with
  | [.ref a0, .int a1, .int a2] => s_wp P_X9_asks Q 0 [some (.ref a0), some (.int a1), some (.int a2)] [] sh me
  | _ => False
abbrev rm_X9_asks : Room := { frames := 0, cells := 0, slots := 0, locals := 0 }
theorem hd_X9_asks : (yX9_asks).cls ≠ "java/lang/invoke/MethodHandle" ∧ (yX9_asks).cls ≠ "java/lang/invoke/VarHandle" ∧ (parseMethodDescriptor (yX9_asks).desc).map (fun d => d.parameters.length) = some 2 := by decide +kernel
set_option maxRecDepth 100000 in
set_option maxHeartbeats 4000000 in
theorem b_X9_asks_0 (l : Launch) : s_B l rm_X9_asks yX9_asks cX9_asks 3 ((none : Option FieldType)) false 0 B_X9_asks_0 := fun p e s m args below meth c D ty ad A n0 φ0 Q G Y hY => (u_iload_n G dX9_asks_0 rfl (u_if_ne G dX9_asks_1 (by decide) (u_iload_n G dX9_asks_12 rfl (u_iconst G dX9_asks_13 (by decide) (u_icmp_ne G dX9_asks_14 (by decide) (u_aload_n G dX9_asks_25 rfl (u_iload_n G dX9_asks_26 rfl (t_putI G cl_9 (k := 3) (by decide) (Or.inl ⟨rfl, Or.inl q5_19⟩) rfl rfl dX9_asks_27 (hY 30)))) (u_aload_n G dX9_asks_17 rfl (u_iload_n G dX9_asks_18 rfl (t_putI G cl_9 (k := 2) (by decide) (Or.inl ⟨rfl, Or.inl q5_18⟩) rfl rfl dX9_asks_19 (t_goto G dX9_asks_22 (by decide) (hY 30)))))))) (u_aload_n G dX9_asks_4 rfl (u_iload_n G dX9_asks_5 rfl (t_putI G cl_9 (k := 1) (by decide) (Or.inl ⟨rfl, Or.inl q5_17⟩) rfl rfl dX9_asks_6 (t_goto G dX9_asks_9 (by decide) (hY 30)))))))
set_option maxRecDepth 100000 in
set_option maxHeartbeats 4000000 in
theorem b_X9_asks_30 (l : Launch) : s_B l rm_X9_asks yX9_asks cX9_asks 3 ((none : Option FieldType)) false 30 B_X9_asks_30 := fun p e s m args below meth c D ty ad A n0 φ0 Q G Y hY => (t_vret G rfl dX9_asks_30)
set_option maxRecDepth 100000 in
theorem m_X9_asks (l : Launch) : s_Met l yX9_asks cX9_asks 3 ((none : Option FieldType)) rm_X9_asks false C_X9_asks := by
  intro D ty ad av φ sz sh me Q hsh hC
  unfold C_X9_asks at hC
  split at hC
  · exact s_met1 (P := P_X9_asks) (by decide +kernel) (fun _ => ⟨rfl, rfl⟩) (fun p e s m args below meth c D ty ad A n0 φ0 Q G Y hY => s_tab_T _ (List.forall_mem_cons.mpr ⟨b_X9_asks_0 l p e s m args below meth c D ty ad A n0 φ0 Q G Y hY, List.forall_mem_cons.mpr ⟨b_X9_asks_30 l p e s m args below meth c D ty ad A n0 φ0 Q G Y hY, fun _ h => absurd h List.not_mem_nil⟩⟩)) hsh rfl rfl (Nat.le_of_ble_eq_true rfl) hC
  · exact hC.elim
def B_X9_ask_0 (Q : SQ) (nx : Nat → SK) : SK := (o_iload 1 (o_if (fun x => x < 0) (nx 18) (o_iload 1 (o_const (.int 2) (o_ic (fun x y => y < x) (nx 18) (o_aload 0 (o_iload 1 (o_iload 2 (o_callV C_X9_isAsked 9 3 (o_if (fun x => ¬ x = 0) (o_iload 1 (o_if (fun x => ¬ x = 0) (o_iload 1 (o_const (.int 1) (o_ic (fun x y => ¬ x = y) (o_aload 0 (o_getI 9 3 (nx 52))) (o_aload 0 (o_getI 9 2 (nx 52)))))) (o_aload 0 (o_getI 9 1 (nx 52))))) (nx 18)))))))))))
def B_X9_ask_18 (Q : SQ) (nx : Nat → SK) : SK := (o_aload 0 (o_const (.int (-6)) (o_callV C_X9_no 9 2 (o_iret Q))))
def B_X9_ask_52 (Q : SQ) (nx : Nat → SK) : SK := (o_istore 3 (o_aload 0 (o_iload 1 (o_iload 2 (o_callV C_X9_asks 9 3 (o_iload 3 (o_iret Q)))))))
def P_X9_ask (Q : SQ) (nx : Nat → SK) : Nat → SK := s_tab [(0, B_X9_ask_0 Q nx), (18, B_X9_ask_18 Q nx), (52, B_X9_ask_52 Q nx)]
def C_X9_ask : SC := fun av sh me Q => match av with
  | [.ref a0, .int a1, .int a2] => s_wp P_X9_ask Q 0 [some (.ref a0), some (.int a1), some (.int a2), none] [] sh me
  | _ => False
abbrev rm_X9_ask : Room := { frames := 2, cells := 0, slots := 0, locals := 45 }
theorem hd_X9_ask : (yX9_ask).cls ≠ "java/lang/invoke/MethodHandle" ∧ (yX9_ask).cls ≠ "java/lang/invoke/VarHandle" ∧ (parseMethodDescriptor (yX9_ask).desc).map (fun d => d.parameters.length) = some 2 := by decide +kernel
set_option maxRecDepth 100000 in
set_option maxHeartbeats 4000000 in
theorem b_X9_ask_0 (l : Launch) : s_B l rm_X9_ask yX9_ask cX9_ask 4 ((some FieldType.int)) false 0 B_X9_ask_0 := fun p e s m args below meth c D ty ad A n0 φ0 Q G Y hY => (u_iload_n G dX9_ask_0 rfl (u_if_lt G dX9_ask_1 (by decide) (hY 18) (u_iload_n G dX9_ask_4 rfl (u_iconst G dX9_ask_5 (by decide) (u_icmp_gt G dX9_ask_6 (by decide) (hY 18) (u_aload_n G dX9_ask_9 rfl (u_iload_n G dX9_ask_10 rfl (u_iload_n G dX9_ask_11 rfl (t_callV G cl_9 (m_X9_isAsked l) ⟨rfl, rfl⟩ rfl ⟨Nat.le_of_ble_eq_true rfl, Nat.le_of_ble_eq_true rfl⟩ q5_232 q1_10 (Or.inl q5_229) q5_231 qs_41 hd_X9_isAsked dX9_ask_12 (u_if_ne G dX9_ask_15 (by decide) (u_iload_n G dX9_ask_25 rfl (u_if_ne G dX9_ask_26 (by decide) (u_iload_n G dX9_ask_36 rfl (u_iconst G dX9_ask_37 (by decide) (u_icmp_ne G dX9_ask_38 (by decide) (u_aload_n G dX9_ask_48 rfl (t_getI G cl_9 (k := 3) (by decide) (Or.inl q5_19) rfl (Or.inl rfl) dX9_ask_49 (hY 52))) (u_aload_n G dX9_ask_41 rfl (t_getI G cl_9 (k := 2) (by decide) (Or.inl q5_18) rfl (Or.inl rfl) dX9_ask_42 (t_goto G dX9_ask_45 (by decide) (hY 52))))))) (u_aload_n G dX9_ask_29 rfl (t_getI G cl_9 (k := 1) (by decide) (Or.inl q5_17) rfl (Or.inl rfl) dX9_ask_30 (t_goto G dX9_ask_33 (by decide) (hY 52)))))) (hY 18)))))))))))
set_option maxRecDepth 100000 in
set_option maxHeartbeats 4000000 in
theorem b_X9_ask_18 (l : Launch) : s_B l rm_X9_ask yX9_ask cX9_ask 4 ((some FieldType.int)) false 18 B_X9_ask_18 := fun p e s m args below meth c D ty ad A n0 φ0 Q G Y hY => (u_aload_n G dX9_ask_18 rfl (u_bipush G dX9_ask_19 (by decide) (t_callV G cl_9 (m_X9_no l) ⟨rfl, rfl⟩ rfl ⟨Nat.le_of_ble_eq_true rfl, Nat.le_of_ble_eq_true rfl⟩ q5_160 q1_10 (Or.inl q5_157) q5_159 qs_34 hd_X9_no dX9_ask_21 (t_iret G rfl dX9_ask_24))))
set_option maxRecDepth 100000 in
set_option maxHeartbeats 4000000 in
theorem b_X9_ask_52 (l : Launch) : s_B l rm_X9_ask yX9_ask cX9_ask 4 ((some FieldType.int)) false 52 B_X9_ask_52 := fun p e s m args below meth c D ty ad A n0 φ0 Q G Y hY => (u_istore_n G dX9_ask_52 rfl (u_aload_n G dX9_ask_53 rfl (u_iload_n G dX9_ask_54 rfl (u_iload_n G dX9_ask_55 rfl (t_callV G cl_9 (m_X9_asks l) ⟨rfl, rfl⟩ rfl ⟨Nat.le_of_ble_eq_true rfl, Nat.le_of_ble_eq_true rfl⟩ q5_236 q1_10 (Or.inl q5_233) q5_235 qs_42 hd_X9_asks dX9_ask_56 (u_iload_n G dX9_ask_59 rfl (t_iret G rfl dX9_ask_60)))))))
set_option maxRecDepth 100000 in
theorem m_X9_ask (l : Launch) : s_Met l yX9_ask cX9_ask 4 ((some FieldType.int)) rm_X9_ask false C_X9_ask := by
  intro D ty ad av φ sz sh me Q hsh hC
  unfold C_X9_ask at hC
  split at hC
  · exact s_met1 (P := P_X9_ask) (by decide +kernel) (fun _ => ⟨rfl, rfl⟩) (fun p e s m args below meth c D ty ad A n0 φ0 Q G Y hY => s_tab_T _ (List.forall_mem_cons.mpr ⟨b_X9_ask_0 l p e s m args below meth c D ty ad A n0 φ0 Q G Y hY, List.forall_mem_cons.mpr ⟨b_X9_ask_18 l p e s m args below meth c D ty ad A n0 φ0 Q G Y hY, List.forall_mem_cons.mpr ⟨b_X9_ask_52 l p e s m args below meth c D ty ad A n0 φ0 Q G Y hY, fun _ h => absurd h List.not_mem_nil⟩⟩⟩)) hsh rfl rfl (Nat.le_of_ble_eq_true rfl) hC
  · exact hC.elim
def B_X9_balconies_0 (Q : SQ) (nx : Nat → SK) : SK := (o_iload 1 (o_if (fun x => x < 0) (nx 9) (o_iload 1 (o_const (.int 1) (o_ic (fun x y => x ≤ y) (o_const (.int (-1)) (o_istore 2 (o_const (.int (-1)) (o_istore 3 (o_const (.int 0) (o_istore 4 (nx 23))))))) (nx 9))))))
def B_X9_balconies_9 (Q : SQ) (nx : Nat → SK) : SK := (o_aload 0 (o_const (.int (-5)) (o_callV C_X9_no 9 2 (o_iret Q))))
def B_X9_balconies_23 (Q : SQ) (nx : Nat → SK) : SK := (o_iload 4 (o_const (.int 36) (o_ic (fun x y => y ≤ x) (o_iload 1 (o_if (fun x => ¬ x = 0) (o_iload 3 (nx 92)) (o_iload 2 (nx 92)))) (o_aload 0 (o_getR 9 17 (o_iload 4 (o_iald (o_istore 5 (o_aload 0 (o_getR 9 17 (o_iload 4 (o_const (.int 1) (o_iast (o_aload 0 (o_callV C_X9_allEntered 9 1 (o_istore 6 (o_aload 0 (o_getR 9 17 (o_iload 4 (o_iload 5 (o_iast (o_iload 6 (o_iload 3 (o_ic (fun x y => y < x) (o_iload 4 (o_istore 2 (o_iload 6 (o_istore 3 (nx 77))))) (nx 77)))))))))))))))))))))))))
def B_X9_balconies_77 (Q : SQ) (nx : Nat → SK) : SK := (o_iinc 4 1 (nx 23))
def B_X9_balconies_92 (Q : SQ) (nx : Nat → SK) : SK := (o_iret Q)
def P_X9_balconies (Q : SQ) (nx : Nat → SK) : Nat → SK := s_tab [(0, B_X9_balconies_0 Q nx), (9, B_X9_balconies_9 Q nx), (23, B_X9_balconies_23 Q nx), (77, B_X9_balconies_77 Q nx), (92, B_X9_balconies_92 Q nx)]
def C_X9_balconies : SC := fun av sh me Q => match av with
  | [.ref a0, .int a1] => s_wp P_X9_balconies Q 0 [some (.ref a0), some (.int a1), none, none, none, none, none] [] sh me
  | _ => False
abbrev rm_X9_balconies : Room := { frames := 6, cells := 0, slots := 0, locals := 143 }
theorem hd_X9_balconies : (yX9_balconies).cls ≠ "java/lang/invoke/MethodHandle" ∧ (yX9_balconies).cls ≠ "java/lang/invoke/VarHandle" ∧ (parseMethodDescriptor (yX9_balconies).desc).map (fun d => d.parameters.length) = some 1 := by decide +kernel
set_option maxRecDepth 100000 in
set_option maxHeartbeats 4000000 in
theorem b_X9_balconies_0 (l : Launch) : s_B l rm_X9_balconies yX9_balconies cX9_balconies 7 ((some FieldType.int)) false 0 B_X9_balconies_0 := fun p e s m args below meth c D ty ad A n0 φ0 Q G Y hY => (u_iload_n G dX9_balconies_0 rfl (u_if_lt G dX9_balconies_1 (by decide) (hY 9) (u_iload_n G dX9_balconies_4 rfl (u_iconst G dX9_balconies_5 (by decide) (u_icmp_le G dX9_balconies_6 (by decide) (u_iconst G dX9_balconies_16 (by decide) (u_istore_n G dX9_balconies_17 rfl (u_iconst G dX9_balconies_18 (by decide) (u_istore_n G dX9_balconies_19 rfl (u_iconst G dX9_balconies_20 (by decide) (u_istore G dX9_balconies_21 (hY 23))))))) (hY 9))))))
set_option maxRecDepth 100000 in
set_option maxHeartbeats 4000000 in
theorem b_X9_balconies_9 (l : Launch) : s_B l rm_X9_balconies yX9_balconies cX9_balconies 7 ((some FieldType.int)) false 9 B_X9_balconies_9 := fun p e s m args below meth c D ty ad A n0 φ0 Q G Y hY => (u_aload_n G dX9_balconies_9 rfl (u_bipush G dX9_balconies_10 (by decide) (t_callV G cl_9 (m_X9_no l) ⟨rfl, rfl⟩ rfl ⟨Nat.le_of_ble_eq_true rfl, Nat.le_of_ble_eq_true rfl⟩ q5_160 q1_10 (Or.inl q5_157) q5_159 qs_34 hd_X9_no dX9_balconies_12 (t_iret G rfl dX9_balconies_15))))
set_option maxRecDepth 100000 in
set_option maxHeartbeats 4000000 in
theorem b_X9_balconies_23 (l : Launch) : s_B l rm_X9_balconies yX9_balconies cX9_balconies 7 ((some FieldType.int)) false 23 B_X9_balconies_23 := fun p e s m args below meth c D ty ad A n0 φ0 Q G Y hY => (u_iload G dX9_balconies_23 (u_bipush G dX9_balconies_25 (by decide) (u_icmp_ge G dX9_balconies_27 (by decide) (u_iload_n G dX9_balconies_83 rfl (u_if_ne G dX9_balconies_84 (by decide) (u_iload_n G dX9_balconies_91 rfl (hY 92)) (u_iload_n G dX9_balconies_87 rfl (t_goto G dX9_balconies_88 (by decide) (hY 92))))) (u_aload_n G dX9_balconies_30 rfl (t_getR G cl_9 (k := 17) (by decide) (Or.inl q5_33) rfl (Or.inr ⟨_, rfl⟩) dX9_balconies_31 (u_iload G dX9_balconies_34 (t_iald G dX9_balconies_36 (u_istore G dX9_balconies_37 (u_aload_n G dX9_balconies_39 rfl (t_getR G cl_9 (k := 17) (by decide) (Or.inl q5_33) rfl (Or.inr ⟨_, rfl⟩) dX9_balconies_40 (u_iload G dX9_balconies_43 (u_iconst G dX9_balconies_45 (by decide) (t_iast G dX9_balconies_46 (u_aload_n G dX9_balconies_47 rfl (t_callV G cl_9 (m_X9_allEntered l) ⟨rfl, rfl⟩ rfl ⟨Nat.le_of_ble_eq_true rfl, Nat.le_of_ble_eq_true rfl⟩ q6_149 q1_10 (Or.inl q6_146) q6_148 qs_68 hd_X9_allEntered dX9_balconies_48 (u_istore G dX9_balconies_51 (u_aload_n G dX9_balconies_53 rfl (t_getR G cl_9 (k := 17) (by decide) (Or.inl q5_33) rfl (Or.inr ⟨_, rfl⟩) dX9_balconies_54 (u_iload G dX9_balconies_57 (u_iload G dX9_balconies_59 (t_iast G dX9_balconies_61 (u_iload G dX9_balconies_62 (u_iload_n G dX9_balconies_64 rfl (u_icmp_gt G dX9_balconies_65 (by decide) (u_iload G dX9_balconies_71 (u_istore_n G dX9_balconies_73 rfl (u_iload G dX9_balconies_74 (u_istore_n G dX9_balconies_76 rfl (hY 77))))) (t_goto G dX9_balconies_68 (by decide) (hY 77))))))))))))))))))))))))))
set_option maxRecDepth 100000 in
set_option maxHeartbeats 4000000 in
theorem b_X9_balconies_77 (l : Launch) : s_B l rm_X9_balconies yX9_balconies cX9_balconies 7 ((some FieldType.int)) false 77 B_X9_balconies_77 := fun p e s m args below meth c D ty ad A n0 φ0 Q G Y hY => (t_iinc G dX9_balconies_77 (by decide) (t_goto G dX9_balconies_80 (by decide) (hY 23)))
set_option maxRecDepth 100000 in
set_option maxHeartbeats 4000000 in
theorem b_X9_balconies_92 (l : Launch) : s_B l rm_X9_balconies yX9_balconies cX9_balconies 7 ((some FieldType.int)) false 92 B_X9_balconies_92 := fun p e s m args below meth c D ty ad A n0 φ0 Q G Y hY => (t_iret G rfl dX9_balconies_92)
set_option maxRecDepth 100000 in
theorem m_X9_balconies (l : Launch) : s_Met l yX9_balconies cX9_balconies 7 ((some FieldType.int)) rm_X9_balconies false C_X9_balconies := by
  intro D ty ad av φ sz sh me Q hsh hC
  unfold C_X9_balconies at hC
  split at hC
  · exact s_met1 (P := P_X9_balconies) (by decide +kernel) (fun _ => ⟨rfl, rfl⟩) (fun p e s m args below meth c D ty ad A n0 φ0 Q G Y hY => s_tab_T _ (List.forall_mem_cons.mpr ⟨b_X9_balconies_0 l p e s m args below meth c D ty ad A n0 φ0 Q G Y hY, List.forall_mem_cons.mpr ⟨b_X9_balconies_9 l p e s m args below meth c D ty ad A n0 φ0 Q G Y hY, List.forall_mem_cons.mpr ⟨b_X9_balconies_23 l p e s m args below meth c D ty ad A n0 φ0 Q G Y hY, List.forall_mem_cons.mpr ⟨b_X9_balconies_77 l p e s m args below meth c D ty ad A n0 φ0 Q G Y hY, List.forall_mem_cons.mpr ⟨b_X9_balconies_92 l p e s m args below meth c D ty ad A n0 φ0 Q G Y hY, fun _ h => absurd h List.not_mem_nil⟩⟩⟩⟩⟩)) hsh rfl rfl (Nat.le_of_ble_eq_true rfl) hC
  · exact hC.elim
def B_X9_isShelf_0 (Q : SQ) (nx : Nat → SK) : SK := (o_iload 1 (o_if (fun x => x < 0) (nx 14) (o_iload 1 (o_const (.int 8) (o_ic (fun x y => y ≤ x) (nx 14) (o_const (.int 1) (nx 15)))))))
def B_X9_isShelf_14 (Q : SQ) (nx : Nat → SK) : SK := (o_const (.int 0) (nx 15))
def B_X9_isShelf_15 (Q : SQ) (nx : Nat → SK) : SK := (o_zret Q)
def P_X9_isShelf (Q : SQ) (nx : Nat → SK) : Nat → SK := s_tab [(0, B_X9_isShelf_0 Q nx), (14, B_X9_isShelf_14 Q nx), (15, B_X9_isShelf_15 Q nx)]
def C_X9_isShelf : SC := fun av sh me Q => match av with
  | [.ref a0, .int a1] => s_wp P_X9_isShelf Q 0 [some (.ref a0), some (.int a1)] [] sh me
  | _ => False
abbrev rm_X9_isShelf : Room := { frames := 0, cells := 0, slots := 0, locals := 0 }
theorem hd_X9_isShelf : (yX9_isShelf).cls ≠ "java/lang/invoke/MethodHandle" ∧ (yX9_isShelf).cls ≠ "java/lang/invoke/VarHandle" ∧ (parseMethodDescriptor (yX9_isShelf).desc).map (fun d => d.parameters.length) = some 1 := by decide +kernel
set_option maxRecDepth 100000 in
set_option maxHeartbeats 4000000 in
theorem b_X9_isShelf_0 (l : Launch) : s_B l rm_X9_isShelf yX9_isShelf cX9_isShelf 2 ((some FieldType.boolean)) false 0 B_X9_isShelf_0 := fun p e s m args below meth c D ty ad A n0 φ0 Q G Y hY => (u_iload_n G dX9_isShelf_0 rfl (u_if_lt G dX9_isShelf_1 (by decide) (hY 14) (u_iload_n G dX9_isShelf_4 rfl (u_bipush G dX9_isShelf_5 (by decide) (u_icmp_ge G dX9_isShelf_7 (by decide) (hY 14) (u_iconst G dX9_isShelf_10 (by decide) (t_goto G dX9_isShelf_11 (by decide) (hY 15))))))))
set_option maxRecDepth 100000 in
set_option maxHeartbeats 4000000 in
theorem b_X9_isShelf_14 (l : Launch) : s_B l rm_X9_isShelf yX9_isShelf cX9_isShelf 2 ((some FieldType.boolean)) false 14 B_X9_isShelf_14 := fun p e s m args below meth c D ty ad A n0 φ0 Q G Y hY => (u_iconst G dX9_isShelf_14 (by decide) (hY 15))
set_option maxRecDepth 100000 in
set_option maxHeartbeats 4000000 in
theorem b_X9_isShelf_15 (l : Launch) : s_B l rm_X9_isShelf yX9_isShelf cX9_isShelf 2 ((some FieldType.boolean)) false 15 B_X9_isShelf_15 := fun p e s m args below meth c D ty ad A n0 φ0 Q G Y hY => (t_zret G rfl dX9_isShelf_15)
set_option maxRecDepth 100000 in
theorem m_X9_isShelf (l : Launch) : s_Met l yX9_isShelf cX9_isShelf 2 ((some FieldType.boolean)) rm_X9_isShelf false C_X9_isShelf := by
  intro D ty ad av φ sz sh me Q hsh hC
  unfold C_X9_isShelf at hC
  split at hC
  · exact s_met1 (P := P_X9_isShelf) (by decide +kernel) (fun _ => ⟨rfl, rfl⟩) (fun p e s m args below meth c D ty ad A n0 φ0 Q G Y hY => s_tab_T _ (List.forall_mem_cons.mpr ⟨b_X9_isShelf_0 l p e s m args below meth c D ty ad A n0 φ0 Q G Y hY, List.forall_mem_cons.mpr ⟨b_X9_isShelf_14 l p e s m args below meth c D ty ad A n0 φ0 Q G Y hY, List.forall_mem_cons.mpr ⟨b_X9_isShelf_15 l p e s m args below meth c D ty ad A n0 φ0 Q G Y hY, fun _ h => absurd h List.not_mem_nil⟩⟩⟩)) hsh rfl rfl (Nat.le_of_ble_eq_true rfl) hC
  · exact hC.elim
def B_X9_wanted_0 (Q : SQ) (nx : Nat → SK) : SK := (o_aload 0 (o_iload 1 (o_callV C_X9_isShelf 9 2 (o_if (fun x => ¬ x = 0) (o_aload 0 (o_getR 9 18 (o_iload 1 (o_iald (o_const (.int 2) (o_ic (fun x y => ¬ x = y) (o_aload 0 (o_getR 9 18 (o_iload 1 (o_iald (o_if (fun x => ¬ x = 0) (o_const (.int 0) (nx 42)) (o_const (.int (-3)) (nx 42))))))) (o_const (.int (-2)) (nx 42)))))))) (o_const (.int (-1)) (nx 42))))))
def B_X9_wanted_42 (Q : SQ) (nx : Nat → SK) : SK := (o_iret Q)
def P_X9_wanted (Q : SQ) (nx : Nat → SK) : Nat → SK := s_tab [(0, B_X9_wanted_0 Q nx), (42, B_X9_wanted_42 Q nx)]
def C_X9_wanted : SC := fun av sh me Q => match av with
  | [.ref a0, .int a1] => s_wp P_X9_wanted Q 0 [some (.ref a0), some (.int a1)] [] sh me
  | _ => False
abbrev rm_X9_wanted : Room := { frames := 1, cells := 0, slots := 0, locals := 21 }
theorem hd_X9_wanted : (yX9_wanted).cls ≠ "java/lang/invoke/MethodHandle" ∧ (yX9_wanted).cls ≠ "java/lang/invoke/VarHandle" ∧ (parseMethodDescriptor (yX9_wanted).desc).map (fun d => d.parameters.length) = some 1 := by decide +kernel
set_option maxRecDepth 100000 in
set_option maxHeartbeats 4000000 in
theorem b_X9_wanted_0 (l : Launch) : s_B l rm_X9_wanted yX9_wanted cX9_wanted 2 ((some FieldType.int)) false 0 B_X9_wanted_0 := fun p e s m args below meth c D ty ad A n0 φ0 Q G Y hY => (u_aload_n G dX9_wanted_0 rfl (u_iload_n G dX9_wanted_1 rfl (t_callV G cl_9 (m_X9_isShelf l) ⟨rfl, rfl⟩ rfl ⟨Nat.le_of_ble_eq_true rfl, Nat.le_of_ble_eq_true rfl⟩ q5_156 q1_10 (Or.inl q5_153) q5_155 qs_33 hd_X9_isShelf dX9_wanted_2 (u_if_ne G dX9_wanted_5 (by decide) (u_aload_n G dX9_wanted_12 rfl (t_getR G cl_9 (k := 18) (by decide) (Or.inl q5_34) rfl (Or.inr ⟨_, rfl⟩) dX9_wanted_13 (u_iload_n G dX9_wanted_16 rfl (t_iald G dX9_wanted_17 (u_iconst G dX9_wanted_18 (by decide) (u_icmp_ne G dX9_wanted_19 (by decide) (u_aload_n G dX9_wanted_27 rfl (t_getR G cl_9 (k := 18) (by decide) (Or.inl q5_34) rfl (Or.inr ⟨_, rfl⟩) dX9_wanted_28 (u_iload_n G dX9_wanted_31 rfl (t_iald G dX9_wanted_32 (u_if_ne G dX9_wanted_33 (by decide) (u_iconst G dX9_wanted_41 (by decide) (hY 42)) (u_bipush G dX9_wanted_36 (by decide) (t_goto G dX9_wanted_38 (by decide) (hY 42)))))))) (u_bipush G dX9_wanted_22 (by decide) (t_goto G dX9_wanted_24 (by decide) (hY 42))))))))) (u_iconst G dX9_wanted_8 (by decide) (t_goto G dX9_wanted_9 (by decide) (hY 42)))))))
set_option maxRecDepth 100000 in
set_option maxHeartbeats 4000000 in
theorem b_X9_wanted_42 (l : Launch) : s_B l rm_X9_wanted yX9_wanted cX9_wanted 2 ((some FieldType.int)) false 42 B_X9_wanted_42 := fun p e s m args below meth c D ty ad A n0 φ0 Q G Y hY => (t_iret G rfl dX9_wanted_42)
set_option maxRecDepth 100000 in
theorem m_X9_wanted (l : Launch) : s_Met l yX9_wanted cX9_wanted 2 ((some FieldType.int)) rm_X9_wanted false C_X9_wanted := by
  intro D ty ad av φ sz sh me Q hsh hC
  unfold C_X9_wanted at hC
  split at hC
  · exact s_met1 (P := P_X9_wanted) (by decide +kernel) (fun _ => ⟨rfl, rfl⟩) (fun p e s m args below meth c D ty ad A n0 φ0 Q G Y hY => s_tab_T _ (List.forall_mem_cons.mpr ⟨b_X9_wanted_0 l p e s m args below meth c D ty ad A n0 φ0 Q G Y hY, List.forall_mem_cons.mpr ⟨b_X9_wanted_42 l p e s m args below meth c D ty ad A n0 φ0 Q G Y hY, fun _ h => absurd h List.not_mem_nil⟩⟩)) hsh rfl rfl (Nat.le_of_ble_eq_true rfl) hC
  · exact hC.elim
def B_X9_barsOf_0 (Q : SQ) (nx : Nat → SK) : SK := (o_aload 0 (o_iload 1 (o_callV C_X9_wanted 9 2 (o_istore 3 (o_iload 3 (o_if (fun x => x = 0) (o_iload 2 (o_if (fun x => 0 ≤ x) (o_iload 2 (o_aload 0 (o_getR 9 20 (o_iload 1 (o_iald (o_ic (fun x y => x ≤ y) (o_iload 2 (o_const (.int 40) (o_ic (fun x y => x ≤ y) (o_const (.int 0) (nx 50)) (o_const (.int (-6)) (nx 50))))) (o_const (.int (-5)) (nx 50)))))))) (o_const (.int (-4)) (nx 50)))) (o_iload 3 (nx 50))))))))
def B_X9_barsOf_50 (Q : SQ) (nx : Nat → SK) : SK := (o_iret Q)
def P_X9_barsOf (Q : SQ) (nx : Nat → SK) : Nat → SK := s_tab [(0, B_X9_barsOf_0 Q nx), (50, B_X9_barsOf_50 Q nx)]
def C_X9_barsOf : SC := fun av sh me Q => match av with
  | [.ref a0, .int a1, .int a2] => s_wp P_X9_barsOf Q 0 [some (.ref a0), some (.int a1), some (.int a2), none] [] sh me
  | _ => False
abbrev rm_X9_barsOf : Room := { frames := 2, cells := 0, slots := 0, locals := 42 }
theorem hd_X9_barsOf : (yX9_barsOf).cls ≠ "java/lang/invoke/MethodHandle" ∧ (yX9_barsOf).cls ≠ "java/lang/invoke/VarHandle" ∧ (parseMethodDescriptor (yX9_barsOf).desc).map (fun d => d.parameters.length) = some 2 := by decide +kernel
set_option maxRecDepth 100000 in
set_option maxHeartbeats 4000000 in
theorem b_X9_barsOf_0 (l : Launch) : s_B l rm_X9_barsOf yX9_barsOf cX9_barsOf 4 ((some FieldType.int)) false 0 B_X9_barsOf_0 := fun p e s m args below meth c D ty ad A n0 φ0 Q G Y hY => (u_aload_n G dX9_barsOf_0 rfl (u_iload_n G dX9_barsOf_1 rfl (t_callV G cl_9 (m_X9_wanted l) ⟨rfl, rfl⟩ rfl ⟨Nat.le_of_ble_eq_true rfl, Nat.le_of_ble_eq_true rfl⟩ q6_12 q1_10 (Or.inl q6_9) q6_11 qs_43 hd_X9_wanted dX9_barsOf_2 (u_istore_n G dX9_barsOf_5 rfl (u_iload_n G dX9_barsOf_6 rfl (u_if_eq G dX9_barsOf_7 (by decide) (u_iload_n G dX9_barsOf_14 rfl (u_if_ge G dX9_barsOf_15 (by decide) (u_iload_n G dX9_barsOf_23 rfl (u_aload_n G dX9_barsOf_24 rfl (t_getR G cl_9 (k := 20) (by decide) (Or.inl q5_36) rfl (Or.inr ⟨_, rfl⟩) dX9_barsOf_25 (u_iload_n G dX9_barsOf_28 rfl (t_iald G dX9_barsOf_29 (u_icmp_le G dX9_barsOf_30 (by decide) (u_iload_n G dX9_barsOf_38 rfl (u_bipush G dX9_barsOf_39 (by decide) (u_icmp_le G dX9_barsOf_41 (by decide) (u_iconst G dX9_barsOf_49 (by decide) (hY 50)) (u_bipush G dX9_barsOf_44 (by decide) (t_goto G dX9_barsOf_46 (by decide) (hY 50)))))) (u_bipush G dX9_barsOf_33 (by decide) (t_goto G dX9_barsOf_35 (by decide) (hY 50))))))))) (u_bipush G dX9_barsOf_18 (by decide) (t_goto G dX9_barsOf_20 (by decide) (hY 50))))) (u_iload_n G dX9_barsOf_10 rfl (t_goto G dX9_barsOf_11 (by decide) (hY 50)))))))))
set_option maxRecDepth 100000 in
set_option maxHeartbeats 4000000 in
theorem b_X9_barsOf_50 (l : Launch) : s_B l rm_X9_barsOf yX9_barsOf cX9_barsOf 4 ((some FieldType.int)) false 50 B_X9_barsOf_50 := fun p e s m args below meth c D ty ad A n0 φ0 Q G Y hY => (t_iret G rfl dX9_barsOf_50)
set_option maxRecDepth 100000 in
theorem m_X9_barsOf (l : Launch) : s_Met l yX9_barsOf cX9_barsOf 4 ((some FieldType.int)) rm_X9_barsOf false C_X9_barsOf := by
  intro D ty ad av φ sz sh me Q hsh hC
  unfold C_X9_barsOf at hC
  split at hC
  · exact s_met1 (P := P_X9_barsOf) (by decide +kernel) (fun _ => ⟨rfl, rfl⟩) (fun p e s m args below meth c D ty ad A n0 φ0 Q G Y hY => s_tab_T _ (List.forall_mem_cons.mpr ⟨b_X9_barsOf_0 l p e s m args below meth c D ty ad A n0 φ0 Q G Y hY, List.forall_mem_cons.mpr ⟨b_X9_barsOf_50 l p e s m args below meth c D ty ad A n0 φ0 Q G Y hY, fun _ h => absurd h List.not_mem_nil⟩⟩)) hsh rfl rfl (Nat.le_of_ble_eq_true rfl) hC
  · exact hC.elim
def B_X9_carries_0 (Q : SQ) (nx : Nat → SK) : SK := (o_const (.int 0) (o_istore 6 (nx 3)))
def B_X9_carries_3 (Q : SQ) (nx : Nat → SK) : SK := (o_iload 6 (o_iload 2 (o_ic (fun x y => y ≤ x) (o_iload 4 (o_iload 2 (o_i2 (fun x y => x + y) (o_iret Q)))) (o_iload 5 (o_if (fun x => x = 0) (o_aload 3 (o_iload 4 (o_iload 6 (o_i2 (fun x y => x + y) (o_aload 1 (o_iload 6 (o_iald (o_iast (nx 39))))))))) (o_aload 1 (o_iload 6 (o_aload 3 (o_iload 4 (o_iload 6 (o_i2 (fun x y => x + y) (o_iald (o_iast (nx 39))))))))))))))
def B_X9_carries_39 (Q : SQ) (nx : Nat → SK) : SK := (o_iinc 6 1 (nx 3))
def P_X9_carries (Q : SQ) (nx : Nat → SK) : Nat → SK := s_tab [(0, B_X9_carries_0 Q nx), (3, B_X9_carries_3 Q nx), (39, B_X9_carries_39 Q nx)]
def C_X9_carries : SC := fun av sh me Q => match av with
  | [.ref a0, .ref a1, .int a2, .ref a3, .int a4, .int a5] => s_wp P_X9_carries Q 0 [some (.ref a0), some (.ref a1), some (.int a2), some (.ref a3), some (.int a4), some (.int a5), none] [] sh me
  | _ => False
abbrev rm_X9_carries : Room := { frames := 0, cells := 0, slots := 0, locals := 0 }
theorem hd_X9_carries : (yX9_carries).cls ≠ "java/lang/invoke/MethodHandle" ∧ (yX9_carries).cls ≠ "java/lang/invoke/VarHandle" ∧ (parseMethodDescriptor (yX9_carries).desc).map (fun d => d.parameters.length) = some 5 := by decide +kernel
set_option maxRecDepth 100000 in
set_option maxHeartbeats 4000000 in
theorem b_X9_carries_0 (l : Launch) : s_B l rm_X9_carries yX9_carries cX9_carries 7 ((some FieldType.int)) false 0 B_X9_carries_0 := fun p e s m args below meth c D ty ad A n0 φ0 Q G Y hY => (u_iconst G dX9_carries_0 (by decide) (u_istore G dX9_carries_1 (hY 3)))
set_option maxRecDepth 100000 in
set_option maxHeartbeats 4000000 in
theorem b_X9_carries_3 (l : Launch) : s_B l rm_X9_carries yX9_carries cX9_carries 7 ((some FieldType.int)) false 3 B_X9_carries_3 := fun p e s m args below meth c D ty ad A n0 φ0 Q G Y hY => (u_iload G dX9_carries_3 (u_iload_n G dX9_carries_5 rfl (u_icmp_ge G dX9_carries_6 (by decide) (u_iload G dX9_carries_45 (u_iload_n G dX9_carries_47 rfl (u_iadd G dX9_carries_48 (t_iret G rfl dX9_carries_49)))) (u_iload G dX9_carries_9 (u_if_eq G dX9_carries_11 (by decide) (u_aload_n G dX9_carries_28 rfl (u_iload G dX9_carries_29 (u_iload G dX9_carries_31 (u_iadd G dX9_carries_33 (u_aload_n G dX9_carries_34 rfl (u_iload G dX9_carries_35 (t_iald G dX9_carries_37 (t_iast G dX9_carries_38 (hY 39))))))))) (u_aload_n G dX9_carries_14 rfl (u_iload G dX9_carries_15 (u_aload_n G dX9_carries_17 rfl (u_iload G dX9_carries_18 (u_iload G dX9_carries_20 (u_iadd G dX9_carries_22 (t_iald G dX9_carries_23 (t_iast G dX9_carries_24 (t_goto G dX9_carries_25 (by decide) (hY 39)))))))))))))))
set_option maxRecDepth 100000 in
set_option maxHeartbeats 4000000 in
theorem b_X9_carries_39 (l : Launch) : s_B l rm_X9_carries yX9_carries cX9_carries 7 ((some FieldType.int)) false 39 B_X9_carries_39 := fun p e s m args below meth c D ty ad A n0 φ0 Q G Y hY => (t_iinc G dX9_carries_39 (by decide) (t_goto G dX9_carries_42 (by decide) (hY 3)))
set_option maxRecDepth 100000 in
theorem m_X9_carries (l : Launch) : s_Met l yX9_carries cX9_carries 7 ((some FieldType.int)) rm_X9_carries false C_X9_carries := by
  intro D ty ad av φ sz sh me Q hsh hC
  unfold C_X9_carries at hC
  split at hC
  · exact s_met1 (P := P_X9_carries) (by decide +kernel) (fun _ => ⟨rfl, rfl⟩) (fun p e s m args below meth c D ty ad A n0 φ0 Q G Y hY => s_tab_T _ (List.forall_mem_cons.mpr ⟨b_X9_carries_0 l p e s m args below meth c D ty ad A n0 φ0 Q G Y hY, List.forall_mem_cons.mpr ⟨b_X9_carries_3 l p e s m args below meth c D ty ad A n0 φ0 Q G Y hY, List.forall_mem_cons.mpr ⟨b_X9_carries_39 l p e s m args below meth c D ty ad A n0 φ0 Q G Y hY, fun _ h => absurd h List.not_mem_nil⟩⟩⟩)) hsh rfl rfl (Nat.le_of_ble_eq_true rfl) hC
  · exact hC.elim
def B_X9_carriesAll_0 (Q : SQ) (nx : Nat → SK) : SK := (o_aload 0 (o_aload 0 (o_getR 9 9 (o_const (.int 7) (o_aload 1 (o_const (.int 0) (o_iload 2 (o_callV C_X9_carries 9 6 (o_istore 3 (o_aload 0 (o_aload 0 (o_getR 9 10 (o_const (.int 7) (o_aload 1 (o_iload 3 (o_iload 2 (o_callV C_X9_carries 9 6 (o_istore 3 (o_aload 0 (o_aload 0 (o_getR 9 11 (o_const (.int 7) (o_aload 1 (o_iload 3 (o_iload 2 (o_callV C_X9_carries 9 6 (o_istore 3 (o_aload 0 (o_aload 0 (o_getR 9 12 (o_const (.int 7) (o_aload 1 (o_iload 3 (o_iload 2 (o_callV C_X9_carries 9 6 (o_istore 3 (o_aload 0 (o_aload 0 (o_getR 9 13 (o_const (.int 7) (o_aload 1 (o_iload 3 (o_iload 2 (o_callV C_X9_carries 9 6 (o_istore 3 (o_aload 0 (o_aload 0 (o_getR 9 14 (o_const (.int 7) (o_aload 1 (o_iload 3 (o_iload 2 (o_callV C_X9_carries 9 6 (o_istore 3 (o_aload 0 (o_aload 0 (o_getR 9 15 (o_const (.int 7) (o_aload 1 (o_iload 3 (o_iload 2 (o_callV C_X9_carries 9 6 (o_istore 3 (o_aload 0 (o_aload 0 (o_getR 9 16 (o_const (.int 36) (o_aload 1 (o_iload 3 (o_iload 2 (o_callV C_X9_carries 9 6 (o_istore 3 (o_aload 0 (o_aload 0 (o_getR 9 17 (o_const (.int 36) (o_aload 1 (o_iload 3 (o_iload 2 (o_callV C_X9_carries 9 6 (o_istore 3 (o_iload 2 (o_if (fun x => x = 0) (o_aload 1 (o_iload 3 (o_aload 0 (o_getI 9 0 (o_iast (o_aload 1 (o_iload 3 (o_const (.int 1) (o_i2 (fun x y => x + y) (o_aload 0 (o_getI 9 1 (o_iast (o_aload 1 (o_iload 3 (o_const (.int 2) (o_i2 (fun x y => x + y) (o_aload 0 (o_getI 9 2 (o_iast (o_aload 1 (o_iload 3 (o_const (.int 3) (o_i2 (fun x y => x + y) (o_aload 0 (o_getI 9 3 (o_iast (o_aload 1 (o_iload 3 (o_const (.int 4) (o_i2 (fun x y => x + y) (o_aload 0 (o_getI 9 4 (o_iast (o_aload 1 (o_iload 3 (o_const (.int 5) (o_i2 (fun x y => x + y) (o_aload 0 (o_getI 9 5 (o_iast (o_aload 1 (o_iload 3 (o_const (.int 6) (o_i2 (fun x y => x + y) (o_aload 0 (o_getI 9 6 (o_iast (nx 257)))))))))))))))))))))))))))))))))))))))))))))))) (o_aload 0 (o_aload 1 (o_iload 3 (o_iald (o_putI 9 0 (o_aload 0 (o_aload 1 (o_iload 3 (o_const (.int 1) (o_i2 (fun x y => x + y) (o_iald (o_putI 9 1 (o_aload 0 (o_aload 1 (o_iload 3 (o_const (.int 2) (o_i2 (fun x y => x + y) (o_iald (o_putI 9 2 (o_aload 0 (o_aload 1 (o_iload 3 (o_const (.int 3) (o_i2 (fun x y => x + y) (o_iald (o_putI 9 3 (o_aload 0 (o_aload 1 (o_iload 3 (o_const (.int 4) (o_i2 (fun x y => x + y) (o_iald (o_putI 9 4 (o_aload 0 (o_aload 1 (o_iload 3 (o_const (.int 5) (o_i2 (fun x y => x + y) (o_iald (o_putI 9 5 (o_aload 0 (o_aload 1 (o_iload 3 (o_const (.int 6) (o_i2 (fun x y => x + y) (o_iald (o_putI 9 6 (nx 257)))))))))))))))))))))))))))))))))))))))))))))))))))))))))))))))))))))))))))))))))))))))))))))))))))))))))))))))))))))))))))))))))))
def B_X9_carriesAll_257 (Q : SQ) (nx : Nat → SK) : SK := (o_vret Q)
def P_X9_carriesAll (Q : SQ) (nx : Nat → SK) : Nat → SK := s_tab [(0, B_X9_carriesAll_0 Q nx), (257, B_X9_carriesAll_257 Q nx)]
def C_X9_carriesAll : SC := fun av sh me Q => match av with
  | [.ref a0, .ref a1, .int a2] => s_wp P_X9_carriesAll Q 0 [some (.ref a0), some (.ref a1), some (.int a2), none] [] sh me
  | _ => False
abbrev rm_X9_carriesAll : Room := { frames := 1, cells := 0, slots := 0, locals := 26 }
theorem hd_X9_carriesAll : (yX9_carriesAll).cls ≠ "java/lang/invoke/MethodHandle" ∧ (yX9_carriesAll).cls ≠ "java/lang/invoke/VarHandle" ∧ (parseMethodDescriptor (yX9_carriesAll).desc).map (fun d => d.parameters.length) = some 2 := by decide +kernel
set_option maxRecDepth 100000 in
set_option maxHeartbeats 4000000 in
theorem b_X9_carriesAll_0 (l : Launch) : s_B l rm_X9_carriesAll yX9_carriesAll cX9_carriesAll 4 ((none : Option FieldType)) false 0 B_X9_carriesAll_0 := fun p e s m args below meth c D ty ad A n0 φ0 Q G Y hY => (u_aload_n G dX9_carriesAll_0 rfl (u_aload_n G dX9_carriesAll_1 rfl (t_getR G cl_9 (k := 9) (by decide) (Or.inl q5_25) rfl (Or.inr ⟨_, rfl⟩) dX9_carriesAll_2 (u_bipush G dX9_carriesAll_5 (by decide) (u_aload_n G dX9_carriesAll_7 rfl (u_iconst G dX9_carriesAll_8 (by decide) (u_iload_n G dX9_carriesAll_9 rfl (t_callV G cl_9 (m_X9_carries l) ⟨rfl, rfl⟩ rfl ⟨Nat.le_of_ble_eq_true rfl, Nat.le_of_ble_eq_true rfl⟩ q6_20 q1_10 (Or.inl q6_17) q6_19 qs_45 hd_X9_carries dX9_carriesAll_10 (u_istore_n G dX9_carriesAll_13 rfl (u_aload_n G dX9_carriesAll_14 rfl (u_aload_n G dX9_carriesAll_15 rfl (t_getR G cl_9 (k := 10) (by decide) (Or.inl q5_26) rfl (Or.inr ⟨_, rfl⟩) dX9_carriesAll_16 (u_bipush G dX9_carriesAll_19 (by decide) (u_aload_n G dX9_carriesAll_21 rfl (u_iload_n G dX9_carriesAll_22 rfl (u_iload_n G dX9_carriesAll_23 rfl (t_callV G cl_9 (m_X9_carries l) ⟨rfl, rfl⟩ rfl ⟨Nat.le_of_ble_eq_true rfl, Nat.le_of_ble_eq_true rfl⟩ q6_20 q1_10 (Or.inl q6_17) q6_19 qs_45 hd_X9_carries dX9_carriesAll_24 (u_istore_n G dX9_carriesAll_27 rfl (u_aload_n G dX9_carriesAll_28 rfl (u_aload_n G dX9_carriesAll_29 rfl (t_getR G cl_9 (k := 11) (by decide) (Or.inl q5_27) rfl (Or.inr ⟨_, rfl⟩) dX9_carriesAll_30 (u_bipush G dX9_carriesAll_33 (by decide) (u_aload_n G dX9_carriesAll_35 rfl (u_iload_n G dX9_carriesAll_36 rfl (u_iload_n G dX9_carriesAll_37 rfl (t_callV G cl_9 (m_X9_carries l) ⟨rfl, rfl⟩ rfl ⟨Nat.le_of_ble_eq_true rfl, Nat.le_of_ble_eq_true rfl⟩ q6_20 q1_10 (Or.inl q6_17) q6_19 qs_45 hd_X9_carries dX9_carriesAll_38 (u_istore_n G dX9_carriesAll_41 rfl (u_aload_n G dX9_carriesAll_42 rfl (u_aload_n G dX9_carriesAll_43 rfl (t_getR G cl_9 (k := 12) (by decide) (Or.inl q5_28) rfl (Or.inr ⟨_, rfl⟩) dX9_carriesAll_44 (u_bipush G dX9_carriesAll_47 (by decide) (u_aload_n G dX9_carriesAll_49 rfl (u_iload_n G dX9_carriesAll_50 rfl (u_iload_n G dX9_carriesAll_51 rfl (t_callV G cl_9 (m_X9_carries l) ⟨rfl, rfl⟩ rfl ⟨Nat.le_of_ble_eq_true rfl, Nat.le_of_ble_eq_true rfl⟩ q6_20 q1_10 (Or.inl q6_17) q6_19 qs_45 hd_X9_carries dX9_carriesAll_52 (u_istore_n G dX9_carriesAll_55 rfl (u_aload_n G dX9_carriesAll_56 rfl (u_aload_n G dX9_carriesAll_57 rfl (t_getR G cl_9 (k := 13) (by decide) (Or.inl q5_29) rfl (Or.inr ⟨_, rfl⟩) dX9_carriesAll_58 (u_bipush G dX9_carriesAll_61 (by decide) (u_aload_n G dX9_carriesAll_63 rfl (u_iload_n G dX9_carriesAll_64 rfl (u_iload_n G dX9_carriesAll_65 rfl (t_callV G cl_9 (m_X9_carries l) ⟨rfl, rfl⟩ rfl ⟨Nat.le_of_ble_eq_true rfl, Nat.le_of_ble_eq_true rfl⟩ q6_20 q1_10 (Or.inl q6_17) q6_19 qs_45 hd_X9_carries dX9_carriesAll_66 (u_istore_n G dX9_carriesAll_69 rfl (u_aload_n G dX9_carriesAll_70 rfl (u_aload_n G dX9_carriesAll_71 rfl (t_getR G cl_9 (k := 14) (by decide) (Or.inl q5_30) rfl (Or.inr ⟨_, rfl⟩) dX9_carriesAll_72 (u_bipush G dX9_carriesAll_75 (by decide) (u_aload_n G dX9_carriesAll_77 rfl (u_iload_n G dX9_carriesAll_78 rfl (u_iload_n G dX9_carriesAll_79 rfl (t_callV G cl_9 (m_X9_carries l) ⟨rfl, rfl⟩ rfl ⟨Nat.le_of_ble_eq_true rfl, Nat.le_of_ble_eq_true rfl⟩ q6_20 q1_10 (Or.inl q6_17) q6_19 qs_45 hd_X9_carries dX9_carriesAll_80 (u_istore_n G dX9_carriesAll_83 rfl (u_aload_n G dX9_carriesAll_84 rfl (u_aload_n G dX9_carriesAll_85 rfl (t_getR G cl_9 (k := 15) (by decide) (Or.inl q5_31) rfl (Or.inr ⟨_, rfl⟩) dX9_carriesAll_86 (u_bipush G dX9_carriesAll_89 (by decide) (u_aload_n G dX9_carriesAll_91 rfl (u_iload_n G dX9_carriesAll_92 rfl (u_iload_n G dX9_carriesAll_93 rfl (t_callV G cl_9 (m_X9_carries l) ⟨rfl, rfl⟩ rfl ⟨Nat.le_of_ble_eq_true rfl, Nat.le_of_ble_eq_true rfl⟩ q6_20 q1_10 (Or.inl q6_17) q6_19 qs_45 hd_X9_carries dX9_carriesAll_94 (u_istore_n G dX9_carriesAll_97 rfl (u_aload_n G dX9_carriesAll_98 rfl (u_aload_n G dX9_carriesAll_99 rfl (t_getR G cl_9 (k := 16) (by decide) (Or.inl q5_32) rfl (Or.inr ⟨_, rfl⟩) dX9_carriesAll_100 (u_bipush G dX9_carriesAll_103 (by decide) (u_aload_n G dX9_carriesAll_105 rfl (u_iload_n G dX9_carriesAll_106 rfl (u_iload_n G dX9_carriesAll_107 rfl (t_callV G cl_9 (m_X9_carries l) ⟨rfl, rfl⟩ rfl ⟨Nat.le_of_ble_eq_true rfl, Nat.le_of_ble_eq_true rfl⟩ q6_20 q1_10 (Or.inl q6_17) q6_19 qs_45 hd_X9_carries dX9_carriesAll_108 (u_istore_n G dX9_carriesAll_111 rfl (u_aload_n G dX9_carriesAll_112 rfl (u_aload_n G dX9_carriesAll_113 rfl (t_getR G cl_9 (k := 17) (by decide) (Or.inl q5_33) rfl (Or.inr ⟨_, rfl⟩) dX9_carriesAll_114 (u_bipush G dX9_carriesAll_117 (by decide) (u_aload_n G dX9_carriesAll_119 rfl (u_iload_n G dX9_carriesAll_120 rfl (u_iload_n G dX9_carriesAll_121 rfl (t_callV G cl_9 (m_X9_carries l) ⟨rfl, rfl⟩ rfl ⟨Nat.le_of_ble_eq_true rfl, Nat.le_of_ble_eq_true rfl⟩ q6_20 q1_10 (Or.inl q6_17) q6_19 qs_45 hd_X9_carries dX9_carriesAll_122 (u_istore_n G dX9_carriesAll_125 rfl (u_iload_n G dX9_carriesAll_126 rfl (u_if_eq G dX9_carriesAll_127 (by decide) (u_aload_n G dX9_carriesAll_195 rfl (u_iload_n G dX9_carriesAll_196 rfl (u_aload_n G dX9_carriesAll_197 rfl (t_getI G cl_9 (k := 0) (by decide) (Or.inl q5_16) rfl (Or.inl rfl) dX9_carriesAll_198 (t_iast G dX9_carriesAll_201 (u_aload_n G dX9_carriesAll_202 rfl (u_iload_n G dX9_carriesAll_203 rfl (u_iconst G dX9_carriesAll_204 (by decide) (u_iadd G dX9_carriesAll_205 (u_aload_n G dX9_carriesAll_206 rfl (t_getI G cl_9 (k := 1) (by decide) (Or.inl q5_17) rfl (Or.inl rfl) dX9_carriesAll_207 (t_iast G dX9_carriesAll_210 (u_aload_n G dX9_carriesAll_211 rfl (u_iload_n G dX9_carriesAll_212 rfl (u_iconst G dX9_carriesAll_213 (by decide) (u_iadd G dX9_carriesAll_214 (u_aload_n G dX9_carriesAll_215 rfl (t_getI G cl_9 (k := 2) (by decide) (Or.inl q5_18) rfl (Or.inl rfl) dX9_carriesAll_216 (t_iast G dX9_carriesAll_219 (u_aload_n G dX9_carriesAll_220 rfl (u_iload_n G dX9_carriesAll_221 rfl (u_iconst G dX9_carriesAll_222 (by decide) (u_iadd G dX9_carriesAll_223 (u_aload_n G dX9_carriesAll_224 rfl (t_getI G cl_9 (k := 3) (by decide) (Or.inl q5_19) rfl (Or.inl rfl) dX9_carriesAll_225 (t_iast G dX9_carriesAll_228 (u_aload_n G dX9_carriesAll_229 rfl (u_iload_n G dX9_carriesAll_230 rfl (u_iconst G dX9_carriesAll_231 (by decide) (u_iadd G dX9_carriesAll_232 (u_aload_n G dX9_carriesAll_233 rfl (t_getI G cl_9 (k := 4) (by decide) (Or.inl q5_20) rfl (Or.inl rfl) dX9_carriesAll_234 (t_iast G dX9_carriesAll_237 (u_aload_n G dX9_carriesAll_238 rfl (u_iload_n G dX9_carriesAll_239 rfl (u_iconst G dX9_carriesAll_240 (by decide) (u_iadd G dX9_carriesAll_241 (u_aload_n G dX9_carriesAll_242 rfl (t_getI G cl_9 (k := 5) (by decide) (Or.inl q5_21) rfl (Or.inl rfl) dX9_carriesAll_243 (t_iast G dX9_carriesAll_246 (u_aload_n G dX9_carriesAll_247 rfl (u_iload_n G dX9_carriesAll_248 rfl (u_bipush G dX9_carriesAll_249 (by decide) (u_iadd G dX9_carriesAll_251 (u_aload_n G dX9_carriesAll_252 rfl (t_getI G cl_9 (k := 6) (by decide) (Or.inl q5_22) rfl (Or.inl rfl) dX9_carriesAll_253 (t_iast G dX9_carriesAll_256 (hY 257)))))))))))))))))))))))))))))))))))))))))))))))) (u_aload_n G dX9_carriesAll_130 rfl (u_aload_n G dX9_carriesAll_131 rfl (u_iload_n G dX9_carriesAll_132 rfl (t_iald G dX9_carriesAll_133 (t_putI G cl_9 (k := 0) (by decide) (Or.inl ⟨rfl, Or.inl q5_16⟩) rfl rfl dX9_carriesAll_134 (u_aload_n G dX9_carriesAll_137 rfl (u_aload_n G dX9_carriesAll_138 rfl (u_iload_n G dX9_carriesAll_139 rfl (u_iconst G dX9_carriesAll_140 (by decide) (u_iadd G dX9_carriesAll_141 (t_iald G dX9_carriesAll_142 (t_putI G cl_9 (k := 1) (by decide) (Or.inl ⟨rfl, Or.inl q5_17⟩) rfl rfl dX9_carriesAll_143 (u_aload_n G dX9_carriesAll_146 rfl (u_aload_n G dX9_carriesAll_147 rfl (u_iload_n G dX9_carriesAll_148 rfl (u_iconst G dX9_carriesAll_149 (by decide) (u_iadd G dX9_carriesAll_150 (t_iald G dX9_carriesAll_151 (t_putI G cl_9 (k := 2) (by decide) (Or.inl ⟨rfl, Or.inl q5_18⟩) rfl rfl dX9_carriesAll_152 (u_aload_n G dX9_carriesAll_155 rfl (u_aload_n G dX9_carriesAll_156 rfl (u_iload_n G dX9_carriesAll_157 rfl (u_iconst G dX9_carriesAll_158 (by decide) (u_iadd G dX9_carriesAll_159 (t_iald G dX9_carriesAll_160 (t_putI G cl_9 (k := 3) (by decide) (Or.inl ⟨rfl, Or.inl q5_19⟩) rfl rfl dX9_carriesAll_161 (u_aload_n G dX9_carriesAll_164 rfl (u_aload_n G dX9_carriesAll_165 rfl (u_iload_n G dX9_carriesAll_166 rfl (u_iconst G dX9_carriesAll_167 (by decide) (u_iadd G dX9_carriesAll_168 (t_iald G dX9_carriesAll_169 (t_putI G cl_9 (k := 4) (by decide) (Or.inl ⟨rfl, Or.inl q5_20⟩) rfl rfl dX9_carriesAll_170 (u_aload_n G dX9_carriesAll_173 rfl (u_aload_n G dX9_carriesAll_174 rfl (u_iload_n G dX9_carriesAll_175 rfl (u_iconst G dX9_carriesAll_176 (by decide) (u_iadd G dX9_carriesAll_177 (t_iald G dX9_carriesAll_178 (t_putI G cl_9 (k := 5) (by decide) (Or.inl ⟨rfl, Or.inl q5_21⟩) rfl rfl dX9_carriesAll_179 (u_aload_n G dX9_carriesAll_182 rfl (u_aload_n G dX9_carriesAll_183 rfl (u_iload_n G dX9_carriesAll_184 rfl (u_bipush G dX9_carriesAll_185 (by decide) (u_iadd G dX9_carriesAll_187 (t_iald G dX9_carriesAll_188 (t_putI G cl_9 (k := 6) (by decide) (Or.inl ⟨rfl, Or.inl q5_22⟩) rfl rfl dX9_carriesAll_189 (t_goto G dX9_carriesAll_192 (by decide) (hY 257))))))))))))))))))))))))))))))))))))))))))))))))))))))))))))))))))))))))))))))))))))))))))))))))))))))))))))))))))))))))))))))))))))
set_option maxRecDepth 100000 in
set_option maxHeartbeats 4000000 in
theorem b_X9_carriesAll_257 (l : Launch) : s_B l rm_X9_carriesAll yX9_carriesAll cX9_carriesAll 4 ((none : Option FieldType)) false 257 B_X9_carriesAll_257 := fun p e s m args below meth c D ty ad A n0 φ0 Q G Y hY => (t_vret G rfl dX9_carriesAll_257)
set_option maxRecDepth 100000 in
theorem m_X9_carriesAll (l : Launch) : s_Met l yX9_carriesAll cX9_carriesAll 4 ((none : Option FieldType)) rm_X9_carriesAll false C_X9_carriesAll := by
  intro D ty ad av φ sz sh me Q hsh hC
  unfold C_X9_carriesAll at hC
  split at hC
  · exact s_met1 (P := P_X9_carriesAll) (by decide +kernel) (fun _ => ⟨rfl, rfl⟩) (fun p e s m args below meth c D ty ad A n0 φ0 Q G Y hY => s_tab_T _ (List.forall_mem_cons.mpr ⟨b_X9_carriesAll_0 l p e s m args below meth c D ty ad A n0 φ0 Q G Y hY, List.forall_mem_cons.mpr ⟨b_X9_carriesAll_257 l p e s m args below meth c D ty ad A n0 φ0 Q G Y hY, fun _ h => absurd h List.not_mem_nil⟩⟩)) hsh rfl rfl (Nat.le_of_ble_eq_true rfl) hC
  · exact hC.elim
