def B_X4_dutiesTogether_0 (Q : SQ) (nx : Nat → SK) : SK := (o_const (.int 0) (o_istore 2 (o_const (.int 0) (o_istore 3 (nx 4)))))
def B_X4_dutiesTogether_4 (Q : SQ) (nx : Nat → SK) : SK := (o_iload 3 (o_aload 1 (o_getI 7 1 (o_ic (fun x y => y ≤ x) (o_iload 2 (o_iret Q)) (o_iload 2 (o_aload 0 (o_getR 4 3 (o_iload 3 (o_iald (o_i2 (fun x y => x + y) (o_istore 2 (o_iinc 3 1 (nx 4)))))))))))))
def P_X4_dutiesTogether (Q : SQ) (nx : Nat → SK) : Nat → SK := s_tab [(0, B_X4_dutiesTogether_0 Q nx), (4, B_X4_dutiesTogether_4 Q nx)]
def C_X4_dutiesTogether : SC := fun av sh me Q => match av with
  | [.ref a0, .ref a1] => s_wp P_X4_dutiesTogether Q 0 [some (.ref a0), some (.ref a1), none, none] [] sh me
  | _ => False
abbrev rm_X4_dutiesTogether : Room := { frames := 0, cells := 0, slots := 0, locals := 0 }
theorem hd_X4_dutiesTogether : (yX4_dutiesTogether).cls ≠ "java/lang/invoke/MethodHandle" ∧ (yX4_dutiesTogether).cls ≠ "java/lang/invoke/VarHandle" ∧ (parseMethodDescriptor (yX4_dutiesTogether).desc).map (fun d => d.parameters.length) = some 1 := by decide +kernel
set_option maxRecDepth 100000 in
set_option maxHeartbeats 4000000 in
theorem b_X4_dutiesTogether_0 (l : Launch) : s_B l rm_X4_dutiesTogether yX4_dutiesTogether cX4_dutiesTogether 4 ((some FieldType.int)) false 0 B_X4_dutiesTogether_0 := fun p e s m args below meth c D ty ad A n0 φ0 Q G Y hY => (u_iconst G dX4_dutiesTogether_0 (by decide) (u_istore_n G dX4_dutiesTogether_1 rfl (u_iconst G dX4_dutiesTogether_2 (by decide) (u_istore_n G dX4_dutiesTogether_3 rfl (hY 4)))))
set_option maxRecDepth 100000 in
set_option maxHeartbeats 4000000 in
theorem b_X4_dutiesTogether_4 (l : Launch) : s_B l rm_X4_dutiesTogether yX4_dutiesTogether cX4_dutiesTogether 4 ((some FieldType.int)) false 4 B_X4_dutiesTogether_4 := fun p e s m args below meth c D ty ad A n0 φ0 Q G Y hY => (u_iload_n G dX4_dutiesTogether_4 rfl (u_aload_n G dX4_dutiesTogether_5 rfl (t_getI G cl_7 (k := 1) (by decide) (Or.inr ⟨_, q1_91⟩) rfl (Or.inl rfl) dX4_dutiesTogether_6 (u_icmp_ge G dX4_dutiesTogether_9 (by decide) (u_iload_n G dX4_dutiesTogether_27 rfl (t_iret G rfl dX4_dutiesTogether_28)) (u_iload_n G dX4_dutiesTogether_12 rfl (u_aload_n G dX4_dutiesTogether_13 rfl (t_getR G cl_4 (k := 3) (by decide) (Or.inl q1_151) rfl (Or.inr ⟨_, rfl⟩) dX4_dutiesTogether_14 (u_iload_n G dX4_dutiesTogether_17 rfl (t_iald G dX4_dutiesTogether_18 (u_iadd G dX4_dutiesTogether_19 (u_istore_n G dX4_dutiesTogether_20 rfl (t_iinc G dX4_dutiesTogether_21 (by decide) (t_goto G dX4_dutiesTogether_24 (by decide) (hY 4))))))))))))))
set_option maxRecDepth 100000 in
theorem m_X4_dutiesTogether (l : Launch) : s_Met l yX4_dutiesTogether cX4_dutiesTogether 4 ((some FieldType.int)) rm_X4_dutiesTogether false C_X4_dutiesTogether := by
  intro D ty ad av φ sz sh me Q hsh hC
  unfold C_X4_dutiesTogether at hC
  split at hC
  · exact s_met1 (P := P_X4_dutiesTogether) (by decide +kernel) (fun _ => ⟨rfl, rfl⟩) (fun p e s m args below meth c D ty ad A n0 φ0 Q G Y hY => s_tab_T _ (List.forall_mem_cons.mpr ⟨b_X4_dutiesTogether_0 l p e s m args below meth c D ty ad A n0 φ0 Q G Y hY, List.forall_mem_cons.mpr ⟨b_X4_dutiesTogether_4 l p e s m args below meth c D ty ad A n0 φ0 Q G Y hY, fun _ h => absurd h List.not_mem_nil⟩⟩)) hsh rfl rfl (Nat.le_of_ble_eq_true rfl) hC
  · exact hC.elim
def B_X2_dutiesInSacks_0 (Q : SQ) (nx : Nat → SK) : SK := (o_aload 0 (o_getR 2 0 (o_aload 1 (o_callV C_X7_copyFrom 7 2 (o_const (.int 0) (o_istore 3 (nx 10)))))))
def B_X2_dutiesInSacks_10 (Q : SQ) (nx : Nat → SK) : SK := (o_iload 3 (o_aload 0 (o_getR 2 0 (o_getI 7 1 (o_ic (fun x y => y ≤ x) (o_aload 0 (o_getR 2 1 (o_aload 0 (o_getR 2 0 (o_callV C_X4_take 4 2 (o_aload 0 (o_getR 2 1 (o_aload 0 (o_getR 2 0 (o_callV C_X4_dutiesTogether 4 2 (o_iret Q))))))))))) (o_iload 2 (o_il (o_iload 3 (o_call C_X8_hasBit 2 (o_if (fun x => x = 0) (nx 43) (o_aload 0 (o_getR 2 0 (o_getR 7 0 (o_iload 3 (o_aald 12 (o_const (.int 1) (o_putZ 1 6 (nx 43))))))))))))))))))
def B_X2_dutiesInSacks_43 (Q : SQ) (nx : Nat → SK) : SK := (o_iinc 3 1 (nx 10))
def P_X2_dutiesInSacks (Q : SQ) (nx : Nat → SK) : Nat → SK := s_tab [(0, B_X2_dutiesInSacks_0 Q nx), (10, B_X2_dutiesInSacks_10 Q nx), (43, B_X2_dutiesInSacks_43 Q nx)]
def C_X2_dutiesInSacks : SC := fun av sh me Q => match av with
  | [.ref a0, .ref a1, .int a2] => s_wp P_X2_dutiesInSacks Q 0 [some (.ref a0), some (.ref a1), some (.int a2), none] [] sh me
  | _ => False
abbrev rm_X2_dutiesInSacks : Room := { frames := 4, cells := 0, slots := 0, locals := 94 }
theorem hd_X2_dutiesInSacks : (yX2_dutiesInSacks).cls ≠ "java/lang/invoke/MethodHandle" ∧ (yX2_dutiesInSacks).cls ≠ "java/lang/invoke/VarHandle" ∧ (parseMethodDescriptor (yX2_dutiesInSacks).desc).map (fun d => d.parameters.length) = some 2 := by decide +kernel
set_option maxRecDepth 100000 in
set_option maxHeartbeats 4000000 in
theorem b_X2_dutiesInSacks_0 (l : Launch) : s_B l rm_X2_dutiesInSacks yX2_dutiesInSacks cX2_dutiesInSacks 4 ((some FieldType.int)) false 0 B_X2_dutiesInSacks_0 := fun p e s m args below meth c D ty ad A n0 φ0 Q G Y hY => (u_aload_n G dX2_dutiesInSacks_0 rfl (t_getR G cl_2 (k := 0) (by decide) (Or.inl q1_185) rfl (Or.inl ⟨_, rfl⟩) dX2_dutiesInSacks_1 (u_aload_n G dX2_dutiesInSacks_4 rfl (t_callV G cl_7 (m_X7_copyFrom l) ⟨rfl, rfl⟩ rfl ⟨Nat.le_of_ble_eq_true rfl, Nat.le_of_ble_eq_true rfl⟩ q3_40 q1_2 (Or.inl q4_19) q3_38 q3_39 hd_X7_copyFrom dX2_dutiesInSacks_5 (u_iconst G dX2_dutiesInSacks_8 (by decide) (u_istore_n G dX2_dutiesInSacks_9 rfl (hY 10)))))))
set_option maxRecDepth 100000 in
set_option maxHeartbeats 4000000 in
theorem b_X2_dutiesInSacks_10 (l : Launch) : s_B l rm_X2_dutiesInSacks yX2_dutiesInSacks cX2_dutiesInSacks 4 ((some FieldType.int)) false 10 B_X2_dutiesInSacks_10 := fun p e s m args below meth c D ty ad A n0 φ0 Q G Y hY => (u_iload_n G dX2_dutiesInSacks_10 rfl (u_aload_n G dX2_dutiesInSacks_11 rfl (t_getR G cl_2 (k := 0) (by decide) (Or.inl q1_185) rfl (Or.inl ⟨_, rfl⟩) dX2_dutiesInSacks_12 (t_getI G cl_7 (k := 1) (by decide) (Or.inr ⟨_, q1_93⟩) rfl (Or.inl rfl) dX2_dutiesInSacks_15 (u_icmp_ge G dX2_dutiesInSacks_18 (by decide) (u_aload_n G dX2_dutiesInSacks_49 rfl (t_getR G cl_2 (k := 1) (by decide) (Or.inl q1_186) rfl (Or.inl ⟨_, rfl⟩) dX2_dutiesInSacks_50 (u_aload_n G dX2_dutiesInSacks_53 rfl (t_getR G cl_2 (k := 0) (by decide) (Or.inl q1_185) rfl (Or.inl ⟨_, rfl⟩) dX2_dutiesInSacks_54 (t_callV G cl_4 (m_X4_take l) ⟨rfl, rfl⟩ rfl ⟨Nat.le_of_ble_eq_true rfl, Nat.le_of_ble_eq_true rfl⟩ q3_189 q1_4 (Or.inl q4_29) q3_187 q3_188 hd_X4_take dX2_dutiesInSacks_57 (u_aload_n G dX2_dutiesInSacks_60 rfl (t_getR G cl_2 (k := 1) (by decide) (Or.inl q1_186) rfl (Or.inl ⟨_, rfl⟩) dX2_dutiesInSacks_61 (u_aload_n G dX2_dutiesInSacks_64 rfl (t_getR G cl_2 (k := 0) (by decide) (Or.inl q1_185) rfl (Or.inl ⟨_, rfl⟩) dX2_dutiesInSacks_65 (t_callV G cl_4 (m_X4_dutiesTogether l) ⟨rfl, rfl⟩ rfl ⟨Nat.le_of_ble_eq_true rfl, Nat.le_of_ble_eq_true rfl⟩ q3_237 q1_4 (Or.inl q4_73) q3_235 q3_236 hd_X4_dutiesTogether dX2_dutiesInSacks_68 (t_iret G rfl dX2_dutiesInSacks_71))))))))))) (u_iload_n G dX2_dutiesInSacks_21 rfl (t_il G dX2_dutiesInSacks_22 (u_iload_n G dX2_dutiesInSacks_23 rfl (t_callS G (m_X8_hasBit l) ⟨rfl, rfl⟩ rfl ⟨Nat.le_of_ble_eq_true rfl, Nat.le_of_ble_eq_true rfl⟩ q2_232 q1_1 (Or.inr ⟨_, q4_72⟩) q2_231 hd_X8_hasBit dX2_dutiesInSacks_24 (u_if_eq G dX2_dutiesInSacks_27 (by decide) (hY 43) (u_aload_n G dX2_dutiesInSacks_30 rfl (t_getR G cl_2 (k := 0) (by decide) (Or.inl q1_185) rfl (Or.inl ⟨_, rfl⟩) dX2_dutiesInSacks_31 (t_getR G cl_7 (k := 0) (by decide) (Or.inr ⟨_, q1_85⟩) rfl (Or.inr ⟨_, rfl⟩) dX2_dutiesInSacks_34 (u_iload_n G dX2_dutiesInSacks_37 rfl (t_aald G (by decide) dX2_dutiesInSacks_38 (u_iconst G dX2_dutiesInSacks_39 (by decide) (t_putZ G cl_1 (k := 6) (by decide) (Or.inl ⟨rfl, Or.inr ⟨_, q1_68⟩⟩) rfl rfl dX2_dutiesInSacks_40 (hY 43))))))))))))))))))
set_option maxRecDepth 100000 in
set_option maxHeartbeats 4000000 in
theorem b_X2_dutiesInSacks_43 (l : Launch) : s_B l rm_X2_dutiesInSacks yX2_dutiesInSacks cX2_dutiesInSacks 4 ((some FieldType.int)) false 43 B_X2_dutiesInSacks_43 := fun p e s m args below meth c D ty ad A n0 φ0 Q G Y hY => (t_iinc G dX2_dutiesInSacks_43 (by decide) (t_goto G dX2_dutiesInSacks_46 (by decide) (hY 10)))
set_option maxRecDepth 100000 in
theorem m_X2_dutiesInSacks (l : Launch) : s_Met l yX2_dutiesInSacks cX2_dutiesInSacks 4 ((some FieldType.int)) rm_X2_dutiesInSacks false C_X2_dutiesInSacks := by
  intro D ty ad av φ sz sh me Q hsh hC
  unfold C_X2_dutiesInSacks at hC
  split at hC
  · exact s_met1 (P := P_X2_dutiesInSacks) (by decide +kernel) (fun _ => ⟨rfl, rfl⟩) (fun p e s m args below meth c D ty ad A n0 φ0 Q G Y hY => s_tab_T _ (List.forall_mem_cons.mpr ⟨b_X2_dutiesInSacks_0 l p e s m args below meth c D ty ad A n0 φ0 Q G Y hY, List.forall_mem_cons.mpr ⟨b_X2_dutiesInSacks_10 l p e s m args below meth c D ty ad A n0 φ0 Q G Y hY, List.forall_mem_cons.mpr ⟨b_X2_dutiesInSacks_43 l p e s m args below meth c D ty ad A n0 φ0 Q G Y hY, fun _ h => absurd h List.not_mem_nil⟩⟩⟩)) hsh rfl rfl (Nat.le_of_ble_eq_true rfl) hC
  · exact hC.elim
def B_X2_bestSacks_0 (Q : SQ) (nx : Nat → SK) : SK := (o_const (.int (-1)) (o_istore 4 (o_const (.int (-1)) (o_istore 5 (o_const (.int 0) (o_istore 6 (nx 9)))))))
def B_X2_bestSacks_9 (Q : SQ) (nx : Nat → SK) : SK := (o_iload 6 (o_const (.int 1) (o_aload 1 (o_getI 7 1 (o_i2 (fun x y => x <<< (y &&& 31)) (o_ic (fun x y => y ≤ x) (o_iload 3 (o_if (fun x => ¬ x = 0) (o_iload 5 (nx 76)) (o_iload 4 (nx 76)))) (o_iload 6 (o_call C_J6_bitCount_0f7a4 1 (o_iload 2 (o_ic (fun x y => ¬ x = y) (nx 59) (o_aload 0 (o_aload 1 (o_iload 6 (o_callV C_X2_dutiesInSacks 2 3 (o_istore 7 (o_iload 4 (o_const (.int (-1)) (o_ic (fun x y => x = y) (nx 51) (o_iload 7 (o_iload 5 (o_ic (fun x y => y ≤ x) (nx 59) (nx 51))))))))))))))))))))))
def B_X2_bestSacks_51 (Q : SQ) (nx : Nat → SK) : SK := (o_iload 6 (o_istore 4 (o_iload 7 (o_istore 5 (nx 59)))))
def B_X2_bestSacks_59 (Q : SQ) (nx : Nat → SK) : SK := (o_iinc 6 1 (nx 9))
def B_X2_bestSacks_76 (Q : SQ) (nx : Nat → SK) : SK := (o_iret Q)
def P_X2_bestSacks (Q : SQ) (nx : Nat → SK) : Nat → SK := s_tab [(0, B_X2_bestSacks_0 Q nx), (9, B_X2_bestSacks_9 Q nx), (51, B_X2_bestSacks_51 Q nx), (59, B_X2_bestSacks_59 Q nx), (76, B_X2_bestSacks_76 Q nx)]
def C_X2_bestSacks : SC := fun av sh me Q => match av with
  | [.ref a0, .ref a1, .int a2, .int a3] => s_wp P_X2_bestSacks Q 0 [some (.ref a0), some (.ref a1), some (.int a2), some (.int a3), none, none, none, none] [] sh me
  | _ => False
abbrev rm_X2_bestSacks : Room := { frames := 5, cells := 0, slots := 0, locals := 117 }
theorem hd_X2_bestSacks : (yX2_bestSacks).cls ≠ "java/lang/invoke/MethodHandle" ∧ (yX2_bestSacks).cls ≠ "java/lang/invoke/VarHandle" ∧ (parseMethodDescriptor (yX2_bestSacks).desc).map (fun d => d.parameters.length) = some 3 := by decide +kernel
set_option maxRecDepth 100000 in
set_option maxHeartbeats 4000000 in
theorem b_X2_bestSacks_0 (l : Launch) : s_B l rm_X2_bestSacks yX2_bestSacks cX2_bestSacks 8 ((some FieldType.int)) false 0 B_X2_bestSacks_0 := fun p e s m args below meth c D ty ad A n0 φ0 Q G Y hY => (u_iconst G dX2_bestSacks_0 (by decide) (u_istore G dX2_bestSacks_1 (u_iconst G dX2_bestSacks_3 (by decide) (u_istore G dX2_bestSacks_4 (u_iconst G dX2_bestSacks_6 (by decide) (u_istore G dX2_bestSacks_7 (hY 9)))))))
set_option maxRecDepth 100000 in
set_option maxHeartbeats 4000000 in
theorem b_X2_bestSacks_9 (l : Launch) : s_B l rm_X2_bestSacks yX2_bestSacks cX2_bestSacks 8 ((some FieldType.int)) false 9 B_X2_bestSacks_9 := fun p e s m args below meth c D ty ad A n0 φ0 Q G Y hY => (u_iload G dX2_bestSacks_9 (u_iconst G dX2_bestSacks_11 (by decide) (u_aload_n G dX2_bestSacks_12 rfl (t_getI G cl_7 (k := 1) (by decide) (Or.inr ⟨_, q1_93⟩) rfl (Or.inl rfl) dX2_bestSacks_13 (u_ishl G dX2_bestSacks_16 (u_icmp_ge G dX2_bestSacks_17 (by decide) (u_iload_n G dX2_bestSacks_65 rfl (u_if_ne G dX2_bestSacks_66 (by decide) (u_iload G dX2_bestSacks_74 (hY 76)) (u_iload G dX2_bestSacks_69 (t_goto G dX2_bestSacks_71 (by decide) (hY 76))))) (u_iload G dX2_bestSacks_20 (t_callS G (m_J6_bitCount_0f7a4 l) ⟨rfl, rfl⟩ rfl ⟨Nat.le_of_ble_eq_true rfl, Nat.le_of_ble_eq_true rfl⟩ q3_218 q1_18 (Or.inl q4_67) q3_217 hd_J6_bitCount_0f7a4 dX2_bestSacks_22 (u_iload_n G dX2_bestSacks_25 rfl (u_icmp_ne G dX2_bestSacks_26 (by decide) (hY 59) (u_aload_n G dX2_bestSacks_29 rfl (u_aload_n G dX2_bestSacks_30 rfl (u_iload G dX2_bestSacks_31 (t_callV G cl_2 (m_X2_dutiesInSacks l) ⟨rfl, rfl⟩ rfl ⟨Nat.le_of_ble_eq_true rfl, Nat.le_of_ble_eq_true rfl⟩ q4_71 q1_5 (Or.inl q4_68) q4_70 qs_25 hd_X2_dutiesInSacks dX2_bestSacks_33 (u_istore G dX2_bestSacks_36 (u_iload G dX2_bestSacks_38 (u_iconst G dX2_bestSacks_40 (by decide) (u_icmp_eq G dX2_bestSacks_41 (by decide) (hY 51) (u_iload G dX2_bestSacks_44 (u_iload G dX2_bestSacks_46 (u_icmp_ge G dX2_bestSacks_48 (by decide) (hY 59) (hY 51))))))))))))))))))))))
set_option maxRecDepth 100000 in
set_option maxHeartbeats 4000000 in
theorem b_X2_bestSacks_51 (l : Launch) : s_B l rm_X2_bestSacks yX2_bestSacks cX2_bestSacks 8 ((some FieldType.int)) false 51 B_X2_bestSacks_51 := fun p e s m args below meth c D ty ad A n0 φ0 Q G Y hY => (u_iload G dX2_bestSacks_51 (u_istore G dX2_bestSacks_53 (u_iload G dX2_bestSacks_55 (u_istore G dX2_bestSacks_57 (hY 59)))))
set_option maxRecDepth 100000 in
set_option maxHeartbeats 4000000 in
theorem b_X2_bestSacks_59 (l : Launch) : s_B l rm_X2_bestSacks yX2_bestSacks cX2_bestSacks 8 ((some FieldType.int)) false 59 B_X2_bestSacks_59 := fun p e s m args below meth c D ty ad A n0 φ0 Q G Y hY => (t_iinc G dX2_bestSacks_59 (by decide) (t_goto G dX2_bestSacks_62 (by decide) (hY 9)))
set_option maxRecDepth 100000 in
set_option maxHeartbeats 4000000 in
theorem b_X2_bestSacks_76 (l : Launch) : s_B l rm_X2_bestSacks yX2_bestSacks cX2_bestSacks 8 ((some FieldType.int)) false 76 B_X2_bestSacks_76 := fun p e s m args below meth c D ty ad A n0 φ0 Q G Y hY => (t_iret G rfl dX2_bestSacks_76)
set_option maxRecDepth 100000 in
theorem m_X2_bestSacks (l : Launch) : s_Met l yX2_bestSacks cX2_bestSacks 8 ((some FieldType.int)) rm_X2_bestSacks false C_X2_bestSacks := by
  intro D ty ad av φ sz sh me Q hsh hC
  unfold C_X2_bestSacks at hC
  split at hC
  · exact s_met1 (P := P_X2_bestSacks) (by decide +kernel) (fun _ => ⟨rfl, rfl⟩) (fun p e s m args below meth c D ty ad A n0 φ0 Q G Y hY => s_tab_T _ (List.forall_mem_cons.mpr ⟨b_X2_bestSacks_0 l p e s m args below meth c D ty ad A n0 φ0 Q G Y hY, List.forall_mem_cons.mpr ⟨b_X2_bestSacks_9 l p e s m args below meth c D ty ad A n0 φ0 Q G Y hY, List.forall_mem_cons.mpr ⟨b_X2_bestSacks_51 l p e s m args below meth c D ty ad A n0 φ0 Q G Y hY, List.forall_mem_cons.mpr ⟨b_X2_bestSacks_59 l p e s m args below meth c D ty ad A n0 φ0 Q G Y hY, List.forall_mem_cons.mpr ⟨b_X2_bestSacks_76 l p e s m args below meth c D ty ad A n0 φ0 Q G Y hY, fun _ h => absurd h List.not_mem_nil⟩⟩⟩⟩⟩)) hsh rfl rfl (Nat.le_of_ble_eq_true rfl) hC
  · exact hC.elim
def B_X8_isSquare_0 (Q : SQ) (nx : Nat → SK) : SK := (o_iload 0 (o_if (fun x => x < 0) (nx 14) (o_iload 0 (o_const (.int 36) (o_ic (fun x y => y ≤ x) (nx 14) (o_const (.int 1) (nx 15)))))))
def B_X8_isSquare_14 (Q : SQ) (nx : Nat → SK) : SK := (o_const (.int 0) (nx 15))
def B_X8_isSquare_15 (Q : SQ) (nx : Nat → SK) : SK := (o_zret Q)
def P_X8_isSquare (Q : SQ) (nx : Nat → SK) : Nat → SK := s_tab [(0, B_X8_isSquare_0 Q nx), (14, B_X8_isSquare_14 Q nx), (15, B_X8_isSquare_15 Q nx)]
def C_X8_isSquare : SC := fun av sh me Q => match av with
  | [.int a0] => s_wp P_X8_isSquare Q 0 [some (.int a0)] [] sh me
  | _ => False
abbrev rm_X8_isSquare : Room := { frames := 0, cells := 0, slots := 0, locals := 0 }
theorem hd_X8_isSquare : (yX8_isSquare).cls ≠ "java/lang/invoke/MethodHandle" ∧ (yX8_isSquare).cls ≠ "java/lang/invoke/VarHandle" ∧ (parseMethodDescriptor (yX8_isSquare).desc).map (fun d => d.parameters.length) = some 1 := by decide +kernel
set_option maxRecDepth 100000 in
set_option maxHeartbeats 4000000 in
theorem b_X8_isSquare_0 (l : Launch) : s_B l rm_X8_isSquare yX8_isSquare cX8_isSquare 1 ((some FieldType.boolean)) false 0 B_X8_isSquare_0 := fun p e s m args below meth c D ty ad A n0 φ0 Q G Y hY => (u_iload_n G dX8_isSquare_0 rfl (u_if_lt G dX8_isSquare_1 (by decide) (hY 14) (u_iload_n G dX8_isSquare_4 rfl (u_bipush G dX8_isSquare_5 (by decide) (u_icmp_ge G dX8_isSquare_7 (by decide) (hY 14) (u_iconst G dX8_isSquare_10 (by decide) (t_goto G dX8_isSquare_11 (by decide) (hY 15))))))))
set_option maxRecDepth 100000 in
set_option maxHeartbeats 4000000 in
theorem b_X8_isSquare_14 (l : Launch) : s_B l rm_X8_isSquare yX8_isSquare cX8_isSquare 1 ((some FieldType.boolean)) false 14 B_X8_isSquare_14 := fun p e s m args below meth c D ty ad A n0 φ0 Q G Y hY => (u_iconst G dX8_isSquare_14 (by decide) (hY 15))
set_option maxRecDepth 100000 in
set_option maxHeartbeats 4000000 in
theorem b_X8_isSquare_15 (l : Launch) : s_B l rm_X8_isSquare yX8_isSquare cX8_isSquare 1 ((some FieldType.boolean)) false 15 B_X8_isSquare_15 := fun p e s m args below meth c D ty ad A n0 φ0 Q G Y hY => (t_zret G rfl dX8_isSquare_15)
set_option maxRecDepth 100000 in
theorem m_X8_isSquare (l : Launch) : s_Met l yX8_isSquare cX8_isSquare 1 ((some FieldType.boolean)) rm_X8_isSquare false C_X8_isSquare := by
  intro D ty ad av φ sz sh me Q hsh hC
  unfold C_X8_isSquare at hC
  split at hC
  · exact s_met1 (P := P_X8_isSquare) (by decide +kernel) (fun _ => ⟨rfl, rfl⟩) (fun p e s m args below meth c D ty ad A n0 φ0 Q G Y hY => s_tab_T _ (List.forall_mem_cons.mpr ⟨b_X8_isSquare_0 l p e s m args below meth c D ty ad A n0 φ0 Q G Y hY, List.forall_mem_cons.mpr ⟨b_X8_isSquare_14 l p e s m args below meth c D ty ad A n0 φ0 Q G Y hY, List.forall_mem_cons.mpr ⟨b_X8_isSquare_15 l p e s m args below meth c D ty ad A n0 φ0 Q G Y hY, fun _ h => absurd h List.not_mem_nil⟩⟩⟩)) hsh rfl rfl (Nat.le_of_ble_eq_true rfl) hC
  · exact hC.elim
def B_X7_isOpen_0 (Q : SQ) (nx : Nat → SK) : SK := (o_iload 1 (o_call C_X8_isSquare 1 (o_if (fun x => x = 0) (nx 19) (o_aload 0 (o_iload 1 (o_callV C_X7_isWall 7 2 (o_if (fun x => ¬ x = 0) (nx 19) (o_const (.int 1) (nx 20)))))))))
def B_X7_isOpen_19 (Q : SQ) (nx : Nat → SK) : SK := (o_const (.int 0) (nx 20))
def B_X7_isOpen_20 (Q : SQ) (nx : Nat → SK) : SK := (o_zret Q)
def P_X7_isOpen (Q : SQ) (nx : Nat → SK) : Nat → SK := s_tab [(0, B_X7_isOpen_0 Q nx), (19, B_X7_isOpen_19 Q nx), (20, B_X7_isOpen_20 Q nx)]
def C_X7_isOpen : SC := fun av sh me Q => match av with
  | [.ref a0, .int a1] => s_wp P_X7_isOpen Q 0 [some (.ref a0), some (.int a1)] [] sh me
  | _ => False
abbrev rm_X7_isOpen : Room := { frames := 1, cells := 0, slots := 0, locals := 21 }
theorem hd_X7_isOpen : (yX7_isOpen).cls ≠ "java/lang/invoke/MethodHandle" ∧ (yX7_isOpen).cls ≠ "java/lang/invoke/VarHandle" ∧ (parseMethodDescriptor (yX7_isOpen).desc).map (fun d => d.parameters.length) = some 1 := by decide +kernel
set_option maxRecDepth 100000 in
set_option maxHeartbeats 4000000 in
theorem b_X7_isOpen_0 (l : Launch) : s_B l rm_X7_isOpen yX7_isOpen cX7_isOpen 2 ((some FieldType.boolean)) false 0 B_X7_isOpen_0 := fun p e s m args below meth c D ty ad A n0 φ0 Q G Y hY => (u_iload_n G dX7_isOpen_0 rfl (t_callS G (m_X8_isSquare l) ⟨rfl, rfl⟩ rfl ⟨Nat.le_of_ble_eq_true rfl, Nat.le_of_ble_eq_true rfl⟩ q2_204 q1_1 (Or.inr ⟨_, q2_202⟩) q2_203 hd_X8_isSquare dX7_isOpen_1 (u_if_eq G dX7_isOpen_4 (by decide) (hY 19) (u_aload_n G dX7_isOpen_7 rfl (u_iload_n G dX7_isOpen_8 rfl (t_callV G cl_7 (m_X7_isWall l) ⟨rfl, rfl⟩ rfl ⟨Nat.le_of_ble_eq_true rfl, Nat.le_of_ble_eq_true rfl⟩ q2_208 q1_2 (Or.inl q2_205) q2_206 q2_207 hd_X7_isWall dX7_isOpen_9 (u_if_ne G dX7_isOpen_12 (by decide) (hY 19) (u_iconst G dX7_isOpen_15 (by decide) (t_goto G dX7_isOpen_16 (by decide) (hY 20))))))))))
set_option maxRecDepth 100000 in
set_option maxHeartbeats 4000000 in
theorem b_X7_isOpen_19 (l : Launch) : s_B l rm_X7_isOpen yX7_isOpen cX7_isOpen 2 ((some FieldType.boolean)) false 19 B_X7_isOpen_19 := fun p e s m args below meth c D ty ad A n0 φ0 Q G Y hY => (u_iconst G dX7_isOpen_19 (by decide) (hY 20))
set_option maxRecDepth 100000 in
set_option maxHeartbeats 4000000 in
theorem b_X7_isOpen_20 (l : Launch) : s_B l rm_X7_isOpen yX7_isOpen cX7_isOpen 2 ((some FieldType.boolean)) false 20 B_X7_isOpen_20 := fun p e s m args below meth c D ty ad A n0 φ0 Q G Y hY => (t_zret G rfl dX7_isOpen_20)
set_option maxRecDepth 100000 in
theorem m_X7_isOpen (l : Launch) : s_Met l yX7_isOpen cX7_isOpen 2 ((some FieldType.boolean)) rm_X7_isOpen false C_X7_isOpen := by
  intro D ty ad av φ sz sh me Q hsh hC
  unfold C_X7_isOpen at hC
  split at hC
  · exact s_met1 (P := P_X7_isOpen) (by decide +kernel) (fun _ => ⟨rfl, rfl⟩) (fun p e s m args below meth c D ty ad A n0 φ0 Q G Y hY => s_tab_T _ (List.forall_mem_cons.mpr ⟨b_X7_isOpen_0 l p e s m args below meth c D ty ad A n0 φ0 Q G Y hY, List.forall_mem_cons.mpr ⟨b_X7_isOpen_19 l p e s m args below meth c D ty ad A n0 φ0 Q G Y hY, List.forall_mem_cons.mpr ⟨b_X7_isOpen_20 l p e s m args below meth c D ty ad A n0 φ0 Q G Y hY, fun _ h => absurd h List.not_mem_nil⟩⟩⟩)) hsh rfl rfl (Nat.le_of_ble_eq_true rfl) hC
  · exact hC.elim
def B_X2_dutyAt_0 (Q : SQ) (nx : Nat → SK) : SK := (o_aload 0 (o_getR 2 0 (o_getR 7 0 (o_iload 1 (o_aald 12 (o_iload 2 (o_putI 1 5 (o_aload 0 (o_getR 2 1 (o_aload 0 (o_getR 2 0 (o_callV C_X4_take 4 2 (o_aload 0 (o_getR 2 1 (o_getR 4 3 (o_iload 1 (o_iald (o_iret Q))))))))))))))))))
def P_X2_dutyAt (Q : SQ) (nx : Nat → SK) : Nat → SK := s_tab [(0, B_X2_dutyAt_0 Q nx)]
def C_X2_dutyAt : SC := fun av sh me Q => match av with
  | [.ref a0, .int a1, .int a2] => s_wp P_X2_dutyAt Q 0 [some (.ref a0), some (.int a1), some (.int a2)] [] sh me
  | _ => False
abbrev rm_X2_dutyAt : Room := { frames := 4, cells := 0, slots := 0, locals := 94 }
theorem hd_X2_dutyAt : (yX2_dutyAt).cls ≠ "java/lang/invoke/MethodHandle" ∧ (yX2_dutyAt).cls ≠ "java/lang/invoke/VarHandle" ∧ (parseMethodDescriptor (yX2_dutyAt).desc).map (fun d => d.parameters.length) = some 2 := by decide +kernel
set_option maxRecDepth 100000 in
set_option maxHeartbeats 4000000 in
theorem b_X2_dutyAt_0 (l : Launch) : s_B l rm_X2_dutyAt yX2_dutyAt cX2_dutyAt 3 ((some FieldType.int)) false 0 B_X2_dutyAt_0 := fun p e s m args below meth c D ty ad A n0 φ0 Q G Y hY => (u_aload_n G dX2_dutyAt_0 rfl (t_getR G cl_2 (k := 0) (by decide) (Or.inl q1_185) rfl (Or.inl ⟨_, rfl⟩) dX2_dutyAt_1 (t_getR G cl_7 (k := 0) (by decide) (Or.inr ⟨_, q1_85⟩) rfl (Or.inr ⟨_, rfl⟩) dX2_dutyAt_4 (u_iload_n G dX2_dutyAt_7 rfl (t_aald G (by decide) dX2_dutyAt_8 (u_iload_n G dX2_dutyAt_9 rfl (t_putI G cl_1 (k := 5) (by decide) (Or.inl ⟨rfl, Or.inr ⟨_, q1_59⟩⟩) rfl rfl dX2_dutyAt_10 (u_aload_n G dX2_dutyAt_13 rfl (t_getR G cl_2 (k := 1) (by decide) (Or.inl q1_186) rfl (Or.inl ⟨_, rfl⟩) dX2_dutyAt_14 (u_aload_n G dX2_dutyAt_17 rfl (t_getR G cl_2 (k := 0) (by decide) (Or.inl q1_185) rfl (Or.inl ⟨_, rfl⟩) dX2_dutyAt_18 (t_callV G cl_4 (m_X4_take l) ⟨rfl, rfl⟩ rfl ⟨Nat.le_of_ble_eq_true rfl, Nat.le_of_ble_eq_true rfl⟩ q3_189 q1_4 (Or.inl q4_29) q3_187 q3_188 hd_X4_take dX2_dutyAt_21 (u_aload_n G dX2_dutyAt_24 rfl (t_getR G cl_2 (k := 1) (by decide) (Or.inl q1_186) rfl (Or.inl ⟨_, rfl⟩) dX2_dutyAt_25 (t_getR G cl_4 (k := 3) (by decide) (Or.inr ⟨_, q1_153⟩) rfl (Or.inr ⟨_, rfl⟩) dX2_dutyAt_28 (u_iload_n G dX2_dutyAt_31 rfl (t_iald G dX2_dutyAt_32 (t_iret G rfl dX2_dutyAt_33))))))))))))))))))
set_option maxRecDepth 100000 in
theorem m_X2_dutyAt (l : Launch) : s_Met l yX2_dutyAt cX2_dutyAt 3 ((some FieldType.int)) rm_X2_dutyAt false C_X2_dutyAt := by
  intro D ty ad av φ sz sh me Q hsh hC
  unfold C_X2_dutyAt at hC
  split at hC
  · exact s_met1 (P := P_X2_dutyAt) (by decide +kernel) (fun _ => ⟨rfl, rfl⟩) (fun p e s m args below meth c D ty ad A n0 φ0 Q G Y hY => s_tab_T _ (List.forall_mem_cons.mpr ⟨b_X2_dutyAt_0 l p e s m args below meth c D ty ad A n0 φ0 Q G Y hY, fun _ h => absurd h List.not_mem_nil⟩)) hsh rfl rfl (Nat.le_of_ble_eq_true rfl) hC
  · exact hC.elim
def B_X2_bestStand_0 (Q : SQ) (nx : Nat → SK) : SK := (o_aload 0 (o_getR 2 0 (o_aload 1 (o_callV C_X7_copyFrom 7 2 (o_const (.int (-1)) (o_istore 4 (o_const (.int 0) (o_istore 5 (o_const (.int 0) (o_istore 6 (nx 17)))))))))))
def B_X2_bestStand_17 (Q : SQ) (nx : Nat → SK) : SK := (o_iload 6 (o_const (.int 36) (o_ic (fun x y => y ≤ x) (o_iload 3 (o_if (fun x => ¬ x = 0) (o_iload 5 (nx 83)) (o_iload 4 (nx 83)))) (o_aload 0 (o_getR 2 0 (o_iload 6 (o_callV C_X7_isOpen 7 2 (o_if (fun x => x = 0) (nx 66) (o_aload 0 (o_iload 2 (o_iload 6 (o_callV C_X2_dutyAt 2 3 (o_istore 7 (o_iload 4 (o_const (.int (-1)) (o_ic (fun x y => x = y) (nx 58) (o_iload 7 (o_iload 5 (o_ic (fun x y => y ≤ x) (nx 66) (nx 58))))))))))))))))))))
def B_X2_bestStand_58 (Q : SQ) (nx : Nat → SK) : SK := (o_iload 6 (o_istore 4 (o_iload 7 (o_istore 5 (nx 66)))))
def B_X2_bestStand_66 (Q : SQ) (nx : Nat → SK) : SK := (o_iinc 6 1 (nx 17))
def B_X2_bestStand_83 (Q : SQ) (nx : Nat → SK) : SK := (o_iret Q)
def P_X2_bestStand (Q : SQ) (nx : Nat → SK) : Nat → SK := s_tab [(0, B_X2_bestStand_0 Q nx), (17, B_X2_bestStand_17 Q nx), (58, B_X2_bestStand_58 Q nx), (66, B_X2_bestStand_66 Q nx), (83, B_X2_bestStand_83 Q nx)]
def C_X2_bestStand : SC := fun av sh me Q => match av with
  | [.ref a0, .ref a1, .int a2, .int a3] => s_wp P_X2_bestStand Q 0 [some (.ref a0), some (.ref a1), some (.int a2), some (.int a3), none, none, none, none] [] sh me
  | _ => False
abbrev rm_X2_bestStand : Room := { frames := 5, cells := 0, slots := 0, locals := 116 }
theorem hd_X2_bestStand : (yX2_bestStand).cls ≠ "java/lang/invoke/MethodHandle" ∧ (yX2_bestStand).cls ≠ "java/lang/invoke/VarHandle" ∧ (parseMethodDescriptor (yX2_bestStand).desc).map (fun d => d.parameters.length) = some 3 := by decide +kernel
set_option maxRecDepth 100000 in
set_option maxHeartbeats 4000000 in
theorem b_X2_bestStand_0 (l : Launch) : s_B l rm_X2_bestStand yX2_bestStand cX2_bestStand 8 ((some FieldType.int)) false 0 B_X2_bestStand_0 := fun p e s m args below meth c D ty ad A n0 φ0 Q G Y hY => (u_aload_n G dX2_bestStand_0 rfl (t_getR G cl_2 (k := 0) (by decide) (Or.inl q1_185) rfl (Or.inl ⟨_, rfl⟩) dX2_bestStand_1 (u_aload_n G dX2_bestStand_4 rfl (t_callV G cl_7 (m_X7_copyFrom l) ⟨rfl, rfl⟩ rfl ⟨Nat.le_of_ble_eq_true rfl, Nat.le_of_ble_eq_true rfl⟩ q3_40 q1_2 (Or.inl q4_19) q3_38 q3_39 hd_X7_copyFrom dX2_bestStand_5 (u_iconst G dX2_bestStand_8 (by decide) (u_istore G dX2_bestStand_9 (u_iconst G dX2_bestStand_11 (by decide) (u_istore G dX2_bestStand_12 (u_iconst G dX2_bestStand_14 (by decide) (u_istore G dX2_bestStand_15 (hY 17)))))))))))
set_option maxRecDepth 100000 in
set_option maxHeartbeats 4000000 in
theorem b_X2_bestStand_17 (l : Launch) : s_B l rm_X2_bestStand yX2_bestStand cX2_bestStand 8 ((some FieldType.int)) false 17 B_X2_bestStand_17 := fun p e s m args below meth c D ty ad A n0 φ0 Q G Y hY => (u_iload G dX2_bestStand_17 (u_bipush G dX2_bestStand_19 (by decide) (u_icmp_ge G dX2_bestStand_21 (by decide) (u_iload_n G dX2_bestStand_72 rfl (u_if_ne G dX2_bestStand_73 (by decide) (u_iload G dX2_bestStand_81 (hY 83)) (u_iload G dX2_bestStand_76 (t_goto G dX2_bestStand_78 (by decide) (hY 83))))) (u_aload_n G dX2_bestStand_24 rfl (t_getR G cl_2 (k := 0) (by decide) (Or.inl q1_185) rfl (Or.inl ⟨_, rfl⟩) dX2_bestStand_25 (u_iload G dX2_bestStand_28 (t_callV G cl_7 (m_X7_isOpen l) ⟨rfl, rfl⟩ rfl ⟨Nat.le_of_ble_eq_true rfl, Nat.le_of_ble_eq_true rfl⟩ q2_201 q1_2 (Or.inl q4_24) q2_199 q2_200 hd_X7_isOpen dX2_bestStand_30 (u_if_eq G dX2_bestStand_33 (by decide) (hY 66) (u_aload_n G dX2_bestStand_36 rfl (u_iload_n G dX2_bestStand_37 rfl (u_iload G dX2_bestStand_38 (t_callV G cl_2 (m_X2_dutyAt l) ⟨rfl, rfl⟩ rfl ⟨Nat.le_of_ble_eq_true rfl, Nat.le_of_ble_eq_true rfl⟩ q4_28 q1_5 (Or.inl q4_25) q4_27 qs_21 hd_X2_dutyAt dX2_bestStand_40 (u_istore G dX2_bestStand_43 (u_iload G dX2_bestStand_45 (u_iconst G dX2_bestStand_47 (by decide) (u_icmp_eq G dX2_bestStand_48 (by decide) (hY 58) (u_iload G dX2_bestStand_51 (u_iload G dX2_bestStand_53 (u_icmp_ge G dX2_bestStand_55 (by decide) (hY 66) (hY 58))))))))))))))))))))
set_option maxRecDepth 100000 in
set_option maxHeartbeats 4000000 in
theorem b_X2_bestStand_58 (l : Launch) : s_B l rm_X2_bestStand yX2_bestStand cX2_bestStand 8 ((some FieldType.int)) false 58 B_X2_bestStand_58 := fun p e s m args below meth c D ty ad A n0 φ0 Q G Y hY => (u_iload G dX2_bestStand_58 (u_istore G dX2_bestStand_60 (u_iload G dX2_bestStand_62 (u_istore G dX2_bestStand_64 (hY 66)))))
set_option maxRecDepth 100000 in
set_option maxHeartbeats 4000000 in
theorem b_X2_bestStand_66 (l : Launch) : s_B l rm_X2_bestStand yX2_bestStand cX2_bestStand 8 ((some FieldType.int)) false 66 B_X2_bestStand_66 := fun p e s m args below meth c D ty ad A n0 φ0 Q G Y hY => (t_iinc G dX2_bestStand_66 (by decide) (t_goto G dX2_bestStand_69 (by decide) (hY 17)))
set_option maxRecDepth 100000 in
set_option maxHeartbeats 4000000 in
theorem b_X2_bestStand_83 (l : Launch) : s_B l rm_X2_bestStand yX2_bestStand cX2_bestStand 8 ((some FieldType.int)) false 83 B_X2_bestStand_83 := fun p e s m args below meth c D ty ad A n0 φ0 Q G Y hY => (t_iret G rfl dX2_bestStand_83)
set_option maxRecDepth 100000 in
theorem m_X2_bestStand (l : Launch) : s_Met l yX2_bestStand cX2_bestStand 8 ((some FieldType.int)) rm_X2_bestStand false C_X2_bestStand := by
  intro D ty ad av φ sz sh me Q hsh hC
  unfold C_X2_bestStand at hC
  split at hC
  · exact s_met1 (P := P_X2_bestStand) (by decide +kernel) (fun _ => ⟨rfl, rfl⟩) (fun p e s m args below meth c D ty ad A n0 φ0 Q G Y hY => s_tab_T _ (List.forall_mem_cons.mpr ⟨b_X2_bestStand_0 l p e s m args below meth c D ty ad A n0 φ0 Q G Y hY, List.forall_mem_cons.mpr ⟨b_X2_bestStand_17 l p e s m args below meth c D ty ad A n0 φ0 Q G Y hY, List.forall_mem_cons.mpr ⟨b_X2_bestStand_58 l p e s m args below meth c D ty ad A n0 φ0 Q G Y hY, List.forall_mem_cons.mpr ⟨b_X2_bestStand_66 l p e s m args below meth c D ty ad A n0 φ0 Q G Y hY, List.forall_mem_cons.mpr ⟨b_X2_bestStand_83 l p e s m args below meth c D ty ad A n0 φ0 Q G Y hY, fun _ h => absurd h List.not_mem_nil⟩⟩⟩⟩⟩)) hsh rfl rfl (Nat.le_of_ble_eq_true rfl) hC
  · exact hC.elim
def B_X2_dutiesWithout_0 (Q : SQ) (nx : Nat → SK) : SK := (o_aload 0 (o_getR 2 0 (o_aload 1 (o_callV C_X7_copyFrom 7 2 (o_aload 0 (o_getR 2 0 (o_getR 7 0 (o_iload 2 (o_aald 12 (o_const (.int 1) (o_putZ 1 6 (o_aload 0 (o_getR 2 0 (o_getR 7 0 (o_iload 2 (o_aald 12 (o_const (.int 3) (o_putI 1 0 (o_aload 0 (o_getR 2 1 (o_aload 0 (o_getR 2 0 (o_callV C_X4_take 4 2 (o_aload 0 (o_getR 2 1 (o_aload 0 (o_getR 2 0 (o_callV C_X4_dutiesTogether 4 2 (o_iret Q)))))))))))))))))))))))))))))
def P_X2_dutiesWithout (Q : SQ) (nx : Nat → SK) : Nat → SK := s_tab [(0, B_X2_dutiesWithout_0 Q nx)]
def C_X2_dutiesWithout : SC := fun av sh me Q => match av with
  | [.ref a0, .ref a1, .int a2] => s_wp P_X2_dutiesWithout Q 0 [some (.ref a0), some (.ref a1), some (.int a2)] [] sh me
  | _ => False
abbrev rm_X2_dutiesWithout : Room := { frames := 4, cells := 0, slots := 0, locals := 94 }
theorem hd_X2_dutiesWithout : (yX2_dutiesWithout).cls ≠ "java/lang/invoke/MethodHandle" ∧ (yX2_dutiesWithout).cls ≠ "java/lang/invoke/VarHandle" ∧ (parseMethodDescriptor (yX2_dutiesWithout).desc).map (fun d => d.parameters.length) = some 2 := by decide +kernel
set_option maxRecDepth 100000 in
set_option maxHeartbeats 4000000 in
theorem b_X2_dutiesWithout_0 (l : Launch) : s_B l rm_X2_dutiesWithout yX2_dutiesWithout cX2_dutiesWithout 3 ((some FieldType.int)) false 0 B_X2_dutiesWithout_0 := fun p e s m args below meth c D ty ad A n0 φ0 Q G Y hY => (u_aload_n G dX2_dutiesWithout_0 rfl (t_getR G cl_2 (k := 0) (by decide) (Or.inl q1_185) rfl (Or.inl ⟨_, rfl⟩) dX2_dutiesWithout_1 (u_aload_n G dX2_dutiesWithout_4 rfl (t_callV G cl_7 (m_X7_copyFrom l) ⟨rfl, rfl⟩ rfl ⟨Nat.le_of_ble_eq_true rfl, Nat.le_of_ble_eq_true rfl⟩ q3_40 q1_2 (Or.inl q4_19) q3_38 q3_39 hd_X7_copyFrom dX2_dutiesWithout_5 (u_aload_n G dX2_dutiesWithout_8 rfl (t_getR G cl_2 (k := 0) (by decide) (Or.inl q1_185) rfl (Or.inl ⟨_, rfl⟩) dX2_dutiesWithout_9 (t_getR G cl_7 (k := 0) (by decide) (Or.inr ⟨_, q1_85⟩) rfl (Or.inr ⟨_, rfl⟩) dX2_dutiesWithout_12 (u_iload_n G dX2_dutiesWithout_15 rfl (t_aald G (by decide) dX2_dutiesWithout_16 (u_iconst G dX2_dutiesWithout_17 (by decide) (t_putZ G cl_1 (k := 6) (by decide) (Or.inl ⟨rfl, Or.inr ⟨_, q1_68⟩⟩) rfl rfl dX2_dutiesWithout_18 (u_aload_n G dX2_dutiesWithout_21 rfl (t_getR G cl_2 (k := 0) (by decide) (Or.inl q1_185) rfl (Or.inl ⟨_, rfl⟩) dX2_dutiesWithout_22 (t_getR G cl_7 (k := 0) (by decide) (Or.inr ⟨_, q1_85⟩) rfl (Or.inr ⟨_, rfl⟩) dX2_dutiesWithout_25 (u_iload_n G dX2_dutiesWithout_28 rfl (t_aald G (by decide) dX2_dutiesWithout_29 (u_iconst G dX2_dutiesWithout_30 (by decide) (t_putI G cl_1 (k := 0) (by decide) (Or.inl ⟨rfl, Or.inr ⟨_, q1_44⟩⟩) rfl rfl dX2_dutiesWithout_31 (u_aload_n G dX2_dutiesWithout_34 rfl (t_getR G cl_2 (k := 1) (by decide) (Or.inl q1_186) rfl (Or.inl ⟨_, rfl⟩) dX2_dutiesWithout_35 (u_aload_n G dX2_dutiesWithout_38 rfl (t_getR G cl_2 (k := 0) (by decide) (Or.inl q1_185) rfl (Or.inl ⟨_, rfl⟩) dX2_dutiesWithout_39 (t_callV G cl_4 (m_X4_take l) ⟨rfl, rfl⟩ rfl ⟨Nat.le_of_ble_eq_true rfl, Nat.le_of_ble_eq_true rfl⟩ q3_189 q1_4 (Or.inl q4_29) q3_187 q3_188 hd_X4_take dX2_dutiesWithout_42 (u_aload_n G dX2_dutiesWithout_45 rfl (t_getR G cl_2 (k := 1) (by decide) (Or.inl q1_186) rfl (Or.inl ⟨_, rfl⟩) dX2_dutiesWithout_46 (u_aload_n G dX2_dutiesWithout_49 rfl (t_getR G cl_2 (k := 0) (by decide) (Or.inl q1_185) rfl (Or.inl ⟨_, rfl⟩) dX2_dutiesWithout_50 (t_callV G cl_4 (m_X4_dutiesTogether l) ⟨rfl, rfl⟩ rfl ⟨Nat.le_of_ble_eq_true rfl, Nat.le_of_ble_eq_true rfl⟩ q3_237 q1_4 (Or.inl q4_73) q3_235 q3_236 hd_X4_dutiesTogether dX2_dutiesWithout_53 (t_iret G rfl dX2_dutiesWithout_56)))))))))))))))))))))))))))))
set_option maxRecDepth 100000 in
theorem m_X2_dutiesWithout (l : Launch) : s_Met l yX2_dutiesWithout cX2_dutiesWithout 3 ((some FieldType.int)) rm_X2_dutiesWithout false C_X2_dutiesWithout := by
  intro D ty ad av φ sz sh me Q hsh hC
  unfold C_X2_dutiesWithout at hC
  split at hC
  · exact s_met1 (P := P_X2_dutiesWithout) (by decide +kernel) (fun _ => ⟨rfl, rfl⟩) (fun p e s m args below meth c D ty ad A n0 φ0 Q G Y hY => s_tab_T _ (List.forall_mem_cons.mpr ⟨b_X2_dutiesWithout_0 l p e s m args below meth c D ty ad A n0 φ0 Q G Y hY, fun _ h => absurd h List.not_mem_nil⟩)) hsh rfl rfl (Nat.le_of_ble_eq_true rfl) hC
  · exact hC.elim
def B_X2_bestWithout_0 (Q : SQ) (nx : Nat → SK) : SK := (o_const (.int (-1)) (o_istore 2 (o_const (.int 0) (o_istore 3 (o_const (.int 0) (o_istore 4 (nx 7)))))))
def B_X2_bestWithout_7 (Q : SQ) (nx : Nat → SK) : SK := (o_iload 4 (o_aload 1 (o_getI 7 1 (o_ic (fun x y => y ≤ x) (o_iload 2 (o_iret Q)) (o_aload 0 (o_aload 1 (o_iload 4 (o_callV C_X2_dutiesWithout 2 3 (o_istore 5 (o_iload 2 (o_const (.int (-1)) (o_ic (fun x y => x = y) (nx 36) (o_iload 5 (o_iload 3 (o_ic (fun x y => y ≤ x) (nx 42) (nx 36))))))))))))))))
def B_X2_bestWithout_36 (Q : SQ) (nx : Nat → SK) : SK := (o_iload 4 (o_istore 2 (o_iload 5 (o_istore 3 (nx 42)))))
def B_X2_bestWithout_42 (Q : SQ) (nx : Nat → SK) : SK := (o_iinc 4 1 (nx 7))
def P_X2_bestWithout (Q : SQ) (nx : Nat → SK) : Nat → SK := s_tab [(0, B_X2_bestWithout_0 Q nx), (7, B_X2_bestWithout_7 Q nx), (36, B_X2_bestWithout_36 Q nx), (42, B_X2_bestWithout_42 Q nx)]
def C_X2_bestWithout : SC := fun av sh me Q => match av with
  | [.ref a0, .ref a1] => s_wp P_X2_bestWithout Q 0 [some (.ref a0), some (.ref a1), none, none, none, none] [] sh me
  | _ => False
abbrev rm_X2_bestWithout : Room := { frames := 5, cells := 0, slots := 0, locals := 116 }
theorem hd_X2_bestWithout : (yX2_bestWithout).cls ≠ "java/lang/invoke/MethodHandle" ∧ (yX2_bestWithout).cls ≠ "java/lang/invoke/VarHandle" ∧ (parseMethodDescriptor (yX2_bestWithout).desc).map (fun d => d.parameters.length) = some 1 := by decide +kernel
set_option maxRecDepth 100000 in
set_option maxHeartbeats 4000000 in
theorem b_X2_bestWithout_0 (l : Launch) : s_B l rm_X2_bestWithout yX2_bestWithout cX2_bestWithout 6 ((some FieldType.int)) false 0 B_X2_bestWithout_0 := fun p e s m args below meth c D ty ad A n0 φ0 Q G Y hY => (u_iconst G dX2_bestWithout_0 (by decide) (u_istore_n G dX2_bestWithout_1 rfl (u_iconst G dX2_bestWithout_2 (by decide) (u_istore_n G dX2_bestWithout_3 rfl (u_iconst G dX2_bestWithout_4 (by decide) (u_istore G dX2_bestWithout_5 (hY 7)))))))
set_option maxRecDepth 100000 in
set_option maxHeartbeats 4000000 in
theorem b_X2_bestWithout_7 (l : Launch) : s_B l rm_X2_bestWithout yX2_bestWithout cX2_bestWithout 6 ((some FieldType.int)) false 7 B_X2_bestWithout_7 := fun p e s m args below meth c D ty ad A n0 φ0 Q G Y hY => (u_iload G dX2_bestWithout_7 (u_aload_n G dX2_bestWithout_9 rfl (t_getI G cl_7 (k := 1) (by decide) (Or.inr ⟨_, q1_93⟩) rfl (Or.inl rfl) dX2_bestWithout_10 (u_icmp_ge G dX2_bestWithout_13 (by decide) (u_iload_n G dX2_bestWithout_48 rfl (t_iret G rfl dX2_bestWithout_49)) (u_aload_n G dX2_bestWithout_16 rfl (u_aload_n G dX2_bestWithout_17 rfl (u_iload G dX2_bestWithout_18 (t_callV G cl_2 (m_X2_dutiesWithout l) ⟨rfl, rfl⟩ rfl ⟨Nat.le_of_ble_eq_true rfl, Nat.le_of_ble_eq_true rfl⟩ q4_111 q1_5 (Or.inl q4_108) q4_110 qs_27 hd_X2_dutiesWithout dX2_bestWithout_20 (u_istore G dX2_bestWithout_23 (u_iload_n G dX2_bestWithout_25 rfl (u_iconst G dX2_bestWithout_26 (by decide) (u_icmp_eq G dX2_bestWithout_27 (by decide) (hY 36) (u_iload G dX2_bestWithout_30 (u_iload_n G dX2_bestWithout_32 rfl (u_icmp_ge G dX2_bestWithout_33 (by decide) (hY 42) (hY 36))))))))))))))))
set_option maxRecDepth 100000 in
set_option maxHeartbeats 4000000 in
theorem b_X2_bestWithout_36 (l : Launch) : s_B l rm_X2_bestWithout yX2_bestWithout cX2_bestWithout 6 ((some FieldType.int)) false 36 B_X2_bestWithout_36 := fun p e s m args below meth c D ty ad A n0 φ0 Q G Y hY => (u_iload G dX2_bestWithout_36 (u_istore_n G dX2_bestWithout_38 rfl (u_iload G dX2_bestWithout_39 (u_istore_n G dX2_bestWithout_41 rfl (hY 42)))))
set_option maxRecDepth 100000 in
set_option maxHeartbeats 4000000 in
theorem b_X2_bestWithout_42 (l : Launch) : s_B l rm_X2_bestWithout yX2_bestWithout cX2_bestWithout 6 ((some FieldType.int)) false 42 B_X2_bestWithout_42 := fun p e s m args below meth c D ty ad A n0 φ0 Q G Y hY => (t_iinc G dX2_bestWithout_42 (by decide) (t_goto G dX2_bestWithout_45 (by decide) (hY 7)))
set_option maxRecDepth 100000 in
theorem m_X2_bestWithout (l : Launch) : s_Met l yX2_bestWithout cX2_bestWithout 6 ((some FieldType.int)) rm_X2_bestWithout false C_X2_bestWithout := by
  intro D ty ad av φ sz sh me Q hsh hC
  unfold C_X2_bestWithout at hC
  split at hC
  · exact s_met1 (P := P_X2_bestWithout) (by decide +kernel) (fun _ => ⟨rfl, rfl⟩) (fun p e s m args below meth c D ty ad A n0 φ0 Q G Y hY => s_tab_T _ (List.forall_mem_cons.mpr ⟨b_X2_bestWithout_0 l p e s m args below meth c D ty ad A n0 φ0 Q G Y hY, List.forall_mem_cons.mpr ⟨b_X2_bestWithout_7 l p e s m args below meth c D ty ad A n0 φ0 Q G Y hY, List.forall_mem_cons.mpr ⟨b_X2_bestWithout_36 l p e s m args below meth c D ty ad A n0 φ0 Q G Y hY, List.forall_mem_cons.mpr ⟨b_X2_bestWithout_42 l p e s m args below meth c D ty ad A n0 φ0 Q G Y hY, fun _ h => absurd h List.not_mem_nil⟩⟩⟩⟩)) hsh rfl rfl (Nat.le_of_ble_eq_true rfl) hC
  · exact hC.elim
def B_X7_stepFrom_0 (Q : SQ) (nx : Nat → SK) : SK := (o_iload 1 (o_iload 2 (o_call C_X8_beside 2 (o_istore 3 (o_aload 0 (o_iload 3 (o_callV C_X7_isOpen 7 2 (o_if (fun x => x = 0) (o_const (.int (-1)) (nx 19)) (o_iload 3 (nx 19))))))))))
def B_X7_stepFrom_19 (Q : SQ) (nx : Nat → SK) : SK := (o_iret Q)
def P_X7_stepFrom (Q : SQ) (nx : Nat → SK) : Nat → SK := s_tab [(0, B_X7_stepFrom_0 Q nx), (19, B_X7_stepFrom_19 Q nx)]
def C_X7_stepFrom : SC := fun av sh me Q => match av with
  | [.ref a0, .int a1, .int a2] => s_wp P_X7_stepFrom Q 0 [some (.ref a0), some (.int a1), some (.int a2), none] [] sh me
  | _ => False
abbrev rm_X7_stepFrom : Room := { frames := 2, cells := 0, slots := 0, locals := 42 }
theorem hd_X7_stepFrom : (yX7_stepFrom).cls ≠ "java/lang/invoke/MethodHandle" ∧ (yX7_stepFrom).cls ≠ "java/lang/invoke/VarHandle" ∧ (parseMethodDescriptor (yX7_stepFrom).desc).map (fun d => d.parameters.length) = some 2 := by decide +kernel
set_option maxRecDepth 100000 in
set_option maxHeartbeats 4000000 in
theorem b_X7_stepFrom_0 (l : Launch) : s_B l rm_X7_stepFrom yX7_stepFrom cX7_stepFrom 4 ((some FieldType.int)) false 0 B_X7_stepFrom_0 := fun p e s m args below meth c D ty ad A n0 φ0 Q G Y hY => (u_iload_n G dX7_stepFrom_0 rfl (u_iload_n G dX7_stepFrom_1 rfl (t_callS G (m_X8_beside l) ⟨rfl, rfl⟩ rfl ⟨Nat.le_of_ble_eq_true rfl, Nat.le_of_ble_eq_true rfl⟩ q3_180 q1_1 (Or.inr ⟨_, q3_178⟩) q3_179 hd_X8_beside dX7_stepFrom_2 (u_istore_n G dX7_stepFrom_5 rfl (u_aload_n G dX7_stepFrom_6 rfl (u_iload_n G dX7_stepFrom_7 rfl (t_callV G cl_7 (m_X7_isOpen l) ⟨rfl, rfl⟩ rfl ⟨Nat.le_of_ble_eq_true rfl, Nat.le_of_ble_eq_true rfl⟩ q2_201 q1_2 (Or.inl q4_46) q2_199 q2_200 hd_X7_isOpen dX7_stepFrom_8 (u_if_eq G dX7_stepFrom_11 (by decide) (u_iconst G dX7_stepFrom_18 (by decide) (hY 19)) (u_iload_n G dX7_stepFrom_14 rfl (t_goto G dX7_stepFrom_15 (by decide) (hY 19)))))))))))
set_option maxRecDepth 100000 in
set_option maxHeartbeats 4000000 in
theorem b_X7_stepFrom_19 (l : Launch) : s_B l rm_X7_stepFrom yX7_stepFrom cX7_stepFrom 4 ((some FieldType.int)) false 19 B_X7_stepFrom_19 := fun p e s m args below meth c D ty ad A n0 φ0 Q G Y hY => (t_iret G rfl dX7_stepFrom_19)
set_option maxRecDepth 100000 in
theorem m_X7_stepFrom (l : Launch) : s_Met l yX7_stepFrom cX7_stepFrom 4 ((some FieldType.int)) rm_X7_stepFrom false C_X7_stepFrom := by
  intro D ty ad av φ sz sh me Q hsh hC
  unfold C_X7_stepFrom at hC
  split at hC
  · exact s_met1 (P := P_X7_stepFrom) (by decide +kernel) (fun _ => ⟨rfl, rfl⟩) (fun p e s m args below meth c D ty ad A n0 φ0 Q G Y hY => s_tab_T _ (List.forall_mem_cons.mpr ⟨b_X7_stepFrom_0 l p e s m args below meth c D ty ad A n0 φ0 Q G Y hY, List.forall_mem_cons.mpr ⟨b_X7_stepFrom_19 l p e s m args below meth c D ty ad A n0 φ0 Q G Y hY, fun _ h => absurd h List.not_mem_nil⟩⟩)) hsh rfl rfl (Nat.le_of_ble_eq_true rfl) hC
  · exact hC.elim
def B_X2_firstOn_0 (Q : SQ) (nx : Nat → SK) : SK := (o_const (.int (-1)) (o_istore 2 (o_const (.int 0) (o_istore 3 (nx 4)))))
def B_X2_firstOn_4 (Q : SQ) (nx : Nat → SK) : SK := (o_iload 3 (o_const (.int 4) (o_ic (fun x y => y ≤ x) (o_iload 2 (o_iret Q)) (o_aload 0 (o_getR 2 0 (o_iload 1 (o_iload 3 (o_callV C_X7_stepFrom 7 3 (o_istore 4 (o_iload 4 (o_const (.int (-1)) (o_ic (fun x y => x = y) (nx 64) (o_aload 0 (o_getR 2 3 (o_iload 4 (o_iald (o_aload 0 (o_getR 2 2 (o_iload 4 (o_iald (o_i2 (fun x y => x + y) (o_aload 0 (o_getR 2 3 (o_iload 1 (o_iald (o_ic (fun x y => ¬ x = y) (nx 64) (o_iload 2 (o_const (.int (-1)) (o_ic (fun x y => x = y) (nx 61) (o_iload 4 (o_iload 2 (o_ic (fun x y => y ≤ x) (nx 64) (nx 61)))))))))))))))))))))))))))))))))
def B_X2_firstOn_61 (Q : SQ) (nx : Nat → SK) : SK := (o_iload 4 (o_istore 2 (nx 64)))
def B_X2_firstOn_64 (Q : SQ) (nx : Nat → SK) : SK := (o_iinc 3 1 (nx 4))
def P_X2_firstOn (Q : SQ) (nx : Nat → SK) : Nat → SK := s_tab [(0, B_X2_firstOn_0 Q nx), (4, B_X2_firstOn_4 Q nx), (61, B_X2_firstOn_61 Q nx), (64, B_X2_firstOn_64 Q nx)]
def C_X2_firstOn : SC := fun av sh me Q => match av with
  | [.ref a0, .int a1] => s_wp P_X2_firstOn Q 0 [some (.ref a0), some (.int a1), none, none, none] [] sh me
  | _ => False
abbrev rm_X2_firstOn : Room := { frames := 3, cells := 0, slots := 0, locals := 65 }
theorem hd_X2_firstOn : (yX2_firstOn).cls ≠ "java/lang/invoke/MethodHandle" ∧ (yX2_firstOn).cls ≠ "java/lang/invoke/VarHandle" ∧ (parseMethodDescriptor (yX2_firstOn).desc).map (fun d => d.parameters.length) = some 1 := by decide +kernel
set_option maxRecDepth 100000 in
set_option maxHeartbeats 4000000 in
theorem b_X2_firstOn_0 (l : Launch) : s_B l rm_X2_firstOn yX2_firstOn cX2_firstOn 5 ((some FieldType.int)) false 0 B_X2_firstOn_0 := fun p e s m args below meth c D ty ad A n0 φ0 Q G Y hY => (u_iconst G dX2_firstOn_0 (by decide) (u_istore_n G dX2_firstOn_1 rfl (u_iconst G dX2_firstOn_2 (by decide) (u_istore_n G dX2_firstOn_3 rfl (hY 4)))))
set_option maxRecDepth 100000 in
set_option maxHeartbeats 4000000 in
theorem b_X2_firstOn_4 (l : Launch) : s_B l rm_X2_firstOn yX2_firstOn cX2_firstOn 5 ((some FieldType.int)) false 4 B_X2_firstOn_4 := fun p e s m args below meth c D ty ad A n0 φ0 Q G Y hY => (u_iload_n G dX2_firstOn_4 rfl (u_iconst G dX2_firstOn_5 (by decide) (u_icmp_ge G dX2_firstOn_6 (by decide) (u_iload_n G dX2_firstOn_70 rfl (t_iret G rfl dX2_firstOn_71)) (u_aload_n G dX2_firstOn_9 rfl (t_getR G cl_2 (k := 0) (by decide) (Or.inl q1_185) rfl (Or.inl ⟨_, rfl⟩) dX2_firstOn_10 (u_iload_n G dX2_firstOn_13 rfl (u_iload_n G dX2_firstOn_14 rfl (t_callV G cl_7 (m_X7_stepFrom l) ⟨rfl, rfl⟩ rfl ⟨Nat.le_of_ble_eq_true rfl, Nat.le_of_ble_eq_true rfl⟩ q4_45 q1_2 (Or.inl q4_42) q4_43 q4_44 hd_X7_stepFrom dX2_firstOn_15 (u_istore G dX2_firstOn_18 (u_iload G dX2_firstOn_20 (u_iconst G dX2_firstOn_22 (by decide) (u_icmp_eq G dX2_firstOn_23 (by decide) (hY 64) (u_aload_n G dX2_firstOn_26 rfl (t_getR G cl_2 (k := 3) (by decide) (Or.inl q1_188) rfl (Or.inr ⟨_, rfl⟩) dX2_firstOn_27 (u_iload G dX2_firstOn_30 (t_iald G dX2_firstOn_32 (u_aload_n G dX2_firstOn_33 rfl (t_getR G cl_2 (k := 2) (by decide) (Or.inl q1_187) rfl (Or.inr ⟨_, rfl⟩) dX2_firstOn_34 (u_iload G dX2_firstOn_37 (t_iald G dX2_firstOn_39 (u_iadd G dX2_firstOn_40 (u_aload_n G dX2_firstOn_41 rfl (t_getR G cl_2 (k := 3) (by decide) (Or.inl q1_188) rfl (Or.inr ⟨_, rfl⟩) dX2_firstOn_42 (u_iload_n G dX2_firstOn_45 rfl (t_iald G dX2_firstOn_46 (u_icmp_ne G dX2_firstOn_47 (by decide) (hY 64) (u_iload_n G dX2_firstOn_50 rfl (u_iconst G dX2_firstOn_51 (by decide) (u_icmp_eq G dX2_firstOn_52 (by decide) (hY 61) (u_iload G dX2_firstOn_55 (u_iload_n G dX2_firstOn_57 rfl (u_icmp_ge G dX2_firstOn_58 (by decide) (hY 64) (hY 61)))))))))))))))))))))))))))))))))
set_option maxRecDepth 100000 in
set_option maxHeartbeats 4000000 in
theorem b_X2_firstOn_61 (l : Launch) : s_B l rm_X2_firstOn yX2_firstOn cX2_firstOn 5 ((some FieldType.int)) false 61 B_X2_firstOn_61 := fun p e s m args below meth c D ty ad A n0 φ0 Q G Y hY => (u_iload G dX2_firstOn_61 (u_istore_n G dX2_firstOn_63 rfl (hY 64)))
set_option maxRecDepth 100000 in
set_option maxHeartbeats 4000000 in
theorem b_X2_firstOn_64 (l : Launch) : s_B l rm_X2_firstOn yX2_firstOn cX2_firstOn 5 ((some FieldType.int)) false 64 B_X2_firstOn_64 := fun p e s m args below meth c D ty ad A n0 φ0 Q G Y hY => (t_iinc G dX2_firstOn_64 (by decide) (t_goto G dX2_firstOn_67 (by decide) (hY 4)))
set_option maxRecDepth 100000 in
theorem m_X2_firstOn (l : Launch) : s_Met l yX2_firstOn cX2_firstOn 5 ((some FieldType.int)) rm_X2_firstOn false C_X2_firstOn := by
  intro D ty ad av φ sz sh me Q hsh hC
  unfold C_X2_firstOn at hC
  split at hC
  · exact s_met1 (P := P_X2_firstOn) (by decide +kernel) (fun _ => ⟨rfl, rfl⟩) (fun p e s m args below meth c D ty ad A n0 φ0 Q G Y hY => s_tab_T _ (List.forall_mem_cons.mpr ⟨b_X2_firstOn_0 l p e s m args below meth c D ty ad A n0 φ0 Q G Y hY, List.forall_mem_cons.mpr ⟨b_X2_firstOn_4 l p e s m args below meth c D ty ad A n0 φ0 Q G Y hY, List.forall_mem_cons.mpr ⟨b_X2_firstOn_61 l p e s m args below meth c D ty ad A n0 φ0 Q G Y hY, List.forall_mem_cons.mpr ⟨b_X2_firstOn_64 l p e s m args below meth c D ty ad A n0 φ0 Q G Y hY, fun _ h => absurd h List.not_mem_nil⟩⟩⟩⟩)) hsh rfl rfl (Nat.le_of_ble_eq_true rfl) hC
  · exact hC.elim
def B_X2_fittingLooks_0 (Q : SQ) (nx : Nat → SK) : SK := (o_aload 0 (o_getR 2 0 (o_aload 1 (o_callV C_X7_copyFrom 7 2 (o_const (.int 0) (o_istore 4 (o_const (.int 0) (o_istore 5 (nx 14)))))))))
def B_X2_fittingLooks_14 (Q : SQ) (nx : Nat → SK) : SK := (o_iload 5 (o_const (.int 20) (o_ic (fun x y => y < x) (o_iload 4 (o_iret Q)) (o_aload 0 (o_getR 2 0 (o_getR 7 0 (o_iload 2 (o_aald 12 (o_iload 5 (o_putI 1 2 (o_aload 0 (o_getR 2 1 (o_aload 0 (o_getR 2 0 (o_callV C_X4_take 4 2 (o_aload 0 (o_aload 3 (o_callV C_X2_areDuties 2 2 (o_if (fun x => x = 0) (nx 63) (o_iload 4 (o_const (.int 1) (o_iload 5 (o_i2 (fun x y => x <<< (y &&& 31)) (o_i2 (fun x y => x ||| y) (o_istore 4 (nx 63))))))))))))))))))))))))))
def B_X2_fittingLooks_63 (Q : SQ) (nx : Nat → SK) : SK := (o_iinc 5 1 (nx 14))
def P_X2_fittingLooks (Q : SQ) (nx : Nat → SK) : Nat → SK := s_tab [(0, B_X2_fittingLooks_0 Q nx), (14, B_X2_fittingLooks_14 Q nx), (63, B_X2_fittingLooks_63 Q nx)]
def C_X2_fittingLooks : SC := fun av sh me Q => match av with
  | [.ref a0, .ref a1, .int a2, .ref a3] => s_wp P_X2_fittingLooks Q 0 [some (.ref a0), some (.ref a1), some (.int a2), some (.ref a3), none, none] [] sh me
  | _ => False
abbrev rm_X2_fittingLooks : Room := { frames := 4, cells := 0, slots := 0, locals := 94 }
theorem hd_X2_fittingLooks : (yX2_fittingLooks).cls ≠ "java/lang/invoke/MethodHandle" ∧ (yX2_fittingLooks).cls ≠ "java/lang/invoke/VarHandle" ∧ (parseMethodDescriptor (yX2_fittingLooks).desc).map (fun d => d.parameters.length) = some 3 := by decide +kernel
set_option maxRecDepth 100000 in
set_option maxHeartbeats 4000000 in
theorem b_X2_fittingLooks_0 (l : Launch) : s_B l rm_X2_fittingLooks yX2_fittingLooks cX2_fittingLooks 6 ((some FieldType.int)) false 0 B_X2_fittingLooks_0 := fun p e s m args below meth c D ty ad A n0 φ0 Q G Y hY => (u_aload_n G dX2_fittingLooks_0 rfl (t_getR G cl_2 (k := 0) (by decide) (Or.inl q1_185) rfl (Or.inl ⟨_, rfl⟩) dX2_fittingLooks_1 (u_aload_n G dX2_fittingLooks_4 rfl (t_callV G cl_7 (m_X7_copyFrom l) ⟨rfl, rfl⟩ rfl ⟨Nat.le_of_ble_eq_true rfl, Nat.le_of_ble_eq_true rfl⟩ q3_40 q1_2 (Or.inl q4_19) q3_38 q3_39 hd_X7_copyFrom dX2_fittingLooks_5 (u_iconst G dX2_fittingLooks_8 (by decide) (u_istore G dX2_fittingLooks_9 (u_iconst G dX2_fittingLooks_11 (by decide) (u_istore G dX2_fittingLooks_12 (hY 14)))))))))
set_option maxRecDepth 100000 in
set_option maxHeartbeats 4000000 in
theorem b_X2_fittingLooks_14 (l : Launch) : s_B l rm_X2_fittingLooks yX2_fittingLooks cX2_fittingLooks 6 ((some FieldType.int)) false 14 B_X2_fittingLooks_14 := fun p e s m args below meth c D ty ad A n0 φ0 Q G Y hY => (u_iload G dX2_fittingLooks_14 (u_bipush G dX2_fittingLooks_16 (by decide) (u_icmp_gt G dX2_fittingLooks_18 (by decide) (u_iload G dX2_fittingLooks_69 (t_iret G rfl dX2_fittingLooks_71)) (u_aload_n G dX2_fittingLooks_21 rfl (t_getR G cl_2 (k := 0) (by decide) (Or.inl q1_185) rfl (Or.inl ⟨_, rfl⟩) dX2_fittingLooks_22 (t_getR G cl_7 (k := 0) (by decide) (Or.inr ⟨_, q1_85⟩) rfl (Or.inr ⟨_, rfl⟩) dX2_fittingLooks_25 (u_iload_n G dX2_fittingLooks_28 rfl (t_aald G (by decide) dX2_fittingLooks_29 (u_iload G dX2_fittingLooks_30 (t_putI G cl_1 (k := 2) (by decide) (Or.inl ⟨rfl, Or.inr ⟨_, q1_50⟩⟩) rfl rfl dX2_fittingLooks_32 (u_aload_n G dX2_fittingLooks_35 rfl (t_getR G cl_2 (k := 1) (by decide) (Or.inl q1_186) rfl (Or.inl ⟨_, rfl⟩) dX2_fittingLooks_36 (u_aload_n G dX2_fittingLooks_39 rfl (t_getR G cl_2 (k := 0) (by decide) (Or.inl q1_185) rfl (Or.inl ⟨_, rfl⟩) dX2_fittingLooks_40 (t_callV G cl_4 (m_X4_take l) ⟨rfl, rfl⟩ rfl ⟨Nat.le_of_ble_eq_true rfl, Nat.le_of_ble_eq_true rfl⟩ q3_189 q1_4 (Or.inl q4_29) q3_187 q3_188 hd_X4_take dX2_fittingLooks_43 (u_aload_n G dX2_fittingLooks_46 rfl (u_aload_n G dX2_fittingLooks_47 rfl (t_callV G cl_2 (m_X2_areDuties l) ⟨rfl, rfl⟩ rfl ⟨Nat.le_of_ble_eq_true rfl, Nat.le_of_ble_eq_true rfl⟩ q4_94 q1_5 (Or.inl q4_91) q4_93 qs_26 hd_X2_areDuties dX2_fittingLooks_48 (u_if_eq G dX2_fittingLooks_51 (by decide) (hY 63) (u_iload G dX2_fittingLooks_54 (u_iconst G dX2_fittingLooks_56 (by decide) (u_iload G dX2_fittingLooks_57 (u_ishl G dX2_fittingLooks_59 (u_ior G dX2_fittingLooks_60 (u_istore G dX2_fittingLooks_61 (hY 63))))))))))))))))))))))))))
set_option maxRecDepth 100000 in
set_option maxHeartbeats 4000000 in
theorem b_X2_fittingLooks_63 (l : Launch) : s_B l rm_X2_fittingLooks yX2_fittingLooks cX2_fittingLooks 6 ((some FieldType.int)) false 63 B_X2_fittingLooks_63 := fun p e s m args below meth c D ty ad A n0 φ0 Q G Y hY => (t_iinc G dX2_fittingLooks_63 (by decide) (t_goto G dX2_fittingLooks_66 (by decide) (hY 14)))
set_option maxRecDepth 100000 in
theorem m_X2_fittingLooks (l : Launch) : s_Met l yX2_fittingLooks cX2_fittingLooks 6 ((some FieldType.int)) rm_X2_fittingLooks false C_X2_fittingLooks := by
  intro D ty ad av φ sz sh me Q hsh hC
  unfold C_X2_fittingLooks at hC
  split at hC
  · exact s_met1 (P := P_X2_fittingLooks) (by decide +kernel) (fun _ => ⟨rfl, rfl⟩) (fun p e s m args below meth c D ty ad A n0 φ0 Q G Y hY => s_tab_T _ (List.forall_mem_cons.mpr ⟨b_X2_fittingLooks_0 l p e s m args below meth c D ty ad A n0 φ0 Q G Y hY, List.forall_mem_cons.mpr ⟨b_X2_fittingLooks_14 l p e s m args below meth c D ty ad A n0 φ0 Q G Y hY, List.forall_mem_cons.mpr ⟨b_X2_fittingLooks_63 l p e s m args below meth c D ty ad A n0 φ0 Q G Y hY, fun _ h => absurd h List.not_mem_nil⟩⟩⟩)) hsh rfl rfl (Nat.le_of_ble_eq_true rfl) hC
  · exact hC.elim
def B_X7_init_0 (Q : SQ) (nx : Nat → SK) : SK := (o_aload 0 (o_obj (o_aload 0 (o_const (.int 7) (o_newa 8 56 12 7 (o_putR 7 0 (o_aload 0 (o_const (.int 1) (o_putI 7 4 (o_aload 0 (o_const (.int 5) (o_putI 7 5 (o_aload 0 (o_const (.int 1) (o_putI 7 9 (o_const (.int 0) (o_istore 1 (nx 30))))))))))))))))))
def B_X7_init_30 (Q : SQ) (nx : Nat → SK) : SK := (o_iload 1 (o_const (.int 7) (o_ic (fun x y => y ≤ x) (o_vret Q) (o_aload 0 (o_getR 7 0 (o_iload 1 (o_new 8 56 1 7 (o_dup (o_callA C_X1_init 1 8 56 0 0 (o_aast 12 (o_iinc 1 1 (nx 30))))))))))))
def P_X7_init (Q : SQ) (nx : Nat → SK) : Nat → SK := s_tab [(0, B_X7_init_0 Q nx), (30, B_X7_init_30 Q nx)]
def C_X7_init : SC := fun av sh me Q => match av with
  | [.ref a0] => s_wp P_X7_init Q 0 [some (.ref a0), none] [] sh me
  | _ => False
abbrev rm_X7_init : Room := { frames := 2, cells := 8, slots := 56, locals := 40 }
theorem hd_X7_init : (yX7_init).cls ≠ "java/lang/invoke/MethodHandle" ∧ (yX7_init).cls ≠ "java/lang/invoke/VarHandle" ∧ (parseMethodDescriptor (yX7_init).desc).map (fun d => d.parameters.length) = some 0 := by decide +kernel
theorem rf_X7_init : ∀ (av : List Value) (sh : SShp) (me : SMem) (Q : SQ), C_X7_init av sh me Q → ∃ b r, av = .ref b :: r := by
  intro av sh me Q h
  unfold C_X7_init at h
  split at h
  · exact ⟨_, _, rfl⟩
  · exact h.elim
set_option maxRecDepth 100000 in
set_option maxHeartbeats 4000000 in
theorem b_X7_init_0 (l : Launch) : s_B l rm_X7_init yX7_init cX7_init 2 ((none : Option FieldType)) true 0 B_X7_init_0 := fun p e s m args below meth c D ty ad A n0 φ0 Q G Y hY => (u_aload_n G dX7_init_0 rfl (t_obj G q1_33 q1_26 q1_27 ⟨Nat.le_of_ble_eq_true rfl, Nat.le_of_ble_eq_true rfl⟩ dX7_init_1 (u_aload_n G dX7_init_4 rfl (u_bipush G dX7_init_5 (by decide) (t_newq G (Or.inl ⟨rfl, rfl⟩) (by decide) rfl ⟨rfl, rfl⟩ q1_34 q1_35 dX7_init_7 (t_putR G cl_7 (k := 0) (by decide) (Or.inr ⟨rfl, rfl, rfl, q1_84⟩) rfl (Or.inr ⟨_, rfl⟩) dX7_init_10 (u_aload_n G dX7_init_13 rfl (u_iconst G dX7_init_14 (by decide) (t_putI G cl_7 (k := 4) (by decide) (Or.inl ⟨rfl, Or.inl q1_102⟩) rfl rfl dX7_init_15 (u_aload_n G dX7_init_18 rfl (u_iconst G dX7_init_19 (by decide) (t_putI G cl_7 (k := 5) (by decide) (Or.inl ⟨rfl, Or.inl q1_106⟩) rfl rfl dX7_init_20 (u_aload_n G dX7_init_23 rfl (u_iconst G dX7_init_24 (by decide) (t_putI G cl_7 (k := 9) (by decide) (Or.inl ⟨rfl, Or.inl q1_118⟩) rfl rfl dX7_init_25 (u_iconst G dX7_init_28 (by decide) (u_istore_n G dX7_init_29 rfl (hY 30))))))))))))))))))
set_option maxRecDepth 100000 in
set_option maxHeartbeats 4000000 in
theorem b_X7_init_30 (l : Launch) : s_B l rm_X7_init yX7_init cX7_init 2 ((none : Option FieldType)) true 30 B_X7_init_30 := fun p e s m args below meth c D ty ad A n0 φ0 Q G Y hY => (u_iload_n G dX7_init_30 rfl (u_bipush G dX7_init_31 (by decide) (u_icmp_ge G dX7_init_33 (by decide) (t_vret G rfl dX7_init_55) (u_aload_n G dX7_init_36 rfl (t_getR G cl_7 (k := 0) (by decide) (Or.inl q1_84) rfl (Or.inr ⟨_, rfl⟩) dX7_init_37 (u_iload_n G dX7_init_40 rfl (t_new G cl_1 rfl ⟨rfl, rfl⟩ q1_34 q1_36 q1_3 dX7_init_41 fty_1 (t_dup G dX7_init_44 (t_callI G (m_X1_init l) ⟨rfl, rfl⟩ rfl ⟨rfl, rfl⟩ ⟨Nat.le_of_ble_eq_true rfl, Nat.le_of_ble_eq_true rfl⟩ q1_39 q1_3 (Or.inr ⟨_, q1_37⟩) q1_38 rfl hd_X1_init dX7_init_45 rf_X1_init (t_aast G (by decide) dX7_init_48 (t_iinc G dX7_init_49 (by decide) (t_goto G dX7_init_52 (by decide) (hY 30)))))))))))))
set_option maxRecDepth 100000 in
theorem m_X7_init (l : Launch) : s_Met l yX7_init cX7_init 2 ((none : Option FieldType)) rm_X7_init true C_X7_init := by
  intro D ty ad av φ sz sh me Q hsh hC
  unfold C_X7_init at hC
  split at hC
  · exact s_met1 (P := P_X7_init) (by decide +kernel) (fun h => by cases h) (fun p e s m args below meth c D ty ad A n0 φ0 Q G Y hY => s_tab_T _ (List.forall_mem_cons.mpr ⟨b_X7_init_0 l p e s m args below meth c D ty ad A n0 φ0 Q G Y hY, List.forall_mem_cons.mpr ⟨b_X7_init_30 l p e s m args below meth c D ty ad A n0 φ0 Q G Y hY, fun _ h => absurd h List.not_mem_nil⟩⟩)) hsh rfl rfl (Nat.le_of_ble_eq_true rfl) hC
  · exact hC.elim
def B_X4_init_0 (Q : SQ) (nx : Nat → SK) : SK := (o_aload 0 (o_obj (o_aload 0 (o_const (.int 7) (o_newa 5 35 11 7 (o_putR 4 0 (o_aload 0 (o_const (.int 7) (o_newa 5 35 10 7 (o_putR 4 1 (o_aload 0 (o_const (.int 7) (o_newa 5 35 10 7 (o_putR 4 2 (o_aload 0 (o_const (.int 7) (o_newa 5 35 10 7 (o_putR 4 3 (o_aload 0 (o_const (.int 7) (o_newa 5 35 10 7 (o_putR 4 4 (o_vret Q)))))))))))))))))))))))
def P_X4_init (Q : SQ) (nx : Nat → SK) : Nat → SK := s_tab [(0, B_X4_init_0 Q nx)]
def C_X4_init : SC := fun av sh me Q => match av with
  | [.ref a0] => s_wp P_X4_init Q 0 [some (.ref a0)] [] sh me
  | _ => False
abbrev rm_X4_init : Room := { frames := 1, cells := 5, slots := 35, locals := 20 }
theorem hd_X4_init : (yX4_init).cls ≠ "java/lang/invoke/MethodHandle" ∧ (yX4_init).cls ≠ "java/lang/invoke/VarHandle" ∧ (parseMethodDescriptor (yX4_init).desc).map (fun d => d.parameters.length) = some 0 := by decide +kernel
theorem rf_X4_init : ∀ (av : List Value) (sh : SShp) (me : SMem) (Q : SQ), C_X4_init av sh me Q → ∃ b r, av = .ref b :: r := by
  intro av sh me Q h
  unfold C_X4_init at h
  split at h
  · exact ⟨_, _, rfl⟩
  · exact h.elim
set_option maxRecDepth 100000 in
set_option maxHeartbeats 4000000 in
theorem b_X4_init_0 (l : Launch) : s_B l rm_X4_init yX4_init cX4_init 1 ((none : Option FieldType)) true 0 B_X4_init_0 := fun p e s m args below meth c D ty ad A n0 φ0 Q G Y hY => (u_aload_n G dX4_init_0 rfl (t_obj G q1_146 q1_26 q1_27 ⟨Nat.le_of_ble_eq_true rfl, Nat.le_of_ble_eq_true rfl⟩ dX4_init_1 (u_aload_n G dX4_init_4 rfl (u_bipush G dX4_init_5 (by decide) (t_newa (atype := .long) G (Or.inr ⟨rfl, rfl⟩) (by decide) rfl ⟨rfl, rfl⟩ q1_173 dX4_init_7 (t_putR G cl_4 (k := 0) (by decide) (Or.inr ⟨rfl, rfl, rfl, q1_147⟩) rfl (Or.inr ⟨_, rfl⟩) dX4_init_9 (u_aload_n G dX4_init_12 rfl (u_bipush G dX4_init_13 (by decide) (t_newa (atype := .int) G (Or.inl ⟨rfl, rfl⟩) (by decide) rfl ⟨rfl, rfl⟩ q1_174 dX4_init_15 (t_putR G cl_4 (k := 1) (by decide) (Or.inr ⟨rfl, rfl, rfl, q1_148⟩) rfl (Or.inr ⟨_, rfl⟩) dX4_init_17 (u_aload_n G dX4_init_20 rfl (u_bipush G dX4_init_21 (by decide) (t_newa (atype := .int) G (Or.inl ⟨rfl, rfl⟩) (by decide) rfl ⟨rfl, rfl⟩ q1_174 dX4_init_23 (t_putR G cl_4 (k := 2) (by decide) (Or.inr ⟨rfl, rfl, rfl, q1_149⟩) rfl (Or.inr ⟨_, rfl⟩) dX4_init_25 (u_aload_n G dX4_init_28 rfl (u_bipush G dX4_init_29 (by decide) (t_newa (atype := .int) G (Or.inl ⟨rfl, rfl⟩) (by decide) rfl ⟨rfl, rfl⟩ q1_174 dX4_init_31 (t_putR G cl_4 (k := 3) (by decide) (Or.inr ⟨rfl, rfl, rfl, q1_151⟩) rfl (Or.inr ⟨_, rfl⟩) dX4_init_33 (u_aload_n G dX4_init_36 rfl (u_bipush G dX4_init_37 (by decide) (t_newa (atype := .int) G (Or.inl ⟨rfl, rfl⟩) (by decide) rfl ⟨rfl, rfl⟩ q1_174 dX4_init_39 (t_putR G cl_4 (k := 4) (by decide) (Or.inr ⟨rfl, rfl, rfl, q1_155⟩) rfl (Or.inr ⟨_, rfl⟩) dX4_init_41 (t_vret G rfl dX4_init_44)))))))))))))))))))))))
set_option maxRecDepth 100000 in
theorem m_X4_init (l : Launch) : s_Met l yX4_init cX4_init 1 ((none : Option FieldType)) rm_X4_init true C_X4_init := by
  intro D ty ad av φ sz sh me Q hsh hC
  unfold C_X4_init at hC
  split at hC
  · exact s_met1 (P := P_X4_init) (by decide +kernel) (fun h => by cases h) (fun p e s m args below meth c D ty ad A n0 φ0 Q G Y hY => s_tab_T _ (List.forall_mem_cons.mpr ⟨b_X4_init_0 l p e s m args below meth c D ty ad A n0 φ0 Q G Y hY, fun _ h => absurd h List.not_mem_nil⟩)) hsh rfl rfl (Nat.le_of_ble_eq_true rfl) hC
  · exact hC.elim
def B_X2_init_0 (Q : SQ) (nx : Nat → SK) : SK := (o_aload 0 (o_obj (o_aload 0 (o_new 17 179 7 10 (o_dup (o_callA C_X7_init 1 17 179 8 56 (o_putR 2 0 (o_aload 0 (o_new 17 179 4 6 (o_dup (o_callA C_X4_init 1 17 179 5 35 (o_putR 2 1 (o_aload 0 (o_const (.int 36) (o_newa 17 179 10 36 (o_putR 2 2 (o_aload 0 (o_const (.int 36) (o_newa 17 179 10 36 (o_putR 2 3 (o_vret Q)))))))))))))))))))))
def P_X2_init (Q : SQ) (nx : Nat → SK) : Nat → SK := s_tab [(0, B_X2_init_0 Q nx)]
def C_X2_init : SC := fun av sh me Q => match av with
  | [.ref a0] => s_wp P_X2_init Q 0 [some (.ref a0)] [] sh me
  | _ => False
abbrev rm_X2_init : Room := { frames := 3, cells := 17, slots := 179, locals := 61 }
theorem hd_X2_init : (yX2_init).cls ≠ "java/lang/invoke/MethodHandle" ∧ (yX2_init).cls ≠ "java/lang/invoke/VarHandle" ∧ (parseMethodDescriptor (yX2_init).desc).map (fun d => d.parameters.length) = some 0 := by decide +kernel
theorem rf_X2_init : ∀ (av : List Value) (sh : SShp) (me : SMem) (Q : SQ), C_X2_init av sh me Q → ∃ b r, av = .ref b :: r := by
  intro av sh me Q h
  unfold C_X2_init at h
  split at h
  · exact ⟨_, _, rfl⟩
  · exact h.elim
set_option maxRecDepth 100000 in
set_option maxHeartbeats 4000000 in
theorem b_X2_init_0 (l : Launch) : s_B l rm_X2_init yX2_init cX2_init 1 ((none : Option FieldType)) true 0 B_X2_init_0 := fun p e s m args below meth c D ty ad A n0 φ0 Q G Y hY => (u_aload_n G dX2_init_0 rfl (t_obj G q1_180 q1_26 q1_27 ⟨Nat.le_of_ble_eq_true rfl, Nat.le_of_ble_eq_true rfl⟩ dX2_init_1 (u_aload_n G dX2_init_4 rfl (t_new G cl_7 rfl ⟨rfl, rfl⟩ q1_181 q1_29 q1_2 dX2_init_5 fty_7 (t_dup G dX2_init_8 (t_callI G (m_X7_init l) ⟨rfl, rfl⟩ rfl ⟨rfl, rfl⟩ ⟨Nat.le_of_ble_eq_true rfl, Nat.le_of_ble_eq_true rfl⟩ q1_32 q1_2 (Or.inl q1_182) q1_31 rfl hd_X7_init dX2_init_9 rf_X7_init (t_putR G cl_2 (k := 0) (by decide) (Or.inr ⟨rfl, rfl, rfl, q1_185⟩) rfl (Or.inl ⟨_, rfl⟩) dX2_init_12 (u_aload_n G dX2_init_15 rfl (t_new G cl_4 rfl ⟨rfl, rfl⟩ q1_183 q1_142 q1_4 dX2_init_16 fty_4 (t_dup G dX2_init_19 (t_callI G (m_X4_init l) ⟨rfl, rfl⟩ rfl ⟨rfl, rfl⟩ ⟨Nat.le_of_ble_eq_true rfl, Nat.le_of_ble_eq_true rfl⟩ q1_145 q1_4 (Or.inr ⟨_, q1_184⟩) q1_144 rfl hd_X4_init dX2_init_20 rf_X4_init (t_putR G cl_2 (k := 1) (by decide) (Or.inr ⟨rfl, rfl, rfl, q1_186⟩) rfl (Or.inl ⟨_, rfl⟩) dX2_init_23 (u_aload_n G dX2_init_26 rfl (u_bipush G dX2_init_27 (by decide) (t_newa (atype := .int) G (Or.inl ⟨rfl, rfl⟩) (by decide) rfl ⟨rfl, rfl⟩ q1_174 dX2_init_29 (t_putR G cl_2 (k := 2) (by decide) (Or.inr ⟨rfl, rfl, rfl, q1_187⟩) rfl (Or.inr ⟨_, rfl⟩) dX2_init_31 (u_aload_n G dX2_init_34 rfl (u_bipush G dX2_init_35 (by decide) (t_newa (atype := .int) G (Or.inl ⟨rfl, rfl⟩) (by decide) rfl ⟨rfl, rfl⟩ q1_174 dX2_init_37 (t_putR G cl_2 (k := 3) (by decide) (Or.inr ⟨rfl, rfl, rfl, q1_188⟩) rfl (Or.inr ⟨_, rfl⟩) dX2_init_39 (t_vret G rfl dX2_init_42)))))))))))))))))))))
set_option maxRecDepth 100000 in
theorem m_X2_init (l : Launch) : s_Met l yX2_init cX2_init 1 ((none : Option FieldType)) rm_X2_init true C_X2_init := by
  intro D ty ad av φ sz sh me Q hsh hC
  unfold C_X2_init at hC
  split at hC
  · exact s_met1 (P := P_X2_init) (by decide +kernel) (fun h => by cases h) (fun p e s m args below meth c D ty ad A n0 φ0 Q G Y hY => s_tab_T _ (List.forall_mem_cons.mpr ⟨b_X2_init_0 l p e s m args below meth c D ty ad A n0 φ0 Q G Y hY, fun _ h => absurd h List.not_mem_nil⟩)) hsh rfl rfl (Nat.le_of_ble_eq_true rfl) hC
  · exact hC.elim
def B_X2_shortenAll_0 (Q : SQ) (nx : Nat → SK) : SK := (o_const (.int 0) (o_istore 1 (o_const (.int 0) (o_istore 2 (nx 4)))))
def B_X2_shortenAll_4 (Q : SQ) (nx : Nat → SK) : SK := (o_iload 2 (o_const (.int 36) (o_ic (fun x y => y ≤ x) (o_iload 1 (o_zret Q)) (o_const (.int 0) (o_istore 3 (nx 12))))))
def B_X2_shortenAll_12 (Q : SQ) (nx : Nat → SK) : SK := (o_iload 3 (o_const (.int 4) (o_ic (fun x y => y ≤ x) (o_iinc 2 1 (nx 4)) (o_aload 0 (o_getR 2 0 (o_iload 2 (o_iload 3 (o_callV C_X7_stepFrom 7 3 (o_istore 4 (o_iload 4 (o_const (.int (-1)) (o_ic (fun x y => x = y) (nx 81) (o_aload 0 (o_getR 2 3 (o_iload 4 (o_iald (o_aload 0 (o_getR 2 2 (o_iload 4 (o_iald (o_i2 (fun x y => x + y) (o_aload 0 (o_getR 2 3 (o_iload 2 (o_iald (o_ic (fun x y => y ≤ x) (nx 81) (o_aload 0 (o_getR 2 3 (o_iload 2 (o_aload 0 (o_getR 2 3 (o_iload 4 (o_iald (o_aload 0 (o_getR 2 2 (o_iload 4 (o_iald (o_i2 (fun x y => x + y) (o_iast (o_const (.int 1) (o_istore 1 (nx 81))))))))))))))))))))))))))))))))))))))))))
def B_X2_shortenAll_81 (Q : SQ) (nx : Nat → SK) : SK := (o_iinc 3 1 (nx 12))
def P_X2_shortenAll (Q : SQ) (nx : Nat → SK) : Nat → SK := s_tab [(0, B_X2_shortenAll_0 Q nx), (4, B_X2_shortenAll_4 Q nx), (12, B_X2_shortenAll_12 Q nx), (81, B_X2_shortenAll_81 Q nx)]
def C_X2_shortenAll : SC := fun av sh me Q => match av with
  | [.ref a0] => s_wp P_X2_shortenAll Q 0 [some (.ref a0), none, none, none, none] [] sh me
  | _ => False
abbrev rm_X2_shortenAll : Room := { frames := 3, cells := 0, slots := 0, locals := 65 }
theorem hd_X2_shortenAll : (yX2_shortenAll).cls ≠ "java/lang/invoke/MethodHandle" ∧ (yX2_shortenAll).cls ≠ "java/lang/invoke/VarHandle" ∧ (parseMethodDescriptor (yX2_shortenAll).desc).map (fun d => d.parameters.length) = some 0 := by decide +kernel
set_option maxRecDepth 100000 in
set_option maxHeartbeats 4000000 in
theorem b_X2_shortenAll_0 (l : Launch) : s_B l rm_X2_shortenAll yX2_shortenAll cX2_shortenAll 5 ((some FieldType.boolean)) false 0 B_X2_shortenAll_0 := fun p e s m args below meth c D ty ad A n0 φ0 Q G Y hY => (u_iconst G dX2_shortenAll_0 (by decide) (u_istore_n G dX2_shortenAll_1 rfl (u_iconst G dX2_shortenAll_2 (by decide) (u_istore_n G dX2_shortenAll_3 rfl (hY 4)))))
set_option maxRecDepth 100000 in
set_option maxHeartbeats 4000000 in
theorem b_X2_shortenAll_4 (l : Launch) : s_B l rm_X2_shortenAll yX2_shortenAll cX2_shortenAll 5 ((some FieldType.boolean)) false 4 B_X2_shortenAll_4 := fun p e s m args below meth c D ty ad A n0 φ0 Q G Y hY => (u_iload_n G dX2_shortenAll_4 rfl (u_bipush G dX2_shortenAll_5 (by decide) (u_icmp_ge G dX2_shortenAll_7 (by decide) (u_iload_n G dX2_shortenAll_93 rfl (t_zret G rfl dX2_shortenAll_94)) (u_iconst G dX2_shortenAll_10 (by decide) (u_istore_n G dX2_shortenAll_11 rfl (hY 12))))))
set_option maxRecDepth 100000 in
set_option maxHeartbeats 4000000 in
theorem b_X2_shortenAll_12 (l : Launch) : s_B l rm_X2_shortenAll yX2_shortenAll cX2_shortenAll 5 ((some FieldType.boolean)) false 12 B_X2_shortenAll_12 := fun p e s m args below meth c D ty ad A n0 φ0 Q G Y hY => (u_iload_n G dX2_shortenAll_12 rfl (u_iconst G dX2_shortenAll_13 (by decide) (u_icmp_ge G dX2_shortenAll_14 (by decide) (t_iinc G dX2_shortenAll_87 (by decide) (t_goto G dX2_shortenAll_90 (by decide) (hY 4))) (u_aload_n G dX2_shortenAll_17 rfl (t_getR G cl_2 (k := 0) (by decide) (Or.inl q1_185) rfl (Or.inl ⟨_, rfl⟩) dX2_shortenAll_18 (u_iload_n G dX2_shortenAll_21 rfl (u_iload_n G dX2_shortenAll_22 rfl (t_callV G cl_7 (m_X7_stepFrom l) ⟨rfl, rfl⟩ rfl ⟨Nat.le_of_ble_eq_true rfl, Nat.le_of_ble_eq_true rfl⟩ q4_45 q1_2 (Or.inl q4_42) q4_43 q4_44 hd_X7_stepFrom dX2_shortenAll_23 (u_istore G dX2_shortenAll_26 (u_iload G dX2_shortenAll_28 (u_iconst G dX2_shortenAll_30 (by decide) (u_icmp_eq G dX2_shortenAll_31 (by decide) (hY 81) (u_aload_n G dX2_shortenAll_34 rfl (t_getR G cl_2 (k := 3) (by decide) (Or.inl q1_188) rfl (Or.inr ⟨_, rfl⟩) dX2_shortenAll_35 (u_iload G dX2_shortenAll_38 (t_iald G dX2_shortenAll_40 (u_aload_n G dX2_shortenAll_41 rfl (t_getR G cl_2 (k := 2) (by decide) (Or.inl q1_187) rfl (Or.inr ⟨_, rfl⟩) dX2_shortenAll_42 (u_iload G dX2_shortenAll_45 (t_iald G dX2_shortenAll_47 (u_iadd G dX2_shortenAll_48 (u_aload_n G dX2_shortenAll_49 rfl (t_getR G cl_2 (k := 3) (by decide) (Or.inl q1_188) rfl (Or.inr ⟨_, rfl⟩) dX2_shortenAll_50 (u_iload_n G dX2_shortenAll_53 rfl (t_iald G dX2_shortenAll_54 (u_icmp_ge G dX2_shortenAll_55 (by decide) (hY 81) (u_aload_n G dX2_shortenAll_58 rfl (t_getR G cl_2 (k := 3) (by decide) (Or.inl q1_188) rfl (Or.inr ⟨_, rfl⟩) dX2_shortenAll_59 (u_iload_n G dX2_shortenAll_62 rfl (u_aload_n G dX2_shortenAll_63 rfl (t_getR G cl_2 (k := 3) (by decide) (Or.inl q1_188) rfl (Or.inr ⟨_, rfl⟩) dX2_shortenAll_64 (u_iload G dX2_shortenAll_67 (t_iald G dX2_shortenAll_69 (u_aload_n G dX2_shortenAll_70 rfl (t_getR G cl_2 (k := 2) (by decide) (Or.inl q1_187) rfl (Or.inr ⟨_, rfl⟩) dX2_shortenAll_71 (u_iload G dX2_shortenAll_74 (t_iald G dX2_shortenAll_76 (u_iadd G dX2_shortenAll_77 (t_iast G dX2_shortenAll_78 (u_iconst G dX2_shortenAll_79 (by decide) (u_istore_n G dX2_shortenAll_80 rfl (hY 81))))))))))))))))))))))))))))))))))))))))))
set_option maxRecDepth 100000 in
set_option maxHeartbeats 4000000 in
theorem b_X2_shortenAll_81 (l : Launch) : s_B l rm_X2_shortenAll yX2_shortenAll cX2_shortenAll 5 ((some FieldType.boolean)) false 81 B_X2_shortenAll_81 := fun p e s m args below meth c D ty ad A n0 φ0 Q G Y hY => (t_iinc G dX2_shortenAll_81 (by decide) (t_goto G dX2_shortenAll_84 (by decide) (hY 12)))
set_option maxRecDepth 100000 in
theorem m_X2_shortenAll (l : Launch) : s_Met l yX2_shortenAll cX2_shortenAll 5 ((some FieldType.boolean)) rm_X2_shortenAll false C_X2_shortenAll := by
  intro D ty ad av φ sz sh me Q hsh hC
  unfold C_X2_shortenAll at hC
  split at hC
  · exact s_met1 (P := P_X2_shortenAll) (by decide +kernel) (fun _ => ⟨rfl, rfl⟩) (fun p e s m args below meth c D ty ad A n0 φ0 Q G Y hY => s_tab_T _ (List.forall_mem_cons.mpr ⟨b_X2_shortenAll_0 l p e s m args below meth c D ty ad A n0 φ0 Q G Y hY, List.forall_mem_cons.mpr ⟨b_X2_shortenAll_4 l p e s m args below meth c D ty ad A n0 φ0 Q G Y hY, List.forall_mem_cons.mpr ⟨b_X2_shortenAll_12 l p e s m args below meth c D ty ad A n0 φ0 Q G Y hY, List.forall_mem_cons.mpr ⟨b_X2_shortenAll_81 l p e s m args below meth c D ty ad A n0 φ0 Q G Y hY, fun _ h => absurd h List.not_mem_nil⟩⟩⟩⟩)) hsh rfl rfl (Nat.le_of_ble_eq_true rfl) hC
  · exact hC.elim
