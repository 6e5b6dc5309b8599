def B_X8_show_0 (Q : SQ) (nx : Nat → SK) : SK := (o_iload 1 (o_call C_X8_isShelf 1 (o_if (fun x => x = 0) (nx 20) (o_iload 2 (o_const (.int (-1)) (o_ic (fun x y => x = y) (nx 26) (o_aload 0 (o_iload 2 (o_callV C_X8_isPerson 8 2 (o_if (fun x => ¬ x = 0) (nx 26) (nx 20)))))))))))
def B_X8_show_20 (Q : SQ) (nx : Nat → SK) : SK := (o_aload 0 (o_const (.int (-1)) (o_callV C_X8_refuse 8 2 (o_iret Q))))
def B_X8_show_26 (Q : SQ) (nx : Nat → SK) : SK := (o_iload 2 (o_const (.int (-1)) (o_ic (fun x y => ¬ x = y) (o_aload 0 (o_getR 8 9 (o_iload 1 (o_aald 13 (o_iload 2 (o_callV C_X5_holdPerson 5 2 (o_const (.int 1) (o_iret Q)))))))) (o_aload 0 (o_getR 8 9 (o_iload 1 (o_aald 13 (o_callV C_X5_holdNothing 5 1 (o_const (.int 0) (o_iret Q))))))))))
def P_X8_show (Q : SQ) (nx : Nat → SK) : Nat → SK := s_tab [(0, B_X8_show_0 Q nx), (20, B_X8_show_20 Q nx), (26, B_X8_show_26 Q nx)]
def C_X8_show : SC := fun av sh me Q => match av with
  | [.ref a0, .int a1, .int a2] => s_wp P_X8_show Q 0 [some (.ref a0), some (.int a1), some (.int a2)] [] sh me
  | _ => False
abbrev rm_X8_show : Room := { frames := 2, cells := 0, slots := 0, locals := 41 }
theorem hd_X8_show : (yX8_show).cls ≠ "java/lang/invoke/MethodHandle" ∧ (yX8_show).cls ≠ "java/lang/invoke/VarHandle" ∧ (parseMethodDescriptor (yX8_show).desc).map (fun d => d.parameters.length) = some 2 := by decide +kernel
set_option maxRecDepth 100000 in
set_option maxHeartbeats 4000000 in
theorem b_X8_show_0 (l : Launch) : s_B l rm_X8_show yX8_show cX8_show 3 ((some FieldType.int)) false 0 B_X8_show_0 := fun p e s m args below meth c D ty ad A n0 φ0 Q G Y hY => (u_iload_n G dX8_show_0 rfl (t_callS G (m_X8_isShelf l) ⟨rfl, rfl⟩ rfl ⟨Nat.le_of_ble_eq_true rfl, Nat.le_of_ble_eq_true rfl⟩ q2_82 q1_1 (Or.inl q2_80) q2_81 hd_X8_isShelf dX8_show_1 (u_if_eq G dX8_show_4 (by decide) (hY 20) (u_iload_n G dX8_show_7 rfl (u_iconst G dX8_show_8 (by decide) (u_icmp_eq G dX8_show_9 (by decide) (hY 26) (u_aload_n G dX8_show_12 rfl (u_iload_n G dX8_show_13 rfl (t_callV G cl_8 (m_X8_isPerson l) ⟨rfl, rfl⟩ rfl ⟨Nat.le_of_ble_eq_true rfl, Nat.le_of_ble_eq_true rfl⟩ q2_147 q1_1 (Or.inl q2_144) q2_146 qs_3 hd_X8_isPerson dX8_show_14 (u_if_ne G dX8_show_17 (by decide) (hY 26) (hY 20)))))))))))
set_option maxRecDepth 100000 in
set_option maxHeartbeats 4000000 in
theorem b_X8_show_20 (l : Launch) : s_B l rm_X8_show yX8_show cX8_show 3 ((some FieldType.int)) false 20 B_X8_show_20 := fun p e s m args below meth c D ty ad A n0 φ0 Q G Y hY => (u_aload_n G dX8_show_20 rfl (u_iconst G dX8_show_21 (by decide) (t_callV G cl_8 (m_X8_refuse l) ⟨rfl, rfl⟩ rfl ⟨Nat.le_of_ble_eq_true rfl, Nat.le_of_ble_eq_true rfl⟩ q2_89 q1_1 (Or.inl q2_86) q2_88 qs_0 hd_X8_refuse dX8_show_22 (t_iret G rfl dX8_show_25))))
set_option maxRecDepth 100000 in
set_option maxHeartbeats 4000000 in
theorem b_X8_show_26 (l : Launch) : s_B l rm_X8_show yX8_show cX8_show 3 ((some FieldType.int)) false 26 B_X8_show_26 := fun p e s m args below meth c D ty ad A n0 φ0 Q G Y hY => (u_iload_n G dX8_show_26 rfl (u_iconst G dX8_show_27 (by decide) (u_icmp_ne G dX8_show_28 (by decide) (u_aload_n G dX8_show_42 rfl (t_getR G cl_8 (k := 9) (by decide) (Or.inl q2_51) rfl (Or.inr ⟨_, rfl⟩) dX8_show_43 (u_iload_n G dX8_show_46 rfl (t_aald G (by decide) dX8_show_47 (u_iload_n G dX8_show_48 rfl (t_callV G cl_5 (m_X5_holdPerson l) ⟨rfl, rfl⟩ rfl ⟨Nat.le_of_ble_eq_true rfl, Nat.le_of_ble_eq_true rfl⟩ q2_155 q1_9 (Or.inl q2_152) q2_153 q2_154 hd_X5_holdPerson dX8_show_49 (u_iconst G dX8_show_52 (by decide) (t_iret G rfl dX8_show_53)))))))) (u_aload_n G dX8_show_31 rfl (t_getR G cl_8 (k := 9) (by decide) (Or.inl q2_51) rfl (Or.inr ⟨_, rfl⟩) dX8_show_32 (u_iload_n G dX8_show_35 rfl (t_aald G (by decide) dX8_show_36 (t_callV G cl_5 (m_X5_holdNothing l) ⟨rfl, rfl⟩ rfl ⟨Nat.le_of_ble_eq_true rfl, Nat.le_of_ble_eq_true rfl⟩ q2_151 q1_9 (Or.inl q2_148) q2_149 q2_150 hd_X5_holdNothing dX8_show_37 (u_iconst G dX8_show_40 (by decide) (t_iret G rfl dX8_show_41))))))))))
set_option maxRecDepth 100000 in
theorem m_X8_show (l : Launch) : s_Met l yX8_show cX8_show 3 ((some FieldType.int)) rm_X8_show false C_X8_show := by
  intro D ty ad av φ sz sh me Q hsh hC
  unfold C_X8_show at hC
  split at hC
  · exact s_met1 (P := P_X8_show) (by decide +kernel) (fun _ => ⟨rfl, rfl⟩) (fun p e s m args below meth c D ty ad A n0 φ0 Q G Y hY => s_tab_T _ (List.forall_mem_cons.mpr ⟨b_X8_show_0 l p e s m args below meth c D ty ad A n0 φ0 Q G Y hY, List.forall_mem_cons.mpr ⟨b_X8_show_20 l p e s m args below meth c D ty ad A n0 φ0 Q G Y hY, List.forall_mem_cons.mpr ⟨b_X8_show_26 l p e s m args below meth c D ty ad A n0 φ0 Q G Y hY, fun _ h => absurd h List.not_mem_nil⟩⟩⟩)) hsh rfl rfl (Nat.le_of_ble_eq_true rfl) hC
  · exact hC.elim
def B_X8_squareOf_0 (Q : SQ) (nx : Nat → SK) : SK := (o_iload 1 (o_call C_X8_isSquare 1 (o_if (fun x => x = 0) (nx 15) (o_iload 2 (o_const (.int 2) (o_call C_X8_within 2 (o_if (fun x => ¬ x = 0) (o_iload 2 (o_sw [(0, (o_aload 0 (o_getR 8 0 (o_iload 1 (o_callV C_X7_isWall 7 2 (o_call C_X8_bit 1 (o_iret Q))))))), (1, (o_aload 0 (o_getR 8 0 (o_iload 1 (o_callV C_X7_hasBalcony 7 2 (o_call C_X8_bit 1 (o_iret Q)))))))] (o_aload 0 (o_getR 8 0 (o_iload 1 (o_callV C_X7_peopleAt 7 2 (o_iret Q))))))) (nx 15))))))))
def B_X8_squareOf_15 (Q : SQ) (nx : Nat → SK) : SK := (o_aload 0 (o_const (.int (-5)) (o_callV C_X8_refuse 8 2 (o_iret Q))))
def P_X8_squareOf (Q : SQ) (nx : Nat → SK) : Nat → SK := s_tab [(0, B_X8_squareOf_0 Q nx), (15, B_X8_squareOf_15 Q nx)]
def C_X8_squareOf : SC := fun av sh me Q => match av with
  | [.ref a0, .int a1, .int a2] => s_wp P_X8_squareOf Q 0 [some (.ref a0), some (.int a1), some (.int a2)] [] sh me
  | _ => False
abbrev rm_X8_squareOf : Room := { frames := 2, cells := 0, slots := 0, locals := 43 }
theorem hd_X8_squareOf : (yX8_squareOf).cls ≠ "java/lang/invoke/MethodHandle" ∧ (yX8_squareOf).cls ≠ "java/lang/invoke/VarHandle" ∧ (parseMethodDescriptor (yX8_squareOf).desc).map (fun d => d.parameters.length) = some 2 := by decide +kernel
set_option maxRecDepth 100000 in
set_option maxHeartbeats 4000000 in
theorem b_X8_squareOf_0 (l : Launch) : s_B l rm_X8_squareOf yX8_squareOf cX8_squareOf 3 ((some FieldType.int)) false 0 B_X8_squareOf_0 := fun p e s m args below meth c D ty ad A n0 φ0 Q G Y hY => (u_iload_n G dX8_squareOf_0 rfl (t_callS G (m_X8_isSquare l) ⟨rfl, rfl⟩ rfl ⟨Nat.le_of_ble_eq_true rfl, Nat.le_of_ble_eq_true rfl⟩ q2_204 q1_1 (Or.inl q2_225) q2_203 hd_X8_isSquare dX8_squareOf_1 (u_if_eq G dX8_squareOf_4 (by decide) (hY 15) (u_iload_n G dX8_squareOf_7 rfl (u_iconst G dX8_squareOf_8 (by decide) (t_callS G (m_X8_within l) ⟨rfl, rfl⟩ rfl ⟨Nat.le_of_ble_eq_true rfl, Nat.le_of_ble_eq_true rfl⟩ q2_85 q1_1 (Or.inl q2_83) q2_84 hd_X8_within dX8_squareOf_9 (u_if_ne G dX8_squareOf_12 (by decide) (u_iload_n G dX8_squareOf_22 rfl (u_lsw G [(0, 48), (1, 60)] dX8_squareOf_23 (by decide) (by decide) rfl ⟨(u_aload_n G dX8_squareOf_48 rfl (t_getR G cl_8 (k := 0) (by decide) (Or.inl q2_42) rfl (Or.inl ⟨_, rfl⟩) dX8_squareOf_49 (u_iload_n G dX8_squareOf_52 rfl (t_callV G cl_7 (m_X7_isWall l) ⟨rfl, rfl⟩ rfl ⟨Nat.le_of_ble_eq_true rfl, Nat.le_of_ble_eq_true rfl⟩ q2_208 q1_2 (Or.inl q3_8) q2_206 q2_207 hd_X7_isWall dX8_squareOf_53 (t_callS G (m_X8_bit l) ⟨rfl, rfl⟩ rfl ⟨Nat.le_of_ble_eq_true rfl, Nat.le_of_ble_eq_true rfl⟩ q3_3 q1_1 (Or.inl q3_1) q3_2 hd_X8_bit dX8_squareOf_56 (t_iret G rfl dX8_squareOf_59)))))), ⟨(u_aload_n G dX8_squareOf_60 rfl (t_getR G cl_8 (k := 0) (by decide) (Or.inl q2_42) rfl (Or.inl ⟨_, rfl⟩) dX8_squareOf_61 (u_iload_n G dX8_squareOf_64 rfl (t_callV G cl_7 (m_X7_hasBalcony l) ⟨rfl, rfl⟩ rfl ⟨Nat.le_of_ble_eq_true rfl, Nat.le_of_ble_eq_true rfl⟩ q2_229 q1_2 (Or.inl q2_226) q2_227 q2_228 hd_X7_hasBalcony dX8_squareOf_65 (t_callS G (m_X8_bit l) ⟨rfl, rfl⟩ rfl ⟨Nat.le_of_ble_eq_true rfl, Nat.le_of_ble_eq_true rfl⟩ q3_3 q1_1 (Or.inl q3_1) q3_2 hd_X8_bit dX8_squareOf_68 (t_iret G rfl dX8_squareOf_71)))))), trivial⟩⟩ (u_aload_n G dX8_squareOf_72 rfl (t_getR G cl_8 (k := 0) (by decide) (Or.inl q2_42) rfl (Or.inl ⟨_, rfl⟩) dX8_squareOf_73 (u_iload_n G dX8_squareOf_76 rfl (t_callV G cl_7 (m_X7_peopleAt l) ⟨rfl, rfl⟩ rfl ⟨Nat.le_of_ble_eq_true rfl, Nat.le_of_ble_eq_true rfl⟩ q3_7 q1_2 (Or.inl q3_4) q3_5 q3_6 hd_X7_peopleAt dX8_squareOf_77 (t_iret G rfl dX8_squareOf_80))))))) (hY 15))))))))
set_option maxRecDepth 100000 in
set_option maxHeartbeats 4000000 in
theorem b_X8_squareOf_15 (l : Launch) : s_B l rm_X8_squareOf yX8_squareOf cX8_squareOf 3 ((some FieldType.int)) false 15 B_X8_squareOf_15 := fun p e s m args below meth c D ty ad A n0 φ0 Q G Y hY => (u_aload_n G dX8_squareOf_15 rfl (u_bipush G dX8_squareOf_16 (by decide) (t_callV G cl_8 (m_X8_refuse l) ⟨rfl, rfl⟩ rfl ⟨Nat.le_of_ble_eq_true rfl, Nat.le_of_ble_eq_true rfl⟩ q2_89 q1_1 (Or.inl q2_86) q2_88 qs_0 hd_X8_refuse dX8_squareOf_18 (t_iret G rfl dX8_squareOf_21))))
set_option maxRecDepth 100000 in
theorem m_X8_squareOf (l : Launch) : s_Met l yX8_squareOf cX8_squareOf 3 ((some FieldType.int)) rm_X8_squareOf false C_X8_squareOf := by
  intro D ty ad av φ sz sh me Q hsh hC
  unfold C_X8_squareOf at hC
  split at hC
  · exact s_met1 (P := P_X8_squareOf) (by decide +kernel) (fun _ => ⟨rfl, rfl⟩) (fun p e s m args below meth c D ty ad A n0 φ0 Q G Y hY => s_tab_T _ (List.forall_mem_cons.mpr ⟨b_X8_squareOf_0 l p e s m args below meth c D ty ad A n0 φ0 Q G Y hY, List.forall_mem_cons.mpr ⟨b_X8_squareOf_15 l p e s m args below meth c D ty ad A n0 φ0 Q G Y hY, fun _ h => absurd h List.not_mem_nil⟩⟩)) hsh rfl rfl (Nat.le_of_ble_eq_true rfl) hC
  · exact hC.elim
def B_X8_stand_0 (Q : SQ) (nx : Nat → SK) : SK := (o_aload 0 (o_iload 1 (o_callV C_X8_isPerson 8 2 (o_if (fun x => ¬ x = 0) (o_iload 2 (o_const (.int 1) (o_call C_X8_within 2 (o_if (fun x => ¬ x = 0) (o_aload 0 (o_getR 8 5 (o_aload 0 (o_getR 8 0 (o_iload 1 (o_iload 2 (o_callV C_X2_bestStand 2 4 (o_iret Q)))))))) (o_aload 0 (o_const (.int (-5)) (o_callV C_X8_refuse 8 2 (o_iret Q)))))))) (o_aload 0 (o_const (.int (-1)) (o_callV C_X8_refuse 8 2 (o_iret Q))))))))
def P_X8_stand (Q : SQ) (nx : Nat → SK) : Nat → SK := s_tab [(0, B_X8_stand_0 Q nx)]
def C_X8_stand : SC := fun av sh me Q => match av with
  | [.ref a0, .int a1, .int a2] => s_wp P_X8_stand Q 0 [some (.ref a0), some (.int a1), some (.int a2)] [] sh me
  | _ => False
abbrev rm_X8_stand : Room := { frames := 6, cells := 0, slots := 0, locals := 143 }
theorem hd_X8_stand : (yX8_stand).cls ≠ "java/lang/invoke/MethodHandle" ∧ (yX8_stand).cls ≠ "java/lang/invoke/VarHandle" ∧ (parseMethodDescriptor (yX8_stand).desc).map (fun d => d.parameters.length) = some 2 := by decide +kernel
set_option maxRecDepth 100000 in
set_option maxHeartbeats 4000000 in
theorem b_X8_stand_0 (l : Launch) : s_B l rm_X8_stand yX8_stand cX8_stand 3 ((some FieldType.int)) false 0 B_X8_stand_0 := fun p e s m args below meth c D ty ad A n0 φ0 Q G Y hY => (u_aload_n G dX8_stand_0 rfl (u_iload_n G dX8_stand_1 rfl (t_callV G cl_8 (m_X8_isPerson l) ⟨rfl, rfl⟩ rfl ⟨Nat.le_of_ble_eq_true rfl, Nat.le_of_ble_eq_true rfl⟩ q2_147 q1_1 (Or.inl q2_144) q2_146 qs_3 hd_X8_isPerson dX8_stand_2 (u_if_ne G dX8_stand_5 (by decide) (u_iload_n G dX8_stand_14 rfl (u_iconst G dX8_stand_15 (by decide) (t_callS G (m_X8_within l) ⟨rfl, rfl⟩ rfl ⟨Nat.le_of_ble_eq_true rfl, Nat.le_of_ble_eq_true rfl⟩ q2_85 q1_1 (Or.inl q2_83) q2_84 hd_X8_within dX8_stand_16 (u_if_ne G dX8_stand_19 (by decide) (u_aload_n G dX8_stand_29 rfl (t_getR G cl_8 (k := 5) (by decide) (Or.inl q2_47) rfl (Or.inl ⟨_, rfl⟩) dX8_stand_30 (u_aload_n G dX8_stand_33 rfl (t_getR G cl_8 (k := 0) (by decide) (Or.inl q2_42) rfl (Or.inl ⟨_, rfl⟩) dX8_stand_34 (u_iload_n G dX8_stand_37 rfl (u_iload_n G dX8_stand_38 rfl (t_callV G cl_2 (m_X2_bestStand l) ⟨rfl, rfl⟩ rfl ⟨Nat.le_of_ble_eq_true rfl, Nat.le_of_ble_eq_true rfl⟩ q4_58 q1_5 (Or.inl q4_55) q4_56 q4_57 hd_X2_bestStand dX8_stand_39 (t_iret G rfl dX8_stand_42)))))))) (u_aload_n G dX8_stand_22 rfl (u_bipush G dX8_stand_23 (by decide) (t_callV G cl_8 (m_X8_refuse l) ⟨rfl, rfl⟩ rfl ⟨Nat.le_of_ble_eq_true rfl, Nat.le_of_ble_eq_true rfl⟩ q2_89 q1_1 (Or.inl q2_86) q2_88 qs_0 hd_X8_refuse dX8_stand_25 (t_iret G rfl dX8_stand_28)))))))) (u_aload_n G dX8_stand_8 rfl (u_iconst G dX8_stand_9 (by decide) (t_callV G cl_8 (m_X8_refuse l) ⟨rfl, rfl⟩ rfl ⟨Nat.le_of_ble_eq_true rfl, Nat.le_of_ble_eq_true rfl⟩ q2_89 q1_1 (Or.inl q2_86) q2_88 qs_0 hd_X8_refuse dX8_stand_10 (t_iret G rfl dX8_stand_13))))))))
set_option maxRecDepth 100000 in
theorem m_X8_stand (l : Launch) : s_Met l yX8_stand cX8_stand 3 ((some FieldType.int)) rm_X8_stand false C_X8_stand := by
  intro D ty ad av φ sz sh me Q hsh hC
  unfold C_X8_stand at hC
  split at hC
  · exact s_met1 (P := P_X8_stand) (by decide +kernel) (fun _ => ⟨rfl, rfl⟩) (fun p e s m args below meth c D ty ad A n0 φ0 Q G Y hY => s_tab_T _ (List.forall_mem_cons.mpr ⟨b_X8_stand_0 l p e s m args below meth c D ty ad A n0 φ0 Q G Y hY, fun _ h => absurd h List.not_mem_nil⟩)) hsh rfl rfl (Nat.le_of_ble_eq_true rfl) hC
  · exact hC.elim
def B_X8_status_0 (Q : SQ) (nx : Nat → SK) : SK := (o_iload 1 (o_const (.int 10) (o_ic (fun x y => x ≤ y) (nx 22) (o_iload 1 (o_const (.int 17) (o_ic (fun x y => y < x) (nx 22) (o_aload 0 (o_getR 8 10 (o_iload 1 (o_const (.int 10) (o_i2 (fun x y => x - y) (o_iald (o_iret Q)))))))))))))
def B_X8_status_22 (Q : SQ) (nx : Nat → SK) : SK := (o_iload 1 (o_sw [(0, (o_aload 0 (o_getR 8 0 (o_getI 7 1 (o_iret Q))))), (1, (o_aload 0 (o_getR 8 0 (o_getJ 7 2 (o_call C_J13_bitCount_95d88 1 (o_iret Q)))))), (2, (o_aload 0 (o_getR 8 0 (o_getJ 7 3 (o_call C_J13_bitCount_95d88 1 (o_iret Q)))))), (3, (o_aload 0 (o_getR 8 0 (o_getI 7 4 (o_iret Q))))), (4, (o_aload 0 (o_getR 8 0 (o_getI 7 5 (o_iret Q))))), (5, (o_aload 0 (o_getR 8 0 (o_getI 7 6 (o_call C_X8_bit 1 (o_iret Q)))))), (6, (o_aload 0 (o_getR 8 0 (o_getI 7 7 (o_iret Q))))), (7, (o_aload 0 (o_getR 8 0 (o_getI 7 8 (o_iret Q))))), (8, (o_aload 0 (o_getR 8 0 (o_callV C_X7_pursesTogether 7 1 (o_iret Q))))), (9, (o_aload 0 (o_getR 8 0 (o_getI 7 9 (o_iret Q))))), (10, (o_aload 0 (o_getR 8 8 (o_getI 0 1 (o_iret Q)))))] (o_const (.int (-1)) (o_iret Q))))
def P_X8_status (Q : SQ) (nx : Nat → SK) : Nat → SK := s_tab [(0, B_X8_status_0 Q nx), (22, B_X8_status_22 Q nx)]
def C_X8_status : SC := fun av sh me Q => match av with
  | [.ref a0, .int a1] => s_wp P_X8_status Q 0 [some (.ref a0), some (.int a1)] [] sh me
  | _ => False
abbrev rm_X8_status : Room := { frames := 1, cells := 0, slots := 0, locals := 22 }
theorem hd_X8_status : (yX8_status).cls ≠ "java/lang/invoke/MethodHandle" ∧ (yX8_status).cls ≠ "java/lang/invoke/VarHandle" ∧ (parseMethodDescriptor (yX8_status).desc).map (fun d => d.parameters.length) = some 1 := by decide +kernel
set_option maxRecDepth 100000 in
set_option maxHeartbeats 4000000 in
theorem b_X8_status_0 (l : Launch) : s_B l rm_X8_status yX8_status cX8_status 2 ((some FieldType.int)) false 0 B_X8_status_0 := fun p e s m args below meth c D ty ad A n0 φ0 Q G Y hY => (u_iload_n G dX8_status_0 rfl (u_bipush G dX8_status_1 (by decide) (u_icmp_le G dX8_status_3 (by decide) (hY 22) (u_iload_n G dX8_status_6 rfl (u_bipush G dX8_status_7 (by decide) (u_icmp_gt G dX8_status_9 (by decide) (hY 22) (u_aload_n G dX8_status_12 rfl (t_getR G cl_8 (k := 10) (by decide) (Or.inl q2_52) rfl (Or.inr ⟨_, rfl⟩) dX8_status_13 (u_iload_n G dX8_status_16 rfl (u_bipush G dX8_status_17 (by decide) (u_isub G dX8_status_19 (t_iald G dX8_status_20 (t_iret G rfl dX8_status_21)))))))))))))
set_option maxRecDepth 100000 in
set_option maxHeartbeats 4000000 in
theorem b_X8_status_22 (l : Launch) : s_B l rm_X8_status yX8_status cX8_status 2 ((some FieldType.int)) false 22 B_X8_status_22 := fun p e s m args below meth c D ty ad A n0 φ0 Q G Y hY => (u_iload_n G dX8_status_22 rfl (u_tsw G [(0, 80), (1, 88), (2, 99), (3, 110), (4, 118), (5, 126), (6, 137), (7, 145), (8, 153), (9, 161), (10, 169)] dX8_status_23 (by decide) (by decide) rfl ⟨(u_aload_n G dX8_status_80 rfl (t_getR G cl_8 (k := 0) (by decide) (Or.inl q2_42) rfl (Or.inl ⟨_, rfl⟩) dX8_status_81 (t_getI G cl_7 (k := 1) (by decide) (Or.inr ⟨_, q1_95⟩) rfl (Or.inl rfl) dX8_status_84 (t_iret G rfl dX8_status_87)))), ⟨(u_aload_n G dX8_status_88 rfl (t_getR G cl_8 (k := 0) (by decide) (Or.inl q2_42) rfl (Or.inl ⟨_, rfl⟩) dX8_status_89 (t_getJ G cl_7 (k := 2) (by decide) (Or.inr ⟨_, q1_97⟩) rfl rfl dX8_status_92 (t_callS G (m_J13_bitCount_95d88 l) ⟨rfl, rfl⟩ rfl ⟨Nat.le_of_ble_eq_true rfl, Nat.le_of_ble_eq_true rfl⟩ q4_137 q1_19 (Or.inl q4_135) q4_136 hd_J13_bitCount_95d88 dX8_status_95 (t_iret G rfl dX8_status_98))))), ⟨(u_aload_n G dX8_status_99 rfl (t_getR G cl_8 (k := 0) (by decide) (Or.inl q2_42) rfl (Or.inl ⟨_, rfl⟩) dX8_status_100 (t_getJ G cl_7 (k := 3) (by decide) (Or.inr ⟨_, q1_101⟩) rfl rfl dX8_status_103 (t_callS G (m_J13_bitCount_95d88 l) ⟨rfl, rfl⟩ rfl ⟨Nat.le_of_ble_eq_true rfl, Nat.le_of_ble_eq_true rfl⟩ q4_137 q1_19 (Or.inl q4_135) q4_136 hd_J13_bitCount_95d88 dX8_status_106 (t_iret G rfl dX8_status_109))))), ⟨(u_aload_n G dX8_status_110 rfl (t_getR G cl_8 (k := 0) (by decide) (Or.inl q2_42) rfl (Or.inl ⟨_, rfl⟩) dX8_status_111 (t_getI G cl_7 (k := 4) (by decide) (Or.inr ⟨_, q1_105⟩) rfl (Or.inl rfl) dX8_status_114 (t_iret G rfl dX8_status_117)))), ⟨(u_aload_n G dX8_status_118 rfl (t_getR G cl_8 (k := 0) (by decide) (Or.inl q2_42) rfl (Or.inl ⟨_, rfl⟩) dX8_status_119 (t_getI G cl_7 (k := 5) (by decide) (Or.inr ⟨_, q1_108⟩) rfl (Or.inl rfl) dX8_status_122 (t_iret G rfl dX8_status_125)))), ⟨(u_aload_n G dX8_status_126 rfl (t_getR G cl_8 (k := 0) (by decide) (Or.inl q2_42) rfl (Or.inl ⟨_, rfl⟩) dX8_status_127 (t_getI G cl_7 (k := 6) (by decide) (Or.inr ⟨_, q1_112⟩) rfl (Or.inr rfl) dX8_status_130 (t_callS G (m_X8_bit l) ⟨rfl, rfl⟩ rfl ⟨Nat.le_of_ble_eq_true rfl, Nat.le_of_ble_eq_true rfl⟩ q3_3 q1_1 (Or.inl q3_1) q3_2 hd_X8_bit dX8_status_133 (t_iret G rfl dX8_status_136))))), ⟨(u_aload_n G dX8_status_137 rfl (t_getR G cl_8 (k := 0) (by decide) (Or.inl q2_42) rfl (Or.inl ⟨_, rfl⟩) dX8_status_138 (t_getI G cl_7 (k := 7) (by decide) (Or.inr ⟨_, q1_115⟩) rfl (Or.inl rfl) dX8_status_141 (t_iret G rfl dX8_status_144)))), ⟨(u_aload_n G dX8_status_145 rfl (t_getR G cl_8 (k := 0) (by decide) (Or.inl q2_42) rfl (Or.inl ⟨_, rfl⟩) dX8_status_146 (t_getI G cl_7 (k := 8) (by decide) (Or.inr ⟨_, q1_117⟩) rfl (Or.inl rfl) dX8_status_149 (t_iret G rfl dX8_status_152)))), ⟨(u_aload_n G dX8_status_153 rfl (t_getR G cl_8 (k := 0) (by decide) (Or.inl q2_42) rfl (Or.inl ⟨_, rfl⟩) dX8_status_154 (t_callV G cl_7 (m_X7_pursesTogether l) ⟨rfl, rfl⟩ rfl ⟨Nat.le_of_ble_eq_true rfl, Nat.le_of_ble_eq_true rfl⟩ q5_9 q1_2 (Or.inl q5_6) q5_7 q5_8 hd_X7_pursesTogether dX8_status_157 (t_iret G rfl dX8_status_160)))), ⟨(u_aload_n G dX8_status_161 rfl (t_getR G cl_8 (k := 0) (by decide) (Or.inl q2_42) rfl (Or.inl ⟨_, rfl⟩) dX8_status_162 (t_getI G cl_7 (k := 9) (by decide) (Or.inr ⟨_, q1_119⟩) rfl (Or.inl rfl) dX8_status_165 (t_iret G rfl dX8_status_168)))), ⟨(u_aload_n G dX8_status_169 rfl (t_getR G cl_8 (k := 8) (by decide) (Or.inl q2_50) rfl (Or.inl ⟨_, rfl⟩) dX8_status_170 (t_getI G cl_0 (k := 1) (by decide) (Or.inr ⟨_, q2_2⟩) rfl (Or.inl rfl) dX8_status_173 (t_iret G rfl dX8_status_176)))), trivial⟩⟩⟩⟩⟩⟩⟩⟩⟩⟩⟩ (u_iconst G dX8_status_177 (by decide) (t_iret G rfl dX8_status_178))))
set_option maxRecDepth 100000 in
theorem m_X8_status (l : Launch) : s_Met l yX8_status cX8_status 2 ((some FieldType.int)) rm_X8_status false C_X8_status := by
  intro D ty ad av φ sz sh me Q hsh hC
  unfold C_X8_status at hC
  split at hC
  · exact s_met1 (P := P_X8_status) (by decide +kernel) (fun _ => ⟨rfl, rfl⟩) (fun p e s m args below meth c D ty ad A n0 φ0 Q G Y hY => s_tab_T _ (List.forall_mem_cons.mpr ⟨b_X8_status_0 l p e s m args below meth c D ty ad A n0 φ0 Q G Y hY, List.forall_mem_cons.mpr ⟨b_X8_status_22 l p e s m args below meth c D ty ad A n0 φ0 Q G Y hY, fun _ h => absurd h List.not_mem_nil⟩⟩)) hsh rfl rfl (Nat.le_of_ble_eq_true rfl) hC
  · exact hC.elim
def B_X8_town_0 (Q : SQ) (nx : Nat → SK) : SK := (o_aload 0 (o_iload 1 (o_callV C_X8_rowRefusal 8 2 (o_istore 2 (o_iload 2 (o_if (fun x => x = 0) (o_aload 0 (o_getR 8 1 (o_aload 0 (o_getR 8 0 (o_callV C_X7_copyFrom 7 2 (o_aload 0 (o_getR 8 7 (o_aload 0 (o_getR 8 9 (o_iload 1 (o_aald 13 (o_aload 0 (o_getR 8 1 (o_callV C_X3_read 3 3 (o_istore 3 (o_iload 3 (o_const (.int (-1)) (o_ic (fun x y => ¬ x = y) (o_aload 0 (o_getR 8 0 (o_aload 0 (o_getR 8 1 (o_callV C_X7_copyFrom 7 2 (o_iload 3 (o_iret Q))))))) (o_aload 0 (o_const (.int (-6)) (o_callV C_X8_refuse 8 2 (o_iret Q)))))))))))))))))))))) (o_aload 0 (o_iload 2 (o_callV C_X8_refuse 8 2 (o_iret Q))))))))))
def P_X8_town (Q : SQ) (nx : Nat → SK) : Nat → SK := s_tab [(0, B_X8_town_0 Q nx)]
def C_X8_town : SC := fun av sh me Q => match av with
  | [.ref a0, .int a1] => s_wp P_X8_town Q 0 [some (.ref a0), some (.int a1), none, none] [] sh me
  | _ => False
abbrev rm_X8_town : Room := { frames := 6, cells := 0, slots := 0, locals := 140 }
theorem hd_X8_town : (yX8_town).cls ≠ "java/lang/invoke/MethodHandle" ∧ (yX8_town).cls ≠ "java/lang/invoke/VarHandle" ∧ (parseMethodDescriptor (yX8_town).desc).map (fun d => d.parameters.length) = some 1 := by decide +kernel
set_option maxRecDepth 100000 in
set_option maxHeartbeats 4000000 in
theorem b_X8_town_0 (l : Launch) : s_B l rm_X8_town yX8_town cX8_town 4 ((some FieldType.int)) false 0 B_X8_town_0 := fun p e s m args below meth c D ty ad A n0 φ0 Q G Y hY => (u_aload_n G dX8_town_0 rfl (u_iload_n G dX8_town_1 rfl (t_callV G cl_8 (m_X8_rowRefusal l) ⟨rfl, rfl⟩ rfl ⟨Nat.le_of_ble_eq_true rfl, Nat.le_of_ble_eq_true rfl⟩ q2_104 q1_1 (Or.inl q2_101) q2_103 qs_1 hd_X8_rowRefusal dX8_town_2 (u_istore_n G dX8_town_5 rfl (u_iload_n G dX8_town_6 rfl (u_if_eq G dX8_town_7 (by decide) (u_aload_n G dX8_town_16 rfl (t_getR G cl_8 (k := 1) (by decide) (Or.inl q2_43) rfl (Or.inl ⟨_, rfl⟩) dX8_town_17 (u_aload_n G dX8_town_20 rfl (t_getR G cl_8 (k := 0) (by decide) (Or.inl q2_42) rfl (Or.inl ⟨_, rfl⟩) dX8_town_21 (t_callV G cl_7 (m_X7_copyFrom l) ⟨rfl, rfl⟩ rfl ⟨Nat.le_of_ble_eq_true rfl, Nat.le_of_ble_eq_true rfl⟩ q3_40 q1_2 (Or.inl q3_37) q3_38 q3_39 hd_X7_copyFrom dX8_town_24 (u_aload_n G dX8_town_27 rfl (t_getR G cl_8 (k := 7) (by decide) (Or.inl q2_49) rfl (Or.inl ⟨_, rfl⟩) dX8_town_28 (u_aload_n G dX8_town_31 rfl (t_getR G cl_8 (k := 9) (by decide) (Or.inl q2_51) rfl (Or.inr ⟨_, rfl⟩) dX8_town_32 (u_iload_n G dX8_town_35 rfl (t_aald G (by decide) dX8_town_36 (u_aload_n G dX8_town_37 rfl (t_getR G cl_8 (k := 1) (by decide) (Or.inl q2_43) rfl (Or.inl ⟨_, rfl⟩) dX8_town_38 (t_callV G cl_3 (m_X3_read l) ⟨rfl, rfl⟩ rfl ⟨Nat.le_of_ble_eq_true rfl, Nat.le_of_ble_eq_true rfl⟩ q3_50 q1_7 (Or.inl q3_47) q3_48 q3_49 hd_X3_read dX8_town_41 (u_istore_n G dX8_town_44 rfl (u_iload_n G dX8_town_45 rfl (u_iconst G dX8_town_46 (by decide) (u_icmp_ne G dX8_town_47 (by decide) (u_aload_n G dX8_town_57 rfl (t_getR G cl_8 (k := 0) (by decide) (Or.inl q2_42) rfl (Or.inl ⟨_, rfl⟩) dX8_town_58 (u_aload_n G dX8_town_61 rfl (t_getR G cl_8 (k := 1) (by decide) (Or.inl q2_43) rfl (Or.inl ⟨_, rfl⟩) dX8_town_62 (t_callV G cl_7 (m_X7_copyFrom l) ⟨rfl, rfl⟩ rfl ⟨Nat.le_of_ble_eq_true rfl, Nat.le_of_ble_eq_true rfl⟩ q3_40 q1_2 (Or.inl q3_37) q3_38 q3_39 hd_X7_copyFrom dX8_town_65 (u_iload_n G dX8_town_68 rfl (t_iret G rfl dX8_town_69))))))) (u_aload_n G dX8_town_50 rfl (u_bipush G dX8_town_51 (by decide) (t_callV G cl_8 (m_X8_refuse l) ⟨rfl, rfl⟩ rfl ⟨Nat.le_of_ble_eq_true rfl, Nat.le_of_ble_eq_true rfl⟩ q2_89 q1_1 (Or.inl q2_86) q2_88 qs_0 hd_X8_refuse dX8_town_53 (t_iret G rfl dX8_town_56)))))))))))))))))))))) (u_aload_n G dX8_town_10 rfl (u_iload_n G dX8_town_11 rfl (t_callV G cl_8 (m_X8_refuse l) ⟨rfl, rfl⟩ rfl ⟨Nat.le_of_ble_eq_true rfl, Nat.le_of_ble_eq_true rfl⟩ q2_89 q1_1 (Or.inl q2_86) q2_88 qs_0 hd_X8_refuse dX8_town_12 (t_iret G rfl dX8_town_15))))))))))
set_option maxRecDepth 100000 in
theorem m_X8_town (l : Launch) : s_Met l yX8_town cX8_town 4 ((some FieldType.int)) rm_X8_town false C_X8_town := by
  intro D ty ad av φ sz sh me Q hsh hC
  unfold C_X8_town at hC
  split at hC
  · exact s_met1 (P := P_X8_town) (by decide +kernel) (fun _ => ⟨rfl, rfl⟩) (fun p e s m args below meth c D ty ad A n0 φ0 Q G Y hY => s_tab_T _ (List.forall_mem_cons.mpr ⟨b_X8_town_0 l p e s m args below meth c D ty ad A n0 φ0 Q G Y hY, fun _ h => absurd h List.not_mem_nil⟩)) hsh rfl rfl (Nat.le_of_ble_eq_true rfl) hC
  · exact hC.elim
def B_X8_trace_0 (Q : SQ) (nx : Nat → SK) : SK := (o_iload 1 (o_if (fun x => x < 0) (nx 33) (o_iload 1 (o_aload 0 (o_getR 8 8 (o_getI 0 1 (o_ic (fun x y => y ≤ x) (nx 33) (o_iload 1 (o_const (.int 20) (o_ic (fun x y => y ≤ x) (nx 33) (o_aload 0 (o_getR 8 8 (o_getR 0 0 (o_iload 1 (o_iald (nx 34))))))))))))))))
def B_X8_trace_33 (Q : SQ) (nx : Nat → SK) : SK := (o_const (.int (-1)) (nx 34))
def B_X8_trace_34 (Q : SQ) (nx : Nat → SK) : SK := (o_iret Q)
def P_X8_trace (Q : SQ) (nx : Nat → SK) : Nat → SK := s_tab [(0, B_X8_trace_0 Q nx), (33, B_X8_trace_33 Q nx), (34, B_X8_trace_34 Q nx)]
def C_X8_trace : SC := fun av sh me Q => match av with
  | [.ref a0, .int a1] => s_wp P_X8_trace Q 0 [some (.ref a0), some (.int a1)] [] sh me
  | _ => False
abbrev rm_X8_trace : Room := { frames := 0, cells := 0, slots := 0, locals := 0 }
theorem hd_X8_trace : (yX8_trace).cls ≠ "java/lang/invoke/MethodHandle" ∧ (yX8_trace).cls ≠ "java/lang/invoke/VarHandle" ∧ (parseMethodDescriptor (yX8_trace).desc).map (fun d => d.parameters.length) = some 1 := by decide +kernel
set_option maxRecDepth 100000 in
set_option maxHeartbeats 4000000 in
theorem b_X8_trace_0 (l : Launch) : s_B l rm_X8_trace yX8_trace cX8_trace 2 ((some FieldType.int)) false 0 B_X8_trace_0 := fun p e s m args below meth c D ty ad A n0 φ0 Q G Y hY => (u_iload_n G dX8_trace_0 rfl (u_if_lt G dX8_trace_1 (by decide) (hY 33) (u_iload_n G dX8_trace_4 rfl (u_aload_n G dX8_trace_5 rfl (t_getR G cl_8 (k := 8) (by decide) (Or.inl q2_50) rfl (Or.inl ⟨_, rfl⟩) dX8_trace_6 (t_getI G cl_0 (k := 1) (by decide) (Or.inr ⟨_, q2_2⟩) rfl (Or.inl rfl) dX8_trace_9 (u_icmp_ge G dX8_trace_12 (by decide) (hY 33) (u_iload_n G dX8_trace_15 rfl (u_bipush G dX8_trace_16 (by decide) (u_icmp_ge G dX8_trace_18 (by decide) (hY 33) (u_aload_n G dX8_trace_21 rfl (t_getR G cl_8 (k := 8) (by decide) (Or.inl q2_50) rfl (Or.inl ⟨_, rfl⟩) dX8_trace_22 (t_getR G cl_0 (k := 0) (by decide) (Or.inr ⟨_, q2_0⟩) rfl (Or.inr ⟨_, rfl⟩) dX8_trace_25 (u_iload_n G dX8_trace_28 rfl (t_iald G dX8_trace_29 (t_goto G dX8_trace_30 (by decide) (hY 34)))))))))))))))))
set_option maxRecDepth 100000 in
set_option maxHeartbeats 4000000 in
theorem b_X8_trace_33 (l : Launch) : s_B l rm_X8_trace yX8_trace cX8_trace 2 ((some FieldType.int)) false 33 B_X8_trace_33 := fun p e s m args below meth c D ty ad A n0 φ0 Q G Y hY => (u_iconst G dX8_trace_33 (by decide) (hY 34))
set_option maxRecDepth 100000 in
set_option maxHeartbeats 4000000 in
theorem b_X8_trace_34 (l : Launch) : s_B l rm_X8_trace yX8_trace cX8_trace 2 ((some FieldType.int)) false 34 B_X8_trace_34 := fun p e s m args below meth c D ty ad A n0 φ0 Q G Y hY => (t_iret G rfl dX8_trace_34)
set_option maxRecDepth 100000 in
theorem m_X8_trace (l : Launch) : s_Met l yX8_trace cX8_trace 2 ((some FieldType.int)) rm_X8_trace false C_X8_trace := by
  intro D ty ad av φ sz sh me Q hsh hC
  unfold C_X8_trace at hC
  split at hC
  · exact s_met1 (P := P_X8_trace) (by decide +kernel) (fun _ => ⟨rfl, rfl⟩) (fun p e s m args below meth c D ty ad A n0 φ0 Q G Y hY => s_tab_T _ (List.forall_mem_cons.mpr ⟨b_X8_trace_0 l p e s m args below meth c D ty ad A n0 φ0 Q G Y hY, List.forall_mem_cons.mpr ⟨b_X8_trace_33 l p e s m args below meth c D ty ad A n0 φ0 Q G Y hY, List.forall_mem_cons.mpr ⟨b_X8_trace_34 l p e s m args below meth c D ty ad A n0 φ0 Q G Y hY, fun _ h => absurd h List.not_mem_nil⟩⟩⟩)) hsh rfl rfl (Nat.le_of_ble_eq_true rfl) hC
  · exact hC.elim
def B_X8_view_0 (Q : SQ) (nx : Nat → SK) : SK := (o_iload 1 (o_call C_X8_isSquare 1 (o_if (fun x => x = 0) (nx 14) (o_iload 2 (o_call C_X8_isSquare 1 (o_if (fun x => ¬ x = 0) (o_aload 0 (o_getR 8 0 (o_iload 1 (o_callV C_X7_viewFrom 7 2 (o_iload 2 (o_call C_X8_hasBit 2 (o_call C_X8_bit 1 (o_iret Q)))))))) (nx 14)))))))
def B_X8_view_14 (Q : SQ) (nx : Nat → SK) : SK := (o_aload 0 (o_const (.int (-6)) (o_callV C_X8_refuse 8 2 (o_iret Q))))
def P_X8_view (Q : SQ) (nx : Nat → SK) : Nat → SK := s_tab [(0, B_X8_view_0 Q nx), (14, B_X8_view_14 Q nx)]
def C_X8_view : SC := fun av sh me Q => match av with
  | [.ref a0, .int a1, .int a2] => s_wp P_X8_view Q 0 [some (.ref a0), some (.int a1), some (.int a2)] [] sh me
  | _ => False
abbrev rm_X8_view : Room := { frames := 2, cells := 0, slots := 0, locals := 47 }
theorem hd_X8_view : (yX8_view).cls ≠ "java/lang/invoke/MethodHandle" ∧ (yX8_view).cls ≠ "java/lang/invoke/VarHandle" ∧ (parseMethodDescriptor (yX8_view).desc).map (fun d => d.parameters.length) = some 2 := by decide +kernel
set_option maxRecDepth 100000 in
set_option maxHeartbeats 4000000 in
theorem b_X8_view_0 (l : Launch) : s_B l rm_X8_view yX8_view cX8_view 3 ((some FieldType.int)) false 0 B_X8_view_0 := fun p e s m args below meth c D ty ad A n0 φ0 Q G Y hY => (u_iload_n G dX8_view_0 rfl (t_callS G (m_X8_isSquare l) ⟨rfl, rfl⟩ rfl ⟨Nat.le_of_ble_eq_true rfl, Nat.le_of_ble_eq_true rfl⟩ q2_204 q1_1 (Or.inl q2_225) q2_203 hd_X8_isSquare dX8_view_1 (u_if_eq G dX8_view_4 (by decide) (hY 14) (u_iload_n G dX8_view_7 rfl (t_callS G (m_X8_isSquare l) ⟨rfl, rfl⟩ rfl ⟨Nat.le_of_ble_eq_true rfl, Nat.le_of_ble_eq_true rfl⟩ q2_204 q1_1 (Or.inl q2_225) q2_203 hd_X8_isSquare dX8_view_8 (u_if_ne G dX8_view_11 (by decide) (u_aload_n G dX8_view_21 rfl (t_getR G cl_8 (k := 0) (by decide) (Or.inl q2_42) rfl (Or.inl ⟨_, rfl⟩) dX8_view_22 (u_iload_n G dX8_view_25 rfl (t_callV G cl_7 (m_X7_viewFrom l) ⟨rfl, rfl⟩ rfl ⟨Nat.le_of_ble_eq_true rfl, Nat.le_of_ble_eq_true rfl⟩ q3_177 q1_2 (Or.inl q3_174) q3_175 q3_176 hd_X7_viewFrom dX8_view_26 (u_iload_n G dX8_view_29 rfl (t_callS G (m_X8_hasBit l) ⟨rfl, rfl⟩ rfl ⟨Nat.le_of_ble_eq_true rfl, Nat.le_of_ble_eq_true rfl⟩ q2_232 q1_1 (Or.inl q3_181) q2_231 hd_X8_hasBit dX8_view_30 (t_callS G (m_X8_bit l) ⟨rfl, rfl⟩ rfl ⟨Nat.le_of_ble_eq_true rfl, Nat.le_of_ble_eq_true rfl⟩ q3_3 q1_1 (Or.inl q3_1) q3_2 hd_X8_bit dX8_view_33 (t_iret G rfl dX8_view_36)))))))) (hY 14)))))))
set_option maxRecDepth 100000 in
set_option maxHeartbeats 4000000 in
theorem b_X8_view_14 (l : Launch) : s_B l rm_X8_view yX8_view cX8_view 3 ((some FieldType.int)) false 14 B_X8_view_14 := fun p e s m args below meth c D ty ad A n0 φ0 Q G Y hY => (u_aload_n G dX8_view_14 rfl (u_bipush G dX8_view_15 (by decide) (t_callV G cl_8 (m_X8_refuse l) ⟨rfl, rfl⟩ rfl ⟨Nat.le_of_ble_eq_true rfl, Nat.le_of_ble_eq_true rfl⟩ q2_89 q1_1 (Or.inl q2_86) q2_88 qs_0 hd_X8_refuse dX8_view_17 (t_iret G rfl dX8_view_20))))
set_option maxRecDepth 100000 in
theorem m_X8_view (l : Launch) : s_Met l yX8_view cX8_view 3 ((some FieldType.int)) rm_X8_view false C_X8_view := by
  intro D ty ad av φ sz sh me Q hsh hC
  unfold C_X8_view at hC
  split at hC
  · exact s_met1 (P := P_X8_view) (by decide +kernel) (fun _ => ⟨rfl, rfl⟩) (fun p e s m args below meth c D ty ad A n0 φ0 Q G Y hY => s_tab_T _ (List.forall_mem_cons.mpr ⟨b_X8_view_0 l p e s m args below meth c D ty ad A n0 φ0 Q G Y hY, List.forall_mem_cons.mpr ⟨b_X8_view_14 l p e s m args below meth c D ty ad A n0 φ0 Q G Y hY, fun _ h => absurd h List.not_mem_nil⟩⟩)) hsh rfl rfl (Nat.le_of_ble_eq_true rfl) hC
  · exact hC.elim
def B_X8_walk_0 (Q : SQ) (nx : Nat → SK) : SK := (o_aload 0 (o_iload 1 (o_callV C_X8_isPerson 8 2 (o_if (fun x => ¬ x = 0) (o_iload 3 (o_const (.int 2) (o_call C_X8_within 2 (o_if (fun x => ¬ x = 0) (o_aload 0 (o_getR 8 0 (o_iload 2 (o_callV C_X7_isOpen 7 2 (o_if (fun x => ¬ x = 0) (o_aload 0 (o_getR 8 5 (o_aload 0 (o_getR 8 0 (o_iload 1 (o_iload 2 (o_iload 3 (o_callV C_X2_wayTo 2 5 (o_iret Q))))))))) (o_aload 0 (o_const (.int (-6)) (o_callV C_X8_refuseLowered 8 2 (o_iret Q))))))))) (o_aload 0 (o_const (.int (-5)) (o_callV C_X8_refuseLowered 8 2 (o_iret Q)))))))) (o_aload 0 (o_const (.int (-1)) (o_callV C_X8_refuseLowered 8 2 (o_iret Q))))))))
def P_X8_walk (Q : SQ) (nx : Nat → SK) : Nat → SK := s_tab [(0, B_X8_walk_0 Q nx)]
def C_X8_walk : SC := fun av sh me Q => match av with
  | [.ref a0, .int a1, .int a2, .int a3] => s_wp P_X8_walk Q 0 [some (.ref a0), some (.int a1), some (.int a2), some (.int a3)] [] sh me
  | _ => False
abbrev rm_X8_walk : Room := { frames := 7, cells := 0, slots := 0, locals := 163 }
theorem hd_X8_walk : (yX8_walk).cls ≠ "java/lang/invoke/MethodHandle" ∧ (yX8_walk).cls ≠ "java/lang/invoke/VarHandle" ∧ (parseMethodDescriptor (yX8_walk).desc).map (fun d => d.parameters.length) = some 3 := by decide +kernel
set_option maxRecDepth 100000 in
set_option maxHeartbeats 4000000 in
theorem b_X8_walk_0 (l : Launch) : s_B l rm_X8_walk yX8_walk cX8_walk 4 ((some FieldType.int)) false 0 B_X8_walk_0 := fun p e s m args below meth c D ty ad A n0 φ0 Q G Y hY => (u_aload_n G dX8_walk_0 rfl (u_iload_n G dX8_walk_1 rfl (t_callV G cl_8 (m_X8_isPerson l) ⟨rfl, rfl⟩ rfl ⟨Nat.le_of_ble_eq_true rfl, Nat.le_of_ble_eq_true rfl⟩ q2_147 q1_1 (Or.inl q2_144) q2_146 qs_3 hd_X8_isPerson dX8_walk_2 (u_if_ne G dX8_walk_5 (by decide) (u_iload_n G dX8_walk_14 rfl (u_iconst G dX8_walk_15 (by decide) (t_callS G (m_X8_within l) ⟨rfl, rfl⟩ rfl ⟨Nat.le_of_ble_eq_true rfl, Nat.le_of_ble_eq_true rfl⟩ q2_85 q1_1 (Or.inl q2_83) q2_84 hd_X8_within dX8_walk_16 (u_if_ne G dX8_walk_19 (by decide) (u_aload_n G dX8_walk_29 rfl (t_getR G cl_8 (k := 0) (by decide) (Or.inl q2_42) rfl (Or.inl ⟨_, rfl⟩) dX8_walk_30 (u_iload_n G dX8_walk_33 rfl (t_callV G cl_7 (m_X7_isOpen l) ⟨rfl, rfl⟩ rfl ⟨Nat.le_of_ble_eq_true rfl, Nat.le_of_ble_eq_true rfl⟩ q2_201 q1_2 (Or.inl q2_198) q2_199 q2_200 hd_X7_isOpen dX8_walk_34 (u_if_ne G dX8_walk_37 (by decide) (u_aload_n G dX8_walk_47 rfl (t_getR G cl_8 (k := 5) (by decide) (Or.inl q2_47) rfl (Or.inl ⟨_, rfl⟩) dX8_walk_48 (u_aload_n G dX8_walk_51 rfl (t_getR G cl_8 (k := 0) (by decide) (Or.inl q2_42) rfl (Or.inl ⟨_, rfl⟩) dX8_walk_52 (u_iload_n G dX8_walk_55 rfl (u_iload_n G dX8_walk_56 rfl (u_iload_n G dX8_walk_57 rfl (t_callV G cl_2 (m_X2_wayTo l) ⟨rfl, rfl⟩ rfl ⟨Nat.le_of_ble_eq_true rfl, Nat.le_of_ble_eq_true rfl⟩ q4_18 q1_5 (Or.inl q4_15) q4_16 q4_17 hd_X2_wayTo dX8_walk_58 (t_iret G rfl dX8_walk_61))))))))) (u_aload_n G dX8_walk_40 rfl (u_bipush G dX8_walk_41 (by decide) (t_callV G cl_8 (m_X8_refuseLowered l) ⟨rfl, rfl⟩ rfl ⟨Nat.le_of_ble_eq_true rfl, Nat.le_of_ble_eq_true rfl⟩ q4_14 q1_1 (Or.inl q4_11) q4_13 qs_19 hd_X8_refuseLowered dX8_walk_43 (t_iret G rfl dX8_walk_46))))))))) (u_aload_n G dX8_walk_22 rfl (u_bipush G dX8_walk_23 (by decide) (t_callV G cl_8 (m_X8_refuseLowered l) ⟨rfl, rfl⟩ rfl ⟨Nat.le_of_ble_eq_true rfl, Nat.le_of_ble_eq_true rfl⟩ q4_14 q1_1 (Or.inl q4_11) q4_13 qs_19 hd_X8_refuseLowered dX8_walk_25 (t_iret G rfl dX8_walk_28)))))))) (u_aload_n G dX8_walk_8 rfl (u_iconst G dX8_walk_9 (by decide) (t_callV G cl_8 (m_X8_refuseLowered l) ⟨rfl, rfl⟩ rfl ⟨Nat.le_of_ble_eq_true rfl, Nat.le_of_ble_eq_true rfl⟩ q4_14 q1_1 (Or.inl q4_11) q4_13 qs_19 hd_X8_refuseLowered dX8_walk_10 (t_iret G rfl dX8_walk_13))))))))
set_option maxRecDepth 100000 in
theorem m_X8_walk (l : Launch) : s_Met l yX8_walk cX8_walk 4 ((some FieldType.int)) rm_X8_walk false C_X8_walk := by
  intro D ty ad av φ sz sh me Q hsh hC
  unfold C_X8_walk at hC
  split at hC
  · exact s_met1 (P := P_X8_walk) (by decide +kernel) (fun _ => ⟨rfl, rfl⟩) (fun p e s m args below meth c D ty ad A n0 φ0 Q G Y hY => s_tab_T _ (List.forall_mem_cons.mpr ⟨b_X8_walk_0 l p e s m args below meth c D ty ad A n0 φ0 Q G Y hY, fun _ h => absurd h List.not_mem_nil⟩)) hsh rfl rfl (Nat.le_of_ble_eq_true rfl) hC
  · exact hC.elim
def B_X9_isOne_0 (Q : SQ) (nx : Nat → SK) : SK := (o_iload 1 (o_if (fun x => x < 0) (nx 16) (o_iload 1 (o_aload 0 (o_getI 9 0 (o_ic (fun x y => y ≤ x) (nx 16) (o_const (.int 1) (nx 17))))))))
def B_X9_isOne_16 (Q : SQ) (nx : Nat → SK) : SK := (o_const (.int 0) (nx 17))
def B_X9_isOne_17 (Q : SQ) (nx : Nat → SK) : SK := (o_zret Q)
def P_X9_isOne (Q : SQ) (nx : Nat → SK) : Nat → SK := s_tab [(0, B_X9_isOne_0 Q nx), (16, B_X9_isOne_16 Q nx), (17, B_X9_isOne_17 Q nx)]
def C_X9_isOne : SC := fun av sh me Q => match av with
  | [.ref a0, .int a1] => s_wp P_X9_isOne Q 0 [some (.ref a0), some (.int a1)] [] sh me
  | _ => False
abbrev rm_X9_isOne : Room := { frames := 0, cells := 0, slots := 0, locals := 0 }
theorem hd_X9_isOne : (yX9_isOne).cls ≠ "java/lang/invoke/MethodHandle" ∧ (yX9_isOne).cls ≠ "java/lang/invoke/VarHandle" ∧ (parseMethodDescriptor (yX9_isOne).desc).map (fun d => d.parameters.length) = some 1 := by decide +kernel
set_option maxRecDepth 100000 in
set_option maxHeartbeats 4000000 in
theorem b_X9_isOne_0 (l : Launch) : s_B l rm_X9_isOne yX9_isOne cX9_isOne 2 ((some FieldType.boolean)) false 0 B_X9_isOne_0 := fun p e s m args below meth c D ty ad A n0 φ0 Q G Y hY => (u_iload_n G dX9_isOne_0 rfl (u_if_lt G dX9_isOne_1 (by decide) (hY 16) (u_iload_n G dX9_isOne_4 rfl (u_aload_n G dX9_isOne_5 rfl (t_getI G cl_9 (k := 0) (by decide) (Or.inl q5_16) rfl (Or.inl rfl) dX9_isOne_6 (u_icmp_ge G dX9_isOne_9 (by decide) (hY 16) (u_iconst G dX9_isOne_12 (by decide) (t_goto G dX9_isOne_13 (by decide) (hY 17)))))))))
set_option maxRecDepth 100000 in
set_option maxHeartbeats 4000000 in
theorem b_X9_isOne_16 (l : Launch) : s_B l rm_X9_isOne yX9_isOne cX9_isOne 2 ((some FieldType.boolean)) false 16 B_X9_isOne_16 := fun p e s m args below meth c D ty ad A n0 φ0 Q G Y hY => (u_iconst G dX9_isOne_16 (by decide) (hY 17))
set_option maxRecDepth 100000 in
set_option maxHeartbeats 4000000 in
theorem b_X9_isOne_17 (l : Launch) : s_B l rm_X9_isOne yX9_isOne cX9_isOne 2 ((some FieldType.boolean)) false 17 B_X9_isOne_17 := fun p e s m args below meth c D ty ad A n0 φ0 Q G Y hY => (t_zret G rfl dX9_isOne_17)
set_option maxRecDepth 100000 in
theorem m_X9_isOne (l : Launch) : s_Met l yX9_isOne cX9_isOne 2 ((some FieldType.boolean)) rm_X9_isOne false C_X9_isOne := by
  intro D ty ad av φ sz sh me Q hsh hC
  unfold C_X9_isOne at hC
  split at hC
  · exact s_met1 (P := P_X9_isOne) (by decide +kernel) (fun _ => ⟨rfl, rfl⟩) (fun p e s m args below meth c D ty ad A n0 φ0 Q G Y hY => s_tab_T _ (List.forall_mem_cons.mpr ⟨b_X9_isOne_0 l p e s m args below meth c D ty ad A n0 φ0 Q G Y hY, List.forall_mem_cons.mpr ⟨b_X9_isOne_16 l p e s m args below meth c D ty ad A n0 φ0 Q G Y hY, List.forall_mem_cons.mpr ⟨b_X9_isOne_17 l p e s m args below meth c D ty ad A n0 φ0 Q G Y hY, fun _ h => absurd h List.not_mem_nil⟩⟩⟩)) hsh rfl rfl (Nat.le_of_ble_eq_true rfl) hC
  · exact hC.elim
def B_X9_body_0 (Q : SQ) (nx : Nat → SK) : SK := (o_aload 0 (o_getI 9 42 (o_const (.int 20) (o_ic (fun x y => y ≤ x) (nx 19) (o_aload 0 (o_getR 9 41 (o_aload 0 (o_getI 9 42 (o_iload 1 (o_iast (nx 19)))))))))))
def B_X9_body_19 (Q : SQ) (nx : Nat → SK) : SK := (o_aload 0 (o_dup (o_getI 9 42 (o_const (.int 1) (o_i2 (fun x y => x + y) (o_putI 9 42 (o_vret Q)))))))
def P_X9_body (Q : SQ) (nx : Nat → SK) : Nat → SK := s_tab [(0, B_X9_body_0 Q nx), (19, B_X9_body_19 Q nx)]
def C_X9_body : SC := fun av sh me Q => match av with
  | [.ref a0, .int a1] => s_wp P_X9_body Q 0 [some (.ref a0), some (.int a1)] [] sh me
  | _ => False
abbrev rm_X9_body : Room := { frames := 0, cells := 0, slots := 0, locals := 0 }
theorem hd_X9_body : (yX9_body).cls ≠ "java/lang/invoke/MethodHandle" ∧ (yX9_body).cls ≠ "java/lang/invoke/VarHandle" ∧ (parseMethodDescriptor (yX9_body).desc).map (fun d => d.parameters.length) = some 1 := by decide +kernel
set_option maxRecDepth 100000 in
set_option maxHeartbeats 4000000 in
theorem b_X9_body_0 (l : Launch) : s_B l rm_X9_body yX9_body cX9_body 2 ((none : Option FieldType)) false 0 B_X9_body_0 := fun p e s m args below meth c D ty ad A n0 φ0 Q G Y hY => (u_aload_n G dX9_body_0 rfl (t_getI G cl_9 (k := 42) (by decide) (Or.inl q5_58) rfl (Or.inl rfl) dX9_body_1 (u_bipush G dX9_body_4 (by decide) (u_icmp_ge G dX9_body_6 (by decide) (hY 19) (u_aload_n G dX9_body_9 rfl (t_getR G cl_9 (k := 41) (by decide) (Or.inl q5_57) rfl (Or.inr ⟨_, rfl⟩) dX9_body_10 (u_aload_n G dX9_body_13 rfl (t_getI G cl_9 (k := 42) (by decide) (Or.inl q5_58) rfl (Or.inl rfl) dX9_body_14 (u_iload_n G dX9_body_17 rfl (t_iast G dX9_body_18 (hY 19)))))))))))
set_option maxRecDepth 100000 in
set_option maxHeartbeats 4000000 in
theorem b_X9_body_19 (l : Launch) : s_B l rm_X9_body yX9_body cX9_body 2 ((none : Option FieldType)) false 19 B_X9_body_19 := fun p e s m args below meth c D ty ad A n0 φ0 Q G Y hY => (u_aload_n G dX9_body_19 rfl (t_dup G dX9_body_20 (t_getI G cl_9 (k := 42) (by decide) (Or.inl q5_58) rfl (Or.inl rfl) dX9_body_21 (u_iconst G dX9_body_24 (by decide) (u_iadd G dX9_body_25 (t_putI G cl_9 (k := 42) (by decide) (Or.inl ⟨rfl, Or.inl q5_58⟩) rfl rfl dX9_body_26 (t_vret G rfl dX9_body_29)))))))
set_option maxRecDepth 100000 in
theorem m_X9_body (l : Launch) : s_Met l yX9_body cX9_body 2 ((none : Option FieldType)) rm_X9_body false C_X9_body := by
  intro D ty ad av φ sz sh me Q hsh hC
  unfold C_X9_body at hC
  split at hC
  · exact s_met1 (P := P_X9_body) (by decide +kernel) (fun _ => ⟨rfl, rfl⟩) (fun p e s m args below meth c D ty ad A n0 φ0 Q G Y hY => s_tab_T _ (List.forall_mem_cons.mpr ⟨b_X9_body_0 l p e s m args below meth c D ty ad A n0 φ0 Q G Y hY, List.forall_mem_cons.mpr ⟨b_X9_body_19 l p e s m args below meth c D ty ad A n0 φ0 Q G Y hY, fun _ h => absurd h List.not_mem_nil⟩⟩)) hsh rfl rfl (Nat.le_of_ble_eq_true rfl) hC
  · exact hC.elim
def B_X9_looking_0 (Q : SQ) (nx : Nat → SK) : SK := (o_aload 0 (o_getR 9 9 (o_iload 1 (o_iald (o_istore 3 (o_iload 2 (o_istore 4 (o_iload 3 (o_const (.int 1) (o_ic (fun x y => x = y) (nx 20) (o_iload 3 (o_const (.int 2) (o_ic (fun x y => ¬ x = y) (o_const (.int 0) (nx 25)) (nx 20))))))))))))))
def B_X9_looking_20 (Q : SQ) (nx : Nat → SK) : SK := (o_const (.int 1) (nx 25))
def B_X9_looking_25 (Q : SQ) (nx : Nat → SK) : SK := (o_istore 5 (o_iload 3 (o_const (.int 4) (o_ic (fun x y => x = y) (nx 38) (o_iload 3 (o_const (.int 6) (o_ic (fun x y => ¬ x = y) (o_const (.int 0) (nx 43)) (nx 38))))))))
def B_X9_looking_38 (Q : SQ) (nx : Nat → SK) : SK := (o_const (.int 1) (nx 43))
def B_X9_looking_43 (Q : SQ) (nx : Nat → SK) : SK := (o_istore 6 (o_iload 3 (o_const (.int 6) (o_ic (fun x y => ¬ x = y) (nx 57) (o_aload 0 (o_const (.int 70) (o_callV C_X9_body 9 2 (nx 57))))))))
def B_X9_looking_57 (Q : SQ) (nx : Nat → SK) : SK := (o_iload 3 (o_const (.int 2) (o_ic (fun x y => ¬ x = y) (nx 73) (o_aload 0 (o_const (.int 40) (o_callV C_X9_body 9 2 (o_iload 2 (o_const (.int 1) (o_i2 (fun x y => x + y) (o_istore 4 (nx 73)))))))))))
def B_X9_looking_73 (Q : SQ) (nx : Nat → SK) : SK := (o_iload 5 (o_if (fun x => x = 0) (nx 84) (o_aload 0 (o_const (.int 20) (o_callV C_X9_body 9 2 (nx 84))))))
def B_X9_looking_84 (Q : SQ) (nx : Nat → SK) : SK := (o_iload 6 (o_if (fun x => x = 0) (nx 95) (o_aload 0 (o_const (.int 51) (o_callV C_X9_body 9 2 (nx 95))))))
def B_X9_looking_95 (Q : SQ) (nx : Nat → SK) : SK := (o_aload 0 (o_const (.int 10) (o_callV C_X9_body 9 2 (o_iload 4 (o_iload 1 (o_i2 (fun x y => x + y) (o_istore 7 (o_iload 5 (o_if (fun x => x = 0) (nx 123) (o_iload 7 (o_aload 0 (o_getR 9 10 (o_iload 1 (o_iald (o_i2 (fun x y => x + y) (o_istore 7 (nx 123)))))))))))))))))
def B_X9_looking_123 (Q : SQ) (nx : Nat → SK) : SK := (o_iload 6 (o_if (fun x => x = 0) (nx 134) (o_iload 7 (o_iload 1 (o_i2 (fun x y => x - y) (o_istore 7 (nx 134)))))))
def B_X9_looking_134 (Q : SQ) (nx : Nat → SK) : SK := (o_iload 3 (o_const (.int 6) (o_ic (fun x y => ¬ x = y) (o_iload 7 (nx 149)) (o_iload 7 (o_const (.int 2) (o_i2 (fun x y => x * y) (nx 149)))))))
def B_X9_looking_149 (Q : SQ) (nx : Nat → SK) : SK := (o_iret Q)
def P_X9_looking (Q : SQ) (nx : Nat → SK) : Nat → SK := s_tab [(0, B_X9_looking_0 Q nx), (20, B_X9_looking_20 Q nx), (25, B_X9_looking_25 Q nx), (38, B_X9_looking_38 Q nx), (43, B_X9_looking_43 Q nx), (57, B_X9_looking_57 Q nx), (73, B_X9_looking_73 Q nx), (84, B_X9_looking_84 Q nx), (95, B_X9_looking_95 Q nx), (123, B_X9_looking_123 Q nx), (134, B_X9_looking_134 Q nx), (149, B_X9_looking_149 Q nx)]
def C_X9_looking : SC := fun av sh me Q => match av with
  | [.ref a0, .int a1, .int a2] => s_wp P_X9_looking Q 0 [some (.ref a0), some (.int a1), some (.int a2), none, none, none, none, none] [] sh me
  | _ => False
abbrev rm_X9_looking : Room := { frames := 1, cells := 0, slots := 0, locals := 21 }
theorem hd_X9_looking : (yX9_looking).cls ≠ "java/lang/invoke/MethodHandle" ∧ (yX9_looking).cls ≠ "java/lang/invoke/VarHandle" ∧ (parseMethodDescriptor (yX9_looking).desc).map (fun d => d.parameters.length) = some 2 := by decide +kernel
set_option maxRecDepth 100000 in
set_option maxHeartbeats 4000000 in
theorem b_X9_looking_0 (l : Launch) : s_B l rm_X9_looking yX9_looking cX9_looking 8 ((some FieldType.int)) false 0 B_X9_looking_0 := fun p e s m args below meth c D ty ad A n0 φ0 Q G Y hY => (u_aload_n G dX9_looking_0 rfl (t_getR G cl_9 (k := 9) (by decide) (Or.inl q5_25) rfl (Or.inr ⟨_, rfl⟩) dX9_looking_1 (u_iload_n G dX9_looking_4 rfl (t_iald G dX9_looking_5 (u_istore_n G dX9_looking_6 rfl (u_iload_n G dX9_looking_7 rfl (u_istore G dX9_looking_8 (u_iload_n G dX9_looking_10 rfl (u_iconst G dX9_looking_11 (by decide) (u_icmp_eq G dX9_looking_12 (by decide) (hY 20) (u_iload_n G dX9_looking_15 rfl (u_iconst G dX9_looking_16 (by decide) (u_icmp_ne G dX9_looking_17 (by decide) (u_iconst G dX9_looking_24 (by decide) (hY 25)) (hY 20))))))))))))))
set_option maxRecDepth 100000 in
set_option maxHeartbeats 4000000 in
theorem b_X9_looking_20 (l : Launch) : s_B l rm_X9_looking yX9_looking cX9_looking 8 ((some FieldType.int)) false 20 B_X9_looking_20 := fun p e s m args below meth c D ty ad A n0 φ0 Q G Y hY => (u_iconst G dX9_looking_20 (by decide) (t_goto G dX9_looking_21 (by decide) (hY 25)))
set_option maxRecDepth 100000 in
set_option maxHeartbeats 4000000 in
theorem b_X9_looking_25 (l : Launch) : s_B l rm_X9_looking yX9_looking cX9_looking 8 ((some FieldType.int)) false 25 B_X9_looking_25 := fun p e s m args below meth c D ty ad A n0 φ0 Q G Y hY => (u_istore G dX9_looking_25 (u_iload_n G dX9_looking_27 rfl (u_iconst G dX9_looking_28 (by decide) (u_icmp_eq G dX9_looking_29 (by decide) (hY 38) (u_iload_n G dX9_looking_32 rfl (u_bipush G dX9_looking_33 (by decide) (u_icmp_ne G dX9_looking_35 (by decide) (u_iconst G dX9_looking_42 (by decide) (hY 43)) (hY 38))))))))
set_option maxRecDepth 100000 in
set_option maxHeartbeats 4000000 in
theorem b_X9_looking_38 (l : Launch) : s_B l rm_X9_looking yX9_looking cX9_looking 8 ((some FieldType.int)) false 38 B_X9_looking_38 := fun p e s m args below meth c D ty ad A n0 φ0 Q G Y hY => (u_iconst G dX9_looking_38 (by decide) (t_goto G dX9_looking_39 (by decide) (hY 43)))
set_option maxRecDepth 100000 in
set_option maxHeartbeats 4000000 in
theorem b_X9_looking_43 (l : Launch) : s_B l rm_X9_looking yX9_looking cX9_looking 8 ((some FieldType.int)) false 43 B_X9_looking_43 := fun p e s m args below meth c D ty ad A n0 φ0 Q G Y hY => (u_istore G dX9_looking_43 (u_iload_n G dX9_looking_45 rfl (u_bipush G dX9_looking_46 (by decide) (u_icmp_ne G dX9_looking_48 (by decide) (hY 57) (u_aload_n G dX9_looking_51 rfl (u_bipush G dX9_looking_52 (by decide) (t_callV G cl_9 (m_X9_body l) ⟨rfl, rfl⟩ rfl ⟨Nat.le_of_ble_eq_true rfl, Nat.le_of_ble_eq_true rfl⟩ q6_226 q1_10 (Or.inl q6_223) q6_225 qs_78 hd_X9_body dX9_looking_54 (hY 57))))))))
set_option maxRecDepth 100000 in
set_option maxHeartbeats 4000000 in
theorem b_X9_looking_57 (l : Launch) : s_B l rm_X9_looking yX9_looking cX9_looking 8 ((some FieldType.int)) false 57 B_X9_looking_57 := fun p e s m args below meth c D ty ad A n0 φ0 Q G Y hY => (u_iload_n G dX9_looking_57 rfl (u_iconst G dX9_looking_58 (by decide) (u_icmp_ne G dX9_looking_59 (by decide) (hY 73) (u_aload_n G dX9_looking_62 rfl (u_bipush G dX9_looking_63 (by decide) (t_callV G cl_9 (m_X9_body l) ⟨rfl, rfl⟩ rfl ⟨Nat.le_of_ble_eq_true rfl, Nat.le_of_ble_eq_true rfl⟩ q6_226 q1_10 (Or.inl q6_223) q6_225 qs_78 hd_X9_body dX9_looking_65 (u_iload_n G dX9_looking_68 rfl (u_iconst G dX9_looking_69 (by decide) (u_iadd G dX9_looking_70 (u_istore G dX9_looking_71 (hY 73)))))))))))
set_option maxRecDepth 100000 in
set_option maxHeartbeats 4000000 in
theorem b_X9_looking_73 (l : Launch) : s_B l rm_X9_looking yX9_looking cX9_looking 8 ((some FieldType.int)) false 73 B_X9_looking_73 := fun p e s m args below meth c D ty ad A n0 φ0 Q G Y hY => (u_iload G dX9_looking_73 (u_if_eq G dX9_looking_75 (by decide) (hY 84) (u_aload_n G dX9_looking_78 rfl (u_bipush G dX9_looking_79 (by decide) (t_callV G cl_9 (m_X9_body l) ⟨rfl, rfl⟩ rfl ⟨Nat.le_of_ble_eq_true rfl, Nat.le_of_ble_eq_true rfl⟩ q6_226 q1_10 (Or.inl q6_223) q6_225 qs_78 hd_X9_body dX9_looking_81 (hY 84))))))
set_option maxRecDepth 100000 in
set_option maxHeartbeats 4000000 in
theorem b_X9_looking_84 (l : Launch) : s_B l rm_X9_looking yX9_looking cX9_looking 8 ((some FieldType.int)) false 84 B_X9_looking_84 := fun p e s m args below meth c D ty ad A n0 φ0 Q G Y hY => (u_iload G dX9_looking_84 (u_if_eq G dX9_looking_86 (by decide) (hY 95) (u_aload_n G dX9_looking_89 rfl (u_bipush G dX9_looking_90 (by decide) (t_callV G cl_9 (m_X9_body l) ⟨rfl, rfl⟩ rfl ⟨Nat.le_of_ble_eq_true rfl, Nat.le_of_ble_eq_true rfl⟩ q6_226 q1_10 (Or.inl q6_223) q6_225 qs_78 hd_X9_body dX9_looking_92 (hY 95))))))
set_option maxRecDepth 100000 in
set_option maxHeartbeats 4000000 in
theorem b_X9_looking_95 (l : Launch) : s_B l rm_X9_looking yX9_looking cX9_looking 8 ((some FieldType.int)) false 95 B_X9_looking_95 := fun p e s m args below meth c D ty ad A n0 φ0 Q G Y hY => (u_aload_n G dX9_looking_95 rfl (u_bipush G dX9_looking_96 (by decide) (t_callV G cl_9 (m_X9_body l) ⟨rfl, rfl⟩ rfl ⟨Nat.le_of_ble_eq_true rfl, Nat.le_of_ble_eq_true rfl⟩ q6_226 q1_10 (Or.inl q6_223) q6_225 qs_78 hd_X9_body dX9_looking_98 (u_iload G dX9_looking_101 (u_iload_n G dX9_looking_103 rfl (u_iadd G dX9_looking_104 (u_istore G dX9_looking_105 (u_iload G dX9_looking_107 (u_if_eq G dX9_looking_109 (by decide) (hY 123) (u_iload G dX9_looking_112 (u_aload_n G dX9_looking_114 rfl (t_getR G cl_9 (k := 10) (by decide) (Or.inl q5_26) rfl (Or.inr ⟨_, rfl⟩) dX9_looking_115 (u_iload_n G dX9_looking_118 rfl (t_iald G dX9_looking_119 (u_iadd G dX9_looking_120 (u_istore G dX9_looking_121 (hY 123)))))))))))))))))
set_option maxRecDepth 100000 in
set_option maxHeartbeats 4000000 in
theorem b_X9_looking_123 (l : Launch) : s_B l rm_X9_looking yX9_looking cX9_looking 8 ((some FieldType.int)) false 123 B_X9_looking_123 := fun p e s m args below meth c D ty ad A n0 φ0 Q G Y hY => (u_iload G dX9_looking_123 (u_if_eq G dX9_looking_125 (by decide) (hY 134) (u_iload G dX9_looking_128 (u_iload_n G dX9_looking_130 rfl (u_isub G dX9_looking_131 (u_istore G dX9_looking_132 (hY 134)))))))
set_option maxRecDepth 100000 in
set_option maxHeartbeats 4000000 in
theorem b_X9_looking_134 (l : Launch) : s_B l rm_X9_looking yX9_looking cX9_looking 8 ((some FieldType.int)) false 134 B_X9_looking_134 := fun p e s m args below meth c D ty ad A n0 φ0 Q G Y hY => (u_iload_n G dX9_looking_134 rfl (u_bipush G dX9_looking_135 (by decide) (u_icmp_ne G dX9_looking_137 (by decide) (u_iload G dX9_looking_147 (hY 149)) (u_iload G dX9_looking_140 (u_iconst G dX9_looking_142 (by decide) (u_imul G dX9_looking_143 (t_goto G dX9_looking_144 (by decide) (hY 149))))))))
set_option maxRecDepth 100000 in
set_option maxHeartbeats 4000000 in
theorem b_X9_looking_149 (l : Launch) : s_B l rm_X9_looking yX9_looking cX9_looking 8 ((some FieldType.int)) false 149 B_X9_looking_149 := fun p e s m args below meth c D ty ad A n0 φ0 Q G Y hY => (t_iret G rfl dX9_looking_149)
set_option maxRecDepth 100000 in
theorem m_X9_looking (l : Launch) : s_Met l yX9_looking cX9_looking 8 ((some FieldType.int)) rm_X9_looking false C_X9_looking := by
  intro D ty ad av φ sz sh me Q hsh hC
  unfold C_X9_looking at hC
  split at hC
  · exact s_met1 (P := P_X9_looking) (by decide +kernel) (fun _ => ⟨rfl, rfl⟩) (fun p e s m args below meth c D ty ad A n0 φ0 Q G Y hY => s_tab_T _ (List.forall_mem_cons.mpr ⟨b_X9_looking_0 l p e s m args below meth c D ty ad A n0 φ0 Q G Y hY, List.forall_mem_cons.mpr ⟨b_X9_looking_20 l p e s m args below meth c D ty ad A n0 φ0 Q G Y hY, List.forall_mem_cons.mpr ⟨b_X9_looking_25 l p e s m args below meth c D ty ad A n0 φ0 Q G Y hY, List.forall_mem_cons.mpr ⟨b_X9_looking_38 l p e s m args below meth c D ty ad A n0 φ0 Q G Y hY, List.forall_mem_cons.mpr ⟨b_X9_looking_43 l p e s m args below meth c D ty ad A n0 φ0 Q G Y hY, List.forall_mem_cons.mpr ⟨b_X9_looking_57 l p e s m args below meth c D ty ad A n0 φ0 Q G Y hY, List.forall_mem_cons.mpr ⟨b_X9_looking_73 l p e s m args below meth c D ty ad A n0 φ0 Q G Y hY, List.forall_mem_cons.mpr ⟨b_X9_looking_84 l p e s m args below meth c D ty ad A n0 φ0 Q G Y hY, List.forall_mem_cons.mpr ⟨b_X9_looking_95 l p e s m args below meth c D ty ad A n0 φ0 Q G Y hY, List.forall_mem_cons.mpr ⟨b_X9_looking_123 l p e s m args below meth c D ty ad A n0 φ0 Q G Y hY, List.forall_mem_cons.mpr ⟨b_X9_looking_134 l p e s m args below meth c D ty ad A n0 φ0 Q G Y hY, List.forall_mem_cons.mpr ⟨b_X9_looking_149 l p e s m args below meth c D ty ad A n0 φ0 Q G Y hY, fun _ h => absurd h List.not_mem_nil⟩⟩⟩⟩⟩⟩⟩⟩⟩⟩⟩⟩)) hsh rfl rfl (Nat.le_of_ble_eq_true rfl) hC
  · exact hC.elim
def B_X9_walking_0 (Q : SQ) (nx : Nat → SK) : SK := (o_aload 0 (o_getR 9 9 (o_iload 1 (o_iald (o_istore 3 (o_iload 2 (o_istore 4 (o_iload 3 (o_const (.int 6) (o_ic (fun x y => ¬ x = y) (nx 32) (o_aload 0 (o_const (.int 71) (o_callV C_X9_body 9 2 (o_iload 2 (o_aload 0 (o_getR 9 10 (o_iload 1 (o_iald (o_i2 (fun x y => x - y) (o_istore 4 (nx 32)))))))))))))))))))))
def B_X9_walking_32 (Q : SQ) (nx : Nat → SK) : SK := (o_iload 3 (o_const (.int 3) (o_ic (fun x y => x = y) (nx 42) (o_iload 3 (o_const (.int 5) (o_ic (fun x y => ¬ x = y) (o_const (.int 0) (nx 47)) (nx 42)))))))
def B_X9_walking_42 (Q : SQ) (nx : Nat → SK) : SK := (o_const (.int 1) (nx 47))
def B_X9_walking_47 (Q : SQ) (nx : Nat → SK) : SK := (o_istore 5 (o_iload 5 (o_if (fun x => x = 0) (nx 60) (o_aload 0 (o_const (.int 30) (o_callV C_X9_body 9 2 (nx 60)))))))
def B_X9_walking_60 (Q : SQ) (nx : Nat → SK) : SK := (o_aload 0 (o_const (.int 11) (o_callV C_X9_body 9 2 (o_aload 0 (o_iload 1 (o_iload 4 (o_callV C_X9_looking 9 3 (o_const (.int 2) (o_i2 (fun x y => x * y) (o_istore 6 (o_iload 5 (o_if (fun x => x = 0) (o_iload 6 (nx 91)) (o_iload 6 (o_const (.int 3) (o_i2 (fun x y => x * y) (nx 91))))))))))))))))
def B_X9_walking_91 (Q : SQ) (nx : Nat → SK) : SK := (o_iret Q)
def P_X9_walking (Q : SQ) (nx : Nat → SK) : Nat → SK := s_tab [(0, B_X9_walking_0 Q nx), (32, B_X9_walking_32 Q nx), (42, B_X9_walking_42 Q nx), (47, B_X9_walking_47 Q nx), (60, B_X9_walking_60 Q nx), (91, B_X9_walking_91 Q nx)]
def C_X9_walking : SC := fun av sh me Q => match av with
  | [.ref a0, .int a1, .int a2] => s_wp P_X9_walking Q 0 [some (.ref a0), some (.int a1), some (.int a2), none, none, none, none] [] sh me
  | _ => False
abbrev rm_X9_walking : Room := { frames := 2, cells := 0, slots := 0, locals := 48 }
theorem hd_X9_walking : (yX9_walking).cls ≠ "java/lang/invoke/MethodHandle" ∧ (yX9_walking).cls ≠ "java/lang/invoke/VarHandle" ∧ (parseMethodDescriptor (yX9_walking).desc).map (fun d => d.parameters.length) = some 2 := by decide +kernel
set_option maxRecDepth 100000 in
set_option maxHeartbeats 4000000 in
theorem b_X9_walking_0 (l : Launch) : s_B l rm_X9_walking yX9_walking cX9_walking 7 ((some FieldType.int)) false 0 B_X9_walking_0 := fun p e s m args below meth c D ty ad A n0 φ0 Q G Y hY => (u_aload_n G dX9_walking_0 rfl (t_getR G cl_9 (k := 9) (by decide) (Or.inl q5_25) rfl (Or.inr ⟨_, rfl⟩) dX9_walking_1 (u_iload_n G dX9_walking_4 rfl (t_iald G dX9_walking_5 (u_istore_n G dX9_walking_6 rfl (u_iload_n G dX9_walking_7 rfl (u_istore G dX9_walking_8 (u_iload_n G dX9_walking_10 rfl (u_bipush G dX9_walking_11 (by decide) (u_icmp_ne G dX9_walking_13 (by decide) (hY 32) (u_aload_n G dX9_walking_16 rfl (u_bipush G dX9_walking_17 (by decide) (t_callV G cl_9 (m_X9_body l) ⟨rfl, rfl⟩ rfl ⟨Nat.le_of_ble_eq_true rfl, Nat.le_of_ble_eq_true rfl⟩ q6_226 q1_10 (Or.inl q6_223) q6_225 qs_78 hd_X9_body dX9_walking_19 (u_iload_n G dX9_walking_22 rfl (u_aload_n G dX9_walking_23 rfl (t_getR G cl_9 (k := 10) (by decide) (Or.inl q5_26) rfl (Or.inr ⟨_, rfl⟩) dX9_walking_24 (u_iload_n G dX9_walking_27 rfl (t_iald G dX9_walking_28 (u_isub G dX9_walking_29 (u_istore G dX9_walking_30 (hY 32)))))))))))))))))))))
set_option maxRecDepth 100000 in
set_option maxHeartbeats 4000000 in
theorem b_X9_walking_32 (l : Launch) : s_B l rm_X9_walking yX9_walking cX9_walking 7 ((some FieldType.int)) false 32 B_X9_walking_32 := fun p e s m args below meth c D ty ad A n0 φ0 Q G Y hY => (u_iload_n G dX9_walking_32 rfl (u_iconst G dX9_walking_33 (by decide) (u_icmp_eq G dX9_walking_34 (by decide) (hY 42) (u_iload_n G dX9_walking_37 rfl (u_iconst G dX9_walking_38 (by decide) (u_icmp_ne G dX9_walking_39 (by decide) (u_iconst G dX9_walking_46 (by decide) (hY 47)) (hY 42)))))))
set_option maxRecDepth 100000 in
set_option maxHeartbeats 4000000 in
theorem b_X9_walking_42 (l : Launch) : s_B l rm_X9_walking yX9_walking cX9_walking 7 ((some FieldType.int)) false 42 B_X9_walking_42 := fun p e s m args below meth c D ty ad A n0 φ0 Q G Y hY => (u_iconst G dX9_walking_42 (by decide) (t_goto G dX9_walking_43 (by decide) (hY 47)))
set_option maxRecDepth 100000 in
set_option maxHeartbeats 4000000 in
theorem b_X9_walking_47 (l : Launch) : s_B l rm_X9_walking yX9_walking cX9_walking 7 ((some FieldType.int)) false 47 B_X9_walking_47 := fun p e s m args below meth c D ty ad A n0 φ0 Q G Y hY => (u_istore G dX9_walking_47 (u_iload G dX9_walking_49 (u_if_eq G dX9_walking_51 (by decide) (hY 60) (u_aload_n G dX9_walking_54 rfl (u_bipush G dX9_walking_55 (by decide) (t_callV G cl_9 (m_X9_body l) ⟨rfl, rfl⟩ rfl ⟨Nat.le_of_ble_eq_true rfl, Nat.le_of_ble_eq_true rfl⟩ q6_226 q1_10 (Or.inl q6_223) q6_225 qs_78 hd_X9_body dX9_walking_57 (hY 60)))))))
set_option maxRecDepth 100000 in
set_option maxHeartbeats 4000000 in
theorem b_X9_walking_60 (l : Launch) : s_B l rm_X9_walking yX9_walking cX9_walking 7 ((some FieldType.int)) false 60 B_X9_walking_60 := fun p e s m args below meth c D ty ad A n0 φ0 Q G Y hY => (u_aload_n G dX9_walking_60 rfl (u_bipush G dX9_walking_61 (by decide) (t_callV G cl_9 (m_X9_body l) ⟨rfl, rfl⟩ rfl ⟨Nat.le_of_ble_eq_true rfl, Nat.le_of_ble_eq_true rfl⟩ q6_226 q1_10 (Or.inl q6_223) q6_225 qs_78 hd_X9_body dX9_walking_63 (u_aload_n G dX9_walking_66 rfl (u_iload_n G dX9_walking_67 rfl (u_iload G dX9_walking_68 (t_callV G cl_9 (m_X9_looking l) ⟨rfl, rfl⟩ rfl ⟨Nat.le_of_ble_eq_true rfl, Nat.le_of_ble_eq_true rfl⟩ q6_222 q1_10 (Or.inl q6_219) q6_221 qs_77 hd_X9_looking dX9_walking_70 (u_iconst G dX9_walking_73 (by decide) (u_imul G dX9_walking_74 (u_istore G dX9_walking_75 (u_iload G dX9_walking_77 (u_if_eq G dX9_walking_79 (by decide) (u_iload G dX9_walking_89 (hY 91)) (u_iload G dX9_walking_82 (u_iconst G dX9_walking_84 (by decide) (u_imul G dX9_walking_85 (t_goto G dX9_walking_86 (by decide) (hY 91)))))))))))))))))
set_option maxRecDepth 100000 in
set_option maxHeartbeats 4000000 in
theorem b_X9_walking_91 (l : Launch) : s_B l rm_X9_walking yX9_walking cX9_walking 7 ((some FieldType.int)) false 91 B_X9_walking_91 := fun p e s m args below meth c D ty ad A n0 φ0 Q G Y hY => (t_iret G rfl dX9_walking_91)
set_option maxRecDepth 100000 in
theorem m_X9_walking (l : Launch) : s_Met l yX9_walking cX9_walking 7 ((some FieldType.int)) rm_X9_walking false C_X9_walking := by
  intro D ty ad av φ sz sh me Q hsh hC
  unfold C_X9_walking at hC
  split at hC
  · exact s_met1 (P := P_X9_walking) (by decide +kernel) (fun _ => ⟨rfl, rfl⟩) (fun p e s m args below meth c D ty ad A n0 φ0 Q G Y hY => s_tab_T _ (List.forall_mem_cons.mpr ⟨b_X9_walking_0 l p e s m args below meth c D ty ad A n0 φ0 Q G Y hY, List.forall_mem_cons.mpr ⟨b_X9_walking_32 l p e s m args below meth c D ty ad A n0 φ0 Q G Y hY, List.forall_mem_cons.mpr ⟨b_X9_walking_42 l p e s m args below meth c D ty ad A n0 φ0 Q G Y hY, List.forall_mem_cons.mpr ⟨b_X9_walking_47 l p e s m args below meth c D ty ad A n0 φ0 Q G Y hY, List.forall_mem_cons.mpr ⟨b_X9_walking_60 l p e s m args below meth c D ty ad A n0 φ0 Q G Y hY, List.forall_mem_cons.mpr ⟨b_X9_walking_91 l p e s m args below meth c D ty ad A n0 φ0 Q G Y hY, fun _ h => absurd h List.not_mem_nil⟩⟩⟩⟩⟩⟩)) hsh rfl rfl (Nat.le_of_ble_eq_true rfl) hC
  · exact hC.elim
def B_X9_paying_0 (Q : SQ) (nx : Nat → SK) : SK := (o_aload 0 (o_getR 9 9 (o_iload 1 (o_iald (o_istore 3 (o_iload 3 (o_const (.int 4) (o_ic (fun x y => x = y) (nx 18) (o_iload 3 (o_const (.int 6) (o_ic (fun x y => ¬ x = y) (o_const (.int 0) (nx 23)) (nx 18))))))))))))
def B_X9_paying_18 (Q : SQ) (nx : Nat → SK) : SK := (o_const (.int 1) (nx 23))
def B_X9_paying_23 (Q : SQ) (nx : Nat → SK) : SK := (o_istore 4 (o_iload 3 (o_const (.int 5) (o_ic (fun x y => ¬ x = y) (nx 36) (o_aload 0 (o_const (.int 60) (o_callV C_X9_body 9 2 (nx 36))))))))
def B_X9_paying_36 (Q : SQ) (nx : Nat → SK) : SK := (o_iload 4 (o_if (fun x => x = 0) (nx 47) (o_aload 0 (o_const (.int 50) (o_callV C_X9_body 9 2 (nx 47))))))
def B_X9_paying_47 (Q : SQ) (nx : Nat → SK) : SK := (o_aload 0 (o_const (.int 12) (o_callV C_X9_body 9 2 (o_aload 0 (o_iload 1 (o_iload 2 (o_callV C_X9_walking 9 3 (o_istore 5 (o_iload 5 (o_aload 0 (o_iload 1 (o_iload 2 (o_aload 0 (o_getR 9 10 (o_iload 1 (o_iald (o_i2 (fun x y => x - y) (o_callV C_X9_looking 9 3 (o_i2 (fun x y => x ^^^ y) (o_istore 5 (o_iload 4 (o_if (fun x => x = 0) (o_iload 3 (o_const (.int 5) (o_ic (fun x y => ¬ x = y) (o_iload 5 (nx 104)) (o_iload 5 (o_const (.int 5) (o_i2 (fun x y => x ^^^ y) (nx 104))))))) (o_iload 5 (o_i1 (fun x => -x) (nx 104)))))))))))))))))))))))))
def B_X9_paying_104 (Q : SQ) (nx : Nat → SK) : SK := (o_iret Q)
def P_X9_paying (Q : SQ) (nx : Nat → SK) : Nat → SK := s_tab [(0, B_X9_paying_0 Q nx), (18, B_X9_paying_18 Q nx), (23, B_X9_paying_23 Q nx), (36, B_X9_paying_36 Q nx), (47, B_X9_paying_47 Q nx), (104, B_X9_paying_104 Q nx)]
def C_X9_paying : SC := fun av sh me Q => match av with
  | [.ref a0, .int a1, .int a2] => s_wp P_X9_paying Q 0 [some (.ref a0), some (.int a1), some (.int a2), none, none, none] [] sh me
  | _ => False
abbrev rm_X9_paying : Room := { frames := 3, cells := 0, slots := 0, locals := 74 }
theorem hd_X9_paying : (yX9_paying).cls ≠ "java/lang/invoke/MethodHandle" ∧ (yX9_paying).cls ≠ "java/lang/invoke/VarHandle" ∧ (parseMethodDescriptor (yX9_paying).desc).map (fun d => d.parameters.length) = some 2 := by decide +kernel
set_option maxRecDepth 100000 in
set_option maxHeartbeats 4000000 in
theorem b_X9_paying_0 (l : Launch) : s_B l rm_X9_paying yX9_paying cX9_paying 6 ((some FieldType.int)) false 0 B_X9_paying_0 := fun p e s m args below meth c D ty ad A n0 φ0 Q G Y hY => (u_aload_n G dX9_paying_0 rfl (t_getR G cl_9 (k := 9) (by decide) (Or.inl q5_25) rfl (Or.inr ⟨_, rfl⟩) dX9_paying_1 (u_iload_n G dX9_paying_4 rfl (t_iald G dX9_paying_5 (u_istore_n G dX9_paying_6 rfl (u_iload_n G dX9_paying_7 rfl (u_iconst G dX9_paying_8 (by decide) (u_icmp_eq G dX9_paying_9 (by decide) (hY 18) (u_iload_n G dX9_paying_12 rfl (u_bipush G dX9_paying_13 (by decide) (u_icmp_ne G dX9_paying_15 (by decide) (u_iconst G dX9_paying_22 (by decide) (hY 23)) (hY 18))))))))))))
set_option maxRecDepth 100000 in
set_option maxHeartbeats 4000000 in
theorem b_X9_paying_18 (l : Launch) : s_B l rm_X9_paying yX9_paying cX9_paying 6 ((some FieldType.int)) false 18 B_X9_paying_18 := fun p e s m args below meth c D ty ad A n0 φ0 Q G Y hY => (u_iconst G dX9_paying_18 (by decide) (t_goto G dX9_paying_19 (by decide) (hY 23)))
set_option maxRecDepth 100000 in
set_option maxHeartbeats 4000000 in
theorem b_X9_paying_23 (l : Launch) : s_B l rm_X9_paying yX9_paying cX9_paying 6 ((some FieldType.int)) false 23 B_X9_paying_23 := fun p e s m args below meth c D ty ad A n0 φ0 Q G Y hY => (u_istore G dX9_paying_23 (u_iload_n G dX9_paying_25 rfl (u_iconst G dX9_paying_26 (by decide) (u_icmp_ne G dX9_paying_27 (by decide) (hY 36) (u_aload_n G dX9_paying_30 rfl (u_bipush G dX9_paying_31 (by decide) (t_callV G cl_9 (m_X9_body l) ⟨rfl, rfl⟩ rfl ⟨Nat.le_of_ble_eq_true rfl, Nat.le_of_ble_eq_true rfl⟩ q6_226 q1_10 (Or.inl q6_223) q6_225 qs_78 hd_X9_body dX9_paying_33 (hY 36))))))))
set_option maxRecDepth 100000 in
set_option maxHeartbeats 4000000 in
theorem b_X9_paying_36 (l : Launch) : s_B l rm_X9_paying yX9_paying cX9_paying 6 ((some FieldType.int)) false 36 B_X9_paying_36 := fun p e s m args below meth c D ty ad A n0 φ0 Q G Y hY => (u_iload G dX9_paying_36 (u_if_eq G dX9_paying_38 (by decide) (hY 47) (u_aload_n G dX9_paying_41 rfl (u_bipush G dX9_paying_42 (by decide) (t_callV G cl_9 (m_X9_body l) ⟨rfl, rfl⟩ rfl ⟨Nat.le_of_ble_eq_true rfl, Nat.le_of_ble_eq_true rfl⟩ q6_226 q1_10 (Or.inl q6_223) q6_225 qs_78 hd_X9_body dX9_paying_44 (hY 47))))))
set_option maxRecDepth 100000 in
set_option maxHeartbeats 4000000 in
theorem b_X9_paying_47 (l : Launch) : s_B l rm_X9_paying yX9_paying cX9_paying 6 ((some FieldType.int)) false 47 B_X9_paying_47 := fun p e s m args below meth c D ty ad A n0 φ0 Q G Y hY => (u_aload_n G dX9_paying_47 rfl (u_bipush G dX9_paying_48 (by decide) (t_callV G cl_9 (m_X9_body l) ⟨rfl, rfl⟩ rfl ⟨Nat.le_of_ble_eq_true rfl, Nat.le_of_ble_eq_true rfl⟩ q6_226 q1_10 (Or.inl q6_223) q6_225 qs_78 hd_X9_body dX9_paying_50 (u_aload_n G dX9_paying_53 rfl (u_iload_n G dX9_paying_54 rfl (u_iload_n G dX9_paying_55 rfl (t_callV G cl_9 (m_X9_walking l) ⟨rfl, rfl⟩ rfl ⟨Nat.le_of_ble_eq_true rfl, Nat.le_of_ble_eq_true rfl⟩ q6_230 q1_10 (Or.inl q6_227) q6_229 qs_79 hd_X9_walking dX9_paying_56 (u_istore G dX9_paying_59 (u_iload G dX9_paying_61 (u_aload_n G dX9_paying_63 rfl (u_iload_n G dX9_paying_64 rfl (u_iload_n G dX9_paying_65 rfl (u_aload_n G dX9_paying_66 rfl (t_getR G cl_9 (k := 10) (by decide) (Or.inl q5_26) rfl (Or.inr ⟨_, rfl⟩) dX9_paying_67 (u_iload_n G dX9_paying_70 rfl (t_iald G dX9_paying_71 (u_isub G dX9_paying_72 (t_callV G cl_9 (m_X9_looking l) ⟨rfl, rfl⟩ rfl ⟨Nat.le_of_ble_eq_true rfl, Nat.le_of_ble_eq_true rfl⟩ q6_222 q1_10 (Or.inl q6_219) q6_221 qs_77 hd_X9_looking dX9_paying_73 (u_ixor G dX9_paying_76 (u_istore G dX9_paying_77 (u_iload G dX9_paying_79 (u_if_eq G dX9_paying_81 (by decide) (u_iload_n G dX9_paying_90 rfl (u_iconst G dX9_paying_91 (by decide) (u_icmp_ne G dX9_paying_92 (by decide) (u_iload G dX9_paying_102 (hY 104)) (u_iload G dX9_paying_95 (u_iconst G dX9_paying_97 (by decide) (u_ixor G dX9_paying_98 (t_goto G dX9_paying_99 (by decide) (hY 104)))))))) (u_iload G dX9_paying_84 (u_ineg G dX9_paying_86 (t_goto G dX9_paying_87 (by decide) (hY 104))))))))))))))))))))))))))
set_option maxRecDepth 100000 in
set_option maxHeartbeats 4000000 in
theorem b_X9_paying_104 (l : Launch) : s_B l rm_X9_paying yX9_paying cX9_paying 6 ((some FieldType.int)) false 104 B_X9_paying_104 := fun p e s m args below meth c D ty ad A n0 φ0 Q G Y hY => (t_iret G rfl dX9_paying_104)
set_option maxRecDepth 100000 in
theorem m_X9_paying (l : Launch) : s_Met l yX9_paying cX9_paying 6 ((some FieldType.int)) rm_X9_paying false C_X9_paying := by
  intro D ty ad av φ sz sh me Q hsh hC
  unfold C_X9_paying at hC
  split at hC
  · exact s_met1 (P := P_X9_paying) (by decide +kernel) (fun _ => ⟨rfl, rfl⟩) (fun p e s m args below meth c D ty ad A n0 φ0 Q G Y hY => s_tab_T _ (List.forall_mem_cons.mpr ⟨b_X9_paying_0 l p e s m args below meth c D ty ad A n0 φ0 Q G Y hY, List.forall_mem_cons.mpr ⟨b_X9_paying_18 l p e s m args below meth c D ty ad A n0 φ0 Q G Y hY, List.forall_mem_cons.mpr ⟨b_X9_paying_23 l p e s m args below meth c D ty ad A n0 φ0 Q G Y hY, List.forall_mem_cons.mpr ⟨b_X9_paying_36 l p e s m args below meth c D ty ad A n0 φ0 Q G Y hY, List.forall_mem_cons.mpr ⟨b_X9_paying_47 l p e s m args below meth c D ty ad A n0 φ0 Q G Y hY, List.forall_mem_cons.mpr ⟨b_X9_paying_104 l p e s m args below meth c D ty ad A n0 φ0 Q G Y hY, fun _ h => absurd h List.not_mem_nil⟩⟩⟩⟩⟩⟩)) hsh rfl rfl (Nat.le_of_ble_eq_true rfl) hC
  · exact hC.elim
