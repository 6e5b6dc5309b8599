def B_X2_measure_0 (Q : SQ) (nx : Nat → SK) : SK := (o_aload 0 (o_getR 2 3 (o_const (.int 268435456) (o_call C_J7_fill_53178 2 (o_aload 0 (o_getR 2 3 (o_iload 1 (o_const (.int 0) (o_iast (o_const (.int 1) (o_istore 2 (o_const (.int 0) (o_istore 3 (nx 20))))))))))))))
def B_X2_measure_20 (Q : SQ) (nx : Nat → SK) : SK := (o_iload 3 (o_const (.int 36) (o_ic (fun x y => y ≤ x) (nx 41) (o_iload 2 (o_if (fun x => x = 0) (nx 41) (o_aload 0 (o_callV C_X2_shortenAll 2 1 (o_istore 2 (o_iinc 3 1 (nx 20))))))))))
def B_X2_measure_41 (Q : SQ) (nx : Nat → SK) : SK := (o_vret Q)
def P_X2_measure (Q : SQ) (nx : Nat → SK) : Nat → SK := s_tab [(0, B_X2_measure_0 Q nx), (20, B_X2_measure_20 Q nx), (41, B_X2_measure_41 Q nx)]
def C_X2_measure : SC := fun av sh me Q => match av with
  | [.ref a0, .int a1] => s_wp P_X2_measure Q 0 [some (.ref a0), some (.int a1), none, none] [] sh me
  | _ => False
abbrev rm_X2_measure : Room := { frames := 4, cells := 0, slots := 0, locals := 89 }
theorem hd_X2_measure : (yX2_measure).cls ≠ "java/lang/invoke/MethodHandle" ∧ (yX2_measure).cls ≠ "java/lang/invoke/VarHandle" ∧ (parseMethodDescriptor (yX2_measure).desc).map (fun d => d.parameters.length) = some 1 := by decide +kernel
set_option maxRecDepth 100000 in
set_option maxHeartbeats 4000000 in
theorem b_X2_measure_0 (l : Launch) : s_B l rm_X2_measure yX2_measure cX2_measure 4 ((none : Option FieldType)) false 0 B_X2_measure_0 := fun p e s m args below meth c D ty ad A n0 φ0 Q G Y hY => (u_aload_n G dX2_measure_0 rfl (t_getR G cl_2 (k := 3) (by decide) (Or.inl q1_188) rfl (Or.inr ⟨_, rfl⟩) dX2_measure_1 (u_ldc G q4_30 dX2_measure_4 (t_callS G (m_J7_fill_53178 l) ⟨rfl, rfl⟩ rfl ⟨Nat.le_of_ble_eq_true rfl, Nat.le_of_ble_eq_true rfl⟩ q4_37 q1_11 (Or.inl q4_35) q4_36 hd_J7_fill_53178 dX2_measure_6 (u_aload_n G dX2_measure_9 rfl (t_getR G cl_2 (k := 3) (by decide) (Or.inl q1_188) rfl (Or.inr ⟨_, rfl⟩) dX2_measure_10 (u_iload_n G dX2_measure_13 rfl (u_iconst G dX2_measure_14 (by decide) (t_iast G dX2_measure_15 (u_iconst G dX2_measure_16 (by decide) (u_istore_n G dX2_measure_17 rfl (u_iconst G dX2_measure_18 (by decide) (u_istore_n G dX2_measure_19 rfl (hY 20))))))))))))))
set_option maxRecDepth 100000 in
set_option maxHeartbeats 4000000 in
theorem b_X2_measure_20 (l : Launch) : s_B l rm_X2_measure yX2_measure cX2_measure 4 ((none : Option FieldType)) false 20 B_X2_measure_20 := fun p e s m args below meth c D ty ad A n0 φ0 Q G Y hY => (u_iload_n G dX2_measure_20 rfl (u_bipush G dX2_measure_21 (by decide) (u_icmp_ge G dX2_measure_23 (by decide) (hY 41) (u_iload_n G dX2_measure_26 rfl (u_if_eq G dX2_measure_27 (by decide) (hY 41) (u_aload_n G dX2_measure_30 rfl (t_callV G cl_2 (m_X2_shortenAll l) ⟨rfl, rfl⟩ rfl ⟨Nat.le_of_ble_eq_true rfl, Nat.le_of_ble_eq_true rfl⟩ q4_41 q1_5 (Or.inl q4_38) q4_40 qs_23 hd_X2_shortenAll dX2_measure_31 (u_istore_n G dX2_measure_34 rfl (t_iinc G dX2_measure_35 (by decide) (t_goto G dX2_measure_38 (by decide) (hY 20)))))))))))
set_option maxRecDepth 100000 in
set_option maxHeartbeats 4000000 in
theorem b_X2_measure_41 (l : Launch) : s_B l rm_X2_measure yX2_measure cX2_measure 4 ((none : Option FieldType)) false 41 B_X2_measure_41 := fun p e s m args below meth c D ty ad A n0 φ0 Q G Y hY => (t_vret G rfl dX2_measure_41)
set_option maxRecDepth 100000 in
theorem m_X2_measure (l : Launch) : s_Met l yX2_measure cX2_measure 4 ((none : Option FieldType)) rm_X2_measure false C_X2_measure := by
  intro D ty ad av φ sz sh me Q hsh hC
  unfold C_X2_measure at hC
  split at hC
  · exact s_met1 (P := P_X2_measure) (by decide +kernel) (fun _ => ⟨rfl, rfl⟩) (fun p e s m args below meth c D ty ad A n0 φ0 Q G Y hY => s_tab_T _ (List.forall_mem_cons.mpr ⟨b_X2_measure_0 l p e s m args below meth c D ty ad A n0 φ0 Q G Y hY, List.forall_mem_cons.mpr ⟨b_X2_measure_20 l p e s m args below meth c D ty ad A n0 φ0 Q G Y hY, List.forall_mem_cons.mpr ⟨b_X2_measure_41 l p e s m args below meth c D ty ad A n0 φ0 Q G Y hY, fun _ h => absurd h List.not_mem_nil⟩⟩⟩)) hsh rfl rfl (Nat.le_of_ble_eq_true rfl) hC
  · exact hC.elim
def B_X8_bit_0 (Q : SQ) (nx : Nat → SK) : SK := (o_iload 0 (o_if (fun x => x = 0) (o_const (.int 0) (nx 9)) (o_const (.int 1) (nx 9))))
def B_X8_bit_9 (Q : SQ) (nx : Nat → SK) : SK := (o_iret Q)
def P_X8_bit (Q : SQ) (nx : Nat → SK) : Nat → SK := s_tab [(0, B_X8_bit_0 Q nx), (9, B_X8_bit_9 Q nx)]
def C_X8_bit : SC := fun av sh me Q => match av with
  | [.int a0] => s_wp P_X8_bit Q 0 [some (.int a0)] [] sh me
  | _ => False
abbrev rm_X8_bit : Room := { frames := 0, cells := 0, slots := 0, locals := 0 }
theorem hd_X8_bit : (yX8_bit).cls ≠ "java/lang/invoke/MethodHandle" ∧ (yX8_bit).cls ≠ "java/lang/invoke/VarHandle" ∧ (parseMethodDescriptor (yX8_bit).desc).map (fun d => d.parameters.length) = some 1 := by decide +kernel
set_option maxRecDepth 100000 in
set_option maxHeartbeats 4000000 in
theorem b_X8_bit_0 (l : Launch) : s_B l rm_X8_bit yX8_bit cX8_bit 1 ((some FieldType.int)) false 0 B_X8_bit_0 := fun p e s m args below meth c D ty ad A n0 φ0 Q G Y hY => (u_iload_n G dX8_bit_0 rfl (u_if_eq G dX8_bit_1 (by decide) (u_iconst G dX8_bit_8 (by decide) (hY 9)) (u_iconst G dX8_bit_4 (by decide) (t_goto G dX8_bit_5 (by decide) (hY 9)))))
set_option maxRecDepth 100000 in
set_option maxHeartbeats 4000000 in
theorem b_X8_bit_9 (l : Launch) : s_B l rm_X8_bit yX8_bit cX8_bit 1 ((some FieldType.int)) false 9 B_X8_bit_9 := fun p e s m args below meth c D ty ad A n0 φ0 Q G Y hY => (t_iret G rfl dX8_bit_9)
set_option maxRecDepth 100000 in
theorem m_X8_bit (l : Launch) : s_Met l yX8_bit cX8_bit 1 ((some FieldType.int)) rm_X8_bit false C_X8_bit := by
  intro D ty ad av φ sz sh me Q hsh hC
  unfold C_X8_bit at hC
  split at hC
  · exact s_met1 (P := P_X8_bit) (by decide +kernel) (fun _ => ⟨rfl, rfl⟩) (fun p e s m args below meth c D ty ad A n0 φ0 Q G Y hY => s_tab_T _ (List.forall_mem_cons.mpr ⟨b_X8_bit_0 l p e s m args below meth c D ty ad A n0 φ0 Q G Y hY, List.forall_mem_cons.mpr ⟨b_X8_bit_9 l p e s m args below meth c D ty ad A n0 φ0 Q G Y hY, fun _ h => absurd h List.not_mem_nil⟩⟩)) hsh rfl rfl (Nat.le_of_ble_eq_true rfl) hC
  · exact hC.elim
def B_X2_seersOf_0 (Q : SQ) (nx : Nat → SK) : SK := (o_aload 0 (o_iload 1 (o_callV C_X7_viewFrom 7 2 (o_lstore 2 (o_const (.int 0) (o_istore 4 (o_const (.int 0) (o_istore 5 (nx 12)))))))))
def B_X2_seersOf_12 (Q : SQ) (nx : Nat → SK) : SK := (o_iload 5 (o_aload 0 (o_getI 7 1 (o_ic (fun x y => y ≤ x) (o_iload 4 (o_iret Q)) (o_iload 4 (o_aload 0 (o_getR 7 0 (o_iload 5 (o_aald 12 (o_const (.int 3) (o_callV C_X1_isOf 1 2 (o_if (fun x => ¬ x = 0) (nx 58) (o_lload 2 (o_aload 0 (o_getR 7 0 (o_iload 5 (o_aald 12 (o_getI 1 5 (o_call C_X8_hasBit 2 (o_if (fun x => x = 0) (nx 58) (o_const (.int 1) (nx 59))))))))))))))))))))))
def B_X2_seersOf_58 (Q : SQ) (nx : Nat → SK) : SK := (o_const (.int 0) (nx 59))
def B_X2_seersOf_59 (Q : SQ) (nx : Nat → SK) : SK := (o_call C_X8_bit 1 (o_i2 (fun x y => x + y) (o_istore 4 (o_iinc 5 1 (nx 12)))))
def P_X2_seersOf (Q : SQ) (nx : Nat → SK) : Nat → SK := s_tab [(0, B_X2_seersOf_0 Q nx), (12, B_X2_seersOf_12 Q nx), (58, B_X2_seersOf_58 Q nx), (59, B_X2_seersOf_59 Q nx)]
def C_X2_seersOf : SC := fun av sh me Q => match av with
  | [.ref a0, .int a1] => s_wp P_X2_seersOf Q 0 [some (.ref a0), some (.int a1), none, none, none, none] [] sh me
  | _ => False
abbrev rm_X2_seersOf : Room := { frames := 2, cells := 0, slots := 0, locals := 47 }
theorem hd_X2_seersOf : (yX2_seersOf).cls ≠ "java/lang/invoke/MethodHandle" ∧ (yX2_seersOf).cls ≠ "java/lang/invoke/VarHandle" ∧ (parseMethodDescriptor (yX2_seersOf).desc).map (fun d => d.parameters.length) = some 2 := by decide +kernel
set_option maxRecDepth 100000 in
set_option maxHeartbeats 4000000 in
theorem b_X2_seersOf_0 (l : Launch) : s_B l rm_X2_seersOf yX2_seersOf cX2_seersOf 6 ((some FieldType.int)) false 0 B_X2_seersOf_0 := fun p e s m args below meth c D ty ad A n0 φ0 Q G Y hY => (u_aload_n G dX2_seersOf_0 rfl (u_iload_n G dX2_seersOf_1 rfl (t_callV G cl_7 (m_X7_viewFrom l) ⟨rfl, rfl⟩ rfl ⟨Nat.le_of_ble_eq_true rfl, Nat.le_of_ble_eq_true rfl⟩ q3_177 q1_2 (Or.inl q4_123) q3_175 q3_176 hd_X7_viewFrom dX2_seersOf_2 (u_lstore_n G dX2_seersOf_5 rfl (u_iconst G dX2_seersOf_6 (by decide) (u_istore G dX2_seersOf_7 (u_iconst G dX2_seersOf_9 (by decide) (u_istore G dX2_seersOf_10 (hY 12)))))))))
set_option maxRecDepth 100000 in
set_option maxHeartbeats 4000000 in
theorem b_X2_seersOf_12 (l : Launch) : s_B l rm_X2_seersOf yX2_seersOf cX2_seersOf 6 ((some FieldType.int)) false 12 B_X2_seersOf_12 := fun p e s m args below meth c D ty ad A n0 φ0 Q G Y hY => (u_iload G dX2_seersOf_12 (u_aload_n G dX2_seersOf_14 rfl (t_getI G cl_7 (k := 1) (by decide) (Or.inr ⟨_, q1_93⟩) rfl (Or.inl rfl) dX2_seersOf_15 (u_icmp_ge G dX2_seersOf_18 (by decide) (u_iload G dX2_seersOf_71 (t_iret G rfl dX2_seersOf_73)) (u_iload G dX2_seersOf_21 (u_aload_n G dX2_seersOf_23 rfl (t_getR G cl_7 (k := 0) (by decide) (Or.inr ⟨_, q1_85⟩) rfl (Or.inr ⟨_, rfl⟩) dX2_seersOf_24 (u_iload G dX2_seersOf_27 (t_aald G (by decide) dX2_seersOf_29 (u_iconst G dX2_seersOf_30 (by decide) (t_callV G cl_1 (m_X1_isOf l) ⟨rfl, rfl⟩ rfl ⟨Nat.le_of_ble_eq_true rfl, Nat.le_of_ble_eq_true rfl⟩ q2_176 q1_3 (Or.inl q4_124) q2_174 q2_175 hd_X1_isOf dX2_seersOf_31 (u_if_ne G dX2_seersOf_34 (by decide) (hY 58) (u_lload_n G dX2_seersOf_37 rfl (u_aload_n G dX2_seersOf_38 rfl (t_getR G cl_7 (k := 0) (by decide) (Or.inr ⟨_, q1_85⟩) rfl (Or.inr ⟨_, rfl⟩) dX2_seersOf_39 (u_iload G dX2_seersOf_42 (t_aald G (by decide) dX2_seersOf_44 (t_getI G cl_1 (k := 5) (by decide) (Or.inr ⟨_, q1_59⟩) rfl (Or.inl rfl) dX2_seersOf_45 (t_callS G (m_X8_hasBit l) ⟨rfl, rfl⟩ rfl ⟨Nat.le_of_ble_eq_true rfl, Nat.le_of_ble_eq_true rfl⟩ q2_232 q1_1 (Or.inr ⟨_, q4_72⟩) q2_231 hd_X8_hasBit dX2_seersOf_48 (u_if_eq G dX2_seersOf_51 (by decide) (hY 58) (u_iconst G dX2_seersOf_54 (by decide) (t_goto G dX2_seersOf_55 (by decide) (hY 59)))))))))))))))))))))))
set_option maxRecDepth 100000 in
set_option maxHeartbeats 4000000 in
theorem b_X2_seersOf_58 (l : Launch) : s_B l rm_X2_seersOf yX2_seersOf cX2_seersOf 6 ((some FieldType.int)) false 58 B_X2_seersOf_58 := fun p e s m args below meth c D ty ad A n0 φ0 Q G Y hY => (u_iconst G dX2_seersOf_58 (by decide) (hY 59))
set_option maxRecDepth 100000 in
set_option maxHeartbeats 4000000 in
theorem b_X2_seersOf_59 (l : Launch) : s_B l rm_X2_seersOf yX2_seersOf cX2_seersOf 6 ((some FieldType.int)) false 59 B_X2_seersOf_59 := fun p e s m args below meth c D ty ad A n0 φ0 Q G Y hY => (t_callS G (m_X8_bit l) ⟨rfl, rfl⟩ rfl ⟨Nat.le_of_ble_eq_true rfl, Nat.le_of_ble_eq_true rfl⟩ q3_3 q1_1 (Or.inr ⟨_, q4_125⟩) q3_2 hd_X8_bit dX2_seersOf_59 (u_iadd G dX2_seersOf_62 (u_istore G dX2_seersOf_63 (t_iinc G dX2_seersOf_65 (by decide) (t_goto G dX2_seersOf_68 (by decide) (hY 12))))))
set_option maxRecDepth 100000 in
theorem m_X2_seersOf (l : Launch) : s_Met l yX2_seersOf cX2_seersOf 6 ((some FieldType.int)) rm_X2_seersOf false C_X2_seersOf := by
  intro D ty ad av φ sz sh me Q hsh hC
  unfold C_X2_seersOf at hC
  split at hC
  · exact s_met1 (P := P_X2_seersOf) (by decide +kernel) (fun _ => ⟨rfl, rfl⟩) (fun p e s m args below meth c D ty ad A n0 φ0 Q G Y hY => s_tab_T _ (List.forall_mem_cons.mpr ⟨b_X2_seersOf_0 l p e s m args below meth c D ty ad A n0 φ0 Q G Y hY, List.forall_mem_cons.mpr ⟨b_X2_seersOf_12 l p e s m args below meth c D ty ad A n0 φ0 Q G Y hY, List.forall_mem_cons.mpr ⟨b_X2_seersOf_58 l p e s m args below meth c D ty ad A n0 φ0 Q G Y hY, List.forall_mem_cons.mpr ⟨b_X2_seersOf_59 l p e s m args below meth c D ty ad A n0 φ0 Q G Y hY, fun _ h => absurd h List.not_mem_nil⟩⟩⟩⟩)) hsh rfl rfl (Nat.le_of_ble_eq_true rfl) hC
  · exact hC.elim
def B_X2_mostSeen_0 (Q : SQ) (nx : Nat → SK) : SK := (o_const (.int (-1)) (o_istore 2 (o_const (.int 0) (o_istore 3 (o_const (.int 0) (o_istore 4 (nx 7)))))))
def B_X2_mostSeen_7 (Q : SQ) (nx : Nat → SK) : SK := (o_iload 4 (o_const (.int 36) (o_ic (fun x y => y ≤ x) (o_iload 2 (o_iret Q)) (o_aload 1 (o_iload 4 (o_call C_X2_seersOf 2 (o_istore 5 (o_iload 2 (o_const (.int (-1)) (o_ic (fun x y => x = y) (nx 33) (o_iload 5 (o_iload 3 (o_ic (fun x y => x ≤ y) (nx 39) (nx 33))))))))))))))
def B_X2_mostSeen_33 (Q : SQ) (nx : Nat → SK) : SK := (o_iload 4 (o_istore 2 (o_iload 5 (o_istore 3 (nx 39)))))
def B_X2_mostSeen_39 (Q : SQ) (nx : Nat → SK) : SK := (o_iinc 4 1 (nx 7))
def P_X2_mostSeen (Q : SQ) (nx : Nat → SK) : Nat → SK := s_tab [(0, B_X2_mostSeen_0 Q nx), (7, B_X2_mostSeen_7 Q nx), (33, B_X2_mostSeen_33 Q nx), (39, B_X2_mostSeen_39 Q nx)]
def C_X2_mostSeen : SC := fun av sh me Q => match av with
  | [.ref a0, .ref a1] => s_wp P_X2_mostSeen Q 0 [some (.ref a0), some (.ref a1), none, none, none, none] [] sh me
  | _ => False
abbrev rm_X2_mostSeen : Room := { frames := 3, cells := 0, slots := 0, locals := 72 }
theorem hd_X2_mostSeen : (yX2_mostSeen).cls ≠ "java/lang/invoke/MethodHandle" ∧ (yX2_mostSeen).cls ≠ "java/lang/invoke/VarHandle" ∧ (parseMethodDescriptor (yX2_mostSeen).desc).map (fun d => d.parameters.length) = some 1 := by decide +kernel
set_option maxRecDepth 100000 in
set_option maxHeartbeats 4000000 in
theorem b_X2_mostSeen_0 (l : Launch) : s_B l rm_X2_mostSeen yX2_mostSeen cX2_mostSeen 6 ((some FieldType.int)) false 0 B_X2_mostSeen_0 := fun p e s m args below meth c D ty ad A n0 φ0 Q G Y hY => (u_iconst G dX2_mostSeen_0 (by decide) (u_istore_n G dX2_mostSeen_1 rfl (u_iconst G dX2_mostSeen_2 (by decide) (u_istore_n G dX2_mostSeen_3 rfl (u_iconst G dX2_mostSeen_4 (by decide) (u_istore G dX2_mostSeen_5 (hY 7)))))))
set_option maxRecDepth 100000 in
set_option maxHeartbeats 4000000 in
theorem b_X2_mostSeen_7 (l : Launch) : s_B l rm_X2_mostSeen yX2_mostSeen cX2_mostSeen 6 ((some FieldType.int)) false 7 B_X2_mostSeen_7 := fun p e s m args below meth c D ty ad A n0 φ0 Q G Y hY => (u_iload G dX2_mostSeen_7 (u_bipush G dX2_mostSeen_9 (by decide) (u_icmp_ge G dX2_mostSeen_11 (by decide) (u_iload_n G dX2_mostSeen_45 rfl (t_iret G rfl dX2_mostSeen_46)) (u_aload_n G dX2_mostSeen_14 rfl (u_iload G dX2_mostSeen_15 (t_callS G (m_X2_seersOf l) ⟨rfl, rfl⟩ rfl ⟨Nat.le_of_ble_eq_true rfl, Nat.le_of_ble_eq_true rfl⟩ q4_122 q1_5 (Or.inl q4_120) q4_121 hd_X2_seersOf dX2_mostSeen_17 (u_istore G dX2_mostSeen_20 (u_iload_n G dX2_mostSeen_22 rfl (u_iconst G dX2_mostSeen_23 (by decide) (u_icmp_eq G dX2_mostSeen_24 (by decide) (hY 33) (u_iload G dX2_mostSeen_27 (u_iload_n G dX2_mostSeen_29 rfl (u_icmp_le G dX2_mostSeen_30 (by decide) (hY 39) (hY 33))))))))))))))
set_option maxRecDepth 100000 in
set_option maxHeartbeats 4000000 in
theorem b_X2_mostSeen_33 (l : Launch) : s_B l rm_X2_mostSeen yX2_mostSeen cX2_mostSeen 6 ((some FieldType.int)) false 33 B_X2_mostSeen_33 := fun p e s m args below meth c D ty ad A n0 φ0 Q G Y hY => (u_iload G dX2_mostSeen_33 (u_istore_n G dX2_mostSeen_35 rfl (u_iload G dX2_mostSeen_36 (u_istore_n G dX2_mostSeen_38 rfl (hY 39)))))
set_option maxRecDepth 100000 in
set_option maxHeartbeats 4000000 in
theorem b_X2_mostSeen_39 (l : Launch) : s_B l rm_X2_mostSeen yX2_mostSeen cX2_mostSeen 6 ((some FieldType.int)) false 39 B_X2_mostSeen_39 := fun p e s m args below meth c D ty ad A n0 φ0 Q G Y hY => (t_iinc G dX2_mostSeen_39 (by decide) (t_goto G dX2_mostSeen_42 (by decide) (hY 7)))
set_option maxRecDepth 100000 in
theorem m_X2_mostSeen (l : Launch) : s_Met l yX2_mostSeen cX2_mostSeen 6 ((some FieldType.int)) rm_X2_mostSeen false C_X2_mostSeen := by
  intro D ty ad av φ sz sh me Q hsh hC
  unfold C_X2_mostSeen at hC
  split at hC
  · exact s_met1 (P := P_X2_mostSeen) (by decide +kernel) (fun _ => ⟨rfl, rfl⟩) (fun p e s m args below meth c D ty ad A n0 φ0 Q G Y hY => s_tab_T _ (List.forall_mem_cons.mpr ⟨b_X2_mostSeen_0 l p e s m args below meth c D ty ad A n0 φ0 Q G Y hY, List.forall_mem_cons.mpr ⟨b_X2_mostSeen_7 l p e s m args below meth c D ty ad A n0 φ0 Q G Y hY, List.forall_mem_cons.mpr ⟨b_X2_mostSeen_33 l p e s m args below meth c D ty ad A n0 φ0 Q G Y hY, List.forall_mem_cons.mpr ⟨b_X2_mostSeen_39 l p e s m args below meth c D ty ad A n0 φ0 Q G Y hY, fun _ h => absurd h List.not_mem_nil⟩⟩⟩⟩)) hsh rfl rfl (Nat.le_of_ble_eq_true rfl) hC
  · exact hC.elim
def B_X2_weigh_0 (Q : SQ) (nx : Nat → SK) : SK := (o_const (.int 0) (o_istore 2 (nx 2)))
def B_X2_weigh_2 (Q : SQ) (nx : Nat → SK) : SK := (o_iload 2 (o_const (.int 36) (o_ic (fun x y => y ≤ x) (o_vret Q) (o_aload 0 (o_getR 2 2 (o_iload 2 (o_aload 0 (o_getR 2 0 (o_iload 2 (o_callV C_X7_isOpen 7 2 (o_if (fun x => x = 0) (o_const (.int 268435456) (nx 40)) (o_aload 0 (o_iload 1 (o_iload 2 (o_callV C_X2_dutyAt 2 3 (o_const (.int 64) (o_i2 (fun x y => x * y) (o_const (.int 1) (o_i2 (fun x y => x + y) (nx 40))))))))))))))))))))
def B_X2_weigh_40 (Q : SQ) (nx : Nat → SK) : SK := (o_iast (o_iinc 2 1 (nx 2)))
def P_X2_weigh (Q : SQ) (nx : Nat → SK) : Nat → SK := s_tab [(0, B_X2_weigh_0 Q nx), (2, B_X2_weigh_2 Q nx), (40, B_X2_weigh_40 Q nx)]
def C_X2_weigh : SC := fun av sh me Q => match av with
  | [.ref a0, .int a1] => s_wp P_X2_weigh Q 0 [some (.ref a0), some (.int a1), none] [] sh me
  | _ => False
abbrev rm_X2_weigh : Room := { frames := 5, cells := 0, slots := 0, locals := 116 }
theorem hd_X2_weigh : (yX2_weigh).cls ≠ "java/lang/invoke/MethodHandle" ∧ (yX2_weigh).cls ≠ "java/lang/invoke/VarHandle" ∧ (parseMethodDescriptor (yX2_weigh).desc).map (fun d => d.parameters.length) = some 1 := by decide +kernel
set_option maxRecDepth 100000 in
set_option maxHeartbeats 4000000 in
theorem b_X2_weigh_0 (l : Launch) : s_B l rm_X2_weigh yX2_weigh cX2_weigh 3 ((none : Option FieldType)) false 0 B_X2_weigh_0 := fun p e s m args below meth c D ty ad A n0 φ0 Q G Y hY => (u_iconst G dX2_weigh_0 (by decide) (u_istore_n G dX2_weigh_1 rfl (hY 2)))
set_option maxRecDepth 100000 in
set_option maxHeartbeats 4000000 in
theorem b_X2_weigh_2 (l : Launch) : s_B l rm_X2_weigh yX2_weigh cX2_weigh 3 ((none : Option FieldType)) false 2 B_X2_weigh_2 := fun p e s m args below meth c D ty ad A n0 φ0 Q G Y hY => (u_iload_n G dX2_weigh_2 rfl (u_bipush G dX2_weigh_3 (by decide) (u_icmp_ge G dX2_weigh_5 (by decide) (t_vret G rfl dX2_weigh_47) (u_aload_n G dX2_weigh_8 rfl (t_getR G cl_2 (k := 2) (by decide) (Or.inl q1_187) rfl (Or.inr ⟨_, rfl⟩) dX2_weigh_9 (u_iload_n G dX2_weigh_12 rfl (u_aload_n G dX2_weigh_13 rfl (t_getR G cl_2 (k := 0) (by decide) (Or.inl q1_185) rfl (Or.inl ⟨_, rfl⟩) dX2_weigh_14 (u_iload_n G dX2_weigh_17 rfl (t_callV G cl_7 (m_X7_isOpen l) ⟨rfl, rfl⟩ rfl ⟨Nat.le_of_ble_eq_true rfl, Nat.le_of_ble_eq_true rfl⟩ q2_201 q1_2 (Or.inl q4_24) q2_199 q2_200 hd_X7_isOpen dX2_weigh_18 (u_if_eq G dX2_weigh_21 (by decide) (u_ldc G q4_30 dX2_weigh_38 (hY 40)) (u_aload_n G dX2_weigh_24 rfl (u_iload_n G dX2_weigh_25 rfl (u_iload_n G dX2_weigh_26 rfl (t_callV G cl_2 (m_X2_dutyAt l) ⟨rfl, rfl⟩ rfl ⟨Nat.le_of_ble_eq_true rfl, Nat.le_of_ble_eq_true rfl⟩ q4_28 q1_5 (Or.inl q4_25) q4_27 qs_21 hd_X2_dutyAt dX2_weigh_27 (u_bipush G dX2_weigh_30 (by decide) (u_imul G dX2_weigh_32 (u_iconst G dX2_weigh_33 (by decide) (u_iadd G dX2_weigh_34 (t_goto G dX2_weigh_35 (by decide) (hY 40)))))))))))))))))))))
set_option maxRecDepth 100000 in
set_option maxHeartbeats 4000000 in
theorem b_X2_weigh_40 (l : Launch) : s_B l rm_X2_weigh yX2_weigh cX2_weigh 3 ((none : Option FieldType)) false 40 B_X2_weigh_40 := fun p e s m args below meth c D ty ad A n0 φ0 Q G Y hY => (t_iast G dX2_weigh_40 (t_iinc G dX2_weigh_41 (by decide) (t_goto G dX2_weigh_44 (by decide) (hY 2))))
set_option maxRecDepth 100000 in
theorem m_X2_weigh (l : Launch) : s_Met l yX2_weigh cX2_weigh 3 ((none : Option FieldType)) rm_X2_weigh false C_X2_weigh := by
  intro D ty ad av φ sz sh me Q hsh hC
  unfold C_X2_weigh at hC
  split at hC
  · exact s_met1 (P := P_X2_weigh) (by decide +kernel) (fun _ => ⟨rfl, rfl⟩) (fun p e s m args below meth c D ty ad A n0 φ0 Q G Y hY => s_tab_T _ (List.forall_mem_cons.mpr ⟨b_X2_weigh_0 l p e s m args below meth c D ty ad A n0 φ0 Q G Y hY, List.forall_mem_cons.mpr ⟨b_X2_weigh_2 l p e s m args below meth c D ty ad A n0 φ0 Q G Y hY, List.forall_mem_cons.mpr ⟨b_X2_weigh_40 l p e s m args below meth c D ty ad A n0 φ0 Q G Y hY, fun _ h => absurd h List.not_mem_nil⟩⟩⟩)) hsh rfl rfl (Nat.le_of_ble_eq_true rfl) hC
  · exact hC.elim
def B_X2_wayTo_0 (Q : SQ) (nx : Nat → SK) : SK := (o_aload 1 (o_getR 7 0 (o_iload 2 (o_aald 12 (o_getI 1 5 (o_istore 5 (o_aload 0 (o_getR 2 0 (o_aload 1 (o_callV C_X7_copyFrom 7 2 (o_aload 0 (o_iload 2 (o_callV C_X2_weigh 2 2 (o_aload 0 (o_iload 3 (o_callV C_X2_measure 2 2 (o_aload 0 (o_getR 2 3 (o_iload 5 (o_iald (o_const (.int 268435456) (o_ic (fun x y => ¬ x = y) (o_iload 4 (o_sw [(0, (o_aload 0 (o_getR 2 3 (o_iload 5 (o_iald (o_const (.int 64) (o_div (fun x y => x / y) (o_iret Q)))))))), (1, (o_aload 0 (o_getR 2 3 (o_iload 5 (o_iald (o_const (.int 64) (o_div (fun x y => x - x / y * y) (o_iret Q))))))))] (o_iload 5 (o_iload 3 (o_ic (fun x y => ¬ x = y) (o_aload 0 (o_iload 5 (o_callV C_X2_firstOn 2 2 (nx 110)))) (o_iload 3 (nx 110))))))) (o_const (.int (-1)) (o_iret Q))))))))))))))))))))))))
def B_X2_wayTo_110 (Q : SQ) (nx : Nat → SK) : SK := (o_iret Q)
def P_X2_wayTo (Q : SQ) (nx : Nat → SK) : Nat → SK := s_tab [(0, B_X2_wayTo_0 Q nx), (110, B_X2_wayTo_110 Q nx)]
def C_X2_wayTo : SC := fun av sh me Q => match av with
  | [.ref a0, .ref a1, .int a2, .int a3, .int a4] => s_wp P_X2_wayTo Q 0 [some (.ref a0), some (.ref a1), some (.int a2), some (.int a3), some (.int a4), none] [] sh me
  | _ => False
abbrev rm_X2_wayTo : Room := { frames := 6, cells := 0, slots := 0, locals := 138 }
theorem hd_X2_wayTo : (yX2_wayTo).cls ≠ "java/lang/invoke/MethodHandle" ∧ (yX2_wayTo).cls ≠ "java/lang/invoke/VarHandle" ∧ (parseMethodDescriptor (yX2_wayTo).desc).map (fun d => d.parameters.length) = some 4 := by decide +kernel
set_option maxRecDepth 100000 in
set_option maxHeartbeats 4000000 in
theorem b_X2_wayTo_0 (l : Launch) : s_B l rm_X2_wayTo yX2_wayTo cX2_wayTo 6 ((some FieldType.int)) false 0 B_X2_wayTo_0 := fun p e s m args below meth c D ty ad A n0 φ0 Q G Y hY => (u_aload_n G dX2_wayTo_0 rfl (t_getR G cl_7 (k := 0) (by decide) (Or.inr ⟨_, q1_85⟩) rfl (Or.inr ⟨_, rfl⟩) dX2_wayTo_1 (u_iload_n G dX2_wayTo_4 rfl (t_aald G (by decide) dX2_wayTo_5 (t_getI G cl_1 (k := 5) (by decide) (Or.inr ⟨_, q1_59⟩) rfl (Or.inl rfl) dX2_wayTo_6 (u_istore G dX2_wayTo_9 (u_aload_n G dX2_wayTo_11 rfl (t_getR G cl_2 (k := 0) (by decide) (Or.inl q1_185) rfl (Or.inl ⟨_, rfl⟩) dX2_wayTo_12 (u_aload_n G dX2_wayTo_15 rfl (t_callV G cl_7 (m_X7_copyFrom l) ⟨rfl, rfl⟩ rfl ⟨Nat.le_of_ble_eq_true rfl, Nat.le_of_ble_eq_true rfl⟩ q3_40 q1_2 (Or.inl q4_19) q3_38 q3_39 hd_X7_copyFrom dX2_wayTo_16 (u_aload_n G dX2_wayTo_19 rfl (u_iload_n G dX2_wayTo_20 rfl (t_callV G cl_2 (m_X2_weigh l) ⟨rfl, rfl⟩ rfl ⟨Nat.le_of_ble_eq_true rfl, Nat.le_of_ble_eq_true rfl⟩ q4_23 q1_5 (Or.inl q4_20) q4_22 qs_20 hd_X2_weigh dX2_wayTo_21 (u_aload_n G dX2_wayTo_24 rfl (u_iload_n G dX2_wayTo_25 rfl (t_callV G cl_2 (m_X2_measure l) ⟨rfl, rfl⟩ rfl ⟨Nat.le_of_ble_eq_true rfl, Nat.le_of_ble_eq_true rfl⟩ q4_34 q1_5 (Or.inl q4_31) q4_33 qs_22 hd_X2_measure dX2_wayTo_26 (u_aload_n G dX2_wayTo_29 rfl (t_getR G cl_2 (k := 3) (by decide) (Or.inl q1_188) rfl (Or.inr ⟨_, rfl⟩) dX2_wayTo_30 (u_iload G dX2_wayTo_33 (t_iald G dX2_wayTo_35 (u_ldc G q4_30 dX2_wayTo_36 (u_icmp_ne G dX2_wayTo_38 (by decide) (u_iload G dX2_wayTo_43 (u_lsw G [(0, 72), (1, 83)] dX2_wayTo_45 (by decide) (by decide) rfl ⟨(u_aload_n G dX2_wayTo_72 rfl (t_getR G cl_2 (k := 3) (by decide) (Or.inl q1_188) rfl (Or.inr ⟨_, rfl⟩) dX2_wayTo_73 (u_iload G dX2_wayTo_76 (t_iald G dX2_wayTo_78 (u_bipush G dX2_wayTo_79 (by decide) (u_idiv G dX2_wayTo_81 (t_iret G rfl dX2_wayTo_82))))))), ⟨(u_aload_n G dX2_wayTo_83 rfl (t_getR G cl_2 (k := 3) (by decide) (Or.inl q1_188) rfl (Or.inr ⟨_, rfl⟩) dX2_wayTo_84 (u_iload G dX2_wayTo_87 (t_iald G dX2_wayTo_89 (u_bipush G dX2_wayTo_90 (by decide) (u_irem G dX2_wayTo_92 (t_iret G rfl dX2_wayTo_93))))))), trivial⟩⟩ (u_iload G dX2_wayTo_94 (u_iload_n G dX2_wayTo_96 rfl (u_icmp_ne G dX2_wayTo_97 (by decide) (u_aload_n G dX2_wayTo_104 rfl (u_iload G dX2_wayTo_105 (t_callV G cl_2 (m_X2_firstOn l) ⟨rfl, rfl⟩ rfl ⟨Nat.le_of_ble_eq_true rfl, Nat.le_of_ble_eq_true rfl⟩ q4_50 q1_5 (Or.inl q4_47) q4_49 qs_24 hd_X2_firstOn dX2_wayTo_107 (hY 110)))) (u_iload_n G dX2_wayTo_100 rfl (t_goto G dX2_wayTo_101 (by decide) (hY 110)))))))) (u_iconst G dX2_wayTo_41 (by decide) (t_iret G rfl dX2_wayTo_42))))))))))))))))))))))))
set_option maxRecDepth 100000 in
set_option maxHeartbeats 4000000 in
theorem b_X2_wayTo_110 (l : Launch) : s_B l rm_X2_wayTo yX2_wayTo cX2_wayTo 6 ((some FieldType.int)) false 110 B_X2_wayTo_110 := fun p e s m args below meth c D ty ad A n0 φ0 Q G Y hY => (t_iret G rfl dX2_wayTo_110)
set_option maxRecDepth 100000 in
theorem m_X2_wayTo (l : Launch) : s_Met l yX2_wayTo cX2_wayTo 6 ((some FieldType.int)) rm_X2_wayTo false C_X2_wayTo := by
  intro D ty ad av φ sz sh me Q hsh hC
  unfold C_X2_wayTo at hC
  split at hC
  · exact s_met1 (P := P_X2_wayTo) (by decide +kernel) (fun _ => ⟨rfl, rfl⟩) (fun p e s m args below meth c D ty ad A n0 φ0 Q G Y hY => s_tab_T _ (List.forall_mem_cons.mpr ⟨b_X2_wayTo_0 l p e s m args below meth c D ty ad A n0 φ0 Q G Y hY, List.forall_mem_cons.mpr ⟨b_X2_wayTo_110 l p e s m args below meth c D ty ad A n0 φ0 Q G Y hY, fun _ h => absurd h List.not_mem_nil⟩⟩)) hsh rfl rfl (Nat.le_of_ble_eq_true rfl) hC
  · exact hC.elim
def B_X2_whoOwesMost_0 (Q : SQ) (nx : Nat → SK) : SK := (o_aload 0 (o_getR 2 1 (o_aload 1 (o_callV C_X4_take 4 2 (o_const (.int 0) (o_istore 2 (o_const (.int 1) (o_istore 3 (nx 12)))))))))
def B_X2_whoOwesMost_12 (Q : SQ) (nx : Nat → SK) : SK := (o_iload 3 (o_aload 1 (o_getI 7 1 (o_ic (fun x y => y ≤ x) (o_iload 2 (o_iret Q)) (o_aload 0 (o_getR 2 1 (o_getR 4 3 (o_iload 3 (o_iald (o_aload 0 (o_getR 2 1 (o_getR 4 3 (o_iload 2 (o_iald (o_ic (fun x y => x ≤ y) (nx 43) (o_iload 3 (o_istore 2 (nx 43))))))))))))))))))
def B_X2_whoOwesMost_43 (Q : SQ) (nx : Nat → SK) : SK := (o_iinc 3 1 (nx 12))
def P_X2_whoOwesMost (Q : SQ) (nx : Nat → SK) : Nat → SK := s_tab [(0, B_X2_whoOwesMost_0 Q nx), (12, B_X2_whoOwesMost_12 Q nx), (43, B_X2_whoOwesMost_43 Q nx)]
def C_X2_whoOwesMost : SC := fun av sh me Q => match av with
  | [.ref a0, .ref a1] => s_wp P_X2_whoOwesMost Q 0 [some (.ref a0), some (.ref a1), none, none] [] sh me
  | _ => False
abbrev rm_X2_whoOwesMost : Room := { frames := 4, cells := 0, slots := 0, locals := 94 }
theorem hd_X2_whoOwesMost : (yX2_whoOwesMost).cls ≠ "java/lang/invoke/MethodHandle" ∧ (yX2_whoOwesMost).cls ≠ "java/lang/invoke/VarHandle" ∧ (parseMethodDescriptor (yX2_whoOwesMost).desc).map (fun d => d.parameters.length) = some 1 := by decide +kernel
set_option maxRecDepth 100000 in
set_option maxHeartbeats 4000000 in
theorem b_X2_whoOwesMost_0 (l : Launch) : s_B l rm_X2_whoOwesMost yX2_whoOwesMost cX2_whoOwesMost 4 ((some FieldType.int)) false 0 B_X2_whoOwesMost_0 := fun p e s m args below meth c D ty ad A n0 φ0 Q G Y hY => (u_aload_n G dX2_whoOwesMost_0 rfl (t_getR G cl_2 (k := 1) (by decide) (Or.inl q1_186) rfl (Or.inl ⟨_, rfl⟩) dX2_whoOwesMost_1 (u_aload_n G dX2_whoOwesMost_4 rfl (t_callV G cl_4 (m_X4_take l) ⟨rfl, rfl⟩ rfl ⟨Nat.le_of_ble_eq_true rfl, Nat.le_of_ble_eq_true rfl⟩ q3_189 q1_4 (Or.inl q4_29) q3_187 q3_188 hd_X4_take dX2_whoOwesMost_5 (u_iconst G dX2_whoOwesMost_8 (by decide) (u_istore_n G dX2_whoOwesMost_9 rfl (u_iconst G dX2_whoOwesMost_10 (by decide) (u_istore_n G dX2_whoOwesMost_11 rfl (hY 12)))))))))
set_option maxRecDepth 100000 in
set_option maxHeartbeats 4000000 in
theorem b_X2_whoOwesMost_12 (l : Launch) : s_B l rm_X2_whoOwesMost yX2_whoOwesMost cX2_whoOwesMost 4 ((some FieldType.int)) false 12 B_X2_whoOwesMost_12 := fun p e s m args below meth c D ty ad A n0 φ0 Q G Y hY => (u_iload_n G dX2_whoOwesMost_12 rfl (u_aload_n G dX2_whoOwesMost_13 rfl (t_getI G cl_7 (k := 1) (by decide) (Or.inr ⟨_, q1_93⟩) rfl (Or.inl rfl) dX2_whoOwesMost_14 (u_icmp_ge G dX2_whoOwesMost_17 (by decide) (u_iload_n G dX2_whoOwesMost_49 rfl (t_iret G rfl dX2_whoOwesMost_50)) (u_aload_n G dX2_whoOwesMost_20 rfl (t_getR G cl_2 (k := 1) (by decide) (Or.inl q1_186) rfl (Or.inl ⟨_, rfl⟩) dX2_whoOwesMost_21 (t_getR G cl_4 (k := 3) (by decide) (Or.inr ⟨_, q1_153⟩) rfl (Or.inr ⟨_, rfl⟩) dX2_whoOwesMost_24 (u_iload_n G dX2_whoOwesMost_27 rfl (t_iald G dX2_whoOwesMost_28 (u_aload_n G dX2_whoOwesMost_29 rfl (t_getR G cl_2 (k := 1) (by decide) (Or.inl q1_186) rfl (Or.inl ⟨_, rfl⟩) dX2_whoOwesMost_30 (t_getR G cl_4 (k := 3) (by decide) (Or.inr ⟨_, q1_153⟩) rfl (Or.inr ⟨_, rfl⟩) dX2_whoOwesMost_33 (u_iload_n G dX2_whoOwesMost_36 rfl (t_iald G dX2_whoOwesMost_37 (u_icmp_le G dX2_whoOwesMost_38 (by decide) (hY 43) (u_iload_n G dX2_whoOwesMost_41 rfl (u_istore_n G dX2_whoOwesMost_42 rfl (hY 43))))))))))))))))))
set_option maxRecDepth 100000 in
set_option maxHeartbeats 4000000 in
theorem b_X2_whoOwesMost_43 (l : Launch) : s_B l rm_X2_whoOwesMost yX2_whoOwesMost cX2_whoOwesMost 4 ((some FieldType.int)) false 43 B_X2_whoOwesMost_43 := fun p e s m args below meth c D ty ad A n0 φ0 Q G Y hY => (t_iinc G dX2_whoOwesMost_43 (by decide) (t_goto G dX2_whoOwesMost_46 (by decide) (hY 12)))
set_option maxRecDepth 100000 in
theorem m_X2_whoOwesMost (l : Launch) : s_Met l yX2_whoOwesMost cX2_whoOwesMost 4 ((some FieldType.int)) rm_X2_whoOwesMost false C_X2_whoOwesMost := by
  intro D ty ad av φ sz sh me Q hsh hC
  unfold C_X2_whoOwesMost at hC
  split at hC
  · exact s_met1 (P := P_X2_whoOwesMost) (by decide +kernel) (fun _ => ⟨rfl, rfl⟩) (fun p e s m args below meth c D ty ad A n0 φ0 Q G Y hY => s_tab_T _ (List.forall_mem_cons.mpr ⟨b_X2_whoOwesMost_0 l p e s m args below meth c D ty ad A n0 φ0 Q G Y hY, List.forall_mem_cons.mpr ⟨b_X2_whoOwesMost_12 l p e s m args below meth c D ty ad A n0 φ0 Q G Y hY, List.forall_mem_cons.mpr ⟨b_X2_whoOwesMost_43 l p e s m args below meth c D ty ad A n0 φ0 Q G Y hY, fun _ h => absurd h List.not_mem_nil⟩⟩⟩)) hsh rfl rfl (Nat.le_of_ble_eq_true rfl) hC
  · exact hC.elim
def B_X3_failAt_0 (Q : SQ) (nx : Nat → SK) : SK := (o_aload 0 (o_iload 1 (o_putI 3 4 (o_const (.int 0) (o_zret Q)))))
def P_X3_failAt (Q : SQ) (nx : Nat → SK) : Nat → SK := s_tab [(0, B_X3_failAt_0 Q nx)]
def C_X3_failAt : SC := fun av sh me Q => match av with
  | [.ref a0, .int a1] => s_wp P_X3_failAt Q 0 [some (.ref a0), some (.int a1)] [] sh me
  | _ => False
abbrev rm_X3_failAt : Room := { frames := 0, cells := 0, slots := 0, locals := 0 }
theorem hd_X3_failAt : (yX3_failAt).cls ≠ "java/lang/invoke/MethodHandle" ∧ (yX3_failAt).cls ≠ "java/lang/invoke/VarHandle" ∧ (parseMethodDescriptor (yX3_failAt).desc).map (fun d => d.parameters.length) = some 1 := by decide +kernel
set_option maxRecDepth 100000 in
set_option maxHeartbeats 4000000 in
theorem b_X3_failAt_0 (l : Launch) : s_B l rm_X3_failAt yX3_failAt cX3_failAt 2 ((some FieldType.boolean)) false 0 B_X3_failAt_0 := fun p e s m args below meth c D ty ad A n0 φ0 Q G Y hY => (u_aload_n G dX3_failAt_0 rfl (u_iload_n G dX3_failAt_1 rfl (t_putI G cl_3 (k := 4) (by decide) (Or.inl ⟨rfl, Or.inl q1_220⟩) rfl rfl dX3_failAt_2 (u_iconst G dX3_failAt_5 (by decide) (t_zret G rfl dX3_failAt_6)))))
set_option maxRecDepth 100000 in
theorem m_X3_failAt (l : Launch) : s_Met l yX3_failAt cX3_failAt 2 ((some FieldType.boolean)) rm_X3_failAt false C_X3_failAt := by
  intro D ty ad av φ sz sh me Q hsh hC
  unfold C_X3_failAt at hC
  split at hC
  · exact s_met1 (P := P_X3_failAt) (by decide +kernel) (fun _ => ⟨rfl, rfl⟩) (fun p e s m args below meth c D ty ad A n0 φ0 Q G Y hY => s_tab_T _ (List.forall_mem_cons.mpr ⟨b_X3_failAt_0 l p e s m args below meth c D ty ad A n0 φ0 Q G Y hY, fun _ h => absurd h List.not_mem_nil⟩)) hsh rfl rfl (Nat.le_of_ble_eq_true rfl) hC
  · exact hC.elim
def B_X3_init_0 (Q : SQ) (nx : Nat → SK) : SK := (o_aload 0 (o_obj (o_aload 0 (o_const (.int (-1)) (o_putI 3 4 (o_vret Q))))))
def P_X3_init (Q : SQ) (nx : Nat → SK) : Nat → SK := s_tab [(0, B_X3_init_0 Q nx)]
def C_X3_init : SC := fun av sh me Q => match av with
  | [.ref a0] => s_wp P_X3_init Q 0 [some (.ref a0)] [] sh me
  | _ => False
abbrev rm_X3_init : Room := { frames := 1, cells := 0, slots := 0, locals := 20 }
theorem hd_X3_init : (yX3_init).cls ≠ "java/lang/invoke/MethodHandle" ∧ (yX3_init).cls ≠ "java/lang/invoke/VarHandle" ∧ (parseMethodDescriptor (yX3_init).desc).map (fun d => d.parameters.length) = some 0 := by decide +kernel
theorem rf_X3_init : ∀ (av : List Value) (sh : SShp) (me : SMem) (Q : SQ), C_X3_init av sh me Q → ∃ b r, av = .ref b :: r := by
  intro av sh me Q h
  unfold C_X3_init at h
  split at h
  · exact ⟨_, _, rfl⟩
  · exact h.elim
set_option maxRecDepth 100000 in
set_option maxHeartbeats 4000000 in
theorem b_X3_init_0 (l : Launch) : s_B l rm_X3_init yX3_init cX3_init 1 ((none : Option FieldType)) false 0 B_X3_init_0 := fun p e s m args below meth c D ty ad A n0 φ0 Q G Y hY => (u_aload_n G dX3_init_0 rfl (t_obj G q1_215 q1_26 q1_27 ⟨Nat.le_of_ble_eq_true rfl, Nat.le_of_ble_eq_true rfl⟩ dX3_init_1 (u_aload_n G dX3_init_4 rfl (u_iconst G dX3_init_5 (by decide) (t_putI G cl_3 (k := 4) (by decide) (Or.inl ⟨rfl, Or.inl q1_220⟩) rfl rfl dX3_init_6 (t_vret G rfl dX3_init_9))))))
set_option maxRecDepth 100000 in
theorem m_X3_init (l : Launch) : s_Met l yX3_init cX3_init 1 ((none : Option FieldType)) rm_X3_init false C_X3_init := by
  intro D ty ad av φ sz sh me Q hsh hC
  unfold C_X3_init at hC
  split at hC
  · exact s_met1 (P := P_X3_init) (by decide +kernel) (fun _ => ⟨rfl, rfl⟩) (fun p e s m args below meth c D ty ad A n0 φ0 Q G Y hY => s_tab_T _ (List.forall_mem_cons.mpr ⟨b_X3_init_0 l p e s m args below meth c D ty ad A n0 φ0 Q G Y hY, fun _ h => absurd h List.not_mem_nil⟩)) hsh rfl rfl (Nat.le_of_ble_eq_true rfl) hC
  · exact hC.elim
def B_X3_wordWith_0 (Q : SQ) (nx : Nat → SK) : SK := (o_iload 0 (o_sw [(98, (o_ldcS 2 (o_aret Q))), (99, (nx 125)), (100, (nx 125)), (101, (nx 125)), (102, (nx 125)), (103, (o_ldcS 1 (o_aret Q))), (104, (nx 125)), (105, (nx 125)), (106, (nx 125)), (107, (nx 125)), (108, (nx 125)), (109, (o_ldcS 5 (o_aret Q))), (110, (nx 125)), (111, (nx 125)), (112, (o_ldcS 3 (o_aret Q))), (113, (nx 125)), (114, (o_ldcS 6 (o_aret Q))), (115, (o_ldcS 4 (o_aret Q))), (116, (nx 125)), (117, (nx 125)), (118, (nx 125)), (119, (o_ldcS 0 (o_aret Q)))] (nx 125)))
def B_X3_wordWith_125 (Q : SQ) (nx : Nat → SK) : SK := (o_ldcS 7 (o_aret Q))
def P_X3_wordWith (Q : SQ) (nx : Nat → SK) : Nat → SK := s_tab [(0, B_X3_wordWith_0 Q nx), (125, B_X3_wordWith_125 Q nx)]
def C_X3_wordWith : SC := fun av sh me Q => match av with
  | [.int a0] => s_wp P_X3_wordWith Q 0 [some (.int a0)] [] sh me
  | _ => False
abbrev rm_X3_wordWith : Room := { frames := 0, cells := 0, slots := 0, locals := 0 }
theorem hd_X3_wordWith : (yX3_wordWith).cls ≠ "java/lang/invoke/MethodHandle" ∧ (yX3_wordWith).cls ≠ "java/lang/invoke/VarHandle" ∧ (parseMethodDescriptor (yX3_wordWith).desc).map (fun d => d.parameters.length) = some 1 := by decide +kernel
set_option maxRecDepth 100000 in
set_option maxHeartbeats 4000000 in
theorem b_X3_wordWith_0 (l : Launch) : s_B l rm_X3_wordWith yX3_wordWith cX3_wordWith 1 ((some (FieldType.object "java/lang/String"))) false 0 B_X3_wordWith_0 := fun p e s m args below meth c D ty ad A n0 φ0 Q G Y hY => (u_iload_n G dX3_wordWith_0 rfl (u_tsw G [(98, 110), (99, 125), (100, 125), (101, 125), (102, 125), (103, 107), (104, 125), (105, 125), (106, 125), (107, 125), (108, 125), (109, 119), (110, 125), (111, 125), (112, 113), (113, 125), (114, 122), (115, 116), (116, 125), (117, 125), (118, 125), (119, 104)] dX3_wordWith_1 (by decide) (by decide) rfl ⟨(u_ldcS G (by decide) rfl dX3_wordWith_110 (t_aret G rfl dX3_wordWith_112)), ⟨(hY 125), ⟨(hY 125), ⟨(hY 125), ⟨(hY 125), ⟨(u_ldcS G (by decide) rfl dX3_wordWith_107 (t_aret G rfl dX3_wordWith_109)), ⟨(hY 125), ⟨(hY 125), ⟨(hY 125), ⟨(hY 125), ⟨(hY 125), ⟨(u_ldcS G (by decide) rfl dX3_wordWith_119 (t_aret G rfl dX3_wordWith_121)), ⟨(hY 125), ⟨(hY 125), ⟨(u_ldcS G (by decide) rfl dX3_wordWith_113 (t_aret G rfl dX3_wordWith_115)), ⟨(hY 125), ⟨(u_ldcS G (by decide) rfl dX3_wordWith_122 (t_aret G rfl dX3_wordWith_124)), ⟨(u_ldcS G (by decide) rfl dX3_wordWith_116 (t_aret G rfl dX3_wordWith_118)), ⟨(hY 125), ⟨(hY 125), ⟨(hY 125), ⟨(u_ldcS G (by decide) rfl dX3_wordWith_104 (t_aret G rfl dX3_wordWith_106)), trivial⟩⟩⟩⟩⟩⟩⟩⟩⟩⟩⟩⟩⟩⟩⟩⟩⟩⟩⟩⟩⟩⟩ (hY 125)))
set_option maxRecDepth 100000 in
set_option maxHeartbeats 4000000 in
theorem b_X3_wordWith_125 (l : Launch) : s_B l rm_X3_wordWith yX3_wordWith cX3_wordWith 1 ((some (FieldType.object "java/lang/String"))) false 125 B_X3_wordWith_125 := fun p e s m args below meth c D ty ad A n0 φ0 Q G Y hY => (u_ldcS G (by decide) rfl dX3_wordWith_125 (t_aret G rfl dX3_wordWith_127))
set_option maxRecDepth 100000 in
theorem m_X3_wordWith (l : Launch) : s_Met l yX3_wordWith cX3_wordWith 1 ((some (FieldType.object "java/lang/String"))) rm_X3_wordWith false C_X3_wordWith := by
  intro D ty ad av φ sz sh me Q hsh hC
  unfold C_X3_wordWith at hC
  split at hC
  · exact s_met1 (P := P_X3_wordWith) (by decide +kernel) (fun _ => ⟨rfl, rfl⟩) (fun p e s m args below meth c D ty ad A n0 φ0 Q G Y hY => s_tab_T _ (List.forall_mem_cons.mpr ⟨b_X3_wordWith_0 l p e s m args below meth c D ty ad A n0 φ0 Q G Y hY, List.forall_mem_cons.mpr ⟨b_X3_wordWith_125 l p e s m args below meth c D ty ad A n0 φ0 Q G Y hY, fun _ h => absurd h List.not_mem_nil⟩⟩)) hsh rfl rfl (Nat.le_of_ble_eq_true rfl) hC
  · exact hC.elim
def B_X3_readSign_0 (Q : SQ) (nx : Nat → SK) : SK := (o_aload 0 (o_getR 3 0 (o_aload 0 (o_getI 3 2 (o_callV C_X5_readAt 5 2 (o_iload 1 (o_ic (fun x y => x = y) (o_aload 0 (o_dup (o_getI 3 2 (o_const (.int 1) (o_i2 (fun x y => x + y) (o_putI 3 2 (o_const (.int 1) (o_zret Q)))))))) (o_aload 0 (o_aload 0 (o_getI 3 2 (o_callV C_X3_failAt 3 2 (o_zret Q))))))))))))
def P_X3_readSign (Q : SQ) (nx : Nat → SK) : Nat → SK := s_tab [(0, B_X3_readSign_0 Q nx)]
def C_X3_readSign : SC := fun av sh me Q => match av with
  | [.ref a0, .int a1] => s_wp P_X3_readSign Q 0 [some (.ref a0), some (.int a1)] [] sh me
  | _ => False
abbrev rm_X3_readSign : Room := { frames := 1, cells := 0, slots := 0, locals := 21 }
theorem hd_X3_readSign : (yX3_readSign).cls ≠ "java/lang/invoke/MethodHandle" ∧ (yX3_readSign).cls ≠ "java/lang/invoke/VarHandle" ∧ (parseMethodDescriptor (yX3_readSign).desc).map (fun d => d.parameters.length) = some 1 := by decide +kernel
set_option maxRecDepth 100000 in
set_option maxHeartbeats 4000000 in
theorem b_X3_readSign_0 (l : Launch) : s_B l rm_X3_readSign yX3_readSign cX3_readSign 2 ((some FieldType.boolean)) false 0 B_X3_readSign_0 := fun p e s m args below meth c D ty ad A n0 φ0 Q G Y hY => (u_aload_n G dX3_readSign_0 rfl (t_getR G cl_3 (k := 0) (by decide) (Or.inl q1_216) rfl (Or.inl ⟨_, rfl⟩) dX3_readSign_1 (u_aload_n G dX3_readSign_4 rfl (t_getI G cl_3 (k := 2) (by decide) (Or.inl q1_218) rfl (Or.inl rfl) dX3_readSign_5 (t_callV G cl_5 (m_X5_readAt l) ⟨rfl, rfl⟩ rfl ⟨Nat.le_of_ble_eq_true rfl, Nat.le_of_ble_eq_true rfl⟩ q3_58 q1_9 (Or.inl q3_55) q3_56 q3_57 hd_X5_readAt dX3_readSign_8 (u_iload_n G dX3_readSign_11 rfl (u_icmp_eq G dX3_readSign_12 (by decide) (u_aload_n G dX3_readSign_24 rfl (t_dup G dX3_readSign_25 (t_getI G cl_3 (k := 2) (by decide) (Or.inl q1_218) rfl (Or.inl rfl) dX3_readSign_26 (u_iconst G dX3_readSign_29 (by decide) (u_iadd G dX3_readSign_30 (t_putI G cl_3 (k := 2) (by decide) (Or.inl ⟨rfl, Or.inl q1_218⟩) rfl rfl dX3_readSign_31 (u_iconst G dX3_readSign_34 (by decide) (t_zret G rfl dX3_readSign_35)))))))) (u_aload_n G dX3_readSign_15 rfl (u_aload_n G dX3_readSign_16 rfl (t_getI G cl_3 (k := 2) (by decide) (Or.inl q1_218) rfl (Or.inl rfl) dX3_readSign_17 (t_callV G cl_3 (m_X3_failAt l) ⟨rfl, rfl⟩ rfl ⟨Nat.le_of_ble_eq_true rfl, Nat.le_of_ble_eq_true rfl⟩ q3_77 q1_7 (Or.inl q3_74) q3_76 qs_7 hd_X3_failAt dX3_readSign_20 (t_zret G rfl dX3_readSign_23))))))))))))
set_option maxRecDepth 100000 in
theorem m_X3_readSign (l : Launch) : s_Met l yX3_readSign cX3_readSign 2 ((some FieldType.boolean)) rm_X3_readSign false C_X3_readSign := by
  intro D ty ad av φ sz sh me Q hsh hC
  unfold C_X3_readSign at hC
  split at hC
  · exact s_met1 (P := P_X3_readSign) (by decide +kernel) (fun _ => ⟨rfl, rfl⟩) (fun p e s m args below meth c D ty ad A n0 φ0 Q G Y hY => s_tab_T _ (List.forall_mem_cons.mpr ⟨b_X3_readSign_0 l p e s m args below meth c D ty ad A n0 φ0 Q G Y hY, fun _ h => absurd h List.not_mem_nil⟩)) hsh rfl rfl (Nat.le_of_ble_eq_true rfl) hC
  · exact hC.elim
def B_X7_hasRoom_0 (Q : SQ) (nx : Nat → SK) : SK := (o_aload 0 (o_getI 7 1 (o_const (.int 7) (o_ic (fun x y => y ≤ x) (o_const (.int 0) (nx 14)) (o_const (.int 1) (nx 14))))))
def B_X7_hasRoom_14 (Q : SQ) (nx : Nat → SK) : SK := (o_zret Q)
def P_X7_hasRoom (Q : SQ) (nx : Nat → SK) : Nat → SK := s_tab [(0, B_X7_hasRoom_0 Q nx), (14, B_X7_hasRoom_14 Q nx)]
def C_X7_hasRoom : SC := fun av sh me Q => match av with
  | [.ref a0] => s_wp P_X7_hasRoom Q 0 [some (.ref a0)] [] sh me
  | _ => False
abbrev rm_X7_hasRoom : Room := { frames := 0, cells := 0, slots := 0, locals := 0 }
theorem hd_X7_hasRoom : (yX7_hasRoom).cls ≠ "java/lang/invoke/MethodHandle" ∧ (yX7_hasRoom).cls ≠ "java/lang/invoke/VarHandle" ∧ (parseMethodDescriptor (yX7_hasRoom).desc).map (fun d => d.parameters.length) = some 0 := by decide +kernel
set_option maxRecDepth 100000 in
set_option maxHeartbeats 4000000 in
theorem b_X7_hasRoom_0 (l : Launch) : s_B l rm_X7_hasRoom yX7_hasRoom cX7_hasRoom 1 ((some FieldType.boolean)) false 0 B_X7_hasRoom_0 := fun p e s m args below meth c D ty ad A n0 φ0 Q G Y hY => (u_aload_n G dX7_hasRoom_0 rfl (t_getI G cl_7 (k := 1) (by decide) (Or.inl q1_90) rfl (Or.inl rfl) dX7_hasRoom_1 (u_bipush G dX7_hasRoom_4 (by decide) (u_icmp_ge G dX7_hasRoom_6 (by decide) (u_iconst G dX7_hasRoom_13 (by decide) (hY 14)) (u_iconst G dX7_hasRoom_9 (by decide) (t_goto G dX7_hasRoom_10 (by decide) (hY 14)))))))
set_option maxRecDepth 100000 in
set_option maxHeartbeats 4000000 in
theorem b_X7_hasRoom_14 (l : Launch) : s_B l rm_X7_hasRoom yX7_hasRoom cX7_hasRoom 1 ((some FieldType.boolean)) false 14 B_X7_hasRoom_14 := fun p e s m args below meth c D ty ad A n0 φ0 Q G Y hY => (t_zret G rfl dX7_hasRoom_14)
set_option maxRecDepth 100000 in
theorem m_X7_hasRoom (l : Launch) : s_Met l yX7_hasRoom cX7_hasRoom 1 ((some FieldType.boolean)) rm_X7_hasRoom false C_X7_hasRoom := by
  intro D ty ad av φ sz sh me Q hsh hC
  unfold C_X7_hasRoom at hC
  split at hC
  · exact s_met1 (P := P_X7_hasRoom) (by decide +kernel) (fun _ => ⟨rfl, rfl⟩) (fun p e s m args below meth c D ty ad A n0 φ0 Q G Y hY => s_tab_T _ (List.forall_mem_cons.mpr ⟨b_X7_hasRoom_0 l p e s m args below meth c D ty ad A n0 φ0 Q G Y hY, List.forall_mem_cons.mpr ⟨b_X7_hasRoom_14 l p e s m args below meth c D ty ad A n0 φ0 Q G Y hY, fun _ h => absurd h List.not_mem_nil⟩⟩)) hsh rfl rfl (Nat.le_of_ble_eq_true rfl) hC
  · exact hC.elim
def B_X3_readDigit_0 (Q : SQ) (nx : Nat → SK) : SK := (o_aload 0 (o_getR 3 0 (o_aload 0 (o_getI 3 2 (o_callV C_X5_readAt 5 2 (o_istore 1 (o_iload 1 (o_const (.int 48) (o_ic (fun x y => x < y) (nx 24) (o_iload 1 (o_const (.int 57) (o_ic (fun x y => x ≤ y) (o_aload 0 (o_dup (o_getI 3 2 (o_const (.int 1) (o_i2 (fun x y => x + y) (o_putI 3 2 (o_iload 1 (o_const (.int 48) (o_i2 (fun x y => x - y) (o_iret Q)))))))))) (nx 24)))))))))))))
def B_X3_readDigit_24 (Q : SQ) (nx : Nat → SK) : SK := (o_const (.int (-1)) (o_iret Q))
def P_X3_readDigit (Q : SQ) (nx : Nat → SK) : Nat → SK := s_tab [(0, B_X3_readDigit_0 Q nx), (24, B_X3_readDigit_24 Q nx)]
def C_X3_readDigit : SC := fun av sh me Q => match av with
  | [.ref a0] => s_wp P_X3_readDigit Q 0 [some (.ref a0), none] [] sh me
  | _ => False
abbrev rm_X3_readDigit : Room := { frames := 1, cells := 0, slots := 0, locals := 21 }
theorem hd_X3_readDigit : (yX3_readDigit).cls ≠ "java/lang/invoke/MethodHandle" ∧ (yX3_readDigit).cls ≠ "java/lang/invoke/VarHandle" ∧ (parseMethodDescriptor (yX3_readDigit).desc).map (fun d => d.parameters.length) = some 0 := by decide +kernel
set_option maxRecDepth 100000 in
set_option maxHeartbeats 4000000 in
theorem b_X3_readDigit_0 (l : Launch) : s_B l rm_X3_readDigit yX3_readDigit cX3_readDigit 2 ((some FieldType.int)) false 0 B_X3_readDigit_0 := fun p e s m args below meth c D ty ad A n0 φ0 Q G Y hY => (u_aload_n G dX3_readDigit_0 rfl (t_getR G cl_3 (k := 0) (by decide) (Or.inl q1_216) rfl (Or.inl ⟨_, rfl⟩) dX3_readDigit_1 (u_aload_n G dX3_readDigit_4 rfl (t_getI G cl_3 (k := 2) (by decide) (Or.inl q1_218) rfl (Or.inl rfl) dX3_readDigit_5 (t_callV G cl_5 (m_X5_readAt l) ⟨rfl, rfl⟩ rfl ⟨Nat.le_of_ble_eq_true rfl, Nat.le_of_ble_eq_true rfl⟩ q3_58 q1_9 (Or.inl q3_55) q3_56 q3_57 hd_X5_readAt dX3_readDigit_8 (u_istore_n G dX3_readDigit_11 rfl (u_iload_n G dX3_readDigit_12 rfl (u_bipush G dX3_readDigit_13 (by decide) (u_icmp_lt G dX3_readDigit_15 (by decide) (hY 24) (u_iload_n G dX3_readDigit_18 rfl (u_bipush G dX3_readDigit_19 (by decide) (u_icmp_le G dX3_readDigit_21 (by decide) (u_aload_n G dX3_readDigit_26 rfl (t_dup G dX3_readDigit_27 (t_getI G cl_3 (k := 2) (by decide) (Or.inl q1_218) rfl (Or.inl rfl) dX3_readDigit_28 (u_iconst G dX3_readDigit_31 (by decide) (u_iadd G dX3_readDigit_32 (t_putI G cl_3 (k := 2) (by decide) (Or.inl ⟨rfl, Or.inl q1_218⟩) rfl rfl dX3_readDigit_33 (u_iload_n G dX3_readDigit_36 rfl (u_bipush G dX3_readDigit_37 (by decide) (u_isub G dX3_readDigit_39 (t_iret G rfl dX3_readDigit_40)))))))))) (hY 24)))))))))))))
set_option maxRecDepth 100000 in
set_option maxHeartbeats 4000000 in
theorem b_X3_readDigit_24 (l : Launch) : s_B l rm_X3_readDigit yX3_readDigit cX3_readDigit 2 ((some FieldType.int)) false 24 B_X3_readDigit_24 := fun p e s m args below meth c D ty ad A n0 φ0 Q G Y hY => (u_iconst G dX3_readDigit_24 (by decide) (t_iret G rfl dX3_readDigit_25))
set_option maxRecDepth 100000 in
theorem m_X3_readDigit (l : Launch) : s_Met l yX3_readDigit cX3_readDigit 2 ((some FieldType.int)) rm_X3_readDigit false C_X3_readDigit := by
  intro D ty ad av φ sz sh me Q hsh hC
  unfold C_X3_readDigit at hC
  split at hC
  · exact s_met1 (P := P_X3_readDigit) (by decide +kernel) (fun _ => ⟨rfl, rfl⟩) (fun p e s m args below meth c D ty ad A n0 φ0 Q G Y hY => s_tab_T _ (List.forall_mem_cons.mpr ⟨b_X3_readDigit_0 l p e s m args below meth c D ty ad A n0 φ0 Q G Y hY, List.forall_mem_cons.mpr ⟨b_X3_readDigit_24 l p e s m args below meth c D ty ad A n0 φ0 Q G Y hY, fun _ h => absurd h List.not_mem_nil⟩⟩)) hsh rfl rfl (Nat.le_of_ble_eq_true rfl) hC
  · exact hC.elim
def B_X3_readNumber_0 (Q : SQ) (nx : Nat → SK) : SK := (o_aload 0 (o_const (.int 32) (o_callV C_X3_readSign 3 2 (o_if (fun x => ¬ x = 0) (o_aload 0 (o_aload 0 (o_getI 3 2 (o_putI 3 3 (o_aload 0 (o_callV C_X3_readDigit 3 1 (o_istore 3 (o_iload 3 (o_const (.int (-1)) (o_ic (fun x y => ¬ x = y) (o_aload 0 (o_callV C_X3_readDigit 3 1 (o_istore 4 (o_iload 4 (o_const (.int (-1)) (o_ic (fun x y => x = y) (nx 60) (o_iload 3 (o_const (.int 10) (o_i2 (fun x y => x * y) (o_iload 4 (o_i2 (fun x y => x + y) (o_istore 3 (nx 60))))))))))))) (o_aload 0 (o_aload 0 (o_getI 3 2 (o_callV C_X3_failAt 3 2 (o_pop (o_const (.int (-1)) (o_iret Q))))))))))))))))) (o_const (.int (-1)) (o_iret Q))))))
def B_X3_readNumber_60 (Q : SQ) (nx : Nat → SK) : SK := (o_iload 3 (o_iload 1 (o_ic (fun x y => x < y) (nx 70) (o_iload 3 (o_iload 2 (o_ic (fun x y => x ≤ y) (o_iload 3 (o_iret Q)) (nx 70)))))))
def B_X3_readNumber_70 (Q : SQ) (nx : Nat → SK) : SK := (o_aload 0 (o_aload 0 (o_getI 3 3 (o_callV C_X3_failAt 3 2 (o_pop (o_const (.int (-1)) (o_iret Q)))))))
def P_X3_readNumber (Q : SQ) (nx : Nat → SK) : Nat → SK := s_tab [(0, B_X3_readNumber_0 Q nx), (60, B_X3_readNumber_60 Q nx), (70, B_X3_readNumber_70 Q nx)]
def C_X3_readNumber : SC := fun av sh me Q => match av with
  | [.ref a0, .int a1, .int a2] => s_wp P_X3_readNumber Q 0 [some (.ref a0), some (.int a1), some (.int a2), none, none] [] sh me
  | _ => False
abbrev rm_X3_readNumber : Room := { frames := 2, cells := 0, slots := 0, locals := 42 }
theorem hd_X3_readNumber : (yX3_readNumber).cls ≠ "java/lang/invoke/MethodHandle" ∧ (yX3_readNumber).cls ≠ "java/lang/invoke/VarHandle" ∧ (parseMethodDescriptor (yX3_readNumber).desc).map (fun d => d.parameters.length) = some 2 := by decide +kernel
set_option maxRecDepth 100000 in
set_option maxHeartbeats 4000000 in
theorem b_X3_readNumber_0 (l : Launch) : s_B l rm_X3_readNumber yX3_readNumber cX3_readNumber 5 ((some FieldType.int)) false 0 B_X3_readNumber_0 := fun p e s m args below meth c D ty ad A n0 φ0 Q G Y hY => (u_aload_n G dX3_readNumber_0 rfl (u_bipush G dX3_readNumber_1 (by decide) (t_callV G cl_3 (m_X3_readSign l) ⟨rfl, rfl⟩ rfl ⟨Nat.le_of_ble_eq_true rfl, Nat.le_of_ble_eq_true rfl⟩ q3_129 q1_7 (Or.inl q3_126) q3_128 qs_8 hd_X3_readSign dX3_readNumber_3 (u_if_ne G dX3_readNumber_6 (by decide) (u_aload_n G dX3_readNumber_11 rfl (u_aload_n G dX3_readNumber_12 rfl (t_getI G cl_3 (k := 2) (by decide) (Or.inl q1_218) rfl (Or.inl rfl) dX3_readNumber_13 (t_putI G cl_3 (k := 3) (by decide) (Or.inl ⟨rfl, Or.inl q1_219⟩) rfl rfl dX3_readNumber_16 (u_aload_n G dX3_readNumber_19 rfl (t_callV G cl_3 (m_X3_readDigit l) ⟨rfl, rfl⟩ rfl ⟨Nat.le_of_ble_eq_true rfl, Nat.le_of_ble_eq_true rfl⟩ q3_142 q1_7 (Or.inl q3_139) q3_141 qs_11 hd_X3_readDigit dX3_readNumber_20 (u_istore_n G dX3_readNumber_23 rfl (u_iload_n G dX3_readNumber_24 rfl (u_iconst G dX3_readNumber_25 (by decide) (u_icmp_ne G dX3_readNumber_26 (by decide) (u_aload_n G dX3_readNumber_40 rfl (t_callV G cl_3 (m_X3_readDigit l) ⟨rfl, rfl⟩ rfl ⟨Nat.le_of_ble_eq_true rfl, Nat.le_of_ble_eq_true rfl⟩ q3_142 q1_7 (Or.inl q3_139) q3_141 qs_11 hd_X3_readDigit dX3_readNumber_41 (u_istore G dX3_readNumber_44 (u_iload G dX3_readNumber_46 (u_iconst G dX3_readNumber_48 (by decide) (u_icmp_eq G dX3_readNumber_49 (by decide) (hY 60) (u_iload_n G dX3_readNumber_52 rfl (u_bipush G dX3_readNumber_53 (by decide) (u_imul G dX3_readNumber_55 (u_iload G dX3_readNumber_56 (u_iadd G dX3_readNumber_58 (u_istore_n G dX3_readNumber_59 rfl (hY 60))))))))))))) (u_aload_n G dX3_readNumber_29 rfl (u_aload_n G dX3_readNumber_30 rfl (t_getI G cl_3 (k := 2) (by decide) (Or.inl q1_218) rfl (Or.inl rfl) dX3_readNumber_31 (t_callV G cl_3 (m_X3_failAt l) ⟨rfl, rfl⟩ rfl ⟨Nat.le_of_ble_eq_true rfl, Nat.le_of_ble_eq_true rfl⟩ q3_77 q1_7 (Or.inl q3_74) q3_76 qs_7 hd_X3_failAt dX3_readNumber_34 (t_pop G dX3_readNumber_37 (u_iconst G dX3_readNumber_38 (by decide) (t_iret G rfl dX3_readNumber_39))))))))))))))))) (u_iconst G dX3_readNumber_9 (by decide) (t_iret G rfl dX3_readNumber_10))))))
set_option maxRecDepth 100000 in
set_option maxHeartbeats 4000000 in
theorem b_X3_readNumber_60 (l : Launch) : s_B l rm_X3_readNumber yX3_readNumber cX3_readNumber 5 ((some FieldType.int)) false 60 B_X3_readNumber_60 := fun p e s m args below meth c D ty ad A n0 φ0 Q G Y hY => (u_iload_n G dX3_readNumber_60 rfl (u_iload_n G dX3_readNumber_61 rfl (u_icmp_lt G dX3_readNumber_62 (by decide) (hY 70) (u_iload_n G dX3_readNumber_65 rfl (u_iload_n G dX3_readNumber_66 rfl (u_icmp_le G dX3_readNumber_67 (by decide) (u_iload_n G dX3_readNumber_81 rfl (t_iret G rfl dX3_readNumber_82)) (hY 70)))))))
set_option maxRecDepth 100000 in
set_option maxHeartbeats 4000000 in
theorem b_X3_readNumber_70 (l : Launch) : s_B l rm_X3_readNumber yX3_readNumber cX3_readNumber 5 ((some FieldType.int)) false 70 B_X3_readNumber_70 := fun p e s m args below meth c D ty ad A n0 φ0 Q G Y hY => (u_aload_n G dX3_readNumber_70 rfl (u_aload_n G dX3_readNumber_71 rfl (t_getI G cl_3 (k := 3) (by decide) (Or.inl q1_219) rfl (Or.inl rfl) dX3_readNumber_72 (t_callV G cl_3 (m_X3_failAt l) ⟨rfl, rfl⟩ rfl ⟨Nat.le_of_ble_eq_true rfl, Nat.le_of_ble_eq_true rfl⟩ q3_77 q1_7 (Or.inl q3_74) q3_76 qs_7 hd_X3_failAt dX3_readNumber_75 (t_pop G dX3_readNumber_78 (u_iconst G dX3_readNumber_79 (by decide) (t_iret G rfl dX3_readNumber_80)))))))
set_option maxRecDepth 100000 in
theorem m_X3_readNumber (l : Launch) : s_Met l yX3_readNumber cX3_readNumber 5 ((some FieldType.int)) rm_X3_readNumber false C_X3_readNumber := by
  intro D ty ad av φ sz sh me Q hsh hC
  unfold C_X3_readNumber at hC
  split at hC
  · exact s_met1 (P := P_X3_readNumber) (by decide +kernel) (fun _ => ⟨rfl, rfl⟩) (fun p e s m args below meth c D ty ad A n0 φ0 Q G Y hY => s_tab_T _ (List.forall_mem_cons.mpr ⟨b_X3_readNumber_0 l p e s m args below meth c D ty ad A n0 φ0 Q G Y hY, List.forall_mem_cons.mpr ⟨b_X3_readNumber_60 l p e s m args below meth c D ty ad A n0 φ0 Q G Y hY, List.forall_mem_cons.mpr ⟨b_X3_readNumber_70 l p e s m args below meth c D ty ad A n0 φ0 Q G Y hY, fun _ h => absurd h List.not_mem_nil⟩⟩⟩)) hsh rfl rfl (Nat.le_of_ble_eq_true rfl) hC
  · exact hC.elim
def B_X3_readPerson_0 (Q : SQ) (nx : Nat → SK) : SK := (o_aload 0 (o_getR 3 1 (o_callV C_X7_hasRoom 7 1 (o_if (fun x => ¬ x = 0) (o_aload 0 (o_const (.int 0) (o_const (.int 6) (o_callV C_X3_readNumber 3 3 (o_istore 2 (o_iload 2 (o_const (.int (-1)) (o_ic (fun x y => ¬ x = y) (o_aload 0 (o_const (.int 0) (o_const (.int 9) (o_callV C_X3_readNumber 3 3 (nx 40))))) (o_const (.int (-1)) (nx 40)))))))))) (o_aload 0 (o_iload 1 (o_callV C_X3_failAt 3 2 (o_zret Q))))))))
def B_X3_readPerson_40 (Q : SQ) (nx : Nat → SK) : SK := (o_istore 3 (o_iload 3 (o_const (.int (-1)) (o_ic (fun x y => ¬ x = y) (o_aload 0 (o_const (.int 0) (o_const (.int 20) (o_callV C_X3_readNumber 3 3 (nx 57))))) (o_const (.int (-1)) (nx 57))))))
def B_X3_readPerson_57 (Q : SQ) (nx : Nat → SK) : SK := (o_istore 4 (o_iload 4 (o_const (.int (-1)) (o_ic (fun x y => ¬ x = y) (o_aload 0 (o_const (.int 0) (o_const (.int 9) (o_callV C_X3_readNumber 3 3 (nx 76))))) (o_const (.int (-1)) (nx 76))))))
def B_X3_readPerson_76 (Q : SQ) (nx : Nat → SK) : SK := (o_istore 5 (o_iload 5 (o_const (.int (-1)) (o_ic (fun x y => ¬ x = y) (o_aload 0 (o_const (.int 0) (o_const (.int 9999) (o_callV C_X3_readNumber 3 3 (nx 96))))) (o_const (.int (-1)) (nx 96))))))
def B_X3_readPerson_96 (Q : SQ) (nx : Nat → SK) : SK := (o_istore 6 (o_iload 6 (o_const (.int (-1)) (o_ic (fun x y => ¬ x = y) (o_aload 0 (o_const (.int 0) (o_const (.int 35) (o_callV C_X3_readNumber 3 3 (nx 115))))) (o_const (.int (-1)) (nx 115))))))
def B_X3_readPerson_115 (Q : SQ) (nx : Nat → SK) : SK := (o_istore 7 (o_iload 7 (o_const (.int (-1)) (o_ic (fun x y => ¬ x = y) (o_aload 0 (o_getR 3 1 (o_iload 7 (o_callV C_X7_isWall 7 2 (o_if (fun x => x = 0) (o_aload 0 (o_getR 3 1 (o_getR 7 0 (o_aload 0 (o_getR 3 1 (o_getI 7 1 (o_aald 12 (o_astore 8 (o_aload 8 (o_iload 2 (o_iload 3 (o_iload 4 (o_callV C_X1_become 1 4 (o_aload 8 (o_iload 5 (o_iload 6 (o_iload 7 (o_callV C_X1_place 1 4 (o_aload 0 (o_getR 3 1 (o_dup (o_getI 7 1 (o_const (.int 1) (o_i2 (fun x y => x + y) (o_putI 7 1 (o_const (.int 1) (o_zret Q))))))))))))))))))))))))))) (o_aload 0 (o_aload 0 (o_getI 3 3 (o_callV C_X3_failAt 3 2 (o_zret Q)))))))))) (o_const (.int 0) (o_zret Q))))))
def P_X3_readPerson (Q : SQ) (nx : Nat → SK) : Nat → SK := s_tab [(0, B_X3_readPerson_0 Q nx), (40, B_X3_readPerson_40 Q nx), (57, B_X3_readPerson_57 Q nx), (76, B_X3_readPerson_76 Q nx), (96, B_X3_readPerson_96 Q nx), (115, B_X3_readPerson_115 Q nx)]
def C_X3_readPerson : SC := fun av sh me Q => match av with
  | [.ref a0, .int a1] => s_wp P_X3_readPerson Q 0 [some (.ref a0), some (.int a1), none, none, none, none, none, none, none] [] sh me
  | _ => False
abbrev rm_X3_readPerson : Room := { frames := 3, cells := 0, slots := 0, locals := 66 }
theorem hd_X3_readPerson : (yX3_readPerson).cls ≠ "java/lang/invoke/MethodHandle" ∧ (yX3_readPerson).cls ≠ "java/lang/invoke/VarHandle" ∧ (parseMethodDescriptor (yX3_readPerson).desc).map (fun d => d.parameters.length) = some 1 := by decide +kernel
set_option maxRecDepth 100000 in
set_option maxHeartbeats 4000000 in
theorem b_X3_readPerson_0 (l : Launch) : s_B l rm_X3_readPerson yX3_readPerson cX3_readPerson 9 ((some FieldType.boolean)) false 0 B_X3_readPerson_0 := fun p e s m args below meth c D ty ad A n0 φ0 Q G Y hY => (u_aload_n G dX3_readPerson_0 rfl (t_getR G cl_3 (k := 1) (by decide) (Or.inl q1_217) rfl (Or.inl ⟨_, rfl⟩) dX3_readPerson_1 (t_callV G cl_7 (m_X7_hasRoom l) ⟨rfl, rfl⟩ rfl ⟨Nat.le_of_ble_eq_true rfl, Nat.le_of_ble_eq_true rfl⟩ q2_212 q1_2 (Or.inl q3_134) q2_210 q2_211 hd_X7_hasRoom dX3_readPerson_4 (u_if_ne G dX3_readPerson_7 (by decide) (u_aload_n G dX3_readPerson_16 rfl (u_iconst G dX3_readPerson_17 (by decide) (u_bipush G dX3_readPerson_18 (by decide) (t_callV G cl_3 (m_X3_readNumber l) ⟨rfl, rfl⟩ rfl ⟨Nat.le_of_ble_eq_true rfl, Nat.le_of_ble_eq_true rfl⟩ q3_138 q1_7 (Or.inl q3_135) q3_137 qs_10 hd_X3_readNumber dX3_readPerson_20 (u_istore_n G dX3_readPerson_23 rfl (u_iload_n G dX3_readPerson_24 rfl (u_iconst G dX3_readPerson_25 (by decide) (u_icmp_ne G dX3_readPerson_26 (by decide) (u_aload_n G dX3_readPerson_33 rfl (u_iconst G dX3_readPerson_34 (by decide) (u_bipush G dX3_readPerson_35 (by decide) (t_callV G cl_3 (m_X3_readNumber l) ⟨rfl, rfl⟩ rfl ⟨Nat.le_of_ble_eq_true rfl, Nat.le_of_ble_eq_true rfl⟩ q3_138 q1_7 (Or.inl q3_135) q3_137 qs_10 hd_X3_readNumber dX3_readPerson_37 (hY 40))))) (u_iconst G dX3_readPerson_29 (by decide) (t_goto G dX3_readPerson_30 (by decide) (hY 40))))))))))) (u_aload_n G dX3_readPerson_10 rfl (u_iload_n G dX3_readPerson_11 rfl (t_callV G cl_3 (m_X3_failAt l) ⟨rfl, rfl⟩ rfl ⟨Nat.le_of_ble_eq_true rfl, Nat.le_of_ble_eq_true rfl⟩ q3_77 q1_7 (Or.inl q3_74) q3_76 qs_7 hd_X3_failAt dX3_readPerson_12 (t_zret G rfl dX3_readPerson_15))))))))
set_option maxRecDepth 100000 in
set_option maxHeartbeats 4000000 in
theorem b_X3_readPerson_40 (l : Launch) : s_B l rm_X3_readPerson yX3_readPerson cX3_readPerson 9 ((some FieldType.boolean)) false 40 B_X3_readPerson_40 := fun p e s m args below meth c D ty ad A n0 φ0 Q G Y hY => (u_istore_n G dX3_readPerson_40 rfl (u_iload_n G dX3_readPerson_41 rfl (u_iconst G dX3_readPerson_42 (by decide) (u_icmp_ne G dX3_readPerson_43 (by decide) (u_aload_n G dX3_readPerson_50 rfl (u_iconst G dX3_readPerson_51 (by decide) (u_bipush G dX3_readPerson_52 (by decide) (t_callV G cl_3 (m_X3_readNumber l) ⟨rfl, rfl⟩ rfl ⟨Nat.le_of_ble_eq_true rfl, Nat.le_of_ble_eq_true rfl⟩ q3_138 q1_7 (Or.inl q3_135) q3_137 qs_10 hd_X3_readNumber dX3_readPerson_54 (hY 57))))) (u_iconst G dX3_readPerson_46 (by decide) (t_goto G dX3_readPerson_47 (by decide) (hY 57)))))))
set_option maxRecDepth 100000 in
set_option maxHeartbeats 4000000 in
theorem b_X3_readPerson_57 (l : Launch) : s_B l rm_X3_readPerson yX3_readPerson cX3_readPerson 9 ((some FieldType.boolean)) false 57 B_X3_readPerson_57 := fun p e s m args below meth c D ty ad A n0 φ0 Q G Y hY => (u_istore G dX3_readPerson_57 (u_iload G dX3_readPerson_59 (u_iconst G dX3_readPerson_61 (by decide) (u_icmp_ne G dX3_readPerson_62 (by decide) (u_aload_n G dX3_readPerson_69 rfl (u_iconst G dX3_readPerson_70 (by decide) (u_bipush G dX3_readPerson_71 (by decide) (t_callV G cl_3 (m_X3_readNumber l) ⟨rfl, rfl⟩ rfl ⟨Nat.le_of_ble_eq_true rfl, Nat.le_of_ble_eq_true rfl⟩ q3_138 q1_7 (Or.inl q3_135) q3_137 qs_10 hd_X3_readNumber dX3_readPerson_73 (hY 76))))) (u_iconst G dX3_readPerson_65 (by decide) (t_goto G dX3_readPerson_66 (by decide) (hY 76)))))))
set_option maxRecDepth 100000 in
set_option maxHeartbeats 4000000 in
theorem b_X3_readPerson_76 (l : Launch) : s_B l rm_X3_readPerson yX3_readPerson cX3_readPerson 9 ((some FieldType.boolean)) false 76 B_X3_readPerson_76 := fun p e s m args below meth c D ty ad A n0 φ0 Q G Y hY => (u_istore G dX3_readPerson_76 (u_iload G dX3_readPerson_78 (u_iconst G dX3_readPerson_80 (by decide) (u_icmp_ne G dX3_readPerson_81 (by decide) (u_aload_n G dX3_readPerson_88 rfl (u_iconst G dX3_readPerson_89 (by decide) (u_sipush G dX3_readPerson_90 (by decide) (t_callV G cl_3 (m_X3_readNumber l) ⟨rfl, rfl⟩ rfl ⟨Nat.le_of_ble_eq_true rfl, Nat.le_of_ble_eq_true rfl⟩ q3_138 q1_7 (Or.inl q3_135) q3_137 qs_10 hd_X3_readNumber dX3_readPerson_93 (hY 96))))) (u_iconst G dX3_readPerson_84 (by decide) (t_goto G dX3_readPerson_85 (by decide) (hY 96)))))))
set_option maxRecDepth 100000 in
set_option maxHeartbeats 4000000 in
theorem b_X3_readPerson_96 (l : Launch) : s_B l rm_X3_readPerson yX3_readPerson cX3_readPerson 9 ((some FieldType.boolean)) false 96 B_X3_readPerson_96 := fun p e s m args below meth c D ty ad A n0 φ0 Q G Y hY => (u_istore G dX3_readPerson_96 (u_iload G dX3_readPerson_98 (u_iconst G dX3_readPerson_100 (by decide) (u_icmp_ne G dX3_readPerson_101 (by decide) (u_aload_n G dX3_readPerson_108 rfl (u_iconst G dX3_readPerson_109 (by decide) (u_bipush G dX3_readPerson_110 (by decide) (t_callV G cl_3 (m_X3_readNumber l) ⟨rfl, rfl⟩ rfl ⟨Nat.le_of_ble_eq_true rfl, Nat.le_of_ble_eq_true rfl⟩ q3_138 q1_7 (Or.inl q3_135) q3_137 qs_10 hd_X3_readNumber dX3_readPerson_112 (hY 115))))) (u_iconst G dX3_readPerson_104 (by decide) (t_goto G dX3_readPerson_105 (by decide) (hY 115)))))))
set_option maxRecDepth 100000 in
set_option maxHeartbeats 4000000 in
theorem b_X3_readPerson_115 (l : Launch) : s_B l rm_X3_readPerson yX3_readPerson cX3_readPerson 9 ((some FieldType.boolean)) false 115 B_X3_readPerson_115 := fun p e s m args below meth c D ty ad A n0 φ0 Q G Y hY => (u_istore G dX3_readPerson_115 (u_iload G dX3_readPerson_117 (u_iconst G dX3_readPerson_119 (by decide) (u_icmp_ne G dX3_readPerson_120 (by decide) (u_aload_n G dX3_readPerson_125 rfl (t_getR G cl_3 (k := 1) (by decide) (Or.inl q1_217) rfl (Or.inl ⟨_, rfl⟩) dX3_readPerson_126 (u_iload G dX3_readPerson_129 (t_callV G cl_7 (m_X7_isWall l) ⟨rfl, rfl⟩ rfl ⟨Nat.le_of_ble_eq_true rfl, Nat.le_of_ble_eq_true rfl⟩ q2_208 q1_2 (Or.inl q3_143) q2_206 q2_207 hd_X7_isWall dX3_readPerson_131 (u_if_eq G dX3_readPerson_134 (by decide) (u_aload_n G dX3_readPerson_146 rfl (t_getR G cl_3 (k := 1) (by decide) (Or.inl q1_217) rfl (Or.inl ⟨_, rfl⟩) dX3_readPerson_147 (t_getR G cl_7 (k := 0) (by decide) (Or.inr ⟨_, q1_88⟩) rfl (Or.inr ⟨_, rfl⟩) dX3_readPerson_150 (u_aload_n G dX3_readPerson_153 rfl (t_getR G cl_3 (k := 1) (by decide) (Or.inl q1_217) rfl (Or.inl ⟨_, rfl⟩) dX3_readPerson_154 (t_getI G cl_7 (k := 1) (by decide) (Or.inr ⟨_, q1_94⟩) rfl (Or.inl rfl) dX3_readPerson_157 (t_aald G (by decide) dX3_readPerson_160 (u_astore G dX3_readPerson_161 (u_aload G dX3_readPerson_163 (u_iload_n G dX3_readPerson_165 rfl (u_iload_n G dX3_readPerson_166 rfl (u_iload G dX3_readPerson_167 (t_callV G cl_1 (m_X1_become l) ⟨rfl, rfl⟩ rfl ⟨Nat.le_of_ble_eq_true rfl, Nat.le_of_ble_eq_true rfl⟩ q2_216 q1_3 (Or.inl q3_144) q2_214 q2_215 hd_X1_become dX3_readPerson_169 (u_aload G dX3_readPerson_172 (u_iload G dX3_readPerson_174 (u_iload G dX3_readPerson_176 (u_iload G dX3_readPerson_178 (t_callV G cl_1 (m_X1_place l) ⟨rfl, rfl⟩ rfl ⟨Nat.le_of_ble_eq_true rfl, Nat.le_of_ble_eq_true rfl⟩ q2_220 q1_3 (Or.inl q3_145) q2_218 q2_219 hd_X1_place dX3_readPerson_180 (u_aload_n G dX3_readPerson_183 rfl (t_getR G cl_3 (k := 1) (by decide) (Or.inl q1_217) rfl (Or.inl ⟨_, rfl⟩) dX3_readPerson_184 (t_dup G dX3_readPerson_187 (t_getI G cl_7 (k := 1) (by decide) (Or.inr ⟨_, q1_94⟩) rfl (Or.inl rfl) dX3_readPerson_188 (u_iconst G dX3_readPerson_191 (by decide) (u_iadd G dX3_readPerson_192 (t_putI G cl_7 (k := 1) (by decide) (Or.inl ⟨rfl, Or.inr ⟨_, q1_94⟩⟩) rfl rfl dX3_readPerson_193 (u_iconst G dX3_readPerson_196 (by decide) (t_zret G rfl dX3_readPerson_197))))))))))))))))))))))))))) (u_aload_n G dX3_readPerson_137 rfl (u_aload_n G dX3_readPerson_138 rfl (t_getI G cl_3 (k := 3) (by decide) (Or.inl q1_219) rfl (Or.inl rfl) dX3_readPerson_139 (t_callV G cl_3 (m_X3_failAt l) ⟨rfl, rfl⟩ rfl ⟨Nat.le_of_ble_eq_true rfl, Nat.le_of_ble_eq_true rfl⟩ q3_77 q1_7 (Or.inl q3_74) q3_76 qs_7 hd_X3_failAt dX3_readPerson_142 (t_zret G rfl dX3_readPerson_145)))))))))) (u_iconst G dX3_readPerson_123 (by decide) (t_zret G rfl dX3_readPerson_124))))))
set_option maxRecDepth 100000 in
theorem m_X3_readPerson (l : Launch) : s_Met l yX3_readPerson cX3_readPerson 9 ((some FieldType.boolean)) rm_X3_readPerson false C_X3_readPerson := by
  intro D ty ad av φ sz sh me Q hsh hC
  unfold C_X3_readPerson at hC
  split at hC
  · exact s_met1 (P := P_X3_readPerson) (by decide +kernel) (fun _ => ⟨rfl, rfl⟩) (fun p e s m args below meth c D ty ad A n0 φ0 Q G Y hY => s_tab_T _ (List.forall_mem_cons.mpr ⟨b_X3_readPerson_0 l p e s m args below meth c D ty ad A n0 φ0 Q G Y hY, List.forall_mem_cons.mpr ⟨b_X3_readPerson_40 l p e s m args below meth c D ty ad A n0 φ0 Q G Y hY, List.forall_mem_cons.mpr ⟨b_X3_readPerson_57 l p e s m args below meth c D ty ad A n0 φ0 Q G Y hY, List.forall_mem_cons.mpr ⟨b_X3_readPerson_76 l p e s m args below meth c D ty ad A n0 φ0 Q G Y hY, List.forall_mem_cons.mpr ⟨b_X3_readPerson_96 l p e s m args below meth c D ty ad A n0 φ0 Q G Y hY, List.forall_mem_cons.mpr ⟨b_X3_readPerson_115 l p e s m args below meth c D ty ad A n0 φ0 Q G Y hY, fun _ h => absurd h List.not_mem_nil⟩⟩⟩⟩⟩⟩)) hsh rfl rfl (Nat.le_of_ble_eq_true rfl) hC
  · exact hC.elim
def B_X3_readSack_0 (Q : SQ) (nx : Nat → SK) : SK := (o_aload 0 (o_const (.int 0) (o_aload 0 (o_getR 3 1 (o_getI 7 1 (o_const (.int 1) (o_i2 (fun x y => x - y) (o_callV C_X3_readNumber 3 3 (o_istore 1 (o_iload 1 (o_const (.int (-1)) (o_ic (fun x y => ¬ x = y) (o_aload 0 (o_getR 3 1 (o_getR 7 0 (o_iload 1 (o_aald 12 (o_const (.int 1) (o_putZ 1 6 (o_const (.int 1) (o_zret Q))))))))) (o_const (.int 0) (o_zret Q))))))))))))))
def P_X3_readSack (Q : SQ) (nx : Nat → SK) : Nat → SK := s_tab [(0, B_X3_readSack_0 Q nx)]
def C_X3_readSack : SC := fun av sh me Q => match av with
  | [.ref a0] => s_wp P_X3_readSack Q 0 [some (.ref a0), none] [] sh me
  | _ => False
abbrev rm_X3_readSack : Room := { frames := 3, cells := 0, slots := 0, locals := 66 }
theorem hd_X3_readSack : (yX3_readSack).cls ≠ "java/lang/invoke/MethodHandle" ∧ (yX3_readSack).cls ≠ "java/lang/invoke/VarHandle" ∧ (parseMethodDescriptor (yX3_readSack).desc).map (fun d => d.parameters.length) = some 0 := by decide +kernel
set_option maxRecDepth 100000 in
set_option maxHeartbeats 4000000 in
theorem b_X3_readSack_0 (l : Launch) : s_B l rm_X3_readSack yX3_readSack cX3_readSack 2 ((some FieldType.boolean)) false 0 B_X3_readSack_0 := fun p e s m args below meth c D ty ad A n0 φ0 Q G Y hY => (u_aload_n G dX3_readSack_0 rfl (u_iconst G dX3_readSack_1 (by decide) (u_aload_n G dX3_readSack_2 rfl (t_getR G cl_3 (k := 1) (by decide) (Or.inl q1_217) rfl (Or.inl ⟨_, rfl⟩) dX3_readSack_3 (t_getI G cl_7 (k := 1) (by decide) (Or.inr ⟨_, q1_94⟩) rfl (Or.inl rfl) dX3_readSack_6 (u_iconst G dX3_readSack_9 (by decide) (u_isub G dX3_readSack_10 (t_callV G cl_3 (m_X3_readNumber l) ⟨rfl, rfl⟩ rfl ⟨Nat.le_of_ble_eq_true rfl, Nat.le_of_ble_eq_true rfl⟩ q3_138 q1_7 (Or.inl q3_135) q3_137 qs_10 hd_X3_readNumber dX3_readSack_11 (u_istore_n G dX3_readSack_14 rfl (u_iload_n G dX3_readSack_15 rfl (u_iconst G dX3_readSack_16 (by decide) (u_icmp_ne G dX3_readSack_17 (by decide) (u_aload_n G dX3_readSack_22 rfl (t_getR G cl_3 (k := 1) (by decide) (Or.inl q1_217) rfl (Or.inl ⟨_, rfl⟩) dX3_readSack_23 (t_getR G cl_7 (k := 0) (by decide) (Or.inr ⟨_, q1_88⟩) rfl (Or.inr ⟨_, rfl⟩) dX3_readSack_26 (u_iload_n G dX3_readSack_29 rfl (t_aald G (by decide) dX3_readSack_30 (u_iconst G dX3_readSack_31 (by decide) (t_putZ G cl_1 (k := 6) (by decide) (Or.inl ⟨rfl, Or.inr ⟨_, q1_66⟩⟩) rfl rfl dX3_readSack_32 (u_iconst G dX3_readSack_35 (by decide) (t_zret G rfl dX3_readSack_36))))))))) (u_iconst G dX3_readSack_20 (by decide) (t_zret G rfl dX3_readSack_21))))))))))))))
set_option maxRecDepth 100000 in
theorem m_X3_readSack (l : Launch) : s_Met l yX3_readSack cX3_readSack 2 ((some FieldType.boolean)) rm_X3_readSack false C_X3_readSack := by
  intro D ty ad av φ sz sh me Q hsh hC
  unfold C_X3_readSack at hC
  split at hC
  · exact s_met1 (P := P_X3_readSack) (by decide +kernel) (fun _ => ⟨rfl, rfl⟩) (fun p e s m args below meth c D ty ad A n0 φ0 Q G Y hY => s_tab_T _ (List.forall_mem_cons.mpr ⟨b_X3_readSack_0 l p e s m args below meth c D ty ad A n0 φ0 Q G Y hY, fun _ h => absurd h List.not_mem_nil⟩)) hsh rfl rfl (Nat.le_of_ble_eq_true rfl) hC
  · exact hC.elim
