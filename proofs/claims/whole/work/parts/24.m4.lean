def B_X3_readMite_0 (Q : SQ) (nx : Nat → SK) : SK := (o_aload 0 (o_const (.int 1) (o_const (.int 9) (o_callV C_X3_readNumber 3 3 (o_istore 1 (o_iload 1 (o_const (.int (-1)) (o_ic (fun x y => ¬ x = y) (o_aload 0 (o_getR 3 1 (o_iload 1 (o_putI 7 4 (o_const (.int 1) (o_zret Q)))))) (o_const (.int 0) (o_zret Q))))))))))
def P_X3_readMite (Q : SQ) (nx : Nat → SK) : Nat → SK := s_tab [(0, B_X3_readMite_0 Q nx)]
def C_X3_readMite : SC := fun av sh me Q => match av with
  | [.ref a0] => s_wp P_X3_readMite Q 0 [some (.ref a0), none] [] sh me
  | _ => False
abbrev rm_X3_readMite : Room := { frames := 3, cells := 0, slots := 0, locals := 66 }
theorem hd_X3_readMite : (yX3_readMite).cls ≠ "java/lang/invoke/MethodHandle" ∧ (yX3_readMite).cls ≠ "java/lang/invoke/VarHandle" ∧ (parseMethodDescriptor (yX3_readMite).desc).map (fun d => d.parameters.length) = some 0 := by decide +kernel
set_option maxRecDepth 100000 in
set_option maxHeartbeats 4000000 in
theorem b_X3_readMite_0 (l : Launch) : s_B l rm_X3_readMite yX3_readMite cX3_readMite 2 ((some FieldType.boolean)) false 0 B_X3_readMite_0 := fun p e s m args below meth c D ty ad A n0 φ0 Q G Y hY => (u_aload_n G dX3_readMite_0 rfl (u_iconst G dX3_readMite_1 (by decide) (u_bipush G dX3_readMite_2 (by decide) (t_callV G cl_3 (m_X3_readNumber l) ⟨rfl, rfl⟩ rfl ⟨Nat.le_of_ble_eq_true rfl, Nat.le_of_ble_eq_true rfl⟩ q3_138 q1_7 (Or.inl q3_135) q3_137 qs_10 hd_X3_readNumber dX3_readMite_4 (u_istore_n G dX3_readMite_7 rfl (u_iload_n G dX3_readMite_8 rfl (u_iconst G dX3_readMite_9 (by decide) (u_icmp_ne G dX3_readMite_10 (by decide) (u_aload_n G dX3_readMite_15 rfl (t_getR G cl_3 (k := 1) (by decide) (Or.inl q1_217) rfl (Or.inl ⟨_, rfl⟩) dX3_readMite_16 (u_iload_n G dX3_readMite_19 rfl (t_putI G cl_7 (k := 4) (by decide) (Or.inl ⟨rfl, Or.inr ⟨_, q1_104⟩⟩) rfl rfl dX3_readMite_20 (u_iconst G dX3_readMite_23 (by decide) (t_zret G rfl dX3_readMite_24)))))) (u_iconst G dX3_readMite_13 (by decide) (t_zret G rfl dX3_readMite_14))))))))))
set_option maxRecDepth 100000 in
theorem m_X3_readMite (l : Launch) : s_Met l yX3_readMite cX3_readMite 2 ((some FieldType.boolean)) rm_X3_readMite false C_X3_readMite := by
  intro D ty ad av φ sz sh me Q hsh hC
  unfold C_X3_readMite at hC
  split at hC
  · exact s_met1 (P := P_X3_readMite) (by decide +kernel) (fun _ => ⟨rfl, rfl⟩) (fun p e s m args below meth c D ty ad A n0 φ0 Q G Y hY => s_tab_T _ (List.forall_mem_cons.mpr ⟨b_X3_readMite_0 l p e s m args below meth c D ty ad A n0 φ0 Q G Y hY, fun _ h => absurd h List.not_mem_nil⟩)) hsh rfl rfl (Nat.le_of_ble_eq_true rfl) hC
  · exact hC.elim
def B_X3_readReach_0 (Q : SQ) (nx : Nat → SK) : SK := (o_aload 0 (o_const (.int 1) (o_const (.int 5) (o_callV C_X3_readNumber 3 3 (o_istore 1 (o_iload 1 (o_const (.int (-1)) (o_ic (fun x y => ¬ x = y) (o_aload 0 (o_getR 3 1 (o_iload 1 (o_putI 7 5 (o_const (.int 1) (o_zret Q)))))) (o_const (.int 0) (o_zret Q))))))))))
def P_X3_readReach (Q : SQ) (nx : Nat → SK) : Nat → SK := s_tab [(0, B_X3_readReach_0 Q nx)]
def C_X3_readReach : SC := fun av sh me Q => match av with
  | [.ref a0] => s_wp P_X3_readReach Q 0 [some (.ref a0), none] [] sh me
  | _ => False
abbrev rm_X3_readReach : Room := { frames := 3, cells := 0, slots := 0, locals := 66 }
theorem hd_X3_readReach : (yX3_readReach).cls ≠ "java/lang/invoke/MethodHandle" ∧ (yX3_readReach).cls ≠ "java/lang/invoke/VarHandle" ∧ (parseMethodDescriptor (yX3_readReach).desc).map (fun d => d.parameters.length) = some 0 := by decide +kernel
set_option maxRecDepth 100000 in
set_option maxHeartbeats 4000000 in
theorem b_X3_readReach_0 (l : Launch) : s_B l rm_X3_readReach yX3_readReach cX3_readReach 2 ((some FieldType.boolean)) false 0 B_X3_readReach_0 := fun p e s m args below meth c D ty ad A n0 φ0 Q G Y hY => (u_aload_n G dX3_readReach_0 rfl (u_iconst G dX3_readReach_1 (by decide) (u_iconst G dX3_readReach_2 (by decide) (t_callV G cl_3 (m_X3_readNumber l) ⟨rfl, rfl⟩ rfl ⟨Nat.le_of_ble_eq_true rfl, Nat.le_of_ble_eq_true rfl⟩ q3_138 q1_7 (Or.inl q3_135) q3_137 qs_10 hd_X3_readNumber dX3_readReach_3 (u_istore_n G dX3_readReach_6 rfl (u_iload_n G dX3_readReach_7 rfl (u_iconst G dX3_readReach_8 (by decide) (u_icmp_ne G dX3_readReach_9 (by decide) (u_aload_n G dX3_readReach_14 rfl (t_getR G cl_3 (k := 1) (by decide) (Or.inl q1_217) rfl (Or.inl ⟨_, rfl⟩) dX3_readReach_15 (u_iload_n G dX3_readReach_18 rfl (t_putI G cl_7 (k := 5) (by decide) (Or.inl ⟨rfl, Or.inr ⟨_, q1_107⟩⟩) rfl rfl dX3_readReach_19 (u_iconst G dX3_readReach_22 (by decide) (t_zret G rfl dX3_readReach_23)))))) (u_iconst G dX3_readReach_12 (by decide) (t_zret G rfl dX3_readReach_13))))))))))
set_option maxRecDepth 100000 in
theorem m_X3_readReach (l : Launch) : s_Met l yX3_readReach cX3_readReach 2 ((some FieldType.boolean)) rm_X3_readReach false C_X3_readReach := by
  intro D ty ad av φ sz sh me Q hsh hC
  unfold C_X3_readReach at hC
  split at hC
  · exact s_met1 (P := P_X3_readReach) (by decide +kernel) (fun _ => ⟨rfl, rfl⟩) (fun p e s m args below meth c D ty ad A n0 φ0 Q G Y hY => s_tab_T _ (List.forall_mem_cons.mpr ⟨b_X3_readReach_0 l p e s m args below meth c D ty ad A n0 φ0 Q G Y hY, fun _ h => absurd h List.not_mem_nil⟩)) hsh rfl rfl (Nat.le_of_ble_eq_true rfl) hC
  · exact hC.elim
def B_X7_putBalcony_0 (Q : SQ) (nx : Nat → SK) : SK := (o_aload 0 (o_aload 0 (o_getJ 7 3 (o_iload 1 (o_iload 2 (o_call C_X8_withBit 3 (o_putJ 7 3 (o_vret Q))))))))
def P_X7_putBalcony (Q : SQ) (nx : Nat → SK) : Nat → SK := s_tab [(0, B_X7_putBalcony_0 Q nx)]
def C_X7_putBalcony : SC := fun av sh me Q => match av with
  | [.ref a0, .int a1, .int a2] => s_wp P_X7_putBalcony Q 0 [some (.ref a0), some (.int a1), some (.int a2)] [] sh me
  | _ => False
abbrev rm_X7_putBalcony : Room := { frames := 1, cells := 0, slots := 0, locals := 23 }
theorem hd_X7_putBalcony : (yX7_putBalcony).cls ≠ "java/lang/invoke/MethodHandle" ∧ (yX7_putBalcony).cls ≠ "java/lang/invoke/VarHandle" ∧ (parseMethodDescriptor (yX7_putBalcony).desc).map (fun d => d.parameters.length) = some 2 := by decide +kernel
set_option maxRecDepth 100000 in
set_option maxHeartbeats 4000000 in
theorem b_X7_putBalcony_0 (l : Launch) : s_B l rm_X7_putBalcony yX7_putBalcony cX7_putBalcony 3 ((none : Option FieldType)) false 0 B_X7_putBalcony_0 := fun p e s m args below meth c D ty ad A n0 φ0 Q G Y hY => (u_aload_n G dX7_putBalcony_0 rfl (u_aload_n G dX7_putBalcony_1 rfl (t_getJ G cl_7 (k := 3) (by decide) (Or.inl q1_98) rfl rfl dX7_putBalcony_2 (u_iload_n G dX7_putBalcony_5 rfl (u_iload_n G dX7_putBalcony_6 rfl (t_callS G (m_X8_withBit l) ⟨rfl, rfl⟩ rfl ⟨Nat.le_of_ble_eq_true rfl, Nat.le_of_ble_eq_true rfl⟩ q2_239 q1_1 (Or.inr ⟨_, q2_237⟩) q2_238 hd_X8_withBit dX7_putBalcony_7 (t_putJ G cl_7 (k := 3) (by decide) (Or.inl ⟨rfl, Or.inl q1_98⟩) rfl rfl dX7_putBalcony_10 (t_vret G rfl dX7_putBalcony_13))))))))
set_option maxRecDepth 100000 in
theorem m_X7_putBalcony (l : Launch) : s_Met l yX7_putBalcony cX7_putBalcony 3 ((none : Option FieldType)) rm_X7_putBalcony false C_X7_putBalcony := by
  intro D ty ad av φ sz sh me Q hsh hC
  unfold C_X7_putBalcony at hC
  split at hC
  · exact s_met1 (P := P_X7_putBalcony) (by decide +kernel) (fun _ => ⟨rfl, rfl⟩) (fun p e s m args below meth c D ty ad A n0 φ0 Q G Y hY => s_tab_T _ (List.forall_mem_cons.mpr ⟨b_X7_putBalcony_0 l p e s m args below meth c D ty ad A n0 φ0 Q G Y hY, fun _ h => absurd h List.not_mem_nil⟩)) hsh rfl rfl (Nat.le_of_ble_eq_true rfl) hC
  · exact hC.elim
def B_X7_peopleAt_0 (Q : SQ) (nx : Nat → SK) : SK := (o_const (.int 0) (o_istore 2 (o_const (.int 0) (o_istore 3 (nx 4)))))
def B_X7_peopleAt_4 (Q : SQ) (nx : Nat → SK) : SK := (o_iload 3 (o_aload 0 (o_getI 7 1 (o_ic (fun x y => y ≤ x) (o_iload 2 (o_iret Q)) (o_aload 0 (o_getR 7 0 (o_iload 3 (o_aald 12 (o_getI 1 5 (o_iload 1 (o_ic (fun x y => ¬ x = y) (nx 31) (o_iload 2 (o_const (.int 1) (o_iload 3 (o_i2 (fun x y => x <<< (y &&& 31)) (o_i2 (fun x y => x ||| y) (o_istore 2 (nx 31))))))))))))))))))
def B_X7_peopleAt_31 (Q : SQ) (nx : Nat → SK) : SK := (o_iinc 3 1 (nx 4))
def P_X7_peopleAt (Q : SQ) (nx : Nat → SK) : Nat → SK := s_tab [(0, B_X7_peopleAt_0 Q nx), (4, B_X7_peopleAt_4 Q nx), (31, B_X7_peopleAt_31 Q nx)]
def C_X7_peopleAt : SC := fun av sh me Q => match av with
  | [.ref a0, .int a1] => s_wp P_X7_peopleAt Q 0 [some (.ref a0), some (.int a1), none, none] [] sh me
  | _ => False
abbrev rm_X7_peopleAt : Room := { frames := 0, cells := 0, slots := 0, locals := 0 }
theorem hd_X7_peopleAt : (yX7_peopleAt).cls ≠ "java/lang/invoke/MethodHandle" ∧ (yX7_peopleAt).cls ≠ "java/lang/invoke/VarHandle" ∧ (parseMethodDescriptor (yX7_peopleAt).desc).map (fun d => d.parameters.length) = some 1 := by decide +kernel
set_option maxRecDepth 100000 in
set_option maxHeartbeats 4000000 in
theorem b_X7_peopleAt_0 (l : Launch) : s_B l rm_X7_peopleAt yX7_peopleAt cX7_peopleAt 4 ((some FieldType.int)) false 0 B_X7_peopleAt_0 := fun p e s m args below meth c D ty ad A n0 φ0 Q G Y hY => (u_iconst G dX7_peopleAt_0 (by decide) (u_istore_n G dX7_peopleAt_1 rfl (u_iconst G dX7_peopleAt_2 (by decide) (u_istore_n G dX7_peopleAt_3 rfl (hY 4)))))
set_option maxRecDepth 100000 in
set_option maxHeartbeats 4000000 in
theorem b_X7_peopleAt_4 (l : Launch) : s_B l rm_X7_peopleAt yX7_peopleAt cX7_peopleAt 4 ((some FieldType.int)) false 4 B_X7_peopleAt_4 := fun p e s m args below meth c D ty ad A n0 φ0 Q G Y hY => (u_iload_n G dX7_peopleAt_4 rfl (u_aload_n G dX7_peopleAt_5 rfl (t_getI G cl_7 (k := 1) (by decide) (Or.inl q1_90) rfl (Or.inl rfl) dX7_peopleAt_6 (u_icmp_ge G dX7_peopleAt_9 (by decide) (u_iload_n G dX7_peopleAt_37 rfl (t_iret G rfl dX7_peopleAt_38)) (u_aload_n G dX7_peopleAt_12 rfl (t_getR G cl_7 (k := 0) (by decide) (Or.inl q1_84) rfl (Or.inr ⟨_, rfl⟩) dX7_peopleAt_13 (u_iload_n G dX7_peopleAt_16 rfl (t_aald G (by decide) dX7_peopleAt_17 (t_getI G cl_1 (k := 5) (by decide) (Or.inr ⟨_, q1_63⟩) rfl (Or.inl rfl) dX7_peopleAt_18 (u_iload_n G dX7_peopleAt_21 rfl (u_icmp_ne G dX7_peopleAt_22 (by decide) (hY 31) (u_iload_n G dX7_peopleAt_25 rfl (u_iconst G dX7_peopleAt_26 (by decide) (u_iload_n G dX7_peopleAt_27 rfl (u_ishl G dX7_peopleAt_28 (u_ior G dX7_peopleAt_29 (u_istore_n G dX7_peopleAt_30 rfl (hY 31))))))))))))))))))
set_option maxRecDepth 100000 in
set_option maxHeartbeats 4000000 in
theorem b_X7_peopleAt_31 (l : Launch) : s_B l rm_X7_peopleAt yX7_peopleAt cX7_peopleAt 4 ((some FieldType.int)) false 31 B_X7_peopleAt_31 := fun p e s m args below meth c D ty ad A n0 φ0 Q G Y hY => (t_iinc G dX7_peopleAt_31 (by decide) (t_goto G dX7_peopleAt_34 (by decide) (hY 4)))
set_option maxRecDepth 100000 in
theorem m_X7_peopleAt (l : Launch) : s_Met l yX7_peopleAt cX7_peopleAt 4 ((some FieldType.int)) rm_X7_peopleAt false C_X7_peopleAt := by
  intro D ty ad av φ sz sh me Q hsh hC
  unfold C_X7_peopleAt at hC
  split at hC
  · exact s_met1 (P := P_X7_peopleAt) (by decide +kernel) (fun _ => ⟨rfl, rfl⟩) (fun p e s m args below meth c D ty ad A n0 φ0 Q G Y hY => s_tab_T _ (List.forall_mem_cons.mpr ⟨b_X7_peopleAt_0 l p e s m args below meth c D ty ad A n0 φ0 Q G Y hY, List.forall_mem_cons.mpr ⟨b_X7_peopleAt_4 l p e s m args below meth c D ty ad A n0 φ0 Q G Y hY, List.forall_mem_cons.mpr ⟨b_X7_peopleAt_31 l p e s m args below meth c D ty ad A n0 φ0 Q G Y hY, fun _ h => absurd h List.not_mem_nil⟩⟩⟩)) hsh rfl rfl (Nat.le_of_ble_eq_true rfl) hC
  · exact hC.elim
def B_X7_putWall_0 (Q : SQ) (nx : Nat → SK) : SK := (o_aload 0 (o_aload 0 (o_getJ 7 2 (o_iload 1 (o_iload 2 (o_call C_X8_withBit 3 (o_putJ 7 2 (o_vret Q))))))))
def P_X7_putWall (Q : SQ) (nx : Nat → SK) : Nat → SK := s_tab [(0, B_X7_putWall_0 Q nx)]
def C_X7_putWall : SC := fun av sh me Q => match av with
  | [.ref a0, .int a1, .int a2] => s_wp P_X7_putWall Q 0 [some (.ref a0), some (.int a1), some (.int a2)] [] sh me
  | _ => False
abbrev rm_X7_putWall : Room := { frames := 1, cells := 0, slots := 0, locals := 23 }
theorem hd_X7_putWall : (yX7_putWall).cls ≠ "java/lang/invoke/MethodHandle" ∧ (yX7_putWall).cls ≠ "java/lang/invoke/VarHandle" ∧ (parseMethodDescriptor (yX7_putWall).desc).map (fun d => d.parameters.length) = some 2 := by decide +kernel
set_option maxRecDepth 100000 in
set_option maxHeartbeats 4000000 in
theorem b_X7_putWall_0 (l : Launch) : s_B l rm_X7_putWall yX7_putWall cX7_putWall 3 ((none : Option FieldType)) false 0 B_X7_putWall_0 := fun p e s m args below meth c D ty ad A n0 φ0 Q G Y hY => (u_aload_n G dX7_putWall_0 rfl (u_aload_n G dX7_putWall_1 rfl (t_getJ G cl_7 (k := 2) (by decide) (Or.inl q1_96) rfl rfl dX7_putWall_2 (u_iload_n G dX7_putWall_5 rfl (u_iload_n G dX7_putWall_6 rfl (t_callS G (m_X8_withBit l) ⟨rfl, rfl⟩ rfl ⟨Nat.le_of_ble_eq_true rfl, Nat.le_of_ble_eq_true rfl⟩ q2_239 q1_1 (Or.inr ⟨_, q2_237⟩) q2_238 hd_X8_withBit dX7_putWall_7 (t_putJ G cl_7 (k := 2) (by decide) (Or.inl ⟨rfl, Or.inl q1_96⟩) rfl rfl dX7_putWall_10 (t_vret G rfl dX7_putWall_13))))))))
set_option maxRecDepth 100000 in
theorem m_X7_putWall (l : Launch) : s_Met l yX7_putWall cX7_putWall 3 ((none : Option FieldType)) rm_X7_putWall false C_X7_putWall := by
  intro D ty ad av φ sz sh me Q hsh hC
  unfold C_X7_putWall at hC
  split at hC
  · exact s_met1 (P := P_X7_putWall) (by decide +kernel) (fun _ => ⟨rfl, rfl⟩) (fun p e s m args below meth c D ty ad A n0 φ0 Q G Y hY => s_tab_T _ (List.forall_mem_cons.mpr ⟨b_X7_putWall_0 l p e s m args below meth c D ty ad A n0 φ0 Q G Y hY, fun _ h => absurd h List.not_mem_nil⟩)) hsh rfl rfl (Nat.le_of_ble_eq_true rfl) hC
  · exact hC.elim
def B_X3_readSquare_0 (Q : SQ) (nx : Nat → SK) : SK := (o_aload 0 (o_const (.int 0) (o_const (.int 35) (o_callV C_X3_readNumber 3 3 (o_istore 2 (o_iload 2 (o_const (.int (-1)) (o_ic (fun x y => ¬ x = y) (o_iload 1 (o_const (.int 98) (o_ic (fun x y => ¬ x = y) (o_iload 1 (o_const (.int 119) (o_ic (fun x y => ¬ x = y) (nx 59) (o_aload 0 (o_getR 3 1 (o_iload 2 (o_callV C_X7_peopleAt 7 2 (o_if (fun x => x = 0) (nx 59) (o_aload 0 (o_aload 0 (o_getI 3 3 (o_callV C_X3_failAt 3 2 (o_zret Q))))))))))))) (o_aload 0 (o_getR 3 1 (o_iload 2 (o_const (.int 1) (o_callV C_X7_putBalcony 7 3 (nx 78))))))))) (o_const (.int 0) (o_zret Q))))))))))
def B_X3_readSquare_59 (Q : SQ) (nx : Nat → SK) : SK := (o_aload 0 (o_getR 3 1 (o_iload 2 (o_iload 1 (o_const (.int 119) (o_ic (fun x y => ¬ x = y) (o_const (.int 0) (nx 75)) (o_const (.int 1) (nx 75))))))))
def B_X3_readSquare_75 (Q : SQ) (nx : Nat → SK) : SK := (o_callV C_X7_putWall 7 3 (nx 78))
def B_X3_readSquare_78 (Q : SQ) (nx : Nat → SK) : SK := (o_const (.int 1) (o_zret Q))
def P_X3_readSquare (Q : SQ) (nx : Nat → SK) : Nat → SK := s_tab [(0, B_X3_readSquare_0 Q nx), (59, B_X3_readSquare_59 Q nx), (75, B_X3_readSquare_75 Q nx), (78, B_X3_readSquare_78 Q nx)]
def C_X3_readSquare : SC := fun av sh me Q => match av with
  | [.ref a0, .int a1] => s_wp P_X3_readSquare Q 0 [some (.ref a0), some (.int a1), none] [] sh me
  | _ => False
abbrev rm_X3_readSquare : Room := { frames := 3, cells := 0, slots := 0, locals := 66 }
theorem hd_X3_readSquare : (yX3_readSquare).cls ≠ "java/lang/invoke/MethodHandle" ∧ (yX3_readSquare).cls ≠ "java/lang/invoke/VarHandle" ∧ (parseMethodDescriptor (yX3_readSquare).desc).map (fun d => d.parameters.length) = some 1 := by decide +kernel
set_option maxRecDepth 100000 in
set_option maxHeartbeats 4000000 in
theorem b_X3_readSquare_0 (l : Launch) : s_B l rm_X3_readSquare yX3_readSquare cX3_readSquare 3 ((some FieldType.boolean)) false 0 B_X3_readSquare_0 := fun p e s m args below meth c D ty ad A n0 φ0 Q G Y hY => (u_aload_n G dX3_readSquare_0 rfl (u_iconst G dX3_readSquare_1 (by decide) (u_bipush G dX3_readSquare_2 (by decide) (t_callV G cl_3 (m_X3_readNumber l) ⟨rfl, rfl⟩ rfl ⟨Nat.le_of_ble_eq_true rfl, Nat.le_of_ble_eq_true rfl⟩ q3_138 q1_7 (Or.inl q3_135) q3_137 qs_10 hd_X3_readNumber dX3_readSquare_4 (u_istore_n G dX3_readSquare_7 rfl (u_iload_n G dX3_readSquare_8 rfl (u_iconst G dX3_readSquare_9 (by decide) (u_icmp_ne G dX3_readSquare_10 (by decide) (u_iload_n G dX3_readSquare_15 rfl (u_bipush G dX3_readSquare_16 (by decide) (u_icmp_ne G dX3_readSquare_18 (by decide) (u_iload_n G dX3_readSquare_33 rfl (u_bipush G dX3_readSquare_34 (by decide) (u_icmp_ne G dX3_readSquare_36 (by decide) (hY 59) (u_aload_n G dX3_readSquare_39 rfl (t_getR G cl_3 (k := 1) (by decide) (Or.inl q1_217) rfl (Or.inl ⟨_, rfl⟩) dX3_readSquare_40 (u_iload_n G dX3_readSquare_43 rfl (t_callV G cl_7 (m_X7_peopleAt l) ⟨rfl, rfl⟩ rfl ⟨Nat.le_of_ble_eq_true rfl, Nat.le_of_ble_eq_true rfl⟩ q3_7 q1_2 (Or.inl q3_163) q3_5 q3_6 hd_X7_peopleAt dX3_readSquare_44 (u_if_eq G dX3_readSquare_47 (by decide) (hY 59) (u_aload_n G dX3_readSquare_50 rfl (u_aload_n G dX3_readSquare_51 rfl (t_getI G cl_3 (k := 3) (by decide) (Or.inl q1_219) rfl (Or.inl rfl) dX3_readSquare_52 (t_callV G cl_3 (m_X3_failAt l) ⟨rfl, rfl⟩ rfl ⟨Nat.le_of_ble_eq_true rfl, Nat.le_of_ble_eq_true rfl⟩ q3_77 q1_7 (Or.inl q3_74) q3_76 qs_7 hd_X3_failAt dX3_readSquare_55 (t_zret G rfl dX3_readSquare_58))))))))))))) (u_aload_n G dX3_readSquare_21 rfl (t_getR G cl_3 (k := 1) (by decide) (Or.inl q1_217) rfl (Or.inl ⟨_, rfl⟩) dX3_readSquare_22 (u_iload_n G dX3_readSquare_25 rfl (u_iconst G dX3_readSquare_26 (by decide) (t_callV G cl_7 (m_X7_putBalcony l) ⟨rfl, rfl⟩ rfl ⟨Nat.le_of_ble_eq_true rfl, Nat.le_of_ble_eq_true rfl⟩ q2_236 q1_2 (Or.inl q3_162) q2_234 q2_235 hd_X7_putBalcony dX3_readSquare_27 (t_goto G dX3_readSquare_30 (by decide) (hY 78)))))))))) (u_iconst G dX3_readSquare_13 (by decide) (t_zret G rfl dX3_readSquare_14))))))))))
set_option maxRecDepth 100000 in
set_option maxHeartbeats 4000000 in
theorem b_X3_readSquare_59 (l : Launch) : s_B l rm_X3_readSquare yX3_readSquare cX3_readSquare 3 ((some FieldType.boolean)) false 59 B_X3_readSquare_59 := fun p e s m args below meth c D ty ad A n0 φ0 Q G Y hY => (u_aload_n G dX3_readSquare_59 rfl (t_getR G cl_3 (k := 1) (by decide) (Or.inl q1_217) rfl (Or.inl ⟨_, rfl⟩) dX3_readSquare_60 (u_iload_n G dX3_readSquare_63 rfl (u_iload_n G dX3_readSquare_64 rfl (u_bipush G dX3_readSquare_65 (by decide) (u_icmp_ne G dX3_readSquare_67 (by decide) (u_iconst G dX3_readSquare_74 (by decide) (hY 75)) (u_iconst G dX3_readSquare_70 (by decide) (t_goto G dX3_readSquare_71 (by decide) (hY 75)))))))))
set_option maxRecDepth 100000 in
set_option maxHeartbeats 4000000 in
theorem b_X3_readSquare_75 (l : Launch) : s_B l rm_X3_readSquare yX3_readSquare cX3_readSquare 3 ((some FieldType.boolean)) false 75 B_X3_readSquare_75 := fun p e s m args below meth c D ty ad A n0 φ0 Q G Y hY => (t_callV G cl_7 (m_X7_putWall l) ⟨rfl, rfl⟩ rfl ⟨Nat.le_of_ble_eq_true rfl, Nat.le_of_ble_eq_true rfl⟩ q3_12 q1_2 (Or.inl q3_164) q3_10 q3_11 hd_X7_putWall dX3_readSquare_75 (hY 78))
set_option maxRecDepth 100000 in
set_option maxHeartbeats 4000000 in
theorem b_X3_readSquare_78 (l : Launch) : s_B l rm_X3_readSquare yX3_readSquare cX3_readSquare 3 ((some FieldType.boolean)) false 78 B_X3_readSquare_78 := fun p e s m args below meth c D ty ad A n0 φ0 Q G Y hY => (u_iconst G dX3_readSquare_78 (by decide) (t_zret G rfl dX3_readSquare_79))
set_option maxRecDepth 100000 in
theorem m_X3_readSquare (l : Launch) : s_Met l yX3_readSquare cX3_readSquare 3 ((some FieldType.boolean)) rm_X3_readSquare false C_X3_readSquare := by
  intro D ty ad av φ sz sh me Q hsh hC
  unfold C_X3_readSquare at hC
  split at hC
  · exact s_met1 (P := P_X3_readSquare) (by decide +kernel) (fun _ => ⟨rfl, rfl⟩) (fun p e s m args below meth c D ty ad A n0 φ0 Q G Y hY => s_tab_T _ (List.forall_mem_cons.mpr ⟨b_X3_readSquare_0 l p e s m args below meth c D ty ad A n0 φ0 Q G Y hY, List.forall_mem_cons.mpr ⟨b_X3_readSquare_59 l p e s m args below meth c D ty ad A n0 φ0 Q G Y hY, List.forall_mem_cons.mpr ⟨b_X3_readSquare_75 l p e s m args below meth c D ty ad A n0 φ0 Q G Y hY, List.forall_mem_cons.mpr ⟨b_X3_readSquare_78 l p e s m args below meth c D ty ad A n0 φ0 Q G Y hY, fun _ h => absurd h List.not_mem_nil⟩⟩⟩⟩)) hsh rfl rfl (Nat.le_of_ble_eq_true rfl) hC
  · exact hC.elim
def B_X3_readItem_0 (Q : SQ) (nx : Nat → SK) : SK := (o_aload 0 (o_getI 3 2 (o_istore 1 (o_aload 0 (o_getR 3 0 (o_aload 0 (o_getI 3 2 (o_callV C_X5_readAt 5 2 (o_call C_X3_wordWith 1 (o_astore 2 (o_aload 2 (o_callVS C_J0_isEmpty_aae02 1 (o_if (fun x => x = 0) (o_const (.int 0) (o_istore 3 (nx 35))) (o_aload 0 (o_iload 1 (o_callV C_X3_failAt 3 2 (o_zret Q)))))))))))))))))
def B_X3_readItem_35 (Q : SQ) (nx : Nat → SK) : SK := (o_iload 3 (o_aload 2 (o_callVS C_J0_length_8abf5 1 (o_ic (fun x y => y ≤ x) (o_aload 2 (o_const (.int 0) (o_callVS C_J0_charAt_5068e 2 (o_sw [(109, (o_aload 0 (o_callV C_X3_readMite 3 1 (o_zret Q)))), (110, (nx 133)), (111, (nx 133)), (112, (o_aload 0 (o_iload 1 (o_callV C_X3_readPerson 3 2 (o_zret Q))))), (113, (nx 133)), (114, (o_aload 0 (o_callV C_X3_readReach 3 1 (o_zret Q)))), (115, (o_aload 0 (o_callV C_X3_readSack 3 1 (o_zret Q))))] (nx 133))))) (o_aload 0 (o_aload 2 (o_iload 3 (o_callVS C_J0_charAt_5068e 2 (o_callV C_X3_readSign 3 2 (o_if (fun x => ¬ x = 0) (o_iinc 3 1 (nx 35)) (o_const (.int 0) (o_zret Q))))))))))))
def B_X3_readItem_133 (Q : SQ) (nx : Nat → SK) : SK := (o_aload 0 (o_aload 2 (o_const (.int 0) (o_callVS C_J0_charAt_5068e 2 (o_callV C_X3_readSquare 3 2 (o_zret Q))))))
def P_X3_readItem (Q : SQ) (nx : Nat → SK) : Nat → SK := s_tab [(0, B_X3_readItem_0 Q nx), (35, B_X3_readItem_35 Q nx), (133, B_X3_readItem_133 Q nx)]
def C_X3_readItem : SC := fun av sh me Q => match av with
  | [.ref a0] => s_wp P_X3_readItem Q 0 [some (.ref a0), none, none, none] [] sh me
  | _ => False
abbrev rm_X3_readItem : Room := { frames := 4, cells := 0, slots := 0, locals := 94 }
theorem hd_X3_readItem : (yX3_readItem).cls ≠ "java/lang/invoke/MethodHandle" ∧ (yX3_readItem).cls ≠ "java/lang/invoke/VarHandle" ∧ (parseMethodDescriptor (yX3_readItem).desc).map (fun d => d.parameters.length) = some 0 := by decide +kernel
set_option maxRecDepth 100000 in
set_option maxHeartbeats 4000000 in
theorem b_X3_readItem_0 (l : Launch) : s_B l rm_X3_readItem yX3_readItem cX3_readItem 4 ((some FieldType.boolean)) false 0 B_X3_readItem_0 := fun p e s m args below meth c D ty ad A n0 φ0 Q G Y hY => (u_aload_n G dX3_readItem_0 rfl (t_getI G cl_3 (k := 2) (by decide) (Or.inl q1_218) rfl (Or.inl rfl) dX3_readItem_1 (u_istore_n G dX3_readItem_4 rfl (u_aload_n G dX3_readItem_5 rfl (t_getR G cl_3 (k := 0) (by decide) (Or.inl q1_216) rfl (Or.inl ⟨_, rfl⟩) dX3_readItem_6 (u_aload_n G dX3_readItem_9 rfl (t_getI G cl_3 (k := 2) (by decide) (Or.inl q1_218) rfl (Or.inl rfl) dX3_readItem_10 (t_callV G cl_5 (m_X5_readAt l) ⟨rfl, rfl⟩ rfl ⟨Nat.le_of_ble_eq_true rfl, Nat.le_of_ble_eq_true rfl⟩ q3_58 q1_9 (Or.inl q3_55) q3_56 q3_57 hd_X5_readAt dX3_readItem_13 (t_callS G (m_X3_wordWith l) ⟨rfl, rfl⟩ rfl ⟨Nat.le_of_ble_eq_true rfl, Nat.le_of_ble_eq_true rfl⟩ q3_61 q1_7 (Or.inl q3_59) q3_60 hd_X3_wordWith dX3_readItem_16 (u_astore_n G dX3_readItem_19 rfl (u_aload_n G dX3_readItem_20 rfl (t_callVS G rfl (m_J0_isEmpty_aae02 l) ⟨rfl, rfl⟩ rfl ⟨Nat.le_of_ble_eq_true rfl, Nat.le_of_ble_eq_true rfl⟩ q3_73 q1_14 q3_70 q3_71 q3_72 hd_J0_isEmpty_aae02 dX3_readItem_21 (u_if_eq G dX3_readItem_24 (by decide) (u_iconst G dX3_readItem_33 (by decide) (u_istore_n G dX3_readItem_34 rfl (hY 35))) (u_aload_n G dX3_readItem_27 rfl (u_iload_n G dX3_readItem_28 rfl (t_callV G cl_3 (m_X3_failAt l) ⟨rfl, rfl⟩ rfl ⟨Nat.le_of_ble_eq_true rfl, Nat.le_of_ble_eq_true rfl⟩ q3_77 q1_7 (Or.inl q3_74) q3_76 qs_7 hd_X3_failAt dX3_readItem_29 (t_zret G rfl dX3_readItem_32)))))))))))))))))
set_option maxRecDepth 100000 in
set_option maxHeartbeats 4000000 in
theorem b_X3_readItem_35 (l : Launch) : s_B l rm_X3_readItem yX3_readItem cX3_readItem 4 ((some FieldType.boolean)) false 35 B_X3_readItem_35 := fun p e s m args below meth c D ty ad A n0 φ0 Q G Y hY => (u_iload_n G dX3_readItem_35 rfl (u_aload_n G dX3_readItem_36 rfl (t_callVS G rfl (m_J0_length_8abf5 l) ⟨rfl, rfl⟩ rfl ⟨Nat.le_of_ble_eq_true rfl, Nat.le_of_ble_eq_true rfl⟩ q3_81 q1_14 q3_78 q3_79 q3_80 hd_J0_length_8abf5 dX3_readItem_37 (u_icmp_ge G dX3_readItem_40 (by decide) (u_aload_n G dX3_readItem_63 rfl (u_iconst G dX3_readItem_64 (by decide) (t_callVS G rfl (m_J0_charAt_5068e l) ⟨rfl, rfl⟩ rfl ⟨Nat.le_of_ble_eq_true rfl, Nat.le_of_ble_eq_true rfl⟩ q3_91 q1_14 q3_88 q3_89 q3_90 hd_J0_charAt_5068e dX3_readItem_65 (u_tsw G [(109, 123), (110, 133), (111, 133), (112, 112), (113, 133), (114, 128), (115, 118)] dX3_readItem_68 (by decide) (by decide) rfl ⟨(u_aload_n G dX3_readItem_123 rfl (t_callV G cl_3 (m_X3_readMite l) ⟨rfl, rfl⟩ rfl ⟨Nat.le_of_ble_eq_true rfl, Nat.le_of_ble_eq_true rfl⟩ q3_153 q1_7 (Or.inl q3_150) q3_152 qs_13 hd_X3_readMite dX3_readItem_124 (t_zret G rfl dX3_readItem_127))), ⟨(hY 133), ⟨(hY 133), ⟨(u_aload_n G dX3_readItem_112 rfl (u_iload_n G dX3_readItem_113 rfl (t_callV G cl_3 (m_X3_readPerson l) ⟨rfl, rfl⟩ rfl ⟨Nat.le_of_ble_eq_true rfl, Nat.le_of_ble_eq_true rfl⟩ q3_133 q1_7 (Or.inl q3_130) q3_132 qs_9 hd_X3_readPerson dX3_readItem_114 (t_zret G rfl dX3_readItem_117)))), ⟨(hY 133), ⟨(u_aload_n G dX3_readItem_128 rfl (t_callV G cl_3 (m_X3_readReach l) ⟨rfl, rfl⟩ rfl ⟨Nat.le_of_ble_eq_true rfl, Nat.le_of_ble_eq_true rfl⟩ q3_157 q1_7 (Or.inl q3_154) q3_156 qs_14 hd_X3_readReach dX3_readItem_129 (t_zret G rfl dX3_readItem_132))), ⟨(u_aload_n G dX3_readItem_118 rfl (t_callV G cl_3 (m_X3_readSack l) ⟨rfl, rfl⟩ rfl ⟨Nat.le_of_ble_eq_true rfl, Nat.le_of_ble_eq_true rfl⟩ q3_149 q1_7 (Or.inl q3_146) q3_148 qs_12 hd_X3_readSack dX3_readItem_119 (t_zret G rfl dX3_readItem_122))), trivial⟩⟩⟩⟩⟩⟩⟩ (hY 133))))) (u_aload_n G dX3_readItem_43 rfl (u_aload_n G dX3_readItem_44 rfl (u_iload_n G dX3_readItem_45 rfl (t_callVS G rfl (m_J0_charAt_5068e l) ⟨rfl, rfl⟩ rfl ⟨Nat.le_of_ble_eq_true rfl, Nat.le_of_ble_eq_true rfl⟩ q3_91 q1_14 q3_88 q3_89 q3_90 hd_J0_charAt_5068e dX3_readItem_46 (t_callV G cl_3 (m_X3_readSign l) ⟨rfl, rfl⟩ rfl ⟨Nat.le_of_ble_eq_true rfl, Nat.le_of_ble_eq_true rfl⟩ q3_129 q1_7 (Or.inl q3_126) q3_128 qs_8 hd_X3_readSign dX3_readItem_49 (u_if_ne G dX3_readItem_52 (by decide) (t_iinc G dX3_readItem_57 (by decide) (t_goto G dX3_readItem_60 (by decide) (hY 35))) (u_iconst G dX3_readItem_55 (by decide) (t_zret G rfl dX3_readItem_56))))))))))))
set_option maxRecDepth 100000 in
set_option maxHeartbeats 4000000 in
theorem b_X3_readItem_133 (l : Launch) : s_B l rm_X3_readItem yX3_readItem cX3_readItem 4 ((some FieldType.boolean)) false 133 B_X3_readItem_133 := fun p e s m args below meth c D ty ad A n0 φ0 Q G Y hY => (u_aload_n G dX3_readItem_133 rfl (u_aload_n G dX3_readItem_134 rfl (u_iconst G dX3_readItem_135 (by decide) (t_callVS G rfl (m_J0_charAt_5068e l) ⟨rfl, rfl⟩ rfl ⟨Nat.le_of_ble_eq_true rfl, Nat.le_of_ble_eq_true rfl⟩ q3_91 q1_14 q3_88 q3_89 q3_90 hd_J0_charAt_5068e dX3_readItem_136 (t_callV G cl_3 (m_X3_readSquare l) ⟨rfl, rfl⟩ rfl ⟨Nat.le_of_ble_eq_true rfl, Nat.le_of_ble_eq_true rfl⟩ q3_161 q1_7 (Or.inl q3_158) q3_160 qs_15 hd_X3_readSquare dX3_readItem_139 (t_zret G rfl dX3_readItem_142))))))
set_option maxRecDepth 100000 in
theorem m_X3_readItem (l : Launch) : s_Met l yX3_readItem cX3_readItem 4 ((some FieldType.boolean)) rm_X3_readItem false C_X3_readItem := by
  intro D ty ad av φ sz sh me Q hsh hC
  unfold C_X3_readItem at hC
  split at hC
  · exact s_met1 (P := P_X3_readItem) (by decide +kernel) (fun _ => ⟨rfl, rfl⟩) (fun p e s m args below meth c D ty ad A n0 φ0 Q G Y hY => s_tab_T _ (List.forall_mem_cons.mpr ⟨b_X3_readItem_0 l p e s m args below meth c D ty ad A n0 φ0 Q G Y hY, List.forall_mem_cons.mpr ⟨b_X3_readItem_35 l p e s m args below meth c D ty ad A n0 φ0 Q G Y hY, List.forall_mem_cons.mpr ⟨b_X3_readItem_133 l p e s m args below meth c D ty ad A n0 φ0 Q G Y hY, fun _ h => absurd h List.not_mem_nil⟩⟩⟩)) hsh rfl rfl (Nat.le_of_ble_eq_true rfl) hC
  · exact hC.elim
def B_X3_read_0 (Q : SQ) (nx : Nat → SK) : SK := (o_aload 0 (o_aload 1 (o_putR 3 0 (o_aload 0 (o_aload 2 (o_putR 3 1 (o_aload 0 (o_const (.int 0) (o_putI 3 2 (o_aload 0 (o_const (.int (-1)) (o_putI 3 4 (o_const (.int 1) (o_istore 3 (nx 22)))))))))))))))
def B_X3_read_22 (Q : SQ) (nx : Nat → SK) : SK := (o_iload 3 (o_const (.int 160) (o_ic (fun x y => y < x) (o_const (.int (-1)) (o_iret Q)) (o_aload 0 (o_callV C_X3_readItem 3 1 (o_if (fun x => ¬ x = 0) (o_aload 0 (o_getI 3 2 (o_aload 0 (o_getR 3 0 (o_getI 5 1 (o_ic (fun x y => ¬ x = y) (o_aload 0 (o_const (.int 59) (o_callV C_X3_readSign 3 2 (o_if (fun x => ¬ x = 0) (o_iinc 3 1 (nx 22)) (o_const (.int (-1)) (o_iret Q)))))) (o_iload 3 (o_iret Q)))))))) (o_const (.int (-1)) (o_iret Q))))))))
def P_X3_read (Q : SQ) (nx : Nat → SK) : Nat → SK := s_tab [(0, B_X3_read_0 Q nx), (22, B_X3_read_22 Q nx)]
def C_X3_read : SC := fun av sh me Q => match av with
  | [.ref a0, .ref a1, .ref a2] => s_wp P_X3_read Q 0 [some (.ref a0), some (.ref a1), some (.ref a2), none] [] sh me
  | _ => False
abbrev rm_X3_read : Room := { frames := 5, cells := 0, slots := 0, locals := 117 }
theorem hd_X3_read : (yX3_read).cls ≠ "java/lang/invoke/MethodHandle" ∧ (yX3_read).cls ≠ "java/lang/invoke/VarHandle" ∧ (parseMethodDescriptor (yX3_read).desc).map (fun d => d.parameters.length) = some 2 := by decide +kernel
set_option maxRecDepth 100000 in
set_option maxHeartbeats 4000000 in
theorem b_X3_read_0 (l : Launch) : s_B l rm_X3_read yX3_read cX3_read 4 ((some FieldType.int)) false 0 B_X3_read_0 := fun p e s m args below meth c D ty ad A n0 φ0 Q G Y hY => (u_aload_n G dX3_read_0 rfl (u_aload_n G dX3_read_1 rfl (t_putR G cl_3 (k := 0) (by decide) (Or.inl ⟨rfl, Or.inl q1_216⟩) rfl (Or.inl ⟨_, rfl⟩) dX3_read_2 (u_aload_n G dX3_read_5 rfl (u_aload_n G dX3_read_6 rfl (t_putR G cl_3 (k := 1) (by decide) (Or.inl ⟨rfl, Or.inl q1_217⟩) rfl (Or.inl ⟨_, rfl⟩) dX3_read_7 (u_aload_n G dX3_read_10 rfl (u_iconst G dX3_read_11 (by decide) (t_putI G cl_3 (k := 2) (by decide) (Or.inl ⟨rfl, Or.inl q1_218⟩) rfl rfl dX3_read_12 (u_aload_n G dX3_read_15 rfl (u_iconst G dX3_read_16 (by decide) (t_putI G cl_3 (k := 4) (by decide) (Or.inl ⟨rfl, Or.inl q1_220⟩) rfl rfl dX3_read_17 (u_iconst G dX3_read_20 (by decide) (u_istore_n G dX3_read_21 rfl (hY 22)))))))))))))))
set_option maxRecDepth 100000 in
set_option maxHeartbeats 4000000 in
theorem b_X3_read_22 (l : Launch) : s_B l rm_X3_read yX3_read cX3_read 4 ((some FieldType.int)) false 22 B_X3_read_22 := fun p e s m args below meth c D ty ad A n0 φ0 Q G Y hY => (u_iload_n G dX3_read_22 rfl (u_sipush G dX3_read_23 (by decide) (u_icmp_gt G dX3_read_26 (by decide) (u_iconst G dX3_read_71 (by decide) (t_iret G rfl dX3_read_72)) (u_aload_n G dX3_read_29 rfl (t_callV G cl_3 (m_X3_readItem l) ⟨rfl, rfl⟩ rfl ⟨Nat.le_of_ble_eq_true rfl, Nat.le_of_ble_eq_true rfl⟩ q3_54 q1_7 (Or.inl q3_51) q3_53 qs_6 hd_X3_readItem dX3_read_30 (u_if_ne G dX3_read_33 (by decide) (u_aload_n G dX3_read_38 rfl (t_getI G cl_3 (k := 2) (by decide) (Or.inl q1_218) rfl (Or.inl rfl) dX3_read_39 (u_aload_n G dX3_read_42 rfl (t_getR G cl_3 (k := 0) (by decide) (Or.inl q1_216) rfl (Or.inl ⟨_, rfl⟩) dX3_read_43 (t_getI G cl_5 (k := 1) (by decide) (Or.inr ⟨_, q2_26⟩) rfl (Or.inl rfl) dX3_read_46 (u_icmp_ne G dX3_read_49 (by decide) (u_aload_n G dX3_read_54 rfl (u_bipush G dX3_read_55 (by decide) (t_callV G cl_3 (m_X3_readSign l) ⟨rfl, rfl⟩ rfl ⟨Nat.le_of_ble_eq_true rfl, Nat.le_of_ble_eq_true rfl⟩ q3_129 q1_7 (Or.inl q3_126) q3_128 qs_8 hd_X3_readSign dX3_read_57 (u_if_ne G dX3_read_60 (by decide) (t_iinc G dX3_read_65 (by decide) (t_goto G dX3_read_68 (by decide) (hY 22))) (u_iconst G dX3_read_63 (by decide) (t_iret G rfl dX3_read_64)))))) (u_iload_n G dX3_read_52 rfl (t_iret G rfl dX3_read_53)))))))) (u_iconst G dX3_read_36 (by decide) (t_iret G rfl dX3_read_37))))))))
set_option maxRecDepth 100000 in
theorem m_X3_read (l : Launch) : s_Met l yX3_read cX3_read 4 ((some FieldType.int)) rm_X3_read false C_X3_read := by
  intro D ty ad av φ sz sh me Q hsh hC
  unfold C_X3_read at hC
  split at hC
  · exact s_met1 (P := P_X3_read) (by decide +kernel) (fun _ => ⟨rfl, rfl⟩) (fun p e s m args below meth c D ty ad A n0 φ0 Q G Y hY => s_tab_T _ (List.forall_mem_cons.mpr ⟨b_X3_read_0 l p e s m args below meth c D ty ad A n0 φ0 Q G Y hY, List.forall_mem_cons.mpr ⟨b_X3_read_22 l p e s m args below meth c D ty ad A n0 φ0 Q G Y hY, fun _ h => absurd h List.not_mem_nil⟩⟩)) hsh rfl rfl (Nat.le_of_ble_eq_true rfl) hC
  · exact hC.elim
def B_X4_ruined_0 (Q : SQ) (nx : Nat → SK) : SK := (o_const (.int 0) (o_istore 2 (o_const (.int 0) (o_istore 3 (nx 4)))))
def B_X4_ruined_4 (Q : SQ) (nx : Nat → SK) : SK := (o_iload 3 (o_aload 1 (o_getI 7 1 (o_ic (fun x y => y ≤ x) (o_iload 2 (o_iret Q)) (o_aload 0 (o_getR 4 3 (o_iload 3 (o_iald (o_aload 1 (o_getR 7 0 (o_iload 3 (o_aald 12 (o_getI 1 4 (o_ic (fun x y => x ≤ y) (nx 36) (o_iload 2 (o_const (.int 1) (o_iload 3 (o_i2 (fun x y => x <<< (y &&& 31)) (o_i2 (fun x y => x ||| y) (o_istore 2 (nx 36)))))))))))))))))))))
def B_X4_ruined_36 (Q : SQ) (nx : Nat → SK) : SK := (o_iinc 3 1 (nx 4))
def P_X4_ruined (Q : SQ) (nx : Nat → SK) : Nat → SK := s_tab [(0, B_X4_ruined_0 Q nx), (4, B_X4_ruined_4 Q nx), (36, B_X4_ruined_36 Q nx)]
def C_X4_ruined : SC := fun av sh me Q => match av with
  | [.ref a0, .ref a1] => s_wp P_X4_ruined Q 0 [some (.ref a0), some (.ref a1), none, none] [] sh me
  | _ => False
abbrev rm_X4_ruined : Room := { frames := 0, cells := 0, slots := 0, locals := 0 }
theorem hd_X4_ruined : (yX4_ruined).cls ≠ "java/lang/invoke/MethodHandle" ∧ (yX4_ruined).cls ≠ "java/lang/invoke/VarHandle" ∧ (parseMethodDescriptor (yX4_ruined).desc).map (fun d => d.parameters.length) = some 1 := by decide +kernel
set_option maxRecDepth 100000 in
set_option maxHeartbeats 4000000 in
theorem b_X4_ruined_0 (l : Launch) : s_B l rm_X4_ruined yX4_ruined cX4_ruined 4 ((some FieldType.int)) false 0 B_X4_ruined_0 := fun p e s m args below meth c D ty ad A n0 φ0 Q G Y hY => (u_iconst G dX4_ruined_0 (by decide) (u_istore_n G dX4_ruined_1 rfl (u_iconst G dX4_ruined_2 (by decide) (u_istore_n G dX4_ruined_3 rfl (hY 4)))))
set_option maxRecDepth 100000 in
set_option maxHeartbeats 4000000 in
theorem b_X4_ruined_4 (l : Launch) : s_B l rm_X4_ruined yX4_ruined cX4_ruined 4 ((some FieldType.int)) false 4 B_X4_ruined_4 := fun p e s m args below meth c D ty ad A n0 φ0 Q G Y hY => (u_iload_n G dX4_ruined_4 rfl (u_aload_n G dX4_ruined_5 rfl (t_getI G cl_7 (k := 1) (by decide) (Or.inr ⟨_, q1_91⟩) rfl (Or.inl rfl) dX4_ruined_6 (u_icmp_ge G dX4_ruined_9 (by decide) (u_iload_n G dX4_ruined_42 rfl (t_iret G rfl dX4_ruined_43)) (u_aload_n G dX4_ruined_12 rfl (t_getR G cl_4 (k := 3) (by decide) (Or.inl q1_151) rfl (Or.inr ⟨_, rfl⟩) dX4_ruined_13 (u_iload_n G dX4_ruined_16 rfl (t_iald G dX4_ruined_17 (u_aload_n G dX4_ruined_18 rfl (t_getR G cl_7 (k := 0) (by decide) (Or.inr ⟨_, q1_86⟩) rfl (Or.inr ⟨_, rfl⟩) dX4_ruined_19 (u_iload_n G dX4_ruined_22 rfl (t_aald G (by decide) dX4_ruined_23 (t_getI G cl_1 (k := 4) (by decide) (Or.inr ⟨_, q1_56⟩) rfl (Or.inl rfl) dX4_ruined_24 (u_icmp_le G dX4_ruined_27 (by decide) (hY 36) (u_iload_n G dX4_ruined_30 rfl (u_iconst G dX4_ruined_31 (by decide) (u_iload_n G dX4_ruined_32 rfl (u_ishl G dX4_ruined_33 (u_ior G dX4_ruined_34 (u_istore_n G dX4_ruined_35 rfl (hY 36)))))))))))))))))))))
set_option maxRecDepth 100000 in
set_option maxHeartbeats 4000000 in
theorem b_X4_ruined_36 (l : Launch) : s_B l rm_X4_ruined yX4_ruined cX4_ruined 4 ((some FieldType.int)) false 36 B_X4_ruined_36 := fun p e s m args below meth c D ty ad A n0 φ0 Q G Y hY => (t_iinc G dX4_ruined_36 (by decide) (t_goto G dX4_ruined_39 (by decide) (hY 4)))
set_option maxRecDepth 100000 in
theorem m_X4_ruined (l : Launch) : s_Met l yX4_ruined cX4_ruined 4 ((some FieldType.int)) rm_X4_ruined false C_X4_ruined := by
  intro D ty ad av φ sz sh me Q hsh hC
  unfold C_X4_ruined at hC
  split at hC
  · exact s_met1 (P := P_X4_ruined) (by decide +kernel) (fun _ => ⟨rfl, rfl⟩) (fun p e s m args below meth c D ty ad A n0 φ0 Q G Y hY => s_tab_T _ (List.forall_mem_cons.mpr ⟨b_X4_ruined_0 l p e s m args below meth c D ty ad A n0 φ0 Q G Y hY, List.forall_mem_cons.mpr ⟨b_X4_ruined_4 l p e s m args below meth c D ty ad A n0 φ0 Q G Y hY, List.forall_mem_cons.mpr ⟨b_X4_ruined_36 l p e s m args below meth c D ty ad A n0 φ0 Q G Y hY, fun _ h => absurd h List.not_mem_nil⟩⟩⟩)) hsh rfl rfl (Nat.le_of_ble_eq_true rfl) hC
  · exact hC.elim
def B_X4_solvent_0 (Q : SQ) (nx : Nat → SK) : SK := (o_const (.int 0) (o_istore 2 (o_const (.int 0) (o_istore 3 (nx 4)))))
def B_X4_solvent_4 (Q : SQ) (nx : Nat → SK) : SK := (o_iload 3 (o_aload 1 (o_getI 7 1 (o_ic (fun x y => y ≤ x) (o_iload 2 (o_iret Q)) (o_iload 2 (o_aload 0 (o_getR 4 3 (o_iload 3 (o_iald (o_if (fun x => ¬ x = 0) (o_const (.int 0) (nx 27)) (o_const (.int 1) (nx 27))))))))))))
def B_X4_solvent_27 (Q : SQ) (nx : Nat → SK) : SK := (o_call C_X8_bit 1 (o_i2 (fun x y => x + y) (o_istore 2 (o_iinc 3 1 (nx 4)))))
def P_X4_solvent (Q : SQ) (nx : Nat → SK) : Nat → SK := s_tab [(0, B_X4_solvent_0 Q nx), (4, B_X4_solvent_4 Q nx), (27, B_X4_solvent_27 Q nx)]
def C_X4_solvent : SC := fun av sh me Q => match av with
  | [.ref a0, .ref a1] => s_wp P_X4_solvent Q 0 [some (.ref a0), some (.ref a1), none, none] [] sh me
  | _ => False
abbrev rm_X4_solvent : Room := { frames := 1, cells := 0, slots := 0, locals := 20 }
theorem hd_X4_solvent : (yX4_solvent).cls ≠ "java/lang/invoke/MethodHandle" ∧ (yX4_solvent).cls ≠ "java/lang/invoke/VarHandle" ∧ (parseMethodDescriptor (yX4_solvent).desc).map (fun d => d.parameters.length) = some 1 := by decide +kernel
set_option maxRecDepth 100000 in
set_option maxHeartbeats 4000000 in
theorem b_X4_solvent_0 (l : Launch) : s_B l rm_X4_solvent yX4_solvent cX4_solvent 4 ((some FieldType.int)) false 0 B_X4_solvent_0 := fun p e s m args below meth c D ty ad A n0 φ0 Q G Y hY => (u_iconst G dX4_solvent_0 (by decide) (u_istore_n G dX4_solvent_1 rfl (u_iconst G dX4_solvent_2 (by decide) (u_istore_n G dX4_solvent_3 rfl (hY 4)))))
set_option maxRecDepth 100000 in
set_option maxHeartbeats 4000000 in
theorem b_X4_solvent_4 (l : Launch) : s_B l rm_X4_solvent yX4_solvent cX4_solvent 4 ((some FieldType.int)) false 4 B_X4_solvent_4 := fun p e s m args below meth c D ty ad A n0 φ0 Q G Y hY => (u_iload_n G dX4_solvent_4 rfl (u_aload_n G dX4_solvent_5 rfl (t_getI G cl_7 (k := 1) (by decide) (Or.inr ⟨_, q1_91⟩) rfl (Or.inl rfl) dX4_solvent_6 (u_icmp_ge G dX4_solvent_9 (by decide) (u_iload_n G dX4_solvent_38 rfl (t_iret G rfl dX4_solvent_39)) (u_iload_n G dX4_solvent_12 rfl (u_aload_n G dX4_solvent_13 rfl (t_getR G cl_4 (k := 3) (by decide) (Or.inl q1_151) rfl (Or.inr ⟨_, rfl⟩) dX4_solvent_14 (u_iload_n G dX4_solvent_17 rfl (t_iald G dX4_solvent_18 (u_if_ne G dX4_solvent_19 (by decide) (u_iconst G dX4_solvent_26 (by decide) (hY 27)) (u_iconst G dX4_solvent_22 (by decide) (t_goto G dX4_solvent_23 (by decide) (hY 27)))))))))))))
set_option maxRecDepth 100000 in
set_option maxHeartbeats 4000000 in
theorem b_X4_solvent_27 (l : Launch) : s_B l rm_X4_solvent yX4_solvent cX4_solvent 4 ((some FieldType.int)) false 27 B_X4_solvent_27 := fun p e s m args below meth c D ty ad A n0 φ0 Q G Y hY => (t_callS G (m_X8_bit l) ⟨rfl, rfl⟩ rfl ⟨Nat.le_of_ble_eq_true rfl, Nat.le_of_ble_eq_true rfl⟩ q3_3 q1_1 (Or.inr ⟨_, q4_6⟩) q3_2 hd_X8_bit dX4_solvent_27 (u_iadd G dX4_solvent_30 (u_istore_n G dX4_solvent_31 rfl (t_iinc G dX4_solvent_32 (by decide) (t_goto G dX4_solvent_35 (by decide) (hY 4))))))
set_option maxRecDepth 100000 in
theorem m_X4_solvent (l : Launch) : s_Met l yX4_solvent cX4_solvent 4 ((some FieldType.int)) rm_X4_solvent false C_X4_solvent := by
  intro D ty ad av φ sz sh me Q hsh hC
  unfold C_X4_solvent at hC
  split at hC
  · exact s_met1 (P := P_X4_solvent) (by decide +kernel) (fun _ => ⟨rfl, rfl⟩) (fun p e s m args below meth c D ty ad A n0 φ0 Q G Y hY => s_tab_T _ (List.forall_mem_cons.mpr ⟨b_X4_solvent_0 l p e s m args below meth c D ty ad A n0 φ0 Q G Y hY, List.forall_mem_cons.mpr ⟨b_X4_solvent_4 l p e s m args below meth c D ty ad A n0 φ0 Q G Y hY, List.forall_mem_cons.mpr ⟨b_X4_solvent_27 l p e s m args below meth c D ty ad A n0 φ0 Q G Y hY, fun _ h => absurd h List.not_mem_nil⟩⟩⟩)) hsh rfl rfl (Nat.le_of_ble_eq_true rfl) hC
  · exact hC.elim
def B_X5_hasElement_0 (Q : SQ) (nx : Nat → SK) : SK := (o_iload 1 (o_if (fun x => x < 0) (nx 16) (o_iload 1 (o_aload 0 (o_getI 5 1 (o_ic (fun x y => y ≤ x) (nx 16) (o_const (.int 1) (nx 17))))))))
def B_X5_hasElement_16 (Q : SQ) (nx : Nat → SK) : SK := (o_const (.int 0) (nx 17))
def B_X5_hasElement_17 (Q : SQ) (nx : Nat → SK) : SK := (o_zret Q)
def P_X5_hasElement (Q : SQ) (nx : Nat → SK) : Nat → SK := s_tab [(0, B_X5_hasElement_0 Q nx), (16, B_X5_hasElement_16 Q nx), (17, B_X5_hasElement_17 Q nx)]
def C_X5_hasElement : SC := fun av sh me Q => match av with
  | [.ref a0, .int a1] => s_wp P_X5_hasElement Q 0 [some (.ref a0), some (.int a1)] [] sh me
  | _ => False
abbrev rm_X5_hasElement : Room := { frames := 0, cells := 0, slots := 0, locals := 0 }
theorem hd_X5_hasElement : (yX5_hasElement).cls ≠ "java/lang/invoke/MethodHandle" ∧ (yX5_hasElement).cls ≠ "java/lang/invoke/VarHandle" ∧ (parseMethodDescriptor (yX5_hasElement).desc).map (fun d => d.parameters.length) = some 1 := by decide +kernel
set_option maxRecDepth 100000 in
set_option maxHeartbeats 4000000 in
theorem b_X5_hasElement_0 (l : Launch) : s_B l rm_X5_hasElement yX5_hasElement cX5_hasElement 2 ((some FieldType.boolean)) false 0 B_X5_hasElement_0 := fun p e s m args below meth c D ty ad A n0 φ0 Q G Y hY => (u_iload_n G dX5_hasElement_0 rfl (u_if_lt G dX5_hasElement_1 (by decide) (hY 16) (u_iload_n G dX5_hasElement_4 rfl (u_aload_n G dX5_hasElement_5 rfl (t_getI G cl_5 (k := 1) (by decide) (Or.inl q2_27) rfl (Or.inl rfl) dX5_hasElement_6 (u_icmp_ge G dX5_hasElement_9 (by decide) (hY 16) (u_iconst G dX5_hasElement_12 (by decide) (t_goto G dX5_hasElement_13 (by decide) (hY 17)))))))))
set_option maxRecDepth 100000 in
set_option maxHeartbeats 4000000 in
theorem b_X5_hasElement_16 (l : Launch) : s_B l rm_X5_hasElement yX5_hasElement cX5_hasElement 2 ((some FieldType.boolean)) false 16 B_X5_hasElement_16 := fun p e s m args below meth c D ty ad A n0 φ0 Q G Y hY => (u_iconst G dX5_hasElement_16 (by decide) (hY 17))
set_option maxRecDepth 100000 in
set_option maxHeartbeats 4000000 in
theorem b_X5_hasElement_17 (l : Launch) : s_B l rm_X5_hasElement yX5_hasElement cX5_hasElement 2 ((some FieldType.boolean)) false 17 B_X5_hasElement_17 := fun p e s m args below meth c D ty ad A n0 φ0 Q G Y hY => (t_zret G rfl dX5_hasElement_17)
set_option maxRecDepth 100000 in
theorem m_X5_hasElement (l : Launch) : s_Met l yX5_hasElement cX5_hasElement 2 ((some FieldType.boolean)) rm_X5_hasElement false C_X5_hasElement := by
  intro D ty ad av φ sz sh me Q hsh hC
  unfold C_X5_hasElement at hC
  split at hC
  · exact s_met1 (P := P_X5_hasElement) (by decide +kernel) (fun _ => ⟨rfl, rfl⟩) (fun p e s m args below meth c D ty ad A n0 φ0 Q G Y hY => s_tab_T _ (List.forall_mem_cons.mpr ⟨b_X5_hasElement_0 l p e s m args below meth c D ty ad A n0 φ0 Q G Y hY, List.forall_mem_cons.mpr ⟨b_X5_hasElement_16 l p e s m args below meth c D ty ad A n0 φ0 Q G Y hY, List.forall_mem_cons.mpr ⟨b_X5_hasElement_17 l p e s m args below meth c D ty ad A n0 φ0 Q G Y hY, fun _ h => absurd h List.not_mem_nil⟩⟩⟩)) hsh rfl rfl (Nat.le_of_ble_eq_true rfl) hC
  · exact hC.elim
def B_X5_hasElements_0 (Q : SQ) (nx : Nat → SK) : SK := (o_iload 1 (o_if (fun x => x < 0) (nx 30) (o_iload 2 (o_if (fun x => x < 0) (nx 30) (o_iload 1 (o_aload 0 (o_getI 5 1 (o_ic (fun x y => y < x) (nx 30) (o_iload 2 (o_aload 0 (o_getI 5 1 (o_iload 1 (o_i2 (fun x y => x - y) (o_ic (fun x y => y < x) (nx 30) (o_const (.int 1) (nx 31))))))))))))))))
def B_X5_hasElements_30 (Q : SQ) (nx : Nat → SK) : SK := (o_const (.int 0) (nx 31))
def B_X5_hasElements_31 (Q : SQ) (nx : Nat → SK) : SK := (o_zret Q)
def P_X5_hasElements (Q : SQ) (nx : Nat → SK) : Nat → SK := s_tab [(0, B_X5_hasElements_0 Q nx), (30, B_X5_hasElements_30 Q nx), (31, B_X5_hasElements_31 Q nx)]
def C_X5_hasElements : SC := fun av sh me Q => match av with
  | [.ref a0, .int a1, .int a2] => s_wp P_X5_hasElements Q 0 [some (.ref a0), some (.int a1), some (.int a2)] [] sh me
  | _ => False
abbrev rm_X5_hasElements : Room := { frames := 0, cells := 0, slots := 0, locals := 0 }
theorem hd_X5_hasElements : (yX5_hasElements).cls ≠ "java/lang/invoke/MethodHandle" ∧ (yX5_hasElements).cls ≠ "java/lang/invoke/VarHandle" ∧ (parseMethodDescriptor (yX5_hasElements).desc).map (fun d => d.parameters.length) = some 2 := by decide +kernel
set_option maxRecDepth 100000 in
set_option maxHeartbeats 4000000 in
theorem b_X5_hasElements_0 (l : Launch) : s_B l rm_X5_hasElements yX5_hasElements cX5_hasElements 3 ((some FieldType.boolean)) false 0 B_X5_hasElements_0 := fun p e s m args below meth c D ty ad A n0 φ0 Q G Y hY => (u_iload_n G dX5_hasElements_0 rfl (u_if_lt G dX5_hasElements_1 (by decide) (hY 30) (u_iload_n G dX5_hasElements_4 rfl (u_if_lt G dX5_hasElements_5 (by decide) (hY 30) (u_iload_n G dX5_hasElements_8 rfl (u_aload_n G dX5_hasElements_9 rfl (t_getI G cl_5 (k := 1) (by decide) (Or.inl q2_27) rfl (Or.inl rfl) dX5_hasElements_10 (u_icmp_gt G dX5_hasElements_13 (by decide) (hY 30) (u_iload_n G dX5_hasElements_16 rfl (u_aload_n G dX5_hasElements_17 rfl (t_getI G cl_5 (k := 1) (by decide) (Or.inl q2_27) rfl (Or.inl rfl) dX5_hasElements_18 (u_iload_n G dX5_hasElements_21 rfl (u_isub G dX5_hasElements_22 (u_icmp_gt G dX5_hasElements_23 (by decide) (hY 30) (u_iconst G dX5_hasElements_26 (by decide) (t_goto G dX5_hasElements_27 (by decide) (hY 31)))))))))))))))))
set_option maxRecDepth 100000 in
set_option maxHeartbeats 4000000 in
theorem b_X5_hasElements_30 (l : Launch) : s_B l rm_X5_hasElements yX5_hasElements cX5_hasElements 3 ((some FieldType.boolean)) false 30 B_X5_hasElements_30 := fun p e s m args below meth c D ty ad A n0 φ0 Q G Y hY => (u_iconst G dX5_hasElements_30 (by decide) (hY 31))
set_option maxRecDepth 100000 in
set_option maxHeartbeats 4000000 in
theorem b_X5_hasElements_31 (l : Launch) : s_B l rm_X5_hasElements yX5_hasElements cX5_hasElements 3 ((some FieldType.boolean)) false 31 B_X5_hasElements_31 := fun p e s m args below meth c D ty ad A n0 φ0 Q G Y hY => (t_zret G rfl dX5_hasElements_31)
set_option maxRecDepth 100000 in
theorem m_X5_hasElements (l : Launch) : s_Met l yX5_hasElements cX5_hasElements 3 ((some FieldType.boolean)) rm_X5_hasElements false C_X5_hasElements := by
  intro D ty ad av φ sz sh me Q hsh hC
  unfold C_X5_hasElements at hC
  split at hC
  · exact s_met1 (P := P_X5_hasElements) (by decide +kernel) (fun _ => ⟨rfl, rfl⟩) (fun p e s m args below meth c D ty ad A n0 φ0 Q G Y hY => s_tab_T _ (List.forall_mem_cons.mpr ⟨b_X5_hasElements_0 l p e s m args below meth c D ty ad A n0 φ0 Q G Y hY, List.forall_mem_cons.mpr ⟨b_X5_hasElements_30 l p e s m args below meth c D ty ad A n0 φ0 Q G Y hY, List.forall_mem_cons.mpr ⟨b_X5_hasElements_31 l p e s m args below meth c D ty ad A n0 φ0 Q G Y hY, fun _ h => absurd h List.not_mem_nil⟩⟩⟩)) hsh rfl rfl (Nat.le_of_ble_eq_true rfl) hC
  · exact hC.elim
def B_X5_holdNothing_0 (Q : SQ) (nx : Nat → SK) : SK := (o_aload 0 (o_const (.int (-1)) (o_putI 5 0 (o_aload 0 (o_const (.int 0) (o_putI 5 1 (o_vret Q)))))))
def P_X5_holdNothing (Q : SQ) (nx : Nat → SK) : Nat → SK := s_tab [(0, B_X5_holdNothing_0 Q nx)]
def C_X5_holdNothing : SC := fun av sh me Q => match av with
  | [.ref a0] => s_wp P_X5_holdNothing Q 0 [some (.ref a0)] [] sh me
  | _ => False
abbrev rm_X5_holdNothing : Room := { frames := 0, cells := 0, slots := 0, locals := 0 }
theorem hd_X5_holdNothing : (yX5_holdNothing).cls ≠ "java/lang/invoke/MethodHandle" ∧ (yX5_holdNothing).cls ≠ "java/lang/invoke/VarHandle" ∧ (parseMethodDescriptor (yX5_holdNothing).desc).map (fun d => d.parameters.length) = some 0 := by decide +kernel
set_option maxRecDepth 100000 in
set_option maxHeartbeats 4000000 in
theorem b_X5_holdNothing_0 (l : Launch) : s_B l rm_X5_holdNothing yX5_holdNothing cX5_holdNothing 1 ((none : Option FieldType)) false 0 B_X5_holdNothing_0 := fun p e s m args below meth c D ty ad A n0 φ0 Q G Y hY => (u_aload_n G dX5_holdNothing_0 rfl (u_iconst G dX5_holdNothing_1 (by decide) (t_putI G cl_5 (k := 0) (by decide) (Or.inl ⟨rfl, Or.inl q2_24⟩) rfl rfl dX5_holdNothing_2 (u_aload_n G dX5_holdNothing_5 rfl (u_iconst G dX5_holdNothing_6 (by decide) (t_putI G cl_5 (k := 1) (by decide) (Or.inl ⟨rfl, Or.inl q2_27⟩) rfl rfl dX5_holdNothing_7 (t_vret G rfl dX5_holdNothing_10)))))))
set_option maxRecDepth 100000 in
theorem m_X5_holdNothing (l : Launch) : s_Met l yX5_holdNothing cX5_holdNothing 1 ((none : Option FieldType)) rm_X5_holdNothing false C_X5_holdNothing := by
  intro D ty ad av φ sz sh me Q hsh hC
  unfold C_X5_holdNothing at hC
  split at hC
  · exact s_met1 (P := P_X5_holdNothing) (by decide +kernel) (fun _ => ⟨rfl, rfl⟩) (fun p e s m args below meth c D ty ad A n0 φ0 Q G Y hY => s_tab_T _ (List.forall_mem_cons.mpr ⟨b_X5_holdNothing_0 l p e s m args below meth c D ty ad A n0 φ0 Q G Y hY, fun _ h => absurd h List.not_mem_nil⟩)) hsh rfl rfl (Nat.le_of_ble_eq_true rfl) hC
  · exact hC.elim
def B_X5_holdPerson_0 (Q : SQ) (nx : Nat → SK) : SK := (o_aload 0 (o_const (.int (-2)) (o_putI 5 0 (o_aload 0 (o_const (.int 0) (o_putI 5 1 (o_aload 0 (o_iload 1 (o_putI 5 2 (o_vret Q))))))))))
def P_X5_holdPerson (Q : SQ) (nx : Nat → SK) : Nat → SK := s_tab [(0, B_X5_holdPerson_0 Q nx)]
def C_X5_holdPerson : SC := fun av sh me Q => match av with
  | [.ref a0, .int a1] => s_wp P_X5_holdPerson Q 0 [some (.ref a0), some (.int a1)] [] sh me
  | _ => False
abbrev rm_X5_holdPerson : Room := { frames := 0, cells := 0, slots := 0, locals := 0 }
theorem hd_X5_holdPerson : (yX5_holdPerson).cls ≠ "java/lang/invoke/MethodHandle" ∧ (yX5_holdPerson).cls ≠ "java/lang/invoke/VarHandle" ∧ (parseMethodDescriptor (yX5_holdPerson).desc).map (fun d => d.parameters.length) = some 1 := by decide +kernel
set_option maxRecDepth 100000 in
set_option maxHeartbeats 4000000 in
theorem b_X5_holdPerson_0 (l : Launch) : s_B l rm_X5_holdPerson yX5_holdPerson cX5_holdPerson 2 ((none : Option FieldType)) false 0 B_X5_holdPerson_0 := fun p e s m args below meth c D ty ad A n0 φ0 Q G Y hY => (u_aload_n G dX5_holdPerson_0 rfl (u_bipush G dX5_holdPerson_1 (by decide) (t_putI G cl_5 (k := 0) (by decide) (Or.inl ⟨rfl, Or.inl q2_24⟩) rfl rfl dX5_holdPerson_3 (u_aload_n G dX5_holdPerson_6 rfl (u_iconst G dX5_holdPerson_7 (by decide) (t_putI G cl_5 (k := 1) (by decide) (Or.inl ⟨rfl, Or.inl q2_27⟩) rfl rfl dX5_holdPerson_8 (u_aload_n G dX5_holdPerson_11 rfl (u_iload_n G dX5_holdPerson_12 rfl (t_putI G cl_5 (k := 2) (by decide) (Or.inl ⟨rfl, Or.inl q2_29⟩) rfl rfl dX5_holdPerson_13 (t_vret G rfl dX5_holdPerson_16))))))))))
set_option maxRecDepth 100000 in
theorem m_X5_holdPerson (l : Launch) : s_Met l yX5_holdPerson cX5_holdPerson 2 ((none : Option FieldType)) rm_X5_holdPerson false C_X5_holdPerson := by
  intro D ty ad av φ sz sh me Q hsh hC
  unfold C_X5_holdPerson at hC
  split at hC
  · exact s_met1 (P := P_X5_holdPerson) (by decide +kernel) (fun _ => ⟨rfl, rfl⟩) (fun p e s m args below meth c D ty ad A n0 φ0 Q G Y hY => s_tab_T _ (List.forall_mem_cons.mpr ⟨b_X5_holdPerson_0 l p e s m args below meth c D ty ad A n0 φ0 Q G Y hY, fun _ h => absurd h List.not_mem_nil⟩)) hsh rfl rfl (Nat.le_of_ble_eq_true rfl) hC
  · exact hC.elim
def B_X5_holdRow_0 (Q : SQ) (nx : Nat → SK) : SK := (o_aload 0 (o_iload 1 (o_putI 5 0 (o_aload 0 (o_iload 2 (o_putI 5 1 (o_aload 0 (o_getR 5 3 (o_const (.long 0) (o_call C_J7_fill_d0a16 2 (o_vret Q)))))))))))
def P_X5_holdRow (Q : SQ) (nx : Nat → SK) : Nat → SK := s_tab [(0, B_X5_holdRow_0 Q nx)]
def C_X5_holdRow : SC := fun av sh me Q => match av with
  | [.ref a0, .int a1, .int a2] => s_wp P_X5_holdRow Q 0 [some (.ref a0), some (.int a1), some (.int a2)] [] sh me
  | _ => False
abbrev rm_X5_holdRow : Room := { frames := 1, cells := 0, slots := 0, locals := 24 }
theorem hd_X5_holdRow : (yX5_holdRow).cls ≠ "java/lang/invoke/MethodHandle" ∧ (yX5_holdRow).cls ≠ "java/lang/invoke/VarHandle" ∧ (parseMethodDescriptor (yX5_holdRow).desc).map (fun d => d.parameters.length) = some 2 := by decide +kernel
set_option maxRecDepth 100000 in
set_option maxHeartbeats 4000000 in
theorem b_X5_holdRow_0 (l : Launch) : s_B l rm_X5_holdRow yX5_holdRow cX5_holdRow 3 ((none : Option FieldType)) false 0 B_X5_holdRow_0 := fun p e s m args below meth c D ty ad A n0 φ0 Q G Y hY => (u_aload_n G dX5_holdRow_0 rfl (u_iload_n G dX5_holdRow_1 rfl (t_putI G cl_5 (k := 0) (by decide) (Or.inl ⟨rfl, Or.inl q2_24⟩) rfl rfl dX5_holdRow_2 (u_aload_n G dX5_holdRow_5 rfl (u_iload_n G dX5_holdRow_6 rfl (t_putI G cl_5 (k := 1) (by decide) (Or.inl ⟨rfl, Or.inl q2_27⟩) rfl rfl dX5_holdRow_7 (u_aload_n G dX5_holdRow_10 rfl (t_getR G cl_5 (k := 3) (by decide) (Or.inl q2_31) rfl (Or.inr ⟨_, rfl⟩) dX5_holdRow_11 (u_lconst G dX5_holdRow_14 (by decide) (t_callS G (m_J7_fill_d0a16 l) ⟨rfl, rfl⟩ rfl ⟨Nat.le_of_ble_eq_true rfl, Nat.le_of_ble_eq_true rfl⟩ q2_96 q1_11 (Or.inl q2_94) q2_95 hd_J7_fill_d0a16 dX5_holdRow_15 (t_vret G rfl dX5_holdRow_18)))))))))))
set_option maxRecDepth 100000 in
theorem m_X5_holdRow (l : Launch) : s_Met l yX5_holdRow cX5_holdRow 3 ((none : Option FieldType)) rm_X5_holdRow false C_X5_holdRow := by
  intro D ty ad av φ sz sh me Q hsh hC
  unfold C_X5_holdRow at hC
  split at hC
  · exact s_met1 (P := P_X5_holdRow) (by decide +kernel) (fun _ => ⟨rfl, rfl⟩) (fun p e s m args below meth c D ty ad A n0 φ0 Q G Y hY => s_tab_T _ (List.forall_mem_cons.mpr ⟨b_X5_holdRow_0 l p e s m args below meth c D ty ad A n0 φ0 Q G Y hY, fun _ h => absurd h List.not_mem_nil⟩)) hsh rfl rfl (Nat.le_of_ble_eq_true rfl) hC
  · exact hC.elim
def B_X5_init_0 (Q : SQ) (nx : Nat → SK) : SK := (o_aload 0 (o_obj (o_aload 0 (o_const (.int (-1)) (o_putI 5 0 (o_aload 0 (o_const (.int 160) (o_newa 1 160 11 160 (o_putR 5 3 (o_vret Q))))))))))
def P_X5_init (Q : SQ) (nx : Nat → SK) : Nat → SK := s_tab [(0, B_X5_init_0 Q nx)]
def C_X5_init : SC := fun av sh me Q => match av with
  | [.ref a0] => s_wp P_X5_init Q 0 [some (.ref a0)] [] sh me
  | _ => False
abbrev rm_X5_init : Room := { frames := 1, cells := 1, slots := 160, locals := 20 }
theorem hd_X5_init : (yX5_init).cls ≠ "java/lang/invoke/MethodHandle" ∧ (yX5_init).cls ≠ "java/lang/invoke/VarHandle" ∧ (parseMethodDescriptor (yX5_init).desc).map (fun d => d.parameters.length) = some 0 := by decide +kernel
theorem rf_X5_init : ∀ (av : List Value) (sh : SShp) (me : SMem) (Q : SQ), C_X5_init av sh me Q → ∃ b r, av = .ref b :: r := by
  intro av sh me Q h
  unfold C_X5_init at h
  split at h
  · exact ⟨_, _, rfl⟩
  · exact h.elim
set_option maxRecDepth 100000 in
set_option maxHeartbeats 4000000 in
theorem b_X5_init_0 (l : Launch) : s_B l rm_X5_init yX5_init cX5_init 1 ((none : Option FieldType)) true 0 B_X5_init_0 := fun p e s m args below meth c D ty ad A n0 φ0 Q G Y hY => (u_aload_n G dX5_init_0 rfl (t_obj G q2_23 q1_26 q1_27 ⟨Nat.le_of_ble_eq_true rfl, Nat.le_of_ble_eq_true rfl⟩ dX5_init_1 (u_aload_n G dX5_init_4 rfl (u_iconst G dX5_init_5 (by decide) (t_putI G cl_5 (k := 0) (by decide) (Or.inl ⟨rfl, Or.inl q2_24⟩) rfl rfl dX5_init_6 (u_aload_n G dX5_init_9 rfl (u_sipush G dX5_init_10 (by decide) (t_newa (atype := .long) G (Or.inr ⟨rfl, rfl⟩) (by decide) rfl ⟨rfl, rfl⟩ q1_173 dX5_init_13 (t_putR G cl_5 (k := 3) (by decide) (Or.inr ⟨rfl, rfl, rfl, q2_31⟩) rfl (Or.inr ⟨_, rfl⟩) dX5_init_15 (t_vret G rfl dX5_init_18))))))))))
set_option maxRecDepth 100000 in
theorem m_X5_init (l : Launch) : s_Met l yX5_init cX5_init 1 ((none : Option FieldType)) rm_X5_init true C_X5_init := by
  intro D ty ad av φ sz sh me Q hsh hC
  unfold C_X5_init at hC
  split at hC
  · exact s_met1 (P := P_X5_init) (by decide +kernel) (fun h => by cases h) (fun p e s m args below meth c D ty ad A n0 φ0 Q G Y hY => s_tab_T _ (List.forall_mem_cons.mpr ⟨b_X5_init_0 l p e s m args below meth c D ty ad A n0 φ0 Q G Y hY, fun _ h => absurd h List.not_mem_nil⟩)) hsh rfl rfl (Nat.le_of_ble_eq_true rfl) hC
  · exact hC.elim
def B_X5_isPerson_0 (Q : SQ) (nx : Nat → SK) : SK := (o_aload 0 (o_getI 5 0 (o_const (.int (-2)) (o_ic (fun x y => ¬ x = y) (o_const (.int 0) (nx 14)) (o_const (.int 1) (nx 14))))))
def B_X5_isPerson_14 (Q : SQ) (nx : Nat → SK) : SK := (o_zret Q)
def P_X5_isPerson (Q : SQ) (nx : Nat → SK) : Nat → SK := s_tab [(0, B_X5_isPerson_0 Q nx), (14, B_X5_isPerson_14 Q nx)]
def C_X5_isPerson : SC := fun av sh me Q => match av with
  | [.ref a0] => s_wp P_X5_isPerson Q 0 [some (.ref a0)] [] sh me
  | _ => False
abbrev rm_X5_isPerson : Room := { frames := 0, cells := 0, slots := 0, locals := 0 }
theorem hd_X5_isPerson : (yX5_isPerson).cls ≠ "java/lang/invoke/MethodHandle" ∧ (yX5_isPerson).cls ≠ "java/lang/invoke/VarHandle" ∧ (parseMethodDescriptor (yX5_isPerson).desc).map (fun d => d.parameters.length) = some 0 := by decide +kernel
set_option maxRecDepth 100000 in
set_option maxHeartbeats 4000000 in
theorem b_X5_isPerson_0 (l : Launch) : s_B l rm_X5_isPerson yX5_isPerson cX5_isPerson 1 ((some FieldType.boolean)) false 0 B_X5_isPerson_0 := fun p e s m args below meth c D ty ad A n0 φ0 Q G Y hY => (u_aload_n G dX5_isPerson_0 rfl (t_getI G cl_5 (k := 0) (by decide) (Or.inl q2_24) rfl (Or.inl rfl) dX5_isPerson_1 (u_bipush G dX5_isPerson_4 (by decide) (u_icmp_ne G dX5_isPerson_6 (by decide) (u_iconst G dX5_isPerson_13 (by decide) (hY 14)) (u_iconst G dX5_isPerson_9 (by decide) (t_goto G dX5_isPerson_10 (by decide) (hY 14)))))))
set_option maxRecDepth 100000 in
set_option maxHeartbeats 4000000 in
theorem b_X5_isPerson_14 (l : Launch) : s_B l rm_X5_isPerson yX5_isPerson cX5_isPerson 1 ((some FieldType.boolean)) false 14 B_X5_isPerson_14 := fun p e s m args below meth c D ty ad A n0 φ0 Q G Y hY => (t_zret G rfl dX5_isPerson_14)
set_option maxRecDepth 100000 in
theorem m_X5_isPerson (l : Launch) : s_Met l yX5_isPerson cX5_isPerson 1 ((some FieldType.boolean)) rm_X5_isPerson false C_X5_isPerson := by
  intro D ty ad av φ sz sh me Q hsh hC
  unfold C_X5_isPerson at hC
  split at hC
  · exact s_met1 (P := P_X5_isPerson) (by decide +kernel) (fun _ => ⟨rfl, rfl⟩) (fun p e s m args below meth c D ty ad A n0 φ0 Q G Y hY => s_tab_T _ (List.forall_mem_cons.mpr ⟨b_X5_isPerson_0 l p e s m args below meth c D ty ad A n0 φ0 Q G Y hY, List.forall_mem_cons.mpr ⟨b_X5_isPerson_14 l p e s m args below meth c D ty ad A n0 φ0 Q G Y hY, fun _ h => absurd h List.not_mem_nil⟩⟩)) hsh rfl rfl (Nat.le_of_ble_eq_true rfl) hC
  · exact hC.elim
def B_X5_isRow_0 (Q : SQ) (nx : Nat → SK) : SK := (o_aload 0 (o_getI 5 0 (o_if (fun x => x < 0) (o_const (.int 0) (nx 12)) (o_const (.int 1) (nx 12)))))
def B_X5_isRow_12 (Q : SQ) (nx : Nat → SK) : SK := (o_zret Q)
def P_X5_isRow (Q : SQ) (nx : Nat → SK) : Nat → SK := s_tab [(0, B_X5_isRow_0 Q nx), (12, B_X5_isRow_12 Q nx)]
def C_X5_isRow : SC := fun av sh me Q => match av with
  | [.ref a0] => s_wp P_X5_isRow Q 0 [some (.ref a0)] [] sh me
  | _ => False
abbrev rm_X5_isRow : Room := { frames := 0, cells := 0, slots := 0, locals := 0 }
theorem hd_X5_isRow : (yX5_isRow).cls ≠ "java/lang/invoke/MethodHandle" ∧ (yX5_isRow).cls ≠ "java/lang/invoke/VarHandle" ∧ (parseMethodDescriptor (yX5_isRow).desc).map (fun d => d.parameters.length) = some 0 := by decide +kernel
set_option maxRecDepth 100000 in
set_option maxHeartbeats 4000000 in
theorem b_X5_isRow_0 (l : Launch) : s_B l rm_X5_isRow yX5_isRow cX5_isRow 1 ((some FieldType.boolean)) false 0 B_X5_isRow_0 := fun p e s m args below meth c D ty ad A n0 φ0 Q G Y hY => (u_aload_n G dX5_isRow_0 rfl (t_getI G cl_5 (k := 0) (by decide) (Or.inl q2_24) rfl (Or.inl rfl) dX5_isRow_1 (u_if_lt G dX5_isRow_4 (by decide) (u_iconst G dX5_isRow_11 (by decide) (hY 12)) (u_iconst G dX5_isRow_7 (by decide) (t_goto G dX5_isRow_8 (by decide) (hY 12))))))
set_option maxRecDepth 100000 in
set_option maxHeartbeats 4000000 in
theorem b_X5_isRow_12 (l : Launch) : s_B l rm_X5_isRow yX5_isRow cX5_isRow 1 ((some FieldType.boolean)) false 12 B_X5_isRow_12 := fun p e s m args below meth c D ty ad A n0 φ0 Q G Y hY => (t_zret G rfl dX5_isRow_12)
set_option maxRecDepth 100000 in
theorem m_X5_isRow (l : Launch) : s_Met l yX5_isRow cX5_isRow 1 ((some FieldType.boolean)) rm_X5_isRow false C_X5_isRow := by
  intro D ty ad av φ sz sh me Q hsh hC
  unfold C_X5_isRow at hC
  split at hC
  · exact s_met1 (P := P_X5_isRow) (by decide +kernel) (fun _ => ⟨rfl, rfl⟩) (fun p e s m args below meth c D ty ad A n0 φ0 Q G Y hY => s_tab_T _ (List.forall_mem_cons.mpr ⟨b_X5_isRow_0 l p e s m args below meth c D ty ad A n0 φ0 Q G Y hY, List.forall_mem_cons.mpr ⟨b_X5_isRow_12 l p e s m args below meth c D ty ad A n0 φ0 Q G Y hY, fun _ h => absurd h List.not_mem_nil⟩⟩)) hsh rfl rfl (Nat.le_of_ble_eq_true rfl) hC
  · exact hC.elim
def B_X5_putElement_0 (Q : SQ) (nx : Nat → SK) : SK := (o_aload 0 (o_getI 5 0 (o_sw [(0, (o_aload 0 (o_getR 5 3 (o_iload 1 (o_lload 2 (o_li (o_i1 (fun x => x.toInt8.toInt32) (o_il (o_last (nx 77)))))))))), (1, (o_aload 0 (o_getR 5 3 (o_iload 1 (o_lload 2 (o_li (o_i1 (fun x => x.toInt16.toInt32) (o_il (o_last (nx 77)))))))))), (2, (o_aload 0 (o_getR 5 3 (o_iload 1 (o_lload 2 (o_li (o_il (o_last (nx 77)))))))))] (o_aload 0 (o_getR 5 3 (o_iload 1 (o_lload 2 (o_last (nx 77)))))))))
def B_X5_putElement_77 (Q : SQ) (nx : Nat → SK) : SK := (o_vret Q)
def P_X5_putElement (Q : SQ) (nx : Nat → SK) : Nat → SK := s_tab [(0, B_X5_putElement_0 Q nx), (77, B_X5_putElement_77 Q nx)]
def C_X5_putElement : SC := fun av sh me Q => match av with
  | [.ref a0, .int a1, .long a2] => s_wp P_X5_putElement Q 0 [some (.ref a0), some (.int a1), some (.long a2), none] [] sh me
  | _ => False
abbrev rm_X5_putElement : Room := { frames := 0, cells := 0, slots := 0, locals := 0 }
theorem hd_X5_putElement : (yX5_putElement).cls ≠ "java/lang/invoke/MethodHandle" ∧ (yX5_putElement).cls ≠ "java/lang/invoke/VarHandle" ∧ (parseMethodDescriptor (yX5_putElement).desc).map (fun d => d.parameters.length) = some 2 := by decide +kernel
set_option maxRecDepth 100000 in
set_option maxHeartbeats 4000000 in
theorem b_X5_putElement_0 (l : Launch) : s_B l rm_X5_putElement yX5_putElement cX5_putElement 4 ((none : Option FieldType)) false 0 B_X5_putElement_0 := fun p e s m args below meth c D ty ad A n0 φ0 Q G Y hY => (u_aload_n G dX5_putElement_0 rfl (t_getI G cl_5 (k := 0) (by decide) (Or.inl q2_24) rfl (Or.inl rfl) dX5_putElement_1 (u_tsw G [(0, 32), (1, 45), (2, 58)] dX5_putElement_4 (by decide) (by decide) rfl ⟨(u_aload_n G dX5_putElement_32 rfl (t_getR G cl_5 (k := 3) (by decide) (Or.inl q2_31) rfl (Or.inr ⟨_, rfl⟩) dX5_putElement_33 (u_iload_n G dX5_putElement_36 rfl (u_lload_n G dX5_putElement_37 rfl (t_li G dX5_putElement_38 (u_i2b G dX5_putElement_39 (t_il G dX5_putElement_40 (t_last G dX5_putElement_41 (t_goto G dX5_putElement_42 (by decide) (hY 77)))))))))), ⟨(u_aload_n G dX5_putElement_45 rfl (t_getR G cl_5 (k := 3) (by decide) (Or.inl q2_31) rfl (Or.inr ⟨_, rfl⟩) dX5_putElement_46 (u_iload_n G dX5_putElement_49 rfl (u_lload_n G dX5_putElement_50 rfl (t_li G dX5_putElement_51 (u_i2s G dX5_putElement_52 (t_il G dX5_putElement_53 (t_last G dX5_putElement_54 (t_goto G dX5_putElement_55 (by decide) (hY 77)))))))))), ⟨(u_aload_n G dX5_putElement_58 rfl (t_getR G cl_5 (k := 3) (by decide) (Or.inl q2_31) rfl (Or.inr ⟨_, rfl⟩) dX5_putElement_59 (u_iload_n G dX5_putElement_62 rfl (u_lload_n G dX5_putElement_63 rfl (t_li G dX5_putElement_64 (t_il G dX5_putElement_65 (t_last G dX5_putElement_66 (t_goto G dX5_putElement_67 (by decide) (hY 77))))))))), trivial⟩⟩⟩ (u_aload_n G dX5_putElement_70 rfl (t_getR G cl_5 (k := 3) (by decide) (Or.inl q2_31) rfl (Or.inr ⟨_, rfl⟩) dX5_putElement_71 (u_iload_n G dX5_putElement_74 rfl (u_lload_n G dX5_putElement_75 rfl (t_last G dX5_putElement_76 (hY 77)))))))))
set_option maxRecDepth 100000 in
set_option maxHeartbeats 4000000 in
theorem b_X5_putElement_77 (l : Launch) : s_B l rm_X5_putElement yX5_putElement cX5_putElement 4 ((none : Option FieldType)) false 77 B_X5_putElement_77 := fun p e s m args below meth c D ty ad A n0 φ0 Q G Y hY => (t_vret G rfl dX5_putElement_77)
set_option maxRecDepth 100000 in
theorem m_X5_putElement (l : Launch) : s_Met l yX5_putElement cX5_putElement 4 ((none : Option FieldType)) rm_X5_putElement false C_X5_putElement := by
  intro D ty ad av φ sz sh me Q hsh hC
  unfold C_X5_putElement at hC
  split at hC
  · exact s_met1 (P := P_X5_putElement) (by decide +kernel) (fun _ => ⟨rfl, rfl⟩) (fun p e s m args below meth c D ty ad A n0 φ0 Q G Y hY => s_tab_T _ (List.forall_mem_cons.mpr ⟨b_X5_putElement_0 l p e s m args below meth c D ty ad A n0 φ0 Q G Y hY, List.forall_mem_cons.mpr ⟨b_X5_putElement_77 l p e s m args below meth c D ty ad A n0 φ0 Q G Y hY, fun _ h => absurd h List.not_mem_nil⟩⟩)) hsh rfl rfl (Nat.le_of_ble_eq_true rfl) hC
  · exact hC.elim
def B_X5_told_0 (Q : SQ) (nx : Nat → SK) : SK := (o_aload 0 (o_callV C_X5_isRow 5 1 (o_if (fun x => x = 0) (o_aload 0 (o_callV C_X5_isPerson 5 1 (o_if (fun x => x = 0) (o_const (.int (-1)) (nx 30)) (o_aload 0 (o_getI 5 2 (nx 30)))))) (o_const (.int 100) (o_aload 0 (o_getI 5 0 (o_i2 (fun x y => x + y) (o_iret Q))))))))
def B_X5_told_30 (Q : SQ) (nx : Nat → SK) : SK := (o_iret Q)
def P_X5_told (Q : SQ) (nx : Nat → SK) : Nat → SK := s_tab [(0, B_X5_told_0 Q nx), (30, B_X5_told_30 Q nx)]
def C_X5_told : SC := fun av sh me Q => match av with
  | [.ref a0] => s_wp P_X5_told Q 0 [some (.ref a0)] [] sh me
  | _ => False
abbrev rm_X5_told : Room := { frames := 1, cells := 0, slots := 0, locals := 20 }
theorem hd_X5_told : (yX5_told).cls ≠ "java/lang/invoke/MethodHandle" ∧ (yX5_told).cls ≠ "java/lang/invoke/VarHandle" ∧ (parseMethodDescriptor (yX5_told).desc).map (fun d => d.parameters.length) = some 0 := by decide +kernel
set_option maxRecDepth 100000 in
set_option maxHeartbeats 4000000 in
theorem b_X5_told_0 (l : Launch) : s_B l rm_X5_told yX5_told cX5_told 1 ((some FieldType.int)) false 0 B_X5_told_0 := fun p e s m args below meth c D ty ad A n0 φ0 Q G Y hY => (u_aload_n G dX5_told_0 rfl (t_callV G cl_5 (m_X5_isRow l) ⟨rfl, rfl⟩ rfl ⟨Nat.le_of_ble_eq_true rfl, Nat.le_of_ble_eq_true rfl⟩ q2_112 q1_9 (Or.inl q2_164) q2_110 q2_111 hd_X5_isRow dX5_told_1 (u_if_eq G dX5_told_4 (by decide) (u_aload_n G dX5_told_15 rfl (t_callV G cl_5 (m_X5_isPerson l) ⟨rfl, rfl⟩ rfl ⟨Nat.le_of_ble_eq_true rfl, Nat.le_of_ble_eq_true rfl⟩ q2_108 q1_9 (Or.inl q2_165) q2_106 q2_107 hd_X5_isPerson dX5_told_16 (u_if_eq G dX5_told_19 (by decide) (u_iconst G dX5_told_29 (by decide) (hY 30)) (u_aload_n G dX5_told_22 rfl (t_getI G cl_5 (k := 2) (by decide) (Or.inl q2_29) rfl (Or.inl rfl) dX5_told_23 (t_goto G dX5_told_26 (by decide) (hY 30))))))) (u_bipush G dX5_told_7 (by decide) (u_aload_n G dX5_told_9 rfl (t_getI G cl_5 (k := 0) (by decide) (Or.inl q2_24) rfl (Or.inl rfl) dX5_told_10 (u_iadd G dX5_told_13 (t_iret G rfl dX5_told_14))))))))
set_option maxRecDepth 100000 in
set_option maxHeartbeats 4000000 in
theorem b_X5_told_30 (l : Launch) : s_B l rm_X5_told yX5_told cX5_told 1 ((some FieldType.int)) false 30 B_X5_told_30 := fun p e s m args below meth c D ty ad A n0 φ0 Q G Y hY => (t_iret G rfl dX5_told_30)
set_option maxRecDepth 100000 in
theorem m_X5_told (l : Launch) : s_Met l yX5_told cX5_told 1 ((some FieldType.int)) rm_X5_told false C_X5_told := by
  intro D ty ad av φ sz sh me Q hsh hC
  unfold C_X5_told at hC
  split at hC
  · exact s_met1 (P := P_X5_told) (by decide +kernel) (fun _ => ⟨rfl, rfl⟩) (fun p e s m args below meth c D ty ad A n0 φ0 Q G Y hY => s_tab_T _ (List.forall_mem_cons.mpr ⟨b_X5_told_0 l p e s m args below meth c D ty ad A n0 φ0 Q G Y hY, List.forall_mem_cons.mpr ⟨b_X5_told_30 l p e s m args below meth c D ty ad A n0 φ0 Q G Y hY, fun _ h => absurd h List.not_mem_nil⟩⟩)) hsh rfl rfl (Nat.le_of_ble_eq_true rfl) hC
  · exact hC.elim
def B_X6_stepped_0 (Q : SQ) (nx : Nat → SK) : SK := (o_aload 1 (o_aload 0 (o_getI 1 5 (o_iload 2 (o_callV C_X7_stepFrom 7 3 (o_istore 3 (o_iload 3 (o_const (.int (-1)) (o_ic (fun x y => ¬ x = y) (o_aload 0 (o_iload 3 (o_putI 1 5 (o_const (.int 1) (o_zret Q))))) (o_const (.int 0) (o_zret Q)))))))))))
def P_X6_stepped (Q : SQ) (nx : Nat → SK) : Nat → SK := s_tab [(0, B_X6_stepped_0 Q nx)]
def C_X6_stepped : SC := fun av sh me Q => match av with
  | [.ref a0, .ref a1, .int a2] => s_wp P_X6_stepped Q 0 [some (.ref a0), some (.ref a1), some (.int a2), none] [] sh me
  | _ => False
abbrev rm_X6_stepped : Room := { frames := 3, cells := 0, slots := 0, locals := 65 }
theorem hd_X6_stepped : (yX6_stepped).cls ≠ "java/lang/invoke/MethodHandle" ∧ (yX6_stepped).cls ≠ "java/lang/invoke/VarHandle" ∧ (parseMethodDescriptor (yX6_stepped).desc).map (fun d => d.parameters.length) = some 3 := by decide +kernel
set_option maxRecDepth 100000 in
set_option maxHeartbeats 4000000 in
theorem b_X6_stepped_0 (l : Launch) : s_B l rm_X6_stepped yX6_stepped cX6_stepped 4 ((some FieldType.boolean)) false 0 B_X6_stepped_0 := fun p e s m args below meth c D ty ad A n0 φ0 Q G Y hY => (u_aload_n G dX6_stepped_0 rfl (u_aload_n G dX6_stepped_1 rfl (t_getI G cl_1 (k := 5) (by decide) (Or.inr ⟨_, q1_62⟩) rfl (Or.inl rfl) dX6_stepped_2 (u_iload_n G dX6_stepped_5 rfl (t_callV G cl_7 (m_X7_stepFrom l) ⟨rfl, rfl⟩ rfl ⟨Nat.le_of_ble_eq_true rfl, Nat.le_of_ble_eq_true rfl⟩ q4_45 q1_2 (Or.inl q4_157) q4_43 q4_44 hd_X7_stepFrom dX6_stepped_6 (u_istore_n G dX6_stepped_9 rfl (u_iload_n G dX6_stepped_10 rfl (u_iconst G dX6_stepped_11 (by decide) (u_icmp_ne G dX6_stepped_12 (by decide) (u_aload_n G dX6_stepped_17 rfl (u_iload_n G dX6_stepped_18 rfl (t_putI G cl_1 (k := 5) (by decide) (Or.inl ⟨rfl, Or.inr ⟨_, q1_62⟩⟩) rfl rfl dX6_stepped_19 (u_iconst G dX6_stepped_22 (by decide) (t_zret G rfl dX6_stepped_23))))) (u_iconst G dX6_stepped_15 (by decide) (t_zret G rfl dX6_stepped_16)))))))))))
set_option maxRecDepth 100000 in
theorem m_X6_stepped (l : Launch) : s_Met l yX6_stepped cX6_stepped 4 ((some FieldType.boolean)) rm_X6_stepped false C_X6_stepped := by
  intro D ty ad av φ sz sh me Q hsh hC
  unfold C_X6_stepped at hC
  split at hC
  · exact s_met1 (P := P_X6_stepped) (by decide +kernel) (fun _ => ⟨rfl, rfl⟩) (fun p e s m args below meth c D ty ad A n0 φ0 Q G Y hY => s_tab_T _ (List.forall_mem_cons.mpr ⟨b_X6_stepped_0 l p e s m args below meth c D ty ad A n0 φ0 Q G Y hY, fun _ h => absurd h List.not_mem_nil⟩)) hsh rfl rfl (Nat.le_of_ble_eq_true rfl) hC
  · exact hC.elim
def B_X7_pay_0 (Q : SQ) (nx : Nat → SK) : SK := (o_iload 2 (o_aload 1 (o_getI 1 4 (o_math2 s_min (o_istore 3 (o_aload 1 (o_dup (o_getI 1 4 (o_iload 3 (o_i2 (fun x y => x - y) (o_putI 1 4 (o_aload 0 (o_dup (o_getI 7 8 (o_iload 3 (o_i2 (fun x y => x + y) (o_putI 7 8 (o_vret Q))))))))))))))))))
def P_X7_pay (Q : SQ) (nx : Nat → SK) : Nat → SK := s_tab [(0, B_X7_pay_0 Q nx)]
def C_X7_pay : SC := fun av sh me Q => match av with
  | [.ref a0, .ref a1, .int a2] => s_wp P_X7_pay Q 0 [some (.ref a0), some (.ref a1), some (.int a2), none] [] sh me
  | _ => False
abbrev rm_X7_pay : Room := { frames := 1, cells := 0, slots := 0, locals := 21 }
theorem hd_X7_pay : (yX7_pay).cls ≠ "java/lang/invoke/MethodHandle" ∧ (yX7_pay).cls ≠ "java/lang/invoke/VarHandle" ∧ (parseMethodDescriptor (yX7_pay).desc).map (fun d => d.parameters.length) = some 2 := by decide +kernel
set_option maxRecDepth 100000 in
set_option maxHeartbeats 4000000 in
theorem b_X7_pay_0 (l : Launch) : s_B l rm_X7_pay yX7_pay cX7_pay 4 ((none : Option FieldType)) false 0 B_X7_pay_0 := fun p e s m args below meth c D ty ad A n0 φ0 Q G Y hY => (u_iload_n G dX7_pay_0 rfl (u_aload_n G dX7_pay_1 rfl (t_getI G cl_1 (k := 4) (by decide) (Or.inr ⟨_, q1_57⟩) rfl (Or.inl rfl) dX7_pay_2 (t_min G q4_163 q4_164 q1_13 q4_165 ⟨Nat.le_of_ble_eq_true rfl, Nat.le_of_ble_eq_true rfl⟩ dX7_pay_5 (u_istore_n G dX7_pay_8 rfl (u_aload_n G dX7_pay_9 rfl (t_dup G dX7_pay_10 (t_getI G cl_1 (k := 4) (by decide) (Or.inr ⟨_, q1_57⟩) rfl (Or.inl rfl) dX7_pay_11 (u_iload_n G dX7_pay_14 rfl (u_isub G dX7_pay_15 (t_putI G cl_1 (k := 4) (by decide) (Or.inl ⟨rfl, Or.inr ⟨_, q1_57⟩⟩) rfl rfl dX7_pay_16 (u_aload_n G dX7_pay_19 rfl (t_dup G dX7_pay_20 (t_getI G cl_7 (k := 8) (by decide) (Or.inl q1_116) rfl (Or.inl rfl) dX7_pay_21 (u_iload_n G dX7_pay_24 rfl (u_iadd G dX7_pay_25 (t_putI G cl_7 (k := 8) (by decide) (Or.inl ⟨rfl, Or.inl q1_116⟩) rfl rfl dX7_pay_26 (t_vret G rfl dX7_pay_29))))))))))))))))))
set_option maxRecDepth 100000 in
theorem m_X7_pay (l : Launch) : s_Met l yX7_pay cX7_pay 4 ((none : Option FieldType)) rm_X7_pay false C_X7_pay := by
  intro D ty ad av φ sz sh me Q hsh hC
  unfold C_X7_pay at hC
  split at hC
  · exact s_met1 (P := P_X7_pay) (by decide +kernel) (fun _ => ⟨rfl, rfl⟩) (fun p e s m args below meth c D ty ad A n0 φ0 Q G Y hY => s_tab_T _ (List.forall_mem_cons.mpr ⟨b_X7_pay_0 l p e s m args below meth c D ty ad A n0 φ0 Q G Y hY, fun _ h => absurd h List.not_mem_nil⟩)) hsh rfl rfl (Nat.le_of_ble_eq_true rfl) hC
  · exact hC.elim
def B_X6_follow_0 (Q : SQ) (nx : Nat → SK) : SK := (o_const (.int 0) (o_istore 4 (nx 3)))
def B_X6_follow_3 (Q : SQ) (nx : Nat → SK) : SK := (o_iload 4 (o_iload 3 (o_ic (fun x y => y ≤ x) (o_const (.int (-1)) (o_iret Q)) (o_aload 2 (o_iload 4 (o_callV C_X5_readAt 5 2 (o_istore 5 (o_iload 5 (o_const (.int 10) (o_div (fun x y => x / y) (o_istore 6 (o_iload 5 (o_if (fun x => x < 0) (nx 57) (o_iload 6 (o_aload 1 (o_getI 7 1 (o_ic (fun x y => y ≤ x) (nx 57) (o_aload 1 (o_getR 7 0 (o_iload 6 (o_aald 12 (o_aload 1 (o_iload 5 (o_const (.int 10) (o_div (fun x y => x - x / y * y) (o_call C_X6_stepped 3 (o_if (fun x => ¬ x = 0) (o_aload 0 (o_getR 6 0 (o_aload 1 (o_callV C_X4_take 4 2 (o_aload 1 (o_aload 1 (o_getR 7 0 (o_iload 6 (o_aald 12 (o_aload 0 (o_getR 6 0 (o_getR 4 3 (o_iload 6 (o_iald (o_callV C_X7_pay 7 3 (o_iinc 4 1 (nx 3))))))))))))))))) (nx 57))))))))))))))))))))))))))))
def B_X6_follow_57 (Q : SQ) (nx : Nat → SK) : SK := (o_iload 4 (o_iret Q))
def P_X6_follow (Q : SQ) (nx : Nat → SK) : Nat → SK := s_tab [(0, B_X6_follow_0 Q nx), (3, B_X6_follow_3 Q nx), (57, B_X6_follow_57 Q nx)]
def C_X6_follow : SC := fun av sh me Q => match av with
  | [.ref a0, .ref a1, .ref a2, .int a3] => s_wp P_X6_follow Q 0 [some (.ref a0), some (.ref a1), some (.ref a2), some (.int a3), none, none, none] [] sh me
  | _ => False
abbrev rm_X6_follow : Room := { frames := 4, cells := 0, slots := 0, locals := 94 }
theorem hd_X6_follow : (yX6_follow).cls ≠ "java/lang/invoke/MethodHandle" ∧ (yX6_follow).cls ≠ "java/lang/invoke/VarHandle" ∧ (parseMethodDescriptor (yX6_follow).desc).map (fun d => d.parameters.length) = some 3 := by decide +kernel
set_option maxRecDepth 100000 in
set_option maxHeartbeats 4000000 in
theorem b_X6_follow_0 (l : Launch) : s_B l rm_X6_follow yX6_follow cX6_follow 7 ((some FieldType.int)) false 0 B_X6_follow_0 := fun p e s m args below meth c D ty ad A n0 φ0 Q G Y hY => (u_iconst G dX6_follow_0 (by decide) (u_istore G dX6_follow_1 (hY 3)))
set_option maxRecDepth 100000 in
set_option maxHeartbeats 4000000 in
theorem b_X6_follow_3 (l : Launch) : s_B l rm_X6_follow yX6_follow cX6_follow 7 ((some FieldType.int)) false 3 B_X6_follow_3 := fun p e s m args below meth c D ty ad A n0 φ0 Q G Y hY => (u_iload G dX6_follow_3 (u_iload_n G dX6_follow_5 rfl (u_icmp_ge G dX6_follow_6 (by decide) (u_iconst G dX6_follow_95 (by decide) (t_iret G rfl dX6_follow_96)) (u_aload_n G dX6_follow_9 rfl (u_iload G dX6_follow_10 (t_callV G cl_5 (m_X5_readAt l) ⟨rfl, rfl⟩ rfl ⟨Nat.le_of_ble_eq_true rfl, Nat.le_of_ble_eq_true rfl⟩ q3_58 q1_9 (Or.inl q4_153) q3_56 q3_57 hd_X5_readAt dX6_follow_12 (u_istore G dX6_follow_15 (u_iload G dX6_follow_17 (u_bipush G dX6_follow_19 (by decide) (u_idiv G dX6_follow_21 (u_istore G dX6_follow_22 (u_iload G dX6_follow_24 (u_if_lt G dX6_follow_26 (by decide) (hY 57) (u_iload G dX6_follow_29 (u_aload_n G dX6_follow_31 rfl (t_getI G cl_7 (k := 1) (by decide) (Or.inr ⟨_, q1_92⟩) rfl (Or.inl rfl) dX6_follow_32 (u_icmp_ge G dX6_follow_35 (by decide) (hY 57) (u_aload_n G dX6_follow_38 rfl (t_getR G cl_7 (k := 0) (by decide) (Or.inr ⟨_, q1_87⟩) rfl (Or.inr ⟨_, rfl⟩) dX6_follow_39 (u_iload G dX6_follow_42 (t_aald G (by decide) dX6_follow_44 (u_aload_n G dX6_follow_45 rfl (u_iload G dX6_follow_46 (u_bipush G dX6_follow_48 (by decide) (u_irem G dX6_follow_50 (t_callS G (m_X6_stepped l) ⟨rfl, rfl⟩ rfl ⟨Nat.le_of_ble_eq_true rfl, Nat.le_of_ble_eq_true rfl⟩ q4_156 q1_6 (Or.inl q4_154) q4_155 hd_X6_stepped dX6_follow_51 (u_if_ne G dX6_follow_54 (by decide) (u_aload_n G dX6_follow_60 rfl (t_getR G cl_6 (k := 0) (by decide) (Or.inl q1_206) rfl (Or.inl ⟨_, rfl⟩) dX6_follow_61 (u_aload_n G dX6_follow_64 rfl (t_callV G cl_4 (m_X4_take l) ⟨rfl, rfl⟩ rfl ⟨Nat.le_of_ble_eq_true rfl, Nat.le_of_ble_eq_true rfl⟩ q3_189 q1_4 (Or.inl q4_158) q3_187 q3_188 hd_X4_take dX6_follow_65 (u_aload_n G dX6_follow_68 rfl (u_aload_n G dX6_follow_69 rfl (t_getR G cl_7 (k := 0) (by decide) (Or.inr ⟨_, q1_87⟩) rfl (Or.inr ⟨_, rfl⟩) dX6_follow_70 (u_iload G dX6_follow_73 (t_aald G (by decide) dX6_follow_75 (u_aload_n G dX6_follow_76 rfl (t_getR G cl_6 (k := 0) (by decide) (Or.inl q1_206) rfl (Or.inl ⟨_, rfl⟩) dX6_follow_77 (t_getR G cl_4 (k := 3) (by decide) (Or.inr ⟨_, q1_152⟩) rfl (Or.inr ⟨_, rfl⟩) dX6_follow_80 (u_iload G dX6_follow_83 (t_iald G dX6_follow_85 (t_callV G cl_7 (m_X7_pay l) ⟨rfl, rfl⟩ rfl ⟨Nat.le_of_ble_eq_true rfl, Nat.le_of_ble_eq_true rfl⟩ q4_162 q1_2 (Or.inl q4_159) q4_160 q4_161 hd_X7_pay dX6_follow_86 (t_iinc G dX6_follow_89 (by decide) (t_goto G dX6_follow_92 (by decide) (hY 3)))))))))))))))))) (hY 57))))))))))))))))))))))))))))
set_option maxRecDepth 100000 in
set_option maxHeartbeats 4000000 in
theorem b_X6_follow_57 (l : Launch) : s_B l rm_X6_follow yX6_follow cX6_follow 7 ((some FieldType.int)) false 57 B_X6_follow_57 := fun p e s m args below meth c D ty ad A n0 φ0 Q G Y hY => (u_iload G dX6_follow_57 (t_iret G rfl dX6_follow_59))
set_option maxRecDepth 100000 in
theorem m_X6_follow (l : Launch) : s_Met l yX6_follow cX6_follow 7 ((some FieldType.int)) rm_X6_follow false C_X6_follow := by
  intro D ty ad av φ sz sh me Q hsh hC
  unfold C_X6_follow at hC
  split at hC
  · exact s_met1 (P := P_X6_follow) (by decide +kernel) (fun _ => ⟨rfl, rfl⟩) (fun p e s m args below meth c D ty ad A n0 φ0 Q G Y hY => s_tab_T _ (List.forall_mem_cons.mpr ⟨b_X6_follow_0 l p e s m args below meth c D ty ad A n0 φ0 Q G Y hY, List.forall_mem_cons.mpr ⟨b_X6_follow_3 l p e s m args below meth c D ty ad A n0 φ0 Q G Y hY, List.forall_mem_cons.mpr ⟨b_X6_follow_57 l p e s m args below meth c D ty ad A n0 φ0 Q G Y hY, fun _ h => absurd h List.not_mem_nil⟩⟩⟩)) hsh rfl rfl (Nat.le_of_ble_eq_true rfl) hC
  · exact hC.elim
