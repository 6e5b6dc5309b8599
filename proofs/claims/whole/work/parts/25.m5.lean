def B_X6_init_0 (Q : SQ) (nx : Nat → SK) : SK := (o_aload 0 (o_obj (o_aload 0 (o_new 6 41 4 6 (o_dup (o_callA C_X4_init 1 6 41 5 35 (o_putR 6 0 (o_vret Q))))))))
def P_X6_init (Q : SQ) (nx : Nat → SK) : Nat → SK := s_tab [(0, B_X6_init_0 Q nx)]
def C_X6_init : SC := fun av sh me Q => match av with
  | [.ref a0] => s_wp P_X6_init Q 0 [some (.ref a0)] [] sh me
  | _ => False
abbrev rm_X6_init : Room := { frames := 2, cells := 6, slots := 41, locals := 40 }
theorem hd_X6_init : (yX6_init).cls ≠ "java/lang/invoke/MethodHandle" ∧ (yX6_init).cls ≠ "java/lang/invoke/VarHandle" ∧ (parseMethodDescriptor (yX6_init).desc).map (fun d => d.parameters.length) = some 0 := by decide +kernel
theorem rf_X6_init : ∀ (av : List Value) (sh : SShp) (me : SMem) (Q : SQ), C_X6_init av sh me Q → ∃ b r, av = .ref b :: r := by
  intro av sh me Q h
  unfold C_X6_init at h
  split at h
  · exact ⟨_, _, rfl⟩
  · exact h.elim
set_option maxRecDepth 100000 in
set_option maxHeartbeats 4000000 in
theorem b_X6_init_0 (l : Launch) : s_B l rm_X6_init yX6_init cX6_init 1 ((none : Option FieldType)) true 0 B_X6_init_0 := fun p e s m args below meth c D ty ad A n0 φ0 Q G Y hY => (u_aload_n G dX6_init_0 rfl (t_obj G q1_203 q1_26 q1_27 ⟨Nat.le_of_ble_eq_true rfl, Nat.le_of_ble_eq_true rfl⟩ dX6_init_1 (u_aload_n G dX6_init_4 rfl (t_new G cl_4 rfl ⟨rfl, rfl⟩ q1_204 q1_142 q1_4 dX6_init_5 fty_4 (t_dup G dX6_init_8 (t_callI G (m_X4_init l) ⟨rfl, rfl⟩ rfl ⟨rfl, rfl⟩ ⟨Nat.le_of_ble_eq_true rfl, Nat.le_of_ble_eq_true rfl⟩ q1_145 q1_4 (Or.inr ⟨_, q1_205⟩) q1_144 rfl hd_X4_init dX6_init_9 rf_X4_init (t_putR G cl_6 (k := 0) (by decide) (Or.inr ⟨rfl, rfl, rfl, q1_206⟩) rfl (Or.inl ⟨_, rfl⟩) dX6_init_12 (t_vret G rfl dX6_init_15))))))))
set_option maxRecDepth 100000 in
theorem m_X6_init (l : Launch) : s_Met l yX6_init cX6_init 1 ((none : Option FieldType)) rm_X6_init true C_X6_init := by
  intro D ty ad av φ sz sh me Q hsh hC
  unfold C_X6_init at hC
  split at hC
  · exact s_met1 (P := P_X6_init) (by decide +kernel) (fun h => by cases h) (fun p e s m args below meth c D ty ad A n0 φ0 Q G Y hY => s_tab_T _ (List.forall_mem_cons.mpr ⟨b_X6_init_0 l p e s m args below meth c D ty ad A n0 φ0 Q G Y hY, fun _ h => absurd h List.not_mem_nil⟩)) hsh rfl rfl (Nat.le_of_ble_eq_true rfl) hC
  · exact hC.elim
def B_X7_draw_0 (Q : SQ) (nx : Nat → SK) : SK := (o_aload 0 (o_aload 0 (o_getI 7 9 (o_const (.int 1103515245) (o_i2 (fun x y => x * y) (o_const (.int 12345) (o_i2 (fun x y => x + y) (o_putI 7 9 (o_iload 1 (o_if (fun x => x ≤ 0) (o_const (.int 0) (nx 32)) (o_aload 0 (o_getI 7 9 (o_const (.int 16) (o_i2 (fun x y => (x.toUInt32 >>> (y.toUInt32 &&& Int32.toUInt32 31)).toInt32) (o_iload 1 (o_div (fun x y => x - x / y * y) (nx 32)))))))))))))))))
def B_X7_draw_32 (Q : SQ) (nx : Nat → SK) : SK := (o_iret Q)
def P_X7_draw (Q : SQ) (nx : Nat → SK) : Nat → SK := s_tab [(0, B_X7_draw_0 Q nx), (32, B_X7_draw_32 Q nx)]
def C_X7_draw : SC := fun av sh me Q => match av with
  | [.ref a0, .int a1] => s_wp P_X7_draw Q 0 [some (.ref a0), some (.int a1)] [] sh me
  | _ => False
abbrev rm_X7_draw : Room := { frames := 0, cells := 0, slots := 0, locals := 0 }
theorem hd_X7_draw : (yX7_draw).cls ≠ "java/lang/invoke/MethodHandle" ∧ (yX7_draw).cls ≠ "java/lang/invoke/VarHandle" ∧ (parseMethodDescriptor (yX7_draw).desc).map (fun d => d.parameters.length) = some 1 := by decide +kernel
set_option maxRecDepth 100000 in
set_option maxHeartbeats 4000000 in
theorem b_X7_draw_0 (l : Launch) : s_B l rm_X7_draw yX7_draw cX7_draw 2 ((some FieldType.int)) false 0 B_X7_draw_0 := fun p e s m args below meth c D ty ad A n0 φ0 Q G Y hY => (u_aload_n G dX7_draw_0 rfl (u_aload_n G dX7_draw_1 rfl (t_getI G cl_7 (k := 9) (by decide) (Or.inl q1_118) rfl (Or.inl rfl) dX7_draw_2 (u_ldc G q4_195 dX7_draw_5 (u_imul G dX7_draw_7 (u_sipush G dX7_draw_8 (by decide) (u_iadd G dX7_draw_11 (t_putI G cl_7 (k := 9) (by decide) (Or.inl ⟨rfl, Or.inl q1_118⟩) rfl rfl dX7_draw_12 (u_iload_n G dX7_draw_15 rfl (u_if_le G dX7_draw_16 (by decide) (u_iconst G dX7_draw_31 (by decide) (hY 32)) (u_aload_n G dX7_draw_19 rfl (t_getI G cl_7 (k := 9) (by decide) (Or.inl q1_118) rfl (Or.inl rfl) dX7_draw_20 (u_bipush G dX7_draw_23 (by decide) (u_iushr G dX7_draw_25 (u_iload_n G dX7_draw_26 rfl (u_irem G dX7_draw_27 (t_goto G dX7_draw_28 (by decide) (hY 32))))))))))))))))))
set_option maxRecDepth 100000 in
set_option maxHeartbeats 4000000 in
theorem b_X7_draw_32 (l : Launch) : s_B l rm_X7_draw yX7_draw cX7_draw 2 ((some FieldType.int)) false 32 B_X7_draw_32 := fun p e s m args below meth c D ty ad A n0 φ0 Q G Y hY => (t_iret G rfl dX7_draw_32)
set_option maxRecDepth 100000 in
theorem m_X7_draw (l : Launch) : s_Met l yX7_draw cX7_draw 2 ((some FieldType.int)) rm_X7_draw false C_X7_draw := by
  intro D ty ad av φ sz sh me Q hsh hC
  unfold C_X7_draw at hC
  split at hC
  · exact s_met1 (P := P_X7_draw) (by decide +kernel) (fun _ => ⟨rfl, rfl⟩) (fun p e s m args below meth c D ty ad A n0 φ0 Q G Y hY => s_tab_T _ (List.forall_mem_cons.mpr ⟨b_X7_draw_0 l p e s m args below meth c D ty ad A n0 φ0 Q G Y hY, List.forall_mem_cons.mpr ⟨b_X7_draw_32 l p e s m args below meth c D ty ad A n0 φ0 Q G Y hY, fun _ h => absurd h List.not_mem_nil⟩⟩)) hsh rfl rfl (Nat.le_of_ble_eq_true rfl) hC
  · exact hC.elim
def B_X6_passHour_0 (Q : SQ) (nx : Nat → SK) : SK := (o_aload 1 (o_aload 1 (o_const (.int 4) (o_callV C_X7_draw 7 2 (o_if (fun x => ¬ x = 0) (o_const (.int 0) (nx 14)) (o_const (.int 1) (nx 14)))))))
def B_X6_passHour_14 (Q : SQ) (nx : Nat → SK) : SK := (o_putZ 7 6 (o_const (.int 0) (o_istore 2 (nx 19))))
def B_X6_passHour_19 (Q : SQ) (nx : Nat → SK) : SK := (o_iload 2 (o_aload 1 (o_getI 7 1 (o_ic (fun x y => y ≤ x) (o_aload 0 (o_getR 6 0 (o_aload 1 (o_callV C_X4_take 4 2 (o_const (.int 0) (o_istore 2 (nx 59))))))) (o_aload 1 (o_getR 7 0 (o_iload 2 (o_aald 12 (o_aload 1 (o_aload 1 (o_const (.int 5) (o_callV C_X7_draw 7 2 (o_call C_X6_stepped 3 (o_pop (o_iinc 2 1 (nx 19))))))))))))))))
def B_X6_passHour_59 (Q : SQ) (nx : Nat → SK) : SK := (o_iload 2 (o_aload 1 (o_getI 7 1 (o_ic (fun x y => y ≤ x) (o_aload 1 (o_dup (o_getI 7 7 (o_const (.int 1) (o_i2 (fun x y => x + y) (o_putI 7 7 (o_vret Q))))))) (o_aload 1 (o_aload 1 (o_getR 7 0 (o_iload 2 (o_aald 12 (o_aload 0 (o_getR 6 0 (o_getR 4 3 (o_iload 2 (o_iald (o_callV C_X7_pay 7 3 (o_iinc 2 1 (nx 59)))))))))))))))))
def P_X6_passHour (Q : SQ) (nx : Nat → SK) : Nat → SK := s_tab [(0, B_X6_passHour_0 Q nx), (14, B_X6_passHour_14 Q nx), (19, B_X6_passHour_19 Q nx), (59, B_X6_passHour_59 Q nx)]
def C_X6_passHour : SC := fun av sh me Q => match av with
  | [.ref a0, .ref a1] => s_wp P_X6_passHour Q 0 [some (.ref a0), some (.ref a1), none] [] sh me
  | _ => False
abbrev rm_X6_passHour : Room := { frames := 4, cells := 0, slots := 0, locals := 94 }
theorem hd_X6_passHour : (yX6_passHour).cls ≠ "java/lang/invoke/MethodHandle" ∧ (yX6_passHour).cls ≠ "java/lang/invoke/VarHandle" ∧ (parseMethodDescriptor (yX6_passHour).desc).map (fun d => d.parameters.length) = some 1 := by decide +kernel
set_option maxRecDepth 100000 in
set_option maxHeartbeats 4000000 in
theorem b_X6_passHour_0 (l : Launch) : s_B l rm_X6_passHour yX6_passHour cX6_passHour 3 ((none : Option FieldType)) false 0 B_X6_passHour_0 := fun p e s m args below meth c D ty ad A n0 φ0 Q G Y hY => (u_aload_n G dX6_passHour_0 rfl (u_aload_n G dX6_passHour_1 rfl (u_iconst G dX6_passHour_2 (by decide) (t_callV G cl_7 (m_X7_draw l) ⟨rfl, rfl⟩ rfl ⟨Nat.le_of_ble_eq_true rfl, Nat.le_of_ble_eq_true rfl⟩ q4_194 q1_2 (Or.inl q4_191) q4_192 q4_193 hd_X7_draw dX6_passHour_3 (u_if_ne G dX6_passHour_6 (by decide) (u_iconst G dX6_passHour_13 (by decide) (hY 14)) (u_iconst G dX6_passHour_9 (by decide) (t_goto G dX6_passHour_10 (by decide) (hY 14))))))))
set_option maxRecDepth 100000 in
set_option maxHeartbeats 4000000 in
theorem b_X6_passHour_14 (l : Launch) : s_B l rm_X6_passHour yX6_passHour cX6_passHour 3 ((none : Option FieldType)) false 14 B_X6_passHour_14 := fun p e s m args below meth c D ty ad A n0 φ0 Q G Y hY => (t_putZ G cl_7 (k := 6) (by decide) (Or.inl ⟨rfl, Or.inr ⟨_, q1_111⟩⟩) rfl rfl dX6_passHour_14 (u_iconst G dX6_passHour_17 (by decide) (u_istore_n G dX6_passHour_18 rfl (hY 19))))
set_option maxRecDepth 100000 in
set_option maxHeartbeats 4000000 in
theorem b_X6_passHour_19 (l : Launch) : s_B l rm_X6_passHour yX6_passHour cX6_passHour 3 ((none : Option FieldType)) false 19 B_X6_passHour_19 := fun p e s m args below meth c D ty ad A n0 φ0 Q G Y hY => (u_iload_n G dX6_passHour_19 rfl (u_aload_n G dX6_passHour_20 rfl (t_getI G cl_7 (k := 1) (by decide) (Or.inr ⟨_, q1_92⟩) rfl (Or.inl rfl) dX6_passHour_21 (u_icmp_ge G dX6_passHour_24 (by decide) (u_aload_n G dX6_passHour_49 rfl (t_getR G cl_6 (k := 0) (by decide) (Or.inl q1_206) rfl (Or.inl ⟨_, rfl⟩) dX6_passHour_50 (u_aload_n G dX6_passHour_53 rfl (t_callV G cl_4 (m_X4_take l) ⟨rfl, rfl⟩ rfl ⟨Nat.le_of_ble_eq_true rfl, Nat.le_of_ble_eq_true rfl⟩ q3_189 q1_4 (Or.inl q4_158) q3_187 q3_188 hd_X4_take dX6_passHour_54 (u_iconst G dX6_passHour_57 (by decide) (u_istore_n G dX6_passHour_58 rfl (hY 59))))))) (u_aload_n G dX6_passHour_27 rfl (t_getR G cl_7 (k := 0) (by decide) (Or.inr ⟨_, q1_87⟩) rfl (Or.inr ⟨_, rfl⟩) dX6_passHour_28 (u_iload_n G dX6_passHour_31 rfl (t_aald G (by decide) dX6_passHour_32 (u_aload_n G dX6_passHour_33 rfl (u_aload_n G dX6_passHour_34 rfl (u_iconst G dX6_passHour_35 (by decide) (t_callV G cl_7 (m_X7_draw l) ⟨rfl, rfl⟩ rfl ⟨Nat.le_of_ble_eq_true rfl, Nat.le_of_ble_eq_true rfl⟩ q4_194 q1_2 (Or.inl q4_191) q4_192 q4_193 hd_X7_draw dX6_passHour_36 (t_callS G (m_X6_stepped l) ⟨rfl, rfl⟩ rfl ⟨Nat.le_of_ble_eq_true rfl, Nat.le_of_ble_eq_true rfl⟩ q4_156 q1_6 (Or.inl q4_154) q4_155 hd_X6_stepped dX6_passHour_39 (t_pop G dX6_passHour_42 (t_iinc G dX6_passHour_43 (by decide) (t_goto G dX6_passHour_46 (by decide) (hY 19)))))))))))))))))
set_option maxRecDepth 100000 in
set_option maxHeartbeats 4000000 in
theorem b_X6_passHour_59 (l : Launch) : s_B l rm_X6_passHour yX6_passHour cX6_passHour 3 ((none : Option FieldType)) false 59 B_X6_passHour_59 := fun p e s m args below meth c D ty ad A n0 φ0 Q G Y hY => (u_iload_n G dX6_passHour_59 rfl (u_aload_n G dX6_passHour_60 rfl (t_getI G cl_7 (k := 1) (by decide) (Or.inr ⟨_, q1_92⟩) rfl (Or.inl rfl) dX6_passHour_61 (u_icmp_ge G dX6_passHour_64 (by decide) (u_aload_n G dX6_passHour_92 rfl (t_dup G dX6_passHour_93 (t_getI G cl_7 (k := 7) (by decide) (Or.inr ⟨_, q1_114⟩) rfl (Or.inl rfl) dX6_passHour_94 (u_iconst G dX6_passHour_97 (by decide) (u_iadd G dX6_passHour_98 (t_putI G cl_7 (k := 7) (by decide) (Or.inl ⟨rfl, Or.inr ⟨_, q1_114⟩⟩) rfl rfl dX6_passHour_99 (t_vret G rfl dX6_passHour_102))))))) (u_aload_n G dX6_passHour_67 rfl (u_aload_n G dX6_passHour_68 rfl (t_getR G cl_7 (k := 0) (by decide) (Or.inr ⟨_, q1_87⟩) rfl (Or.inr ⟨_, rfl⟩) dX6_passHour_69 (u_iload_n G dX6_passHour_72 rfl (t_aald G (by decide) dX6_passHour_73 (u_aload_n G dX6_passHour_74 rfl (t_getR G cl_6 (k := 0) (by decide) (Or.inl q1_206) rfl (Or.inl ⟨_, rfl⟩) dX6_passHour_75 (t_getR G cl_4 (k := 3) (by decide) (Or.inr ⟨_, q1_152⟩) rfl (Or.inr ⟨_, rfl⟩) dX6_passHour_78 (u_iload_n G dX6_passHour_81 rfl (t_iald G dX6_passHour_82 (t_callV G cl_7 (m_X7_pay l) ⟨rfl, rfl⟩ rfl ⟨Nat.le_of_ble_eq_true rfl, Nat.le_of_ble_eq_true rfl⟩ q4_162 q1_2 (Or.inl q4_159) q4_160 q4_161 hd_X7_pay dX6_passHour_83 (t_iinc G dX6_passHour_86 (by decide) (t_goto G dX6_passHour_89 (by decide) (hY 59))))))))))))))))))
set_option maxRecDepth 100000 in
theorem m_X6_passHour (l : Launch) : s_Met l yX6_passHour cX6_passHour 3 ((none : Option FieldType)) rm_X6_passHour false C_X6_passHour := by
  intro D ty ad av φ sz sh me Q hsh hC
  unfold C_X6_passHour at hC
  split at hC
  · exact s_met1 (P := P_X6_passHour) (by decide +kernel) (fun _ => ⟨rfl, rfl⟩) (fun p e s m args below meth c D ty ad A n0 φ0 Q G Y hY => s_tab_T _ (List.forall_mem_cons.mpr ⟨b_X6_passHour_0 l p e s m args below meth c D ty ad A n0 φ0 Q G Y hY, List.forall_mem_cons.mpr ⟨b_X6_passHour_14 l p e s m args below meth c D ty ad A n0 φ0 Q G Y hY, List.forall_mem_cons.mpr ⟨b_X6_passHour_19 l p e s m args below meth c D ty ad A n0 φ0 Q G Y hY, List.forall_mem_cons.mpr ⟨b_X6_passHour_59 l p e s m args below meth c D ty ad A n0 φ0 Q G Y hY, fun _ h => absurd h List.not_mem_nil⟩⟩⟩⟩)) hsh rfl rfl (Nat.le_of_ble_eq_true rfl) hC
  · exact hC.elim
def B_X7_emptyPurses_0 (Q : SQ) (nx : Nat → SK) : SK := (o_const (.int 0) (o_istore 1 (o_const (.int 0) (o_istore 2 (nx 4)))))
def B_X7_emptyPurses_4 (Q : SQ) (nx : Nat → SK) : SK := (o_iload 2 (o_aload 0 (o_getI 7 1 (o_ic (fun x y => y ≤ x) (o_iload 1 (o_iret Q)) (o_iload 1 (o_aload 0 (o_getR 7 0 (o_iload 2 (o_aald 12 (o_getI 1 4 (o_if (fun x => ¬ x = 0) (o_const (.int 0) (nx 30)) (o_const (.int 1) (nx 30)))))))))))))
def B_X7_emptyPurses_30 (Q : SQ) (nx : Nat → SK) : SK := (o_call C_X8_bit 1 (o_i2 (fun x y => x + y) (o_istore 1 (o_iinc 2 1 (nx 4)))))
def P_X7_emptyPurses (Q : SQ) (nx : Nat → SK) : Nat → SK := s_tab [(0, B_X7_emptyPurses_0 Q nx), (4, B_X7_emptyPurses_4 Q nx), (30, B_X7_emptyPurses_30 Q nx)]
def C_X7_emptyPurses : SC := fun av sh me Q => match av with
  | [.ref a0] => s_wp P_X7_emptyPurses Q 0 [some (.ref a0), none, none] [] sh me
  | _ => False
abbrev rm_X7_emptyPurses : Room := { frames := 1, cells := 0, slots := 0, locals := 20 }
theorem hd_X7_emptyPurses : (yX7_emptyPurses).cls ≠ "java/lang/invoke/MethodHandle" ∧ (yX7_emptyPurses).cls ≠ "java/lang/invoke/VarHandle" ∧ (parseMethodDescriptor (yX7_emptyPurses).desc).map (fun d => d.parameters.length) = some 0 := by decide +kernel
set_option maxRecDepth 100000 in
set_option maxHeartbeats 4000000 in
theorem b_X7_emptyPurses_0 (l : Launch) : s_B l rm_X7_emptyPurses yX7_emptyPurses cX7_emptyPurses 3 ((some FieldType.int)) false 0 B_X7_emptyPurses_0 := fun p e s m args below meth c D ty ad A n0 φ0 Q G Y hY => (u_iconst G dX7_emptyPurses_0 (by decide) (u_istore_n G dX7_emptyPurses_1 rfl (u_iconst G dX7_emptyPurses_2 (by decide) (u_istore_n G dX7_emptyPurses_3 rfl (hY 4)))))
set_option maxRecDepth 100000 in
set_option maxHeartbeats 4000000 in
theorem b_X7_emptyPurses_4 (l : Launch) : s_B l rm_X7_emptyPurses yX7_emptyPurses cX7_emptyPurses 3 ((some FieldType.int)) false 4 B_X7_emptyPurses_4 := fun p e s m args below meth c D ty ad A n0 φ0 Q G Y hY => (u_iload_n G dX7_emptyPurses_4 rfl (u_aload_n G dX7_emptyPurses_5 rfl (t_getI G cl_7 (k := 1) (by decide) (Or.inl q1_90) rfl (Or.inl rfl) dX7_emptyPurses_6 (u_icmp_ge G dX7_emptyPurses_9 (by decide) (u_iload_n G dX7_emptyPurses_41 rfl (t_iret G rfl dX7_emptyPurses_42)) (u_iload_n G dX7_emptyPurses_12 rfl (u_aload_n G dX7_emptyPurses_13 rfl (t_getR G cl_7 (k := 0) (by decide) (Or.inl q1_84) rfl (Or.inr ⟨_, rfl⟩) dX7_emptyPurses_14 (u_iload_n G dX7_emptyPurses_17 rfl (t_aald G (by decide) dX7_emptyPurses_18 (t_getI G cl_1 (k := 4) (by decide) (Or.inr ⟨_, q1_57⟩) rfl (Or.inl rfl) dX7_emptyPurses_19 (u_if_ne G dX7_emptyPurses_22 (by decide) (u_iconst G dX7_emptyPurses_29 (by decide) (hY 30)) (u_iconst G dX7_emptyPurses_25 (by decide) (t_goto G dX7_emptyPurses_26 (by decide) (hY 30))))))))))))))
set_option maxRecDepth 100000 in
set_option maxHeartbeats 4000000 in
theorem b_X7_emptyPurses_30 (l : Launch) : s_B l rm_X7_emptyPurses yX7_emptyPurses cX7_emptyPurses 3 ((some FieldType.int)) false 30 B_X7_emptyPurses_30 := fun p e s m args below meth c D ty ad A n0 φ0 Q G Y hY => (t_callS G (m_X8_bit l) ⟨rfl, rfl⟩ rfl ⟨Nat.le_of_ble_eq_true rfl, Nat.le_of_ble_eq_true rfl⟩ q3_3 q1_1 (Or.inr ⟨_, q4_178⟩) q3_2 hd_X8_bit dX7_emptyPurses_30 (u_iadd G dX7_emptyPurses_33 (u_istore_n G dX7_emptyPurses_34 rfl (t_iinc G dX7_emptyPurses_35 (by decide) (t_goto G dX7_emptyPurses_38 (by decide) (hY 4))))))
set_option maxRecDepth 100000 in
theorem m_X7_emptyPurses (l : Launch) : s_Met l yX7_emptyPurses cX7_emptyPurses 3 ((some FieldType.int)) rm_X7_emptyPurses false C_X7_emptyPurses := by
  intro D ty ad av φ sz sh me Q hsh hC
  unfold C_X7_emptyPurses at hC
  split at hC
  · exact s_met1 (P := P_X7_emptyPurses) (by decide +kernel) (fun _ => ⟨rfl, rfl⟩) (fun p e s m args below meth c D ty ad A n0 φ0 Q G Y hY => s_tab_T _ (List.forall_mem_cons.mpr ⟨b_X7_emptyPurses_0 l p e s m args below meth c D ty ad A n0 φ0 Q G Y hY, List.forall_mem_cons.mpr ⟨b_X7_emptyPurses_4 l p e s m args below meth c D ty ad A n0 φ0 Q G Y hY, List.forall_mem_cons.mpr ⟨b_X7_emptyPurses_30 l p e s m args below meth c D ty ad A n0 φ0 Q G Y hY, fun _ h => absurd h List.not_mem_nil⟩⟩⟩)) hsh rfl rfl (Nat.le_of_ble_eq_true rfl) hC
  · exact hC.elim
def B_X7_hasBalcony_0 (Q : SQ) (nx : Nat → SK) : SK := (o_aload 0 (o_getJ 7 3 (o_iload 1 (o_call C_X8_hasBit 2 (o_zret Q)))))
def P_X7_hasBalcony (Q : SQ) (nx : Nat → SK) : Nat → SK := s_tab [(0, B_X7_hasBalcony_0 Q nx)]
def C_X7_hasBalcony : SC := fun av sh me Q => match av with
  | [.ref a0, .int a1] => s_wp P_X7_hasBalcony Q 0 [some (.ref a0), some (.int a1)] [] sh me
  | _ => False
abbrev rm_X7_hasBalcony : Room := { frames := 1, cells := 0, slots := 0, locals := 22 }
theorem hd_X7_hasBalcony : (yX7_hasBalcony).cls ≠ "java/lang/invoke/MethodHandle" ∧ (yX7_hasBalcony).cls ≠ "java/lang/invoke/VarHandle" ∧ (parseMethodDescriptor (yX7_hasBalcony).desc).map (fun d => d.parameters.length) = some 1 := by decide +kernel
set_option maxRecDepth 100000 in
set_option maxHeartbeats 4000000 in
theorem b_X7_hasBalcony_0 (l : Launch) : s_B l rm_X7_hasBalcony yX7_hasBalcony cX7_hasBalcony 2 ((some FieldType.boolean)) false 0 B_X7_hasBalcony_0 := fun p e s m args below meth c D ty ad A n0 φ0 Q G Y hY => (u_aload_n G dX7_hasBalcony_0 rfl (t_getJ G cl_7 (k := 3) (by decide) (Or.inl q1_98) rfl rfl dX7_hasBalcony_1 (u_iload_n G dX7_hasBalcony_4 rfl (t_callS G (m_X8_hasBit l) ⟨rfl, rfl⟩ rfl ⟨Nat.le_of_ble_eq_true rfl, Nat.le_of_ble_eq_true rfl⟩ q2_232 q1_1 (Or.inr ⟨_, q2_230⟩) q2_231 hd_X8_hasBit dX7_hasBalcony_5 (t_zret G rfl dX7_hasBalcony_8)))))
set_option maxRecDepth 100000 in
theorem m_X7_hasBalcony (l : Launch) : s_Met l yX7_hasBalcony cX7_hasBalcony 2 ((some FieldType.boolean)) rm_X7_hasBalcony false C_X7_hasBalcony := by
  intro D ty ad av φ sz sh me Q hsh hC
  unfold C_X7_hasBalcony at hC
  split at hC
  · exact s_met1 (P := P_X7_hasBalcony) (by decide +kernel) (fun _ => ⟨rfl, rfl⟩) (fun p e s m args below meth c D ty ad A n0 φ0 Q G Y hY => s_tab_T _ (List.forall_mem_cons.mpr ⟨b_X7_hasBalcony_0 l p e s m args below meth c D ty ad A n0 φ0 Q G Y hY, fun _ h => absurd h List.not_mem_nil⟩)) hsh rfl rfl (Nat.le_of_ble_eq_true rfl) hC
  · exact hC.elim
def B_X7_isLit_0 (Q : SQ) (nx : Nat → SK) : SK := (o_aload 0 (o_iload 1 (o_callV C_X7_viewFrom 7 2 (o_aload 0 (o_getJ 7 3 (o_l2 (fun x y => x &&& y) (o_const (.long 0) (o_lcmp (o_if (fun x => x = 0) (o_const (.int 0) (nx 20)) (o_const (.int 1) (nx 20)))))))))))
def B_X7_isLit_20 (Q : SQ) (nx : Nat → SK) : SK := (o_zret Q)
def P_X7_isLit (Q : SQ) (nx : Nat → SK) : Nat → SK := s_tab [(0, B_X7_isLit_0 Q nx), (20, B_X7_isLit_20 Q nx)]
def C_X7_isLit : SC := fun av sh me Q => match av with
  | [.ref a0, .int a1] => s_wp P_X7_isLit Q 0 [some (.ref a0), some (.int a1)] [] sh me
  | _ => False
abbrev rm_X7_isLit : Room := { frames := 2, cells := 0, slots := 0, locals := 47 }
theorem hd_X7_isLit : (yX7_isLit).cls ≠ "java/lang/invoke/MethodHandle" ∧ (yX7_isLit).cls ≠ "java/lang/invoke/VarHandle" ∧ (parseMethodDescriptor (yX7_isLit).desc).map (fun d => d.parameters.length) = some 1 := by decide +kernel
set_option maxRecDepth 100000 in
set_option maxHeartbeats 4000000 in
theorem b_X7_isLit_0 (l : Launch) : s_B l rm_X7_isLit yX7_isLit cX7_isLit 2 ((some FieldType.boolean)) false 0 B_X7_isLit_0 := fun p e s m args below meth c D ty ad A n0 φ0 Q G Y hY => (u_aload_n G dX7_isLit_0 rfl (u_iload_n G dX7_isLit_1 rfl (t_callV G cl_7 (m_X7_viewFrom l) ⟨rfl, rfl⟩ rfl ⟨Nat.le_of_ble_eq_true rfl, Nat.le_of_ble_eq_true rfl⟩ q3_177 q1_2 (Or.inl q4_134) q3_175 q3_176 hd_X7_viewFrom dX7_isLit_2 (u_aload_n G dX7_isLit_5 rfl (t_getJ G cl_7 (k := 3) (by decide) (Or.inl q1_98) rfl rfl dX7_isLit_6 (u_land G dX7_isLit_9 (u_lconst G dX7_isLit_10 (by decide) (t_lcmp G dX7_isLit_11 (u_if_eq G dX7_isLit_12 (by decide) (u_iconst G dX7_isLit_19 (by decide) (hY 20)) (u_iconst G dX7_isLit_15 (by decide) (t_goto G dX7_isLit_16 (by decide) (hY 20))))))))))))
set_option maxRecDepth 100000 in
set_option maxHeartbeats 4000000 in
theorem b_X7_isLit_20 (l : Launch) : s_B l rm_X7_isLit yX7_isLit cX7_isLit 2 ((some FieldType.boolean)) false 20 B_X7_isLit_20 := fun p e s m args below meth c D ty ad A n0 φ0 Q G Y hY => (t_zret G rfl dX7_isLit_20)
set_option maxRecDepth 100000 in
theorem m_X7_isLit (l : Launch) : s_Met l yX7_isLit cX7_isLit 2 ((some FieldType.boolean)) rm_X7_isLit false C_X7_isLit := by
  intro D ty ad av φ sz sh me Q hsh hC
  unfold C_X7_isLit at hC
  split at hC
  · exact s_met1 (P := P_X7_isLit) (by decide +kernel) (fun _ => ⟨rfl, rfl⟩) (fun p e s m args below meth c D ty ad A n0 φ0 Q G Y hY => s_tab_T _ (List.forall_mem_cons.mpr ⟨b_X7_isLit_0 l p e s m args below meth c D ty ad A n0 φ0 Q G Y hY, List.forall_mem_cons.mpr ⟨b_X7_isLit_20 l p e s m args below meth c D ty ad A n0 φ0 Q G Y hY, fun _ h => absurd h List.not_mem_nil⟩⟩)) hsh rfl rfl (Nat.le_of_ble_eq_true rfl) hC
  · exact hC.elim
def B_X7_lit_0 (Q : SQ) (nx : Nat → SK) : SK := (o_const (.long 0) (o_lstore 1 (o_const (.int 0) (o_istore 3 (nx 4)))))
def B_X7_lit_4 (Q : SQ) (nx : Nat → SK) : SK := (o_iload 3 (o_const (.int 36) (o_ic (fun x y => y ≤ x) (o_lload 1 (o_lret Q)) (o_aload 0 (o_iload 3 (o_callV C_X7_isLit 7 2 (o_if (fun x => x = 0) (nx 24) (o_lload 1 (o_const (.long 1) (o_iload 3 (o_lsh (fun x y => x <<< (y.toInt64 &&& 63)) (o_l2 (fun x y => x ||| y) (o_lstore 1 (nx 24))))))))))))))
def B_X7_lit_24 (Q : SQ) (nx : Nat → SK) : SK := (o_iinc 3 1 (nx 4))
def P_X7_lit (Q : SQ) (nx : Nat → SK) : Nat → SK := s_tab [(0, B_X7_lit_0 Q nx), (4, B_X7_lit_4 Q nx), (24, B_X7_lit_24 Q nx)]
def C_X7_lit : SC := fun av sh me Q => match av with
  | [.ref a0] => s_wp P_X7_lit Q 0 [some (.ref a0), none, none, none] [] sh me
  | _ => False
abbrev rm_X7_lit : Room := { frames := 3, cells := 0, slots := 0, locals := 68 }
theorem hd_X7_lit : (yX7_lit).cls ≠ "java/lang/invoke/MethodHandle" ∧ (yX7_lit).cls ≠ "java/lang/invoke/VarHandle" ∧ (parseMethodDescriptor (yX7_lit).desc).map (fun d => d.parameters.length) = some 0 := by decide +kernel
set_option maxRecDepth 100000 in
set_option maxHeartbeats 4000000 in
theorem b_X7_lit_0 (l : Launch) : s_B l rm_X7_lit yX7_lit cX7_lit 4 ((some FieldType.long)) false 0 B_X7_lit_0 := fun p e s m args below meth c D ty ad A n0 φ0 Q G Y hY => (u_lconst G dX7_lit_0 (by decide) (u_lstore_n G dX7_lit_1 rfl (u_iconst G dX7_lit_2 (by decide) (u_istore_n G dX7_lit_3 rfl (hY 4)))))
set_option maxRecDepth 100000 in
set_option maxHeartbeats 4000000 in
theorem b_X7_lit_4 (l : Launch) : s_B l rm_X7_lit yX7_lit cX7_lit 4 ((some FieldType.long)) false 4 B_X7_lit_4 := fun p e s m args below meth c D ty ad A n0 φ0 Q G Y hY => (u_iload_n G dX7_lit_4 rfl (u_bipush G dX7_lit_5 (by decide) (u_icmp_ge G dX7_lit_7 (by decide) (u_lload_n G dX7_lit_30 rfl (t_lret G rfl dX7_lit_31)) (u_aload_n G dX7_lit_10 rfl (u_iload_n G dX7_lit_11 rfl (t_callV G cl_7 (m_X7_isLit l) ⟨rfl, rfl⟩ rfl ⟨Nat.le_of_ble_eq_true rfl, Nat.le_of_ble_eq_true rfl⟩ q4_133 q1_2 (Or.inl q4_130) q4_131 q4_132 hd_X7_isLit dX7_lit_12 (u_if_eq G dX7_lit_15 (by decide) (hY 24) (u_lload_n G dX7_lit_18 rfl (u_lconst G dX7_lit_19 (by decide) (u_iload_n G dX7_lit_20 rfl (u_lshl G dX7_lit_21 (u_lor G dX7_lit_22 (u_lstore_n G dX7_lit_23 rfl (hY 24))))))))))))))
set_option maxRecDepth 100000 in
set_option maxHeartbeats 4000000 in
theorem b_X7_lit_24 (l : Launch) : s_B l rm_X7_lit yX7_lit cX7_lit 4 ((some FieldType.long)) false 24 B_X7_lit_24 := fun p e s m args below meth c D ty ad A n0 φ0 Q G Y hY => (t_iinc G dX7_lit_24 (by decide) (t_goto G dX7_lit_27 (by decide) (hY 4)))
set_option maxRecDepth 100000 in
theorem m_X7_lit (l : Launch) : s_Met l yX7_lit cX7_lit 4 ((some FieldType.long)) rm_X7_lit false C_X7_lit := by
  intro D ty ad av φ sz sh me Q hsh hC
  unfold C_X7_lit at hC
  split at hC
  · exact s_met1 (P := P_X7_lit) (by decide +kernel) (fun _ => ⟨rfl, rfl⟩) (fun p e s m args below meth c D ty ad A n0 φ0 Q G Y hY => s_tab_T _ (List.forall_mem_cons.mpr ⟨b_X7_lit_0 l p e s m args below meth c D ty ad A n0 φ0 Q G Y hY, List.forall_mem_cons.mpr ⟨b_X7_lit_4 l p e s m args below meth c D ty ad A n0 φ0 Q G Y hY, List.forall_mem_cons.mpr ⟨b_X7_lit_24 l p e s m args below meth c D ty ad A n0 φ0 Q G Y hY, fun _ h => absurd h List.not_mem_nil⟩⟩⟩)) hsh rfl rfl (Nat.le_of_ble_eq_true rfl) hC
  · exact hC.elim
def B_X7_pursesTogether_0 (Q : SQ) (nx : Nat → SK) : SK := (o_const (.int 0) (o_istore 1 (o_const (.int 0) (o_istore 2 (nx 4)))))
def B_X7_pursesTogether_4 (Q : SQ) (nx : Nat → SK) : SK := (o_iload 2 (o_aload 0 (o_getI 7 1 (o_ic (fun x y => y ≤ x) (o_iload 1 (o_iret Q)) (o_iload 1 (o_aload 0 (o_getR 7 0 (o_iload 2 (o_aald 12 (o_getI 1 4 (o_i2 (fun x y => x + y) (o_istore 1 (o_iinc 2 1 (nx 4))))))))))))))
def P_X7_pursesTogether (Q : SQ) (nx : Nat → SK) : Nat → SK := s_tab [(0, B_X7_pursesTogether_0 Q nx), (4, B_X7_pursesTogether_4 Q nx)]
def C_X7_pursesTogether : SC := fun av sh me Q => match av with
  | [.ref a0] => s_wp P_X7_pursesTogether Q 0 [some (.ref a0), none, none] [] sh me
  | _ => False
abbrev rm_X7_pursesTogether : Room := { frames := 0, cells := 0, slots := 0, locals := 0 }
theorem hd_X7_pursesTogether : (yX7_pursesTogether).cls ≠ "java/lang/invoke/MethodHandle" ∧ (yX7_pursesTogether).cls ≠ "java/lang/invoke/VarHandle" ∧ (parseMethodDescriptor (yX7_pursesTogether).desc).map (fun d => d.parameters.length) = some 0 := by decide +kernel
set_option maxRecDepth 100000 in
set_option maxHeartbeats 4000000 in
theorem b_X7_pursesTogether_0 (l : Launch) : s_B l rm_X7_pursesTogether yX7_pursesTogether cX7_pursesTogether 3 ((some FieldType.int)) false 0 B_X7_pursesTogether_0 := fun p e s m args below meth c D ty ad A n0 φ0 Q G Y hY => (u_iconst G dX7_pursesTogether_0 (by decide) (u_istore_n G dX7_pursesTogether_1 rfl (u_iconst G dX7_pursesTogether_2 (by decide) (u_istore_n G dX7_pursesTogether_3 rfl (hY 4)))))
set_option maxRecDepth 100000 in
set_option maxHeartbeats 4000000 in
theorem b_X7_pursesTogether_4 (l : Launch) : s_B l rm_X7_pursesTogether yX7_pursesTogether cX7_pursesTogether 3 ((some FieldType.int)) false 4 B_X7_pursesTogether_4 := fun p e s m args below meth c D ty ad A n0 φ0 Q G Y hY => (u_iload_n G dX7_pursesTogether_4 rfl (u_aload_n G dX7_pursesTogether_5 rfl (t_getI G cl_7 (k := 1) (by decide) (Or.inl q1_90) rfl (Or.inl rfl) dX7_pursesTogether_6 (u_icmp_ge G dX7_pursesTogether_9 (by decide) (u_iload_n G dX7_pursesTogether_30 rfl (t_iret G rfl dX7_pursesTogether_31)) (u_iload_n G dX7_pursesTogether_12 rfl (u_aload_n G dX7_pursesTogether_13 rfl (t_getR G cl_7 (k := 0) (by decide) (Or.inl q1_84) rfl (Or.inr ⟨_, rfl⟩) dX7_pursesTogether_14 (u_iload_n G dX7_pursesTogether_17 rfl (t_aald G (by decide) dX7_pursesTogether_18 (t_getI G cl_1 (k := 4) (by decide) (Or.inr ⟨_, q1_57⟩) rfl (Or.inl rfl) dX7_pursesTogether_19 (u_iadd G dX7_pursesTogether_22 (u_istore_n G dX7_pursesTogether_23 rfl (t_iinc G dX7_pursesTogether_24 (by decide) (t_goto G dX7_pursesTogether_27 (by decide) (hY 4)))))))))))))))
set_option maxRecDepth 100000 in
theorem m_X7_pursesTogether (l : Launch) : s_Met l yX7_pursesTogether cX7_pursesTogether 3 ((some FieldType.int)) rm_X7_pursesTogether false C_X7_pursesTogether := by
  intro D ty ad av φ sz sh me Q hsh hC
  unfold C_X7_pursesTogether at hC
  split at hC
  · exact s_met1 (P := P_X7_pursesTogether) (by decide +kernel) (fun _ => ⟨rfl, rfl⟩) (fun p e s m args below meth c D ty ad A n0 φ0 Q G Y hY => s_tab_T _ (List.forall_mem_cons.mpr ⟨b_X7_pursesTogether_0 l p e s m args below meth c D ty ad A n0 φ0 Q G Y hY, List.forall_mem_cons.mpr ⟨b_X7_pursesTogether_4 l p e s m args below meth c D ty ad A n0 φ0 Q G Y hY, fun _ h => absurd h List.not_mem_nil⟩⟩)) hsh rfl rfl (Nat.le_of_ble_eq_true rfl) hC
  · exact hC.elim
def B_X8_isPerson_0 (Q : SQ) (nx : Nat → SK) : SK := (o_iload 1 (o_if (fun x => x < 0) (nx 19) (o_iload 1 (o_aload 0 (o_getR 8 0 (o_getI 7 1 (o_ic (fun x y => y ≤ x) (nx 19) (o_const (.int 1) (nx 20)))))))))
def B_X8_isPerson_19 (Q : SQ) (nx : Nat → SK) : SK := (o_const (.int 0) (nx 20))
def B_X8_isPerson_20 (Q : SQ) (nx : Nat → SK) : SK := (o_zret Q)
def P_X8_isPerson (Q : SQ) (nx : Nat → SK) : Nat → SK := s_tab [(0, B_X8_isPerson_0 Q nx), (19, B_X8_isPerson_19 Q nx), (20, B_X8_isPerson_20 Q nx)]
def C_X8_isPerson : SC := fun av sh me Q => match av with
  | [.ref a0, .int a1] => s_wp P_X8_isPerson Q 0 [some (.ref a0), some (.int a1)] [] sh me
  | _ => False
abbrev rm_X8_isPerson : Room := { frames := 0, cells := 0, slots := 0, locals := 0 }
theorem hd_X8_isPerson : (yX8_isPerson).cls ≠ "java/lang/invoke/MethodHandle" ∧ (yX8_isPerson).cls ≠ "java/lang/invoke/VarHandle" ∧ (parseMethodDescriptor (yX8_isPerson).desc).map (fun d => d.parameters.length) = some 1 := by decide +kernel
set_option maxRecDepth 100000 in
set_option maxHeartbeats 4000000 in
theorem b_X8_isPerson_0 (l : Launch) : s_B l rm_X8_isPerson yX8_isPerson cX8_isPerson 2 ((some FieldType.boolean)) false 0 B_X8_isPerson_0 := fun p e s m args below meth c D ty ad A n0 φ0 Q G Y hY => (u_iload_n G dX8_isPerson_0 rfl (u_if_lt G dX8_isPerson_1 (by decide) (hY 19) (u_iload_n G dX8_isPerson_4 rfl (u_aload_n G dX8_isPerson_5 rfl (t_getR G cl_8 (k := 0) (by decide) (Or.inl q2_42) rfl (Or.inl ⟨_, rfl⟩) dX8_isPerson_6 (t_getI G cl_7 (k := 1) (by decide) (Or.inr ⟨_, q1_95⟩) rfl (Or.inl rfl) dX8_isPerson_9 (u_icmp_ge G dX8_isPerson_12 (by decide) (hY 19) (u_iconst G dX8_isPerson_15 (by decide) (t_goto G dX8_isPerson_16 (by decide) (hY 20))))))))))
set_option maxRecDepth 100000 in
set_option maxHeartbeats 4000000 in
theorem b_X8_isPerson_19 (l : Launch) : s_B l rm_X8_isPerson yX8_isPerson cX8_isPerson 2 ((some FieldType.boolean)) false 19 B_X8_isPerson_19 := fun p e s m args below meth c D ty ad A n0 φ0 Q G Y hY => (u_iconst G dX8_isPerson_19 (by decide) (hY 20))
set_option maxRecDepth 100000 in
set_option maxHeartbeats 4000000 in
theorem b_X8_isPerson_20 (l : Launch) : s_B l rm_X8_isPerson yX8_isPerson cX8_isPerson 2 ((some FieldType.boolean)) false 20 B_X8_isPerson_20 := fun p e s m args below meth c D ty ad A n0 φ0 Q G Y hY => (t_zret G rfl dX8_isPerson_20)
set_option maxRecDepth 100000 in
theorem m_X8_isPerson (l : Launch) : s_Met l yX8_isPerson cX8_isPerson 2 ((some FieldType.boolean)) rm_X8_isPerson false C_X8_isPerson := by
  intro D ty ad av φ sz sh me Q hsh hC
  unfold C_X8_isPerson at hC
  split at hC
  · exact s_met1 (P := P_X8_isPerson) (by decide +kernel) (fun _ => ⟨rfl, rfl⟩) (fun p e s m args below meth c D ty ad A n0 φ0 Q G Y hY => s_tab_T _ (List.forall_mem_cons.mpr ⟨b_X8_isPerson_0 l p e s m args below meth c D ty ad A n0 φ0 Q G Y hY, List.forall_mem_cons.mpr ⟨b_X8_isPerson_19 l p e s m args below meth c D ty ad A n0 φ0 Q G Y hY, List.forall_mem_cons.mpr ⟨b_X8_isPerson_20 l p e s m args below meth c D ty ad A n0 φ0 Q G Y hY, fun _ h => absurd h List.not_mem_nil⟩⟩⟩)) hsh rfl rfl (Nat.le_of_ble_eq_true rfl) hC
  · exact hC.elim
def B_X8_within_0 (Q : SQ) (nx : Nat → SK) : SK := (o_iload 0 (o_if (fun x => x < 0) (nx 13) (o_iload 0 (o_iload 1 (o_ic (fun x y => y < x) (nx 13) (o_const (.int 1) (nx 14)))))))
def B_X8_within_13 (Q : SQ) (nx : Nat → SK) : SK := (o_const (.int 0) (nx 14))
def B_X8_within_14 (Q : SQ) (nx : Nat → SK) : SK := (o_zret Q)
def P_X8_within (Q : SQ) (nx : Nat → SK) : Nat → SK := s_tab [(0, B_X8_within_0 Q nx), (13, B_X8_within_13 Q nx), (14, B_X8_within_14 Q nx)]
def C_X8_within : SC := fun av sh me Q => match av with
  | [.int a0, .int a1] => s_wp P_X8_within Q 0 [some (.int a0), some (.int a1)] [] sh me
  | _ => False
abbrev rm_X8_within : Room := { frames := 0, cells := 0, slots := 0, locals := 0 }
theorem hd_X8_within : (yX8_within).cls ≠ "java/lang/invoke/MethodHandle" ∧ (yX8_within).cls ≠ "java/lang/invoke/VarHandle" ∧ (parseMethodDescriptor (yX8_within).desc).map (fun d => d.parameters.length) = some 2 := by decide +kernel
set_option maxRecDepth 100000 in
set_option maxHeartbeats 4000000 in
theorem b_X8_within_0 (l : Launch) : s_B l rm_X8_within yX8_within cX8_within 2 ((some FieldType.boolean)) false 0 B_X8_within_0 := fun p e s m args below meth c D ty ad A n0 φ0 Q G Y hY => (u_iload_n G dX8_within_0 rfl (u_if_lt G dX8_within_1 (by decide) (hY 13) (u_iload_n G dX8_within_4 rfl (u_iload_n G dX8_within_5 rfl (u_icmp_gt G dX8_within_6 (by decide) (hY 13) (u_iconst G dX8_within_9 (by decide) (t_goto G dX8_within_10 (by decide) (hY 14))))))))
set_option maxRecDepth 100000 in
set_option maxHeartbeats 4000000 in
theorem b_X8_within_13 (l : Launch) : s_B l rm_X8_within yX8_within cX8_within 2 ((some FieldType.boolean)) false 13 B_X8_within_13 := fun p e s m args below meth c D ty ad A n0 φ0 Q G Y hY => (u_iconst G dX8_within_13 (by decide) (hY 14))
set_option maxRecDepth 100000 in
set_option maxHeartbeats 4000000 in
theorem b_X8_within_14 (l : Launch) : s_B l rm_X8_within yX8_within cX8_within 2 ((some FieldType.boolean)) false 14 B_X8_within_14 := fun p e s m args below meth c D ty ad A n0 φ0 Q G Y hY => (t_zret G rfl dX8_within_14)
set_option maxRecDepth 100000 in
theorem m_X8_within (l : Launch) : s_Met l yX8_within cX8_within 2 ((some FieldType.boolean)) rm_X8_within false C_X8_within := by
  intro D ty ad av φ sz sh me Q hsh hC
  unfold C_X8_within at hC
  split at hC
  · exact s_met1 (P := P_X8_within) (by decide +kernel) (fun _ => ⟨rfl, rfl⟩) (fun p e s m args below meth c D ty ad A n0 φ0 Q G Y hY => s_tab_T _ (List.forall_mem_cons.mpr ⟨b_X8_within_0 l p e s m args below meth c D ty ad A n0 φ0 Q G Y hY, List.forall_mem_cons.mpr ⟨b_X8_within_13 l p e s m args below meth c D ty ad A n0 φ0 Q G Y hY, List.forall_mem_cons.mpr ⟨b_X8_within_14 l p e s m args below meth c D ty ad A n0 φ0 Q G Y hY, fun _ h => absurd h List.not_mem_nil⟩⟩⟩)) hsh rfl rfl (Nat.le_of_ble_eq_true rfl) hC
  · exact hC.elim
def B_X8_refuse_0 (Q : SQ) (nx : Nat → SK) : SK := (o_iload 1 (o_i1 (fun x => -x) (o_istore 2 (o_iload 2 (o_const (.int 1) (o_ic (fun x y => x < y) (nx 24) (o_iload 2 (o_const (.int 7) (o_ic (fun x y => y < x) (nx 24) (o_aload 0 (o_getR 8 10 (o_iload 2 (o_dup2 (o_iald (o_const (.int 1) (o_i2 (fun x y => x + y) (o_iast (nx 24))))))))))))))))))
def B_X8_refuse_24 (Q : SQ) (nx : Nat → SK) : SK := (o_iload 1 (o_iret Q))
def P_X8_refuse (Q : SQ) (nx : Nat → SK) : Nat → SK := s_tab [(0, B_X8_refuse_0 Q nx), (24, B_X8_refuse_24 Q nx)]
def C_X8_refuse : SC := fun av sh me Q => match av with
  | [.ref a0, .int a1] => s_wp P_X8_refuse Q 0 [some (.ref a0), some (.int a1), none] [] sh me
  | _ => False
abbrev rm_X8_refuse : Room := { frames := 0, cells := 0, slots := 0, locals := 0 }
theorem hd_X8_refuse : (yX8_refuse).cls ≠ "java/lang/invoke/MethodHandle" ∧ (yX8_refuse).cls ≠ "java/lang/invoke/VarHandle" ∧ (parseMethodDescriptor (yX8_refuse).desc).map (fun d => d.parameters.length) = some 1 := by decide +kernel
set_option maxRecDepth 100000 in
set_option maxHeartbeats 4000000 in
theorem b_X8_refuse_0 (l : Launch) : s_B l rm_X8_refuse yX8_refuse cX8_refuse 3 ((some FieldType.int)) false 0 B_X8_refuse_0 := fun p e s m args below meth c D ty ad A n0 φ0 Q G Y hY => (u_iload_n G dX8_refuse_0 rfl (u_ineg G dX8_refuse_1 (u_istore_n G dX8_refuse_2 rfl (u_iload_n G dX8_refuse_3 rfl (u_iconst G dX8_refuse_4 (by decide) (u_icmp_lt G dX8_refuse_5 (by decide) (hY 24) (u_iload_n G dX8_refuse_8 rfl (u_bipush G dX8_refuse_9 (by decide) (u_icmp_gt G dX8_refuse_11 (by decide) (hY 24) (u_aload_n G dX8_refuse_14 rfl (t_getR G cl_8 (k := 10) (by decide) (Or.inl q2_52) rfl (Or.inr ⟨_, rfl⟩) dX8_refuse_15 (u_iload_n G dX8_refuse_18 rfl (t_dup2 G dX8_refuse_19 (t_iald G dX8_refuse_20 (u_iconst G dX8_refuse_21 (by decide) (u_iadd G dX8_refuse_22 (t_iast G dX8_refuse_23 (hY 24))))))))))))))))))
set_option maxRecDepth 100000 in
set_option maxHeartbeats 4000000 in
theorem b_X8_refuse_24 (l : Launch) : s_B l rm_X8_refuse yX8_refuse cX8_refuse 3 ((some FieldType.int)) false 24 B_X8_refuse_24 := fun p e s m args below meth c D ty ad A n0 φ0 Q G Y hY => (u_iload_n G dX8_refuse_24 rfl (t_iret G rfl dX8_refuse_25))
set_option maxRecDepth 100000 in
theorem m_X8_refuse (l : Launch) : s_Met l yX8_refuse cX8_refuse 3 ((some FieldType.int)) rm_X8_refuse false C_X8_refuse := by
  intro D ty ad av φ sz sh me Q hsh hC
  unfold C_X8_refuse at hC
  split at hC
  · exact s_met1 (P := P_X8_refuse) (by decide +kernel) (fun _ => ⟨rfl, rfl⟩) (fun p e s m args below meth c D ty ad A n0 φ0 Q G Y hY => s_tab_T _ (List.forall_mem_cons.mpr ⟨b_X8_refuse_0 l p e s m args below meth c D ty ad A n0 φ0 Q G Y hY, List.forall_mem_cons.mpr ⟨b_X8_refuse_24 l p e s m args below meth c D ty ad A n0 φ0 Q G Y hY, fun _ h => absurd h List.not_mem_nil⟩⟩)) hsh rfl rfl (Nat.le_of_ble_eq_true rfl) hC
  · exact hC.elim
def B_X8_all_0 (Q : SQ) (nx : Nat → SK) : SK := (o_iload 1 (o_const (.int 3) (o_call C_X8_within 2 (o_if (fun x => ¬ x = 0) (o_aload 0 (o_getR 8 4 (o_aload 0 (o_getR 8 0 (o_callV C_X4_take 4 2 (o_iload 1 (o_sw [(0, (o_aload 0 (o_getR 8 4 (o_aload 0 (o_getR 8 0 (o_callV C_X4_dutiesTogether 4 2 (o_iret Q))))))), (1, (o_aload 0 (o_getR 8 4 (o_getI 4 5 (o_aload 0 (o_getR 8 0 (o_getI 7 4 (o_i2 (fun x y => x * y) (o_iret Q))))))))), (2, (o_aload 0 (o_getR 8 4 (o_aload 0 (o_getR 8 0 (o_callV C_X4_ruined 4 2 (o_iret Q)))))))] (o_aload 0 (o_getR 8 4 (o_aload 0 (o_getR 8 0 (o_callV C_X4_solvent 4 2 (o_iret Q))))))))))))) (o_aload 0 (o_const (.int (-5)) (o_callV C_X8_refuse 8 2 (o_iret Q))))))))
def P_X8_all (Q : SQ) (nx : Nat → SK) : Nat → SK := s_tab [(0, B_X8_all_0 Q nx)]
def C_X8_all : SC := fun av sh me Q => match av with
  | [.ref a0, .int a1] => s_wp P_X8_all Q 0 [some (.ref a0), some (.int a1)] [] sh me
  | _ => False
abbrev rm_X8_all : Room := { frames := 4, cells := 0, slots := 0, locals := 94 }
theorem hd_X8_all : (yX8_all).cls ≠ "java/lang/invoke/MethodHandle" ∧ (yX8_all).cls ≠ "java/lang/invoke/VarHandle" ∧ (parseMethodDescriptor (yX8_all).desc).map (fun d => d.parameters.length) = some 1 := by decide +kernel
set_option maxRecDepth 100000 in
set_option maxHeartbeats 4000000 in
theorem b_X8_all_0 (l : Launch) : s_B l rm_X8_all yX8_all cX8_all 2 ((some FieldType.int)) false 0 B_X8_all_0 := fun p e s m args below meth c D ty ad A n0 φ0 Q G Y hY => (u_iload_n G dX8_all_0 rfl (u_iconst G dX8_all_1 (by decide) (t_callS G (m_X8_within l) ⟨rfl, rfl⟩ rfl ⟨Nat.le_of_ble_eq_true rfl, Nat.le_of_ble_eq_true rfl⟩ q2_85 q1_1 (Or.inl q2_83) q2_84 hd_X8_within dX8_all_2 (u_if_ne G dX8_all_5 (by decide) (u_aload_n G dX8_all_15 rfl (t_getR G cl_8 (k := 4) (by decide) (Or.inl q2_46) rfl (Or.inl ⟨_, rfl⟩) dX8_all_16 (u_aload_n G dX8_all_19 rfl (t_getR G cl_8 (k := 0) (by decide) (Or.inl q2_42) rfl (Or.inl ⟨_, rfl⟩) dX8_all_20 (t_callV G cl_4 (m_X4_take l) ⟨rfl, rfl⟩ rfl ⟨Nat.le_of_ble_eq_true rfl, Nat.le_of_ble_eq_true rfl⟩ q3_189 q1_4 (Or.inl q3_186) q3_187 q3_188 hd_X4_take dX8_all_23 (u_iload_n G dX8_all_26 rfl (u_tsw G [(0, 52), (1, 64), (2, 80)] dX8_all_27 (by decide) (by decide) rfl ⟨(u_aload_n G dX8_all_52 rfl (t_getR G cl_8 (k := 4) (by decide) (Or.inl q2_46) rfl (Or.inl ⟨_, rfl⟩) dX8_all_53 (u_aload_n G dX8_all_56 rfl (t_getR G cl_8 (k := 0) (by decide) (Or.inl q2_42) rfl (Or.inl ⟨_, rfl⟩) dX8_all_57 (t_callV G cl_4 (m_X4_dutiesTogether l) ⟨rfl, rfl⟩ rfl ⟨Nat.le_of_ble_eq_true rfl, Nat.le_of_ble_eq_true rfl⟩ q3_237 q1_4 (Or.inl q3_234) q3_235 q3_236 hd_X4_dutiesTogether dX8_all_60 (t_iret G rfl dX8_all_63)))))), ⟨(u_aload_n G dX8_all_64 rfl (t_getR G cl_8 (k := 4) (by decide) (Or.inl q2_46) rfl (Or.inl ⟨_, rfl⟩) dX8_all_65 (t_getI G cl_4 (k := 5) (by decide) (Or.inr ⟨_, q1_159⟩) rfl (Or.inl rfl) dX8_all_68 (u_aload_n G dX8_all_71 rfl (t_getR G cl_8 (k := 0) (by decide) (Or.inl q2_42) rfl (Or.inl ⟨_, rfl⟩) dX8_all_72 (t_getI G cl_7 (k := 4) (by decide) (Or.inr ⟨_, q1_105⟩) rfl (Or.inl rfl) dX8_all_75 (u_imul G dX8_all_78 (t_iret G rfl dX8_all_79)))))))), ⟨(u_aload_n G dX8_all_80 rfl (t_getR G cl_8 (k := 4) (by decide) (Or.inl q2_46) rfl (Or.inl ⟨_, rfl⟩) dX8_all_81 (u_aload_n G dX8_all_84 rfl (t_getR G cl_8 (k := 0) (by decide) (Or.inl q2_42) rfl (Or.inl ⟨_, rfl⟩) dX8_all_85 (t_callV G cl_4 (m_X4_ruined l) ⟨rfl, rfl⟩ rfl ⟨Nat.le_of_ble_eq_true rfl, Nat.le_of_ble_eq_true rfl⟩ q4_1 q1_4 (Or.inl q3_238) q3_239 q4_0 hd_X4_ruined dX8_all_88 (t_iret G rfl dX8_all_91)))))), trivial⟩⟩⟩ (u_aload_n G dX8_all_92 rfl (t_getR G cl_8 (k := 4) (by decide) (Or.inl q2_46) rfl (Or.inl ⟨_, rfl⟩) dX8_all_93 (u_aload_n G dX8_all_96 rfl (t_getR G cl_8 (k := 0) (by decide) (Or.inl q2_42) rfl (Or.inl ⟨_, rfl⟩) dX8_all_97 (t_callV G cl_4 (m_X4_solvent l) ⟨rfl, rfl⟩ rfl ⟨Nat.le_of_ble_eq_true rfl, Nat.le_of_ble_eq_true rfl⟩ q4_5 q1_4 (Or.inl q4_2) q4_3 q4_4 hd_X4_solvent dX8_all_100 (t_iret G rfl dX8_all_103))))))))))))) (u_aload_n G dX8_all_8 rfl (u_bipush G dX8_all_9 (by decide) (t_callV G cl_8 (m_X8_refuse l) ⟨rfl, rfl⟩ rfl ⟨Nat.le_of_ble_eq_true rfl, Nat.le_of_ble_eq_true rfl⟩ q2_89 q1_1 (Or.inl q2_86) q2_88 qs_0 hd_X8_refuse dX8_all_11 (t_iret G rfl dX8_all_14))))))))
set_option maxRecDepth 100000 in
theorem m_X8_all (l : Launch) : s_Met l yX8_all cX8_all 2 ((some FieldType.int)) rm_X8_all false C_X8_all := by
  intro D ty ad av φ sz sh me Q hsh hC
  unfold C_X8_all at hC
  split at hC
  · exact s_met1 (P := P_X8_all) (by decide +kernel) (fun _ => ⟨rfl, rfl⟩) (fun p e s m args below meth c D ty ad A n0 φ0 Q G Y hY => s_tab_T _ (List.forall_mem_cons.mpr ⟨b_X8_all_0 l p e s m args below meth c D ty ad A n0 φ0 Q G Y hY, fun _ h => absurd h List.not_mem_nil⟩)) hsh rfl rfl (Nat.le_of_ble_eq_true rfl) hC
  · exact hC.elim
def B_X8_ask_0 (Q : SQ) (nx : Nat → SK) : SK := (o_iload 1 (o_if (fun x => ¬ x = 0) (nx 33) (o_iload 2 (o_const (.int 1) (o_ic (fun x y => x < y) (nx 33) (o_iload 2 (o_const (.int 9) (o_ic (fun x y => y < x) (nx 33) (o_aload 0 (o_getR 8 0 (o_getI 7 4 (o_istore 3 (o_aload 0 (o_getR 8 0 (o_iload 2 (o_putI 7 4 (o_iload 3 (o_iret Q))))))))))))))))))
def B_X8_ask_33 (Q : SQ) (nx : Nat → SK) : SK := (o_iload 1 (o_const (.int 1) (o_ic (fun x y => ¬ x = y) (nx 66) (o_iload 2 (o_const (.int 1) (o_ic (fun x y => x < y) (nx 66) (o_iload 2 (o_const (.int 5) (o_ic (fun x y => y < x) (nx 66) (o_aload 0 (o_getR 8 0 (o_getI 7 5 (o_istore 3 (o_aload 0 (o_getR 8 0 (o_iload 2 (o_putI 7 5 (o_iload 3 (o_iret Q)))))))))))))))))))
def B_X8_ask_66 (Q : SQ) (nx : Nat → SK) : SK := (o_iload 1 (o_const (.int 2) (o_ic (fun x y => ¬ x = y) (nx 109) (o_iload 2 (o_const (.int 1) (o_call C_X8_within 2 (o_if (fun x => x = 0) (nx 109) (o_aload 0 (o_getR 8 0 (o_getI 7 6 (o_call C_X8_bit 1 (o_istore 3 (o_aload 0 (o_getR 8 0 (o_iload 2 (o_const (.int 1) (o_ic (fun x y => ¬ x = y) (o_const (.int 0) (nx 104)) (o_const (.int 1) (nx 104)))))))))))))))))))
def B_X8_ask_104 (Q : SQ) (nx : Nat → SK) : SK := (o_putZ 7 6 (o_iload 3 (o_iret Q)))
def B_X8_ask_109 (Q : SQ) (nx : Nat → SK) : SK := (o_aload 0 (o_const (.int (-6)) (o_callV C_X8_refuse 8 2 (o_iret Q))))
def P_X8_ask (Q : SQ) (nx : Nat → SK) : Nat → SK := s_tab [(0, B_X8_ask_0 Q nx), (33, B_X8_ask_33 Q nx), (66, B_X8_ask_66 Q nx), (104, B_X8_ask_104 Q nx), (109, B_X8_ask_109 Q nx)]
def C_X8_ask : SC := fun av sh me Q => match av with
  | [.ref a0, .int a1, .int a2] => s_wp P_X8_ask Q 0 [some (.ref a0), some (.int a1), some (.int a2), none] [] sh me
  | _ => False
abbrev rm_X8_ask : Room := { frames := 1, cells := 0, slots := 0, locals := 22 }
theorem hd_X8_ask : (yX8_ask).cls ≠ "java/lang/invoke/MethodHandle" ∧ (yX8_ask).cls ≠ "java/lang/invoke/VarHandle" ∧ (parseMethodDescriptor (yX8_ask).desc).map (fun d => d.parameters.length) = some 2 := by decide +kernel
set_option maxRecDepth 100000 in
set_option maxHeartbeats 4000000 in
theorem b_X8_ask_0 (l : Launch) : s_B l rm_X8_ask yX8_ask cX8_ask 4 ((some FieldType.int)) false 0 B_X8_ask_0 := fun p e s m args below meth c D ty ad A n0 φ0 Q G Y hY => (u_iload_n G dX8_ask_0 rfl (u_if_ne G dX8_ask_1 (by decide) (hY 33) (u_iload_n G dX8_ask_4 rfl (u_iconst G dX8_ask_5 (by decide) (u_icmp_lt G dX8_ask_6 (by decide) (hY 33) (u_iload_n G dX8_ask_9 rfl (u_bipush G dX8_ask_10 (by decide) (u_icmp_gt G dX8_ask_12 (by decide) (hY 33) (u_aload_n G dX8_ask_15 rfl (t_getR G cl_8 (k := 0) (by decide) (Or.inl q2_42) rfl (Or.inl ⟨_, rfl⟩) dX8_ask_16 (t_getI G cl_7 (k := 4) (by decide) (Or.inr ⟨_, q1_105⟩) rfl (Or.inl rfl) dX8_ask_19 (u_istore_n G dX8_ask_22 rfl (u_aload_n G dX8_ask_23 rfl (t_getR G cl_8 (k := 0) (by decide) (Or.inl q2_42) rfl (Or.inl ⟨_, rfl⟩) dX8_ask_24 (u_iload_n G dX8_ask_27 rfl (t_putI G cl_7 (k := 4) (by decide) (Or.inl ⟨rfl, Or.inr ⟨_, q1_105⟩⟩) rfl rfl dX8_ask_28 (u_iload_n G dX8_ask_31 rfl (t_iret G rfl dX8_ask_32))))))))))))))))))
set_option maxRecDepth 100000 in
set_option maxHeartbeats 4000000 in
theorem b_X8_ask_33 (l : Launch) : s_B l rm_X8_ask yX8_ask cX8_ask 4 ((some FieldType.int)) false 33 B_X8_ask_33 := fun p e s m args below meth c D ty ad A n0 φ0 Q G Y hY => (u_iload_n G dX8_ask_33 rfl (u_iconst G dX8_ask_34 (by decide) (u_icmp_ne G dX8_ask_35 (by decide) (hY 66) (u_iload_n G dX8_ask_38 rfl (u_iconst G dX8_ask_39 (by decide) (u_icmp_lt G dX8_ask_40 (by decide) (hY 66) (u_iload_n G dX8_ask_43 rfl (u_iconst G dX8_ask_44 (by decide) (u_icmp_gt G dX8_ask_45 (by decide) (hY 66) (u_aload_n G dX8_ask_48 rfl (t_getR G cl_8 (k := 0) (by decide) (Or.inl q2_42) rfl (Or.inl ⟨_, rfl⟩) dX8_ask_49 (t_getI G cl_7 (k := 5) (by decide) (Or.inr ⟨_, q1_108⟩) rfl (Or.inl rfl) dX8_ask_52 (u_istore_n G dX8_ask_55 rfl (u_aload_n G dX8_ask_56 rfl (t_getR G cl_8 (k := 0) (by decide) (Or.inl q2_42) rfl (Or.inl ⟨_, rfl⟩) dX8_ask_57 (u_iload_n G dX8_ask_60 rfl (t_putI G cl_7 (k := 5) (by decide) (Or.inl ⟨rfl, Or.inr ⟨_, q1_108⟩⟩) rfl rfl dX8_ask_61 (u_iload_n G dX8_ask_64 rfl (t_iret G rfl dX8_ask_65)))))))))))))))))))
set_option maxRecDepth 100000 in
set_option maxHeartbeats 4000000 in
theorem b_X8_ask_66 (l : Launch) : s_B l rm_X8_ask yX8_ask cX8_ask 4 ((some FieldType.int)) false 66 B_X8_ask_66 := fun p e s m args below meth c D ty ad A n0 φ0 Q G Y hY => (u_iload_n G dX8_ask_66 rfl (u_iconst G dX8_ask_67 (by decide) (u_icmp_ne G dX8_ask_68 (by decide) (hY 109) (u_iload_n G dX8_ask_71 rfl (u_iconst G dX8_ask_72 (by decide) (t_callS G (m_X8_within l) ⟨rfl, rfl⟩ rfl ⟨Nat.le_of_ble_eq_true rfl, Nat.le_of_ble_eq_true rfl⟩ q2_85 q1_1 (Or.inl q2_83) q2_84 hd_X8_within dX8_ask_73 (u_if_eq G dX8_ask_76 (by decide) (hY 109) (u_aload_n G dX8_ask_79 rfl (t_getR G cl_8 (k := 0) (by decide) (Or.inl q2_42) rfl (Or.inl ⟨_, rfl⟩) dX8_ask_80 (t_getI G cl_7 (k := 6) (by decide) (Or.inr ⟨_, q1_112⟩) rfl (Or.inr rfl) dX8_ask_83 (t_callS G (m_X8_bit l) ⟨rfl, rfl⟩ rfl ⟨Nat.le_of_ble_eq_true rfl, Nat.le_of_ble_eq_true rfl⟩ q3_3 q1_1 (Or.inl q3_1) q3_2 hd_X8_bit dX8_ask_86 (u_istore_n G dX8_ask_89 rfl (u_aload_n G dX8_ask_90 rfl (t_getR G cl_8 (k := 0) (by decide) (Or.inl q2_42) rfl (Or.inl ⟨_, rfl⟩) dX8_ask_91 (u_iload_n G dX8_ask_94 rfl (u_iconst G dX8_ask_95 (by decide) (u_icmp_ne G dX8_ask_96 (by decide) (u_iconst G dX8_ask_103 (by decide) (hY 104)) (u_iconst G dX8_ask_99 (by decide) (t_goto G dX8_ask_100 (by decide) (hY 104))))))))))))))))))))
set_option maxRecDepth 100000 in
set_option maxHeartbeats 4000000 in
theorem b_X8_ask_104 (l : Launch) : s_B l rm_X8_ask yX8_ask cX8_ask 4 ((some FieldType.int)) false 104 B_X8_ask_104 := fun p e s m args below meth c D ty ad A n0 φ0 Q G Y hY => (t_putZ G cl_7 (k := 6) (by decide) (Or.inl ⟨rfl, Or.inr ⟨_, q1_112⟩⟩) rfl rfl dX8_ask_104 (u_iload_n G dX8_ask_107 rfl (t_iret G rfl dX8_ask_108)))
set_option maxRecDepth 100000 in
set_option maxHeartbeats 4000000 in
theorem b_X8_ask_109 (l : Launch) : s_B l rm_X8_ask yX8_ask cX8_ask 4 ((some FieldType.int)) false 109 B_X8_ask_109 := fun p e s m args below meth c D ty ad A n0 φ0 Q G Y hY => (u_aload_n G dX8_ask_109 rfl (u_bipush G dX8_ask_110 (by decide) (t_callV G cl_8 (m_X8_refuse l) ⟨rfl, rfl⟩ rfl ⟨Nat.le_of_ble_eq_true rfl, Nat.le_of_ble_eq_true rfl⟩ q2_89 q1_1 (Or.inl q2_86) q2_88 qs_0 hd_X8_refuse dX8_ask_112 (t_iret G rfl dX8_ask_115))))
set_option maxRecDepth 100000 in
theorem m_X8_ask (l : Launch) : s_Met l yX8_ask cX8_ask 4 ((some FieldType.int)) rm_X8_ask false C_X8_ask := by
  intro D ty ad av φ sz sh me Q hsh hC
  unfold C_X8_ask at hC
  split at hC
  · exact s_met1 (P := P_X8_ask) (by decide +kernel) (fun _ => ⟨rfl, rfl⟩) (fun p e s m args below meth c D ty ad A n0 φ0 Q G Y hY => s_tab_T _ (List.forall_mem_cons.mpr ⟨b_X8_ask_0 l p e s m args below meth c D ty ad A n0 φ0 Q G Y hY, List.forall_mem_cons.mpr ⟨b_X8_ask_33 l p e s m args below meth c D ty ad A n0 φ0 Q G Y hY, List.forall_mem_cons.mpr ⟨b_X8_ask_66 l p e s m args below meth c D ty ad A n0 φ0 Q G Y hY, List.forall_mem_cons.mpr ⟨b_X8_ask_104 l p e s m args below meth c D ty ad A n0 φ0 Q G Y hY, List.forall_mem_cons.mpr ⟨b_X8_ask_109 l p e s m args below meth c D ty ad A n0 φ0 Q G Y hY, fun _ h => absurd h List.not_mem_nil⟩⟩⟩⟩⟩)) hsh rfl rfl (Nat.le_of_ble_eq_true rfl) hC
  · exact hC.elim
def B_X8_balconies_0 (Q : SQ) (nx : Nat → SK) : SK := (o_iload 1 (o_const (.int 1) (o_call C_X8_within 2 (o_if (fun x => ¬ x = 0) (o_aload 0 (o_getR 8 5 (o_aload 0 (o_getR 8 0 (o_iload 1 (o_callV C_X2_bestBalcony 2 3 (o_iret Q))))))) (o_aload 0 (o_const (.int (-5)) (o_callV C_X8_refuse 8 2 (o_iret Q))))))))
def P_X8_balconies (Q : SQ) (nx : Nat → SK) : Nat → SK := s_tab [(0, B_X8_balconies_0 Q nx)]
def C_X8_balconies : SC := fun av sh me Q => match av with
  | [.ref a0, .int a1] => s_wp P_X8_balconies Q 0 [some (.ref a0), some (.int a1)] [] sh me
  | _ => False
abbrev rm_X8_balconies : Room := { frames := 5, cells := 0, slots := 0, locals := 119 }
theorem hd_X8_balconies : (yX8_balconies).cls ≠ "java/lang/invoke/MethodHandle" ∧ (yX8_balconies).cls ≠ "java/lang/invoke/VarHandle" ∧ (parseMethodDescriptor (yX8_balconies).desc).map (fun d => d.parameters.length) = some 1 := by decide +kernel
set_option maxRecDepth 100000 in
set_option maxHeartbeats 4000000 in
theorem b_X8_balconies_0 (l : Launch) : s_B l rm_X8_balconies yX8_balconies cX8_balconies 2 ((some FieldType.int)) false 0 B_X8_balconies_0 := fun p e s m args below meth c D ty ad A n0 φ0 Q G Y hY => (u_iload_n G dX8_balconies_0 rfl (u_iconst G dX8_balconies_1 (by decide) (t_callS G (m_X8_within l) ⟨rfl, rfl⟩ rfl ⟨Nat.le_of_ble_eq_true rfl, Nat.le_of_ble_eq_true rfl⟩ q2_85 q1_1 (Or.inl q2_83) q2_84 hd_X8_within dX8_balconies_2 (u_if_ne G dX8_balconies_5 (by decide) (u_aload_n G dX8_balconies_15 rfl (t_getR G cl_8 (k := 5) (by decide) (Or.inl q2_47) rfl (Or.inl ⟨_, rfl⟩) dX8_balconies_16 (u_aload_n G dX8_balconies_19 rfl (t_getR G cl_8 (k := 0) (by decide) (Or.inl q2_42) rfl (Or.inl ⟨_, rfl⟩) dX8_balconies_20 (u_iload_n G dX8_balconies_23 rfl (t_callV G cl_2 (m_X2_bestBalcony l) ⟨rfl, rfl⟩ rfl ⟨Nat.le_of_ble_eq_true rfl, Nat.le_of_ble_eq_true rfl⟩ q4_81 q1_5 (Or.inl q4_78) q4_79 q4_80 hd_X2_bestBalcony dX8_balconies_24 (t_iret G rfl dX8_balconies_27))))))) (u_aload_n G dX8_balconies_8 rfl (u_bipush G dX8_balconies_9 (by decide) (t_callV G cl_8 (m_X8_refuse l) ⟨rfl, rfl⟩ rfl ⟨Nat.le_of_ble_eq_true rfl, Nat.le_of_ble_eq_true rfl⟩ q2_89 q1_1 (Or.inl q2_86) q2_88 qs_0 hd_X8_refuse dX8_balconies_11 (t_iret G rfl dX8_balconies_14))))))))
set_option maxRecDepth 100000 in
theorem m_X8_balconies (l : Launch) : s_Met l yX8_balconies cX8_balconies 2 ((some FieldType.int)) rm_X8_balconies false C_X8_balconies := by
  intro D ty ad av φ sz sh me Q hsh hC
  unfold C_X8_balconies at hC
  split at hC
  · exact s_met1 (P := P_X8_balconies) (by decide +kernel) (fun _ => ⟨rfl, rfl⟩) (fun p e s m args below meth c D ty ad A n0 φ0 Q G Y hY => s_tab_T _ (List.forall_mem_cons.mpr ⟨b_X8_balconies_0 l p e s m args below meth c D ty ad A n0 φ0 Q G Y hY, fun _ h => absurd h List.not_mem_nil⟩)) hsh rfl rfl (Nat.le_of_ble_eq_true rfl) hC
  · exact hC.elim
def B_X8_isShelf_0 (Q : SQ) (nx : Nat → SK) : SK := (o_iload 0 (o_const (.int 7) (o_call C_X8_within 2 (o_zret Q))))
def P_X8_isShelf (Q : SQ) (nx : Nat → SK) : Nat → SK := s_tab [(0, B_X8_isShelf_0 Q nx)]
def C_X8_isShelf : SC := fun av sh me Q => match av with
  | [.int a0] => s_wp P_X8_isShelf Q 0 [some (.int a0)] [] sh me
  | _ => False
abbrev rm_X8_isShelf : Room := { frames := 1, cells := 0, slots := 0, locals := 21 }
theorem hd_X8_isShelf : (yX8_isShelf).cls ≠ "java/lang/invoke/MethodHandle" ∧ (yX8_isShelf).cls ≠ "java/lang/invoke/VarHandle" ∧ (parseMethodDescriptor (yX8_isShelf).desc).map (fun d => d.parameters.length) = some 1 := by decide +kernel
set_option maxRecDepth 100000 in
set_option maxHeartbeats 4000000 in
theorem b_X8_isShelf_0 (l : Launch) : s_B l rm_X8_isShelf yX8_isShelf cX8_isShelf 1 ((some FieldType.boolean)) false 0 B_X8_isShelf_0 := fun p e s m args below meth c D ty ad A n0 φ0 Q G Y hY => (u_iload_n G dX8_isShelf_0 rfl (u_bipush G dX8_isShelf_1 (by decide) (t_callS G (m_X8_within l) ⟨rfl, rfl⟩ rfl ⟨Nat.le_of_ble_eq_true rfl, Nat.le_of_ble_eq_true rfl⟩ q2_85 q1_1 (Or.inl q2_83) q2_84 hd_X8_within dX8_isShelf_3 (t_zret G rfl dX8_isShelf_6))))
set_option maxRecDepth 100000 in
theorem m_X8_isShelf (l : Launch) : s_Met l yX8_isShelf cX8_isShelf 1 ((some FieldType.boolean)) rm_X8_isShelf false C_X8_isShelf := by
  intro D ty ad av φ sz sh me Q hsh hC
  unfold C_X8_isShelf at hC
  split at hC
  · exact s_met1 (P := P_X8_isShelf) (by decide +kernel) (fun _ => ⟨rfl, rfl⟩) (fun p e s m args below meth c D ty ad A n0 φ0 Q G Y hY => s_tab_T _ (List.forall_mem_cons.mpr ⟨b_X8_isShelf_0 l p e s m args below meth c D ty ad A n0 φ0 Q G Y hY, fun _ h => absurd h List.not_mem_nil⟩)) hsh rfl rfl (Nat.le_of_ble_eq_true rfl) hC
  · exact hC.elim
def B_X8_rowRefusal_0 (Q : SQ) (nx : Nat → SK) : SK := (o_iload 1 (o_call C_X8_isShelf 1 (o_if (fun x => ¬ x = 0) (o_aload 0 (o_getR 8 9 (o_iload 1 (o_aald 13 (o_callV C_X5_isPerson 5 1 (o_if (fun x => x = 0) (o_aload 0 (o_getR 8 9 (o_iload 1 (o_aald 13 (o_callV C_X5_isRow 5 1 (o_if (fun x => x = 0) (o_const (.int (-3)) (nx 42)) (o_const (.int 0) (nx 42)))))))) (o_const (.int (-2)) (o_iret Q)))))))) (o_const (.int (-1)) (o_iret Q)))))
def B_X8_rowRefusal_42 (Q : SQ) (nx : Nat → SK) : SK := (o_iret Q)
def P_X8_rowRefusal (Q : SQ) (nx : Nat → SK) : Nat → SK := s_tab [(0, B_X8_rowRefusal_0 Q nx), (42, B_X8_rowRefusal_42 Q nx)]
def C_X8_rowRefusal : SC := fun av sh me Q => match av with
  | [.ref a0, .int a1] => s_wp P_X8_rowRefusal Q 0 [some (.ref a0), some (.int a1)] [] sh me
  | _ => False
abbrev rm_X8_rowRefusal : Room := { frames := 2, cells := 0, slots := 0, locals := 41 }
theorem hd_X8_rowRefusal : (yX8_rowRefusal).cls ≠ "java/lang/invoke/MethodHandle" ∧ (yX8_rowRefusal).cls ≠ "java/lang/invoke/VarHandle" ∧ (parseMethodDescriptor (yX8_rowRefusal).desc).map (fun d => d.parameters.length) = some 1 := by decide +kernel
set_option maxRecDepth 100000 in
set_option maxHeartbeats 4000000 in
theorem b_X8_rowRefusal_0 (l : Launch) : s_B l rm_X8_rowRefusal yX8_rowRefusal cX8_rowRefusal 2 ((some FieldType.int)) false 0 B_X8_rowRefusal_0 := fun p e s m args below meth c D ty ad A n0 φ0 Q G Y hY => (u_iload_n G dX8_rowRefusal_0 rfl (t_callS G (m_X8_isShelf l) ⟨rfl, rfl⟩ rfl ⟨Nat.le_of_ble_eq_true rfl, Nat.le_of_ble_eq_true rfl⟩ q2_82 q1_1 (Or.inl q2_80) q2_81 hd_X8_isShelf dX8_rowRefusal_1 (u_if_ne G dX8_rowRefusal_4 (by decide) (u_aload_n G dX8_rowRefusal_9 rfl (t_getR G cl_8 (k := 9) (by decide) (Or.inl q2_51) rfl (Or.inr ⟨_, rfl⟩) dX8_rowRefusal_10 (u_iload_n G dX8_rowRefusal_13 rfl (t_aald G (by decide) dX8_rowRefusal_14 (t_callV G cl_5 (m_X5_isPerson l) ⟨rfl, rfl⟩ rfl ⟨Nat.le_of_ble_eq_true rfl, Nat.le_of_ble_eq_true rfl⟩ q2_108 q1_9 (Or.inl q2_105) q2_106 q2_107 hd_X5_isPerson dX8_rowRefusal_15 (u_if_eq G dX8_rowRefusal_18 (by decide) (u_aload_n G dX8_rowRefusal_24 rfl (t_getR G cl_8 (k := 9) (by decide) (Or.inl q2_51) rfl (Or.inr ⟨_, rfl⟩) dX8_rowRefusal_25 (u_iload_n G dX8_rowRefusal_28 rfl (t_aald G (by decide) dX8_rowRefusal_29 (t_callV G cl_5 (m_X5_isRow l) ⟨rfl, rfl⟩ rfl ⟨Nat.le_of_ble_eq_true rfl, Nat.le_of_ble_eq_true rfl⟩ q2_112 q1_9 (Or.inl q2_109) q2_110 q2_111 hd_X5_isRow dX8_rowRefusal_30 (u_if_eq G dX8_rowRefusal_33 (by decide) (u_bipush G dX8_rowRefusal_40 (by decide) (hY 42)) (u_iconst G dX8_rowRefusal_36 (by decide) (t_goto G dX8_rowRefusal_37 (by decide) (hY 42))))))))) (u_bipush G dX8_rowRefusal_21 (by decide) (t_iret G rfl dX8_rowRefusal_23)))))))) (u_iconst G dX8_rowRefusal_7 (by decide) (t_iret G rfl dX8_rowRefusal_8)))))
set_option maxRecDepth 100000 in
set_option maxHeartbeats 4000000 in
theorem b_X8_rowRefusal_42 (l : Launch) : s_B l rm_X8_rowRefusal yX8_rowRefusal cX8_rowRefusal 2 ((some FieldType.int)) false 42 B_X8_rowRefusal_42 := fun p e s m args below meth c D ty ad A n0 φ0 Q G Y hY => (t_iret G rfl dX8_rowRefusal_42)
set_option maxRecDepth 100000 in
theorem m_X8_rowRefusal (l : Launch) : s_Met l yX8_rowRefusal cX8_rowRefusal 2 ((some FieldType.int)) rm_X8_rowRefusal false C_X8_rowRefusal := by
  intro D ty ad av φ sz sh me Q hsh hC
  unfold C_X8_rowRefusal at hC
  split at hC
  · exact s_met1 (P := P_X8_rowRefusal) (by decide +kernel) (fun _ => ⟨rfl, rfl⟩) (fun p e s m args below meth c D ty ad A n0 φ0 Q G Y hY => s_tab_T _ (List.forall_mem_cons.mpr ⟨b_X8_rowRefusal_0 l p e s m args below meth c D ty ad A n0 φ0 Q G Y hY, List.forall_mem_cons.mpr ⟨b_X8_rowRefusal_42 l p e s m args below meth c D ty ad A n0 φ0 Q G Y hY, fun _ h => absurd h List.not_mem_nil⟩⟩)) hsh rfl rfl (Nat.le_of_ble_eq_true rfl) hC
  · exact hC.elim
def B_X8_strollRefusal_0 (Q : SQ) (nx : Nat → SK) : SK := (o_aload 0 (o_iload 1 (o_callV C_X8_rowRefusal 8 2 (o_istore 4 (o_iload 4 (o_if (fun x => x = 0) (o_iload 2 (o_if (fun x => 0 ≤ x) (o_iload 2 (o_aload 0 (o_getR 8 9 (o_iload 1 (o_aald 13 (o_getI 5 1 (o_ic (fun x y => y < x) (nx 39) (o_iload 3 (o_if (fun x => x = 0) (o_iload 2 (o_const (.int 40) (o_ic (fun x y => x ≤ y) (o_const (.int 0) (nx 54)) (o_const (.int (-6)) (nx 54))))) (nx 39)))))))))) (o_const (.int (-4)) (o_iret Q)))) (o_iload 4 (o_iret Q))))))))
def B_X8_strollRefusal_39 (Q : SQ) (nx : Nat → SK) : SK := (o_const (.int (-5)) (o_iret Q))
def B_X8_strollRefusal_54 (Q : SQ) (nx : Nat → SK) : SK := (o_iret Q)
def P_X8_strollRefusal (Q : SQ) (nx : Nat → SK) : Nat → SK := s_tab [(0, B_X8_strollRefusal_0 Q nx), (39, B_X8_strollRefusal_39 Q nx), (54, B_X8_strollRefusal_54 Q nx)]
def C_X8_strollRefusal : SC := fun av sh me Q => match av with
  | [.ref a0, .int a1, .int a2, .int a3] => s_wp P_X8_strollRefusal Q 0 [some (.ref a0), some (.int a1), some (.int a2), some (.int a3), none] [] sh me
  | _ => False
abbrev rm_X8_strollRefusal : Room := { frames := 3, cells := 0, slots := 0, locals := 62 }
theorem hd_X8_strollRefusal : (yX8_strollRefusal).cls ≠ "java/lang/invoke/MethodHandle" ∧ (yX8_strollRefusal).cls ≠ "java/lang/invoke/VarHandle" ∧ (parseMethodDescriptor (yX8_strollRefusal).desc).map (fun d => d.parameters.length) = some 3 := by decide +kernel
set_option maxRecDepth 100000 in
set_option maxHeartbeats 4000000 in
theorem b_X8_strollRefusal_0 (l : Launch) : s_B l rm_X8_strollRefusal yX8_strollRefusal cX8_strollRefusal 5 ((some FieldType.int)) false 0 B_X8_strollRefusal_0 := fun p e s m args below meth c D ty ad A n0 φ0 Q G Y hY => (u_aload_n G dX8_strollRefusal_0 rfl (u_iload_n G dX8_strollRefusal_1 rfl (t_callV G cl_8 (m_X8_rowRefusal l) ⟨rfl, rfl⟩ rfl ⟨Nat.le_of_ble_eq_true rfl, Nat.le_of_ble_eq_true rfl⟩ q2_104 q1_1 (Or.inl q2_101) q2_103 qs_1 hd_X8_rowRefusal dX8_strollRefusal_2 (u_istore G dX8_strollRefusal_5 (u_iload G dX8_strollRefusal_7 (u_if_eq G dX8_strollRefusal_9 (by decide) (u_iload_n G dX8_strollRefusal_15 rfl (u_if_ge G dX8_strollRefusal_16 (by decide) (u_iload_n G dX8_strollRefusal_22 rfl (u_aload_n G dX8_strollRefusal_23 rfl (t_getR G cl_8 (k := 9) (by decide) (Or.inl q2_51) rfl (Or.inr ⟨_, rfl⟩) dX8_strollRefusal_24 (u_iload_n G dX8_strollRefusal_27 rfl (t_aald G (by decide) dX8_strollRefusal_28 (t_getI G cl_5 (k := 1) (by decide) (Or.inr ⟨_, q2_28⟩) rfl (Or.inl rfl) dX8_strollRefusal_29 (u_icmp_gt G dX8_strollRefusal_32 (by decide) (hY 39) (u_iload_n G dX8_strollRefusal_35 rfl (u_if_eq G dX8_strollRefusal_36 (by decide) (u_iload_n G dX8_strollRefusal_42 rfl (u_bipush G dX8_strollRefusal_43 (by decide) (u_icmp_le G dX8_strollRefusal_45 (by decide) (u_iconst G dX8_strollRefusal_53 (by decide) (hY 54)) (u_bipush G dX8_strollRefusal_48 (by decide) (t_goto G dX8_strollRefusal_50 (by decide) (hY 54)))))) (hY 39)))))))))) (u_bipush G dX8_strollRefusal_19 (by decide) (t_iret G rfl dX8_strollRefusal_21)))) (u_iload G dX8_strollRefusal_12 (t_iret G rfl dX8_strollRefusal_14))))))))
set_option maxRecDepth 100000 in
set_option maxHeartbeats 4000000 in
theorem b_X8_strollRefusal_39 (l : Launch) : s_B l rm_X8_strollRefusal yX8_strollRefusal cX8_strollRefusal 5 ((some FieldType.int)) false 39 B_X8_strollRefusal_39 := fun p e s m args below meth c D ty ad A n0 φ0 Q G Y hY => (u_bipush G dX8_strollRefusal_39 (by decide) (t_iret G rfl dX8_strollRefusal_41))
set_option maxRecDepth 100000 in
set_option maxHeartbeats 4000000 in
theorem b_X8_strollRefusal_54 (l : Launch) : s_B l rm_X8_strollRefusal yX8_strollRefusal cX8_strollRefusal 5 ((some FieldType.int)) false 54 B_X8_strollRefusal_54 := fun p e s m args below meth c D ty ad A n0 φ0 Q G Y hY => (t_iret G rfl dX8_strollRefusal_54)
set_option maxRecDepth 100000 in
theorem m_X8_strollRefusal (l : Launch) : s_Met l yX8_strollRefusal cX8_strollRefusal 5 ((some FieldType.int)) rm_X8_strollRefusal false C_X8_strollRefusal := by
  intro D ty ad av φ sz sh me Q hsh hC
  unfold C_X8_strollRefusal at hC
  split at hC
  · exact s_met1 (P := P_X8_strollRefusal) (by decide +kernel) (fun _ => ⟨rfl, rfl⟩) (fun p e s m args below meth c D ty ad A n0 φ0 Q G Y hY => s_tab_T _ (List.forall_mem_cons.mpr ⟨b_X8_strollRefusal_0 l p e s m args below meth c D ty ad A n0 φ0 Q G Y hY, List.forall_mem_cons.mpr ⟨b_X8_strollRefusal_39 l p e s m args below meth c D ty ad A n0 φ0 Q G Y hY, List.forall_mem_cons.mpr ⟨b_X8_strollRefusal_54 l p e s m args below meth c D ty ad A n0 φ0 Q G Y hY, fun _ h => absurd h List.not_mem_nil⟩⟩⟩)) hsh rfl rfl (Nat.le_of_ble_eq_true rfl) hC
  · exact hC.elim
def B_X8_tryStroll_0 (Q : SQ) (nx : Nat → SK) : SK := (o_aload 0 (o_iload 1 (o_iload 2 (o_iload 3 (o_callV C_X8_strollRefusal 8 4 (o_istore 4 (o_iload 4 (o_if (fun x => x = 0) (o_aload 0 (o_getR 8 1 (o_aload 0 (o_getR 8 0 (o_callV C_X7_copyFrom 7 2 (o_aload 0 (o_getR 8 6 (o_aload 0 (o_getR 8 1 (o_aload 0 (o_getR 8 9 (o_iload 1 (o_aald 13 (o_iload 2 (o_callV C_X6_follow 6 4 (o_const (.int (-1)) (o_ic (fun x y => ¬ x = y) (o_const (.int (-6)) (nx 56)) (o_const (.int 0) (nx 56))))))))))))))))))) (o_iload 4 (o_iret Q))))))))))
def B_X8_tryStroll_56 (Q : SQ) (nx : Nat → SK) : SK := (o_iret Q)
def P_X8_tryStroll (Q : SQ) (nx : Nat → SK) : Nat → SK := s_tab [(0, B_X8_tryStroll_0 Q nx), (56, B_X8_tryStroll_56 Q nx)]
def C_X8_tryStroll : SC := fun av sh me Q => match av with
  | [.ref a0, .int a1, .int a2, .int a3] => s_wp P_X8_tryStroll Q 0 [some (.ref a0), some (.int a1), some (.int a2), some (.int a3), none] [] sh me
  | _ => False
abbrev rm_X8_tryStroll : Room := { frames := 5, cells := 0, slots := 0, locals := 120 }
theorem hd_X8_tryStroll : (yX8_tryStroll).cls ≠ "java/lang/invoke/MethodHandle" ∧ (yX8_tryStroll).cls ≠ "java/lang/invoke/VarHandle" ∧ (parseMethodDescriptor (yX8_tryStroll).desc).map (fun d => d.parameters.length) = some 3 := by decide +kernel
set_option maxRecDepth 100000 in
set_option maxHeartbeats 4000000 in
theorem b_X8_tryStroll_0 (l : Launch) : s_B l rm_X8_tryStroll yX8_tryStroll cX8_tryStroll 5 ((some FieldType.int)) false 0 B_X8_tryStroll_0 := fun p e s m args below meth c D ty ad A n0 φ0 Q G Y hY => (u_aload_n G dX8_tryStroll_0 rfl (u_iload_n G dX8_tryStroll_1 rfl (u_iload_n G dX8_tryStroll_2 rfl (u_iload_n G dX8_tryStroll_3 rfl (t_callV G cl_8 (m_X8_strollRefusal l) ⟨rfl, rfl⟩ rfl ⟨Nat.le_of_ble_eq_true rfl, Nat.le_of_ble_eq_true rfl⟩ q4_148 q1_1 (Or.inl q4_145) q4_147 qs_28 hd_X8_strollRefusal dX8_tryStroll_4 (u_istore G dX8_tryStroll_7 (u_iload G dX8_tryStroll_9 (u_if_eq G dX8_tryStroll_11 (by decide) (u_aload_n G dX8_tryStroll_17 rfl (t_getR G cl_8 (k := 1) (by decide) (Or.inl q2_43) rfl (Or.inl ⟨_, rfl⟩) dX8_tryStroll_18 (u_aload_n G dX8_tryStroll_21 rfl (t_getR G cl_8 (k := 0) (by decide) (Or.inl q2_42) rfl (Or.inl ⟨_, rfl⟩) dX8_tryStroll_22 (t_callV G cl_7 (m_X7_copyFrom l) ⟨rfl, rfl⟩ rfl ⟨Nat.le_of_ble_eq_true rfl, Nat.le_of_ble_eq_true rfl⟩ q3_40 q1_2 (Or.inl q3_37) q3_38 q3_39 hd_X7_copyFrom dX8_tryStroll_25 (u_aload_n G dX8_tryStroll_28 rfl (t_getR G cl_8 (k := 6) (by decide) (Or.inl q2_48) rfl (Or.inl ⟨_, rfl⟩) dX8_tryStroll_29 (u_aload_n G dX8_tryStroll_32 rfl (t_getR G cl_8 (k := 1) (by decide) (Or.inl q2_43) rfl (Or.inl ⟨_, rfl⟩) dX8_tryStroll_33 (u_aload_n G dX8_tryStroll_36 rfl (t_getR G cl_8 (k := 9) (by decide) (Or.inl q2_51) rfl (Or.inr ⟨_, rfl⟩) dX8_tryStroll_37 (u_iload_n G dX8_tryStroll_40 rfl (t_aald G (by decide) dX8_tryStroll_41 (u_iload_n G dX8_tryStroll_42 rfl (t_callV G cl_6 (m_X6_follow l) ⟨rfl, rfl⟩ rfl ⟨Nat.le_of_ble_eq_true rfl, Nat.le_of_ble_eq_true rfl⟩ q4_152 q1_6 (Or.inl q4_149) q4_150 q4_151 hd_X6_follow dX8_tryStroll_43 (u_iconst G dX8_tryStroll_46 (by decide) (u_icmp_ne G dX8_tryStroll_47 (by decide) (u_bipush G dX8_tryStroll_54 (by decide) (hY 56)) (u_iconst G dX8_tryStroll_50 (by decide) (t_goto G dX8_tryStroll_51 (by decide) (hY 56)))))))))))))))))))) (u_iload G dX8_tryStroll_14 (t_iret G rfl dX8_tryStroll_16))))))))))
set_option maxRecDepth 100000 in
set_option maxHeartbeats 4000000 in
theorem b_X8_tryStroll_56 (l : Launch) : s_B l rm_X8_tryStroll yX8_tryStroll cX8_tryStroll 5 ((some FieldType.int)) false 56 B_X8_tryStroll_56 := fun p e s m args below meth c D ty ad A n0 φ0 Q G Y hY => (t_iret G rfl dX8_tryStroll_56)
set_option maxRecDepth 100000 in
theorem m_X8_tryStroll (l : Launch) : s_Met l yX8_tryStroll cX8_tryStroll 5 ((some FieldType.int)) rm_X8_tryStroll false C_X8_tryStroll := by
  intro D ty ad av φ sz sh me Q hsh hC
  unfold C_X8_tryStroll at hC
  split at hC
  · exact s_met1 (P := P_X8_tryStroll) (by decide +kernel) (fun _ => ⟨rfl, rfl⟩) (fun p e s m args below meth c D ty ad A n0 φ0 Q G Y hY => s_tab_T _ (List.forall_mem_cons.mpr ⟨b_X8_tryStroll_0 l p e s m args below meth c D ty ad A n0 φ0 Q G Y hY, List.forall_mem_cons.mpr ⟨b_X8_tryStroll_56 l p e s m args below meth c D ty ad A n0 φ0 Q G Y hY, fun _ h => absurd h List.not_mem_nil⟩⟩)) hsh rfl rfl (Nat.le_of_ble_eq_true rfl) hC
  · exact hC.elim
def B_X8_behind_0 (Q : SQ) (nx : Nat → SK) : SK := (o_iload 3 (o_const (.int 2) (o_call C_X8_within 2 (o_if (fun x => x = 0) (nx 23) (o_iload 3 (o_const (.int 1) (o_ic (fun x y => ¬ x = y) (nx 27) (o_aload 0 (o_getR 8 0 (o_getI 7 1 (o_if (fun x => ¬ x = 0) (nx 27) (nx 23))))))))))))
def B_X8_behind_23 (Q : SQ) (nx : Nat → SK) : SK := (o_const (.int 1) (nx 28))
def B_X8_behind_27 (Q : SQ) (nx : Nat → SK) : SK := (o_const (.int 0) (nx 28))
def B_X8_behind_28 (Q : SQ) (nx : Nat → SK) : SK := (o_istore 4 (o_aload 0 (o_iload 1 (o_iload 2 (o_iload 4 (o_callV C_X8_tryStroll 8 4 (o_istore 5 (o_iload 5 (o_if (fun x => x = 0) (o_iload 3 (o_sw [(0, (o_aload 0 (o_getR 8 1 (o_getI 7 8 (o_aload 0 (o_getR 8 0 (o_getI 7 8 (o_i2 (fun x y => x - y) (o_iret Q))))))))), (1, (o_aload 0 (o_getR 8 1 (o_getR 7 0 (o_const (.int 0) (o_aald 12 (o_getI 1 5 (o_iret Q))))))))] (o_aload 0 (o_getR 8 1 (o_callV C_X7_emptyPurses 7 1 (o_iret Q)))))) (o_aload 0 (o_iload 5 (o_callV C_X8_refuse 8 2 (o_iret Q)))))))))))))
def P_X8_behind (Q : SQ) (nx : Nat → SK) : Nat → SK := s_tab [(0, B_X8_behind_0 Q nx), (23, B_X8_behind_23 Q nx), (27, B_X8_behind_27 Q nx), (28, B_X8_behind_28 Q nx)]
def C_X8_behind : SC := fun av sh me Q => match av with
  | [.ref a0, .int a1, .int a2, .int a3] => s_wp P_X8_behind Q 0 [some (.ref a0), some (.int a1), some (.int a2), some (.int a3), none, none] [] sh me
  | _ => False
abbrev rm_X8_behind : Room := { frames := 6, cells := 0, slots := 0, locals := 144 }
theorem hd_X8_behind : (yX8_behind).cls ≠ "java/lang/invoke/MethodHandle" ∧ (yX8_behind).cls ≠ "java/lang/invoke/VarHandle" ∧ (parseMethodDescriptor (yX8_behind).desc).map (fun d => d.parameters.length) = some 3 := by decide +kernel
set_option maxRecDepth 100000 in
set_option maxHeartbeats 4000000 in
theorem b_X8_behind_0 (l : Launch) : s_B l rm_X8_behind yX8_behind cX8_behind 6 ((some FieldType.int)) false 0 B_X8_behind_0 := fun p e s m args below meth c D ty ad A n0 φ0 Q G Y hY => (u_iload_n G dX8_behind_0 rfl (u_iconst G dX8_behind_1 (by decide) (t_callS G (m_X8_within l) ⟨rfl, rfl⟩ rfl ⟨Nat.le_of_ble_eq_true rfl, Nat.le_of_ble_eq_true rfl⟩ q2_85 q1_1 (Or.inl q2_83) q2_84 hd_X8_within dX8_behind_2 (u_if_eq G dX8_behind_5 (by decide) (hY 23) (u_iload_n G dX8_behind_8 rfl (u_iconst G dX8_behind_9 (by decide) (u_icmp_ne G dX8_behind_10 (by decide) (hY 27) (u_aload_n G dX8_behind_13 rfl (t_getR G cl_8 (k := 0) (by decide) (Or.inl q2_42) rfl (Or.inl ⟨_, rfl⟩) dX8_behind_14 (t_getI G cl_7 (k := 1) (by decide) (Or.inr ⟨_, q1_95⟩) rfl (Or.inl rfl) dX8_behind_17 (u_if_ne G dX8_behind_20 (by decide) (hY 27) (hY 23))))))))))))
set_option maxRecDepth 100000 in
set_option maxHeartbeats 4000000 in
theorem b_X8_behind_23 (l : Launch) : s_B l rm_X8_behind yX8_behind cX8_behind 6 ((some FieldType.int)) false 23 B_X8_behind_23 := fun p e s m args below meth c D ty ad A n0 φ0 Q G Y hY => (u_iconst G dX8_behind_23 (by decide) (t_goto G dX8_behind_24 (by decide) (hY 28)))
set_option maxRecDepth 100000 in
set_option maxHeartbeats 4000000 in
theorem b_X8_behind_27 (l : Launch) : s_B l rm_X8_behind yX8_behind cX8_behind 6 ((some FieldType.int)) false 27 B_X8_behind_27 := fun p e s m args below meth c D ty ad A n0 φ0 Q G Y hY => (u_iconst G dX8_behind_27 (by decide) (hY 28))
set_option maxRecDepth 100000 in
set_option maxHeartbeats 4000000 in
theorem b_X8_behind_28 (l : Launch) : s_B l rm_X8_behind yX8_behind cX8_behind 6 ((some FieldType.int)) false 28 B_X8_behind_28 := fun p e s m args below meth c D ty ad A n0 φ0 Q G Y hY => (u_istore G dX8_behind_28 (u_aload_n G dX8_behind_30 rfl (u_iload_n G dX8_behind_31 rfl (u_iload_n G dX8_behind_32 rfl (u_iload G dX8_behind_33 (t_callV G cl_8 (m_X8_tryStroll l) ⟨rfl, rfl⟩ rfl ⟨Nat.le_of_ble_eq_true rfl, Nat.le_of_ble_eq_true rfl⟩ q4_173 q1_1 (Or.inl q4_170) q4_172 qs_29 hd_X8_tryStroll dX8_behind_35 (u_istore G dX8_behind_38 (u_iload G dX8_behind_40 (u_if_eq G dX8_behind_42 (by decide) (u_iload_n G dX8_behind_52 rfl (u_lsw G [(0, 80), (1, 96)] dX8_behind_53 (by decide) (by decide) rfl ⟨(u_aload_n G dX8_behind_80 rfl (t_getR G cl_8 (k := 1) (by decide) (Or.inl q2_43) rfl (Or.inl ⟨_, rfl⟩) dX8_behind_81 (t_getI G cl_7 (k := 8) (by decide) (Or.inr ⟨_, q1_117⟩) rfl (Or.inl rfl) dX8_behind_84 (u_aload_n G dX8_behind_87 rfl (t_getR G cl_8 (k := 0) (by decide) (Or.inl q2_42) rfl (Or.inl ⟨_, rfl⟩) dX8_behind_88 (t_getI G cl_7 (k := 8) (by decide) (Or.inr ⟨_, q1_117⟩) rfl (Or.inl rfl) dX8_behind_91 (u_isub G dX8_behind_94 (t_iret G rfl dX8_behind_95)))))))), ⟨(u_aload_n G dX8_behind_96 rfl (t_getR G cl_8 (k := 1) (by decide) (Or.inl q2_43) rfl (Or.inl ⟨_, rfl⟩) dX8_behind_97 (t_getR G cl_7 (k := 0) (by decide) (Or.inr ⟨_, q1_89⟩) rfl (Or.inr ⟨_, rfl⟩) dX8_behind_100 (u_iconst G dX8_behind_103 (by decide) (t_aald G (by decide) dX8_behind_104 (t_getI G cl_1 (k := 5) (by decide) (Or.inr ⟨_, q1_64⟩) rfl (Or.inl rfl) dX8_behind_105 (t_iret G rfl dX8_behind_108))))))), trivial⟩⟩ (u_aload_n G dX8_behind_109 rfl (t_getR G cl_8 (k := 1) (by decide) (Or.inl q2_43) rfl (Or.inl ⟨_, rfl⟩) dX8_behind_110 (t_callV G cl_7 (m_X7_emptyPurses l) ⟨rfl, rfl⟩ rfl ⟨Nat.le_of_ble_eq_true rfl, Nat.le_of_ble_eq_true rfl⟩ q4_177 q1_2 (Or.inl q4_174) q4_175 q4_176 hd_X7_emptyPurses dX8_behind_113 (t_iret G rfl dX8_behind_116)))))) (u_aload_n G dX8_behind_45 rfl (u_iload G dX8_behind_46 (t_callV G cl_8 (m_X8_refuse l) ⟨rfl, rfl⟩ rfl ⟨Nat.le_of_ble_eq_true rfl, Nat.le_of_ble_eq_true rfl⟩ q2_89 q1_1 (Or.inl q2_86) q2_88 qs_0 hd_X8_refuse dX8_behind_48 (t_iret G rfl dX8_behind_51)))))))))))))
set_option maxRecDepth 100000 in
theorem m_X8_behind (l : Launch) : s_Met l yX8_behind cX8_behind 6 ((some FieldType.int)) rm_X8_behind false C_X8_behind := by
  intro D ty ad av φ sz sh me Q hsh hC
  unfold C_X8_behind at hC
  split at hC
  · exact s_met1 (P := P_X8_behind) (by decide +kernel) (fun _ => ⟨rfl, rfl⟩) (fun p e s m args below meth c D ty ad A n0 φ0 Q G Y hY => s_tab_T _ (List.forall_mem_cons.mpr ⟨b_X8_behind_0 l p e s m args below meth c D ty ad A n0 φ0 Q G Y hY, List.forall_mem_cons.mpr ⟨b_X8_behind_23 l p e s m args below meth c D ty ad A n0 φ0 Q G Y hY, List.forall_mem_cons.mpr ⟨b_X8_behind_27 l p e s m args below meth c D ty ad A n0 φ0 Q G Y hY, List.forall_mem_cons.mpr ⟨b_X8_behind_28 l p e s m args below meth c D ty ad A n0 φ0 Q G Y hY, fun _ h => absurd h List.not_mem_nil⟩⟩⟩⟩)) hsh rfl rfl (Nat.le_of_ble_eq_true rfl) hC
  · exact hC.elim
