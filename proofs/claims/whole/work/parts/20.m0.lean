/-! the methods, by program (wip/whole/tools/gen_m.py) -/
theorem fty_0 : ∀ k, k < 5 → s_ty 0 k = .int ∨ s_ty 0 k = .boolean ∨ s_ty 0 k = .long ∨ (∃ n, s_ty 0 k = .object n) ∨ ∃ t, s_ty 0 k = .array t := (lt_s (lt_s (lt_s (lt_s (lt_s lt_0 (Or.inr (Or.inr (Or.inr (Or.inr ⟨_, rfl⟩))))) (Or.inl rfl)) (Or.inl rfl)) (Or.inl rfl)) (Or.inl rfl))
theorem fty_1 : ∀ k, k < 7 → s_ty 1 k = .int ∨ s_ty 1 k = .boolean ∨ s_ty 1 k = .long ∨ (∃ n, s_ty 1 k = .object n) ∨ ∃ t, s_ty 1 k = .array t := (lt_s (lt_s (lt_s (lt_s (lt_s (lt_s (lt_s lt_0 (Or.inl rfl)) (Or.inl rfl)) (Or.inl rfl)) (Or.inl rfl)) (Or.inl rfl)) (Or.inl rfl)) (Or.inr (Or.inl rfl)))
theorem fty_2 : ∀ k, k < 4 → s_ty 2 k = .int ∨ s_ty 2 k = .boolean ∨ s_ty 2 k = .long ∨ (∃ n, s_ty 2 k = .object n) ∨ ∃ t, s_ty 2 k = .array t := (lt_s (lt_s (lt_s (lt_s lt_0 (Or.inr (Or.inr (Or.inr (Or.inl ⟨_, rfl⟩))))) (Or.inr (Or.inr (Or.inr (Or.inl ⟨_, rfl⟩))))) (Or.inr (Or.inr (Or.inr (Or.inr ⟨_, rfl⟩))))) (Or.inr (Or.inr (Or.inr (Or.inr ⟨_, rfl⟩)))))
theorem fty_3 : ∀ k, k < 5 → s_ty 3 k = .int ∨ s_ty 3 k = .boolean ∨ s_ty 3 k = .long ∨ (∃ n, s_ty 3 k = .object n) ∨ ∃ t, s_ty 3 k = .array t := (lt_s (lt_s (lt_s (lt_s (lt_s lt_0 (Or.inr (Or.inr (Or.inr (Or.inl ⟨_, rfl⟩))))) (Or.inr (Or.inr (Or.inr (Or.inl ⟨_, rfl⟩))))) (Or.inl rfl)) (Or.inl rfl)) (Or.inl rfl))
theorem fty_4 : ∀ k, k < 6 → s_ty 4 k = .int ∨ s_ty 4 k = .boolean ∨ s_ty 4 k = .long ∨ (∃ n, s_ty 4 k = .object n) ∨ ∃ t, s_ty 4 k = .array t := (lt_s (lt_s (lt_s (lt_s (lt_s (lt_s lt_0 (Or.inr (Or.inr (Or.inr (Or.inr ⟨_, rfl⟩))))) (Or.inr (Or.inr (Or.inr (Or.inr ⟨_, rfl⟩))))) (Or.inr (Or.inr (Or.inr (Or.inr ⟨_, rfl⟩))))) (Or.inr (Or.inr (Or.inr (Or.inr ⟨_, rfl⟩))))) (Or.inr (Or.inr (Or.inr (Or.inr ⟨_, rfl⟩))))) (Or.inl rfl))
theorem fty_5 : ∀ k, k < 4 → s_ty 5 k = .int ∨ s_ty 5 k = .boolean ∨ s_ty 5 k = .long ∨ (∃ n, s_ty 5 k = .object n) ∨ ∃ t, s_ty 5 k = .array t := (lt_s (lt_s (lt_s (lt_s lt_0 (Or.inl rfl)) (Or.inl rfl)) (Or.inl rfl)) (Or.inr (Or.inr (Or.inr (Or.inr ⟨_, rfl⟩)))))
theorem fty_6 : ∀ k, k < 1 → s_ty 6 k = .int ∨ s_ty 6 k = .boolean ∨ s_ty 6 k = .long ∨ (∃ n, s_ty 6 k = .object n) ∨ ∃ t, s_ty 6 k = .array t := (lt_s lt_0 (Or.inr (Or.inr (Or.inr (Or.inl ⟨_, rfl⟩)))))
theorem fty_7 : ∀ k, k < 10 → s_ty 7 k = .int ∨ s_ty 7 k = .boolean ∨ s_ty 7 k = .long ∨ (∃ n, s_ty 7 k = .object n) ∨ ∃ t, s_ty 7 k = .array t := (lt_s (lt_s (lt_s (lt_s (lt_s (lt_s (lt_s (lt_s (lt_s (lt_s lt_0 (Or.inr (Or.inr (Or.inr (Or.inr ⟨_, rfl⟩))))) (Or.inl rfl)) (Or.inr (Or.inr (Or.inl rfl)))) (Or.inr (Or.inr (Or.inl rfl)))) (Or.inl rfl)) (Or.inl rfl)) (Or.inr (Or.inl rfl))) (Or.inl rfl)) (Or.inl rfl)) (Or.inl rfl))
theorem fty_8 : ∀ k, k < 11 → s_ty 8 k = .int ∨ s_ty 8 k = .boolean ∨ s_ty 8 k = .long ∨ (∃ n, s_ty 8 k = .object n) ∨ ∃ t, s_ty 8 k = .array t := (lt_s (lt_s (lt_s (lt_s (lt_s (lt_s (lt_s (lt_s (lt_s (lt_s (lt_s lt_0 (Or.inr (Or.inr (Or.inr (Or.inl ⟨_, rfl⟩))))) (Or.inr (Or.inr (Or.inr (Or.inl ⟨_, rfl⟩))))) (Or.inr (Or.inr (Or.inr (Or.inl ⟨_, rfl⟩))))) (Or.inr (Or.inl rfl))) (Or.inr (Or.inr (Or.inr (Or.inl ⟨_, rfl⟩))))) (Or.inr (Or.inr (Or.inr (Or.inl ⟨_, rfl⟩))))) (Or.inr (Or.inr (Or.inr (Or.inl ⟨_, rfl⟩))))) (Or.inr (Or.inr (Or.inr (Or.inl ⟨_, rfl⟩))))) (Or.inr (Or.inr (Or.inr (Or.inl ⟨_, rfl⟩))))) (Or.inr (Or.inr (Or.inr (Or.inr ⟨_, rfl⟩))))) (Or.inr (Or.inr (Or.inr (Or.inr ⟨_, rfl⟩)))))
theorem fty_9 : ∀ k, k < 44 → s_ty 9 k = .int ∨ s_ty 9 k = .boolean ∨ s_ty 9 k = .long ∨ (∃ n, s_ty 9 k = .object n) ∨ ∃ t, s_ty 9 k = .array t := (lt_s (lt_s (lt_s (lt_s (lt_s (lt_s (lt_s (lt_s (lt_s (lt_s (lt_s (lt_s (lt_s (lt_s (lt_s (lt_s (lt_s (lt_s (lt_s (lt_s (lt_s (lt_s (lt_s (lt_s (lt_s (lt_s (lt_s (lt_s (lt_s (lt_s (lt_s (lt_s (lt_s (lt_s (lt_s (lt_s (lt_s (lt_s (lt_s (lt_s (lt_s (lt_s (lt_s (lt_s lt_0 (Or.inl rfl)) (Or.inl rfl)) (Or.inl rfl)) (Or.inl rfl)) (Or.inl rfl)) (Or.inl rfl)) (Or.inl rfl)) (Or.inl rfl)) (Or.inr (Or.inr (Or.inr (Or.inr ⟨_, rfl⟩))))) (Or.inr (Or.inr (Or.inr (Or.inr ⟨_, rfl⟩))))) (Or.inr (Or.inr (Or.inr (Or.inr ⟨_, rfl⟩))))) (Or.inr (Or.inr (Or.inr (Or.inr ⟨_, rfl⟩))))) (Or.inr (Or.inr (Or.inr (Or.inr ⟨_, rfl⟩))))) (Or.inr (Or.inr (Or.inr (Or.inr ⟨_, rfl⟩))))) (Or.inr (Or.inr (Or.inr (Or.inr ⟨_, rfl⟩))))) (Or.inr (Or.inr (Or.inr (Or.inr ⟨_, rfl⟩))))) (Or.inr (Or.inr (Or.inr (Or.inr ⟨_, rfl⟩))))) (Or.inr (Or.inr (Or.inr (Or.inr ⟨_, rfl⟩))))) (Or.inr (Or.inr (Or.inr (Or.inr ⟨_, rfl⟩))))) (Or.inr (Or.inr (Or.inr (Or.inr ⟨_, rfl⟩))))) (Or.inr (Or.inr (Or.inr (Or.inr ⟨_, rfl⟩))))) (Or.inr (Or.inr (Or.inr (Or.inr ⟨_, rfl⟩))))) (Or.inr (Or.inr (Or.inr (Or.inr ⟨_, rfl⟩))))) (Or.inr (Or.inr (Or.inr (Or.inr ⟨_, rfl⟩))))) (Or.inr (Or.inr (Or.inr (Or.inr ⟨_, rfl⟩))))) (Or.inr (Or.inr (Or.inr (Or.inr ⟨_, rfl⟩))))) (Or.inr (Or.inr (Or.inr (Or.inr ⟨_, rfl⟩))))) (Or.inr (Or.inr (Or.inr (Or.inr ⟨_, rfl⟩))))) (Or.inl rfl)) (Or.inl rfl)) (Or.inl rfl)) (Or.inl rfl)) (Or.inl rfl)) (Or.inr (Or.inr (Or.inr (Or.inr ⟨_, rfl⟩))))) (Or.inr (Or.inr (Or.inr (Or.inr ⟨_, rfl⟩))))) (Or.inr (Or.inr (Or.inr (Or.inr ⟨_, rfl⟩))))) (Or.inl rfl)) (Or.inr (Or.inr (Or.inr (Or.inr ⟨_, rfl⟩))))) (Or.inr (Or.inr (Or.inr (Or.inr ⟨_, rfl⟩))))) (Or.inr (Or.inr (Or.inr (Or.inr ⟨_, rfl⟩))))) (Or.inl rfl)) (Or.inr (Or.inr (Or.inr (Or.inr ⟨_, rfl⟩))))) (Or.inl rfl)) (Or.inr (Or.inl rfl)))
def B_J0_isEmpty_aae02_0 (Q : SQ) (nx : Nat → SK) : SK := (o_aload 0 (o_getSV (o_lenSB (o_if (fun x => ¬ x = 0) (o_const (.int 0) (nx 13)) (o_const (.int 1) (nx 13))))))
def B_J0_isEmpty_aae02_13 (Q : SQ) (nx : Nat → SK) : SK := (o_zret Q)
def P_J0_isEmpty_aae02 (Q : SQ) (nx : Nat → SK) : Nat → SK := s_tab [(0, B_J0_isEmpty_aae02_0 Q nx), (13, B_J0_isEmpty_aae02_13 Q nx)]
def C_J0_isEmpty_aae02 : SC := fun av sh me Q => match av with
  | [.ref a0] => s_wp P_J0_isEmpty_aae02 Q 0 [some (.ref a0)] [] sh me
  | _ => False
abbrev rm_J0_isEmpty_aae02 : Room := { frames := 0, cells := 0, slots := 0, locals := 0 }
theorem hd_J0_isEmpty_aae02 : (yJ0_isEmpty_aae02).cls ≠ "java/lang/invoke/MethodHandle" ∧ (yJ0_isEmpty_aae02).cls ≠ "java/lang/invoke/VarHandle" ∧ (parseMethodDescriptor (yJ0_isEmpty_aae02).desc).map (fun d => d.parameters.length) = some 0 := by decide +kernel
set_option maxRecDepth 100000 in
set_option maxHeartbeats 4000000 in
theorem b_J0_isEmpty_aae02_0 (l : Launch) : s_B l rm_J0_isEmpty_aae02 yJ0_isEmpty_aae02 cJ0_isEmpty_aae02 1 ((some FieldType.boolean)) false 0 B_J0_isEmpty_aae02_0 := fun p e s m args below meth c D ty ad A n0 φ0 Q G Y hY => (u_aload_n G dJ0_isEmpty_aae02_0 rfl (t_getSV G q7_16 dJ0_isEmpty_aae02_1 (t_lenSB G dJ0_isEmpty_aae02_4 (u_if_ne G dJ0_isEmpty_aae02_5 (by decide) (u_iconst G dJ0_isEmpty_aae02_12 (by decide) (hY 13)) (u_iconst G dJ0_isEmpty_aae02_8 (by decide) (t_goto G dJ0_isEmpty_aae02_9 (by decide) (hY 13)))))))
set_option maxRecDepth 100000 in
set_option maxHeartbeats 4000000 in
theorem b_J0_isEmpty_aae02_13 (l : Launch) : s_B l rm_J0_isEmpty_aae02 yJ0_isEmpty_aae02 cJ0_isEmpty_aae02 1 ((some FieldType.boolean)) false 13 B_J0_isEmpty_aae02_13 := fun p e s m args below meth c D ty ad A n0 φ0 Q G Y hY => (t_zret G rfl dJ0_isEmpty_aae02_13)
set_option maxRecDepth 100000 in
theorem m_J0_isEmpty_aae02 (l : Launch) : s_Met l yJ0_isEmpty_aae02 cJ0_isEmpty_aae02 1 ((some FieldType.boolean)) rm_J0_isEmpty_aae02 false C_J0_isEmpty_aae02 := by
  intro D ty ad av φ sz sh me Q hsh hC
  unfold C_J0_isEmpty_aae02 at hC
  split at hC
  · exact s_met1 (P := P_J0_isEmpty_aae02) (by decide +kernel) (fun _ => ⟨rfl, rfl⟩) (fun p e s m args below meth c D ty ad A n0 φ0 Q G Y hY => s_tab_T _ (List.forall_mem_cons.mpr ⟨b_J0_isEmpty_aae02_0 l p e s m args below meth c D ty ad A n0 φ0 Q G Y hY, List.forall_mem_cons.mpr ⟨b_J0_isEmpty_aae02_13 l p e s m args below meth c D ty ad A n0 φ0 Q G Y hY, fun _ h => absurd h List.not_mem_nil⟩⟩)) hsh rfl rfl (Nat.le_of_ble_eq_true rfl) hC
  · exact hC.elim
def B_J0_coder_7d493_0 (Q : SQ) (nx : Nat → SK) : SK := (o_getsC (o_if (fun x => x = 0) (o_const (.int 1) (nx 14)) (o_aload 0 (o_getSC (nx 14)))))
def B_J0_coder_7d493_14 (Q : SQ) (nx : Nat → SK) : SK := (o_nret .byte Q)
def P_J0_coder_7d493 (Q : SQ) (nx : Nat → SK) : Nat → SK := s_tab [(0, B_J0_coder_7d493_0 Q nx), (14, B_J0_coder_7d493_14 Q nx)]
def C_J0_coder_7d493 : SC := fun av sh me Q => match av with
  | [.ref a0] => s_wp P_J0_coder_7d493 Q 0 [some (.ref a0)] [] sh me
  | _ => False
abbrev rm_J0_coder_7d493 : Room := { frames := 0, cells := 0, slots := 0, locals := 0 }
theorem hd_J0_coder_7d493 : (yJ0_coder_7d493).cls ≠ "java/lang/invoke/MethodHandle" ∧ (yJ0_coder_7d493).cls ≠ "java/lang/invoke/VarHandle" ∧ (parseMethodDescriptor (yJ0_coder_7d493).desc).map (fun d => d.parameters.length) = some 0 := by decide +kernel
set_option maxRecDepth 100000 in
set_option maxHeartbeats 4000000 in
theorem b_J0_coder_7d493_0 (l : Launch) : s_B l rm_J0_coder_7d493 yJ0_coder_7d493 cJ0_coder_7d493 1 ((some FieldType.byte)) false 0 B_J0_coder_7d493_0 := fun p e s m args below meth c D ty ad A n0 φ0 Q G Y hY => (t_getsC G q3_86 dJ0_coder_7d493_0 (u_if_eq G dJ0_coder_7d493_3 (by decide) (u_iconst G dJ0_coder_7d493_13 (by decide) (hY 14)) (u_aload_n G dJ0_coder_7d493_6 rfl (t_getSC G q7_17 dJ0_coder_7d493_7 (t_goto G dJ0_coder_7d493_10 (by decide) (hY 14))))))
set_option maxRecDepth 100000 in
set_option maxHeartbeats 4000000 in
theorem b_J0_coder_7d493_14 (l : Launch) : s_B l rm_J0_coder_7d493 yJ0_coder_7d493 cJ0_coder_7d493 1 ((some FieldType.byte)) false 14 B_J0_coder_7d493_14 := fun p e s m args below meth c D ty ad A n0 φ0 Q G Y hY => (t_nret G rfl dJ0_coder_7d493_14)
set_option maxRecDepth 100000 in
theorem m_J0_coder_7d493 (l : Launch) : s_Met l yJ0_coder_7d493 cJ0_coder_7d493 1 ((some FieldType.byte)) rm_J0_coder_7d493 false C_J0_coder_7d493 := by
  intro D ty ad av φ sz sh me Q hsh hC
  unfold C_J0_coder_7d493 at hC
  split at hC
  · exact s_met1 (P := P_J0_coder_7d493) (by decide +kernel) (fun _ => ⟨rfl, rfl⟩) (fun p e s m args below meth c D ty ad A n0 φ0 Q G Y hY => s_tab_T _ (List.forall_mem_cons.mpr ⟨b_J0_coder_7d493_0 l p e s m args below meth c D ty ad A n0 φ0 Q G Y hY, List.forall_mem_cons.mpr ⟨b_J0_coder_7d493_14 l p e s m args below meth c D ty ad A n0 φ0 Q G Y hY, fun _ h => absurd h List.not_mem_nil⟩⟩)) hsh rfl rfl (Nat.le_of_ble_eq_true rfl) hC
  · exact hC.elim
def B_J0_isLatin1_aae02_0 (Q : SQ) (nx : Nat → SK) : SK := (o_getsC (o_if (fun x => x = 0) (nx 17) (o_aload 0 (o_getSC (o_if (fun x => ¬ x = 0) (nx 17) (o_const (.int 1) (nx 18)))))))
def B_J0_isLatin1_aae02_17 (Q : SQ) (nx : Nat → SK) : SK := (o_const (.int 0) (nx 18))
def B_J0_isLatin1_aae02_18 (Q : SQ) (nx : Nat → SK) : SK := (o_zret Q)
def P_J0_isLatin1_aae02 (Q : SQ) (nx : Nat → SK) : Nat → SK := s_tab [(0, B_J0_isLatin1_aae02_0 Q nx), (17, B_J0_isLatin1_aae02_17 Q nx), (18, B_J0_isLatin1_aae02_18 Q nx)]
def C_J0_isLatin1_aae02 : SC := fun av sh me Q => match av with
  | [.ref a0] => s_wp P_J0_isLatin1_aae02 Q 0 [some (.ref a0)] [] sh me
  | _ => False
abbrev rm_J0_isLatin1_aae02 : Room := { frames := 0, cells := 0, slots := 0, locals := 0 }
theorem hd_J0_isLatin1_aae02 : (yJ0_isLatin1_aae02).cls ≠ "java/lang/invoke/MethodHandle" ∧ (yJ0_isLatin1_aae02).cls ≠ "java/lang/invoke/VarHandle" ∧ (parseMethodDescriptor (yJ0_isLatin1_aae02).desc).map (fun d => d.parameters.length) = some 0 := by decide +kernel
set_option maxRecDepth 100000 in
set_option maxHeartbeats 4000000 in
theorem b_J0_isLatin1_aae02_0 (l : Launch) : s_B l rm_J0_isLatin1_aae02 yJ0_isLatin1_aae02 cJ0_isLatin1_aae02 1 ((some FieldType.boolean)) false 0 B_J0_isLatin1_aae02_0 := fun p e s m args below meth c D ty ad A n0 φ0 Q G Y hY => (t_getsC G q3_86 dJ0_isLatin1_aae02_0 (u_if_eq G dJ0_isLatin1_aae02_3 (by decide) (hY 17) (u_aload_n G dJ0_isLatin1_aae02_6 rfl (t_getSC G q7_17 dJ0_isLatin1_aae02_7 (u_if_ne G dJ0_isLatin1_aae02_10 (by decide) (hY 17) (u_iconst G dJ0_isLatin1_aae02_13 (by decide) (t_goto G dJ0_isLatin1_aae02_14 (by decide) (hY 18))))))))
set_option maxRecDepth 100000 in
set_option maxHeartbeats 4000000 in
theorem b_J0_isLatin1_aae02_17 (l : Launch) : s_B l rm_J0_isLatin1_aae02 yJ0_isLatin1_aae02 cJ0_isLatin1_aae02 1 ((some FieldType.boolean)) false 17 B_J0_isLatin1_aae02_17 := fun p e s m args below meth c D ty ad A n0 φ0 Q G Y hY => (u_iconst G dJ0_isLatin1_aae02_17 (by decide) (hY 18))
set_option maxRecDepth 100000 in
set_option maxHeartbeats 4000000 in
theorem b_J0_isLatin1_aae02_18 (l : Launch) : s_B l rm_J0_isLatin1_aae02 yJ0_isLatin1_aae02 cJ0_isLatin1_aae02 1 ((some FieldType.boolean)) false 18 B_J0_isLatin1_aae02_18 := fun p e s m args below meth c D ty ad A n0 φ0 Q G Y hY => (t_zret G rfl dJ0_isLatin1_aae02_18)
set_option maxRecDepth 100000 in
theorem m_J0_isLatin1_aae02 (l : Launch) : s_Met l yJ0_isLatin1_aae02 cJ0_isLatin1_aae02 1 ((some FieldType.boolean)) rm_J0_isLatin1_aae02 false C_J0_isLatin1_aae02 := by
  intro D ty ad av φ sz sh me Q hsh hC
  unfold C_J0_isLatin1_aae02 at hC
  split at hC
  · exact s_met1 (P := P_J0_isLatin1_aae02) (by decide +kernel) (fun _ => ⟨rfl, rfl⟩) (fun p e s m args below meth c D ty ad A n0 φ0 Q G Y hY => s_tab_T _ (List.forall_mem_cons.mpr ⟨b_J0_isLatin1_aae02_0 l p e s m args below meth c D ty ad A n0 φ0 Q G Y hY, List.forall_mem_cons.mpr ⟨b_J0_isLatin1_aae02_17 l p e s m args below meth c D ty ad A n0 φ0 Q G Y hY, List.forall_mem_cons.mpr ⟨b_J0_isLatin1_aae02_18 l p e s m args below meth c D ty ad A n0 φ0 Q G Y hY, fun _ h => absurd h List.not_mem_nil⟩⟩⟩)) hsh rfl rfl (Nat.le_of_ble_eq_true rfl) hC
  · exact hC.elim
def B_J3_checkIndex_8e157_0 (Q : SQ) (nx : Nat → SK) : SK := (o_iload 0 (o_if (fun x => x < 0) (nx 9) (o_iload 0 (o_iload 1 (o_ic (fun x y => x < y) (o_iload 0 (o_iret Q)) (nx 9))))))
def B_J3_checkIndex_8e157_9 (Q : SQ) (nx : Nat → SK) : SK := (o_aload 2 (o_iload 0 (o_iload 1 o_bad)))
def P_J3_checkIndex_8e157 (Q : SQ) (nx : Nat → SK) : Nat → SK := s_tab [(0, B_J3_checkIndex_8e157_0 Q nx), (9, B_J3_checkIndex_8e157_9 Q nx)]
def C_J3_checkIndex_8e157 : SC := fun av sh me Q => match av with
  | [.int a0, .int a1, .ref a2] => s_wp P_J3_checkIndex_8e157 Q 0 [some (.int a0), some (.int a1), some (.ref a2)] [] sh me
  | [.int a0, .int a1, .null] => s_wp P_J3_checkIndex_8e157 Q 0 [some (.int a0), some (.int a1), some .null] [] sh me
  | _ => False
abbrev rm_J3_checkIndex_8e157 : Room := { frames := 0, cells := 0, slots := 0, locals := 0 }
theorem hd_J3_checkIndex_8e157 : (yJ3_checkIndex_8e157).cls ≠ "java/lang/invoke/MethodHandle" ∧ (yJ3_checkIndex_8e157).cls ≠ "java/lang/invoke/VarHandle" ∧ (parseMethodDescriptor (yJ3_checkIndex_8e157).desc).map (fun d => d.parameters.length) = some 3 := by decide +kernel
set_option maxRecDepth 100000 in
set_option maxHeartbeats 4000000 in
theorem b_J3_checkIndex_8e157_0 (l : Launch) : s_B l rm_J3_checkIndex_8e157 yJ3_checkIndex_8e157 cJ3_checkIndex_8e157 3 ((some FieldType.int)) false 0 B_J3_checkIndex_8e157_0 := fun p e s m args below meth c D ty ad A n0 φ0 Q G Y hY => (u_iload_n G dJ3_checkIndex_8e157_0 rfl (u_if_lt G dJ3_checkIndex_8e157_1 (by decide) (hY 9) (u_iload_n G dJ3_checkIndex_8e157_4 rfl (u_iload_n G dJ3_checkIndex_8e157_5 rfl (u_icmp_lt G dJ3_checkIndex_8e157_6 (by decide) (u_iload_n G dJ3_checkIndex_8e157_16 rfl (t_iret G rfl dJ3_checkIndex_8e157_17)) (hY 9))))))
set_option maxRecDepth 100000 in
set_option maxHeartbeats 4000000 in
theorem b_J3_checkIndex_8e157_9 (l : Launch) : s_B l rm_J3_checkIndex_8e157 yJ3_checkIndex_8e157 cJ3_checkIndex_8e157 3 ((some FieldType.int)) false 9 B_J3_checkIndex_8e157_9 := fun p e s m args below meth c D ty ad A n0 φ0 Q G Y hY => (u_aload_n G dJ3_checkIndex_8e157_9 rfl (u_iload_n G dJ3_checkIndex_8e157_10 rfl (u_iload_n G dJ3_checkIndex_8e157_11 rfl t_bad)))
set_option maxRecDepth 100000 in
theorem m_J3_checkIndex_8e157 (l : Launch) : s_Met l yJ3_checkIndex_8e157 cJ3_checkIndex_8e157 3 ((some FieldType.int)) rm_J3_checkIndex_8e157 false C_J3_checkIndex_8e157 := by
  intro D ty ad av φ sz sh me Q hsh hC
  unfold C_J3_checkIndex_8e157 at hC
  split at hC
  · exact s_met1 (P := P_J3_checkIndex_8e157) (by decide +kernel) (fun _ => ⟨rfl, rfl⟩) (fun p e s m args below meth c D ty ad A n0 φ0 Q G Y hY => s_tab_T _ (List.forall_mem_cons.mpr ⟨b_J3_checkIndex_8e157_0 l p e s m args below meth c D ty ad A n0 φ0 Q G Y hY, List.forall_mem_cons.mpr ⟨b_J3_checkIndex_8e157_9 l p e s m args below meth c D ty ad A n0 φ0 Q G Y hY, fun _ h => absurd h List.not_mem_nil⟩⟩)) hsh rfl rfl (Nat.le_of_ble_eq_true rfl) hC
  · exact s_met1 (P := P_J3_checkIndex_8e157) (by decide +kernel) (fun _ => ⟨rfl, rfl⟩) (fun p e s m args below meth c D ty ad A n0 φ0 Q G Y hY => s_tab_T _ (List.forall_mem_cons.mpr ⟨b_J3_checkIndex_8e157_0 l p e s m args below meth c D ty ad A n0 φ0 Q G Y hY, List.forall_mem_cons.mpr ⟨b_J3_checkIndex_8e157_9 l p e s m args below meth c D ty ad A n0 φ0 Q G Y hY, fun _ h => absurd h List.not_mem_nil⟩⟩)) hsh rfl rfl (Nat.le_of_ble_eq_true rfl) hC
  · exact hC.elim
def B_J0_checkIndex_df160_0 (Q : SQ) (nx : Nat → SK) : SK := (o_iload 0 (o_iload 1 (o_getsF (o_call C_J3_checkIndex_8e157 3 (o_pop (o_vret Q))))))
def P_J0_checkIndex_df160 (Q : SQ) (nx : Nat → SK) : Nat → SK := s_tab [(0, B_J0_checkIndex_df160_0 Q nx)]
def C_J0_checkIndex_df160 : SC := fun av sh me Q => match av with
  | [.int a0, .int a1] => s_wp P_J0_checkIndex_df160 Q 0 [some (.int a0), some (.int a1)] [] sh me
  | _ => False
abbrev rm_J0_checkIndex_df160 : Room := { frames := 1, cells := 0, slots := 0, locals := 22 }
theorem hd_J0_checkIndex_df160 : (yJ0_checkIndex_df160).cls ≠ "java/lang/invoke/MethodHandle" ∧ (yJ0_checkIndex_df160).cls ≠ "java/lang/invoke/VarHandle" ∧ (parseMethodDescriptor (yJ0_checkIndex_df160).desc).map (fun d => d.parameters.length) = some 2 := by decide +kernel
set_option maxRecDepth 100000 in
set_option maxHeartbeats 4000000 in
theorem b_J0_checkIndex_df160_0 (l : Launch) : s_B l rm_J0_checkIndex_df160 yJ0_checkIndex_df160 cJ0_checkIndex_df160 2 ((none : Option FieldType)) false 0 B_J0_checkIndex_df160_0 := fun p e s m args below meth c D ty ad A n0 φ0 Q G Y hY => (u_iload_n G dJ0_checkIndex_df160_0 rfl (u_iload_n G dJ0_checkIndex_df160_1 rfl (t_getsF G q3_102 dJ0_checkIndex_df160_2 (t_callS G (m_J3_checkIndex_8e157 l) ⟨rfl, rfl⟩ rfl ⟨Nat.le_of_ble_eq_true rfl, Nat.le_of_ble_eq_true rfl⟩ q3_106 q1_16 (Or.inl q3_104) q3_105 hd_J3_checkIndex_8e157 dJ0_checkIndex_df160_5 (t_pop G dJ0_checkIndex_df160_8 (t_vret G rfl dJ0_checkIndex_df160_9))))))
set_option maxRecDepth 100000 in
theorem m_J0_checkIndex_df160 (l : Launch) : s_Met l yJ0_checkIndex_df160 cJ0_checkIndex_df160 2 ((none : Option FieldType)) rm_J0_checkIndex_df160 false C_J0_checkIndex_df160 := by
  intro D ty ad av φ sz sh me Q hsh hC
  unfold C_J0_checkIndex_df160 at hC
  split at hC
  · exact s_met1 (P := P_J0_checkIndex_df160) (by decide +kernel) (fun _ => ⟨rfl, rfl⟩) (fun p e s m args below meth c D ty ad A n0 φ0 Q G Y hY => s_tab_T _ (List.forall_mem_cons.mpr ⟨b_J0_checkIndex_df160_0 l p e s m args below meth c D ty ad A n0 φ0 Q G Y hY, fun _ h => absurd h List.not_mem_nil⟩)) hsh rfl rfl (Nat.le_of_ble_eq_true rfl) hC
  · exact hC.elim
def B_J1_charAt_3b067_0 (Q : SQ) (nx : Nat → SK) : SK := (o_iload 1 (o_aload 0 (o_lenSB (o_call C_J0_checkIndex_df160 2 (o_aload 0 (o_iload 1 (o_baS (o_const (.int 255) (o_i2 (fun x y => x &&& y) (o_i1 (fun x => (x.toUInt32 % 65536).toInt32) (o_nret .char Q)))))))))))
def P_J1_charAt_3b067 (Q : SQ) (nx : Nat → SK) : Nat → SK := s_tab [(0, B_J1_charAt_3b067_0 Q nx)]
def C_J1_charAt_3b067 : SC := fun av sh me Q => match av with
  | [.ref a0, .int a1] => s_wp P_J1_charAt_3b067 Q 0 [some (.ref a0), some (.int a1)] [] sh me
  | _ => False
abbrev rm_J1_charAt_3b067 : Room := { frames := 2, cells := 0, slots := 0, locals := 43 }
theorem hd_J1_charAt_3b067 : (yJ1_charAt_3b067).cls ≠ "java/lang/invoke/MethodHandle" ∧ (yJ1_charAt_3b067).cls ≠ "java/lang/invoke/VarHandle" ∧ (parseMethodDescriptor (yJ1_charAt_3b067).desc).map (fun d => d.parameters.length) = some 2 := by decide +kernel
set_option maxRecDepth 100000 in
set_option maxHeartbeats 4000000 in
theorem b_J1_charAt_3b067_0 (l : Launch) : s_B l rm_J1_charAt_3b067 yJ1_charAt_3b067 cJ1_charAt_3b067 2 ((some FieldType.char)) false 0 B_J1_charAt_3b067_0 := fun p e s m args below meth c D ty ad A n0 φ0 Q G Y hY => (u_iload_n G dJ1_charAt_3b067_0 rfl (u_aload_n G dJ1_charAt_3b067_1 rfl (t_lenSB G dJ1_charAt_3b067_2 (t_callS G (m_J0_checkIndex_df160 l) ⟨rfl, rfl⟩ rfl ⟨Nat.le_of_ble_eq_true rfl, Nat.le_of_ble_eq_true rfl⟩ q3_101 q1_14 (Or.inl q3_99) q3_100 hd_J0_checkIndex_df160 dJ1_charAt_3b067_3 (u_aload_n G dJ1_charAt_3b067_6 rfl (u_iload_n G dJ1_charAt_3b067_7 rfl (t_baS G dJ1_charAt_3b067_8 (u_sipush G dJ1_charAt_3b067_9 (by decide) (u_iand G dJ1_charAt_3b067_12 (u_i2c G dJ1_charAt_3b067_13 (t_nret G rfl dJ1_charAt_3b067_14)))))))))))
set_option maxRecDepth 100000 in
theorem m_J1_charAt_3b067 (l : Launch) : s_Met l yJ1_charAt_3b067 cJ1_charAt_3b067 2 ((some FieldType.char)) rm_J1_charAt_3b067 false C_J1_charAt_3b067 := by
  intro D ty ad av φ sz sh me Q hsh hC
  unfold C_J1_charAt_3b067 at hC
  split at hC
  · exact s_met1 (P := P_J1_charAt_3b067) (by decide +kernel) (fun _ => ⟨rfl, rfl⟩) (fun p e s m args below meth c D ty ad A n0 φ0 Q G Y hY => s_tab_T _ (List.forall_mem_cons.mpr ⟨b_J1_charAt_3b067_0 l p e s m args below meth c D ty ad A n0 φ0 Q G Y hY, fun _ h => absurd h List.not_mem_nil⟩)) hsh rfl rfl (Nat.le_of_ble_eq_true rfl) hC
  · exact hC.elim
def B_J0_length_8abf5_0 (Q : SQ) (nx : Nat → SK) : SK := (o_aload 0 (o_getSV (o_lenSB (o_aload 0 (o_callVS C_J0_coder_7d493 1 (o_i2 (fun x y => x >>> (y &&& 31)) (o_iret Q)))))))
def P_J0_length_8abf5 (Q : SQ) (nx : Nat → SK) : Nat → SK := s_tab [(0, B_J0_length_8abf5_0 Q nx)]
def C_J0_length_8abf5 : SC := fun av sh me Q => match av with
  | [.ref a0] => s_wp P_J0_length_8abf5 Q 0 [some (.ref a0)] [] sh me
  | _ => False
abbrev rm_J0_length_8abf5 : Room := { frames := 1, cells := 0, slots := 0, locals := 20 }
theorem hd_J0_length_8abf5 : (yJ0_length_8abf5).cls ≠ "java/lang/invoke/MethodHandle" ∧ (yJ0_length_8abf5).cls ≠ "java/lang/invoke/VarHandle" ∧ (parseMethodDescriptor (yJ0_length_8abf5).desc).map (fun d => d.parameters.length) = some 0 := by decide +kernel
set_option maxRecDepth 100000 in
set_option maxHeartbeats 4000000 in
theorem b_J0_length_8abf5_0 (l : Launch) : s_B l rm_J0_length_8abf5 yJ0_length_8abf5 cJ0_length_8abf5 1 ((some FieldType.int)) false 0 B_J0_length_8abf5_0 := fun p e s m args below meth c D ty ad A n0 φ0 Q G Y hY => (u_aload_n G dJ0_length_8abf5_0 rfl (t_getSV G q7_16 dJ0_length_8abf5_1 (t_lenSB G dJ0_length_8abf5_4 (u_aload_n G dJ0_length_8abf5_5 rfl (t_callVS G rfl (m_J0_coder_7d493 l) ⟨rfl, rfl⟩ rfl ⟨Nat.le_of_ble_eq_true rfl, Nat.le_of_ble_eq_true rfl⟩ q3_85 q1_14 q3_82 q3_83 q3_84 hd_J0_coder_7d493 dJ0_length_8abf5_6 (u_ishr G dJ0_length_8abf5_9 (t_iret G rfl dJ0_length_8abf5_10)))))))
set_option maxRecDepth 100000 in
theorem m_J0_length_8abf5 (l : Launch) : s_Met l yJ0_length_8abf5 cJ0_length_8abf5 1 ((some FieldType.int)) rm_J0_length_8abf5 false C_J0_length_8abf5 := by
  intro D ty ad av φ sz sh me Q hsh hC
  unfold C_J0_length_8abf5 at hC
  split at hC
  · exact s_met1 (P := P_J0_length_8abf5) (by decide +kernel) (fun _ => ⟨rfl, rfl⟩) (fun p e s m args below meth c D ty ad A n0 φ0 Q G Y hY => s_tab_T _ (List.forall_mem_cons.mpr ⟨b_J0_length_8abf5_0 l p e s m args below meth c D ty ad A n0 φ0 Q G Y hY, fun _ h => absurd h List.not_mem_nil⟩)) hsh rfl rfl (Nat.le_of_ble_eq_true rfl) hC
  · exact hC.elim
def B_J0_charAt_5068e_0 (Q : SQ) (nx : Nat → SK) : SK := (o_aload 0 (o_callVS C_J0_isLatin1_aae02 1 (o_if (fun x => x = 0) (o_aload 0 (o_getSV (o_iload 1 o_bad))) (o_aload 0 (o_getSV (o_iload 1 (o_call C_J1_charAt_3b067 2 (o_nret .char Q))))))))
def P_J0_charAt_5068e (Q : SQ) (nx : Nat → SK) : Nat → SK := s_tab [(0, B_J0_charAt_5068e_0 Q nx)]
def C_J0_charAt_5068e : SC := fun av sh me Q => match av with
  | [.ref a0, .int a1] => s_wp P_J0_charAt_5068e Q 0 [some (.ref a0), some (.int a1)] [] sh me
  | _ => False
abbrev rm_J0_charAt_5068e : Room := { frames := 3, cells := 0, slots := 0, locals := 64 }
theorem hd_J0_charAt_5068e : (yJ0_charAt_5068e).cls ≠ "java/lang/invoke/MethodHandle" ∧ (yJ0_charAt_5068e).cls ≠ "java/lang/invoke/VarHandle" ∧ (parseMethodDescriptor (yJ0_charAt_5068e).desc).map (fun d => d.parameters.length) = some 1 := by decide +kernel
set_option maxRecDepth 100000 in
set_option maxHeartbeats 4000000 in
theorem b_J0_charAt_5068e_0 (l : Launch) : s_B l rm_J0_charAt_5068e yJ0_charAt_5068e cJ0_charAt_5068e 2 ((some FieldType.char)) false 0 B_J0_charAt_5068e_0 := fun p e s m args below meth c D ty ad A n0 φ0 Q G Y hY => (u_aload_n G dJ0_charAt_5068e_0 rfl (t_callVS G rfl (m_J0_isLatin1_aae02 l) ⟨rfl, rfl⟩ rfl ⟨Nat.le_of_ble_eq_true rfl, Nat.le_of_ble_eq_true rfl⟩ q3_95 q1_14 q3_92 q3_93 q3_94 hd_J0_isLatin1_aae02 dJ0_charAt_5068e_1 (u_if_eq G dJ0_charAt_5068e_4 (by decide) (u_aload_n G dJ0_charAt_5068e_16 rfl (t_getSV G q7_16 dJ0_charAt_5068e_17 (u_iload_n G dJ0_charAt_5068e_20 rfl t_bad))) (u_aload_n G dJ0_charAt_5068e_7 rfl (t_getSV G q7_16 dJ0_charAt_5068e_8 (u_iload_n G dJ0_charAt_5068e_11 rfl (t_callS G (m_J1_charAt_3b067 l) ⟨rfl, rfl⟩ rfl ⟨Nat.le_of_ble_eq_true rfl, Nat.le_of_ble_eq_true rfl⟩ q3_98 q1_15 (Or.inl q3_96) q3_97 hd_J1_charAt_3b067 dJ0_charAt_5068e_12 (t_nret G rfl dJ0_charAt_5068e_15))))))))
set_option maxRecDepth 100000 in
theorem m_J0_charAt_5068e (l : Launch) : s_Met l yJ0_charAt_5068e cJ0_charAt_5068e 2 ((some FieldType.char)) rm_J0_charAt_5068e false C_J0_charAt_5068e := by
  intro D ty ad av φ sz sh me Q hsh hC
  unfold C_J0_charAt_5068e at hC
  split at hC
  · exact s_met1 (P := P_J0_charAt_5068e) (by decide +kernel) (fun _ => ⟨rfl, rfl⟩) (fun p e s m args below meth c D ty ad A n0 φ0 Q G Y hY => s_tab_T _ (List.forall_mem_cons.mpr ⟨b_J0_charAt_5068e_0 l p e s m args below meth c D ty ad A n0 φ0 Q G Y hY, fun _ h => absurd h List.not_mem_nil⟩)) hsh rfl rfl (Nat.le_of_ble_eq_true rfl) hC
  · exact hC.elim
def B_J13_bitCount_95d88_0 (Q : SQ) (nx : Nat → SK) : SK := (o_lload 0 (o_lload 0 (o_const (.int 1) (o_lsh (fun x y => (x.toUInt64 >>> (y.toInt64.toUInt64 &&& Int64.toUInt64 63)).toInt64) (o_const (.long 6148914691236517205) (o_l2 (fun x y => x &&& y) (o_l2 (fun x y => x - y) (o_lstore 0 (o_lload 0 (o_const (.long 3689348814741910323) (o_l2 (fun x y => x &&& y) (o_lload 0 (o_const (.int 2) (o_lsh (fun x y => (x.toUInt64 >>> (y.toInt64.toUInt64 &&& Int64.toUInt64 63)).toInt64) (o_const (.long 3689348814741910323) (o_l2 (fun x y => x &&& y) (o_l2 (fun x y => x + y) (o_lstore 0 (o_lload 0 (o_lload 0 (o_const (.int 4) (o_lsh (fun x y => (x.toUInt64 >>> (y.toInt64.toUInt64 &&& Int64.toUInt64 63)).toInt64) (o_l2 (fun x y => x + y) (o_const (.long 1085102592571150095) (o_l2 (fun x y => x &&& y) (o_lstore 0 (o_lload 0 (o_lload 0 (o_const (.int 8) (o_lsh (fun x y => (x.toUInt64 >>> (y.toInt64.toUInt64 &&& Int64.toUInt64 63)).toInt64) (o_l2 (fun x y => x + y) (o_lstore 0 (o_lload 0 (o_lload 0 (o_const (.int 16) (o_lsh (fun x y => (x.toUInt64 >>> (y.toInt64.toUInt64 &&& Int64.toUInt64 63)).toInt64) (o_l2 (fun x y => x + y) (o_lstore 0 (o_lload 0 (o_lload 0 (o_const (.int 32) (o_lsh (fun x y => (x.toUInt64 >>> (y.toInt64.toUInt64 &&& Int64.toUInt64 63)).toInt64) (o_l2 (fun x y => x + y) (o_lstore 0 (o_lload 0 (o_li (o_const (.int 127) (o_i2 (fun x y => x &&& y) (o_iret Q)))))))))))))))))))))))))))))))))))))))))))))))))
def P_J13_bitCount_95d88 (Q : SQ) (nx : Nat → SK) : Nat → SK := s_tab [(0, B_J13_bitCount_95d88_0 Q nx)]
def C_J13_bitCount_95d88 : SC := fun av sh me Q => match av with
  | [.long a0] => s_wp P_J13_bitCount_95d88 Q 0 [some (.long a0), none] [] sh me
  | _ => False
abbrev rm_J13_bitCount_95d88 : Room := { frames := 0, cells := 0, slots := 0, locals := 0 }
theorem hd_J13_bitCount_95d88 : (yJ13_bitCount_95d88).cls ≠ "java/lang/invoke/MethodHandle" ∧ (yJ13_bitCount_95d88).cls ≠ "java/lang/invoke/VarHandle" ∧ (parseMethodDescriptor (yJ13_bitCount_95d88).desc).map (fun d => d.parameters.length) = some 1 := by decide +kernel
set_option maxRecDepth 100000 in
set_option maxHeartbeats 4000000 in
theorem b_J13_bitCount_95d88_0 (l : Launch) : s_B l rm_J13_bitCount_95d88 yJ13_bitCount_95d88 cJ13_bitCount_95d88 2 ((some FieldType.int)) false 0 B_J13_bitCount_95d88_0 := fun p e s m args below meth c D ty ad A n0 φ0 Q G Y hY => (u_lload_n G dJ13_bitCount_95d88_0 rfl (u_lload_n G dJ13_bitCount_95d88_1 rfl (u_iconst G dJ13_bitCount_95d88_2 (by decide) (u_lushr G dJ13_bitCount_95d88_3 (u_ldc2_w G q4_138 dJ13_bitCount_95d88_4 (u_land G dJ13_bitCount_95d88_7 (u_lsub G dJ13_bitCount_95d88_8 (u_lstore_n G dJ13_bitCount_95d88_9 rfl (u_lload_n G dJ13_bitCount_95d88_10 rfl (u_ldc2_w G q4_139 dJ13_bitCount_95d88_11 (u_land G dJ13_bitCount_95d88_14 (u_lload_n G dJ13_bitCount_95d88_15 rfl (u_iconst G dJ13_bitCount_95d88_16 (by decide) (u_lushr G dJ13_bitCount_95d88_17 (u_ldc2_w G q4_139 dJ13_bitCount_95d88_18 (u_land G dJ13_bitCount_95d88_21 (u_ladd G dJ13_bitCount_95d88_22 (u_lstore_n G dJ13_bitCount_95d88_23 rfl (u_lload_n G dJ13_bitCount_95d88_24 rfl (u_lload_n G dJ13_bitCount_95d88_25 rfl (u_iconst G dJ13_bitCount_95d88_26 (by decide) (u_lushr G dJ13_bitCount_95d88_27 (u_ladd G dJ13_bitCount_95d88_28 (u_ldc2_w G q4_140 dJ13_bitCount_95d88_29 (u_land G dJ13_bitCount_95d88_32 (u_lstore_n G dJ13_bitCount_95d88_33 rfl (u_lload_n G dJ13_bitCount_95d88_34 rfl (u_lload_n G dJ13_bitCount_95d88_35 rfl (u_bipush G dJ13_bitCount_95d88_36 (by decide) (u_lushr G dJ13_bitCount_95d88_38 (u_ladd G dJ13_bitCount_95d88_39 (u_lstore_n G dJ13_bitCount_95d88_40 rfl (u_lload_n G dJ13_bitCount_95d88_41 rfl (u_lload_n G dJ13_bitCount_95d88_42 rfl (u_bipush G dJ13_bitCount_95d88_43 (by decide) (u_lushr G dJ13_bitCount_95d88_45 (u_ladd G dJ13_bitCount_95d88_46 (u_lstore_n G dJ13_bitCount_95d88_47 rfl (u_lload_n G dJ13_bitCount_95d88_48 rfl (u_lload_n G dJ13_bitCount_95d88_49 rfl (u_bipush G dJ13_bitCount_95d88_50 (by decide) (u_lushr G dJ13_bitCount_95d88_52 (u_ladd G dJ13_bitCount_95d88_53 (u_lstore_n G dJ13_bitCount_95d88_54 rfl (u_lload_n G dJ13_bitCount_95d88_55 rfl (t_li G dJ13_bitCount_95d88_56 (u_bipush G dJ13_bitCount_95d88_57 (by decide) (u_iand G dJ13_bitCount_95d88_59 (t_iret G rfl dJ13_bitCount_95d88_60)))))))))))))))))))))))))))))))))))))))))))))))))
set_option maxRecDepth 100000 in
theorem m_J13_bitCount_95d88 (l : Launch) : s_Met l yJ13_bitCount_95d88 cJ13_bitCount_95d88 2 ((some FieldType.int)) rm_J13_bitCount_95d88 false C_J13_bitCount_95d88 := by
  intro D ty ad av φ sz sh me Q hsh hC
  unfold C_J13_bitCount_95d88 at hC
  split at hC
  · exact s_met1 (P := P_J13_bitCount_95d88) (by decide +kernel) (fun _ => ⟨rfl, rfl⟩) (fun p e s m args below meth c D ty ad A n0 φ0 Q G Y hY => s_tab_T _ (List.forall_mem_cons.mpr ⟨b_J13_bitCount_95d88_0 l p e s m args below meth c D ty ad A n0 φ0 Q G Y hY, fun _ h => absurd h List.not_mem_nil⟩)) hsh rfl rfl (Nat.le_of_ble_eq_true rfl) hC
  · exact hC.elim
def B_J6_bitCount_0f7a4_0 (Q : SQ) (nx : Nat → SK) : SK := (o_iload 0 (o_iload 0 (o_const (.int 1) (o_i2 (fun x y => (x.toUInt32 >>> (y.toUInt32 &&& Int32.toUInt32 31)).toInt32) (o_const (.int 1431655765) (o_i2 (fun x y => x &&& y) (o_i2 (fun x y => x - y) (o_istore 0 (o_iload 0 (o_const (.int 858993459) (o_i2 (fun x y => x &&& y) (o_iload 0 (o_const (.int 2) (o_i2 (fun x y => (x.toUInt32 >>> (y.toUInt32 &&& Int32.toUInt32 31)).toInt32) (o_const (.int 858993459) (o_i2 (fun x y => x &&& y) (o_i2 (fun x y => x + y) (o_istore 0 (o_iload 0 (o_iload 0 (o_const (.int 4) (o_i2 (fun x y => (x.toUInt32 >>> (y.toUInt32 &&& Int32.toUInt32 31)).toInt32) (o_i2 (fun x y => x + y) (o_const (.int 252645135) (o_i2 (fun x y => x &&& y) (o_istore 0 (o_iload 0 (o_iload 0 (o_const (.int 8) (o_i2 (fun x y => (x.toUInt32 >>> (y.toUInt32 &&& Int32.toUInt32 31)).toInt32) (o_i2 (fun x y => x + y) (o_istore 0 (o_iload 0 (o_iload 0 (o_const (.int 16) (o_i2 (fun x y => (x.toUInt32 >>> (y.toUInt32 &&& Int32.toUInt32 31)).toInt32) (o_i2 (fun x y => x + y) (o_istore 0 (o_iload 0 (o_const (.int 63) (o_i2 (fun x y => x &&& y) (o_iret Q))))))))))))))))))))))))))))))))))))))))))
def P_J6_bitCount_0f7a4 (Q : SQ) (nx : Nat → SK) : Nat → SK := s_tab [(0, B_J6_bitCount_0f7a4_0 Q nx)]
def C_J6_bitCount_0f7a4 : SC := fun av sh me Q => match av with
  | [.int a0] => s_wp P_J6_bitCount_0f7a4 Q 0 [some (.int a0)] [] sh me
  | _ => False
abbrev rm_J6_bitCount_0f7a4 : Room := { frames := 0, cells := 0, slots := 0, locals := 0 }
theorem hd_J6_bitCount_0f7a4 : (yJ6_bitCount_0f7a4).cls ≠ "java/lang/invoke/MethodHandle" ∧ (yJ6_bitCount_0f7a4).cls ≠ "java/lang/invoke/VarHandle" ∧ (parseMethodDescriptor (yJ6_bitCount_0f7a4).desc).map (fun d => d.parameters.length) = some 1 := by decide +kernel
set_option maxRecDepth 100000 in
set_option maxHeartbeats 4000000 in
theorem b_J6_bitCount_0f7a4_0 (l : Launch) : s_B l rm_J6_bitCount_0f7a4 yJ6_bitCount_0f7a4 cJ6_bitCount_0f7a4 1 ((some FieldType.int)) false 0 B_J6_bitCount_0f7a4_0 := fun p e s m args below meth c D ty ad A n0 φ0 Q G Y hY => (u_iload_n G dJ6_bitCount_0f7a4_0 rfl (u_iload_n G dJ6_bitCount_0f7a4_1 rfl (u_iconst G dJ6_bitCount_0f7a4_2 (by decide) (u_iushr G dJ6_bitCount_0f7a4_3 (u_ldc_w G q3_219 dJ6_bitCount_0f7a4_4 (u_iand G dJ6_bitCount_0f7a4_7 (u_isub G dJ6_bitCount_0f7a4_8 (u_istore_n G dJ6_bitCount_0f7a4_9 rfl (u_iload_n G dJ6_bitCount_0f7a4_10 rfl (u_ldc_w G q3_220 dJ6_bitCount_0f7a4_11 (u_iand G dJ6_bitCount_0f7a4_14 (u_iload_n G dJ6_bitCount_0f7a4_15 rfl (u_iconst G dJ6_bitCount_0f7a4_16 (by decide) (u_iushr G dJ6_bitCount_0f7a4_17 (u_ldc_w G q3_220 dJ6_bitCount_0f7a4_18 (u_iand G dJ6_bitCount_0f7a4_21 (u_iadd G dJ6_bitCount_0f7a4_22 (u_istore_n G dJ6_bitCount_0f7a4_23 rfl (u_iload_n G dJ6_bitCount_0f7a4_24 rfl (u_iload_n G dJ6_bitCount_0f7a4_25 rfl (u_iconst G dJ6_bitCount_0f7a4_26 (by decide) (u_iushr G dJ6_bitCount_0f7a4_27 (u_iadd G dJ6_bitCount_0f7a4_28 (u_ldc_w G q3_221 dJ6_bitCount_0f7a4_29 (u_iand G dJ6_bitCount_0f7a4_32 (u_istore_n G dJ6_bitCount_0f7a4_33 rfl (u_iload_n G dJ6_bitCount_0f7a4_34 rfl (u_iload_n G dJ6_bitCount_0f7a4_35 rfl (u_bipush G dJ6_bitCount_0f7a4_36 (by decide) (u_iushr G dJ6_bitCount_0f7a4_38 (u_iadd G dJ6_bitCount_0f7a4_39 (u_istore_n G dJ6_bitCount_0f7a4_40 rfl (u_iload_n G dJ6_bitCount_0f7a4_41 rfl (u_iload_n G dJ6_bitCount_0f7a4_42 rfl (u_bipush G dJ6_bitCount_0f7a4_43 (by decide) (u_iushr G dJ6_bitCount_0f7a4_45 (u_iadd G dJ6_bitCount_0f7a4_46 (u_istore_n G dJ6_bitCount_0f7a4_47 rfl (u_iload_n G dJ6_bitCount_0f7a4_48 rfl (u_bipush G dJ6_bitCount_0f7a4_49 (by decide) (u_iand G dJ6_bitCount_0f7a4_51 (t_iret G rfl dJ6_bitCount_0f7a4_52))))))))))))))))))))))))))))))))))))))))))
set_option maxRecDepth 100000 in
theorem m_J6_bitCount_0f7a4 (l : Launch) : s_Met l yJ6_bitCount_0f7a4 cJ6_bitCount_0f7a4 1 ((some FieldType.int)) rm_J6_bitCount_0f7a4 false C_J6_bitCount_0f7a4 := by
  intro D ty ad av φ sz sh me Q hsh hC
  unfold C_J6_bitCount_0f7a4 at hC
  split at hC
  · exact s_met1 (P := P_J6_bitCount_0f7a4) (by decide +kernel) (fun _ => ⟨rfl, rfl⟩) (fun p e s m args below meth c D ty ad A n0 φ0 Q G Y hY => s_tab_T _ (List.forall_mem_cons.mpr ⟨b_J6_bitCount_0f7a4_0 l p e s m args below meth c D ty ad A n0 φ0 Q G Y hY, fun _ h => absurd h List.not_mem_nil⟩)) hsh rfl rfl (Nat.le_of_ble_eq_true rfl) hC
  · exact hC.elim
def B_J7_fill_53178_0 (Q : SQ) (nx : Nat → SK) : SK := (o_const (.int 0) (o_istore 2 (o_aload 0 (o_alen 10 (o_istore 3 (nx 5))))))
def B_J7_fill_53178_5 (Q : SQ) (nx : Nat → SK) : SK := (o_iload 2 (o_iload 3 (o_ic (fun x y => y ≤ x) (o_vret Q) (o_aload 0 (o_iload 2 (o_iload 1 (o_iast (o_iinc 2 1 (nx 5)))))))))
def P_J7_fill_53178 (Q : SQ) (nx : Nat → SK) : Nat → SK := s_tab [(0, B_J7_fill_53178_0 Q nx), (5, B_J7_fill_53178_5 Q nx)]
def C_J7_fill_53178 : SC := fun av sh me Q => match av with
  | [.ref a0, .int a1] => s_wp P_J7_fill_53178 Q 0 [some (.ref a0), some (.int a1), none, none] [] sh me
  | _ => False
abbrev rm_J7_fill_53178 : Room := { frames := 0, cells := 0, slots := 0, locals := 0 }
theorem hd_J7_fill_53178 : (yJ7_fill_53178).cls ≠ "java/lang/invoke/MethodHandle" ∧ (yJ7_fill_53178).cls ≠ "java/lang/invoke/VarHandle" ∧ (parseMethodDescriptor (yJ7_fill_53178).desc).map (fun d => d.parameters.length) = some 2 := by decide +kernel
set_option maxRecDepth 100000 in
set_option maxHeartbeats 4000000 in
theorem b_J7_fill_53178_0 (l : Launch) : s_B l rm_J7_fill_53178 yJ7_fill_53178 cJ7_fill_53178 4 ((none : Option FieldType)) false 0 B_J7_fill_53178_0 := fun p e s m args below meth c D ty ad A n0 φ0 Q G Y hY => (u_iconst G dJ7_fill_53178_0 (by decide) (u_istore_n G dJ7_fill_53178_1 rfl (u_aload_n G dJ7_fill_53178_2 rfl (t_alen G (by decide) dJ7_fill_53178_3 (u_istore_n G dJ7_fill_53178_4 rfl (hY 5))))))
set_option maxRecDepth 100000 in
set_option maxHeartbeats 4000000 in
theorem b_J7_fill_53178_5 (l : Launch) : s_B l rm_J7_fill_53178 yJ7_fill_53178 cJ7_fill_53178 4 ((none : Option FieldType)) false 5 B_J7_fill_53178_5 := fun p e s m args below meth c D ty ad A n0 φ0 Q G Y hY => (u_iload_n G dJ7_fill_53178_5 rfl (u_iload_n G dJ7_fill_53178_6 rfl (u_icmp_ge G dJ7_fill_53178_7 (by decide) (t_vret G rfl dJ7_fill_53178_20) (u_aload_n G dJ7_fill_53178_10 rfl (u_iload_n G dJ7_fill_53178_11 rfl (u_iload_n G dJ7_fill_53178_12 rfl (t_iast G dJ7_fill_53178_13 (t_iinc G dJ7_fill_53178_14 (by decide) (t_goto G dJ7_fill_53178_17 (by decide) (hY 5))))))))))
set_option maxRecDepth 100000 in
theorem m_J7_fill_53178 (l : Launch) : s_Met l yJ7_fill_53178 cJ7_fill_53178 4 ((none : Option FieldType)) rm_J7_fill_53178 false C_J7_fill_53178 := by
  intro D ty ad av φ sz sh me Q hsh hC
  unfold C_J7_fill_53178 at hC
  split at hC
  · exact s_met1 (P := P_J7_fill_53178) (by decide +kernel) (fun _ => ⟨rfl, rfl⟩) (fun p e s m args below meth c D ty ad A n0 φ0 Q G Y hY => s_tab_T _ (List.forall_mem_cons.mpr ⟨b_J7_fill_53178_0 l p e s m args below meth c D ty ad A n0 φ0 Q G Y hY, List.forall_mem_cons.mpr ⟨b_J7_fill_53178_5 l p e s m args below meth c D ty ad A n0 φ0 Q G Y hY, fun _ h => absurd h List.not_mem_nil⟩⟩)) hsh rfl rfl (Nat.le_of_ble_eq_true rfl) hC
  · exact hC.elim
def B_J7_fill_d0a16_0 (Q : SQ) (nx : Nat → SK) : SK := (o_const (.int 0) (o_istore 3 (o_aload 0 (o_alen 11 (o_istore 4 (nx 6))))))
def B_J7_fill_d0a16_6 (Q : SQ) (nx : Nat → SK) : SK := (o_iload 3 (o_iload 4 (o_ic (fun x y => y ≤ x) (o_vret Q) (o_aload 0 (o_iload 3 (o_lload 1 (o_last (o_iinc 3 1 (nx 6)))))))))
def P_J7_fill_d0a16 (Q : SQ) (nx : Nat → SK) : Nat → SK := s_tab [(0, B_J7_fill_d0a16_0 Q nx), (6, B_J7_fill_d0a16_6 Q nx)]
def C_J7_fill_d0a16 : SC := fun av sh me Q => match av with
  | [.ref a0, .long a1] => s_wp P_J7_fill_d0a16 Q 0 [some (.ref a0), some (.long a1), none, none, none] [] sh me
  | _ => False
abbrev rm_J7_fill_d0a16 : Room := { frames := 0, cells := 0, slots := 0, locals := 0 }
theorem hd_J7_fill_d0a16 : (yJ7_fill_d0a16).cls ≠ "java/lang/invoke/MethodHandle" ∧ (yJ7_fill_d0a16).cls ≠ "java/lang/invoke/VarHandle" ∧ (parseMethodDescriptor (yJ7_fill_d0a16).desc).map (fun d => d.parameters.length) = some 2 := by decide +kernel
set_option maxRecDepth 100000 in
set_option maxHeartbeats 4000000 in
theorem b_J7_fill_d0a16_0 (l : Launch) : s_B l rm_J7_fill_d0a16 yJ7_fill_d0a16 cJ7_fill_d0a16 5 ((none : Option FieldType)) false 0 B_J7_fill_d0a16_0 := fun p e s m args below meth c D ty ad A n0 φ0 Q G Y hY => (u_iconst G dJ7_fill_d0a16_0 (by decide) (u_istore_n G dJ7_fill_d0a16_1 rfl (u_aload_n G dJ7_fill_d0a16_2 rfl (t_alen G (by decide) dJ7_fill_d0a16_3 (u_istore G dJ7_fill_d0a16_4 (hY 6))))))
set_option maxRecDepth 100000 in
set_option maxHeartbeats 4000000 in
theorem b_J7_fill_d0a16_6 (l : Launch) : s_B l rm_J7_fill_d0a16 yJ7_fill_d0a16 cJ7_fill_d0a16 5 ((none : Option FieldType)) false 6 B_J7_fill_d0a16_6 := fun p e s m args below meth c D ty ad A n0 φ0 Q G Y hY => (u_iload_n G dJ7_fill_d0a16_6 rfl (u_iload G dJ7_fill_d0a16_7 (u_icmp_ge G dJ7_fill_d0a16_9 (by decide) (t_vret G rfl dJ7_fill_d0a16_22) (u_aload_n G dJ7_fill_d0a16_12 rfl (u_iload_n G dJ7_fill_d0a16_13 rfl (u_lload_n G dJ7_fill_d0a16_14 rfl (t_last G dJ7_fill_d0a16_15 (t_iinc G dJ7_fill_d0a16_16 (by decide) (t_goto G dJ7_fill_d0a16_19 (by decide) (hY 6))))))))))
set_option maxRecDepth 100000 in
theorem m_J7_fill_d0a16 (l : Launch) : s_Met l yJ7_fill_d0a16 cJ7_fill_d0a16 5 ((none : Option FieldType)) rm_J7_fill_d0a16 false C_J7_fill_d0a16 := by
  intro D ty ad av φ sz sh me Q hsh hC
  unfold C_J7_fill_d0a16 at hC
  split at hC
  · exact s_met1 (P := P_J7_fill_d0a16) (by decide +kernel) (fun _ => ⟨rfl, rfl⟩) (fun p e s m args below meth c D ty ad A n0 φ0 Q G Y hY => s_tab_T _ (List.forall_mem_cons.mpr ⟨b_J7_fill_d0a16_0 l p e s m args below meth c D ty ad A n0 φ0 Q G Y hY, List.forall_mem_cons.mpr ⟨b_J7_fill_d0a16_6 l p e s m args below meth c D ty ad A n0 φ0 Q G Y hY, fun _ h => absurd h List.not_mem_nil⟩⟩)) hsh rfl rfl (Nat.le_of_ble_eq_true rfl) hC
  · exact hC.elim
def B_X0_init_0 (Q : SQ) (nx : Nat → SK) : SK := (o_aload 0 (o_obj (o_aload 0 (o_const (.int 20) (o_newa 1 20 10 20 (o_putR 0 0 (o_vret Q)))))))
def P_X0_init (Q : SQ) (nx : Nat → SK) : Nat → SK := s_tab [(0, B_X0_init_0 Q nx)]
def C_X0_init : SC := fun av sh me Q => match av with
  | [.ref a0] => s_wp P_X0_init Q 0 [some (.ref a0)] [] sh me
  | _ => False
abbrev rm_X0_init : Room := { frames := 1, cells := 1, slots := 20, locals := 20 }
theorem hd_X0_init : (yX0_init).cls ≠ "java/lang/invoke/MethodHandle" ∧ (yX0_init).cls ≠ "java/lang/invoke/VarHandle" ∧ (parseMethodDescriptor (yX0_init).desc).map (fun d => d.parameters.length) = some 0 := by decide +kernel
theorem rf_X0_init : ∀ (av : List Value) (sh : SShp) (me : SMem) (Q : SQ), C_X0_init av sh me Q → ∃ b r, av = .ref b :: r := by
  intro av sh me Q h
  unfold C_X0_init at h
  split at h
  · exact ⟨_, _, rfl⟩
  · exact h.elim
set_option maxRecDepth 100000 in
set_option maxHeartbeats 4000000 in
theorem b_X0_init_0 (l : Launch) : s_B l rm_X0_init yX0_init cX0_init 1 ((none : Option FieldType)) true 0 B_X0_init_0 := fun p e s m args below meth c D ty ad A n0 φ0 Q G Y hY => (u_aload_n G dX0_init_0 rfl (t_obj G q1_238 q1_26 q1_27 ⟨Nat.le_of_ble_eq_true rfl, Nat.le_of_ble_eq_true rfl⟩ dX0_init_1 (u_aload_n G dX0_init_4 rfl (u_bipush G dX0_init_5 (by decide) (t_newa (atype := .int) G (Or.inl ⟨rfl, rfl⟩) (by decide) rfl ⟨rfl, rfl⟩ q1_174 dX0_init_7 (t_putR G cl_0 (k := 0) (by decide) (Or.inr ⟨rfl, rfl, rfl, q1_239⟩) rfl (Or.inr ⟨_, rfl⟩) dX0_init_9 (t_vret G rfl dX0_init_12)))))))
set_option maxRecDepth 100000 in
theorem m_X0_init (l : Launch) : s_Met l yX0_init cX0_init 1 ((none : Option FieldType)) rm_X0_init true C_X0_init := by
  intro D ty ad av φ sz sh me Q hsh hC
  unfold C_X0_init at hC
  split at hC
  · exact s_met1 (P := P_X0_init) (by decide +kernel) (fun h => by cases h) (fun p e s m args below meth c D ty ad A n0 φ0 Q G Y hY => s_tab_T _ (List.forall_mem_cons.mpr ⟨b_X0_init_0 l p e s m args below meth c D ty ad A n0 φ0 Q G Y hY, fun _ h => absurd h List.not_mem_nil⟩)) hsh rfl rfl (Nat.le_of_ble_eq_true rfl) hC
  · exact hC.elim
def B_X0_note_0 (Q : SQ) (nx : Nat → SK) : SK := (o_aload 0 (o_getI 0 1 (o_const (.int 20) (o_ic (fun x y => y ≤ x) (nx 19) (o_aload 0 (o_getR 0 0 (o_aload 0 (o_getI 0 1 (o_iload 1 (o_iast (nx 19)))))))))))
def B_X0_note_19 (Q : SQ) (nx : Nat → SK) : SK := (o_aload 0 (o_dup (o_getI 0 1 (o_const (.int 1) (o_i2 (fun x y => x + y) (o_putI 0 1 (o_vret Q)))))))
def P_X0_note (Q : SQ) (nx : Nat → SK) : Nat → SK := s_tab [(0, B_X0_note_0 Q nx), (19, B_X0_note_19 Q nx)]
def C_X0_note : SC := fun av sh me Q => match av with
  | [.ref a0, .int a1] => s_wp P_X0_note Q 0 [some (.ref a0), some (.int a1)] [] sh me
  | _ => False
abbrev rm_X0_note : Room := { frames := 0, cells := 0, slots := 0, locals := 0 }
theorem hd_X0_note : (yX0_note).cls ≠ "java/lang/invoke/MethodHandle" ∧ (yX0_note).cls ≠ "java/lang/invoke/VarHandle" ∧ (parseMethodDescriptor (yX0_note).desc).map (fun d => d.parameters.length) = some 1 := by decide +kernel
set_option maxRecDepth 100000 in
set_option maxHeartbeats 4000000 in
theorem b_X0_note_0 (l : Launch) : s_B l rm_X0_note yX0_note cX0_note 2 ((none : Option FieldType)) false 0 B_X0_note_0 := fun p e s m args below meth c D ty ad A n0 φ0 Q G Y hY => (u_aload_n G dX0_note_0 rfl (t_getI G cl_0 (k := 1) (by decide) (Or.inl q2_1) rfl (Or.inl rfl) dX0_note_1 (u_bipush G dX0_note_4 (by decide) (u_icmp_ge G dX0_note_6 (by decide) (hY 19) (u_aload_n G dX0_note_9 rfl (t_getR G cl_0 (k := 0) (by decide) (Or.inl q1_239) rfl (Or.inr ⟨_, rfl⟩) dX0_note_10 (u_aload_n G dX0_note_13 rfl (t_getI G cl_0 (k := 1) (by decide) (Or.inl q2_1) rfl (Or.inl rfl) dX0_note_14 (u_iload_n G dX0_note_17 rfl (t_iast G dX0_note_18 (hY 19)))))))))))
set_option maxRecDepth 100000 in
set_option maxHeartbeats 4000000 in
theorem b_X0_note_19 (l : Launch) : s_B l rm_X0_note yX0_note cX0_note 2 ((none : Option FieldType)) false 19 B_X0_note_19 := fun p e s m args below meth c D ty ad A n0 φ0 Q G Y hY => (u_aload_n G dX0_note_19 rfl (t_dup G dX0_note_20 (t_getI G cl_0 (k := 1) (by decide) (Or.inl q2_1) rfl (Or.inl rfl) dX0_note_21 (u_iconst G dX0_note_24 (by decide) (u_iadd G dX0_note_25 (t_putI G cl_0 (k := 1) (by decide) (Or.inl ⟨rfl, Or.inl q2_1⟩) rfl rfl dX0_note_26 (t_vret G rfl dX0_note_29)))))))
set_option maxRecDepth 100000 in
theorem m_X0_note (l : Launch) : s_Met l yX0_note cX0_note 2 ((none : Option FieldType)) rm_X0_note false C_X0_note := by
  intro D ty ad av φ sz sh me Q hsh hC
  unfold C_X0_note at hC
  split at hC
  · exact s_met1 (P := P_X0_note) (by decide +kernel) (fun _ => ⟨rfl, rfl⟩) (fun p e s m args below meth c D ty ad A n0 φ0 Q G Y hY => s_tab_T _ (List.forall_mem_cons.mpr ⟨b_X0_note_0 l p e s m args below meth c D ty ad A n0 φ0 Q G Y hY, List.forall_mem_cons.mpr ⟨b_X0_note_19 l p e s m args below meth c D ty ad A n0 φ0 Q G Y hY, fun _ h => absurd h List.not_mem_nil⟩⟩)) hsh rfl rfl (Nat.le_of_ble_eq_true rfl) hC
  · exact hC.elim
def B_X8_above_0 (Q : SQ) (nx : Nat → SK) : SK := (o_iload 0 (o_if (fun x => x < 0) (nx 18) (o_iload 0 (o_const (.int 7) (o_ic (fun x y => y ≤ x) (nx 18) (o_getsA 0 (o_iload 0 (o_tald 0 (nx 19)))))))))
def B_X8_above_18 (Q : SQ) (nx : Nat → SK) : SK := (o_const (.int (-1)) (nx 19))
def B_X8_above_19 (Q : SQ) (nx : Nat → SK) : SK := (o_iret Q)
def P_X8_above (Q : SQ) (nx : Nat → SK) : Nat → SK := s_tab [(0, B_X8_above_0 Q nx), (18, B_X8_above_18 Q nx), (19, B_X8_above_19 Q nx)]
def C_X8_above : SC := fun av sh me Q => match av with
  | [.int a0] => s_wp P_X8_above Q 0 [some (.int a0)] [] sh me
  | _ => False
abbrev rm_X8_above : Room := { frames := 0, cells := 0, slots := 0, locals := 0 }
theorem hd_X8_above : (yX8_above).cls ≠ "java/lang/invoke/MethodHandle" ∧ (yX8_above).cls ≠ "java/lang/invoke/VarHandle" ∧ (parseMethodDescriptor (yX8_above).desc).map (fun d => d.parameters.length) = some 1 := by decide +kernel
set_option maxRecDepth 100000 in
set_option maxHeartbeats 4000000 in
theorem b_X8_above_0 (l : Launch) : s_B l rm_X8_above yX8_above cX8_above 1 ((some FieldType.int)) false 0 B_X8_above_0 := fun p e s m args below meth c D ty ad A n0 φ0 Q G Y hY => (u_iload_n G dX8_above_0 rfl (u_if_lt G dX8_above_1 (by decide) (hY 18) (u_iload_n G dX8_above_4 rfl (u_bipush G dX8_above_5 (by decide) (u_icmp_ge G dX8_above_7 (by decide) (hY 18) (t_getsA G (by decide) (Or.inl q4_229) dX8_above_10 (u_iload_n G dX8_above_13 rfl (t_tald G (by decide) dX8_above_14 (t_goto G dX8_above_15 (by decide) (hY 19))))))))))
set_option maxRecDepth 100000 in
set_option maxHeartbeats 4000000 in
theorem b_X8_above_18 (l : Launch) : s_B l rm_X8_above yX8_above cX8_above 1 ((some FieldType.int)) false 18 B_X8_above_18 := fun p e s m args below meth c D ty ad A n0 φ0 Q G Y hY => (u_iconst G dX8_above_18 (by decide) (hY 19))
set_option maxRecDepth 100000 in
set_option maxHeartbeats 4000000 in
theorem b_X8_above_19 (l : Launch) : s_B l rm_X8_above yX8_above cX8_above 1 ((some FieldType.int)) false 19 B_X8_above_19 := fun p e s m args below meth c D ty ad A n0 φ0 Q G Y hY => (t_iret G rfl dX8_above_19)
set_option maxRecDepth 100000 in
theorem m_X8_above (l : Launch) : s_Met l yX8_above cX8_above 1 ((some FieldType.int)) rm_X8_above false C_X8_above := by
  intro D ty ad av φ sz sh me Q hsh hC
  unfold C_X8_above at hC
  split at hC
  · exact s_met1 (P := P_X8_above) (by decide +kernel) (fun _ => ⟨rfl, rfl⟩) (fun p e s m args below meth c D ty ad A n0 φ0 Q G Y hY => s_tab_T _ (List.forall_mem_cons.mpr ⟨b_X8_above_0 l p e s m args below meth c D ty ad A n0 φ0 Q G Y hY, List.forall_mem_cons.mpr ⟨b_X8_above_18 l p e s m args below meth c D ty ad A n0 φ0 Q G Y hY, List.forall_mem_cons.mpr ⟨b_X8_above_19 l p e s m args below meth c D ty ad A n0 φ0 Q G Y hY, fun _ h => absurd h List.not_mem_nil⟩⟩⟩)) hsh rfl rfl (Nat.le_of_ble_eq_true rfl) hC
  · exact hC.elim
def B_X0_rest_0 (Q : SQ) (nx : Nat → SK) : SK := (o_aload 0 (o_const (.int 0) (o_putI 0 1 (o_vret Q))))
def P_X0_rest (Q : SQ) (nx : Nat → SK) : Nat → SK := s_tab [(0, B_X0_rest_0 Q nx)]
def C_X0_rest : SC := fun av sh me Q => match av with
  | [.ref a0] => s_wp P_X0_rest Q 0 [some (.ref a0)] [] sh me
  | _ => False
abbrev rm_X0_rest : Room := { frames := 0, cells := 0, slots := 0, locals := 0 }
theorem hd_X0_rest : (yX0_rest).cls ≠ "java/lang/invoke/MethodHandle" ∧ (yX0_rest).cls ≠ "java/lang/invoke/VarHandle" ∧ (parseMethodDescriptor (yX0_rest).desc).map (fun d => d.parameters.length) = some 0 := by decide +kernel
set_option maxRecDepth 100000 in
set_option maxHeartbeats 4000000 in
theorem b_X0_rest_0 (l : Launch) : s_B l rm_X0_rest yX0_rest cX0_rest 1 ((none : Option FieldType)) false 0 B_X0_rest_0 := fun p e s m args below meth c D ty ad A n0 φ0 Q G Y hY => (u_aload_n G dX0_rest_0 rfl (u_iconst G dX0_rest_1 (by decide) (t_putI G cl_0 (k := 1) (by decide) (Or.inl ⟨rfl, Or.inl q2_1⟩) rfl rfl dX0_rest_2 (t_vret G rfl dX0_rest_5))))
set_option maxRecDepth 100000 in
theorem m_X0_rest (l : Launch) : s_Met l yX0_rest cX0_rest 1 ((none : Option FieldType)) rm_X0_rest false C_X0_rest := by
  intro D ty ad av φ sz sh me Q hsh hC
  unfold C_X0_rest at hC
  split at hC
  · exact s_met1 (P := P_X0_rest) (by decide +kernel) (fun _ => ⟨rfl, rfl⟩) (fun p e s m args below meth c D ty ad A n0 φ0 Q G Y hY => s_tab_T _ (List.forall_mem_cons.mpr ⟨b_X0_rest_0 l p e s m args below meth c D ty ad A n0 φ0 Q G Y hY, fun _ h => absurd h List.not_mem_nil⟩)) hsh rfl rfl (Nat.le_of_ble_eq_true rfl) hC
  · exact hC.elim
def B_X1_become_0 (Q : SQ) (nx : Nat → SK) : SK := (o_aload 0 (o_iload 1 (o_putI 1 0 (o_aload 0 (o_iload 2 (o_putI 1 1 (o_aload 0 (o_iload 3 (o_putI 1 2 (o_aload 0 (o_const (.int 0) (o_putZ 1 6 (o_vret Q)))))))))))))
def P_X1_become (Q : SQ) (nx : Nat → SK) : Nat → SK := s_tab [(0, B_X1_become_0 Q nx)]
def C_X1_become : SC := fun av sh me Q => match av with
  | [.ref a0, .int a1, .int a2, .int a3] => s_wp P_X1_become Q 0 [some (.ref a0), some (.int a1), some (.int a2), some (.int a3)] [] sh me
  | _ => False
abbrev rm_X1_become : Room := { frames := 0, cells := 0, slots := 0, locals := 0 }
theorem hd_X1_become : (yX1_become).cls ≠ "java/lang/invoke/MethodHandle" ∧ (yX1_become).cls ≠ "java/lang/invoke/VarHandle" ∧ (parseMethodDescriptor (yX1_become).desc).map (fun d => d.parameters.length) = some 3 := by decide +kernel
set_option maxRecDepth 100000 in
set_option maxHeartbeats 4000000 in
theorem b_X1_become_0 (l : Launch) : s_B l rm_X1_become yX1_become cX1_become 4 ((none : Option FieldType)) false 0 B_X1_become_0 := fun p e s m args below meth c D ty ad A n0 φ0 Q G Y hY => (u_aload_n G dX1_become_0 rfl (u_iload_n G dX1_become_1 rfl (t_putI G cl_1 (k := 0) (by decide) (Or.inl ⟨rfl, Or.inl q1_41⟩) rfl rfl dX1_become_2 (u_aload_n G dX1_become_5 rfl (u_iload_n G dX1_become_6 rfl (t_putI G cl_1 (k := 1) (by decide) (Or.inl ⟨rfl, Or.inl q1_46⟩) rfl rfl dX1_become_7 (u_aload_n G dX1_become_10 rfl (u_iload_n G dX1_become_11 rfl (t_putI G cl_1 (k := 2) (by decide) (Or.inl ⟨rfl, Or.inl q1_49⟩) rfl rfl dX1_become_12 (u_aload_n G dX1_become_15 rfl (u_iconst G dX1_become_16 (by decide) (t_putZ G cl_1 (k := 6) (by decide) (Or.inl ⟨rfl, Or.inl q1_65⟩) rfl rfl dX1_become_17 (t_vret G rfl dX1_become_20)))))))))))))
set_option maxRecDepth 100000 in
theorem m_X1_become (l : Launch) : s_Met l yX1_become cX1_become 4 ((none : Option FieldType)) rm_X1_become false C_X1_become := by
  intro D ty ad av φ sz sh me Q hsh hC
  unfold C_X1_become at hC
  split at hC
  · exact s_met1 (P := P_X1_become) (by decide +kernel) (fun _ => ⟨rfl, rfl⟩) (fun p e s m args below meth c D ty ad A n0 φ0 Q G Y hY => s_tab_T _ (List.forall_mem_cons.mpr ⟨b_X1_become_0 l p e s m args below meth c D ty ad A n0 φ0 Q G Y hY, fun _ h => absurd h List.not_mem_nil⟩)) hsh rfl rfl (Nat.le_of_ble_eq_true rfl) hC
  · exact hC.elim
def B_X1_place_0 (Q : SQ) (nx : Nat → SK) : SK := (o_aload 0 (o_iload 1 (o_putI 1 3 (o_aload 0 (o_iload 2 (o_putI 1 4 (o_aload 0 (o_iload 3 (o_putI 1 5 (o_vret Q))))))))))
def P_X1_place (Q : SQ) (nx : Nat → SK) : Nat → SK := s_tab [(0, B_X1_place_0 Q nx)]
def C_X1_place : SC := fun av sh me Q => match av with
  | [.ref a0, .int a1, .int a2, .int a3] => s_wp P_X1_place Q 0 [some (.ref a0), some (.int a1), some (.int a2), some (.int a3)] [] sh me
  | _ => False
abbrev rm_X1_place : Room := { frames := 0, cells := 0, slots := 0, locals := 0 }
theorem hd_X1_place : (yX1_place).cls ≠ "java/lang/invoke/MethodHandle" ∧ (yX1_place).cls ≠ "java/lang/invoke/VarHandle" ∧ (parseMethodDescriptor (yX1_place).desc).map (fun d => d.parameters.length) = some 3 := by decide +kernel
set_option maxRecDepth 100000 in
set_option maxHeartbeats 4000000 in
theorem b_X1_place_0 (l : Launch) : s_B l rm_X1_place yX1_place cX1_place 4 ((none : Option FieldType)) false 0 B_X1_place_0 := fun p e s m args below meth c D ty ad A n0 φ0 Q G Y hY => (u_aload_n G dX1_place_0 rfl (u_iload_n G dX1_place_1 rfl (t_putI G cl_1 (k := 3) (by decide) (Or.inl ⟨rfl, Or.inl q1_52⟩) rfl rfl dX1_place_2 (u_aload_n G dX1_place_5 rfl (u_iload_n G dX1_place_6 rfl (t_putI G cl_1 (k := 4) (by decide) (Or.inl ⟨rfl, Or.inl q1_55⟩) rfl rfl dX1_place_7 (u_aload_n G dX1_place_10 rfl (u_iload_n G dX1_place_11 rfl (t_putI G cl_1 (k := 5) (by decide) (Or.inl ⟨rfl, Or.inl q1_61⟩) rfl rfl dX1_place_12 (t_vret G rfl dX1_place_15))))))))))
set_option maxRecDepth 100000 in
theorem m_X1_place (l : Launch) : s_Met l yX1_place cX1_place 4 ((none : Option FieldType)) rm_X1_place false C_X1_place := by
  intro D ty ad av φ sz sh me Q hsh hC
  unfold C_X1_place at hC
  split at hC
  · exact s_met1 (P := P_X1_place) (by decide +kernel) (fun _ => ⟨rfl, rfl⟩) (fun p e s m args below meth c D ty ad A n0 φ0 Q G Y hY => s_tab_T _ (List.forall_mem_cons.mpr ⟨b_X1_place_0 l p e s m args below meth c D ty ad A n0 φ0 Q G Y hY, fun _ h => absurd h List.not_mem_nil⟩)) hsh rfl rfl (Nat.le_of_ble_eq_true rfl) hC
  · exact hC.elim
def B_X1_copyFrom_0 (Q : SQ) (nx : Nat → SK) : SK := (o_aload 0 (o_aload 1 (o_getI 1 0 (o_aload 1 (o_getI 1 1 (o_aload 1 (o_getI 1 2 (o_callV C_X1_become 1 4 (o_aload 0 (o_aload 1 (o_getI 1 3 (o_aload 1 (o_getI 1 4 (o_aload 1 (o_getI 1 5 (o_callV C_X1_place 1 4 (o_aload 0 (o_aload 1 (o_getI 1 6 (o_putZ 1 6 (o_vret Q)))))))))))))))))))))
def P_X1_copyFrom (Q : SQ) (nx : Nat → SK) : Nat → SK := s_tab [(0, B_X1_copyFrom_0 Q nx)]
def C_X1_copyFrom : SC := fun av sh me Q => match av with
  | [.ref a0, .ref a1] => s_wp P_X1_copyFrom Q 0 [some (.ref a0), some (.ref a1)] [] sh me
  | _ => False
abbrev rm_X1_copyFrom : Room := { frames := 1, cells := 0, slots := 0, locals := 23 }
theorem hd_X1_copyFrom : (yX1_copyFrom).cls ≠ "java/lang/invoke/MethodHandle" ∧ (yX1_copyFrom).cls ≠ "java/lang/invoke/VarHandle" ∧ (parseMethodDescriptor (yX1_copyFrom).desc).map (fun d => d.parameters.length) = some 1 := by decide +kernel
set_option maxRecDepth 100000 in
set_option maxHeartbeats 4000000 in
theorem b_X1_copyFrom_0 (l : Launch) : s_B l rm_X1_copyFrom yX1_copyFrom cX1_copyFrom 2 ((none : Option FieldType)) false 0 B_X1_copyFrom_0 := fun p e s m args below meth c D ty ad A n0 φ0 Q G Y hY => (u_aload_n G dX1_copyFrom_0 rfl (u_aload_n G dX1_copyFrom_1 rfl (t_getI G cl_1 (k := 0) (by decide) (Or.inl q1_41) rfl (Or.inl rfl) dX1_copyFrom_2 (u_aload_n G dX1_copyFrom_5 rfl (t_getI G cl_1 (k := 1) (by decide) (Or.inl q1_46) rfl (Or.inl rfl) dX1_copyFrom_6 (u_aload_n G dX1_copyFrom_9 rfl (t_getI G cl_1 (k := 2) (by decide) (Or.inl q1_49) rfl (Or.inl rfl) dX1_copyFrom_10 (t_callV G cl_1 (m_X1_become l) ⟨rfl, rfl⟩ rfl ⟨Nat.le_of_ble_eq_true rfl, Nat.le_of_ble_eq_true rfl⟩ q2_216 q1_3 (Or.inl q3_45) q2_214 q2_215 hd_X1_become dX1_copyFrom_13 (u_aload_n G dX1_copyFrom_16 rfl (u_aload_n G dX1_copyFrom_17 rfl (t_getI G cl_1 (k := 3) (by decide) (Or.inl q1_52) rfl (Or.inl rfl) dX1_copyFrom_18 (u_aload_n G dX1_copyFrom_21 rfl (t_getI G cl_1 (k := 4) (by decide) (Or.inl q1_55) rfl (Or.inl rfl) dX1_copyFrom_22 (u_aload_n G dX1_copyFrom_25 rfl (t_getI G cl_1 (k := 5) (by decide) (Or.inl q1_61) rfl (Or.inl rfl) dX1_copyFrom_26 (t_callV G cl_1 (m_X1_place l) ⟨rfl, rfl⟩ rfl ⟨Nat.le_of_ble_eq_true rfl, Nat.le_of_ble_eq_true rfl⟩ q2_220 q1_3 (Or.inl q3_46) q2_218 q2_219 hd_X1_place dX1_copyFrom_29 (u_aload_n G dX1_copyFrom_32 rfl (u_aload_n G dX1_copyFrom_33 rfl (t_getI G cl_1 (k := 6) (by decide) (Or.inl q1_65) rfl (Or.inr rfl) dX1_copyFrom_34 (t_putZ G cl_1 (k := 6) (by decide) (Or.inl ⟨rfl, Or.inl q1_65⟩) rfl rfl dX1_copyFrom_37 (t_vret G rfl dX1_copyFrom_40)))))))))))))))))))))
set_option maxRecDepth 100000 in
theorem m_X1_copyFrom (l : Launch) : s_Met l yX1_copyFrom cX1_copyFrom 2 ((none : Option FieldType)) rm_X1_copyFrom false C_X1_copyFrom := by
  intro D ty ad av φ sz sh me Q hsh hC
  unfold C_X1_copyFrom at hC
  split at hC
  · exact s_met1 (P := P_X1_copyFrom) (by decide +kernel) (fun _ => ⟨rfl, rfl⟩) (fun p e s m args below meth c D ty ad A n0 φ0 Q G Y hY => s_tab_T _ (List.forall_mem_cons.mpr ⟨b_X1_copyFrom_0 l p e s m args below meth c D ty ad A n0 φ0 Q G Y hY, fun _ h => absurd h List.not_mem_nil⟩)) hsh rfl rfl (Nat.le_of_ble_eq_true rfl) hC
  · exact hC.elim
def B_X1_init_0 (Q : SQ) (nx : Nat → SK) : SK := (o_aload 0 (o_obj (o_vret Q)))
def P_X1_init (Q : SQ) (nx : Nat → SK) : Nat → SK := s_tab [(0, B_X1_init_0 Q nx)]
def C_X1_init : SC := fun av sh me Q => match av with
  | [.ref a0] => s_wp P_X1_init Q 0 [some (.ref a0)] [] sh me
  | _ => False
abbrev rm_X1_init : Room := { frames := 1, cells := 0, slots := 0, locals := 20 }
theorem hd_X1_init : (yX1_init).cls ≠ "java/lang/invoke/MethodHandle" ∧ (yX1_init).cls ≠ "java/lang/invoke/VarHandle" ∧ (parseMethodDescriptor (yX1_init).desc).map (fun d => d.parameters.length) = some 0 := by decide +kernel
theorem rf_X1_init : ∀ (av : List Value) (sh : SShp) (me : SMem) (Q : SQ), C_X1_init av sh me Q → ∃ b r, av = .ref b :: r := by
  intro av sh me Q h
  unfold C_X1_init at h
  split at h
  · exact ⟨_, _, rfl⟩
  · exact h.elim
set_option maxRecDepth 100000 in
set_option maxHeartbeats 4000000 in
theorem b_X1_init_0 (l : Launch) : s_B l rm_X1_init yX1_init cX1_init 1 ((none : Option FieldType)) false 0 B_X1_init_0 := fun p e s m args below meth c D ty ad A n0 φ0 Q G Y hY => (u_aload_n G dX1_init_0 rfl (t_obj G q1_40 q1_26 q1_27 ⟨Nat.le_of_ble_eq_true rfl, Nat.le_of_ble_eq_true rfl⟩ dX1_init_1 (t_vret G rfl dX1_init_4)))
set_option maxRecDepth 100000 in
theorem m_X1_init (l : Launch) : s_Met l yX1_init cX1_init 1 ((none : Option FieldType)) rm_X1_init false C_X1_init := by
  intro D ty ad av φ sz sh me Q hsh hC
  unfold C_X1_init at hC
  split at hC
  · exact s_met1 (P := P_X1_init) (by decide +kernel) (fun _ => ⟨rfl, rfl⟩) (fun p e s m args below meth c D ty ad A n0 φ0 Q G Y hY => s_tab_T _ (List.forall_mem_cons.mpr ⟨b_X1_init_0 l p e s m args below meth c D ty ad A n0 φ0 Q G Y hY, fun _ h => absurd h List.not_mem_nil⟩)) hsh rfl rfl (Nat.le_of_ble_eq_true rfl) hC
  · exact hC.elim
def B_X1_isOf_0 (Q : SQ) (nx : Nat → SK) : SK := (o_aload 0 (o_getI 1 0 (o_istore 2 (o_const (.int 0) (o_istore 3 (nx 7))))))
def B_X1_isOf_7 (Q : SQ) (nx : Nat → SK) : SK := (o_iload 3 (o_const (.int 7) (o_ic (fun x y => y ≤ x) (nx 51) (o_iload 2 (o_const (.int (-1)) (o_ic (fun x y => x = y) (nx 51) (o_iload 2 (o_iload 1 (o_ic (fun x y => ¬ x = y) (o_iload 2 (o_if (fun x => x ≤ 0) (nx 43) (o_iload 2 (o_const (.int 7) (o_ic (fun x y => y ≤ x) (nx 43) (o_getsA 0 (o_iload 2 (o_tald 0 (nx 44))))))))) (o_const (.int 1) (o_zret Q)))))))))))
def B_X1_isOf_43 (Q : SQ) (nx : Nat → SK) : SK := (o_const (.int (-1)) (nx 44))
def B_X1_isOf_44 (Q : SQ) (nx : Nat → SK) : SK := (o_istore 2 (o_iinc 3 1 (nx 7)))
def B_X1_isOf_51 (Q : SQ) (nx : Nat → SK) : SK := (o_const (.int 0) (o_zret Q))
def P_X1_isOf (Q : SQ) (nx : Nat → SK) : Nat → SK := s_tab [(0, B_X1_isOf_0 Q nx), (7, B_X1_isOf_7 Q nx), (43, B_X1_isOf_43 Q nx), (44, B_X1_isOf_44 Q nx), (51, B_X1_isOf_51 Q nx)]
def C_X1_isOf : SC := fun av sh me Q => match av with
  | [.ref a0, .int a1] => s_wp P_X1_isOf Q 0 [some (.ref a0), some (.int a1), none, none] [] sh me
  | _ => False
abbrev rm_X1_isOf : Room := { frames := 0, cells := 0, slots := 0, locals := 0 }
theorem hd_X1_isOf : (yX1_isOf).cls ≠ "java/lang/invoke/MethodHandle" ∧ (yX1_isOf).cls ≠ "java/lang/invoke/VarHandle" ∧ (parseMethodDescriptor (yX1_isOf).desc).map (fun d => d.parameters.length) = some 1 := by decide +kernel
set_option maxRecDepth 100000 in
set_option maxHeartbeats 4000000 in
theorem b_X1_isOf_0 (l : Launch) : s_B l rm_X1_isOf yX1_isOf cX1_isOf 4 ((some FieldType.boolean)) false 0 B_X1_isOf_0 := fun p e s m args below meth c D ty ad A n0 φ0 Q G Y hY => (u_aload_n G dX1_isOf_0 rfl (t_getI G cl_1 (k := 0) (by decide) (Or.inl q1_41) rfl (Or.inl rfl) dX1_isOf_1 (u_istore_n G dX1_isOf_4 rfl (u_iconst G dX1_isOf_5 (by decide) (u_istore_n G dX1_isOf_6 rfl (hY 7))))))
set_option maxRecDepth 100000 in
set_option maxHeartbeats 4000000 in
theorem b_X1_isOf_7 (l : Launch) : s_B l rm_X1_isOf yX1_isOf cX1_isOf 4 ((some FieldType.boolean)) false 7 B_X1_isOf_7 := fun p e s m args below meth c D ty ad A n0 φ0 Q G Y hY => (u_iload_n G dX1_isOf_7 rfl (u_bipush G dX1_isOf_8 (by decide) (u_icmp_ge G dX1_isOf_10 (by decide) (hY 51) (u_iload_n G dX1_isOf_13 rfl (u_iconst G dX1_isOf_14 (by decide) (u_icmp_eq G dX1_isOf_15 (by decide) (hY 51) (u_iload_n G dX1_isOf_18 rfl (u_iload_n G dX1_isOf_19 rfl (u_icmp_ne G dX1_isOf_20 (by decide) (u_iload_n G dX1_isOf_25 rfl (u_if_le G dX1_isOf_26 (by decide) (hY 43) (u_iload_n G dX1_isOf_29 rfl (u_bipush G dX1_isOf_30 (by decide) (u_icmp_ge G dX1_isOf_32 (by decide) (hY 43) (t_getsA G (by decide) (Or.inr ⟨_, q2_177⟩) dX1_isOf_35 (u_iload_n G dX1_isOf_38 rfl (t_tald G (by decide) dX1_isOf_39 (t_goto G dX1_isOf_40 (by decide) (hY 44)))))))))) (u_iconst G dX1_isOf_23 (by decide) (t_zret G rfl dX1_isOf_24)))))))))))
set_option maxRecDepth 100000 in
set_option maxHeartbeats 4000000 in
theorem b_X1_isOf_43 (l : Launch) : s_B l rm_X1_isOf yX1_isOf cX1_isOf 4 ((some FieldType.boolean)) false 43 B_X1_isOf_43 := fun p e s m args below meth c D ty ad A n0 φ0 Q G Y hY => (u_iconst G dX1_isOf_43 (by decide) (hY 44))
set_option maxRecDepth 100000 in
set_option maxHeartbeats 4000000 in
theorem b_X1_isOf_44 (l : Launch) : s_B l rm_X1_isOf yX1_isOf cX1_isOf 4 ((some FieldType.boolean)) false 44 B_X1_isOf_44 := fun p e s m args below meth c D ty ad A n0 φ0 Q G Y hY => (u_istore_n G dX1_isOf_44 rfl (t_iinc G dX1_isOf_45 (by decide) (t_goto G dX1_isOf_48 (by decide) (hY 7))))
set_option maxRecDepth 100000 in
set_option maxHeartbeats 4000000 in
theorem b_X1_isOf_51 (l : Launch) : s_B l rm_X1_isOf yX1_isOf cX1_isOf 4 ((some FieldType.boolean)) false 51 B_X1_isOf_51 := fun p e s m args below meth c D ty ad A n0 φ0 Q G Y hY => (u_iconst G dX1_isOf_51 (by decide) (t_zret G rfl dX1_isOf_52))
set_option maxRecDepth 100000 in
theorem m_X1_isOf (l : Launch) : s_Met l yX1_isOf cX1_isOf 4 ((some FieldType.boolean)) rm_X1_isOf false C_X1_isOf := by
  intro D ty ad av φ sz sh me Q hsh hC
  unfold C_X1_isOf at hC
  split at hC
  · exact s_met1 (P := P_X1_isOf) (by decide +kernel) (fun _ => ⟨rfl, rfl⟩) (fun p e s m args below meth c D ty ad A n0 φ0 Q G Y hY => s_tab_T _ (List.forall_mem_cons.mpr ⟨b_X1_isOf_0 l p e s m args below meth c D ty ad A n0 φ0 Q G Y hY, List.forall_mem_cons.mpr ⟨b_X1_isOf_7 l p e s m args below meth c D ty ad A n0 φ0 Q G Y hY, List.forall_mem_cons.mpr ⟨b_X1_isOf_43 l p e s m args below meth c D ty ad A n0 φ0 Q G Y hY, List.forall_mem_cons.mpr ⟨b_X1_isOf_44 l p e s m args below meth c D ty ad A n0 φ0 Q G Y hY, List.forall_mem_cons.mpr ⟨b_X1_isOf_51 l p e s m args below meth c D ty ad A n0 φ0 Q G Y hY, fun _ h => absurd h List.not_mem_nil⟩⟩⟩⟩⟩)) hsh rfl rfl (Nat.le_of_ble_eq_true rfl) hC
  · exact hC.elim
def B_X1_shownInSun_0 (Q : SQ) (nx : Nat → SK) : SK := (o_aload 0 (o_getI 1 0 (o_sw [(1, (o_aload 0 (o_getI 1 2 (o_const (.int 2) (o_i2 (fun x y => x * y) (o_iret Q)))))), (2, (o_aload 0 (o_getI 1 2 (o_const (.int 2) (o_i2 (fun x y => x * y) (o_aload 0 (o_getI 1 1 (o_i2 (fun x y => x + y) (o_iret Q))))))))), (6, (o_const (.int 0) (o_aload 0 (o_getI 1 2 (o_aload 0 (o_getI 1 3 (o_i2 (fun x y => x - y) (o_math2 s_max (o_iret Q)))))))))] (o_aload 0 (o_getI 1 2 (o_iret Q))))))
def P_X1_shownInSun (Q : SQ) (nx : Nat → SK) : Nat → SK := s_tab [(0, B_X1_shownInSun_0 Q nx)]
def C_X1_shownInSun : SC := fun av sh me Q => match av with
  | [.ref a0] => s_wp P_X1_shownInSun Q 0 [some (.ref a0)] [] sh me
  | _ => False
abbrev rm_X1_shownInSun : Room := { frames := 1, cells := 0, slots := 0, locals := 21 }
theorem hd_X1_shownInSun : (yX1_shownInSun).cls ≠ "java/lang/invoke/MethodHandle" ∧ (yX1_shownInSun).cls ≠ "java/lang/invoke/VarHandle" ∧ (parseMethodDescriptor (yX1_shownInSun).desc).map (fun d => d.parameters.length) = some 0 := by decide +kernel
set_option maxRecDepth 100000 in
set_option maxHeartbeats 4000000 in
theorem b_X1_shownInSun_0 (l : Launch) : s_B l rm_X1_shownInSun yX1_shownInSun cX1_shownInSun 1 ((some FieldType.int)) false 0 B_X1_shownInSun_0 := fun p e s m args below meth c D ty ad A n0 φ0 Q G Y hY => (u_aload_n G dX1_shownInSun_0 rfl (t_getI G cl_1 (k := 0) (by decide) (Or.inl q1_41) rfl (Or.inl rfl) dX1_shownInSun_1 (u_lsw G [(1, 40), (2, 47), (6, 59)] dX1_shownInSun_4 (by decide) (by decide) rfl ⟨(u_aload_n G dX1_shownInSun_40 rfl (t_getI G cl_1 (k := 2) (by decide) (Or.inl q1_49) rfl (Or.inl rfl) dX1_shownInSun_41 (u_iconst G dX1_shownInSun_44 (by decide) (u_imul G dX1_shownInSun_45 (t_iret G rfl dX1_shownInSun_46))))), ⟨(u_aload_n G dX1_shownInSun_47 rfl (t_getI G cl_1 (k := 2) (by decide) (Or.inl q1_49) rfl (Or.inl rfl) dX1_shownInSun_48 (u_iconst G dX1_shownInSun_51 (by decide) (u_imul G dX1_shownInSun_52 (u_aload_n G dX1_shownInSun_53 rfl (t_getI G cl_1 (k := 1) (by decide) (Or.inl q1_46) rfl (Or.inl rfl) dX1_shownInSun_54 (u_iadd G dX1_shownInSun_57 (t_iret G rfl dX1_shownInSun_58)))))))), ⟨(u_iconst G dX1_shownInSun_59 (by decide) (u_aload_n G dX1_shownInSun_60 rfl (t_getI G cl_1 (k := 2) (by decide) (Or.inl q1_49) rfl (Or.inl rfl) dX1_shownInSun_61 (u_aload_n G dX1_shownInSun_64 rfl (t_getI G cl_1 (k := 3) (by decide) (Or.inl q1_52) rfl (Or.inl rfl) dX1_shownInSun_65 (u_isub G dX1_shownInSun_68 (t_max G q2_191 q2_192 q1_13 q2_193 ⟨Nat.le_of_ble_eq_true rfl, Nat.le_of_ble_eq_true rfl⟩ dX1_shownInSun_69 (t_iret G rfl dX1_shownInSun_72)))))))), trivial⟩⟩⟩ (u_aload_n G dX1_shownInSun_73 rfl (t_getI G cl_1 (k := 2) (by decide) (Or.inl q1_49) rfl (Or.inl rfl) dX1_shownInSun_74 (t_iret G rfl dX1_shownInSun_77))))))
set_option maxRecDepth 100000 in
theorem m_X1_shownInSun (l : Launch) : s_Met l yX1_shownInSun cX1_shownInSun 1 ((some FieldType.int)) rm_X1_shownInSun false C_X1_shownInSun := by
  intro D ty ad av φ sz sh me Q hsh hC
  unfold C_X1_shownInSun at hC
  split at hC
  · exact s_met1 (P := P_X1_shownInSun) (by decide +kernel) (fun _ => ⟨rfl, rfl⟩) (fun p e s m args below meth c D ty ad A n0 φ0 Q G Y hY => s_tab_T _ (List.forall_mem_cons.mpr ⟨b_X1_shownInSun_0 l p e s m args below meth c D ty ad A n0 φ0 Q G Y hY, fun _ h => absurd h List.not_mem_nil⟩)) hsh rfl rfl (Nat.le_of_ble_eq_true rfl) hC
  · exact hC.elim
def B_X1_shown_0 (Q : SQ) (nx : Nat → SK) : SK := (o_aload 0 (o_getI 1 6 (o_if (fun x => x = 0) (o_iload 1 (o_if (fun x => x = 0) (o_aload 0 (o_callV C_X1_shownInSun 1 1 (nx 26))) (o_aload 0 (o_callV C_X1_shownInSun 1 1 (o_const (.int 2) (o_div (fun x y => x / y) (nx 26))))))) (o_const (.int 0) (o_iret Q)))))
def B_X1_shown_26 (Q : SQ) (nx : Nat → SK) : SK := (o_iret Q)
def P_X1_shown (Q : SQ) (nx : Nat → SK) : Nat → SK := s_tab [(0, B_X1_shown_0 Q nx), (26, B_X1_shown_26 Q nx)]
def C_X1_shown : SC := fun av sh me Q => match av with
  | [.ref a0, .int a1] => s_wp P_X1_shown Q 0 [some (.ref a0), some (.int a1)] [] sh me
  | _ => False
abbrev rm_X1_shown : Room := { frames := 2, cells := 0, slots := 0, locals := 41 }
theorem hd_X1_shown : (yX1_shown).cls ≠ "java/lang/invoke/MethodHandle" ∧ (yX1_shown).cls ≠ "java/lang/invoke/VarHandle" ∧ (parseMethodDescriptor (yX1_shown).desc).map (fun d => d.parameters.length) = some 1 := by decide +kernel
set_option maxRecDepth 100000 in
set_option maxHeartbeats 4000000 in
theorem b_X1_shown_0 (l : Launch) : s_B l rm_X1_shown yX1_shown cX1_shown 2 ((some FieldType.int)) false 0 B_X1_shown_0 := fun p e s m args below meth c D ty ad A n0 φ0 Q G Y hY => (u_aload_n G dX1_shown_0 rfl (t_getI G cl_1 (k := 6) (by decide) (Or.inl q1_65) rfl (Or.inr rfl) dX1_shown_1 (u_if_eq G dX1_shown_4 (by decide) (u_iload_n G dX1_shown_9 rfl (u_if_eq G dX1_shown_10 (by decide) (u_aload_n G dX1_shown_22 rfl (t_callV G cl_1 (m_X1_shownInSun l) ⟨rfl, rfl⟩ rfl ⟨Nat.le_of_ble_eq_true rfl, Nat.le_of_ble_eq_true rfl⟩ q2_190 q1_3 (Or.inl q2_187) q2_189 qs_5 hd_X1_shownInSun dX1_shown_23 (hY 26))) (u_aload_n G dX1_shown_13 rfl (t_callV G cl_1 (m_X1_shownInSun l) ⟨rfl, rfl⟩ rfl ⟨Nat.le_of_ble_eq_true rfl, Nat.le_of_ble_eq_true rfl⟩ q2_190 q1_3 (Or.inl q2_187) q2_189 qs_5 hd_X1_shownInSun dX1_shown_14 (u_iconst G dX1_shown_17 (by decide) (u_idiv G dX1_shown_18 (t_goto G dX1_shown_19 (by decide) (hY 26)))))))) (u_iconst G dX1_shown_7 (by decide) (t_iret G rfl dX1_shown_8)))))
set_option maxRecDepth 100000 in
set_option maxHeartbeats 4000000 in
theorem b_X1_shown_26 (l : Launch) : s_B l rm_X1_shown yX1_shown cX1_shown 2 ((some FieldType.int)) false 26 B_X1_shown_26 := fun p e s m args below meth c D ty ad A n0 φ0 Q G Y hY => (t_iret G rfl dX1_shown_26)
set_option maxRecDepth 100000 in
theorem m_X1_shown (l : Launch) : s_Met l yX1_shown cX1_shown 2 ((some FieldType.int)) rm_X1_shown false C_X1_shown := by
  intro D ty ad av φ sz sh me Q hsh hC
  unfold C_X1_shown at hC
  split at hC
  · exact s_met1 (P := P_X1_shown) (by decide +kernel) (fun _ => ⟨rfl, rfl⟩) (fun p e s m args below meth c D ty ad A n0 φ0 Q G Y hY => s_tab_T _ (List.forall_mem_cons.mpr ⟨b_X1_shown_0 l p e s m args below meth c D ty ad A n0 φ0 Q G Y hY, List.forall_mem_cons.mpr ⟨b_X1_shown_26 l p e s m args below meth c D ty ad A n0 φ0 Q G Y hY, fun _ h => absurd h List.not_mem_nil⟩⟩)) hsh rfl rfl (Nat.le_of_ble_eq_true rfl) hC
  · exact hC.elim
def B_X5_readAt_0 (Q : SQ) (nx : Nat → SK) : SK := (o_iload 1 (o_if (fun x => x < 0) (nx 22) (o_iload 1 (o_aload 0 (o_getI 5 1 (o_ic (fun x y => y ≤ x) (nx 22) (o_aload 0 (o_getR 5 3 (o_iload 1 (o_lald (o_li (nx 23))))))))))))
def B_X5_readAt_22 (Q : SQ) (nx : Nat → SK) : SK := (o_const (.int (-1)) (nx 23))
def B_X5_readAt_23 (Q : SQ) (nx : Nat → SK) : SK := (o_iret Q)
def P_X5_readAt (Q : SQ) (nx : Nat → SK) : Nat → SK := s_tab [(0, B_X5_readAt_0 Q nx), (22, B_X5_readAt_22 Q nx), (23, B_X5_readAt_23 Q nx)]
def C_X5_readAt : SC := fun av sh me Q => match av with
  | [.ref a0, .int a1] => s_wp P_X5_readAt Q 0 [some (.ref a0), some (.int a1)] [] sh me
  | _ => False
abbrev rm_X5_readAt : Room := { frames := 0, cells := 0, slots := 0, locals := 0 }
theorem hd_X5_readAt : (yX5_readAt).cls ≠ "java/lang/invoke/MethodHandle" ∧ (yX5_readAt).cls ≠ "java/lang/invoke/VarHandle" ∧ (parseMethodDescriptor (yX5_readAt).desc).map (fun d => d.parameters.length) = some 1 := by decide +kernel
set_option maxRecDepth 100000 in
set_option maxHeartbeats 4000000 in
theorem b_X5_readAt_0 (l : Launch) : s_B l rm_X5_readAt yX5_readAt cX5_readAt 2 ((some FieldType.int)) false 0 B_X5_readAt_0 := fun p e s m args below meth c D ty ad A n0 φ0 Q G Y hY => (u_iload_n G dX5_readAt_0 rfl (u_if_lt G dX5_readAt_1 (by decide) (hY 22) (u_iload_n G dX5_readAt_4 rfl (u_aload_n G dX5_readAt_5 rfl (t_getI G cl_5 (k := 1) (by decide) (Or.inl q2_27) rfl (Or.inl rfl) dX5_readAt_6 (u_icmp_ge G dX5_readAt_9 (by decide) (hY 22) (u_aload_n G dX5_readAt_12 rfl (t_getR G cl_5 (k := 3) (by decide) (Or.inl q2_31) rfl (Or.inr ⟨_, rfl⟩) dX5_readAt_13 (u_iload_n G dX5_readAt_16 rfl (t_lald G dX5_readAt_17 (t_li G dX5_readAt_18 (t_goto G dX5_readAt_19 (by decide) (hY 23)))))))))))))
set_option maxRecDepth 100000 in
set_option maxHeartbeats 4000000 in
theorem b_X5_readAt_22 (l : Launch) : s_B l rm_X5_readAt yX5_readAt cX5_readAt 2 ((some FieldType.int)) false 22 B_X5_readAt_22 := fun p e s m args below meth c D ty ad A n0 φ0 Q G Y hY => (u_iconst G dX5_readAt_22 (by decide) (hY 23))
set_option maxRecDepth 100000 in
set_option maxHeartbeats 4000000 in
theorem b_X5_readAt_23 (l : Launch) : s_B l rm_X5_readAt yX5_readAt cX5_readAt 2 ((some FieldType.int)) false 23 B_X5_readAt_23 := fun p e s m args below meth c D ty ad A n0 φ0 Q G Y hY => (t_iret G rfl dX5_readAt_23)
set_option maxRecDepth 100000 in
theorem m_X5_readAt (l : Launch) : s_Met l yX5_readAt cX5_readAt 2 ((some FieldType.int)) rm_X5_readAt false C_X5_readAt := by
  intro D ty ad av φ sz sh me Q hsh hC
  unfold C_X5_readAt at hC
  split at hC
  · exact s_met1 (P := P_X5_readAt) (by decide +kernel) (fun _ => ⟨rfl, rfl⟩) (fun p e s m args below meth c D ty ad A n0 φ0 Q G Y hY => s_tab_T _ (List.forall_mem_cons.mpr ⟨b_X5_readAt_0 l p e s m args below meth c D ty ad A n0 φ0 Q G Y hY, List.forall_mem_cons.mpr ⟨b_X5_readAt_22 l p e s m args below meth c D ty ad A n0 φ0 Q G Y hY, List.forall_mem_cons.mpr ⟨b_X5_readAt_23 l p e s m args below meth c D ty ad A n0 φ0 Q G Y hY, fun _ h => absurd h List.not_mem_nil⟩⟩⟩)) hsh rfl rfl (Nat.le_of_ble_eq_true rfl) hC
  · exact hC.elim
def B_X2_areDuties_0 (Q : SQ) (nx : Nat → SK) : SK := (o_const (.int 0) (o_istore 2 (nx 2)))
def B_X2_areDuties_2 (Q : SQ) (nx : Nat → SK) : SK := (o_iload 2 (o_aload 0 (o_getR 2 0 (o_getI 7 1 (o_ic (fun x y => y ≤ x) (o_const (.int 1) (o_zret Q)) (o_aload 1 (o_iload 2 (o_callV C_X5_readAt 5 2 (o_aload 0 (o_getR 2 1 (o_getR 4 3 (o_iload 2 (o_iald (o_ic (fun x y => x = y) (o_iinc 2 1 (nx 2)) (o_const (.int 0) (o_zret Q))))))))))))))))
def P_X2_areDuties (Q : SQ) (nx : Nat → SK) : Nat → SK := s_tab [(0, B_X2_areDuties_0 Q nx), (2, B_X2_areDuties_2 Q nx)]
def C_X2_areDuties : SC := fun av sh me Q => match av with
  | [.ref a0, .ref a1] => s_wp P_X2_areDuties Q 0 [some (.ref a0), some (.ref a1), none] [] sh me
  | _ => False
abbrev rm_X2_areDuties : Room := { frames := 1, cells := 0, slots := 0, locals := 21 }
theorem hd_X2_areDuties : (yX2_areDuties).cls ≠ "java/lang/invoke/MethodHandle" ∧ (yX2_areDuties).cls ≠ "java/lang/invoke/VarHandle" ∧ (parseMethodDescriptor (yX2_areDuties).desc).map (fun d => d.parameters.length) = some 1 := by decide +kernel
set_option maxRecDepth 100000 in
set_option maxHeartbeats 4000000 in
theorem b_X2_areDuties_0 (l : Launch) : s_B l rm_X2_areDuties yX2_areDuties cX2_areDuties 3 ((some FieldType.boolean)) false 0 B_X2_areDuties_0 := fun p e s m args below meth c D ty ad A n0 φ0 Q G Y hY => (u_iconst G dX2_areDuties_0 (by decide) (u_istore_n G dX2_areDuties_1 rfl (hY 2)))
set_option maxRecDepth 100000 in
set_option maxHeartbeats 4000000 in
theorem b_X2_areDuties_2 (l : Launch) : s_B l rm_X2_areDuties yX2_areDuties cX2_areDuties 3 ((some FieldType.boolean)) false 2 B_X2_areDuties_2 := fun p e s m args below meth c D ty ad A n0 φ0 Q G Y hY => (u_iload_n G dX2_areDuties_2 rfl (u_aload_n G dX2_areDuties_3 rfl (t_getR G cl_2 (k := 0) (by decide) (Or.inl q1_185) rfl (Or.inl ⟨_, rfl⟩) dX2_areDuties_4 (t_getI G cl_7 (k := 1) (by decide) (Or.inr ⟨_, q1_93⟩) rfl (Or.inl rfl) dX2_areDuties_7 (u_icmp_ge G dX2_areDuties_10 (by decide) (u_iconst G dX2_areDuties_38 (by decide) (t_zret G rfl dX2_areDuties_39)) (u_aload_n G dX2_areDuties_13 rfl (u_iload_n G dX2_areDuties_14 rfl (t_callV G cl_5 (m_X5_readAt l) ⟨rfl, rfl⟩ rfl ⟨Nat.le_of_ble_eq_true rfl, Nat.le_of_ble_eq_true rfl⟩ q3_58 q1_9 (Or.inl q4_95) q3_56 q3_57 hd_X5_readAt dX2_areDuties_15 (u_aload_n G dX2_areDuties_18 rfl (t_getR G cl_2 (k := 1) (by decide) (Or.inl q1_186) rfl (Or.inl ⟨_, rfl⟩) dX2_areDuties_19 (t_getR G cl_4 (k := 3) (by decide) (Or.inr ⟨_, q1_153⟩) rfl (Or.inr ⟨_, rfl⟩) dX2_areDuties_22 (u_iload_n G dX2_areDuties_25 rfl (t_iald G dX2_areDuties_26 (u_icmp_eq G dX2_areDuties_27 (by decide) (t_iinc G dX2_areDuties_32 (by decide) (t_goto G dX2_areDuties_35 (by decide) (hY 2))) (u_iconst G dX2_areDuties_30 (by decide) (t_zret G rfl dX2_areDuties_31))))))))))))))))
set_option maxRecDepth 100000 in
theorem m_X2_areDuties (l : Launch) : s_Met l yX2_areDuties cX2_areDuties 3 ((some FieldType.boolean)) rm_X2_areDuties false C_X2_areDuties := by
  intro D ty ad av φ sz sh me Q hsh hC
  unfold C_X2_areDuties at hC
  split at hC
  · exact s_met1 (P := P_X2_areDuties) (by decide +kernel) (fun _ => ⟨rfl, rfl⟩) (fun p e s m args below meth c D ty ad A n0 φ0 Q G Y hY => s_tab_T _ (List.forall_mem_cons.mpr ⟨b_X2_areDuties_0 l p e s m args below meth c D ty ad A n0 φ0 Q G Y hY, List.forall_mem_cons.mpr ⟨b_X2_areDuties_2 l p e s m args below meth c D ty ad A n0 φ0 Q G Y hY, fun _ h => absurd h List.not_mem_nil⟩⟩)) hsh rfl rfl (Nat.le_of_ble_eq_true rfl) hC
  · exact hC.elim
def B_X7_copyFrom_0 (Q : SQ) (nx : Nat → SK) : SK := (o_const (.int 0) (o_istore 2 (nx 2)))
def B_X7_copyFrom_2 (Q : SQ) (nx : Nat → SK) : SK := (o_iload 2 (o_aload 1 (o_getI 7 1 (o_ic (fun x y => y ≤ x) (o_aload 0 (o_aload 1 (o_getI 7 1 (o_putI 7 1 (o_aload 0 (o_aload 1 (o_getJ 7 2 (o_putJ 7 2 (o_aload 0 (o_aload 1 (o_getJ 7 3 (o_putJ 7 3 (o_aload 0 (o_aload 1 (o_getI 7 4 (o_putI 7 4 (o_aload 0 (o_aload 1 (o_getI 7 5 (o_putI 7 5 (o_aload 0 (o_aload 1 (o_getI 7 6 (o_putZ 7 6 (o_aload 0 (o_aload 1 (o_getI 7 7 (o_putI 7 7 (o_aload 0 (o_aload 1 (o_getI 7 8 (o_putI 7 8 (o_aload 0 (o_aload 1 (o_getI 7 9 (o_putI 7 9 (o_vret Q))))))))))))))))))))))))))))))))))))) (o_aload 0 (o_getR 7 0 (o_iload 2 (o_aald 12 (o_aload 1 (o_getR 7 0 (o_iload 2 (o_aald 12 (o_callV C_X1_copyFrom 1 2 (o_iinc 2 1 (nx 2)))))))))))))))
def P_X7_copyFrom (Q : SQ) (nx : Nat → SK) : Nat → SK := s_tab [(0, B_X7_copyFrom_0 Q nx), (2, B_X7_copyFrom_2 Q nx)]
def C_X7_copyFrom : SC := fun av sh me Q => match av with
  | [.ref a0, .ref a1] => s_wp P_X7_copyFrom Q 0 [some (.ref a0), some (.ref a1), none] [] sh me
  | _ => False
abbrev rm_X7_copyFrom : Room := { frames := 2, cells := 0, slots := 0, locals := 44 }
theorem hd_X7_copyFrom : (yX7_copyFrom).cls ≠ "java/lang/invoke/MethodHandle" ∧ (yX7_copyFrom).cls ≠ "java/lang/invoke/VarHandle" ∧ (parseMethodDescriptor (yX7_copyFrom).desc).map (fun d => d.parameters.length) = some 1 := by decide +kernel
set_option maxRecDepth 100000 in
set_option maxHeartbeats 4000000 in
theorem b_X7_copyFrom_0 (l : Launch) : s_B l rm_X7_copyFrom yX7_copyFrom cX7_copyFrom 3 ((none : Option FieldType)) false 0 B_X7_copyFrom_0 := fun p e s m args below meth c D ty ad A n0 φ0 Q G Y hY => (u_iconst G dX7_copyFrom_0 (by decide) (u_istore_n G dX7_copyFrom_1 rfl (hY 2)))
set_option maxRecDepth 100000 in
set_option maxHeartbeats 4000000 in
theorem b_X7_copyFrom_2 (l : Launch) : s_B l rm_X7_copyFrom yX7_copyFrom cX7_copyFrom 3 ((none : Option FieldType)) false 2 B_X7_copyFrom_2 := fun p e s m args below meth c D ty ad A n0 φ0 Q G Y hY => (u_iload_n G dX7_copyFrom_2 rfl (u_aload_n G dX7_copyFrom_3 rfl (t_getI G cl_7 (k := 1) (by decide) (Or.inl q1_90) rfl (Or.inl rfl) dX7_copyFrom_4 (u_icmp_ge G dX7_copyFrom_7 (by decide) (u_aload_n G dX7_copyFrom_31 rfl (u_aload_n G dX7_copyFrom_32 rfl (t_getI G cl_7 (k := 1) (by decide) (Or.inl q1_90) rfl (Or.inl rfl) dX7_copyFrom_33 (t_putI G cl_7 (k := 1) (by decide) (Or.inl ⟨rfl, Or.inl q1_90⟩) rfl rfl dX7_copyFrom_36 (u_aload_n G dX7_copyFrom_39 rfl (u_aload_n G dX7_copyFrom_40 rfl (t_getJ G cl_7 (k := 2) (by decide) (Or.inl q1_96) rfl rfl dX7_copyFrom_41 (t_putJ G cl_7 (k := 2) (by decide) (Or.inl ⟨rfl, Or.inl q1_96⟩) rfl rfl dX7_copyFrom_44 (u_aload_n G dX7_copyFrom_47 rfl (u_aload_n G dX7_copyFrom_48 rfl (t_getJ G cl_7 (k := 3) (by decide) (Or.inl q1_98) rfl rfl dX7_copyFrom_49 (t_putJ G cl_7 (k := 3) (by decide) (Or.inl ⟨rfl, Or.inl q1_98⟩) rfl rfl dX7_copyFrom_52 (u_aload_n G dX7_copyFrom_55 rfl (u_aload_n G dX7_copyFrom_56 rfl (t_getI G cl_7 (k := 4) (by decide) (Or.inl q1_102) rfl (Or.inl rfl) dX7_copyFrom_57 (t_putI G cl_7 (k := 4) (by decide) (Or.inl ⟨rfl, Or.inl q1_102⟩) rfl rfl dX7_copyFrom_60 (u_aload_n G dX7_copyFrom_63 rfl (u_aload_n G dX7_copyFrom_64 rfl (t_getI G cl_7 (k := 5) (by decide) (Or.inl q1_106) rfl (Or.inl rfl) dX7_copyFrom_65 (t_putI G cl_7 (k := 5) (by decide) (Or.inl ⟨rfl, Or.inl q1_106⟩) rfl rfl dX7_copyFrom_68 (u_aload_n G dX7_copyFrom_71 rfl (u_aload_n G dX7_copyFrom_72 rfl (t_getI G cl_7 (k := 6) (by decide) (Or.inl q1_110) rfl (Or.inr rfl) dX7_copyFrom_73 (t_putZ G cl_7 (k := 6) (by decide) (Or.inl ⟨rfl, Or.inl q1_110⟩) rfl rfl dX7_copyFrom_76 (u_aload_n G dX7_copyFrom_79 rfl (u_aload_n G dX7_copyFrom_80 rfl (t_getI G cl_7 (k := 7) (by decide) (Or.inl q1_113) rfl (Or.inl rfl) dX7_copyFrom_81 (t_putI G cl_7 (k := 7) (by decide) (Or.inl ⟨rfl, Or.inl q1_113⟩) rfl rfl dX7_copyFrom_84 (u_aload_n G dX7_copyFrom_87 rfl (u_aload_n G dX7_copyFrom_88 rfl (t_getI G cl_7 (k := 8) (by decide) (Or.inl q1_116) rfl (Or.inl rfl) dX7_copyFrom_89 (t_putI G cl_7 (k := 8) (by decide) (Or.inl ⟨rfl, Or.inl q1_116⟩) rfl rfl dX7_copyFrom_92 (u_aload_n G dX7_copyFrom_95 rfl (u_aload_n G dX7_copyFrom_96 rfl (t_getI G cl_7 (k := 9) (by decide) (Or.inl q1_118) rfl (Or.inl rfl) dX7_copyFrom_97 (t_putI G cl_7 (k := 9) (by decide) (Or.inl ⟨rfl, Or.inl q1_118⟩) rfl rfl dX7_copyFrom_100 (t_vret G rfl dX7_copyFrom_103))))))))))))))))))))))))))))))))))))) (u_aload_n G dX7_copyFrom_10 rfl (t_getR G cl_7 (k := 0) (by decide) (Or.inl q1_84) rfl (Or.inr ⟨_, rfl⟩) dX7_copyFrom_11 (u_iload_n G dX7_copyFrom_14 rfl (t_aald G (by decide) dX7_copyFrom_15 (u_aload_n G dX7_copyFrom_16 rfl (t_getR G cl_7 (k := 0) (by decide) (Or.inl q1_84) rfl (Or.inr ⟨_, rfl⟩) dX7_copyFrom_17 (u_iload_n G dX7_copyFrom_20 rfl (t_aald G (by decide) dX7_copyFrom_21 (t_callV G cl_1 (m_X1_copyFrom l) ⟨rfl, rfl⟩ rfl ⟨Nat.le_of_ble_eq_true rfl, Nat.le_of_ble_eq_true rfl⟩ q3_44 q1_3 (Or.inl q3_41) q3_42 q3_43 hd_X1_copyFrom dX7_copyFrom_22 (t_iinc G dX7_copyFrom_25 (by decide) (t_goto G dX7_copyFrom_28 (by decide) (hY 2))))))))))))))))
set_option maxRecDepth 100000 in
theorem m_X7_copyFrom (l : Launch) : s_Met l yX7_copyFrom cX7_copyFrom 3 ((none : Option FieldType)) rm_X7_copyFrom false C_X7_copyFrom := by
  intro D ty ad av φ sz sh me Q hsh hC
  unfold C_X7_copyFrom at hC
  split at hC
  · exact s_met1 (P := P_X7_copyFrom) (by decide +kernel) (fun _ => ⟨rfl, rfl⟩) (fun p e s m args below meth c D ty ad A n0 φ0 Q G Y hY => s_tab_T _ (List.forall_mem_cons.mpr ⟨b_X7_copyFrom_0 l p e s m args below meth c D ty ad A n0 φ0 Q G Y hY, List.forall_mem_cons.mpr ⟨b_X7_copyFrom_2 l p e s m args below meth c D ty ad A n0 φ0 Q G Y hY, fun _ h => absurd h List.not_mem_nil⟩⟩)) hsh rfl rfl (Nat.le_of_ble_eq_true rfl) hC
  · exact hC.elim
def B_X8_withBit_0 (Q : SQ) (nx : Nat → SK) : SK := (o_iload 3 (o_if (fun x => x = 0) (o_lload 0 (o_const (.long 1) (o_iload 2 (o_lsh (fun x y => x <<< (y.toInt64 &&& 63)) (o_const (.long (-1)) (o_l2 (fun x y => x ^^^ y) (o_l2 (fun x y => x &&& y) (nx 21)))))))) (o_lload 0 (o_const (.long 1) (o_iload 2 (o_lsh (fun x y => x <<< (y.toInt64 &&& 63)) (o_l2 (fun x y => x ||| y) (nx 21))))))))
def B_X8_withBit_21 (Q : SQ) (nx : Nat → SK) : SK := (o_lret Q)
def P_X8_withBit (Q : SQ) (nx : Nat → SK) : Nat → SK := s_tab [(0, B_X8_withBit_0 Q nx), (21, B_X8_withBit_21 Q nx)]
def C_X8_withBit : SC := fun av sh me Q => match av with
  | [.long a0, .int a1, .int a2] => s_wp P_X8_withBit Q 0 [some (.long a0), none, some (.int a1), some (.int a2)] [] sh me
  | _ => False
abbrev rm_X8_withBit : Room := { frames := 0, cells := 0, slots := 0, locals := 0 }
theorem hd_X8_withBit : (yX8_withBit).cls ≠ "java/lang/invoke/MethodHandle" ∧ (yX8_withBit).cls ≠ "java/lang/invoke/VarHandle" ∧ (parseMethodDescriptor (yX8_withBit).desc).map (fun d => d.parameters.length) = some 3 := by decide +kernel
set_option maxRecDepth 100000 in
set_option maxHeartbeats 4000000 in
theorem b_X8_withBit_0 (l : Launch) : s_B l rm_X8_withBit yX8_withBit cX8_withBit 4 ((some FieldType.long)) false 0 B_X8_withBit_0 := fun p e s m args below meth c D ty ad A n0 φ0 Q G Y hY => (u_iload_n G dX8_withBit_0 rfl (u_if_eq G dX8_withBit_1 (by decide) (u_lload_n G dX8_withBit_12 rfl (u_lconst G dX8_withBit_13 (by decide) (u_iload_n G dX8_withBit_14 rfl (u_lshl G dX8_withBit_15 (u_ldc2_w G q3_0 dX8_withBit_16 (u_lxor G dX8_withBit_19 (u_land G dX8_withBit_20 (hY 21)))))))) (u_lload_n G dX8_withBit_4 rfl (u_lconst G dX8_withBit_5 (by decide) (u_iload_n G dX8_withBit_6 rfl (u_lshl G dX8_withBit_7 (u_lor G dX8_withBit_8 (t_goto G dX8_withBit_9 (by decide) (hY 21)))))))))
set_option maxRecDepth 100000 in
set_option maxHeartbeats 4000000 in
theorem b_X8_withBit_21 (l : Launch) : s_B l rm_X8_withBit yX8_withBit cX8_withBit 4 ((some FieldType.long)) false 21 B_X8_withBit_21 := fun p e s m args below meth c D ty ad A n0 φ0 Q G Y hY => (t_lret G rfl dX8_withBit_21)
set_option maxRecDepth 100000 in
theorem m_X8_withBit (l : Launch) : s_Met l yX8_withBit cX8_withBit 4 ((some FieldType.long)) rm_X8_withBit false C_X8_withBit := by
  intro D ty ad av φ sz sh me Q hsh hC
  unfold C_X8_withBit at hC
  split at hC
  · exact s_met1 (P := P_X8_withBit) (by decide +kernel) (fun _ => ⟨rfl, rfl⟩) (fun p e s m args below meth c D ty ad A n0 φ0 Q G Y hY => s_tab_T _ (List.forall_mem_cons.mpr ⟨b_X8_withBit_0 l p e s m args below meth c D ty ad A n0 φ0 Q G Y hY, List.forall_mem_cons.mpr ⟨b_X8_withBit_21 l p e s m args below meth c D ty ad A n0 φ0 Q G Y hY, fun _ h => absurd h List.not_mem_nil⟩⟩)) hsh rfl rfl (Nat.le_of_ble_eq_true rfl) hC
  · exact hC.elim
