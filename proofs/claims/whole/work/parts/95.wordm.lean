/-! towns read: the reference's words -/
def off (w : Nat) : Nat := ([0, 6, 11, 20, 28, 34, 40] : List Nat).getD w 47
def wl (w : Nat) : List Nat := wL w ++ [32]
theorem off_f : ∀ w, w < 7 → off (w + 1) = off w + (wl w).length + 1 ∧ off w + (wl w).length < 47 ∧ wordT.getD (off w + (wl w).length) 0 = 0 ∧ (wl w).length = (wL w).length + 1 ∧ (wl w).length ≤ 8 := by decide
theorem off_l : ∀ w, w < 7 → ∀ j, j < 8 → j < (wl w).length → wordT.getD (off w + j) 0 = (wl w).getD j 0 ∧ 32 ≤ (wl w).getD j 0 ∧ (wl w).getD j 0 < 128 := by decide
theorem wl_L : ∀ w, w < 7 → ∀ j, j < 7 → j < (wL w).length → (wl w).getD j 0 = (wL w).getD j 0 ∧ 32 < (wL w).getD j 0 := by decide
theorem wl_e : ∀ w, w < 7 → (wl w).getD (wL w).length 0 = 32 := by decide
def fu (R : Nat → Int32) (pl : Nat) : Nat → Nat
  | 0 => pl
  | k + 1 => max (fu R pl k) (pl + mat R pl (wl k))
theorem fu_ge (R : Nat → Int32) (pl : Nat) : ∀ k, k ≤ 7 → pl ≤ fu R pl k ∧ fu R pl k ≤ pl + 8
  | 0, _ => ⟨Nat.le_refl _, by rw [fu]; omega⟩
  | k + 1, h => by
    have := fu_ge R pl k (by omega)
    have m := mat_le R (wl k) pl
    have := (off_f k (by omega)).2.2.2.2
    rw [fu]
    omega
theorem mat_00 {R : Nat → Int32} {pl c : Nat} {l : List Nat} (h : ¬ R pl = nI c) : mat R pl (c :: l) = 0 := if_neg h
theorem wix_n {v : Int32} (h : wix v = none) : ∀ w, w < 7 → ¬ v = nI ((wL w).getD 0 0) := by
  intro w hw e
  rcases (show w = 0 ∨ w = 1 ∨ w = 2 ∨ w = 3 ∨ w = 4 ∨ w = 5 ∨ w = 6 by omega) with rfl | rfl | rfl | rfl | rfl | rfl | rfl <;> (subst e; exact absurd h (by decide))
theorem mat_wl {R : Nat → Int32} {pl w : Nat} (hw : w < 7) (h : ¬ R pl = nI ((wL w).getD 0 0)) : mat R pl (wl w) = 0 := by
  rcases (show w = 0 ∨ w = 1 ∨ w = 2 ∨ w = 3 ∨ w = 4 ∨ w = 5 ∨ w = 6 by omega) with rfl | rfl | rfl | rfl | rfl | rfl | rfl <;> exact mat_00 h
theorem fu_no {R : Nat → Int32} {pl : Nat} (h : wix (R pl) = none) : ∀ k, k ≤ 7 → fu R pl k = pl
  | 0, _ => rfl
  | k + 1, hk => by
    rw [fu, fu_no h k (by omega), mat_wl (by omega) (wix_n h k (by omega))]
    omega
theorem wix_o : ∀ w, w < 7 → ∀ k, k < 7 → ¬ k = w → ¬ nI ((wL w).getD 0 0) = nI ((wL k).getD 0 0) := by decide
theorem fu_is {R : Nat → Int32} {pl w : Nat} (h : wix (R pl) = some w) : ∀ k, k ≤ 7 → fu R pl k = if w < k then pl + mat R pl (wl w) else pl
  | 0, _ => rfl
  | k + 1, hk => by
    obtain ⟨hw, e⟩ := wix_lt h
    rw [fu, fu_is h k (by omega)]
    by_cases g : k = w
    · subst g
      rw [if_neg (by omega), if_pos (by omega)]
      omega
    · rw [mat_wl (w := k) (by omega) (by rw [e]; exact wix_o w hw k (by omega) g)]
      by_cases g2 : w < k
      · rw [if_pos g2, if_pos (by omega)]; omega
      · rw [if_neg g2, if_neg (by omega)]; omega
theorem mat_up {R : Nat → Int32} {pl w : Nat} (hw : w < 7) : mat R pl (wl w) = if mat R pl (wL w) < (wL w).length then mat R pl (wL w) else if R (pl + (wL w).length) = nI 32 then (wL w).length + 1 else (wL w).length := by
  have l7 := wL_l hw
  have lw := (off_f w hw).2.2.2.1
  have hin : ∀ j, j < mat R pl (wL w) → R (pl + j) = nI ((wl w).getD j 0) := fun j hj => by
    have := mat_le R (wL w) pl
    rw [(wl_L w hw j (by omega) (by omega)).1]
    exact mat_in R (wL w) pl j hj
  split
  · rename_i g
    refine mat_at (by omega) hin ?_
    rw [(wl_L w hw _ (by omega) g).1]
    exact mat_out R (wL w) pl g
  · rename_i g
    have em : mat R pl (wL w) = (wL w).length := by have := mat_le R (wL w) pl; omega
    rw [em] at hin
    split
    · rename_i g2
      rw [← lw]
      refine mat_all (fun j hj => ?_)
      by_cases z : j < (wL w).length
      · exact hin j z
      · obtain rfl : j = (wL w).length := by omega
        rw [wl_e w hw]
        exact g2
    · rename_i g2
      refine mat_at (by omega) hin ?_
      rw [wl_e w hw]
      exact g2
section
variable {I0 I' : Nat → Nat → Int32} {J : Nat → Nat → Int64} {p q : Option Nat} {Q : SQ} {σ : TS} {s pl L : Nat} {E : Nat → Int64}
theorem rd_in (h0 : YE I0 J s L E) {i c : Nat} (h : rdT E L i = nI c) (hc : c < 128) : i < L ∧ i < 160 ∧ J 95 (160 * s + i) = E i ∧ (E i).toInt32 = nI c := by
  unfold rdT at h
  split at h
  · rename_i g
    exact ⟨g, Nat.lt_of_lt_of_le g h0.2.1, h0.2.2.2.2.2.2 i (Nat.lt_of_lt_of_le g h0.2.1), h⟩
  · have := congrArg Int32.toInt h
    rw [nI_toInt (by omega), show (-1 : Int32).toInt = -1 by decide] at this
    omega
theorem y_word (h0 : YE I0 J s L E) (hG : YG I0 I') (e29 : I' 80 29 = nI pl) (hp : pl < 900) (h1 : ∀ w, w < 7 → mat (rdT E L) pl (wl w) = (wl w).length → Q (some (.int (nI w))) SH (uI I' 80 29 (nI (pl + (wl w).length)), J, RS p q)) (h2 : (∀ w, w < 7 → ¬ mat (rdT E L) pl (wl w) = (wl w).length) → Q (some (.int (-1))) SH (uI I' 80 32 (nI (fu (rdT E L) pl 7)), J, RS p q)) : C_X9_word [.ref 80] SH (I', J, RS p q) Q := by
  obtain ⟨e28, e30, eW, _⟩ := yg_28 h0 hG
  have hs := h0.1
  have hL := h0.2.1
  have hE := @rd_in I0 J s L E h0
  have hQ : ∀ i, i < L → J 95 (160 * s + i) = E i ∧ rdT E L i = (E i).toInt32 := fun i hi => ⟨h0.2.2.2.2.2.2 i (by omega), if_pos hi⟩
  generalize hRR : rdT E L = R at h1 h2 hE hQ
  unfold C_X9_word
  have scan : ∀ k, k < 7 → ∀ x1 x2 d j, j + d = mat R pl (wl k) → s_wp P_X9_word Q 75 [some (.ref 80), x1, x2, some (.int (nI k)), some (.int (nI (pl + mat R pl (wl k)))), some (.int (nI (off k + mat R pl (wl k))))] [] SH (I', J, RS p q) → s_wp P_X9_word Q 24 [some (.ref 80), x1, x2, some (.int (nI k)), some (.int (nI (pl + j))), some (.int (nI (off k + j)))] [] SH (I', J, RS p q) := by
    intro k hk x1 x2 d
    obtain ⟨o1, o2, o3, o4, o5⟩ := off_f k hk
    have hm := mat_le R (wl k) pl
    induction d with
    | zero =>
      intro j hj hq
      obtain rfl : j = mat R pl (wl k) := by omega
      by_cases g : mat R pl (wl k) = (wl k).length
      · rw [g] at hq ⊢
        have e97 : I' 97 (off k + (wl k).length) = nI 0 := by rw [eW.1 _ o2, o3]
        refine w_X9_word_24 ?_
        simp (disch := omega) only [o_const, o_iload, o_lload, o_aload, o_istore, o_astore, o_lstore, o_iinc, o_i1, o_i2, o_div, o_l2, o_lsh, o_il, o_li, o_lcmp, o_pop, o_dup, o_dup2, o_dupx1, o_if, o_ic, o_sw, s_sw, o_getI, o_getJ, o_getR, o_putI, o_putZ, o_putJ, o_putR, o_iald, o_iast, o_lald, o_last, o_aald, o_alen, o_tald, o_getsA, o_call, o_callV, s_rc, o_math1, o_math2, o_copyl, o_vret, o_iret, o_zret, o_lret, o_aret, s_get, s_put1, s_put2, s_unl, s_head, s_pop, s_sm, s_ret, Option.toList, List.cons_append, List.nil_append, List.length_cons, List.length_nil, Value.category, s_uI_t, s_uJ_t, s_uR_0, s_uR_1, sh_n, Nat.reduceLT, Nat.reduceAdd, Nat.reduceEqDiff, true_and, and_true, eq_self, true_or, or_true, not_false_eq_true, not_true_eq_false, n6, n9, n2, n4, n5, n10, n64, n1000, B_X9_word_24, sh_c80, sh_c81, sh_c82, sh_c83, sh_c84, sh_c85, sh_c86, sh_c87, sh_c88, sh_c89, sh_c90, sh_c91, sh_c92, sh_c93, sh_c94, sh_c95, sh_c96, sh_c97, sh_c98, sh_c99, sh_c100, sh_c101, sh_c102, sh_c103, sh_c104, sh_c105, sh_c106, sh_c107, sh_l81, sh_l82, sh_l83, sh_l84, sh_l85, sh_l86, sh_l87, sh_l88, sh_l89, sh_l90, sh_l91, sh_l92, sh_l93, sh_l94, sh_l95, sh_l96, sh_l97, sh_l98, sh_l99, sh_l100, sh_l101, sh_l102, sh_l103, sh_l104, sh_l105, sh_l106, sh_l107, rs_80_8, rs_80_9, rs_80_10, rs_80_11, rs_80_12, rs_80_13, rs_80_14, rs_80_15, rs_80_16, rs_80_17, rs_80_18, rs_80_19, rs_80_20, rs_80_21, rs_80_22, rs_80_23, rs_80_24, rs_80_25, rs_80_26, rs_80_27, rs_80_33, rs_80_34, rs_80_35, rs_80_37, rs_80_38, rs_80_39, rs_80_41, Nat.zero_le, Nat.not_lt_zero, nE, nLt, nLe, nE1, nE1', nLt1, nLe1, n1Lt, n1Le, m1_ne, m1_ne', m1_lt, nI_add, nI_1, nSub, nSub1, pk_mul, nDv, nRm, n_md, nVp, nVp0, nVp1, nCl, nIL, lN_i, bi_n0, bi_o, o01, o11, n1_0, n0_1, nm_0, false_or, or_false, false_and, and_false, Decidable.not_not, false_implies, true_implies, ne_eq, reduceCtorEq, ite_true, ite_false, n_0, n_2, n_3, n_4, n_5, n_6, n_7, n_8, n_9, n_10, n_11, n_16, n_20, n_30, n_32, n_36, n_40, n_48, n_57, n_59, n_60, n_64, n_97, n_98, n_99, n_100, n_101, n_108, n_112, n_114, n_115, n_119, n_130, n_160, n_1000, n_9999, n_1280, n_100000000, n_268435456, n_35, n_17, n_51, n_50, n_70, n_71, n_12, e97]
        exact hq
      · have g1 : mat R pl (wl k) < (wl k).length := by omega
        have mo := mat_out R (wl k) pl g1
        generalize mat R pl (wl k) = m at hq mo g1 ⊢
        obtain ⟨c1, c2, c3⟩ := off_l k hk m (by omega) g1
        have e97 : I' 97 (off k + m) = nI ((wl k).getD m 0) := by rw [eW.1 _ (by omega), c1]
        generalize (wl k).getD m 0 = c at mo c2 c3 e97
        by_cases g2 : pl + m < L
        · obtain ⟨q1, q2⟩ := hQ (pl + m) g2
          rw [q2] at mo
          refine w_X9_word_24 ?_
          simp (disch := omega) only [o_const, o_iload, o_lload, o_aload, o_istore, o_astore, o_lstore, o_iinc, o_i1, o_i2, o_div, o_l2, o_lsh, o_il, o_li, o_lcmp, o_pop, o_dup, o_dup2, o_dupx1, o_if, o_ic, o_sw, s_sw, o_getI, o_getJ, o_getR, o_putI, o_putZ, o_putJ, o_putR, o_iald, o_iast, o_lald, o_last, o_aald, o_alen, o_tald, o_getsA, o_call, o_callV, s_rc, o_math1, o_math2, o_copyl, o_vret, o_iret, o_zret, o_lret, o_aret, s_get, s_put1, s_put2, s_unl, s_head, s_pop, s_sm, s_ret, Option.toList, List.cons_append, List.nil_append, List.length_cons, List.length_nil, Value.category, s_uI_t, s_uJ_t, s_uR_0, s_uR_1, sh_n, Nat.reduceLT, Nat.reduceAdd, Nat.reduceEqDiff, true_and, and_true, eq_self, true_or, or_true, not_false_eq_true, not_true_eq_false, n6, n9, n2, n4, n5, n10, n64, n1000, B_X9_word_24, sh_c80, sh_c81, sh_c82, sh_c83, sh_c84, sh_c85, sh_c86, sh_c87, sh_c88, sh_c89, sh_c90, sh_c91, sh_c92, sh_c93, sh_c94, sh_c95, sh_c96, sh_c97, sh_c98, sh_c99, sh_c100, sh_c101, sh_c102, sh_c103, sh_c104, sh_c105, sh_c106, sh_c107, sh_l81, sh_l82, sh_l83, sh_l84, sh_l85, sh_l86, sh_l87, sh_l88, sh_l89, sh_l90, sh_l91, sh_l92, sh_l93, sh_l94, sh_l95, sh_l96, sh_l97, sh_l98, sh_l99, sh_l100, sh_l101, sh_l102, sh_l103, sh_l104, sh_l105, sh_l106, sh_l107, rs_80_8, rs_80_9, rs_80_10, rs_80_11, rs_80_12, rs_80_13, rs_80_14, rs_80_15, rs_80_16, rs_80_17, rs_80_18, rs_80_19, rs_80_20, rs_80_21, rs_80_22, rs_80_23, rs_80_24, rs_80_25, rs_80_26, rs_80_27, rs_80_33, rs_80_34, rs_80_35, rs_80_37, rs_80_38, rs_80_39, rs_80_41, Nat.zero_le, Nat.not_lt_zero, nE, nLt, nLe, nE1, nE1', nLt1, nLe1, n1Lt, n1Le, m1_ne, m1_ne', m1_lt, nI_add, nI_1, nSub, nSub1, pk_mul, nDv, nRm, n_md, nVp, nVp0, nVp1, nCl, nIL, lN_i, bi_n0, bi_o, o01, o11, n1_0, n0_1, nm_0, false_or, or_false, false_and, and_false, Decidable.not_not, false_implies, true_implies, ne_eq, reduceCtorEq, ite_true, ite_false, n_0, n_2, n_3, n_4, n_5, n_6, n_7, n_8, n_9, n_10, n_11, n_16, n_20, n_30, n_32, n_36, n_40, n_48, n_57, n_59, n_60, n_64, n_97, n_98, n_99, n_100, n_101, n_108, n_112, n_114, n_115, n_119, n_130, n_160, n_1000, n_9999, n_1280, n_100000000, n_268435456, n_35, n_17, n_51, n_50, n_70, n_71, n_12, e97, e28, e30, q1]
          refine ⟨fun z => absurd z (by omega), fun _ => ⟨fun z => absurd z (by omega), fun _ => ⟨fun _ => hq, fun z => absurd z mo⟩⟩⟩
        · refine w_X9_word_24 ?_
          simp (disch := omega) only [o_const, o_iload, o_lload, o_aload, o_istore, o_astore, o_lstore, o_iinc, o_i1, o_i2, o_div, o_l2, o_lsh, o_il, o_li, o_lcmp, o_pop, o_dup, o_dup2, o_dupx1, o_if, o_ic, o_sw, s_sw, o_getI, o_getJ, o_getR, o_putI, o_putZ, o_putJ, o_putR, o_iald, o_iast, o_lald, o_last, o_aald, o_alen, o_tald, o_getsA, o_call, o_callV, s_rc, o_math1, o_math2, o_copyl, o_vret, o_iret, o_zret, o_lret, o_aret, s_get, s_put1, s_put2, s_unl, s_head, s_pop, s_sm, s_ret, Option.toList, List.cons_append, List.nil_append, List.length_cons, List.length_nil, Value.category, s_uI_t, s_uJ_t, s_uR_0, s_uR_1, sh_n, Nat.reduceLT, Nat.reduceAdd, Nat.reduceEqDiff, true_and, and_true, eq_self, true_or, or_true, not_false_eq_true, not_true_eq_false, n6, n9, n2, n4, n5, n10, n64, n1000, B_X9_word_24, sh_c80, sh_c81, sh_c82, sh_c83, sh_c84, sh_c85, sh_c86, sh_c87, sh_c88, sh_c89, sh_c90, sh_c91, sh_c92, sh_c93, sh_c94, sh_c95, sh_c96, sh_c97, sh_c98, sh_c99, sh_c100, sh_c101, sh_c102, sh_c103, sh_c104, sh_c105, sh_c106, sh_c107, sh_l81, sh_l82, sh_l83, sh_l84, sh_l85, sh_l86, sh_l87, sh_l88, sh_l89, sh_l90, sh_l91, sh_l92, sh_l93, sh_l94, sh_l95, sh_l96, sh_l97, sh_l98, sh_l99, sh_l100, sh_l101, sh_l102, sh_l103, sh_l104, sh_l105, sh_l106, sh_l107, rs_80_8, rs_80_9, rs_80_10, rs_80_11, rs_80_12, rs_80_13, rs_80_14, rs_80_15, rs_80_16, rs_80_17, rs_80_18, rs_80_19, rs_80_20, rs_80_21, rs_80_22, rs_80_23, rs_80_24, rs_80_25, rs_80_26, rs_80_27, rs_80_33, rs_80_34, rs_80_35, rs_80_37, rs_80_38, rs_80_39, rs_80_41, Nat.zero_le, Nat.not_lt_zero, nE, nLt, nLe, nE1, nE1', nLt1, nLe1, n1Lt, n1Le, m1_ne, m1_ne', m1_lt, nI_add, nI_1, nSub, nSub1, pk_mul, nDv, nRm, n_md, nVp, nVp0, nVp1, nCl, nIL, lN_i, bi_n0, bi_o, o01, o11, n1_0, n0_1, nm_0, false_or, or_false, false_and, and_false, Decidable.not_not, false_implies, true_implies, ne_eq, reduceCtorEq, ite_true, ite_false, n_0, n_2, n_3, n_4, n_5, n_6, n_7, n_8, n_9, n_10, n_11, n_16, n_20, n_30, n_32, n_36, n_40, n_48, n_57, n_59, n_60, n_64, n_97, n_98, n_99, n_100, n_101, n_108, n_112, n_114, n_115, n_119, n_130, n_160, n_1000, n_9999, n_1280, n_100000000, n_268435456, n_35, n_17, n_51, n_50, n_70, n_71, n_12, e97, e28, e30]
          refine ⟨fun z => absurd z (by omega), fun _ => ⟨fun _ => hq, fun z => absurd z (by omega)⟩⟩
    | succ d ih =>
      intro j hj hq
      have mi := mat_in R (wl k) pl j (by omega)
      obtain ⟨c1, c2, c3⟩ := off_l k hk j (by omega) (by omega)
      have e97 : I' 97 (off k + j) = nI ((wl k).getD j 0) := by rw [eW.1 _ (by omega), c1]
      have nxt := ih (j + 1) (by omega) hq
      generalize (wl k).getD j 0 = c at mi c2 c3 e97
      obtain ⟨q0, q1, q2, q3⟩ := hE mi c3
      refine w_X9_word_24 ?_
      simp (disch := omega) only [o_const, o_iload, o_lload, o_aload, o_istore, o_astore, o_lstore, o_iinc, o_i1, o_i2, o_div, o_l2, o_lsh, o_il, o_li, o_lcmp, o_pop, o_dup, o_dup2, o_dupx1, o_if, o_ic, o_sw, s_sw, o_getI, o_getJ, o_getR, o_putI, o_putZ, o_putJ, o_putR, o_iald, o_iast, o_lald, o_last, o_aald, o_alen, o_tald, o_getsA, o_call, o_callV, s_rc, o_math1, o_math2, o_copyl, o_vret, o_iret, o_zret, o_lret, o_aret, s_get, s_put1, s_put2, s_unl, s_head, s_pop, s_sm, s_ret, Option.toList, List.cons_append, List.nil_append, List.length_cons, List.length_nil, Value.category, s_uI_t, s_uJ_t, s_uR_0, s_uR_1, sh_n, Nat.reduceLT, Nat.reduceAdd, Nat.reduceEqDiff, true_and, and_true, eq_self, true_or, or_true, not_false_eq_true, not_true_eq_false, n6, n9, n2, n4, n5, n10, n64, n1000, B_X9_word_24, sh_c80, sh_c81, sh_c82, sh_c83, sh_c84, sh_c85, sh_c86, sh_c87, sh_c88, sh_c89, sh_c90, sh_c91, sh_c92, sh_c93, sh_c94, sh_c95, sh_c96, sh_c97, sh_c98, sh_c99, sh_c100, sh_c101, sh_c102, sh_c103, sh_c104, sh_c105, sh_c106, sh_c107, sh_l81, sh_l82, sh_l83, sh_l84, sh_l85, sh_l86, sh_l87, sh_l88, sh_l89, sh_l90, sh_l91, sh_l92, sh_l93, sh_l94, sh_l95, sh_l96, sh_l97, sh_l98, sh_l99, sh_l100, sh_l101, sh_l102, sh_l103, sh_l104, sh_l105, sh_l106, sh_l107, rs_80_8, rs_80_9, rs_80_10, rs_80_11, rs_80_12, rs_80_13, rs_80_14, rs_80_15, rs_80_16, rs_80_17, rs_80_18, rs_80_19, rs_80_20, rs_80_21, rs_80_22, rs_80_23, rs_80_24, rs_80_25, rs_80_26, rs_80_27, rs_80_33, rs_80_34, rs_80_35, rs_80_37, rs_80_38, rs_80_39, rs_80_41, Nat.zero_le, Nat.not_lt_zero, nE, nLt, nLe, nE1, nE1', nLt1, nLe1, n1Lt, n1Le, m1_ne, m1_ne', m1_lt, nI_add, nI_1, nSub, nSub1, pk_mul, nDv, nRm, n_md, nVp, nVp0, nVp1, nCl, nIL, lN_i, bi_n0, bi_o, o01, o11, n1_0, n0_1, nm_0, false_or, or_false, false_and, and_false, Decidable.not_not, false_implies, true_implies, ne_eq, reduceCtorEq, ite_true, ite_false, n_0, n_2, n_3, n_4, n_5, n_6, n_7, n_8, n_9, n_10, n_11, n_16, n_20, n_30, n_32, n_36, n_40, n_48, n_57, n_59, n_60, n_64, n_97, n_98, n_99, n_100, n_101, n_108, n_112, n_114, n_115, n_119, n_130, n_160, n_1000, n_9999, n_1280, n_100000000, n_268435456, n_35, n_17, n_51, n_50, n_70, n_71, n_12, e97, e28, e30, q2, q3]
      refine ⟨fun z => absurd z (by omega), fun _ => ⟨fun z => absurd z (by omega), fun _ => ?_⟩⟩
      exact nxt
  have skip : ∀ k, k < 7 → ∀ x2 x4 x5 d j, j + d = (wl k).length → s_wp P_X9_word Q 9 [some (.ref 80), some (.int (nI (off (k + 1)))), some (.int x2), some (.int (nI (k + 1))), x4, x5] [] SH (I', J, RS p q) → s_wp P_X9_word Q 106 [some (.ref 80), some (.int (nI (off k + j))), some (.int x2), some (.int (nI k)), x4, x5] [] SH (I', J, RS p q) := by
    intro k hk x2 x4 x5 d
    obtain ⟨o1, o2, o3, o4, o5⟩ := off_f k hk
    induction d with
    | zero =>
      intro j hj hq
      obtain rfl : j = (wl k).length := by omega
      have e97 : I' 97 (off k + (wl k).length) = nI 0 := by rw [eW.1 _ o2, o3]
      rw [o1] at hq
      refine w_X9_word_106 ?_
      simp (disch := omega) only [o_const, o_iload, o_lload, o_aload, o_istore, o_astore, o_lstore, o_iinc, o_i1, o_i2, o_div, o_l2, o_lsh, o_il, o_li, o_lcmp, o_pop, o_dup, o_dup2, o_dupx1, o_if, o_ic, o_sw, s_sw, o_getI, o_getJ, o_getR, o_putI, o_putZ, o_putJ, o_putR, o_iald, o_iast, o_lald, o_last, o_aald, o_alen, o_tald, o_getsA, o_call, o_callV, s_rc, o_math1, o_math2, o_copyl, o_vret, o_iret, o_zret, o_lret, o_aret, s_get, s_put1, s_put2, s_unl, s_head, s_pop, s_sm, s_ret, Option.toList, List.cons_append, List.nil_append, List.length_cons, List.length_nil, Value.category, s_uI_t, s_uJ_t, s_uR_0, s_uR_1, sh_n, Nat.reduceLT, Nat.reduceAdd, Nat.reduceEqDiff, true_and, and_true, eq_self, true_or, or_true, not_false_eq_true, not_true_eq_false, n6, n9, n2, n4, n5, n10, n64, n1000, B_X9_word_106, sh_c80, sh_c81, sh_c82, sh_c83, sh_c84, sh_c85, sh_c86, sh_c87, sh_c88, sh_c89, sh_c90, sh_c91, sh_c92, sh_c93, sh_c94, sh_c95, sh_c96, sh_c97, sh_c98, sh_c99, sh_c100, sh_c101, sh_c102, sh_c103, sh_c104, sh_c105, sh_c106, sh_c107, sh_l81, sh_l82, sh_l83, sh_l84, sh_l85, sh_l86, sh_l87, sh_l88, sh_l89, sh_l90, sh_l91, sh_l92, sh_l93, sh_l94, sh_l95, sh_l96, sh_l97, sh_l98, sh_l99, sh_l100, sh_l101, sh_l102, sh_l103, sh_l104, sh_l105, sh_l106, sh_l107, rs_80_8, rs_80_9, rs_80_10, rs_80_11, rs_80_12, rs_80_13, rs_80_14, rs_80_15, rs_80_16, rs_80_17, rs_80_18, rs_80_19, rs_80_20, rs_80_21, rs_80_22, rs_80_23, rs_80_24, rs_80_25, rs_80_26, rs_80_27, rs_80_33, rs_80_34, rs_80_35, rs_80_37, rs_80_38, rs_80_39, rs_80_41, Nat.zero_le, Nat.not_lt_zero, nE, nLt, nLe, nE1, nE1', nLt1, nLe1, n1Lt, n1Le, m1_ne, m1_ne', m1_lt, nI_add, nI_1, nSub, nSub1, pk_mul, nDv, nRm, n_md, nVp, nVp0, nVp1, nCl, nIL, lN_i, bi_n0, bi_o, o01, o11, n1_0, n0_1, nm_0, false_or, or_false, false_and, and_false, Decidable.not_not, false_implies, true_implies, ne_eq, reduceCtorEq, ite_true, ite_false, n_0, n_2, n_3, n_4, n_5, n_6, n_7, n_8, n_9, n_10, n_11, n_16, n_20, n_30, n_32, n_36, n_40, n_48, n_57, n_59, n_60, n_64, n_97, n_98, n_99, n_100, n_101, n_108, n_112, n_114, n_115, n_119, n_130, n_160, n_1000, n_9999, n_1280, n_100000000, n_268435456, n_35, n_17, n_51, n_50, n_70, n_71, n_12, e97]
      exact hq
    | succ d ih =>
      intro j hj hq
      obtain ⟨c1, c2, c3⟩ := off_l k hk j (by omega) (by omega)
      have e97 : I' 97 (off k + j) = nI ((wl k).getD j 0) := by rw [eW.1 _ (by omega), c1]
      have nxt := ih (j + 1) (by omega) hq
      generalize (wl k).getD j 0 = c at c2 c3 e97
      refine w_X9_word_106 ?_
      simp (disch := omega) only [o_const, o_iload, o_lload, o_aload, o_istore, o_astore, o_lstore, o_iinc, o_i1, o_i2, o_div, o_l2, o_lsh, o_il, o_li, o_lcmp, o_pop, o_dup, o_dup2, o_dupx1, o_if, o_ic, o_sw, s_sw, o_getI, o_getJ, o_getR, o_putI, o_putZ, o_putJ, o_putR, o_iald, o_iast, o_lald, o_last, o_aald, o_alen, o_tald, o_getsA, o_call, o_callV, s_rc, o_math1, o_math2, o_copyl, o_vret, o_iret, o_zret, o_lret, o_aret, s_get, s_put1, s_put2, s_unl, s_head, s_pop, s_sm, s_ret, Option.toList, List.cons_append, List.nil_append, List.length_cons, List.length_nil, Value.category, s_uI_t, s_uJ_t, s_uR_0, s_uR_1, sh_n, Nat.reduceLT, Nat.reduceAdd, Nat.reduceEqDiff, true_and, and_true, eq_self, true_or, or_true, not_false_eq_true, not_true_eq_false, n6, n9, n2, n4, n5, n10, n64, n1000, B_X9_word_106, sh_c80, sh_c81, sh_c82, sh_c83, sh_c84, sh_c85, sh_c86, sh_c87, sh_c88, sh_c89, sh_c90, sh_c91, sh_c92, sh_c93, sh_c94, sh_c95, sh_c96, sh_c97, sh_c98, sh_c99, sh_c100, sh_c101, sh_c102, sh_c103, sh_c104, sh_c105, sh_c106, sh_c107, sh_l81, sh_l82, sh_l83, sh_l84, sh_l85, sh_l86, sh_l87, sh_l88, sh_l89, sh_l90, sh_l91, sh_l92, sh_l93, sh_l94, sh_l95, sh_l96, sh_l97, sh_l98, sh_l99, sh_l100, sh_l101, sh_l102, sh_l103, sh_l104, sh_l105, sh_l106, sh_l107, rs_80_8, rs_80_9, rs_80_10, rs_80_11, rs_80_12, rs_80_13, rs_80_14, rs_80_15, rs_80_16, rs_80_17, rs_80_18, rs_80_19, rs_80_20, rs_80_21, rs_80_22, rs_80_23, rs_80_24, rs_80_25, rs_80_26, rs_80_27, rs_80_33, rs_80_34, rs_80_35, rs_80_37, rs_80_38, rs_80_39, rs_80_41, Nat.zero_le, Nat.not_lt_zero, nE, nLt, nLe, nE1, nE1', nLt1, nLe1, n1Lt, n1Le, m1_ne, m1_ne', m1_lt, nI_add, nI_1, nSub, nSub1, pk_mul, nDv, nRm, n_md, nVp, nVp0, nVp1, nCl, nIL, lN_i, bi_n0, bi_o, o01, o11, n1_0, n0_1, nm_0, false_or, or_false, false_and, and_false, Decidable.not_not, false_implies, true_implies, ne_eq, reduceCtorEq, ite_true, ite_false, n_0, n_2, n_3, n_4, n_5, n_6, n_7, n_8, n_9, n_10, n_11, n_16, n_20, n_30, n_32, n_36, n_40, n_48, n_57, n_59, n_60, n_64, n_97, n_98, n_99, n_100, n_101, n_108, n_112, n_114, n_115, n_119, n_130, n_160, n_1000, n_9999, n_1280, n_100000000, n_268435456, n_35, n_17, n_51, n_50, n_70, n_71, n_12, e97]
      refine br_f (by omega) ?_
      exact nxt
  have lo : ∀ d k x4 x5, k + d = 7 → (∀ w, w < k → ¬ mat R pl (wl w) = (wl w).length) → s_wp P_X9_word Q 9 [some (.ref 80), some (.int (nI (off k))), some (.int (nI (fu R pl k))), some (.int (nI k)), x4, x5] [] SH (I', J, RS p q) := by
    intro d
    induction d with
    | zero =>
      intro k x4 x5 hk hn
      obtain rfl : k = 7 := by omega
      refine w_X9_word_9 ?_
      simp (disch := omega) only [o_const, o_iload, o_lload, o_aload, o_istore, o_astore, o_lstore, o_iinc, o_i1, o_i2, o_div, o_l2, o_lsh, o_il, o_li, o_lcmp, o_pop, o_dup, o_dup2, o_dupx1, o_if, o_ic, o_sw, s_sw, o_getI, o_getJ, o_getR, o_putI, o_putZ, o_putJ, o_putR, o_iald, o_iast, o_lald, o_last, o_aald, o_alen, o_tald, o_getsA, o_call, o_callV, s_rc, o_math1, o_math2, o_copyl, o_vret, o_iret, o_zret, o_lret, o_aret, s_get, s_put1, s_put2, s_unl, s_head, s_pop, s_sm, s_ret, Option.toList, List.cons_append, List.nil_append, List.length_cons, List.length_nil, Value.category, s_uI_t, s_uJ_t, s_uR_0, s_uR_1, sh_n, Nat.reduceLT, Nat.reduceAdd, Nat.reduceEqDiff, true_and, and_true, eq_self, true_or, or_true, not_false_eq_true, not_true_eq_false, n6, n9, n2, n4, n5, n10, n64, n1000, B_X9_word_9, sh_c80, sh_c81, sh_c82, sh_c83, sh_c84, sh_c85, sh_c86, sh_c87, sh_c88, sh_c89, sh_c90, sh_c91, sh_c92, sh_c93, sh_c94, sh_c95, sh_c96, sh_c97, sh_c98, sh_c99, sh_c100, sh_c101, sh_c102, sh_c103, sh_c104, sh_c105, sh_c106, sh_c107, sh_l81, sh_l82, sh_l83, sh_l84, sh_l85, sh_l86, sh_l87, sh_l88, sh_l89, sh_l90, sh_l91, sh_l92, sh_l93, sh_l94, sh_l95, sh_l96, sh_l97, sh_l98, sh_l99, sh_l100, sh_l101, sh_l102, sh_l103, sh_l104, sh_l105, sh_l106, sh_l107, rs_80_8, rs_80_9, rs_80_10, rs_80_11, rs_80_12, rs_80_13, rs_80_14, rs_80_15, rs_80_16, rs_80_17, rs_80_18, rs_80_19, rs_80_20, rs_80_21, rs_80_22, rs_80_23, rs_80_24, rs_80_25, rs_80_26, rs_80_27, rs_80_33, rs_80_34, rs_80_35, rs_80_37, rs_80_38, rs_80_39, rs_80_41, Nat.zero_le, Nat.not_lt_zero, nE, nLt, nLe, nE1, nE1', nLt1, nLe1, n1Lt, n1Le, m1_ne, m1_ne', m1_lt, nI_add, nI_1, nSub, nSub1, pk_mul, nDv, nRm, n_md, nVp, nVp0, nVp1, nCl, nIL, lN_i, bi_n0, bi_o, o01, o11, n1_0, n0_1, nm_0, false_or, or_false, false_and, and_false, Decidable.not_not, false_implies, true_implies, ne_eq, reduceCtorEq, ite_true, ite_false, n_0, n_2, n_3, n_4, n_5, n_6, n_7, n_8, n_9, n_10, n_11, n_16, n_20, n_30, n_32, n_36, n_40, n_48, n_57, n_59, n_60, n_64, n_97, n_98, n_99, n_100, n_101, n_108, n_112, n_114, n_115, n_119, n_130, n_160, n_1000, n_9999, n_1280, n_100000000, n_268435456, n_35, n_17, n_51, n_50, n_70, n_71, n_12]
      exact br_t (by decide) (h2 hn)
    | succ d ih =>
      intro k x4 x5 hk hn
      obtain ⟨o1, o2, o3, o4, o5⟩ := off_f k (by omega)
      have hm := mat_le R (wl k) pl
      have hf := fu_ge R pl k (by omega)
      refine w_X9_word_9 ?_
      simp (disch := omega) only [o_const, o_iload, o_lload, o_aload, o_istore, o_astore, o_lstore, o_iinc, o_i1, o_i2, o_div, o_l2, o_lsh, o_il, o_li, o_lcmp, o_pop, o_dup, o_dup2, o_dupx1, o_if, o_ic, o_sw, s_sw, o_getI, o_getJ, o_getR, o_putI, o_putZ, o_putJ, o_putR, o_iald, o_iast, o_lald, o_last, o_aald, o_alen, o_tald, o_getsA, o_call, o_callV, s_rc, o_math1, o_math2, o_copyl, o_vret, o_iret, o_zret, o_lret, o_aret, s_get, s_put1, s_put2, s_unl, s_head, s_pop, s_sm, s_ret, Option.toList, List.cons_append, List.nil_append, List.length_cons, List.length_nil, Value.category, s_uI_t, s_uJ_t, s_uR_0, s_uR_1, sh_n, Nat.reduceLT, Nat.reduceAdd, Nat.reduceEqDiff, true_and, and_true, eq_self, true_or, or_true, not_false_eq_true, not_true_eq_false, n6, n9, n2, n4, n5, n10, n64, n1000, B_X9_word_9, sh_c80, sh_c81, sh_c82, sh_c83, sh_c84, sh_c85, sh_c86, sh_c87, sh_c88, sh_c89, sh_c90, sh_c91, sh_c92, sh_c93, sh_c94, sh_c95, sh_c96, sh_c97, sh_c98, sh_c99, sh_c100, sh_c101, sh_c102, sh_c103, sh_c104, sh_c105, sh_c106, sh_c107, sh_l81, sh_l82, sh_l83, sh_l84, sh_l85, sh_l86, sh_l87, sh_l88, sh_l89, sh_l90, sh_l91, sh_l92, sh_l93, sh_l94, sh_l95, sh_l96, sh_l97, sh_l98, sh_l99, sh_l100, sh_l101, sh_l102, sh_l103, sh_l104, sh_l105, sh_l106, sh_l107, rs_80_8, rs_80_9, rs_80_10, rs_80_11, rs_80_12, rs_80_13, rs_80_14, rs_80_15, rs_80_16, rs_80_17, rs_80_18, rs_80_19, rs_80_20, rs_80_21, rs_80_22, rs_80_23, rs_80_24, rs_80_25, rs_80_26, rs_80_27, rs_80_33, rs_80_34, rs_80_35, rs_80_37, rs_80_38, rs_80_39, rs_80_41, Nat.zero_le, Nat.not_lt_zero, nE, nLt, nLe, nE1, nE1', nLt1, nLe1, n1Lt, n1Le, m1_ne, m1_ne', m1_lt, nI_add, nI_1, nSub, nSub1, pk_mul, nDv, nRm, n_md, nVp, nVp0, nVp1, nCl, nIL, lN_i, bi_n0, bi_o, o01, o11, n1_0, n0_1, nm_0, false_or, or_false, false_and, and_false, Decidable.not_not, false_implies, true_implies, ne_eq, reduceCtorEq, ite_true, ite_false, n_0, n_2, n_3, n_4, n_5, n_6, n_7, n_8, n_9, n_10, n_11, n_16, n_20, n_30, n_32, n_36, n_40, n_48, n_57, n_59, n_60, n_64, n_97, n_98, n_99, n_100, n_101, n_108, n_112, n_114, n_115, n_119, n_130, n_160, n_1000, n_9999, n_1280, n_100000000, n_268435456, n_35, n_17, n_51, n_50, n_70, n_71, n_12, e29]
      refine br_f (by omega) ?_
      refine scan k (by omega) _ _ (mat R pl (wl k)) 0 (by omega) ?_
      by_cases g : mat R pl (wl k) = (wl k).length
      · have q1 := h1 k (by omega) g
        rw [g]
        have e97 : I' 97 (off k + (wl k).length) = nI 0 := by rw [eW.1 _ o2, o3]
        refine w_X9_word_75 ?_
        simp (disch := omega) only [o_const, o_iload, o_lload, o_aload, o_istore, o_astore, o_lstore, o_iinc, o_i1, o_i2, o_div, o_l2, o_lsh, o_il, o_li, o_lcmp, o_pop, o_dup, o_dup2, o_dupx1, o_if, o_ic, o_sw, s_sw, o_getI, o_getJ, o_getR, o_putI, o_putZ, o_putJ, o_putR, o_iald, o_iast, o_lald, o_last, o_aald, o_alen, o_tald, o_getsA, o_call, o_callV, s_rc, o_math1, o_math2, o_copyl, o_vret, o_iret, o_zret, o_lret, o_aret, s_get, s_put1, s_put2, s_unl, s_head, s_pop, s_sm, s_ret, Option.toList, List.cons_append, List.nil_append, List.length_cons, List.length_nil, Value.category, s_uI_t, s_uJ_t, s_uR_0, s_uR_1, sh_n, Nat.reduceLT, Nat.reduceAdd, Nat.reduceEqDiff, true_and, and_true, eq_self, true_or, or_true, not_false_eq_true, not_true_eq_false, n6, n9, n2, n4, n5, n10, n64, n1000, B_X9_word_75, sh_c80, sh_c81, sh_c82, sh_c83, sh_c84, sh_c85, sh_c86, sh_c87, sh_c88, sh_c89, sh_c90, sh_c91, sh_c92, sh_c93, sh_c94, sh_c95, sh_c96, sh_c97, sh_c98, sh_c99, sh_c100, sh_c101, sh_c102, sh_c103, sh_c104, sh_c105, sh_c106, sh_c107, sh_l81, sh_l82, sh_l83, sh_l84, sh_l85, sh_l86, sh_l87, sh_l88, sh_l89, sh_l90, sh_l91, sh_l92, sh_l93, sh_l94, sh_l95, sh_l96, sh_l97, sh_l98, sh_l99, sh_l100, sh_l101, sh_l102, sh_l103, sh_l104, sh_l105, sh_l106, sh_l107, rs_80_8, rs_80_9, rs_80_10, rs_80_11, rs_80_12, rs_80_13, rs_80_14, rs_80_15, rs_80_16, rs_80_17, rs_80_18, rs_80_19, rs_80_20, rs_80_21, rs_80_22, rs_80_23, rs_80_24, rs_80_25, rs_80_26, rs_80_27, rs_80_33, rs_80_34, rs_80_35, rs_80_37, rs_80_38, rs_80_39, rs_80_41, Nat.zero_le, Nat.not_lt_zero, nE, nLt, nLe, nE1, nE1', nLt1, nLe1, n1Lt, n1Le, m1_ne, m1_ne', m1_lt, nI_add, nI_1, nSub, nSub1, pk_mul, nDv, nRm, n_md, nVp, nVp0, nVp1, nCl, nIL, lN_i, bi_n0, bi_o, o01, o11, n1_0, n0_1, nm_0, false_or, or_false, false_and, and_false, Decidable.not_not, false_implies, true_implies, ne_eq, reduceCtorEq, ite_true, ite_false, n_0, n_2, n_3, n_4, n_5, n_6, n_7, n_8, n_9, n_10, n_11, n_16, n_20, n_30, n_32, n_36, n_40, n_48, n_57, n_59, n_60, n_64, n_97, n_98, n_99, n_100, n_101, n_108, n_112, n_114, n_115, n_119, n_130, n_160, n_1000, n_9999, n_1280, n_100000000, n_268435456, n_35, n_17, n_51, n_50, n_70, n_71, n_12, e97]
        exact q1
      · have hn2 : ∀ w, w < k + 1 → ¬ mat R pl (wl w) = (wl w).length := fun w hw => by
          rcases Nat.lt_or_ge w k with z | z
          · exact hn w z
          · obtain rfl : w = k := by omega
            exact g
        have ef : fu R pl (k + 1) = max (fu R pl k) (pl + mat R pl (wl k)) := rfl
        have nxt := fun x4 x5 => ih (k + 1) x4 x5 (by omega) hn2
        rw [ef] at nxt
        have sk := fun x2 x4 x5 => skip k (by omega) x2 x4 x5 (wl k).length 0 (by omega)
        have g1 : mat R pl (wl k) < (wl k).length := by omega
        generalize mat R pl (wl k) = m at nxt g1 ⊢
        generalize fu R pl k = f at nxt hf ⊢
        obtain ⟨c1, c2, c3⟩ := off_l k (by omega) m (by omega) g1
        have e97 : I' 97 (off k + m) = nI ((wl k).getD m 0) := by rw [eW.1 _ (by omega), c1]
        generalize (wl k).getD m 0 = c at c2 c3 e97
        refine w_X9_word_75 ?_
        simp (disch := omega) only [o_const, o_iload, o_lload, o_aload, o_istore, o_astore, o_lstore, o_iinc, o_i1, o_i2, o_div, o_l2, o_lsh, o_il, o_li, o_lcmp, o_pop, o_dup, o_dup2, o_dupx1, o_if, o_ic, o_sw, s_sw, o_getI, o_getJ, o_getR, o_putI, o_putZ, o_putJ, o_putR, o_iald, o_iast, o_lald, o_last, o_aald, o_alen, o_tald, o_getsA, o_call, o_callV, s_rc, o_math1, o_math2, o_copyl, o_vret, o_iret, o_zret, o_lret, o_aret, s_get, s_put1, s_put2, s_unl, s_head, s_pop, s_sm, s_ret, Option.toList, List.cons_append, List.nil_append, List.length_cons, List.length_nil, Value.category, s_uI_t, s_uJ_t, s_uR_0, s_uR_1, sh_n, Nat.reduceLT, Nat.reduceAdd, Nat.reduceEqDiff, true_and, and_true, eq_self, true_or, or_true, not_false_eq_true, not_true_eq_false, n6, n9, n2, n4, n5, n10, n64, n1000, B_X9_word_75, sh_c80, sh_c81, sh_c82, sh_c83, sh_c84, sh_c85, sh_c86, sh_c87, sh_c88, sh_c89, sh_c90, sh_c91, sh_c92, sh_c93, sh_c94, sh_c95, sh_c96, sh_c97, sh_c98, sh_c99, sh_c100, sh_c101, sh_c102, sh_c103, sh_c104, sh_c105, sh_c106, sh_c107, sh_l81, sh_l82, sh_l83, sh_l84, sh_l85, sh_l86, sh_l87, sh_l88, sh_l89, sh_l90, sh_l91, sh_l92, sh_l93, sh_l94, sh_l95, sh_l96, sh_l97, sh_l98, sh_l99, sh_l100, sh_l101, sh_l102, sh_l103, sh_l104, sh_l105, sh_l106, sh_l107, rs_80_8, rs_80_9, rs_80_10, rs_80_11, rs_80_12, rs_80_13, rs_80_14, rs_80_15, rs_80_16, rs_80_17, rs_80_18, rs_80_19, rs_80_20, rs_80_21, rs_80_22, rs_80_23, rs_80_24, rs_80_25, rs_80_26, rs_80_27, rs_80_33, rs_80_34, rs_80_35, rs_80_37, rs_80_38, rs_80_39, rs_80_41, Nat.zero_le, Nat.not_lt_zero, nE, nLt, nLe, nE1, nE1', nLt1, nLe1, n1Lt, n1Le, m1_ne, m1_ne', m1_lt, nI_add, nI_1, nSub, nSub1, pk_mul, nDv, nRm, n_md, nVp, nVp0, nVp1, nCl, nIL, lN_i, bi_n0, bi_o, o01, o11, n1_0, n0_1, nm_0, false_or, or_false, false_and, and_false, Decidable.not_not, false_implies, true_implies, ne_eq, reduceCtorEq, ite_true, ite_false, n_0, n_2, n_3, n_4, n_5, n_6, n_7, n_8, n_9, n_10, n_11, n_16, n_20, n_30, n_32, n_36, n_40, n_48, n_57, n_59, n_60, n_64, n_97, n_98, n_99, n_100, n_101, n_108, n_112, n_114, n_115, n_119, n_130, n_160, n_1000, n_9999, n_1280, n_100000000, n_268435456, n_35, n_17, n_51, n_50, n_70, n_71, n_12, e97]
        refine ⟨fun _ => ⟨fun z => ?_, fun z => ?_⟩, fun z => absurd z (by omega)⟩
        · rw [show max f (pl + m) = f by omega] at nxt
          refine w_X9_word_105 ?_
          simp (disch := omega) only [o_const, o_iload, o_lload, o_aload, o_istore, o_astore, o_lstore, o_iinc, o_i1, o_i2, o_div, o_l2, o_lsh, o_il, o_li, o_lcmp, o_pop, o_dup, o_dup2, o_dupx1, o_if, o_ic, o_sw, s_sw, o_getI, o_getJ, o_getR, o_putI, o_putZ, o_putJ, o_putR, o_iald, o_iast, o_lald, o_last, o_aald, o_alen, o_tald, o_getsA, o_call, o_callV, s_rc, o_math1, o_math2, o_copyl, o_vret, o_iret, o_zret, o_lret, o_aret, s_get, s_put1, s_put2, s_unl, s_head, s_pop, s_sm, s_ret, Option.toList, List.cons_append, List.nil_append, List.length_cons, List.length_nil, Value.category, s_uI_t, s_uJ_t, s_uR_0, s_uR_1, sh_n, Nat.reduceLT, Nat.reduceAdd, Nat.reduceEqDiff, true_and, and_true, eq_self, true_or, or_true, not_false_eq_true, not_true_eq_false, n6, n9, n2, n4, n5, n10, n64, n1000, B_X9_word_105, sh_c80, sh_c81, sh_c82, sh_c83, sh_c84, sh_c85, sh_c86, sh_c87, sh_c88, sh_c89, sh_c90, sh_c91, sh_c92, sh_c93, sh_c94, sh_c95, sh_c96, sh_c97, sh_c98, sh_c99, sh_c100, sh_c101, sh_c102, sh_c103, sh_c104, sh_c105, sh_c106, sh_c107, sh_l81, sh_l82, sh_l83, sh_l84, sh_l85, sh_l86, sh_l87, sh_l88, sh_l89, sh_l90, sh_l91, sh_l92, sh_l93, sh_l94, sh_l95, sh_l96, sh_l97, sh_l98, sh_l99, sh_l100, sh_l101, sh_l102, sh_l103, sh_l104, sh_l105, sh_l106, sh_l107, rs_80_8, rs_80_9, rs_80_10, rs_80_11, rs_80_12, rs_80_13, rs_80_14, rs_80_15, rs_80_16, rs_80_17, rs_80_18, rs_80_19, rs_80_20, rs_80_21, rs_80_22, rs_80_23, rs_80_24, rs_80_25, rs_80_26, rs_80_27, rs_80_33, rs_80_34, rs_80_35, rs_80_37, rs_80_38, rs_80_39, rs_80_41, Nat.zero_le, Nat.not_lt_zero, nE, nLt, nLe, nE1, nE1', nLt1, nLe1, n1Lt, n1Le, m1_ne, m1_ne', m1_lt, nI_add, nI_1, nSub, nSub1, pk_mul, nDv, nRm, n_md, nVp, nVp0, nVp1, nCl, nIL, lN_i, bi_n0, bi_o, o01, o11, n1_0, n0_1, nm_0, false_or, or_false, false_and, and_false, Decidable.not_not, false_implies, true_implies, ne_eq, reduceCtorEq, ite_true, ite_false, n_0, n_2, n_3, n_4, n_5, n_6, n_7, n_8, n_9, n_10, n_11, n_16, n_20, n_30, n_32, n_36, n_40, n_48, n_57, n_59, n_60, n_64, n_97, n_98, n_99, n_100, n_101, n_108, n_112, n_114, n_115, n_119, n_130, n_160, n_1000, n_9999, n_1280, n_100000000, n_268435456, n_35, n_17, n_51, n_50, n_70, n_71, n_12]
          exact sk _ _ _ (nxt _ _)
        · rw [show max f (pl + m) = pl + m by omega] at nxt
          refine w_X9_word_105 ?_
          simp (disch := omega) only [o_const, o_iload, o_lload, o_aload, o_istore, o_astore, o_lstore, o_iinc, o_i1, o_i2, o_div, o_l2, o_lsh, o_il, o_li, o_lcmp, o_pop, o_dup, o_dup2, o_dupx1, o_if, o_ic, o_sw, s_sw, o_getI, o_getJ, o_getR, o_putI, o_putZ, o_putJ, o_putR, o_iald, o_iast, o_lald, o_last, o_aald, o_alen, o_tald, o_getsA, o_call, o_callV, s_rc, o_math1, o_math2, o_copyl, o_vret, o_iret, o_zret, o_lret, o_aret, s_get, s_put1, s_put2, s_unl, s_head, s_pop, s_sm, s_ret, Option.toList, List.cons_append, List.nil_append, List.length_cons, List.length_nil, Value.category, s_uI_t, s_uJ_t, s_uR_0, s_uR_1, sh_n, Nat.reduceLT, Nat.reduceAdd, Nat.reduceEqDiff, true_and, and_true, eq_self, true_or, or_true, not_false_eq_true, not_true_eq_false, n6, n9, n2, n4, n5, n10, n64, n1000, B_X9_word_105, sh_c80, sh_c81, sh_c82, sh_c83, sh_c84, sh_c85, sh_c86, sh_c87, sh_c88, sh_c89, sh_c90, sh_c91, sh_c92, sh_c93, sh_c94, sh_c95, sh_c96, sh_c97, sh_c98, sh_c99, sh_c100, sh_c101, sh_c102, sh_c103, sh_c104, sh_c105, sh_c106, sh_c107, sh_l81, sh_l82, sh_l83, sh_l84, sh_l85, sh_l86, sh_l87, sh_l88, sh_l89, sh_l90, sh_l91, sh_l92, sh_l93, sh_l94, sh_l95, sh_l96, sh_l97, sh_l98, sh_l99, sh_l100, sh_l101, sh_l102, sh_l103, sh_l104, sh_l105, sh_l106, sh_l107, rs_80_8, rs_80_9, rs_80_10, rs_80_11, rs_80_12, rs_80_13, rs_80_14, rs_80_15, rs_80_16, rs_80_17, rs_80_18, rs_80_19, rs_80_20, rs_80_21, rs_80_22, rs_80_23, rs_80_24, rs_80_25, rs_80_26, rs_80_27, rs_80_33, rs_80_34, rs_80_35, rs_80_37, rs_80_38, rs_80_39, rs_80_41, Nat.zero_le, Nat.not_lt_zero, nE, nLt, nLe, nE1, nE1', nLt1, nLe1, n1Lt, n1Le, m1_ne, m1_ne', m1_lt, nI_add, nI_1, nSub, nSub1, pk_mul, nDv, nRm, n_md, nVp, nVp0, nVp1, nCl, nIL, lN_i, bi_n0, bi_o, o01, o11, n1_0, n0_1, nm_0, false_or, or_false, false_and, and_false, Decidable.not_not, false_implies, true_implies, ne_eq, reduceCtorEq, ite_true, ite_false, n_0, n_2, n_3, n_4, n_5, n_6, n_7, n_8, n_9, n_10, n_11, n_16, n_20, n_30, n_32, n_36, n_40, n_48, n_57, n_59, n_60, n_64, n_97, n_98, n_99, n_100, n_101, n_108, n_112, n_114, n_115, n_119, n_130, n_160, n_1000, n_9999, n_1280, n_100000000, n_268435456, n_35, n_17, n_51, n_50, n_70, n_71, n_12]
          exact sk _ _ _ (nxt _ _)
  refine w_X9_word_0 ?_
  simp (disch := omega) only [o_const, o_iload, o_lload, o_aload, o_istore, o_astore, o_lstore, o_iinc, o_i1, o_i2, o_div, o_l2, o_lsh, o_il, o_li, o_lcmp, o_pop, o_dup, o_dup2, o_dupx1, o_if, o_ic, o_sw, s_sw, o_getI, o_getJ, o_getR, o_putI, o_putZ, o_putJ, o_putR, o_iald, o_iast, o_lald, o_last, o_aald, o_alen, o_tald, o_getsA, o_call, o_callV, s_rc, o_math1, o_math2, o_copyl, o_vret, o_iret, o_zret, o_lret, o_aret, s_get, s_put1, s_put2, s_unl, s_head, s_pop, s_sm, s_ret, Option.toList, List.cons_append, List.nil_append, List.length_cons, List.length_nil, Value.category, s_uI_t, s_uJ_t, s_uR_0, s_uR_1, sh_n, Nat.reduceLT, Nat.reduceAdd, Nat.reduceEqDiff, true_and, and_true, eq_self, true_or, or_true, not_false_eq_true, not_true_eq_false, n6, n9, n2, n4, n5, n10, n64, n1000, B_X9_word_0, sh_c80, sh_c81, sh_c82, sh_c83, sh_c84, sh_c85, sh_c86, sh_c87, sh_c88, sh_c89, sh_c90, sh_c91, sh_c92, sh_c93, sh_c94, sh_c95, sh_c96, sh_c97, sh_c98, sh_c99, sh_c100, sh_c101, sh_c102, sh_c103, sh_c104, sh_c105, sh_c106, sh_c107, sh_l81, sh_l82, sh_l83, sh_l84, sh_l85, sh_l86, sh_l87, sh_l88, sh_l89, sh_l90, sh_l91, sh_l92, sh_l93, sh_l94, sh_l95, sh_l96, sh_l97, sh_l98, sh_l99, sh_l100, sh_l101, sh_l102, sh_l103, sh_l104, sh_l105, sh_l106, sh_l107, rs_80_8, rs_80_9, rs_80_10, rs_80_11, rs_80_12, rs_80_13, rs_80_14, rs_80_15, rs_80_16, rs_80_17, rs_80_18, rs_80_19, rs_80_20, rs_80_21, rs_80_22, rs_80_23, rs_80_24, rs_80_25, rs_80_26, rs_80_27, rs_80_33, rs_80_34, rs_80_35, rs_80_37, rs_80_38, rs_80_39, rs_80_41, Nat.zero_le, Nat.not_lt_zero, nE, nLt, nLe, nE1, nE1', nLt1, nLe1, n1Lt, n1Le, m1_ne, m1_ne', m1_lt, nI_add, nI_1, nSub, nSub1, pk_mul, nDv, nRm, n_md, nVp, nVp0, nVp1, nCl, nIL, lN_i, bi_n0, bi_o, o01, o11, n1_0, n0_1, nm_0, false_or, or_false, false_and, and_false, Decidable.not_not, false_implies, true_implies, ne_eq, reduceCtorEq, ite_true, ite_false, n_0, n_2, n_3, n_4, n_5, n_6, n_7, n_8, n_9, n_10, n_11, n_16, n_20, n_30, n_32, n_36, n_40, n_48, n_57, n_59, n_60, n_64, n_97, n_98, n_99, n_100, n_101, n_108, n_112, n_114, n_115, n_119, n_130, n_160, n_1000, n_9999, n_1280, n_100000000, n_268435456, n_35, n_17, n_51, n_50, n_70, n_71, n_12, e29]
  exact lo 7 0 none none rfl (fun w hw => absurd hw (Nat.not_lt_zero w))
end
