/-! the class's small functions -/
theorem c_X8_within {v m : Int32} {sh : SShp} {me : SMem} {Q : SQ} (h : Q (some (.int (bi (0 ≤ v ∧ v ≤ m)))) sh me) : C_X8_within [.int v, .int m] sh me Q := by
  unfold C_X8_within
  refine w_X8_within_0 ?_
  simp only [o_const, o_iload, o_lload, o_aload, o_istore, o_astore, o_lstore, o_iinc, o_i1, o_i2, o_div, o_l2, o_lsh, o_il, o_li, o_lcmp, o_pop, o_dup, o_dup2, o_dupx1, o_if, o_ic, o_sw, s_sw, o_getI, o_getJ, o_getR, o_putI, o_putZ, o_putJ, o_putR, o_iald, o_iast, o_lald, o_last, o_aald, o_alen, o_tald, o_getsA, o_call, o_callV, s_rc, o_math1, o_math2, o_copyl, o_vret, o_iret, o_zret, o_lret, o_aret, s_get, s_put1, s_put2, s_unl, s_head, s_pop, s_sm, s_ret, Option.toList, List.cons_append, List.nil_append, List.length_cons, List.length_nil, Value.category, s_uI_t, s_uJ_t, s_uR_0, s_uR_1, sh_n, Nat.reduceLT, Nat.reduceAdd, Nat.reduceEqDiff, true_and, and_true, eq_self, true_or, or_true, not_false_eq_true, not_true_eq_false, n6, n9, n2, n4, n5, n10, n64, n1000, B_X8_within_0]
  refine ⟨fun h1 => ?_, fun h1 => ⟨fun h2 => ?_, fun h2 => ?_⟩⟩
  · refine w_X8_within_13 ?_
    simp only [o_const, o_iload, o_lload, o_aload, o_istore, o_astore, o_lstore, o_iinc, o_i1, o_i2, o_div, o_l2, o_lsh, o_il, o_li, o_lcmp, o_pop, o_dup, o_dup2, o_dupx1, o_if, o_ic, o_sw, s_sw, o_getI, o_getJ, o_getR, o_putI, o_putZ, o_putJ, o_putR, o_iald, o_iast, o_lald, o_last, o_aald, o_alen, o_tald, o_getsA, o_call, o_callV, s_rc, o_math1, o_math2, o_copyl, o_vret, o_iret, o_zret, o_lret, o_aret, s_get, s_put1, s_put2, s_unl, s_head, s_pop, s_sm, s_ret, Option.toList, List.cons_append, List.nil_append, List.length_cons, List.length_nil, Value.category, s_uI_t, s_uJ_t, s_uR_0, s_uR_1, sh_n, Nat.reduceLT, Nat.reduceAdd, Nat.reduceEqDiff, true_and, and_true, eq_self, true_or, or_true, not_false_eq_true, not_true_eq_false, n6, n9, n2, n4, n5, n10, n64, n1000, B_X8_within_13]
    refine w_X8_within_14 ?_
    simp only [o_const, o_iload, o_lload, o_aload, o_istore, o_astore, o_lstore, o_iinc, o_i1, o_i2, o_div, o_l2, o_lsh, o_il, o_li, o_lcmp, o_pop, o_dup, o_dup2, o_dupx1, o_if, o_ic, o_sw, s_sw, o_getI, o_getJ, o_getR, o_putI, o_putZ, o_putJ, o_putR, o_iald, o_iast, o_lald, o_last, o_aald, o_alen, o_tald, o_getsA, o_call, o_callV, s_rc, o_math1, o_math2, o_copyl, o_vret, o_iret, o_zret, o_lret, o_aret, s_get, s_put1, s_put2, s_unl, s_head, s_pop, s_sm, s_ret, Option.toList, List.cons_append, List.nil_append, List.length_cons, List.length_nil, Value.category, s_uI_t, s_uJ_t, s_uR_0, s_uR_1, sh_n, Nat.reduceLT, Nat.reduceAdd, Nat.reduceEqDiff, true_and, and_true, eq_self, true_or, or_true, not_false_eq_true, not_true_eq_false, n6, n9, n2, n4, n5, n10, n64, n1000, B_X8_within_14]
    rw [bi_f (fun z => by have := z.1; exact absurd h1 (Int32.not_lt.mpr this))] at h
    exact h
  · refine w_X8_within_13 ?_
    simp only [o_const, o_iload, o_lload, o_aload, o_istore, o_astore, o_lstore, o_iinc, o_i1, o_i2, o_div, o_l2, o_lsh, o_il, o_li, o_lcmp, o_pop, o_dup, o_dup2, o_dupx1, o_if, o_ic, o_sw, s_sw, o_getI, o_getJ, o_getR, o_putI, o_putZ, o_putJ, o_putR, o_iald, o_iast, o_lald, o_last, o_aald, o_alen, o_tald, o_getsA, o_call, o_callV, s_rc, o_math1, o_math2, o_copyl, o_vret, o_iret, o_zret, o_lret, o_aret, s_get, s_put1, s_put2, s_unl, s_head, s_pop, s_sm, s_ret, Option.toList, List.cons_append, List.nil_append, List.length_cons, List.length_nil, Value.category, s_uI_t, s_uJ_t, s_uR_0, s_uR_1, sh_n, Nat.reduceLT, Nat.reduceAdd, Nat.reduceEqDiff, true_and, and_true, eq_self, true_or, or_true, not_false_eq_true, not_true_eq_false, n6, n9, n2, n4, n5, n10, n64, n1000, B_X8_within_13]
    refine w_X8_within_14 ?_
    simp only [o_const, o_iload, o_lload, o_aload, o_istore, o_astore, o_lstore, o_iinc, o_i1, o_i2, o_div, o_l2, o_lsh, o_il, o_li, o_lcmp, o_pop, o_dup, o_dup2, o_dupx1, o_if, o_ic, o_sw, s_sw, o_getI, o_getJ, o_getR, o_putI, o_putZ, o_putJ, o_putR, o_iald, o_iast, o_lald, o_last, o_aald, o_alen, o_tald, o_getsA, o_call, o_callV, s_rc, o_math1, o_math2, o_copyl, o_vret, o_iret, o_zret, o_lret, o_aret, s_get, s_put1, s_put2, s_unl, s_head, s_pop, s_sm, s_ret, Option.toList, List.cons_append, List.nil_append, List.length_cons, List.length_nil, Value.category, s_uI_t, s_uJ_t, s_uR_0, s_uR_1, sh_n, Nat.reduceLT, Nat.reduceAdd, Nat.reduceEqDiff, true_and, and_true, eq_self, true_or, or_true, not_false_eq_true, not_true_eq_false, n6, n9, n2, n4, n5, n10, n64, n1000, B_X8_within_14]
    rw [bi_f (fun z => by have := z.2; exact absurd h2 (Int32.not_lt.mpr this))] at h
    exact h
  · refine w_X8_within_14 ?_
    simp only [o_const, o_iload, o_lload, o_aload, o_istore, o_astore, o_lstore, o_iinc, o_i1, o_i2, o_div, o_l2, o_lsh, o_il, o_li, o_lcmp, o_pop, o_dup, o_dup2, o_dupx1, o_if, o_ic, o_sw, s_sw, o_getI, o_getJ, o_getR, o_putI, o_putZ, o_putJ, o_putR, o_iald, o_iast, o_lald, o_last, o_aald, o_alen, o_tald, o_getsA, o_call, o_callV, s_rc, o_math1, o_math2, o_copyl, o_vret, o_iret, o_zret, o_lret, o_aret, s_get, s_put1, s_put2, s_unl, s_head, s_pop, s_sm, s_ret, Option.toList, List.cons_append, List.nil_append, List.length_cons, List.length_nil, Value.category, s_uI_t, s_uJ_t, s_uR_0, s_uR_1, sh_n, Nat.reduceLT, Nat.reduceAdd, Nat.reduceEqDiff, true_and, and_true, eq_self, true_or, or_true, not_false_eq_true, not_true_eq_false, n6, n9, n2, n4, n5, n10, n64, n1000, B_X8_within_14]
    rw [bi_t ⟨Int32.not_lt.mp h1, Int32.not_lt.mp h2⟩] at h
    exact h
theorem c_X8_isShelf {v : Int32} {sh : SShp} {me : SMem} {Q : SQ} (h : Q (some (.int (bi (0 ≤ v ∧ v ≤ 7)))) sh me) : C_X8_isShelf [.int v] sh me Q := by
  unfold C_X8_isShelf
  refine w_X8_isShelf_0 ?_
  simp only [o_const, o_iload, o_lload, o_aload, o_istore, o_astore, o_lstore, o_iinc, o_i1, o_i2, o_div, o_l2, o_lsh, o_il, o_li, o_lcmp, o_pop, o_dup, o_dup2, o_dupx1, o_if, o_ic, o_sw, s_sw, o_getI, o_getJ, o_getR, o_putI, o_putZ, o_putJ, o_putR, o_iald, o_iast, o_lald, o_last, o_aald, o_alen, o_tald, o_getsA, o_call, o_callV, s_rc, o_math1, o_math2, o_copyl, o_vret, o_iret, o_zret, o_lret, o_aret, s_get, s_put1, s_put2, s_unl, s_head, s_pop, s_sm, s_ret, Option.toList, List.cons_append, List.nil_append, List.length_cons, List.length_nil, Value.category, s_uI_t, s_uJ_t, s_uR_0, s_uR_1, sh_n, Nat.reduceLT, Nat.reduceAdd, Nat.reduceEqDiff, true_and, and_true, eq_self, true_or, or_true, not_false_eq_true, not_true_eq_false, n6, n9, n2, n4, n5, n10, n64, n1000, B_X8_isShelf_0]
  refine c_X8_within ?_
  simp only [o_const, o_iload, o_lload, o_aload, o_istore, o_astore, o_lstore, o_iinc, o_i1, o_i2, o_div, o_l2, o_lsh, o_il, o_li, o_lcmp, o_pop, o_dup, o_dup2, o_dupx1, o_if, o_ic, o_sw, s_sw, o_getI, o_getJ, o_getR, o_putI, o_putZ, o_putJ, o_putR, o_iald, o_iast, o_lald, o_last, o_aald, o_alen, o_tald, o_getsA, o_call, o_callV, s_rc, o_math1, o_math2, o_copyl, o_vret, o_iret, o_zret, o_lret, o_aret, s_get, s_put1, s_put2, s_unl, s_head, s_pop, s_sm, s_ret, Option.toList, List.cons_append, List.nil_append, List.length_cons, List.length_nil, Value.category, s_uI_t, s_uJ_t, s_uR_0, s_uR_1, sh_n, Nat.reduceLT, Nat.reduceAdd, Nat.reduceEqDiff, true_and, and_true, eq_self, true_or, or_true, not_false_eq_true, not_true_eq_false, n6, n9, n2, n4, n5, n10, n64, n1000]
  exact ⟨bi_01 _, h⟩
theorem c_X8_isKind {v : Int32} {sh : SShp} {me : SMem} {Q : SQ} (h : Q (some (.int (bi (0 ≤ v ∧ v ≤ 6)))) sh me) : C_X8_isKind [.int v] sh me Q := by
  unfold C_X8_isKind
  refine w_X8_isKind_0 ?_
  simp only [o_const, o_iload, o_lload, o_aload, o_istore, o_astore, o_lstore, o_iinc, o_i1, o_i2, o_div, o_l2, o_lsh, o_il, o_li, o_lcmp, o_pop, o_dup, o_dup2, o_dupx1, o_if, o_ic, o_sw, s_sw, o_getI, o_getJ, o_getR, o_putI, o_putZ, o_putJ, o_putR, o_iald, o_iast, o_lald, o_last, o_aald, o_alen, o_tald, o_getsA, o_call, o_callV, s_rc, o_math1, o_math2, o_copyl, o_vret, o_iret, o_zret, o_lret, o_aret, s_get, s_put1, s_put2, s_unl, s_head, s_pop, s_sm, s_ret, Option.toList, List.cons_append, List.nil_append, List.length_cons, List.length_nil, Value.category, s_uI_t, s_uJ_t, s_uR_0, s_uR_1, sh_n, Nat.reduceLT, Nat.reduceAdd, Nat.reduceEqDiff, true_and, and_true, eq_self, true_or, or_true, not_false_eq_true, not_true_eq_false, n6, n9, n2, n4, n5, n10, n64, n1000, B_X8_isKind_0]
  refine c_X8_within ?_
  simp only [o_const, o_iload, o_lload, o_aload, o_istore, o_astore, o_lstore, o_iinc, o_i1, o_i2, o_div, o_l2, o_lsh, o_il, o_li, o_lcmp, o_pop, o_dup, o_dup2, o_dupx1, o_if, o_ic, o_sw, s_sw, o_getI, o_getJ, o_getR, o_putI, o_putZ, o_putJ, o_putR, o_iald, o_iast, o_lald, o_last, o_aald, o_alen, o_tald, o_getsA, o_call, o_callV, s_rc, o_math1, o_math2, o_copyl, o_vret, o_iret, o_zret, o_lret, o_aret, s_get, s_put1, s_put2, s_unl, s_head, s_pop, s_sm, s_ret, Option.toList, List.cons_append, List.nil_append, List.length_cons, List.length_nil, Value.category, s_uI_t, s_uJ_t, s_uR_0, s_uR_1, sh_n, Nat.reduceLT, Nat.reduceAdd, Nat.reduceEqDiff, true_and, and_true, eq_self, true_or, or_true, not_false_eq_true, not_true_eq_false, n6, n9, n2, n4, n5, n10, n64, n1000]
  exact ⟨bi_01 _, h⟩
theorem c_X8_isSquare {v : Int32} {sh : SShp} {me : SMem} {Q : SQ} (h : Q (some (.int (bi (0 ≤ v ∧ v < 36)))) sh me) : C_X8_isSquare [.int v] sh me Q := by
  unfold C_X8_isSquare
  refine w_X8_isSquare_0 ?_
  simp only [o_const, o_iload, o_lload, o_aload, o_istore, o_astore, o_lstore, o_iinc, o_i1, o_i2, o_div, o_l2, o_lsh, o_il, o_li, o_lcmp, o_pop, o_dup, o_dup2, o_dupx1, o_if, o_ic, o_sw, s_sw, o_getI, o_getJ, o_getR, o_putI, o_putZ, o_putJ, o_putR, o_iald, o_iast, o_lald, o_last, o_aald, o_alen, o_tald, o_getsA, o_call, o_callV, s_rc, o_math1, o_math2, o_copyl, o_vret, o_iret, o_zret, o_lret, o_aret, s_get, s_put1, s_put2, s_unl, s_head, s_pop, s_sm, s_ret, Option.toList, List.cons_append, List.nil_append, List.length_cons, List.length_nil, Value.category, s_uI_t, s_uJ_t, s_uR_0, s_uR_1, sh_n, Nat.reduceLT, Nat.reduceAdd, Nat.reduceEqDiff, true_and, and_true, eq_self, true_or, or_true, not_false_eq_true, not_true_eq_false, n6, n9, n2, n4, n5, n10, n64, n1000, B_X8_isSquare_0]
  refine ⟨fun h1 => ?_, fun h1 => ⟨fun h2 => ?_, fun h2 => ?_⟩⟩
  · refine w_X8_isSquare_14 ?_
    simp only [o_const, o_iload, o_lload, o_aload, o_istore, o_astore, o_lstore, o_iinc, o_i1, o_i2, o_div, o_l2, o_lsh, o_il, o_li, o_lcmp, o_pop, o_dup, o_dup2, o_dupx1, o_if, o_ic, o_sw, s_sw, o_getI, o_getJ, o_getR, o_putI, o_putZ, o_putJ, o_putR, o_iald, o_iast, o_lald, o_last, o_aald, o_alen, o_tald, o_getsA, o_call, o_callV, s_rc, o_math1, o_math2, o_copyl, o_vret, o_iret, o_zret, o_lret, o_aret, s_get, s_put1, s_put2, s_unl, s_head, s_pop, s_sm, s_ret, Option.toList, List.cons_append, List.nil_append, List.length_cons, List.length_nil, Value.category, s_uI_t, s_uJ_t, s_uR_0, s_uR_1, sh_n, Nat.reduceLT, Nat.reduceAdd, Nat.reduceEqDiff, true_and, and_true, eq_self, true_or, or_true, not_false_eq_true, not_true_eq_false, n6, n9, n2, n4, n5, n10, n64, n1000, B_X8_isSquare_14]
    refine w_X8_isSquare_15 ?_
    simp only [o_const, o_iload, o_lload, o_aload, o_istore, o_astore, o_lstore, o_iinc, o_i1, o_i2, o_div, o_l2, o_lsh, o_il, o_li, o_lcmp, o_pop, o_dup, o_dup2, o_dupx1, o_if, o_ic, o_sw, s_sw, o_getI, o_getJ, o_getR, o_putI, o_putZ, o_putJ, o_putR, o_iald, o_iast, o_lald, o_last, o_aald, o_alen, o_tald, o_getsA, o_call, o_callV, s_rc, o_math1, o_math2, o_copyl, o_vret, o_iret, o_zret, o_lret, o_aret, s_get, s_put1, s_put2, s_unl, s_head, s_pop, s_sm, s_ret, Option.toList, List.cons_append, List.nil_append, List.length_cons, List.length_nil, Value.category, s_uI_t, s_uJ_t, s_uR_0, s_uR_1, sh_n, Nat.reduceLT, Nat.reduceAdd, Nat.reduceEqDiff, true_and, and_true, eq_self, true_or, or_true, not_false_eq_true, not_true_eq_false, n6, n9, n2, n4, n5, n10, n64, n1000, B_X8_isSquare_15]
    rw [bi_f (fun z => absurd h1 (Int32.not_lt.mpr z.1))] at h
    exact h
  · refine w_X8_isSquare_14 ?_
    simp only [o_const, o_iload, o_lload, o_aload, o_istore, o_astore, o_lstore, o_iinc, o_i1, o_i2, o_div, o_l2, o_lsh, o_il, o_li, o_lcmp, o_pop, o_dup, o_dup2, o_dupx1, o_if, o_ic, o_sw, s_sw, o_getI, o_getJ, o_getR, o_putI, o_putZ, o_putJ, o_putR, o_iald, o_iast, o_lald, o_last, o_aald, o_alen, o_tald, o_getsA, o_call, o_callV, s_rc, o_math1, o_math2, o_copyl, o_vret, o_iret, o_zret, o_lret, o_aret, s_get, s_put1, s_put2, s_unl, s_head, s_pop, s_sm, s_ret, Option.toList, List.cons_append, List.nil_append, List.length_cons, List.length_nil, Value.category, s_uI_t, s_uJ_t, s_uR_0, s_uR_1, sh_n, Nat.reduceLT, Nat.reduceAdd, Nat.reduceEqDiff, true_and, and_true, eq_self, true_or, or_true, not_false_eq_true, not_true_eq_false, n6, n9, n2, n4, n5, n10, n64, n1000, B_X8_isSquare_14]
    refine w_X8_isSquare_15 ?_
    simp only [o_const, o_iload, o_lload, o_aload, o_istore, o_astore, o_lstore, o_iinc, o_i1, o_i2, o_div, o_l2, o_lsh, o_il, o_li, o_lcmp, o_pop, o_dup, o_dup2, o_dupx1, o_if, o_ic, o_sw, s_sw, o_getI, o_getJ, o_getR, o_putI, o_putZ, o_putJ, o_putR, o_iald, o_iast, o_lald, o_last, o_aald, o_alen, o_tald, o_getsA, o_call, o_callV, s_rc, o_math1, o_math2, o_copyl, o_vret, o_iret, o_zret, o_lret, o_aret, s_get, s_put1, s_put2, s_unl, s_head, s_pop, s_sm, s_ret, Option.toList, List.cons_append, List.nil_append, List.length_cons, List.length_nil, Value.category, s_uI_t, s_uJ_t, s_uR_0, s_uR_1, sh_n, Nat.reduceLT, Nat.reduceAdd, Nat.reduceEqDiff, true_and, and_true, eq_self, true_or, or_true, not_false_eq_true, not_true_eq_false, n6, n9, n2, n4, n5, n10, n64, n1000, B_X8_isSquare_15]
    rw [bi_f (fun z => absurd z.2 (Int32.not_lt.mpr h2))] at h
    exact h
  · refine w_X8_isSquare_15 ?_
    simp only [o_const, o_iload, o_lload, o_aload, o_istore, o_astore, o_lstore, o_iinc, o_i1, o_i2, o_div, o_l2, o_lsh, o_il, o_li, o_lcmp, o_pop, o_dup, o_dup2, o_dupx1, o_if, o_ic, o_sw, s_sw, o_getI, o_getJ, o_getR, o_putI, o_putZ, o_putJ, o_putR, o_iald, o_iast, o_lald, o_last, o_aald, o_alen, o_tald, o_getsA, o_call, o_callV, s_rc, o_math1, o_math2, o_copyl, o_vret, o_iret, o_zret, o_lret, o_aret, s_get, s_put1, s_put2, s_unl, s_head, s_pop, s_sm, s_ret, Option.toList, List.cons_append, List.nil_append, List.length_cons, List.length_nil, Value.category, s_uI_t, s_uJ_t, s_uR_0, s_uR_1, sh_n, Nat.reduceLT, Nat.reduceAdd, Nat.reduceEqDiff, true_and, and_true, eq_self, true_or, or_true, not_false_eq_true, not_true_eq_false, n6, n9, n2, n4, n5, n10, n64, n1000, B_X8_isSquare_15]
    rw [bi_t ⟨Int32.not_lt.mp h1, Int32.not_le.mp h2⟩] at h
    exact h
theorem c_X8_bit {v : Int32} {sh : SShp} {me : SMem} {Q : SQ} (h : Q (some (.int (bi (¬ v = 0)))) sh me) : C_X8_bit [.int v] sh me Q := by
  unfold C_X8_bit
  refine w_X8_bit_0 ?_
  simp only [o_const, o_iload, o_lload, o_aload, o_istore, o_astore, o_lstore, o_iinc, o_i1, o_i2, o_div, o_l2, o_lsh, o_il, o_li, o_lcmp, o_pop, o_dup, o_dup2, o_dupx1, o_if, o_ic, o_sw, s_sw, o_getI, o_getJ, o_getR, o_putI, o_putZ, o_putJ, o_putR, o_iald, o_iast, o_lald, o_last, o_aald, o_alen, o_tald, o_getsA, o_call, o_callV, s_rc, o_math1, o_math2, o_copyl, o_vret, o_iret, o_zret, o_lret, o_aret, s_get, s_put1, s_put2, s_unl, s_head, s_pop, s_sm, s_ret, Option.toList, List.cons_append, List.nil_append, List.length_cons, List.length_nil, Value.category, s_uI_t, s_uJ_t, s_uR_0, s_uR_1, sh_n, Nat.reduceLT, Nat.reduceAdd, Nat.reduceEqDiff, true_and, and_true, eq_self, true_or, or_true, not_false_eq_true, not_true_eq_false, n6, n9, n2, n4, n5, n10, n64, n1000, B_X8_bit_0]
  refine ⟨fun h1 => ?_, fun h1 => ?_⟩
  · refine w_X8_bit_9 ?_
    simp only [o_const, o_iload, o_lload, o_aload, o_istore, o_astore, o_lstore, o_iinc, o_i1, o_i2, o_div, o_l2, o_lsh, o_il, o_li, o_lcmp, o_pop, o_dup, o_dup2, o_dupx1, o_if, o_ic, o_sw, s_sw, o_getI, o_getJ, o_getR, o_putI, o_putZ, o_putJ, o_putR, o_iald, o_iast, o_lald, o_last, o_aald, o_alen, o_tald, o_getsA, o_call, o_callV, s_rc, o_math1, o_math2, o_copyl, o_vret, o_iret, o_zret, o_lret, o_aret, s_get, s_put1, s_put2, s_unl, s_head, s_pop, s_sm, s_ret, Option.toList, List.cons_append, List.nil_append, List.length_cons, List.length_nil, Value.category, s_uI_t, s_uJ_t, s_uR_0, s_uR_1, sh_n, Nat.reduceLT, Nat.reduceAdd, Nat.reduceEqDiff, true_and, and_true, eq_self, true_or, or_true, not_false_eq_true, not_true_eq_false, n6, n9, n2, n4, n5, n10, n64, n1000, B_X8_bit_9]
    rw [bi_f (fun z => z h1)] at h
    exact h
  · refine w_X8_bit_9 ?_
    simp only [o_const, o_iload, o_lload, o_aload, o_istore, o_astore, o_lstore, o_iinc, o_i1, o_i2, o_div, o_l2, o_lsh, o_il, o_li, o_lcmp, o_pop, o_dup, o_dup2, o_dupx1, o_if, o_ic, o_sw, s_sw, o_getI, o_getJ, o_getR, o_putI, o_putZ, o_putJ, o_putR, o_iald, o_iast, o_lald, o_last, o_aald, o_alen, o_tald, o_getsA, o_call, o_callV, s_rc, o_math1, o_math2, o_copyl, o_vret, o_iret, o_zret, o_lret, o_aret, s_get, s_put1, s_put2, s_unl, s_head, s_pop, s_sm, s_ret, Option.toList, List.cons_append, List.nil_append, List.length_cons, List.length_nil, Value.category, s_uI_t, s_uJ_t, s_uR_0, s_uR_1, sh_n, Nat.reduceLT, Nat.reduceAdd, Nat.reduceEqDiff, true_and, and_true, eq_self, true_or, or_true, not_false_eq_true, not_true_eq_false, n6, n9, n2, n4, n5, n10, n64, n1000, B_X8_bit_9]
    rw [bi_t h1] at h
    exact h
theorem c_X8_above {k : Nat} (hk : k < 7) {sh : SShp} {me : SMem} {Q : SQ} (h : Q (some (.int ((s_tl 0).getD k 0))) sh me) : C_X8_above [.int (nI k)] sh me Q := by
  unfold C_X8_above
  refine w_X8_above_0 ?_
  simp only [o_const, o_iload, o_lload, o_aload, o_istore, o_astore, o_lstore, o_iinc, o_i1, o_i2, o_div, o_l2, o_lsh, o_il, o_li, o_lcmp, o_pop, o_dup, o_dup2, o_dupx1, o_if, o_ic, o_sw, s_sw, o_getI, o_getJ, o_getR, o_putI, o_putZ, o_putJ, o_putR, o_iald, o_iast, o_lald, o_last, o_aald, o_alen, o_tald, o_getsA, o_call, o_callV, s_rc, o_math1, o_math2, o_copyl, o_vret, o_iret, o_zret, o_lret, o_aret, s_get, s_put1, s_put2, s_unl, s_head, s_pop, s_sm, s_ret, Option.toList, List.cons_append, List.nil_append, List.length_cons, List.length_nil, Value.category, s_uI_t, s_uJ_t, s_uR_0, s_uR_1, sh_n, Nat.reduceLT, Nat.reduceAdd, Nat.reduceEqDiff, true_and, and_true, eq_self, true_or, or_true, not_false_eq_true, not_true_eq_false, n6, n9, n2, n4, n5, n10, n64, n1000, B_X8_above_0]
  refine br_f (nI_pos (by omega)) (br_f (nI_ge (b := 7) (a := k) hk (by decide)) ⟨vp_in_nI hk (by decide), ?_⟩)
  refine w_X8_above_19 ?_
  simp only [o_const, o_iload, o_lload, o_aload, o_istore, o_astore, o_lstore, o_iinc, o_i1, o_i2, o_div, o_l2, o_lsh, o_il, o_li, o_lcmp, o_pop, o_dup, o_dup2, o_dupx1, o_if, o_ic, o_sw, s_sw, o_getI, o_getJ, o_getR, o_putI, o_putZ, o_putJ, o_putR, o_iald, o_iast, o_lald, o_last, o_aald, o_alen, o_tald, o_getsA, o_call, o_callV, s_rc, o_math1, o_math2, o_copyl, o_vret, o_iret, o_zret, o_lret, o_aret, s_get, s_put1, s_put2, s_unl, s_head, s_pop, s_sm, s_ret, Option.toList, List.cons_append, List.nil_append, List.length_cons, List.length_nil, Value.category, s_uI_t, s_uJ_t, s_uR_0, s_uR_1, sh_n, Nat.reduceLT, Nat.reduceAdd, Nat.reduceEqDiff, true_and, and_true, eq_self, true_or, or_true, not_false_eq_true, not_true_eq_false, n6, n9, n2, n4, n5, n10, n64, n1000, B_X8_above_19]
  rw [nI_clamp (by omega)]
  exact h
theorem lgc (x : Int64) (y : Int64) : (lg_cmp x y = 0) ↔ x = y := by
  unfold lg_cmp
  by_cases h : x > y
  · rw [if_pos h]
    exact ⟨fun z => absurd z (by decide), fun z => by rw [z] at h; exact absurd h Int64.lt_irrefl⟩
  · rw [if_neg h]
    by_cases e : x = y
    · simp [e]
    · rw [if_neg e]
      exact ⟨fun z => absurd z (by decide), fun z => absurd z e⟩
theorem bit_0 {n k : Nat} (hn : n < 2 ^ 64) (hk : k < 64) : (lg_cmp (((lN n).toUInt64 >>> ((nI k).toInt64.toUInt64 &&& Int64.toUInt64 63)).toInt64 &&& 1) 0 = 0) ↔ n / 2 ^ k % 2 = 0 := by
  rw [lgc, wb_bit hn hk]
  exact lN_eq (a := n / 2 ^ k % 2) (b := 0) (by omega) (by decide)
theorem c_X8_hasBit {n k : Nat} (hn : n < 2 ^ 64) (hk : k < 64) {sh : SShp} {me : SMem} {Q : SQ} (h : Q (some (.int (bi (¬ n / 2 ^ k % 2 = 0)))) sh me) : C_X8_hasBit [.long (lN n), .int (nI k)] sh me Q := by
  unfold C_X8_hasBit
  refine w_X8_hasBit_0 ?_
  simp only [o_const, o_iload, o_lload, o_aload, o_istore, o_astore, o_lstore, o_iinc, o_i1, o_i2, o_div, o_l2, o_lsh, o_il, o_li, o_lcmp, o_pop, o_dup, o_dup2, o_dupx1, o_if, o_ic, o_sw, s_sw, o_getI, o_getJ, o_getR, o_putI, o_putZ, o_putJ, o_putR, o_iald, o_iast, o_lald, o_last, o_aald, o_alen, o_tald, o_getsA, o_call, o_callV, s_rc, o_math1, o_math2, o_copyl, o_vret, o_iret, o_zret, o_lret, o_aret, s_get, s_put1, s_put2, s_unl, s_head, s_pop, s_sm, s_ret, Option.toList, List.cons_append, List.nil_append, List.length_cons, List.length_nil, Value.category, s_uI_t, s_uJ_t, s_uR_0, s_uR_1, sh_n, Nat.reduceLT, Nat.reduceAdd, Nat.reduceEqDiff, true_and, and_true, eq_self, true_or, or_true, not_false_eq_true, not_true_eq_false, n6, n9, n2, n4, n5, n10, n64, n1000, B_X8_hasBit_0]
  rw [bit_0 hn hk]
  refine ⟨fun h1 => ?_, fun h1 => ?_⟩
  · refine w_X8_hasBit_15 ?_
    simp only [o_const, o_iload, o_lload, o_aload, o_istore, o_astore, o_lstore, o_iinc, o_i1, o_i2, o_div, o_l2, o_lsh, o_il, o_li, o_lcmp, o_pop, o_dup, o_dup2, o_dupx1, o_if, o_ic, o_sw, s_sw, o_getI, o_getJ, o_getR, o_putI, o_putZ, o_putJ, o_putR, o_iald, o_iast, o_lald, o_last, o_aald, o_alen, o_tald, o_getsA, o_call, o_callV, s_rc, o_math1, o_math2, o_copyl, o_vret, o_iret, o_zret, o_lret, o_aret, s_get, s_put1, s_put2, s_unl, s_head, s_pop, s_sm, s_ret, Option.toList, List.cons_append, List.nil_append, List.length_cons, List.length_nil, Value.category, s_uI_t, s_uJ_t, s_uR_0, s_uR_1, sh_n, Nat.reduceLT, Nat.reduceAdd, Nat.reduceEqDiff, true_and, and_true, eq_self, true_or, or_true, not_false_eq_true, not_true_eq_false, n6, n9, n2, n4, n5, n10, n64, n1000, B_X8_hasBit_15]
    rw [bi_f (fun z => z h1)] at h
    exact h
  · refine w_X8_hasBit_15 ?_
    simp only [o_const, o_iload, o_lload, o_aload, o_istore, o_astore, o_lstore, o_iinc, o_i1, o_i2, o_div, o_l2, o_lsh, o_il, o_li, o_lcmp, o_pop, o_dup, o_dup2, o_dupx1, o_if, o_ic, o_sw, s_sw, o_getI, o_getJ, o_getR, o_putI, o_putZ, o_putJ, o_putR, o_iald, o_iast, o_lald, o_last, o_aald, o_alen, o_tald, o_getsA, o_call, o_callV, s_rc, o_math1, o_math2, o_copyl, o_vret, o_iret, o_zret, o_lret, o_aret, s_get, s_put1, s_put2, s_unl, s_head, s_pop, s_sm, s_ret, Option.toList, List.cons_append, List.nil_append, List.length_cons, List.length_nil, Value.category, s_uI_t, s_uJ_t, s_uR_0, s_uR_1, sh_n, Nat.reduceLT, Nat.reduceAdd, Nat.reduceEqDiff, true_and, and_true, eq_self, true_or, or_true, not_false_eq_true, not_true_eq_false, n6, n9, n2, n4, n5, n10, n64, n1000, B_X8_hasBit_15]
    rw [bi_t h1] at h
    exact h
theorem c_X8_beside {c w : Nat} (hc : c < 36) (hw : w < 2 ^ 31) {sh : SShp} {me : SMem} {Q : SQ} (h : Q (some (.int (ob (bd c w)))) sh me) : C_X8_beside [.int (nI c), .int (nI w)] sh me Q := by
  unfold C_X8_beside
  refine w_X8_beside_0 ?_
  simp only [o_const, o_iload, o_lload, o_aload, o_istore, o_astore, o_lstore, o_iinc, o_i1, o_i2, o_div, o_l2, o_lsh, o_il, o_li, o_lcmp, o_pop, o_dup, o_dup2, o_dupx1, o_if, o_ic, o_sw, s_sw, o_getI, o_getJ, o_getR, o_putI, o_putZ, o_putJ, o_putR, o_iald, o_iast, o_lald, o_last, o_aald, o_alen, o_tald, o_getsA, o_call, o_callV, s_rc, o_math1, o_math2, o_copyl, o_vret, o_iret, o_zret, o_lret, o_aret, s_get, s_put1, s_put2, s_unl, s_head, s_pop, s_sm, s_ret, Option.toList, List.cons_append, List.nil_append, List.length_cons, List.length_nil, Value.category, s_uI_t, s_uJ_t, s_uR_0, s_uR_1, sh_n, Nat.reduceLT, Nat.reduceAdd, Nat.reduceEqDiff, true_and, and_true, eq_self, true_or, or_true, not_false_eq_true, not_true_eq_false, n6, n9, n2, n4, n5, n10, n64, n1000, B_X8_beside_0]
  have e6 : nI c - nI c / 6 * 6 = nI (c % 6) := pk_rem (a := c) (d := 6) (by omega) (by decide) (by decide)
  rw [e6]
  refine ⟨fun h1 => ⟨fun h2 => ?_, fun h2 => ?_⟩, fun h1 => ⟨fun h1 => ⟨fun h2 => ?_, fun h2 => ?_⟩, fun h3 => ⟨fun h1 => ⟨fun h2 => ?_, fun h2 => ?_⟩, fun h4 => ⟨fun h1 => ⟨fun h2 => ?_, fun h2 => ?_⟩, fun h5 => ?_⟩⟩⟩⟩
  · refine w_X8_beside_46 ?_
    simp only [o_const, o_iload, o_lload, o_aload, o_istore, o_astore, o_lstore, o_iinc, o_i1, o_i2, o_div, o_l2, o_lsh, o_il, o_li, o_lcmp, o_pop, o_dup, o_dup2, o_dupx1, o_if, o_ic, o_sw, s_sw, o_getI, o_getJ, o_getR, o_putI, o_putZ, o_putJ, o_putR, o_iald, o_iast, o_lald, o_last, o_aald, o_alen, o_tald, o_getsA, o_call, o_callV, s_rc, o_math1, o_math2, o_copyl, o_vret, o_iret, o_zret, o_lret, o_aret, s_get, s_put1, s_put2, s_unl, s_head, s_pop, s_sm, s_ret, Option.toList, List.cons_append, List.nil_append, List.length_cons, List.length_nil, Value.category, s_uI_t, s_uJ_t, s_uR_0, s_uR_1, sh_n, Nat.reduceLT, Nat.reduceAdd, Nat.reduceEqDiff, true_and, and_true, eq_self, true_or, or_true, not_false_eq_true, not_true_eq_false, n6, n9, n2, n4, n5, n10, n64, n1000, B_X8_beside_46]
    have : c < 6 := (nI_ltI (b := 6) (by omega) (by decide)).mp h2
    have e : w = 0 := (nI_eq (b := 0) hw (by decide)).mp h1
    rw [show bd c w = none by simp [bd, e, this]] at h
    exact h
  · refine w_X8_beside_46 ?_
    simp only [o_const, o_iload, o_lload, o_aload, o_istore, o_astore, o_lstore, o_iinc, o_i1, o_i2, o_div, o_l2, o_lsh, o_il, o_li, o_lcmp, o_pop, o_dup, o_dup2, o_dupx1, o_if, o_ic, o_sw, s_sw, o_getI, o_getJ, o_getR, o_putI, o_putZ, o_putJ, o_putR, o_iald, o_iast, o_lald, o_last, o_aald, o_alen, o_tald, o_getsA, o_call, o_callV, s_rc, o_math1, o_math2, o_copyl, o_vret, o_iret, o_zret, o_lret, o_aret, s_get, s_put1, s_put2, s_unl, s_head, s_pop, s_sm, s_ret, Option.toList, List.cons_append, List.nil_append, List.length_cons, List.length_nil, Value.category, s_uI_t, s_uJ_t, s_uR_0, s_uR_1, sh_n, Nat.reduceLT, Nat.reduceAdd, Nat.reduceEqDiff, true_and, and_true, eq_self, true_or, or_true, not_false_eq_true, not_true_eq_false, n6, n9, n2, n4, n5, n10, n64, n1000, B_X8_beside_46]
    have : ¬ c < 6 := fun z => h2 ((nI_ltI (b := 6) (by omega) (by decide)).mpr z)
    have e : w = 0 := (nI_eq (b := 0) hw (by decide)).mp h1
    rw [show bd c w = some (c - 6) by simp [bd, e, this]] at h
    rw [show nI c - 6 = nI (c - 6) from pk_sub (a := c) (b := 6) (by omega)]
    exact h
  · refine w_X8_beside_62 ?_
    simp only [o_const, o_iload, o_lload, o_aload, o_istore, o_astore, o_lstore, o_iinc, o_i1, o_i2, o_div, o_l2, o_lsh, o_il, o_li, o_lcmp, o_pop, o_dup, o_dup2, o_dupx1, o_if, o_ic, o_sw, s_sw, o_getI, o_getJ, o_getR, o_putI, o_putZ, o_putJ, o_putR, o_iald, o_iast, o_lald, o_last, o_aald, o_alen, o_tald, o_getsA, o_call, o_callV, s_rc, o_math1, o_math2, o_copyl, o_vret, o_iret, o_zret, o_lret, o_aret, s_get, s_put1, s_put2, s_unl, s_head, s_pop, s_sm, s_ret, Option.toList, List.cons_append, List.nil_append, List.length_cons, List.length_nil, Value.category, s_uI_t, s_uJ_t, s_uR_0, s_uR_1, sh_n, Nat.reduceLT, Nat.reduceAdd, Nat.reduceEqDiff, true_and, and_true, eq_self, true_or, or_true, not_false_eq_true, not_true_eq_false, n6, n9, n2, n4, n5, n10, n64, n1000, B_X8_beside_62]
    have : ¬ c % 6 < 5 := fun z => absurd h2 (nI_ge (b := 5) z (by decide))
    have e : w = 1 := (nI_eq (b := 1) hw (by decide)).mp h1
    rw [show bd c w = none by simp [bd, e, this]] at h
    exact h
  · refine w_X8_beside_62 ?_
    simp only [o_const, o_iload, o_lload, o_aload, o_istore, o_astore, o_lstore, o_iinc, o_i1, o_i2, o_div, o_l2, o_lsh, o_il, o_li, o_lcmp, o_pop, o_dup, o_dup2, o_dupx1, o_if, o_ic, o_sw, s_sw, o_getI, o_getJ, o_getR, o_putI, o_putZ, o_putJ, o_putR, o_iald, o_iast, o_lald, o_last, o_aald, o_alen, o_tald, o_getsA, o_call, o_callV, s_rc, o_math1, o_math2, o_copyl, o_vret, o_iret, o_zret, o_lret, o_aret, s_get, s_put1, s_put2, s_unl, s_head, s_pop, s_sm, s_ret, Option.toList, List.cons_append, List.nil_append, List.length_cons, List.length_nil, Value.category, s_uI_t, s_uJ_t, s_uR_0, s_uR_1, sh_n, Nat.reduceLT, Nat.reduceAdd, Nat.reduceEqDiff, true_and, and_true, eq_self, true_or, or_true, not_false_eq_true, not_true_eq_false, n6, n9, n2, n4, n5, n10, n64, n1000, B_X8_beside_62]
    have : c % 6 < 5 := Nat.lt_of_not_le (fun z => h2 (nI_le (a := 5) z (by omega)))
    have e : w = 1 := (nI_eq (b := 1) hw (by decide)).mp h1
    rw [show bd c w = some (c + 1) by simp [bd, e, this]] at h
    rw [nI_1]
    exact h
  · refine w_X8_beside_77 ?_
    simp only [o_const, o_iload, o_lload, o_aload, o_istore, o_astore, o_lstore, o_iinc, o_i1, o_i2, o_div, o_l2, o_lsh, o_il, o_li, o_lcmp, o_pop, o_dup, o_dup2, o_dupx1, o_if, o_ic, o_sw, s_sw, o_getI, o_getJ, o_getR, o_putI, o_putZ, o_putJ, o_putR, o_iald, o_iast, o_lald, o_last, o_aald, o_alen, o_tald, o_getsA, o_call, o_callV, s_rc, o_math1, o_math2, o_copyl, o_vret, o_iret, o_zret, o_lret, o_aret, s_get, s_put1, s_put2, s_unl, s_head, s_pop, s_sm, s_ret, Option.toList, List.cons_append, List.nil_append, List.length_cons, List.length_nil, Value.category, s_uI_t, s_uJ_t, s_uR_0, s_uR_1, sh_n, Nat.reduceLT, Nat.reduceAdd, Nat.reduceEqDiff, true_and, and_true, eq_self, true_or, or_true, not_false_eq_true, not_true_eq_false, n6, n9, n2, n4, n5, n10, n64, n1000, B_X8_beside_77]
    have : ¬ c < 30 := fun z => absurd h2 (nI_ge (b := 30) z (by decide))
    have e : w = 2 := (nI_eq (b := 2) hw (by decide)).mp h1
    rw [show bd c w = none by simp [bd, e, this]] at h
    exact h
  · refine w_X8_beside_77 ?_
    simp only [o_const, o_iload, o_lload, o_aload, o_istore, o_astore, o_lstore, o_iinc, o_i1, o_i2, o_div, o_l2, o_lsh, o_il, o_li, o_lcmp, o_pop, o_dup, o_dup2, o_dupx1, o_if, o_ic, o_sw, s_sw, o_getI, o_getJ, o_getR, o_putI, o_putZ, o_putJ, o_putR, o_iald, o_iast, o_lald, o_last, o_aald, o_alen, o_tald, o_getsA, o_call, o_callV, s_rc, o_math1, o_math2, o_copyl, o_vret, o_iret, o_zret, o_lret, o_aret, s_get, s_put1, s_put2, s_unl, s_head, s_pop, s_sm, s_ret, Option.toList, List.cons_append, List.nil_append, List.length_cons, List.length_nil, Value.category, s_uI_t, s_uJ_t, s_uR_0, s_uR_1, sh_n, Nat.reduceLT, Nat.reduceAdd, Nat.reduceEqDiff, true_and, and_true, eq_self, true_or, or_true, not_false_eq_true, not_true_eq_false, n6, n9, n2, n4, n5, n10, n64, n1000, B_X8_beside_77]
    have : c < 30 := Nat.lt_of_not_le (fun z => h2 (nI_le (a := 30) z (by omega)))
    have e : w = 2 := (nI_eq (b := 2) hw (by decide)).mp h1
    rw [show bd c w = some (c + 6) by simp [bd, e, this]] at h
    rw [show nI c + 6 = nI (c + 6) from nI_add c 6]
    exact h
  · refine w_X8_beside_92 ?_
    simp only [o_const, o_iload, o_lload, o_aload, o_istore, o_astore, o_lstore, o_iinc, o_i1, o_i2, o_div, o_l2, o_lsh, o_il, o_li, o_lcmp, o_pop, o_dup, o_dup2, o_dupx1, o_if, o_ic, o_sw, s_sw, o_getI, o_getJ, o_getR, o_putI, o_putZ, o_putJ, o_putR, o_iald, o_iast, o_lald, o_last, o_aald, o_alen, o_tald, o_getsA, o_call, o_callV, s_rc, o_math1, o_math2, o_copyl, o_vret, o_iret, o_zret, o_lret, o_aret, s_get, s_put1, s_put2, s_unl, s_head, s_pop, s_sm, s_ret, Option.toList, List.cons_append, List.nil_append, List.length_cons, List.length_nil, Value.category, s_uI_t, s_uJ_t, s_uR_0, s_uR_1, sh_n, Nat.reduceLT, Nat.reduceAdd, Nat.reduceEqDiff, true_and, and_true, eq_self, true_or, or_true, not_false_eq_true, not_true_eq_false, n6, n9, n2, n4, n5, n10, n64, n1000, B_X8_beside_92]
    have : ¬ 0 < c % 6 := fun z => absurd h2 (nI_nle z (by omega))
    have e : w = 3 := (nI_eq (b := 3) hw (by decide)).mp h1
    rw [show bd c w = none by simp [bd, e, this]] at h
    exact h
  · refine w_X8_beside_92 ?_
    simp only [o_const, o_iload, o_lload, o_aload, o_istore, o_astore, o_lstore, o_iinc, o_i1, o_i2, o_div, o_l2, o_lsh, o_il, o_li, o_lcmp, o_pop, o_dup, o_dup2, o_dupx1, o_if, o_ic, o_sw, s_sw, o_getI, o_getJ, o_getR, o_putI, o_putZ, o_putJ, o_putR, o_iald, o_iast, o_lald, o_last, o_aald, o_alen, o_tald, o_getsA, o_call, o_callV, s_rc, o_math1, o_math2, o_copyl, o_vret, o_iret, o_zret, o_lret, o_aret, s_get, s_put1, s_put2, s_unl, s_head, s_pop, s_sm, s_ret, Option.toList, List.cons_append, List.nil_append, List.length_cons, List.length_nil, Value.category, s_uI_t, s_uJ_t, s_uR_0, s_uR_1, sh_n, Nat.reduceLT, Nat.reduceAdd, Nat.reduceEqDiff, true_and, and_true, eq_self, true_or, or_true, not_false_eq_true, not_true_eq_false, n6, n9, n2, n4, n5, n10, n64, n1000, B_X8_beside_92]
    have : 0 < c % 6 := Nat.pos_of_ne_zero (fun z => h2 (by rw [z]; decide))
    have e : w = 3 := (nI_eq (b := 3) hw (by decide)).mp h1
    rw [show bd c w = some (c - 1) by simp [bd, e, this]] at h
    rw [show nI c - 1 = nI (c - 1) from pk_sub (a := c) (b := 1) (by omega)]
    exact h
  · · have a0 : ¬ w = 0 := fun z => h1 (by rw [z]; rfl)
      have a1 : ¬ w = 1 := fun z => h3 (by rw [z]; rfl)
      have a2 : ¬ w = 2 := fun z => h4 (by rw [z]; rfl)
      have a3 : ¬ w = 3 := fun z => h5 (by rw [z]; rfl)
      rw [show bd c w = none by simp [bd, a0, a1, a2, a3]] at h
      exact h
