/-! the class's town: walls, balconies, who is where, a step, what is in view -/
theorem ist_n {t : Nat} (h : IsT t) : (t < 108) = True := eq_true (by have := (ist_lt h).2; omega)
theorem ist_n1 {t : Nat} (h : IsT t) : (t + 1 < 108) = True := eq_true (by have := (ist_lt h).2; omega)
theorem ist_n2 {t : Nat} (h : IsT t) {i : Nat} (hi : i < 7) : (t + 2 + i < 108) = True := eq_true (by have := (ist_lt h).2; omega)
theorem sh1 {k : Nat} (h : k < 31) : (1 : Int32) <<< (nI k &&& 31) = nI (2 ^ k) := by
  have h2 : 1 * 2 ^ k < 2 ^ 32 := by rw [Nat.one_mul]; exact Nat.pow_lt_pow_right (by decide) (by omega)
  have := pk_shlN (n := 1) (nI k &&& 31) k (s_l k (by omega)) h2
  rw [Nat.one_mul] at this
  exact this
theorem or_bit {a k : Nat} (h : a < 2 ^ k) : nI a ||| nI (2 ^ k) = nI (a + 2 ^ k) := by
  have := fa_or_sum (a := a) (k := k) 1 h
  rw [Nat.mul_one] at this
  rw [Nat.add_comm, ← this, fa_or, fa_or, Nat.or_comm]
theorem w_lt (p : Nat → Bool) : bs p 36 < 2 ^ 64 := Nat.lt_of_lt_of_le (bs_lt p 36) (by decide)
theorem w_bit (p : Nat → Bool) {c : Nat} (h : c < 36) : (bs p 36 / 2 ^ c % 2 = 0) ↔ p c = false := by
  rw [bs_bit p h]
  cases p c <;> simp
section
variable {I : Nat → Nat → Int32} {J : Nat → Nat → Int64} {p q : Option Nat} {Q : SQ} {σ : TS} {t : Nat}
theorem c_X7_isWall (ht : IsT t) (hT : CT t I J σ) {c : Nat} (hc : c < 36) (h : Q (some (.int (bi (σ.1 7 c = 1)))) SH (I, J, RS p q)) : C_X7_isWall [.ref t, .int (nI c)] SH (I, J, RS p q) Q := by
  unfold C_X7_isWall
  refine w_X7_isWall_0 ?_
  simp only [o_const, o_iload, o_lload, o_aload, o_istore, o_astore, o_lstore, o_iinc, o_i1, o_i2, o_div, o_l2, o_lsh, o_il, o_li, o_lcmp, o_pop, o_dup, o_dup2, o_dupx1, o_if, o_ic, o_sw, s_sw, o_getI, o_getJ, o_getR, o_putI, o_putZ, o_putJ, o_putR, o_iald, o_iast, o_lald, o_last, o_aald, o_alen, o_tald, o_getsA, o_call, o_callV, s_rc, o_math1, o_math2, o_copyl, o_vret, o_iret, o_zret, o_lret, o_aret, s_get, s_put1, s_put2, s_unl, s_head, s_pop, s_sm, s_ret, Option.toList, List.cons_append, List.nil_append, List.length_cons, List.length_nil, Value.category, s_uI_t, s_uJ_t, s_uR_0, s_uR_1, sh_n, Nat.reduceLT, Nat.reduceAdd, Nat.reduceEqDiff, true_and, and_true, eq_self, true_or, or_true, not_false_eq_true, not_true_eq_false, n6, n9, n2, n4, n5, n10, n64, n1000, B_X7_isWall_0, ist_n ht, ist_c ht, hT.2.2.2.2.2.2.2.1]
  rw [bit_0 (w_lt _) (by omega), w_bit _ hc, decide_eq_false_iff_not]
  refine ⟨fun h1 => ?_, fun h1 => ?_⟩
  · refine w_X7_isWall_18 ?_
    simp only [o_const, o_iload, o_lload, o_aload, o_istore, o_astore, o_lstore, o_iinc, o_i1, o_i2, o_div, o_l2, o_lsh, o_il, o_li, o_lcmp, o_pop, o_dup, o_dup2, o_dupx1, o_if, o_ic, o_sw, s_sw, o_getI, o_getJ, o_getR, o_putI, o_putZ, o_putJ, o_putR, o_iald, o_iast, o_lald, o_last, o_aald, o_alen, o_tald, o_getsA, o_call, o_callV, s_rc, o_math1, o_math2, o_copyl, o_vret, o_iret, o_zret, o_lret, o_aret, s_get, s_put1, s_put2, s_unl, s_head, s_pop, s_sm, s_ret, Option.toList, List.cons_append, List.nil_append, List.length_cons, List.length_nil, Value.category, s_uI_t, s_uJ_t, s_uR_0, s_uR_1, sh_n, Nat.reduceLT, Nat.reduceAdd, Nat.reduceEqDiff, true_and, and_true, eq_self, true_or, or_true, not_false_eq_true, not_true_eq_false, n6, n9, n2, n4, n5, n10, n64, n1000, B_X7_isWall_18]
    rw [bi_f h1] at h
    exact h
  · refine w_X7_isWall_18 ?_
    simp only [o_const, o_iload, o_lload, o_aload, o_istore, o_astore, o_lstore, o_iinc, o_i1, o_i2, o_div, o_l2, o_lsh, o_il, o_li, o_lcmp, o_pop, o_dup, o_dup2, o_dupx1, o_if, o_ic, o_sw, s_sw, o_getI, o_getJ, o_getR, o_putI, o_putZ, o_putJ, o_putR, o_iald, o_iast, o_lald, o_last, o_aald, o_alen, o_tald, o_getsA, o_call, o_callV, s_rc, o_math1, o_math2, o_copyl, o_vret, o_iret, o_zret, o_lret, o_aret, s_get, s_put1, s_put2, s_unl, s_head, s_pop, s_sm, s_ret, Option.toList, List.cons_append, List.nil_append, List.length_cons, List.length_nil, Value.category, s_uI_t, s_uJ_t, s_uR_0, s_uR_1, sh_n, Nat.reduceLT, Nat.reduceAdd, Nat.reduceEqDiff, true_and, and_true, eq_self, true_or, or_true, not_false_eq_true, not_true_eq_false, n6, n9, n2, n4, n5, n10, n64, n1000, B_X7_isWall_18]
    rw [bi_t (Decidable.not_not.mp h1)] at h
    exact h
theorem c_X7_hasBalcony (ht : IsT t) (hT : CT t I J σ) {c : Nat} (hc : c < 36) (h : Q (some (.int (bi (σ.1 8 c = 1)))) SH (I, J, RS p q)) : C_X7_hasBalcony [.ref t, .int (nI c)] SH (I, J, RS p q) Q := by
  unfold C_X7_hasBalcony
  refine w_X7_hasBalcony_0 ?_
  simp only [o_const, o_iload, o_lload, o_aload, o_istore, o_astore, o_lstore, o_iinc, o_i1, o_i2, o_div, o_l2, o_lsh, o_il, o_li, o_lcmp, o_pop, o_dup, o_dup2, o_dupx1, o_if, o_ic, o_sw, s_sw, o_getI, o_getJ, o_getR, o_putI, o_putZ, o_putJ, o_putR, o_iald, o_iast, o_lald, o_last, o_aald, o_alen, o_tald, o_getsA, o_call, o_callV, s_rc, o_math1, o_math2, o_copyl, o_vret, o_iret, o_zret, o_lret, o_aret, s_get, s_put1, s_put2, s_unl, s_head, s_pop, s_sm, s_ret, Option.toList, List.cons_append, List.nil_append, List.length_cons, List.length_nil, Value.category, s_uI_t, s_uJ_t, s_uR_0, s_uR_1, sh_n, Nat.reduceLT, Nat.reduceAdd, Nat.reduceEqDiff, true_and, and_true, eq_self, true_or, or_true, not_false_eq_true, not_true_eq_false, n6, n9, n2, n4, n5, n10, n64, n1000, B_X7_hasBalcony_0, ist_n ht, ist_c ht, hT.2.2.2.2.2.2.2.2.1]
  refine c_X8_hasBit (w_lt _) (by omega) ?_
  simp only [o_const, o_iload, o_lload, o_aload, o_istore, o_astore, o_lstore, o_iinc, o_i1, o_i2, o_div, o_l2, o_lsh, o_il, o_li, o_lcmp, o_pop, o_dup, o_dup2, o_dupx1, o_if, o_ic, o_sw, s_sw, o_getI, o_getJ, o_getR, o_putI, o_putZ, o_putJ, o_putR, o_iald, o_iast, o_lald, o_last, o_aald, o_alen, o_tald, o_getsA, o_call, o_callV, s_rc, o_math1, o_math2, o_copyl, o_vret, o_iret, o_zret, o_lret, o_aret, s_get, s_put1, s_put2, s_unl, s_head, s_pop, s_sm, s_ret, Option.toList, List.cons_append, List.nil_append, List.length_cons, List.length_nil, Value.category, s_uI_t, s_uJ_t, s_uR_0, s_uR_1, sh_n, Nat.reduceLT, Nat.reduceAdd, Nat.reduceEqDiff, true_and, and_true, eq_self, true_or, or_true, not_false_eq_true, not_true_eq_false, n6, n9, n2, n4, n5, n10, n64, n1000]
  have e : bi (¬ bs (fun c => decide (σ.1 8 c = 1)) 36 / 2 ^ c % 2 = 0) = bi (σ.1 8 c = 1) := by
    have := w_bit (fun c => decide (σ.1 8 c = 1)) hc
    by_cases z : σ.1 8 c = 1
    · rw [bi_t z, bi_t]; rw [this]; simp [z]
    · rw [bi_f z, bi_f]; rw [this]; simp [z]
  rw [e]
  exact ⟨bi_01 _, h⟩
theorem c_X7_isOpen (ht : IsT t) (hT : CT t I J σ) {c : Nat} (hc : c < 36) (h : Q (some (.int (bi (¬ σ.1 7 c = 1)))) SH (I, J, RS p q)) : C_X7_isOpen [.ref t, .int (nI c)] SH (I, J, RS p q) Q := by
  unfold C_X7_isOpen
  refine w_X7_isOpen_0 ?_
  simp only [o_const, o_iload, o_lload, o_aload, o_istore, o_astore, o_lstore, o_iinc, o_i1, o_i2, o_div, o_l2, o_lsh, o_il, o_li, o_lcmp, o_pop, o_dup, o_dup2, o_dupx1, o_if, o_ic, o_sw, s_sw, o_getI, o_getJ, o_getR, o_putI, o_putZ, o_putJ, o_putR, o_iald, o_iast, o_lald, o_last, o_aald, o_alen, o_tald, o_getsA, o_call, o_callV, s_rc, o_math1, o_math2, o_copyl, o_vret, o_iret, o_zret, o_lret, o_aret, s_get, s_put1, s_put2, s_unl, s_head, s_pop, s_sm, s_ret, Option.toList, List.cons_append, List.nil_append, List.length_cons, List.length_nil, Value.category, s_uI_t, s_uJ_t, s_uR_0, s_uR_1, sh_n, Nat.reduceLT, Nat.reduceAdd, Nat.reduceEqDiff, true_and, and_true, eq_self, true_or, or_true, not_false_eq_true, not_true_eq_false, n6, n9, n2, n4, n5, n10, n64, n1000, B_X7_isOpen_0]
  refine c_X8_isSquare ?_
  rw [bi_t ⟨nI_pos' (by omega), nI_lt (b := 36) hc (by decide)⟩]
  simp only [o_const, o_iload, o_lload, o_aload, o_istore, o_astore, o_lstore, o_iinc, o_i1, o_i2, o_div, o_l2, o_lsh, o_il, o_li, o_lcmp, o_pop, o_dup, o_dup2, o_dupx1, o_if, o_ic, o_sw, s_sw, o_getI, o_getJ, o_getR, o_putI, o_putZ, o_putJ, o_putR, o_iald, o_iast, o_lald, o_last, o_aald, o_alen, o_tald, o_getsA, o_call, o_callV, s_rc, o_math1, o_math2, o_copyl, o_vret, o_iret, o_zret, o_lret, o_aret, s_get, s_put1, s_put2, s_unl, s_head, s_pop, s_sm, s_ret, Option.toList, List.cons_append, List.nil_append, List.length_cons, List.length_nil, Value.category, s_uI_t, s_uJ_t, s_uR_0, s_uR_1, sh_n, Nat.reduceLT, Nat.reduceAdd, Nat.reduceEqDiff, true_and, and_true, eq_self, true_or, or_true, not_false_eq_true, not_true_eq_false, n6, n9, n2, n4, n5, n10, n64, n1000, ist_n ht, ist_c ht]
  refine ⟨fun z => absurd z (by decide), fun _ => c_X7_isWall ht hT hc ?_⟩
  simp only [o_const, o_iload, o_lload, o_aload, o_istore, o_astore, o_lstore, o_iinc, o_i1, o_i2, o_div, o_l2, o_lsh, o_il, o_li, o_lcmp, o_pop, o_dup, o_dup2, o_dupx1, o_if, o_ic, o_sw, s_sw, o_getI, o_getJ, o_getR, o_putI, o_putZ, o_putJ, o_putR, o_iald, o_iast, o_lald, o_last, o_aald, o_alen, o_tald, o_getsA, o_call, o_callV, s_rc, o_math1, o_math2, o_copyl, o_vret, o_iret, o_zret, o_lret, o_aret, s_get, s_put1, s_put2, s_unl, s_head, s_pop, s_sm, s_ret, Option.toList, List.cons_append, List.nil_append, List.length_cons, List.length_nil, Value.category, s_uI_t, s_uJ_t, s_uR_0, s_uR_1, sh_n, Nat.reduceLT, Nat.reduceAdd, Nat.reduceEqDiff, true_and, and_true, eq_self, true_or, or_true, not_false_eq_true, not_true_eq_false, n6, n9, n2, n4, n5, n10, n64, n1000, bi_0]
  refine ⟨fun h1 => ?_, fun h1 => ?_⟩
  · first
    | (refine w_X7_isOpen_19 ?_
       simp only [o_const, o_iload, o_lload, o_aload, o_istore, o_astore, o_lstore, o_iinc, o_i1, o_i2, o_div, o_l2, o_lsh, o_il, o_li, o_lcmp, o_pop, o_dup, o_dup2, o_dupx1, o_if, o_ic, o_sw, s_sw, o_getI, o_getJ, o_getR, o_putI, o_putZ, o_putJ, o_putR, o_iald, o_iast, o_lald, o_last, o_aald, o_alen, o_tald, o_getsA, o_call, o_callV, s_rc, o_math1, o_math2, o_copyl, o_vret, o_iret, o_zret, o_lret, o_aret, s_get, s_put1, s_put2, s_unl, s_head, s_pop, s_sm, s_ret, Option.toList, List.cons_append, List.nil_append, List.length_cons, List.length_nil, Value.category, s_uI_t, s_uJ_t, s_uR_0, s_uR_1, sh_n, Nat.reduceLT, Nat.reduceAdd, Nat.reduceEqDiff, true_and, and_true, eq_self, true_or, or_true, not_false_eq_true, not_true_eq_false, n6, n9, n2, n4, n5, n10, n64, n1000, B_X7_isOpen_19]
       refine w_X7_isOpen_20 ?_
       simp only [o_const, o_iload, o_lload, o_aload, o_istore, o_astore, o_lstore, o_iinc, o_i1, o_i2, o_div, o_l2, o_lsh, o_il, o_li, o_lcmp, o_pop, o_dup, o_dup2, o_dupx1, o_if, o_ic, o_sw, s_sw, o_getI, o_getJ, o_getR, o_putI, o_putZ, o_putJ, o_putR, o_iald, o_iast, o_lald, o_last, o_aald, o_alen, o_tald, o_getsA, o_call, o_callV, s_rc, o_math1, o_math2, o_copyl, o_vret, o_iret, o_zret, o_lret, o_aret, s_get, s_put1, s_put2, s_unl, s_head, s_pop, s_sm, s_ret, Option.toList, List.cons_append, List.nil_append, List.length_cons, List.length_nil, Value.category, s_uI_t, s_uJ_t, s_uR_0, s_uR_1, sh_n, Nat.reduceLT, Nat.reduceAdd, Nat.reduceEqDiff, true_and, and_true, eq_self, true_or, or_true, not_false_eq_true, not_true_eq_false, n6, n9, n2, n4, n5, n10, n64, n1000, B_X7_isOpen_20]
       exact mq h (by simp_all [bi]))
    | (refine w_X7_isOpen_20 ?_
       simp only [o_const, o_iload, o_lload, o_aload, o_istore, o_astore, o_lstore, o_iinc, o_i1, o_i2, o_div, o_l2, o_lsh, o_il, o_li, o_lcmp, o_pop, o_dup, o_dup2, o_dupx1, o_if, o_ic, o_sw, s_sw, o_getI, o_getJ, o_getR, o_putI, o_putZ, o_putJ, o_putR, o_iald, o_iast, o_lald, o_last, o_aald, o_alen, o_tald, o_getsA, o_call, o_callV, s_rc, o_math1, o_math2, o_copyl, o_vret, o_iret, o_zret, o_lret, o_aret, s_get, s_put1, s_put2, s_unl, s_head, s_pop, s_sm, s_ret, Option.toList, List.cons_append, List.nil_append, List.length_cons, List.length_nil, Value.category, s_uI_t, s_uJ_t, s_uR_0, s_uR_1, sh_n, Nat.reduceLT, Nat.reduceAdd, Nat.reduceEqDiff, true_and, and_true, eq_self, true_or, or_true, not_false_eq_true, not_true_eq_false, n6, n9, n2, n4, n5, n10, n64, n1000, B_X7_isOpen_20]
       exact mq h (by simp_all [bi]))
  · first
    | (refine w_X7_isOpen_19 ?_
       simp only [o_const, o_iload, o_lload, o_aload, o_istore, o_astore, o_lstore, o_iinc, o_i1, o_i2, o_div, o_l2, o_lsh, o_il, o_li, o_lcmp, o_pop, o_dup, o_dup2, o_dupx1, o_if, o_ic, o_sw, s_sw, o_getI, o_getJ, o_getR, o_putI, o_putZ, o_putJ, o_putR, o_iald, o_iast, o_lald, o_last, o_aald, o_alen, o_tald, o_getsA, o_call, o_callV, s_rc, o_math1, o_math2, o_copyl, o_vret, o_iret, o_zret, o_lret, o_aret, s_get, s_put1, s_put2, s_unl, s_head, s_pop, s_sm, s_ret, Option.toList, List.cons_append, List.nil_append, List.length_cons, List.length_nil, Value.category, s_uI_t, s_uJ_t, s_uR_0, s_uR_1, sh_n, Nat.reduceLT, Nat.reduceAdd, Nat.reduceEqDiff, true_and, and_true, eq_self, true_or, or_true, not_false_eq_true, not_true_eq_false, n6, n9, n2, n4, n5, n10, n64, n1000, B_X7_isOpen_19]
       refine w_X7_isOpen_20 ?_
       simp only [o_const, o_iload, o_lload, o_aload, o_istore, o_astore, o_lstore, o_iinc, o_i1, o_i2, o_div, o_l2, o_lsh, o_il, o_li, o_lcmp, o_pop, o_dup, o_dup2, o_dupx1, o_if, o_ic, o_sw, s_sw, o_getI, o_getJ, o_getR, o_putI, o_putZ, o_putJ, o_putR, o_iald, o_iast, o_lald, o_last, o_aald, o_alen, o_tald, o_getsA, o_call, o_callV, s_rc, o_math1, o_math2, o_copyl, o_vret, o_iret, o_zret, o_lret, o_aret, s_get, s_put1, s_put2, s_unl, s_head, s_pop, s_sm, s_ret, Option.toList, List.cons_append, List.nil_append, List.length_cons, List.length_nil, Value.category, s_uI_t, s_uJ_t, s_uR_0, s_uR_1, sh_n, Nat.reduceLT, Nat.reduceAdd, Nat.reduceEqDiff, true_and, and_true, eq_self, true_or, or_true, not_false_eq_true, not_true_eq_false, n6, n9, n2, n4, n5, n10, n64, n1000, B_X7_isOpen_20]
       exact mq h (by simp_all [bi]))
    | (refine w_X7_isOpen_20 ?_
       simp only [o_const, o_iload, o_lload, o_aload, o_istore, o_astore, o_lstore, o_iinc, o_i1, o_i2, o_div, o_l2, o_lsh, o_il, o_li, o_lcmp, o_pop, o_dup, o_dup2, o_dupx1, o_if, o_ic, o_sw, s_sw, o_getI, o_getJ, o_getR, o_putI, o_putZ, o_putJ, o_putR, o_iald, o_iast, o_lald, o_last, o_aald, o_alen, o_tald, o_getsA, o_call, o_callV, s_rc, o_math1, o_math2, o_copyl, o_vret, o_iret, o_zret, o_lret, o_aret, s_get, s_put1, s_put2, s_unl, s_head, s_pop, s_sm, s_ret, Option.toList, List.cons_append, List.nil_append, List.length_cons, List.length_nil, Value.category, s_uI_t, s_uJ_t, s_uR_0, s_uR_1, sh_n, Nat.reduceLT, Nat.reduceAdd, Nat.reduceEqDiff, true_and, and_true, eq_self, true_or, or_true, not_false_eq_true, not_true_eq_false, n6, n9, n2, n4, n5, n10, n64, n1000, B_X7_isOpen_20]
       exact mq h (by simp_all [bi]))
/-- of a number that is no square -/
theorem c_X7_isOpen_no (ht : IsT t) {v : Int32} (hv : ¬ (0 ≤ v ∧ v < 36)) (h : Q (some (.int 0)) SH (I, J, RS p q)) : C_X7_isOpen [.ref t, .int v] SH (I, J, RS p q) Q := by
  unfold C_X7_isOpen
  refine w_X7_isOpen_0 ?_
  simp only [o_const, o_iload, o_lload, o_aload, o_istore, o_astore, o_lstore, o_iinc, o_i1, o_i2, o_div, o_l2, o_lsh, o_il, o_li, o_lcmp, o_pop, o_dup, o_dup2, o_dupx1, o_if, o_ic, o_sw, s_sw, o_getI, o_getJ, o_getR, o_putI, o_putZ, o_putJ, o_putR, o_iald, o_iast, o_lald, o_last, o_aald, o_alen, o_tald, o_getsA, o_call, o_callV, s_rc, o_math1, o_math2, o_copyl, o_vret, o_iret, o_zret, o_lret, o_aret, s_get, s_put1, s_put2, s_unl, s_head, s_pop, s_sm, s_ret, Option.toList, List.cons_append, List.nil_append, List.length_cons, List.length_nil, Value.category, s_uI_t, s_uJ_t, s_uR_0, s_uR_1, sh_n, Nat.reduceLT, Nat.reduceAdd, Nat.reduceEqDiff, true_and, and_true, eq_self, true_or, or_true, not_false_eq_true, not_true_eq_false, n6, n9, n2, n4, n5, n10, n64, n1000, B_X7_isOpen_0]
  refine c_X8_isSquare ?_
  rw [bi_f hv]
  simp only [o_const, o_iload, o_lload, o_aload, o_istore, o_astore, o_lstore, o_iinc, o_i1, o_i2, o_div, o_l2, o_lsh, o_il, o_li, o_lcmp, o_pop, o_dup, o_dup2, o_dupx1, o_if, o_ic, o_sw, s_sw, o_getI, o_getJ, o_getR, o_putI, o_putZ, o_putJ, o_putR, o_iald, o_iast, o_lald, o_last, o_aald, o_alen, o_tald, o_getsA, o_call, o_callV, s_rc, o_math1, o_math2, o_copyl, o_vret, o_iret, o_zret, o_lret, o_aret, s_get, s_put1, s_put2, s_unl, s_head, s_pop, s_sm, s_ret, Option.toList, List.cons_append, List.nil_append, List.length_cons, List.length_nil, Value.category, s_uI_t, s_uJ_t, s_uR_0, s_uR_1, sh_n, Nat.reduceLT, Nat.reduceAdd, Nat.reduceEqDiff, true_and, and_true, eq_self, true_or, or_true, not_false_eq_true, not_true_eq_false, n6, n9, n2, n4, n5, n10, n64, n1000, ist_n ht, ist_c ht]
  refine ⟨fun _ => ?_, fun z => z.elim⟩
  refine w_X7_isOpen_19 ?_
  simp only [o_const, o_iload, o_lload, o_aload, o_istore, o_astore, o_lstore, o_iinc, o_i1, o_i2, o_div, o_l2, o_lsh, o_il, o_li, o_lcmp, o_pop, o_dup, o_dup2, o_dupx1, o_if, o_ic, o_sw, s_sw, o_getI, o_getJ, o_getR, o_putI, o_putZ, o_putJ, o_putR, o_iald, o_iast, o_lald, o_last, o_aald, o_alen, o_tald, o_getsA, o_call, o_callV, s_rc, o_math1, o_math2, o_copyl, o_vret, o_iret, o_zret, o_lret, o_aret, s_get, s_put1, s_put2, s_unl, s_head, s_pop, s_sm, s_ret, Option.toList, List.cons_append, List.nil_append, List.length_cons, List.length_nil, Value.category, s_uI_t, s_uJ_t, s_uR_0, s_uR_1, sh_n, Nat.reduceLT, Nat.reduceAdd, Nat.reduceEqDiff, true_and, and_true, eq_self, true_or, or_true, not_false_eq_true, not_true_eq_false, n6, n9, n2, n4, n5, n10, n64, n1000, B_X7_isOpen_19]
  refine w_X7_isOpen_20 ?_
  simp only [o_const, o_iload, o_lload, o_aload, o_istore, o_astore, o_lstore, o_iinc, o_i1, o_i2, o_div, o_l2, o_lsh, o_il, o_li, o_lcmp, o_pop, o_dup, o_dup2, o_dupx1, o_if, o_ic, o_sw, s_sw, o_getI, o_getJ, o_getR, o_putI, o_putZ, o_putJ, o_putR, o_iald, o_iast, o_lald, o_last, o_aald, o_alen, o_tald, o_getsA, o_call, o_callV, s_rc, o_math1, o_math2, o_copyl, o_vret, o_iret, o_zret, o_lret, o_aret, s_get, s_put1, s_put2, s_unl, s_head, s_pop, s_sm, s_ret, Option.toList, List.cons_append, List.nil_append, List.length_cons, List.length_nil, Value.category, s_uI_t, s_uJ_t, s_uR_0, s_uR_1, sh_n, Nat.reduceLT, Nat.reduceAdd, Nat.reduceEqDiff, true_and, and_true, eq_self, true_or, or_true, not_false_eq_true, not_true_eq_false, n6, n9, n2, n4, n5, n10, n64, n1000, B_X7_isOpen_20]
  exact h
theorem c_X7_peopleAt (ht : IsT t) (hT : CT t I J σ) (hW : σ.2.1 0 ≤ 7) (hA : ∀ i, i < σ.2.1 0 → σ.1 5 i < 36) {c : Nat} (hc : c < 2 ^ 31) (h : Q (some (.int (nI (bs (fun i => decide (σ.1 5 i = c)) (σ.2.1 0))))) SH (I, J, RS p q)) : C_X7_peopleAt [.ref t, .int (nI c)] SH (I, J, RS p q) Q := by
  unfold C_X7_peopleAt
  refine w_X7_peopleAt_0 ?_
  simp only [o_const, o_iload, o_lload, o_aload, o_istore, o_astore, o_lstore, o_iinc, o_i1, o_i2, o_div, o_l2, o_lsh, o_il, o_li, o_lcmp, o_pop, o_dup, o_dup2, o_dupx1, o_if, o_ic, o_sw, s_sw, o_getI, o_getJ, o_getR, o_putI, o_putZ, o_putJ, o_putR, o_iald, o_iast, o_lald, o_last, o_aald, o_alen, o_tald, o_getsA, o_call, o_callV, s_rc, o_math1, o_math2, o_copyl, o_vret, o_iret, o_zret, o_lret, o_aret, s_get, s_put1, s_put2, s_unl, s_head, s_pop, s_sm, s_ret, Option.toList, List.cons_append, List.nil_append, List.length_cons, List.length_nil, Value.category, s_uI_t, s_uJ_t, s_uR_0, s_uR_1, sh_n, Nat.reduceLT, Nat.reduceAdd, Nat.reduceEqDiff, true_and, and_true, eq_self, true_or, or_true, not_false_eq_true, not_true_eq_false, n6, n9, n2, n4, n5, n10, n64, n1000, B_X7_peopleAt_0]
  have lp : ∀ d k, k + d = σ.2.1 0 → s_wp P_X7_peopleAt Q 4 [some (.ref t), some (.int (nI c)), some (.int (nI (bs (fun i => decide (σ.1 5 i = c)) k))), some (.int (nI k))] [] SH (I, J, RS p q) := by
    intro d
    induction d with
    | zero =>
      intro k hk
      obtain rfl : k = σ.2.1 0 := by omega
      refine w_X7_peopleAt_4 ?_
      simp only [o_const, o_iload, o_lload, o_aload, o_istore, o_astore, o_lstore, o_iinc, o_i1, o_i2, o_div, o_l2, o_lsh, o_il, o_li, o_lcmp, o_pop, o_dup, o_dup2, o_dupx1, o_if, o_ic, o_sw, s_sw, o_getI, o_getJ, o_getR, o_putI, o_putZ, o_putJ, o_putR, o_iald, o_iast, o_lald, o_last, o_aald, o_alen, o_tald, o_getsA, o_call, o_callV, s_rc, o_math1, o_math2, o_copyl, o_vret, o_iret, o_zret, o_lret, o_aret, s_get, s_put1, s_put2, s_unl, s_head, s_pop, s_sm, s_ret, Option.toList, List.cons_append, List.nil_append, List.length_cons, List.length_nil, Value.category, s_uI_t, s_uJ_t, s_uR_0, s_uR_1, sh_n, Nat.reduceLT, Nat.reduceAdd, Nat.reduceEqDiff, true_and, and_true, eq_self, true_or, or_true, not_false_eq_true, not_true_eq_false, n6, n9, n2, n4, n5, n10, n64, n1000, B_X7_peopleAt_4, ist_n ht, ist_c ht, hT.1]
      exact br_t (nI_le (Nat.le_refl _) (by omega)) h
    | succ d ih =>
      intro k hk
      have hk7 : k < 7 := by omega
      refine w_X7_peopleAt_4 ?_
      simp only [o_const, o_iload, o_lload, o_aload, o_istore, o_astore, o_lstore, o_iinc, o_i1, o_i2, o_div, o_l2, o_lsh, o_il, o_li, o_lcmp, o_pop, o_dup, o_dup2, o_dupx1, o_if, o_ic, o_sw, s_sw, o_getI, o_getJ, o_getR, o_putI, o_putZ, o_putJ, o_putR, o_iald, o_iast, o_lald, o_last, o_aald, o_alen, o_tald, o_getsA, o_call, o_callV, s_rc, o_math1, o_math2, o_copyl, o_vret, o_iret, o_zret, o_lret, o_aret, s_get, s_put1, s_put2, s_unl, s_head, s_pop, s_sm, s_ret, Option.toList, List.cons_append, List.nil_append, List.length_cons, List.length_nil, Value.category, s_uI_t, s_uJ_t, s_uR_0, s_uR_1, sh_n, Nat.reduceLT, Nat.reduceAdd, Nat.reduceEqDiff, true_and, and_true, eq_self, true_or, or_true, not_false_eq_true, not_true_eq_false, n6, n9, n2, n4, n5, n10, n64, n1000, B_X7_peopleAt_4, ist_n ht, ist_c ht, hT.1, ist_r ht, ist_n1 ht, ist_c1 ht, ist_l1 ht]
      refine br_f (nI_ge (by omega) (by omega)) ⟨vp_in_nI hk7 (by decide), ?_⟩
      rw [nI_clamp (by omega)]
      simp only [o_const, o_iload, o_lload, o_aload, o_istore, o_astore, o_lstore, o_iinc, o_i1, o_i2, o_div, o_l2, o_lsh, o_il, o_li, o_lcmp, o_pop, o_dup, o_dup2, o_dupx1, o_if, o_ic, o_sw, s_sw, o_getI, o_getJ, o_getR, o_putI, o_putZ, o_putJ, o_putR, o_iald, o_iast, o_lald, o_last, o_aald, o_alen, o_tald, o_getsA, o_call, o_callV, s_rc, o_math1, o_math2, o_copyl, o_vret, o_iret, o_zret, o_lret, o_aret, s_get, s_put1, s_put2, s_unl, s_head, s_pop, s_sm, s_ret, Option.toList, List.cons_append, List.nil_append, List.length_cons, List.length_nil, Value.category, s_uI_t, s_uJ_t, s_uR_0, s_uR_1, sh_n, Nat.reduceLT, Nat.reduceAdd, Nat.reduceEqDiff, true_and, and_true, eq_self, true_or, or_true, not_false_eq_true, not_true_eq_false, n6, n9, n2, n4, n5, n10, n64, n1000, ist_r1 ht p q k hk7, ist_n2 ht hk7, ist_cp ht k hk7, hT.2.2.2.2.2.2.2.2.2 k (by omega) 5 (by omega)]
      have e5 : (nI (σ.1 5 k) = nI c) ↔ σ.1 5 k = c := nI_eq (by have := hA k (by omega); omega) hc
      rw [e5, sh1 (show k < 31 by omega), or_bit (bs_lt _ k), Decidable.not_not]
      refine ⟨fun h1 => ?_, fun h1 => ?_⟩
      · refine w_X7_peopleAt_31 ?_
        simp only [o_const, o_iload, o_lload, o_aload, o_istore, o_astore, o_lstore, o_iinc, o_i1, o_i2, o_div, o_l2, o_lsh, o_il, o_li, o_lcmp, o_pop, o_dup, o_dup2, o_dupx1, o_if, o_ic, o_sw, s_sw, o_getI, o_getJ, o_getR, o_putI, o_putZ, o_putJ, o_putR, o_iald, o_iast, o_lald, o_last, o_aald, o_alen, o_tald, o_getsA, o_call, o_callV, s_rc, o_math1, o_math2, o_copyl, o_vret, o_iret, o_zret, o_lret, o_aret, s_get, s_put1, s_put2, s_unl, s_head, s_pop, s_sm, s_ret, Option.toList, List.cons_append, List.nil_append, List.length_cons, List.length_nil, Value.category, s_uI_t, s_uJ_t, s_uR_0, s_uR_1, sh_n, Nat.reduceLT, Nat.reduceAdd, Nat.reduceEqDiff, true_and, and_true, eq_self, true_or, or_true, not_false_eq_true, not_true_eq_false, n6, n9, n2, n4, n5, n10, n64, n1000, B_X7_peopleAt_31]
        have := ih (k + 1) (by omega)
        rw [bs, if_neg (by simp [h1]), Nat.add_zero] at this
        rw [nI_1]
        exact this
      · refine w_X7_peopleAt_31 ?_
        simp only [o_const, o_iload, o_lload, o_aload, o_istore, o_astore, o_lstore, o_iinc, o_i1, o_i2, o_div, o_l2, o_lsh, o_il, o_li, o_lcmp, o_pop, o_dup, o_dup2, o_dupx1, o_if, o_ic, o_sw, s_sw, o_getI, o_getJ, o_getR, o_putI, o_putZ, o_putJ, o_putR, o_iald, o_iast, o_lald, o_last, o_aald, o_alen, o_tald, o_getsA, o_call, o_callV, s_rc, o_math1, o_math2, o_copyl, o_vret, o_iret, o_zret, o_lret, o_aret, s_get, s_put1, s_put2, s_unl, s_head, s_pop, s_sm, s_ret, Option.toList, List.cons_append, List.nil_append, List.length_cons, List.length_nil, Value.category, s_uI_t, s_uJ_t, s_uR_0, s_uR_1, sh_n, Nat.reduceLT, Nat.reduceAdd, Nat.reduceEqDiff, true_and, and_true, eq_self, true_or, or_true, not_false_eq_true, not_true_eq_false, n6, n9, n2, n4, n5, n10, n64, n1000, B_X7_peopleAt_31]
        have := ih (k + 1) (by omega)
        rw [bs, if_pos (by simp [h1])] at this
        rw [nI_1]
        exact this
  exact lp (σ.2.1 0) 0 (by omega)
theorem c_X7_stepFrom (ht : IsT t) (hT : CT t I J σ) {c w : Nat} (hc : c < 36) (hw : w < 2 ^ 31) (h : Q (some (.int (ob ((bd c w).filter (fun d => decide (¬ σ.1 7 d = 1)))))) SH (I, J, RS p q)) : C_X7_stepFrom [.ref t, .int (nI c), .int (nI w)] SH (I, J, RS p q) Q := by
  unfold C_X7_stepFrom
  refine w_X7_stepFrom_0 ?_
  simp only [o_const, o_iload, o_lload, o_aload, o_istore, o_astore, o_lstore, o_iinc, o_i1, o_i2, o_div, o_l2, o_lsh, o_il, o_li, o_lcmp, o_pop, o_dup, o_dup2, o_dupx1, o_if, o_ic, o_sw, s_sw, o_getI, o_getJ, o_getR, o_putI, o_putZ, o_putJ, o_putR, o_iald, o_iast, o_lald, o_last, o_aald, o_alen, o_tald, o_getsA, o_call, o_callV, s_rc, o_math1, o_math2, o_copyl, o_vret, o_iret, o_zret, o_lret, o_aret, s_get, s_put1, s_put2, s_unl, s_head, s_pop, s_sm, s_ret, Option.toList, List.cons_append, List.nil_append, List.length_cons, List.length_nil, Value.category, s_uI_t, s_uJ_t, s_uR_0, s_uR_1, sh_n, Nat.reduceLT, Nat.reduceAdd, Nat.reduceEqDiff, true_and, and_true, eq_self, true_or, or_true, not_false_eq_true, not_true_eq_false, n6, n9, n2, n4, n5, n10, n64, n1000, B_X7_stepFrom_0]
  refine c_X8_beside hc hw ?_
  simp only [o_const, o_iload, o_lload, o_aload, o_istore, o_astore, o_lstore, o_iinc, o_i1, o_i2, o_div, o_l2, o_lsh, o_il, o_li, o_lcmp, o_pop, o_dup, o_dup2, o_dupx1, o_if, o_ic, o_sw, s_sw, o_getI, o_getJ, o_getR, o_putI, o_putZ, o_putJ, o_putR, o_iald, o_iast, o_lald, o_last, o_aald, o_alen, o_tald, o_getsA, o_call, o_callV, s_rc, o_math1, o_math2, o_copyl, o_vret, o_iret, o_zret, o_lret, o_aret, s_get, s_put1, s_put2, s_unl, s_head, s_pop, s_sm, s_ret, Option.toList, List.cons_append, List.nil_append, List.length_cons, List.length_nil, Value.category, s_uI_t, s_uJ_t, s_uR_0, s_uR_1, sh_n, Nat.reduceLT, Nat.reduceAdd, Nat.reduceEqDiff, true_and, and_true, eq_self, true_or, or_true, not_false_eq_true, not_true_eq_false, n6, n9, n2, n4, n5, n10, n64, n1000, ist_n ht, ist_c ht]
  cases hb : bd c w with
  | none =>
    rw [hb] at h
    refine c_X7_isOpen_no ht (by decide) ?_
    simp only [o_const, o_iload, o_lload, o_aload, o_istore, o_astore, o_lstore, o_iinc, o_i1, o_i2, o_div, o_l2, o_lsh, o_il, o_li, o_lcmp, o_pop, o_dup, o_dup2, o_dupx1, o_if, o_ic, o_sw, s_sw, o_getI, o_getJ, o_getR, o_putI, o_putZ, o_putJ, o_putR, o_iald, o_iast, o_lald, o_last, o_aald, o_alen, o_tald, o_getsA, o_call, o_callV, s_rc, o_math1, o_math2, o_copyl, o_vret, o_iret, o_zret, o_lret, o_aret, s_get, s_put1, s_put2, s_unl, s_head, s_pop, s_sm, s_ret, Option.toList, List.cons_append, List.nil_append, List.length_cons, List.length_nil, Value.category, s_uI_t, s_uJ_t, s_uR_0, s_uR_1, sh_n, Nat.reduceLT, Nat.reduceAdd, Nat.reduceEqDiff, true_and, and_true, eq_self, true_or, or_true, not_false_eq_true, not_true_eq_false, n6, n9, n2, n4, n5, n10, n64, n1000]
    refine ⟨fun _ => ?_, fun z => z.elim⟩
    refine w_X7_stepFrom_19 ?_
    simp only [o_const, o_iload, o_lload, o_aload, o_istore, o_astore, o_lstore, o_iinc, o_i1, o_i2, o_div, o_l2, o_lsh, o_il, o_li, o_lcmp, o_pop, o_dup, o_dup2, o_dupx1, o_if, o_ic, o_sw, s_sw, o_getI, o_getJ, o_getR, o_putI, o_putZ, o_putJ, o_putR, o_iald, o_iast, o_lald, o_last, o_aald, o_alen, o_tald, o_getsA, o_call, o_callV, s_rc, o_math1, o_math2, o_copyl, o_vret, o_iret, o_zret, o_lret, o_aret, s_get, s_put1, s_put2, s_unl, s_head, s_pop, s_sm, s_ret, Option.toList, List.cons_append, List.nil_append, List.length_cons, List.length_nil, Value.category, s_uI_t, s_uJ_t, s_uR_0, s_uR_1, sh_n, Nat.reduceLT, Nat.reduceAdd, Nat.reduceEqDiff, true_and, and_true, eq_self, true_or, or_true, not_false_eq_true, not_true_eq_false, n6, n9, n2, n4, n5, n10, n64, n1000, B_X7_stepFrom_19]
    exact h
  | some d =>
    have hd : d < 36 := by
      unfold bd at hb
      split at hb
      · split at hb
        · cases hb
        · cases hb; omega
      · split at hb
        · split at hb
          · cases hb; omega
          · cases hb
        · split at hb
          · split at hb
            · cases hb; omega
            · cases hb
          · split at hb
            · split at hb
              · cases hb; omega
              · cases hb
            · cases hb
    rw [hb] at h
    refine c_X7_isOpen ht hT hd ?_
    simp only [o_const, o_iload, o_lload, o_aload, o_istore, o_astore, o_lstore, o_iinc, o_i1, o_i2, o_div, o_l2, o_lsh, o_il, o_li, o_lcmp, o_pop, o_dup, o_dup2, o_dupx1, o_if, o_ic, o_sw, s_sw, o_getI, o_getJ, o_getR, o_putI, o_putZ, o_putJ, o_putR, o_iald, o_iast, o_lald, o_last, o_aald, o_alen, o_tald, o_getsA, o_call, o_callV, s_rc, o_math1, o_math2, o_copyl, o_vret, o_iret, o_zret, o_lret, o_aret, s_get, s_put1, s_put2, s_unl, s_head, s_pop, s_sm, s_ret, Option.toList, List.cons_append, List.nil_append, List.length_cons, List.length_nil, Value.category, s_uI_t, s_uJ_t, s_uR_0, s_uR_1, sh_n, Nat.reduceLT, Nat.reduceAdd, Nat.reduceEqDiff, true_and, and_true, eq_self, true_or, or_true, not_false_eq_true, not_true_eq_false, n6, n9, n2, n4, n5, n10, n64, n1000, bi_0]
    refine ⟨fun h1 => ?_, fun h1 => ?_⟩
    · refine w_X7_stepFrom_19 ?_
      simp only [o_const, o_iload, o_lload, o_aload, o_istore, o_astore, o_lstore, o_iinc, o_i1, o_i2, o_div, o_l2, o_lsh, o_il, o_li, o_lcmp, o_pop, o_dup, o_dup2, o_dupx1, o_if, o_ic, o_sw, s_sw, o_getI, o_getJ, o_getR, o_putI, o_putZ, o_putJ, o_putR, o_iald, o_iast, o_lald, o_last, o_aald, o_alen, o_tald, o_getsA, o_call, o_callV, s_rc, o_math1, o_math2, o_copyl, o_vret, o_iret, o_zret, o_lret, o_aret, s_get, s_put1, s_put2, s_unl, s_head, s_pop, s_sm, s_ret, Option.toList, List.cons_append, List.nil_append, List.length_cons, List.length_nil, Value.category, s_uI_t, s_uJ_t, s_uR_0, s_uR_1, sh_n, Nat.reduceLT, Nat.reduceAdd, Nat.reduceEqDiff, true_and, and_true, eq_self, true_or, or_true, not_false_eq_true, not_true_eq_false, n6, n9, n2, n4, n5, n10, n64, n1000, B_X7_stepFrom_19]
      rw [show (some d).filter (fun d => decide (¬ σ.1 7 d = 1)) = none by simp [Option.filter, Decidable.not_not.mp h1]] at h
      exact h
    · refine w_X7_stepFrom_19 ?_
      simp only [o_const, o_iload, o_lload, o_aload, o_istore, o_astore, o_lstore, o_iinc, o_i1, o_i2, o_div, o_l2, o_lsh, o_il, o_li, o_lcmp, o_pop, o_dup, o_dup2, o_dupx1, o_if, o_ic, o_sw, s_sw, o_getI, o_getJ, o_getR, o_putI, o_putZ, o_putJ, o_putR, o_iald, o_iast, o_lald, o_last, o_aald, o_alen, o_tald, o_getsA, o_call, o_callV, s_rc, o_math1, o_math2, o_copyl, o_vret, o_iret, o_zret, o_lret, o_aret, s_get, s_put1, s_put2, s_unl, s_head, s_pop, s_sm, s_ret, Option.toList, List.cons_append, List.nil_append, List.length_cons, List.length_nil, Value.category, s_uI_t, s_uJ_t, s_uR_0, s_uR_1, sh_n, Nat.reduceLT, Nat.reduceAdd, Nat.reduceEqDiff, true_and, and_true, eq_self, true_or, or_true, not_false_eq_true, not_true_eq_false, n6, n9, n2, n4, n5, n10, n64, n1000, B_X7_stepFrom_19]
      rw [show (some d).filter (fun d => decide (¬ σ.1 7 d = 1)) = some d by simp [Option.filter, Decidable.not_not.mp h1]] at h
      exact h
end
