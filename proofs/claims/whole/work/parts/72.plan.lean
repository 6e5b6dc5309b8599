/-! the planner's trial; stand; most -/
theorem uP_uP (σ : TS) (j i v w : Nat) : uP (uP σ j i v) j i w = uP σ j i w := by
  show ((fun a b => if a = j ∧ b = i then w else (if a = j ∧ b = i then v else σ.1 a b)), σ.2) = _
  unfold uP
  congr 1
  funext a b
  by_cases e : a = j ∧ b = i
  · rw [if_pos e, if_pos e]
  · rw [if_neg e, if_neg e, if_neg e]
theorem uP_id (σ : TS) (j i : Nat) : uP σ j i (σ.1 j i) = σ := by
  show ((fun a b => if a = j ∧ b = i then σ.1 j i else σ.1 a b), σ.2) = (σ.1, σ.2)
  congr 1
  funext a b
  by_cases e : a = j ∧ b = i
  · rw [if_pos e, e.1, e.2]
  · rw [if_neg e]
theorem uI_uI (I : Nat → Nat → Int32) (a k : Nat) (x y : Int32) : uI (uI I a k x) a k y = uI I a k y := by
  funext b j
  by_cases e : b = a ∧ j = k
  · obtain ⟨rfl, rfl⟩ := e
    rw [uI_s, uI_s]
  · show (if b = a ∧ j = k then y else (if b = a ∧ j = k then x else I b j)) = (if b = a ∧ j = k then y else I b j)
    rw [if_neg e, if_neg e, if_neg e]
theorem uI_id {I : Nat → Nat → Int32} {a k : Nat} {x : Int32} (h : I a k = x) : uI I a k x = I := by
  funext b j
  by_cases e : b = a ∧ j = k
  · obtain ⟨rfl, rfl⟩ := e
    rw [uI_s, h]
  · exact if_neg e
theorem uI_back {I : Nat → Nat → Int32} {a k : Nat} {x y : Int32} (h : I a k = y) : uI (uI I a k x) a k y = I := by rw [uI_uI, uI_id h]
theorem i35 : IsT 35 := Or.inr (Or.inr (Or.inr rfl))
theorem i1 : IsT 1 := Or.inl rfl
theorem r44 : IsR 44 := Or.inr (Or.inl rfl)
theorem m1_gt {a : Nat} (ha : a < 2147483648) : (-1 < nI a) = True := eq_true (by
  rw [fa_lt, nI_toInt ha, show (-1 : Int32).toInt = -1 by decide]
  omega)
theorem tw_kd {σ : TS} (h : TW σ) {x v : Nat} (hv : v < 7) : TW (uP σ 0 x v) := by
  refine ⟨h.1, fun i hi => ?_, fun d hd => h.2.2.1 d hd, h.2.2.2⟩
  obtain ⟨a0, a1, a2, a3, a4, a5, a6, a7⟩ := h.2.1 i hi
  refine ⟨?_, a1, a2, a3, a4, a5, a6, a7⟩
  by_cases e : i = x
  · simpa [uP, e] using hv
  · simpa [uP, e] using a0
theorem tw_lk {σ : TS} (h : TW σ) {x v : Nat} (hv : v ≤ 20) : TW (uP σ 2 x v) := by
  refine ⟨h.1, fun i hi => ?_, fun d hd => h.2.2.1 d hd, h.2.2.2⟩
  obtain ⟨a0, a1, a2, a3, a4, a5, a6, a7⟩ := h.2.1 i hi
  refine ⟨a0, a1, ?_, a3, a4, a5, a6, a7⟩
  by_cases e : i = x
  · simpa [uP, e] using hv
  · simpa [uP, e] using a2
def dut (σ : TS) (x c : Nat) : Nat := owes (uP σ 5 x c) none x
def opn (σ : TS) (c : Nat) : Bool := decide (σ.1 7 c = 0)
def std (σ : TS) (x : Nat) : Nat → Option Nat := pck (opn σ) (fun a b => decide (dut σ x a < dut σ x b))
theorem std_S (σ : TS) (x n : Nat) : std σ x (n + 1) = if σ.1 7 n = 0 then (match std σ x n with
    | none => some n
    | some b => if dut σ x n < dut σ x b then some n else some b) else std σ x n := by
  show pck _ _ _ = _
  rw [pck_S]
  simp only [opn, decide_eq_true_eq]
  rfl
def stdV (σ : TS) (x : Nat) : Nat := match std σ x 36 with
  | none => 0
  | some b => dut σ x b
theorem dut_le {σ : TS} (hW : TW σ) {x c : Nat} (hc : c < 36) (hw : σ.1 7 c = 0) : dut σ x c ≤ 63 := owes_le (tw_at hW hc hw) none x
theorem std_some {σ : TS} (hW : TW σ) {x : Nat} (hx : x < σ.2.1 0) : ∃ b, std σ x 36 = some b := by
  cases h : std σ x 36 with
  | some b => exact ⟨b, rfl⟩
  | none =>
    obtain ⟨a0, a1, a2, a3, a4, a5, a6, a7⟩ := hW.2.1 x hx
    have := pck_none h (σ.1 5 x) a5
    simp [opn, a6] at this
def mst (σ : TS) : Nat → Option Nat := pck T1 (fun a b => decide (owes σ none b < owes σ none a))
theorem mst_S (σ : TS) (n : Nat) : mst σ (n + 1) = match mst σ n with
    | none => some n
    | some b => if owes σ none b < owes σ none n then some n else some b := by
  show pck _ _ _ = _
  rw [pck_S]
  simp only [if_true, decide_eq_true_eq]
  rfl
def wos (σ : TS) (x : Nat) : Nat := fb_sm (owes σ (some x)) (σ.2.1 0)
def wot (σ : TS) : Nat → Option Nat := pck T1 (fun a b => decide (wos σ a < wos σ b))
theorem wot_S (σ : TS) (n : Nat) : wot σ (n + 1) = match wot σ n with
    | none => some n
    | some b => if wos σ n < wos σ b then some n else some b := by
  show pck _ _ _ = _
  rw [pck_S]
  simp only [if_true, decide_eq_true_eq]
  rfl
theorem sum_le {σ : TS} (hW : TW σ) (mi : Option Nat) : fb_sm (owes σ mi) (σ.2.1 0) ≤ 441 := by
  have h1 := fb_sm_bound (f := owes σ mi) (c := 63) (n := σ.2.1 0) (fun k _ => owes_le hW mi k)
  have h2 := Nat.mul_le_mul_right 63 hW.1
  omega
def z_stand (α : AS) (x w : Int32) : AS × Int32 := if ¬ isP α x then zno α 1 else if ¬ wi w 1 then zno α 5 else (α, if w = nI 0 then ob (std (gT α) (iN x) 36) else nI (stdV (gT α) (iN x)))
def z_most (α : AS) (w : Int32) : AS × Int32 := if ¬ (¬ (gT α).2.1 0 = 0 ∧ wi w 1) then zno α 5 else (α, if w = nI 0 then ob (mst (gT α) ((gT α).2.1 0)) else ob (wot (gT α) ((gT α).2.1 0)))
/-- as if one weren't there -/
theorem without_eq {σ : TS} {x : Nat} : fb_sm (owes (uP (uP σ 6 x 1) 0 x 3) none) (σ.2.1 0) = wos σ x := by
  have k1 : ∀ j i, ¬ (i = x ∧ (j = 0 ∨ j = 6)) → (uP (uP σ 6 x 1) 0 x 3).1 j i = σ.1 j i := by
    intro j i h
    show (if j = 0 ∧ i = x then 3 else (if j = 6 ∧ i = x then 1 else σ.1 j i)) = _
    rw [if_neg (by omega), if_neg (by omega)]
  have k0 : (uP (uP σ 6 x 1) 0 x 3).1 0 x = 3 := if_pos ⟨rfl, rfl⟩
  have k6 : (uP (uP σ 6 x 1) 0 x 3).1 6 x = 1 := by
    show (if 6 = 0 ∧ x = x then 3 else (if 6 = 6 ∧ x = x then 1 else σ.1 6 x)) = 1
    rw [if_neg (by omega), if_pos ⟨rfl, rfl⟩]
  generalize hτ : uP (uP σ 6 x 1) 0 x 3 = τ at k1 k0 k6 ⊢
  have n1 : τ.2 = σ.2 := by rw [← hτ]; rfl
  have q3 : ∀ i, τ.1 3 i = σ.1 3 i := fun i => k1 3 i (by omega)
  have q5 : ∀ i, τ.1 5 i = σ.1 5 i := fun i => k1 5 i (by omega)
  have q7 : ∀ i, τ.1 7 i = σ.1 7 i := fun i => k1 7 i (by omega)
  have q8 : ∀ i, τ.1 8 i = σ.1 8 i := fun i => k1 8 i (by omega)
  have hs : ∀ a b, sees τ a b = sees σ a b := by
    intro a b
    unfold sees
    simp only [n1, q7]
  have hl : ∀ c, lit τ c = lit σ c := by
    intro c
    unfold lit
    simp only [hs, q8]
  have hsh : ∀ i, ¬ i = x → shw τ i = shw σ i := by
    intro i hi
    unfold shw sun
    simp only [n1, k1 _ i (fun z => hi z.1)]
  have hsx : shw τ x = 0 := if_pos k6
  have hwd : ∀ a b, would τ none a b = would σ (some x) a b := by
    intro a b
    unfold would
    rw [hs, q5, q5, q3]
    by_cases ha : a = x
    · subst ha
      rw [k0]
      simp
    · by_cases hb : b = x
      · subst hb
        rw [hsx]
        simp
      · rw [k1 0 a (by omega), hsh b hb]
        simp [show ¬ x = a from fun z => ha z.symm, show ¬ x = b from fun z => hb z.symm]
  have hnx : ∀ a b, would σ (some x) a b = true → ¬ a = x ∧ ¬ b = x := by
    intro a b h
    unfold would at h
    rw [Bool.and_eq_true, Bool.and_eq_true, decide_eq_true_eq] at h
    exact ⟨fun z => h.1.1.2.1 (by rw [z]), fun z => h.1.1.2.2.1 (by rw [z])⟩
  have hdr : ∀ a n, drs τ none a n = drs σ (some x) a n := by
    intro a n
    induction n with
    | zero => rfl
    | succ n ih =>
      rw [drs_S, drs_S, hwd, ih]
      cases hd : drs σ (some x) a n with
      | none => rfl
      | some o =>
        by_cases hw : would σ (some x) a n = true
        · have h1 := hnx a n hw
          have h2 := hnx a o (drs_would hd)
          rw [if_pos hw, if_pos hw]
          simp only [q5, hsh o h2.2, hsh n h1.2]
        · rw [if_neg hw, if_neg hw]
  have hg : ∀ a b, glan τ none a b = glan σ (some x) a b := by
    intro a b
    unfold glan
    by_cases ha : a = x
    · subst ha
      rw [k0, if_neg (by omega), hwd]
      have h0 : ∀ b, would σ (some a) a b = false := fun b => by
        cases h : would σ (some a) a b
        · rfl
        · exact absurd rfl (hnx a b h).1
      have h1 : ∀ n, drs σ (some a) a n = none := by
        intro n
        induction n with
        | zero => rfl
        | succ n ih => rw [drs_S, h0 n, ih]; rfl
      rw [h0, h1]
      split <;> simp
    · rw [k1 0 a (by omega), hwd, hdr, n1]
  unfold wos
  refine fb_sm_cong (fun y hy => ?_)
  have hlk : lkn τ none y = lkn σ (some x) y := by
    unfold lkn
    rw [n1]
    exact fb_ct_cong (fun a _ => hg a y)
  unfold owes
  rw [hlk, hl, n1, q5]
  by_cases e : y = x
  · subst e
    have hz : lkn σ (some y) y = 0 := fb_ct_zero.mpr (fun a _ => by
      have : would σ (some y) a y = false := by
        cases h : would σ (some y) a y
        · rfl
        · exact absurd rfl (hnx a y h).2
      unfold glan
      rw [this]
      split
      · refine decide_eq_false (fun z => ?_)
        have := drs_would z
        simp_all
      · rfl)
    rw [hz, k0]
    simp
  · rw [k1 0 y (by omega)]
    simp [show ¬ x = y from fun z => e z.symm]
section
variable {I : Nat → Nat → Int32} {J : Nat → Nat → Int64} {p q : Option Nat} {Q : SQ} {σ τ : TS}
theorem ax_ct {I' : Nat → Nat → Int32} {J' : Nat → Nat → Int64} (h : AX I I' J J') (hT : CT 1 I J σ) (hn : σ.2.1 0 ≤ 7) : CT 1 I' J' σ := ct_ag hT hn (fun b j g1 g2 => h.1 b j (by unfold xS; omega)) (fun b j g1 g2 => h.2 b j (by unfold xS; omega))
theorem p_copy (hT : CT 1 I J σ) (hW : TW σ) (h : ∀ I' J', AX I I' J J' → CT 1 I' J' σ → CT 35 I' J' σ → Q none SH (I', J', RS p q)) : C_X7_copyFrom [.ref 35, .ref 1] SH (I, J, RS p q) Q := c_X7_copyFrom i35 i1 (by decide) hT hW (fun I' J' ha hT' => h I' J' (ax_t (Or.inr rfl) ha) (at_ct ha i35 i1 (by decide) hT hW.1) hT')
theorem p_take (hT : CT 35 I J τ) (hW : TW τ) (h : ∀ I' J', AX I I' J J' → CT 35 I' J' τ → RI 44 I' τ → Q none SH (I', J', RS p q)) : C_X4_take [.ref 44, .ref 35] SH (I, J, RS p q) Q := c_X4_take r44 i35 hT hW (fun I' J' ha hR => h I' J' (ax_r r44 ha) (ar_ct ha i35 r44 hT hW.1) hR)
theorem c_X2_dutyAt {x c v : Nat} (hT : CT 35 I J (uP σ 5 x v)) (hx : x < σ.2.1 0) (hW : TW (uP σ 5 x c)) (h : ∀ I' J', AX I I' J J' → CT 35 I' J' (uP σ 5 x c) → Q (some (.int (nI (dut σ x c)))) SH (I', J', RS p q)) : C_X2_dutyAt [.ref 34, .int (nI x), .int (nI c)] SH (I, J, RS p q) Q := by
  unfold C_X2_dutyAt
  have ht := i35
  have hn : σ.2.1 0 ≤ 7 := hW.1
  have hT2 := hT
  obtain ⟨tc, tm, tr, tw, tk, tt, ts, tW, tB, tP⟩ := hT
  refine w_X2_dutyAt_0 ?_
  simp (disch := omega) only [o_const, o_iload, o_lload, o_aload, o_istore, o_astore, o_lstore, o_iinc, o_i1, o_i2, o_div, o_l2, o_lsh, o_il, o_li, o_lcmp, o_pop, o_dup, o_dup2, o_dupx1, o_if, o_ic, o_sw, s_sw, o_getI, o_getJ, o_getR, o_putI, o_putZ, o_putJ, o_putR, o_iald, o_iast, o_lald, o_last, o_aald, o_alen, o_tald, o_getsA, o_call, o_callV, s_rc, o_math1, o_math2, o_copyl, o_vret, o_iret, o_zret, o_lret, o_aret, s_get, s_put1, s_put2, s_unl, s_head, s_pop, s_sm, s_ret, Option.toList, List.cons_append, List.nil_append, List.length_cons, List.length_nil, Value.category, s_uI_t, s_uJ_t, s_uR_0, s_uR_1, sh_n, Nat.reduceLT, Nat.reduceAdd, Nat.reduceEqDiff, true_and, and_true, eq_self, true_or, or_true, not_false_eq_true, not_true_eq_false, n6, n9, n2, n4, n5, n10, n64, n1000, B_X2_dutyAt_0, sh_c0, sh_c1, sh_c2, sh_c3, sh_c4, sh_c5, sh_c6, sh_c7, sh_c8, sh_c9, sh_c10, sh_c11, sh_c12, sh_c13, sh_c14, sh_c15, sh_c16, sh_c17, sh_c18, sh_c19, sh_c20, sh_c21, sh_c22, sh_c23, sh_c24, sh_c25, sh_c26, sh_c27, sh_c28, sh_c29, sh_c30, sh_c31, sh_c32, sh_c33, sh_c34, sh_c35, sh_c36, sh_c37, sh_c38, sh_c39, sh_c40, sh_c41, sh_c42, sh_c43, sh_c44, sh_c45, sh_c46, sh_c47, sh_c48, sh_c49, sh_c50, sh_c51, sh_c52, sh_c53, sh_c54, sh_c55, sh_c56, sh_c57, sh_c58, sh_c59, sh_c60, sh_c61, sh_c62, sh_c63, sh_c64, sh_c65, sh_c66, sh_c67, sh_c68, sh_c69, sh_c70, sh_c71, sh_c72, sh_c73, sh_c74, sh_c75, sh_c76, sh_c77, sh_c78, sh_c79, sh_l2, sh_l11, sh_l20, sh_l29, sh_l30, sh_l31, sh_l32, sh_l33, sh_l36, sh_l45, sh_l46, sh_l47, sh_l48, sh_l49, sh_l50, sh_l51, sh_l54, sh_l55, sh_l56, sh_l57, sh_l58, sh_l61, sh_l62, sh_l63, sh_l65, sh_l67, sh_l69, sh_l71, sh_l73, sh_l75, sh_l77, sh_l79, rs_0_0, rs_0_1, rs_0_2, rs_0_4, rs_0_5, rs_0_6, rs_0_7, rs_0_8, rs_0_9, rs_0_10, rs_1_0, rs_2_0, rs_2_1, rs_2_2, rs_2_3, rs_2_4, rs_2_5, rs_2_6, rs_10_0, rs_11_0, rs_11_1, rs_11_2, rs_11_3, rs_11_4, rs_11_5, rs_11_6, rs_19_0, rs_20_0, rs_20_1, rs_20_2, rs_20_3, rs_20_4, rs_20_5, rs_20_6, rs_28_0, rs_28_1, rs_28_2, rs_28_3, rs_28_4, rs_34_0, rs_34_1, rs_34_2, rs_34_3, rs_35_0, rs_36_0, rs_36_1, rs_36_2, rs_36_3, rs_36_4, rs_36_5, rs_36_6, rs_44_0, rs_44_1, rs_44_2, rs_44_3, rs_44_4, rs_52_0, rs_53_0, rs_53_1, rs_53_2, rs_53_3, rs_53_4, rs_60_0, rs_62_0, rs_62_1, rs_62_2, rs_62_3, rs_62_4, rs_62_5, rs_62_6, rs_62_7, rs_64_3, rs_66_3, rs_68_3, rs_70_3, rs_72_3, rs_74_3, rs_76_3, rs_78_3, rs_59_0, rs_59_1, ist_n ht, ist_n1 ht, ist_n2 ht, ist_c ht, ist_c1 ht, ist_l1 ht, ist_r ht, ist_r1 ht, ist_cp ht, Nat.zero_le, Nat.not_lt_zero, nE, nLt, nLe, nE1, nE1', nLt1, nLe1, n1Lt, n1Le, m1_ne, m1_ne', m1_lt, nI_add, nI_1, nSub, nSub1, pk_mul, nDv, nRm, n_md, nVp, nVp0, nVp1, nCl, nIL, lN_i, bi_n0, bi_o, o01, o11, n1_0, n0_1, nm_0, false_or, or_false, false_and, and_false, Decidable.not_not, false_implies, true_implies, ne_eq, reduceCtorEq, ite_true, ite_false, n_0, n_2, n_3, n_4, n_5, n_6, n_7, n_8, n_9, n_10, n_11, n_16, n_20, n_30, n_32, n_36, n_40, n_48, n_57, n_59, n_60, n_64, n_97, n_98, n_99, n_100, n_101, n_108, n_112, n_114, n_115, n_119, n_130, n_160, n_1000, n_9999, n_1280, n_100000000, n_268435456, n_35, n_17, n_51, n_50, n_70, n_71, n_12]
  refine p_take (τ := uP σ 5 x c) (by have := ct_P hT2 (j := 5) (i := x) c (by decide); rw [uP_uP] at this; exact this) hW (fun I' J' h1 h2 h3 => ?_)
  have e := (h3.2 x hx).2.1
  simp (disch := omega) only [o_const, o_iload, o_lload, o_aload, o_istore, o_astore, o_lstore, o_iinc, o_i1, o_i2, o_div, o_l2, o_lsh, o_il, o_li, o_lcmp, o_pop, o_dup, o_dup2, o_dupx1, o_if, o_ic, o_sw, s_sw, o_getI, o_getJ, o_getR, o_putI, o_putZ, o_putJ, o_putR, o_iald, o_iast, o_lald, o_last, o_aald, o_alen, o_tald, o_getsA, o_call, o_callV, s_rc, o_math1, o_math2, o_copyl, o_vret, o_iret, o_zret, o_lret, o_aret, s_get, s_put1, s_put2, s_unl, s_head, s_pop, s_sm, s_ret, Option.toList, List.cons_append, List.nil_append, List.length_cons, List.length_nil, Value.category, s_uI_t, s_uJ_t, s_uR_0, s_uR_1, sh_n, Nat.reduceLT, Nat.reduceAdd, Nat.reduceEqDiff, true_and, and_true, eq_self, true_or, or_true, not_false_eq_true, not_true_eq_false, n6, n9, n2, n4, n5, n10, n64, n1000, sh_c0, sh_c1, sh_c2, sh_c3, sh_c4, sh_c5, sh_c6, sh_c7, sh_c8, sh_c9, sh_c10, sh_c11, sh_c12, sh_c13, sh_c14, sh_c15, sh_c16, sh_c17, sh_c18, sh_c19, sh_c20, sh_c21, sh_c22, sh_c23, sh_c24, sh_c25, sh_c26, sh_c27, sh_c28, sh_c29, sh_c30, sh_c31, sh_c32, sh_c33, sh_c34, sh_c35, sh_c36, sh_c37, sh_c38, sh_c39, sh_c40, sh_c41, sh_c42, sh_c43, sh_c44, sh_c45, sh_c46, sh_c47, sh_c48, sh_c49, sh_c50, sh_c51, sh_c52, sh_c53, sh_c54, sh_c55, sh_c56, sh_c57, sh_c58, sh_c59, sh_c60, sh_c61, sh_c62, sh_c63, sh_c64, sh_c65, sh_c66, sh_c67, sh_c68, sh_c69, sh_c70, sh_c71, sh_c72, sh_c73, sh_c74, sh_c75, sh_c76, sh_c77, sh_c78, sh_c79, sh_l2, sh_l11, sh_l20, sh_l29, sh_l30, sh_l31, sh_l32, sh_l33, sh_l36, sh_l45, sh_l46, sh_l47, sh_l48, sh_l49, sh_l50, sh_l51, sh_l54, sh_l55, sh_l56, sh_l57, sh_l58, sh_l61, sh_l62, sh_l63, sh_l65, sh_l67, sh_l69, sh_l71, sh_l73, sh_l75, sh_l77, sh_l79, rs_0_0, rs_0_1, rs_0_2, rs_0_4, rs_0_5, rs_0_6, rs_0_7, rs_0_8, rs_0_9, rs_0_10, rs_1_0, rs_2_0, rs_2_1, rs_2_2, rs_2_3, rs_2_4, rs_2_5, rs_2_6, rs_10_0, rs_11_0, rs_11_1, rs_11_2, rs_11_3, rs_11_4, rs_11_5, rs_11_6, rs_19_0, rs_20_0, rs_20_1, rs_20_2, rs_20_3, rs_20_4, rs_20_5, rs_20_6, rs_28_0, rs_28_1, rs_28_2, rs_28_3, rs_28_4, rs_34_0, rs_34_1, rs_34_2, rs_34_3, rs_35_0, rs_36_0, rs_36_1, rs_36_2, rs_36_3, rs_36_4, rs_36_5, rs_36_6, rs_44_0, rs_44_1, rs_44_2, rs_44_3, rs_44_4, rs_52_0, rs_53_0, rs_53_1, rs_53_2, rs_53_3, rs_53_4, rs_60_0, rs_62_0, rs_62_1, rs_62_2, rs_62_3, rs_62_4, rs_62_5, rs_62_6, rs_62_7, rs_64_3, rs_66_3, rs_68_3, rs_70_3, rs_72_3, rs_74_3, rs_76_3, rs_78_3, rs_59_0, rs_59_1, Nat.zero_le, Nat.not_lt_zero, nE, nLt, nLe, nE1, nE1', nLt1, nLe1, n1Lt, n1Le, m1_ne, m1_ne', m1_lt, nI_add, nI_1, nSub, nSub1, pk_mul, nDv, nRm, n_md, nVp, nVp0, nVp1, nCl, nIL, lN_i, bi_n0, bi_o, o01, o11, n1_0, n0_1, nm_0, false_or, or_false, false_and, and_false, Decidable.not_not, false_implies, true_implies, ne_eq, reduceCtorEq, ite_true, ite_false, n_0, n_2, n_3, n_4, n_5, n_6, n_7, n_8, n_9, n_10, n_11, n_16, n_20, n_30, n_32, n_36, n_40, n_48, n_57, n_59, n_60, n_64, n_97, n_98, n_99, n_100, n_101, n_108, n_112, n_114, n_115, n_119, n_130, n_160, n_1000, n_9999, n_1280, n_100000000, n_268435456, n_35, n_17, n_51, n_50, n_70, n_71, n_12, e]
  exact h I' J' (ax_ax (ax_I (ax_0 I J) (by unfold xS; omega) _) h1) h2
theorem c_X2_bestStand (hT : CT 1 I J σ) (hW : TW σ) {x : Nat} (hx : x < σ.2.1 0) {w : Int32} (h01 : w = nI 0 ∨ w = 1) (h : ∀ I' J', AX I I' J J' → Q (some (.int (if w = nI 0 then ob (std σ x 36) else nI (stdV σ x)))) SH (I', J', RS p q)) : C_X2_bestStand [.ref 34, .ref 1, .int (nI x), .int w] SH (I, J, RS p q) Q := by
  unfold C_X2_bestStand
  have hn := hW.1
  have lo : ∀ d k M x7 v I' J', k + d = 36 → AX I I' J J' → CT 35 I' J' (uP σ 5 x v) → (∀ b, std σ x k = some b → M = dut σ x b) → s_wp P_X2_bestStand Q 17 [some (.ref 34), some (.ref 1), some (.int (nI x)), some (.int w), some (.int (ob (std σ x k))), some (.int (nI M)), some (.int (nI k)), x7] [] SH (I', J', RS p q) := by
    intro d
    induction d with
    | zero =>
      intro k M x7 v I' J' hk ha hT' hM
      obtain rfl : k = 36 := by omega
      obtain ⟨b, hb⟩ := std_some hW hx
      have h2 := h I' J' ha
      obtain rfl := hM b hb
      rcases h01 with rfl | rfl
      · refine w_X2_bestStand_17 ?_
        simp (disch := omega) only [o_const, o_iload, o_lload, o_aload, o_istore, o_astore, o_lstore, o_iinc, o_i1, o_i2, o_div, o_l2, o_lsh, o_il, o_li, o_lcmp, o_pop, o_dup, o_dup2, o_dupx1, o_if, o_ic, o_sw, s_sw, o_getI, o_getJ, o_getR, o_putI, o_putZ, o_putJ, o_putR, o_iald, o_iast, o_lald, o_last, o_aald, o_alen, o_tald, o_getsA, o_call, o_callV, s_rc, o_math1, o_math2, o_copyl, o_vret, o_iret, o_zret, o_lret, o_aret, s_get, s_put1, s_put2, s_unl, s_head, s_pop, s_sm, s_ret, Option.toList, List.cons_append, List.nil_append, List.length_cons, List.length_nil, Value.category, s_uI_t, s_uJ_t, s_uR_0, s_uR_1, sh_n, Nat.reduceLT, Nat.reduceAdd, Nat.reduceEqDiff, true_and, and_true, eq_self, true_or, or_true, not_false_eq_true, not_true_eq_false, n6, n9, n2, n4, n5, n10, n64, n1000, B_X2_bestStand_17, Nat.zero_le, Nat.not_lt_zero, nE, nLt, nLe, nE1, nE1', nLt1, nLe1, n1Lt, n1Le, m1_ne, m1_ne', m1_lt, nI_add, nI_1, nSub, nSub1, pk_mul, nDv, nRm, n_md, nVp, nVp0, nVp1, nCl, nIL, lN_i, bi_n0, bi_o, o01, o11, n1_0, n0_1, nm_0, false_or, or_false, false_and, and_false, Decidable.not_not, false_implies, true_implies, ne_eq, reduceCtorEq, ite_true, ite_false, n_0, n_2, n_3, n_4, n_5, n_6, n_7, n_8, n_9, n_10, n_11, n_16, n_20, n_30, n_32, n_36, n_40, n_48, n_57, n_59, n_60, n_64, n_97, n_98, n_99, n_100, n_101, n_108, n_112, n_114, n_115, n_119, n_130, n_160, n_1000, n_9999, n_1280, n_100000000, n_268435456, n_35, n_17, n_51, n_50, n_70, n_71, n_12]
        refine br_t (Nat.le_refl _) ?_
        refine w_X2_bestStand_83 ?_
        simp (disch := omega) only [o_const, o_iload, o_lload, o_aload, o_istore, o_astore, o_lstore, o_iinc, o_i1, o_i2, o_div, o_l2, o_lsh, o_il, o_li, o_lcmp, o_pop, o_dup, o_dup2, o_dupx1, o_if, o_ic, o_sw, s_sw, o_getI, o_getJ, o_getR, o_putI, o_putZ, o_putJ, o_putR, o_iald, o_iast, o_lald, o_last, o_aald, o_alen, o_tald, o_getsA, o_call, o_callV, s_rc, o_math1, o_math2, o_copyl, o_vret, o_iret, o_zret, o_lret, o_aret, s_get, s_put1, s_put2, s_unl, s_head, s_pop, s_sm, s_ret, Option.toList, List.cons_append, List.nil_append, List.length_cons, List.length_nil, Value.category, s_uI_t, s_uJ_t, s_uR_0, s_uR_1, sh_n, Nat.reduceLT, Nat.reduceAdd, Nat.reduceEqDiff, true_and, and_true, eq_self, true_or, or_true, not_false_eq_true, not_true_eq_false, n6, n9, n2, n4, n5, n10, n64, n1000, B_X2_bestStand_83, Nat.zero_le, Nat.not_lt_zero, nE, nLt, nLe, nE1, nE1', nLt1, nLe1, n1Lt, n1Le, m1_ne, m1_ne', m1_lt, nI_add, nI_1, nSub, nSub1, pk_mul, nDv, nRm, n_md, nVp, nVp0, nVp1, nCl, nIL, lN_i, bi_n0, bi_o, o01, o11, n1_0, n0_1, nm_0, false_or, or_false, false_and, and_false, Decidable.not_not, false_implies, true_implies, ne_eq, reduceCtorEq, ite_true, ite_false, n_0, n_2, n_3, n_4, n_5, n_6, n_7, n_8, n_9, n_10, n_11, n_16, n_20, n_30, n_32, n_36, n_40, n_48, n_57, n_59, n_60, n_64, n_97, n_98, n_99, n_100, n_101, n_108, n_112, n_114, n_115, n_119, n_130, n_160, n_1000, n_9999, n_1280, n_100000000, n_268435456, n_35, n_17, n_51, n_50, n_70, n_71, n_12]
        exact h2
      · refine w_X2_bestStand_17 ?_
        simp (disch := omega) only [o_const, o_iload, o_lload, o_aload, o_istore, o_astore, o_lstore, o_iinc, o_i1, o_i2, o_div, o_l2, o_lsh, o_il, o_li, o_lcmp, o_pop, o_dup, o_dup2, o_dupx1, o_if, o_ic, o_sw, s_sw, o_getI, o_getJ, o_getR, o_putI, o_putZ, o_putJ, o_putR, o_iald, o_iast, o_lald, o_last, o_aald, o_alen, o_tald, o_getsA, o_call, o_callV, s_rc, o_math1, o_math2, o_copyl, o_vret, o_iret, o_zret, o_lret, o_aret, s_get, s_put1, s_put2, s_unl, s_head, s_pop, s_sm, s_ret, Option.toList, List.cons_append, List.nil_append, List.length_cons, List.length_nil, Value.category, s_uI_t, s_uJ_t, s_uR_0, s_uR_1, sh_n, Nat.reduceLT, Nat.reduceAdd, Nat.reduceEqDiff, true_and, and_true, eq_self, true_or, or_true, not_false_eq_true, not_true_eq_false, n6, n9, n2, n4, n5, n10, n64, n1000, B_X2_bestStand_17, Nat.zero_le, Nat.not_lt_zero, nE, nLt, nLe, nE1, nE1', nLt1, nLe1, n1Lt, n1Le, m1_ne, m1_ne', m1_lt, nI_add, nI_1, nSub, nSub1, pk_mul, nDv, nRm, n_md, nVp, nVp0, nVp1, nCl, nIL, lN_i, bi_n0, bi_o, o01, o11, n1_0, n0_1, nm_0, false_or, or_false, false_and, and_false, Decidable.not_not, false_implies, true_implies, ne_eq, reduceCtorEq, ite_true, ite_false, n_0, n_2, n_3, n_4, n_5, n_6, n_7, n_8, n_9, n_10, n_11, n_16, n_20, n_30, n_32, n_36, n_40, n_48, n_57, n_59, n_60, n_64, n_97, n_98, n_99, n_100, n_101, n_108, n_112, n_114, n_115, n_119, n_130, n_160, n_1000, n_9999, n_1280, n_100000000, n_268435456, n_35, n_17, n_51, n_50, n_70, n_71, n_12]
        refine br_t (Nat.le_refl _) ?_
        refine w_X2_bestStand_83 ?_
        simp (disch := omega) only [o_const, o_iload, o_lload, o_aload, o_istore, o_astore, o_lstore, o_iinc, o_i1, o_i2, o_div, o_l2, o_lsh, o_il, o_li, o_lcmp, o_pop, o_dup, o_dup2, o_dupx1, o_if, o_ic, o_sw, s_sw, o_getI, o_getJ, o_getR, o_putI, o_putZ, o_putJ, o_putR, o_iald, o_iast, o_lald, o_last, o_aald, o_alen, o_tald, o_getsA, o_call, o_callV, s_rc, o_math1, o_math2, o_copyl, o_vret, o_iret, o_zret, o_lret, o_aret, s_get, s_put1, s_put2, s_unl, s_head, s_pop, s_sm, s_ret, Option.toList, List.cons_append, List.nil_append, List.length_cons, List.length_nil, Value.category, s_uI_t, s_uJ_t, s_uR_0, s_uR_1, sh_n, Nat.reduceLT, Nat.reduceAdd, Nat.reduceEqDiff, true_and, and_true, eq_self, true_or, or_true, not_false_eq_true, not_true_eq_false, n6, n9, n2, n4, n5, n10, n64, n1000, B_X2_bestStand_83, Nat.zero_le, Nat.not_lt_zero, nE, nLt, nLe, nE1, nE1', nLt1, nLe1, n1Lt, n1Le, m1_ne, m1_ne', m1_lt, nI_add, nI_1, nSub, nSub1, pk_mul, nDv, nRm, n_md, nVp, nVp0, nVp1, nCl, nIL, lN_i, bi_n0, bi_o, o01, o11, n1_0, n0_1, nm_0, false_or, or_false, false_and, and_false, Decidable.not_not, false_implies, true_implies, ne_eq, reduceCtorEq, ite_true, ite_false, n_0, n_2, n_3, n_4, n_5, n_6, n_7, n_8, n_9, n_10, n_11, n_16, n_20, n_30, n_32, n_36, n_40, n_48, n_57, n_59, n_60, n_64, n_97, n_98, n_99, n_100, n_101, n_108, n_112, n_114, n_115, n_119, n_130, n_160, n_1000, n_9999, n_1280, n_100000000, n_268435456, n_35, n_17, n_51, n_50, n_70, n_71, n_12]
        rw [if_neg (by decide), show stdV σ x = dut σ x b by unfold stdV; rw [hb]] at h2
        exact h2
    | succ d ih =>
      intro k M x7 v I' J' hk ha hT' hM
      have e := std_S σ x k
      have hwk := (hW.2.2.1 k (by omega)).1
      have e7 : (uP σ 5 x v).1 7 k = σ.1 7 k := by simp [uP]
      refine w_X2_bestStand_17 ?_
      simp (disch := omega) only [o_const, o_iload, o_lload, o_aload, o_istore, o_astore, o_lstore, o_iinc, o_i1, o_i2, o_div, o_l2, o_lsh, o_il, o_li, o_lcmp, o_pop, o_dup, o_dup2, o_dupx1, o_if, o_ic, o_sw, s_sw, o_getI, o_getJ, o_getR, o_putI, o_putZ, o_putJ, o_putR, o_iald, o_iast, o_lald, o_last, o_aald, o_alen, o_tald, o_getsA, o_call, o_callV, s_rc, o_math1, o_math2, o_copyl, o_vret, o_iret, o_zret, o_lret, o_aret, s_get, s_put1, s_put2, s_unl, s_head, s_pop, s_sm, s_ret, Option.toList, List.cons_append, List.nil_append, List.length_cons, List.length_nil, Value.category, s_uI_t, s_uJ_t, s_uR_0, s_uR_1, sh_n, Nat.reduceLT, Nat.reduceAdd, Nat.reduceEqDiff, true_and, and_true, eq_self, true_or, or_true, not_false_eq_true, not_true_eq_false, n6, n9, n2, n4, n5, n10, n64, n1000, B_X2_bestStand_17, sh_c0, sh_c1, sh_c2, sh_c3, sh_c4, sh_c5, sh_c6, sh_c7, sh_c8, sh_c9, sh_c10, sh_c11, sh_c12, sh_c13, sh_c14, sh_c15, sh_c16, sh_c17, sh_c18, sh_c19, sh_c20, sh_c21, sh_c22, sh_c23, sh_c24, sh_c25, sh_c26, sh_c27, sh_c28, sh_c29, sh_c30, sh_c31, sh_c32, sh_c33, sh_c34, sh_c35, sh_c36, sh_c37, sh_c38, sh_c39, sh_c40, sh_c41, sh_c42, sh_c43, sh_c44, sh_c45, sh_c46, sh_c47, sh_c48, sh_c49, sh_c50, sh_c51, sh_c52, sh_c53, sh_c54, sh_c55, sh_c56, sh_c57, sh_c58, sh_c59, sh_c60, sh_c61, sh_c62, sh_c63, sh_c64, sh_c65, sh_c66, sh_c67, sh_c68, sh_c69, sh_c70, sh_c71, sh_c72, sh_c73, sh_c74, sh_c75, sh_c76, sh_c77, sh_c78, sh_c79, sh_l2, sh_l11, sh_l20, sh_l29, sh_l30, sh_l31, sh_l32, sh_l33, sh_l36, sh_l45, sh_l46, sh_l47, sh_l48, sh_l49, sh_l50, sh_l51, sh_l54, sh_l55, sh_l56, sh_l57, sh_l58, sh_l61, sh_l62, sh_l63, sh_l65, sh_l67, sh_l69, sh_l71, sh_l73, sh_l75, sh_l77, sh_l79, rs_0_0, rs_0_1, rs_0_2, rs_0_4, rs_0_5, rs_0_6, rs_0_7, rs_0_8, rs_0_9, rs_0_10, rs_1_0, rs_2_0, rs_2_1, rs_2_2, rs_2_3, rs_2_4, rs_2_5, rs_2_6, rs_10_0, rs_11_0, rs_11_1, rs_11_2, rs_11_3, rs_11_4, rs_11_5, rs_11_6, rs_19_0, rs_20_0, rs_20_1, rs_20_2, rs_20_3, rs_20_4, rs_20_5, rs_20_6, rs_28_0, rs_28_1, rs_28_2, rs_28_3, rs_28_4, rs_34_0, rs_34_1, rs_34_2, rs_34_3, rs_35_0, rs_36_0, rs_36_1, rs_36_2, rs_36_3, rs_36_4, rs_36_5, rs_36_6, rs_44_0, rs_44_1, rs_44_2, rs_44_3, rs_44_4, rs_52_0, rs_53_0, rs_53_1, rs_53_2, rs_53_3, rs_53_4, rs_60_0, rs_62_0, rs_62_1, rs_62_2, rs_62_3, rs_62_4, rs_62_5, rs_62_6, rs_62_7, rs_64_3, rs_66_3, rs_68_3, rs_70_3, rs_72_3, rs_74_3, rs_76_3, rs_78_3, rs_59_0, rs_59_1, Nat.zero_le, Nat.not_lt_zero, nE, nLt, nLe, nE1, nE1', nLt1, nLe1, n1Lt, n1Le, m1_ne, m1_ne', m1_lt, nI_add, nI_1, nSub, nSub1, pk_mul, nDv, nRm, n_md, nVp, nVp0, nVp1, nCl, nIL, lN_i, bi_n0, bi_o, o01, o11, n1_0, n0_1, nm_0, false_or, or_false, false_and, and_false, Decidable.not_not, false_implies, true_implies, ne_eq, reduceCtorEq, ite_true, ite_false, n_0, n_2, n_3, n_4, n_5, n_6, n_7, n_8, n_9, n_10, n_11, n_16, n_20, n_30, n_32, n_36, n_40, n_48, n_57, n_59, n_60, n_64, n_97, n_98, n_99, n_100, n_101, n_108, n_112, n_114, n_115, n_119, n_130, n_160, n_1000, n_9999, n_1280, n_100000000, n_268435456, n_35, n_17, n_51, n_50, n_70, n_71, n_12]
      refine ⟨fun z => absurd z (by omega), fun _ => c_X7_isOpen i35 hT' (by omega) ?_⟩
      rw [e7]
      simp (disch := omega) only [o_const, o_iload, o_lload, o_aload, o_istore, o_astore, o_lstore, o_iinc, o_i1, o_i2, o_div, o_l2, o_lsh, o_il, o_li, o_lcmp, o_pop, o_dup, o_dup2, o_dupx1, o_if, o_ic, o_sw, s_sw, o_getI, o_getJ, o_getR, o_putI, o_putZ, o_putJ, o_putR, o_iald, o_iast, o_lald, o_last, o_aald, o_alen, o_tald, o_getsA, o_call, o_callV, s_rc, o_math1, o_math2, o_copyl, o_vret, o_iret, o_zret, o_lret, o_aret, s_get, s_put1, s_put2, s_unl, s_head, s_pop, s_sm, s_ret, Option.toList, List.cons_append, List.nil_append, List.length_cons, List.length_nil, Value.category, s_uI_t, s_uJ_t, s_uR_0, s_uR_1, sh_n, Nat.reduceLT, Nat.reduceAdd, Nat.reduceEqDiff, true_and, and_true, eq_self, true_or, or_true, not_false_eq_true, not_true_eq_false, n6, n9, n2, n4, n5, n10, n64, n1000, sh_c0, sh_c1, sh_c2, sh_c3, sh_c4, sh_c5, sh_c6, sh_c7, sh_c8, sh_c9, sh_c10, sh_c11, sh_c12, sh_c13, sh_c14, sh_c15, sh_c16, sh_c17, sh_c18, sh_c19, sh_c20, sh_c21, sh_c22, sh_c23, sh_c24, sh_c25, sh_c26, sh_c27, sh_c28, sh_c29, sh_c30, sh_c31, sh_c32, sh_c33, sh_c34, sh_c35, sh_c36, sh_c37, sh_c38, sh_c39, sh_c40, sh_c41, sh_c42, sh_c43, sh_c44, sh_c45, sh_c46, sh_c47, sh_c48, sh_c49, sh_c50, sh_c51, sh_c52, sh_c53, sh_c54, sh_c55, sh_c56, sh_c57, sh_c58, sh_c59, sh_c60, sh_c61, sh_c62, sh_c63, sh_c64, sh_c65, sh_c66, sh_c67, sh_c68, sh_c69, sh_c70, sh_c71, sh_c72, sh_c73, sh_c74, sh_c75, sh_c76, sh_c77, sh_c78, sh_c79, sh_l2, sh_l11, sh_l20, sh_l29, sh_l30, sh_l31, sh_l32, sh_l33, sh_l36, sh_l45, sh_l46, sh_l47, sh_l48, sh_l49, sh_l50, sh_l51, sh_l54, sh_l55, sh_l56, sh_l57, sh_l58, sh_l61, sh_l62, sh_l63, sh_l65, sh_l67, sh_l69, sh_l71, sh_l73, sh_l75, sh_l77, sh_l79, rs_0_0, rs_0_1, rs_0_2, rs_0_4, rs_0_5, rs_0_6, rs_0_7, rs_0_8, rs_0_9, rs_0_10, rs_1_0, rs_2_0, rs_2_1, rs_2_2, rs_2_3, rs_2_4, rs_2_5, rs_2_6, rs_10_0, rs_11_0, rs_11_1, rs_11_2, rs_11_3, rs_11_4, rs_11_5, rs_11_6, rs_19_0, rs_20_0, rs_20_1, rs_20_2, rs_20_3, rs_20_4, rs_20_5, rs_20_6, rs_28_0, rs_28_1, rs_28_2, rs_28_3, rs_28_4, rs_34_0, rs_34_1, rs_34_2, rs_34_3, rs_35_0, rs_36_0, rs_36_1, rs_36_2, rs_36_3, rs_36_4, rs_36_5, rs_36_6, rs_44_0, rs_44_1, rs_44_2, rs_44_3, rs_44_4, rs_52_0, rs_53_0, rs_53_1, rs_53_2, rs_53_3, rs_53_4, rs_60_0, rs_62_0, rs_62_1, rs_62_2, rs_62_3, rs_62_4, rs_62_5, rs_62_6, rs_62_7, rs_64_3, rs_66_3, rs_68_3, rs_70_3, rs_72_3, rs_74_3, rs_76_3, rs_78_3, rs_59_0, rs_59_1, Nat.zero_le, Nat.not_lt_zero, nE, nLt, nLe, nE1, nE1', nLt1, nLe1, n1Lt, n1Le, m1_ne, m1_ne', m1_lt, nI_add, nI_1, nSub, nSub1, pk_mul, nDv, nRm, n_md, nVp, nVp0, nVp1, nCl, nIL, lN_i, bi_n0, bi_o, o01, o11, n1_0, n0_1, nm_0, false_or, or_false, false_and, and_false, Decidable.not_not, false_implies, true_implies, ne_eq, reduceCtorEq, ite_true, ite_false, n_0, n_2, n_3, n_4, n_5, n_6, n_7, n_8, n_9, n_10, n_11, n_16, n_20, n_30, n_32, n_36, n_40, n_48, n_57, n_59, n_60, n_64, n_97, n_98, n_99, n_100, n_101, n_108, n_112, n_114, n_115, n_119, n_130, n_160, n_1000, n_9999, n_1280, n_100000000, n_268435456, n_35, n_17, n_51, n_50, n_70, n_71, n_12]
      refine ⟨fun z => ?_, fun z => ?_⟩
      · refine w_X2_bestStand_66 ?_
        simp (disch := omega) only [o_const, o_iload, o_lload, o_aload, o_istore, o_astore, o_lstore, o_iinc, o_i1, o_i2, o_div, o_l2, o_lsh, o_il, o_li, o_lcmp, o_pop, o_dup, o_dup2, o_dupx1, o_if, o_ic, o_sw, s_sw, o_getI, o_getJ, o_getR, o_putI, o_putZ, o_putJ, o_putR, o_iald, o_iast, o_lald, o_last, o_aald, o_alen, o_tald, o_getsA, o_call, o_callV, s_rc, o_math1, o_math2, o_copyl, o_vret, o_iret, o_zret, o_lret, o_aret, s_get, s_put1, s_put2, s_unl, s_head, s_pop, s_sm, s_ret, Option.toList, List.cons_append, List.nil_append, List.length_cons, List.length_nil, Value.category, s_uI_t, s_uJ_t, s_uR_0, s_uR_1, sh_n, Nat.reduceLT, Nat.reduceAdd, Nat.reduceEqDiff, true_and, and_true, eq_self, true_or, or_true, not_false_eq_true, not_true_eq_false, n6, n9, n2, n4, n5, n10, n64, n1000, B_X2_bestStand_66, Nat.zero_le, Nat.not_lt_zero, nE, nLt, nLe, nE1, nE1', nLt1, nLe1, n1Lt, n1Le, m1_ne, m1_ne', m1_lt, nI_add, nI_1, nSub, nSub1, pk_mul, nDv, nRm, n_md, nVp, nVp0, nVp1, nCl, nIL, lN_i, bi_n0, bi_o, o01, o11, n1_0, n0_1, nm_0, false_or, or_false, false_and, and_false, Decidable.not_not, false_implies, true_implies, ne_eq, reduceCtorEq, ite_true, ite_false, n_0, n_2, n_3, n_4, n_5, n_6, n_7, n_8, n_9, n_10, n_11, n_16, n_20, n_30, n_32, n_36, n_40, n_48, n_57, n_59, n_60, n_64, n_97, n_98, n_99, n_100, n_101, n_108, n_112, n_114, n_115, n_119, n_130, n_160, n_1000, n_9999, n_1280, n_100000000, n_268435456, n_35, n_17, n_51, n_50, n_70, n_71, n_12]
        rw [if_neg (by omega)] at e
        have := ih (k + 1) M x7 v I' J' (by omega) ha hT' (fun b hb => hM b (by rw [← e]; exact hb))
        rw [e] at this
        exact this
      · have hw0 : σ.1 7 k = 0 := by omega
        have hdk := dut_le hW (x := x) (show k < 36 by omega) hw0
        rw [if_pos hw0] at e
        refine c_X2_dutyAt hT' hx (tw_at hW (by omega) hw0) (fun I2 J2 h1 h2 => ?_)
        have ha2 := ax_ax ha h1
        have new : ∀ x4 x5, std σ x (k + 1) = some k → s_wp P_X2_bestStand Q 58 [some (.ref 34), some (.ref 1), some (.int (nI x)), some (.int w), x4, x5, some (.int (nI k)), some (.int (nI (dut σ x k)))] [] SH (I2, J2, RS p q) := by
          intro x4 x5 h3
          refine w_X2_bestStand_58 ?_
          simp (disch := omega) only [o_const, o_iload, o_lload, o_aload, o_istore, o_astore, o_lstore, o_iinc, o_i1, o_i2, o_div, o_l2, o_lsh, o_il, o_li, o_lcmp, o_pop, o_dup, o_dup2, o_dupx1, o_if, o_ic, o_sw, s_sw, o_getI, o_getJ, o_getR, o_putI, o_putZ, o_putJ, o_putR, o_iald, o_iast, o_lald, o_last, o_aald, o_alen, o_tald, o_getsA, o_call, o_callV, s_rc, o_math1, o_math2, o_copyl, o_vret, o_iret, o_zret, o_lret, o_aret, s_get, s_put1, s_put2, s_unl, s_head, s_pop, s_sm, s_ret, Option.toList, List.cons_append, List.nil_append, List.length_cons, List.length_nil, Value.category, s_uI_t, s_uJ_t, s_uR_0, s_uR_1, sh_n, Nat.reduceLT, Nat.reduceAdd, Nat.reduceEqDiff, true_and, and_true, eq_self, true_or, or_true, not_false_eq_true, not_true_eq_false, n6, n9, n2, n4, n5, n10, n64, n1000, B_X2_bestStand_58, Nat.zero_le, Nat.not_lt_zero, nE, nLt, nLe, nE1, nE1', nLt1, nLe1, n1Lt, n1Le, m1_ne, m1_ne', m1_lt, nI_add, nI_1, nSub, nSub1, pk_mul, nDv, nRm, n_md, nVp, nVp0, nVp1, nCl, nIL, lN_i, bi_n0, bi_o, o01, o11, n1_0, n0_1, nm_0, false_or, or_false, false_and, and_false, Decidable.not_not, false_implies, true_implies, ne_eq, reduceCtorEq, ite_true, ite_false, n_0, n_2, n_3, n_4, n_5, n_6, n_7, n_8, n_9, n_10, n_11, n_16, n_20, n_30, n_32, n_36, n_40, n_48, n_57, n_59, n_60, n_64, n_97, n_98, n_99, n_100, n_101, n_108, n_112, n_114, n_115, n_119, n_130, n_160, n_1000, n_9999, n_1280, n_100000000, n_268435456, n_35, n_17, n_51, n_50, n_70, n_71, n_12]
          refine w_X2_bestStand_66 ?_
          simp (disch := omega) only [o_const, o_iload, o_lload, o_aload, o_istore, o_astore, o_lstore, o_iinc, o_i1, o_i2, o_div, o_l2, o_lsh, o_il, o_li, o_lcmp, o_pop, o_dup, o_dup2, o_dupx1, o_if, o_ic, o_sw, s_sw, o_getI, o_getJ, o_getR, o_putI, o_putZ, o_putJ, o_putR, o_iald, o_iast, o_lald, o_last, o_aald, o_alen, o_tald, o_getsA, o_call, o_callV, s_rc, o_math1, o_math2, o_copyl, o_vret, o_iret, o_zret, o_lret, o_aret, s_get, s_put1, s_put2, s_unl, s_head, s_pop, s_sm, s_ret, Option.toList, List.cons_append, List.nil_append, List.length_cons, List.length_nil, Value.category, s_uI_t, s_uJ_t, s_uR_0, s_uR_1, sh_n, Nat.reduceLT, Nat.reduceAdd, Nat.reduceEqDiff, true_and, and_true, eq_self, true_or, or_true, not_false_eq_true, not_true_eq_false, n6, n9, n2, n4, n5, n10, n64, n1000, B_X2_bestStand_66, Nat.zero_le, Nat.not_lt_zero, nE, nLt, nLe, nE1, nE1', nLt1, nLe1, n1Lt, n1Le, m1_ne, m1_ne', m1_lt, nI_add, nI_1, nSub, nSub1, pk_mul, nDv, nRm, n_md, nVp, nVp0, nVp1, nCl, nIL, lN_i, bi_n0, bi_o, o01, o11, n1_0, n0_1, nm_0, false_or, or_false, false_and, and_false, Decidable.not_not, false_implies, true_implies, ne_eq, reduceCtorEq, ite_true, ite_false, n_0, n_2, n_3, n_4, n_5, n_6, n_7, n_8, n_9, n_10, n_11, n_16, n_20, n_30, n_32, n_36, n_40, n_48, n_57, n_59, n_60, n_64, n_97, n_98, n_99, n_100, n_101, n_108, n_112, n_114, n_115, n_119, n_130, n_160, n_1000, n_9999, n_1280, n_100000000, n_268435456, n_35, n_17, n_51, n_50, n_70, n_71, n_12]
          have := ih (k + 1) (dut σ x k) (some (.int (nI (dut σ x k)))) k I2 J2 (by omega) ha2 h2 (fun b hb => by rw [h3] at hb; cases hb; rfl)
          rw [h3] at this
          exact this
        cases hd : std σ x k with
        | none =>
          rw [hd] at e
          simp (disch := omega) only [o_const, o_iload, o_lload, o_aload, o_istore, o_astore, o_lstore, o_iinc, o_i1, o_i2, o_div, o_l2, o_lsh, o_il, o_li, o_lcmp, o_pop, o_dup, o_dup2, o_dupx1, o_if, o_ic, o_sw, s_sw, o_getI, o_getJ, o_getR, o_putI, o_putZ, o_putJ, o_putR, o_iald, o_iast, o_lald, o_last, o_aald, o_alen, o_tald, o_getsA, o_call, o_callV, s_rc, o_math1, o_math2, o_copyl, o_vret, o_iret, o_zret, o_lret, o_aret, s_get, s_put1, s_put2, s_unl, s_head, s_pop, s_sm, s_ret, Option.toList, List.cons_append, List.nil_append, List.length_cons, List.length_nil, Value.category, s_uI_t, s_uJ_t, s_uR_0, s_uR_1, sh_n, Nat.reduceLT, Nat.reduceAdd, Nat.reduceEqDiff, true_and, and_true, eq_self, true_or, or_true, not_false_eq_true, not_true_eq_false, n6, n9, n2, n4, n5, n10, n64, n1000, sh_c0, sh_c1, sh_c2, sh_c3, sh_c4, sh_c5, sh_c6, sh_c7, sh_c8, sh_c9, sh_c10, sh_c11, sh_c12, sh_c13, sh_c14, sh_c15, sh_c16, sh_c17, sh_c18, sh_c19, sh_c20, sh_c21, sh_c22, sh_c23, sh_c24, sh_c25, sh_c26, sh_c27, sh_c28, sh_c29, sh_c30, sh_c31, sh_c32, sh_c33, sh_c34, sh_c35, sh_c36, sh_c37, sh_c38, sh_c39, sh_c40, sh_c41, sh_c42, sh_c43, sh_c44, sh_c45, sh_c46, sh_c47, sh_c48, sh_c49, sh_c50, sh_c51, sh_c52, sh_c53, sh_c54, sh_c55, sh_c56, sh_c57, sh_c58, sh_c59, sh_c60, sh_c61, sh_c62, sh_c63, sh_c64, sh_c65, sh_c66, sh_c67, sh_c68, sh_c69, sh_c70, sh_c71, sh_c72, sh_c73, sh_c74, sh_c75, sh_c76, sh_c77, sh_c78, sh_c79, sh_l2, sh_l11, sh_l20, sh_l29, sh_l30, sh_l31, sh_l32, sh_l33, sh_l36, sh_l45, sh_l46, sh_l47, sh_l48, sh_l49, sh_l50, sh_l51, sh_l54, sh_l55, sh_l56, sh_l57, sh_l58, sh_l61, sh_l62, sh_l63, sh_l65, sh_l67, sh_l69, sh_l71, sh_l73, sh_l75, sh_l77, sh_l79, rs_0_0, rs_0_1, rs_0_2, rs_0_4, rs_0_5, rs_0_6, rs_0_7, rs_0_8, rs_0_9, rs_0_10, rs_1_0, rs_2_0, rs_2_1, rs_2_2, rs_2_3, rs_2_4, rs_2_5, rs_2_6, rs_10_0, rs_11_0, rs_11_1, rs_11_2, rs_11_3, rs_11_4, rs_11_5, rs_11_6, rs_19_0, rs_20_0, rs_20_1, rs_20_2, rs_20_3, rs_20_4, rs_20_5, rs_20_6, rs_28_0, rs_28_1, rs_28_2, rs_28_3, rs_28_4, rs_34_0, rs_34_1, rs_34_2, rs_34_3, rs_35_0, rs_36_0, rs_36_1, rs_36_2, rs_36_3, rs_36_4, rs_36_5, rs_36_6, rs_44_0, rs_44_1, rs_44_2, rs_44_3, rs_44_4, rs_52_0, rs_53_0, rs_53_1, rs_53_2, rs_53_3, rs_53_4, rs_60_0, rs_62_0, rs_62_1, rs_62_2, rs_62_3, rs_62_4, rs_62_5, rs_62_6, rs_62_7, rs_64_3, rs_66_3, rs_68_3, rs_70_3, rs_72_3, rs_74_3, rs_76_3, rs_78_3, rs_59_0, rs_59_1, Nat.zero_le, Nat.not_lt_zero, nE, nLt, nLe, nE1, nE1', nLt1, nLe1, n1Lt, n1Le, m1_ne, m1_ne', m1_lt, nI_add, nI_1, nSub, nSub1, pk_mul, nDv, nRm, n_md, nVp, nVp0, nVp1, nCl, nIL, lN_i, bi_n0, bi_o, o01, o11, n1_0, n0_1, nm_0, false_or, or_false, false_and, and_false, Decidable.not_not, false_implies, true_implies, ne_eq, reduceCtorEq, ite_true, ite_false, n_0, n_2, n_3, n_4, n_5, n_6, n_7, n_8, n_9, n_10, n_11, n_16, n_20, n_30, n_32, n_36, n_40, n_48, n_57, n_59, n_60, n_64, n_97, n_98, n_99, n_100, n_101, n_108, n_112, n_114, n_115, n_119, n_130, n_160, n_1000, n_9999, n_1280, n_100000000, n_268435456, n_35, n_17, n_51, n_50, n_70, n_71, n_12, ob]
          exact new _ _ e
        | some o =>
          have ho := pck_i hd
          obtain rfl := hM o hd
          have hdo := dut_le hW (x := x) (show o < 36 by omega) (by simpa [opn] using ho.2)
          rw [hd] at e
          simp (disch := omega) only [o_const, o_iload, o_lload, o_aload, o_istore, o_astore, o_lstore, o_iinc, o_i1, o_i2, o_div, o_l2, o_lsh, o_il, o_li, o_lcmp, o_pop, o_dup, o_dup2, o_dupx1, o_if, o_ic, o_sw, s_sw, o_getI, o_getJ, o_getR, o_putI, o_putZ, o_putJ, o_putR, o_iald, o_iast, o_lald, o_last, o_aald, o_alen, o_tald, o_getsA, o_call, o_callV, s_rc, o_math1, o_math2, o_copyl, o_vret, o_iret, o_zret, o_lret, o_aret, s_get, s_put1, s_put2, s_unl, s_head, s_pop, s_sm, s_ret, Option.toList, List.cons_append, List.nil_append, List.length_cons, List.length_nil, Value.category, s_uI_t, s_uJ_t, s_uR_0, s_uR_1, sh_n, Nat.reduceLT, Nat.reduceAdd, Nat.reduceEqDiff, true_and, and_true, eq_self, true_or, or_true, not_false_eq_true, not_true_eq_false, n6, n9, n2, n4, n5, n10, n64, n1000, sh_c0, sh_c1, sh_c2, sh_c3, sh_c4, sh_c5, sh_c6, sh_c7, sh_c8, sh_c9, sh_c10, sh_c11, sh_c12, sh_c13, sh_c14, sh_c15, sh_c16, sh_c17, sh_c18, sh_c19, sh_c20, sh_c21, sh_c22, sh_c23, sh_c24, sh_c25, sh_c26, sh_c27, sh_c28, sh_c29, sh_c30, sh_c31, sh_c32, sh_c33, sh_c34, sh_c35, sh_c36, sh_c37, sh_c38, sh_c39, sh_c40, sh_c41, sh_c42, sh_c43, sh_c44, sh_c45, sh_c46, sh_c47, sh_c48, sh_c49, sh_c50, sh_c51, sh_c52, sh_c53, sh_c54, sh_c55, sh_c56, sh_c57, sh_c58, sh_c59, sh_c60, sh_c61, sh_c62, sh_c63, sh_c64, sh_c65, sh_c66, sh_c67, sh_c68, sh_c69, sh_c70, sh_c71, sh_c72, sh_c73, sh_c74, sh_c75, sh_c76, sh_c77, sh_c78, sh_c79, sh_l2, sh_l11, sh_l20, sh_l29, sh_l30, sh_l31, sh_l32, sh_l33, sh_l36, sh_l45, sh_l46, sh_l47, sh_l48, sh_l49, sh_l50, sh_l51, sh_l54, sh_l55, sh_l56, sh_l57, sh_l58, sh_l61, sh_l62, sh_l63, sh_l65, sh_l67, sh_l69, sh_l71, sh_l73, sh_l75, sh_l77, sh_l79, rs_0_0, rs_0_1, rs_0_2, rs_0_4, rs_0_5, rs_0_6, rs_0_7, rs_0_8, rs_0_9, rs_0_10, rs_1_0, rs_2_0, rs_2_1, rs_2_2, rs_2_3, rs_2_4, rs_2_5, rs_2_6, rs_10_0, rs_11_0, rs_11_1, rs_11_2, rs_11_3, rs_11_4, rs_11_5, rs_11_6, rs_19_0, rs_20_0, rs_20_1, rs_20_2, rs_20_3, rs_20_4, rs_20_5, rs_20_6, rs_28_0, rs_28_1, rs_28_2, rs_28_3, rs_28_4, rs_34_0, rs_34_1, rs_34_2, rs_34_3, rs_35_0, rs_36_0, rs_36_1, rs_36_2, rs_36_3, rs_36_4, rs_36_5, rs_36_6, rs_44_0, rs_44_1, rs_44_2, rs_44_3, rs_44_4, rs_52_0, rs_53_0, rs_53_1, rs_53_2, rs_53_3, rs_53_4, rs_60_0, rs_62_0, rs_62_1, rs_62_2, rs_62_3, rs_62_4, rs_62_5, rs_62_6, rs_62_7, rs_64_3, rs_66_3, rs_68_3, rs_70_3, rs_72_3, rs_74_3, rs_76_3, rs_78_3, rs_59_0, rs_59_1, Nat.zero_le, Nat.not_lt_zero, nE, nLt, nLe, nE1, nE1', nLt1, nLe1, n1Lt, n1Le, m1_ne, m1_ne', m1_lt, nI_add, nI_1, nSub, nSub1, pk_mul, nDv, nRm, n_md, nVp, nVp0, nVp1, nCl, nIL, lN_i, bi_n0, bi_o, o01, o11, n1_0, n0_1, nm_0, false_or, or_false, false_and, and_false, Decidable.not_not, false_implies, true_implies, ne_eq, reduceCtorEq, ite_true, ite_false, n_0, n_2, n_3, n_4, n_5, n_6, n_7, n_8, n_9, n_10, n_11, n_16, n_20, n_30, n_32, n_36, n_40, n_48, n_57, n_59, n_60, n_64, n_97, n_98, n_99, n_100, n_101, n_108, n_112, n_114, n_115, n_119, n_130, n_160, n_1000, n_9999, n_1280, n_100000000, n_268435456, n_35, n_17, n_51, n_50, n_70, n_71, n_12, ob]
          refine ⟨fun z => ?_, fun z => new _ _ (by rw [e]; exact if_pos (by omega))⟩
          refine w_X2_bestStand_66 ?_
          simp (disch := omega) only [o_const, o_iload, o_lload, o_aload, o_istore, o_astore, o_lstore, o_iinc, o_i1, o_i2, o_div, o_l2, o_lsh, o_il, o_li, o_lcmp, o_pop, o_dup, o_dup2, o_dupx1, o_if, o_ic, o_sw, s_sw, o_getI, o_getJ, o_getR, o_putI, o_putZ, o_putJ, o_putR, o_iald, o_iast, o_lald, o_last, o_aald, o_alen, o_tald, o_getsA, o_call, o_callV, s_rc, o_math1, o_math2, o_copyl, o_vret, o_iret, o_zret, o_lret, o_aret, s_get, s_put1, s_put2, s_unl, s_head, s_pop, s_sm, s_ret, Option.toList, List.cons_append, List.nil_append, List.length_cons, List.length_nil, Value.category, s_uI_t, s_uJ_t, s_uR_0, s_uR_1, sh_n, Nat.reduceLT, Nat.reduceAdd, Nat.reduceEqDiff, true_and, and_true, eq_self, true_or, or_true, not_false_eq_true, not_true_eq_false, n6, n9, n2, n4, n5, n10, n64, n1000, B_X2_bestStand_66, Nat.zero_le, Nat.not_lt_zero, nE, nLt, nLe, nE1, nE1', nLt1, nLe1, n1Lt, n1Le, m1_ne, m1_ne', m1_lt, nI_add, nI_1, nSub, nSub1, pk_mul, nDv, nRm, n_md, nVp, nVp0, nVp1, nCl, nIL, lN_i, bi_n0, bi_o, o01, o11, n1_0, n0_1, nm_0, false_or, or_false, false_and, and_false, Decidable.not_not, false_implies, true_implies, ne_eq, reduceCtorEq, ite_true, ite_false, n_0, n_2, n_3, n_4, n_5, n_6, n_7, n_8, n_9, n_10, n_11, n_16, n_20, n_30, n_32, n_36, n_40, n_48, n_57, n_59, n_60, n_64, n_97, n_98, n_99, n_100, n_101, n_108, n_112, n_114, n_115, n_119, n_130, n_160, n_1000, n_9999, n_1280, n_100000000, n_268435456, n_35, n_17, n_51, n_50, n_70, n_71, n_12]
          have h3 : std σ x (k + 1) = some o := by rw [e]; exact if_neg (by omega)
          have := ih (k + 1) (dut σ x o) (some (.int (nI (dut σ x k)))) k I2 J2 (by omega) ha2 h2 (fun b hb => by rw [h3] at hb; cases hb; rfl)
          rw [h3] at this
          exact this
  refine w_X2_bestStand_0 ?_
  simp (disch := omega) only [o_const, o_iload, o_lload, o_aload, o_istore, o_astore, o_lstore, o_iinc, o_i1, o_i2, o_div, o_l2, o_lsh, o_il, o_li, o_lcmp, o_pop, o_dup, o_dup2, o_dupx1, o_if, o_ic, o_sw, s_sw, o_getI, o_getJ, o_getR, o_putI, o_putZ, o_putJ, o_putR, o_iald, o_iast, o_lald, o_last, o_aald, o_alen, o_tald, o_getsA, o_call, o_callV, s_rc, o_math1, o_math2, o_copyl, o_vret, o_iret, o_zret, o_lret, o_aret, s_get, s_put1, s_put2, s_unl, s_head, s_pop, s_sm, s_ret, Option.toList, List.cons_append, List.nil_append, List.length_cons, List.length_nil, Value.category, s_uI_t, s_uJ_t, s_uR_0, s_uR_1, sh_n, Nat.reduceLT, Nat.reduceAdd, Nat.reduceEqDiff, true_and, and_true, eq_self, true_or, or_true, not_false_eq_true, not_true_eq_false, n6, n9, n2, n4, n5, n10, n64, n1000, B_X2_bestStand_0, sh_c0, sh_c1, sh_c2, sh_c3, sh_c4, sh_c5, sh_c6, sh_c7, sh_c8, sh_c9, sh_c10, sh_c11, sh_c12, sh_c13, sh_c14, sh_c15, sh_c16, sh_c17, sh_c18, sh_c19, sh_c20, sh_c21, sh_c22, sh_c23, sh_c24, sh_c25, sh_c26, sh_c27, sh_c28, sh_c29, sh_c30, sh_c31, sh_c32, sh_c33, sh_c34, sh_c35, sh_c36, sh_c37, sh_c38, sh_c39, sh_c40, sh_c41, sh_c42, sh_c43, sh_c44, sh_c45, sh_c46, sh_c47, sh_c48, sh_c49, sh_c50, sh_c51, sh_c52, sh_c53, sh_c54, sh_c55, sh_c56, sh_c57, sh_c58, sh_c59, sh_c60, sh_c61, sh_c62, sh_c63, sh_c64, sh_c65, sh_c66, sh_c67, sh_c68, sh_c69, sh_c70, sh_c71, sh_c72, sh_c73, sh_c74, sh_c75, sh_c76, sh_c77, sh_c78, sh_c79, sh_l2, sh_l11, sh_l20, sh_l29, sh_l30, sh_l31, sh_l32, sh_l33, sh_l36, sh_l45, sh_l46, sh_l47, sh_l48, sh_l49, sh_l50, sh_l51, sh_l54, sh_l55, sh_l56, sh_l57, sh_l58, sh_l61, sh_l62, sh_l63, sh_l65, sh_l67, sh_l69, sh_l71, sh_l73, sh_l75, sh_l77, sh_l79, rs_0_0, rs_0_1, rs_0_2, rs_0_4, rs_0_5, rs_0_6, rs_0_7, rs_0_8, rs_0_9, rs_0_10, rs_1_0, rs_2_0, rs_2_1, rs_2_2, rs_2_3, rs_2_4, rs_2_5, rs_2_6, rs_10_0, rs_11_0, rs_11_1, rs_11_2, rs_11_3, rs_11_4, rs_11_5, rs_11_6, rs_19_0, rs_20_0, rs_20_1, rs_20_2, rs_20_3, rs_20_4, rs_20_5, rs_20_6, rs_28_0, rs_28_1, rs_28_2, rs_28_3, rs_28_4, rs_34_0, rs_34_1, rs_34_2, rs_34_3, rs_35_0, rs_36_0, rs_36_1, rs_36_2, rs_36_3, rs_36_4, rs_36_5, rs_36_6, rs_44_0, rs_44_1, rs_44_2, rs_44_3, rs_44_4, rs_52_0, rs_53_0, rs_53_1, rs_53_2, rs_53_3, rs_53_4, rs_60_0, rs_62_0, rs_62_1, rs_62_2, rs_62_3, rs_62_4, rs_62_5, rs_62_6, rs_62_7, rs_64_3, rs_66_3, rs_68_3, rs_70_3, rs_72_3, rs_74_3, rs_76_3, rs_78_3, rs_59_0, rs_59_1, Nat.zero_le, Nat.not_lt_zero, nE, nLt, nLe, nE1, nE1', nLt1, nLe1, n1Lt, n1Le, m1_ne, m1_ne', m1_lt, nI_add, nI_1, nSub, nSub1, pk_mul, nDv, nRm, n_md, nVp, nVp0, nVp1, nCl, nIL, lN_i, bi_n0, bi_o, o01, o11, n1_0, n0_1, nm_0, false_or, or_false, false_and, and_false, Decidable.not_not, false_implies, true_implies, ne_eq, reduceCtorEq, ite_true, ite_false, n_0, n_2, n_3, n_4, n_5, n_6, n_7, n_8, n_9, n_10, n_11, n_16, n_20, n_30, n_32, n_36, n_40, n_48, n_57, n_59, n_60, n_64, n_97, n_98, n_99, n_100, n_101, n_108, n_112, n_114, n_115, n_119, n_130, n_160, n_1000, n_9999, n_1280, n_100000000, n_268435456, n_35, n_17, n_51, n_50, n_70, n_71, n_12]
  refine p_copy hT hW (fun I' J' h1 h2 h3 => ?_)
  simp (disch := omega) only [o_const, o_iload, o_lload, o_aload, o_istore, o_astore, o_lstore, o_iinc, o_i1, o_i2, o_div, o_l2, o_lsh, o_il, o_li, o_lcmp, o_pop, o_dup, o_dup2, o_dupx1, o_if, o_ic, o_sw, s_sw, o_getI, o_getJ, o_getR, o_putI, o_putZ, o_putJ, o_putR, o_iald, o_iast, o_lald, o_last, o_aald, o_alen, o_tald, o_getsA, o_call, o_callV, s_rc, o_math1, o_math2, o_copyl, o_vret, o_iret, o_zret, o_lret, o_aret, s_get, s_put1, s_put2, s_unl, s_head, s_pop, s_sm, s_ret, Option.toList, List.cons_append, List.nil_append, List.length_cons, List.length_nil, Value.category, s_uI_t, s_uJ_t, s_uR_0, s_uR_1, sh_n, Nat.reduceLT, Nat.reduceAdd, Nat.reduceEqDiff, true_and, and_true, eq_self, true_or, or_true, not_false_eq_true, not_true_eq_false, n6, n9, n2, n4, n5, n10, n64, n1000, sh_c0, sh_c1, sh_c2, sh_c3, sh_c4, sh_c5, sh_c6, sh_c7, sh_c8, sh_c9, sh_c10, sh_c11, sh_c12, sh_c13, sh_c14, sh_c15, sh_c16, sh_c17, sh_c18, sh_c19, sh_c20, sh_c21, sh_c22, sh_c23, sh_c24, sh_c25, sh_c26, sh_c27, sh_c28, sh_c29, sh_c30, sh_c31, sh_c32, sh_c33, sh_c34, sh_c35, sh_c36, sh_c37, sh_c38, sh_c39, sh_c40, sh_c41, sh_c42, sh_c43, sh_c44, sh_c45, sh_c46, sh_c47, sh_c48, sh_c49, sh_c50, sh_c51, sh_c52, sh_c53, sh_c54, sh_c55, sh_c56, sh_c57, sh_c58, sh_c59, sh_c60, sh_c61, sh_c62, sh_c63, sh_c64, sh_c65, sh_c66, sh_c67, sh_c68, sh_c69, sh_c70, sh_c71, sh_c72, sh_c73, sh_c74, sh_c75, sh_c76, sh_c77, sh_c78, sh_c79, sh_l2, sh_l11, sh_l20, sh_l29, sh_l30, sh_l31, sh_l32, sh_l33, sh_l36, sh_l45, sh_l46, sh_l47, sh_l48, sh_l49, sh_l50, sh_l51, sh_l54, sh_l55, sh_l56, sh_l57, sh_l58, sh_l61, sh_l62, sh_l63, sh_l65, sh_l67, sh_l69, sh_l71, sh_l73, sh_l75, sh_l77, sh_l79, rs_0_0, rs_0_1, rs_0_2, rs_0_4, rs_0_5, rs_0_6, rs_0_7, rs_0_8, rs_0_9, rs_0_10, rs_1_0, rs_2_0, rs_2_1, rs_2_2, rs_2_3, rs_2_4, rs_2_5, rs_2_6, rs_10_0, rs_11_0, rs_11_1, rs_11_2, rs_11_3, rs_11_4, rs_11_5, rs_11_6, rs_19_0, rs_20_0, rs_20_1, rs_20_2, rs_20_3, rs_20_4, rs_20_5, rs_20_6, rs_28_0, rs_28_1, rs_28_2, rs_28_3, rs_28_4, rs_34_0, rs_34_1, rs_34_2, rs_34_3, rs_35_0, rs_36_0, rs_36_1, rs_36_2, rs_36_3, rs_36_4, rs_36_5, rs_36_6, rs_44_0, rs_44_1, rs_44_2, rs_44_3, rs_44_4, rs_52_0, rs_53_0, rs_53_1, rs_53_2, rs_53_3, rs_53_4, rs_60_0, rs_62_0, rs_62_1, rs_62_2, rs_62_3, rs_62_4, rs_62_5, rs_62_6, rs_62_7, rs_64_3, rs_66_3, rs_68_3, rs_70_3, rs_72_3, rs_74_3, rs_76_3, rs_78_3, rs_59_0, rs_59_1, Nat.zero_le, Nat.not_lt_zero, nE, nLt, nLe, nE1, nE1', nLt1, nLe1, n1Lt, n1Le, m1_ne, m1_ne', m1_lt, nI_add, nI_1, nSub, nSub1, pk_mul, nDv, nRm, n_md, nVp, nVp0, nVp1, nCl, nIL, lN_i, bi_n0, bi_o, o01, o11, n1_0, n0_1, nm_0, false_or, or_false, false_and, and_false, Decidable.not_not, false_implies, true_implies, ne_eq, reduceCtorEq, ite_true, ite_false, n_0, n_2, n_3, n_4, n_5, n_6, n_7, n_8, n_9, n_10, n_11, n_16, n_20, n_30, n_32, n_36, n_40, n_48, n_57, n_59, n_60, n_64, n_97, n_98, n_99, n_100, n_101, n_108, n_112, n_114, n_115, n_119, n_130, n_160, n_1000, n_9999, n_1280, n_100000000, n_268435456, n_35, n_17, n_51, n_50, n_70, n_71, n_12]
  refine lo 36 0 0 none (σ.1 5 x) I' J' (by omega) h1 (by rw [uP_id]; exact h3) (fun b hb => by cases hb)
/-- the duties on all squares, in a row -/
def dtW (σ : TS) (x c : Nat) : Nat := if σ.1 7 c = 1 then 100000000 else dut σ x c
theorem c_X9_tellsDuties (hM : MT I σ) (hW : TW σ) (hMi : I 80 36 = -1) {x : Nat} (hx : x < σ.2.1 0) (h : ∀ I', (∀ b j, ¬ b = 104 → I' b j = I b j) → (∀ c, c < 36 → I' 104 c = nI (dtW σ x c)) → Q none SH (I', J, RS p q)) : C_X9_tellsDuties [.ref 80, .int (nI x)] SH (I, J, RS p q) Q := by
  unfold C_X9_tellsDuties
  have hn := hW.1
  have e5 : I 87 x = nI (σ.1 5 x) := hM.2.2.2.2.2.2.2.2 x hx 5 (by decide)
  have lo : ∀ d k v I', k + d = 36 → MT I' (uP σ 5 x v) → (∀ b j, ¬ b = 104 → ¬ (b = 87 ∧ j = x) → I' b j = I b j) → (∀ c, c < k → I' 104 c = nI (dtW σ x c)) → s_wp P_X9_tellsDuties Q 9 [some (.ref 80), some (.int (nI x)), some (.int (nI (σ.1 5 x))), some (.int (nI k))] [] SH (I', J, RS p q) := by
    intro d
    induction d with
    | zero =>
      intro k v I' hk hM' h1 h2
      obtain rfl : k = 36 := by omega
      refine w_X9_tellsDuties_9 ?_
      simp (disch := omega) only [o_const, o_iload, o_lload, o_aload, o_istore, o_astore, o_lstore, o_iinc, o_i1, o_i2, o_div, o_l2, o_lsh, o_il, o_li, o_lcmp, o_pop, o_dup, o_dup2, o_dupx1, o_if, o_ic, o_sw, s_sw, o_getI, o_getJ, o_getR, o_putI, o_putZ, o_putJ, o_putR, o_iald, o_iast, o_lald, o_last, o_aald, o_alen, o_tald, o_getsA, o_call, o_callV, s_rc, o_math1, o_math2, o_copyl, o_vret, o_iret, o_zret, o_lret, o_aret, s_get, s_put1, s_put2, s_unl, s_head, s_pop, s_sm, s_ret, Option.toList, List.cons_append, List.nil_append, List.length_cons, List.length_nil, Value.category, s_uI_t, s_uJ_t, s_uR_0, s_uR_1, sh_n, Nat.reduceLT, Nat.reduceAdd, Nat.reduceEqDiff, true_and, and_true, eq_self, true_or, or_true, not_false_eq_true, not_true_eq_false, n6, n9, n2, n4, n5, n10, n64, n1000, B_X9_tellsDuties_9, sh_c80, sh_c81, sh_c82, sh_c83, sh_c84, sh_c85, sh_c86, sh_c87, sh_c88, sh_c89, sh_c90, sh_c91, sh_c92, sh_c93, sh_c94, sh_c95, sh_c96, sh_c97, sh_c98, sh_c99, sh_c100, sh_c101, sh_c102, sh_c103, sh_c104, sh_c105, sh_c106, sh_c107, sh_l81, sh_l82, sh_l83, sh_l84, sh_l85, sh_l86, sh_l87, sh_l88, sh_l89, sh_l90, sh_l91, sh_l92, sh_l93, sh_l94, sh_l95, sh_l96, sh_l97, sh_l98, sh_l99, sh_l100, sh_l101, sh_l102, sh_l103, sh_l104, sh_l105, sh_l106, sh_l107, rs_80_8, rs_80_9, rs_80_10, rs_80_11, rs_80_12, rs_80_13, rs_80_14, rs_80_15, rs_80_16, rs_80_17, rs_80_18, rs_80_19, rs_80_20, rs_80_21, rs_80_22, rs_80_23, rs_80_24, rs_80_25, rs_80_26, rs_80_27, rs_80_33, rs_80_34, rs_80_35, rs_80_37, rs_80_38, rs_80_39, rs_80_41, Nat.zero_le, Nat.not_lt_zero, nE, nLt, nLe, nE1, nE1', nLt1, nLe1, n1Lt, n1Le, m1_ne, m1_ne', m1_lt, nI_add, nI_1, nSub, nSub1, pk_mul, nDv, nRm, n_md, nVp, nVp0, nVp1, nCl, nIL, lN_i, bi_n0, bi_o, o01, o11, n1_0, n0_1, nm_0, false_or, or_false, false_and, and_false, Decidable.not_not, false_implies, true_implies, ne_eq, reduceCtorEq, ite_true, ite_false, n_0, n_2, n_3, n_4, n_5, n_6, n_7, n_8, n_9, n_10, n_11, n_16, n_20, n_30, n_32, n_36, n_40, n_48, n_57, n_59, n_60, n_64, n_97, n_98, n_99, n_100, n_101, n_108, n_112, n_114, n_115, n_119, n_130, n_160, n_1000, n_9999, n_1280, n_100000000, n_268435456, n_35, n_17, n_51, n_50, n_70, n_71, n_12]
      refine br_t (Nat.le_refl _) (h _ (fun b j hb => ?_) (fun c hc => ?_))
      · by_cases z : b = 87 ∧ j = x
        · obtain ⟨rfl, rfl⟩ := z
          rw [uI_s, e5]
        · rw [show uI I' 87 x (nI (σ.1 5 x)) b j = I' b j from if_neg z, h1 b j hb z]
      · rw [uI_a (by decide), h2 c hc]
    | succ d ih =>
      intro k v I' hk hM' h1 h2
      have hM2 : MT (uI I' 87 x (nI k)) (uP σ 5 x k) := by
        have := mt_P hM' (j := 5) (i := x) k (by decide)
        rw [uP_uP] at this
        exact this
      have hwk := (hW.2.2.1 k (by omega)).1
      have e7 : uI I' 87 x (nI k) 89 k = nI (σ.1 7 k) := by
        have := (hM2.2.2.2.2.2.2.2.1 k (by omega)).1
        rw [this]
        simp [uP]
      have h36 : uI I' 87 x (nI k) 80 36 = -1 := by rw [uI_a (by decide), h1 80 36 (by decide) (by omega), hMi]
      have st : s_wp P_X9_tellsDuties Q 47 [some (.ref 80), some (.int (nI x)), some (.int (nI (σ.1 5 x))), some (.int (nI k))] [.int (nI (dtW σ x k)), .int (nI k), .ref 104] SH (uI I' 87 x (nI k), J, RS p q) := by
        refine w_X9_tellsDuties_47 ?_
        simp (disch := omega) only [o_const, o_iload, o_lload, o_aload, o_istore, o_astore, o_lstore, o_iinc, o_i1, o_i2, o_div, o_l2, o_lsh, o_il, o_li, o_lcmp, o_pop, o_dup, o_dup2, o_dupx1, o_if, o_ic, o_sw, s_sw, o_getI, o_getJ, o_getR, o_putI, o_putZ, o_putJ, o_putR, o_iald, o_iast, o_lald, o_last, o_aald, o_alen, o_tald, o_getsA, o_call, o_callV, s_rc, o_math1, o_math2, o_copyl, o_vret, o_iret, o_zret, o_lret, o_aret, s_get, s_put1, s_put2, s_unl, s_head, s_pop, s_sm, s_ret, Option.toList, List.cons_append, List.nil_append, List.length_cons, List.length_nil, Value.category, s_uI_t, s_uJ_t, s_uR_0, s_uR_1, sh_n, Nat.reduceLT, Nat.reduceAdd, Nat.reduceEqDiff, true_and, and_true, eq_self, true_or, or_true, not_false_eq_true, not_true_eq_false, n6, n9, n2, n4, n5, n10, n64, n1000, B_X9_tellsDuties_47, sh_c80, sh_c81, sh_c82, sh_c83, sh_c84, sh_c85, sh_c86, sh_c87, sh_c88, sh_c89, sh_c90, sh_c91, sh_c92, sh_c93, sh_c94, sh_c95, sh_c96, sh_c97, sh_c98, sh_c99, sh_c100, sh_c101, sh_c102, sh_c103, sh_c104, sh_c105, sh_c106, sh_c107, sh_l81, sh_l82, sh_l83, sh_l84, sh_l85, sh_l86, sh_l87, sh_l88, sh_l89, sh_l90, sh_l91, sh_l92, sh_l93, sh_l94, sh_l95, sh_l96, sh_l97, sh_l98, sh_l99, sh_l100, sh_l101, sh_l102, sh_l103, sh_l104, sh_l105, sh_l106, sh_l107, rs_80_8, rs_80_9, rs_80_10, rs_80_11, rs_80_12, rs_80_13, rs_80_14, rs_80_15, rs_80_16, rs_80_17, rs_80_18, rs_80_19, rs_80_20, rs_80_21, rs_80_22, rs_80_23, rs_80_24, rs_80_25, rs_80_26, rs_80_27, rs_80_33, rs_80_34, rs_80_35, rs_80_37, rs_80_38, rs_80_39, rs_80_41, Nat.zero_le, Nat.not_lt_zero, nE, nLt, nLe, nE1, nE1', nLt1, nLe1, n1Lt, n1Le, m1_ne, m1_ne', m1_lt, nI_add, nI_1, nSub, nSub1, pk_mul, nDv, nRm, n_md, nVp, nVp0, nVp1, nCl, nIL, lN_i, bi_n0, bi_o, o01, o11, n1_0, n0_1, nm_0, false_or, or_false, false_and, and_false, Decidable.not_not, false_implies, true_implies, ne_eq, reduceCtorEq, ite_true, ite_false, n_0, n_2, n_3, n_4, n_5, n_6, n_7, n_8, n_9, n_10, n_11, n_16, n_20, n_30, n_32, n_36, n_40, n_48, n_57, n_59, n_60, n_64, n_97, n_98, n_99, n_100, n_101, n_108, n_112, n_114, n_115, n_119, n_130, n_160, n_1000, n_9999, n_1280, n_100000000, n_268435456, n_35, n_17, n_51, n_50, n_70, n_71, n_12]
        refine ih (k + 1) k _ (by omega) (mt_ag hM2 (fun b j g1 g2 g3 g4 => uI_a (by omega))) (fun b j hb hz => ?_) (fun c hc => ?_)
        · rw [uI_a hb, show uI I' 87 x (nI k) b j = I' b j from if_neg hz, h1 b j hb hz]
        · by_cases e : c = k
          · subst e; rw [uI_s]
          · rw [uI_k e, uI_a (by decide), h2 c (by omega)]
      refine w_X9_tellsDuties_9 ?_
      simp (disch := omega) only [o_const, o_iload, o_lload, o_aload, o_istore, o_astore, o_lstore, o_iinc, o_i1, o_i2, o_div, o_l2, o_lsh, o_il, o_li, o_lcmp, o_pop, o_dup, o_dup2, o_dupx1, o_if, o_ic, o_sw, s_sw, o_getI, o_getJ, o_getR, o_putI, o_putZ, o_putJ, o_putR, o_iald, o_iast, o_lald, o_last, o_aald, o_alen, o_tald, o_getsA, o_call, o_callV, s_rc, o_math1, o_math2, o_copyl, o_vret, o_iret, o_zret, o_lret, o_aret, s_get, s_put1, s_put2, s_unl, s_head, s_pop, s_sm, s_ret, Option.toList, List.cons_append, List.nil_append, List.length_cons, List.length_nil, Value.category, s_uI_t, s_uJ_t, s_uR_0, s_uR_1, sh_n, Nat.reduceLT, Nat.reduceAdd, Nat.reduceEqDiff, true_and, and_true, eq_self, true_or, or_true, not_false_eq_true, not_true_eq_false, n6, n9, n2, n4, n5, n10, n64, n1000, B_X9_tellsDuties_9, sh_c80, sh_c81, sh_c82, sh_c83, sh_c84, sh_c85, sh_c86, sh_c87, sh_c88, sh_c89, sh_c90, sh_c91, sh_c92, sh_c93, sh_c94, sh_c95, sh_c96, sh_c97, sh_c98, sh_c99, sh_c100, sh_c101, sh_c102, sh_c103, sh_c104, sh_c105, sh_c106, sh_c107, sh_l81, sh_l82, sh_l83, sh_l84, sh_l85, sh_l86, sh_l87, sh_l88, sh_l89, sh_l90, sh_l91, sh_l92, sh_l93, sh_l94, sh_l95, sh_l96, sh_l97, sh_l98, sh_l99, sh_l100, sh_l101, sh_l102, sh_l103, sh_l104, sh_l105, sh_l106, sh_l107, rs_80_8, rs_80_9, rs_80_10, rs_80_11, rs_80_12, rs_80_13, rs_80_14, rs_80_15, rs_80_16, rs_80_17, rs_80_18, rs_80_19, rs_80_20, rs_80_21, rs_80_22, rs_80_23, rs_80_24, rs_80_25, rs_80_26, rs_80_27, rs_80_33, rs_80_34, rs_80_35, rs_80_37, rs_80_38, rs_80_39, rs_80_41, Nat.zero_le, Nat.not_lt_zero, nE, nLt, nLe, nE1, nE1', nLt1, nLe1, n1Lt, n1Le, m1_ne, m1_ne', m1_lt, nI_add, nI_1, nSub, nSub1, pk_mul, nDv, nRm, n_md, nVp, nVp0, nVp1, nCl, nIL, lN_i, bi_n0, bi_o, o01, o11, n1_0, n0_1, nm_0, false_or, or_false, false_and, and_false, Decidable.not_not, false_implies, true_implies, ne_eq, reduceCtorEq, ite_true, ite_false, n_0, n_2, n_3, n_4, n_5, n_6, n_7, n_8, n_9, n_10, n_11, n_16, n_20, n_30, n_32, n_36, n_40, n_48, n_57, n_59, n_60, n_64, n_97, n_98, n_99, n_100, n_101, n_108, n_112, n_114, n_115, n_119, n_130, n_160, n_1000, n_9999, n_1280, n_100000000, n_268435456, n_35, n_17, n_51, n_50, n_70, n_71, n_12]
      refine ⟨fun z => absurd z (by omega), fun _ => ?_⟩
      simp (disch := omega) only [o_const, o_iload, o_lload, o_aload, o_istore, o_astore, o_lstore, o_iinc, o_i1, o_i2, o_div, o_l2, o_lsh, o_il, o_li, o_lcmp, o_pop, o_dup, o_dup2, o_dupx1, o_if, o_ic, o_sw, s_sw, o_getI, o_getJ, o_getR, o_putI, o_putZ, o_putJ, o_putR, o_iald, o_iast, o_lald, o_last, o_aald, o_alen, o_tald, o_getsA, o_call, o_callV, s_rc, o_math1, o_math2, o_copyl, o_vret, o_iret, o_zret, o_lret, o_aret, s_get, s_put1, s_put2, s_unl, s_head, s_pop, s_sm, s_ret, Option.toList, List.cons_append, List.nil_append, List.length_cons, List.length_nil, Value.category, s_uI_t, s_uJ_t, s_uR_0, s_uR_1, sh_n, Nat.reduceLT, Nat.reduceAdd, Nat.reduceEqDiff, true_and, and_true, eq_self, true_or, or_true, not_false_eq_true, not_true_eq_false, n6, n9, n2, n4, n5, n10, n64, n1000, sh_c80, sh_c81, sh_c82, sh_c83, sh_c84, sh_c85, sh_c86, sh_c87, sh_c88, sh_c89, sh_c90, sh_c91, sh_c92, sh_c93, sh_c94, sh_c95, sh_c96, sh_c97, sh_c98, sh_c99, sh_c100, sh_c101, sh_c102, sh_c103, sh_c104, sh_c105, sh_c106, sh_c107, sh_l81, sh_l82, sh_l83, sh_l84, sh_l85, sh_l86, sh_l87, sh_l88, sh_l89, sh_l90, sh_l91, sh_l92, sh_l93, sh_l94, sh_l95, sh_l96, sh_l97, sh_l98, sh_l99, sh_l100, sh_l101, sh_l102, sh_l103, sh_l104, sh_l105, sh_l106, sh_l107, rs_80_8, rs_80_9, rs_80_10, rs_80_11, rs_80_12, rs_80_13, rs_80_14, rs_80_15, rs_80_16, rs_80_17, rs_80_18, rs_80_19, rs_80_20, rs_80_21, rs_80_22, rs_80_23, rs_80_24, rs_80_25, rs_80_26, rs_80_27, rs_80_33, rs_80_34, rs_80_35, rs_80_37, rs_80_38, rs_80_39, rs_80_41, Nat.zero_le, Nat.not_lt_zero, nE, nLt, nLe, nE1, nE1', nLt1, nLe1, n1Lt, n1Le, m1_ne, m1_ne', m1_lt, nI_add, nI_1, nSub, nSub1, pk_mul, nDv, nRm, n_md, nVp, nVp0, nVp1, nCl, nIL, lN_i, bi_n0, bi_o, o01, o11, n1_0, n0_1, nm_0, false_or, or_false, false_and, and_false, Decidable.not_not, false_implies, true_implies, ne_eq, reduceCtorEq, ite_true, ite_false, n_0, n_2, n_3, n_4, n_5, n_6, n_7, n_8, n_9, n_10, n_11, n_16, n_20, n_30, n_32, n_36, n_40, n_48, n_57, n_59, n_60, n_64, n_97, n_98, n_99, n_100, n_101, n_108, n_112, n_114, n_115, n_119, n_130, n_160, n_1000, n_9999, n_1280, n_100000000, n_268435456, n_35, n_17, n_51, n_50, n_70, n_71, n_12, e7]
      refine ⟨fun z => ?_, fun z => ?_⟩
      · have hd : dtW σ x k = dut σ x k := if_neg z
        rw [hd] at st
        refine c_X9_owes (mi := none) hM2 (tw_at hW (by omega) (by omega)) ⟨h36, fun y hy => by cases hy⟩ hx ?_
        simp (disch := omega) only [o_const, o_iload, o_lload, o_aload, o_istore, o_astore, o_lstore, o_iinc, o_i1, o_i2, o_div, o_l2, o_lsh, o_il, o_li, o_lcmp, o_pop, o_dup, o_dup2, o_dupx1, o_if, o_ic, o_sw, s_sw, o_getI, o_getJ, o_getR, o_putI, o_putZ, o_putJ, o_putR, o_iald, o_iast, o_lald, o_last, o_aald, o_alen, o_tald, o_getsA, o_call, o_callV, s_rc, o_math1, o_math2, o_copyl, o_vret, o_iret, o_zret, o_lret, o_aret, s_get, s_put1, s_put2, s_unl, s_head, s_pop, s_sm, s_ret, Option.toList, List.cons_append, List.nil_append, List.length_cons, List.length_nil, Value.category, s_uI_t, s_uJ_t, s_uR_0, s_uR_1, sh_n, Nat.reduceLT, Nat.reduceAdd, Nat.reduceEqDiff, true_and, and_true, eq_self, true_or, or_true, not_false_eq_true, not_true_eq_false, n6, n9, n2, n4, n5, n10, n64, n1000, sh_c80, sh_c81, sh_c82, sh_c83, sh_c84, sh_c85, sh_c86, sh_c87, sh_c88, sh_c89, sh_c90, sh_c91, sh_c92, sh_c93, sh_c94, sh_c95, sh_c96, sh_c97, sh_c98, sh_c99, sh_c100, sh_c101, sh_c102, sh_c103, sh_c104, sh_c105, sh_c106, sh_c107, sh_l81, sh_l82, sh_l83, sh_l84, sh_l85, sh_l86, sh_l87, sh_l88, sh_l89, sh_l90, sh_l91, sh_l92, sh_l93, sh_l94, sh_l95, sh_l96, sh_l97, sh_l98, sh_l99, sh_l100, sh_l101, sh_l102, sh_l103, sh_l104, sh_l105, sh_l106, sh_l107, rs_80_8, rs_80_9, rs_80_10, rs_80_11, rs_80_12, rs_80_13, rs_80_14, rs_80_15, rs_80_16, rs_80_17, rs_80_18, rs_80_19, rs_80_20, rs_80_21, rs_80_22, rs_80_23, rs_80_24, rs_80_25, rs_80_26, rs_80_27, rs_80_33, rs_80_34, rs_80_35, rs_80_37, rs_80_38, rs_80_39, rs_80_41, Nat.zero_le, Nat.not_lt_zero, nE, nLt, nLe, nE1, nE1', nLt1, nLe1, n1Lt, n1Le, m1_ne, m1_ne', m1_lt, nI_add, nI_1, nSub, nSub1, pk_mul, nDv, nRm, n_md, nVp, nVp0, nVp1, nCl, nIL, lN_i, bi_n0, bi_o, o01, o11, n1_0, n0_1, nm_0, false_or, or_false, false_and, and_false, Decidable.not_not, false_implies, true_implies, ne_eq, reduceCtorEq, ite_true, ite_false, n_0, n_2, n_3, n_4, n_5, n_6, n_7, n_8, n_9, n_10, n_11, n_16, n_20, n_30, n_32, n_36, n_40, n_48, n_57, n_59, n_60, n_64, n_97, n_98, n_99, n_100, n_101, n_108, n_112, n_114, n_115, n_119, n_130, n_160, n_1000, n_9999, n_1280, n_100000000, n_268435456, n_35, n_17, n_51, n_50, n_70, n_71, n_12]
        exact st
      · have hd : dtW σ x k = 100000000 := if_pos z
        rw [hd] at st
        exact st
  refine w_X9_tellsDuties_0 ?_
  simp (disch := omega) only [o_const, o_iload, o_lload, o_aload, o_istore, o_astore, o_lstore, o_iinc, o_i1, o_i2, o_div, o_l2, o_lsh, o_il, o_li, o_lcmp, o_pop, o_dup, o_dup2, o_dupx1, o_if, o_ic, o_sw, s_sw, o_getI, o_getJ, o_getR, o_putI, o_putZ, o_putJ, o_putR, o_iald, o_iast, o_lald, o_last, o_aald, o_alen, o_tald, o_getsA, o_call, o_callV, s_rc, o_math1, o_math2, o_copyl, o_vret, o_iret, o_zret, o_lret, o_aret, s_get, s_put1, s_put2, s_unl, s_head, s_pop, s_sm, s_ret, Option.toList, List.cons_append, List.nil_append, List.length_cons, List.length_nil, Value.category, s_uI_t, s_uJ_t, s_uR_0, s_uR_1, sh_n, Nat.reduceLT, Nat.reduceAdd, Nat.reduceEqDiff, true_and, and_true, eq_self, true_or, or_true, not_false_eq_true, not_true_eq_false, n6, n9, n2, n4, n5, n10, n64, n1000, B_X9_tellsDuties_0, sh_c80, sh_c81, sh_c82, sh_c83, sh_c84, sh_c85, sh_c86, sh_c87, sh_c88, sh_c89, sh_c90, sh_c91, sh_c92, sh_c93, sh_c94, sh_c95, sh_c96, sh_c97, sh_c98, sh_c99, sh_c100, sh_c101, sh_c102, sh_c103, sh_c104, sh_c105, sh_c106, sh_c107, sh_l81, sh_l82, sh_l83, sh_l84, sh_l85, sh_l86, sh_l87, sh_l88, sh_l89, sh_l90, sh_l91, sh_l92, sh_l93, sh_l94, sh_l95, sh_l96, sh_l97, sh_l98, sh_l99, sh_l100, sh_l101, sh_l102, sh_l103, sh_l104, sh_l105, sh_l106, sh_l107, rs_80_8, rs_80_9, rs_80_10, rs_80_11, rs_80_12, rs_80_13, rs_80_14, rs_80_15, rs_80_16, rs_80_17, rs_80_18, rs_80_19, rs_80_20, rs_80_21, rs_80_22, rs_80_23, rs_80_24, rs_80_25, rs_80_26, rs_80_27, rs_80_33, rs_80_34, rs_80_35, rs_80_37, rs_80_38, rs_80_39, rs_80_41, Nat.zero_le, Nat.not_lt_zero, nE, nLt, nLe, nE1, nE1', nLt1, nLe1, n1Lt, n1Le, m1_ne, m1_ne', m1_lt, nI_add, nI_1, nSub, nSub1, pk_mul, nDv, nRm, n_md, nVp, nVp0, nVp1, nCl, nIL, lN_i, bi_n0, bi_o, o01, o11, n1_0, n0_1, nm_0, false_or, or_false, false_and, and_false, Decidable.not_not, false_implies, true_implies, ne_eq, reduceCtorEq, ite_true, ite_false, n_0, n_2, n_3, n_4, n_5, n_6, n_7, n_8, n_9, n_10, n_11, n_16, n_20, n_30, n_32, n_36, n_40, n_48, n_57, n_59, n_60, n_64, n_97, n_98, n_99, n_100, n_101, n_108, n_112, n_114, n_115, n_119, n_130, n_160, n_1000, n_9999, n_1280, n_100000000, n_268435456, n_35, n_17, n_51, n_50, n_70, n_71, n_12, e5]
  exact lo 36 0 (σ.1 5 x) I (by omega) (by rw [uP_id]; exact hM) (fun _ _ _ _ => rfl) (fun c hc => by omega)
end
