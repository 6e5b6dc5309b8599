/-! in view: along the streets -/
def ry (σ : TS) (c w : Nat) : Nat → Option Nat
  | 0 => bd c w
  | k + 1 => match ry σ c w k with
    | none => none
    | some d => if σ.1 7 d = 1 then none else bd d w
theorem ry_s {σ : TS} {c w k d : Nat} : ry σ c w (k + 1) = some d ↔ ∃ e, ry σ c w k = some e ∧ ¬ σ.1 7 e = 1 ∧ bd e w = some d := by
  rw [ry]
  cases hk : ry σ c w k with
  | none => simp
  | some e =>
    by_cases g : σ.1 7 e = 1
    · simp [g]
    · simp [g]
theorem ry_none {σ : TS} {c w k : Nat} (h : ry σ c w k = none) : ∀ j, k ≤ j → ry σ c w j = none
  | 0, hj => by
    obtain rfl : k = 0 := by omega
    exact h
  | j + 1, hj => by
    rcases Nat.lt_or_ge j k with g | g
    · obtain rfl : k = j + 1 := by omega
      exact h
    · rw [ry, ry_none h j g]
theorem bd0 {c d : Nat} : bd c 0 = some d ↔ 6 ≤ c ∧ d = c - 6 := by
  unfold bd; simp; omega
theorem bd1 {c d : Nat} : bd c 1 = some d ↔ c % 6 < 5 ∧ d = c + 1 := by
  unfold bd; simp; omega
theorem bd2 {c d : Nat} : bd c 2 = some d ↔ c < 30 ∧ d = c + 6 := by
  unfold bd; simp; omega
theorem bd3 {c d : Nat} : bd c 3 = some d ↔ 0 < c % 6 ∧ d = c - 1 := by
  unfold bd; simp; omega
theorem bd_lt {c w d : Nat} (hc : c < 36) (h : bd c w = some d) : d < 36 := by
  rcases (show w = 0 ∨ w = 1 ∨ w = 2 ∨ w = 3 ∨ 3 < w by omega) with rfl | rfl | rfl | rfl | g
  · rw [bd0] at h; omega
  · rw [bd1] at h; omega
  · rw [bd2] at h; omega
  · rw [bd3] at h; omega
  · unfold bd at h; simp [show ¬ w = 0 by omega, show ¬ w = 1 by omega, show ¬ w = 2 by omega, show ¬ w = 3 by omega] at h
theorem ry_lt {σ : TS} {c w d : Nat} (hc : c < 36) : ∀ {k}, ry σ c w k = some d → d < 36 := by
  intro k
  induction k generalizing d with
  | zero => exact fun h => bd_lt hc h
  | succ k ih =>
    intro h
    obtain ⟨e, h1, h2, h3⟩ := ry_s.mp h
    exact bd_lt (ih h1) h3
theorem ry0 (σ : TS) {c : Nat} (hc : c < 36) : ∀ {j d}, ry σ c 0 j = some d ↔ (6 * (j + 1) ≤ c ∧ d = c - 6 * (j + 1)) ∧ ∀ i, i < j → ¬ σ.1 7 (c - 6 * (i + 1)) = 1 := by
  intro j
  induction j with
  | zero => intro d; rw [ry, bd0]; simp
  | succ j ih =>
    intro d
    rw [ry_s]
    constructor
    · rintro ⟨e, h1, h2, h3⟩
      obtain ⟨⟨g1, rfl⟩, g2⟩ := ih.mp h1
      rw [bd0] at h3
      refine ⟨by omega, fun i hi => ?_⟩
      rcases Nat.lt_or_ge i j with z | z
      · exact g2 i z
      · obtain rfl : i = j := by omega
        exact h2
    · rintro ⟨h1, h2⟩
      exact ⟨_, ih.mpr ⟨⟨by omega, rfl⟩, fun i hi => h2 i (by omega)⟩, h2 j (by omega), bd0.mpr (by omega)⟩
theorem ry1 (σ : TS) {c : Nat} (hc : c < 36) : ∀ {j d}, ry σ c 1 j = some d ↔ (c % 6 + (j + 1) ≤ 5 ∧ d = c + (j + 1)) ∧ ∀ i, i < j → ¬ σ.1 7 (c + (i + 1)) = 1 := by
  intro j
  induction j with
  | zero => intro d; rw [ry, bd1]; simp; omega
  | succ j ih =>
    intro d
    rw [ry_s]
    constructor
    · rintro ⟨e, h1, h2, h3⟩
      obtain ⟨⟨g1, rfl⟩, g2⟩ := ih.mp h1
      rw [bd1] at h3
      refine ⟨by omega, fun i hi => ?_⟩
      rcases Nat.lt_or_ge i j with z | z
      · exact g2 i z
      · obtain rfl : i = j := by omega
        exact h2
    · rintro ⟨h1, h2⟩
      exact ⟨_, ih.mpr ⟨⟨by omega, rfl⟩, fun i hi => h2 i (by omega)⟩, h2 j (by omega), bd1.mpr (by omega)⟩
theorem ry2 (σ : TS) {c : Nat} (hc : c < 36) : ∀ {j d}, ry σ c 2 j = some d ↔ (c + 6 * (j + 1) < 36 ∧ d = c + 6 * (j + 1)) ∧ ∀ i, i < j → ¬ σ.1 7 (c + 6 * (i + 1)) = 1 := by
  intro j
  induction j with
  | zero => intro d; rw [ry, bd2]; simp; omega
  | succ j ih =>
    intro d
    rw [ry_s]
    constructor
    · rintro ⟨e, h1, h2, h3⟩
      obtain ⟨⟨g1, rfl⟩, g2⟩ := ih.mp h1
      rw [bd2] at h3
      refine ⟨by omega, fun i hi => ?_⟩
      rcases Nat.lt_or_ge i j with z | z
      · exact g2 i z
      · obtain rfl : i = j := by omega
        exact h2
    · rintro ⟨h1, h2⟩
      exact ⟨_, ih.mpr ⟨⟨by omega, rfl⟩, fun i hi => h2 i (by omega)⟩, h2 j (by omega), bd2.mpr (by omega)⟩
theorem ry3 (σ : TS) {c : Nat} (hc : c < 36) : ∀ {j d}, ry σ c 3 j = some d ↔ (j + 1 ≤ c % 6 ∧ d = c - (j + 1)) ∧ ∀ i, i < j → ¬ σ.1 7 (c - (i + 1)) = 1 := by
  intro j
  induction j with
  | zero => intro d; rw [ry, bd3]; simp; omega
  | succ j ih =>
    intro d
    rw [ry_s]
    constructor
    · rintro ⟨e, h1, h2, h3⟩
      obtain ⟨⟨g1, rfl⟩, g2⟩ := ih.mp h1
      rw [bd3] at h3
      refine ⟨by omega, fun i hi => ?_⟩
      rcases Nat.lt_or_ge i j with z | z
      · exact g2 i z
      · obtain rfl : i = j := by omega
        exact h2
    · rintro ⟨h1, h2⟩
      exact ⟨_, ih.mpr ⟨⟨by omega, rfl⟩, fun i hi => h2 i (by omega)⟩, h2 j (by omega), bd3.mpr (by omega)⟩
theorem sees_ry {σ : TS} (hW : TW σ) {c b : Nat} (hc : c < 36) (hb : b < 36) : sees σ c b = true ↔ b = c ∨ ∃ w, w < 4 ∧ ∃ j, j < σ.2.1 2 ∧ ry σ c w j = some b := by
  have hw : ∀ k, k < 36 → σ.1 7 k ≤ 1 := fun k hk => (hW.2.2.1 k hk).1
  rw [sees_iff]
  constructor
  · rintro (rfl | ⟨h1, h2, h3⟩)
    · exact Or.inl rfl
    · by_cases e : b = c
      · exact Or.inl e
      refine Or.inr ?_
      have hd : ds c b = (if c / 6 < b / 6 then b / 6 - c / 6 else c / 6 - b / 6) + (if c % 6 < b % 6 then b % 6 - c % 6 else c % 6 - b % 6) := rfl
      by_cases r : c / 6 = b / 6
      · have hs : sp c b = 1 := if_pos r
        rw [hs] at h3
        rw [if_neg (by omega)] at hd
        rcases Nat.lt_or_ge b c with g | g
        · rw [if_neg (by omega)] at hd
          refine ⟨3, by omega, c - b - 1, by omega, (ry3 σ hc).mpr ⟨by omega, fun i hi => ?_⟩⟩
          have := h3 (c - (i + 1)) (by omega) (by omega) (by omega) (by omega)
          omega
        · rw [if_pos (by omega)] at hd
          refine ⟨1, by omega, b - c - 1, by omega, (ry1 σ hc).mpr ⟨by omega, fun i hi => ?_⟩⟩
          have := h3 (c + (i + 1)) (by omega) (by omega) (by omega) (by omega)
          omega
      · have hs : sp c b = 6 := if_neg r
        rw [hs] at h3
        have hcol : c % 6 = b % 6 := h1.resolve_left r
        rw [if_neg (show ¬ c % 6 < b % 6 by omega)] at hd
        rcases Nat.lt_or_ge b c with g | g
        · rw [if_neg (by omega)] at hd
          refine ⟨0, by omega, c / 6 - b / 6 - 1, by omega, (ry0 σ hc).mpr ⟨by omega, fun i hi => ?_⟩⟩
          have := h3 (c - 6 * (i + 1)) (by omega) (by omega) (by omega) (by omega)
          omega
        · rw [if_pos (by omega)] at hd
          refine ⟨2, by omega, b / 6 - c / 6 - 1, by omega, (ry2 σ hc).mpr ⟨by omega, fun i hi => ?_⟩⟩
          have := h3 (c + 6 * (i + 1)) (by omega) (by omega) (by omega) (by omega)
          omega
  · rintro (rfl | ⟨w, hw4, j, hj, h⟩)
    · exact Or.inl rfl
    · refine Or.inr ?_
      have hd : ds c b = (if c / 6 < b / 6 then b / 6 - c / 6 else c / 6 - b / 6) + (if c % 6 < b % 6 then b % 6 - c % 6 else c % 6 - b % 6) := rfl
      rcases (show w = 0 ∨ w = 1 ∨ w = 2 ∨ w = 3 by omega) with rfl | rfl | rfl | rfl
      · obtain ⟨⟨h1, h2⟩, h3⟩ := (ry0 σ hc).mp h
        refine ⟨Or.inr (by omega), ?_, fun k hk g1 g2 g3 => ?_⟩
        · rw [hd]; split <;> split <;> omega
        · have hs : sp c b = 6 := if_neg (by omega)
          rw [hs] at g3
          have := h3 ((c - k) / 6 - 1) (by omega)
          rw [show c - 6 * ((c - k) / 6 - 1 + 1) = k by omega] at this
          have := hw k hk
          omega
      · obtain ⟨⟨h1, h2⟩, h3⟩ := (ry1 σ hc).mp h
        refine ⟨Or.inl (by omega), ?_, fun k hk g1 g2 g3 => ?_⟩
        · rw [hd]; split <;> split <;> omega
        · have := h3 (k - c - 1) (by omega)
          rw [show c + (k - c - 1 + 1) = k by omega] at this
          have := hw k hk
          omega
      · obtain ⟨⟨h1, h2⟩, h3⟩ := (ry2 σ hc).mp h
        refine ⟨Or.inr (by omega), ?_, fun k hk g1 g2 g3 => ?_⟩
        · rw [hd]; split <;> split <;> omega
        · have hs : sp c b = 6 := if_neg (by omega)
          rw [hs] at g3
          have := h3 ((k - c) / 6 - 1) (by omega)
          rw [show c + 6 * ((k - c) / 6 - 1 + 1) = k by omega] at this
          have := hw k hk
          omega
      · obtain ⟨⟨h1, h2⟩, h3⟩ := (ry3 σ hc).mp h
        refine ⟨Or.inl (by omega), ?_, fun k hk g1 g2 g3 => ?_⟩
        · rw [hd]; split <;> split <;> omega
        · have := h3 (c - k - 1) (by omega)
          rw [show c - (c - k - 1 + 1) = k by omega] at this
          have := hw k hk
          omega
theorem sp_sym (a b : Nat) : sp a b = sp b a := by unfold sp; simp only [eq_comm]
theorem ds_sym (a b : Nat) : ds a b = ds b a := by
  unfold ds
  congr 1
  · split <;> split <;> omega
  · split <;> split <;> omega
theorem sees_sym (σ : TS) (a b : Nat) : sees σ a b = sees σ b a := by
  rw [Bool.eq_iff_iff, sees_iff, sees_iff, ds_sym a b, sp_sym a b, Nat.min_comm a b, Nat.max_comm a b, eq_comm (a := a) (b := b), eq_comm (a := a / 6), eq_comm (a := a % 6)]
theorem nSl {k : Nat} (hk : k < 64) : (1 : Int64) <<< (lN k &&& 63) = lN (2 ^ k) := by
  have := wb_shl 1 hk
  rw [nI_l (by omega), Nat.one_mul] at this
  exact this
theorem or_lt {A k n : Nat} (h : A < 2 ^ n) (hk : k < n) : A ||| 2 ^ k < 2 ^ n := Nat.or_lt_two_pow h (Nat.pow_lt_pow_right (by decide) hk)
section
variable {I : Nat → Nat → Int32} {J : Nat → Nat → Int64} {p q : Option Nat} {Q : SQ} {σ : TS} {t : Nat}
theorem c_X7_viewFrom (ht : IsT t) (hT : CT t I J σ) (hW : TW σ) {c : Nat} (hc : c < 36) (h : Q (some (.long (lN (bs (sees σ c) 36)))) SH (I, J, RS p q)) : C_X7_viewFrom [.ref t, .int (nI c)] SH (I, J, RS p q) Q := by
  have hT2 := hT
  obtain ⟨tc, tm, tr, tw, tk, tt, ts, tW, tB, tP⟩ := hT
  have hn := hW.1
  have hm := hW.2.2.2.1
  have hm2 := hW.2.2.2.2.1
  have hr1 := hW.2.2.2.2.2.1
  have hr5 := hW.2.2.2.2.2.2.1
  unfold C_X7_viewFrom
  have lo : ∀ d w A x5 x6, w + d = 4 → A < 2 ^ 36 → (∀ b, b < 36 → (A.testBit b = true ↔ b = c ∨ ∃ w', w' < w ∧ ∃ j, j < σ.2.1 2 ∧ ry σ c w' j = some b)) → s_wp P_X7_viewFrom Q 7 [some (.ref t), some (.int (nI c)), some (.long (lN A)), none, some (.int (nI w)), x5, x6] [] SH (I, J, RS p q) := by
    intro d
    induction d with
    | zero =>
      intro w A x5 x6 hw hA hb
      obtain rfl : w = 4 := by omega
      refine w_X7_viewFrom_7 ?_
      simp (disch := omega) only [o_const, o_iload, o_lload, o_aload, o_istore, o_astore, o_lstore, o_iinc, o_i1, o_i2, o_div, o_l2, o_lsh, o_il, o_li, o_lcmp, o_pop, o_dup, o_dup2, o_dupx1, o_if, o_ic, o_sw, s_sw, o_getI, o_getJ, o_getR, o_putI, o_putZ, o_putJ, o_putR, o_iald, o_iast, o_lald, o_last, o_aald, o_alen, o_tald, o_getsA, o_call, o_callV, s_rc, o_math1, o_math2, o_copyl, o_vret, o_iret, o_zret, o_lret, o_aret, s_get, s_put1, s_put2, s_unl, s_head, s_pop, s_sm, s_ret, Option.toList, List.cons_append, List.nil_append, List.length_cons, List.length_nil, Value.category, s_uI_t, s_uJ_t, s_uR_0, s_uR_1, sh_n, Nat.reduceLT, Nat.reduceAdd, Nat.reduceEqDiff, true_and, and_true, eq_self, true_or, or_true, not_false_eq_true, not_true_eq_false, n6, n9, n2, n4, n5, n10, n64, n1000, B_X7_viewFrom_7, ist_n ht, ist_n1 ht, ist_n2 ht, ist_c ht, ist_c1 ht, ist_l1 ht, ist_r ht, ist_r1 ht, ist_cp ht, tc, tm, tr, tw, tk, tt, ts, tW, tB, tP, nE, nLt, nLe, nE1, nE1', nLt1, nLe1, n1Lt, n1Le, m1_ne, m1_ne', m1_lt, nI_add, nI_1, nSub, nSub1, pk_mul, nDv, n_md, nVp, nVp0, nVp1, nCl, nIL, lN_i, bi_n0, bi_o, o01, o11, n1_0, n0_1, nm_0, false_or, or_false, false_and, and_false, Decidable.not_not, false_implies, true_implies, ne_eq, reduceCtorEq, ite_true, ite_false, n_0, n_2, n_3, n_4, n_5, n_6, n_7, n_8, n_9, n_10, n_11, n_16, n_20, n_30, n_32, n_36, n_40, n_48, n_57, n_59, n_60, n_64, n_97, n_98, n_99, n_100, n_101, n_108, n_112, n_114, n_115, n_119, n_130, n_160, n_1000, n_9999, n_1280, n_100000000, n_268435456, n_35, n_17, n_51, n_50, n_70, n_71, n_12]
      refine br_t (Nat.le_refl _) (mqL h ?_)
      rw [bs_ext (p := sees σ c) hA (fun k hk => by rw [hb k hk, sees_ry hW hc hk])]
    | succ d ih =>
      intro w A x5 x6 hw hA hb
      have li : ∀ d2 k A, k + d2 = σ.2.1 2 → A < 2 ^ 36 → (∀ b, b < 36 → (A.testBit b = true ↔ b = c ∨ (∃ w', w' < w ∧ ∃ j, j < σ.2.1 2 ∧ ry σ c w' j = some b) ∨ ∃ j, j < k ∧ ry σ c w j = some b)) → s_wp P_X7_viewFrom Q 24 [some (.ref t), some (.int (nI c)), some (.long (lN A)), none, some (.int (nI w)), some (.int (ob (ry σ c w k))), some (.int (nI (k + 1)))] [] SH (I, J, RS p q) := by
        intro d2
        induction d2 with
        | zero =>
          intro k A hk hA hb
          refine w_X7_viewFrom_24 ?_
          simp (disch := omega) only [o_const, o_iload, o_lload, o_aload, o_istore, o_astore, o_lstore, o_iinc, o_i1, o_i2, o_div, o_l2, o_lsh, o_il, o_li, o_lcmp, o_pop, o_dup, o_dup2, o_dupx1, o_if, o_ic, o_sw, s_sw, o_getI, o_getJ, o_getR, o_putI, o_putZ, o_putJ, o_putR, o_iald, o_iast, o_lald, o_last, o_aald, o_alen, o_tald, o_getsA, o_call, o_callV, s_rc, o_math1, o_math2, o_copyl, o_vret, o_iret, o_zret, o_lret, o_aret, s_get, s_put1, s_put2, s_unl, s_head, s_pop, s_sm, s_ret, Option.toList, List.cons_append, List.nil_append, List.length_cons, List.length_nil, Value.category, s_uI_t, s_uJ_t, s_uR_0, s_uR_1, sh_n, Nat.reduceLT, Nat.reduceAdd, Nat.reduceEqDiff, true_and, and_true, eq_self, true_or, or_true, not_false_eq_true, not_true_eq_false, n6, n9, n2, n4, n5, n10, n64, n1000, B_X7_viewFrom_24, ist_n ht, ist_n1 ht, ist_n2 ht, ist_c ht, ist_c1 ht, ist_l1 ht, ist_r ht, ist_r1 ht, ist_cp ht, tc, tm, tr, tw, tk, tt, ts, tW, tB, tP, nE, nLt, nLe, nE1, nE1', nLt1, nLe1, n1Lt, n1Le, m1_ne, m1_ne', m1_lt, nI_add, nI_1, nSub, nSub1, pk_mul, nDv, n_md, nVp, nVp0, nVp1, nCl, nIL, lN_i, bi_n0, bi_o, o01, o11, n1_0, n0_1, nm_0, false_or, or_false, false_and, and_false, Decidable.not_not, false_implies, true_implies, ne_eq, reduceCtorEq, ite_true, ite_false, n_0, n_2, n_3, n_4, n_5, n_6, n_7, n_8, n_9, n_10, n_11, n_16, n_20, n_30, n_32, n_36, n_40, n_48, n_57, n_59, n_60, n_64, n_97, n_98, n_99, n_100, n_101, n_108, n_112, n_114, n_115, n_119, n_130, n_160, n_1000, n_9999, n_1280, n_100000000, n_268435456, n_35, n_17, n_51, n_50, n_70, n_71, n_12]
          refine ⟨fun _ => ?_, fun z => absurd z (by omega)⟩
          refine w_X7_viewFrom_74 ?_
          simp (disch := omega) only [o_const, o_iload, o_lload, o_aload, o_istore, o_astore, o_lstore, o_iinc, o_i1, o_i2, o_div, o_l2, o_lsh, o_il, o_li, o_lcmp, o_pop, o_dup, o_dup2, o_dupx1, o_if, o_ic, o_sw, s_sw, o_getI, o_getJ, o_getR, o_putI, o_putZ, o_putJ, o_putR, o_iald, o_iast, o_lald, o_last, o_aald, o_alen, o_tald, o_getsA, o_call, o_callV, s_rc, o_math1, o_math2, o_copyl, o_vret, o_iret, o_zret, o_lret, o_aret, s_get, s_put1, s_put2, s_unl, s_head, s_pop, s_sm, s_ret, Option.toList, List.cons_append, List.nil_append, List.length_cons, List.length_nil, Value.category, s_uI_t, s_uJ_t, s_uR_0, s_uR_1, sh_n, Nat.reduceLT, Nat.reduceAdd, Nat.reduceEqDiff, true_and, and_true, eq_self, true_or, or_true, not_false_eq_true, not_true_eq_false, n6, n9, n2, n4, n5, n10, n64, n1000, B_X7_viewFrom_74, ist_n ht, ist_n1 ht, ist_n2 ht, ist_c ht, ist_c1 ht, ist_l1 ht, ist_r ht, ist_r1 ht, ist_cp ht, tc, tm, tr, tw, tk, tt, ts, tW, tB, tP, nE, nLt, nLe, nE1, nE1', nLt1, nLe1, n1Lt, n1Le, m1_ne, m1_ne', m1_lt, nI_add, nI_1, nSub, nSub1, pk_mul, nDv, n_md, nVp, nVp0, nVp1, nCl, nIL, lN_i, bi_n0, bi_o, o01, o11, n1_0, n0_1, nm_0, false_or, or_false, false_and, and_false, Decidable.not_not, false_implies, true_implies, ne_eq, reduceCtorEq, ite_true, ite_false, n_0, n_2, n_3, n_4, n_5, n_6, n_7, n_8, n_9, n_10, n_11, n_16, n_20, n_30, n_32, n_36, n_40, n_48, n_57, n_59, n_60, n_64, n_97, n_98, n_99, n_100, n_101, n_108, n_112, n_114, n_115, n_119, n_130, n_160, n_1000, n_9999, n_1280, n_100000000, n_268435456, n_35, n_17, n_51, n_50, n_70, n_71, n_12]
          refine ih (w + 1) A _ _ (by omega) hA (fun b hb36 => ?_)
          rw [hb b hb36]
          obtain rfl : k = σ.2.1 2 := by omega
          constructor
          · rintro (e | ⟨w', h1, h2⟩ | h2)
            · exact Or.inl e
            · exact Or.inr ⟨w', by omega, h2⟩
            · exact Or.inr ⟨w, by omega, h2⟩
          · rintro (e | ⟨w', h1, h2⟩)
            · exact Or.inl e
            · rcases Nat.lt_or_ge w' w with g | g
              · exact Or.inr (Or.inl ⟨w', g, h2⟩)
              · obtain rfl : w' = w := by omega
                exact Or.inr (Or.inr h2)
        | succ d2 ih2 =>
          intro k A hk hA hb
          cases hr : ry σ c w k with
          | none =>
            refine w_X7_viewFrom_24 ?_
            simp (disch := omega) only [o_const, o_iload, o_lload, o_aload, o_istore, o_astore, o_lstore, o_iinc, o_i1, o_i2, o_div, o_l2, o_lsh, o_il, o_li, o_lcmp, o_pop, o_dup, o_dup2, o_dupx1, o_if, o_ic, o_sw, s_sw, o_getI, o_getJ, o_getR, o_putI, o_putZ, o_putJ, o_putR, o_iald, o_iast, o_lald, o_last, o_aald, o_alen, o_tald, o_getsA, o_call, o_callV, s_rc, o_math1, o_math2, o_copyl, o_vret, o_iret, o_zret, o_lret, o_aret, s_get, s_put1, s_put2, s_unl, s_head, s_pop, s_sm, s_ret, Option.toList, List.cons_append, List.nil_append, List.length_cons, List.length_nil, Value.category, s_uI_t, s_uJ_t, s_uR_0, s_uR_1, sh_n, Nat.reduceLT, Nat.reduceAdd, Nat.reduceEqDiff, true_and, and_true, eq_self, true_or, or_true, not_false_eq_true, not_true_eq_false, n6, n9, n2, n4, n5, n10, n64, n1000, B_X7_viewFrom_24, ist_n ht, ist_n1 ht, ist_n2 ht, ist_c ht, ist_c1 ht, ist_l1 ht, ist_r ht, ist_r1 ht, ist_cp ht, tc, tm, tr, tw, tk, tt, ts, tW, tB, tP, nE, nLt, nLe, nE1, nE1', nLt1, nLe1, n1Lt, n1Le, m1_ne, m1_ne', m1_lt, nI_add, nI_1, nSub, nSub1, pk_mul, nDv, n_md, nVp, nVp0, nVp1, nCl, nIL, lN_i, bi_n0, bi_o, o01, o11, n1_0, n0_1, nm_0, false_or, or_false, false_and, and_false, Decidable.not_not, false_implies, true_implies, ne_eq, reduceCtorEq, ite_true, ite_false, n_0, n_2, n_3, n_4, n_5, n_6, n_7, n_8, n_9, n_10, n_11, n_16, n_20, n_30, n_32, n_36, n_40, n_48, n_57, n_59, n_60, n_64, n_97, n_98, n_99, n_100, n_101, n_108, n_112, n_114, n_115, n_119, n_130, n_160, n_1000, n_9999, n_1280, n_100000000, n_268435456, n_35, n_17, n_51, n_50, n_70, n_71, n_12, ob]
            refine ⟨fun z => absurd z (by omega), fun _ => ?_⟩
            refine w_X7_viewFrom_74 ?_
            simp (disch := omega) only [o_const, o_iload, o_lload, o_aload, o_istore, o_astore, o_lstore, o_iinc, o_i1, o_i2, o_div, o_l2, o_lsh, o_il, o_li, o_lcmp, o_pop, o_dup, o_dup2, o_dupx1, o_if, o_ic, o_sw, s_sw, o_getI, o_getJ, o_getR, o_putI, o_putZ, o_putJ, o_putR, o_iald, o_iast, o_lald, o_last, o_aald, o_alen, o_tald, o_getsA, o_call, o_callV, s_rc, o_math1, o_math2, o_copyl, o_vret, o_iret, o_zret, o_lret, o_aret, s_get, s_put1, s_put2, s_unl, s_head, s_pop, s_sm, s_ret, Option.toList, List.cons_append, List.nil_append, List.length_cons, List.length_nil, Value.category, s_uI_t, s_uJ_t, s_uR_0, s_uR_1, sh_n, Nat.reduceLT, Nat.reduceAdd, Nat.reduceEqDiff, true_and, and_true, eq_self, true_or, or_true, not_false_eq_true, not_true_eq_false, n6, n9, n2, n4, n5, n10, n64, n1000, B_X7_viewFrom_74, ist_n ht, ist_n1 ht, ist_n2 ht, ist_c ht, ist_c1 ht, ist_l1 ht, ist_r ht, ist_r1 ht, ist_cp ht, tc, tm, tr, tw, tk, tt, ts, tW, tB, tP, nE, nLt, nLe, nE1, nE1', nLt1, nLe1, n1Lt, n1Le, m1_ne, m1_ne', m1_lt, nI_add, nI_1, nSub, nSub1, pk_mul, nDv, n_md, nVp, nVp0, nVp1, nCl, nIL, lN_i, bi_n0, bi_o, o01, o11, n1_0, n0_1, nm_0, false_or, or_false, false_and, and_false, Decidable.not_not, false_implies, true_implies, ne_eq, reduceCtorEq, ite_true, ite_false, n_0, n_2, n_3, n_4, n_5, n_6, n_7, n_8, n_9, n_10, n_11, n_16, n_20, n_30, n_32, n_36, n_40, n_48, n_57, n_59, n_60, n_64, n_97, n_98, n_99, n_100, n_101, n_108, n_112, n_114, n_115, n_119, n_130, n_160, n_1000, n_9999, n_1280, n_100000000, n_268435456, n_35, n_17, n_51, n_50, n_70, n_71, n_12]
            refine ih (w + 1) A _ _ (by omega) hA (fun b hb36 => ?_)
            rw [hb b hb36]
            constructor
            · rintro (e | ⟨w', h1, h2⟩ | ⟨j, h1, h2⟩)
              · exact Or.inl e
              · exact Or.inr ⟨w', by omega, h2⟩
              · exact Or.inr ⟨w, by omega, j, by omega, h2⟩
            · rintro (e | ⟨w', h1, h2⟩)
              · exact Or.inl e
              · rcases Nat.lt_or_ge w' w with g | g
                · exact Or.inr (Or.inl ⟨w', g, h2⟩)
                · obtain rfl : w' = w := by omega
                  obtain ⟨j, h3, h4⟩ := h2
                  refine Or.inr (Or.inr ⟨j, ?_, h4⟩)
                  apply Nat.lt_of_not_le
                  intro z
                  rw [ry_none hr j z] at h4
                  cases h4
          | some e =>
            have he := ry_lt hc hr
            refine w_X7_viewFrom_24 ?_
            simp (disch := omega) only [o_const, o_iload, o_lload, o_aload, o_istore, o_astore, o_lstore, o_iinc, o_i1, o_i2, o_div, o_l2, o_lsh, o_il, o_li, o_lcmp, o_pop, o_dup, o_dup2, o_dupx1, o_if, o_ic, o_sw, s_sw, o_getI, o_getJ, o_getR, o_putI, o_putZ, o_putJ, o_putR, o_iald, o_iast, o_lald, o_last, o_aald, o_alen, o_tald, o_getsA, o_call, o_callV, s_rc, o_math1, o_math2, o_copyl, o_vret, o_iret, o_zret, o_lret, o_aret, s_get, s_put1, s_put2, s_unl, s_head, s_pop, s_sm, s_ret, Option.toList, List.cons_append, List.nil_append, List.length_cons, List.length_nil, Value.category, s_uI_t, s_uJ_t, s_uR_0, s_uR_1, sh_n, Nat.reduceLT, Nat.reduceAdd, Nat.reduceEqDiff, true_and, and_true, eq_self, true_or, or_true, not_false_eq_true, not_true_eq_false, n6, n9, n2, n4, n5, n10, n64, n1000, B_X7_viewFrom_24, ist_n ht, ist_n1 ht, ist_n2 ht, ist_c ht, ist_c1 ht, ist_l1 ht, ist_r ht, ist_r1 ht, ist_cp ht, tc, tm, tr, tw, tk, tt, ts, tW, tB, tP, nE, nLt, nLe, nE1, nE1', nLt1, nLe1, n1Lt, n1Le, m1_ne, m1_ne', m1_lt, nI_add, nI_1, nSub, nSub1, pk_mul, nDv, n_md, nVp, nVp0, nVp1, nCl, nIL, lN_i, bi_n0, bi_o, o01, o11, n1_0, n0_1, nm_0, false_or, or_false, false_and, and_false, Decidable.not_not, false_implies, true_implies, ne_eq, reduceCtorEq, ite_true, ite_false, n_0, n_2, n_3, n_4, n_5, n_6, n_7, n_8, n_9, n_10, n_11, n_16, n_20, n_30, n_32, n_36, n_40, n_48, n_57, n_59, n_60, n_64, n_97, n_98, n_99, n_100, n_101, n_108, n_112, n_114, n_115, n_119, n_130, n_160, n_1000, n_9999, n_1280, n_100000000, n_268435456, n_35, n_17, n_51, n_50, n_70, n_71, n_12, ob, nSl, fb_orL]
            refine ⟨fun z => absurd z (by omega), fun _ => c_X7_isWall ht hT2 he ?_⟩
            simp (disch := omega) only [o_const, o_iload, o_lload, o_aload, o_istore, o_astore, o_lstore, o_iinc, o_i1, o_i2, o_div, o_l2, o_lsh, o_il, o_li, o_lcmp, o_pop, o_dup, o_dup2, o_dupx1, o_if, o_ic, o_sw, s_sw, o_getI, o_getJ, o_getR, o_putI, o_putZ, o_putJ, o_putR, o_iald, o_iast, o_lald, o_last, o_aald, o_alen, o_tald, o_getsA, o_call, o_callV, s_rc, o_math1, o_math2, o_copyl, o_vret, o_iret, o_zret, o_lret, o_aret, s_get, s_put1, s_put2, s_unl, s_head, s_pop, s_sm, s_ret, Option.toList, List.cons_append, List.nil_append, List.length_cons, List.length_nil, Value.category, s_uI_t, s_uJ_t, s_uR_0, s_uR_1, sh_n, Nat.reduceLT, Nat.reduceAdd, Nat.reduceEqDiff, true_and, and_true, eq_self, true_or, or_true, not_false_eq_true, not_true_eq_false, n6, n9, n2, n4, n5, n10, n64, n1000, ist_n ht, ist_n1 ht, ist_n2 ht, ist_c ht, ist_c1 ht, ist_l1 ht, ist_r ht, ist_r1 ht, ist_cp ht, tc, tm, tr, tw, tk, tt, ts, tW, tB, tP, nE, nLt, nLe, nE1, nE1', nLt1, nLe1, n1Lt, n1Le, m1_ne, m1_ne', m1_lt, nI_add, nI_1, nSub, nSub1, pk_mul, nDv, n_md, nVp, nVp0, nVp1, nCl, nIL, lN_i, bi_n0, bi_o, o01, o11, n1_0, n0_1, nm_0, false_or, or_false, false_and, and_false, Decidable.not_not, false_implies, true_implies, ne_eq, reduceCtorEq, ite_true, ite_false, n_0, n_2, n_3, n_4, n_5, n_6, n_7, n_8, n_9, n_10, n_11, n_16, n_20, n_30, n_32, n_36, n_40, n_48, n_57, n_59, n_60, n_64, n_97, n_98, n_99, n_100, n_101, n_108, n_112, n_114, n_115, n_119, n_130, n_160, n_1000, n_9999, n_1280, n_100000000, n_268435456, n_35, n_17, n_51, n_50, n_70, n_71, n_12]
            have hb2 : ∀ b, b < 36 → ((A ||| 2 ^ e).testBit b = true ↔ b = c ∨ (∃ w', w' < w ∧ ∃ j, j < σ.2.1 2 ∧ ry σ c w' j = some b) ∨ ∃ j, j < k + 1 ∧ ry σ c w j = some b) := by
              intro b hb36
              rw [fb_bit_set, Bool.or_eq_true, hb b hb36, decide_eq_true_eq]
              constructor
              · rintro ((g | g | ⟨j, g1, g2⟩) | g)
                · exact Or.inl g
                · exact Or.inr (Or.inl g)
                · exact Or.inr (Or.inr ⟨j, by omega, g2⟩)
                · exact Or.inr (Or.inr ⟨k, by omega, by rw [hr, g]⟩)
              · rintro (g | g | ⟨j, g1, g2⟩)
                · exact Or.inl (Or.inl g)
                · exact Or.inl (Or.inr (Or.inl g))
                · rcases Nat.lt_or_ge j k with z | z
                  · exact Or.inl (Or.inr (Or.inr ⟨j, z, g2⟩))
                  · obtain rfl : j = k := by omega
                    rw [hr] at g2
                    cases g2
                    exact Or.inr rfl
            have := ih2 (k + 1) (A ||| 2 ^ e) (by omega) (or_lt hA he) hb2
            refine ⟨fun g => ?_, fun g => ?_⟩
            · refine c_X8_beside he (by omega) ?_
              simp (disch := omega) only [o_const, o_iload, o_lload, o_aload, o_istore, o_astore, o_lstore, o_iinc, o_i1, o_i2, o_div, o_l2, o_lsh, o_il, o_li, o_lcmp, o_pop, o_dup, o_dup2, o_dupx1, o_if, o_ic, o_sw, s_sw, o_getI, o_getJ, o_getR, o_putI, o_putZ, o_putJ, o_putR, o_iald, o_iast, o_lald, o_last, o_aald, o_alen, o_tald, o_getsA, o_call, o_callV, s_rc, o_math1, o_math2, o_copyl, o_vret, o_iret, o_zret, o_lret, o_aret, s_get, s_put1, s_put2, s_unl, s_head, s_pop, s_sm, s_ret, Option.toList, List.cons_append, List.nil_append, List.length_cons, List.length_nil, Value.category, s_uI_t, s_uJ_t, s_uR_0, s_uR_1, sh_n, Nat.reduceLT, Nat.reduceAdd, Nat.reduceEqDiff, true_and, and_true, eq_self, true_or, or_true, not_false_eq_true, not_true_eq_false, n6, n9, n2, n4, n5, n10, n64, n1000, ist_n ht, ist_n1 ht, ist_n2 ht, ist_c ht, ist_c1 ht, ist_l1 ht, ist_r ht, ist_r1 ht, ist_cp ht, tc, tm, tr, tw, tk, tt, ts, tW, tB, tP, nE, nLt, nLe, nE1, nE1', nLt1, nLe1, n1Lt, n1Le, m1_ne, m1_ne', m1_lt, nI_add, nI_1, nSub, nSub1, pk_mul, nDv, n_md, nVp, nVp0, nVp1, nCl, nIL, lN_i, bi_n0, bi_o, o01, o11, n1_0, n0_1, nm_0, false_or, or_false, false_and, and_false, Decidable.not_not, false_implies, true_implies, ne_eq, reduceCtorEq, ite_true, ite_false, n_0, n_2, n_3, n_4, n_5, n_6, n_7, n_8, n_9, n_10, n_11, n_16, n_20, n_30, n_32, n_36, n_40, n_48, n_57, n_59, n_60, n_64, n_97, n_98, n_99, n_100, n_101, n_108, n_112, n_114, n_115, n_119, n_130, n_160, n_1000, n_9999, n_1280, n_100000000, n_268435456, n_35, n_17, n_51, n_50, n_70, n_71, n_12]
              refine w_X7_viewFrom_66 ?_
              simp (disch := omega) only [o_const, o_iload, o_lload, o_aload, o_istore, o_astore, o_lstore, o_iinc, o_i1, o_i2, o_div, o_l2, o_lsh, o_il, o_li, o_lcmp, o_pop, o_dup, o_dup2, o_dupx1, o_if, o_ic, o_sw, s_sw, o_getI, o_getJ, o_getR, o_putI, o_putZ, o_putJ, o_putR, o_iald, o_iast, o_lald, o_last, o_aald, o_alen, o_tald, o_getsA, o_call, o_callV, s_rc, o_math1, o_math2, o_copyl, o_vret, o_iret, o_zret, o_lret, o_aret, s_get, s_put1, s_put2, s_unl, s_head, s_pop, s_sm, s_ret, Option.toList, List.cons_append, List.nil_append, List.length_cons, List.length_nil, Value.category, s_uI_t, s_uJ_t, s_uR_0, s_uR_1, sh_n, Nat.reduceLT, Nat.reduceAdd, Nat.reduceEqDiff, true_and, and_true, eq_self, true_or, or_true, not_false_eq_true, not_true_eq_false, n6, n9, n2, n4, n5, n10, n64, n1000, B_X7_viewFrom_66, ist_n ht, ist_n1 ht, ist_n2 ht, ist_c ht, ist_c1 ht, ist_l1 ht, ist_r ht, ist_r1 ht, ist_cp ht, tc, tm, tr, tw, tk, tt, ts, tW, tB, tP, nE, nLt, nLe, nE1, nE1', nLt1, nLe1, n1Lt, n1Le, m1_ne, m1_ne', m1_lt, nI_add, nI_1, nSub, nSub1, pk_mul, nDv, n_md, nVp, nVp0, nVp1, nCl, nIL, lN_i, bi_n0, bi_o, o01, o11, n1_0, n0_1, nm_0, false_or, or_false, false_and, and_false, Decidable.not_not, false_implies, true_implies, ne_eq, reduceCtorEq, ite_true, ite_false, n_0, n_2, n_3, n_4, n_5, n_6, n_7, n_8, n_9, n_10, n_11, n_16, n_20, n_30, n_32, n_36, n_40, n_48, n_57, n_59, n_60, n_64, n_97, n_98, n_99, n_100, n_101, n_108, n_112, n_114, n_115, n_119, n_130, n_160, n_1000, n_9999, n_1280, n_100000000, n_268435456, n_35, n_17, n_51, n_50, n_70, n_71, n_12]
              rw [ry, hr] at this
              simp only [if_neg g] at this
              exact this
            · refine w_X7_viewFrom_66 ?_
              simp (disch := omega) only [o_const, o_iload, o_lload, o_aload, o_istore, o_astore, o_lstore, o_iinc, o_i1, o_i2, o_div, o_l2, o_lsh, o_il, o_li, o_lcmp, o_pop, o_dup, o_dup2, o_dupx1, o_if, o_ic, o_sw, s_sw, o_getI, o_getJ, o_getR, o_putI, o_putZ, o_putJ, o_putR, o_iald, o_iast, o_lald, o_last, o_aald, o_alen, o_tald, o_getsA, o_call, o_callV, s_rc, o_math1, o_math2, o_copyl, o_vret, o_iret, o_zret, o_lret, o_aret, s_get, s_put1, s_put2, s_unl, s_head, s_pop, s_sm, s_ret, Option.toList, List.cons_append, List.nil_append, List.length_cons, List.length_nil, Value.category, s_uI_t, s_uJ_t, s_uR_0, s_uR_1, sh_n, Nat.reduceLT, Nat.reduceAdd, Nat.reduceEqDiff, true_and, and_true, eq_self, true_or, or_true, not_false_eq_true, not_true_eq_false, n6, n9, n2, n4, n5, n10, n64, n1000, B_X7_viewFrom_66, ist_n ht, ist_n1 ht, ist_n2 ht, ist_c ht, ist_c1 ht, ist_l1 ht, ist_r ht, ist_r1 ht, ist_cp ht, tc, tm, tr, tw, tk, tt, ts, tW, tB, tP, nE, nLt, nLe, nE1, nE1', nLt1, nLe1, n1Lt, n1Le, m1_ne, m1_ne', m1_lt, nI_add, nI_1, nSub, nSub1, pk_mul, nDv, n_md, nVp, nVp0, nVp1, nCl, nIL, lN_i, bi_n0, bi_o, o01, o11, n1_0, n0_1, nm_0, false_or, or_false, false_and, and_false, Decidable.not_not, false_implies, true_implies, ne_eq, reduceCtorEq, ite_true, ite_false, n_0, n_2, n_3, n_4, n_5, n_6, n_7, n_8, n_9, n_10, n_11, n_16, n_20, n_30, n_32, n_36, n_40, n_48, n_57, n_59, n_60, n_64, n_97, n_98, n_99, n_100, n_101, n_108, n_112, n_114, n_115, n_119, n_130, n_160, n_1000, n_9999, n_1280, n_100000000, n_268435456, n_35, n_17, n_51, n_50, n_70, n_71, n_12]
              rw [ry, hr] at this
              simp only [if_pos g, ob] at this
              exact this
      refine w_X7_viewFrom_7 ?_
      simp (disch := omega) only [o_const, o_iload, o_lload, o_aload, o_istore, o_astore, o_lstore, o_iinc, o_i1, o_i2, o_div, o_l2, o_lsh, o_il, o_li, o_lcmp, o_pop, o_dup, o_dup2, o_dupx1, o_if, o_ic, o_sw, s_sw, o_getI, o_getJ, o_getR, o_putI, o_putZ, o_putJ, o_putR, o_iald, o_iast, o_lald, o_last, o_aald, o_alen, o_tald, o_getsA, o_call, o_callV, s_rc, o_math1, o_math2, o_copyl, o_vret, o_iret, o_zret, o_lret, o_aret, s_get, s_put1, s_put2, s_unl, s_head, s_pop, s_sm, s_ret, Option.toList, List.cons_append, List.nil_append, List.length_cons, List.length_nil, Value.category, s_uI_t, s_uJ_t, s_uR_0, s_uR_1, sh_n, Nat.reduceLT, Nat.reduceAdd, Nat.reduceEqDiff, true_and, and_true, eq_self, true_or, or_true, not_false_eq_true, not_true_eq_false, n6, n9, n2, n4, n5, n10, n64, n1000, B_X7_viewFrom_7, ist_n ht, ist_n1 ht, ist_n2 ht, ist_c ht, ist_c1 ht, ist_l1 ht, ist_r ht, ist_r1 ht, ist_cp ht, tc, tm, tr, tw, tk, tt, ts, tW, tB, tP, nE, nLt, nLe, nE1, nE1', nLt1, nLe1, n1Lt, n1Le, m1_ne, m1_ne', m1_lt, nI_add, nI_1, nSub, nSub1, pk_mul, nDv, n_md, nVp, nVp0, nVp1, nCl, nIL, lN_i, bi_n0, bi_o, o01, o11, n1_0, n0_1, nm_0, false_or, or_false, false_and, and_false, Decidable.not_not, false_implies, true_implies, ne_eq, reduceCtorEq, ite_true, ite_false, n_0, n_2, n_3, n_4, n_5, n_6, n_7, n_8, n_9, n_10, n_11, n_16, n_20, n_30, n_32, n_36, n_40, n_48, n_57, n_59, n_60, n_64, n_97, n_98, n_99, n_100, n_101, n_108, n_112, n_114, n_115, n_119, n_130, n_160, n_1000, n_9999, n_1280, n_100000000, n_268435456, n_35, n_17, n_51, n_50, n_70, n_71, n_12]
      refine ⟨fun z => absurd z (by omega), fun _ => c_X8_beside hc (by omega) ?_⟩
      simp (disch := omega) only [o_const, o_iload, o_lload, o_aload, o_istore, o_astore, o_lstore, o_iinc, o_i1, o_i2, o_div, o_l2, o_lsh, o_il, o_li, o_lcmp, o_pop, o_dup, o_dup2, o_dupx1, o_if, o_ic, o_sw, s_sw, o_getI, o_getJ, o_getR, o_putI, o_putZ, o_putJ, o_putR, o_iald, o_iast, o_lald, o_last, o_aald, o_alen, o_tald, o_getsA, o_call, o_callV, s_rc, o_math1, o_math2, o_copyl, o_vret, o_iret, o_zret, o_lret, o_aret, s_get, s_put1, s_put2, s_unl, s_head, s_pop, s_sm, s_ret, Option.toList, List.cons_append, List.nil_append, List.length_cons, List.length_nil, Value.category, s_uI_t, s_uJ_t, s_uR_0, s_uR_1, sh_n, Nat.reduceLT, Nat.reduceAdd, Nat.reduceEqDiff, true_and, and_true, eq_self, true_or, or_true, not_false_eq_true, not_true_eq_false, n6, n9, n2, n4, n5, n10, n64, n1000, ist_n ht, ist_n1 ht, ist_n2 ht, ist_c ht, ist_c1 ht, ist_l1 ht, ist_r ht, ist_r1 ht, ist_cp ht, tc, tm, tr, tw, tk, tt, ts, tW, tB, tP, nE, nLt, nLe, nE1, nE1', nLt1, nLe1, n1Lt, n1Le, m1_ne, m1_ne', m1_lt, nI_add, nI_1, nSub, nSub1, pk_mul, nDv, n_md, nVp, nVp0, nVp1, nCl, nIL, lN_i, bi_n0, bi_o, o01, o11, n1_0, n0_1, nm_0, false_or, or_false, false_and, and_false, Decidable.not_not, false_implies, true_implies, ne_eq, reduceCtorEq, ite_true, ite_false, n_0, n_2, n_3, n_4, n_5, n_6, n_7, n_8, n_9, n_10, n_11, n_16, n_20, n_30, n_32, n_36, n_40, n_48, n_57, n_59, n_60, n_64, n_97, n_98, n_99, n_100, n_101, n_108, n_112, n_114, n_115, n_119, n_130, n_160, n_1000, n_9999, n_1280, n_100000000, n_268435456, n_35, n_17, n_51, n_50, n_70, n_71, n_12]
      refine li (σ.2.1 2) 0 A (by omega) hA (fun b hb36 => ?_)
      rw [hb b hb36]
      constructor
      · rintro (e | e)
        · exact Or.inl e
        · exact Or.inr (Or.inl e)
      · rintro (e | e | ⟨j, h1, _⟩)
        · exact Or.inl e
        · exact Or.inr e
        · omega
  refine w_X7_viewFrom_0 ?_
  simp (disch := omega) only [o_const, o_iload, o_lload, o_aload, o_istore, o_astore, o_lstore, o_iinc, o_i1, o_i2, o_div, o_l2, o_lsh, o_il, o_li, o_lcmp, o_pop, o_dup, o_dup2, o_dupx1, o_if, o_ic, o_sw, s_sw, o_getI, o_getJ, o_getR, o_putI, o_putZ, o_putJ, o_putR, o_iald, o_iast, o_lald, o_last, o_aald, o_alen, o_tald, o_getsA, o_call, o_callV, s_rc, o_math1, o_math2, o_copyl, o_vret, o_iret, o_zret, o_lret, o_aret, s_get, s_put1, s_put2, s_unl, s_head, s_pop, s_sm, s_ret, Option.toList, List.cons_append, List.nil_append, List.length_cons, List.length_nil, Value.category, s_uI_t, s_uJ_t, s_uR_0, s_uR_1, sh_n, Nat.reduceLT, Nat.reduceAdd, Nat.reduceEqDiff, true_and, and_true, eq_self, true_or, or_true, not_false_eq_true, not_true_eq_false, n6, n9, n2, n4, n5, n10, n64, n1000, B_X7_viewFrom_0, ist_n ht, ist_n1 ht, ist_n2 ht, ist_c ht, ist_c1 ht, ist_l1 ht, ist_r ht, ist_r1 ht, ist_cp ht, tc, tm, tr, tw, tk, tt, ts, tW, tB, tP, nE, nLt, nLe, nE1, nE1', nLt1, nLe1, n1Lt, n1Le, m1_ne, m1_ne', m1_lt, nI_add, nI_1, nSub, nSub1, pk_mul, nDv, n_md, nVp, nVp0, nVp1, nCl, nIL, lN_i, bi_n0, bi_o, o01, o11, n1_0, n0_1, nm_0, false_or, or_false, false_and, and_false, Decidable.not_not, false_implies, true_implies, ne_eq, reduceCtorEq, ite_true, ite_false, n_0, n_2, n_3, n_4, n_5, n_6, n_7, n_8, n_9, n_10, n_11, n_16, n_20, n_30, n_32, n_36, n_40, n_48, n_57, n_59, n_60, n_64, n_97, n_98, n_99, n_100, n_101, n_108, n_112, n_114, n_115, n_119, n_130, n_160, n_1000, n_9999, n_1280, n_100000000, n_268435456, n_35, n_17, n_51, n_50, n_70, n_71, n_12, nSl]
  refine lo 4 0 (2 ^ c) _ _ (by omega) (Nat.pow_lt_pow_right (by decide) hc) (fun b hb => ?_)
  rw [Nat.testBit_two_pow]
  constructor
  · intro e; exact Or.inl (by simpa using (of_decide_eq_true e).symm)
  · rintro (e | ⟨w', h1, _⟩)
    · exact decide_eq_true e.symm
    · omega
end
