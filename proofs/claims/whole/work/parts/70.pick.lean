/-! bits of a long counted; the first best -/
def dg (w : Nat) : (Nat → Nat) → Nat → Nat
  | _, 0 => 0
  | f, n + 1 => f 0 + 2 ^ w * dg w (fun j => f (j + 1)) n
theorem dg_S (w : Nat) (f : Nat → Nat) (n : Nat) : dg w f (n + 1) = f 0 + 2 ^ w * dg w (fun j => f (j + 1)) n := rfl
theorem dg_cong {w : Nat} : ∀ {n : Nat} {f g : Nat → Nat}, (∀ j, j < n → f j = g j) → dg w f n = dg w g n
  | 0, _, _, _ => rfl
  | n + 1, f, g, h => by rw [dg_S, dg_S, h 0 (by omega), dg_cong (fun j hj => h (j + 1) (by omega))]
theorem dg_add (w : Nat) : ∀ (n : Nat) (f g : Nat → Nat), dg w f n + dg w g n = dg w (fun j => f j + g j) n
  | 0, _, _ => rfl
  | n + 1, f, g => by
    rw [dg_S, dg_S, dg_S, ← dg_add w n (fun j => f (j + 1)) (fun j => g (j + 1)), Nat.mul_add]
    omega
theorem dg_top (w : Nat) : ∀ (n : Nat) (f : Nat → Nat), dg w f (n + 1) = dg w f n + f n * 2 ^ (w * n)
  | 0, f => by simp [dg]
  | n + 1, f => by
    rw [dg_S w f (n + 1), dg_top w n (fun j => f (j + 1)), dg_S w f n, Nat.mul_add, Nat.mul_succ, Nat.pow_add, Nat.add_assoc]
    congr 2
    rw [Nat.mul_left_comm, Nat.mul_comm (2 ^ w)]
theorem dg_sh {w n : Nat} {f : Nat → Nat} (h : f n = 0) (h0 : f 0 < 2 ^ w) : dg w f n / 2 ^ w = dg w (fun j => f (j + 1)) n := by
  have : dg w f (n + 1) = dg w f n := (dg_top w n f).trans (by rw [h, Nat.zero_mul]; exact Nat.add_zero _)
  rw [← this, dg_S, Nat.add_mul_div_left _ _ (Nat.two_pow_pos w), Nat.div_eq_of_lt h0, Nat.zero_add]
theorem dg_lt {w : Nat} : ∀ {n : Nat} {f : Nat → Nat}, (∀ j, f j < 2 ^ w) → dg w f n < 2 ^ (w * n)
  | 0, f, _ => by show 0 < 2 ^ (w * 0); exact Nat.two_pow_pos _
  | n + 1, f, h => by
    have ih := dg_lt (n := n) (f := fun j => f (j + 1)) (fun j => h (j + 1))
    have h0 := h 0
    have := Nat.mul_le_mul_left (2 ^ w) (show dg w (fun j => f (j + 1)) n + 1 ≤ 2 ^ (w * n) from ih)
    rw [dg_S, Nat.mul_succ, Nat.pow_add, Nat.mul_comm (2 ^ (w * n))]
    rw [Nat.mul_add] at this
    omega
theorem dg_two (w : Nat) : ∀ (n : Nat) (f : Nat → Nat), dg w f (2 * n) = dg (2 * w) (fun j => f (2 * j) + 2 ^ w * f (2 * j + 1)) n
  | 0, _ => rfl
  | n + 1, f => by
    rw [show 2 * (n + 1) = 2 * n + 1 + 1 by omega, dg_S, dg_S, dg_two w n (fun j => f (j + 1 + 1)), dg_S, Nat.mul_add, Nat.two_mul w, Nat.pow_add, Nat.mul_assoc, ← Nat.add_assoc]
    rfl
def mkm (w : Nat) : Nat → Nat
  | 0 => 0
  | n + 1 => (2 ^ w - 1) + 2 ^ (2 * w) * mkm w n
theorem and_split {a m k : Nat} (ha : a < 2 ^ k) (hm : m < 2 ^ k) (Y Z : Nat) : (a + 2 ^ k * Y) &&& (m + 2 ^ k * Z) = (a &&& m) + 2 ^ k * (Y &&& Z) := by
  apply Nat.eq_of_testBit_eq
  intro i
  rw [Nat.testBit_and, Nat.add_comm a, Nat.add_comm m, Nat.add_comm (a &&& m), Nat.testBit_two_pow_mul_add _ ha, Nat.testBit_two_pow_mul_add _ hm, Nat.testBit_two_pow_mul_add _ (Nat.lt_of_le_of_lt Nat.and_le_left ha)]
  split
  · rw [Nat.testBit_and]
  · rw [Nat.testBit_and]
theorem dg_mask {w : Nat} : ∀ {n m : Nat} {f : Nat → Nat}, (∀ j, f j < 2 ^ w) → n ≤ m → dg w f (2 * n) &&& mkm w m = dg (2 * w) (fun j => f (2 * j)) n
  | 0, m, f, _, _ => by show 0 &&& _ = 0; exact Nat.zero_and _
  | n + 1, 0, _, _, h => by omega
  | n + 1, m + 1, f, hf, h => by
    have hp := Nat.two_pow_pos w
    have a1 : f 0 + 2 ^ w * f 1 < 2 ^ (2 * w) := by
      rw [Nat.two_mul, Nat.pow_add]
      have h0 := hf 0
      have h1 := hf 1
      have := Nat.mul_le_mul_left (2 ^ w) (show f 1 + 1 ≤ 2 ^ w by omega)
      rw [Nat.mul_add] at this
      omega
    have a2 : 2 ^ w - 1 < 2 ^ (2 * w) := by
      have := Nat.pow_le_pow_right (n := 2) (by decide) (show w ≤ 2 * w by omega)
      omega
    have ih := dg_mask (w := w) (n := n) (m := m) (f := fun j => f (j + 2)) (fun j => hf _) (by omega)
    rw [dg_two] at ih
    rw [dg_two, dg_S, show mkm w (m + 1) = (2 ^ w - 1) + 2 ^ (2 * w) * mkm w m from rfl, and_split a1 a2, dg_S, Nat.and_two_pow_sub_one_eq_mod, Nat.add_mul_mod_self_left, Nat.mod_eq_of_lt (hf 0)]
    exact congrArg (fun z => f 0 + 2 ^ (2 * w) * z) ih
theorem bs_dg (p : Nat → Bool) : ∀ n, bs p n = dg 1 (fun k => if p k then 1 else 0) n
  | 0 => rfl
  | n + 1 => by
    rw [bs, bs_dg p n, dg_top]
    congr 1
    split <;> simp
def shL (x : Int64) (k : Nat) : Int64 := (x.toUInt64 >>> ((nI k).toInt64.toUInt64 &&& Int64.toUInt64 63)).toInt64
theorem shL_n {n k : Nat} (hn : n < 2 ^ 64) (hk : k < 64) : shL (lN n) k = lN (n / 2 ^ k) := wb_shr hn hk
def pcL (i0 : Int64) : Int32 :=
  let i1 := i0 - (shL i0 1 &&& 6148914691236517205)
  let i2 := (i1 &&& 3689348814741910323) + (shL i1 2 &&& 3689348814741910323)
  let i3 := (i2 + shL i2 4) &&& 1085102592571150095
  let i4 := i3 + shL i3 8
  let i5 := i4 + shL i4 16
  let i6 := i5 + shL i5 32
  i6.toInt32 &&& 127
theorem pc_nat (b : Nat → Nat) (hb : ∀ k, b k ≤ 1) (h36 : ∀ k, 36 ≤ k → b k = 0) : ∃ v1 v2 v3, v1 < 2 ^ 40 ∧ v2 < 2 ^ 40 ∧ v3 < 2 ^ 48 ∧ dg 1 b 36 / 2 ^ 1 &&& 6148914691236517205 ≤ dg 1 b 36 ∧ dg 1 b 36 - (dg 1 b 36 / 2 ^ 1 &&& 6148914691236517205) = v1 ∧ (v1 &&& 3689348814741910323) + (v1 / 2 ^ 2 &&& 3689348814741910323) = v2 ∧ (v2 + v2 / 2 ^ 4) &&& 1085102592571150095 = v3 ∧ ∃ g0 g1 g2 g3 g4, g0 ≤ 8 ∧ g1 ≤ 8 ∧ g2 ≤ 8 ∧ g3 ≤ 8 ∧ g4 ≤ 8 ∧ v3 = g0 + 256 * (g1 + 256 * (g2 + 256 * (g3 + 256 * g4))) ∧ g0 + g1 + g2 + g3 + g4 = fb_sm b 36 := by
  have c1 : mkm 1 32 = 6148914691236517205 := by decide +kernel
  have c2 : mkm 2 16 = 3689348814741910323 := by decide +kernel
  have c3 : mkm 4 8 = 1085102592571150095 := by decide +kernel
  have p1 : dg 1 b 36 / 2 ^ 1 = dg 1 (fun j => b (j + 1)) 36 := dg_sh (h36 36 (by omega)) (by have := hb 0; omega)
  have p2 : dg 1 (fun j => b (j + 1)) 36 &&& 6148914691236517205 = dg 2 (fun j => b (2 * j + 1)) 18 := by
    rw [← c1]
    exact dg_mask (w := 1) (n := 18) (m := 32) (f := fun j => b (j + 1)) (fun j => by have := hb (j + 1); show b (j + 1) < 2 ^ 1; omega) (by omega)
  have p3 : dg 1 b 36 = dg 2 (fun j => b (2 * j) + b (2 * j + 1)) 18 + dg 2 (fun j => b (2 * j + 1)) 18 := by
    rw [dg_add]
    have := dg_two 1 18 b
    rw [this]
    exact dg_cong (fun j _ => by omega)
  let c : Nat → Nat := fun j => b (2 * j) + b (2 * j + 1)
  have hc : ∀ j, c j ≤ 2 := fun j => by have := hb (2 * j); have := hb (2 * j + 1); show b (2 * j) + b (2 * j + 1) ≤ 2; omega
  have hc18 : ∀ j, 18 ≤ j → c j = 0 := fun j hj => by show b (2 * j) + b (2 * j + 1) = 0; rw [h36 _ (by omega), h36 _ (by omega)]
  let e : Nat → Nat := fun j => c (2 * j) + c (2 * j + 1)
  have he : ∀ j, e j ≤ 4 := fun j => by have := hc (2 * j); have := hc (2 * j + 1); show c (2 * j) + c (2 * j + 1) ≤ 4; omega
  have he9 : ∀ j, 9 ≤ j → e j = 0 := fun j hj => by show c (2 * j) + c (2 * j + 1) = 0; rw [hc18 _ (by omega), hc18 _ (by omega)]
  let g : Nat → Nat := fun j => e (2 * j) + e (2 * j + 1)
  have hg : ∀ j, g j ≤ 8 := fun j => by have := he (2 * j); have := he (2 * j + 1); show e (2 * j) + e (2 * j + 1) ≤ 8; omega
  have q1 : dg 2 c 18 &&& 3689348814741910323 = dg 4 (fun j => c (2 * j)) 9 := by
    rw [← c2]
    exact dg_mask (w := 2) (n := 9) (m := 16) (fun j => by have := hc j; omega) (by omega)
  have q2 : dg 2 c 18 / 2 ^ 2 = dg 2 (fun j => c (j + 1)) 18 := dg_sh (hc18 18 (by omega)) (by have := hc 0; omega)
  have q3 : dg 2 (fun j => c (j + 1)) 18 &&& 3689348814741910323 = dg 4 (fun j => c (2 * j + 1)) 9 := by
    rw [← c2]
    exact dg_mask (w := 2) (n := 9) (m := 16) (f := fun j => c (j + 1)) (fun j => by have := hc (j + 1); show c (j + 1) < 2 ^ 2; omega) (by omega)
  have q4 : dg 4 (fun j => c (2 * j)) 9 + dg 4 (fun j => c (2 * j + 1)) 9 = dg 4 e 9 := dg_add 4 9 _ _
  have r1 : dg 4 e 9 / 2 ^ 4 = dg 4 (fun j => e (j + 1)) 9 := dg_sh (he9 9 (by omega)) (by have := he 0; omega)
  have r2 : dg 4 e 9 + dg 4 (fun j => e (j + 1)) 9 = dg 4 (fun j => e j + e (j + 1)) 10 := by
    have z : e 9 + e 10 = 0 := by rw [he9 9 (by omega), he9 10 (by omega)]
    have t : dg 4 (fun j => e j + e (j + 1)) 10 = dg 4 (fun j => e j + e (j + 1)) 9 + (e 9 + e 10) * 2 ^ (4 * 9) := dg_top 4 9 _
    rw [z, Nat.zero_mul] at t
    exact (dg_add 4 9 _ _).trans (t.trans (Nat.add_zero _)).symm
  have r3 : dg 4 (fun j => e j + e (j + 1)) 10 &&& 1085102592571150095 = dg 8 g 5 := by
    rw [← c3]
    exact dg_mask (w := 4) (n := 5) (m := 8) (f := fun j => e j + e (j + 1)) (fun j => by have := he j; have := he (j + 1); show e j + e (j + 1) < 2 ^ 4; omega) (by omega)
  have ev : dg 8 g 5 = g 0 + 256 * (g 1 + 256 * (g 2 + 256 * (g 3 + 256 * g 4))) := by
    simp only [dg_S]
    simp [dg]
  refine ⟨dg 2 c 18, dg 4 e 9, dg 8 g 5, ?_, ?_, ?_, ?_, ?_, ?_, ?_, g 0, g 1, g 2, g 3, g 4, hg 0, hg 1, hg 2, hg 3, hg 4, ev, ?_⟩
  · exact Nat.lt_of_lt_of_le (dg_lt (w := 2) (n := 18) (fun j => by have := hc j; omega)) (Nat.le_of_ble_eq_true rfl)
  · exact Nat.lt_of_lt_of_le (dg_lt (w := 4) (n := 9) (fun j => by have := he j; omega)) (Nat.le_of_ble_eq_true rfl)
  · rw [ev]
    have h0 := hg 0; have h1 := hg 1; have h2 := hg 2; have h3 := hg 3; have h4 := hg 4
    omega
  · rw [p1, p2, p3]; omega
  · rw [p1, p2, p3]; exact Nat.add_sub_cancel _ _
  · rw [q1, q2, q3, q4]
  · rw [r1, r2, r3]
  · show (b 0 + b 1 + (b 2 + b 3)) + (b 4 + b 5 + (b 6 + b 7)) + ((b 8 + b 9 + (b 10 + b 11)) + (b 12 + b 13 + (b 14 + b 15))) + ((b 16 + b 17 + (b 18 + b 19)) + (b 20 + b 21 + (b 22 + b 23))) + ((b 24 + b 25 + (b 26 + b 27)) + (b 28 + b 29 + (b 30 + b 31))) + ((b 32 + b 33 + (b 34 + b 35)) + (b 36 + b 37 + (b 38 + b 39))) = _
    rw [h36 36 (by omega), h36 37 (by omega), h36 38 (by omega), h36 39 (by omega)]
    simp only [fb_sm]
    omega
theorem ct_sm36 (p : Nat → Bool) : fb_ct p 36 = fb_sm (fun k => if p k then 1 else 0) 36 := ct_sm p 36
theorem pcL_ok (p : Nat → Bool) : pcL (lN (bs p 36)) = nI (fb_ct p 36) := by
  let b : Nat → Nat := fun k => if k < 36 ∧ p k = true then 1 else 0
  have eb : bs p 36 = dg 1 b 36 := by
    rw [bs_dg]
    exact dg_cong (fun j hj => by show _ = (if j < 36 ∧ p j = true then 1 else 0); simp [hj])
  have es : fb_ct p 36 = fb_sm b 36 := by
    rw [ct_sm36]
    exact fb_sm_cong (fun j hj => by show _ = (if j < 36 ∧ p j = true then 1 else 0); simp [hj])
  obtain ⟨v1, v2, v3, l1, l2, l3, a1, a2, a3, a4, g0, g1, g2, g3, g4, h0, h1, h2, h3, h4, e3, e4⟩ := pc_nat b (fun k => by show (if k < 36 ∧ p k = true then 1 else 0) ≤ 1; split <;> omega) (fun k hk => by show (if k < 36 ∧ p k = true then 1 else 0) = 0; rw [if_neg (by omega)])
  have hlt : dg 1 b 36 < 2 ^ 64 := by rw [← eb]; exact w_lt p
  have k1 : (6148914691236517205 : Int64) = lN 6148914691236517205 := rfl
  have k2 : (3689348814741910323 : Int64) = lN 3689348814741910323 := rfl
  have k3 : (1085102592571150095 : Int64) = lN 1085102592571150095 := rfl
  have k4 : (127 : Int32) = nI (2 ^ 7 - 1) := rfl
  unfold pcL
  rw [eb, es]
  dsimp only
  rw [k1, k2, k3, k4, shL_n hlt (by decide), fb_andL, lN_sub a1, a2, shL_n (show v1 < 2 ^ 64 by omega) (by decide), fb_andL, fb_andL, lN_add, a3, shL_n (show v2 < 2 ^ 64 by omega) (by decide), lN_add, fb_andL, a4, shL_n (show v3 < 2 ^ 64 by omega) (by decide), lN_add, shL_n (show v3 + v3 / 2 ^ 8 < 2 ^ 64 by omega) (by decide), lN_add, shL_n (show v3 + v3 / 2 ^ 8 + (v3 + v3 / 2 ^ 8) / 2 ^ 16 < 2 ^ 64 by omega) (by decide), lN_add, lN_i, fa_mask]
  congr 1
  rw [e3, ← e4]
  have d1 : (g0 + 256 * (g1 + 256 * (g2 + 256 * (g3 + 256 * g4)))) / 2 ^ 8 = g1 + 256 * (g2 + 256 * (g3 + 256 * g4)) := by omega
  rw [d1]
  have d2 : (g0 + 256 * (g1 + 256 * (g2 + 256 * (g3 + 256 * g4))) + (g1 + 256 * (g2 + 256 * (g3 + 256 * g4)))) = (g0 + g1) + 256 * ((g1 + g2) + 256 * ((g2 + g3) + 256 * ((g3 + g4) + 256 * g4))) := by omega
  rw [d2]
  generalize hh0 : g0 + g1 = a0
  generalize hh1 : g1 + g2 = a1
  generalize hh2 : g2 + g3 = a2
  generalize hh3 : g3 + g4 = a3
  have d3 : (a0 + 256 * (a1 + 256 * (a2 + 256 * (a3 + 256 * g4)))) / 2 ^ 16 = a2 + 256 * (a3 + 256 * g4) := by omega
  rw [d3]
  have d4 : a0 + 256 * (a1 + 256 * (a2 + 256 * (a3 + 256 * g4))) + (a2 + 256 * (a3 + 256 * g4)) = (a0 + a2) + 256 * ((a1 + a3) + 256 * ((a2 + g4) + 256 * (a3 + 256 * g4))) := by omega
  rw [d4]
  have d5 : ((a0 + a2) + 256 * ((a1 + a3) + 256 * ((a2 + g4) + 256 * (a3 + 256 * g4)))) / 2 ^ 32 = g4 := by omega
  rw [d5]
  omega
theorem c_bitL (p : Nat → Bool) {sh : SShp} {me : SMem} {Q : SQ} (h : Q (some (.int (nI (fb_ct p 36)))) sh me) : C_J13_bitCount_95d88 [.long (lN (bs p 36))] sh me Q := by
  unfold C_J13_bitCount_95d88
  refine w_J13_bitCount_95d88_0 ?_
  simp only [o_const, o_iload, o_lload, o_aload, o_istore, o_astore, o_lstore, o_iinc, o_i1, o_i2, o_div, o_l2, o_lsh, o_il, o_li, o_lcmp, o_pop, o_dup, o_dup2, o_dupx1, o_if, o_ic, o_sw, s_sw, o_getI, o_getJ, o_getR, o_putI, o_putZ, o_putJ, o_putR, o_iald, o_iast, o_lald, o_last, o_aald, o_alen, o_tald, o_getsA, o_call, o_callV, s_rc, o_math1, o_math2, o_copyl, o_vret, o_iret, o_zret, o_lret, o_aret, s_get, s_put1, s_put2, s_unl, s_head, s_pop, s_sm, s_ret, Option.toList, List.cons_append, List.nil_append, List.length_cons, List.length_nil, Value.category, s_uI_t, s_uJ_t, s_uR_0, s_uR_1, sh_n, Nat.reduceLT, Nat.reduceAdd, Nat.reduceEqDiff, true_and, and_true, eq_self, true_or, or_true, not_false_eq_true, not_true_eq_false, n6, n9, n2, n4, n5, n10, n64, n1000, B_J13_bitCount_95d88_0]
  exact mq h (pcL_ok p)
def pck (ok : Nat → Bool) (bt : Nat → Nat → Bool) : Nat → Option Nat
  | 0 => none
  | n + 1 => if ok n then (match pck ok bt n with
    | none => some n
    | some b => if bt n b then some n else some b) else pck ok bt n
theorem pck_S (ok : Nat → Bool) (bt : Nat → Nat → Bool) (n : Nat) : pck ok bt (n + 1) = if ok n then (match pck ok bt n with
    | none => some n
    | some b => if bt n b then some n else some b) else pck ok bt n := rfl
theorem pck_i {ok : Nat → Bool} {bt : Nat → Nat → Bool} : ∀ {n b : Nat}, pck ok bt n = some b → b < n ∧ ok b = true
  | 0, b, h => by cases h
  | n + 1, b, h => by
    rw [pck_S] at h
    split at h
    · rename_i ho
      cases hp : pck ok bt n with
      | none => rw [hp] at h; cases h; exact ⟨by omega, ho⟩
      | some c =>
        rw [hp] at h
        have := pck_i hp
        simp only at h
        split at h
        · cases h; exact ⟨by omega, ho⟩
        · cases h; exact ⟨by omega, this.2⟩
    · have := pck_i h
      exact ⟨by omega, this.2⟩
theorem pck_none {ok : Nat → Bool} {bt : Nat → Nat → Bool} : ∀ {n : Nat}, pck ok bt n = none → ∀ k, k < n → ok k = false
  | 0, _, k, hk => by omega
  | n + 1, h, k, hk => by
    rw [pck_S] at h
    split at h
    · cases hp : pck ok bt n with
      | none => rw [hp] at h; cases h
      | some c =>
        rw [hp] at h
        simp only at h
        split at h <;> cases h
    · rename_i ho
      rcases Nat.lt_or_ge k n with g | g
      · exact pck_none h k g
      · obtain rfl : k = n := by omega
        simpa using ho
theorem pck_cong {ok ok2 : Nat → Bool} {bt bt2 : Nat → Nat → Bool} : ∀ {n : Nat}, (∀ k, k < n → ok k = ok2 k) → (∀ a b, a < n → b < a → ok a = true → ok b = true → bt a b = bt2 a b) → pck ok bt n = pck ok2 bt2 n
  | 0, _, _ => rfl
  | n + 1, h1, h2 => by
    rw [pck_S, pck_S, ← h1 n (by omega), ← pck_cong (fun k hk => h1 k (by omega)) (fun a b ha hb => h2 a b (by omega) hb)]
    split
    · rename_i ho
      cases hp : pck ok bt n with
      | none => rfl
      | some c =>
        have := pck_i hp
        simp only
        rw [h2 n c (by omega) this.1 ho this.2]
    · rfl
