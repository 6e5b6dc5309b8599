/-! numbers, for the simplifier, with omega beside it -/
theorem nE {a b : Nat} (ha : a < 2147483648) (hb : b < 2147483648) : (nI a = nI b) = (a = b) := propext (nI_eq ha hb)
theorem nLt {a b : Nat} (ha : a < 2147483648) (hb : b < 2147483648) : (nI a < nI b) = (a < b) := propext (nI_ltI ha hb)
theorem nLe {a b : Nat} (ha : a < 2147483648) (hb : b < 2147483648) : (nI a ≤ nI b) = (a ≤ b) := propext (nI_leI ha hb)
theorem nE1 {a : Nat} (ha : a < 2147483648) : (nI a = 1) = (a = 1) := nE (b := 1) ha (by decide)
theorem nE1' {a : Nat} (ha : a < 2147483648) : (1 = nI a) = (1 = a) := nE (a := 1) (by decide) ha
theorem nLt1 {a : Nat} (ha : a < 2147483648) : (nI a < 1) = (a < 1) := nLt (b := 1) ha (by decide)
theorem nLe1 {a : Nat} (ha : a < 2147483648) : (nI a ≤ 1) = (a ≤ 1) := nLe (b := 1) ha (by decide)
theorem n1Lt {a : Nat} (ha : a < 2147483648) : (1 < nI a) = (1 < a) := nLt (a := 1) (by decide) ha
theorem n1Le {a : Nat} (ha : a < 2147483648) : (1 ≤ nI a) = (1 ≤ a) := nLe (a := 1) (by decide) ha
theorem m1_ne {a : Nat} (ha : a < 2147483648) : (nI a = -1) = False := eq_false (fun h => by
  have := congrArg Int32.toInt h
  rw [nI_toInt ha] at this
  have e : (-1 : Int32).toInt = -1 := by decide
  rw [e] at this
  omega)
theorem m1_ne' {a : Nat} (ha : a < 2147483648) : (-1 = nI a) = False := by
  rw [← m1_ne ha]; exact propext ⟨Eq.symm, Eq.symm⟩
theorem m1_lt {a : Nat} (ha : a < 2147483648) : (nI a < -1) = False := eq_false (fun h => by
  rw [fa_lt, nI_toInt ha, show (-1 : Int32).toInt = -1 by decide] at h
  omega)
theorem nSub {a b : Nat} (h : b ≤ a) : nI a - nI b = nI (a - b) := pk_sub h
theorem nSub1 {a : Nat} (h : 1 ≤ a) : nI a - 1 = nI (a - 1) := pk_sub (b := 1) h
theorem nDv {a d : Nat} (ha : a < 2147483648) (h0 : 0 < d) (hd : d < 2147483648) : nI a / nI d = nI (a / d) := pk_div ha h0 hd
theorem n_md (a d : Nat) : a - a / d * d = a % d := by
  have := Nat.div_add_mod a d
  rw [Nat.mul_comm] at this
  omega
theorem nVp {a n : Nat} (ha : a < n) (hn : n < 2147483648) : vp_in (nI a) n = True := eq_true (vp_in_nI ha hn)
theorem nVp0 {n : Nat} (ha : 0 < n) (hn : n < 2147483648) : vp_in 0 n = True := nVp (a := 0) ha hn
theorem nVp1 {n : Nat} (ha : 1 < n) (hn : n < 2147483648) : vp_in 1 n = True := nVp (a := 1) ha hn
theorem nCl {a : Nat} (ha : a < 2147483648) : (nI a).toNatClampNeg = a := nI_clamp ha
theorem n_0 : (0 : Int32) = nI 0 := rfl
theorem n_2 : (2 : Int32) = nI 2 := rfl
theorem n_3 : (3 : Int32) = nI 3 := rfl
theorem n_4 : (4 : Int32) = nI 4 := rfl
theorem n_5 : (5 : Int32) = nI 5 := rfl
theorem n_6 : (6 : Int32) = nI 6 := rfl
theorem n_7 : (7 : Int32) = nI 7 := rfl
theorem n_8 : (8 : Int32) = nI 8 := rfl
theorem n_9 : (9 : Int32) = nI 9 := rfl
theorem n_10 : (10 : Int32) = nI 10 := rfl
theorem n_11 : (11 : Int32) = nI 11 := rfl
theorem n_16 : (16 : Int32) = nI 16 := rfl
theorem n_20 : (20 : Int32) = nI 20 := rfl
theorem n_30 : (30 : Int32) = nI 30 := rfl
theorem n_32 : (32 : Int32) = nI 32 := rfl
theorem n_36 : (36 : Int32) = nI 36 := rfl
theorem n_40 : (40 : Int32) = nI 40 := rfl
theorem n_48 : (48 : Int32) = nI 48 := rfl
theorem n_57 : (57 : Int32) = nI 57 := rfl
theorem n_59 : (59 : Int32) = nI 59 := rfl
theorem n_60 : (60 : Int32) = nI 60 := rfl
theorem n_64 : (64 : Int32) = nI 64 := rfl
theorem n_97 : (97 : Int32) = nI 97 := rfl
theorem n_98 : (98 : Int32) = nI 98 := rfl
theorem n_99 : (99 : Int32) = nI 99 := rfl
theorem n_100 : (100 : Int32) = nI 100 := rfl
theorem n_101 : (101 : Int32) = nI 101 := rfl
theorem n_108 : (108 : Int32) = nI 108 := rfl
theorem n_112 : (112 : Int32) = nI 112 := rfl
theorem n_114 : (114 : Int32) = nI 114 := rfl
theorem n_115 : (115 : Int32) = nI 115 := rfl
theorem n_119 : (119 : Int32) = nI 119 := rfl
theorem n_130 : (130 : Int32) = nI 130 := rfl
theorem n_160 : (160 : Int32) = nI 160 := rfl
theorem n_1000 : (1000 : Int32) = nI 1000 := rfl
theorem n_9999 : (9999 : Int32) = nI 9999 := rfl
theorem n_1280 : (1280 : Int32) = nI 1280 := rfl
theorem n_100000000 : (100000000 : Int32) = nI 100000000 := rfl
theorem n_268435456 : (268435456 : Int32) = nI 268435456 := rfl
theorem n_35 : (35 : Int32) = nI 35 := rfl
theorem n_17 : (17 : Int32) = nI 17 := rfl
theorem n_51 : (51 : Int32) = nI 51 := rfl
theorem n_50 : (50 : Int32) = nI 50 := rfl
theorem n_70 : (70 : Int32) = nI 70 := rfl
theorem n_71 : (71 : Int32) = nI 71 := rfl
theorem n_12 : (12 : Int32) = nI 12 := rfl
theorem mq {Q : SQ} {a b : Int32} {sh : SShp} {me : SMem} (h : Q (some (.int b)) sh me) (e : a = b) : Q (some (.int a)) sh me := e ▸ h
theorem mqL {Q : SQ} {a b : Int64} {sh : SShp} {me : SMem} (h : Q (some (.long b)) sh me) (e : a = b) : Q (some (.long a)) sh me := e ▸ h
def bi (p : Prop) [Decidable p] : Int32 := if p then 1 else 0
theorem bi_0 (p : Prop) [Decidable p] : (bi p = 0) ↔ ¬ p := by by_cases h : p <;> simp [bi, h]
theorem bi_n0 (p : Prop) [Decidable p] : (bi p = nI 0) ↔ ¬ p := bi_0 p
theorem bi_01 (p : Prop) [Decidable p] : bi p = 0 ∨ bi p = 1 := by by_cases h : p <;> simp [bi, h]
theorem bi_o (p : Prop) [Decidable p] : (bi p = nI 0 ∨ bi p = 1) = True := eq_true (bi_01 p)
theorem bi_t {p : Prop} [Decidable p] (h : p) : bi p = 1 := if_pos h
theorem bi_f {p : Prop} [Decidable p] (h : ¬ p) : bi p = 0 := if_neg h
theorem bi_e {p q : Prop} [Decidable p] [Decidable q] (h : p ↔ q) : bi p = bi q := by
  by_cases hp : p
  · rw [bi_t hp, bi_t (h.mp hp)]
  · rw [bi_f hp, bi_f (fun z => hp (h.mpr z))]
theorem o01 : (nI 0 = nI 0 ∨ nI 0 = 1) = True := eq_true (Or.inl rfl)
theorem o11 : ((1 : Int32) = nI 0 ∨ (1 : Int32) = 1) = True := eq_true (Or.inr rfl)
theorem n1_0 : ((1 : Int32) = nI 0) = False := by decide
theorem n0_1 : (nI 0 = (1 : Int32)) = False := by decide
theorem nm_0 : ((-1 : Int32) = nI 0) = False := by decide
theorem nShl {k : Nat} (h : k < 31) : (1 : Int32) <<< (nI k &&& 31) = nI (2 ^ k) := by
  have h2 : 1 * 2 ^ k < 2 ^ 32 := by rw [Nat.one_mul]; exact Nat.pow_lt_pow_right (by decide) (by omega)
  have := pk_shlN (n := 1) (nI k &&& 31) k (s_l k (by omega)) h2
  rw [Nat.one_mul] at this
  exact this
theorem nIL {a : Nat} (ha : a < 2147483648) : (nI a).toInt64 = lN a := nI_l ha
theorem nMx {a b : Nat} (ha : a < 1073741824) (hb : b < 1073741824) : s_max (nI 0) (nI a - nI b) = nI (a - b) := by
  unfold s_max
  rcases Nat.lt_or_ge a b with g | g
  · rw [if_neg, Nat.sub_eq_zero_of_le (Nat.le_of_lt g)]
    exact fun z => (fa_of_lt z).2.2.1 (pk_sneg hb g)
  · rw [pk_sub g]
    split
    · rfl
    · rename_i h
      rw [nLt (by omega) (by omega)] at h
      rw [show a - b = 0 by omega]
theorem nAb {a b : Nat} (ha : a < 1073741824) (hb : b < 1073741824) : s_abs (nI a - nI b) = nI (if a < b then b - a else a - b) := by
  unfold s_abs
  rcases Nat.lt_or_ge a b with g | g
  · rw [if_neg (fun z => absurd (pk_sneg hb g) (Int32.not_lt.mpr z)), if_pos g]
    rw [← pk_sub (Nat.le_of_lt g)]
    apply (fa_eq _ _).mpr
    have e1 := pk_sub_toInt ha hb
    have e2 := pk_sub_toInt hb ha
    rw [fb_subI (by rw [e1]; simp; omega) (by rw [e1]; simp; omega), e1, e2]
    simp
    omega
  · rw [pk_sub g, if_pos (nI_pos' (by omega)), if_neg (by omega)]
theorem nMn {a b : Nat} (ha : a < 2147483648) (hb : b < 2147483648) : s_min (nI a) (nI b) = nI (min a b) := by
  unfold s_min
  simp only [nLt hb ha]
  split
  · rw [Nat.min_eq_right (by omega)]
  · rw [Nat.min_eq_left (by omega)]
theorem nRm (a d : Nat) : nI a - nI (a / d * d) = nI (a % d) := by rw [pk_sub (Nat.div_mul_le_self a d), n_md]
