/-! THE TOWN, as numbers. σ.1 j i: j 0 kind, 1 a, 2 looks, 3 shame, 4 purse, 5 at, 6 sack of person i; 7 wall, 8 balcony of square i. σ.2.1: 0 people, 1 mite, 2 reach, 3 rain. σ.2.2: 0 hours, 1 taken, 2 seed -/
abbrev TS : Type := (Nat → Nat → Nat) × (Nat → Nat) × (Nat → Int32)
def TP (σ : TS) (i : Nat) : Prop := σ.1 0 i < 7 ∧ σ.1 1 i ≤ 9 ∧ σ.1 2 i ≤ 20 ∧ σ.1 3 i ≤ 9 ∧ σ.1 4 i ≤ 9999 ∧ σ.1 5 i < 36 ∧ σ.1 7 (σ.1 5 i) = 0 ∧ σ.1 6 i ≤ 1
def TW (σ : TS) : Prop := σ.2.1 0 ≤ 7 ∧ (∀ i, i < σ.2.1 0 → TP σ i) ∧ (∀ c, c < 36 → σ.1 7 c ≤ 1 ∧ σ.1 8 c ≤ 1) ∧ 1 ≤ σ.2.1 1 ∧ σ.2.1 1 ≤ 9 ∧ 1 ≤ σ.2.1 2 ∧ σ.2.1 2 ≤ 5 ∧ σ.2.1 3 ≤ 1
/-- a set of numbers below n, as bits -/
def bs (p : Nat → Bool) : Nat → Nat
  | 0 => 0
  | n + 1 => bs p n + if p n then 2 ^ n else 0
theorem bs_lt (p : Nat → Bool) : ∀ n, bs p n < 2 ^ n
  | 0 => by simp [bs]
  | n + 1 => by
    have := bs_lt p n
    rw [bs, Nat.pow_succ]
    split <;> omega
theorem bs_bit (p : Nat → Bool) {k : Nat} : ∀ {n : Nat}, k < n → bs p n / 2 ^ k % 2 = if p k then 1 else 0
  | n + 1, h => by
    rw [bs]
    rcases Nat.lt_or_ge k n with g | g
    · have e : (if p n then 2 ^ n else 0) = 2 ^ k * (if p n then 2 ^ (n - k) else 0) := by
        split
        · rw [← Nat.pow_add]; congr 1; omega
        · rfl
      rw [e, Nat.add_mul_div_left _ _ (Nat.two_pow_pos k), ← bs_bit p g]
      have e2 : (if p n then 2 ^ (n - k) else 0) % 2 = 0 := by
        split
        · rw [show n - k = (n - k - 1) + 1 by omega, Nat.pow_succ]; omega
        · rfl
      omega
    · obtain rfl : k = n := by omega
      have := bs_lt p k
      split
      · rw [Nat.add_div_right _ (Nat.two_pow_pos k), Nat.div_eq_of_lt this]
      · rw [Nat.add_zero, Nat.div_eq_of_lt this]
theorem bs_cong {p q : Nat → Bool} : ∀ {n : Nat}, (∀ k, k < n → p k = q k) → bs p n = bs q n
  | 0, _ => rfl
  | n + 1, h => by rw [bs, bs, bs_cong (fun k hk => h k (by omega)), h n (by omega)]
theorem bs_test (p : Nat → Bool) (n k : Nat) : (bs p n).testBit k = (decide (k < n) && p k) := by
  rcases Nat.lt_or_ge k n with g | g
  · rw [Nat.testBit_eq_decide_div_mod_eq, bs_bit p g]
    cases p k <;> simp [g]
  · rw [Nat.testBit_lt_two_pow (Nat.lt_of_lt_of_le (bs_lt p n) (Nat.pow_le_pow_right (by decide) g))]
    simp [Nat.not_lt.mpr g]
/-- how far -/
def ds (a b : Nat) : Nat := (if a / 6 < b / 6 then b / 6 - a / 6 else a / 6 - b / 6) + (if a % 6 < b % 6 then b % 6 - a % 6 else a % 6 - b % 6)
/-- the square beside -/
def bd (c w : Nat) : Option Nat := if w = 0 then (if c < 6 then none else some (c - 6)) else if w = 1 then (if c % 6 < 5 then some (c + 1) else none) else if w = 2 then (if c < 30 then some (c + 6) else none) else if w = 3 then (if 0 < c % 6 then some (c - 1) else none) else none
def ob : Option Nat → Int32
  | none => -1
  | some c => nI c
def sp (a b : Nat) : Nat := if a / 6 = b / 6 then 1 else 6
/-- who is in view of whom -/
def sees (σ : TS) (a b : Nat) : Bool := decide (a = b) || (decide (a / 6 = b / 6 ∨ a % 6 = b % 6) && decide (ds a b ≤ σ.2.1 2) && (List.range 36).all fun k => !decide (min a b < k ∧ k < max a b ∧ (k - min a b) % sp a b = 0) || decide (σ.1 7 k = 0))
theorem sees_iff (σ : TS) (a b : Nat) : sees σ a b = true ↔ (a = b ∨ (a / 6 = b / 6 ∨ a % 6 = b % 6) ∧ ds a b ≤ σ.2.1 2 ∧ ∀ k, k < 36 → min a b < k → k < max a b → (k - min a b) % sp a b = 0 → σ.1 7 k = 0) := by
  unfold sees
  rw [Bool.or_eq_true, decide_eq_true_eq, Bool.and_eq_true, Bool.and_eq_true, decide_eq_true_eq, decide_eq_true_eq, List.all_eq_true]
  constructor
  · rintro (h | ⟨⟨h1, h2⟩, h3⟩)
    · exact Or.inl h
    · refine Or.inr ⟨h1, h2, fun k hk g1 g2 g3 => ?_⟩
      have := h3 k (List.mem_range.mpr hk)
      rw [Bool.or_eq_true, Bool.not_eq_true', decide_eq_false_iff_not, decide_eq_true_eq] at this
      exact this.resolve_left (fun z => z ⟨g1, g2, g3⟩)
  · rintro (h | ⟨h1, h2, h3⟩)
    · exact Or.inl h
    · refine Or.inr ⟨⟨h1, h2⟩, fun k hk => ?_⟩
      rw [Bool.or_eq_true, Bool.not_eq_true', decide_eq_false_iff_not, decide_eq_true_eq]
      by_cases z : min a b < k ∧ k < max a b ∧ (k - min a b) % sp a b = 0
      · exact Or.inr (h3 k (List.mem_range.mp hk) z.1 z.2.1 z.2.2)
      · exact Or.inl z
def lit (σ : TS) (c : Nat) : Bool := (List.range 36).any fun b => decide (σ.1 8 b = 1) && sees σ b c
theorem lit_iff (σ : TS) (c : Nat) : lit σ c = true ↔ ∃ b, b < 36 ∧ σ.1 8 b = 1 ∧ sees σ b c = true := by
  unfold lit
  rw [List.any_eq_true]
  constructor
  · rintro ⟨b, h1, h2⟩
    rw [Bool.and_eq_true, decide_eq_true_eq] at h2
    exact ⟨b, List.mem_range.mp h1, h2.1, h2.2⟩
  · rintro ⟨b, h1, h2, h3⟩
    exact ⟨b, List.mem_range.mpr h1, by rw [Bool.and_eq_true, decide_eq_true_eq]; exact ⟨h2, h3⟩⟩
def sun (σ : TS) (i : Nat) : Nat := if σ.1 0 i = 1 then σ.1 2 i * 2 else if σ.1 0 i = 2 then σ.1 2 i * 2 + σ.1 1 i else if σ.1 0 i = 6 then σ.1 2 i - σ.1 3 i else σ.1 2 i
def shw (σ : TS) (i : Nat) : Nat := if σ.1 6 i = 1 then 0 else if σ.2.1 3 = 1 then sun σ i / 2 else sun σ i
/-- who isn't there, if somebody: mi -/
def would (σ : TS) (mi : Option Nat) (x y : Nat) : Bool := decide (¬ x = y ∧ mi ≠ some x ∧ mi ≠ some y ∧ σ.1 0 x ≠ 3 ∧ σ.1 0 x ≠ 5) && sees σ (σ.1 5 x) (σ.1 5 y) && decide (σ.1 3 x + ds (σ.1 5 x) (σ.1 5 y) < shw σ y)
def drs (σ : TS) (mi : Option Nat) (x : Nat) : Nat → Option Nat
  | 0 => none
  | n + 1 => if would σ mi x n then (match drs σ mi x n with
    | none => some n
    | some o => if ds (σ.1 5 x) (σ.1 5 n) < ds (σ.1 5 x) (σ.1 5 o) ∨ ds (σ.1 5 x) (σ.1 5 n) = ds (σ.1 5 x) (σ.1 5 o) ∧ shw σ o < shw σ n then some n else some o) else drs σ mi x n
def glan (σ : TS) (mi : Option Nat) (x y : Nat) : Bool := if σ.1 0 x = 4 ∨ σ.1 0 x = 6 then decide (drs σ mi x (σ.2.1 0) = some y) else would σ mi x y
/-- how many glance at y -/
def lkn (σ : TS) (mi : Option Nat) (y : Nat) : Nat := fb_ct (fun x => glan σ mi x y) (σ.2.1 0)
def owes (σ : TS) (mi : Option Nat) (y : Nat) : Nat := if σ.1 0 y = 5 ∨ mi = some y ∨ lit σ (σ.1 5 y) = false then 0 else if σ.1 0 y = 2 then σ.2.1 1 * lkn σ mi y - σ.2.1 1 * lkn σ mi y / 9 else σ.2.1 1 * lkn σ mi y
def fine (σ : TS) (x : Nat) : Nat := σ.2.1 1 * fb_ct (fun y => glan σ none x y && lit σ (σ.1 5 y)) (σ.2.1 0)
def ent (σ : TS) : Nat := fb_sm (fun y => if lit σ (σ.1 5 y) then lkn σ none y else 0) (σ.2.1 0)
/-- how the class's town at t, and the reference, hold it -/
def CT (t : Nat) (I : Nat → Nat → Int32) (J : Nat → Nat → Int64) (σ : TS) : Prop := I t 1 = nI (σ.2.1 0) ∧ I t 4 = nI (σ.2.1 1) ∧ I t 5 = nI (σ.2.1 2) ∧ I t 6 = nI (σ.2.1 3) ∧ I t 7 = σ.2.2 0 ∧ I t 8 = σ.2.2 1 ∧ I t 9 = σ.2.2 2 ∧ J t 2 = lN (bs (fun c => decide (σ.1 7 c = 1)) 36) ∧ J t 3 = lN (bs (fun c => decide (σ.1 8 c = 1)) 36) ∧ ∀ i, i < σ.2.1 0 → ∀ j, j < 7 → I (t + 2 + i) j = nI (σ.1 j i)
def MT (I : Nat → Nat → Int32) (σ : TS) : Prop := I 80 0 = nI (σ.2.1 0) ∧ I 80 1 = nI (σ.2.1 1) ∧ I 80 2 = nI (σ.2.1 2) ∧ I 80 3 = nI (σ.2.1 3) ∧ I 80 4 = σ.2.2 0 ∧ I 80 5 = σ.2.2 1 ∧ I 80 6 = σ.2.2 2 ∧ (∀ c, c < 36 → I 89 c = nI (σ.1 7 c) ∧ I 90 c = nI (σ.1 8 c)) ∧ ∀ i, i < σ.2.1 0 → ∀ j, j < 7 → I (82 + j) i = nI (σ.1 j i)
/-- a town of the class's: where it may be -/
def IsT (t : Nat) : Prop := t = 1 ∨ t = 10 ∨ t = 19 ∨ t = 35
theorem ist_lt {t : Nat} (h : IsT t) : t < 100 ∧ t + 9 < 108 := by rcases h with rfl | rfl | rfl | rfl <;> decide
theorem ist_c {t : Nat} (h : IsT t) : SH.2.2.1 t = 7 := by rcases h with rfl | rfl | rfl | rfl <;> rfl
theorem ist_c1 {t : Nat} (h : IsT t) : SH.2.2.1 (t + 1) = 12 := by rcases h with rfl | rfl | rfl | rfl <;> rfl
theorem ist_l1 {t : Nat} (h : IsT t) : SH.2.2.2 (t + 1) = 7 := by rcases h with rfl | rfl | rfl | rfl <;> rfl
theorem ist_r {t : Nat} (h : IsT t) (p q : Option Nat) : RS p q t 0 = some (t + 1) := by rcases h with rfl | rfl | rfl | rfl <;> rfl
theorem ist_r1 {t : Nat} (h : IsT t) (p q : Option Nat) : ∀ i, i < 7 → RS p q (t + 1) i = some (t + 2 + i) := by
  intro i hi
  rcases (show i = 0 ∨ i = 1 ∨ i = 2 ∨ i = 3 ∨ i = 4 ∨ i = 5 ∨ i = 6 by omega) with rfl | rfl | rfl | rfl | rfl | rfl | rfl <;> rcases h with rfl | rfl | rfl | rfl <;> rfl
theorem ist_cp {t : Nat} (h : IsT t) : ∀ i, i < 7 → SH.2.2.1 (t + 2 + i) = 1 := by
  intro i hi
  rcases (show i = 0 ∨ i = 1 ∨ i = 2 ∨ i = 3 ∨ i = 4 ∨ i = 5 ∨ i = 6 by omega) with rfl | rfl | rfl | rfl | rfl | rfl | rfl <;> rcases h with rfl | rfl | rfl | rfl <;> rfl
