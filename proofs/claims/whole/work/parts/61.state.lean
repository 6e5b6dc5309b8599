/-! both sides' state, in one: town; image; shelves (0 what is held, 1 sort, 2 length, 3 who); elements; refusals; fault; ran; trace -/
abbrev AS : Type := TS × Option TS × (Nat → Nat → Nat) × (Nat → Nat → Int64) × (Nat → Int32) × Int32 × Int32 × (Nat → Int32)
def gT (α : AS) : TS := α.1
def gI (α : AS) : Option TS := α.2.1
def gS (α : AS) : Nat → Nat → Nat := α.2.2.1
def gE (α : AS) : Nat → Nat → Int64 := α.2.2.2.1
def gR (α : AS) : Nat → Int32 := α.2.2.2.2.1
def gF (α : AS) : Int32 := α.2.2.2.2.2.1
def gN (α : AS) : Int32 := α.2.2.2.2.2.2.1
def gK (α : AS) : Nat → Int32 := α.2.2.2.2.2.2.2
def aT (α : AS) (σ : TS) : AS := (σ, α.2)
def aI (α : AS) (x : Option TS) : AS := (α.1, x, α.2.2)
def aS (α : AS) (s : Nat) (S : Nat → Nat) (E : Nat → Int64) : AS := (α.1, α.2.1, (fun u k => if u = s then S k else α.2.2.1 u k), (fun u i => if u = s then E i else α.2.2.2.1 u i), α.2.2.2.2)
def aR (α : AS) (k : Nat) : AS := (α.1, α.2.1, α.2.2.1, α.2.2.2.1, (fun j => if j = k then α.2.2.2.2.1 j + 1 else α.2.2.2.2.1 j), α.2.2.2.2.2)
def aF (α : AS) (f : Int32) : AS := (α.1, α.2.1, α.2.2.1, α.2.2.2.1, α.2.2.2.2.1, f, α.2.2.2.2.2.2)
def aN (α : AS) (n : Int32) (k : Nat → Int32) : AS := (α.1, α.2.1, α.2.2.1, α.2.2.2.1, α.2.2.2.2.1, α.2.2.2.2.2.1, n, k)
/-- the reference's keeping of a town, at a row of 130 -/
def KT (a : Nat) (I : Nat → Nat → Int32) (σ : TS) : Prop := (∀ i, i < σ.2.1 0 → ∀ j, j < 7 → I a (7 * j + i) = nI (σ.1 j i)) ∧ (∀ c, c < 36 → I a (49 + c) = nI (σ.1 7 c) ∧ I a (85 + c) = nI (σ.1 8 c)) ∧ (∀ k, k < 4 → I a (121 + k) = nI (σ.2.1 k)) ∧ ∀ k, k < 3 → I a (125 + k) = σ.2.2 k
def CS (s : Nat) (S : Nat → Nat) (E : Nat → Int64) (I : Nat → Nat → Int32) (J : Nat → Nat → Int64) : Prop := (S 0 = 0 → I (64 + 2 * s) 0 = -1 ∧ I (64 + 2 * s) 1 = nI 0) ∧ (S 0 = 2 → I (64 + 2 * s) 0 = -2 ∧ I (64 + 2 * s) 1 = nI 0 ∧ I (64 + 2 * s) 2 = nI (S 3)) ∧ (S 0 = 1 → I (64 + 2 * s) 0 = nI (S 1) ∧ I (64 + 2 * s) 1 = nI (S 2) ∧ ∀ i, i < 160 → J (65 + 2 * s) i = E i)
def MS (s : Nat) (S : Nat → Nat) (E : Nat → Int64) (I : Nat → Nat → Int32) (J : Nat → Nat → Int64) : Prop := I 91 s = nI (S 0) ∧ (S 0 = 2 → I 94 s = nI (S 3)) ∧ (S 0 = 1 → I 92 s = nI (S 1) ∧ I 93 s = nI (S 2) ∧ ∀ i, i < 160 → J 95 (160 * s + i) = E i)
def CI (x : Option TS) (I : Nat → Nat → Int32) (J : Nat → Nat → Int64) : Prop := match x with
  | none => I 0 3 = nI 0
  | some τ => I 0 3 = 1 ∧ CT 19 I J τ
def NI (x : Option TS) (I : Nat → Nat → Int32) : Prop := match x with
  | none => I 80 43 = nI 0
  | some τ => I 80 43 = 1 ∧ KT 102 I τ
def wordT : List Nat := [119, 97, 108, 108, 32, 0, 103, 97, 112, 32, 0, 98, 97, 108, 99, 111, 110, 121, 32, 0, 112, 101, 114, 115, 111, 110, 32, 0, 115, 97, 99, 107, 32, 0, 109, 105, 116, 101, 32, 0, 114, 101, 97, 99, 104, 32, 0]
def numT : List Nat := [1, 1, 1, 6, 1, 1, 1]
def mostT : List Nat := [6, 9, 20, 9, 99, 35]
def CW (I : Nat → Nat → Int32) : Prop := (∀ k, k < 47 → I 97 k = nI (wordT.getD k 0)) ∧ (∀ k, k < 7 → I 98 k = nI (numT.getD k 0)) ∧ ∀ k, k < 6 → I 99 k = nI (mostT.getD k 0)
def WF (α : AS) : Prop := TW (gT α) ∧ (∀ τ, gI α = some τ → TW τ) ∧ ∀ s, s < 8 → gS α s 0 ≤ 2 ∧ (gS α s 0 = 1 → gS α s 1 ≤ 3 ∧ gS α s 2 ≤ 160) ∧ (gS α s 0 = 2 → gS α s 3 < (gT α).2.1 0)
def RX (α : AS) (I : Nat → Nat → Int32) (J : Nat → Nat → Int64) : Prop := CT 1 I J (gT α) ∧ CI (gI α) I J ∧ (∀ s, s < 8 → CS s (gS α s) (gE α s) I J) ∧ (∀ k, 1 ≤ k → k < 8 → I 63 k = gR α k) ∧ I 59 4 = gF α ∧ I 60 1 = gN α ∧ ∀ i, i < 20 → I 61 i = gK α i
def RM (α : AS) (I : Nat → Nat → Int32) (J : Nat → Nat → Int64) : Prop := MT I (gT α) ∧ NI (gI α) I ∧ (∀ s, s < 8 → MS s (gS α s) (gE α s) I J) ∧ (∀ k, 1 ≤ k → k < 8 → I 81 k = gR α k) ∧ I 80 7 = gF α ∧ I 80 42 = gN α ∧ (∀ i, i < 20 → I 107 i = gK α i) ∧ I 80 36 = -1 ∧ CW I
/-- places that hold nothing between calls -/
def xS (b j : Nat) : Prop := (10 ≤ b ∧ b ≤ 18) ∨ (28 ≤ b ∧ b ≤ 58) ∨ (b = 59 ∧ j ≠ 4) ∨ (b = 60 ∧ j ≠ 1)
def mS (b j : Nat) : Prop := b = 96 ∨ (100 ≤ b ∧ b ≤ 101) ∨ (103 ≤ b ∧ b ≤ 106) ∨ (b = 80 ∧ ((28 ≤ j ∧ j ≤ 32) ∨ j = 40))
def AX (I I' : Nat → Nat → Int32) (J J' : Nat → Nat → Int64) : Prop := (∀ b j, ¬ xS b j → I' b j = I b j) ∧ ∀ b j, ¬ xS b j → J' b j = J b j
def AM (I I' : Nat → Nat → Int32) (J J' : Nat → Nat → Int64) : Prop := (∀ b j, ¬ mS b j → I' b j = I b j) ∧ ∀ b j, ¬ mS b j → J' b j = J b j
theorem ax_0 (I : Nat → Nat → Int32) (J : Nat → Nat → Int64) : AX I I J J := ⟨fun _ _ _ => rfl, fun _ _ _ => rfl⟩
theorem am_0 (I : Nat → Nat → Int32) (J : Nat → Nat → Int64) : AM I I J J := ⟨fun _ _ _ => rfl, fun _ _ _ => rfl⟩
theorem ax_ax {I I1 I2 : Nat → Nat → Int32} {J J1 J2 : Nat → Nat → Int64} (h : AX I I1 J J1) (h2 : AX I1 I2 J1 J2) : AX I I2 J J2 := ⟨fun b j hb => by rw [h2.1 b j hb, h.1 b j hb], fun b j hb => by rw [h2.2 b j hb, h.2 b j hb]⟩
theorem am_am {I I1 I2 : Nat → Nat → Int32} {J J1 J2 : Nat → Nat → Int64} (h : AM I I1 J J1) (h2 : AM I1 I2 J1 J2) : AM I I2 J J2 := ⟨fun b j hb => by rw [h2.1 b j hb, h.1 b j hb], fun b j hb => by rw [h2.2 b j hb, h.2 b j hb]⟩
theorem ax_I {I I' : Nat → Nat → Int32} {J J' : Nat → Nat → Int64} (h : AX I I' J J') {a k : Nat} (ha : xS a k) (x : Int32) : AX I (uI I' a k x) J J' := ⟨fun b j hb => by
  show (if b = a ∧ j = k then x else I' b j) = _
  rw [if_neg (fun z => hb (by rw [z.1, z.2]; exact ha)), h.1 b j hb], h.2⟩
theorem am_I {I I' : Nat → Nat → Int32} {J J' : Nat → Nat → Int64} (h : AM I I' J J') {a k : Nat} (ha : mS a k) (x : Int32) : AM I (uI I' a k x) J J' := ⟨fun b j hb => by
  show (if b = a ∧ j = k then x else I' b j) = _
  rw [if_neg (fun z => hb (by rw [z.1, z.2]; exact ha)), h.1 b j hb], h.2⟩
theorem ax_r {r : Nat} (hr : IsR r) {I I' : Nat → Nat → Int32} {J J' : Nat → Nat → Int64} (h : AR r I I' J J') : AX I I' J J' := by
  refine ⟨fun b j hb => h.1 b j (fun z => hb ?_), fun b j hb => h.2 b j (fun z => hb ?_)⟩ <;> (unfold xS; rcases hr with rfl | rfl | rfl <;> omega)
theorem ax_t {t : Nat} (ht : t = 10 ∨ t = 35) {I I' : Nat → Nat → Int32} {J J' : Nat → Nat → Int64} (h : AT t I I' J J') : AX I I' J J' := by
  refine ⟨fun b j hb => h.1 b j (fun z => hb ?_), fun b j hb => h.2 b j (fun z => hb ?_)⟩ <;> (unfold xS; rcases ht with rfl | rfl <;> omega)
theorem cs_ag {s : Nat} {S : Nat → Nat} {E : Nat → Int64} {I I' : Nat → Nat → Int32} {J J' : Nat → Nat → Int64} (h : CS s S E I J) (h1 : ∀ j, I' (64 + 2 * s) j = I (64 + 2 * s) j) (h2 : ∀ j, J' (65 + 2 * s) j = J (65 + 2 * s) j) : CS s S E I' J' := by
  unfold CS at *
  simp only [h1, h2]
  exact h
theorem ci_ag {x : Option TS} {I I' : Nat → Nat → Int32} {J J' : Nat → Nat → Int64} (h : CI x I J) (hn : ∀ τ, x = some τ → τ.2.1 0 ≤ 7) (h1 : ∀ b j, (b = 0 ∨ (19 ≤ b ∧ b ≤ 27)) → I' b j = I b j) (h2 : ∀ b j, (19 ≤ b ∧ b ≤ 27) → J' b j = J b j) : CI x I' J' := by
  cases x with
  | none => show _ = _; rw [h1 0 3 (Or.inl rfl)]; exact h
  | some τ => exact ⟨by rw [h1 0 3 (Or.inl rfl)]; exact h.1, ct_ag h.2 (hn τ rfl) (fun b j g1 g2 => h1 b j (Or.inr ⟨g1, g2⟩)) (fun b j g1 g2 => h2 b j ⟨g1, g2⟩)⟩
theorem wf_n {α : AS} (h : WF α) : (gT α).2.1 0 ≤ 7 := h.1.1
theorem wf_i {α : AS} (h : WF α) : ∀ τ, gI α = some τ → τ.2.1 0 ≤ 7 := fun τ hτ => (h.2.1 τ hτ).1
theorem rx_s {α : AS} {I I' : Nat → Nat → Int32} {J J' : Nat → Nat → Int64} (hw : WF α) (h : RX α I J) (ha : AX I I' J J') : RX α I' J' := by
  obtain ⟨h1, h2, h3, h4, h5, h6, h7⟩ := h
  have e1 : ∀ b j, ¬ xS b j → I' b j = I b j := ha.1
  have e2 : ∀ b j, ¬ xS b j → J' b j = J b j := ha.2
  refine ⟨ct_ag h1 (wf_n (α := α) hw) (fun b j g1 g2 => e1 b j (by unfold xS; omega)) (fun b j g1 g2 => e2 b j (by unfold xS; omega)), ci_ag h2 (wf_i (α := α) hw) (fun b j g => e1 b j (by unfold xS; omega)) (fun b j g => e2 b j (by unfold xS; omega)), fun s hs => cs_ag (h3 s hs) (fun j => e1 _ j (by unfold xS; omega)) (fun j => e2 _ j (by unfold xS; omega)), fun k g1 g2 => ?_, ?_, ?_, fun i hi => ?_⟩
  · rw [e1 63 k (by unfold xS; omega)]; exact h4 k g1 g2
  · rw [e1 59 4 (by unfold xS; omega)]; exact h5
  · rw [e1 60 1 (by unfold xS; omega)]; exact h6
  · rw [e1 61 i (by unfold xS; omega)]; exact h7 i hi
/-- what lies over 79 only -/
def A8 (I I' : Nat → Nat → Int32) (J J' : Nat → Nat → Int64) : Prop := (∀ b j, 80 ≤ b → I' b j = I b j) ∧ ∀ b j, 80 ≤ b → J' b j = J b j
/-- what lies under 80 only -/
def A7 (I I' : Nat → Nat → Int32) (J J' : Nat → Nat → Int64) : Prop := (∀ b j, b < 80 → I' b j = I b j) ∧ ∀ b j, b < 80 → J' b j = J b j
theorem a8_x {I I' : Nat → Nat → Int32} {J J' : Nat → Nat → Int64} (h : AX I I' J J') : A8 I I' J J' := ⟨fun b j hb => h.1 b j (by unfold xS; omega), fun b j hb => h.2 b j (by unfold xS; omega)⟩
theorem a7_m {I I' : Nat → Nat → Int32} {J J' : Nat → Nat → Int64} (h : AM I I' J J') : A7 I I' J J' := ⟨fun b j hb => h.1 b j (by unfold mS; omega), fun b j hb => h.2 b j (by unfold mS; omega)⟩
theorem a8_0 (I : Nat → Nat → Int32) (J : Nat → Nat → Int64) : A8 I I J J := ⟨fun _ _ _ => rfl, fun _ _ _ => rfl⟩
theorem a7_0 (I : Nat → Nat → Int32) (J : Nat → Nat → Int64) : A7 I I J J := ⟨fun _ _ _ => rfl, fun _ _ _ => rfl⟩
theorem a8_t {t : Nat} (ht : IsT t) {I I' : Nat → Nat → Int32} {J J' : Nat → Nat → Int64} (h : AT t I I' J J') : A8 I I' J J' := ⟨fun b j hb => h.1 b j (by have := (ist_lt ht).1; rcases ht with rfl | rfl | rfl | rfl <;> omega), fun b j hb => h.2 b j (by rcases ht with rfl | rfl | rfl | rfl <;> omega)⟩
theorem a8_8 {I I1 I2 : Nat → Nat → Int32} {J J1 J2 : Nat → Nat → Int64} (h : A8 I I1 J J1) (h2 : A8 I1 I2 J1 J2) : A8 I I2 J J2 := ⟨fun b j hb => by rw [h2.1 b j hb, h.1 b j hb], fun b j hb => by rw [h2.2 b j hb, h.2 b j hb]⟩
theorem a7_7 {I I1 I2 : Nat → Nat → Int32} {J J1 J2 : Nat → Nat → Int64} (h : A7 I I1 J J1) (h2 : A7 I1 I2 J1 J2) : A7 I I2 J J2 := ⟨fun b j hb => by rw [h2.1 b j hb, h.1 b j hb], fun b j hb => by rw [h2.2 b j hb, h.2 b j hb]⟩
theorem a8_I {I I' : Nat → Nat → Int32} {J J' : Nat → Nat → Int64} (h : A8 I I' J J') {a k : Nat} (ha : a < 80) (x : Int32) : A8 I (uI I' a k x) J J' := ⟨fun b j hb => by rw [uI_a (by omega), h.1 b j hb], h.2⟩
theorem a8_J {I I' : Nat → Nat → Int32} {J J' : Nat → Nat → Int64} (h : A8 I I' J J') {a k : Nat} (ha : a < 80) (x : Int64) : A8 I I' J (uJ J' a k x) := ⟨h.1, fun b j hb => by rw [uJ_a (by omega), h.2 b j hb]⟩
theorem a7_I {I I' : Nat → Nat → Int32} {J J' : Nat → Nat → Int64} (h : A7 I I' J J') {a k : Nat} (ha : 80 ≤ a) (x : Int32) : A7 I (uI I' a k x) J J' := ⟨fun b j hb => by rw [uI_a (by omega), h.1 b j hb], h.2⟩
theorem a7_J {I I' : Nat → Nat → Int32} {J J' : Nat → Nat → Int64} (h : A7 I I' J J') {a k : Nat} (ha : 80 ≤ a) (x : Int64) : A7 I I' J (uJ J' a k x) := ⟨h.1, fun b j hb => by rw [uJ_a (by omega), h.2 b j hb]⟩
theorem mt_ag {I I' : Nat → Nat → Int32} {σ : TS} (h : MT I σ) (h1 : ∀ b j, 80 ≤ b → b ≤ 90 → (b = 80 → j ≤ 6) → ¬ b = 81 → I' b j = I b j) : MT I' σ := by
  obtain ⟨m0, m1, m2, m3, m4, m5, m6, mS, mP⟩ := h
  refine ⟨?_, ?_, ?_, ?_, ?_, ?_, ?_, fun c hc => ⟨?_, ?_⟩, fun i hi j hj => ?_⟩
  · rw [h1 80 0 (by omega) (by omega) (by omega) (by omega), m0]
  · rw [h1 80 1 (by omega) (by omega) (by omega) (by omega), m1]
  · rw [h1 80 2 (by omega) (by omega) (by omega) (by omega), m2]
  · rw [h1 80 3 (by omega) (by omega) (by omega) (by omega), m3]
  · rw [h1 80 4 (by omega) (by omega) (by omega) (by omega), m4]
  · rw [h1 80 5 (by omega) (by omega) (by omega) (by omega), m5]
  · rw [h1 80 6 (by omega) (by omega) (by omega) (by omega), m6]
  · rw [h1 89 c (by omega) (by omega) (by omega) (by omega), (mS c hc).1]
  · rw [h1 90 c (by omega) (by omega) (by omega) (by omega), (mS c hc).2]
  · rw [h1 (82 + j) i (by omega) (by omega) (by omega) (by omega), mP i hi j hj]
theorem kt_ag {a : Nat} {I I' : Nat → Nat → Int32} {σ : TS} (h : KT a I σ) (h1 : ∀ j, I' a j = I a j) : KT a I' σ := by
  unfold KT at *
  simp only [h1]
  exact h
theorem ni_ag {x : Option TS} {I I' : Nat → Nat → Int32} (h : NI x I) (h1 : ∀ b j, (b = 80 ∧ j = 43 ∨ b = 102) → I' b j = I b j) : NI x I' := by
  cases x with
  | none => show _ = _; rw [h1 80 43 (Or.inl ⟨rfl, rfl⟩)]; exact h
  | some τ => exact ⟨by rw [h1 80 43 (Or.inl ⟨rfl, rfl⟩)]; exact h.1, kt_ag h.2 (fun j => h1 102 j (Or.inr rfl))⟩
theorem ms_ag {s : Nat} {S : Nat → Nat} {E : Nat → Int64} {I I' : Nat → Nat → Int32} {J J' : Nat → Nat → Int64} (h : MS s S E I J) (h1 : ∀ b, 91 ≤ b → b ≤ 94 → I' b s = I b s) (h2 : ∀ i, i < 160 → J' 95 (160 * s + i) = J 95 (160 * s + i)) : MS s S E I' J' := by
  refine ⟨by rw [h1 91 (by omega) (by omega)]; exact h.1, fun g => by rw [h1 94 (by omega) (by omega)]; exact h.2.1 g, fun g => ⟨by rw [h1 92 (by omega) (by omega)]; exact (h.2.2 g).1, by rw [h1 93 (by omega) (by omega)]; exact (h.2.2 g).2.1, fun i hi => by rw [h2 i hi]; exact (h.2.2 g).2.2 i hi⟩⟩
theorem cw_ag {I I' : Nat → Nat → Int32} (h : CW I) (h1 : ∀ b j, 97 ≤ b → b ≤ 99 → I' b j = I b j) : CW I' := ⟨fun k hk => by rw [h1 97 k (by omega) (by omega)]; exact h.1 k hk, fun k hk => by rw [h1 98 k (by omega) (by omega)]; exact h.2.1 k hk, fun k hk => by rw [h1 99 k (by omega) (by omega)]; exact h.2.2 k hk⟩
theorem rm_s {α : AS} {I I' : Nat → Nat → Int32} {J J' : Nat → Nat → Int64} (h : RM α I J) (ha : AM I I' J J') : RM α I' J' := by
  obtain ⟨h1, h2, h3, h4, h5, h6, h7, h8, h9⟩ := h
  have e1 : ∀ b j, ¬ mS b j → I' b j = I b j := ha.1
  have e2 : ∀ b j, ¬ mS b j → J' b j = J b j := ha.2
  refine ⟨mt_ag h1 (fun b j g1 g2 g3 g4 => e1 b j (by unfold mS; omega)), ni_ag h2 (fun b j g => e1 b j (by unfold mS; omega)), fun s hs => ms_ag (h3 s hs) (fun b g1 g2 => e1 b s (by unfold mS; omega)) (fun i hi => e2 95 _ (by unfold mS; omega)), fun k g1 g2 => ?_, ?_, ?_, fun i hi => ?_, ?_, cw_ag h9 (fun b j g1 g2 => e1 b j (by unfold mS; omega))⟩
  · rw [e1 81 k (by unfold mS; omega)]; exact h4 k g1 g2
  · rw [e1 80 7 (by unfold mS; omega)]; exact h5
  · rw [e1 80 42 (by unfold mS; omega)]; exact h6
  · rw [e1 107 i (by unfold mS; omega)]; exact h7 i hi
  · rw [e1 80 36 (by unfold mS; omega)]; exact h8
theorem rm_8 {α : AS} {I I' : Nat → Nat → Int32} {J J' : Nat → Nat → Int64} (h : RM α I J) (ha : A8 I I' J J') : RM α I' J' := by
  obtain ⟨h1, h2, h3, h4, h5, h6, h7, h8, h9⟩ := h
  have e1 : ∀ b j, 80 ≤ b → I' b j = I b j := ha.1
  have e2 : ∀ b j, 80 ≤ b → J' b j = J b j := ha.2
  refine ⟨mt_ag h1 (fun b j g1 g2 g3 g4 => e1 b j (by omega)), ni_ag h2 (fun b j g => e1 b j (by omega)), fun s hs => ms_ag (h3 s hs) (fun b g1 g2 => e1 b s (by omega)) (fun i hi => e2 95 _ (by omega)), fun k g1 g2 => ?_, ?_, ?_, fun i hi => ?_, ?_, cw_ag h9 (fun b j g1 g2 => e1 b j (by omega))⟩
  · rw [e1 81 k (by omega)]; exact h4 k g1 g2
  · rw [e1 80 7 (by omega)]; exact h5
  · rw [e1 80 42 (by omega)]; exact h6
  · rw [e1 107 i (by omega)]; exact h7 i hi
  · rw [e1 80 36 (by omega)]; exact h8
theorem rx_7 {α : AS} {I I' : Nat → Nat → Int32} {J J' : Nat → Nat → Int64} (hw : WF α) (h : RX α I J) (ha : A7 I I' J J') : RX α I' J' := by
  obtain ⟨h1, h2, h3, h4, h5, h6, h7⟩ := h
  have e1 : ∀ b j, b < 80 → I' b j = I b j := ha.1
  have e2 : ∀ b j, b < 80 → J' b j = J b j := ha.2
  refine ⟨ct_ag h1 (wf_n (α := α) hw) (fun b j g1 g2 => e1 b j (by omega)) (fun b j g1 g2 => e2 b j (by omega)), ci_ag h2 (wf_i (α := α) hw) (fun b j g => e1 b j (by omega)) (fun b j g => e2 b j (by omega)), fun s hs => cs_ag (h3 s hs) (fun j => e1 _ j (by omega)) (fun j => e2 _ j (by omega)), fun k g1 g2 => ?_, ?_, ?_, fun i hi => ?_⟩
  · rw [e1 63 k (by omega)]; exact h4 k g1 g2
  · rw [e1 59 4 (by omega)]; exact h5
  · rw [e1 60 1 (by omega)]; exact h6
  · rw [e1 61 i (by omega)]; exact h7 i hi
/-! one part changed: class -/
theorem rx_T {α : AS} {I I' : Nat → Nat → Int32} {J J' : Nat → Nat → Int64} (hw : WF α) (h : RX α I J) (ha : AT 1 I I' J J') {σ : TS} (hT : CT 1 I' J' σ) : RX (aT α σ) I' J' := by
  obtain ⟨h1, h2, h3, h4, h5, h6, h7⟩ := h
  have e1 := ha.1
  have e2 := ha.2
  refine ⟨hT, ci_ag h2 (wf_i (α := α) hw) (fun b j g => e1 b j (by omega)) (fun b j g => e2 b j (by omega)), fun s hs => cs_ag (h3 s hs) (fun j => e1 _ j (by omega)) (fun j => e2 _ j (by omega)), fun k g1 g2 => ?_, ?_, ?_, fun i hi => ?_⟩
  · rw [e1 63 k (by omega)]; exact h4 k g1 g2
  · rw [e1 59 4 (by omega)]; exact h5
  · rw [e1 60 1 (by omega)]; exact h6
  · rw [e1 61 i (by omega)]; exact h7 i hi
theorem rx_S {α : AS} {I I' : Nat → Nat → Int32} {J J' : Nat → Nat → Int64} (hw : WF α) (h : RX α I J) {s : Nat} (hs : s < 8) (e1 : ∀ b j, ¬ b = 64 + 2 * s → I' b j = I b j) (e2 : ∀ b j, ¬ b = 65 + 2 * s → J' b j = J b j) {S : Nat → Nat} {E : Nat → Int64} (hC : CS s S E I' J') : RX (aS α s S E) I' J' := by
  obtain ⟨h1, h2, h3, h4, h5, h6, h7⟩ := h
  refine ⟨ct_ag h1 (wf_n (α := α) hw) (fun b j g1 g2 => e1 b j (by omega)) (fun b j g1 g2 => e2 b j (by omega)), ci_ag h2 (wf_i (α := α) hw) (fun b j g => e1 b j (by omega)) (fun b j g => e2 b j (by omega)), fun u hu => ?_, fun k g1 g2 => ?_, ?_, ?_, fun i hi => ?_⟩
  · by_cases e : u = s
    · subst e
      have a1 : gS (aS α u S E) u = S := by funext k; simp [gS, aS]
      have a2 : gE (aS α u S E) u = E := by funext k; simp [gE, aS]
      rw [a1, a2]; exact hC
    · have a1 : gS (aS α s S E) u = gS α u := by funext k; simp [gS, aS, e]
      have a2 : gE (aS α s S E) u = gE α u := by funext k; simp [gE, aS, e]
      rw [a1, a2]
      exact cs_ag (h3 u hu) (fun j => e1 _ j (by omega)) (fun j => e2 _ j (by omega))
  · rw [e1 63 k (by omega)]; exact h4 k g1 g2
  · rw [e1 59 4 (by omega)]; exact h5
  · rw [e1 60 1 (by omega)]; exact h6
  · rw [e1 61 i (by omega)]; exact h7 i hi
theorem rx_R {α : AS} {I : Nat → Nat → Int32} {J : Nat → Nat → Int64} (hw : WF α) (h : RX α I J) {k : Nat} : RX (aR α k) (uI I 63 k (gR α k + 1)) J := by
  obtain ⟨h1, h2, h3, h4, h5, h6, h7⟩ := h
  have e1 : ∀ b j, ¬ b = 63 → uI I 63 k (gR α k + 1) b j = I b j := fun b j hb => uI_a hb
  refine ⟨ct_ag h1 (wf_n (α := α) hw) (fun b j g1 g2 => e1 b j (by omega)) (fun b j g1 g2 => rfl), ci_ag h2 (wf_i (α := α) hw) (fun b j g => e1 b j (by omega)) (fun b j g => rfl), fun s hs => cs_ag (h3 s hs) (fun j => e1 _ j (by omega)) (fun j => rfl), fun j g1 g2 => ?_, ?_, ?_, fun i hi => ?_⟩
  · by_cases e : j = k
    · subst e; rw [uI_s]; simp [gR, aR]
    · rw [uI_k e, h4 j g1 g2]; simp [gR, aR, e]
  · rw [e1 59 4 (by omega)]; exact h5
  · rw [e1 60 1 (by omega)]; exact h6
  · rw [e1 61 i (by omega)]; exact h7 i hi
theorem rx_F {α : AS} {I I' : Nat → Nat → Int32} {J J' : Nat → Nat → Int64} (hw : WF α) (h : RX α I J) (e1 : ∀ b j, ¬ xS b j → ¬ (b = 59 ∧ j = 4) → I' b j = I b j) (e2 : ∀ b j, ¬ xS b j → J' b j = J b j) {f : Int32} (hf : I' 59 4 = f) : RX (aF α f) I' J' := by
  obtain ⟨h1, h2, h3, h4, h5, h6, h7⟩ := h
  refine ⟨ct_ag h1 (wf_n (α := α) hw) (fun b j g1 g2 => e1 b j (by unfold xS; omega) (by omega)) (fun b j g1 g2 => e2 b j (by unfold xS; omega)), ci_ag h2 (wf_i (α := α) hw) (fun b j g => e1 b j (by unfold xS; omega) (by omega)) (fun b j g => e2 b j (by unfold xS; omega)), fun s hs => cs_ag (h3 s hs) (fun j => e1 _ j (by unfold xS; omega) (by omega)) (fun j => e2 _ j (by unfold xS; omega)), fun k g1 g2 => ?_, hf, ?_, fun i hi => ?_⟩
  · rw [e1 63 k (by unfold xS; omega) (by omega)]; exact h4 k g1 g2
  · rw [e1 60 1 (by unfold xS; omega) (by omega)]; exact h6
  · rw [e1 61 i (by unfold xS; omega) (by omega)]; exact h7 i hi
theorem rx_N {α : AS} {I I' : Nat → Nat → Int32} {J : Nat → Nat → Int64} (hw : WF α) (h : RX α I J) (e1 : ∀ b j, ¬ b = 60 → ¬ b = 61 → I' b j = I b j) {n : Int32} {K : Nat → Int32} (hn : I' 60 1 = n) (hk : ∀ i, i < 20 → I' 61 i = K i) : RX (aN α n K) I' J := by
  obtain ⟨h1, h2, h3, h4, h5, h6, h7⟩ := h
  refine ⟨ct_ag h1 (wf_n (α := α) hw) (fun b j g1 g2 => e1 b j (by omega) (by omega)) (fun b j g1 g2 => rfl), ci_ag h2 (wf_i (α := α) hw) (fun b j g => e1 b j (by omega) (by omega)) (fun b j g => rfl), fun s hs => cs_ag (h3 s hs) (fun j => e1 _ j (by omega) (by omega)) (fun j => rfl), fun k g1 g2 => ?_, ?_, hn, hk⟩
  · rw [e1 63 k (by omega) (by omega)]; exact h4 k g1 g2
  · rw [e1 59 4 (by omega) (by omega)]; exact h5
theorem rx_I {α : AS} {I I' : Nat → Nat → Int32} {J J' : Nat → Nat → Int64} (hw : WF α) (h : RX α I J) (e1 : ∀ b j, ¬ b = 0 → ¬ (19 ≤ b ∧ b ≤ 27) → I' b j = I b j) (e2 : ∀ b j, ¬ (19 ≤ b ∧ b ≤ 27) → J' b j = J b j) {τ : TS} (h0 : I' 0 3 = 1) (hT : CT 19 I' J' τ) : RX (aI α (some τ)) I' J' := by
  obtain ⟨h1, h2, h3, h4, h5, h6, h7⟩ := h
  refine ⟨ct_ag h1 (wf_n (α := α) hw) (fun b j g1 g2 => e1 b j (by omega) (by omega)) (fun b j g1 g2 => e2 b j (by omega)), ⟨h0, hT⟩, fun s hs => cs_ag (h3 s hs) (fun j => e1 _ j (by omega) (by omega)) (fun j => e2 _ j (by omega)), fun k g1 g2 => ?_, ?_, ?_, fun i hi => ?_⟩
  · rw [e1 63 k (by omega) (by omega)]; exact h4 k g1 g2
  · rw [e1 59 4 (by omega) (by omega)]; exact h5
  · rw [e1 60 1 (by omega) (by omega)]; exact h6
  · rw [e1 61 i (by omega) (by omega)]; exact h7 i hi
/-! one part changed: reference -/
theorem rm_T {α : AS} {I I' : Nat → Nat → Int32} {J J' : Nat → Nat → Int64} (h : RM α I J) (e1 : ∀ b j, ¬ mS b j → ¬ (80 ≤ b ∧ b ≤ 90 ∧ (b = 80 → j ≤ 6) ∧ ¬ b = 81) → I' b j = I b j) (e2 : ∀ b j, ¬ mS b j → J' b j = J b j) {σ : TS} (hT : MT I' σ) : RM (aT α σ) I' J' := by
  obtain ⟨h1, h2, h3, h4, h5, h6, h7, h8, h9⟩ := h
  refine ⟨hT, ni_ag h2 (fun b j g => e1 b j (by unfold mS; omega) (by omega)), fun s hs => ms_ag (h3 s hs) (fun b g1 g2 => e1 b s (by unfold mS; omega) (by omega)) (fun i hi => e2 95 _ (by unfold mS; omega)), fun k g1 g2 => ?_, ?_, ?_, fun i hi => ?_, ?_, cw_ag h9 (fun b j g1 g2 => e1 b j (by unfold mS; omega) (by omega))⟩
  · rw [e1 81 k (by unfold mS; omega) (by omega)]; exact h4 k g1 g2
  · rw [e1 80 7 (by unfold mS; omega) (by omega)]; exact h5
  · rw [e1 80 42 (by unfold mS; omega) (by omega)]; exact h6
  · rw [e1 107 i (by unfold mS; omega) (by omega)]; exact h7 i hi
  · rw [e1 80 36 (by unfold mS; omega) (by omega)]; exact h8
theorem rm_S {α : AS} {I I' : Nat → Nat → Int32} {J J' : Nat → Nat → Int64} (h : RM α I J) {s : Nat} (hs : s < 8) (e1 : ∀ b j, ¬ mS b j → ¬ (91 ≤ b ∧ b ≤ 94 ∧ j = s) → I' b j = I b j) (e2 : ∀ j, ¬ (160 * s ≤ j ∧ j < 160 * s + 160) → J' 95 j = J 95 j) {S : Nat → Nat} {E : Nat → Int64} (hC : MS s S E I' J') : RM (aS α s S E) I' J' := by
  obtain ⟨h1, h2, h3, h4, h5, h6, h7, h8, h9⟩ := h
  refine ⟨mt_ag h1 (fun b j g1 g2 g3 g4 => e1 b j (by unfold mS; omega) (by omega)), ni_ag h2 (fun b j g => e1 b j (by unfold mS; omega) (by omega)), fun u hu => ?_, fun k g1 g2 => ?_, ?_, ?_, fun i hi => ?_, ?_, cw_ag h9 (fun b j g1 g2 => e1 b j (by unfold mS; omega) (by omega))⟩
  · by_cases e : u = s
    · subst e
      have a1 : gS (aS α u S E) u = S := by funext k; simp [gS, aS]
      have a2 : gE (aS α u S E) u = E := by funext k; simp [gE, aS]
      rw [a1, a2]; exact hC
    · have a1 : gS (aS α s S E) u = gS α u := by funext k; simp [gS, aS, e]
      have a2 : gE (aS α s S E) u = gE α u := by funext k; simp [gE, aS, e]
      rw [a1, a2]
      exact ms_ag (h3 u hu) (fun b g1 g2 => e1 b u (by unfold mS; omega) (by omega)) (fun i hi => e2 _ (by omega))
  · rw [e1 81 k (by unfold mS; omega) (by omega)]; exact h4 k g1 g2
  · rw [e1 80 7 (by unfold mS; omega) (by omega)]; exact h5
  · rw [e1 80 42 (by unfold mS; omega) (by omega)]; exact h6
  · rw [e1 107 i (by unfold mS; omega) (by omega)]; exact h7 i hi
  · rw [e1 80 36 (by unfold mS; omega) (by omega)]; exact h8
theorem rm_R {α : AS} {I : Nat → Nat → Int32} {J : Nat → Nat → Int64} (h : RM α I J) {k : Nat} : RM (aR α k) (uI I 81 k (gR α k + 1)) J := by
  obtain ⟨h1, h2, h3, h4, h5, h6, h7, h8, h9⟩ := h
  have e1 : ∀ b j, ¬ b = 81 → uI I 81 k (gR α k + 1) b j = I b j := fun b j hb => uI_a hb
  refine ⟨mt_ag h1 (fun b j g1 g2 g3 g4 => e1 b j (by omega)), ni_ag h2 (fun b j g => e1 b j (by omega)), fun s hs => ms_ag (h3 s hs) (fun b g1 g2 => e1 b s (by omega)) (fun i hi => rfl), fun j g1 g2 => ?_, ?_, ?_, fun i hi => ?_, ?_, cw_ag h9 (fun b j g1 g2 => e1 b j (by omega))⟩
  · by_cases e : j = k
    · subst e; rw [uI_s]; simp [gR, aR]
    · rw [uI_k e, h4 j g1 g2]; simp [gR, aR, e]
  · rw [e1 80 7 (by omega)]; exact h5
  · rw [e1 80 42 (by omega)]; exact h6
  · rw [e1 107 i (by omega)]; exact h7 i hi
  · rw [e1 80 36 (by omega)]; exact h8
theorem rm_F {α : AS} {I : Nat → Nat → Int32} {J : Nat → Nat → Int64} (h : RM α I J) (f : Int32) : RM (aF α f) (uI I 80 7 f) J := by
  obtain ⟨h1, h2, h3, h4, h5, h6, h7, h8, h9⟩ := h
  have e1 : ∀ b j, ¬ (b = 80 ∧ j = 7) → uI I 80 7 f b j = I b j := fun b j hb => if_neg hb
  refine ⟨mt_ag h1 (fun b j g1 g2 g3 g4 => e1 b j (by omega)), ni_ag h2 (fun b j g => e1 b j (by omega)), fun s hs => ms_ag (h3 s hs) (fun b g1 g2 => e1 b s (by omega)) (fun i hi => rfl), fun j g1 g2 => ?_, uI_s _ _ _ _, ?_, fun i hi => ?_, ?_, cw_ag h9 (fun b j g1 g2 => e1 b j (by omega))⟩
  · rw [e1 81 j (by omega)]; exact h4 j g1 g2
  · rw [e1 80 42 (by omega)]; exact h6
  · rw [e1 107 i (by omega)]; exact h7 i hi
  · rw [e1 80 36 (by omega)]; exact h8
theorem rm_N {α : AS} {I I' : Nat → Nat → Int32} {J : Nat → Nat → Int64} (h : RM α I J) (e1 : ∀ b j, ¬ (b = 80 ∧ j = 42) → ¬ b = 107 → I' b j = I b j) {n : Int32} {K : Nat → Int32} (hn : I' 80 42 = n) (hk : ∀ i, i < 20 → I' 107 i = K i) : RM (aN α n K) I' J := by
  obtain ⟨h1, h2, h3, h4, h5, h6, h7, h8, h9⟩ := h
  refine ⟨mt_ag h1 (fun b j g1 g2 g3 g4 => e1 b j (by omega) (by omega)), ni_ag h2 (fun b j g => e1 b j (by omega) (by omega)), fun s hs => ms_ag (h3 s hs) (fun b g1 g2 => e1 b s (by omega) (by omega)) (fun i hi => rfl), fun j g1 g2 => ?_, ?_, hn, hk, ?_, cw_ag h9 (fun b j g1 g2 => e1 b j (by omega) (by omega))⟩
  · rw [e1 81 j (by omega) (by omega)]; exact h4 j g1 g2
  · rw [e1 80 7 (by omega) (by omega)]; exact h5
  · rw [e1 80 36 (by omega) (by omega)]; exact h8
theorem rm_I {α : AS} {I I' : Nat → Nat → Int32} {J : Nat → Nat → Int64} (h : RM α I J) (e1 : ∀ b j, ¬ (b = 80 ∧ j = 43) → ¬ b = 102 → I' b j = I b j) {τ : TS} (h0 : I' 80 43 = 1) (hT : KT 102 I' τ) : RM (aI α (some τ)) I' J := by
  obtain ⟨h1, h2, h3, h4, h5, h6, h7, h8, h9⟩ := h
  refine ⟨mt_ag h1 (fun b j g1 g2 g3 g4 => e1 b j (by omega) (by omega)), ⟨h0, hT⟩, fun s hs => ms_ag (h3 s hs) (fun b g1 g2 => e1 b s (by omega) (by omega)) (fun i hi => rfl), fun j g1 g2 => ?_, ?_, ?_, fun i hi => ?_, ?_, cw_ag h9 (fun b j g1 g2 => e1 b j (by omega) (by omega))⟩
  · rw [e1 81 j (by omega) (by omega)]; exact h4 j g1 g2
  · rw [e1 80 7 (by omega) (by omega)]; exact h5
  · rw [e1 80 42 (by omega) (by omega)]; exact h6
  · rw [e1 107 i (by omega) (by omega)]; exact h7 i hi
  · rw [e1 80 36 (by omega) (by omega)]; exact h8
/-! the reference's town changed -/
theorem mt_P {I : Nat → Nat → Int32} {σ : TS} (h : MT I σ) {j i : Nat} (v : Nat) (hj : j < 7) : MT (uI I (82 + j) i (nI v)) (uP σ j i v) := by
  obtain ⟨m0, m1, m2, m3, m4, m5, m6, mS, mP⟩ := h
  refine ⟨by rw [uI_a (by omega), m0]; rfl, by rw [uI_a (by omega), m1]; rfl, by rw [uI_a (by omega), m2]; rfl, by rw [uI_a (by omega), m3]; rfl, by rw [uI_a (by omega), m4]; rfl, by rw [uI_a (by omega), m5]; rfl, by rw [uI_a (by omega), m6]; rfl, fun c hc => ?_, fun i2 hi2 j2 hj2 => ?_⟩
  · rw [uI_a (by omega), uI_a (by omega), (mS c hc).1, (mS c hc).2]
    simp [uP, show ¬ 7 = j by omega, show ¬ 8 = j by omega]
  · by_cases e2 : j2 = j
    · subst e2
      by_cases e : i2 = i
      · subst e; rw [uI_s]; simp [uP]
      · rw [uI_k e, mP i2 hi2 j2 hj2]; simp [uP, e]
    · rw [uI_a (by omega), mP i2 hi2 j2 hj2]; simp [uP, e2]
theorem mt_W {I : Nat → Nat → Int32} {σ : TS} (h : MT I σ) (j c v : Nat) (hj : j = 7 ∨ j = 8) : MT (uI I (82 + j) c (nI v)) (uP σ j c v) := by
  obtain ⟨m0, m1, m2, m3, m4, m5, m6, mS, mP⟩ := h
  refine ⟨by rw [uI_a (by omega), m0]; rfl, by rw [uI_a (by omega), m1]; rfl, by rw [uI_a (by omega), m2]; rfl, by rw [uI_a (by omega), m3]; rfl, by rw [uI_a (by omega), m4]; rfl, by rw [uI_a (by omega), m5]; rfl, by rw [uI_a (by omega), m6]; rfl, fun d hd => ?_, fun i2 hi2 j2 hj2 => ?_⟩
  · rcases hj with rfl | rfl
    · refine ⟨?_, by rw [uI_a (by omega), (mS d hd).2]; simp [uP]⟩
      by_cases e : d = c
      · subst e; rw [show 82 + 7 = 89 from rfl, uI_s]; simp [uP]
      · rw [uI_k e, (mS d hd).1]; simp [uP, e]
    · refine ⟨by rw [uI_a (by omega), (mS d hd).1]; simp [uP], ?_⟩
      by_cases e : d = c
      · subst e; rw [show 82 + 8 = 90 from rfl, uI_s]; simp [uP]
      · rw [uI_k e, (mS d hd).2]; simp [uP, e]
  · rw [uI_a (by omega), mP i2 hi2 j2 hj2]; simp [uP, show ¬ j2 = j by omega]
theorem mt_N {I : Nat → Nat → Int32} {σ : TS} (h : MT I σ) {k : Nat} (v : Nat) (hk : 1 ≤ k ∧ k ≤ 3) : MT (uI I 80 k (nI v)) (uN σ k v) := by
  obtain ⟨m0, m1, m2, m3, m4, m5, m6, mS, mP⟩ := h
  refine ⟨by rw [uI_k (by omega), m0]; simp [uN, show ¬ 0 = k by omega], ?_, ?_, ?_, by rw [uI_k (by omega), m4]; rfl, by rw [uI_k (by omega), m5]; rfl, by rw [uI_k (by omega), m6]; rfl, fun d hd => ?_, fun i2 hi2 j2 hj2 => ?_⟩
  · by_cases e : k = 1
    · subst e; rw [uI_s]; simp [uN]
    · rw [uI_k (by omega), m1]; simp [uN, show ¬ 1 = k by omega]
  · by_cases e : k = 2
    · subst e; rw [uI_s]; simp [uN]
    · rw [uI_k (by omega), m2]; simp [uN, show ¬ 2 = k by omega]
  · by_cases e : k = 3
    · subst e; rw [uI_s]; simp [uN]
    · rw [uI_k (by omega), m3]; simp [uN, show ¬ 3 = k by omega]
  · rw [uI_a (by omega), uI_a (by omega)]; exact mS d hd
  · rw [uI_a (by omega)]
    refine mP i2 ?_ j2 hj2
    have : (uN σ k v).2.1 0 = σ.2.1 0 := by simp [uN, show ¬ 0 = k by omega]
    omega
theorem mt_Z {I : Nat → Nat → Int32} {σ : TS} (h : MT I σ) {k s : Nat} (v : Int32) (hk : s = k + 4) (hk2 : k < 3) : MT (uI I 80 s v) (uZ σ k v) := by
  subst hk
  obtain ⟨m0, m1, m2, m3, m4, m5, m6, mS, mP⟩ := h
  refine ⟨by rw [uI_k (by omega), m0]; rfl, by rw [uI_k (by omega), m1]; rfl, by rw [uI_k (by omega), m2]; rfl, by rw [uI_k (by omega), m3]; rfl, ?_, ?_, ?_, fun d hd => ?_, fun i2 hi2 j2 hj2 => ?_⟩
  · by_cases e : k = 0
    · subst e; rw [uI_s]; simp [uZ]
    · rw [uI_k (by omega), m4]; simp [uZ, show ¬ 0 = k by omega]
  · by_cases e : k = 1
    · subst e; rw [uI_s]; simp [uZ]
    · rw [uI_k (by omega), m5]; simp [uZ, show ¬ 1 = k by omega]
  · by_cases e : k = 2
    · subst e; rw [uI_s]; simp [uZ]
    · rw [uI_k (by omega), m6]; simp [uZ, show ¬ 2 = k by omega]
  · rw [uI_a (by omega), uI_a (by omega)]; exact mS d hd
  · rw [uI_a (by omega)]
    exact mP i2 hi2 j2 hj2
