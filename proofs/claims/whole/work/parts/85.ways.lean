/-! ways: the least, by cost and steps -/
def wk (op : Nat → Prop) (du : Nat → Nat) (t : Nat) : Nat → Nat → Nat → Prop
  | 0, c, C => c = t ∧ C = 0
  | n + 1, c, C => ∃ w d D, w < 4 ∧ bd c w = some d ∧ op d ∧ wk op du t n d D ∧ C = D + du d
def Rc (op : Nat → Prop) (du : Nat → Nat) (t c : Nat) : Prop := ∃ n C, wk op du t n c C
noncomputable def dst (op : Nat → Prop) (du : Nat → Nat) (t M c : Nat) : Nat := Classical.epsilon (fun v => (∃ n C, wk op du t n c C ∧ v = M * C + n) ∧ ∀ n C, wk op du t n c C → v ≤ M * C + n)
section
variable {op : Nat → Prop} {du : Nat → Nat} {t M : Nat}
theorem dst_i {c : Nat} (h : Rc op du t c) : (∃ n C, wk op du t n c C ∧ dst op du t M c = M * C + n) ∧ ∀ n C, wk op du t n c C → dst op du t M c ≤ M * C + n := by
  refine Classical.epsilon_spec (p := fun v => (∃ n C, wk op du t n c C ∧ v = M * C + n) ∧ ∀ n C, wk op du t n c C → v ≤ M * C + n) ?_
  obtain ⟨n, C, h⟩ := h
  obtain ⟨v, h1, h2⟩ := pk_least (fun v => ∃ n C, wk op du t n c C ∧ v = M * C + n) ⟨_, n, C, h, rfl⟩
  refine ⟨v, h1, fun n C h3 => ?_⟩
  apply Nat.le_of_not_lt
  intro z
  exact h2 _ z ⟨n, C, h3, rfl⟩
theorem rc_t : Rc op du t t := ⟨0, 0, rfl, rfl⟩
theorem dst_t : dst op du t M t = 0 := by
  have := (dst_i (M := M) (rc_t (op := op) (du := du) (t := t))).2 0 0 ⟨rfl, rfl⟩
  omega
theorem rc_s {c w d : Nat} (hw : w < 4) (hb : bd c w = some d) (ho : op d) (h : Rc op du t d) : Rc op du t c := by
  obtain ⟨n, C, h⟩ := h
  exact ⟨n + 1, C + du d, w, d, C, hw, hb, ho, h, rfl⟩
theorem dst_s {c w d : Nat} (hw : w < 4) (hb : bd c w = some d) (ho : op d) (h : Rc op du t d) : dst op du t M c ≤ dst op du t M d + (M * du d + 1) := by
  obtain ⟨⟨n, C, h1, h2⟩, h3⟩ := dst_i (M := M) h
  have := (dst_i (M := M) (rc_s hw hb ho h)).2 (n + 1) (C + du d) ⟨w, d, C, hw, hb, ho, h1, rfl⟩
  rw [h2]
  rw [Nat.mul_add] at this
  omega
theorem dst_p {c : Nat} (h : Rc op du t c) : c = t ∨ ∃ w d, w < 4 ∧ bd c w = some d ∧ op d ∧ Rc op du t d ∧ dst op du t M c = dst op du t M d + (M * du d + 1) := by
  obtain ⟨⟨n, C, h1, h2⟩, h3⟩ := dst_i (M := M) h
  cases n with
  | zero => exact Or.inl h1.1
  | succ n =>
    obtain ⟨w, d, D, g1, g2, g3, g4, g5⟩ := h1
    have hd : Rc op du t d := ⟨n, D, g4⟩
    refine Or.inr ⟨w, d, g1, g2, g3, hd, ?_⟩
    have a1 := dst_s (M := M) g1 g2 g3 hd
    have a2 := (dst_i (M := M) hd).2 n D g4
    rw [g5, Nat.mul_add] at h2
    omega
noncomputable def lvl (op : Nat → Prop) (du : Nat → Nat) (t M c : Nat) : Nat := fb_ct (fun j => @decide (Rc op du t j ∧ dst op du t M j < dst op du t M c) (Classical.propDecidable _)) 36
theorem lvl_t (P : Prop) : (@decide P (Classical.propDecidable _) = true) ↔ P := @decide_eq_true_iff P (Classical.propDecidable _)
theorem lvl_lt {c d : Nat} (hd : d < 36) (h : Rc op du t d) (hl : dst op du t M d < dst op du t M c) : lvl op du t M d < lvl op du t M c := by
  unfold lvl
  have key : ∀ n, d < n → fb_ct (fun j => @decide (Rc op du t j ∧ dst op du t M j < dst op du t M d) (Classical.propDecidable _)) n < fb_ct (fun j => @decide (Rc op du t j ∧ dst op du t M j < dst op du t M c) (Classical.propDecidable _)) n := by
    intro n
    induction n with
    | zero => intro z; omega
    | succ n ih =>
      intro z
      rw [fb_ct_succ, fb_ct_succ]
      have sub : fb_ct (fun j => @decide (Rc op du t j ∧ dst op du t M j < dst op du t M d) (Classical.propDecidable _)) n ≤ fb_ct (fun j => @decide (Rc op du t j ∧ dst op du t M j < dst op du t M c) (Classical.propDecidable _)) n := fb_ct_sub (fun k _ hk => by
        have := (lvl_t _).mp hk
        exact (lvl_t _).mpr ⟨this.1, by omega⟩)
      by_cases e : d = n
      · subst e
        have h1 : ¬ (@decide (Rc op du t d ∧ dst op du t M d < dst op du t M d) (Classical.propDecidable _) = true) := fun y => by have := (lvl_t _).mp y; omega
        have h2 : (@decide (Rc op du t d ∧ dst op du t M d < dst op du t M c) (Classical.propDecidable _) = true) := (lvl_t _).mpr ⟨h, hl⟩
        rw [if_neg h1, if_pos h2]
        omega
      · have := ih (by omega)
        by_cases h1 : (@decide (Rc op du t n ∧ dst op du t M n < dst op du t M d) (Classical.propDecidable _) = true)
        · have h3 := (lvl_t _).mp h1
          have h2 : (@decide (Rc op du t n ∧ dst op du t M n < dst op du t M c) (Classical.propDecidable _) = true) := (lvl_t _).mpr ⟨h3.1, by omega⟩
          rw [if_pos h1, if_pos h2]
          omega
        · rw [if_neg h1]
          omega
  exact key 36 hd
theorem lvl_le {c : Nat} (hc : c < 36) : lvl op du t M c ≤ 35 := by
  have h1 := fb_ct_not (fun j => @decide (Rc op du t j ∧ dst op du t M j < dst op du t M c) (Classical.propDecidable _)) 36
  have h2 : 0 < fb_ct (fun j => !(@decide (Rc op du t j ∧ dst op du t M j < dst op du t M c) (Classical.propDecidable _))) 36 := fb_ct_pos.mpr ⟨c, hc, by
    have h1 : ¬ (@decide (Rc op du t c ∧ dst op du t M c < dst op du t M c) (Classical.propDecidable _) = true) := fun y => by have := (lvl_t _).mp y; omega
    rw [Bool.eq_false_iff.mpr h1]
    rfl⟩
  unfold lvl
  omega
/-- an optimum of few steps -/
theorem dst_n (hdu : ∀ d, d < 36 → op d → du d ≤ 63) : ∀ v c, c < 36 → Rc op du t c → dst op du t M c ≤ v → ∃ n C, wk op du t n c C ∧ dst op du t M c = M * C + n ∧ n ≤ lvl op du t M c ∧ C ≤ 63 * n := by
  intro v
  induction v with
  | zero =>
    intro c hc h hv
    rcases dst_p (M := M) h with rfl | ⟨w, d, g1, g2, g3, g4, g5⟩
    · exact ⟨0, 0, ⟨rfl, rfl⟩, by rw [dst_t]; omega, by omega, by omega⟩
    · omega
  | succ v ih =>
    intro c hc h hv
    rcases dst_p (M := M) h with rfl | ⟨w, d, g1, g2, g3, g4, g5⟩
    · exact ⟨0, 0, ⟨rfl, rfl⟩, by rw [dst_t]; omega, by omega, by omega⟩
    · have hd := bd_lt hc g2
      obtain ⟨n, C, k1, k2, k3, k4⟩ := ih d hd g4 (by omega)
      have hl := lvl_lt (M := M) (c := c) hd g4 (by omega)
      have h63 := hdu d hd g3
      refine ⟨n + 1, C + du d, ⟨w, d, C, g1, g2, g3, k1, rfl⟩, ?_, by omega, by omega⟩
      rw [g5, k2, Nat.mul_add]
      omega
theorem dst_2 (hdu : ∀ d, d < 36 → op d → du d ≤ 63) {c : Nat} (hc : c < 36) (h : Rc op du t c) : ∃ n C, n ≤ 35 ∧ C ≤ 2205 ∧ dst op du t 64 c = 64 * C + n ∧ dst op du t 1000 c = 1000 * C + n := by
  obtain ⟨n1, C1, a1, a2, a3, a4⟩ := dst_n (M := 64) hdu _ c hc h (Nat.le_refl _)
  obtain ⟨n2, C2, b1, b2, b3, b4⟩ := dst_n (M := 1000) hdu _ c hc h (Nat.le_refl _)
  have l1 := lvl_le (op := op) (du := du) (t := t) (M := 64) hc
  have l2 := lvl_le (op := op) (du := du) (t := t) (M := 1000) hc
  have c1 := (dst_i (M := 64) h).2 _ _ b1
  have c2 := (dst_i (M := 1000) h).2 _ _ a1
  have e1 : C1 = C2 := by omega
  subst e1
  have e2 : n1 = n2 := by omega
  subst e2
  exact ⟨n1, C1, by omega, by omega, a2, b2⟩
theorem dst_eq (hdu : ∀ d, d < 36 → op d → du d ≤ 63) {c d : Nat} (hc : c < 36) (hd : d < 36) (h : Rc op du t c) (h2 : Rc op du t d) : (dst op du t 64 d + (64 * du d + 1) = dst op du t 64 c) ↔ (dst op du t 1000 d + (1000 * du d + 1) = dst op du t 1000 c) := by
  obtain ⟨n1, C1, a1, a2, a3, a4⟩ := dst_2 hdu hc h
  obtain ⟨n2, C2, b1, b2, b3, b4⟩ := dst_2 hdu hd h2
  rw [a3, a4, b3, b4]
  omega
/-- a row of lengths, on the way to the least -/
def WI (op : Nat → Prop) (du : Nat → Nat) (t M F : Nat) (A : Nat → Nat) : Prop := A t = 0 ∧ ∀ c, c < 36 → A c ≤ F ∧ (A c < F → Rc op du t c ∧ dst op du t M c ≤ A c)
def upA (A : Nat → Nat) (c v : Nat) : Nat → Nat := fun k => if k = c then v else A k
theorem wi_up {F : Nat} {A : Nat → Nat} (h : WI op du t M F A) {c w d : Nat} (hc : c < 36) (hw : w < 4) (hb : bd c w = some d) (ho : op d) (hl : A d + (M * du d + 1) < A c) : WI op du t M F (upA A c (A d + (M * du d + 1))) := by
  have hd := bd_lt hc hb
  have h1 := (h.2 c hc).1
  obtain ⟨h2, h3⟩ := (h.2 d hd).2 (by omega)
  have h4 := dst_s (M := M) hw hb ho h2
  have hct : ¬ t = c := fun z => by subst z; have := h.1; omega
  refine ⟨by unfold upA; rw [if_neg hct]; exact h.1, fun k hk => ?_⟩
  unfold upA
  by_cases e : k = c
  · rw [if_pos e]
    subst e
    exact ⟨by omega, fun _ => ⟨rc_s hw hb ho h2, by omega⟩⟩
  · rw [if_neg e]
    exact h.2 k hk
/-- at rest: the least -/
theorem wi_fix {F : Nat} {A : Nat → Nat} (h : WI op du t M F A) (ht : t < 36) (hF : ∀ c, c < 36 → Rc op du t c → dst op du t M c < F) (ok : Nat → Prop) (hok : ∀ d, op d → ok d) (hfix : ∀ c w d, c < 36 → ok c → w < 4 → bd c w = some d → op d → A d < F → A c ≤ A d + (M * du d + 1)) : ∀ c, c < 36 → ok c → Rc op du t c → A c = dst op du t M c := by
  have key : ∀ v c, c < 36 → ok c → Rc op du t c → dst op du t M c ≤ v → A c ≤ dst op du t M c := by
    intro v
    induction v with
    | zero =>
      intro c hc hk hr hv
      rcases dst_p (M := M) hr with rfl | ⟨w, d, g1, g2, g3, g4, g5⟩
      · rw [h.1]; omega
      · omega
    | succ v ih =>
      intro c hc hk hr hv
      rcases dst_p (M := M) hr with rfl | ⟨w, d, g1, g2, g3, g4, g5⟩
      · rw [h.1]; omega
      · have hd := bd_lt hc g2
        have h1 := ih d hd (hok d g3) g4 (by omega)
        have h2 := hF d hd g4
        have := hfix c w d hc hk g1 g2 g3 (by omega)
        omega
  intro c hc hk hr
  have h1 := key _ c hc hk hr (Nat.le_refl _)
  have h2 := hF c hc hr
  have := ((h.2 c hc).2 (by omega)).2
  omega
theorem wi_no {F : Nat} {A : Nat → Nat} (h : WI op du t M F A) {c : Nat} (hc : c < 36) (hn : ¬ Rc op du t c) : A c = F := by
  have := (h.2 c hc).1
  apply Classical.byContradiction
  intro z
  exact hn ((h.2 c hc).2 (by omega)).1
theorem sum_up (A : Nat → Nat) {c v : Nat} (hc : c < 36) (hv : v < A c) : fb_sm (upA A c v) 36 < fb_sm A 36 := by
  have := fb_sm_upd A v (i := c) (n := 36) hc
  have e : fb_sm (upA A c v) 36 = fb_sm (fun k => if k = c then v else A k) 36 := rfl
  rw [e]
  omega
end
