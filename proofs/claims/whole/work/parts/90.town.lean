/-! towns read: the reading, as numbers -/
def wL (w : Nat) : List Nat := ([[119, 97, 108, 108], [103, 97, 112], [98, 97, 108, 99, 111, 110, 121], [112, 101, 114, 115, 111, 110], [115, 97, 99, 107], [109, 105, 116, 101], [114, 101, 97, 99, 104]] : List (List Nat)).getD w []
def wix (v : Int32) : Option Nat := if v = nI 119 then some 0 else if v = nI 103 then some 1 else if v = nI 98 then some 2 else if v = nI 112 then some 3 else if v = nI 115 then some 4 else if v = nI 109 then some 5 else if v = nI 114 then some 6 else none
theorem wix_lt {v : Int32} {w : Nat} (h : wix v = some w) : w < 7 ∧ v = nI ((wL w).getD 0 0) := by
  unfold wix at h
  repeat' split at h
  all_goals first
    | (cases h; rename_i e; exact ⟨by decide, e⟩)
    | cases h
def rdT (E : Nat → Int64) (L i : Nat) : Int32 := if i < L then (E i).toInt32 else -1
/-- how many letters stand -/
def mat (R : Nat → Int32) : Nat → List Nat → Nat
  | _, [] => 0
  | i, c :: l => if R i = nI c then mat R (i + 1) l + 1 else 0
theorem mat_le (R : Nat → Int32) : ∀ (l : List Nat) (i : Nat), mat R i l ≤ l.length
  | [], _ => Nat.le_refl 0
  | c :: l, i => by
    rw [mat]
    split
    · have := mat_le R l (i + 1)
      simp; omega
    · omega
theorem mat_in (R : Nat → Int32) : ∀ (l : List Nat) (i j : Nat), j < mat R i l → R (i + j) = nI (l.getD j 0)
  | [], _, _, h => by simp [mat] at h
  | c :: l, i, j, h => by
    rw [mat] at h
    split at h
    · rename_i e
      cases j with
      | zero => simpa using e
      | succ j =>
        have := mat_in R l (i + 1) j (by omega)
        rw [show i + (j + 1) = i + 1 + j by omega, this]
        simp
    · omega
theorem mat_out (R : Nat → Int32) : ∀ (l : List Nat) (i : Nat), mat R i l < l.length → ¬ R (i + mat R i l) = nI (l.getD (mat R i l) 0)
  | [], _, h => by simp at h
  | c :: l, i, h => by
    rw [mat] at h ⊢
    split
    · rename_i e
      rw [if_pos e] at h
      have := mat_out R l (i + 1) (by simpa using h)
      rw [show i + (mat R (i + 1) l + 1) = i + 1 + mat R (i + 1) l by omega]
      simpa using this
    · rename_i e
      simpa using e
def dig (R : Nat → Int32) (i : Nat) : Option Nat := if nI 48 ≤ R i ∧ R i ≤ nI 57 then some (iN (R i) - 48) else none
theorem dig_i {R : Nat → Int32} {i a : Nat} (h : dig R i = some a) : a ≤ 9 ∧ R i = nI (a + 48) := by
  unfold dig at h
  split at h
  · rename_i g
    have h0 : nI 0 ≤ R i := by
      have := g.1
      rw [fa_le, nI_toInt (by decide)] at this
      rw [fa_le, nI_toInt (by decide)]
      omega
    obtain ⟨n, hn, e⟩ := i_nat h0
    rw [e] at g h ⊢
    rw [nI_leI (by decide) hn, nI_leI hn (by decide)] at g
    rw [iN_n hn] at h
    cases h
    exact ⟨by omega, by rw [Nat.sub_add_cancel g.1]⟩
  · cases h
theorem dig_n {R : Nat → Int32} {i : Nat} (h : dig R i = none) : R i < nI 48 ∨ nI 57 < R i := by
  unfold dig at h
  split at h
  · cases h
  · rename_i g
    by_cases g1 : nI 48 ≤ R i
    · exact Or.inr (Int32.not_le.mp (fun z => g ⟨g1, z⟩))
    · exact Or.inl (Int32.not_le.mp g1)
/-- a number's digits, from i on: the number and the place behind it, or where it fails -/
def nmb (R : Nat → Int32) (ok : Nat → Bool) (i : Nat) : (Nat × Nat) ⊕ Nat := match dig R i with
  | none => Sum.inr i
  | some a => match dig R (i + 1) with
    | none => if ok a then Sum.inl (a, i + 1) else Sum.inr i
    | some b => if ok (10 * a + b) then Sum.inl (10 * a + b, i + 2) else Sum.inr i
/-- a blank and a number -/
def num (R : Nat → Int32) (ok : Nat → Bool) (i : Nat) : (Nat × Nat) ⊕ Nat := if R i = nI 32 then nmb R ok (i + 1) else Sum.inr i
theorem nmb_l {R : Nat → Int32} {ok : Nat → Bool} {i v p : Nat} (h : nmb R ok i = Sum.inl (v, p)) : ok v = true ∧ v ≤ 99 ∧ i < p := by
  unfold nmb at h
  cases h1 : dig R i with
  | none => rw [h1] at h; cases h
  | some a =>
    have a9 := (dig_i h1).1
    rw [h1] at h
    cases h2 : dig R (i + 1) with
    | none =>
      rw [h2] at h
      simp only at h
      split at h
      · rename_i g; cases h; exact ⟨g, by omega, by omega⟩
      · cases h
    | some b =>
      have b9 := (dig_i h2).1
      rw [h2] at h
      simp only at h
      split at h
      · rename_i g; cases h; exact ⟨g, by omega, by omega⟩
      · cases h
theorem num_l {R : Nat → Int32} {ok : Nat → Bool} {i v p : Nat} (h : num R ok i = Sum.inl (v, p)) : ok v = true ∧ v ≤ 99 ∧ i + 1 < p := by
  unfold num at h
  split at h
  · exact nmb_l h
  · cases h
/-- the numbers of a person, one behind the other: those told, the place -/
def psn (R : Nat → Int32) (oks : List (Nat → Bool)) (i : Nat) : (List Nat × Nat) ⊕ Nat := match oks with
  | [] => Sum.inl ([], i)
  | ok :: l => match num R ok i with
    | Sum.inr f => Sum.inr f
    | Sum.inl (v, p) => match psn R l p with
      | Sum.inr f => Sum.inr f
      | Sum.inl (vs, p2) => Sum.inl (v :: vs, p2)
abbrev okM (m : Nat) : Nat → Bool := fun v => decide (v ≤ m)
def okw3 (σ : TS) : Nat → Bool := fun v => decide (v ≤ 35 ∧ σ.1 7 v = 0)
def oks3 (σ : TS) : List (Nat → Bool) := [okM 6, okM 9, okM 20, okM 9, okM 99, okw3 σ]
/-- an item -/
def ok1 (σ : TS) (w : Nat) : Nat → Bool := if w = 0 then fun v => decide (v ≤ 35 ∧ bs (fun i => decide (σ.1 5 i = v)) (σ.2.1 0) = 0) else if w ≤ 2 then fun v => decide (v ≤ 35) else if w = 4 then fun v => decide (v < σ.2.1 0) else if w = 5 then fun v => decide (1 ≤ v ∧ v ≤ 9) else fun v => decide (1 ≤ v ∧ v ≤ 5)
def up1 (σ : TS) (w v : Nat) : TS := if w = 0 then uP σ 7 v 1 else if w = 1 then uP σ 7 v 0 else if w = 2 then uP σ 8 v 1 else if w = 4 then uP σ 6 v 1 else if w = 5 then uN σ 1 v else uN σ 2 v
def itm (R : Nat → Int32) (σ : TS) (i : Nat) : (TS × Nat) ⊕ Nat := match wix (R i) with
  | none => Sum.inr i
  | some w => if mat R i (wL w) < (wL w).length then Sum.inr (i + mat R i (wL w)) else if w = 3 then (if σ.2.1 0 = 7 then Sum.inr i else match psn R (oks3 σ) (i + 6) with
      | Sum.inr f => Sum.inr f
      | Sum.inl (vs, p) => Sum.inl (addp σ (pf (vs.getD 0 0) (vs.getD 1 0) (vs.getD 2 0) (vs.getD 3 0) (vs.getD 4 0) (vs.getD 5 0)), p))
    else match num R (ok1 σ w) (i + (wL w).length) with
      | Sum.inr f => Sum.inr f
      | Sum.inl (v, p) => Sum.inl (up1 σ w v, p)
def tow (R : Nat → Int32) (L : Nat) : Nat → TS → Nat → Nat → (TS × Nat) ⊕ Nat
  | 0, _, _, _ => Sum.inr 0
  | f + 1, σ, i, n => match itm R σ i with
    | Sum.inr g => Sum.inr g
    | Sum.inl (τ, p) => if p = L then Sum.inl (τ, n) else if R p = nI 59 then tow R L f τ (p + 1) (n + 1) else Sum.inr p
def z_town (α : AS) (s : Int32) : AS × Int32 := if ¬ rr α s = 0 then zno α (rr α s) else match tow (rdT (gE α (iN s)) (gS α (iN s) 2)) (gS α (iN s) 2) 160 (gT α) 0 1 with
  | Sum.inr f => (aR (aF α (nI f)) 6, -(nI 6))
  | Sum.inl (σ, n) => (aF (aT α σ) (-1), nI n)
section
variable {sh : SShp} {me : SMem} {Q : SQ}
theorem st_isEmpty {w : Nat} (hw : w < 8) (h : Q (some (.int (bi (w = 7)))) sh me) : C_J0_isEmpty_aae02 [.ref (1000002 + w)] sh me Q := by
  unfold C_J0_isEmpty_aae02
  rcases (show w = 0 ∨ w = 1 ∨ w = 2 ∨ w = 3 ∨ w = 4 ∨ w = 5 ∨ w = 6 ∨ w = 7 by omega) with rfl | rfl | rfl | rfl | rfl | rfl | rfl | rfl
  all_goals
    refine w_J0_isEmpty_aae02_0 ?_
    refine ⟨by decide, by decide, by decide, by decide, ?_⟩
    refine ⟨fun z => ?_, fun z => ?_⟩
    all_goals first
      | exact absurd rfl z
      | exact absurd (by decide) z
      | (refine w_J0_isEmpty_aae02_13 ?_
         first
          | exact ⟨Or.inl rfl, h⟩
          | exact ⟨Or.inr rfl, h⟩)
theorem st_length {w : Nat} (hw : w < 7) (h : Q (some (.int (nI (wL w).length))) sh me) : C_J0_length_8abf5 [.ref (1000002 + w)] sh me Q := by
  unfold C_J0_length_8abf5
  rcases (show w = 0 ∨ w = 1 ∨ w = 2 ∨ w = 3 ∨ w = 4 ∨ w = 5 ∨ w = 6 by omega) with rfl | rfl | rfl | rfl | rfl | rfl | rfl
  all_goals
    refine w_J0_length_8abf5_0 ?_
    refine ⟨by decide, by decide, by decide, by decide, ⟨by decide, by decide⟩, rfl, trivial, ?_⟩
    unfold C_J0_coder_7d493
    refine w_J0_coder_7d493_0 ?_
    refine ⟨fun z => absurd z (by decide), fun _ => ⟨by decide, by decide, ?_⟩⟩
    refine w_J0_coder_7d493_14 ?_
    refine ⟨by decide, ?_⟩
    exact h
theorem st_check {i n : Nat} {v : Value} (hv : v = .null ∨ v = .ref 1000030) (h : i < n) (hn : n < 1000) (hq : Q (some (.int (nI i))) sh me) : C_J3_checkIndex_8e157 [.int (nI i), .int (nI n), v] sh me Q := by
  have a : nI i < nI n := (nI_ltI (by omega) (by omega)).mpr h
  have b : ¬ nI i < 0 := fun z => absurd ((nI_ltI (a := i) (b := 0) (by omega) (by omega)).mp z) (by omega)
  rcases hv with rfl | rfl
  all_goals
    unfold C_J3_checkIndex_8e157
    refine w_J3_checkIndex_8e157_0 ?_
    exact ⟨fun z => absurd z b, fun _ => ⟨fun _ => hq, fun z => absurd a z⟩⟩
theorem st_fin {X Y : Int32} (e : X = Y) (n : narrow .char (.int Y) = .int Y) (h : Q (some (.int Y)) sh me) : narrow .char (.int X) = .int X ∧ narrow .char (.int X) = .int X ∧ Q (some (.int X)) sh me := by subst e; exact ⟨n, n, h⟩
theorem st_charAt {w i : Nat} (hw : w < 7) (hi : i < (wL w).length) (h : Q (some (.int (nI ((wL w).getD i 0)))) sh me) : C_J0_charAt_5068e [.ref (1000002 + w), .int (nI i)] sh me Q := by
  unfold C_J0_charAt_5068e
  rcases (show w = 0 ∨ w = 1 ∨ w = 2 ∨ w = 3 ∨ w = 4 ∨ w = 5 ∨ w = 6 by omega) with rfl | rfl | rfl | rfl | rfl | rfl | rfl
  all_goals
    have h8 : i < 8 := Nat.lt_of_lt_of_le hi (by decide)
    rcases (show i = 0 ∨ i = 1 ∨ i = 2 ∨ i = 3 ∨ i = 4 ∨ i = 5 ∨ i = 6 ∨ i = 7 by omega) with rfl | rfl | rfl | rfl | rfl | rfl | rfl | rfl
    all_goals first
      | exact absurd hi (by decide)
      | (refine w_J0_charAt_5068e_0 ?_
         refine ⟨⟨by decide, by decide⟩, rfl, trivial, ?_⟩
         unfold C_J0_isLatin1_aae02
         refine w_J0_isLatin1_aae02_0 ?_
         refine ⟨fun z => absurd z (by decide), fun _ => ⟨by decide, by decide, ⟨fun z => absurd rfl z, fun _ => ?_⟩⟩⟩
         refine w_J0_isLatin1_aae02_18 ?_
         refine ⟨Or.inr rfl, ⟨fun z => absurd z (by decide), fun _ => ⟨by decide, by decide, rfl, trivial, ?_⟩⟩⟩
         unfold C_J1_charAt_3b067
         refine w_J1_charAt_3b067_0 ?_
         refine ⟨by decide, by decide, rfl, trivial, ?_⟩
         unfold C_J0_checkIndex_df160
         refine w_J0_checkIndex_df160_0 ?_
         refine ⟨⟨rfl, trivial, ?_⟩, ⟨rfl, trivial, ?_⟩⟩
         · refine st_check (Or.inl rfl) (by decide) (by decide) ?_
           exact ⟨by decide, by decide, by decide, by unfold vp_in; decide, st_fin (by decide +kernel) (by decide +kernel) h⟩
         · refine st_check (Or.inr rfl) (by decide) (by decide) ?_
           exact ⟨by decide, by decide, by decide, by unfold vp_in; decide, st_fin (by decide +kernel) (by decide +kernel) h⟩)
theorem st_word {v : Int32} (h : Q (some (.ref (1000002 + (wix v).getD 7))) sh me) : C_X3_wordWith [.int v] sh me Q := by
  have k9 : (wix v).getD 7 = 7 → s_wp P_X3_wordWith Q 125 [some (.int v)] [] sh me := by
    intro e
    rw [e] at h
    refine w_X3_wordWith_125 ?_
    exact h
  unfold C_X3_wordWith
  refine w_X3_wordWith_0 ?_
  refine ⟨fun e => ?_, fun h1 => ⟨fun e => ?_, fun h2 => ⟨fun e => ?_, fun h3 => ⟨fun e => ?_, fun h4 => ⟨fun e => ?_, fun h5 => ⟨fun e => ?_, fun h6 => ⟨fun e => ?_, fun h7 => ⟨fun e => ?_, fun h8 => ⟨fun e => ?_, fun h9 => ⟨fun e => ?_, fun h10 => ⟨fun e => ?_, fun h11 => ⟨fun e => ?_, fun h12 => ⟨fun e => ?_, fun h13 => ⟨fun e => ?_, fun h14 => ⟨fun e => ?_, fun h15 => ⟨fun e => ?_, fun h16 => ⟨fun e => ?_, fun h17 => ⟨fun e => ?_, fun h18 => ⟨fun e => ?_, fun h19 => ⟨fun e => ?_, fun h20 => ⟨fun e => ?_, fun h21 => ⟨fun e => ?_, fun h22 => ?_⟩⟩⟩⟩⟩⟩⟩⟩⟩⟩⟩⟩⟩⟩⟩⟩⟩⟩⟩⟩⟩⟩
  all_goals first
    | (refine k9 ?_
       simp only at e
       subst e
       decide)
    | (refine k9 ?_
       have e : wix v = none := by
         unfold wix
         exact (if_neg h22).trans ((if_neg h6).trans ((if_neg h1).trans ((if_neg h15).trans ((if_neg h18).trans ((if_neg h12).trans (if_neg h17))))))
       rw [e]
       rfl)
    | (simp only at e
       subst e
       exact h)
end
theorem nmb_r {R : Nat → Int32} {ok : Nat → Bool} {i v p : Nat} (h : nmb R ok i = Sum.inl (v, p)) : p ≤ i + 2 := by
  unfold nmb at h
  split at h
  · cases h
  · split at h
    · split at h
      · cases h; omega
      · cases h
    · split at h
      · cases h; omega
      · cases h
theorem num_r {R : Nat → Int32} {ok : Nat → Bool} {i v p : Nat} (h : num R ok i = Sum.inl (v, p)) : p ≤ i + 3 := by
  unfold num at h
  split at h
  · have := nmb_r h; omega
  · cases h
theorem num_and (R : Nat → Int32) {ok ok2 g : Nat → Bool} (i : Nat) (h : ∀ v, ok2 v = (ok v && g v)) : num R ok2 i = match num R ok i with
    | Sum.inr f => Sum.inr f
    | Sum.inl (v, p) => if g v then Sum.inl (v, p) else Sum.inr (i + 1) := by
  unfold num
  split
  · unfold nmb
    cases dig R (i + 1) with
    | none => rfl
    | some a =>
      cases dig R (i + 1 + 1) with
      | none =>
        simp only [h]
        cases h1 : ok a <;> cases h2 : g a <;> simp [h2]
      | some b =>
        simp only [h]
        cases h1 : ok (10 * a + b) <;> cases h2 : g (10 * a + b) <;> simp [h2]
  · rfl
theorem psn_l (R : Nat → Int32) : ∀ (oks : List (Nat → Bool)) (i : Nat) {vs : List Nat} {p : Nat}, psn R oks i = Sum.inl (vs, p) → (∀ k, k < oks.length → (oks.getD k (fun _ => false)) (vs.getD k 0) = true) ∧ i ≤ p ∧ p ≤ i + 3 * oks.length
  | [], i, vs, p, h => by
    unfold psn at h
    cases h
    exact ⟨fun k hk => absurd hk (Nat.not_lt_zero k), Nat.le_refl _, by simp⟩
  | ok :: l, i, vs, p, h => by
    unfold psn at h
    split at h
    · cases h
    · rename_i v p1 e1
      split at h
      · cases h
      · rename_i vs2 p2 e2
        cases h
        obtain ⟨h1, h2, h3⟩ := psn_l R l p1 e2
        have n1 := num_l e1
        have n2 := num_r e1
        refine ⟨fun k hk => ?_, by omega, by simp; omega⟩
        cases k with
        | zero => exact n1.1
        | succ k => exact h1 k (by simpa using hk)
theorem itm_tw {R : Nat → Int32} {σ τ : TS} {i p : Nat} (hW : TW σ) (h : itm R σ i = Sum.inl (τ, p)) : TW τ ∧ σ.2.1 0 ≤ τ.2.1 0 ∧ i + 2 ≤ p ∧ p ≤ i + 40 := by
  unfold itm at h
  split at h
  · cases h
  · rename_i w hw
    have hl : 3 ≤ (wL w).length ∧ (wL w).length ≤ 7 := by
      have := (wix_lt hw).1
      rcases (show w = 0 ∨ w = 1 ∨ w = 2 ∨ w = 3 ∨ w = 4 ∨ w = 5 ∨ w = 6 by omega) with rfl | rfl | rfl | rfl | rfl | rfl | rfl <;> decide
    have hw7 := (wix_lt hw).1
    split at h
    · cases h
    · split at h
      · split at h
        · cases h
        · rename_i g7
          split at h
          · cases h
          · rename_i vs p2 e
            cases h
            obtain ⟨h1, h2, h3⟩ := psn_l R _ _ e
            have k0 := of_decide_eq_true (h1 0 (by simp [oks3]))
            have k1 := of_decide_eq_true (h1 1 (by simp [oks3]))
            have k2 := of_decide_eq_true (h1 2 (by simp [oks3]))
            have k3 := of_decide_eq_true (h1 3 (by simp [oks3]))
            have k4 := of_decide_eq_true (h1 4 (by simp [oks3]))
            have k5 := of_decide_eq_true (h1 5 (by simp [oks3]))
            have hn := hW.1
            refine ⟨tw_add hW (by omega) (by omega) k1 k2 k3 (by omega) (by omega) k5.2, Nat.le_succ _, by omega, ?_⟩
            have : (oks3 σ).length = 6 := rfl
            omega
      · rename_i w3
        split at h
        · cases h
        · rename_i v p2 e
          cases h
          obtain ⟨n1, n2, n3⟩ := num_l e
          have n4 := num_r e
          refine ⟨?_, ?_, by omega, by omega⟩
          · rcases (show w = 0 ∨ w = 1 ∨ w = 2 ∨ w = 4 ∨ w = 5 ∨ w = 6 by omega) with rfl | rfl | rfl | rfl | rfl | rfl
            · have := of_decide_eq_true n1
              exact tw_wall hW (Nat.le_refl 1) (fun _ i hi hc => by
                have z := bs_0.mp this.2 i hi
                simp [hc] at z)
            · exact tw_wall hW (by decide) (fun z => by cases z)
            · exact tw_bal hW (by decide)
            · exact tw_sk hW (by decide)
            · have := of_decide_eq_true n1
              exact tw_N hW (fun _ => this) (fun z => by cases z) (fun z => by cases z) (by decide)
            · have := of_decide_eq_true n1
              exact tw_N hW (fun z => by cases z) (fun _ => this) (fun z => by cases z) (by decide)
          · rcases (show w = 0 ∨ w = 1 ∨ w = 2 ∨ w = 4 ∨ w = 5 ∨ w = 6 by omega) with rfl | rfl | rfl | rfl | rfl | rfl <;> exact Nat.le_refl _
theorem tow_tw {R : Nat → Int32} {L : Nat} : ∀ (f : Nat) {σ τ : TS} {i n m : Nat}, TW σ → tow R L f σ i n = Sum.inl (τ, m) → TW τ ∧ σ.2.1 0 ≤ τ.2.1 0
  | 0, σ, τ, i, n, m, _, h => by cases h
  | f + 1, σ, τ, i, n, m, hW, h => by
    unfold tow at h
    split at h
    · cases h
    · rename_i τ1 p e
      obtain ⟨h1, h2, _⟩ := itm_tw hW e
      split at h
      · cases h
        exact ⟨h1, h2⟩
      · split at h
        · obtain ⟨k1, k2⟩ := tow_tw f h1 h
          exact ⟨k1, Nat.le_trans h2 k2⟩
        · cases h
theorem wf_town {α : AS} (hw : WF α) (s : Int32) : WF (z_town α s).1 := by
  unfold z_town
  split
  · exact wf_R hw _
  · split
    · exact hw
    · rename_i σ n e
      obtain ⟨h1, h2⟩ := tow_tw _ hw.1 e
      exact wf_T hw h1 h2
