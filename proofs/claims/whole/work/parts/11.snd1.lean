/-! WHAT THE SMALL MACHINE SAYS OF THE MACHINE: the relation -/
abbrev s_TY : Type := ClassId × ClassId × ClassId × ClassId
def s_tr (φ ad : Nat → Nat) : Value → Value
  | .ref a => .ref (if a < 1000000 then φ a else ad (a - 1000000))
  | v => v
theorem s_tr_cat (φ ad : Nat → Nat) (v : Value) : (s_tr φ ad v).category = v.category := by cases v <;> rfl
theorem s_tr_ref {φ ad : Nat → Nat} {a n : Nat} (h : a < n) (hn : n ≤ 1000000) : s_tr φ ad (.ref a) = .ref (φ a) := by
  show Value.ref (if a < 1000000 then φ a else _) = _
  rw [if_pos (Nat.lt_of_lt_of_le h hn)]
def s_ty (ci k : Nat) : FieldType := match ci with
  | 0 => tyX0 k
  | 1 => tyX1 k
  | 2 => tyX2 k
  | 3 => tyX3 k
  | 4 => tyX4 k
  | 5 => tyX5 k
  | 6 => tyX6 k
  | 7 => tyX7 k
  | 8 => tyX8 k
  | _ => tyX9 k
def s_fv (φ : Nat → Nat) (me : SMem) (i k : Nat) (t : FieldType) : Value := match t with
  | .long => .long (me.2.1 i k)
  | .object _ => va_rf ((me.2.2 i k).map φ)
  | .array _ => va_rf ((me.2.2 i k).map φ)
  | _ => .int (me.1 i k)
def s_nf (ci : Nat) : Nat := match vwCl[ci]? with
  | some q => q.2.2
  | none => 0
def s_flds (φ : Nat → Nat) (me : SMem) (ci i : Nat) : List Value := (List.range (s_nf ci)).map (fun k => s_fv φ me i k (s_ty ci k))
def s_tys (ty : s_TY) : List (ClassId × FieldType) := [(ty.1, .int), (ty.2.1, .long), (ty.2.2.1, .object "TaxOnLooks$Person"), (ty.2.2.2, .object "TaxOnLooks$Shelf")]
def s_cell (ty : s_TY) (φ : Nat → Nat) (sh : SShp) (me : SMem) (i : Nat) : va_E :=
  if sh.2.2.1 i < 10 then .inr (sh.2.2.1 i, s_flds φ me (sh.2.2.1 i) i)
  else if sh.2.2.1 i = 10 then .inl (ty.1, sh.2.2.2 i, .inl (me.1 i))
  else if sh.2.2.1 i = 11 then .inl (ty.2.1, sh.2.2.2 i, .inr (.inl (me.2.1 i)))
  else if sh.2.2.1 i = 12 then .inl (ty.2.2.1, sh.2.2.2 i, .inr (.inr (.inr (.inr (fun k => (me.2.2 i k).map φ)))))
  else .inl (ty.2.2.2, sh.2.2.2 i, .inr (.inr (.inr (.inr (fun k => (me.2.2 i k).map φ)))))
def s_ws (ty : s_TY) (φ : Nat → Nat) (sh : SShp) (me : SMem) : va_W := (List.range sh.1).map (fun i => (φ i, s_cell ty φ sh me i))
theorem s_ws_get {ty : s_TY} {φ : Nat → Nat} {sh : SShp} {me : SMem} {i : Nat} (h : i < sh.1) : (s_ws ty φ sh me)[i]? = some (φ i, s_cell ty φ sh me i) := by
  simp [s_ws, h]
theorem s_ws_inv {ty : s_TY} {φ : Nat → Nat} {sh : SShp} {me : SMem} {i : Nat} {q : Nat × va_E} (h : (s_ws ty φ sh me)[i]? = some q) : i < sh.1 ∧ q = (φ i, s_cell ty φ sh me i) := by
  rcases Nat.lt_or_ge i sh.1 with g | g
  · rw [s_ws_get g] at h
    exact ⟨g, (Option.some.inj h).symm⟩
  · rw [List.getElem?_eq_none (by simpa [s_ws] using g)] at h
    cases h
theorem s_cell_O {ty : s_TY} {φ : Nat → Nat} {sh : SShp} {me : SMem} {i ci : Nat} (h : sh.2.2.1 i = ci) (hc : ci < 10) : s_cell ty φ sh me i = .inr (ci, s_flds φ me ci i) := by
  simp only [s_cell, h, if_pos hc]
theorem s_cell_I {ty : s_TY} {φ : Nat → Nat} {sh : SShp} {me : SMem} {i : Nat} (h : sh.2.2.1 i = 10) : s_cell ty φ sh me i = .inl (ty.1, sh.2.2.2 i, .inl (me.1 i)) := by
  simp [s_cell, h]
theorem s_cell_J {ty : s_TY} {φ : Nat → Nat} {sh : SShp} {me : SMem} {i : Nat} (h : sh.2.2.1 i = 11) : s_cell ty φ sh me i = .inl (ty.2.1, sh.2.2.2 i, .inr (.inl (me.2.1 i))) := by
  simp [s_cell, h]
theorem s_cell_P {ty : s_TY} {φ : Nat → Nat} {sh : SShp} {me : SMem} {i : Nat} (h : sh.2.2.1 i = 12) : s_cell ty φ sh me i = .inl (ty.2.2.1, sh.2.2.2 i, .inr (.inr (.inr (.inr (fun k => (me.2.2 i k).map φ))))) := by
  simp [s_cell, h]
theorem s_cell_S {ty : s_TY} {φ : Nat → Nat} {sh : SShp} {me : SMem} {i : Nat} (h : sh.2.2.1 i = 13) : s_cell ty φ sh me i = .inl (ty.2.2.2, sh.2.2.2 i, .inr (.inr (.inr (.inr (fun k => (me.2.2 i k).map φ))))) := by
  simp [s_cell, h]
/-- one cell of the list anew -/
theorem s_ws_set {ty : s_TY} {φ : Nat → Nat} {sh : SShp} {me me' : SMem} {i : Nat} {e : va_E} (he : s_cell ty φ sh me' i = e) (ho : ∀ j, j ≠ i → s_cell ty φ sh me' j = s_cell ty φ sh me j) : (s_ws ty φ sh me).set i (φ i, e) = s_ws ty φ sh me' := by
  apply List.ext_getElem?
  intro j
  rw [List.getElem?_set]
  rcases Nat.lt_or_ge j sh.1 with g | g
  · rw [s_ws_get g, s_ws_get g]
    by_cases hj : i = j
    · subst hj
      rw [if_pos rfl, if_pos (by simpa [s_ws] using g), ← he]
    · rw [if_neg hj, ho j (fun q => hj q.symm)]
  · rw [List.getElem?_eq_none (by simpa [s_ws] using g), List.getElem?_eq_none (by simpa [s_ws] using g)]
    by_cases hj : i = j
    · subst hj
      rw [if_pos rfl, if_neg (by simpa [s_ws] using g)]
    · rw [if_neg hj]
theorem s_fv_uI_ne {φ : Nat → Nat} {me : SMem} {a k j k2 : Nat} {x : Int32} {t : FieldType} (h : j ≠ a ∨ k2 ≠ k) : s_fv φ (s_uI me a k x) j k2 t = s_fv φ me j k2 t := by
  have e : ¬ (j = a ∧ k2 = k) := fun q => h.elim (fun z => z q.1) (fun z => z q.2)
  cases t <;> simp [s_fv, s_uI, e]
theorem s_fv_uJ_ne {φ : Nat → Nat} {me : SMem} {a k j k2 : Nat} {x : Int64} {t : FieldType} (h : j ≠ a ∨ k2 ≠ k) : s_fv φ (s_uJ me a k x) j k2 t = s_fv φ me j k2 t := by
  have e : ¬ (j = a ∧ k2 = k) := fun q => h.elim (fun z => z q.1) (fun z => z q.2)
  cases t <;> simp [s_fv, s_uJ, e]
theorem s_fv_uR_ne {φ : Nat → Nat} {me : SMem} {a k j k2 : Nat} {x : Option Nat} {t : FieldType} (h : j ≠ a ∨ k2 ≠ k) : s_fv φ (s_uR me a k x) j k2 t = s_fv φ me j k2 t := by
  have e : ¬ (j = a ∧ k2 = k) := fun q => h.elim (fun z => z q.1) (fun z => z q.2)
  cases t <;> simp [s_fv, s_uR, e]
theorem s_cell_uI {ty : s_TY} {φ : Nat → Nat} {sh : SShp} {me : SMem} {a k j : Nat} {x : Int32} (h : j ≠ a) : s_cell ty φ sh (s_uI me a k x) j = s_cell ty φ sh me j := by
  have e : (s_uI me a k x).1 j = me.1 j := by funext z; simp [s_uI, h]
  simp only [s_cell, s_flds, s_fv_uI_ne (Or.inl h), e]
  rfl
theorem s_cell_uJ {ty : s_TY} {φ : Nat → Nat} {sh : SShp} {me : SMem} {a k j : Nat} {x : Int64} (h : j ≠ a) : s_cell ty φ sh (s_uJ me a k x) j = s_cell ty φ sh me j := by
  have e : (s_uJ me a k x).2.1 j = me.2.1 j := by funext z; simp [s_uJ, h]
  simp only [s_cell, s_flds, s_fv_uJ_ne (Or.inl h), e]
  rfl
theorem s_cell_uR {ty : s_TY} {φ : Nat → Nat} {sh : SShp} {me : SMem} {a k j : Nat} {x : Option Nat} (h : j ≠ a) : s_cell ty φ sh (s_uR me a k x) j = s_cell ty φ sh me j := by
  have e : (s_uR me a k x).2.2 j = me.2.2 j := by funext z; simp [s_uR, h]
  simp only [s_cell, s_flds, s_fv_uR_ne (Or.inl h), e]
  rfl
theorem s_flds_get {φ : Nat → Nat} {me : SMem} {ci i k : Nat} (h : k < s_nf ci) : (s_flds φ me ci i)[k]? = some (s_fv φ me i k (s_ty ci k)) := by
  simp [s_flds, h]
theorem s_flds_len {φ : Nat → Nat} {me : SMem} {ci i : Nat} : (s_flds φ me ci i).length = s_nf ci := by
  simp [s_flds]
theorem s_flds_set {φ : Nat → Nat} {me me' : SMem} {ci i k : Nat} {v : Value} (hv : s_fv φ me' i k (s_ty ci k) = v) (ho : ∀ j, j ≠ k → s_fv φ me' i j (s_ty ci j) = s_fv φ me i j (s_ty ci j)) : s_flds φ me' ci i = (s_flds φ me ci i).set k v := by
  apply List.ext_getElem?
  intro j
  rw [List.getElem?_set]
  rcases Nat.lt_or_ge j (s_nf ci) with g | g
  · rw [s_flds_get g, s_flds_get g]
    by_cases hj : k = j
    · subst hj
      rw [if_pos rfl, if_pos (by rw [s_flds_len]; exact g), hv]
    · rw [if_neg hj, ho j (fun q => hj q.symm)]
  · rw [List.getElem?_eq_none (by rw [s_flds_len]; exact g), List.getElem?_eq_none (by rw [s_flds_len]; exact g)]
    by_cases hj : k = j
    · subst hj
      rw [if_pos rfl, if_neg (by rw [s_flds_len]; omega)]
    · rw [if_neg hj]
/-- the locals as a list of pairs -/
def s_lv (φ ad : Nat → Nat) : Nat → SLoc → List (Nat × Value)
  | _, [] => []
  | i, none :: l => s_lv φ ad (i + 1) l
  | i, some v :: l => (i, s_tr φ ad v) :: s_lv φ ad (i + 1) l
theorem s_lv_mem {φ ad : Nat → Nat} {q : Nat × Value} : ∀ (l : SLoc) (i : Nat), q ∈ s_lv φ ad i l ↔ ∃ k v, q.1 = i + k ∧ s_get l k = some v ∧ q.2 = s_tr φ ad v
  | [], i => by simp [s_lv, s_get]
  | none :: l, i => by
    rw [s_lv, s_lv_mem l (i + 1)]
    constructor
    · rintro ⟨k, v, h1, h2, h3⟩
      exact ⟨k + 1, v, by omega, h2, h3⟩
    · rintro ⟨k, v, h1, h2, h3⟩
      match k, h1, h2 with
      | 0, _, h2 => cases h2
      | k + 1, h1, h2 => exact ⟨k, v, by omega, h2, h3⟩
  | some w :: l, i => by
    rw [s_lv, List.mem_cons, s_lv_mem l (i + 1)]
    constructor
    · rintro (h | ⟨k, v, h1, h2, h3⟩)
      · exact ⟨0, w, by simp [h], rfl, by simp [h]⟩
      · exact ⟨k + 1, v, by omega, h2, h3⟩
    · rintro ⟨k, v, h1, h2, h3⟩
      match k, h1, h2 with
      | 0, h1, h2 =>
        cases h2
        exact Or.inl (Prod.ext h1 h3)
      | k + 1, h1, h2 => exact Or.inr ⟨k, v, by omega, h2, h3⟩
theorem s_lv_at {φ ad : Nat → Nat} {lsr : Array Slot} {nL : Nat} {ls : SLoc} (h : lv_has lsr nL (s_lv φ ad 0 ls)) {i : Nat} {v : Value} (hg : s_get ls i = some v) : lsr[i]? = some (.val (s_tr φ ad v)) := h.2.2 (i, s_tr φ ad v) ((s_lv_mem ls 0).mpr ⟨i, v, by simp, hg, rfl⟩)
theorem s_unl_cat {w : Option Value} {v : Value} (h : s_unl w = some v) : w = some v ∧ v.category = 1 := by
  unfold s_unl at h
  split at h
  · cases h
  · cases h
  · rename_i x h1 h2
    refine ⟨h, ?_⟩
    cases v <;> first | rfl | exact absurd h (h1 _) | exact absurd h (h2 _)
theorem s_head_len (v : Option Value) (l : SLoc) : (s_head v l).length = l.length := by cases l <;> rfl
theorem s_put1_len (x : Value) : ∀ (l : SLoc) (i : Nat), (s_put1 l i x).length = l.length
  | [], _ => rfl
  | _ :: _, 0 => rfl
  | _ :: l, 1 => by simp [s_put1, s_head_len]
  | _ :: l, k + 2 => by simp [s_put1, s_put1_len x l (k + 1)]
theorem s_put2_len (x : Value) : ∀ (l : SLoc) (i : Nat), (s_put2 l i x).length = l.length
  | [], _ => rfl
  | _ :: _, 0 => by simp [s_put2, s_head_len]
  | _ :: l, 1 => by simp [s_put2, s_put2_len x l 0]
  | _ :: l, k + 2 => by simp [s_put2, s_put2_len x l (k + 1)]
theorem s_get_head {v w : Option Value} {l : SLoc} {j : Nat} {x : Value} (h : s_get (s_head v l) j = some x) : (j = 0 ∧ v = some x) ∨ (j ≠ 0 ∧ s_get l j = some x) := by
  cases l with
  | nil => simp [s_head, s_get] at h
  | cons a l =>
    match j, h with
    | 0, h => exact Or.inl ⟨rfl, h⟩
    | j + 1, h => exact Or.inr ⟨by omega, h⟩
theorem s_get_put1 {x v : Value} : ∀ (l : SLoc) (i j : Nat), s_get (s_put1 l i x) j = some v → (j = i ∧ v = x) ∨ (j ≠ i ∧ s_get l j = some v ∧ ¬ (j + 1 = i ∧ v.category = 2))
  | [], i, j, h => by simp [s_put1, s_get] at h
  | w :: l, 0, j, h => by
    match j, h with
    | 0, h => exact Or.inl ⟨rfl, (Option.some.inj h).symm⟩
    | j + 1, h => exact Or.inr ⟨by omega, h, by omega⟩
  | w :: l, 1, j, h => by
    match j, h with
    | 0, h =>
      obtain ⟨h1, h2⟩ := s_unl_cat h
      exact Or.inr ⟨by omega, h1, by omega⟩
    | j + 1, h =>
      rcases s_get_head (w := none) h with ⟨h1, h2⟩ | ⟨h1, h2⟩
      · exact Or.inl ⟨by omega, (Option.some.inj h2).symm⟩
      · exact Or.inr ⟨by omega, h2, by omega⟩
  | w :: l, k + 2, j, h => by
    match j, h with
    | 0, h => exact Or.inr ⟨by omega, h, by omega⟩
    | j + 1, h =>
      rcases s_get_put1 l (k + 1) j h with ⟨h1, h2⟩ | ⟨h1, h2, h3⟩
      · exact Or.inl ⟨by omega, h2⟩
      · exact Or.inr ⟨by omega, h2, by omega⟩
theorem s_get_put2 {x v : Value} : ∀ (l : SLoc) (i j : Nat), s_get (s_put2 l i x) j = some v → (j = i ∧ v = x) ∨ (j ≠ i ∧ j ≠ i + 1 ∧ s_get l j = some v ∧ ¬ (j + 1 = i ∧ v.category = 2))
  | [], i, j, h => by simp [s_put2, s_get] at h
  | w :: l, 0, j, h => by
    match j, h with
    | 0, h => exact Or.inl ⟨rfl, (Option.some.inj h).symm⟩
    | j + 1, h =>
      rcases s_get_head (w := none) h with ⟨h1, h2⟩ | ⟨h1, h2⟩
      · cases h2
      · exact Or.inr ⟨by omega, by omega, h2, by omega⟩
  | w :: l, 1, j, h => by
    match j, h with
    | 0, h =>
      obtain ⟨h1, h2⟩ := s_unl_cat h
      exact Or.inr ⟨by omega, by omega, h1, by omega⟩
    | j + 1, h =>
      rcases s_get_put2 l 0 j h with ⟨h1, h2⟩ | ⟨h1, h2, h3, h4⟩
      · exact Or.inl ⟨by omega, h2⟩
      · exact Or.inr ⟨by omega, by omega, h3, by omega⟩
  | w :: l, k + 2, j, h => by
    match j, h with
    | 0, h => exact Or.inr ⟨by omega, by omega, h, by omega⟩
    | j + 1, h =>
      rcases s_get_put2 l (k + 1) j h with ⟨h1, h2⟩ | ⟨h1, h2, h3, h4⟩
      · exact Or.inl ⟨by omega, h2⟩
      · exact Or.inr ⟨by omega, by omega, h3, by omega⟩
/-- behind a store of one slot -/
theorem s_lv_put1 {φ ad : Nat → Nat} {lsr : Array Slot} {nL : Nat} {ls : SLoc} {i : Nat} {x : Value} (h : lv_has lsr nL ((i, s_tr φ ad x) :: (s_lv φ ad 0 ls).filter (fun q => !(q.1 == i) && !(q.1 + 1 == i && q.2.category == 2)))) : lv_has lsr nL (s_lv φ ad 0 (s_put1 ls i x)) := by
  refine ⟨h.1, h.2.1, fun q hq => h.2.2 q ?_⟩
  obtain ⟨k, v, h1, h2, h3⟩ := (s_lv_mem _ _).mp hq
  rw [Nat.zero_add] at h1
  rcases s_get_put1 ls i k h2 with ⟨g1, g2⟩ | ⟨g1, g2, g3⟩
  · exact List.mem_cons.mpr (Or.inl (Prod.ext (h1.trans g1) (by rw [h3, g2])))
  · refine List.mem_cons.mpr (Or.inr (List.mem_filter.mpr ⟨(s_lv_mem _ _).mpr ⟨k, v, by omega, g2, h3⟩, ?_⟩))
    have e : q.2.category = v.category := by rw [h3, s_tr_cat]
    have a : ¬ q.1 = i := by omega
    simp only [beq_eq_false_iff_ne.mpr a, e, Bool.not_false, Bool.true_and, Bool.not_eq_true', Bool.and_eq_false_iff, beq_eq_false_iff_ne]
    by_cases z : v.category = 2
    · exact Or.inl (fun y => g3 ⟨by omega, z⟩)
    · exact Or.inr z
theorem s_lv_put2 {φ ad : Nat → Nat} {lsr : Array Slot} {nL : Nat} {ls : SLoc} {i : Nat} {x : Value} (h : lv_has lsr nL ((i, s_tr φ ad x) :: (s_lv φ ad 0 ls).filter (fun q => !(q.1 == i) && (!(q.1 == i + 1) && !(q.1 + 1 == i && q.2.category == 2))))) : lv_has lsr nL (s_lv φ ad 0 (s_put2 ls i x)) := by
  refine ⟨h.1, h.2.1, fun q hq => h.2.2 q ?_⟩
  obtain ⟨k, v, h1, h2, h3⟩ := (s_lv_mem _ _).mp hq
  rw [Nat.zero_add] at h1
  rcases s_get_put2 ls i k h2 with ⟨g1, g2⟩ | ⟨g1, g4, g2, g3⟩
  · exact List.mem_cons.mpr (Or.inl (Prod.ext (h1.trans g1) (by rw [h3, g2])))
  · refine List.mem_cons.mpr (Or.inr (List.mem_filter.mpr ⟨(s_lv_mem _ _).mpr ⟨k, v, by omega, g2, h3⟩, ?_⟩))
    have e : q.2.category = v.category := by rw [h3, s_tr_cat]
    have a : ¬ q.1 = i := by omega
    have b : ¬ q.1 = i + 1 := by omega
    simp only [beq_eq_false_iff_ne.mpr a, beq_eq_false_iff_ne.mpr b, e, Bool.not_false, Bool.true_and, Bool.not_eq_true', Bool.and_eq_false_iff, beq_eq_false_iff_ne]
    by_cases z : v.category = 2
    · exact Or.inl (fun y => g3 ⟨by omega, z⟩)
    · exact Or.inr z
theorem s_pop_spec : ∀ (n : Nat) (acc st : List Value), (s_pop n acc st).1.length = n + acc.length → acc.reverse ++ st = (s_pop n acc st).1.reverse ++ (s_pop n acc st).2
  | 0, acc, st, _ => rfl
  | n + 1, acc, [], h => by simp [s_pop] at h
  | n + 1, acc, v :: st, h => by
    have h1 := s_pop_spec n (v :: acc) st (by rw [s_pop] at h; rw [h]; simp; omega)
    rw [s_pop, ← h1]
    simp
theorem s_sm_sum {st : List Value} (h : s_sm st) (φ ad : Nat → Nat) : ((st.map (s_tr φ ad)).map fun v => v.category).sum ≤ 8 := by
  have hc : ∀ v : Value, (s_tr φ ad v).category ≤ 2 := fun v => by rcases lv_cat (s_tr φ ad v) with q | q <;> omega
  match st, h with
  | [], _ => simp
  | [a], _ => have := hc a; simp; omega
  | [a, b], _ => have := hc a; have := hc b; simp; omega
  | [a, b, d], _ => have := hc a; have := hc b; have := hc d; simp; omega
  | [a, b, d, e], _ => have := hc a; have := hc b; have := hc d; have := hc e; simp; omega
theorem s_okl_lv {φ φ' ad : Nat → Nat} {n : Nat} (h : ∀ i, i < n → φ' i = φ i) (hn : n ≤ 1000000) {v : Value} (hv : s_okv n v) : s_tr φ' ad v = s_tr φ ad v := by
  cases v <;> try rfl
  rename_i a
  rcases hv with g | g
  · rw [s_tr_ref g hn, s_tr_ref g hn, h a g]
  · simp only [s_tr, if_neg (Nat.not_lt.mpr g)]
theorem s_lv_ok {φ φ' ad : Nat → Nat} {n : Nat} (h : ∀ i, i < n → φ' i = φ i) (hn : n ≤ 1000000) : ∀ (l : SLoc) (i : Nat), s_okl n l → s_lv φ' ad i l = s_lv φ ad i l
  | [], _, _ => rfl
  | none :: l, i, g => s_lv_ok h hn l (i + 1) g
  | some v :: l, i, g => by rw [s_lv, s_lv, s_okl_lv h hn g.1, s_lv_ok h hn l (i + 1) g.2]
theorem s_st_ok {φ φ' ad : Nat → Nat} {n : Nat} (h : ∀ i, i < n → φ' i = φ i) (hn : n ≤ 1000000) : ∀ (l : List Value), s_oks n l → l.map (s_tr φ' ad) = l.map (s_tr φ ad)
  | [], _ => rfl
  | v :: l, g => by rw [List.map_cons, List.map_cons, s_okl_lv h hn g.1, s_st_ok h hn l g.2]
