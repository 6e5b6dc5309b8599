/-! WHAT THE SMALL MACHINE SAYS OF THE MACHINE: fields, rows, new cells -/
def s_FL (own : String) (idx : Nat) (ref n d : String) : Prop := Cond.fieldLink own idx ref n d ∈ lw_tbl ∨ ∃ host, Cond.fieldLinkNest own idx ref n d host ∈ lw_tbl
theorem s_cl_ty {ci N : Nat} {C : String} {T : u_T} (cl : s_CL ci C T N) {k : Nat} (hk : k < N) : k < s_nf ci := by rw [cl.2.2.2.2.2]; exact hk
section SNH
variable {p : Program} {l : Launch} {e : Env} {R : Room} {s : State} {m : MethodId} {args : Array Value} {below : List Frame} {meth : Method} {c : Code} {cc : ByteArray} {nL : Nat} {own : String} {D : va_G} {ty : s_TY} {ad : Nat → Nat} {A : Nat → Prop} {al : Bool} {n0 : Nat} {φ0 : Nat → Nat} {QR : State → Prop} {pc : Nat} {K Kt Kf : SK} {ret : Option FieldType} {nm : String}
theorem t_getG (G : s_G p s m args meth c cc nL own D ty ad A ret nm) {ci k idx N : Nat} {C ref : String} {T : u_T} (cl : s_CL ci C T N) (hk : k < N) (fl : s_FL own idx ref (T k).2.1 (T k).2.2.1) (href : (T k).1 = ref) (hdg : decode cc pc = .ok (.getfield idx, 3)) {lsr : Array Slot} {H : Heap} {locs : List Loc} {φ : Nat → Nat} {sh : SShp} {me : SMem} {a x y : Nat} {r : List Value} {v : Value} (hJ : s_J R s D ty A al n0 φ0 H locs φ sh me) (ha : a < sh.1) (hc : sh.2.2.1 a = ci) (hv : s_fv φ me a k (s_ty ci k) = v) (kk : W p l e R s m args below meth c H locs x y QR (F0 m (pc + 3) lsr (v :: r))) : W p l e R s m args below meth c H locs x y QR (F0 m pc lsr (s_tr φ ad (.ref a) :: r)) := by
  have hcell := s_ws_get (ty := ty) (φ := φ) (me := me) ha
  rw [s_cell_O hc cl.2.2.2.2.1] at hcell
  rw [s_tr_ref ha hJ.2.2.2.1]
  have hf : (s_flds φ me ci a)[k]? = some v := by rw [s_flds_get (s_cl_ty cl hk), hv]
  rcases fl with fl | ⟨host, fl⟩
  · exact va_get G.1 G.2.1 G.2.2.2.2.1.use cl.2.1 G.2.2.2.1 G.2.2.2.2.2.1 hJ.1 a hcell cl.1 k hk (G.2.2.2.2.1.use _ (s_in fl rfl)) (fun z hz => href ▸ hz) hf hdg kk
  · exact va_getN G.1 G.2.1 G.2.2.2.2.1.use cl.2.1 G.2.2.2.1 G.2.2.2.2.2.1 hJ.1 a hcell cl.1 k hk (va_Nw.use rfl (G.2.2.2.2.2.2.2.1 _ fl rfl)) (fun z hz => href ▸ hz) hf hdg kk
theorem t_getI (G : s_G p s m args meth c cc nL own D ty ad A ret nm) {ci k idx N : Nat} {C ref : String} {T : u_T} (cl : s_CL ci C T N) (hk : k < N) (fl : s_FL own idx ref (T k).2.1 (T k).2.2.1) (href : (T k).1 = ref) (ht : s_ty ci k = .int ∨ s_ty ci k = .boolean) (hdg : decode cc pc = .ok (.getfield idx, 3)) (h : s_T p l e R s m args below meth c nL D ty ad A al n0 φ0 QR (pc + 3) K) : s_T p l e R s m args below meth c nL D ty ad A al n0 φ0 QR pc (o_getI ci k K) := by
  intro lsr H locs φ ls st sh me h1 h2 h3 h4
  unfold o_getI at h4
  split at h4
  · rename_i a r
    exact t_getG G cl hk fl href hdg h3 h4.1 h4.2.1 (by rcases ht with q | q <;> rw [q] <;> rfl) (h lsr H locs φ ls _ sh me h1 h2 h3 h4.2.2)
  · exact h4.elim
theorem t_getJ (G : s_G p s m args meth c cc nL own D ty ad A ret nm) {ci k idx N : Nat} {C ref : String} {T : u_T} (cl : s_CL ci C T N) (hk : k < N) (fl : s_FL own idx ref (T k).2.1 (T k).2.2.1) (href : (T k).1 = ref) (ht : s_ty ci k = .long) (hdg : decode cc pc = .ok (.getfield idx, 3)) (h : s_T p l e R s m args below meth c nL D ty ad A al n0 φ0 QR (pc + 3) K) : s_T p l e R s m args below meth c nL D ty ad A al n0 φ0 QR pc (o_getJ ci k K) := by
  intro lsr H locs φ ls st sh me h1 h2 h3 h4
  unfold o_getJ at h4
  split at h4
  · exact t_getG G cl hk fl href hdg h3 h4.1 h4.2.1 (by rw [ht]; rfl) (h lsr H locs φ ls _ sh me h1 h2 h3 h4.2.2)
  · exact h4.elim
theorem t_getR (G : s_G p s m args meth c cc nL own D ty ad A ret nm) {ci k idx N : Nat} {C ref : String} {T : u_T} (cl : s_CL ci C T N) (hk : k < N) (fl : s_FL own idx ref (T k).2.1 (T k).2.2.1) (href : (T k).1 = ref) (ht : (∃ n, s_ty ci k = .object n) ∨ ∃ t, s_ty ci k = .array t) (hdg : decode cc pc = .ok (.getfield idx, 3)) (h : s_T p l e R s m args below meth c nL D ty ad A al n0 φ0 QR (pc + 3) K) : s_T p l e R s m args below meth c nL D ty ad A al n0 φ0 QR pc (o_getR ci k K) := by
  intro lsr H locs φ ls st sh me h1 h2 h3 h4
  unfold o_getR at h4
  split at h4
  · rename_i a r
    obtain ⟨g1, g2, g3⟩ := h4
    split at g3
    · rename_i b hb
      refine t_getG G cl hk fl href hdg h3 g1 g2 (v := s_tr φ ad (.ref b)) ?_ (h lsr H locs φ ls _ sh me h1 h2 h3 g3)
      rw [s_tr_ref (h3.2.2.2.2.1 a k b g1 hb) h3.2.2.2.1]
      rcases ht with ⟨n, q⟩ | ⟨n, q⟩ <;> rw [q] <;> simp [s_fv, hb, va_rf]
    · exact g3.elim
  · exact h4.elim
/-- a field's store -/
theorem t_putG (G : s_G p s m args meth c cc nL own D ty ad A ret nm) {ci k idx N : Nat} {C ref : String} {T : u_T} (cl : s_CL ci C T N) (hk : k < N) (fl : (T k).2.2.2 = false ∧ s_FL own idx ref (T k).2.1 (T k).2.2.1 ∨ (T k).2.2.2 = true ∧ nm = "<init>" ∧ (T k).1 = own ∧ Cond.fieldLink own idx ref (T k).2.1 (T k).2.2.1 ∈ lw_tbl) (href : (T k).1 = ref) (hdg : decode cc pc = .ok (.putfield idx, 3)) {lsr : Array Slot} {H : Heap} {locs : List Loc} {φ : Nat → Nat} {sh : SShp} {me me' : SMem} {a x y : Nat} {r : List Value} {v : Value} (hJ : s_J R s D ty A al n0 φ0 H locs φ sh me) (ha : a < sh.1) (hc : sh.2.2.1 a = ci) (hfit : fits (s_ty ci k) v = true) (hv : s_fv φ me' a k (s_ty ci k) = v) (ho : ∀ j, j ≠ k → s_fv φ me' a j (s_ty ci j) = s_fv φ me a j (s_ty ci j)) (hoc : ∀ j, j ≠ a → s_cell ty φ sh me' j = s_cell ty φ sh me j) (hr : ∀ a k b, a < sh.1 → me'.2.2 a k = some b → b < sh.1)
    (kk : ∀ (H1 : Heap) (locs1 : List Loc), s_J R s D ty A al n0 φ0 H1 locs1 φ sh me' → W p l e R s m args below meth c H1 locs1 x y QR (F0 m (pc + 3) lsr r)) : W p l e R s m args below meth c H locs x y QR (F0 m pc lsr (v :: s_tr φ ad (.ref a) :: r)) := by
  have hcell := s_ws_get (ty := ty) (φ := φ) (me := me) ha
  rw [s_cell_O hc cl.2.2.2.2.1] at hcell
  rw [s_tr_ref ha hJ.2.2.2.1]
  have hset : (s_ws ty φ sh me).set a (φ a, .inr (ci, (s_flds φ me ci a).set k v)) = s_ws ty φ sh me' := s_ws_set (by rw [s_cell_O hc cl.2.2.2.2.1, s_flds_set hv ho]) hoc
  have hk' : ∀ (H1 : Heap) (locs1 : List Loc), va_P D vwCl ((s_ws ty φ sh me).set a (φ a, .inr (ci, (s_flds φ me ci a).set k v))) H1 → va_D A ((s_ws ty φ sh me).set a (φ a, .inr (ci, (s_flds φ me ci a).set k v))) → va_S A s.heap H1 locs1 → W p l e R s m args below meth c H1 locs1 x y QR (F0 m (pc + 3) lsr r) := by
    intro H1 locs1 b1 b2 b3
    rw [hset] at b1 b2
    exact kk H1 locs1 ⟨b1, b2, b3, hJ.2.2.2.1, hr, hJ.2.2.2.2.2⟩
  have hlen : k < (s_flds φ me ci a).length := by rw [s_flds_len]; exact s_cl_ty cl hk
  rcases fl with ⟨hfin, fl | ⟨host, fl⟩⟩ | ⟨hfin, hin, hdc, fl⟩
  · exact va_put G.1 G.2.1 G.2.2.2.2.1.use cl.2.1 (s_ty ci) cl.2.2.1 cl.2.2.2.1 G.2.2.2.1 G.2.2.2.2.2.1 hJ.1 hJ.2.1 hJ.2.2.1 a hcell cl.1 k hk (G.2.2.2.2.1.use _ (s_in fl rfl)) (fun z hz => href ▸ hz) hfin (cl.2.2.1 k hk) (narrow_of_fits hfit) hfit hlen hdg hk'
  · exact va_putN G.1 G.2.1 G.2.2.2.2.1.use cl.2.1 (s_ty ci) cl.2.2.1 cl.2.2.2.1 G.2.2.2.1 G.2.2.2.2.2.1 hJ.1 hJ.2.1 hJ.2.2.1 a hcell cl.1 k hk (va_Nw.use rfl (G.2.2.2.2.2.2.2.1 _ fl rfl)) (fun z hz => href ▸ hz) hfin (cl.2.2.1 k hk) (narrow_of_fits hfit) hfit hlen hdg hk'
  · exact va_putF G.1 G.2.1 G.2.2.2.2.1.use cl.2.1 (s_ty ci) cl.2.2.1 cl.2.2.2.1 G.2.2.2.1 G.2.2.2.2.2.1 hJ.1 hJ.2.1 hJ.2.2.1 a hcell cl.1 k hk (G.2.2.2.2.1.use _ (s_in fl rfl)) (fun z hz => href ▸ hz) hfin (G.2.2.2.2.2.2.2.2.2.2.2.trans hin) hdc (cl.2.2.1 k hk) (narrow_of_fits hfit) hfit hlen hdg hk'
theorem t_putI (G : s_G p s m args meth c cc nL own D ty ad A ret nm) {ci k idx N : Nat} {C ref : String} {T : u_T} (cl : s_CL ci C T N) (hk : k < N) (fl : (T k).2.2.2 = false ∧ s_FL own idx ref (T k).2.1 (T k).2.2.1 ∨ (T k).2.2.2 = true ∧ nm = "<init>" ∧ (T k).1 = own ∧ Cond.fieldLink own idx ref (T k).2.1 (T k).2.2.1 ∈ lw_tbl) (href : (T k).1 = ref) (ht : s_ty ci k = .int) (hdg : decode cc pc = .ok (.putfield idx, 3)) (h : s_T p l e R s m args below meth c nL D ty ad A al n0 φ0 QR (pc + 3) K) : s_T p l e R s m args below meth c nL D ty ad A al n0 φ0 QR pc (o_putI ci k K) := by
  intro lsr H locs φ ls st sh me h1 h2 h3 h4
  unfold o_putI at h4
  split at h4
  · rename_i x a r
    exact t_putG G cl hk fl href hdg h3 h4.1 h4.2.1 (me' := s_uI me a k x) (v := .int x) (by rw [ht]; rfl) (by rw [ht]; simp [s_fv, s_uI]) (fun j hj => s_fv_uI_ne (Or.inr hj)) (fun j hj => s_cell_uI hj) h3.2.2.2.2.1 (fun H1 locs1 hJ1 => h lsr H1 locs1 φ ls r sh _ h1 h2 hJ1 h4.2.2)
  · exact h4.elim
theorem t_putZ (G : s_G p s m args meth c cc nL own D ty ad A ret nm) {ci k idx N : Nat} {C ref : String} {T : u_T} (cl : s_CL ci C T N) (hk : k < N) (fl : (T k).2.2.2 = false ∧ s_FL own idx ref (T k).2.1 (T k).2.2.1 ∨ (T k).2.2.2 = true ∧ nm = "<init>" ∧ (T k).1 = own ∧ Cond.fieldLink own idx ref (T k).2.1 (T k).2.2.1 ∈ lw_tbl) (href : (T k).1 = ref) (ht : s_ty ci k = .boolean) (hdg : decode cc pc = .ok (.putfield idx, 3)) (h : s_T p l e R s m args below meth c nL D ty ad A al n0 φ0 QR (pc + 3) K) : s_T p l e R s m args below meth c nL D ty ad A al n0 φ0 QR pc (o_putZ ci k K) := by
  intro lsr H locs φ ls st sh me h1 h2 h3 h4
  unfold o_putZ at h4
  split at h4
  · rename_i x a r
    exact t_putG G cl hk fl href hdg h3 h4.1 h4.2.1 (me' := s_uI me a k x) (v := .int x) (by rw [ht]; rcases h4.2.2.1 with q | q <;> rw [q] <;> rfl) (by rw [ht]; simp [s_fv, s_uI]) (fun j hj => s_fv_uI_ne (Or.inr hj)) (fun j hj => s_cell_uI hj) h3.2.2.2.2.1 (fun H1 locs1 hJ1 => h lsr H1 locs1 φ ls r sh _ h1 h2 hJ1 h4.2.2.2)
  · exact h4.elim
theorem t_putJ (G : s_G p s m args meth c cc nL own D ty ad A ret nm) {ci k idx N : Nat} {C ref : String} {T : u_T} (cl : s_CL ci C T N) (hk : k < N) (fl : (T k).2.2.2 = false ∧ s_FL own idx ref (T k).2.1 (T k).2.2.1 ∨ (T k).2.2.2 = true ∧ nm = "<init>" ∧ (T k).1 = own ∧ Cond.fieldLink own idx ref (T k).2.1 (T k).2.2.1 ∈ lw_tbl) (href : (T k).1 = ref) (ht : s_ty ci k = .long) (hdg : decode cc pc = .ok (.putfield idx, 3)) (h : s_T p l e R s m args below meth c nL D ty ad A al n0 φ0 QR (pc + 3) K) : s_T p l e R s m args below meth c nL D ty ad A al n0 φ0 QR pc (o_putJ ci k K) := by
  intro lsr H locs φ ls st sh me h1 h2 h3 h4
  unfold o_putJ at h4
  split at h4
  · rename_i x a r
    exact t_putG G cl hk fl href hdg h3 h4.1 h4.2.1 (me' := s_uJ me a k x) (v := .long x) (by rw [ht]; rfl) (by rw [ht]; simp [s_fv, s_uJ]) (fun j hj => s_fv_uJ_ne (Or.inr hj)) (fun j hj => s_cell_uJ hj) h3.2.2.2.2.1 (fun H1 locs1 hJ1 => h lsr H1 locs1 φ ls r sh _ h1 h2 hJ1 h4.2.2)
  · exact h4.elim
theorem s_uR_in {me : SMem} {n a k b : Nat} (h : ∀ a k b, a < n → me.2.2 a k = some b → b < n) (hb : b < n) : ∀ a2 k2 b2, a2 < n → (s_uR me a k (some b)).2.2 a2 k2 = some b2 → b2 < n := by
  intro a2 k2 b2 g1 g2
  by_cases z : a2 = a ∧ k2 = k
  · simp only [s_uR, if_pos z, Option.some.injEq] at g2
    rw [← g2]; exact hb
  · simp only [s_uR, if_neg z] at g2
    exact h _ _ _ g1 g2
theorem t_putR (G : s_G p s m args meth c cc nL own D ty ad A ret nm) {ci k idx N : Nat} {C ref : String} {T : u_T} (cl : s_CL ci C T N) (hk : k < N) (fl : (T k).2.2.2 = false ∧ s_FL own idx ref (T k).2.1 (T k).2.2.1 ∨ (T k).2.2.2 = true ∧ nm = "<init>" ∧ (T k).1 = own ∧ Cond.fieldLink own idx ref (T k).2.1 (T k).2.2.1 ∈ lw_tbl) (href : (T k).1 = ref) (ht : (∃ n, s_ty ci k = .object n) ∨ ∃ t, s_ty ci k = .array t) (hdg : decode cc pc = .ok (.putfield idx, 3)) (h : s_T p l e R s m args below meth c nL D ty ad A al n0 φ0 QR (pc + 3) K) : s_T p l e R s m args below meth c nL D ty ad A al n0 φ0 QR pc (o_putR ci k K) := by
  intro lsr H locs φ ls st sh me h1 h2 h3 h4
  unfold o_putR at h4
  split at h4
  · rename_i b a r
    refine t_putG G cl hk fl href hdg h3 h4.1 h4.2.1 (me' := s_uR me a k (some b)) (v := s_tr φ ad (.ref b)) ?_ ?_ (fun j hj => s_fv_uR_ne (Or.inr hj)) (fun j hj => s_cell_uR hj) (s_uR_in h3.2.2.2.2.1 h4.2.2.1) (fun H1 locs1 hJ1 => h lsr H1 locs1 φ ls r sh _ h1 h2 hJ1 h4.2.2.2)
    · rcases ht with ⟨n, q⟩ | ⟨n, q⟩ <;> rw [q] <;> rfl
    · rw [s_tr_ref h4.2.2.1 h3.2.2.2.1]
      rcases ht with ⟨n, q⟩ | ⟨n, q⟩ <;> rw [q] <;> simp [s_fv, s_uR, va_rf]
  · exact h4.elim
theorem t_iald (G : s_G p s m args meth c cc nL own D ty ad A ret nm) (hdg : decode cc pc = .ok (.iaload, 1)) (h : s_T p l e R s m args below meth c nL D ty ad A al n0 φ0 QR (pc + 1) K) : s_T p l e R s m args below meth c nL D ty ad A al n0 φ0 QR pc (o_iald K) := by
  intro lsr H locs φ ls st sh me h1 h2 h3 h4
  unfold o_iald at h4
  split at h4
  · rename_i i a r
    have hcell := s_ws_get (ty := ty) (φ := φ) (me := me) h4.1
    rw [s_cell_I h4.2.1] at hcell
    rw [List.map_cons, List.map_cons, s_tr_ref h4.1 h3.2.2.2.1]
    exact va_iald G.1 G.2.1 G.2.2.2.2.2.1 h3.1 a 0 hcell rfl h4.2.2.1 hdg (h lsr H locs φ ls _ sh me h1 h2 h3 h4.2.2.2)
  · exact h4.elim
theorem t_lald (G : s_G p s m args meth c cc nL own D ty ad A ret nm) (hdg : decode cc pc = .ok (.laload, 1)) (h : s_T p l e R s m args below meth c nL D ty ad A al n0 φ0 QR (pc + 1) K) : s_T p l e R s m args below meth c nL D ty ad A al n0 φ0 QR pc (o_lald K) := by
  intro lsr H locs φ ls st sh me h1 h2 h3 h4
  unfold o_lald at h4
  split at h4
  · rename_i i a r
    have hcell := s_ws_get (ty := ty) (φ := φ) (me := me) h4.1
    rw [s_cell_J h4.2.1] at hcell
    rw [List.map_cons, List.map_cons, s_tr_ref h4.1 h3.2.2.2.1]
    exact va_lald G.1 G.2.1 G.2.2.2.2.2.1 h3.1 a 1 hcell rfl h4.2.2.1 hdg (h lsr H locs φ ls _ sh me h1 h2 h3 h4.2.2.2)
  · exact h4.elim
theorem t_aald (G : s_G p s m args meth c cc nL own D ty ad A ret nm) {ci : Nat} (hci : ci = 12 ∨ ci = 13) (hdg : decode cc pc = .ok (.aaload, 1)) (h : s_T p l e R s m args below meth c nL D ty ad A al n0 φ0 QR (pc + 1) K) : s_T p l e R s m args below meth c nL D ty ad A al n0 φ0 QR pc (o_aald ci K) := by
  intro lsr H locs φ ls st sh me h1 h2 h3 h4
  unfold o_aald at h4
  split at h4
  · rename_i i a r
    obtain ⟨g1, g2, g3, g4⟩ := h4
    split at g4
    · rename_i b hb
      have hcell := s_ws_get (ty := ty) (φ := φ) (me := me) g1
      rw [List.map_cons, List.map_cons, s_tr_ref g1 h3.2.2.2.1]
      have e1 : s_tr φ ad (.ref b) = va_rf ((me.2.2 a i.toNatClampNeg).map φ) := by
        rw [s_tr_ref (h3.2.2.2.2.1 a _ b g1 hb) h3.2.2.2.1, hb]; rfl
      have h5 := h lsr H locs φ ls _ sh me h1 h2 h3 g4
      rw [List.map_cons, e1] at h5
      rcases hci with rfl | rfl
      · rw [s_cell_P g2] at hcell
        exact va_aldq G.1 G.2.1 G.2.2.2.2.2.1 h3.1 a 2 hcell rfl g3 hdg h5
      · rw [s_cell_S g2] at hcell
        exact va_aldq G.1 G.2.1 G.2.2.2.2.2.1 h3.1 a 3 hcell rfl g3 hdg h5
    · exact g4.elim
  · exact h4.elim
theorem t_alen (G : s_G p s m args meth c cc nL own D ty ad A ret nm) {ci : Nat} (hci : ci = 10 ∨ ci = 11) (hdg : decode cc pc = .ok (.arraylength, 1)) (h : s_T p l e R s m args below meth c nL D ty ad A al n0 φ0 QR (pc + 1) K) : s_T p l e R s m args below meth c nL D ty ad A al n0 φ0 QR pc (o_alen ci K) := by
  intro lsr H locs φ ls st sh me h1 h2 h3 h4
  unfold o_alen at h4
  split at h4
  · rename_i a r
    have hcell := s_ws_get (ty := ty) (φ := φ) (me := me) h4.1
    rw [List.map_cons, s_tr_ref h4.1 h3.2.2.2.1]
    rcases hci with rfl | rfl
    · rw [s_cell_I h4.2.1] at hcell
      exact va_alen G.1 G.2.1 G.2.2.2.2.2.1 h3.1 a 0 hcell rfl rfl hdg (h lsr H locs φ ls _ sh me h1 h2 h3 h4.2.2)
    · rw [s_cell_J h4.2.1] at hcell
      exact va_alen G.1 G.2.1 G.2.2.2.2.2.1 h3.1 a 1 hcell rfl rfl hdg (h lsr H locs φ ls _ sh me h1 h2 h3 h4.2.2)
  · exact h4.elim
theorem t_iast (G : s_G p s m args meth c cc nL own D ty ad A ret nm) (hdg : decode cc pc = .ok (.iastore, 1)) (h : s_T p l e R s m args below meth c nL D ty ad A al n0 φ0 QR (pc + 1) K) : s_T p l e R s m args below meth c nL D ty ad A al n0 φ0 QR pc (o_iast K) := by
  intro lsr H locs φ ls st sh me h1 h2 h3 h4
  unfold o_iast at h4
  split at h4
  · rename_i x i a r
    have hcell := s_ws_get (ty := ty) (φ := φ) (me := me) h4.1
    rw [s_cell_I h4.2.1] at hcell
    rw [List.map_cons, List.map_cons, List.map_cons, s_tr_ref h4.1 h3.2.2.2.1]
    have hset : (s_ws ty φ sh me).set a (φ a, .inl (ty.1, sh.2.2.2 a, .inl (upd (me.1 a) i.toNatClampNeg x))) = s_ws ty φ sh (s_uI me a i.toNatClampNeg x) := s_ws_set (by
      rw [s_cell_I h4.2.1]
      have e1 : (s_uI me a i.toNatClampNeg x).1 a = upd (me.1 a) i.toNatClampNeg x := by funext j; simp [s_uI, upd]
      rw [e1]) (fun j hj => s_cell_uI hj)
    refine va_iast G.1 G.2.1 G.2.2.2.2.2.1 h3.1 h3.2.1 h3.2.2.1 a 0 hcell rfl h4.2.2.1 hdg (fun H1 locs1 b1 b2 b3 => ?_)
    rw [hset] at b1 b2
    exact h lsr H1 locs1 φ ls r sh _ h1 h2 ⟨b1, b2, b3, h3.2.2.2⟩ h4.2.2.2
  · exact h4.elim
theorem t_last (G : s_G p s m args meth c cc nL own D ty ad A ret nm) (hdg : decode cc pc = .ok (.lastore, 1)) (h : s_T p l e R s m args below meth c nL D ty ad A al n0 φ0 QR (pc + 1) K) : s_T p l e R s m args below meth c nL D ty ad A al n0 φ0 QR pc (o_last K) := by
  intro lsr H locs φ ls st sh me h1 h2 h3 h4
  unfold o_last at h4
  split at h4
  · rename_i x i a r
    have hcell := s_ws_get (ty := ty) (φ := φ) (me := me) h4.1
    rw [s_cell_J h4.2.1] at hcell
    rw [List.map_cons, List.map_cons, List.map_cons, s_tr_ref h4.1 h3.2.2.2.1]
    have hset : (s_ws ty φ sh me).set a (φ a, .inl (ty.2.1, sh.2.2.2 a, .inr (.inl (vp_updL (me.2.1 a) i.toNatClampNeg x)))) = s_ws ty φ sh (s_uJ me a i.toNatClampNeg x) := s_ws_set (by
      rw [s_cell_J h4.2.1]
      have e1 : (s_uJ me a i.toNatClampNeg x).2.1 a = vp_updL (me.2.1 a) i.toNatClampNeg x := by funext j; simp [s_uJ, vp_updL]
      rw [e1]) (fun j hj => s_cell_uJ hj)
    refine va_last G.1 G.2.1 G.2.2.2.2.2.1 h3.1 h3.2.1 h3.2.2.1 a 1 hcell rfl h4.2.2.1 hdg (fun H1 locs1 b1 b2 b3 => ?_)
    rw [hset] at b1 b2
    exact h lsr H1 locs1 φ ls r sh _ h1 h2 ⟨b1, b2, b3, h3.2.2.2⟩ h4.2.2.2
  · exact h4.elim
theorem t_aast (G : s_G p s m args meth c cc nL own D ty ad A ret nm) {ci : Nat} (hci : ci = 12 ∨ ci = 13) (hdg : decode cc pc = .ok (.aastore, 1)) (h : s_T p l e R s m args below meth c nL D ty ad A al n0 φ0 QR (pc + 1) K) : s_T p l e R s m args below meth c nL D ty ad A al n0 φ0 QR pc (o_aast ci K) := by
  intro lsr H locs φ ls st sh me h1 h2 h3 h4
  unfold o_aast at h4
  split at h4
  · rename_i b i a r
    obtain ⟨g1, g2, g3, g4, g5, g6⟩ := h4
    have hcell := s_ws_get (ty := ty) (φ := φ) (me := me) g1
    have hcb := s_ws_get (ty := ty) (φ := φ) (me := me) g4
    rw [List.map_cons, List.map_cons, List.map_cons, s_tr_ref g1 h3.2.2.2.1, s_tr_ref g4 h3.2.2.2.1]
    have e1 : (fun k => ((s_uR me a i.toNatClampNeg (some b)).2.2 a k).map φ) = va_up (fun k => (me.2.2 a k).map φ) i.toNatClampNeg (some (φ b)) := by
      funext j
      by_cases z : j = i.toNatClampNeg <;> simp [s_uR, va_up, z]
    rcases hci with rfl | rfl
    · rw [s_cell_P g2] at hcell
      rw [s_cell_O (ci := 1) (by simpa using g5) (by decide)] at hcb
      have hset : (s_ws ty φ sh me).set a (φ a, .inl (ty.2.2.1, sh.2.2.2 a, .inr (.inr (.inr (.inr (va_up (fun k => (me.2.2 a k).map φ) i.toNatClampNeg (some (φ b)))))))) = s_ws ty φ sh (s_uR me a i.toNatClampNeg (some b)) := s_ws_set (by rw [s_cell_P g2, e1]) (fun j hj => s_cell_uR hj)
      refine va_astq G.1 G.2.1 G.2.2.2.2.2.1 h3.1 h3.2.1 h3.2.2.1 a 2 b 1 hcell (r := (RX1, TX1, 7)) rfl hcb rfl g3 hdg (fun H1 locs1 b1 b2 b3 => ?_)
      rw [hset] at b1 b2
      exact h lsr H1 locs1 φ ls r sh _ h1 h2 ⟨b1, b2, b3, h3.2.2.2.1, s_uR_in h3.2.2.2.2.1 g4, h3.2.2.2.2.2⟩ g6
    · rw [s_cell_S g2] at hcell
      rw [s_cell_O (ci := 5) (by simpa using g5) (by decide)] at hcb
      have hset : (s_ws ty φ sh me).set a (φ a, .inl (ty.2.2.2, sh.2.2.2 a, .inr (.inr (.inr (.inr (va_up (fun k => (me.2.2 a k).map φ) i.toNatClampNeg (some (φ b)))))))) = s_ws ty φ sh (s_uR me a i.toNatClampNeg (some b)) := s_ws_set (by rw [s_cell_S g2, e1]) (fun j hj => s_cell_uR hj)
      refine va_astq G.1 G.2.1 G.2.2.2.2.2.1 h3.1 h3.2.1 h3.2.2.1 a 3 b 5 hcell (r := (RX5, TX5, 4)) rfl hcb rfl g3 hdg (fun H1 locs1 b1 b2 b3 => ?_)
      rw [hset] at b1 b2
      exact h lsr H1 locs1 φ ls r sh _ h1 h2 ⟨b1, b2, b3, h3.2.2.2.1, s_uR_in h3.2.2.2.2.1 g4, h3.2.2.2.2.2⟩ g6
  · exact h4.elim
/-- the list of cells, and one more -/
theorem s_ws_new {ty : s_TY} {φ : Nat → Nat} {sh : SShp} {me : SMem} {ci len N q : Nat} (hr : ∀ a k b, a < sh.1 → me.2.2 a k = some b → b < sh.1) : s_ws ty (fun i => if i = sh.1 then q else φ i) (s_new sh ci len N) (s_zero sh.1 me) = s_ws ty φ sh me ++ [(q, s_cell ty (fun i => if i = sh.1 then q else φ i) (s_new sh ci len N) (s_zero sh.1 me) sh.1)] := by
  show (List.range (sh.1 + 1)).map _ = _
  rw [List.range_succ, List.map_append]
  have e1 : (List.range sh.1).map (fun i => ((if i = sh.1 then q else φ i), s_cell ty (fun i => if i = sh.1 then q else φ i) (s_new sh ci len N) (s_zero sh.1 me) i)) = s_ws ty φ sh me := by
    refine List.map_congr_left (fun i hi => ?_)
    have hlt := List.mem_range.mp hi
    have hne : ¬ i = sh.1 := by omega
    have f1 : (s_zero sh.1 me).1 i = me.1 i := by funext j; simp [s_zero, hne]
    have f2 : (s_zero sh.1 me).2.1 i = me.2.1 i := by funext j; simp [s_zero, hne]
    have f3 : (s_zero sh.1 me).2.2 i = me.2.2 i := by funext j; simp [s_zero, hne]
    have f4 : ∀ k, (me.2.2 i k).map (fun i => if i = sh.1 then q else φ i) = (me.2.2 i k).map φ := by
      intro k
      cases hb : me.2.2 i k with
      | none => rfl
      | some b =>
        have := hr i k b hlt hb
        simp [show ¬ b = sh.1 by omega]
    have f5 : ∀ k t, s_fv (fun i => if i = sh.1 then q else φ i) (s_zero sh.1 me) i k t = s_fv φ me i k t := by
      intro k t
      cases t <;> simp [s_fv, f1, f2, f3, f4]
    have f6 : (s_new sh ci len N).2.2.1 i = sh.2.2.1 i := by simp [s_new, hne]
    have f7 : (s_new sh ci len N).2.2.2 i = sh.2.2.2 i := by simp [s_new, hne]
    rw [if_neg hne]
    simp only [s_cell, s_flds, f1, f2, f3, f4, f5, f6, f7]
  rw [e1]
  simp
theorem s_new_in {sh : SShp} {me : SMem} {ci len N : Nat} (hr : ∀ a k b, a < sh.1 → me.2.2 a k = some b → b < sh.1) : ∀ a k b, a < (s_new sh ci len N).1 → (s_zero sh.1 me).2.2 a k = some b → b < (s_new sh ci len N).1 := by
  intro a k b h1 h2
  show b < sh.1 + 1
  by_cases z : a = sh.1
  · simp [s_zero, z] at h2
  · simp only [s_zero, if_neg z] at h2
    have h1 : a < sh.1 + 1 := h1
    have := hr a k b (by omega) h2
    omega
theorem t_new (G : s_G p s m args meth c cc nL own D ty ad A ret nm) {mc ms ci idx N : Nat} {C : String} {T : u_T} (cl : s_CL ci C T N) (hal : al = true) (hmc : R.cells = mc ∧ R.slots = ms) (q1 : Cond.classLink own idx C ∈ lw_tbl) (q2 : Cond.instantiable C N ∈ lw_tbl) (q3 : Cond.initialized C ∈ lw_tbl) (hdg : decode cc pc = .ok (.new idx, 3)) (hft : ∀ k, k < N → s_ty ci k = .int ∨ s_ty ci k = .boolean ∨ s_ty ci k = .long ∨ (∃ n, s_ty ci k = .object n) ∨ ∃ t, s_ty ci k = .array t) (h : s_T p l e R s m args below meth c nL D ty ad A al n0 φ0 QR (pc + 3) K) : s_T p l e R s m args below meth c nL D ty ad A al n0 φ0 QR pc (o_new mc ms ci N K) := by
  intro lsr H locs φ ls st sh me h1 h2 h3 h4
  obtain ⟨g1, g2, g3, g4, g5, g6⟩ := h4
  subst hal
  have hx : ∀ q i : Nat, i < sh.1 → (fun i => if i = sh.1 then q else φ i) i = φ i := fun q i hi => if_neg (by omega)
  refine va_new (ci := ci) (fs := s_flds (fun i => if i = sh.1 then 0 else φ i) (s_zero sh.1 me) ci sh.1) G.1 G.2.1 G.2.2.2.2.1.use cl.2.1 (s_ty ci) cl.2.2.1 G.2.2.2.1 (G.2.2.2.2.1.use _ (s_in q1 rfl)) (G.2.2.2.2.1.use _ (s_in q2 rfl)) (G.2.2.2.2.1.use _ (s_in q3 rfl)) G.2.2.2.2.2.1 h3.1 h3.2.1 h3.2.2.1 G.2.2.2.2.2.2.1 cl.1 (fun j hj => ?_) (by rw [hmc.1]; exact g2) (by rw [hmc.2]; exact g3) hdg (fun q H1 b1 b2 b3 => ?_)
  · have e1 := s_flds_get (φ := fun i => if i = sh.1 then 0 else φ i) (me := s_zero sh.1 me) (i := sh.1) (s_cl_ty cl hj)
    unfold vp_V
    rw [List.getD_eq_getElem?_getD, e1]
    rcases hft j hj with z | z | z | ⟨_, z⟩ | ⟨_, z⟩ <;> rw [z] <;> simp [defaultValue, s_fv, s_zero, va_rf]
  · have e2 : s_flds (fun i => if i = sh.1 then 0 else φ i) (s_zero sh.1 me) ci sh.1 = s_flds (fun i => if i = sh.1 then q else φ i) (s_zero sh.1 me) ci sh.1 := by
      refine List.map_congr_left (fun k _ => ?_)
      generalize s_ty ci k = t
      cases t <;> simp [s_fv, s_zero]
    have e3 : s_cell ty (fun i => if i = sh.1 then q else φ i) (s_new sh ci 0 N) (s_zero sh.1 me) sh.1 = .inr (ci, s_flds (fun i => if i = sh.1 then 0 else φ i) (s_zero sh.1 me) ci sh.1) := by
      rw [s_cell_O (ci := ci) (by simp [s_new]) cl.2.2.2.2.1, e2]
    rw [← e3, ← s_ws_new h3.2.2.2.2.1] at b1 b2
    have h5 := h lsr H1 locs (fun i => if i = sh.1 then q else φ i) ls (.ref sh.1 :: st) (s_new sh ci 0 N) (s_zero sh.1 me) (by rw [s_lv_ok (hx q) h3.2.2.2.1 ls 0 g4]; exact h1) h2 ⟨b1, b2, b3, g1, s_new_in h3.2.2.2.2.1, by rw [hmc.1]; exact g2, by rw [hmc.2]; exact g3, Nat.le_trans h3.2.2.2.2.2.2.2.1 (Nat.le_succ _), fun i hi => by
      rw [hx q i (Nat.lt_of_lt_of_le hi h3.2.2.2.2.2.2.2.1)]; exact h3.2.2.2.2.2.2.2.2.1 i hi, fun z => by cases z⟩ g6
    rw [List.map_cons, s_st_ok (hx q) h3.2.2.2.1 st g5, s_tr_ref (n := sh.1 + 1) (Nat.lt_succ_self _) g1] at h5
    simp only [if_true] at h5
    exact h5
theorem t_newa (G : s_G p s m args meth c cc nL own D ty ad A ret nm) {mc ms ci N : Nat} {atype : ArrayType} (hci : ci = 10 ∧ newarray.typeOf atype = .int ∨ ci = 11 ∧ newarray.typeOf atype = .long) (hN : N < 2 ^ 20) (hal : al = true) (hmc : R.cells = mc ∧ R.slots = ms) (q1 : Cond.arrayClass (newarray.typeOf atype) ∈ lw_tbl) (hdg : decode cc pc = .ok (.newarray atype, 2)) (h : s_T p l e R s m args below meth c nL D ty ad A al n0 φ0 QR (pc + 2) K) : s_T p l e R s m args below meth c nL D ty ad A al n0 φ0 QR pc (o_newa mc ms ci N K) := by
  intro lsr H locs φ ls st sh me h1 h2 h3 h4
  unfold o_newa at h4
  split at h4
  · rename_i x r
    obtain ⟨rfl, g1, g2, g3, g4, g5, g6⟩ := h4
    subst hal
    have hx : ∀ q i : Nat, i < sh.1 → (fun i => if i = sh.1 then q else φ i) i = φ i := fun q i hi => if_neg (by omega)
    have fin : ∀ (q : Nat) (H1 : Heap), va_P D vwCl (s_ws ty φ sh me ++ [(q, s_cell ty (fun i => if i = sh.1 then q else φ i) (s_new sh ci N N) (s_zero sh.1 me) sh.1)]) H1 → va_D A (s_ws ty φ sh me ++ [(q, s_cell ty (fun i => if i = sh.1 then q else φ i) (s_new sh ci N N) (s_zero sh.1 me) sh.1)]) → va_S A s.heap H1 locs → W p l e R s m args below meth c H1 locs (sh.2.1.1 + 1) (sh.2.1.2 + N) QR (F0 m (pc + 2) lsr (.ref q :: r.map (s_tr φ ad))) := by
      intro q H1 b1 b2 b3
      rw [← s_ws_new h3.2.2.2.2.1] at b1 b2
      have h5 := h lsr H1 locs (fun i => if i = sh.1 then q else φ i) ls (.ref sh.1 :: r) (s_new sh ci N N) (s_zero sh.1 me) (by rw [s_lv_ok (hx q) h3.2.2.2.1 ls 0 g4]; exact h1) h2 ⟨b1, b2, b3, g1, s_new_in h3.2.2.2.2.1, by rw [hmc.1]; exact g2, by rw [hmc.2]; exact g3, Nat.le_trans h3.2.2.2.2.2.2.2.1 (Nat.le_succ _), fun i hi => by
        rw [hx q i (Nat.lt_of_lt_of_le hi h3.2.2.2.2.2.2.2.1)]; exact h3.2.2.2.2.2.2.2.2.1 i hi, fun z => by cases z⟩ g6
      rw [List.map_cons, s_st_ok (hx q) h3.2.2.2.1 r g5, s_tr_ref (n := sh.1 + 1) (Nat.lt_succ_self _) g1] at h5
      simp only [if_true] at h5
      exact h5
    have hu : ∀ (cA : ClassId) (t0 : Nat) (t : FieldType) (cB : ClassId), (s_tys ty)[t0]? = some (cB, t) → (t = .int ∨ t = .long) → va_K D vwCl (s_tys ty ++ [(cA, t)]) s → cA = cB := by
      intro cA t0 t cB z1 z2 z3
      have y1 := (z3.2 4 (cA, t) rfl).2
      have y2 := (G.2.2.2.2.2.1.2 t0 _ z1).2
      rcases z2 with rfl | rfl <;> exact Option.some.inj (y1.symm.trans y2)
    rcases hci with ⟨rfl, ht⟩ | ⟨rfl, ht⟩
    · refine va_newa (a0 := (N, .inl (fun _ => 0))) G.1 G.2.1 (G.2.2.2.2.1.use _ (s_in q1 rfl)) ht G.2.2.2.2.2.1 h3.1 h3.2.1 h3.2.2.1 G.2.2.2.2.2.2.1 (fun cA => rfl) (nI_pos (by omega)) (nI_clamp (by omega)) ?_ (by rw [hmc.1]; exact g2) (by rw [hmc.2]; exact g3) hdg (fun q cA H1 b0 b1 b2 b3 => ?_)
      · show N * 4 ≤ _
        omega
      · have e0 := hu cA 0 .int ty.1 rfl (Or.inl rfl) b0
        refine fin q H1 ?_ ?_ b3
        · rw [s_cell_I (by simp [s_new])]
          have e1 : (s_zero sh.1 me).1 sh.1 = fun _ => 0 := by funext j; simp [s_zero]
          rw [e1, show (s_new sh 10 N N).2.2.2 sh.1 = N by simp [s_new], ← e0]
          exact b1
        · rw [s_cell_I (by simp [s_new])]
          have e1 : (s_zero sh.1 me).1 sh.1 = fun _ => 0 := by funext j; simp [s_zero]
          rw [e1, show (s_new sh 10 N N).2.2.2 sh.1 = N by simp [s_new], ← e0]
          exact b2
    · refine va_newa (a0 := (N, .inr (.inl (fun _ => 0)))) G.1 G.2.1 (G.2.2.2.2.1.use _ (s_in q1 rfl)) ht G.2.2.2.2.2.1 h3.1 h3.2.1 h3.2.2.1 G.2.2.2.2.2.2.1 (fun cA => rfl) (nI_pos (by omega)) (nI_clamp (by omega)) ?_ (by rw [hmc.1]; exact g2) (by rw [hmc.2]; exact g3) hdg (fun q cA H1 b0 b1 b2 b3 => ?_)
      · show N * 8 ≤ _
        omega
      · have e0 := hu cA 1 .long ty.2.1 rfl (Or.inr rfl) b0
        refine fin q H1 ?_ ?_ b3
        · rw [s_cell_J (by simp [s_new])]
          have e1 : (s_zero sh.1 me).2.1 sh.1 = fun _ => 0 := by funext j; simp [s_zero]
          rw [e1, show (s_new sh 11 N N).2.2.2 sh.1 = N by simp [s_new], ← e0]
          exact b1
        · rw [s_cell_J (by simp [s_new])]
          have e1 : (s_zero sh.1 me).2.1 sh.1 = fun _ => 0 := by funext j; simp [s_zero]
          rw [e1, show (s_new sh 11 N N).2.2.2 sh.1 = N by simp [s_new], ← e0]
          exact b2
  · exact h4.elim
end SNH
