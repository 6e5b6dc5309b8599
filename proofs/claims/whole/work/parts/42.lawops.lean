/-! THE LAW'S OWN INSTRUCTIONS: the script is at 1000040 -/
def o_sald (L : Nat) (xs : Nat → Int32) (K : SK) : SK := fun ls st sh me => match st with
  | .int i :: .ref a :: r => a = 1000040 ∧ vp_in i L ∧ K ls (.int (xs i.toNatClampNeg) :: r) sh me
  | _ => False
def o_slen (L : Nat) (K : SK) : SK := fun ls st sh me => match st with
  | .ref a :: r => a = 1000040 ∧ K ls (.int (nI L) :: r) sh me
  | _ => False
def o_lwret : SK := fun _ st _ _ => match st with
  | [.int x] => x = 1
  | _ => False
def o_callAV (C : SC) (ci n MC MS mc ms : Nat) (K : SK) : SK := fun ls st sh me => s_rc ci sh (s_pop n [] st).1 ∧ o_callA C n MC MS mc ms K ls st sh me
section SNL
variable {p : Program} {l : Launch} {e : Env} {R : Room} {s : State} {m : MethodId} {args : Array Value} {below : List Frame} {meth : Method} {c : Code} {cc : ByteArray} {nL : Nat} {own : String} {D : va_G} {ty : s_TY} {ad : Nat → Nat} {A : Nat → Prop} {al : Bool} {n0 : Nat} {φ0 : Nat → Nat} {QR : State → Prop} {pc : Nat} {K Kt Kf : SK} {ret' : Option FieldType} {nm : String}
theorem t_sald (G : s_G p s m args meth c cc nL own D ty ad A ret' nm) {b L : Nat} {xs : Nat → Int32} (hX : va_X b L xs s s.heap) (hbl : b < s.heap.size) (hbA : ¬ A b) (had : ad 40 = b) (hdg : decode cc pc = .ok (.iaload, 1)) (h : s_T p l e R s m args below meth c nL D ty ad A al n0 φ0 QR (pc + 1) K) : s_T p l e R s m args below meth c nL D ty ad A al n0 φ0 QR pc (o_sald L xs K) := by
  intro lsr H locs φ ls st sh me h1 h2 h3 h4
  unfold o_sald at h4
  split at h4
  · rename_i i a r
    obtain ⟨g1, g2, g3⟩ := h4
    rw [List.map_cons, List.map_cons, s_tr_hi (j := 40) g1, had]
    exact va_sld G.1 G.2.1 hX hbl hbA h3.2.2.1 g2 hdg (h lsr H locs φ ls _ sh me h1 h2 h3 g3)
  · exact h4.elim
theorem t_slen (G : s_G p s m args meth c cc nL own D ty ad A ret' nm) {b L : Nat} {xs : Nat → Int32} (hX : va_X b L xs s s.heap) (hbl : b < s.heap.size) (hbA : ¬ A b) (had : ad 40 = b) (hdg : decode cc pc = .ok (.arraylength, 1)) (h : s_T p l e R s m args below meth c nL D ty ad A al n0 φ0 QR (pc + 1) K) : s_T p l e R s m args below meth c nL D ty ad A al n0 φ0 QR pc (o_slen L K) := by
  intro lsr H locs φ ls st sh me h1 h2 h3 h4
  unfold o_slen at h4
  split at h4
  · rename_i a r
    obtain ⟨g1, g3⟩ := h4
    rw [List.map_cons, s_tr_hi (j := 40) g1, had]
    exact va_slen G.1 G.2.1 hX hbl hbA h3.2.2.1 hdg (h lsr H locs φ ls _ sh me h1 h2 h3 g3)
  · exact h4.elim
theorem t_callAV (G : s_G p s m args meth c cc nL own D ty ad A ret' nm) {C : SC} {y : MethodName} {bytes : ByteArray} {maxL n idx ci N MC MS : Nat} {ret2 : Option FieldType} {rm : Room} {T : u_T} (cl : s_CL ci y.cls T N) (hM : s_Met l y bytes maxL ret2 rm false C) (hrm : rm.cells = 0 ∧ rm.slots = 0) (hal : al = true) (hmc : R.cells = MC ∧ R.slots = MS) (hR : rm.frames + 1 ≤ R.frames ∧ 8 + (maxL + 11) + rm.locals ≤ R.locals) (qc : Cond.code y bytes maxL ret2 ∈ lw_tbl) (qi : Cond.initialized y.cls ∈ lw_tbl) (ql : Cond.methodLink own idx y ∈ lw_tbl ∨ ∃ host, Cond.methodLinkNest own idx y host ∈ lw_tbl) (qn : Cond.instanceMethod y ∈ lw_tbl) (qs : Cond.selects y.cls y y ∈ lw_tbl) (hd : y.cls ≠ "java/lang/invoke/MethodHandle" ∧ y.cls ≠ "java/lang/invoke/VarHandle" ∧ (parseMethodDescriptor y.desc).map (fun d => d.parameters.length) = some n) (hdg : decode cc pc = .ok (.invokevirtual idx, 3))
    (h : s_T p l e R s m args below meth c nL D ty ad A al n0 φ0 QR (pc + 3) K) : s_T p l e R s m args below meth c nL D ty ad A al n0 φ0 QR pc (o_callAV C ci (n + 1) MC MS 0 0 K) := by
  intro lsr H locs φ ls st sh me h1 h2 h3 h4
  obtain ⟨hrc, d1, d2, d3, d4, g1, g2, g3⟩ := h4
  have e0 : st = (s_pop (n + 1) [] st).1.reverse ++ (s_pop (n + 1) [] st).2 := s_pop_spec (n + 1) [] st (by simpa using g1)
  generalize s_pop (n + 1) [] st = q at hrc d4 g1 g2 g3 e0
  obtain ⟨av, rest⟩ := q
  dsimp only at hrc d4 g1 g2 g3 e0
  subst e0
  subst hal
  have hrun := s_runV (e := e) (below := below) G cl hM hrm hR qc qi ql qn qs hd hdg lsr H locs φ sh (sh.1, (0, 0), sh.2.2) me av rest _ h1.1 h3 ⟨rfl, rfl⟩ ⟨by rw [hmc.1]; exact d1, by rw [hmc.2]; exact d2⟩ (fun z => by cases z) hrc g3 g1 g2
  rw [List.map_append, List.map_reverse]
  refine t_back (sh0 := (sh.1, (0, 0), sh.2.2)) G ⟨rfl, rfl⟩ h3 hrun (fun r sh' me' φ' H1 locs1 q k1 k2 k3 k4 k5 k6 k7 k8 => ?_)
  have h5 := h lsr H1 locs1 φ' ls (r.toList ++ rest) (sh'.1, (sh.2.1.1 + 0, sh.2.1.2 + 0), sh'.2.2) me' (by rw [s_lv_ok k2 h3.2.2.2.1 ls 0 d3]; exact h1) h2 ⟨k6, k7, k8, k4, k5, by rw [hmc.1]; exact d1, by rw [hmc.2]; exact d2, Nat.le_trans h3.2.2.2.2.2.2.2.1 k1, fun i hi => by
    rw [k2 i (Nat.lt_of_lt_of_le hi h3.2.2.2.2.2.2.2.1)]; exact h3.2.2.2.2.2.2.2.2.1 i hi, fun z => by cases z⟩ q
  rw [List.map_append, s_st_ok k2 h3.2.2.2.1 rest d4] at h5
  have e1 : r.toList.map (s_tr φ' ad) = (r.map (s_tr φ' ad)).toList := by cases r <;> rfl
  rw [e1] at h5
  exact h5
theorem t_lwret {b : Nat} (G : s_G p s m #[Value.ref b] meth c code nL own D ty ad (fun q => s.heap.size ≤ q) ret nm) (hdg : decode code pc = .ok (.ireturn, 1)) : s_T p l e room_1 s m #[Value.ref b] below meth c nL D ty ad (fun q => s.heap.size ≤ q) al n0 φ0 (lw_Z below #[Value.ref b] s) pc o_lwret := by
  intro lsr H locs φ ls st sh me h1 h2 h3 h4
  unfold o_lwret at h4
  split at h4
  · rename_i x
    subst h4
    exact W.widen (k := 600000) (n := 7302250) h3.2.2.2.2.2.1 h3.2.2.2.2.2.2.1 (va_forget h3.2.2.1.2.2 (lw_ret G.1 G.2.1 G.2.2.2.2.2.2.2.2.2.2.1 G.2.2.2.2.2.2.2.2.2.1 hdg))
  · exact h4.elim
end SNL
def s_LB (l : Launch) (L : Nat) (xs : Nat → Int32) (pc : Nat) (B : (Nat → SK) → SK) : Prop :=
  ∀ (p : Program) (e : Env) (s : State) (m : MethodId) (below : List Frame) (meth : Method) (c : Code) (D : va_G) (ty : s_TY) (ad : Nat → Nat) (b n0 : Nat) (φ0 : Nat → Nat) (nm : String), s_G p s m #[Value.ref b] meth c code 4 "TaxOnLooksLaw" D ty ad (fun q => s.heap.size ≤ q) ret nm → va_X b L xs s s.heap → b < s.heap.size → ¬ s.heap.size ≤ b → ad 40 = b → ∀ Y : Nat → SK, (∀ pc, s_T p l e room_1 s m #[Value.ref b] below meth c 4 D ty ad (fun q => s.heap.size ≤ q) true n0 φ0 (lw_Z below #[Value.ref b] s) pc (Y pc)) → s_T p l e room_1 s m #[Value.ref b] below meth c 4 D ty ad (fun q => s.heap.size ≤ q) true n0 φ0 (lw_Z below #[Value.ref b] s) pc (B Y)
