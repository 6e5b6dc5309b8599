/-! WHAT THE SMALL MACHINE SAYS OF THE MACHINE: virtual calls, returns, the JDK's own, tables, a method whole -/
def o_math2 (f : Int32 → Int32 → Int32) (K : SK) : SK := fun ls st sh me => match st with
  | .int y :: .int x :: r => s_sm r ∧ K ls (.int (f x y) :: r) sh me
  | _ => False
section SNR
variable {p : Program} {l : Launch} {e : Env} {R : Room} {s : State} {m : MethodId} {args : Array Value} {below : List Frame} {meth : Method} {c : Code} {cc : ByteArray} {nL : Nat} {own : String} {D : va_G} {ty : s_TY} {ad : Nat → Nat} {A : Nat → Prop} {al : Bool} {n0 : Nat} {φ0 : Nat → Nat} {QR : State → Prop} {pc : Nat} {K Kt Kf : SK} {ret : Option FieldType} {nm : String}
theorem t_callV (G : s_G p s m args meth c cc nL own D ty ad A ret nm) {C : SC} {y : MethodName} {bytes : ByteArray} {maxL n idx ci N : Nat} {ret' : Option FieldType} {rm : Room} {T : u_T} (cl : s_CL ci y.cls T N) (hM : s_Met l y bytes maxL ret' rm false C) (hrm : rm.cells = 0 ∧ rm.slots = 0) (hal : al = false) (hR : rm.frames + 1 ≤ R.frames ∧ 8 + (maxL + 11) + rm.locals ≤ R.locals) (qc : Cond.code y bytes maxL ret' ∈ lw_tbl) (qi : Cond.initialized y.cls ∈ lw_tbl) (ql : Cond.methodLink own idx y ∈ lw_tbl ∨ ∃ host, Cond.methodLinkNest own idx y host ∈ lw_tbl) (qn : Cond.instanceMethod y ∈ lw_tbl) (qs : Cond.selects y.cls y y ∈ lw_tbl) (hd : y.cls ≠ "java/lang/invoke/MethodHandle" ∧ y.cls ≠ "java/lang/invoke/VarHandle" ∧ (parseMethodDescriptor y.desc).map (fun d => d.parameters.length) = some n) (hdg : decode cc pc = .ok (.invokevirtual idx, 3))
    (h : s_T p l e R s m args below meth c nL D ty ad A al n0 φ0 QR (pc + 3) K) : s_T p l e R s m args below meth c nL D ty ad A al n0 φ0 QR pc (o_callV C ci (n + 1) K) := by
  intro lsr H locs φ ls st sh me h1 h2 h3 h4
  obtain ⟨hrc, g1, g2, g3⟩ := h4
  have e0 : st = (s_pop (n + 1) [] st).1.reverse ++ (s_pop (n + 1) [] st).2 := s_pop_spec (n + 1) [] st (by simpa using g1)
  generalize s_pop (n + 1) [] st = q at hrc g1 g2 g3 e0
  obtain ⟨av, rest⟩ := q
  dsimp only at hrc g1 g2 g3 e0
  subst e0
  subst hal
  have hrun := s_runV (below := below) (e := e) G cl hM hrm hR qc qi ql qn qs hd hdg lsr H locs φ sh sh me av rest _ h1.1 h3 ⟨rfl, rfl⟩ ⟨h3.2.2.2.2.2.1, h3.2.2.2.2.2.2.1⟩ (fun z => by cases z) hrc g3 g1 g2
  rw [List.map_append, List.map_reverse]
  refine t_back (sh0 := sh) G ⟨rfl, rfl⟩ h3 hrun (fun r sh' me' φ' H1 locs1 q k1 k2 k3 k4 k5 k6 k7 k8 => ?_)
  obtain rfl := k3 rfl
  have h5 := h lsr H1 locs1 φ' ls (r.toList ++ rest) sh' me' h1 h2 ⟨k6, k7, k8, k4, k5, h3.2.2.2.2.2.1, h3.2.2.2.2.2.2.1, Nat.le_trans h3.2.2.2.2.2.2.2.1 k1, h3.2.2.2.2.2.2.2.2.1, h3.2.2.2.2.2.2.2.2.2⟩ q
  rw [List.map_append] at h5
  have e1 : r.toList.map (s_tr φ' ad) = (r.map (s_tr φ' ad)).toList := by cases r <;> rfl
  rw [e1] at h5
  exact h5
theorem t_callS (G : s_G p s m args meth c cc nL own D ty ad A ret nm) {C : SC} {y : MethodName} {bytes : ByteArray} {maxL n idx : Nat} {ret' : Option FieldType} {rm : Room} (hM : s_Met l y bytes maxL ret' rm false C) (hrm : rm.cells = 0 ∧ rm.slots = 0) (hal : al = false) (hR : rm.frames + 1 ≤ R.frames ∧ 8 + (maxL + 11) + rm.locals ≤ R.locals) (qc : Cond.code y bytes maxL ret' ∈ lw_tbl) (qi : Cond.initialized y.cls ∈ lw_tbl) (ql : Cond.methodLink own idx y ∈ lw_tbl ∨ ∃ host, Cond.methodLinkNest own idx y host ∈ lw_tbl) (qs : Cond.static y ∈ lw_tbl) (hd : y.cls ≠ "java/lang/invoke/MethodHandle" ∧ y.cls ≠ "java/lang/invoke/VarHandle" ∧ (parseMethodDescriptor y.desc).map (fun d => d.parameters.length) = some n) (hdg : decode cc pc = .ok (.invokestatic idx, 3))
    (h : s_T p l e R s m args below meth c nL D ty ad A al n0 φ0 QR (pc + 3) K) : s_T p l e R s m args below meth c nL D ty ad A al n0 φ0 QR pc (o_call C n K) :=
  t_call0 G hM hrm hal (fun lsr H locs φ sh me av rest Q g1 g2 g3 g4 g5 => s_runS G hM hrm hR qc qi ql qs hd hdg lsr H locs φ sh sh me av rest Q g1 g2 ⟨rfl, rfl⟩ ⟨g2.2.2.2.2.2.1, g2.2.2.2.2.2.2.1⟩ (fun z => by cases z) g3 g4 g5) h
theorem t_callI (G : s_G p s m args meth c cc nL own D ty ad A ret nm) {C : SC} {y : MethodName} {bytes : ByteArray} {maxL n idx MC MS mc ms : Nat} {rm : Room} {al' : Bool} (hM : s_Met l y bytes maxL none rm al' C) (hrm : rm.cells = mc ∧ rm.slots = ms) (hal : al = true) (hmc : R.cells = MC ∧ R.slots = MS) (hR : rm.frames + 1 ≤ R.frames ∧ 8 + (maxL + 11) + rm.locals ≤ R.locals) (qc : Cond.code y bytes maxL none ∈ lw_tbl) (qi : Cond.initialized y.cls ∈ lw_tbl) (ql : Cond.methodLink own idx y ∈ lw_tbl ∨ ∃ host, Cond.methodLinkNest own idx y host ∈ lw_tbl) (qs : Cond.instanceMethod y ∈ lw_tbl) (hy : y.name = "<init>") (hd : y.cls ≠ "java/lang/invoke/MethodHandle" ∧ y.cls ≠ "java/lang/invoke/VarHandle" ∧ (parseMethodDescriptor y.desc).map (fun d => d.parameters.length) = some n) (hdg : decode cc pc = .ok (.invokespecial idx, 3)) (hrf : ∀ (av : List Value) (sh : SShp) (me : SMem) (Q : SQ), C av sh me Q → ∃ b r, av = .ref b :: r)
    (h : s_T p l e R s m args below meth c nL D ty ad A al n0 φ0 QR (pc + 3) K) : s_T p l e R s m args below meth c nL D ty ad A al n0 φ0 QR pc (o_callA C (n + 1) MC MS mc ms K) :=
  t_callA G hM hrm hal hmc (fun lsr H locs φ sh sh0 me av rest Q g1 g2 g3 g4 g5 g6 g7 g8 => s_runI G hM hrm hR qc qi ql qs hy hd hdg hrf lsr H locs φ sh sh0 me av rest Q g1 g2 g3 g4 g5 g6 g7 g8) h
/-- Object's own constructor -/
theorem t_obj (G : s_G p s m args meth c cc nL own D ty ad A ret nm) {idx : Nat} (ql : Cond.methodLink own idx Lib.objectInit ∈ lw_tbl) (qi : Cond.instanceMethod Lib.objectInit ∈ lw_tbl) (qc : Cond.code Lib.objectInit ⟨#[0xb1]⟩ 1 none ∈ lw_tbl) (hR : 1 ≤ R.frames ∧ 20 ≤ R.locals) (hdg : decode cc pc = .ok (.invokespecial idx, 3)) (h : s_T p l e R s m args below meth c nL D ty ad A al n0 φ0 QR (pc + 3) K) : s_T p l e R s m args below meth c nL D ty ad A al n0 φ0 QR pc (o_obj K) := by
  intro lsr H locs φ ls st sh me h1 h2 h3 h4
  unfold o_obj at h4
  split at h4
  · rename_i a r
    have hts := G.2.2.2.2.1.use (args := args)
    have hr := lv_room (m := m) (pc := pc) (ls := lsr) (rest := []) (s_sm_sum h4.1 φ ad)
    refine W.objInit G.1 G.2.1 G.2.2.2.1 (hts _ (s_in ql rfl)) (hts _ (s_in qi rfl)) (hts _ (s_in qc rfl)) (g := F0 m pc lsr (.ref (if a < 1000000 then φ a else ad (a - 1000000)) :: r.map (s_tr φ ad))) rfl (h1.1.trans G.2.2.1.symm) rfl hdg hR.1 (Nat.le_trans (Nat.add_le_add_right hr 12) hR.2) ?_
    exact h lsr H locs φ ls r sh me h1 h2 h3 h4.2
  · exact h4.elim
theorem t_math2 (G : s_G p s m args meth c cc nL own D ty ad A ret nm) {f : Int32 → Int32 → Int32} (row : ∀ (H : Heap) (locs : List Loc) (k n : Nat) (lsr : Array Slot) (r : List Value) (x y : Int32), c.maxLocals = lsr.size → (r.map fun v => v.category).sum + 13 ≤ R.locals → k ≤ R.cells → n ≤ R.slots → W p l e R s m args below meth c H locs k n QR (F0 m (pc + 3) lsr (.int (f x y) :: r)) → W p l e R s m args below meth c H locs k n QR (F0 m pc lsr (.int y :: .int x :: r))) (hR : 21 ≤ R.locals) (h : s_T p l e R s m args below meth c nL D ty ad A al n0 φ0 QR (pc + 3) K) : s_T p l e R s m args below meth c nL D ty ad A al n0 φ0 QR pc (o_math2 f K) := by
  intro lsr H locs φ ls st sh me h1 h2 h3 h4
  unfold o_math2 at h4
  split at h4
  · exact row _ _ _ _ _ _ _ _ (G.2.2.1.trans h1.1.symm) (Nat.le_trans (Nat.add_le_add_right (s_sm_sum h4.1 φ ad) 13) hR) h3.2.2.2.2.2.1 h3.2.2.2.2.2.2.1 (h lsr H locs φ ls _ sh me h1 h2 h3 h4.2)
  · exact h4.elim
end SNR
def o_math1 (f : Int32 → Int32) (K : SK) : SK := fun ls st sh me => match st with
  | .int x :: r => s_sm r ∧ K ls (.int (f x) :: r) sh me
  | _ => False
def s_max (x y : Int32) : Int32 := if x < y then y else x
def s_min (x y : Int32) : Int32 := if y < x then y else x
def s_abs (x : Int32) : Int32 := if 0 ≤ x then x else 0 - x
def o_getsA (j : Nat) (K : SK) : SK := fun ls st => K ls (.ref (1000000 + j) :: st)
section SNR2
variable {p : Program} {l : Launch} {e : Env} {R : Room} {s : State} {m : MethodId} {args : Array Value} {below : List Frame} {meth : Method} {c : Code} {cc : ByteArray} {nL : Nat} {own : String} {D : va_G} {ty : s_TY} {ad : Nat → Nat} {A : Nat → Prop} {al : Bool} {n0 : Nat} {φ0 : Nat → Nat} {QR : State → Prop} {pc : Nat} {K Kt Kf : SK} {ret : Option FieldType} {nm : String}
theorem t_max (G : s_G p s m args meth c cc nL own D ty ad A ret nm) {idx : Nat} (ql : Cond.methodLink own idx Lib.Math.max.name ∈ lw_tbl) (qs : Cond.static Lib.Math.max.name ∈ lw_tbl) (qi : Cond.initialized "java/lang/Math" ∈ lw_tbl) (qc : Cond.code Lib.Math.max.name Lib.Math.max.code 2 (some .int) ∈ lw_tbl) (hR : 1 ≤ R.frames ∧ 21 ≤ R.locals) (hdg : decode cc pc = .ok (.invokestatic idx, 3)) (h : s_T p l e R s m args below meth c nL D ty ad A al n0 φ0 QR (pc + 3) K) : s_T p l e R s m args below meth c nL D ty ad A al n0 φ0 QR pc (o_math2 s_max K) :=
  t_math2 G (fun H locs k n lsr r x y g1 g2 g3 g4 g5 => va_mmax G.1 G.2.1 g1 G.2.2.2.1 (G.2.2.2.2.1.use _ (s_in ql rfl)) (G.2.2.2.2.1.use _ (s_in qs rfl)) (G.2.2.2.2.1.use _ (s_in qi rfl)) (G.2.2.2.2.1.use _ (s_in qc rfl)) hR.1 g2 g3 g4 hdg g5) hR.2 h
theorem t_min (G : s_G p s m args meth c cc nL own D ty ad A ret nm) {idx : Nat} (ql : Cond.methodLink own idx Lib.Math.min.name ∈ lw_tbl) (qs : Cond.static Lib.Math.min.name ∈ lw_tbl) (qi : Cond.initialized "java/lang/Math" ∈ lw_tbl) (qc : Cond.code Lib.Math.min.name Lib.Math.min.code 2 (some .int) ∈ lw_tbl) (hR : 1 ≤ R.frames ∧ 21 ≤ R.locals) (hdg : decode cc pc = .ok (.invokestatic idx, 3)) (h : s_T p l e R s m args below meth c nL D ty ad A al n0 φ0 QR (pc + 3) K) : s_T p l e R s m args below meth c nL D ty ad A al n0 φ0 QR pc (o_math2 s_min K) :=
  t_math2 G (fun H locs k n lsr r x y g1 g2 g3 g4 g5 => va_mmin G.1 G.2.1 g1 G.2.2.2.1 (G.2.2.2.2.1.use _ (s_in ql rfl)) (G.2.2.2.2.1.use _ (s_in qs rfl)) (G.2.2.2.2.1.use _ (s_in qi rfl)) (G.2.2.2.2.1.use _ (s_in qc rfl)) hR.1 g2 g3 g4 hdg g5) hR.2 h
theorem t_abs (G : s_G p s m args meth c cc nL own D ty ad A ret nm) {idx : Nat} (ql : Cond.methodLink own idx Lib.Math.abs.name ∈ lw_tbl) (qs : Cond.static Lib.Math.abs.name ∈ lw_tbl) (qi : Cond.initialized "java/lang/Math" ∈ lw_tbl) (qc : Cond.code Lib.Math.abs.name Lib.Math.abs.code 1 (some .int) ∈ lw_tbl) (hR : 1 ≤ R.frames ∧ 21 ≤ R.locals) (hdg : decode cc pc = .ok (.invokestatic idx, 3)) (h : s_T p l e R s m args below meth c nL D ty ad A al n0 φ0 QR (pc + 3) K) : s_T p l e R s m args below meth c nL D ty ad A al n0 φ0 QR pc (o_math1 s_abs K) := by
  intro lsr H locs φ ls st sh me h1 h2 h3 h4
  unfold o_math1 at h4
  split at h4
  · exact va_mabs G.1 G.2.1 (G.2.2.1.trans h1.1.symm) G.2.2.2.1 (G.2.2.2.2.1.use _ (s_in ql rfl)) (G.2.2.2.2.1.use _ (s_in qs rfl)) (G.2.2.2.2.1.use _ (s_in qi rfl)) (G.2.2.2.2.1.use _ (s_in qc rfl)) hR.1 (Nat.le_trans (Nat.add_le_add_right (s_sm_sum h4.1 φ ad) 13) hR.2) h3.2.2.2.2.2.1 h3.2.2.2.2.2.2.1 hdg (h lsr H locs φ ls _ sh me h1 h2 h3 h4.2)
  · exact h4.elim
theorem t_copyl (G : s_G p s m args meth c cc nL own D ty ad A ret nm) {idx : Nat} (ql : Cond.methodLink own idx arraycopyName ∈ lw_tbl) (qn : Cond.native arraycopyName ∈ lw_tbl) (qs : Cond.static arraycopyName ∈ lw_tbl) (qi : Cond.initialized "java/lang/System" ∈ lw_tbl) (hR : 1 ≤ R.frames ∧ 8 + (nativeFrameWords "java/lang/System" "arraycopy" 5 + 11) ≤ R.locals) (hdg : decode cc pc = .ok (.invokestatic idx, 3)) (h : s_T p l e R s m args below meth c nL D ty ad A al n0 φ0 QR (pc + 3) K) : s_T p l e R s m args below meth c nL D ty ad A al n0 φ0 QR pc (o_copyl K) := by
  intro lsr H locs φ ls st sh me h1 h2 h3 h4
  unfold o_copyl at h4
  split at h4
  · rename_i n dp b sp a r
    obtain ⟨g0, g1, g2, g3, g4, g5, g6, g7, g8, g9, g10⟩ := h4
    have hca := s_ws_get (ty := ty) (φ := φ) (me := me) g1
    have hcb := s_ws_get (ty := ty) (φ := φ) (me := me) g3
    rw [s_cell_J g2] at hca
    rw [s_cell_J g4] at hcb
    rw [List.map_cons, List.map_cons, List.map_cons, List.map_cons, List.map_cons, s_tr_ref g1 h3.2.2.2.1, s_tr_ref g3 h3.2.2.2.1]
    have hset : (s_ws ty φ sh me).set b (φ b, .inl (ty.2.1, sh.2.2.2 b, .inr (.inl (va_cpy (me.2.1 a) (me.2.1 b) sp.toNatClampNeg dp.toNatClampNeg n.toNatClampNeg)))) = s_ws ty φ sh (me.1, (fun c j => if c = b then va_cpy (me.2.1 a) (me.2.1 b) sp.toNatClampNeg dp.toNatClampNeg n.toNatClampNeg j else me.2.1 c j), me.2.2) := by
      refine s_ws_set ?_ (fun j hj => ?_)
      · rw [s_cell_J g4]
        simp
      · generalize hme : ((me.1, (fun c j => if c = b then va_cpy (me.2.1 a) (me.2.1 b) sp.toNatClampNeg dp.toNatClampNeg n.toNatClampNeg j else me.2.1 c j), me.2.2) : SMem) = me'
        have f1 : me'.1 = me.1 := by rw [← hme]
        have f2 : me'.2.1 j = me.2.1 j := by rw [← hme]; funext z; simp [hj]
        have f3 : me'.2.2 = me.2.2 := by rw [← hme]
        have f5 : ∀ k t, s_fv φ me' j k t = s_fv φ me j k t := by
          intro k t
          cases t <;> simp [s_fv, f1, f2, f3]
        simp only [s_cell, s_flds, f1, f2, f3, f5]
    have hts := G.2.2.2.2.1.use (args := args)
    refine va_copyl (ty := .long) G.1 G.2.1 (G.2.2.1.trans h1.1.symm) G.2.2.2.1 (hts _ (s_in ql rfl)) (hts _ (s_in qn rfl)) (hts _ (s_in qs rfl)) (hts _ (s_in qi rfl)) G.2.2.2.2.2.1 h3.1 h3.2.1 h3.2.2.1 a b 1 1 hca hcb rfl rfl rfl g5 g6 g7 g8 g9 (fun _ _ => rfl) hR.1 (Nat.le_trans (Nat.add_le_add_right (s_sm_sum g0 φ ad) _) hR.2) hdg (fun H1 locs1 b1 b2 b3 => ?_)
    rw [hset] at b1 b2
    exact h lsr H1 locs1 φ ls r sh _ h1 h2 ⟨b1, b2, b3, h3.2.2.2⟩ g10
  · exact h4.elim
theorem t_getsA (G : s_G p s m args meth c cc nL own D ty ad A ret nm) {j idx : Nat} {n : String} (hj : j = 0 ∧ n = "ABOVE" ∨ j = 1 ∧ n = "BODIES") (ql : Cond.fieldLink own idx "TaxOnLooks" n "[I" ∈ lw_tbl ∨ ∃ host, Cond.fieldLinkNest own idx "TaxOnLooks" n "[I" host ∈ lw_tbl) (hdg : decode cc pc = .ok (.getstatic idx, 3)) (h : s_T p l e R s m args below meth c nL D ty ad A al n0 φ0 QR (pc + 3) K) : s_T p l e R s m args below meth c nL D ty ad A al n0 φ0 QR pc (o_getsA j K) := by
  intro lsr H locs φ ls st sh me h1 h2 h3 h4
  have h5 := h lsr H locs φ ls (.ref (1000000 + j) :: st) sh me h1 h2 h3 h4
  have hsp := G.2.2.2.2.2.2.2.2.1
  have e1 : s_tr φ ad (.ref (1000000 + j)) = .ref (ad j) := by
    show Value.ref (if 1000000 + j < 1000000 then _ else ad (1000000 + j - 1000000)) = _
    rw [if_neg (by omega), show 1000000 + j - 1000000 = j by omega]
  rw [List.map_cons, e1] at h5
  have hz : va_Z "TaxOnLooks" n "[I" (.ref (ad j)) A s s.heap := by
    rcases hj with ⟨rfl, rfl⟩ | ⟨rfl, rfl⟩
    · exact hsp.1.1
    · exact hsp.2.1.1
  rcases ql with ql | ⟨host, ql⟩
  · exact va_gets G.1 G.2.1 hz h3.2.2.1 G.2.2.2.1 (G.2.2.2.2.1.use _ (s_in ql rfl)) (fun _ z => z) hdg h5
  · exact va_getsN G.1 G.2.1 hz h3.2.2.1 G.2.2.2.1 (va_Nw.use rfl (G.2.2.2.2.2.2.2.1 _ ql rfl)) (fun _ z => z) hdg h5
theorem t_tald (G : s_G p s m args meth c cc nL own D ty ad A ret nm) {j : Nat} (hj : j = 0 ∨ j = 1) (hdg : decode cc pc = .ok (.iaload, 1)) (h : s_T p l e R s m args below meth c nL D ty ad A al n0 φ0 QR (pc + 1) K) : s_T p l e R s m args below meth c nL D ty ad A al n0 φ0 QR pc (o_tald j K) := by
  intro lsr H locs φ ls st sh me h1 h2 h3 h4
  unfold o_tald at h4
  split at h4
  · rename_i i a r
    obtain ⟨rfl, g1, g2⟩ := h4
    have hsp := G.2.2.2.2.2.2.2.2.1
    have e1 : s_tr φ ad (.ref (1000000 + j)) = .ref (ad j) := by
      show Value.ref (if 1000000 + j < 1000000 then _ else ad (1000000 + j - 1000000)) = _
      rw [if_neg (by omega), show 1000000 + j - 1000000 = j by omega]
    rw [List.map_cons, List.map_cons, e1]
    have hz : va_T .int (ad j) (s_tl j).length (fun k => .int ((s_tl j).getD k 0)) A s s.heap := by
      rcases hj with rfl | rfl
      · exact hsp.1.2
      · exact hsp.2.1.2
    exact va_ti G.1 G.2.1 hz h3.2.2.1 g1 rfl hdg (h lsr H locs φ ls _ sh me h1 h2 h3 g2)
  · exact h4.elim
theorem s_post_of {H : Heap} {locs : List Loc} {φ : Nat → Nat} {sh : SShp} {me : SMem} {Q : SQ} {r : Option Value} {r' : Option Value} (hJ : s_J R s D ty A al n0 φ0 H locs φ sh me) (hq : Q r sh me) (hr : r.map (s_tr φ ad) = r') {a : Array Value} : ∀ t : State, t.heap = H → s.WarmedH t.vm → s_Post D ty ad Q φ0 n0 al A a s (.returned r') t := by
  intro t ht _
  exact ⟨⟨r, sh, me, φ, by rw [hr], hq, hJ.2.2.2.2.2.2.2.1, hJ.2.2.2.2.2.2.2.2.1, hJ.2.2.2.2.2.2.2.2.2, hJ.2.2.2.1, hJ.2.2.2.2.1, by rw [ht]; exact hJ.1, hJ.2.1⟩, hJ.2.2.1.F ht⟩
theorem t_vret (G : s_G p s m args meth c cc nL own D ty ad A ret nm) {Q : SQ} (hret : ret = none) (hdg : decode cc pc = .ok (.return_, 1)) : s_T p l e R s m args below meth c nL D ty ad A al n0 φ0 (MQ below (s_Post D ty ad Q φ0 n0 al A) args s R.cells R.slots A) pc (o_vret Q) := by
  intro lsr H locs φ ls st sh me h1 h2 h3 h4
  unfold o_vret at h4
  split at h4
  · exact W.widen h3.2.2.2.2.2.1 h3.2.2.2.2.2.2.1 (W.vret G.1 G.2.1 (G.2.2.2.2.2.2.2.2.2.2.1.trans hret) (s_post_of h3 h4 rfl) h3.2.2.1.2.2 hdg G.2.2.2.2.2.2.2.2.2.1)
  · exact h4.elim
theorem t_iret (G : s_G p s m args meth c cc nL own D ty ad A ret nm) {Q : SQ} (hret : ret = some .int) (hdg : decode cc pc = .ok (.ireturn, 1)) : s_T p l e R s m args below meth c nL D ty ad A al n0 φ0 (MQ below (s_Post D ty ad Q φ0 n0 al A) args s R.cells R.slots A) pc (o_iret Q) := by
  intro lsr H locs φ ls st sh me h1 h2 h3 h4
  unfold o_iret at h4
  split at h4
  · rename_i x
    exact W.widen h3.2.2.2.2.2.1 h3.2.2.2.2.2.2.1 (W.iret (v := x) G.1 G.2.1 (G.2.2.2.2.2.2.2.2.2.2.1.trans hret) (s_post_of h3 h4 rfl) h3.2.2.1.2.2 hdg G.2.2.2.2.2.2.2.2.2.1)
  · exact h4.elim
theorem t_zret (G : s_G p s m args meth c cc nL own D ty ad A ret nm) {Q : SQ} (hret : ret = some .boolean) (hdg : decode cc pc = .ok (.ireturn, 1)) : s_T p l e R s m args below meth c nL D ty ad A al n0 φ0 (MQ below (s_Post D ty ad Q φ0 n0 al A) args s R.cells R.slots A) pc (o_zret Q) := by
  intro lsr H locs φ ls st sh me h1 h2 h3 h4
  unfold o_zret at h4
  split at h4
  · rename_i x
    exact W.widen h3.2.2.2.2.2.1 h3.2.2.2.2.2.2.1 (W.zret (v := x) (ty := .boolean) G.1 G.2.1 (G.2.2.2.2.2.2.2.2.2.2.1.trans hret) (by rcases h4.1 with q | q <;> rw [q] <;> rfl) (s_post_of h3 h4.2 rfl) h3.2.2.1.2.2 hdg G.2.2.2.2.2.2.2.2.2.1)
  · exact h4.elim
theorem t_lret (G : s_G p s m args meth c cc nL own D ty ad A ret nm) {Q : SQ} (hret : ret = some .long) (hdg : decode cc pc = .ok (.lreturn, 1)) : s_T p l e R s m args below meth c nL D ty ad A al n0 φ0 (MQ below (s_Post D ty ad Q φ0 n0 al A) args s R.cells R.slots A) pc (o_lret Q) := by
  intro lsr H locs φ ls st sh me h1 h2 h3 h4
  unfold o_lret at h4
  split at h4
  · rename_i x
    exact W.widen h3.2.2.2.2.2.1 h3.2.2.2.2.2.2.1 (W.lret (v := x) G.1 G.2.1 (G.2.2.2.2.2.2.2.2.2.2.1.trans hret) (s_post_of h3 h4 rfl) h3.2.2.1.2.2 hdg G.2.2.2.2.2.2.2.2.2.1)
  · exact h4.elim
theorem t_aret (G : s_G p s m args meth c cc nL own D ty ad A ret nm) {Q : SQ} {n : String} (hret : ret = some (.object n)) (hdg : decode cc pc = .ok (.areturn, 1)) : s_T p l e R s m args below meth c nL D ty ad A al n0 φ0 (MQ below (s_Post D ty ad Q φ0 n0 al A) args s R.cells R.slots A) pc (o_aret Q) := by
  intro lsr H locs φ ls st sh me h1 h2 h3 h4
  unfold o_aret at h4
  split at h4
  · rename_i x
    exact W.widen h3.2.2.2.2.2.1 h3.2.2.2.2.2.2.1 (W.aret (v := s_tr φ ad (.ref x)) (rt := .object n) G.1 G.2.1 (G.2.2.2.2.2.2.2.2.2.2.1.trans hret) (Or.inl ⟨n, rfl⟩) (Or.inr ⟨_, rfl⟩) (s_post_of h3 h4 rfl) h3.2.2.1.2.2 hdg G.2.2.2.2.2.2.2.2.2.1)
  · exact h4.elim
end SNR2
/-- a method whole: out of its blocks -/
theorem s_met1 {l : Launch} {P : SQ → (Nat → SK) → Nat → SK} {y : MethodName} {bytes : ByteArray} {maxL : Nat} {ret : Option FieldType} {rm : Room} {al : Bool} (hy : plainName y.cls = true) (hal : al = false → rm.cells = 0 ∧ rm.slots = 0)
    (hB : ∀ (p : Program) (e : Env) (s : State) (m : MethodId) (args : Array Value) (below : List Frame) (meth : Method) (c : Code) (D : va_G) (ty : s_TY) (ad : Nat → Nat) (A : Nat → Prop) (n0 : Nat) (φ0 : Nat → Nat) (Q : SQ), s_G p s m args meth c bytes maxL y.cls D ty ad A ret y.name → ∀ Y : Nat → SK, (∀ pc, s_T p l e rm s m args below meth c maxL D ty ad A al n0 φ0 (MQ below (s_Post D ty ad Q φ0 n0 al A) args s rm.cells rm.slots A) pc (Y pc)) → ∀ pc, s_T p l e rm s m args below meth c maxL D ty ad A al n0 φ0 (MQ below (s_Post D ty ad Q φ0 n0 al A) args s rm.cells rm.slots A) pc (P Q Y pc))
    {D : va_G} {ty : s_TY} {ad : Nat → Nat} {av : List Value} {φ : Nat → Nat} {sz : Nat} {sh : SShp} {me : SMem} {Q : SQ} {ls0 : SLoc} (hsh : al = true → sh.2.1 = (0, 0)) (hlen : ls0.length = maxL) (hlv : s_lv φ ad 0 ls0 = lv_args 0 (av.map (s_tr φ ad))) (hsl : (lg_sl (av.map (s_tr φ ad))).length ≤ maxL) (hC : s_wp P Q 0 ls0 [] sh me) :
    Met l y [Cond.code y bytes maxL ret] rm (s_Pre D ty ad av φ sz sh me) (s_Post D ty ad Q φ sh.1 al (va_A (s_ws ty φ sh me) sz)) rm.cells rm.slots (va_A (s_ws ty φ sh me) sz) := by
  refine Met.ofW (cc := bytes) (maxL := maxL) (ret := ret) hy rfl ?_
  intro p e s m args below meth c s₁ B hml hv
  obtain ⟨rfl, hsz, hP, hD0, hn, hr, hK, htb, hnst, hsp⟩ := hv
  subst hsz
  have hG : s_G p s m (av.map (s_tr φ ad)).toArray meth c bytes maxL y.cls D ty ad (va_A (s_ws ty φ sh me) s.heap.size) ret y.name := ⟨B.exec, B.bytes, hml, findClass_of_methodNamed B.named, htb, hK, fun q h => Or.inr h, hnst, hsp, B.notSynchronized, B.returns, (name_of_methodNamed B.named B.method).1⟩
  have hkz : s_kz al sh = (0, 0) := by
    cases al with
    | false => rfl
    | true => exact hsh rfl
  have hJ : s_J rm s D ty (va_A (s_ws ty φ sh me) s.heap.size) al sh.1 φ s.heap [] φ sh me := ⟨hP, hD0.self, va_S.rf, hn, hr, by rw [hkz]; exact Nat.zero_le _, by rw [hkz]; exact Nat.zero_le _, Nat.le_refl _, fun _ _ => rfl, fun _ => rfl⟩
  have main : ∀ (lsr : Array Slot) (H : Heap) (locs : List Loc) (φ1 : Nat → Nat), lv_has lsr maxL (s_lv φ1 ad 0 ls0) → ls0.length = maxL → s_J rm s D ty (va_A (s_ws ty φ sh me) s.heap.size) al sh.1 φ H locs φ1 sh me → W p l e rm s m (av.map (s_tr φ ad)).toArray below meth c H locs (s_kz al sh).1 (s_kz al sh).2 (MQ below (s_Post D ty ad Q φ sh.1 al (va_A (s_ws ty φ sh me) s.heap.size)) (av.map (s_tr φ ad)).toArray s rm.cells rm.slots (va_A (s_ws ty φ sh me) s.heap.size)) (F0 m 0 lsr []) :=
    hC (fun pc ls st sh2 me2 => ∀ (lsr : Array Slot) (H : Heap) (locs : List Loc) (φ1 : Nat → Nat), lv_has lsr maxL (s_lv φ1 ad 0 ls) → ls.length = maxL → s_J rm s D ty (va_A (s_ws ty φ sh me) s.heap.size) al sh.1 φ H locs φ1 sh2 me2 → W p l e rm s m (av.map (s_tr φ ad)).toArray below meth c H locs (s_kz al sh2).1 (s_kz al sh2).2 (MQ below (s_Post D ty ad Q φ sh.1 al (va_A (s_ws ty φ sh me) s.heap.size)) (av.map (s_tr φ ad)).toArray s rm.cells rm.slots (va_A (s_ws ty φ sh me) s.heap.size)) (F0 m pc lsr (st.map (s_tr φ1 ad))))
      (fun Y hY pc ls st sh2 me2 hPY lsr H locs φ1 g1 g2 g3 => hB p e s m _ below meth c D ty ad _ sh.1 φ Q hG Y (fun pc2 lsr2 H2 locs2 φ2 ls2 st2 sh3 me3 z1 z2 z3 z4 => hY pc2 ls2 st2 sh3 me3 z4 lsr2 H2 locs2 φ2 z1 z2 z3) pc lsr H locs φ1 ls st sh2 me2 g1 g2 g3 hPY)
  have hl := lv_entry (av.map (s_tr φ ad)) (n := maxL) hsl
  rw [lg_entry_eq]
  rw [← hlv] at hl
  have h5 := main _ s.heap [] φ hl hlen hJ
  rw [hkz] at h5
  exact h5
