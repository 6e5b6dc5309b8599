/-! WHAT THE SMALL MACHINE SAYS OF THE MACHINE: calls and returns -/
def s_Post (D : va_G) (ty : s_TY) (ad : Nat → Nat) (Q : SQ) (φ : Nat → Nat) (n0 : Nat) (al : Bool) (A : Nat → Prop) : Array Value → State → Outcome → State → Prop := fun _ st oc t =>
  (∃ (r : Option Value) (sh' : SShp) (me' : SMem) (φ' : Nat → Nat), oc = .returned (r.map (s_tr φ' ad)) ∧ Q r sh' me' ∧ n0 ≤ sh'.1 ∧ (∀ i, i < n0 → φ' i = φ i) ∧ (al = false → φ' = φ) ∧ sh'.1 ≤ 1000000 ∧ (∀ a k b, a < sh'.1 → me'.2.2 a k = some b → b < sh'.1) ∧ va_P D vwCl (s_ws ty φ' sh' me') t.heap ∧ va_D A (s_ws ty φ' sh' me')) ∧ va_F A st t
def s_Pre (D : va_G) (ty : s_TY) (ad : Nat → Nat) (av : List Value) (φ : Nat → Nat) (sz : Nat) (sh : SShp) (me : SMem) : Array Value → State → Prop :=
  va_Pc (av.map (s_tr φ ad)) (fun U => U.heap.size = sz ∧ va_P D vwCl (s_ws ty φ sh me) U.heap ∧ va_D (fun _ => True) (s_ws ty φ sh me) ∧ sh.1 ≤ 1000000 ∧ (∀ a k b, a < sh.1 → me.2.2 a k = some b → b < sh.1) ∧ va_K D vwCl (s_tys ty) U ∧ s_tb U ∧ s_nst U ∧ s_sp ad (va_A (s_ws ty φ sh me) sz) U U.heap)
/-- a method's contract: whatever the small machine says of its end, the machine comes to -/
def s_Met (l : Launch) (y : MethodName) (bytes : ByteArray) (maxL : Nat) (ret : Option FieldType) (rm : Room) (al : Bool) (C : SC) : Prop :=
  ∀ (D : va_G) (ty : s_TY) (ad : Nat → Nat) (av : List Value) (φ : Nat → Nat) (sz : Nat) (sh : SShp) (me : SMem) (Q : SQ), (al = true → sh.2.1 = (0, 0)) → C av sh me Q → Met l y [Cond.code y bytes maxL ret] rm (s_Pre D ty ad av φ sz sh me) (s_Post D ty ad Q φ sh.1 al (va_A (s_ws ty φ sh me) sz)) rm.cells rm.slots (va_A (s_ws ty φ sh me) sz)
theorem s_blind {D : va_G} {ty : s_TY} {ad : Nat → Nat} {av : List Value} {φ : Nat → Nat} {sz : Nat} {sh : SShp} {me : SMem} : FrameBlind (s_Pre D ty ad av φ sz sh me) := by
  intro a U g mk h
  obtain ⟨h1, h2, h3, h4, h5, h6, h7, h8, h9, h10⟩ := h
  have hW : U.WarmedH (U.calling g mk a).vm := State.WarmedH.refl U
  exact ⟨h1, h2, h3, h4, h5, h6, va_K.moved (U := U.calling g mk a) hW.alike h7, s_tb.warm (U := U.calling g mk a) hW h8, s_nst.warm (U := U.calling g mk a) hW h9, s_sp.warm (U := U.calling g mk a) hW h10⟩
section SNC
variable {p : Program} {l : Launch} {e : Env} {R : Room} {s : State} {m : MethodId} {args : Array Value} {below : List Frame} {meth : Method} {c : Code} {cc : ByteArray} {nL : Nat} {own : String} {D : va_G} {ty : s_TY} {ad : Nat → Nat} {A : Nat → Prop} {al : Bool} {n0 : Nat} {φ0 : Nat → Nat} {QR : State → Prop} {pc : Nat} {K Kt Kf : SK} {ret : Option FieldType} {nm : String}
/-- the callee's start, out of the caller's state -/
theorem s_pre_of (G : s_G p s m args meth c cc nL own D ty ad A ret nm) {H : Heap} {locs : List Loc} {φ : Nat → Nat} {sh : SShp} {me : SMem} (hJ : s_J R s D ty A al n0 φ0 H locs φ sh me) (av : List Value) (sh' : SShp) (he : sh'.1 = sh.1 ∧ sh'.2.2 = sh.2.2) : ∀ U : State, U.heap = H → s.WarmedH U.vm → s_Pre D ty ad av φ H.size sh' me (av.map (s_tr φ ad)).toArray U := by
  intro U hU hW
  have ew : s_ws ty φ sh' me = s_ws ty φ sh me := by
    obtain ⟨n, k, x⟩ := sh
    obtain ⟨n', k', x'⟩ := sh'
    obtain ⟨rfl, rfl⟩ := he
    rfl
  refine ⟨rfl, by rw [hU], by rw [hU, ew]; exact hJ.1, by rw [ew]; exact hJ.2.1.weaken (fun _ _ _ _ => trivial), by rw [he.1]; exact hJ.2.2.2.1, by rw [he.1]; exact hJ.2.2.2.2.1, va_K.moved hW.alike G.2.2.2.2.2.1, G.2.2.2.2.1.warm hW, G.2.2.2.2.2.2.2.1.warm hW, ?_⟩
  rw [hU, ew]
  refine ((G.2.2.2.2.2.2.2.2.1.kept (fun a h1 h2 => hJ.2.2.1.2.1 a h1 h2)).narrow (fun q hq => ?_)).warm hW
  rcases hq with ⟨k, e, hk⟩ | hq
  · exact hJ.2.1.2 k (q, e) hk
  · exact G.2.2.2.2.2.2.1 q (Nat.le_trans hJ.2.2.1.1 hq)
/-- behind a call -/
theorem t_back (G : s_G p s m args meth c cc nL own D ty ad A ret nm) {lsr : Array Slot} {H : Heap} {locs : List Loc} {φ : Nat → Nat} {sh sh0 : SShp} {me : SMem} {mc ms : Nat} {al' : Bool} {Q' : SQ} {st0 rest : List Value} {a : Array Value} (he : sh0.1 = sh.1 ∧ sh0.2.2 = sh.2.2) (hJ : s_J R s D ty A al n0 φ0 H locs φ sh me)
    (hr : va_Run p l e R s m args below meth c H locs (s_kz al sh).1 (s_kz al sh).2 mc ms (F0 m pc lsr st0) rest (s_Post D ty ad Q' φ sh0.1 al' (va_A (s_ws ty φ sh0 me) H.size) a) (va_A (s_ws ty φ sh0 me) H.size))
    (kk : ∀ (r : Option Value) (sh' : SShp) (me' : SMem) (φ' : Nat → Nat) (H1 : Heap) (locs1 : List Loc), Q' r sh' me' → sh.1 ≤ sh'.1 → (∀ i, i < sh.1 → φ' i = φ i) → (al' = false → φ' = φ) → sh'.1 ≤ 1000000 → (∀ a k b, a < sh'.1 → me'.2.2 a k = some b → b < sh'.1) → va_P D vwCl (s_ws ty φ' sh' me') H1 → va_D A (s_ws ty φ' sh' me') → va_S A s.heap H1 locs1 → W p l e R s m args below meth c H1 locs1 ((s_kz al sh).1 + mc) ((s_kz al sh).2 + ms) QR (F0 m (pc + 3) lsr ((r.map (s_tr φ' ad)).toList ++ rest))) : W p l e R s m args below meth c H locs (s_kz al sh).1 (s_kz al sh).2 QR (F0 m pc lsr st0) := by
  intro T hT X
  obtain ⟨v, st₀, t, T', L, h0, X', hL, e1, e2, ⟨⟨r, sh', me', φ', hv, hq, k1, k2, k3, k4, k5, k6, k7⟩, hz, hk⟩, st⟩ := hr T hT X
  have hv' : v = r.map (s_tr φ' ad) := by cases hv; rfl
  subst hv'
  rw [h0] at hz hk
  have ew : s_ws ty φ sh0 me = s_ws ty φ sh me := by
    obtain ⟨n, k, x⟩ := sh
    obtain ⟨n', k', x'⟩ := sh0
    obtain ⟨rfl, rfl⟩ := he
    rfl
  have hA : ∀ q, va_A (s_ws ty φ sh0 me) H.size q → A q := by
    intro q hq
    rw [ew] at hq
    rcases hq with ⟨k, e, hk⟩ | hq
    · exact hJ.2.1.2 k (q, e) hk
    · exact G.2.2.2.2.2.2.1 q (Nat.le_trans hJ.2.2.1.1 hq)
  have hS := hJ.2.2.1
  rw [he.1] at k1 k2
  obtain ⟨t2, a1, b1⟩ := kk r sh' me' φ' T'.heap (locs ++ L) hq k1 k2 k3 k4 k5 (by rw [e1]; exact k6) (k7.weaken (fun k q _ h => hA q.1 h))
    ⟨Nat.le_trans hS.1 (by rw [e1]; exact hz), fun q h1 h2 => by rw [e1, hk q (Nat.lt_of_lt_of_le h1 hS.1) (fun z => h2 (hA q z))]; exact hS.2.1 q h1 h2, fun q hq => by
      rcases List.mem_append.mp hq with h | h
      · exact hS.2.2 q h
      · exact hA _ (hL q h)⟩ T' rfl X'
  exact ⟨t2, st t2 a1, b1⟩
theorem s_kz_ff (sh : SShp) : s_kz false sh = (0, 0) := rfl
/-- a call that makes nothing, from a method that makes nothing; each kind of call by its row -/
theorem t_call0 (G : s_G p s m args meth c cc nL own D ty ad A ret nm) {C : SC} {y : MethodName} {bytes : ByteArray} {maxL n : Nat} {ret' : Option FieldType} {rm : Room} (hM : s_Met l y bytes maxL ret' rm false C) (hrm : rm.cells = 0 ∧ rm.slots = 0) (hal : al = false)
    (row : ∀ (lsr : Array Slot) (H : Heap) (locs : List Loc) (φ : Nat → Nat) (sh : SShp) (me : SMem) (av rest : List Value) (Q : SQ), lsr.size = nL → s_J R s D ty A al n0 φ0 H locs φ sh me → C av sh me Q → av.length = n → s_sm rest → va_Run p l e R s m args below meth c H locs (s_kz al sh).1 (s_kz al sh).2 0 0 (F0 m pc lsr ((av.map (s_tr φ ad)).reverse ++ rest.map (s_tr φ ad))) (rest.map (s_tr φ ad)) (s_Post D ty ad Q φ sh.1 false (va_A (s_ws ty φ sh me) H.size) (av.map (s_tr φ ad)).toArray) (va_A (s_ws ty φ sh me) H.size))
    (h : s_T p l e R s m args below meth c nL D ty ad A al n0 φ0 QR (pc + 3) K) : s_T p l e R s m args below meth c nL D ty ad A al n0 φ0 QR pc (o_call C n K) := by
  intro lsr H locs φ ls st sh me h1 h2 h3 h4
  obtain ⟨g1, g2, g3⟩ := h4
  have e0 : st = (s_pop n [] st).1.reverse ++ (s_pop n [] st).2 := s_pop_spec n [] st (by simpa using g1)
  generalize s_pop n [] st = q at g1 g2 g3 e0
  obtain ⟨av, rest⟩ := q
  dsimp only at g1 g2 g3 e0
  subst e0
  have hrun := row lsr H locs φ sh me av rest _ h1.1 h3 g3 g1 g2
  rw [List.map_append, List.map_reverse]
  refine t_back (sh0 := sh) G ⟨rfl, rfl⟩ h3 hrun (fun r sh' me' φ' H1 locs1 q k1 k2 k3 k4 k5 k6 k7 k8 => ?_)
  obtain rfl := k3 rfl
  subst hal
  have h5 := h lsr H1 locs1 φ' ls (r.toList ++ rest) sh' me' h1 h2 ⟨k6, k7, k8, k4, k5, h3.2.2.2.2.2.1, h3.2.2.2.2.2.2.1, Nat.le_trans h3.2.2.2.2.2.2.2.1 k1, h3.2.2.2.2.2.2.2.2.1, h3.2.2.2.2.2.2.2.2.2⟩ q
  rw [List.map_append] at h5
  have e1 : r.toList.map (s_tr φ' ad) = (r.map (s_tr φ' ad)).toList := by cases r <;> rfl
  rw [e1] at h5
  exact h5
/-- a call from a method that makes cells -/
theorem t_callA (G : s_G p s m args meth c cc nL own D ty ad A ret nm) {C : SC} {y : MethodName} {bytes : ByteArray} {maxL n MC MS mc ms : Nat} {ret' : Option FieldType} {rm : Room} {al' : Bool} (hM : s_Met l y bytes maxL ret' rm al' C) (hrm : rm.cells = mc ∧ rm.slots = ms) (hal : al = true) (hmc : R.cells = MC ∧ R.slots = MS)
    (row : ∀ (lsr : Array Slot) (H : Heap) (locs : List Loc) (φ : Nat → Nat) (sh sh0 : SShp) (me : SMem) (av rest : List Value) (Q : SQ), lsr.size = nL → s_J R s D ty A al n0 φ0 H locs φ sh me → sh0.1 = sh.1 ∧ sh0.2.2 = sh.2.2 → (s_kz al sh).1 + mc ≤ R.cells ∧ (s_kz al sh).2 + ms ≤ R.slots → (al' = true → sh0.2.1 = (0, 0)) → C av sh0 me Q → av.length = n → s_sm rest → va_Run p l e R s m args below meth c H locs (s_kz al sh).1 (s_kz al sh).2 mc ms (F0 m pc lsr ((av.map (s_tr φ ad)).reverse ++ rest.map (s_tr φ ad))) (rest.map (s_tr φ ad)) (s_Post D ty ad Q φ sh0.1 al' (va_A (s_ws ty φ sh0 me) H.size) (av.map (s_tr φ ad)).toArray) (va_A (s_ws ty φ sh0 me) H.size))
    (h : s_T p l e R s m args below meth c nL D ty ad A al n0 φ0 QR (pc + 3) K) : s_T p l e R s m args below meth c nL D ty ad A al n0 φ0 QR pc (o_callA C n MC MS mc ms K) := by
  intro lsr H locs φ ls st sh me h1 h2 h3 h4
  obtain ⟨d1, d2, d3, d4, g1, g2, g3⟩ := h4
  have e0 : st = (s_pop n [] st).1.reverse ++ (s_pop n [] st).2 := s_pop_spec n [] st (by simpa using g1)
  generalize s_pop n [] st = q at d4 g1 g2 g3 e0
  obtain ⟨av, rest⟩ := q
  dsimp only at d4 g1 g2 g3 e0
  subst e0
  subst hal
  have hrun := row lsr H locs φ sh (sh.1, (0, 0), sh.2.2) me av rest _ h1.1 h3 ⟨rfl, rfl⟩ ⟨by rw [hmc.1]; exact d1, by rw [hmc.2]; exact d2⟩ (fun _ => rfl) g3 g1 g2
  rw [List.map_append, List.map_reverse]
  refine t_back (sh0 := (sh.1, (0, 0), sh.2.2)) G ⟨rfl, rfl⟩ h3 hrun (fun r sh' me' φ' H1 locs1 q k1 k2 k3 k4 k5 k6 k7 k8 => ?_)
  have h5 := h lsr H1 locs1 φ' ls (r.toList ++ rest) (sh'.1, (sh.2.1.1 + mc, sh.2.1.2 + ms), sh'.2.2) me' (by rw [s_lv_ok k2 h3.2.2.2.1 ls 0 d3]; exact h1) h2 ⟨k6, k7, k8, k4, k5, by rw [hmc.1]; exact d1, by rw [hmc.2]; exact d2, Nat.le_trans h3.2.2.2.2.2.2.2.1 k1, fun i hi => by
    rw [k2 i (Nat.lt_of_lt_of_le hi h3.2.2.2.2.2.2.2.1)]; exact h3.2.2.2.2.2.2.2.2.1 i hi, fun z => by cases z⟩ q
  rw [List.map_append, s_st_ok k2 h3.2.2.2.1 rest d4] at h5
  have e1 : r.toList.map (s_tr φ' ad) = (r.map (s_tr φ' ad)).toList := by cases r <;> rfl
  rw [e1] at h5
  exact h5
theorem s_good1 {y : MethodName} {bytes : ByteArray} {maxL : Nat} {ret' : Option FieldType} (h : Cond.code y bytes maxL ret' ∈ lw_tbl) : GoodIn (lw_tbl.filter goodWord) [Cond.code y bytes maxL ret'] := by
  intro w hw
  rcases List.mem_cons.mp hw with rfl | hw
  · exact ⟨s_in h rfl, good_of_word rfl⟩
  · cases hw
/-- the callee is found: static -/
theorem s_runS (G : s_G p s m args meth c cc nL own D ty ad A ret nm) {C : SC} {y : MethodName} {bytes : ByteArray} {maxL n idx mc ms : Nat} {ret' : Option FieldType} {rm : Room} {al' : Bool} (hM : s_Met l y bytes maxL ret' rm al' C) (hrm : rm.cells = mc ∧ rm.slots = ms) (hR : rm.frames + 1 ≤ R.frames ∧ 8 + (maxL + 11) + rm.locals ≤ R.locals) (qc : Cond.code y bytes maxL ret' ∈ lw_tbl) (qi : Cond.initialized y.cls ∈ lw_tbl) (ql : Cond.methodLink own idx y ∈ lw_tbl ∨ ∃ host, Cond.methodLinkNest own idx y host ∈ lw_tbl) (qs : Cond.static y ∈ lw_tbl) (hd : y.cls ≠ "java/lang/invoke/MethodHandle" ∧ y.cls ≠ "java/lang/invoke/VarHandle" ∧ (parseMethodDescriptor y.desc).map (fun d => d.parameters.length) = some n) (hdg : decode cc pc = .ok (.invokestatic idx, 3))
    (lsr : Array Slot) (H : Heap) (locs : List Loc) (φ : Nat → Nat) (sh sh0 : SShp) (me : SMem) (av rest : List Value) (Q : SQ) (hsz : lsr.size = nL) (hJ : s_J R s D ty A al n0 φ0 H locs φ sh me) (he : sh0.1 = sh.1 ∧ sh0.2.2 = sh.2.2) (hf : (s_kz al sh).1 + mc ≤ R.cells ∧ (s_kz al sh).2 + ms ≤ R.slots) (h0 : al' = true → sh0.2.1 = (0, 0)) (hC : C av sh0 me Q) (hn : av.length = n) (hsm : s_sm rest) : va_Run p l e R s m args below meth c H locs (s_kz al sh).1 (s_kz al sh).2 mc ms (F0 m pc lsr ((av.map (s_tr φ ad)).reverse ++ rest.map (s_tr φ ad))) (rest.map (s_tr φ ad)) (s_Post D ty ad Q φ sh0.1 al' (va_A (s_ws ty φ sh0 me) H.size) (av.map (s_tr φ ad)).toArray) (va_A (s_ws ty φ sh0 me) H.size) := by
  obtain ⟨rfl, rfl⟩ := hrm
  have hts := G.2.2.2.2.1.use (args := args)
  have hMet := hM D ty ad av φ H.size sh0 me Q h0 hC
  rcases ql with ql | ⟨host, ql⟩
  · exact va_runS ⟨G.1, G.2.1, G.2.2.1, G.2.2.2.1, hts⟩ hMet ⟨callB_of n hts (s_good1 qc) rfl rfl rfl (hts _ (s_in qi rfl)) (hts _ (s_in ql rfl)) hd hR, hts _ (s_in qs rfl)⟩ ⟨s_blind, s_pre_of G hJ av sh0 he⟩ rfl (by rw [List.length_map]; exact hn) hsz rfl (lv_room (s_sm_sum hsm φ ad)) hdg hf
  · exact va_runSN ⟨G.1, G.2.1, G.2.2.1, G.2.2.2.1, hts⟩ hMet ⟨va_cnB n hts (s_good1 qc) rfl rfl rfl (G.2.2.2.2.2.2.2.1 _ ql rfl) (hts _ (s_in qi rfl)) hd hR, hts _ (s_in qs rfl), trivial⟩ ⟨s_blind, s_pre_of G hJ av sh0 he⟩ rfl (by rw [List.length_map]; exact hn) hsz rfl (lv_room (s_sm_sum hsm φ ad)) hdg hf
/-- the callee is found: a constructor -/
theorem s_runI (G : s_G p s m args meth c cc nL own D ty ad A ret nm) {C : SC} {y : MethodName} {bytes : ByteArray} {maxL n idx mc ms : Nat} {rm : Room} {al' : Bool} (hM : s_Met l y bytes maxL none rm al' C) (hrm : rm.cells = mc ∧ rm.slots = ms) (hR : rm.frames + 1 ≤ R.frames ∧ 8 + (maxL + 11) + rm.locals ≤ R.locals) (qc : Cond.code y bytes maxL none ∈ lw_tbl) (qi : Cond.initialized y.cls ∈ lw_tbl) (ql : Cond.methodLink own idx y ∈ lw_tbl ∨ ∃ host, Cond.methodLinkNest own idx y host ∈ lw_tbl) (qs : Cond.instanceMethod y ∈ lw_tbl) (hy : y.name = "<init>") (hd : y.cls ≠ "java/lang/invoke/MethodHandle" ∧ y.cls ≠ "java/lang/invoke/VarHandle" ∧ (parseMethodDescriptor y.desc).map (fun d => d.parameters.length) = some n) (hdg : decode cc pc = .ok (.invokespecial idx, 3))
    (hrf : ∀ (av : List Value) (sh : SShp) (me : SMem) (Q : SQ), C av sh me Q → ∃ b r, av = .ref b :: r)
    (lsr : Array Slot) (H : Heap) (locs : List Loc) (φ : Nat → Nat) (sh sh0 : SShp) (me : SMem) (av rest : List Value) (Q : SQ) (hsz : lsr.size = nL) (hJ : s_J R s D ty A al n0 φ0 H locs φ sh me) (he : sh0.1 = sh.1 ∧ sh0.2.2 = sh.2.2) (hf : (s_kz al sh).1 + mc ≤ R.cells ∧ (s_kz al sh).2 + ms ≤ R.slots) (h0 : al' = true → sh0.2.1 = (0, 0)) (hC : C av sh0 me Q) (hn : av.length = n + 1) (hsm : s_sm rest) : va_Run p l e R s m args below meth c H locs (s_kz al sh).1 (s_kz al sh).2 mc ms (F0 m pc lsr ((av.map (s_tr φ ad)).reverse ++ rest.map (s_tr φ ad))) (rest.map (s_tr φ ad)) (s_Post D ty ad Q φ sh0.1 al' (va_A (s_ws ty φ sh0 me) H.size) (av.map (s_tr φ ad)).toArray) (va_A (s_ws ty φ sh0 me) H.size) := by
  obtain ⟨rfl, rfl⟩ := hrm
  have hts := G.2.2.2.2.1.use (args := args)
  have hMet := hM D ty ad av φ H.size sh0 me Q h0 hC
  obtain ⟨b, av', rfl⟩ := hrf av sh0 me Q hC
  have hp := s_pre_of G hJ (.ref b :: av') sh0 he
  have estk : (((Value.ref b :: av').map (s_tr φ ad)).reverse ++ rest.map (s_tr φ ad)) = (av'.map (s_tr φ ad)).reverse ++ .ref (if b < 1000000 then φ b else ad (b - 1000000)) :: rest.map (s_tr φ ad) := by
    rw [List.map_cons, List.reverse_cons, List.append_assoc]; rfl
  rw [estk]
  have hn' : (av'.map (s_tr φ ad)).length = n := by rw [List.length_map]; simpa using hn
  rcases ql with ql | ⟨host, ql⟩
  · exact va_runI ⟨G.1, G.2.1, G.2.2.1, G.2.2.2.1, hts⟩ hMet ⟨callB_of n hts (s_good1 qc) rfl rfl rfl (hts _ (s_in qi rfl)) (hts _ (s_in ql rfl)) hd hR, hy, hts _ (s_in qs rfl)⟩ ⟨s_blind, hp⟩ rfl hn' hsz rfl (lv_room (s_sm_sum hsm φ ad)) hdg hf
  · exact va_runIN ⟨G.1, G.2.1, G.2.2.1, G.2.2.2.1, hts⟩ hMet ⟨va_cnB n hts (s_good1 qc) rfl rfl rfl (G.2.2.2.2.2.2.2.1 _ ql rfl) (hts _ (s_in qi rfl)) hd hR, hy, hts _ (s_in qs rfl)⟩ ⟨s_blind, hp⟩ rfl hn' hsz rfl (lv_room (s_sm_sum hsm φ ad)) hdg hf
/-- the callee is found: of an object of class ci -/
theorem s_runV (G : s_G p s m args meth c cc nL own D ty ad A ret nm) {C : SC} {y : MethodName} {bytes : ByteArray} {maxL n idx mc ms ci N : Nat} {ret' : Option FieldType} {rm : Room} {al' : Bool} {T : u_T} (cl : s_CL ci y.cls T N) (hM : s_Met l y bytes maxL ret' rm al' C) (hrm : rm.cells = mc ∧ rm.slots = ms) (hR : rm.frames + 1 ≤ R.frames ∧ 8 + (maxL + 11) + rm.locals ≤ R.locals) (qc : Cond.code y bytes maxL ret' ∈ lw_tbl) (qi : Cond.initialized y.cls ∈ lw_tbl) (ql : Cond.methodLink own idx y ∈ lw_tbl ∨ ∃ host, Cond.methodLinkNest own idx y host ∈ lw_tbl) (qn : Cond.instanceMethod y ∈ lw_tbl) (qs : Cond.selects y.cls y y ∈ lw_tbl) (hd : y.cls ≠ "java/lang/invoke/MethodHandle" ∧ y.cls ≠ "java/lang/invoke/VarHandle" ∧ (parseMethodDescriptor y.desc).map (fun d => d.parameters.length) = some n) (hdg : decode cc pc = .ok (.invokevirtual idx, 3))
    (lsr : Array Slot) (H : Heap) (locs : List Loc) (φ : Nat → Nat) (sh sh0 : SShp) (me : SMem) (av rest : List Value) (Q : SQ) (hsz : lsr.size = nL) (hJ : s_J R s D ty A al n0 φ0 H locs φ sh me) (he : sh0.1 = sh.1 ∧ sh0.2.2 = sh.2.2) (hf : (s_kz al sh).1 + mc ≤ R.cells ∧ (s_kz al sh).2 + ms ≤ R.slots) (h0 : al' = true → sh0.2.1 = (0, 0)) (hrc : s_rc ci sh av) (hC : C av sh0 me Q) (hn : av.length = n + 1) (hsm : s_sm rest) : va_Run p l e R s m args below meth c H locs (s_kz al sh).1 (s_kz al sh).2 mc ms (F0 m pc lsr ((av.map (s_tr φ ad)).reverse ++ rest.map (s_tr φ ad))) (rest.map (s_tr φ ad)) (s_Post D ty ad Q φ sh0.1 al' (va_A (s_ws ty φ sh0 me) H.size) (av.map (s_tr φ ad)).toArray) (va_A (s_ws ty φ sh0 me) H.size) := by
  obtain ⟨rfl, rfl⟩ := hrm
  have hts := G.2.2.2.2.1.use (args := args)
  have hMet := hM D ty ad av φ H.size sh0 me Q h0 hC
  match av, hrc with
  | .ref b :: av', hrc =>
    have hp := s_pre_of G hJ (.ref b :: av') sh0 he
    have estk : (((Value.ref b :: av').map (s_tr φ ad)).reverse ++ rest.map (s_tr φ ad)) = (av'.map (s_tr φ ad)).reverse ++ .ref (φ b) :: rest.map (s_tr φ ad) := by
      rw [List.map_cons, List.reverse_cons, List.append_assoc, s_tr_ref hrc.1 hJ.2.2.2.1]; rfl
    rw [estk]
    rw [List.map_cons, s_tr_ref hrc.1 hJ.2.2.2.1] at hp ⊢
    have hn' : (av'.map (s_tr φ ad)).length = n := by rw [List.length_map]; simpa using hn
    have hcell := s_ws_get (ty := ty) (φ := φ) (me := me) hrc.1
    rw [s_cell_O hrc.2 cl.2.2.2.2.1] at hcell
    have hrecv := va_recv G.2.2.2.2.2.1 hJ.1 cl.1 hcell
    rcases ql with ql | ⟨host, ql⟩
    · exact va_runV (C := y.cls) ⟨G.1, G.2.1, G.2.2.1, G.2.2.2.1, hts⟩ hMet ⟨callB_of n hts (s_good1 qc) rfl rfl rfl (hts _ (s_in qi rfl)) (hts _ (s_in ql rfl)) hd hR, hts _ (s_in qn rfl), hts _ (s_in qs rfl)⟩ ⟨s_blind, hrecv, hp⟩ rfl hn' hsz rfl (lv_room (s_sm_sum hsm φ ad)) hdg hf
    · exact va_runVN (C := y.cls) ⟨G.1, G.2.1, G.2.2.1, G.2.2.2.1, hts⟩ hMet ⟨va_cnB n hts (s_good1 qc) rfl rfl rfl (G.2.2.2.2.2.2.2.1 _ ql rfl) (hts _ (s_in qi rfl)) hd hR, hts _ (s_in qn rfl), hts _ (s_in qs rfl)⟩ ⟨s_blind, hrecv, hp⟩ rfl hn' hsz rfl (lv_room (s_sm_sum hsm φ ad)) hdg hf
end SNC
