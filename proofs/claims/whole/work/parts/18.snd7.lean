/-! WHAT THE SMALL MACHINE SAYS OF THE MACHINE: switches by tests, rows of references -/
def s_tabok (pc : Nat) (lo hi : Int) (offs : List Int) (ts : List (Int32 × Nat)) : Bool :=
  decide (ts.length = offs.length) && decide (hi = lo + (offs.length : Int) - 1) && (List.range offs.length).all fun j => match ts[j]?, offs[j]? with
    | some q, some off => decide (q.1.toInt = lo + (j : Int)) && decide ((pc : Int) + off = (q.2 : Int))
    | _, _ => false
theorem s_tabok_spec {pc : Nat} {lo hi : Int} {offs : Array Int} {ts : List (Int32 × Nat)} (h : s_tabok pc lo hi offs.toList ts = true) : ts.length = offs.size ∧ hi = lo + (offs.size : Int) - 1 ∧ ∀ j, j < offs.size → ∃ q, ts[j]? = some q ∧ q.1.toInt = lo + (j : Int) ∧ ∃ off, offs[j]? = some off ∧ (pc : Int) + off = (q.2 : Int) := by
  unfold s_tabok at h
  simp only [Bool.and_eq_true, decide_eq_true_eq, List.all_eq_true, List.mem_range] at h
  obtain ⟨⟨h1, h2⟩, h3⟩ := h
  rw [Array.length_toList] at h1 h2 h3
  refine ⟨h1, h2, fun j hj => ?_⟩
  have h4 := h3 j hj
  split at h4
  · rename_i q off e1 e2
    simp only [Bool.and_eq_true, decide_eq_true_eq] at h4
    rw [Array.getElem?_toList] at e2
    exact ⟨q, e1, h4.1, off, e2, h4.2⟩
  · cases h4
def s_lookok (pc : Nat) (ps : List (Int × Int)) (ts : List (Int32 × Nat)) : Bool :=
  (ps.zip (ps.drop 1)).all (fun (a, next) => a.1 < next.1) && decide (ps.Nodup) && ps.all (fun u => ps.all fun v => !(decide (u.1 = v.1)) || decide (u.2 = v.2)) && ts.all (fun q => ps.any fun u => decide (u.1 = q.1.toInt) && decide ((pc : Int) + u.2 = (q.2 : Int))) && ps.all (fun u => ts.any fun q => decide (q.1.toInt = u.1))
def s_all2 (Rl : Int32 × Nat → Int32 × SK → Prop) : List (Int32 × Nat) → List (Int32 × SK) → Prop
  | [], [] => True
  | q :: ts, u :: cs => Rl q u ∧ s_all2 Rl ts cs
  | _, _ => False
theorem s_all2_get {Rl : Int32 × Nat → Int32 × SK → Prop} : ∀ {ts : List (Int32 × Nat)} {cs : List (Int32 × SK)}, s_all2 Rl ts cs → ∀ (j : Nat) (q : Int32 × Nat) (u : Int32 × SK), ts[j]? = some q → cs[j]? = some u → Rl q u
  | [], [], _, j, _, _, h1, _ => by simp at h1
  | q :: ts, u :: cs, h, 0, _, _, h1, h2 => by cases h1; cases h2; exact h.1
  | q :: ts, u :: cs, h, j + 1, q2, u2, h1, h2 => s_all2_get h.2 j q2 u2 (by simpa using h1) (by simpa using h2)
section SNV
variable {p : Program} {l : Launch} {e : Env} {R : Room} {s : State} {m : MethodId} {args : Array Value} {below : List Frame} {meth : Method} {c : Code} {cc : ByteArray} {nL : Nat} {own : String} {D : va_G} {ty : s_TY} {ad : Nat → Nat} {A : Nat → Prop} {al : Bool} {n0 : Nat} {φ0 : Nat → Nat} {QR : State → Prop} {pc : Nat} {K Kt Kf : SK} {ret : Option FieldType} {nm : String}
theorem u_tsw (G : s_G p s m args meth c cc nL own D ty ad A ret nm) {dflt lo hi : Int} {offs : Array Int} {len dt : Nat} {cs : List (Int32 × SK)} (ts : List (Int32 × Nat)) (hdg : decode cc pc = .ok (.tableswitch dflt lo hi offs, len)) (hok : s_tabok pc lo hi offs.toList ts = true) (hdt : (pc : Int) + dflt = (dt : Int)) (hks : cs.map (·.1) = ts.map (·.1)) (hin : s_all2 (fun q u => s_T p l e R s m args below meth c nL D ty ad A al n0 φ0 QR q.2 u.2) ts cs) (hd : s_T p l e R s m args below meth c nL D ty ad A al n0 φ0 QR dt Kt) : s_T p l e R s m args below meth c nL D ty ad A al n0 φ0 QR pc (o_sw cs Kt) := u_tableswitch G hdg (s_tabok_spec hok) hdt hks (s_all2_get hin) hd
theorem u_lsw (G : s_G p s m args meth c cc nL own D ty ad A ret nm) {dflt : Int} {ps : Array (Int × Int)} {len dt : Nat} {cs : List (Int32 × SK)} (ts : List (Int32 × Nat)) (hdg : decode cc pc = .ok (.lookupswitch dflt ps, len)) (hok : s_lookok pc ps.toList ts = true) (hdt : (pc : Int) + dflt = (dt : Int)) (hks : cs.map (·.1) = ts.map (·.1)) (hin : s_all2 (fun q u => s_T p l e R s m args below meth c nL D ty ad A al n0 φ0 QR q.2 u.2) ts cs) (hd : s_T p l e R s m args below meth c nL D ty ad A al n0 φ0 QR dt Kt) : s_T p l e R s m args below meth c nL D ty ad A al n0 φ0 QR pc (o_sw cs Kt) := by
  unfold s_lookok at hok
  simp only [Bool.and_eq_true, decide_eq_true_eq] at hok
  obtain ⟨⟨⟨⟨h1, h2⟩, h3⟩, h4⟩, h5⟩ := hok
  refine u_lookupswitch G hdg h1 h2 (fun u hu v hv z => ?_) (fun q hq => ?_) (fun u hu => ?_) hdt hks (s_all2_get hin) hd
  · have := List.all_eq_true.mp (List.all_eq_true.mp h3 u hu) v hv
    simpa [z] using this
  · have := List.all_eq_true.mp h4 q hq
    obtain ⟨u, hu, h6⟩ := List.any_eq_true.mp this
    simp only [Bool.and_eq_true, decide_eq_true_eq] at h6
    exact ⟨u, hu, h6⟩
  · have := List.all_eq_true.mp h5 u hu
    obtain ⟨q, hq, h6⟩ := List.any_eq_true.mp this
    exact ⟨q, hq, by simpa using h6⟩
theorem t_alenS (G : s_G p s m args meth c cc nL own D ty ad A ret nm) (hdg : decode cc pc = .ok (.arraylength, 1)) (h : s_T p l e R s m args below meth c nL D ty ad A al n0 φ0 QR (pc + 1) K) : s_T p l e R s m args below meth c nL D ty ad A al n0 φ0 QR pc (o_alen 13 K) := by
  intro lsr H locs φ ls st sh me h1 h2 h3 h4
  unfold o_alen at h4
  split at h4
  · rename_i a r
    have hcell := s_ws_get (ty := ty) (φ := φ) (me := me) h4.1
    rw [List.map_cons, s_tr_ref h4.1 h3.2.2.2.1]
    rw [s_cell_S h4.2.1] at hcell
    exact va_alen G.1 G.2.1 G.2.2.2.2.2.1 h3.1 a 3 hcell rfl rfl hdg (h lsr H locs φ ls _ sh me h1 h2 h3 h4.2.2)
  · exact h4.elim
theorem t_newq (G : s_G p s m args meth c cc nL own D ty ad A ret nm) {mc ms ci idx N : Nat} {C : String} (hci : ci = 12 ∧ C = "TaxOnLooks$Person" ∨ ci = 13 ∧ C = "TaxOnLooks$Shelf") (hN : N < 2 ^ 20) (hal : al = true) (hmc : R.cells = mc ∧ R.slots = ms) (q1 : Cond.classLink own idx C ∈ lw_tbl) (q2 : Cond.arrayOver (.object C) ∈ lw_tbl) (hdg : decode cc pc = .ok (.anewarray idx, 3)) (h : s_T p l e R s m args below meth c nL D ty ad A al n0 φ0 QR (pc + 3) K) : s_T p l e R s m args below meth c nL D ty ad A al n0 φ0 QR pc (o_newa mc ms ci N K) := by
  intro lsr H locs φ ls st sh me h1 h2 h3 h4
  unfold o_newa at h4
  split at h4
  · rename_i x r
    obtain ⟨rfl, g1, g2, g3, g4, g5, g6⟩ := h4
    subst hal
    have hx : ∀ q i : Nat, i < sh.1 → (fun i => if i = sh.1 then q else φ i) i = φ i := fun q i hi => if_neg (by omega)
    have fin : ∀ (q : Nat) (H1 : Heap), va_P D vwCl (s_ws ty φ sh me ++ [(q, s_cell ty (fun i => if i = sh.1 then q else φ i) (s_new sh ci N N) (s_zero sh.1 me) sh.1)]) H1 → va_D A (s_ws ty φ sh me ++ [(q, s_cell ty (fun i => if i = sh.1 then q else φ i) (s_new sh ci N N) (s_zero sh.1 me) sh.1)]) → va_S A s.heap H1 locs → W p l e R s m args below meth c H1 locs (sh.2.1.1 + 1) (sh.2.1.2 + N) QR (F0 m (pc + 3) lsr (.ref q :: r.map (s_tr φ ad))) := by
      intro q H1 b1 b2 b3
      rw [← s_ws_new h3.2.2.2.2.1] at b1 b2
      have h5 := h lsr H1 locs (fun i => if i = sh.1 then q else φ i) ls (.ref sh.1 :: r) (s_new sh ci N N) (s_zero sh.1 me) (by rw [s_lv_ok (hx q) h3.2.2.2.1 ls 0 g4]; exact h1) h2 ⟨b1, b2, b3, g1, s_new_in h3.2.2.2.2.1, by rw [hmc.1]; exact g2, by rw [hmc.2]; exact g3, Nat.le_trans h3.2.2.2.2.2.2.2.1 (Nat.le_succ _), fun i hi => by
        rw [hx q i (Nat.lt_of_lt_of_le hi h3.2.2.2.2.2.2.2.1)]; exact h3.2.2.2.2.2.2.2.2.1 i hi, fun z => by cases z⟩ g6
      rw [List.map_cons, s_st_ok (hx q) h3.2.2.2.1 r g5, s_tr_ref (n := sh.1 + 1) (Nat.lt_succ_self _) g1] at h5
      simp only [if_true] at h5
      exact h5
    have hu : ∀ (cA : ClassId) (t0 : Nat) (C : String) (cB : ClassId), (s_tys ty)[t0]? = some (cB, .object C) → va_K D vwCl (s_tys ty ++ [(cA, .object C)]) s → cA = cB := by
      intro cA t0 C cB z1 z3
      obtain ⟨_, _, _, _, _, y1⟩ := (z3.2 4 (cA, .object C) rfl).2
      obtain ⟨_, _, _, _, _, y2⟩ := (G.2.2.2.2.2.1.2 t0 _ z1).2
      exact Option.some.inj (y1.symm.trans y2)
    have e1 : ∀ q : Nat, (fun k => ((s_zero sh.1 me).2.2 sh.1 k).map (fun i => if i = sh.1 then q else φ i)) = fun _ => none := by intro q; funext j; simp [s_zero]
    have hts := G.2.2.2.2.1.use (args := args)
    refine va_newq (C := C) G.1 G.2.1 G.2.2.2.1 (hts _ (s_in q1 rfl)) (G.2.2.2.2.2.2.2.1 _ q2 rfl) G.2.2.2.2.2.1 h3.1 h3.2.1 h3.2.2.1 G.2.2.2.2.2.2.1 (nI_pos (by omega)) (nI_clamp (by omega)) (by omega) (by rw [hmc.1]; exact g2) (by rw [hmc.2]; exact g3) hdg (fun q cA H1 b0 b1 b2 b3 => ?_)
    rcases hci with ⟨rfl, rfl⟩ | ⟨rfl, rfl⟩
    · have e0 := hu cA 2 _ ty.2.2.1 rfl b0
      refine fin q H1 ?_ ?_ b3
      · rw [s_cell_P (by simp [s_new]), e1 q, show (s_new sh 12 N N).2.2.2 sh.1 = N by simp [s_new], ← e0]
        exact b1
      · rw [s_cell_P (by simp [s_new]), e1 q, show (s_new sh 12 N N).2.2.2 sh.1 = N by simp [s_new], ← e0]
        exact b2
    · have e0 := hu cA 3 _ ty.2.2.2 rfl b0
      refine fin q H1 ?_ ?_ b3
      · rw [s_cell_S (by simp [s_new]), e1 q, show (s_new sh 13 N N).2.2.2 sh.1 = N by simp [s_new], ← e0]
        exact b1
      · rw [s_cell_S (by simp [s_new]), e1 q, show (s_new sh 13 N N).2.2.2 sh.1 = N by simp [s_new], ← e0]
        exact b2
  · exact h4.elim
end SNV
