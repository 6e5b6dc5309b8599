/-! WHAT THE SMALL MACHINE SAYS OF THE MACHINE: the class's texts (1000002 and on; their bytes 1000020 and on), and the JDK's members over them -/
def o_bad : SK := fun _ _ _ _ => False
def o_ldcS (j : Nat) (K : SK) : SK := fun ls st => K ls (.ref (1000002 + j) :: st)
def o_getsC (K : SK) : SK := fun ls st => K ls (.int 1 :: st)
def o_getsF (K : SK) : SK := fun ls st sh me => K ls (.null :: st) sh me ∧ K ls (.ref 1000030 :: st) sh me
def o_getSV (K : SK) : SK := fun ls st sh me => match st with
  | .ref a :: r => 1000002 ≤ a ∧ a < 1000010 ∧ K ls (.ref (a + 18) :: r) sh me
  | _ => False
def o_getSC (K : SK) : SK := fun ls st sh me => match st with
  | .ref a :: r => 1000002 ≤ a ∧ a < 1000010 ∧ K ls (.int 0 :: r) sh me
  | _ => False
def o_lenSB (K : SK) : SK := fun ls st sh me => match st with
  | .ref a :: r => 1000020 ≤ a ∧ a < 1000028 ∧ K ls (.int (nI (s_slen.getD (a - 1000020) 0)) :: r) sh me
  | _ => False
def o_baS (K : SK) : SK := fun ls st sh me => match st with
  | .int i :: .ref a :: r => 1000020 ≤ a ∧ a < 1000028 ∧ vp_in i (s_slen.getD (a - 1000020) 0) ∧ K ls (.int ((s_byt.getD (a - 1000020) []).getD i.toNatClampNeg 0) :: r) sh me
  | _ => False
def s_rcS : List Value → Prop
  | .ref a :: _ => 1000002 ≤ a ∧ a < 1000010
  | _ => False
def o_callVS (C : SC) (n : Nat) (K : SK) : SK := fun ls st sh me => s_rcS (s_pop n [] st).1 ∧ o_call C n K ls st sh me
def o_nret (ty : FieldType) (Q : SQ) : SK := fun _ st sh me => match st with
  | [.int x] => narrow ty (.int x) = .int x ∧ Q (some (.int x)) sh me
  | _ => False
section SNS
variable {p : Program} {l : Launch} {e : Env} {R : Room} {s : State} {m : MethodId} {args : Array Value} {below : List Frame} {meth : Method} {c : Code} {cc : ByteArray} {nL : Nat} {own : String} {D : va_G} {ty : s_TY} {ad : Nat → Nat} {A : Nat → Prop} {al : Bool} {n0 : Nat} {φ0 : Nat → Nat} {QR : State → Prop} {pc : Nat} {K Kt Kf : SK} {ret : Option FieldType} {nm : String}
theorem s_tr_hi {φ : Nat → Nat} {a j : Nat} (h : a = 1000000 + j) : s_tr φ ad (.ref a) = .ref (ad j) := by
  subst h
  show Value.ref (if 1000000 + j < 1000000 then _ else ad (1000000 + j - 1000000)) = _
  rw [if_neg (by omega), show 1000000 + j - 1000000 = j by omega]
theorem s_hiA {a b n : Nat} (h1 : b ≤ a) (h2 : a < b + n) : ∃ i : Nat, i < n ∧ a = b + i := ⟨a - b, by omega, by omega⟩
theorem s_hiB (k i : Nat) : 1000000 + k + i = 1000000 + (k + i) := by omega
theorem s_hiC (i : Nat) : 1000002 + i + 18 = 1000000 + (20 + i) := by omega
theorem t_bad : s_T p l e R s m args below meth c nL D ty ad A al n0 φ0 QR pc o_bad := fun _ _ _ _ _ _ _ _ _ _ _ h => h.elim
theorem u_ldcS (G : s_G p s m args meth c cc nL own D ty ad A ret nm) {j : Nat} (hj : j < 8) (hown : own = "TaxOnLooks$Reader") (hdg : decode cc pc = .ok (.ldc (78 + 2 * j), 2)) (h : s_T p l e R s m args below meth c nL D ty ad A al n0 φ0 QR (pc + 2) K) : s_T p l e R s m args below meth c nL D ty ad A al n0 φ0 QR pc (o_ldcS j K) := by
  intro lsr H locs φ ls st sh me h1 h2 h3 h4
  have h5 := h lsr H locs φ ls (.ref (1000002 + j) :: st) sh me h1 h2 h3 h4
  rw [List.map_cons, s_tr_hi (j := 2 + j) (by omega)] at h5
  have hv := G.2.2.2.2.2.2.2.2.1.2.2.1.2 j hj
  subst hown
  intro T hT X
  obtain ⟨t, a1, b1⟩ := h5 T hT X
  refine ⟨t, X.ldcString G.1 (own := "TaxOnLooks$Reader") (text := s_txt j) G.2.2.2.1 ?_ ?_ (g := F0 m pc lsr (st.map (s_tr φ ad))) rfl (by rw [G.2.1]; exact hdg) t a1, b1⟩
  · have := hv.1
    first | exact this | (simp only [Cond.before, Cond.holds, Cond.value] at this ⊢; exact this)
  · have := hv.2
    rw [Term.string_eval_of_vm (args := #[]) rfl]
    exact this
theorem t_getsC (G : s_G p s m args meth c cc nL own D ty ad A ret nm) {idx : Nat} (ql : Cond.fieldLink own idx "java/lang/String" "COMPACT_STRINGS" "Z" ∈ lw_tbl) (hdg : decode cc pc = .ok (.getstatic idx, 3)) (h : s_T p l e R s m args below meth c nL D ty ad A al n0 φ0 QR (pc + 3) K) : s_T p l e R s m args below meth c nL D ty ad A al n0 φ0 QR pc (o_getsC K) := by
  intro lsr H locs φ ls st sh me h1 h2 h3 h4
  exact va_gets G.1 G.2.1 G.2.2.2.2.2.2.2.2.1.2.2.2.1 h3.2.2.1 G.2.2.2.1 (G.2.2.2.2.1.use _ (s_in ql rfl)) (fun _ z => z) hdg (h lsr H locs φ ls (.int 1 :: st) sh me h1 h2 h3 h4)
theorem t_getsF (G : s_G p s m args meth c cc nL own D ty ad A ret nm) {idx : Nat} (ql : Cond.fieldLink own idx "jdk/internal/util/Preconditions" "SIOOBE_FORMATTER" "Ljava/util/function/BiFunction;" ∈ lw_tbl) (hdg : decode cc pc = .ok (.getstatic idx, 3)) (h : s_T p l e R s m args below meth c nL D ty ad A al n0 φ0 QR (pc + 3) K) : s_T p l e R s m args below meth c nL D ty ad A al n0 φ0 QR pc (o_getsF K) := by
  intro lsr H locs φ ls st sh me h1 h2 h3 h4
  rcases G.2.2.2.2.2.2.2.2.1.2.2.2.2 with hz | hz
  · exact va_gets G.1 G.2.1 hz h3.2.2.1 G.2.2.2.1 (G.2.2.2.2.1.use _ (s_in ql rfl)) (fun _ z => z) hdg (h lsr H locs φ ls (.null :: st) sh me h1 h2 h3 h4.1)
  · have h5 := h lsr H locs φ ls (.ref 1000030 :: st) sh me h1 h2 h3 h4.2
    rw [List.map_cons, s_tr_hi (j := 30) rfl] at h5
    exact va_gets G.1 G.2.1 hz h3.2.2.1 G.2.2.2.1 (G.2.2.2.2.1.use _ (s_in ql rfl)) (fun _ z => z) hdg h5
theorem t_getSV (G : s_G p s m args meth c cc nL own D ty ad A ret nm) {idx : Nat} (ql : Cond.fieldLink own idx "java/lang/String" "value" "[B" ∈ lw_tbl) (hdg : decode cc pc = .ok (.getfield idx, 3)) (h : s_T p l e R s m args below meth c nL D ty ad A al n0 φ0 QR (pc + 3) K) : s_T p l e R s m args below meth c nL D ty ad A al n0 φ0 QR pc (o_getSV K) := by
  intro lsr H locs φ ls st sh me h1 h2 h3 h4
  unfold o_getSV at h4
  split at h4
  · rename_i a r
    obtain ⟨g1, g2, g3⟩ := h4
    obtain ⟨i, hi, rfl⟩ := s_hiA (b := 1000002) (n := 8) g1 g2
    have h5 := h lsr H locs φ ls (.ref (1000002 + i + 18) :: r) sh me h1 h2 h3 g3
    rw [List.map_cons, s_tr_hi (j := 20 + i) (s_hiC i)] at h5
    rw [List.map_cons, s_tr_hi (j := 2 + i) (s_hiB 2 i)]
    exact vk_getf G.1 G.2.1 (G.2.2.2.2.2.2.2.2.1.2.2.1.1.1 i hi).2.2.1 h3.2.2.1 G.2.2.2.1 (G.2.2.2.2.1.use _ (s_in ql rfl)) (fun _ z => z) hdg h5
  · exact h4.elim
theorem t_getSC (G : s_G p s m args meth c cc nL own D ty ad A ret nm) {idx : Nat} (ql : Cond.fieldLink own idx "java/lang/String" "coder" "B" ∈ lw_tbl) (hdg : decode cc pc = .ok (.getfield idx, 3)) (h : s_T p l e R s m args below meth c nL D ty ad A al n0 φ0 QR (pc + 3) K) : s_T p l e R s m args below meth c nL D ty ad A al n0 φ0 QR pc (o_getSC K) := by
  intro lsr H locs φ ls st sh me h1 h2 h3 h4
  unfold o_getSC at h4
  split at h4
  · rename_i a r
    obtain ⟨g1, g2, g3⟩ := h4
    obtain ⟨i, hi, rfl⟩ := s_hiA (b := 1000002) (n := 8) g1 g2
    have h5 := h lsr H locs φ ls (.int 0 :: r) sh me h1 h2 h3 g3
    rw [List.map_cons, s_tr_hi (j := 2 + i) (s_hiB 2 i)]
    exact vk_getf G.1 G.2.1 (G.2.2.2.2.2.2.2.2.1.2.2.1.1.1 i hi).2.1 h3.2.2.1 G.2.2.2.1 (G.2.2.2.2.1.use _ (s_in ql rfl)) (fun _ z => z) hdg h5
  · exact h4.elim
theorem t_lenSB (G : s_G p s m args meth c cc nL own D ty ad A ret nm) (hdg : decode cc pc = .ok (.arraylength, 1)) (h : s_T p l e R s m args below meth c nL D ty ad A al n0 φ0 QR (pc + 1) K) : s_T p l e R s m args below meth c nL D ty ad A al n0 φ0 QR pc (o_lenSB K) := by
  intro lsr H locs φ ls st sh me h1 h2 h3 h4
  unfold o_lenSB at h4
  split at h4
  · rename_i a r
    obtain ⟨g1, g2, g3⟩ := h4
    obtain ⟨i, hi, rfl⟩ := s_hiA (b := 1000020) (n := 8) g1 g2
    rw [show 1000020 + i - 1000020 = i from Nat.add_sub_cancel_left 1000020 i] at g3
    have h5 := h lsr H locs φ ls _ sh me h1 h2 h3 g3
    rw [List.map_cons, s_tr_hi (j := 20 + i) (s_hiB 20 i)]
    exact va_tlen G.1 G.2.1 (G.2.2.2.2.2.2.2.2.1.2.2.1.1.1 i hi).2.2.2 h3.2.2.1 rfl hdg h5
  · exact h4.elim
theorem t_baS (G : s_G p s m args meth c cc nL own D ty ad A ret nm) (hdg : decode cc pc = .ok (.baload, 1)) (h : s_T p l e R s m args below meth c nL D ty ad A al n0 φ0 QR (pc + 1) K) : s_T p l e R s m args below meth c nL D ty ad A al n0 φ0 QR pc (o_baS K) := by
  intro lsr H locs φ ls st sh me h1 h2 h3 h4
  unfold o_baS at h4
  split at h4
  · rename_i z a r
    obtain ⟨g1, g2, g4, g3⟩ := h4
    obtain ⟨i, hi, rfl⟩ := s_hiA (b := 1000020) (n := 8) g1 g2
    rw [show 1000020 + i - 1000020 = i from Nat.add_sub_cancel_left 1000020 i] at g3 g4
    have h5 := h lsr H locs φ ls _ sh me h1 h2 h3 g3
    rw [List.map_cons, List.map_cons, s_tr_hi (j := 20 + i) (s_hiB 20 i)]
    exact va_tb G.1 G.2.1 (G.2.2.2.2.2.2.2.2.1.2.2.1.1.1 i hi).2.2.2 h3.2.2.1 g4 rfl hdg h5
  · exact h4.elim
theorem t_nret (G : s_G p s m args meth c cc nL own D ty ad A ret nm) {Q : SQ} {t : FieldType} (hret : ret = some t) (hdg : decode cc pc = .ok (.ireturn, 1)) : s_T p l e R s m args below meth c nL D ty ad A al n0 φ0 (MQ below (s_Post D ty ad Q φ0 n0 al A) args s R.cells R.slots A) pc (o_nret t Q) := by
  intro lsr H locs φ ls st sh me h1 h2 h3 h4
  unfold o_nret at h4
  split at h4
  · rename_i x
    exact W.widen h3.2.2.2.2.2.1 h3.2.2.2.2.2.2.1 (W.zret (v := x) (ty := t) G.1 G.2.1 (G.2.2.2.2.2.2.2.2.2.2.1.trans hret) h4.1 (s_post_of h3 h4.2 rfl) h3.2.2.1.2.2 hdg G.2.2.2.2.2.2.2.2.2.1)
  · exact h4.elim
/-- a call of String's own members -/
theorem t_callVS (G : s_G p s m args meth c cc nL own D ty ad A ret nm) {C : SC} {y : MethodName} {bytes : ByteArray} {maxL n idx : Nat} {ret' : Option FieldType} {rm : Room} (hy : y.cls = "java/lang/String") (hM : s_Met l y bytes maxL ret' rm false C) (hrm : rm.cells = 0 ∧ rm.slots = 0) (hal : al = false) (hR : rm.frames + 1 ≤ R.frames ∧ 8 + (maxL + 11) + rm.locals ≤ R.locals) (qc : Cond.code y bytes maxL ret' ∈ lw_tbl) (qi : Cond.initialized y.cls ∈ lw_tbl) (ql : Cond.methodLink own idx y ∈ lw_tbl) (qn : Cond.instanceMethod y ∈ lw_tbl) (qs : Cond.selects y.cls y y ∈ lw_tbl) (hd : y.cls ≠ "java/lang/invoke/MethodHandle" ∧ y.cls ≠ "java/lang/invoke/VarHandle" ∧ (parseMethodDescriptor y.desc).map (fun d => d.parameters.length) = some n) (hdg : decode cc pc = .ok (.invokevirtual idx, 3))
    (h : s_T p l e R s m args below meth c nL D ty ad A al n0 φ0 QR (pc + 3) K) : s_T p l e R s m args below meth c nL D ty ad A al n0 φ0 QR pc (o_callVS C (n + 1) K) := by
  intro lsr H locs φ ls st sh me h1 h2 h3 h4
  obtain ⟨hrc, g1, g2, g3⟩ := h4
  have e0 : st = (s_pop (n + 1) [] st).1.reverse ++ (s_pop (n + 1) [] st).2 := s_pop_spec (n + 1) [] st (by simpa using g1)
  generalize s_pop (n + 1) [] st = q at hrc g1 g2 g3 e0
  obtain ⟨av, rest⟩ := q
  dsimp only at hrc g1 g2 g3 e0
  subst e0
  subst hal
  have hts := G.2.2.2.2.1.use (args := args)
  have hMet := hM D ty ad av φ H.size sh me _ (fun z => by cases z) g3
  match av, hrc with
  | .ref a :: av', hrc =>
    obtain ⟨i, hi, rfl⟩ := s_hiA (b := 1000002) (n := 8) hrc.1 hrc.2
    have hp := s_pre_of G h3 (.ref (1000002 + i) :: av') sh ⟨rfl, rfl⟩
    have hn' : (av'.map (s_tr φ ad)).length = n := by rw [List.length_map]; simpa using g1
    have hrecv := vk_recv G.2.2.2.2.2.2.2.2.1.2.2.1.1 hi h3.2.2.1
    have estk : (((Value.ref (1000002 + i) :: av').map (s_tr φ ad)).reverse ++ rest.map (s_tr φ ad)) = (av'.map (s_tr φ ad)).reverse ++ .ref (ad (2 + i)) :: rest.map (s_tr φ ad) := by
      rw [List.map_cons, List.reverse_cons, List.append_assoc, s_tr_hi (j := 2 + i) (s_hiB 2 i)]; rfl
    rw [List.map_append, List.map_reverse, estk]
    rw [List.map_cons, s_tr_hi (j := 2 + i) (s_hiB 2 i)] at hp
    have hrun := va_runV (meth := meth) (e := e) (below := below) (locs := locs) (cells := (s_kz false sh).1) (slots := (s_kz false sh).2) (g := F0 m pc lsr ((av'.map (s_tr φ ad)).reverse ++ .ref (ad (2 + i)) :: rest.map (s_tr φ ad))) (C := y.cls) ⟨G.1, G.2.1, G.2.2.1, G.2.2.2.1, hts⟩ hMet ⟨callB_of n hts (s_good1 qc) rfl rfl rfl (hts _ (s_in qi rfl)) (hts _ (s_in ql rfl)) hd hR, hts _ (s_in qn rfl), hts _ (s_in qs rfl)⟩ ⟨s_blind, by rw [hy]; exact hrecv, hp⟩ rfl hn' h1.1 rfl (lv_room (s_sm_sum g2 φ ad)) hdg ⟨by rw [hrm.1]; exact h3.2.2.2.2.2.1, by rw [hrm.2]; exact h3.2.2.2.2.2.2.1⟩
    refine t_back (sh0 := sh) G ⟨rfl, rfl⟩ h3 hrun (fun r sh' me' φ' H1 locs1 q k1 k2 k3 k4 k5 k6 k7 k8 => ?_)
    obtain rfl := k3 rfl
    have h5 := h lsr H1 locs1 φ' ls (r.toList ++ rest) sh' me' h1 h2 ⟨k6, k7, k8, k4, k5, h3.2.2.2.2.2.1, h3.2.2.2.2.2.2.1, Nat.le_trans h3.2.2.2.2.2.2.2.1 k1, h3.2.2.2.2.2.2.2.2.1, h3.2.2.2.2.2.2.2.2.2⟩ q
    rw [List.map_append] at h5
    have e1 : r.toList.map (s_tr φ' ad) = (r.map (s_tr φ' ad)).toList := by cases r <;> rfl
    rw [e1] at h5
    rw [hrm.1, hrm.2]
    exact h5
end SNS
