/-! WHAT THE SMALL MACHINE SAYS OF THE MACHINE: instructions -/
def s_nw : Cond → Bool
  | .fieldLinkNest .. => true
  | .methodLinkNest .. => true
  | .arrayOver (.object _) => true
  | _ => false
/-- the tables' words, such as hold at every later state; and the nest mates' links -/
def s_tb (U : State) : Prop := ∀ w, w ∈ lw_tbl → goodWord w = true → w.before #[] U = true
def s_nst (U : State) : Prop := ∀ w, w ∈ lw_tbl → s_nw w = true → va_Nw w U
theorem s_tb.warm {s U : State} (hW : s.WarmedH U.vm) (h : s_tb s) : s_tb U := fun w hm hg => word_at hW (good_of_word hg) (h w hm hg)
theorem s_nst.warm {s U : State} (hW : s.WarmedH U.vm) (h : s_nst s) : s_nst U := by
  intro w hm hn
  have hz := h w hm hn
  cases w <;> first | (cases hn; done) | exact va_Nw.warmF hW hz | exact va_Nw.warmM hW hz | (rename_i t; cases t <;> first | (cases hn; done) | exact va_AO.moved hW.alike hz)
theorem s_tb.use {s : State} {args : Array Value} (h : s_tb s) : ∀ w ∈ lw_tbl.filter goodWord, w.before args s = true := by
  intro w hw
  obtain ⟨h1, h2⟩ := List.mem_filter.mp hw
  exact word_at (State.WarmedH.refl s) (good_of_word h2) (h w h1 h2)
theorem s_in {w : Cond} (h : w ∈ lw_tbl) (g : goodWord w = true) : w ∈ lw_tbl.filter goodWord := List.mem_filter.mpr ⟨h, g⟩
def s_txt (i : Nat) : String := (["wall", "gap", "balcony", "person", "sack", "mite", "reach", ""] : List String).getD i ""
def s_slen : List Nat := [4, 3, 7, 6, 4, 4, 5, 0]
def s_byt : List (List Int32) := [[119, 97, 108, 108], [103, 97, 112], [98, 97, 108, 99, 111, 110, 121], [112, 101, 114, 115, 111, 110], [115, 97, 99, 107], [109, 105, 116, 101], [114, 101, 97, 99, 104], []]
/-- the class's own tables and texts, which no call changes: ad 0 ABOVE, ad 1 BODIES, ad (2 + i) the texts -/
def s_sp (ad : Nat → Nat) (A : Nat → Prop) (U : State) (H : Heap) : Prop :=
  (va_Z "TaxOnLooks" "ABOVE" "[I" (.ref (ad 0)) A U H ∧ va_T .int (ad 0) 7 (fun j => .int ((s_tl 0).getD j 0)) A U H) ∧
  (va_Z "TaxOnLooks" "BODIES" "[I" (.ref (ad 1)) A U H ∧ va_T .int (ad 1) 21 (fun j => .int ((s_tl 1).getD j 0)) A U H) ∧
  (vk_S 8 s_slen s_byt (fun i => ad (2 + i)) (fun i => ad (20 + i)) A U H ∧ ∀ i, i < 8 → vk_R "TaxOnLooks$Reader" (78 + 2 * i) (s_txt i) (ad (2 + i)) U) ∧
  va_Z "java/lang/String" "COMPACT_STRINGS" "Z" (.int 1) A U H ∧ (va_Z "jdk/internal/util/Preconditions" "SIOOBE_FORMATTER" "Ljava/util/function/BiFunction;" .null A U H ∨ va_Z "jdk/internal/util/Preconditions" "SIOOBE_FORMATTER" "Ljava/util/function/BiFunction;" (.ref (ad 30)) A U H)
theorem s_sp.warm {ad : Nat → Nat} {A : Nat → Prop} {s U : State} {H : Heap} (hW : s.WarmedH U.vm) (h : s_sp ad A s H) : s_sp ad A U H := ⟨⟨h.1.1.moved hW.alike, h.1.2.moved hW.alike⟩, ⟨h.2.1.1.moved hW.alike, h.2.1.2.moved hW.alike⟩, ⟨h.2.2.1.1.moved hW.alike, fun i hi => (h.2.2.1.2 i hi).warm hW⟩, h.2.2.2.1.moved hW.alike, h.2.2.2.2.imp (fun z => z.moved hW.alike) (fun z => z.moved hW.alike)⟩
theorem s_sp.kept {ad : Nat → Nat} {A : Nat → Prop} {U : State} {H H1 : Heap} (h : s_sp ad A U H) (hq : ∀ a : Nat, a < H.size → ¬ A a → H1[a]? = H[a]?) : s_sp ad A U H1 := ⟨⟨h.1.1.kept hq, h.1.2.kept hq⟩, ⟨h.2.1.1.kept hq, h.2.1.2.kept hq⟩, ⟨h.2.2.1.1.kept hq, h.2.2.1.2⟩, h.2.2.2.1.kept hq, h.2.2.2.2.imp (fun z => z.kept hq) (fun z => z.kept hq)⟩
theorem s_sp.narrow {ad : Nat → Nat} {A B : Nat → Prop} {U : State} {H : Heap} (h : s_sp ad A U H) (hAB : ∀ q, B q → A q) : s_sp ad B U H := ⟨⟨h.1.1.narrow hAB, h.1.2.narrow hAB⟩, ⟨h.2.1.1.narrow hAB, h.2.1.2.narrow hAB⟩, ⟨h.2.2.1.1.narrow hAB, h.2.2.1.2⟩, h.2.2.2.1.narrow hAB, h.2.2.2.2.imp (fun z => z.narrow hAB) (fun z => z.narrow hAB)⟩
/-- what stands through a method -/
def s_G (p : Program) (s : State) (m : MethodId) (args : Array Value) (meth : Method) (c : Code) (cc : ByteArray) (nL : Nat) (own : String) (D : va_G) (ty : s_TY) (ad : Nat → Nat) (A : Nat → Prop) (ret : Option FieldType) (nm : String) : Prop :=
  p.tables.exec = Jvm.exec ∧ c.code = cc ∧ c.maxLocals = nL ∧ s.vm.findClass own = some m.cls ∧ s_tb s ∧ va_K D vwCl (s_tys ty) s ∧ (∀ q : Nat, s.heap.size ≤ q → A q) ∧ s_nst s ∧ s_sp ad A s s.heap ∧ meth.locks = false ∧ meth.sig.returnType = ret ∧ meth.name = nm
def s_kz (al : Bool) (sh : SShp) : Nat × Nat := if al = true then sh.2.1 else (0, 0)
def s_J (R : Room) (s : State) (D : va_G) (ty : s_TY) (A : Nat → Prop) (al : Bool) (n0 : Nat) (φ0 : Nat → Nat) (H : Heap) (locs : List Loc) (φ : Nat → Nat) (sh : SShp) (me : SMem) : Prop :=
  va_P D vwCl (s_ws ty φ sh me) H ∧ va_D A (s_ws ty φ sh me) ∧ va_S A s.heap H locs ∧ sh.1 ≤ 1000000 ∧ (∀ a k b, a < sh.1 → me.2.2 a k = some b → b < sh.1) ∧ (s_kz al sh).1 ≤ R.cells ∧ (s_kz al sh).2 ≤ R.slots ∧ n0 ≤ sh.1 ∧ (∀ i, i < n0 → φ i = φ0 i) ∧ (al = false → φ = φ0)
def s_T (p : Program) (l : Launch) (e : Env) (R : Room) (s : State) (m : MethodId) (args : Array Value) (below : List Frame) (meth : Method) (c : Code) (nL : Nat) (D : va_G) (ty : s_TY) (ad : Nat → Nat) (A : Nat → Prop) (al : Bool) (n0 : Nat) (φ0 : Nat → Nat) (QR : State → Prop) (pc : Nat) (K : SK) : Prop :=
  ∀ (lsr : Array Slot) (H : Heap) (locs : List Loc) (φ : Nat → Nat) (ls : SLoc) (st : List Value) (sh : SShp) (me : SMem), lv_has lsr nL (s_lv φ ad 0 ls) → ls.length = nL → s_J R s D ty A al n0 φ0 H locs φ sh me → K ls st sh me → W p l e R s m args below meth c H locs (s_kz al sh).1 (s_kz al sh).2 QR (F0 m pc lsr (st.map (s_tr φ ad)))
section SND
variable {p : Program} {l : Launch} {e : Env} {R : Room} {s : State} {m : MethodId} {args : Array Value} {below : List Frame} {meth : Method} {c : Code} {cc : ByteArray} {nL : Nat} {own : String} {D : va_G} {ty : s_TY} {ad : Nat → Nat} {A : Nat → Prop} {al : Bool} {n0 : Nat} {φ0 : Nat → Nat} {QR : State → Prop} {pc : Nat} {K Kt Kf : SK} {ret : Option FieldType} {nm : String}
theorem t_const {v : Value} {len : Nat} (hv : ∀ φ, s_tr φ ad v = v) (row : ∀ (H : Heap) (locs : List Loc) (x y : Nat) (lsr : Array Slot) (r : List Value), W p l e R s m args below meth c H locs x y QR (F0 m (pc + len) lsr (v :: r)) → W p l e R s m args below meth c H locs x y QR (F0 m pc lsr r)) (h : s_T p l e R s m args below meth c nL D ty ad A al n0 φ0 QR (pc + len) K) : s_T p l e R s m args below meth c nL D ty ad A al n0 φ0 QR pc (o_const v K) := by
  intro lsr H locs φ ls st sh me h1 h2 h3 h4
  refine row _ _ _ _ _ _ ?_
  have h5 := h lsr H locs φ ls (v :: st) sh me h1 h2 h3 h4
  rw [List.map_cons, hv] at h5
  exact h5
theorem t_iload {i len : Nat} (row : ∀ (H : Heap) (locs : List Loc) (k n : Nat) (lsr : Array Slot) (r : List Value) (x : Int32), lsr[i]? = some (.val (.int x)) → W p l e R s m args below meth c H locs k n QR (F0 m (pc + len) lsr (.int x :: r)) → W p l e R s m args below meth c H locs k n QR (F0 m pc lsr r)) (h : s_T p l e R s m args below meth c nL D ty ad A al n0 φ0 QR (pc + len) K) : s_T p l e R s m args below meth c nL D ty ad A al n0 φ0 QR pc (o_iload i K) := by
  intro lsr H locs φ ls st sh me h1 h2 h3 h4
  unfold o_iload at h4
  split at h4
  · rename_i x hx
    exact row _ _ _ _ _ _ x (s_lv_at h1 hx) (h lsr H locs φ ls (.int x :: st) sh me h1 h2 h3 h4)
  · exact h4.elim
theorem t_lload {i len : Nat} (row : ∀ (H : Heap) (locs : List Loc) (k n : Nat) (lsr : Array Slot) (r : List Value) (x : Int64), lsr[i]? = some (.val (.long x)) → W p l e R s m args below meth c H locs k n QR (F0 m (pc + len) lsr (.long x :: r)) → W p l e R s m args below meth c H locs k n QR (F0 m pc lsr r)) (h : s_T p l e R s m args below meth c nL D ty ad A al n0 φ0 QR (pc + len) K) : s_T p l e R s m args below meth c nL D ty ad A al n0 φ0 QR pc (o_lload i K) := by
  intro lsr H locs φ ls st sh me h1 h2 h3 h4
  unfold o_lload at h4
  split at h4
  · rename_i x hx
    exact row _ _ _ _ _ _ x (s_lv_at h1 hx) (h lsr H locs φ ls (.long x :: st) sh me h1 h2 h3 h4)
  · exact h4.elim
theorem t_aload {i len : Nat} (row : ∀ (H : Heap) (locs : List Loc) (k n : Nat) (lsr : Array Slot) (r : List Value) (x : Nat), lsr[i]? = some (.val (.ref x)) → W p l e R s m args below meth c H locs k n QR (F0 m (pc + len) lsr (.ref x :: r)) → W p l e R s m args below meth c H locs k n QR (F0 m pc lsr r)) (h : s_T p l e R s m args below meth c nL D ty ad A al n0 φ0 QR (pc + len) K) : s_T p l e R s m args below meth c nL D ty ad A al n0 φ0 QR pc (o_aload i K) := by
  intro lsr H locs φ ls st sh me h1 h2 h3 h4
  unfold o_aload at h4
  split at h4
  · rename_i x hx
    exact row _ _ _ _ _ _ _ (s_lv_at h1 hx) (h lsr H locs φ ls (.ref x :: st) sh me h1 h2 h3 h4)
  · exact h4.elim
theorem t_istore {i len : Nat} (row : ∀ (H : Heap) (locs : List Loc) (k n : Nat) (lsr : Array Slot) (r : List Value) (x : Int32) (lv lv' : List (Nat × Value)), lv_has lsr nL lv → i < nL → (i, Value.int x) :: lv.filter (fun q => !(q.1 == i) && !(q.1 + 1 == i && q.2.category == 2)) = lv' → (∀ ls' : Array Slot, lv_has ls' nL lv' → W p l e R s m args below meth c H locs k n QR (F0 m (pc + len) ls' r)) → W p l e R s m args below meth c H locs k n QR (F0 m pc lsr (.int x :: r))) (h : s_T p l e R s m args below meth c nL D ty ad A al n0 φ0 QR (pc + len) K) : s_T p l e R s m args below meth c nL D ty ad A al n0 φ0 QR pc (o_istore i K) := by
  intro lsr H locs φ ls st sh me h1 h2 h3 h4
  unfold o_istore at h4
  split at h4
  · rename_i x r
    exact row _ _ _ _ _ _ x _ _ h1 (h2 ▸ h4.1) rfl (fun ls' g => h ls' H locs φ _ r sh me (s_lv_put1 (x := .int x) g) ((s_put1_len _ _ _).trans h2) h3 h4.2)
  · exact h4.elim
theorem t_astore {i len : Nat} (row : ∀ (H : Heap) (locs : List Loc) (k n : Nat) (lsr : Array Slot) (r : List Value) (x : Nat) (lv lv' : List (Nat × Value)), lv_has lsr nL lv → i < nL → (i, Value.ref x) :: lv.filter (fun q => !(q.1 == i) && !(q.1 + 1 == i && q.2.category == 2)) = lv' → (∀ ls' : Array Slot, lv_has ls' nL lv' → W p l e R s m args below meth c H locs k n QR (F0 m (pc + len) ls' r)) → W p l e R s m args below meth c H locs k n QR (F0 m pc lsr (.ref x :: r))) (h : s_T p l e R s m args below meth c nL D ty ad A al n0 φ0 QR (pc + len) K) : s_T p l e R s m args below meth c nL D ty ad A al n0 φ0 QR pc (o_astore i K) := by
  intro lsr H locs φ ls st sh me h1 h2 h3 h4
  unfold o_astore at h4
  split at h4
  · rename_i x r
    exact row _ _ _ _ _ _ _ _ _ h1 (h2 ▸ h4.1) rfl (fun ls' g => h ls' H locs φ _ r sh me (s_lv_put1 (x := .ref x) g) ((s_put1_len _ _ _).trans h2) h3 h4.2)
  · exact h4.elim
theorem t_lstore {i len : Nat} (row : ∀ (H : Heap) (locs : List Loc) (k n : Nat) (lsr : Array Slot) (r : List Value) (x : Int64) (lv lv' : List (Nat × Value)), lv_has lsr nL lv → i + 1 < nL → (i, Value.long x) :: lv.filter (fun q => !(q.1 == i) && (!(q.1 == i + 1) && !(q.1 + 1 == i && q.2.category == 2))) = lv' → (∀ ls' : Array Slot, lv_has ls' nL lv' → W p l e R s m args below meth c H locs k n QR (F0 m (pc + len) ls' r)) → W p l e R s m args below meth c H locs k n QR (F0 m pc lsr (.long x :: r))) (h : s_T p l e R s m args below meth c nL D ty ad A al n0 φ0 QR (pc + len) K) : s_T p l e R s m args below meth c nL D ty ad A al n0 φ0 QR pc (o_lstore i K) := by
  intro lsr H locs φ ls st sh me h1 h2 h3 h4
  unfold o_lstore at h4
  split at h4
  · rename_i x r
    exact row _ _ _ _ _ _ x _ _ h1 (h2 ▸ h4.1) rfl (fun ls' g => h ls' H locs φ _ r sh me (s_lv_put2 (x := .long x) g) ((s_put2_len _ _ _).trans h2) h3 h4.2)
  · exact h4.elim
theorem t_iinc (G : s_G p s m args meth c cc nL own D ty ad A ret nm) {i : Nat} {n : Int} {v : Int32} (hdg : decode cc pc = .ok (.iinc i n, 3)) (hv : Int32.ofInt n = v) (h : s_T p l e R s m args below meth c nL D ty ad A al n0 φ0 QR (pc + 3) K) : s_T p l e R s m args below meth c nL D ty ad A al n0 φ0 QR pc (o_iinc i v K) := by
  intro lsr H locs φ ls st sh me h1 h2 h3 h4
  unfold o_iinc at h4
  split at h4
  · rename_i x hx
    obtain ⟨k, hk⟩ := List.mem_iff_getElem?.mp ((s_lv_mem (φ := φ) (ad := ad) ls 0 (q := (i, .int x))).mpr ⟨i, .int x, by simp, hx, rfl⟩)
    exact lv_iinc (v := x + v) (k := k) G.1 G.2.1 hdg h1 hk (by rw [hv]) (h2 ▸ h4.1) rfl (fun ls' g => h ls' H locs φ _ st sh me (s_lv_put1 (x := .int (x + v)) g) ((s_put1_len _ _ _).trans h2) h3 h4.2)
  · exact h4.elim
theorem t_i1 {f : Int32 → Int32} (row : ∀ (H : Heap) (locs : List Loc) (k n : Nat) (lsr : Array Slot) (r : List Value) (x : Int32), W p l e R s m args below meth c H locs k n QR (F0 m (pc + 1) lsr (.int (f x) :: r)) → W p l e R s m args below meth c H locs k n QR (F0 m pc lsr (.int x :: r))) (h : s_T p l e R s m args below meth c nL D ty ad A al n0 φ0 QR (pc + 1) K) : s_T p l e R s m args below meth c nL D ty ad A al n0 φ0 QR pc (o_i1 f K) := by
  intro lsr H locs φ ls st sh me h1 h2 h3 h4
  unfold o_i1 at h4
  split at h4
  · exact row _ _ _ _ _ _ _ (h lsr H locs φ ls _ sh me h1 h2 h3 h4)
  · exact h4.elim
theorem t_i2 {f : Int32 → Int32 → Int32} (row : ∀ (H : Heap) (locs : List Loc) (k n : Nat) (lsr : Array Slot) (r : List Value) (x y : Int32), W p l e R s m args below meth c H locs k n QR (F0 m (pc + 1) lsr (.int (f x y) :: r)) → W p l e R s m args below meth c H locs k n QR (F0 m pc lsr (.int y :: .int x :: r))) (h : s_T p l e R s m args below meth c nL D ty ad A al n0 φ0 QR (pc + 1) K) : s_T p l e R s m args below meth c nL D ty ad A al n0 φ0 QR pc (o_i2 f K) := by
  intro lsr H locs φ ls st sh me h1 h2 h3 h4
  unfold o_i2 at h4
  split at h4
  · exact row _ _ _ _ _ _ _ _ (h lsr H locs φ ls _ sh me h1 h2 h3 h4)
  · exact h4.elim
theorem t_div {f : Int32 → Int32 → Int32} (row : ∀ (H : Heap) (locs : List Loc) (k n : Nat) (lsr : Array Slot) (r : List Value) (x y : Int32), ¬ y = 0 → W p l e R s m args below meth c H locs k n QR (F0 m (pc + 1) lsr (.int (f x y) :: r)) → W p l e R s m args below meth c H locs k n QR (F0 m pc lsr (.int y :: .int x :: r))) (h : s_T p l e R s m args below meth c nL D ty ad A al n0 φ0 QR (pc + 1) K) : s_T p l e R s m args below meth c nL D ty ad A al n0 φ0 QR pc (o_div f K) := by
  intro lsr H locs φ ls st sh me h1 h2 h3 h4
  unfold o_div at h4
  split at h4
  · exact row _ _ _ _ _ _ _ _ h4.1 (h lsr H locs φ ls _ sh me h1 h2 h3 h4.2)
  · exact h4.elim
theorem t_l2 {f : Int64 → Int64 → Int64} (row : ∀ (H : Heap) (locs : List Loc) (k n : Nat) (lsr : Array Slot) (r : List Value) (x y : Int64), W p l e R s m args below meth c H locs k n QR (F0 m (pc + 1) lsr (.long (f x y) :: r)) → W p l e R s m args below meth c H locs k n QR (F0 m pc lsr (.long y :: .long x :: r))) (h : s_T p l e R s m args below meth c nL D ty ad A al n0 φ0 QR (pc + 1) K) : s_T p l e R s m args below meth c nL D ty ad A al n0 φ0 QR pc (o_l2 f K) := by
  intro lsr H locs φ ls st sh me h1 h2 h3 h4
  unfold o_l2 at h4
  split at h4
  · exact row _ _ _ _ _ _ _ _ (h lsr H locs φ ls _ sh me h1 h2 h3 h4)
  · exact h4.elim
theorem t_lsh {f : Int64 → Int32 → Int64} (row : ∀ (H : Heap) (locs : List Loc) (k n : Nat) (lsr : Array Slot) (r : List Value) (x : Int64) (y : Int32), W p l e R s m args below meth c H locs k n QR (F0 m (pc + 1) lsr (.long (f x y) :: r)) → W p l e R s m args below meth c H locs k n QR (F0 m pc lsr (.int y :: .long x :: r))) (h : s_T p l e R s m args below meth c nL D ty ad A al n0 φ0 QR (pc + 1) K) : s_T p l e R s m args below meth c nL D ty ad A al n0 φ0 QR pc (o_lsh f K) := by
  intro lsr H locs φ ls st sh me h1 h2 h3 h4
  unfold o_lsh at h4
  split at h4
  · exact row _ _ _ _ _ _ _ _ (h lsr H locs φ ls _ sh me h1 h2 h3 h4)
  · exact h4.elim
theorem t_il (G : s_G p s m args meth c cc nL own D ty ad A ret nm) (hdg : decode cc pc = .ok (.i2l, 1)) (h : s_T p l e R s m args below meth c nL D ty ad A al n0 φ0 QR (pc + 1) K) : s_T p l e R s m args below meth c nL D ty ad A al n0 φ0 QR pc (o_il K) := by
  intro lsr H locs φ ls st sh me h1 h2 h3 h4
  unfold o_il at h4
  split at h4
  · exact lv_i2l G.1 G.2.1 hdg rfl (h lsr H locs φ ls _ sh me h1 h2 h3 h4)
  · exact h4.elim
theorem t_li (G : s_G p s m args meth c cc nL own D ty ad A ret nm) (hdg : decode cc pc = .ok (.l2i, 1)) (h : s_T p l e R s m args below meth c nL D ty ad A al n0 φ0 QR (pc + 1) K) : s_T p l e R s m args below meth c nL D ty ad A al n0 φ0 QR pc (o_li K) := by
  intro lsr H locs φ ls st sh me h1 h2 h3 h4
  unfold o_li at h4
  split at h4
  · exact lv_l2i G.1 G.2.1 hdg rfl (h lsr H locs φ ls _ sh me h1 h2 h3 h4)
  · exact h4.elim
theorem t_lcmp (G : s_G p s m args meth c cc nL own D ty ad A ret nm) (hdg : decode cc pc = .ok (.lcmp, 1)) (h : s_T p l e R s m args below meth c nL D ty ad A al n0 φ0 QR (pc + 1) K) : s_T p l e R s m args below meth c nL D ty ad A al n0 φ0 QR pc (o_lcmp K) := by
  intro lsr H locs φ ls st sh me h1 h2 h3 h4
  unfold o_lcmp at h4
  split at h4
  · exact W.lcmp G.1 G.2.1 hdg (h lsr H locs φ ls _ sh me h1 h2 h3 h4)
  · exact h4.elim
theorem t_pop (G : s_G p s m args meth c cc nL own D ty ad A ret nm) (hdg : decode cc pc = .ok (.pop, 1)) (h : s_T p l e R s m args below meth c nL D ty ad A al n0 φ0 QR (pc + 1) K) : s_T p l e R s m args below meth c nL D ty ad A al n0 φ0 QR pc (o_pop K) := by
  intro lsr H locs φ ls st sh me h1 h2 h3 h4
  unfold o_pop at h4
  split at h4
  · exact lv_pop G.1 G.2.1 hdg ((s_tr_cat _ _ _).trans h4.1) (h lsr H locs φ ls _ sh me h1 h2 h3 h4.2)
  · exact h4.elim
theorem t_dup (G : s_G p s m args meth c cc nL own D ty ad A ret nm) (hdg : decode cc pc = .ok (.dup, 1)) (h : s_T p l e R s m args below meth c nL D ty ad A al n0 φ0 QR (pc + 1) K) : s_T p l e R s m args below meth c nL D ty ad A al n0 φ0 QR pc (o_dup K) := by
  intro lsr H locs φ ls st sh me h1 h2 h3 h4
  unfold o_dup at h4
  split at h4
  · exact lv_dup G.1 G.2.1 hdg ((s_tr_cat _ _ _).trans h4.1) (h lsr H locs φ ls _ sh me h1 h2 h3 h4.2)
  · exact h4.elim
theorem t_dup2 (G : s_G p s m args meth c cc nL own D ty ad A ret nm) (hdg : decode cc pc = .ok (.dup2, 1)) (h : s_T p l e R s m args below meth c nL D ty ad A al n0 φ0 QR (pc + 1) K) : s_T p l e R s m args below meth c nL D ty ad A al n0 φ0 QR pc (o_dup2 K) := by
  intro lsr H locs φ ls st sh me h1 h2 h3 h4
  unfold o_dup2 at h4
  split at h4
  · exact lv_dup2_11 G.1 G.2.1 hdg ((s_tr_cat _ _ _).trans h4.1) ((s_tr_cat _ _ _).trans h4.2.1) (h lsr H locs φ ls _ sh me h1 h2 h3 h4.2.2)
  · exact h4.elim
theorem t_dupx1 (G : s_G p s m args meth c cc nL own D ty ad A ret nm) (hdg : decode cc pc = .ok (.dup_x1, 1)) (h : s_T p l e R s m args below meth c nL D ty ad A al n0 φ0 QR (pc + 1) K) : s_T p l e R s m args below meth c nL D ty ad A al n0 φ0 QR pc (o_dupx1 K) := by
  intro lsr H locs φ ls st sh me h1 h2 h3 h4
  unfold o_dupx1 at h4
  split at h4
  · exact lv_dup_x1 G.1 G.2.1 hdg ((s_tr_cat _ _ _).trans h4.1) ((s_tr_cat _ _ _).trans h4.2.1) (h lsr H locs φ ls _ sh me h1 h2 h3 h4.2.2)
  · exact h4.elim
theorem t_goto (G : s_G p s m args meth c cc nL own D ty ad A ret nm) {off : Int} {tgt : Nat} (hdg : decode cc pc = .ok (.goto off, 3)) (ht : (pc : Int) + off = (tgt : Int)) (h : s_T p l e R s m args below meth c nL D ty ad A al n0 φ0 QR tgt K) : s_T p l e R s m args below meth c nL D ty ad A al n0 φ0 QR pc K := by
  intro lsr H locs φ ls st sh me h1 h2 h3 h4
  exact lv_goto G.1 G.2.1 hdg ht (h lsr H locs φ ls _ sh me h1 h2 h3 h4)
theorem t_if {cd : Int32 → Prop} {tgt : Nat} (row : ∀ (H : Heap) (locs : List Loc) (k n : Nat) (lsr : Array Slot) (r : List Value) (x : Int32), (cd x → W p l e R s m args below meth c H locs k n QR (F0 m tgt lsr r)) → (¬ cd x → W p l e R s m args below meth c H locs k n QR (F0 m (pc + 3) lsr r)) → W p l e R s m args below meth c H locs k n QR (F0 m pc lsr (.int x :: r))) (ht : s_T p l e R s m args below meth c nL D ty ad A al n0 φ0 QR tgt Kt) (hf : s_T p l e R s m args below meth c nL D ty ad A al n0 φ0 QR (pc + 3) Kf) : s_T p l e R s m args below meth c nL D ty ad A al n0 φ0 QR pc (o_if cd Kt Kf) := by
  intro lsr H locs φ ls st sh me h1 h2 h3 h4
  unfold o_if at h4
  split at h4
  · exact row _ _ _ _ _ _ _ (fun z => ht lsr H locs φ ls _ sh me h1 h2 h3 (h4.1 z)) (fun z => hf lsr H locs φ ls _ sh me h1 h2 h3 (h4.2 z))
  · exact h4.elim
theorem t_ic {cd : Int32 → Int32 → Prop} {tgt : Nat} (row : ∀ (H : Heap) (locs : List Loc) (k n : Nat) (lsr : Array Slot) (r : List Value) (x y : Int32), (cd x y → W p l e R s m args below meth c H locs k n QR (F0 m tgt lsr r)) → (¬ cd x y → W p l e R s m args below meth c H locs k n QR (F0 m (pc + 3) lsr r)) → W p l e R s m args below meth c H locs k n QR (F0 m pc lsr (.int y :: .int x :: r))) (ht : s_T p l e R s m args below meth c nL D ty ad A al n0 φ0 QR tgt Kt) (hf : s_T p l e R s m args below meth c nL D ty ad A al n0 φ0 QR (pc + 3) Kf) : s_T p l e R s m args below meth c nL D ty ad A al n0 φ0 QR pc (o_ic cd Kt Kf) := by
  intro lsr H locs φ ls st sh me h1 h2 h3 h4
  unfold o_ic at h4
  split at h4
  · exact row _ _ _ _ _ _ _ _ (fun z => ht lsr H locs φ ls _ sh me h1 h2 h3 (h4.1 z)) (fun z => hf lsr H locs φ ls _ sh me h1 h2 h3 (h4.2 z))
  · exact h4.elim
/-- a switch: each case by the machine's own row for it; ts are the cases' numbers and places -/
theorem t_sw {cs : List (Int32 × SK)} {ts : List (Int32 × Nat)} {d : SK} {dt : Nat} (hks : cs.map (·.1) = ts.map (·.1)) (hin : ∀ (j : Nat) (q : Int32 × Nat) (u : Int32 × SK), ts[j]? = some q → cs[j]? = some u → s_T p l e R s m args below meth c nL D ty ad A al n0 φ0 QR q.2 u.2) (hd : s_T p l e R s m args below meth c nL D ty ad A al n0 φ0 QR dt d)
    (rin : ∀ (j : Nat) (q : Int32 × Nat), ts[j]? = some q → ∀ (H : Heap) (locs : List Loc) (k n : Nat) (lsr : Array Slot) (r : List Value) (x : Int32), x = q.1 → W p l e R s m args below meth c H locs k n QR (F0 m q.2 lsr r) → W p l e R s m args below meth c H locs k n QR (F0 m pc lsr (.int x :: r)))
    (rout : ∀ (H : Heap) (locs : List Loc) (k n : Nat) (lsr : Array Slot) (r : List Value) (x : Int32), (∀ q ∈ ts, ¬ x = q.1) → W p l e R s m args below meth c H locs k n QR (F0 m dt lsr r) → W p l e R s m args below meth c H locs k n QR (F0 m pc lsr (.int x :: r))) : s_T p l e R s m args below meth c nL D ty ad A al n0 φ0 QR pc (o_sw cs d) := by
  intro lsr H locs φ ls st sh me h1 h2 h3 h4
  unfold o_sw at h4
  split at h4
  · rename_i x r
    have key : ∀ (j : Nat), j ≤ cs.length → (∀ i, i < j → ∀ q, ts[i]? = some q → ¬ x = q.1) → s_sw x ls r sh me d (cs.drop j) → W p l e R s m args below meth c H locs (s_kz al sh).1 (s_kz al sh).2 QR (F0 m pc lsr (.int x :: r.map (s_tr φ ad))) := by
      have hlen : cs.length = ts.length := by simpa using congrArg List.length hks
      intro j
      induction hj : cs.length - j generalizing j with
      | zero =>
        intro hle hno hsw
        rw [List.drop_eq_nil_iff.mpr (by omega)] at hsw
        refine rout _ _ _ _ _ _ _ (fun q hq => ?_) (hd lsr H locs φ ls r sh me h1 h2 h3 hsw)
        obtain ⟨i, hi⟩ := List.mem_iff_getElem?.mp hq
        exact hno i (by have := (List.getElem?_eq_some_iff.mp hi).1; omega) q hi
      | succ k ih =>
        intro hle hno hsw
        have hlt : j < cs.length := by omega
        rw [List.drop_eq_getElem_cons hlt] at hsw
        have hts : ts[j]? = some ts[j] := List.getElem?_eq_getElem (by omega)
        have hcs : cs[j]? = some cs[j] := List.getElem?_eq_getElem hlt
        have he : (cs[j]).1 = (ts[j]).1 := by
          have := congrArg (fun z => z[j]?) hks
          simp only [List.getElem?_map, hts, hcs, Option.map_some, Option.some.injEq] at this
          exact this
        by_cases hx : x = (cs[j]).1
        · exact rin j _ hts _ _ _ _ _ _ _ (hx.trans he) (hin j _ _ hts hcs lsr H locs φ ls r sh me h1 h2 h3 (hsw.1 hx))
        · refine ih (j + 1) (by omega) (by omega) (fun i hi q hq => ?_) (hsw.2 hx)
          rcases Nat.lt_or_ge i j with g | g
          · exact hno i g q hq
          · obtain rfl : i = j := by omega
            rw [hts] at hq
            cases hq
            rw [← he]
            exact hx
    exact key 0 (Nat.zero_le _) (fun i hi => absurd hi (Nat.not_lt_zero i)) h4
  · exact h4.elim
end SND
