/-! the constructors: printed by gen977.py, which runs them -/
set_option maxRecDepth 100000
def cG (n a : Nat) : Nat := if a < n then cF a else 0
def lG (n a : Nat) : Nat := if a < n then lF a else 0
def SG (n u w : Nat) : SShp := (n, (u, w), cG n, lG n)
def rL : List (Nat × Option (Nat × Nat)) → Nat → Nat → Option Nat
  | [], _, _ => none
  | e :: l, b, j => match e.2 with
    | none => if b = e.1 then none else rL l b j
    | some q => if b = e.1 ∧ j = q.1 then some q.2 else rL l b j
def iL : List (Nat × Option (Nat × Int32)) → Nat → Nat → Int32
  | [], _, _ => 0
  | e :: l, b, j => match e.2 with
    | none => if b = e.1 then 0 else iL l b j
    | some q => if b = e.1 ∧ j = q.1 then q.2 else iL l b j
def ME (li : List (Nat × Option (Nat × Int32))) (lr : List (Nat × Option (Nat × Nat))) : SMem := (iL li, fun _ _ => 0, rL lr)
theorem cG_S (n : Nat) : (fun b => if b = n then cF n else cG n b) = cG (n + 1) := by
  funext b
  unfold cG
  by_cases h : b = n
  · subst h
    rw [if_pos rfl, if_pos (Nat.lt_succ_self _)]
  · rw [if_neg h]
    by_cases h2 : b < n
    · rw [if_pos h2, if_pos (by omega)]
    · rw [if_neg h2, if_neg (by omega)]
theorem lG_S (n : Nat) : (fun b => if b = n then lF n else lG n b) = lG (n + 1) := by
  funext b
  unfold lG
  by_cases h : b = n
  · subst h
    rw [if_pos rfl, if_pos (Nat.lt_succ_self _)]
  · rw [if_neg h]
    by_cases h2 : b < n
    · rw [if_pos h2, if_pos (by omega)]
    · rw [if_neg h2, if_neg (by omega)]
theorem sg_new {n u w ci len N n2' u2' w2' : Nat} (hc : ci = cF n) (hl : len = lF n) (hn : n2' = n + 1) (hu : u2' = u + 1) (hw : w2' = w + N) : s_new (SG n u w) ci len N = SG n2' u2' w2' := by
  subst hc hl hn hu hw
  unfold SG
  rw [← cG_S, ← lG_S]
  rfl
theorem me_zero (n : Nat) (li : List (Nat × Option (Nat × Int32))) (lr : List (Nat × Option (Nat × Nat))) : s_zero n (ME li lr) = ME ((n, none) :: li) ((n, none) :: lr) := by
  unfold ME s_zero
  refine Prod.ext ?_ (Prod.ext ?_ ?_)
  · funext b j; rfl
  · funext b j; simp
  · funext b j; rfl
section
variable {K : SK} {ls : SLoc} {st : List Value} {sh : SShp} {me : SMem} {n u w n2' u2' w2' : Nat} {li : List (Nat × Option (Nat × Int32))} {lr : List (Nat × Option (Nat × Nat))}
theorem p_aload {i a : Nat} (h : s_get ls i = some (.ref a)) (k : K ls (.ref a :: st) sh me) : o_aload i K ls st sh me := by unfold o_aload; rw [h]; exact k
theorem p_iload {i : Nat} {a : Int32} (h : s_get ls i = some (.int a)) (k : K ls (.int a :: st) sh me) : o_iload i K ls st sh me := by unfold o_iload; rw [h]; exact k
theorem p_const {v : Value} (k : K ls (v :: st) sh me) : o_const v K ls st sh me := k
theorem p_obj {a : Nat} (h : s_sm st) (k : K ls st sh me) : o_obj K ls (.ref a :: st) sh me := ⟨h, k⟩
theorem p_dup {v : Value} (h : v.category = 1) (k : K ls (v :: v :: st) sh me) : o_dup K ls (v :: st) sh me := ⟨h, k⟩
theorem p_istore {i : Nat} {x : Int32} {ls2 : SLoc} (h : i < ls.length) (e : s_put1 ls i (.int x) = ls2) (k : K ls2 st sh me) : o_istore i K ls (.int x :: st) sh me := by subst e; exact ⟨h, k⟩
theorem p_iinc {i : Nat} {x d : Int32} {ls2 : SLoc} (h : s_get ls i = some (.int x)) (hi : i < ls.length) (e : s_put1 ls i (.int (x + d)) = ls2) (k : K ls2 st sh me) : o_iinc i d K ls st sh me := by
  subst e
  unfold o_iinc
  rw [h]
  exact ⟨hi, k⟩
theorem p_new {mc ms ci N : Nat} (hc : ci = cF n) (hl : 0 = lF n) (hn : n2' = n + 1) (hu : u2' = u + 1) (hw : w2' = w + N) (h1 : n < 1000000) (h2 : u + 1 ≤ mc) (h3 : w + N ≤ ms) (ho : s_okl n ls) (hs : s_oks n st) (k : K ls (.ref n :: st) (SG n2' u2' w2') (ME ((n, none) :: li) ((n, none) :: lr))) : o_new mc ms ci N K ls st (SG n u w) (ME li lr) := by
  refine ⟨h1, h2, h3, ho, hs, ?_⟩
  show K ls (.ref n :: st) (s_new (SG n u w) ci 0 N) (s_zero n (ME li lr))
  rw [sg_new hc hl hn hu hw, me_zero]
  exact k
theorem p_newa {mc ms ci N : Nat} {x : Int32} (hx : x = nI N) (hc : ci = cF n) (hl : N = lF n) (hn : n2' = n + 1) (hu : u2' = u + 1) (hw : w2' = w + N) (h1 : n < 1000000) (h2 : u + 1 ≤ mc) (h3 : w + N ≤ ms) (ho : s_okl n ls) (hs : s_oks n st) (k : K ls (.ref n :: st) (SG n2' u2' w2') (ME ((n, none) :: li) ((n, none) :: lr))) : o_newa mc ms ci N K ls (.int x :: st) (SG n u w) (ME li lr) := by
  refine ⟨hx, h1, h2, h3, ho, hs, ?_⟩
  show K ls (.ref n :: st) (s_new (SG n u w) ci N N) (s_zero n (ME li lr))
  rw [sg_new hc hl hn hu hw, me_zero]
  exact k
def s_ct (K : SK) (ls : SLoc) (st : List Value) (u w : Nat) : SQ := fun r sh' me' => K ls (r.toList ++ st) (sh'.1, (u, w), sh'.2.2) me'
theorem p_callA {C : SC} {MC MS mc ms : Nat} {v : Value} (hu : u2' = u + mc) (hw : w2' = w + ms) (h1 : u + mc ≤ MC) (h2 : w + ms ≤ MS) (ho : s_okl n ls) (hs : s_oks n st) (hm : s_sm st) (k : C [v] (SG n 0 0) me (s_ct K ls st u2' w2')) : o_callA C 1 MC MS mc ms K ls (v :: st) (SG n u w) me := by
  subst hu hw
  exact ⟨h1, h2, ho, hs, rfl, hm, k⟩
theorem p_back {a b : Nat} (k : K ls st (SG n u w) me) : s_ct K ls st u w none (SG n a b) me := k
theorem p_putR {ci k a b : Nat} (h1 : a < n) (h2 : cG n a = ci) (h3 : b < n) (kk : K ls st (SG n u w) (ME li ((a, some (k, b)) :: lr))) : o_putR ci k K ls (.ref b :: .ref a :: st) (SG n u w) (ME li lr) := ⟨h1, h2, h3, kk⟩
theorem p_putI {ci k a : Nat} {x : Int32} (h1 : a < n) (h2 : cG n a = ci) (kk : K ls st (SG n u w) (ME ((a, some (k, x)) :: li) lr)) : o_putI ci k K ls (.int x :: .ref a :: st) (SG n u w) (ME li lr) := ⟨h1, h2, kk⟩
theorem p_iast {k a : Nat} {x i : Int32} (h1 : a < n) (h2 : cG n a = 10) (h3 : ¬ (i < 0 ∨ lG n a ≤ i.toNatClampNeg)) (h4 : i.toNatClampNeg = k) (kk : K ls st (SG n u w) (ME ((a, some (k, x)) :: li) lr)) : o_iast K ls (.int x :: .int i :: .ref a :: st) (SG n u w) (ME li lr) := by
  subst h4
  exact ⟨h1, h2, h3, kk⟩
theorem p_aast {ci k a b : Nat} {i : Int32} (h1 : a < n) (h2 : cG n a = ci) (h3 : ¬ (i < 0 ∨ lG n a ≤ i.toNatClampNeg)) (h4 : i.toNatClampNeg = k) (h5 : b < n) (h6 : cG n b = if ci = 12 then 1 else 5) (kk : K ls st (SG n u w) (ME li ((a, some (k, b)) :: lr))) : o_aast ci K ls (.ref b :: .int i :: .ref a :: st) (SG n u w) (ME li lr) := by
  subst h4
  exact ⟨h1, h2, h3, h5, h6, kk⟩
theorem p_getR {ci k a b : Nat} (h1 : a < n) (h2 : cG n a = ci) (h3 : rL lr a k = some b) (kk : K ls (.ref b :: st) (SG n u w) (ME li lr)) : o_getR ci k K ls (.ref a :: st) (SG n u w) (ME li lr) := by
  refine ⟨h1, h2, ?_⟩
  show match rL lr a k with
    | some b => K ls (.ref b :: st) (SG n u w) (ME li lr)
    | none => False
  rw [h3]
  exact kk
theorem p_ict {c : Int32 → Int32 → Prop} {x y : Int32} {Kt Kf : SK} (h : c x y) (k : Kt ls st sh me) : o_ic c Kt Kf ls (.int y :: .int x :: st) sh me := ⟨fun _ => k, fun z => absurd h z⟩
theorem p_icf {c : Int32 → Int32 → Prop} {x y : Int32} {Kt Kf : SK} (h : ¬ c x y) (k : Kf ls st sh me) : o_ic c Kt Kf ls (.int y :: .int x :: st) sh me := ⟨fun z => absurd z h, fun _ => k⟩
end
theorem i_X1_init_3 {li : List (Nat × Option (Nat × Int32))} {lr : List (Nat × Option (Nat × Nat))} {Q : SQ} (h : Q none (SG 4 0 0) (ME (li) (lr))) : C_X1_init [.ref 3] (SG 4 0 0) (ME li lr) Q := by
  unfold C_X1_init
  refine w_X1_init_0 ?_
  refine p_aload rfl ?_
  refine p_obj trivial ?_
  exact h
theorem i_X1_init_4 {li : List (Nat × Option (Nat × Int32))} {lr : List (Nat × Option (Nat × Nat))} {Q : SQ} (h : Q none (SG 5 0 0) (ME (li) (lr))) : C_X1_init [.ref 4] (SG 5 0 0) (ME li lr) Q := by
  unfold C_X1_init
  refine w_X1_init_0 ?_
  refine p_aload rfl ?_
  refine p_obj trivial ?_
  exact h
theorem i_X1_init_5 {li : List (Nat × Option (Nat × Int32))} {lr : List (Nat × Option (Nat × Nat))} {Q : SQ} (h : Q none (SG 6 0 0) (ME (li) (lr))) : C_X1_init [.ref 5] (SG 6 0 0) (ME li lr) Q := by
  unfold C_X1_init
  refine w_X1_init_0 ?_
  refine p_aload rfl ?_
  refine p_obj trivial ?_
  exact h
theorem i_X1_init_6 {li : List (Nat × Option (Nat × Int32))} {lr : List (Nat × Option (Nat × Nat))} {Q : SQ} (h : Q none (SG 7 0 0) (ME (li) (lr))) : C_X1_init [.ref 6] (SG 7 0 0) (ME li lr) Q := by
  unfold C_X1_init
  refine w_X1_init_0 ?_
  refine p_aload rfl ?_
  refine p_obj trivial ?_
  exact h
theorem i_X1_init_7 {li : List (Nat × Option (Nat × Int32))} {lr : List (Nat × Option (Nat × Nat))} {Q : SQ} (h : Q none (SG 8 0 0) (ME (li) (lr))) : C_X1_init [.ref 7] (SG 8 0 0) (ME li lr) Q := by
  unfold C_X1_init
  refine w_X1_init_0 ?_
  refine p_aload rfl ?_
  refine p_obj trivial ?_
  exact h
theorem i_X1_init_8 {li : List (Nat × Option (Nat × Int32))} {lr : List (Nat × Option (Nat × Nat))} {Q : SQ} (h : Q none (SG 9 0 0) (ME (li) (lr))) : C_X1_init [.ref 8] (SG 9 0 0) (ME li lr) Q := by
  unfold C_X1_init
  refine w_X1_init_0 ?_
  refine p_aload rfl ?_
  refine p_obj trivial ?_
  exact h
theorem i_X1_init_9 {li : List (Nat × Option (Nat × Int32))} {lr : List (Nat × Option (Nat × Nat))} {Q : SQ} (h : Q none (SG 10 0 0) (ME (li) (lr))) : C_X1_init [.ref 9] (SG 10 0 0) (ME li lr) Q := by
  unfold C_X1_init
  refine w_X1_init_0 ?_
  refine p_aload rfl ?_
  refine p_obj trivial ?_
  exact h
theorem i_X7_init_1 {li : List (Nat × Option (Nat × Int32))} {lr : List (Nat × Option (Nat × Nat))} {Q : SQ} (h : Q none (SG 10 8 56) (ME ((9, none) :: (8, none) :: (7, none) :: (6, none) :: (5, none) :: (4, none) :: (3, none) :: (1, some (9, 1)) :: (1, some (5, 5)) :: (1, some (4, 1)) :: (2, none) :: li) ((2, some (6, 9)) :: (9, none) :: (2, some (5, 8)) :: (8, none) :: (2, some (4, 7)) :: (7, none) :: (2, some (3, 6)) :: (6, none) :: (2, some (2, 5)) :: (5, none) :: (2, some (1, 4)) :: (4, none) :: (2, some (0, 3)) :: (3, none) :: (1, some (0, 2)) :: (2, none) :: lr))) : C_X7_init [.ref 1] (SG 2 0 0) (ME li lr) Q := by
  unfold C_X7_init
  refine w_X7_init_0 ?_
  refine p_aload rfl ?_
  refine p_obj trivial ?_
  refine p_aload rfl ?_
  refine p_const ?_
  refine p_newa (n2' := 3) (u2' := 1) (w2' := 7) rfl rfl rfl rfl rfl rfl (by decide) (by decide) (by decide) ⟨Or.inl (by decide), trivial⟩ ⟨Or.inl (by decide), trivial⟩ ?_
  refine p_putR (by decide) rfl (by decide) ?_
  refine p_aload rfl ?_
  refine p_const ?_
  refine p_putI (by decide) rfl ?_
  refine p_aload rfl ?_
  refine p_const ?_
  refine p_putI (by decide) rfl ?_
  refine p_aload rfl ?_
  refine p_const ?_
  refine p_putI (by decide) rfl ?_
  refine p_const ?_
  refine p_istore (ls2 := [some (.ref 1), some (.int 0)]) (by decide) rfl ?_
  refine w_X7_init_30 ?_
  refine p_iload rfl ?_
  refine p_const ?_
  refine p_icf (by show ¬ _ ≤ _; decide) ?_
  refine p_aload rfl ?_
  refine p_getR (b := 2) (by decide) rfl rfl ?_
  refine p_iload rfl ?_
  refine p_new (n2' := 4) (u2' := 2) (w2' := 14) rfl rfl rfl rfl rfl (by decide) (by decide) (by decide) ⟨Or.inl (by decide), ⟨trivial, trivial⟩⟩ ⟨trivial, ⟨Or.inl (by decide), trivial⟩⟩ ?_
  refine p_dup rfl ?_
  refine p_callA (u2' := 2) (w2' := 14) rfl rfl (by decide) (by decide) ⟨Or.inl (by decide), ⟨trivial, trivial⟩⟩ ⟨Or.inl (by decide), ⟨trivial, ⟨Or.inl (by decide), trivial⟩⟩⟩ trivial (i_X1_init_3 ?_)
  refine p_back ?_
  refine p_aast (k := 0) (by decide) rfl (by decide) (by decide) (by decide) rfl ?_
  refine p_iinc (ls2 := [some (.ref 1), some (.int 1)]) rfl (by decide) rfl ?_
  refine w_X7_init_30 ?_
  refine p_iload rfl ?_
  refine p_const ?_
  refine p_icf (by show ¬ _ ≤ _; decide) ?_
  refine p_aload rfl ?_
  refine p_getR (b := 2) (by decide) rfl rfl ?_
  refine p_iload rfl ?_
  refine p_new (n2' := 5) (u2' := 3) (w2' := 21) rfl rfl rfl rfl rfl (by decide) (by decide) (by decide) ⟨Or.inl (by decide), ⟨trivial, trivial⟩⟩ ⟨trivial, ⟨Or.inl (by decide), trivial⟩⟩ ?_
  refine p_dup rfl ?_
  refine p_callA (u2' := 3) (w2' := 21) rfl rfl (by decide) (by decide) ⟨Or.inl (by decide), ⟨trivial, trivial⟩⟩ ⟨Or.inl (by decide), ⟨trivial, ⟨Or.inl (by decide), trivial⟩⟩⟩ trivial (i_X1_init_4 ?_)
  refine p_back ?_
  refine p_aast (k := 1) (by decide) rfl (by decide) (by decide) (by decide) rfl ?_
  refine p_iinc (ls2 := [some (.ref 1), some (.int 2)]) rfl (by decide) rfl ?_
  refine w_X7_init_30 ?_
  refine p_iload rfl ?_
  refine p_const ?_
  refine p_icf (by show ¬ _ ≤ _; decide) ?_
  refine p_aload rfl ?_
  refine p_getR (b := 2) (by decide) rfl rfl ?_
  refine p_iload rfl ?_
  refine p_new (n2' := 6) (u2' := 4) (w2' := 28) rfl rfl rfl rfl rfl (by decide) (by decide) (by decide) ⟨Or.inl (by decide), ⟨trivial, trivial⟩⟩ ⟨trivial, ⟨Or.inl (by decide), trivial⟩⟩ ?_
  refine p_dup rfl ?_
  refine p_callA (u2' := 4) (w2' := 28) rfl rfl (by decide) (by decide) ⟨Or.inl (by decide), ⟨trivial, trivial⟩⟩ ⟨Or.inl (by decide), ⟨trivial, ⟨Or.inl (by decide), trivial⟩⟩⟩ trivial (i_X1_init_5 ?_)
  refine p_back ?_
  refine p_aast (k := 2) (by decide) rfl (by decide) (by decide) (by decide) rfl ?_
  refine p_iinc (ls2 := [some (.ref 1), some (.int 3)]) rfl (by decide) rfl ?_
  refine w_X7_init_30 ?_
  refine p_iload rfl ?_
  refine p_const ?_
  refine p_icf (by show ¬ _ ≤ _; decide) ?_
  refine p_aload rfl ?_
  refine p_getR (b := 2) (by decide) rfl rfl ?_
  refine p_iload rfl ?_
  refine p_new (n2' := 7) (u2' := 5) (w2' := 35) rfl rfl rfl rfl rfl (by decide) (by decide) (by decide) ⟨Or.inl (by decide), ⟨trivial, trivial⟩⟩ ⟨trivial, ⟨Or.inl (by decide), trivial⟩⟩ ?_
  refine p_dup rfl ?_
  refine p_callA (u2' := 5) (w2' := 35) rfl rfl (by decide) (by decide) ⟨Or.inl (by decide), ⟨trivial, trivial⟩⟩ ⟨Or.inl (by decide), ⟨trivial, ⟨Or.inl (by decide), trivial⟩⟩⟩ trivial (i_X1_init_6 ?_)
  refine p_back ?_
  refine p_aast (k := 3) (by decide) rfl (by decide) (by decide) (by decide) rfl ?_
  refine p_iinc (ls2 := [some (.ref 1), some (.int 4)]) rfl (by decide) rfl ?_
  refine w_X7_init_30 ?_
  refine p_iload rfl ?_
  refine p_const ?_
  refine p_icf (by show ¬ _ ≤ _; decide) ?_
  refine p_aload rfl ?_
  refine p_getR (b := 2) (by decide) rfl rfl ?_
  refine p_iload rfl ?_
  refine p_new (n2' := 8) (u2' := 6) (w2' := 42) rfl rfl rfl rfl rfl (by decide) (by decide) (by decide) ⟨Or.inl (by decide), ⟨trivial, trivial⟩⟩ ⟨trivial, ⟨Or.inl (by decide), trivial⟩⟩ ?_
  refine p_dup rfl ?_
  refine p_callA (u2' := 6) (w2' := 42) rfl rfl (by decide) (by decide) ⟨Or.inl (by decide), ⟨trivial, trivial⟩⟩ ⟨Or.inl (by decide), ⟨trivial, ⟨Or.inl (by decide), trivial⟩⟩⟩ trivial (i_X1_init_7 ?_)
  refine p_back ?_
  refine p_aast (k := 4) (by decide) rfl (by decide) (by decide) (by decide) rfl ?_
  refine p_iinc (ls2 := [some (.ref 1), some (.int 5)]) rfl (by decide) rfl ?_
  refine w_X7_init_30 ?_
  refine p_iload rfl ?_
  refine p_const ?_
  refine p_icf (by show ¬ _ ≤ _; decide) ?_
  refine p_aload rfl ?_
  refine p_getR (b := 2) (by decide) rfl rfl ?_
  refine p_iload rfl ?_
  refine p_new (n2' := 9) (u2' := 7) (w2' := 49) rfl rfl rfl rfl rfl (by decide) (by decide) (by decide) ⟨Or.inl (by decide), ⟨trivial, trivial⟩⟩ ⟨trivial, ⟨Or.inl (by decide), trivial⟩⟩ ?_
  refine p_dup rfl ?_
  refine p_callA (u2' := 7) (w2' := 49) rfl rfl (by decide) (by decide) ⟨Or.inl (by decide), ⟨trivial, trivial⟩⟩ ⟨Or.inl (by decide), ⟨trivial, ⟨Or.inl (by decide), trivial⟩⟩⟩ trivial (i_X1_init_8 ?_)
  refine p_back ?_
  refine p_aast (k := 5) (by decide) rfl (by decide) (by decide) (by decide) rfl ?_
  refine p_iinc (ls2 := [some (.ref 1), some (.int 6)]) rfl (by decide) rfl ?_
  refine w_X7_init_30 ?_
  refine p_iload rfl ?_
  refine p_const ?_
  refine p_icf (by show ¬ _ ≤ _; decide) ?_
  refine p_aload rfl ?_
  refine p_getR (b := 2) (by decide) rfl rfl ?_
  refine p_iload rfl ?_
  refine p_new (n2' := 10) (u2' := 8) (w2' := 56) rfl rfl rfl rfl rfl (by decide) (by decide) (by decide) ⟨Or.inl (by decide), ⟨trivial, trivial⟩⟩ ⟨trivial, ⟨Or.inl (by decide), trivial⟩⟩ ?_
  refine p_dup rfl ?_
  refine p_callA (u2' := 8) (w2' := 56) rfl rfl (by decide) (by decide) ⟨Or.inl (by decide), ⟨trivial, trivial⟩⟩ ⟨Or.inl (by decide), ⟨trivial, ⟨Or.inl (by decide), trivial⟩⟩⟩ trivial (i_X1_init_9 ?_)
  refine p_back ?_
  refine p_aast (k := 6) (by decide) rfl (by decide) (by decide) (by decide) rfl ?_
  refine p_iinc (ls2 := [some (.ref 1), some (.int 7)]) rfl (by decide) rfl ?_
  refine w_X7_init_30 ?_
  refine p_iload rfl ?_
  refine p_const ?_
  refine p_ict (by show _ ≤ _; decide) ?_
  exact h
theorem i_X1_init_12 {li : List (Nat × Option (Nat × Int32))} {lr : List (Nat × Option (Nat × Nat))} {Q : SQ} (h : Q none (SG 13 0 0) (ME (li) (lr))) : C_X1_init [.ref 12] (SG 13 0 0) (ME li lr) Q := by
  unfold C_X1_init
  refine w_X1_init_0 ?_
  refine p_aload rfl ?_
  refine p_obj trivial ?_
  exact h
theorem i_X1_init_13 {li : List (Nat × Option (Nat × Int32))} {lr : List (Nat × Option (Nat × Nat))} {Q : SQ} (h : Q none (SG 14 0 0) (ME (li) (lr))) : C_X1_init [.ref 13] (SG 14 0 0) (ME li lr) Q := by
  unfold C_X1_init
  refine w_X1_init_0 ?_
  refine p_aload rfl ?_
  refine p_obj trivial ?_
  exact h
theorem i_X1_init_14 {li : List (Nat × Option (Nat × Int32))} {lr : List (Nat × Option (Nat × Nat))} {Q : SQ} (h : Q none (SG 15 0 0) (ME (li) (lr))) : C_X1_init [.ref 14] (SG 15 0 0) (ME li lr) Q := by
  unfold C_X1_init
  refine w_X1_init_0 ?_
  refine p_aload rfl ?_
  refine p_obj trivial ?_
  exact h
theorem i_X1_init_15 {li : List (Nat × Option (Nat × Int32))} {lr : List (Nat × Option (Nat × Nat))} {Q : SQ} (h : Q none (SG 16 0 0) (ME (li) (lr))) : C_X1_init [.ref 15] (SG 16 0 0) (ME li lr) Q := by
  unfold C_X1_init
  refine w_X1_init_0 ?_
  refine p_aload rfl ?_
  refine p_obj trivial ?_
  exact h
theorem i_X1_init_16 {li : List (Nat × Option (Nat × Int32))} {lr : List (Nat × Option (Nat × Nat))} {Q : SQ} (h : Q none (SG 17 0 0) (ME (li) (lr))) : C_X1_init [.ref 16] (SG 17 0 0) (ME li lr) Q := by
  unfold C_X1_init
  refine w_X1_init_0 ?_
  refine p_aload rfl ?_
  refine p_obj trivial ?_
  exact h
theorem i_X1_init_17 {li : List (Nat × Option (Nat × Int32))} {lr : List (Nat × Option (Nat × Nat))} {Q : SQ} (h : Q none (SG 18 0 0) (ME (li) (lr))) : C_X1_init [.ref 17] (SG 18 0 0) (ME li lr) Q := by
  unfold C_X1_init
  refine w_X1_init_0 ?_
  refine p_aload rfl ?_
  refine p_obj trivial ?_
  exact h
theorem i_X1_init_18 {li : List (Nat × Option (Nat × Int32))} {lr : List (Nat × Option (Nat × Nat))} {Q : SQ} (h : Q none (SG 19 0 0) (ME (li) (lr))) : C_X1_init [.ref 18] (SG 19 0 0) (ME li lr) Q := by
  unfold C_X1_init
  refine w_X1_init_0 ?_
  refine p_aload rfl ?_
  refine p_obj trivial ?_
  exact h
theorem i_X7_init_10 {li : List (Nat × Option (Nat × Int32))} {lr : List (Nat × Option (Nat × Nat))} {Q : SQ} (h : Q none (SG 19 8 56) (ME ((18, none) :: (17, none) :: (16, none) :: (15, none) :: (14, none) :: (13, none) :: (12, none) :: (10, some (9, 1)) :: (10, some (5, 5)) :: (10, some (4, 1)) :: (11, none) :: li) ((11, some (6, 18)) :: (18, none) :: (11, some (5, 17)) :: (17, none) :: (11, some (4, 16)) :: (16, none) :: (11, some (3, 15)) :: (15, none) :: (11, some (2, 14)) :: (14, none) :: (11, some (1, 13)) :: (13, none) :: (11, some (0, 12)) :: (12, none) :: (10, some (0, 11)) :: (11, none) :: lr))) : C_X7_init [.ref 10] (SG 11 0 0) (ME li lr) Q := by
  unfold C_X7_init
  refine w_X7_init_0 ?_
  refine p_aload rfl ?_
  refine p_obj trivial ?_
  refine p_aload rfl ?_
  refine p_const ?_
  refine p_newa (n2' := 12) (u2' := 1) (w2' := 7) rfl rfl rfl rfl rfl rfl (by decide) (by decide) (by decide) ⟨Or.inl (by decide), trivial⟩ ⟨Or.inl (by decide), trivial⟩ ?_
  refine p_putR (by decide) rfl (by decide) ?_
  refine p_aload rfl ?_
  refine p_const ?_
  refine p_putI (by decide) rfl ?_
  refine p_aload rfl ?_
  refine p_const ?_
  refine p_putI (by decide) rfl ?_
  refine p_aload rfl ?_
  refine p_const ?_
  refine p_putI (by decide) rfl ?_
  refine p_const ?_
  refine p_istore (ls2 := [some (.ref 10), some (.int 0)]) (by decide) rfl ?_
  refine w_X7_init_30 ?_
  refine p_iload rfl ?_
  refine p_const ?_
  refine p_icf (by show ¬ _ ≤ _; decide) ?_
  refine p_aload rfl ?_
  refine p_getR (b := 11) (by decide) rfl rfl ?_
  refine p_iload rfl ?_
  refine p_new (n2' := 13) (u2' := 2) (w2' := 14) rfl rfl rfl rfl rfl (by decide) (by decide) (by decide) ⟨Or.inl (by decide), ⟨trivial, trivial⟩⟩ ⟨trivial, ⟨Or.inl (by decide), trivial⟩⟩ ?_
  refine p_dup rfl ?_
  refine p_callA (u2' := 2) (w2' := 14) rfl rfl (by decide) (by decide) ⟨Or.inl (by decide), ⟨trivial, trivial⟩⟩ ⟨Or.inl (by decide), ⟨trivial, ⟨Or.inl (by decide), trivial⟩⟩⟩ trivial (i_X1_init_12 ?_)
  refine p_back ?_
  refine p_aast (k := 0) (by decide) rfl (by decide) (by decide) (by decide) rfl ?_
  refine p_iinc (ls2 := [some (.ref 10), some (.int 1)]) rfl (by decide) rfl ?_
  refine w_X7_init_30 ?_
  refine p_iload rfl ?_
  refine p_const ?_
  refine p_icf (by show ¬ _ ≤ _; decide) ?_
  refine p_aload rfl ?_
  refine p_getR (b := 11) (by decide) rfl rfl ?_
  refine p_iload rfl ?_
  refine p_new (n2' := 14) (u2' := 3) (w2' := 21) rfl rfl rfl rfl rfl (by decide) (by decide) (by decide) ⟨Or.inl (by decide), ⟨trivial, trivial⟩⟩ ⟨trivial, ⟨Or.inl (by decide), trivial⟩⟩ ?_
  refine p_dup rfl ?_
  refine p_callA (u2' := 3) (w2' := 21) rfl rfl (by decide) (by decide) ⟨Or.inl (by decide), ⟨trivial, trivial⟩⟩ ⟨Or.inl (by decide), ⟨trivial, ⟨Or.inl (by decide), trivial⟩⟩⟩ trivial (i_X1_init_13 ?_)
  refine p_back ?_
  refine p_aast (k := 1) (by decide) rfl (by decide) (by decide) (by decide) rfl ?_
  refine p_iinc (ls2 := [some (.ref 10), some (.int 2)]) rfl (by decide) rfl ?_
  refine w_X7_init_30 ?_
  refine p_iload rfl ?_
  refine p_const ?_
  refine p_icf (by show ¬ _ ≤ _; decide) ?_
  refine p_aload rfl ?_
  refine p_getR (b := 11) (by decide) rfl rfl ?_
  refine p_iload rfl ?_
  refine p_new (n2' := 15) (u2' := 4) (w2' := 28) rfl rfl rfl rfl rfl (by decide) (by decide) (by decide) ⟨Or.inl (by decide), ⟨trivial, trivial⟩⟩ ⟨trivial, ⟨Or.inl (by decide), trivial⟩⟩ ?_
  refine p_dup rfl ?_
  refine p_callA (u2' := 4) (w2' := 28) rfl rfl (by decide) (by decide) ⟨Or.inl (by decide), ⟨trivial, trivial⟩⟩ ⟨Or.inl (by decide), ⟨trivial, ⟨Or.inl (by decide), trivial⟩⟩⟩ trivial (i_X1_init_14 ?_)
  refine p_back ?_
  refine p_aast (k := 2) (by decide) rfl (by decide) (by decide) (by decide) rfl ?_
  refine p_iinc (ls2 := [some (.ref 10), some (.int 3)]) rfl (by decide) rfl ?_
  refine w_X7_init_30 ?_
  refine p_iload rfl ?_
  refine p_const ?_
  refine p_icf (by show ¬ _ ≤ _; decide) ?_
  refine p_aload rfl ?_
  refine p_getR (b := 11) (by decide) rfl rfl ?_
  refine p_iload rfl ?_
  refine p_new (n2' := 16) (u2' := 5) (w2' := 35) rfl rfl rfl rfl rfl (by decide) (by decide) (by decide) ⟨Or.inl (by decide), ⟨trivial, trivial⟩⟩ ⟨trivial, ⟨Or.inl (by decide), trivial⟩⟩ ?_
  refine p_dup rfl ?_
  refine p_callA (u2' := 5) (w2' := 35) rfl rfl (by decide) (by decide) ⟨Or.inl (by decide), ⟨trivial, trivial⟩⟩ ⟨Or.inl (by decide), ⟨trivial, ⟨Or.inl (by decide), trivial⟩⟩⟩ trivial (i_X1_init_15 ?_)
  refine p_back ?_
  refine p_aast (k := 3) (by decide) rfl (by decide) (by decide) (by decide) rfl ?_
  refine p_iinc (ls2 := [some (.ref 10), some (.int 4)]) rfl (by decide) rfl ?_
  refine w_X7_init_30 ?_
  refine p_iload rfl ?_
  refine p_const ?_
  refine p_icf (by show ¬ _ ≤ _; decide) ?_
  refine p_aload rfl ?_
  refine p_getR (b := 11) (by decide) rfl rfl ?_
  refine p_iload rfl ?_
  refine p_new (n2' := 17) (u2' := 6) (w2' := 42) rfl rfl rfl rfl rfl (by decide) (by decide) (by decide) ⟨Or.inl (by decide), ⟨trivial, trivial⟩⟩ ⟨trivial, ⟨Or.inl (by decide), trivial⟩⟩ ?_
  refine p_dup rfl ?_
  refine p_callA (u2' := 6) (w2' := 42) rfl rfl (by decide) (by decide) ⟨Or.inl (by decide), ⟨trivial, trivial⟩⟩ ⟨Or.inl (by decide), ⟨trivial, ⟨Or.inl (by decide), trivial⟩⟩⟩ trivial (i_X1_init_16 ?_)
  refine p_back ?_
  refine p_aast (k := 4) (by decide) rfl (by decide) (by decide) (by decide) rfl ?_
  refine p_iinc (ls2 := [some (.ref 10), some (.int 5)]) rfl (by decide) rfl ?_
  refine w_X7_init_30 ?_
  refine p_iload rfl ?_
  refine p_const ?_
  refine p_icf (by show ¬ _ ≤ _; decide) ?_
  refine p_aload rfl ?_
  refine p_getR (b := 11) (by decide) rfl rfl ?_
  refine p_iload rfl ?_
  refine p_new (n2' := 18) (u2' := 7) (w2' := 49) rfl rfl rfl rfl rfl (by decide) (by decide) (by decide) ⟨Or.inl (by decide), ⟨trivial, trivial⟩⟩ ⟨trivial, ⟨Or.inl (by decide), trivial⟩⟩ ?_
  refine p_dup rfl ?_
  refine p_callA (u2' := 7) (w2' := 49) rfl rfl (by decide) (by decide) ⟨Or.inl (by decide), ⟨trivial, trivial⟩⟩ ⟨Or.inl (by decide), ⟨trivial, ⟨Or.inl (by decide), trivial⟩⟩⟩ trivial (i_X1_init_17 ?_)
  refine p_back ?_
  refine p_aast (k := 5) (by decide) rfl (by decide) (by decide) (by decide) rfl ?_
  refine p_iinc (ls2 := [some (.ref 10), some (.int 6)]) rfl (by decide) rfl ?_
  refine w_X7_init_30 ?_
  refine p_iload rfl ?_
  refine p_const ?_
  refine p_icf (by show ¬ _ ≤ _; decide) ?_
  refine p_aload rfl ?_
  refine p_getR (b := 11) (by decide) rfl rfl ?_
  refine p_iload rfl ?_
  refine p_new (n2' := 19) (u2' := 8) (w2' := 56) rfl rfl rfl rfl rfl (by decide) (by decide) (by decide) ⟨Or.inl (by decide), ⟨trivial, trivial⟩⟩ ⟨trivial, ⟨Or.inl (by decide), trivial⟩⟩ ?_
  refine p_dup rfl ?_
  refine p_callA (u2' := 8) (w2' := 56) rfl rfl (by decide) (by decide) ⟨Or.inl (by decide), ⟨trivial, trivial⟩⟩ ⟨Or.inl (by decide), ⟨trivial, ⟨Or.inl (by decide), trivial⟩⟩⟩ trivial (i_X1_init_18 ?_)
  refine p_back ?_
  refine p_aast (k := 6) (by decide) rfl (by decide) (by decide) (by decide) rfl ?_
  refine p_iinc (ls2 := [some (.ref 10), some (.int 7)]) rfl (by decide) rfl ?_
  refine w_X7_init_30 ?_
  refine p_iload rfl ?_
  refine p_const ?_
  refine p_ict (by show _ ≤ _; decide) ?_
  exact h
theorem i_X1_init_21 {li : List (Nat × Option (Nat × Int32))} {lr : List (Nat × Option (Nat × Nat))} {Q : SQ} (h : Q none (SG 22 0 0) (ME (li) (lr))) : C_X1_init [.ref 21] (SG 22 0 0) (ME li lr) Q := by
  unfold C_X1_init
  refine w_X1_init_0 ?_
  refine p_aload rfl ?_
  refine p_obj trivial ?_
  exact h
theorem i_X1_init_22 {li : List (Nat × Option (Nat × Int32))} {lr : List (Nat × Option (Nat × Nat))} {Q : SQ} (h : Q none (SG 23 0 0) (ME (li) (lr))) : C_X1_init [.ref 22] (SG 23 0 0) (ME li lr) Q := by
  unfold C_X1_init
  refine w_X1_init_0 ?_
  refine p_aload rfl ?_
  refine p_obj trivial ?_
  exact h
theorem i_X1_init_23 {li : List (Nat × Option (Nat × Int32))} {lr : List (Nat × Option (Nat × Nat))} {Q : SQ} (h : Q none (SG 24 0 0) (ME (li) (lr))) : C_X1_init [.ref 23] (SG 24 0 0) (ME li lr) Q := by
  unfold C_X1_init
  refine w_X1_init_0 ?_
  refine p_aload rfl ?_
  refine p_obj trivial ?_
  exact h
theorem i_X1_init_24 {li : List (Nat × Option (Nat × Int32))} {lr : List (Nat × Option (Nat × Nat))} {Q : SQ} (h : Q none (SG 25 0 0) (ME (li) (lr))) : C_X1_init [.ref 24] (SG 25 0 0) (ME li lr) Q := by
  unfold C_X1_init
  refine w_X1_init_0 ?_
  refine p_aload rfl ?_
  refine p_obj trivial ?_
  exact h
theorem i_X1_init_25 {li : List (Nat × Option (Nat × Int32))} {lr : List (Nat × Option (Nat × Nat))} {Q : SQ} (h : Q none (SG 26 0 0) (ME (li) (lr))) : C_X1_init [.ref 25] (SG 26 0 0) (ME li lr) Q := by
  unfold C_X1_init
  refine w_X1_init_0 ?_
  refine p_aload rfl ?_
  refine p_obj trivial ?_
  exact h
theorem i_X1_init_26 {li : List (Nat × Option (Nat × Int32))} {lr : List (Nat × Option (Nat × Nat))} {Q : SQ} (h : Q none (SG 27 0 0) (ME (li) (lr))) : C_X1_init [.ref 26] (SG 27 0 0) (ME li lr) Q := by
  unfold C_X1_init
  refine w_X1_init_0 ?_
  refine p_aload rfl ?_
  refine p_obj trivial ?_
  exact h
theorem i_X1_init_27 {li : List (Nat × Option (Nat × Int32))} {lr : List (Nat × Option (Nat × Nat))} {Q : SQ} (h : Q none (SG 28 0 0) (ME (li) (lr))) : C_X1_init [.ref 27] (SG 28 0 0) (ME li lr) Q := by
  unfold C_X1_init
  refine w_X1_init_0 ?_
  refine p_aload rfl ?_
  refine p_obj trivial ?_
  exact h
theorem i_X7_init_19 {li : List (Nat × Option (Nat × Int32))} {lr : List (Nat × Option (Nat × Nat))} {Q : SQ} (h : Q none (SG 28 8 56) (ME ((27, none) :: (26, none) :: (25, none) :: (24, none) :: (23, none) :: (22, none) :: (21, none) :: (19, some (9, 1)) :: (19, some (5, 5)) :: (19, some (4, 1)) :: (20, none) :: li) ((20, some (6, 27)) :: (27, none) :: (20, some (5, 26)) :: (26, none) :: (20, some (4, 25)) :: (25, none) :: (20, some (3, 24)) :: (24, none) :: (20, some (2, 23)) :: (23, none) :: (20, some (1, 22)) :: (22, none) :: (20, some (0, 21)) :: (21, none) :: (19, some (0, 20)) :: (20, none) :: lr))) : C_X7_init [.ref 19] (SG 20 0 0) (ME li lr) Q := by
  unfold C_X7_init
  refine w_X7_init_0 ?_
  refine p_aload rfl ?_
  refine p_obj trivial ?_
  refine p_aload rfl ?_
  refine p_const ?_
  refine p_newa (n2' := 21) (u2' := 1) (w2' := 7) rfl rfl rfl rfl rfl rfl (by decide) (by decide) (by decide) ⟨Or.inl (by decide), trivial⟩ ⟨Or.inl (by decide), trivial⟩ ?_
  refine p_putR (by decide) rfl (by decide) ?_
  refine p_aload rfl ?_
  refine p_const ?_
  refine p_putI (by decide) rfl ?_
  refine p_aload rfl ?_
  refine p_const ?_
  refine p_putI (by decide) rfl ?_
  refine p_aload rfl ?_
  refine p_const ?_
  refine p_putI (by decide) rfl ?_
  refine p_const ?_
  refine p_istore (ls2 := [some (.ref 19), some (.int 0)]) (by decide) rfl ?_
  refine w_X7_init_30 ?_
  refine p_iload rfl ?_
  refine p_const ?_
  refine p_icf (by show ¬ _ ≤ _; decide) ?_
  refine p_aload rfl ?_
  refine p_getR (b := 20) (by decide) rfl rfl ?_
  refine p_iload rfl ?_
  refine p_new (n2' := 22) (u2' := 2) (w2' := 14) rfl rfl rfl rfl rfl (by decide) (by decide) (by decide) ⟨Or.inl (by decide), ⟨trivial, trivial⟩⟩ ⟨trivial, ⟨Or.inl (by decide), trivial⟩⟩ ?_
  refine p_dup rfl ?_
  refine p_callA (u2' := 2) (w2' := 14) rfl rfl (by decide) (by decide) ⟨Or.inl (by decide), ⟨trivial, trivial⟩⟩ ⟨Or.inl (by decide), ⟨trivial, ⟨Or.inl (by decide), trivial⟩⟩⟩ trivial (i_X1_init_21 ?_)
  refine p_back ?_
  refine p_aast (k := 0) (by decide) rfl (by decide) (by decide) (by decide) rfl ?_
  refine p_iinc (ls2 := [some (.ref 19), some (.int 1)]) rfl (by decide) rfl ?_
  refine w_X7_init_30 ?_
  refine p_iload rfl ?_
  refine p_const ?_
  refine p_icf (by show ¬ _ ≤ _; decide) ?_
  refine p_aload rfl ?_
  refine p_getR (b := 20) (by decide) rfl rfl ?_
  refine p_iload rfl ?_
  refine p_new (n2' := 23) (u2' := 3) (w2' := 21) rfl rfl rfl rfl rfl (by decide) (by decide) (by decide) ⟨Or.inl (by decide), ⟨trivial, trivial⟩⟩ ⟨trivial, ⟨Or.inl (by decide), trivial⟩⟩ ?_
  refine p_dup rfl ?_
  refine p_callA (u2' := 3) (w2' := 21) rfl rfl (by decide) (by decide) ⟨Or.inl (by decide), ⟨trivial, trivial⟩⟩ ⟨Or.inl (by decide), ⟨trivial, ⟨Or.inl (by decide), trivial⟩⟩⟩ trivial (i_X1_init_22 ?_)
  refine p_back ?_
  refine p_aast (k := 1) (by decide) rfl (by decide) (by decide) (by decide) rfl ?_
  refine p_iinc (ls2 := [some (.ref 19), some (.int 2)]) rfl (by decide) rfl ?_
  refine w_X7_init_30 ?_
  refine p_iload rfl ?_
  refine p_const ?_
  refine p_icf (by show ¬ _ ≤ _; decide) ?_
  refine p_aload rfl ?_
  refine p_getR (b := 20) (by decide) rfl rfl ?_
  refine p_iload rfl ?_
  refine p_new (n2' := 24) (u2' := 4) (w2' := 28) rfl rfl rfl rfl rfl (by decide) (by decide) (by decide) ⟨Or.inl (by decide), ⟨trivial, trivial⟩⟩ ⟨trivial, ⟨Or.inl (by decide), trivial⟩⟩ ?_
  refine p_dup rfl ?_
  refine p_callA (u2' := 4) (w2' := 28) rfl rfl (by decide) (by decide) ⟨Or.inl (by decide), ⟨trivial, trivial⟩⟩ ⟨Or.inl (by decide), ⟨trivial, ⟨Or.inl (by decide), trivial⟩⟩⟩ trivial (i_X1_init_23 ?_)
  refine p_back ?_
  refine p_aast (k := 2) (by decide) rfl (by decide) (by decide) (by decide) rfl ?_
  refine p_iinc (ls2 := [some (.ref 19), some (.int 3)]) rfl (by decide) rfl ?_
  refine w_X7_init_30 ?_
  refine p_iload rfl ?_
  refine p_const ?_
  refine p_icf (by show ¬ _ ≤ _; decide) ?_
  refine p_aload rfl ?_
  refine p_getR (b := 20) (by decide) rfl rfl ?_
  refine p_iload rfl ?_
  refine p_new (n2' := 25) (u2' := 5) (w2' := 35) rfl rfl rfl rfl rfl (by decide) (by decide) (by decide) ⟨Or.inl (by decide), ⟨trivial, trivial⟩⟩ ⟨trivial, ⟨Or.inl (by decide), trivial⟩⟩ ?_
  refine p_dup rfl ?_
  refine p_callA (u2' := 5) (w2' := 35) rfl rfl (by decide) (by decide) ⟨Or.inl (by decide), ⟨trivial, trivial⟩⟩ ⟨Or.inl (by decide), ⟨trivial, ⟨Or.inl (by decide), trivial⟩⟩⟩ trivial (i_X1_init_24 ?_)
  refine p_back ?_
  refine p_aast (k := 3) (by decide) rfl (by decide) (by decide) (by decide) rfl ?_
  refine p_iinc (ls2 := [some (.ref 19), some (.int 4)]) rfl (by decide) rfl ?_
  refine w_X7_init_30 ?_
  refine p_iload rfl ?_
  refine p_const ?_
  refine p_icf (by show ¬ _ ≤ _; decide) ?_
  refine p_aload rfl ?_
  refine p_getR (b := 20) (by decide) rfl rfl ?_
  refine p_iload rfl ?_
  refine p_new (n2' := 26) (u2' := 6) (w2' := 42) rfl rfl rfl rfl rfl (by decide) (by decide) (by decide) ⟨Or.inl (by decide), ⟨trivial, trivial⟩⟩ ⟨trivial, ⟨Or.inl (by decide), trivial⟩⟩ ?_
  refine p_dup rfl ?_
  refine p_callA (u2' := 6) (w2' := 42) rfl rfl (by decide) (by decide) ⟨Or.inl (by decide), ⟨trivial, trivial⟩⟩ ⟨Or.inl (by decide), ⟨trivial, ⟨Or.inl (by decide), trivial⟩⟩⟩ trivial (i_X1_init_25 ?_)
  refine p_back ?_
  refine p_aast (k := 4) (by decide) rfl (by decide) (by decide) (by decide) rfl ?_
  refine p_iinc (ls2 := [some (.ref 19), some (.int 5)]) rfl (by decide) rfl ?_
  refine w_X7_init_30 ?_
  refine p_iload rfl ?_
  refine p_const ?_
  refine p_icf (by show ¬ _ ≤ _; decide) ?_
  refine p_aload rfl ?_
  refine p_getR (b := 20) (by decide) rfl rfl ?_
  refine p_iload rfl ?_
  refine p_new (n2' := 27) (u2' := 7) (w2' := 49) rfl rfl rfl rfl rfl (by decide) (by decide) (by decide) ⟨Or.inl (by decide), ⟨trivial, trivial⟩⟩ ⟨trivial, ⟨Or.inl (by decide), trivial⟩⟩ ?_
  refine p_dup rfl ?_
  refine p_callA (u2' := 7) (w2' := 49) rfl rfl (by decide) (by decide) ⟨Or.inl (by decide), ⟨trivial, trivial⟩⟩ ⟨Or.inl (by decide), ⟨trivial, ⟨Or.inl (by decide), trivial⟩⟩⟩ trivial (i_X1_init_26 ?_)
  refine p_back ?_
  refine p_aast (k := 5) (by decide) rfl (by decide) (by decide) (by decide) rfl ?_
  refine p_iinc (ls2 := [some (.ref 19), some (.int 6)]) rfl (by decide) rfl ?_
  refine w_X7_init_30 ?_
  refine p_iload rfl ?_
  refine p_const ?_
  refine p_icf (by show ¬ _ ≤ _; decide) ?_
  refine p_aload rfl ?_
  refine p_getR (b := 20) (by decide) rfl rfl ?_
  refine p_iload rfl ?_
  refine p_new (n2' := 28) (u2' := 8) (w2' := 56) rfl rfl rfl rfl rfl (by decide) (by decide) (by decide) ⟨Or.inl (by decide), ⟨trivial, trivial⟩⟩ ⟨trivial, ⟨Or.inl (by decide), trivial⟩⟩ ?_
  refine p_dup rfl ?_
  refine p_callA (u2' := 8) (w2' := 56) rfl rfl (by decide) (by decide) ⟨Or.inl (by decide), ⟨trivial, trivial⟩⟩ ⟨Or.inl (by decide), ⟨trivial, ⟨Or.inl (by decide), trivial⟩⟩⟩ trivial (i_X1_init_27 ?_)
  refine p_back ?_
  refine p_aast (k := 6) (by decide) rfl (by decide) (by decide) (by decide) rfl ?_
  refine p_iinc (ls2 := [some (.ref 19), some (.int 7)]) rfl (by decide) rfl ?_
  refine w_X7_init_30 ?_
  refine p_iload rfl ?_
  refine p_const ?_
  refine p_ict (by show _ ≤ _; decide) ?_
  exact h
theorem i_X4_init_28 {li : List (Nat × Option (Nat × Int32))} {lr : List (Nat × Option (Nat × Nat))} {Q : SQ} (h : Q none (SG 34 5 35) (ME ((33, none) :: (32, none) :: (31, none) :: (30, none) :: (29, none) :: li) ((28, some (4, 33)) :: (33, none) :: (28, some (3, 32)) :: (32, none) :: (28, some (2, 31)) :: (31, none) :: (28, some (1, 30)) :: (30, none) :: (28, some (0, 29)) :: (29, none) :: lr))) : C_X4_init [.ref 28] (SG 29 0 0) (ME li lr) Q := by
  unfold C_X4_init
  refine w_X4_init_0 ?_
  refine p_aload rfl ?_
  refine p_obj trivial ?_
  refine p_aload rfl ?_
  refine p_const ?_
  refine p_newa (n2' := 30) (u2' := 1) (w2' := 7) rfl rfl rfl rfl rfl rfl (by decide) (by decide) (by decide) ⟨Or.inl (by decide), trivial⟩ ⟨Or.inl (by decide), trivial⟩ ?_
  refine p_putR (by decide) rfl (by decide) ?_
  refine p_aload rfl ?_
  refine p_const ?_
  refine p_newa (n2' := 31) (u2' := 2) (w2' := 14) rfl rfl rfl rfl rfl rfl (by decide) (by decide) (by decide) ⟨Or.inl (by decide), trivial⟩ ⟨Or.inl (by decide), trivial⟩ ?_
  refine p_putR (by decide) rfl (by decide) ?_
  refine p_aload rfl ?_
  refine p_const ?_
  refine p_newa (n2' := 32) (u2' := 3) (w2' := 21) rfl rfl rfl rfl rfl rfl (by decide) (by decide) (by decide) ⟨Or.inl (by decide), trivial⟩ ⟨Or.inl (by decide), trivial⟩ ?_
  refine p_putR (by decide) rfl (by decide) ?_
  refine p_aload rfl ?_
  refine p_const ?_
  refine p_newa (n2' := 33) (u2' := 4) (w2' := 28) rfl rfl rfl rfl rfl rfl (by decide) (by decide) (by decide) ⟨Or.inl (by decide), trivial⟩ ⟨Or.inl (by decide), trivial⟩ ?_
  refine p_putR (by decide) rfl (by decide) ?_
  refine p_aload rfl ?_
  refine p_const ?_
  refine p_newa (n2' := 34) (u2' := 5) (w2' := 35) rfl rfl rfl rfl rfl rfl (by decide) (by decide) (by decide) ⟨Or.inl (by decide), trivial⟩ ⟨Or.inl (by decide), trivial⟩ ?_
  refine p_putR (by decide) rfl (by decide) ?_
  exact h
theorem i_X1_init_37 {li : List (Nat × Option (Nat × Int32))} {lr : List (Nat × Option (Nat × Nat))} {Q : SQ} (h : Q none (SG 38 0 0) (ME (li) (lr))) : C_X1_init [.ref 37] (SG 38 0 0) (ME li lr) Q := by
  unfold C_X1_init
  refine w_X1_init_0 ?_
  refine p_aload rfl ?_
  refine p_obj trivial ?_
  exact h
theorem i_X1_init_38 {li : List (Nat × Option (Nat × Int32))} {lr : List (Nat × Option (Nat × Nat))} {Q : SQ} (h : Q none (SG 39 0 0) (ME (li) (lr))) : C_X1_init [.ref 38] (SG 39 0 0) (ME li lr) Q := by
  unfold C_X1_init
  refine w_X1_init_0 ?_
  refine p_aload rfl ?_
  refine p_obj trivial ?_
  exact h
theorem i_X1_init_39 {li : List (Nat × Option (Nat × Int32))} {lr : List (Nat × Option (Nat × Nat))} {Q : SQ} (h : Q none (SG 40 0 0) (ME (li) (lr))) : C_X1_init [.ref 39] (SG 40 0 0) (ME li lr) Q := by
  unfold C_X1_init
  refine w_X1_init_0 ?_
  refine p_aload rfl ?_
  refine p_obj trivial ?_
  exact h
theorem i_X1_init_40 {li : List (Nat × Option (Nat × Int32))} {lr : List (Nat × Option (Nat × Nat))} {Q : SQ} (h : Q none (SG 41 0 0) (ME (li) (lr))) : C_X1_init [.ref 40] (SG 41 0 0) (ME li lr) Q := by
  unfold C_X1_init
  refine w_X1_init_0 ?_
  refine p_aload rfl ?_
  refine p_obj trivial ?_
  exact h
theorem i_X1_init_41 {li : List (Nat × Option (Nat × Int32))} {lr : List (Nat × Option (Nat × Nat))} {Q : SQ} (h : Q none (SG 42 0 0) (ME (li) (lr))) : C_X1_init [.ref 41] (SG 42 0 0) (ME li lr) Q := by
  unfold C_X1_init
  refine w_X1_init_0 ?_
  refine p_aload rfl ?_
  refine p_obj trivial ?_
  exact h
theorem i_X1_init_42 {li : List (Nat × Option (Nat × Int32))} {lr : List (Nat × Option (Nat × Nat))} {Q : SQ} (h : Q none (SG 43 0 0) (ME (li) (lr))) : C_X1_init [.ref 42] (SG 43 0 0) (ME li lr) Q := by
  unfold C_X1_init
  refine w_X1_init_0 ?_
  refine p_aload rfl ?_
  refine p_obj trivial ?_
  exact h
theorem i_X1_init_43 {li : List (Nat × Option (Nat × Int32))} {lr : List (Nat × Option (Nat × Nat))} {Q : SQ} (h : Q none (SG 44 0 0) (ME (li) (lr))) : C_X1_init [.ref 43] (SG 44 0 0) (ME li lr) Q := by
  unfold C_X1_init
  refine w_X1_init_0 ?_
  refine p_aload rfl ?_
  refine p_obj trivial ?_
  exact h
theorem i_X7_init_35 {li : List (Nat × Option (Nat × Int32))} {lr : List (Nat × Option (Nat × Nat))} {Q : SQ} (h : Q none (SG 44 8 56) (ME ((43, none) :: (42, none) :: (41, none) :: (40, none) :: (39, none) :: (38, none) :: (37, none) :: (35, some (9, 1)) :: (35, some (5, 5)) :: (35, some (4, 1)) :: (36, none) :: li) ((36, some (6, 43)) :: (43, none) :: (36, some (5, 42)) :: (42, none) :: (36, some (4, 41)) :: (41, none) :: (36, some (3, 40)) :: (40, none) :: (36, some (2, 39)) :: (39, none) :: (36, some (1, 38)) :: (38, none) :: (36, some (0, 37)) :: (37, none) :: (35, some (0, 36)) :: (36, none) :: lr))) : C_X7_init [.ref 35] (SG 36 0 0) (ME li lr) Q := by
  unfold C_X7_init
  refine w_X7_init_0 ?_
  refine p_aload rfl ?_
  refine p_obj trivial ?_
  refine p_aload rfl ?_
  refine p_const ?_
  refine p_newa (n2' := 37) (u2' := 1) (w2' := 7) rfl rfl rfl rfl rfl rfl (by decide) (by decide) (by decide) ⟨Or.inl (by decide), trivial⟩ ⟨Or.inl (by decide), trivial⟩ ?_
  refine p_putR (by decide) rfl (by decide) ?_
  refine p_aload rfl ?_
  refine p_const ?_
  refine p_putI (by decide) rfl ?_
  refine p_aload rfl ?_
  refine p_const ?_
  refine p_putI (by decide) rfl ?_
  refine p_aload rfl ?_
  refine p_const ?_
  refine p_putI (by decide) rfl ?_
  refine p_const ?_
  refine p_istore (ls2 := [some (.ref 35), some (.int 0)]) (by decide) rfl ?_
  refine w_X7_init_30 ?_
  refine p_iload rfl ?_
  refine p_const ?_
  refine p_icf (by show ¬ _ ≤ _; decide) ?_
  refine p_aload rfl ?_
  refine p_getR (b := 36) (by decide) rfl rfl ?_
  refine p_iload rfl ?_
  refine p_new (n2' := 38) (u2' := 2) (w2' := 14) rfl rfl rfl rfl rfl (by decide) (by decide) (by decide) ⟨Or.inl (by decide), ⟨trivial, trivial⟩⟩ ⟨trivial, ⟨Or.inl (by decide), trivial⟩⟩ ?_
  refine p_dup rfl ?_
  refine p_callA (u2' := 2) (w2' := 14) rfl rfl (by decide) (by decide) ⟨Or.inl (by decide), ⟨trivial, trivial⟩⟩ ⟨Or.inl (by decide), ⟨trivial, ⟨Or.inl (by decide), trivial⟩⟩⟩ trivial (i_X1_init_37 ?_)
  refine p_back ?_
  refine p_aast (k := 0) (by decide) rfl (by decide) (by decide) (by decide) rfl ?_
  refine p_iinc (ls2 := [some (.ref 35), some (.int 1)]) rfl (by decide) rfl ?_
  refine w_X7_init_30 ?_
  refine p_iload rfl ?_
  refine p_const ?_
  refine p_icf (by show ¬ _ ≤ _; decide) ?_
  refine p_aload rfl ?_
  refine p_getR (b := 36) (by decide) rfl rfl ?_
  refine p_iload rfl ?_
  refine p_new (n2' := 39) (u2' := 3) (w2' := 21) rfl rfl rfl rfl rfl (by decide) (by decide) (by decide) ⟨Or.inl (by decide), ⟨trivial, trivial⟩⟩ ⟨trivial, ⟨Or.inl (by decide), trivial⟩⟩ ?_
  refine p_dup rfl ?_
  refine p_callA (u2' := 3) (w2' := 21) rfl rfl (by decide) (by decide) ⟨Or.inl (by decide), ⟨trivial, trivial⟩⟩ ⟨Or.inl (by decide), ⟨trivial, ⟨Or.inl (by decide), trivial⟩⟩⟩ trivial (i_X1_init_38 ?_)
  refine p_back ?_
  refine p_aast (k := 1) (by decide) rfl (by decide) (by decide) (by decide) rfl ?_
  refine p_iinc (ls2 := [some (.ref 35), some (.int 2)]) rfl (by decide) rfl ?_
  refine w_X7_init_30 ?_
  refine p_iload rfl ?_
  refine p_const ?_
  refine p_icf (by show ¬ _ ≤ _; decide) ?_
  refine p_aload rfl ?_
  refine p_getR (b := 36) (by decide) rfl rfl ?_
  refine p_iload rfl ?_
  refine p_new (n2' := 40) (u2' := 4) (w2' := 28) rfl rfl rfl rfl rfl (by decide) (by decide) (by decide) ⟨Or.inl (by decide), ⟨trivial, trivial⟩⟩ ⟨trivial, ⟨Or.inl (by decide), trivial⟩⟩ ?_
  refine p_dup rfl ?_
  refine p_callA (u2' := 4) (w2' := 28) rfl rfl (by decide) (by decide) ⟨Or.inl (by decide), ⟨trivial, trivial⟩⟩ ⟨Or.inl (by decide), ⟨trivial, ⟨Or.inl (by decide), trivial⟩⟩⟩ trivial (i_X1_init_39 ?_)
  refine p_back ?_
  refine p_aast (k := 2) (by decide) rfl (by decide) (by decide) (by decide) rfl ?_
  refine p_iinc (ls2 := [some (.ref 35), some (.int 3)]) rfl (by decide) rfl ?_
  refine w_X7_init_30 ?_
  refine p_iload rfl ?_
  refine p_const ?_
  refine p_icf (by show ¬ _ ≤ _; decide) ?_
  refine p_aload rfl ?_
  refine p_getR (b := 36) (by decide) rfl rfl ?_
  refine p_iload rfl ?_
  refine p_new (n2' := 41) (u2' := 5) (w2' := 35) rfl rfl rfl rfl rfl (by decide) (by decide) (by decide) ⟨Or.inl (by decide), ⟨trivial, trivial⟩⟩ ⟨trivial, ⟨Or.inl (by decide), trivial⟩⟩ ?_
  refine p_dup rfl ?_
  refine p_callA (u2' := 5) (w2' := 35) rfl rfl (by decide) (by decide) ⟨Or.inl (by decide), ⟨trivial, trivial⟩⟩ ⟨Or.inl (by decide), ⟨trivial, ⟨Or.inl (by decide), trivial⟩⟩⟩ trivial (i_X1_init_40 ?_)
  refine p_back ?_
  refine p_aast (k := 3) (by decide) rfl (by decide) (by decide) (by decide) rfl ?_
  refine p_iinc (ls2 := [some (.ref 35), some (.int 4)]) rfl (by decide) rfl ?_
  refine w_X7_init_30 ?_
  refine p_iload rfl ?_
  refine p_const ?_
  refine p_icf (by show ¬ _ ≤ _; decide) ?_
  refine p_aload rfl ?_
  refine p_getR (b := 36) (by decide) rfl rfl ?_
  refine p_iload rfl ?_
  refine p_new (n2' := 42) (u2' := 6) (w2' := 42) rfl rfl rfl rfl rfl (by decide) (by decide) (by decide) ⟨Or.inl (by decide), ⟨trivial, trivial⟩⟩ ⟨trivial, ⟨Or.inl (by decide), trivial⟩⟩ ?_
  refine p_dup rfl ?_
  refine p_callA (u2' := 6) (w2' := 42) rfl rfl (by decide) (by decide) ⟨Or.inl (by decide), ⟨trivial, trivial⟩⟩ ⟨Or.inl (by decide), ⟨trivial, ⟨Or.inl (by decide), trivial⟩⟩⟩ trivial (i_X1_init_41 ?_)
  refine p_back ?_
  refine p_aast (k := 4) (by decide) rfl (by decide) (by decide) (by decide) rfl ?_
  refine p_iinc (ls2 := [some (.ref 35), some (.int 5)]) rfl (by decide) rfl ?_
  refine w_X7_init_30 ?_
  refine p_iload rfl ?_
  refine p_const ?_
  refine p_icf (by show ¬ _ ≤ _; decide) ?_
  refine p_aload rfl ?_
  refine p_getR (b := 36) (by decide) rfl rfl ?_
  refine p_iload rfl ?_
  refine p_new (n2' := 43) (u2' := 7) (w2' := 49) rfl rfl rfl rfl rfl (by decide) (by decide) (by decide) ⟨Or.inl (by decide), ⟨trivial, trivial⟩⟩ ⟨trivial, ⟨Or.inl (by decide), trivial⟩⟩ ?_
  refine p_dup rfl ?_
  refine p_callA (u2' := 7) (w2' := 49) rfl rfl (by decide) (by decide) ⟨Or.inl (by decide), ⟨trivial, trivial⟩⟩ ⟨Or.inl (by decide), ⟨trivial, ⟨Or.inl (by decide), trivial⟩⟩⟩ trivial (i_X1_init_42 ?_)
  refine p_back ?_
  refine p_aast (k := 5) (by decide) rfl (by decide) (by decide) (by decide) rfl ?_
  refine p_iinc (ls2 := [some (.ref 35), some (.int 6)]) rfl (by decide) rfl ?_
  refine w_X7_init_30 ?_
  refine p_iload rfl ?_
  refine p_const ?_
  refine p_icf (by show ¬ _ ≤ _; decide) ?_
  refine p_aload rfl ?_
  refine p_getR (b := 36) (by decide) rfl rfl ?_
  refine p_iload rfl ?_
  refine p_new (n2' := 44) (u2' := 8) (w2' := 56) rfl rfl rfl rfl rfl (by decide) (by decide) (by decide) ⟨Or.inl (by decide), ⟨trivial, trivial⟩⟩ ⟨trivial, ⟨Or.inl (by decide), trivial⟩⟩ ?_
  refine p_dup rfl ?_
  refine p_callA (u2' := 8) (w2' := 56) rfl rfl (by decide) (by decide) ⟨Or.inl (by decide), ⟨trivial, trivial⟩⟩ ⟨Or.inl (by decide), ⟨trivial, ⟨Or.inl (by decide), trivial⟩⟩⟩ trivial (i_X1_init_43 ?_)
  refine p_back ?_
  refine p_aast (k := 6) (by decide) rfl (by decide) (by decide) (by decide) rfl ?_
  refine p_iinc (ls2 := [some (.ref 35), some (.int 7)]) rfl (by decide) rfl ?_
  refine w_X7_init_30 ?_
  refine p_iload rfl ?_
  refine p_const ?_
  refine p_ict (by show _ ≤ _; decide) ?_
  exact h
theorem i_X4_init_44 {li : List (Nat × Option (Nat × Int32))} {lr : List (Nat × Option (Nat × Nat))} {Q : SQ} (h : Q none (SG 50 5 35) (ME ((49, none) :: (48, none) :: (47, none) :: (46, none) :: (45, none) :: li) ((44, some (4, 49)) :: (49, none) :: (44, some (3, 48)) :: (48, none) :: (44, some (2, 47)) :: (47, none) :: (44, some (1, 46)) :: (46, none) :: (44, some (0, 45)) :: (45, none) :: lr))) : C_X4_init [.ref 44] (SG 45 0 0) (ME li lr) Q := by
  unfold C_X4_init
  refine w_X4_init_0 ?_
  refine p_aload rfl ?_
  refine p_obj trivial ?_
  refine p_aload rfl ?_
  refine p_const ?_
  refine p_newa (n2' := 46) (u2' := 1) (w2' := 7) rfl rfl rfl rfl rfl rfl (by decide) (by decide) (by decide) ⟨Or.inl (by decide), trivial⟩ ⟨Or.inl (by decide), trivial⟩ ?_
  refine p_putR (by decide) rfl (by decide) ?_
  refine p_aload rfl ?_
  refine p_const ?_
  refine p_newa (n2' := 47) (u2' := 2) (w2' := 14) rfl rfl rfl rfl rfl rfl (by decide) (by decide) (by decide) ⟨Or.inl (by decide), trivial⟩ ⟨Or.inl (by decide), trivial⟩ ?_
  refine p_putR (by decide) rfl (by decide) ?_
  refine p_aload rfl ?_
  refine p_const ?_
  refine p_newa (n2' := 48) (u2' := 3) (w2' := 21) rfl rfl rfl rfl rfl rfl (by decide) (by decide) (by decide) ⟨Or.inl (by decide), trivial⟩ ⟨Or.inl (by decide), trivial⟩ ?_
  refine p_putR (by decide) rfl (by decide) ?_
  refine p_aload rfl ?_
  refine p_const ?_
  refine p_newa (n2' := 49) (u2' := 4) (w2' := 28) rfl rfl rfl rfl rfl rfl (by decide) (by decide) (by decide) ⟨Or.inl (by decide), trivial⟩ ⟨Or.inl (by decide), trivial⟩ ?_
  refine p_putR (by decide) rfl (by decide) ?_
  refine p_aload rfl ?_
  refine p_const ?_
  refine p_newa (n2' := 50) (u2' := 5) (w2' := 35) rfl rfl rfl rfl rfl rfl (by decide) (by decide) (by decide) ⟨Or.inl (by decide), trivial⟩ ⟨Or.inl (by decide), trivial⟩ ?_
  refine p_putR (by decide) rfl (by decide) ?_
  exact h
theorem i_X2_init_34 {li : List (Nat × Option (Nat × Int32))} {lr : List (Nat × Option (Nat × Nat))} {Q : SQ} (h : Q none (SG 52 17 179) (ME ((51, none) :: (50, none) :: (49, none) :: (48, none) :: (47, none) :: (46, none) :: (45, none) :: (44, none) :: (43, none) :: (42, none) :: (41, none) :: (40, none) :: (39, none) :: (38, none) :: (37, none) :: (35, some (9, 1)) :: (35, some (5, 5)) :: (35, some (4, 1)) :: (36, none) :: (35, none) :: li) ((34, some (3, 51)) :: (51, none) :: (34, some (2, 50)) :: (50, none) :: (34, some (1, 44)) :: (44, some (4, 49)) :: (49, none) :: (44, some (3, 48)) :: (48, none) :: (44, some (2, 47)) :: (47, none) :: (44, some (1, 46)) :: (46, none) :: (44, some (0, 45)) :: (45, none) :: (44, none) :: (34, some (0, 35)) :: (36, some (6, 43)) :: (43, none) :: (36, some (5, 42)) :: (42, none) :: (36, some (4, 41)) :: (41, none) :: (36, some (3, 40)) :: (40, none) :: (36, some (2, 39)) :: (39, none) :: (36, some (1, 38)) :: (38, none) :: (36, some (0, 37)) :: (37, none) :: (35, some (0, 36)) :: (36, none) :: (35, none) :: lr))) : C_X2_init [.ref 34] (SG 35 0 0) (ME li lr) Q := by
  unfold C_X2_init
  refine w_X2_init_0 ?_
  refine p_aload rfl ?_
  refine p_obj trivial ?_
  refine p_aload rfl ?_
  refine p_new (n2' := 36) (u2' := 1) (w2' := 10) rfl rfl rfl rfl rfl (by decide) (by decide) (by decide) ⟨Or.inl (by decide), trivial⟩ ⟨Or.inl (by decide), trivial⟩ ?_
  refine p_dup rfl ?_
  refine p_callA (u2' := 9) (w2' := 66) rfl rfl (by decide) (by decide) ⟨Or.inl (by decide), trivial⟩ ⟨Or.inl (by decide), ⟨Or.inl (by decide), trivial⟩⟩ trivial (i_X7_init_35 ?_)
  refine p_back ?_
  refine p_putR (by decide) rfl (by decide) ?_
  refine p_aload rfl ?_
  refine p_new (n2' := 45) (u2' := 10) (w2' := 72) rfl rfl rfl rfl rfl (by decide) (by decide) (by decide) ⟨Or.inl (by decide), trivial⟩ ⟨Or.inl (by decide), trivial⟩ ?_
  refine p_dup rfl ?_
  refine p_callA (u2' := 15) (w2' := 107) rfl rfl (by decide) (by decide) ⟨Or.inl (by decide), trivial⟩ ⟨Or.inl (by decide), ⟨Or.inl (by decide), trivial⟩⟩ trivial (i_X4_init_44 ?_)
  refine p_back ?_
  refine p_putR (by decide) rfl (by decide) ?_
  refine p_aload rfl ?_
  refine p_const ?_
  refine p_newa (n2' := 51) (u2' := 16) (w2' := 143) rfl rfl rfl rfl rfl rfl (by decide) (by decide) (by decide) ⟨Or.inl (by decide), trivial⟩ ⟨Or.inl (by decide), trivial⟩ ?_
  refine p_putR (by decide) rfl (by decide) ?_
  refine p_aload rfl ?_
  refine p_const ?_
  refine p_newa (n2' := 52) (u2' := 17) (w2' := 179) rfl rfl rfl rfl rfl rfl (by decide) (by decide) (by decide) ⟨Or.inl (by decide), trivial⟩ ⟨Or.inl (by decide), trivial⟩ ?_
  refine p_putR (by decide) rfl (by decide) ?_
  exact h
theorem i_X4_init_53 {li : List (Nat × Option (Nat × Int32))} {lr : List (Nat × Option (Nat × Nat))} {Q : SQ} (h : Q none (SG 59 5 35) (ME ((58, none) :: (57, none) :: (56, none) :: (55, none) :: (54, none) :: li) ((53, some (4, 58)) :: (58, none) :: (53, some (3, 57)) :: (57, none) :: (53, some (2, 56)) :: (56, none) :: (53, some (1, 55)) :: (55, none) :: (53, some (0, 54)) :: (54, none) :: lr))) : C_X4_init [.ref 53] (SG 54 0 0) (ME li lr) Q := by
  unfold C_X4_init
  refine w_X4_init_0 ?_
  refine p_aload rfl ?_
  refine p_obj trivial ?_
  refine p_aload rfl ?_
  refine p_const ?_
  refine p_newa (n2' := 55) (u2' := 1) (w2' := 7) rfl rfl rfl rfl rfl rfl (by decide) (by decide) (by decide) ⟨Or.inl (by decide), trivial⟩ ⟨Or.inl (by decide), trivial⟩ ?_
  refine p_putR (by decide) rfl (by decide) ?_
  refine p_aload rfl ?_
  refine p_const ?_
  refine p_newa (n2' := 56) (u2' := 2) (w2' := 14) rfl rfl rfl rfl rfl rfl (by decide) (by decide) (by decide) ⟨Or.inl (by decide), trivial⟩ ⟨Or.inl (by decide), trivial⟩ ?_
  refine p_putR (by decide) rfl (by decide) ?_
  refine p_aload rfl ?_
  refine p_const ?_
  refine p_newa (n2' := 57) (u2' := 3) (w2' := 21) rfl rfl rfl rfl rfl rfl (by decide) (by decide) (by decide) ⟨Or.inl (by decide), trivial⟩ ⟨Or.inl (by decide), trivial⟩ ?_
  refine p_putR (by decide) rfl (by decide) ?_
  refine p_aload rfl ?_
  refine p_const ?_
  refine p_newa (n2' := 58) (u2' := 4) (w2' := 28) rfl rfl rfl rfl rfl rfl (by decide) (by decide) (by decide) ⟨Or.inl (by decide), trivial⟩ ⟨Or.inl (by decide), trivial⟩ ?_
  refine p_putR (by decide) rfl (by decide) ?_
  refine p_aload rfl ?_
  refine p_const ?_
  refine p_newa (n2' := 59) (u2' := 5) (w2' := 35) rfl rfl rfl rfl rfl rfl (by decide) (by decide) (by decide) ⟨Or.inl (by decide), trivial⟩ ⟨Or.inl (by decide), trivial⟩ ?_
  refine p_putR (by decide) rfl (by decide) ?_
  exact h
theorem i_X6_init_52 {li : List (Nat × Option (Nat × Int32))} {lr : List (Nat × Option (Nat × Nat))} {Q : SQ} (h : Q none (SG 59 6 41) (ME ((58, none) :: (57, none) :: (56, none) :: (55, none) :: (54, none) :: (53, none) :: li) ((52, some (0, 53)) :: (53, some (4, 58)) :: (58, none) :: (53, some (3, 57)) :: (57, none) :: (53, some (2, 56)) :: (56, none) :: (53, some (1, 55)) :: (55, none) :: (53, some (0, 54)) :: (54, none) :: (53, none) :: lr))) : C_X6_init [.ref 52] (SG 53 0 0) (ME li lr) Q := by
  unfold C_X6_init
  refine w_X6_init_0 ?_
  refine p_aload rfl ?_
  refine p_obj trivial ?_
  refine p_aload rfl ?_
  refine p_new (n2' := 54) (u2' := 1) (w2' := 6) rfl rfl rfl rfl rfl (by decide) (by decide) (by decide) ⟨Or.inl (by decide), trivial⟩ ⟨Or.inl (by decide), trivial⟩ ?_
  refine p_dup rfl ?_
  refine p_callA (u2' := 6) (w2' := 41) rfl rfl (by decide) (by decide) ⟨Or.inl (by decide), trivial⟩ ⟨Or.inl (by decide), ⟨Or.inl (by decide), trivial⟩⟩ trivial (i_X4_init_53 ?_)
  refine p_back ?_
  refine p_putR (by decide) rfl (by decide) ?_
  exact h
theorem i_X3_init_59 {li : List (Nat × Option (Nat × Int32))} {lr : List (Nat × Option (Nat × Nat))} {Q : SQ} (h : Q none (SG 60 0 0) (ME ((59, some (4, (-1))) :: li) (lr))) : C_X3_init [.ref 59] (SG 60 0 0) (ME li lr) Q := by
  unfold C_X3_init
  refine w_X3_init_0 ?_
  refine p_aload rfl ?_
  refine p_obj trivial ?_
  refine p_aload rfl ?_
  refine p_const ?_
  refine p_putI (by decide) rfl ?_
  exact h
theorem i_X0_init_60 {li : List (Nat × Option (Nat × Int32))} {lr : List (Nat × Option (Nat × Nat))} {Q : SQ} (h : Q none (SG 62 1 20) (ME ((61, none) :: li) ((60, some (0, 61)) :: (61, none) :: lr))) : C_X0_init [.ref 60] (SG 61 0 0) (ME li lr) Q := by
  unfold C_X0_init
  refine w_X0_init_0 ?_
  refine p_aload rfl ?_
  refine p_obj trivial ?_
  refine p_aload rfl ?_
  refine p_const ?_
  refine p_newa (n2' := 62) (u2' := 1) (w2' := 20) rfl rfl rfl rfl rfl rfl (by decide) (by decide) (by decide) ⟨Or.inl (by decide), trivial⟩ ⟨Or.inl (by decide), trivial⟩ ?_
  refine p_putR (by decide) rfl (by decide) ?_
  exact h
theorem i_X5_init_64 {li : List (Nat × Option (Nat × Int32))} {lr : List (Nat × Option (Nat × Nat))} {Q : SQ} (h : Q none (SG 66 1 160) (ME ((65, none) :: (64, some (0, (-1))) :: li) ((64, some (3, 65)) :: (65, none) :: lr))) : C_X5_init [.ref 64] (SG 65 0 0) (ME li lr) Q := by
  unfold C_X5_init
  refine w_X5_init_0 ?_
  refine p_aload rfl ?_
  refine p_obj trivial ?_
  refine p_aload rfl ?_
  refine p_const ?_
  refine p_putI (by decide) rfl ?_
  refine p_aload rfl ?_
  refine p_const ?_
  refine p_newa (n2' := 66) (u2' := 1) (w2' := 160) rfl rfl rfl rfl rfl rfl (by decide) (by decide) (by decide) ⟨Or.inl (by decide), trivial⟩ ⟨Or.inl (by decide), trivial⟩ ?_
  refine p_putR (by decide) rfl (by decide) ?_
  exact h
theorem i_X5_init_66 {li : List (Nat × Option (Nat × Int32))} {lr : List (Nat × Option (Nat × Nat))} {Q : SQ} (h : Q none (SG 68 1 160) (ME ((67, none) :: (66, some (0, (-1))) :: li) ((66, some (3, 67)) :: (67, none) :: lr))) : C_X5_init [.ref 66] (SG 67 0 0) (ME li lr) Q := by
  unfold C_X5_init
  refine w_X5_init_0 ?_
  refine p_aload rfl ?_
  refine p_obj trivial ?_
  refine p_aload rfl ?_
  refine p_const ?_
  refine p_putI (by decide) rfl ?_
  refine p_aload rfl ?_
  refine p_const ?_
  refine p_newa (n2' := 68) (u2' := 1) (w2' := 160) rfl rfl rfl rfl rfl rfl (by decide) (by decide) (by decide) ⟨Or.inl (by decide), trivial⟩ ⟨Or.inl (by decide), trivial⟩ ?_
  refine p_putR (by decide) rfl (by decide) ?_
  exact h
theorem i_X5_init_68 {li : List (Nat × Option (Nat × Int32))} {lr : List (Nat × Option (Nat × Nat))} {Q : SQ} (h : Q none (SG 70 1 160) (ME ((69, none) :: (68, some (0, (-1))) :: li) ((68, some (3, 69)) :: (69, none) :: lr))) : C_X5_init [.ref 68] (SG 69 0 0) (ME li lr) Q := by
  unfold C_X5_init
  refine w_X5_init_0 ?_
  refine p_aload rfl ?_
  refine p_obj trivial ?_
  refine p_aload rfl ?_
  refine p_const ?_
  refine p_putI (by decide) rfl ?_
  refine p_aload rfl ?_
  refine p_const ?_
  refine p_newa (n2' := 70) (u2' := 1) (w2' := 160) rfl rfl rfl rfl rfl rfl (by decide) (by decide) (by decide) ⟨Or.inl (by decide), trivial⟩ ⟨Or.inl (by decide), trivial⟩ ?_
  refine p_putR (by decide) rfl (by decide) ?_
  exact h
theorem i_X5_init_70 {li : List (Nat × Option (Nat × Int32))} {lr : List (Nat × Option (Nat × Nat))} {Q : SQ} (h : Q none (SG 72 1 160) (ME ((71, none) :: (70, some (0, (-1))) :: li) ((70, some (3, 71)) :: (71, none) :: lr))) : C_X5_init [.ref 70] (SG 71 0 0) (ME li lr) Q := by
  unfold C_X5_init
  refine w_X5_init_0 ?_
  refine p_aload rfl ?_
  refine p_obj trivial ?_
  refine p_aload rfl ?_
  refine p_const ?_
  refine p_putI (by decide) rfl ?_
  refine p_aload rfl ?_
  refine p_const ?_
  refine p_newa (n2' := 72) (u2' := 1) (w2' := 160) rfl rfl rfl rfl rfl rfl (by decide) (by decide) (by decide) ⟨Or.inl (by decide), trivial⟩ ⟨Or.inl (by decide), trivial⟩ ?_
  refine p_putR (by decide) rfl (by decide) ?_
  exact h
theorem i_X5_init_72 {li : List (Nat × Option (Nat × Int32))} {lr : List (Nat × Option (Nat × Nat))} {Q : SQ} (h : Q none (SG 74 1 160) (ME ((73, none) :: (72, some (0, (-1))) :: li) ((72, some (3, 73)) :: (73, none) :: lr))) : C_X5_init [.ref 72] (SG 73 0 0) (ME li lr) Q := by
  unfold C_X5_init
  refine w_X5_init_0 ?_
  refine p_aload rfl ?_
  refine p_obj trivial ?_
  refine p_aload rfl ?_
  refine p_const ?_
  refine p_putI (by decide) rfl ?_
  refine p_aload rfl ?_
  refine p_const ?_
  refine p_newa (n2' := 74) (u2' := 1) (w2' := 160) rfl rfl rfl rfl rfl rfl (by decide) (by decide) (by decide) ⟨Or.inl (by decide), trivial⟩ ⟨Or.inl (by decide), trivial⟩ ?_
  refine p_putR (by decide) rfl (by decide) ?_
  exact h
theorem i_X5_init_74 {li : List (Nat × Option (Nat × Int32))} {lr : List (Nat × Option (Nat × Nat))} {Q : SQ} (h : Q none (SG 76 1 160) (ME ((75, none) :: (74, some (0, (-1))) :: li) ((74, some (3, 75)) :: (75, none) :: lr))) : C_X5_init [.ref 74] (SG 75 0 0) (ME li lr) Q := by
  unfold C_X5_init
  refine w_X5_init_0 ?_
  refine p_aload rfl ?_
  refine p_obj trivial ?_
  refine p_aload rfl ?_
  refine p_const ?_
  refine p_putI (by decide) rfl ?_
  refine p_aload rfl ?_
  refine p_const ?_
  refine p_newa (n2' := 76) (u2' := 1) (w2' := 160) rfl rfl rfl rfl rfl rfl (by decide) (by decide) (by decide) ⟨Or.inl (by decide), trivial⟩ ⟨Or.inl (by decide), trivial⟩ ?_
  refine p_putR (by decide) rfl (by decide) ?_
  exact h
theorem i_X5_init_76 {li : List (Nat × Option (Nat × Int32))} {lr : List (Nat × Option (Nat × Nat))} {Q : SQ} (h : Q none (SG 78 1 160) (ME ((77, none) :: (76, some (0, (-1))) :: li) ((76, some (3, 77)) :: (77, none) :: lr))) : C_X5_init [.ref 76] (SG 77 0 0) (ME li lr) Q := by
  unfold C_X5_init
  refine w_X5_init_0 ?_
  refine p_aload rfl ?_
  refine p_obj trivial ?_
  refine p_aload rfl ?_
  refine p_const ?_
  refine p_putI (by decide) rfl ?_
  refine p_aload rfl ?_
  refine p_const ?_
  refine p_newa (n2' := 78) (u2' := 1) (w2' := 160) rfl rfl rfl rfl rfl rfl (by decide) (by decide) (by decide) ⟨Or.inl (by decide), trivial⟩ ⟨Or.inl (by decide), trivial⟩ ?_
  refine p_putR (by decide) rfl (by decide) ?_
  exact h
theorem i_X5_init_78 {li : List (Nat × Option (Nat × Int32))} {lr : List (Nat × Option (Nat × Nat))} {Q : SQ} (h : Q none (SG 80 1 160) (ME ((79, none) :: (78, some (0, (-1))) :: li) ((78, some (3, 79)) :: (79, none) :: lr))) : C_X5_init [.ref 78] (SG 79 0 0) (ME li lr) Q := by
  unfold C_X5_init
  refine w_X5_init_0 ?_
  refine p_aload rfl ?_
  refine p_obj trivial ?_
  refine p_aload rfl ?_
  refine p_const ?_
  refine p_putI (by decide) rfl ?_
  refine p_aload rfl ?_
  refine p_const ?_
  refine p_newa (n2' := 80) (u2' := 1) (w2' := 160) rfl rfl rfl rfl rfl rfl (by decide) (by decide) (by decide) ⟨Or.inl (by decide), trivial⟩ ⟨Or.inl (by decide), trivial⟩ ?_
  refine p_putR (by decide) rfl (by decide) ?_
  exact h
theorem i_X8_init_0 {li : List (Nat × Option (Nat × Int32))} {lr : List (Nat × Option (Nat × Nat))} {Q : SQ} (h : Q none (SG 80 79 1822) (ME ((79, none) :: (78, some (0, (-1))) :: (78, none) :: (77, none) :: (76, some (0, (-1))) :: (76, none) :: (75, none) :: (74, some (0, (-1))) :: (74, none) :: (73, none) :: (72, some (0, (-1))) :: (72, none) :: (71, none) :: (70, some (0, (-1))) :: (70, none) :: (69, none) :: (68, some (0, (-1))) :: (68, none) :: (67, none) :: (66, some (0, (-1))) :: (66, none) :: (65, none) :: (64, some (0, (-1))) :: (64, none) :: (63, none) :: (62, none) :: (61, none) :: (60, none) :: (59, some (4, (-1))) :: (59, none) :: (58, none) :: (57, none) :: (56, none) :: (55, none) :: (54, none) :: (53, none) :: (52, none) :: (51, none) :: (50, none) :: (49, none) :: (48, none) :: (47, none) :: (46, none) :: (45, none) :: (44, none) :: (43, none) :: (42, none) :: (41, none) :: (40, none) :: (39, none) :: (38, none) :: (37, none) :: (35, some (9, 1)) :: (35, some (5, 5)) :: (35, some (4, 1)) :: (36, none) :: (35, none) :: (34, none) :: (33, none) :: (32, none) :: (31, none) :: (30, none) :: (29, none) :: (28, none) :: (27, none) :: (26, none) :: (25, none) :: (24, none) :: (23, none) :: (22, none) :: (21, none) :: (19, some (9, 1)) :: (19, some (5, 5)) :: (19, some (4, 1)) :: (20, none) :: (19, none) :: (18, none) :: (17, none) :: (16, none) :: (15, none) :: (14, none) :: (13, none) :: (12, none) :: (10, some (9, 1)) :: (10, some (5, 5)) :: (10, some (4, 1)) :: (11, none) :: (10, none) :: (9, none) :: (8, none) :: (7, none) :: (6, none) :: (5, none) :: (4, none) :: (3, none) :: (1, some (9, 1)) :: (1, some (5, 5)) :: (1, some (4, 1)) :: (2, none) :: (1, none) :: li) ((62, some (7, 78)) :: (78, some (3, 79)) :: (79, none) :: (78, none) :: (62, some (6, 76)) :: (76, some (3, 77)) :: (77, none) :: (76, none) :: (62, some (5, 74)) :: (74, some (3, 75)) :: (75, none) :: (74, none) :: (62, some (4, 72)) :: (72, some (3, 73)) :: (73, none) :: (72, none) :: (62, some (3, 70)) :: (70, some (3, 71)) :: (71, none) :: (70, none) :: (62, some (2, 68)) :: (68, some (3, 69)) :: (69, none) :: (68, none) :: (62, some (1, 66)) :: (66, some (3, 67)) :: (67, none) :: (66, none) :: (62, some (0, 64)) :: (64, some (3, 65)) :: (65, none) :: (64, none) :: (0, some (10, 63)) :: (63, none) :: (0, some (9, 62)) :: (62, none) :: (0, some (8, 60)) :: (60, some (0, 61)) :: (61, none) :: (60, none) :: (0, some (7, 59)) :: (59, none) :: (0, some (6, 52)) :: (52, some (0, 53)) :: (53, some (4, 58)) :: (58, none) :: (53, some (3, 57)) :: (57, none) :: (53, some (2, 56)) :: (56, none) :: (53, some (1, 55)) :: (55, none) :: (53, some (0, 54)) :: (54, none) :: (53, none) :: (52, none) :: (0, some (5, 34)) :: (34, some (3, 51)) :: (51, none) :: (34, some (2, 50)) :: (50, none) :: (34, some (1, 44)) :: (44, some (4, 49)) :: (49, none) :: (44, some (3, 48)) :: (48, none) :: (44, some (2, 47)) :: (47, none) :: (44, some (1, 46)) :: (46, none) :: (44, some (0, 45)) :: (45, none) :: (44, none) :: (34, some (0, 35)) :: (36, some (6, 43)) :: (43, none) :: (36, some (5, 42)) :: (42, none) :: (36, some (4, 41)) :: (41, none) :: (36, some (3, 40)) :: (40, none) :: (36, some (2, 39)) :: (39, none) :: (36, some (1, 38)) :: (38, none) :: (36, some (0, 37)) :: (37, none) :: (35, some (0, 36)) :: (36, none) :: (35, none) :: (34, none) :: (0, some (4, 28)) :: (28, some (4, 33)) :: (33, none) :: (28, some (3, 32)) :: (32, none) :: (28, some (2, 31)) :: (31, none) :: (28, some (1, 30)) :: (30, none) :: (28, some (0, 29)) :: (29, none) :: (28, none) :: (0, some (2, 19)) :: (20, some (6, 27)) :: (27, none) :: (20, some (5, 26)) :: (26, none) :: (20, some (4, 25)) :: (25, none) :: (20, some (3, 24)) :: (24, none) :: (20, some (2, 23)) :: (23, none) :: (20, some (1, 22)) :: (22, none) :: (20, some (0, 21)) :: (21, none) :: (19, some (0, 20)) :: (20, none) :: (19, none) :: (0, some (1, 10)) :: (11, some (6, 18)) :: (18, none) :: (11, some (5, 17)) :: (17, none) :: (11, some (4, 16)) :: (16, none) :: (11, some (3, 15)) :: (15, none) :: (11, some (2, 14)) :: (14, none) :: (11, some (1, 13)) :: (13, none) :: (11, some (0, 12)) :: (12, none) :: (10, some (0, 11)) :: (11, none) :: (10, none) :: (0, some (0, 1)) :: (2, some (6, 9)) :: (9, none) :: (2, some (5, 8)) :: (8, none) :: (2, some (4, 7)) :: (7, none) :: (2, some (3, 6)) :: (6, none) :: (2, some (2, 5)) :: (5, none) :: (2, some (1, 4)) :: (4, none) :: (2, some (0, 3)) :: (3, none) :: (1, some (0, 2)) :: (2, none) :: (1, none) :: lr))) : C_X8_init [.ref 0] (SG 1 0 0) (ME li lr) Q := by
  unfold C_X8_init
  refine w_X8_init_0 ?_
  refine p_aload rfl ?_
  refine p_obj trivial ?_
  refine p_aload rfl ?_
  refine p_new (n2' := 2) (u2' := 1) (w2' := 10) rfl rfl rfl rfl rfl (by decide) (by decide) (by decide) ⟨Or.inl (by decide), trivial⟩ ⟨Or.inl (by decide), trivial⟩ ?_
  refine p_dup rfl ?_
  refine p_callA (u2' := 9) (w2' := 66) rfl rfl (by decide) (by decide) ⟨Or.inl (by decide), trivial⟩ ⟨Or.inl (by decide), ⟨Or.inl (by decide), trivial⟩⟩ trivial (i_X7_init_1 ?_)
  refine p_back ?_
  refine p_putR (by decide) rfl (by decide) ?_
  refine p_aload rfl ?_
  refine p_new (n2' := 11) (u2' := 10) (w2' := 76) rfl rfl rfl rfl rfl (by decide) (by decide) (by decide) ⟨Or.inl (by decide), trivial⟩ ⟨Or.inl (by decide), trivial⟩ ?_
  refine p_dup rfl ?_
  refine p_callA (u2' := 18) (w2' := 132) rfl rfl (by decide) (by decide) ⟨Or.inl (by decide), trivial⟩ ⟨Or.inl (by decide), ⟨Or.inl (by decide), trivial⟩⟩ trivial (i_X7_init_10 ?_)
  refine p_back ?_
  refine p_putR (by decide) rfl (by decide) ?_
  refine p_aload rfl ?_
  refine p_new (n2' := 20) (u2' := 19) (w2' := 142) rfl rfl rfl rfl rfl (by decide) (by decide) (by decide) ⟨Or.inl (by decide), trivial⟩ ⟨Or.inl (by decide), trivial⟩ ?_
  refine p_dup rfl ?_
  refine p_callA (u2' := 27) (w2' := 198) rfl rfl (by decide) (by decide) ⟨Or.inl (by decide), trivial⟩ ⟨Or.inl (by decide), ⟨Or.inl (by decide), trivial⟩⟩ trivial (i_X7_init_19 ?_)
  refine p_back ?_
  refine p_putR (by decide) rfl (by decide) ?_
  refine p_aload rfl ?_
  refine p_new (n2' := 29) (u2' := 28) (w2' := 204) rfl rfl rfl rfl rfl (by decide) (by decide) (by decide) ⟨Or.inl (by decide), trivial⟩ ⟨Or.inl (by decide), trivial⟩ ?_
  refine p_dup rfl ?_
  refine p_callA (u2' := 33) (w2' := 239) rfl rfl (by decide) (by decide) ⟨Or.inl (by decide), trivial⟩ ⟨Or.inl (by decide), ⟨Or.inl (by decide), trivial⟩⟩ trivial (i_X4_init_28 ?_)
  refine p_back ?_
  refine p_putR (by decide) rfl (by decide) ?_
  refine p_aload rfl ?_
  refine p_new (n2' := 35) (u2' := 34) (w2' := 243) rfl rfl rfl rfl rfl (by decide) (by decide) (by decide) ⟨Or.inl (by decide), trivial⟩ ⟨Or.inl (by decide), trivial⟩ ?_
  refine p_dup rfl ?_
  refine p_callA (u2' := 51) (w2' := 422) rfl rfl (by decide) (by decide) ⟨Or.inl (by decide), trivial⟩ ⟨Or.inl (by decide), ⟨Or.inl (by decide), trivial⟩⟩ trivial (i_X2_init_34 ?_)
  refine p_back ?_
  refine p_putR (by decide) rfl (by decide) ?_
  refine p_aload rfl ?_
  refine p_new (n2' := 53) (u2' := 52) (w2' := 423) rfl rfl rfl rfl rfl (by decide) (by decide) (by decide) ⟨Or.inl (by decide), trivial⟩ ⟨Or.inl (by decide), trivial⟩ ?_
  refine p_dup rfl ?_
  refine p_callA (u2' := 58) (w2' := 464) rfl rfl (by decide) (by decide) ⟨Or.inl (by decide), trivial⟩ ⟨Or.inl (by decide), ⟨Or.inl (by decide), trivial⟩⟩ trivial (i_X6_init_52 ?_)
  refine p_back ?_
  refine p_putR (by decide) rfl (by decide) ?_
  refine p_aload rfl ?_
  refine p_new (n2' := 60) (u2' := 59) (w2' := 469) rfl rfl rfl rfl rfl (by decide) (by decide) (by decide) ⟨Or.inl (by decide), trivial⟩ ⟨Or.inl (by decide), trivial⟩ ?_
  refine p_dup rfl ?_
  refine p_callA (u2' := 59) (w2' := 469) rfl rfl (by decide) (by decide) ⟨Or.inl (by decide), trivial⟩ ⟨Or.inl (by decide), ⟨Or.inl (by decide), trivial⟩⟩ trivial (i_X3_init_59 ?_)
  refine p_back ?_
  refine p_putR (by decide) rfl (by decide) ?_
  refine p_aload rfl ?_
  refine p_new (n2' := 61) (u2' := 60) (w2' := 474) rfl rfl rfl rfl rfl (by decide) (by decide) (by decide) ⟨Or.inl (by decide), trivial⟩ ⟨Or.inl (by decide), trivial⟩ ?_
  refine p_dup rfl ?_
  refine p_callA (u2' := 61) (w2' := 494) rfl rfl (by decide) (by decide) ⟨Or.inl (by decide), trivial⟩ ⟨Or.inl (by decide), ⟨Or.inl (by decide), trivial⟩⟩ trivial (i_X0_init_60 ?_)
  refine p_back ?_
  refine p_putR (by decide) rfl (by decide) ?_
  refine p_aload rfl ?_
  refine p_const ?_
  refine p_newa (n2' := 63) (u2' := 62) (w2' := 502) rfl rfl rfl rfl rfl rfl (by decide) (by decide) (by decide) ⟨Or.inl (by decide), trivial⟩ ⟨Or.inl (by decide), trivial⟩ ?_
  refine p_putR (by decide) rfl (by decide) ?_
  refine p_aload rfl ?_
  refine p_const ?_
  refine p_newa (n2' := 64) (u2' := 63) (w2' := 510) rfl rfl rfl rfl rfl rfl (by decide) (by decide) (by decide) ⟨Or.inl (by decide), trivial⟩ ⟨Or.inl (by decide), trivial⟩ ?_
  refine p_putR (by decide) rfl (by decide) ?_
  refine p_const ?_
  refine p_istore (ls2 := [some (.ref 0), some (.int 0)]) (by decide) rfl ?_
  refine w_X8_init_111 ?_
  refine p_iload rfl ?_
  refine p_const ?_
  refine p_icf (by show ¬ _ ≤ _; decide) ?_
  refine p_aload rfl ?_
  refine p_getR (b := 62) (by decide) rfl rfl ?_
  refine p_iload rfl ?_
  refine p_new (n2' := 65) (u2' := 64) (w2' := 514) rfl rfl rfl rfl rfl (by decide) (by decide) (by decide) ⟨Or.inl (by decide), ⟨trivial, trivial⟩⟩ ⟨trivial, ⟨Or.inl (by decide), trivial⟩⟩ ?_
  refine p_dup rfl ?_
  refine p_callA (u2' := 65) (w2' := 674) rfl rfl (by decide) (by decide) ⟨Or.inl (by decide), ⟨trivial, trivial⟩⟩ ⟨Or.inl (by decide), ⟨trivial, ⟨Or.inl (by decide), trivial⟩⟩⟩ trivial (i_X5_init_64 ?_)
  refine p_back ?_
  refine p_aast (k := 0) (by decide) rfl (by decide) (by decide) (by decide) rfl ?_
  refine p_iinc (ls2 := [some (.ref 0), some (.int 1)]) rfl (by decide) rfl ?_
  refine w_X8_init_111 ?_
  refine p_iload rfl ?_
  refine p_const ?_
  refine p_icf (by show ¬ _ ≤ _; decide) ?_
  refine p_aload rfl ?_
  refine p_getR (b := 62) (by decide) rfl rfl ?_
  refine p_iload rfl ?_
  refine p_new (n2' := 67) (u2' := 66) (w2' := 678) rfl rfl rfl rfl rfl (by decide) (by decide) (by decide) ⟨Or.inl (by decide), ⟨trivial, trivial⟩⟩ ⟨trivial, ⟨Or.inl (by decide), trivial⟩⟩ ?_
  refine p_dup rfl ?_
  refine p_callA (u2' := 67) (w2' := 838) rfl rfl (by decide) (by decide) ⟨Or.inl (by decide), ⟨trivial, trivial⟩⟩ ⟨Or.inl (by decide), ⟨trivial, ⟨Or.inl (by decide), trivial⟩⟩⟩ trivial (i_X5_init_66 ?_)
  refine p_back ?_
  refine p_aast (k := 1) (by decide) rfl (by decide) (by decide) (by decide) rfl ?_
  refine p_iinc (ls2 := [some (.ref 0), some (.int 2)]) rfl (by decide) rfl ?_
  refine w_X8_init_111 ?_
  refine p_iload rfl ?_
  refine p_const ?_
  refine p_icf (by show ¬ _ ≤ _; decide) ?_
  refine p_aload rfl ?_
  refine p_getR (b := 62) (by decide) rfl rfl ?_
  refine p_iload rfl ?_
  refine p_new (n2' := 69) (u2' := 68) (w2' := 842) rfl rfl rfl rfl rfl (by decide) (by decide) (by decide) ⟨Or.inl (by decide), ⟨trivial, trivial⟩⟩ ⟨trivial, ⟨Or.inl (by decide), trivial⟩⟩ ?_
  refine p_dup rfl ?_
  refine p_callA (u2' := 69) (w2' := 1002) rfl rfl (by decide) (by decide) ⟨Or.inl (by decide), ⟨trivial, trivial⟩⟩ ⟨Or.inl (by decide), ⟨trivial, ⟨Or.inl (by decide), trivial⟩⟩⟩ trivial (i_X5_init_68 ?_)
  refine p_back ?_
  refine p_aast (k := 2) (by decide) rfl (by decide) (by decide) (by decide) rfl ?_
  refine p_iinc (ls2 := [some (.ref 0), some (.int 3)]) rfl (by decide) rfl ?_
  refine w_X8_init_111 ?_
  refine p_iload rfl ?_
  refine p_const ?_
  refine p_icf (by show ¬ _ ≤ _; decide) ?_
  refine p_aload rfl ?_
  refine p_getR (b := 62) (by decide) rfl rfl ?_
  refine p_iload rfl ?_
  refine p_new (n2' := 71) (u2' := 70) (w2' := 1006) rfl rfl rfl rfl rfl (by decide) (by decide) (by decide) ⟨Or.inl (by decide), ⟨trivial, trivial⟩⟩ ⟨trivial, ⟨Or.inl (by decide), trivial⟩⟩ ?_
  refine p_dup rfl ?_
  refine p_callA (u2' := 71) (w2' := 1166) rfl rfl (by decide) (by decide) ⟨Or.inl (by decide), ⟨trivial, trivial⟩⟩ ⟨Or.inl (by decide), ⟨trivial, ⟨Or.inl (by decide), trivial⟩⟩⟩ trivial (i_X5_init_70 ?_)
  refine p_back ?_
  refine p_aast (k := 3) (by decide) rfl (by decide) (by decide) (by decide) rfl ?_
  refine p_iinc (ls2 := [some (.ref 0), some (.int 4)]) rfl (by decide) rfl ?_
  refine w_X8_init_111 ?_
  refine p_iload rfl ?_
  refine p_const ?_
  refine p_icf (by show ¬ _ ≤ _; decide) ?_
  refine p_aload rfl ?_
  refine p_getR (b := 62) (by decide) rfl rfl ?_
  refine p_iload rfl ?_
  refine p_new (n2' := 73) (u2' := 72) (w2' := 1170) rfl rfl rfl rfl rfl (by decide) (by decide) (by decide) ⟨Or.inl (by decide), ⟨trivial, trivial⟩⟩ ⟨trivial, ⟨Or.inl (by decide), trivial⟩⟩ ?_
  refine p_dup rfl ?_
  refine p_callA (u2' := 73) (w2' := 1330) rfl rfl (by decide) (by decide) ⟨Or.inl (by decide), ⟨trivial, trivial⟩⟩ ⟨Or.inl (by decide), ⟨trivial, ⟨Or.inl (by decide), trivial⟩⟩⟩ trivial (i_X5_init_72 ?_)
  refine p_back ?_
  refine p_aast (k := 4) (by decide) rfl (by decide) (by decide) (by decide) rfl ?_
  refine p_iinc (ls2 := [some (.ref 0), some (.int 5)]) rfl (by decide) rfl ?_
  refine w_X8_init_111 ?_
  refine p_iload rfl ?_
  refine p_const ?_
  refine p_icf (by show ¬ _ ≤ _; decide) ?_
  refine p_aload rfl ?_
  refine p_getR (b := 62) (by decide) rfl rfl ?_
  refine p_iload rfl ?_
  refine p_new (n2' := 75) (u2' := 74) (w2' := 1334) rfl rfl rfl rfl rfl (by decide) (by decide) (by decide) ⟨Or.inl (by decide), ⟨trivial, trivial⟩⟩ ⟨trivial, ⟨Or.inl (by decide), trivial⟩⟩ ?_
  refine p_dup rfl ?_
  refine p_callA (u2' := 75) (w2' := 1494) rfl rfl (by decide) (by decide) ⟨Or.inl (by decide), ⟨trivial, trivial⟩⟩ ⟨Or.inl (by decide), ⟨trivial, ⟨Or.inl (by decide), trivial⟩⟩⟩ trivial (i_X5_init_74 ?_)
  refine p_back ?_
  refine p_aast (k := 5) (by decide) rfl (by decide) (by decide) (by decide) rfl ?_
  refine p_iinc (ls2 := [some (.ref 0), some (.int 6)]) rfl (by decide) rfl ?_
  refine w_X8_init_111 ?_
  refine p_iload rfl ?_
  refine p_const ?_
  refine p_icf (by show ¬ _ ≤ _; decide) ?_
  refine p_aload rfl ?_
  refine p_getR (b := 62) (by decide) rfl rfl ?_
  refine p_iload rfl ?_
  refine p_new (n2' := 77) (u2' := 76) (w2' := 1498) rfl rfl rfl rfl rfl (by decide) (by decide) (by decide) ⟨Or.inl (by decide), ⟨trivial, trivial⟩⟩ ⟨trivial, ⟨Or.inl (by decide), trivial⟩⟩ ?_
  refine p_dup rfl ?_
  refine p_callA (u2' := 77) (w2' := 1658) rfl rfl (by decide) (by decide) ⟨Or.inl (by decide), ⟨trivial, trivial⟩⟩ ⟨Or.inl (by decide), ⟨trivial, ⟨Or.inl (by decide), trivial⟩⟩⟩ trivial (i_X5_init_76 ?_)
  refine p_back ?_
  refine p_aast (k := 6) (by decide) rfl (by decide) (by decide) (by decide) rfl ?_
  refine p_iinc (ls2 := [some (.ref 0), some (.int 7)]) rfl (by decide) rfl ?_
  refine w_X8_init_111 ?_
  refine p_iload rfl ?_
  refine p_const ?_
  refine p_icf (by show ¬ _ ≤ _; decide) ?_
  refine p_aload rfl ?_
  refine p_getR (b := 62) (by decide) rfl rfl ?_
  refine p_iload rfl ?_
  refine p_new (n2' := 79) (u2' := 78) (w2' := 1662) rfl rfl rfl rfl rfl (by decide) (by decide) (by decide) ⟨Or.inl (by decide), ⟨trivial, trivial⟩⟩ ⟨trivial, ⟨Or.inl (by decide), trivial⟩⟩ ?_
  refine p_dup rfl ?_
  refine p_callA (u2' := 79) (w2' := 1822) rfl rfl (by decide) (by decide) ⟨Or.inl (by decide), ⟨trivial, trivial⟩⟩ ⟨Or.inl (by decide), ⟨trivial, ⟨Or.inl (by decide), trivial⟩⟩⟩ trivial (i_X5_init_78 ?_)
  refine p_back ?_
  refine p_aast (k := 7) (by decide) rfl (by decide) (by decide) (by decide) rfl ?_
  refine p_iinc (ls2 := [some (.ref 0), some (.int 8)]) rfl (by decide) rfl ?_
  refine w_X8_init_111 ?_
  refine p_iload rfl ?_
  refine p_const ?_
  refine p_ict (by show _ ≤ _; decide) ?_
  exact h
theorem i_X9_init_80 {li : List (Nat × Option (Nat × Int32))} {lr : List (Nat × Option (Nat × Nat))} {Q : SQ} (h : Q none (SG 108 27 2156) (ME ((107, none) :: (106, none) :: (105, none) :: (104, none) :: (80, some (36, (-1))) :: (103, none) :: (102, none) :: (101, none) :: (100, none) :: (99, some (5, 35)) :: (99, some (4, 99)) :: (99, some (3, 9)) :: (99, some (2, 20)) :: (99, some (1, 9)) :: (99, some (0, 6)) :: (99, none) :: (98, some (6, 1)) :: (98, some (5, 1)) :: (98, some (4, 1)) :: (98, some (3, 6)) :: (98, some (2, 1)) :: (98, some (1, 1)) :: (98, some (0, 1)) :: (98, none) :: (97, some (46, 0)) :: (97, some (45, 32)) :: (97, some (44, 104)) :: (97, some (43, 99)) :: (97, some (42, 97)) :: (97, some (41, 101)) :: (97, some (40, 114)) :: (97, some (39, 0)) :: (97, some (38, 32)) :: (97, some (37, 101)) :: (97, some (36, 116)) :: (97, some (35, 105)) :: (97, some (34, 109)) :: (97, some (33, 0)) :: (97, some (32, 32)) :: (97, some (31, 107)) :: (97, some (30, 99)) :: (97, some (29, 97)) :: (97, some (28, 115)) :: (97, some (27, 0)) :: (97, some (26, 32)) :: (97, some (25, 110)) :: (97, some (24, 111)) :: (97, some (23, 115)) :: (97, some (22, 114)) :: (97, some (21, 101)) :: (97, some (20, 112)) :: (97, some (19, 0)) :: (97, some (18, 32)) :: (97, some (17, 121)) :: (97, some (16, 110)) :: (97, some (15, 111)) :: (97, some (14, 99)) :: (97, some (13, 108)) :: (97, some (12, 97)) :: (97, some (11, 98)) :: (97, some (10, 0)) :: (97, some (9, 32)) :: (97, some (8, 112)) :: (97, some (7, 97)) :: (97, some (6, 103)) :: (97, some (5, 0)) :: (97, some (4, 32)) :: (97, some (3, 108)) :: (97, some (2, 108)) :: (97, some (1, 97)) :: (97, some (0, 119)) :: (97, none) :: (96, none) :: (95, none) :: (94, none) :: (93, none) :: (92, none) :: (91, none) :: (90, none) :: (89, none) :: (88, none) :: (87, none) :: (86, none) :: (85, none) :: (84, none) :: (83, none) :: (82, none) :: (81, none) :: (80, some (7, (-1))) :: (80, some (6, 1)) :: (80, some (2, 5)) :: (80, some (1, 1)) :: li) ((80, some (41, 107)) :: (107, none) :: (80, some (39, 106)) :: (106, none) :: (80, some (38, 105)) :: (105, none) :: (80, some (37, 104)) :: (104, none) :: (80, some (35, 103)) :: (103, none) :: (80, some (34, 102)) :: (102, none) :: (80, some (33, 101)) :: (101, none) :: (80, some (27, 100)) :: (100, none) :: (80, some (26, 99)) :: (99, none) :: (80, some (25, 98)) :: (98, none) :: (80, some (24, 97)) :: (97, none) :: (80, some (23, 96)) :: (96, none) :: (80, some (22, 95)) :: (95, none) :: (80, some (21, 94)) :: (94, none) :: (80, some (20, 93)) :: (93, none) :: (80, some (19, 92)) :: (92, none) :: (80, some (18, 91)) :: (91, none) :: (80, some (17, 90)) :: (90, none) :: (80, some (16, 89)) :: (89, none) :: (80, some (15, 88)) :: (88, none) :: (80, some (14, 87)) :: (87, none) :: (80, some (13, 86)) :: (86, none) :: (80, some (12, 85)) :: (85, none) :: (80, some (11, 84)) :: (84, none) :: (80, some (10, 83)) :: (83, none) :: (80, some (9, 82)) :: (82, none) :: (80, some (8, 81)) :: (81, none) :: lr))) : C_X9_init [.ref 80] (SG 81 0 0) (ME li lr) Q := by
  unfold C_X9_init
  refine w_X9_init_0 ?_
  refine p_aload rfl ?_
  refine p_obj trivial ?_
  refine p_aload rfl ?_
  refine p_const ?_
  refine p_putI (by decide) rfl ?_
  refine p_aload rfl ?_
  refine p_const ?_
  refine p_putI (by decide) rfl ?_
  refine p_aload rfl ?_
  refine p_const ?_
  refine p_putI (by decide) rfl ?_
  refine p_aload rfl ?_
  refine p_const ?_
  refine p_putI (by decide) rfl ?_
  refine p_aload rfl ?_
  refine p_const ?_
  refine p_newa (n2' := 82) (u2' := 1) (w2' := 8) rfl rfl rfl rfl rfl rfl (by decide) (by decide) (by decide) ⟨Or.inl (by decide), trivial⟩ ⟨Or.inl (by decide), trivial⟩ ?_
  refine p_putR (by decide) rfl (by decide) ?_
  refine p_aload rfl ?_
  refine p_const ?_
  refine p_newa (n2' := 83) (u2' := 2) (w2' := 15) rfl rfl rfl rfl rfl rfl (by decide) (by decide) (by decide) ⟨Or.inl (by decide), trivial⟩ ⟨Or.inl (by decide), trivial⟩ ?_
  refine p_putR (by decide) rfl (by decide) ?_
  refine p_aload rfl ?_
  refine p_const ?_
  refine p_newa (n2' := 84) (u2' := 3) (w2' := 22) rfl rfl rfl rfl rfl rfl (by decide) (by decide) (by decide) ⟨Or.inl (by decide), trivial⟩ ⟨Or.inl (by decide), trivial⟩ ?_
  refine p_putR (by decide) rfl (by decide) ?_
  refine p_aload rfl ?_
  refine p_const ?_
  refine p_newa (n2' := 85) (u2' := 4) (w2' := 29) rfl rfl rfl rfl rfl rfl (by decide) (by decide) (by decide) ⟨Or.inl (by decide), trivial⟩ ⟨Or.inl (by decide), trivial⟩ ?_
  refine p_putR (by decide) rfl (by decide) ?_
  refine p_aload rfl ?_
  refine p_const ?_
  refine p_newa (n2' := 86) (u2' := 5) (w2' := 36) rfl rfl rfl rfl rfl rfl (by decide) (by decide) (by decide) ⟨Or.inl (by decide), trivial⟩ ⟨Or.inl (by decide), trivial⟩ ?_
  refine p_putR (by decide) rfl (by decide) ?_
  refine p_aload rfl ?_
  refine p_const ?_
  refine p_newa (n2' := 87) (u2' := 6) (w2' := 43) rfl rfl rfl rfl rfl rfl (by decide) (by decide) (by decide) ⟨Or.inl (by decide), trivial⟩ ⟨Or.inl (by decide), trivial⟩ ?_
  refine p_putR (by decide) rfl (by decide) ?_
  refine p_aload rfl ?_
  refine p_const ?_
  refine p_newa (n2' := 88) (u2' := 7) (w2' := 50) rfl rfl rfl rfl rfl rfl (by decide) (by decide) (by decide) ⟨Or.inl (by decide), trivial⟩ ⟨Or.inl (by decide), trivial⟩ ?_
  refine p_putR (by decide) rfl (by decide) ?_
  refine p_aload rfl ?_
  refine p_const ?_
  refine p_newa (n2' := 89) (u2' := 8) (w2' := 57) rfl rfl rfl rfl rfl rfl (by decide) (by decide) (by decide) ⟨Or.inl (by decide), trivial⟩ ⟨Or.inl (by decide), trivial⟩ ?_
  refine p_putR (by decide) rfl (by decide) ?_
  refine p_aload rfl ?_
  refine p_const ?_
  refine p_newa (n2' := 90) (u2' := 9) (w2' := 93) rfl rfl rfl rfl rfl rfl (by decide) (by decide) (by decide) ⟨Or.inl (by decide), trivial⟩ ⟨Or.inl (by decide), trivial⟩ ?_
  refine p_putR (by decide) rfl (by decide) ?_
  refine p_aload rfl ?_
  refine p_const ?_
  refine p_newa (n2' := 91) (u2' := 10) (w2' := 129) rfl rfl rfl rfl rfl rfl (by decide) (by decide) (by decide) ⟨Or.inl (by decide), trivial⟩ ⟨Or.inl (by decide), trivial⟩ ?_
  refine p_putR (by decide) rfl (by decide) ?_
  refine p_aload rfl ?_
  refine p_const ?_
  refine p_newa (n2' := 92) (u2' := 11) (w2' := 137) rfl rfl rfl rfl rfl rfl (by decide) (by decide) (by decide) ⟨Or.inl (by decide), trivial⟩ ⟨Or.inl (by decide), trivial⟩ ?_
  refine p_putR (by decide) rfl (by decide) ?_
  refine p_aload rfl ?_
  refine p_const ?_
  refine p_newa (n2' := 93) (u2' := 12) (w2' := 145) rfl rfl rfl rfl rfl rfl (by decide) (by decide) (by decide) ⟨Or.inl (by decide), trivial⟩ ⟨Or.inl (by decide), trivial⟩ ?_
  refine p_putR (by decide) rfl (by decide) ?_
  refine p_aload rfl ?_
  refine p_const ?_
  refine p_newa (n2' := 94) (u2' := 13) (w2' := 153) rfl rfl rfl rfl rfl rfl (by decide) (by decide) (by decide) ⟨Or.inl (by decide), trivial⟩ ⟨Or.inl (by decide), trivial⟩ ?_
  refine p_putR (by decide) rfl (by decide) ?_
  refine p_aload rfl ?_
  refine p_const ?_
  refine p_newa (n2' := 95) (u2' := 14) (w2' := 161) rfl rfl rfl rfl rfl rfl (by decide) (by decide) (by decide) ⟨Or.inl (by decide), trivial⟩ ⟨Or.inl (by decide), trivial⟩ ?_
  refine p_putR (by decide) rfl (by decide) ?_
  refine p_aload rfl ?_
  refine p_const ?_
  refine p_newa (n2' := 96) (u2' := 15) (w2' := 1441) rfl rfl rfl rfl rfl rfl (by decide) (by decide) (by decide) ⟨Or.inl (by decide), trivial⟩ ⟨Or.inl (by decide), trivial⟩ ?_
  refine p_putR (by decide) rfl (by decide) ?_
  refine p_aload rfl ?_
  refine p_const ?_
  refine p_newa (n2' := 97) (u2' := 16) (w2' := 1601) rfl rfl rfl rfl rfl rfl (by decide) (by decide) (by decide) ⟨Or.inl (by decide), trivial⟩ ⟨Or.inl (by decide), trivial⟩ ?_
  refine p_putR (by decide) rfl (by decide) ?_
  refine p_aload rfl ?_
  refine p_const ?_
  refine p_newa (n2' := 98) (u2' := 17) (w2' := 1648) rfl rfl rfl rfl rfl rfl (by decide) (by decide) (by decide) ⟨Or.inl (by decide), trivial⟩ ⟨Or.inl (by decide), trivial⟩ ?_
  refine p_dup rfl ?_
  refine p_const ?_
  refine p_const ?_
  refine p_iast (k := 0) (by decide) rfl (by decide) (by decide) ?_
  refine p_dup rfl ?_
  refine p_const ?_
  refine p_const ?_
  refine p_iast (k := 1) (by decide) rfl (by decide) (by decide) ?_
  refine p_dup rfl ?_
  refine p_const ?_
  refine p_const ?_
  refine p_iast (k := 2) (by decide) rfl (by decide) (by decide) ?_
  refine p_dup rfl ?_
  refine p_const ?_
  refine p_const ?_
  refine p_iast (k := 3) (by decide) rfl (by decide) (by decide) ?_
  refine p_dup rfl ?_
  refine p_const ?_
  refine p_const ?_
  refine p_iast (k := 4) (by decide) rfl (by decide) (by decide) ?_
  refine p_dup rfl ?_
  refine p_const ?_
  refine p_const ?_
  refine p_iast (k := 5) (by decide) rfl (by decide) (by decide) ?_
  refine p_dup rfl ?_
  refine p_const ?_
  refine p_const ?_
  refine p_iast (k := 6) (by decide) rfl (by decide) (by decide) ?_
  refine p_dup rfl ?_
  refine p_const ?_
  refine p_const ?_
  refine p_iast (k := 7) (by decide) rfl (by decide) (by decide) ?_
  refine p_dup rfl ?_
  refine p_const ?_
  refine p_const ?_
  refine p_iast (k := 8) (by decide) rfl (by decide) (by decide) ?_
  refine p_dup rfl ?_
  refine p_const ?_
  refine p_const ?_
  refine p_iast (k := 9) (by decide) rfl (by decide) (by decide) ?_
  refine p_dup rfl ?_
  refine p_const ?_
  refine p_const ?_
  refine p_iast (k := 10) (by decide) rfl (by decide) (by decide) ?_
  refine p_dup rfl ?_
  refine p_const ?_
  refine p_const ?_
  refine p_iast (k := 11) (by decide) rfl (by decide) (by decide) ?_
  refine p_dup rfl ?_
  refine p_const ?_
  refine p_const ?_
  refine p_iast (k := 12) (by decide) rfl (by decide) (by decide) ?_
  refine p_dup rfl ?_
  refine p_const ?_
  refine p_const ?_
  refine p_iast (k := 13) (by decide) rfl (by decide) (by decide) ?_
  refine p_dup rfl ?_
  refine p_const ?_
  refine p_const ?_
  refine p_iast (k := 14) (by decide) rfl (by decide) (by decide) ?_
  refine p_dup rfl ?_
  refine p_const ?_
  refine p_const ?_
  refine p_iast (k := 15) (by decide) rfl (by decide) (by decide) ?_
  refine p_dup rfl ?_
  refine p_const ?_
  refine p_const ?_
  refine p_iast (k := 16) (by decide) rfl (by decide) (by decide) ?_
  refine p_dup rfl ?_
  refine p_const ?_
  refine p_const ?_
  refine p_iast (k := 17) (by decide) rfl (by decide) (by decide) ?_
  refine p_dup rfl ?_
  refine p_const ?_
  refine p_const ?_
  refine p_iast (k := 18) (by decide) rfl (by decide) (by decide) ?_
  refine p_dup rfl ?_
  refine p_const ?_
  refine p_const ?_
  refine p_iast (k := 19) (by decide) rfl (by decide) (by decide) ?_
  refine p_dup rfl ?_
  refine p_const ?_
  refine p_const ?_
  refine p_iast (k := 20) (by decide) rfl (by decide) (by decide) ?_
  refine p_dup rfl ?_
  refine p_const ?_
  refine p_const ?_
  refine p_iast (k := 21) (by decide) rfl (by decide) (by decide) ?_
  refine p_dup rfl ?_
  refine p_const ?_
  refine p_const ?_
  refine p_iast (k := 22) (by decide) rfl (by decide) (by decide) ?_
  refine p_dup rfl ?_
  refine p_const ?_
  refine p_const ?_
  refine p_iast (k := 23) (by decide) rfl (by decide) (by decide) ?_
  refine p_dup rfl ?_
  refine p_const ?_
  refine p_const ?_
  refine p_iast (k := 24) (by decide) rfl (by decide) (by decide) ?_
  refine p_dup rfl ?_
  refine p_const ?_
  refine p_const ?_
  refine p_iast (k := 25) (by decide) rfl (by decide) (by decide) ?_
  refine p_dup rfl ?_
  refine p_const ?_
  refine p_const ?_
  refine p_iast (k := 26) (by decide) rfl (by decide) (by decide) ?_
  refine p_dup rfl ?_
  refine p_const ?_
  refine p_const ?_
  refine p_iast (k := 27) (by decide) rfl (by decide) (by decide) ?_
  refine p_dup rfl ?_
  refine p_const ?_
  refine p_const ?_
  refine p_iast (k := 28) (by decide) rfl (by decide) (by decide) ?_
  refine p_dup rfl ?_
  refine p_const ?_
  refine p_const ?_
  refine p_iast (k := 29) (by decide) rfl (by decide) (by decide) ?_
  refine p_dup rfl ?_
  refine p_const ?_
  refine p_const ?_
  refine p_iast (k := 30) (by decide) rfl (by decide) (by decide) ?_
  refine p_dup rfl ?_
  refine p_const ?_
  refine p_const ?_
  refine p_iast (k := 31) (by decide) rfl (by decide) (by decide) ?_
  refine p_dup rfl ?_
  refine p_const ?_
  refine p_const ?_
  refine p_iast (k := 32) (by decide) rfl (by decide) (by decide) ?_
  refine p_dup rfl ?_
  refine p_const ?_
  refine p_const ?_
  refine p_iast (k := 33) (by decide) rfl (by decide) (by decide) ?_
  refine p_dup rfl ?_
  refine p_const ?_
  refine p_const ?_
  refine p_iast (k := 34) (by decide) rfl (by decide) (by decide) ?_
  refine p_dup rfl ?_
  refine p_const ?_
  refine p_const ?_
  refine p_iast (k := 35) (by decide) rfl (by decide) (by decide) ?_
  refine p_dup rfl ?_
  refine p_const ?_
  refine p_const ?_
  refine p_iast (k := 36) (by decide) rfl (by decide) (by decide) ?_
  refine p_dup rfl ?_
  refine p_const ?_
  refine p_const ?_
  refine p_iast (k := 37) (by decide) rfl (by decide) (by decide) ?_
  refine p_dup rfl ?_
  refine p_const ?_
  refine p_const ?_
  refine p_iast (k := 38) (by decide) rfl (by decide) (by decide) ?_
  refine p_dup rfl ?_
  refine p_const ?_
  refine p_const ?_
  refine p_iast (k := 39) (by decide) rfl (by decide) (by decide) ?_
  refine p_dup rfl ?_
  refine p_const ?_
  refine p_const ?_
  refine p_iast (k := 40) (by decide) rfl (by decide) (by decide) ?_
  refine p_dup rfl ?_
  refine p_const ?_
  refine p_const ?_
  refine p_iast (k := 41) (by decide) rfl (by decide) (by decide) ?_
  refine p_dup rfl ?_
  refine p_const ?_
  refine p_const ?_
  refine p_iast (k := 42) (by decide) rfl (by decide) (by decide) ?_
  refine p_dup rfl ?_
  refine p_const ?_
  refine p_const ?_
  refine p_iast (k := 43) (by decide) rfl (by decide) (by decide) ?_
  refine p_dup rfl ?_
  refine p_const ?_
  refine p_const ?_
  refine p_iast (k := 44) (by decide) rfl (by decide) (by decide) ?_
  refine p_dup rfl ?_
  refine p_const ?_
  refine p_const ?_
  refine p_iast (k := 45) (by decide) rfl (by decide) (by decide) ?_
  refine p_dup rfl ?_
  refine p_const ?_
  refine p_const ?_
  refine p_iast (k := 46) (by decide) rfl (by decide) (by decide) ?_
  refine p_putR (by decide) rfl (by decide) ?_
  refine p_aload rfl ?_
  refine p_const ?_
  refine p_newa (n2' := 99) (u2' := 18) (w2' := 1655) rfl rfl rfl rfl rfl rfl (by decide) (by decide) (by decide) ⟨Or.inl (by decide), trivial⟩ ⟨Or.inl (by decide), trivial⟩ ?_
  refine p_dup rfl ?_
  refine p_const ?_
  refine p_const ?_
  refine p_iast (k := 0) (by decide) rfl (by decide) (by decide) ?_
  refine p_dup rfl ?_
  refine p_const ?_
  refine p_const ?_
  refine p_iast (k := 1) (by decide) rfl (by decide) (by decide) ?_
  refine p_dup rfl ?_
  refine p_const ?_
  refine p_const ?_
  refine p_iast (k := 2) (by decide) rfl (by decide) (by decide) ?_
  refine p_dup rfl ?_
  refine p_const ?_
  refine p_const ?_
  refine p_iast (k := 3) (by decide) rfl (by decide) (by decide) ?_
  refine p_dup rfl ?_
  refine p_const ?_
  refine p_const ?_
  refine p_iast (k := 4) (by decide) rfl (by decide) (by decide) ?_
  refine p_dup rfl ?_
  refine p_const ?_
  refine p_const ?_
  refine p_iast (k := 5) (by decide) rfl (by decide) (by decide) ?_
  refine p_dup rfl ?_
  refine p_const ?_
  refine p_const ?_
  refine p_iast (k := 6) (by decide) rfl (by decide) (by decide) ?_
  refine p_putR (by decide) rfl (by decide) ?_
  refine p_aload rfl ?_
  refine p_const ?_
  refine p_newa (n2' := 100) (u2' := 19) (w2' := 1661) rfl rfl rfl rfl rfl rfl (by decide) (by decide) (by decide) ⟨Or.inl (by decide), trivial⟩ ⟨Or.inl (by decide), trivial⟩ ?_
  refine p_dup rfl ?_
  refine p_const ?_
  refine p_const ?_
  refine p_iast (k := 0) (by decide) rfl (by decide) (by decide) ?_
  refine p_dup rfl ?_
  refine p_const ?_
  refine p_const ?_
  refine p_iast (k := 1) (by decide) rfl (by decide) (by decide) ?_
  refine p_dup rfl ?_
  refine p_const ?_
  refine p_const ?_
  refine p_iast (k := 2) (by decide) rfl (by decide) (by decide) ?_
  refine p_dup rfl ?_
  refine p_const ?_
  refine p_const ?_
  refine p_iast (k := 3) (by decide) rfl (by decide) (by decide) ?_
  refine p_dup rfl ?_
  refine p_const ?_
  refine p_const ?_
  refine p_iast (k := 4) (by decide) rfl (by decide) (by decide) ?_
  refine p_dup rfl ?_
  refine p_const ?_
  refine p_const ?_
  refine p_iast (k := 5) (by decide) rfl (by decide) (by decide) ?_
  refine p_putR (by decide) rfl (by decide) ?_
  refine p_aload rfl ?_
  refine p_const ?_
  refine p_newa (n2' := 101) (u2' := 20) (w2' := 1667) rfl rfl rfl rfl rfl rfl (by decide) (by decide) (by decide) ⟨Or.inl (by decide), trivial⟩ ⟨Or.inl (by decide), trivial⟩ ?_
  refine p_putR (by decide) rfl (by decide) ?_
  refine p_aload rfl ?_
  refine p_const ?_
  refine p_newa (n2' := 102) (u2' := 21) (w2' := 1797) rfl rfl rfl rfl rfl rfl (by decide) (by decide) (by decide) ⟨Or.inl (by decide), trivial⟩ ⟨Or.inl (by decide), trivial⟩ ?_
  refine p_putR (by decide) rfl (by decide) ?_
  refine p_aload rfl ?_
  refine p_const ?_
  refine p_newa (n2' := 103) (u2' := 22) (w2' := 1927) rfl rfl rfl rfl rfl rfl (by decide) (by decide) (by decide) ⟨Or.inl (by decide), trivial⟩ ⟨Or.inl (by decide), trivial⟩ ?_
  refine p_putR (by decide) rfl (by decide) ?_
  refine p_aload rfl ?_
  refine p_const ?_
  refine p_newa (n2' := 104) (u2' := 23) (w2' := 2057) rfl rfl rfl rfl rfl rfl (by decide) (by decide) (by decide) ⟨Or.inl (by decide), trivial⟩ ⟨Or.inl (by decide), trivial⟩ ?_
  refine p_putR (by decide) rfl (by decide) ?_
  refine p_aload rfl ?_
  refine p_const ?_
  refine p_putI (by decide) rfl ?_
  refine p_aload rfl ?_
  refine p_const ?_
  refine p_newa (n2' := 105) (u2' := 24) (w2' := 2093) rfl rfl rfl rfl rfl rfl (by decide) (by decide) (by decide) ⟨Or.inl (by decide), trivial⟩ ⟨Or.inl (by decide), trivial⟩ ?_
  refine p_putR (by decide) rfl (by decide) ?_
  refine p_aload rfl ?_
  refine p_const ?_
  refine p_newa (n2' := 106) (u2' := 25) (w2' := 2129) rfl rfl rfl rfl rfl rfl (by decide) (by decide) (by decide) ⟨Or.inl (by decide), trivial⟩ ⟨Or.inl (by decide), trivial⟩ ?_
  refine p_putR (by decide) rfl (by decide) ?_
  refine p_aload rfl ?_
  refine p_const ?_
  refine p_newa (n2' := 107) (u2' := 26) (w2' := 2136) rfl rfl rfl rfl rfl rfl (by decide) (by decide) (by decide) ⟨Or.inl (by decide), trivial⟩ ⟨Or.inl (by decide), trivial⟩ ?_
  refine p_putR (by decide) rfl (by decide) ?_
  refine p_aload rfl ?_
  refine p_const ?_
  refine p_newa (n2' := 108) (u2' := 27) (w2' := 2156) rfl rfl rfl rfl rfl rfl (by decide) (by decide) (by decide) ⟨Or.inl (by decide), trivial⟩ ⟨Or.inl (by decide), trivial⟩ ?_
  refine p_putR (by decide) rfl (by decide) ?_
  exact h
