/-! THE SMALL MACHINE: a method is a table of blocks; an address is a place in one list of cells; the heap is three tables (ints, longs, references) by address and place; what a block does is said backwards, by what must hold behind it -/
abbrev SLoc : Type := List (Option Value)
/-- how many cells there are; cells and slots made in this frame; the class of each; the length of each row -/
abbrev SShp : Type := Nat × (Nat × Nat) × (Nat → Nat) × (Nat → Nat)
abbrev SMem : Type := (Nat → Nat → Int32) × (Nat → Nat → Int64) × (Nat → Nat → Option Nat)
abbrev SK : Type := SLoc → List Value → SShp → SMem → Prop
abbrev SQ : Type := Option Value → SShp → SMem → Prop
abbrev SC : Type := List Value → SShp → SMem → SQ → Prop
def s_get : SLoc → Nat → Option Value
  | [], _ => none
  | v :: _, 0 => v
  | _ :: l, k + 1 => s_get l k
def s_unl (w : Option Value) : Option Value := match w with
  | some (.long _) => none
  | some (.double _) => none
  | w => w
def s_head : Option Value → SLoc → SLoc
  | _, [] => []
  | v, _ :: l => v :: l
def s_put1 : SLoc → Nat → Value → SLoc
  | [], _, _ => []
  | _ :: l, 0, v => some v :: l
  | w :: l, 1, v => s_unl w :: s_head (some v) l
  | w :: l, k + 2, v => w :: s_put1 l (k + 1) v
def s_put2 : SLoc → Nat → Value → SLoc
  | [], _, _ => []
  | _ :: l, 0, v => some v :: s_head none l
  | w :: l, 1, v => s_unl w :: s_put2 l 0 v
  | w :: l, k + 2, v => w :: s_put2 l (k + 1) v
def s_pop : Nat → List Value → List Value → List Value × List Value
  | 0, acc, st => (acc, st)
  | _ + 1, acc, [] => (acc, [])
  | n + 1, acc, v :: st => s_pop n (v :: acc) st
def s_sm : List Value → Prop
  | [] => True
  | [_] => True
  | [_, _] => True
  | [_, _, _] => True
  | [_, _, _, _] => True
  | _ => False
def s_okv (n : Nat) : Value → Prop
  | .ref a => a < n ∨ 1000000 ≤ a
  | _ => True
def s_okl (n : Nat) : SLoc → Prop
  | [] => True
  | none :: l => s_okl n l
  | some v :: l => s_okv n v ∧ s_okl n l
def s_oks (n : Nat) : List Value → Prop
  | [] => True
  | v :: l => s_okv n v ∧ s_oks n l
def s_uI (me : SMem) (a k : Nat) (x : Int32) : SMem := (fun b j => if b = a ∧ j = k then x else me.1 b j, me.2)
def s_uJ (me : SMem) (a k : Nat) (x : Int64) : SMem := (me.1, fun b j => if b = a ∧ j = k then x else me.2.1 b j, me.2.2)
def s_uR (me : SMem) (a k : Nat) (x : Option Nat) : SMem := (me.1, me.2.1, fun b j => if b = a ∧ j = k then x else me.2.2 b j)
/-- a cell more, of a class, of a length, all 0 -/
def s_new (sh : SShp) (ci len N : Nat) : SShp := (sh.1 + 1, (sh.2.1.1 + 1, sh.2.1.2 + N), (fun b => if b = sh.1 then ci else sh.2.2.1 b), fun b => if b = sh.1 then len else sh.2.2.2 b)
def s_zero (n : Nat) (me : SMem) : SMem := (fun b j => if b = n then 0 else me.1 b j, fun b j => if b = n then 0 else me.2.1 b j, fun b j => if b = n then none else me.2.2 b j)
-- what an instruction does
def o_const (v : Value) (K : SK) : SK := fun ls st => K ls (v :: st)
def o_iload (i : Nat) (K : SK) : SK := fun ls st sh me => match s_get ls i with
  | some (.int x) => K ls (.int x :: st) sh me
  | _ => False
def o_lload (i : Nat) (K : SK) : SK := fun ls st sh me => match s_get ls i with
  | some (.long x) => K ls (.long x :: st) sh me
  | _ => False
def o_aload (i : Nat) (K : SK) : SK := fun ls st sh me => match s_get ls i with
  | some (.ref x) => K ls (.ref x :: st) sh me
  | _ => False
def o_istore (i : Nat) (K : SK) : SK := fun ls st sh me => match st with
  | .int x :: r => i < ls.length ∧ K (s_put1 ls i (.int x)) r sh me
  | _ => False
def o_astore (i : Nat) (K : SK) : SK := fun ls st sh me => match st with
  | .ref x :: r => i < ls.length ∧ K (s_put1 ls i (.ref x)) r sh me
  | _ => False
def o_lstore (i : Nat) (K : SK) : SK := fun ls st sh me => match st with
  | .long x :: r => i + 1 < ls.length ∧ K (s_put2 ls i (.long x)) r sh me
  | _ => False
def o_iinc (i : Nat) (n : Int32) (K : SK) : SK := fun ls st sh me => match s_get ls i with
  | some (.int x) => i < ls.length ∧ K (s_put1 ls i (.int (x + n))) st sh me
  | _ => False
def o_i1 (f : Int32 → Int32) (K : SK) : SK := fun ls st sh me => match st with
  | .int x :: r => K ls (.int (f x) :: r) sh me
  | _ => False
def o_i2 (f : Int32 → Int32 → Int32) (K : SK) : SK := fun ls st sh me => match st with
  | .int y :: .int x :: r => K ls (.int (f x y) :: r) sh me
  | _ => False
def o_div (f : Int32 → Int32 → Int32) (K : SK) : SK := fun ls st sh me => match st with
  | .int y :: .int x :: r => ¬ y = 0 ∧ K ls (.int (f x y) :: r) sh me
  | _ => False
def o_l2 (f : Int64 → Int64 → Int64) (K : SK) : SK := fun ls st sh me => match st with
  | .long y :: .long x :: r => K ls (.long (f x y) :: r) sh me
  | _ => False
def o_lsh (f : Int64 → Int32 → Int64) (K : SK) : SK := fun ls st sh me => match st with
  | .int y :: .long x :: r => K ls (.long (f x y) :: r) sh me
  | _ => False
def o_il (K : SK) : SK := fun ls st sh me => match st with
  | .int x :: r => K ls (.long x.toInt64 :: r) sh me
  | _ => False
def o_li (K : SK) : SK := fun ls st sh me => match st with
  | .long x :: r => K ls (.int x.toInt32 :: r) sh me
  | _ => False
def o_lcmp (K : SK) : SK := fun ls st sh me => match st with
  | .long y :: .long x :: r => K ls (.int (lg_cmp x y) :: r) sh me
  | _ => False
def o_pop (K : SK) : SK := fun ls st sh me => match st with
  | v :: r => v.category = 1 ∧ K ls r sh me
  | _ => False
def o_dup (K : SK) : SK := fun ls st sh me => match st with
  | v :: r => v.category = 1 ∧ K ls (v :: v :: r) sh me
  | _ => False
def o_dup2 (K : SK) : SK := fun ls st sh me => match st with
  | v :: w :: r => v.category = 1 ∧ w.category = 1 ∧ K ls (v :: w :: v :: w :: r) sh me
  | _ => False
def o_dupx1 (K : SK) : SK := fun ls st sh me => match st with
  | v :: w :: r => v.category = 1 ∧ w.category = 1 ∧ K ls (v :: w :: v :: r) sh me
  | _ => False
def o_if (c : Int32 → Prop) (Kt Kf : SK) : SK := fun ls st sh me => match st with
  | .int x :: r => (c x → Kt ls r sh me) ∧ (¬ c x → Kf ls r sh me)
  | _ => False
def o_ic (c : Int32 → Int32 → Prop) (Kt Kf : SK) : SK := fun ls st sh me => match st with
  | .int y :: .int x :: r => (c x y → Kt ls r sh me) ∧ (¬ c x y → Kf ls r sh me)
  | _ => False
def s_sw (x : Int32) (ls : SLoc) (r : List Value) (sh : SShp) (me : SMem) (d : SK) : List (Int32 × SK) → Prop
  | [] => d ls r sh me
  | q :: l => (x = q.1 → q.2 ls r sh me) ∧ (¬ x = q.1 → s_sw x ls r sh me d l)
def o_sw (l : List (Int32 × SK)) (d : SK) : SK := fun ls st sh me => match st with
  | .int x :: r => s_sw x ls r sh me d l
  | _ => False
def o_getI (ci k : Nat) (K : SK) : SK := fun ls st sh me => match st with
  | .ref a :: r => a < sh.1 ∧ sh.2.2.1 a = ci ∧ K ls (.int (me.1 a k) :: r) sh me
  | _ => False
def o_getJ (ci k : Nat) (K : SK) : SK := fun ls st sh me => match st with
  | .ref a :: r => a < sh.1 ∧ sh.2.2.1 a = ci ∧ K ls (.long (me.2.1 a k) :: r) sh me
  | _ => False
def o_getR (ci k : Nat) (K : SK) : SK := fun ls st sh me => match st with
  | .ref a :: r => a < sh.1 ∧ sh.2.2.1 a = ci ∧ (match me.2.2 a k with
    | some b => K ls (.ref b :: r) sh me
    | none => False)
  | _ => False
def o_putI (ci k : Nat) (K : SK) : SK := fun ls st sh me => match st with
  | .int x :: .ref a :: r => a < sh.1 ∧ sh.2.2.1 a = ci ∧ K ls r sh (s_uI me a k x)
  | _ => False
/-- a boolean field -/
def o_putZ (ci k : Nat) (K : SK) : SK := fun ls st sh me => match st with
  | .int x :: .ref a :: r => a < sh.1 ∧ sh.2.2.1 a = ci ∧ (x = 0 ∨ x = 1) ∧ K ls r sh (s_uI me a k x)
  | _ => False
def o_putJ (ci k : Nat) (K : SK) : SK := fun ls st sh me => match st with
  | .long x :: .ref a :: r => a < sh.1 ∧ sh.2.2.1 a = ci ∧ K ls r sh (s_uJ me a k x)
  | _ => False
def o_putR (ci k : Nat) (K : SK) : SK := fun ls st sh me => match st with
  | .ref b :: .ref a :: r => a < sh.1 ∧ sh.2.2.1 a = ci ∧ b < sh.1 ∧ K ls r sh (s_uR me a k (some b))
  | _ => False
def o_iald (K : SK) : SK := fun ls st sh me => match st with
  | .int i :: .ref a :: r => a < sh.1 ∧ sh.2.2.1 a = 10 ∧ vp_in i (sh.2.2.2 a) ∧ K ls (.int (me.1 a i.toNatClampNeg) :: r) sh me
  | _ => False
def o_iast (K : SK) : SK := fun ls st sh me => match st with
  | .int x :: .int i :: .ref a :: r => a < sh.1 ∧ sh.2.2.1 a = 10 ∧ vp_in i (sh.2.2.2 a) ∧ K ls r sh (s_uI me a i.toNatClampNeg x)
  | _ => False
def o_lald (K : SK) : SK := fun ls st sh me => match st with
  | .int i :: .ref a :: r => a < sh.1 ∧ sh.2.2.1 a = 11 ∧ vp_in i (sh.2.2.2 a) ∧ K ls (.long (me.2.1 a i.toNatClampNeg) :: r) sh me
  | _ => False
def o_last (K : SK) : SK := fun ls st sh me => match st with
  | .long x :: .int i :: .ref a :: r => a < sh.1 ∧ sh.2.2.1 a = 11 ∧ vp_in i (sh.2.2.2 a) ∧ K ls r sh (s_uJ me a i.toNatClampNeg x)
  | _ => False
/-- a row of references: 12 people, 13 shelves -/
def o_aald (ci : Nat) (K : SK) : SK := fun ls st sh me => match st with
  | .int i :: .ref a :: r => a < sh.1 ∧ sh.2.2.1 a = ci ∧ vp_in i (sh.2.2.2 a) ∧ (match me.2.2 a i.toNatClampNeg with
    | some b => K ls (.ref b :: r) sh me
    | none => False)
  | _ => False
def o_aast (ci : Nat) (K : SK) : SK := fun ls st sh me => match st with
  | .ref b :: .int i :: .ref a :: r => a < sh.1 ∧ sh.2.2.1 a = ci ∧ vp_in i (sh.2.2.2 a) ∧ b < sh.1 ∧ sh.2.2.1 b = (if ci = 12 then 1 else 5) ∧ K ls r sh (s_uR me a i.toNatClampNeg (some b))
  | _ => False
def o_alen (ci : Nat) (K : SK) : SK := fun ls st sh me => match st with
  | .ref a :: r => a < sh.1 ∧ sh.2.2.1 a = ci ∧ K ls (.int (nI (sh.2.2.2 a)) :: r) sh me
  | _ => False
def o_new (mc ms ci N : Nat) (K : SK) : SK := fun ls st sh me => sh.1 < 1000000 ∧ sh.2.1.1 + 1 ≤ mc ∧ sh.2.1.2 + N ≤ ms ∧ s_okl sh.1 ls ∧ s_oks sh.1 st ∧ K ls (.ref sh.1 :: st) (s_new sh ci 0 N) (s_zero sh.1 me)
def o_newa (mc ms ci N : Nat) (K : SK) : SK := fun ls st sh me => match st with
  | .int x :: r => x = nI N ∧ sh.1 < 1000000 ∧ sh.2.1.1 + 1 ≤ mc ∧ sh.2.1.2 + N ≤ ms ∧ s_okl sh.1 ls ∧ s_oks sh.1 r ∧ K ls (.ref sh.1 :: r) (s_new sh ci N N) (s_zero sh.1 me)
  | _ => False
/-- a table of the class's own (0 ABOVE, 1 BODIES): its address is 1000000 and its number -/
def s_tl (j : Nat) : List Int32 := if j = 0 then [-1, 0, 1, 0, 0, 3, 4] else [10, 11, 12, 20, -1, -1, 40, -1, -1, -1, 30, -1, 51, -1, 50, -1, -1, 60, 70, 71, -1]
def o_tald (j : Nat) (K : SK) : SK := fun ls st sh me => match st with
  | .int i :: .ref a :: r => a = 1000000 + j ∧ vp_in i (s_tl j).length ∧ K ls (.int ((s_tl j).getD i.toNatClampNeg 0) :: r) sh me
  | _ => False
-- calls
def s_ret (K : SK) (ls : SLoc) (rest : List Value) : SQ := fun r sh me => K ls (r.toList ++ rest) sh me
def o_call (C : SC) (n : Nat) (K : SK) : SK := fun ls st sh me => (s_pop n [] st).1.length = n ∧ s_sm (s_pop n [] st).2 ∧ C (s_pop n [] st).1 sh me (s_ret K ls (s_pop n [] st).2)
def s_rc (ci : Nat) (sh : SShp) : List Value → Prop
  | .ref a :: _ => a < sh.1 ∧ sh.2.2.1 a = ci
  | _ => False
def o_callV (C : SC) (ci n : Nat) (K : SK) : SK := fun ls st sh me => s_rc ci sh (s_pop n [] st).1 ∧ o_call C n K ls st sh me
/-- a call of a method that makes cells: mc of ms slots -/
def o_callA (C : SC) (n MC MS mc ms : Nat) (K : SK) : SK := fun ls st sh me => sh.2.1.1 + mc ≤ MC ∧ sh.2.1.2 + ms ≤ MS ∧ s_okl sh.1 ls ∧ s_oks sh.1 (s_pop n [] st).2 ∧ (s_pop n [] st).1.length = n ∧ s_sm (s_pop n [] st).2 ∧ C (s_pop n [] st).1 (sh.1, (0, 0), sh.2.2) me (fun r sh' me' => K ls (r.toList ++ (s_pop n [] st).2) (sh'.1, (sh.2.1.1 + mc, sh.2.1.2 + ms), sh'.2.2) me')
def o_obj (K : SK) : SK := fun ls st sh me => match st with
  | .ref _ :: r => s_sm r ∧ K ls r sh me
  | _ => False
def o_copyl (K : SK) : SK := fun ls st sh me => match st with
  | .int n :: .int dp :: .ref b :: .int sp :: .ref a :: r => s_sm r ∧ a < sh.1 ∧ sh.2.2.1 a = 11 ∧ b < sh.1 ∧ sh.2.2.1 b = 11 ∧ ¬ sp < 0 ∧ ¬ dp < 0 ∧ ¬ n < 0 ∧ sp.toNatClampNeg + n.toNatClampNeg ≤ sh.2.2.2 a ∧ dp.toNatClampNeg + n.toNatClampNeg ≤ sh.2.2.2 b ∧ K ls r sh (me.1, (fun c j => if c = b then va_cpy (me.2.1 a) (me.2.1 b) sp.toNatClampNeg dp.toNatClampNeg n.toNatClampNeg j else me.2.1 c j), me.2.2)
  | _ => False
-- returns
def o_vret (Q : SQ) : SK := fun _ st sh me => match st with
  | [] => Q none sh me
  | _ => False
def o_iret (Q : SQ) : SK := fun _ st sh me => match st with
  | [.int x] => Q (some (.int x)) sh me
  | _ => False
def o_zret (Q : SQ) : SK := fun _ st sh me => match st with
  | [.int x] => (x = 0 ∨ x = 1) ∧ Q (some (.int x)) sh me
  | _ => False
def o_lret (Q : SQ) : SK := fun _ st sh me => match st with
  | [.long x] => Q (some (.long x)) sh me
  | _ => False
def o_aret (Q : SQ) : SK := fun _ st sh me => match st with
  | [.ref x] => Q (some (.ref x)) sh me
  | _ => False
/-- what a table of blocks comes to: the least that is closed under it -/
def s_wp (P : SQ → (Nat → SK) → Nat → SK) (Q : SQ) (pc : Nat) : SK := fun ls st sh me => ∀ X : Nat → SK, (∀ Y : Nat → SK, (∀ pc ls st sh me, Y pc ls st sh me → X pc ls st sh me) → ∀ pc ls st sh me, P Q Y pc ls st sh me → X pc ls st sh me) → X pc ls st sh me
theorem s_fold {P : SQ → (Nat → SK) → Nat → SK} {Q : SQ} {pc : Nat} {ls : SLoc} {st : List Value} {sh : SShp} {me : SMem} (h : P Q (s_wp P Q) pc ls st sh me) : s_wp P Q pc ls st sh me := fun X hX => hX (s_wp P Q) (fun _ _ _ _ _ hw => hw X hX) pc ls st sh me h
