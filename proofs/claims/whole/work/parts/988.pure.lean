/-! the law, from the entry to the loop: printed by gen988.py -/
set_option maxRecDepth 100000
def i_li : List (Nat × Option (Nat × Int32)) := [(107, none), (106, none), (105, none), (104, none), (80, some (36, (-1))), (103, none), (102, none), (101, none), (100, none), (99, some (5, 35)), (99, some (4, 99)), (99, some (3, 9)), (99, some (2, 20)), (99, some (1, 9)), (99, some (0, 6)), (99, none), (98, some (6, 1)), (98, some (5, 1)), (98, some (4, 1)), (98, some (3, 6)), (98, some (2, 1)), (98, some (1, 1)), (98, some (0, 1)), (98, none), (97, some (46, 0)), (97, some (45, 32)), (97, some (44, 104)), (97, some (43, 99)), (97, some (42, 97)), (97, some (41, 101)), (97, some (40, 114)), (97, some (39, 0)), (97, some (38, 32)), (97, some (37, 101)), (97, some (36, 116)), (97, some (35, 105)), (97, some (34, 109)), (97, some (33, 0)), (97, some (32, 32)), (97, some (31, 107)), (97, some (30, 99)), (97, some (29, 97)), (97, some (28, 115)), (97, some (27, 0)), (97, some (26, 32)), (97, some (25, 110)), (97, some (24, 111)), (97, some (23, 115)), (97, some (22, 114)), (97, some (21, 101)), (97, some (20, 112)), (97, some (19, 0)), (97, some (18, 32)), (97, some (17, 121)), (97, some (16, 110)), (97, some (15, 111)), (97, some (14, 99)), (97, some (13, 108)), (97, some (12, 97)), (97, some (11, 98)), (97, some (10, 0)), (97, some (9, 32)), (97, some (8, 112)), (97, some (7, 97)), (97, some (6, 103)), (97, some (5, 0)), (97, some (4, 32)), (97, some (3, 108)), (97, some (2, 108)), (97, some (1, 97)), (97, some (0, 119)), (97, none), (96, none), (95, none), (94, none), (93, none), (92, none), (91, none), (90, none), (89, none), (88, none), (87, none), (86, none), (85, none), (84, none), (83, none), (82, none), (81, none), (80, some (7, (-1))), (80, some (6, 1)), (80, some (2, 5)), (80, some (1, 1)), (80, none), (79, none), (78, some (0, (-1))), (78, none), (77, none), (76, some (0, (-1))), (76, none), (75, none), (74, some (0, (-1))), (74, none), (73, none), (72, some (0, (-1))), (72, none), (71, none), (70, some (0, (-1))), (70, none), (69, none), (68, some (0, (-1))), (68, none), (67, none), (66, some (0, (-1))), (66, none), (65, none), (64, some (0, (-1))), (64, none), (63, none), (62, none), (61, none), (60, none), (59, some (4, (-1))), (59, none), (58, none), (57, none), (56, none), (55, none), (54, none), (53, none), (52, none), (51, none), (50, none), (49, none), (48, none), (47, none), (46, none), (45, none), (44, none), (43, none), (42, none), (41, none), (40, none), (39, none), (38, none), (37, none), (35, some (9, 1)), (35, some (5, 5)), (35, some (4, 1)), (36, none), (35, none), (34, none), (33, none), (32, none), (31, none), (30, none), (29, none), (28, none), (27, none), (26, none), (25, none), (24, none), (23, none), (22, none), (21, none), (19, some (9, 1)), (19, some (5, 5)), (19, some (4, 1)), (20, none), (19, none), (18, none), (17, none), (16, none), (15, none), (14, none), (13, none), (12, none), (10, some (9, 1)), (10, some (5, 5)), (10, some (4, 1)), (11, none), (10, none), (9, none), (8, none), (7, none), (6, none), (5, none), (4, none), (3, none), (1, some (9, 1)), (1, some (5, 5)), (1, some (4, 1)), (2, none), (1, none), (0, none)]
def i_lr : List (Nat × Option (Nat × Nat)) := [(80, some (41, 107)), (107, none), (80, some (39, 106)), (106, none), (80, some (38, 105)), (105, none), (80, some (37, 104)), (104, none), (80, some (35, 103)), (103, none), (80, some (34, 102)), (102, none), (80, some (33, 101)), (101, none), (80, some (27, 100)), (100, none), (80, some (26, 99)), (99, none), (80, some (25, 98)), (98, none), (80, some (24, 97)), (97, none), (80, some (23, 96)), (96, none), (80, some (22, 95)), (95, none), (80, some (21, 94)), (94, none), (80, some (20, 93)), (93, none), (80, some (19, 92)), (92, none), (80, some (18, 91)), (91, none), (80, some (17, 90)), (90, none), (80, some (16, 89)), (89, none), (80, some (15, 88)), (88, none), (80, some (14, 87)), (87, none), (80, some (13, 86)), (86, none), (80, some (12, 85)), (85, none), (80, some (11, 84)), (84, none), (80, some (10, 83)), (83, none), (80, some (9, 82)), (82, none), (80, some (8, 81)), (81, none), (80, none), (62, some (7, 78)), (78, some (3, 79)), (79, none), (78, none), (62, some (6, 76)), (76, some (3, 77)), (77, none), (76, none), (62, some (5, 74)), (74, some (3, 75)), (75, none), (74, none), (62, some (4, 72)), (72, some (3, 73)), (73, none), (72, none), (62, some (3, 70)), (70, some (3, 71)), (71, none), (70, none), (62, some (2, 68)), (68, some (3, 69)), (69, none), (68, none), (62, some (1, 66)), (66, some (3, 67)), (67, none), (66, none), (62, some (0, 64)), (64, some (3, 65)), (65, none), (64, none), (0, some (10, 63)), (63, none), (0, some (9, 62)), (62, none), (0, some (8, 60)), (60, some (0, 61)), (61, none), (60, none), (0, some (7, 59)), (59, none), (0, some (6, 52)), (52, some (0, 53)), (53, some (4, 58)), (58, none), (53, some (3, 57)), (57, none), (53, some (2, 56)), (56, none), (53, some (1, 55)), (55, none), (53, some (0, 54)), (54, none), (53, none), (52, none), (0, some (5, 34)), (34, some (3, 51)), (51, none), (34, some (2, 50)), (50, none), (34, some (1, 44)), (44, some (4, 49)), (49, none), (44, some (3, 48)), (48, none), (44, some (2, 47)), (47, none), (44, some (1, 46)), (46, none), (44, some (0, 45)), (45, none), (44, none), (34, some (0, 35)), (36, some (6, 43)), (43, none), (36, some (5, 42)), (42, none), (36, some (4, 41)), (41, none), (36, some (3, 40)), (40, none), (36, some (2, 39)), (39, none), (36, some (1, 38)), (38, none), (36, some (0, 37)), (37, none), (35, some (0, 36)), (36, none), (35, none), (34, none), (0, some (4, 28)), (28, some (4, 33)), (33, none), (28, some (3, 32)), (32, none), (28, some (2, 31)), (31, none), (28, some (1, 30)), (30, none), (28, some (0, 29)), (29, none), (28, none), (0, some (2, 19)), (20, some (6, 27)), (27, none), (20, some (5, 26)), (26, none), (20, some (4, 25)), (25, none), (20, some (3, 24)), (24, none), (20, some (2, 23)), (23, none), (20, some (1, 22)), (22, none), (20, some (0, 21)), (21, none), (19, some (0, 20)), (20, none), (19, none), (0, some (1, 10)), (11, some (6, 18)), (18, none), (11, some (5, 17)), (17, none), (11, some (4, 16)), (16, none), (11, some (3, 15)), (15, none), (11, some (2, 14)), (14, none), (11, some (1, 13)), (13, none), (11, some (0, 12)), (12, none), (10, some (0, 11)), (11, none), (10, none), (0, some (0, 1)), (2, some (6, 9)), (9, none), (2, some (5, 8)), (8, none), (2, some (4, 7)), (7, none), (2, some (3, 6)), (6, none), (2, some (2, 5)), (5, none), (2, some (1, 4)), (4, none), (2, some (0, 3)), (3, none), (1, some (0, 2)), (2, none), (1, none), (0, none)]
theorem rL_hi : ∀ (l : List (Nat × Option (Nat × Nat))) (a k m : Nat), (∀ e, e ∈ l → e.1 < 108 ∧ ∀ q, e.2 = some q → q.1 < 44) → (108 ≤ a ∨ 44 ≤ k) → rL l a k = none
  | [], _, _, _, _, _ => rfl
  | (b, none) :: l, a, k, m, h, g => by
    have ih := rL_hi l a k m (fun e he => h e (List.mem_cons_of_mem _ he)) g
    show (if a = b then none else rL l a k) = none
    split
    · rfl
    · exact ih
  | (b, some q) :: l, a, k, m, h, g => by
    have ih := rL_hi l a k m (fun e he => h e (List.mem_cons_of_mem _ he)) g
    have h1 := h (b, some q) (List.mem_cons_self ..)
    have h2 := h1.2 q rfl
    have h3 : b < 108 := h1.1
    show (if a = b ∧ k = q.1 then some q.2 else rL l a k) = none
    rw [if_neg (by omega)]
    exact ih
def i_rows : Bool := i_lr.all (fun e => decide (e.1 < 108) && (match e.2 with
  | none => true
  | some q => decide (q.1 < 44)))
theorem i_rows_t : i_rows = true := by decide +kernel
theorem i_lr_lo : ∀ a, a < 108 → ∀ k, k < 44 → rL i_lr a k = RS none none a k := by decide +kernel
theorem gd_hi {β : Type} (l : List β) (a : Nat) (d : β) (h : l.length ≤ a) : l.getD a d = d := by
  simp [List.getD, List.getElem?_eq_none h]
theorem rF_row : ∃ LL : List (List (Option Nat)), (∀ a k, rF a k = (LL.getD a []).getD k none) ∧ LL.length = 108 ∧ ∀ a, a < 108 → (LL.getD a []).length ≤ 44 := ⟨_, fun _ _ => rfl, by decide +kernel, by decide +kernel⟩
theorem rF_hi (a k : Nat) (g : 108 ≤ a ∨ 44 ≤ k) : RS none none a k = none := by
  have key : rF a k = none := by
    obtain ⟨LL, h1, h2, h3⟩ := rF_row
    rw [h1]
    by_cases ha : a < 108
    · exact gd_hi _ _ _ (Nat.le_trans (h3 a ha) (by omega))
    · rw [gd_hi LL a [] (by omega)]
      rfl
  unfold RS
  rw [key]
  repeat' split
  all_goals rfl
theorem i_R : rL i_lr = RS none none := by
  funext a k
  by_cases g : 108 ≤ a ∨ 44 ≤ k
  · rw [rF_hi a k g]
    refine rL_hi i_lr a k 0 (fun e he => ?_) g
    have := i_rows_t
    unfold i_rows at this
    have h := List.all_eq_true.mp this e he
    obtain ⟨b, x⟩ := e
    cases x with
    | none => exact ⟨by simpa using h, fun q z => by cases z⟩
    | some q =>
      simp only [Bool.and_eq_true, decide_eq_true_eq] at h
      exact ⟨h.1, fun q2 z => by cases z; exact h.2⟩
  · exact i_lr_lo a (by omega) k (by omega)
theorem i_S : SG 108 108 4033 = SHc 108 4033 := by
  unfold SG SHc
  have c : cG 108 = cF := by
    funext a
    unfold cG
    split
    · rfl
    · rename_i h
      unfold cF
      exact (gd_hi _ a 0 (Nat.le_trans (by decide) (Nat.not_lt.mp h))).symm
  have l : lG 108 = lF := by
    funext a
    unfold lG
    split
    · rfl
    · rename_i h
      unfold lF
      exact (gd_hi _ a 0 (Nat.le_trans (by decide) (Nat.not_lt.mp h))).symm
  rw [c, l]
def σ0 : TS := ((fun _ _ => 0), (fun k => if k = 1 then 1 else if k = 2 then 5 else 0), fun k => if k = 2 then 1 else 0)
def α0 : AS := (σ0, none, (fun _ _ => 0), (fun _ _ => 0), (fun _ => 0), -1, 0, fun _ => 0)
theorem wf_0 : WF α0 := ⟨⟨by decide, fun i hi => absurd hi (Nat.not_lt_zero i), fun c _ => ⟨(by show 0 ≤ 1; decide), (by show 0 ≤ 1; decide)⟩, by decide, by decide, by decide, by decide, by decide⟩, (fun τ hτ => absurd (show (none : Option TS) = some τ from hτ) (by intro z; cases z)), fun s _ => ⟨(by show 0 ≤ 2; decide), (fun z => absurd (show (0 : Nat) = 1 from z) (by decide)), (fun z => absurd (show (0 : Nat) = 2 from z) (by decide))⟩⟩
theorem rx_0 : RX α0 (iL i_li) (fun _ _ => 0) := by
  refine ⟨⟨?_, ?_, ?_, ?_, ?_, ?_, ?_, ?_, ?_, fun i hi => absurd hi (Nat.not_lt_zero i)⟩, ?_, fun s hs => ⟨fun _ => ?_, (fun z => absurd (show (0 : Nat) = 2 from z) (by decide)), (fun z => absurd (show (0 : Nat) = 1 from z) (by decide))⟩, fun k _ hk => ?_, ?_, ?_, fun i hi => ?_⟩
  · decide +kernel
  · decide +kernel
  · decide +kernel
  · decide +kernel
  · decide +kernel
  · decide +kernel
  · decide +kernel
  · decide +kernel
  · decide +kernel
  · show iL i_li 0 3 = nI 0
    decide +kernel
  · exact (by decide +kernel : ∀ s, s < 8 → iL i_li (64 + 2 * s) 0 = -1 ∧ iL i_li (64 + 2 * s) 1 = nI 0) s hs
  · exact (by decide +kernel : ∀ k, k < 8 → iL i_li 63 k = 0) k hk
  · decide +kernel
  · decide +kernel
  · exact (by decide +kernel : ∀ k, k < 20 → iL i_li 61 k = 0) i hi
theorem rm_0 : RM α0 (iL i_li) (fun _ _ => 0) := by
  refine ⟨⟨?_, ?_, ?_, ?_, ?_, ?_, ?_, fun c hc => ?_, fun i hi => absurd hi (Nat.not_lt_zero i)⟩, ?_, fun s hs => ⟨?_, (fun z => absurd (show (0 : Nat) = 2 from z) (by decide)), (fun z => absurd (show (0 : Nat) = 1 from z) (by decide))⟩, fun k _ hk => ?_, ?_, ?_, fun i hi => ?_, ?_, fun k hk => ?_, fun k hk => ?_, fun k hk => ?_⟩
  · decide +kernel
  · decide +kernel
  · decide +kernel
  · decide +kernel
  · decide +kernel
  · decide +kernel
  · decide +kernel
  · exact (by decide +kernel : ∀ c, c < 36 → iL i_li 89 c = nI 0 ∧ iL i_li 90 c = nI 0) c hc
  · show iL i_li 80 43 = nI 0
    decide +kernel
  · exact (by decide +kernel : ∀ s, s < 8 → iL i_li 91 s = nI 0) s hs
  · exact (by decide +kernel : ∀ k, k < 8 → iL i_li 81 k = 0) k hk
  · decide +kernel
  · decide +kernel
  · exact (by decide +kernel : ∀ k, k < 20 → iL i_li 107 k = 0) i hi
  · decide +kernel
  · exact (by decide +kernel : ∀ k, k < 47 → iL i_li 97 k = nI (wordT.getD k 0)) k hk
  · exact (by decide +kernel : ∀ k, k < 7 → iL i_li 98 k = nI (numT.getD k 0)) k hk
  · exact (by decide +kernel : ∀ k, k < 6 → iL i_li 99 k = nI (mostT.getD k 0)) k hk
theorem p_astore {K : SK} {ls : SLoc} {st : List Value} {sh : SShp} {me : SMem} {i a : Nat} {ls2 : SLoc} (h : i < ls.length) (e : s_put1 ls i (.ref a) = ls2) (k : K ls2 st sh me) : o_astore i K ls (.ref a :: st) sh me := by subst e; exact ⟨h, k⟩
theorem sh_0_SG : sh_0 = SG 0 0 0 := by
  unfold sh_0 SG
  have c : cG 0 = fun _ => 0 := by funext a; exact if_neg (Nat.not_lt_zero a)
  have l : lG 0 = fun _ => 0 := by funext a; exact if_neg (Nat.not_lt_zero a)
  rw [c, l]
theorem me_0_ME : me_0 = ME [] [] := rfl
theorem pure_law_ok : pure_law := by
  intro L xs hL
  have fin : s_wp (P_L_law L xs) (fun _ _ _ => True) 18 [some (.ref 1000040), some (.ref 0), some (.ref 80), some (.int 0)] [] (SG 108 108 4033) (ME i_li i_lr) := by
    unfold ME
    rw [i_S, i_R]
    exact la_loop (by decide) (by decide) hL L 0 (by omega) (Or.inl rfl) (Nat.zero_le _) α0 (iL i_li) (fun _ _ => 0) none none wf_0 rx_0 rm_0
  rw [sh_0_SG, me_0_ME]
  refine w_L_law_0 ?_
  refine p_new (n2' := 1) (u2' := 1) (w2' := 11) rfl rfl rfl rfl rfl (by decide) (by decide) (by decide) ⟨Or.inr (by decide), trivial⟩ trivial ?_
  refine p_dup rfl ?_
  refine p_callA (u2' := 80) (w2' := 1833) rfl rfl (by decide) (by decide) ⟨Or.inr (by decide), trivial⟩ ⟨Or.inl (by decide), trivial⟩ trivial (i_X8_init_0 ?_)
  refine p_back ?_
  refine p_astore (ls2 := [some (.ref 1000040), some (.ref 0), none, none]) (by decide) rfl ?_
  refine p_new (n2' := 81) (u2' := 81) (w2' := 1877) rfl rfl rfl rfl rfl (by decide) (by decide) (by decide) ⟨Or.inr (by decide), Or.inl (by decide), trivial⟩ trivial ?_
  refine p_dup rfl ?_
  refine p_callA (u2' := 108) (w2' := 4033) rfl rfl (by decide) (by decide) ⟨Or.inr (by decide), Or.inl (by decide), trivial⟩ ⟨Or.inl (by decide), trivial⟩ trivial (i_X9_init_80 ?_)
  refine p_back ?_
  refine p_astore (ls2 := [some (.ref 1000040), some (.ref 0), some (.ref 80), none]) (by decide) rfl ?_
  refine p_const ?_
  refine p_istore (ls2 := [some (.ref 1000040), some (.ref 0), some (.ref 80), some (.int 0)]) (by decide) rfl ?_
  exact fin
