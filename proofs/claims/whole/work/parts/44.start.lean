/-! FROM THE ENTRY: what the tables and the premises give; then the law is what the small machine says of it -/
def sh_0 : SShp := (0, (0, 0), (fun _ => 0), fun _ => 0)
def me_0 : SMem := ((fun _ _ => 0), (fun _ _ => 0), fun _ _ => none)
/-- what is left to prove of the law, without the machine -/
def pure_law : Prop := ∀ (L : Nat) (xs : Nat → Int32), L ≤ 3584 → s_wp (P_L_law L xs) (fun _ _ _ => True) 0 [some (.ref 1000040), none, none, none] [] sh_0 me_0
def s_adf (tA tB tF b : Nat) (adK adV : Nat → Nat) : Nat → Nat := fun k => if k = 0 then tA else if k = 1 then tB else if k < 10 then adK (k - 2) else if k < 28 then adV (k - 20) else if k = 30 then tF else b
theorem s_c8 {P : Nat → Prop} (h0 : P 0) (h1 : P 1) (h2 : P 2) (h3 : P 3) (h4 : P 4) (h5 : P 5) (h6 : P 6) (h7 : P 7) : ∀ i, i < 8 → P i := by
  intro i hi
  rcases (show i = 0 ∨ i = 1 ∨ i = 2 ∨ i = 3 ∨ i = 4 ∨ i = 5 ∨ i = 6 ∨ i = 7 by omega) with rfl | rfl | rfl | rfl | rfl | rfl | rfl | rfl <;> assumption
def s_tm (i : Nat) : Term := Term.string "TaxOnLooks$Reader" (78 + 2 * i)
abbrev s_nar : List Cond := flatC (Jvm.Cond.and given_1 narrow_1)
theorem s_n1 : ∀ i, i < 8 → Cond.exactly (s_tm i) "java/lang/String" ∈ s_nar := s_c8 (by decide +kernel) (by decide +kernel) (by decide +kernel) (by decide +kernel) (by decide +kernel) (by decide +kernel) (by decide +kernel) (by decide +kernel)
theorem s_n2 : ∀ i, i < 8 → Cond.eq (.field (s_tm i) "java/lang/String" "coder" "B") (.int 0) ∈ s_nar := s_c8 (by decide +kernel) (by decide +kernel) (by decide +kernel) (by decide +kernel) (by decide +kernel) (by decide +kernel) (by decide +kernel) (by decide +kernel)
theorem s_n3 : ∀ i, i < 8 → Cond.arrayOf (.field (s_tm i) "java/lang/String" "value" "[B") .byte ∈ s_nar := s_c8 (by decide +kernel) (by decide +kernel) (by decide +kernel) (by decide +kernel) (by decide +kernel) (by decide +kernel) (by decide +kernel) (by decide +kernel)
theorem s_n4 : ∀ i, i < 8 → Cond.eq (.length (.field (s_tm i) "java/lang/String" "value" "[B")) (.int (Int32.ofNat (s_slen.getD i 0))) ∈ s_nar := s_c8 (by decide +kernel) (by decide +kernel) (by decide +kernel) (by decide +kernel) (by decide +kernel) (by decide +kernel) (by decide +kernel) (by decide +kernel)
theorem s_n5 : ∀ i, i < 8 → ∀ j, j < s_slen.getD i 0 → Cond.eq (.elem (.field (s_tm i) "java/lang/String" "value" "[B") (.int (Int32.ofNat j))) (.int ((s_byt.getD i []).getD j 0)) ∈ s_nar := s_c8 (by decide +kernel) (by decide +kernel) (by decide +kernel) (by decide +kernel) (by decide +kernel) (by decide +kernel) (by decide +kernel) (by decide +kernel)
theorem s_n6 : ∀ i, i < 8 → ∀ j, j < 8 → i ≠ j → (Cond.not (Cond.eq (s_tm i) (s_tm j)) ∈ s_nar ∨ Cond.not (Cond.eq (s_tm j) (s_tm i)) ∈ s_nar) := s_c8 (by decide +kernel) (by decide +kernel) (by decide +kernel) (by decide +kernel) (by decide +kernel) (by decide +kernel) (by decide +kernel) (by decide +kernel)
theorem s_n7 : ∀ j, j < 7 → Cond.eq (.elem (.static "TaxOnLooks" "ABOVE" "[I") (.int (Int32.ofNat j))) (.int ((s_tl 0).getD j 0)) ∈ s_nar := by decide +kernel
theorem s_n8 : ∀ j, j < 21 → Cond.eq (.elem (.static "TaxOnLooks" "BODIES" "[I") (.int (Int32.ofNat j))) (.int ((s_tl 1).getD j 0)) ∈ s_nar := by decide +kernel
theorem s_n9 : Cond.arrayOf (.static "TaxOnLooks" "ABOVE" "[I") .int ∈ s_nar ∧ Cond.eq (.length (.static "TaxOnLooks" "ABOVE" "[I")) (.int 7) ∈ s_nar ∧ Cond.arrayOf (.static "TaxOnLooks" "BODIES" "[I") .int ∈ s_nar ∧ Cond.eq (.length (.static "TaxOnLooks" "BODIES" "[I")) (.int 21) ∈ s_nar ∧ Cond.eq (.static "java/lang/String" "COMPACT_STRINGS" "Z") (.int 1) ∈ s_nar ∧ Cond.isRef (.static "jdk/internal/util/Preconditions" "SIOOBE_FORMATTER" "Ljava/util/function/BiFunction;") ∈ s_nar := by decide +kernel
set_option maxRecDepth 100000 in
set_option maxHeartbeats 4000000 in
theorem s_start (hp : pure_law) {p : Program} {e : Env} {s : State} {m : MethodId} {below : List Frame} {meth : Method} {c : Code} (l : Launch) {b L : Nat} {xs : Nat → Int32} (hL : L ≤ 3584) (C0 : lw_At p s m meth c b L xs) : W p l e room_1 s m #[Value.ref b] below meth c s.heap [] 0 0 (lw_Z below #[Value.ref b] s) (entryFrame m ([Value.ref b] : List Value).toArray 4) := by
  obtain ⟨hx, hb, hr, hml, hown, hts, hX, hbl, hlocks, hgv⟩ := id C0
  have hs := flat_of_before _ hgv
  have hA : ∀ a : Nat, a < s.heap.size → ¬ (fun q : Nat => s.heap.size ≤ q) a := fun a h => Nat.not_le.mpr h
  -- classes
  have hkn : ∀ k : Nat, ∃ q : ClassId × (Nat → Nat), ∀ r : vw_C, vwCl[k]? = some r → u_Kn s r.1 r.2.1 r.2.2 q.1 q.2 := by
    intro k
    have f : ∀ (C : String) (T : u_T) (N : Nat), (∀ j, j < N → u_lay C T j ∈ lw_tbl ∧ goodWord (u_lay C T j) = true) → Cond.instantiable C N ∈ lw_tbl → ∃ q : ClassId × (Nat → Nat), u_Kn s C T N q.1 q.2 := by
      intro C T N h1 h2
      obtain ⟨cC, iS, h⟩ := u_known hts (fun w hw => (List.mem_filter.mp (s_lay h1 w hw)).1) (hts _ h2)
      exact ⟨(cC, iS), h⟩
    match k with
    | 0 => obtain ⟨q, h⟩ := f RX0 TX0 5 lay_0 q1_234; exact ⟨q, fun r hr => by cases hr; exact h⟩
    | 1 => obtain ⟨q, h⟩ := f RX1 TX1 7 lay_1 q1_36; exact ⟨q, fun r hr => by cases hr; exact h⟩
    | 2 => obtain ⟨q, h⟩ := f RX2 TX2 4 lay_2 q1_176; exact ⟨q, fun r hr => by cases hr; exact h⟩
    | 3 => obtain ⟨q, h⟩ := f RX3 TX3 5 lay_3 q1_211; exact ⟨q, fun r hr => by cases hr; exact h⟩
    | 4 => obtain ⟨q, h⟩ := f RX4 TX4 6 lay_4 q1_142; exact ⟨q, fun r hr => by cases hr; exact h⟩
    | 5 => obtain ⟨q, h⟩ := f RX5 TX5 4 lay_5 q2_19; exact ⟨q, fun r hr => by cases hr; exact h⟩
    | 6 => obtain ⟨q, h⟩ := f RX6 TX6 1 lay_6 q1_199; exact ⟨q, fun r hr => by cases hr; exact h⟩
    | 7 => obtain ⟨q, h⟩ := f RX7 TX7 10 lay_7 q1_29; exact ⟨q, fun r hr => by cases hr; exact h⟩
    | 8 => obtain ⟨q, h⟩ := f RX8 TX8 11 lay_8 q1_21; exact ⟨q, fun r hr => by cases hr; exact h⟩
    | 9 => obtain ⟨q, h⟩ := f RX9 TX9 44 lay_9 q5_11; exact ⟨q, fun r hr => by cases hr; exact h⟩
    | k + 10 => exact ⟨(0, fun _ => 0), fun r hr => by simp [vwCl] at hr⟩
  obtain ⟨D, hKc⟩ : ∃ D : va_G, ∀ (k : Nat) (q : vw_C), vwCl[k]? = some q → u_Kn s q.1 q.2.1 q.2.2 (D.1 k) (D.2 k) := ⟨(fun k => (hkn k).choose.1, fun k => (hkn k).choose.2), fun k q hq => (hkn k).choose_spec q hq⟩
  -- rows
  obtain ⟨cI, kI, compI, i1, i2, i3⟩ := Cond.arrayClass_spec (hts _ q1_174)
  obtain ⟨cJ, kJ, compJ, j1, j2, j3⟩ := Cond.arrayClass_spec (hts _ q1_173)
  obtain ⟨compP, cP, kP, p1, -, p2, p3, p4⟩ := Cond.arrayOver_spec (hts _ q1_35)
  obtain ⟨compS, cS, kS, s1, -, s2, s3, s4⟩ := Cond.arrayOver_spec (hts _ q2_18)
  have hK : va_K D vwCl (s_tys (cI, cJ, cP, cS)) s := by
    refine ⟨hKc, fun k q hq => ?_⟩
    match k, hq with
    | 0, hq => cases hq; exact ⟨fun N z => ⟨(fun k h => by cases h), kI, i2, compI, i3⟩, i1⟩
    | 1, hq => cases hq; exact ⟨fun N z => ⟨(fun k h => by cases h), kJ, j2, compJ, j3⟩, j1⟩
    | 2, hq => cases hq; exact ⟨fun N z => ⟨(fun k h => by cases h), kP, p2, compP, p3⟩, kP, compP, p2, p3, p1, p4⟩
    | 3, hq => cases hq; exact ⟨fun N z => ⟨(fun k h => by cases h), kS, s2, compS, s3⟩, kS, compS, s2, s3, s1, s4⟩
    | k + 4, hq => simp [s_tys] at hq
  -- the class's own tables and texts
  obtain ⟨tA, hA1, hA2⟩ := va_Tof (tm := .static "TaxOnLooks" "ABOVE" "[I") (ty := .int) (N := 7) (f := fun j => .int ((s_tl 0).getD j 0)) (A := fun q : Nat => s.heap.size ≤ q) (by decide) (hs _ s_n9.1) (va_eqt (hs _ s_n9.2.1)) (fun j hj => va_eqt (hs _ (s_n7 j hj))) hA
  obtain ⟨tB, hB1, hB2⟩ := va_Tof (tm := .static "TaxOnLooks" "BODIES" "[I") (ty := .int) (N := 21) (f := fun j => .int ((s_tl 1).getD j 0)) (A := fun q : Nat => s.heap.size ≤ q) (by decide) (hs _ s_n9.2.2.1) (va_eqt (hs _ s_n9.2.2.2.1)) (fun j hj => va_eqt (hs _ (s_n8 j hj))) hA
  have hZA := va_Zref (A := fun q : Nat => s.heap.size ≤ q) (hts _ q2_178) (hts _ q1_1) hA1 hA
  have hZB := va_Zref (A := fun q : Nat => s.heap.size ≤ q) (hts _ q4_217) (hts _ q1_1) hB1 hA
  have hZC := va_Zof (A := fun q : Nat => s.heap.size ≤ q) (hts _ q3_87) (hts _ q1_14) (va_eqi (hs _ s_n9.2.2.2.2.1)) hA
  have hZF := va_Zqof (A := fun q : Nat => s.heap.size ≤ q) (hts _ q3_103) (hts _ q1_16) (hs _ s_n9.2.2.2.2.2) hA
  obtain ⟨adK, adV, hS, hSe⟩ := vk_Sof (N := 8) (tm := s_tm) (len := s_slen) (byt := s_byt) (A := fun q : Nat => s.heap.size ≤ q) (s_c8 (by decide) (by decide) (by decide) (by decide) (by decide) (by decide) (by decide) (by decide)) (fun i hi => hs _ (s_n1 i hi)) (fun i hi => hs _ (s_n2 i hi)) (fun i hi => hs _ (s_n3 i hi)) (fun i hi => hs _ (s_n4 i hi)) (fun i hi j hj => hs _ (s_n5 i hi j hj)) (fun i j hi hj hij => (s_n6 i hi j hj hij).imp (hs _) (hs _)) hA
  obtain ⟨tF, hF⟩ : ∃ tF : Nat, va_Z "jdk/internal/util/Preconditions" "SIOOBE_FORMATTER" "Ljava/util/function/BiFunction;" .null (fun q : Nat => s.heap.size ≤ q) s s.heap ∨ va_Z "jdk/internal/util/Preconditions" "SIOOBE_FORMATTER" "Ljava/util/function/BiFunction;" (.ref tF) (fun q : Nat => s.heap.size ≤ q) s s.heap := by
    rcases hZF with h | ⟨t, h⟩
    · exact ⟨0, Or.inl h⟩
    · exact ⟨t, Or.inr h⟩
  have eK : ∀ i, i < 8 → s_adf tA tB tF b adK adV (2 + i) = adK i := by
    intro i hi
    simp only [s_adf, if_neg (show ¬ 2 + i = 0 by omega), if_neg (show ¬ 2 + i = 1 by omega), if_pos (show 2 + i < 10 by omega), show 2 + i - 2 = i by omega]
  have eV : ∀ i, i < 8 → s_adf tA tB tF b adK adV (20 + i) = adV i := by
    intro i hi
    simp only [s_adf, if_neg (show ¬ 20 + i = 0 by omega), if_neg (show ¬ 20 + i = 1 by omega), if_neg (show ¬ 20 + i < 10 by omega), if_pos (show 20 + i < 28 by omega), show 20 + i - 20 = i by omega]
  have hsp : s_sp (s_adf tA tB tF b adK adV) (fun q => s.heap.size ≤ q) s s.heap := by
    refine ⟨⟨hZA, hA2⟩, ⟨hZB, hB2⟩, ⟨⟨fun i hi => ?_, fun i j hi hj h => hS.2 i j hi hj ?_⟩, ?_⟩, hZC, hF⟩
    · show va_O _ (s_adf tA tB tF b adK adV (2 + i)) _ _ _ ∧ va_OF _ _ _ _ (s_adf tA tB tF b adK adV (2 + i)) _ _ _ ∧ va_OF _ _ _ (Value.ref (s_adf tA tB tF b adK adV (20 + i))) (s_adf tA tB tF b adK adV (2 + i)) _ _ _ ∧ va_T _ (s_adf tA tB tF b adK adV (20 + i)) _ _ _ _ _
      rw [eK i hi, eV i hi]
      exact hS.1 i hi
    · have h : s_adf tA tB tF b adK adV (2 + i) = s_adf tA tB tF b adK adV (2 + j) := h
      rw [eK i hi, eK j hj] at h
      exact h
    · refine fun i hi => ?_
      rw [eK i hi]
      exact vk_R.of (hts _ (s_c8 (P := fun i => Cond.stringRef "TaxOnLooks$Reader" (78 + 2 * i) (s_txt i) ∈ lw_tbl) q3_62 q3_63 q3_64 q3_65 q3_66 q3_67 q3_68 q3_69 i hi)) (hSe i hi)
  have htb : s_tb s := fun w hm hg => word_at (State.WarmedH.refl s) (good_of_word hg) (hts w hm)
  have hnst : s_nst s := by
    intro w hm hn
    have hw := hts w hm
    cases w <;> first | (cases hn; done) | exact va_Nw.of rfl hw | (rename_i t; cases t <;> first | (cases hn; done) | exact va_AO.of hw)
  have hG : s_G p s m #[Value.ref b] meth c code 4 "TaxOnLooksLaw" D (cI, cJ, cP, cS) (s_adf tA tB tF b adK adV) (fun q => s.heap.size ≤ q) ret meth.name := ⟨hx, hb, hml, hown, htb, hK, fun _ h => h, hnst, hsp, hlocks, hr, rfl⟩
  have hJ : s_J room_1 s D (cI, cJ, cP, cS) (fun q => s.heap.size ≤ q) true 0 id s.heap [] id sh_0 me_0 := by
    refine ⟨fun k q h => by simp [s_ws, sh_0] at h, ⟨fun i j p q h => by simp [s_ws, sh_0] at h, fun k q h => by simp [s_ws, sh_0] at h⟩, va_S.rf, Nat.zero_le _, fun a k b h => absurd h (Nat.not_lt_zero a), Nat.zero_le _, Nat.zero_le _, Nat.le_refl _, fun _ _ => rfl, fun z => by cases z⟩
  have main : ∀ (lsr : Array Slot) (H : Heap) (locs : List Loc) (φ1 : Nat → Nat), lv_has lsr 4 (s_lv φ1 (s_adf tA tB tF b adK adV) 0 [some (.ref 1000040), none, none, none]) → ([some (.ref 1000040), none, none, none] : SLoc).length = 4 → s_J room_1 s D (cI, cJ, cP, cS) (fun q => s.heap.size ≤ q) true 0 id H locs φ1 sh_0 me_0 → W p l e room_1 s m #[Value.ref b] below meth c H locs (s_kz true sh_0).1 (s_kz true sh_0).2 (lw_Z below #[Value.ref b] s) (F0 m 0 lsr []) :=
    hp L xs hL (fun pc ls st sh2 me2 => ∀ (lsr : Array Slot) (H : Heap) (locs : List Loc) (φ1 : Nat → Nat), lv_has lsr 4 (s_lv φ1 (s_adf tA tB tF b adK adV) 0 ls) → ls.length = 4 → s_J room_1 s D (cI, cJ, cP, cS) (fun q => s.heap.size ≤ q) true 0 id H locs φ1 sh2 me2 → W p l e room_1 s m #[Value.ref b] below meth c H locs (s_kz true sh2).1 (s_kz true sh2).2 (lw_Z below #[Value.ref b] s) (F0 m pc lsr (st.map (s_tr φ1 (s_adf tA tB tF b adK adV)))))
      (fun Y hY pc ls st sh2 me2 hPY lsr H locs φ1 g1 g2 g3 => bb_L_law l L xs pc p e s m below meth c D _ _ b 0 id meth.name hG hX hbl (Nat.not_le.mpr hbl) rfl Y (fun pc2 lsr2 H2 locs2 φ2 ls2 st2 sh3 me3 z1 z2 z3 z4 => hY pc2 ls2 st2 sh3 me3 z4 lsr2 H2 locs2 φ2 z1 z2 z3) lsr H locs φ1 ls st sh2 me2 g1 g2 g3 hPY)
  have hl := lv_entry ([.ref b]) (n := 4) (Nat.le_of_ble_eq_true rfl)
  rw [lg_entry_eq]
  exact main _ s.heap [] id hl rfl hJ
