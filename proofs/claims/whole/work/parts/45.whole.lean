theorem am_arr {ty : FieldType} {args : Array Value} {s : State} (h : (Cond.arrayClass ty).before args s = true) : ∃ cA : ClassId, ArrOfT s cA ty ∧ s.vm.findClass ("[" ++ ty.toString) = some cA := by
  obtain ⟨c, k, comp, h1, h2, h3⟩ := Cond.arrayClass_spec (first := s) (o := none) (idx := []) h
  exact ⟨c, fun n z => ⟨fun k h => (by cases h), k, h2, comp, h3⟩, h1⟩
theorem am_sh {args : Array Value} {s : State} (h : (Cond.arrayOver (.object "LionSigns$Sheet")).before args s = true) : ∃ cA : ClassId, ArrOfT s cA (.object "LionSigns$Sheet") ∧ va_RA s cA (.object "LionSigns$Sheet") := by
  obtain ⟨comp, c, k, h1, -, h2, h3, h4⟩ := Cond.arrayOver_spec (first := s) (o := none) (idx := []) h
  exact ⟨c, fun n z => ⟨fun k h => (by cases h), k, h2, comp, h3⟩, k, comp, h2, h3, h1, h4⟩
theorem am_str {N : Nat} {len : List Nat} {byt : List (List Int32)} {adK adV adK2 adV2 : Nat → Nat} {A : Nat → Prop} {U : State} {H : Heap} (h : vk_S N len byt adK adV A U H) (hk : ∀ i, i < N → adK2 i = adK i) (hv : ∀ i, i < N → adV2 i = adV i) : vk_S N len byt adK2 adV2 A U H :=
  ⟨fun i hi => by rw [hk i hi, hv i hi]; exact h.1 i hi, fun i j hi hj e => h.2 i j hi hj (by rw [← hk i hi, ← hk j hj]; exact e)⟩
set_option maxHeartbeats 8000000 in
set_option maxRecDepth 100000 in
theorem am_all {p : Program} {s : State} {m : MethodId} {meth : Method} {cf : Code} {b L : Nat} {xs : Nat → Int32} (C0 : lw_At p s m meth cf b L xs) : ∃ g : bs_G, bs_K g s ∧ (bs_A g (fun q : Nat => s.heap.size ≤ q) s s.heap ∧ bs_R g s) := by
  obtain ⟨hx, hb, hr, hml, hown, hts, hX, hbl, hlocks, hgv⟩ := C0
  have hs := flat_of_before _ hgv
  have hA : ∀ a : Nat, a < s.heap.size → ¬ (fun q : Nat => s.heap.size ≤ q) a := fun a h h2 => Nat.not_le.mpr h h2
  obtain ⟨c0, i0, k0⟩ := u_known (C := RX1) (T := TX1) (N := 7) (n := 7) hts inX1 (hts (.instantiable RX1 7) (by decide +kernel))
  obtain ⟨c1, i1, k1⟩ := u_known (C := RX2) (T := TX2) (N := 4) (n := 4) hts inX2 (hts (.instantiable RX2 4) (by decide +kernel))
  obtain ⟨c2, i2, k2⟩ := u_known (C := RX3) (T := TX3) (N := 3) (n := 3) hts inX3 (hts (.instantiable RX3 3) (by decide +kernel))
  obtain ⟨c3, i3, k3⟩ := u_known (C := RX4) (T := TX4) (N := 6) (n := 6) hts inX4 (hts (.instantiable RX4 6) (by decide +kernel))
  obtain ⟨c4, i4, k4⟩ := u_known (C := RX5) (T := TX5) (N := 7) (n := 7) hts inX5 (hts (.instantiable RX5 7) (by decide +kernel))
  obtain ⟨c5, i5, k5⟩ := u_known (C := RX6) (T := TX6) (N := 6) (n := 6) hts inX6 (hts (.instantiable RX6 6) (by decide +kernel))
  obtain ⟨c6, i6, k6⟩ := u_known (C := RX7) (T := TX7) (N := 13) (n := 13) hts inX7 (hts (.instantiable RX7 13) (by decide +kernel))
  obtain ⟨c7, i7, k7⟩ := u_known (C := RX8) (T := TX8) (N := 8) (n := 8) hts inX8 (hts (.instantiable RX8 8) (by decide +kernel))
  obtain ⟨c8, i8, k8⟩ := u_known (C := RX9) (T := TX9) (N := 25) (n := 25) hts inX9 (hts (.instantiable RX9 25) (by decide +kernel))
  obtain ⟨dC, dI, hKc⟩ : ∃ (dC : Nat → ClassId) (dI : Nat → Nat → Nat), ∀ (k : Nat) (q : vw_C), vwCl[k]? = some q → u_Kn s q.1 q.2.1 q.2.2 (dC k) (dI k) := by
    refine ⟨fun k => match k with | 0 => c0 | 1 => c1 | 2 => c2 | 3 => c3 | 4 => c4 | 5 => c5 | 6 => c6 | 7 => c7 | _ => c8, fun k => match k with | 0 => i0 | 1 => i1 | 2 => i2 | 3 => i3 | 4 => i4 | 5 => i5 | 6 => i6 | 7 => i7 | _ => i8, ?_⟩
    intro k q hq
    match k, hq with
    | 0, hq => cases hq; exact k0
    | 1, hq => cases hq; exact k1
    | 2, hq => cases hq; exact k2
    | 3, hq => cases hq; exact k3
    | 4, hq => cases hq; exact k4
    | 5, hq => cases hq; exact k5
    | 6, hq => cases hq; exact k6
    | 7, hq => cases hq; exact k7
    | 8, hq => cases hq; exact k8
    | k + 9, hq => simp [vwCl] at hq
  obtain ⟨cI, aI, nI⟩ := am_arr (hts (.arrayClass .int) (by decide +kernel))
  obtain ⟨cB, aB, nB⟩ := am_arr (hts (.arrayClass .byte) (by decide +kernel))
  obtain ⟨cZ, aZ, nZ⟩ := am_arr (hts (.arrayClass .boolean) (by decide +kernel))
  obtain ⟨cS, aS, nS⟩ := am_sh (hts (.arrayOver (.object "LionSigns$Sheet")) (by decide +kernel))
  obtain ⟨t4, e4, T4⟩ := va_Tof (tm := .static "LionSigns$Kinds" "ABOVE" "[I") (ty := .int) (N := 7) (f := bs_above) (A := fun q : Nat => s.heap.size ≤ q) (by decide) (hs (.arrayOf (.static "LionSigns$Kinds" "ABOVE" "[I") .int) (by decide +kernel)) (va_eqt (hs (.eq (.length (.static "LionSigns$Kinds" "ABOVE" "[I")) (.int 7)) (by decide +kernel))) (fun j hj => by
    rcases (show j = 0 ∨ j = 1 ∨ j = 2 ∨ j = 3 ∨ j = 4 ∨ j = 5 ∨ j = 6 by omega) with rfl | rfl | rfl | rfl | rfl | rfl | rfl
    · exact va_eqt (z := tb_above 0) (hs (.eq (.elem (.static "LionSigns$Kinds" "ABOVE" "[I") (.int (0 : Int32))) (.int (tb_above 0))) (by decide +kernel))
    · exact va_eqt (z := tb_above 1) (hs (.eq (.elem (.static "LionSigns$Kinds" "ABOVE" "[I") (.int (1 : Int32))) (.int (tb_above 1))) (by decide +kernel))
    · exact va_eqt (z := tb_above 2) (hs (.eq (.elem (.static "LionSigns$Kinds" "ABOVE" "[I") (.int (2 : Int32))) (.int (tb_above 2))) (by decide +kernel))
    · exact va_eqt (z := tb_above 3) (hs (.eq (.elem (.static "LionSigns$Kinds" "ABOVE" "[I") (.int (3 : Int32))) (.int (tb_above 3))) (by decide +kernel))
    · exact va_eqt (z := tb_above 4) (hs (.eq (.elem (.static "LionSigns$Kinds" "ABOVE" "[I") (.int (4 : Int32))) (.int (tb_above 4))) (by decide +kernel))
    · exact va_eqt (z := tb_above 5) (hs (.eq (.elem (.static "LionSigns$Kinds" "ABOVE" "[I") (.int (5 : Int32))) (.int (tb_above 5))) (by decide +kernel))
    · exact va_eqt (z := tb_above 6) (hs (.eq (.elem (.static "LionSigns$Kinds" "ABOVE" "[I") (.int (6 : Int32))) (.int (tb_above 6))) (by decide +kernel))) hA
  have Z4 : va_Z "LionSigns$Kinds" "ABOVE" "[I" (.ref t4) (fun q : Nat => s.heap.size ≤ q) s s.heap := va_Zof (hts (.laysStatic "LionSigns$Kinds" "ABOVE" "[I") (by decide +kernel)) (hts (.initialized "LionSigns$Kinds") (by decide +kernel)) e4 hA
  obtain ⟨t5, e5, T5⟩ := va_Tof (tm := .static "LionSigns$Voices" "BODIES" "[I") (ty := .int) (N := 28) (f := bs_bodies) (A := fun q : Nat => s.heap.size ≤ q) (by decide) (hs (.arrayOf (.static "LionSigns$Voices" "BODIES" "[I") .int) (by decide +kernel)) (va_eqt (hs (.eq (.length (.static "LionSigns$Voices" "BODIES" "[I")) (.int 28)) (by decide +kernel))) (fun j hj => by
    rcases (show j = 0 ∨ j = 1 ∨ j = 2 ∨ j = 3 ∨ j = 4 ∨ j = 5 ∨ j = 6 ∨ j = 7 ∨ j = 8 ∨ j = 9 ∨ j = 10 ∨ j = 11 ∨ j = 12 ∨ j = 13 ∨ j = 14 ∨ j = 15 ∨ j = 16 ∨ j = 17 ∨ j = 18 ∨ j = 19 ∨ j = 20 ∨ j = 21 ∨ j = 22 ∨ j = 23 ∨ j = 24 ∨ j = 25 ∨ j = 26 ∨ j = 27 by omega) with rfl | rfl | rfl | rfl | rfl | rfl | rfl | rfl | rfl | rfl | rfl | rfl | rfl | rfl | rfl | rfl | rfl | rfl | rfl | rfl | rfl | rfl | rfl | rfl | rfl | rfl | rfl | rfl
    · exact va_eqt (z := tb_bodies 0) (hs (.eq (.elem (.static "LionSigns$Voices" "BODIES" "[I") (.int (0 : Int32))) (.int (tb_bodies 0))) (by decide +kernel))
    · exact va_eqt (z := tb_bodies 1) (hs (.eq (.elem (.static "LionSigns$Voices" "BODIES" "[I") (.int (1 : Int32))) (.int (tb_bodies 1))) (by decide +kernel))
    · exact va_eqt (z := tb_bodies 2) (hs (.eq (.elem (.static "LionSigns$Voices" "BODIES" "[I") (.int (2 : Int32))) (.int (tb_bodies 2))) (by decide +kernel))
    · exact va_eqt (z := tb_bodies 3) (hs (.eq (.elem (.static "LionSigns$Voices" "BODIES" "[I") (.int (3 : Int32))) (.int (tb_bodies 3))) (by decide +kernel))
    · exact va_eqt (z := tb_bodies 4) (hs (.eq (.elem (.static "LionSigns$Voices" "BODIES" "[I") (.int (4 : Int32))) (.int (tb_bodies 4))) (by decide +kernel))
    · exact va_eqt (z := tb_bodies 5) (hs (.eq (.elem (.static "LionSigns$Voices" "BODIES" "[I") (.int (5 : Int32))) (.int (tb_bodies 5))) (by decide +kernel))
    · exact va_eqt (z := tb_bodies 6) (hs (.eq (.elem (.static "LionSigns$Voices" "BODIES" "[I") (.int (6 : Int32))) (.int (tb_bodies 6))) (by decide +kernel))
    · exact va_eqt (z := tb_bodies 7) (hs (.eq (.elem (.static "LionSigns$Voices" "BODIES" "[I") (.int (7 : Int32))) (.int (tb_bodies 7))) (by decide +kernel))
    · exact va_eqt (z := tb_bodies 8) (hs (.eq (.elem (.static "LionSigns$Voices" "BODIES" "[I") (.int (8 : Int32))) (.int (tb_bodies 8))) (by decide +kernel))
    · exact va_eqt (z := tb_bodies 9) (hs (.eq (.elem (.static "LionSigns$Voices" "BODIES" "[I") (.int (9 : Int32))) (.int (tb_bodies 9))) (by decide +kernel))
    · exact va_eqt (z := tb_bodies 10) (hs (.eq (.elem (.static "LionSigns$Voices" "BODIES" "[I") (.int (10 : Int32))) (.int (tb_bodies 10))) (by decide +kernel))
    · exact va_eqt (z := tb_bodies 11) (hs (.eq (.elem (.static "LionSigns$Voices" "BODIES" "[I") (.int (11 : Int32))) (.int (tb_bodies 11))) (by decide +kernel))
    · exact va_eqt (z := tb_bodies 12) (hs (.eq (.elem (.static "LionSigns$Voices" "BODIES" "[I") (.int (12 : Int32))) (.int (tb_bodies 12))) (by decide +kernel))
    · exact va_eqt (z := tb_bodies 13) (hs (.eq (.elem (.static "LionSigns$Voices" "BODIES" "[I") (.int (13 : Int32))) (.int (tb_bodies 13))) (by decide +kernel))
    · exact va_eqt (z := tb_bodies 14) (hs (.eq (.elem (.static "LionSigns$Voices" "BODIES" "[I") (.int (14 : Int32))) (.int (tb_bodies 14))) (by decide +kernel))
    · exact va_eqt (z := tb_bodies 15) (hs (.eq (.elem (.static "LionSigns$Voices" "BODIES" "[I") (.int (15 : Int32))) (.int (tb_bodies 15))) (by decide +kernel))
    · exact va_eqt (z := tb_bodies 16) (hs (.eq (.elem (.static "LionSigns$Voices" "BODIES" "[I") (.int (16 : Int32))) (.int (tb_bodies 16))) (by decide +kernel))
    · exact va_eqt (z := tb_bodies 17) (hs (.eq (.elem (.static "LionSigns$Voices" "BODIES" "[I") (.int (17 : Int32))) (.int (tb_bodies 17))) (by decide +kernel))
    · exact va_eqt (z := tb_bodies 18) (hs (.eq (.elem (.static "LionSigns$Voices" "BODIES" "[I") (.int (18 : Int32))) (.int (tb_bodies 18))) (by decide +kernel))
    · exact va_eqt (z := tb_bodies 19) (hs (.eq (.elem (.static "LionSigns$Voices" "BODIES" "[I") (.int (19 : Int32))) (.int (tb_bodies 19))) (by decide +kernel))
    · exact va_eqt (z := tb_bodies 20) (hs (.eq (.elem (.static "LionSigns$Voices" "BODIES" "[I") (.int (20 : Int32))) (.int (tb_bodies 20))) (by decide +kernel))
    · exact va_eqt (z := tb_bodies 21) (hs (.eq (.elem (.static "LionSigns$Voices" "BODIES" "[I") (.int (21 : Int32))) (.int (tb_bodies 21))) (by decide +kernel))
    · exact va_eqt (z := tb_bodies 22) (hs (.eq (.elem (.static "LionSigns$Voices" "BODIES" "[I") (.int (22 : Int32))) (.int (tb_bodies 22))) (by decide +kernel))
    · exact va_eqt (z := tb_bodies 23) (hs (.eq (.elem (.static "LionSigns$Voices" "BODIES" "[I") (.int (23 : Int32))) (.int (tb_bodies 23))) (by decide +kernel))
    · exact va_eqt (z := tb_bodies 24) (hs (.eq (.elem (.static "LionSigns$Voices" "BODIES" "[I") (.int (24 : Int32))) (.int (tb_bodies 24))) (by decide +kernel))
    · exact va_eqt (z := tb_bodies 25) (hs (.eq (.elem (.static "LionSigns$Voices" "BODIES" "[I") (.int (25 : Int32))) (.int (tb_bodies 25))) (by decide +kernel))
    · exact va_eqt (z := tb_bodies 26) (hs (.eq (.elem (.static "LionSigns$Voices" "BODIES" "[I") (.int (26 : Int32))) (.int (tb_bodies 26))) (by decide +kernel))
    · exact va_eqt (z := tb_bodies 27) (hs (.eq (.elem (.static "LionSigns$Voices" "BODIES" "[I") (.int (27 : Int32))) (.int (tb_bodies 27))) (by decide +kernel))) hA
  have Z5 : va_Z "LionSigns$Voices" "BODIES" "[I" (.ref t5) (fun q : Nat => s.heap.size ≤ q) s s.heap := va_Zof (hts (.laysStatic "LionSigns$Voices" "BODIES" "[I") (by decide +kernel)) (hts (.initialized "LionSigns$Voices") (by decide +kernel)) e5 hA
  have ZC : va_Z "java/lang/String" "COMPACT_STRINGS" "Z" (.int 1) (fun q : Nat => s.heap.size ≤ q) s s.heap := va_Zof (hts (.laysStatic "java/lang/String" "COMPACT_STRINGS" "Z") (by decide +kernel)) (hts (.initialized "java/lang/String") (by decide +kernel)) (va_eqi (hs (.eq (.static "java/lang/String" "COMPACT_STRINGS" "Z") (.int 1)) (by decide +kernel))) hA
  obtain ⟨aK, aV, hSt, hEv⟩ := vk_Sof (N := 3) (tm := (fun i => match i with | 0 => .string "LionSigns" 119 | 1 => .string "LionSigns" 121 | _ => .string "LionSigns$TextReader" 15)) (len := tb_lens) (byt := tb_strs) (A := fun q : Nat => s.heap.size ≤ q) (args := #[Value.ref b]) (s := s) (fun i hi => by
    rcases (show i = 0 ∨ i = 1 ∨ i = 2 by omega) with rfl | rfl | rfl
    · decide
    · decide
    · decide)
    (fun i hi => by
    rcases (show i = 0 ∨ i = 1 ∨ i = 2 by omega) with rfl | rfl | rfl
    · exact hs (.exactly (.string "LionSigns" 119) "java/lang/String") (by decide +kernel)
    · exact hs (.exactly (.string "LionSigns" 121) "java/lang/String") (by decide +kernel)
    · exact hs (.exactly (.string "LionSigns$TextReader" 15) "java/lang/String") (by decide +kernel))
    (fun i hi => by
    rcases (show i = 0 ∨ i = 1 ∨ i = 2 by omega) with rfl | rfl | rfl
    · exact hs (.eq (.field (.string "LionSigns" 119) "java/lang/String" "coder" "B") (.int 0)) (by decide +kernel)
    · exact hs (.eq (.field (.string "LionSigns" 121) "java/lang/String" "coder" "B") (.int 0)) (by decide +kernel)
    · exact hs (.eq (.field (.string "LionSigns$TextReader" 15) "java/lang/String" "coder" "B") (.int 0)) (by decide +kernel))
    (fun i hi => by
    rcases (show i = 0 ∨ i = 1 ∨ i = 2 by omega) with rfl | rfl | rfl
    · exact hs (.arrayOf (.field (.string "LionSigns" 119) "java/lang/String" "value" "[B") .byte) (by decide +kernel)
    · exact hs (.arrayOf (.field (.string "LionSigns" 121) "java/lang/String" "value" "[B") .byte) (by decide +kernel)
    · exact hs (.arrayOf (.field (.string "LionSigns$TextReader" 15) "java/lang/String" "value" "[B") .byte) (by decide +kernel))
    (fun i hi => by
    rcases (show i = 0 ∨ i = 1 ∨ i = 2 by omega) with rfl | rfl | rfl
    · exact hs (.eq (.length (.field (.string "LionSigns" 119) "java/lang/String" "value" "[B")) (.int (3 : Int32))) (by decide +kernel)
    · exact hs (.eq (.length (.field (.string "LionSigns" 121) "java/lang/String" "value" "[B")) (.int (3 : Int32))) (by decide +kernel)
    · exact hs (.eq (.length (.field (.string "LionSigns$TextReader" 15) "java/lang/String" "value" "[B")) (.int (0 : Int32))) (by decide +kernel))
    (fun i hi => by
    rcases (show i = 0 ∨ i = 1 ∨ i = 2 by omega) with rfl | rfl | rfl
    · intro j hj
      have hj : j < 3 := hj
      rcases (show j = 0 ∨ j = 1 ∨ j = 2 by omega) with rfl | rfl | rfl
      · exact hs (.eq (.elem (.field (.string "LionSigns" 119) "java/lang/String" "value" "[B") (.int (0 : Int32))) (.int (98 : Int32))) (by decide +kernel)
      · exact hs (.eq (.elem (.field (.string "LionSigns" 119) "java/lang/String" "value" "[B") (.int (1 : Int32))) (.int (101 : Int32))) (by decide +kernel)
      · exact hs (.eq (.elem (.field (.string "LionSigns" 119) "java/lang/String" "value" "[B") (.int (2 : Int32))) (.int (121 : Int32))) (by decide +kernel)
    · intro j hj
      have hj : j < 3 := hj
      rcases (show j = 0 ∨ j = 1 ∨ j = 2 by omega) with rfl | rfl | rfl
      · exact hs (.eq (.elem (.field (.string "LionSigns" 121) "java/lang/String" "value" "[B") (.int (0 : Int32))) (.int (114 : Int32))) (by decide +kernel)
      · exact hs (.eq (.elem (.field (.string "LionSigns" 121) "java/lang/String" "value" "[B") (.int (1 : Int32))) (.int (106 : Int32))) (by decide +kernel)
      · exact hs (.eq (.elem (.field (.string "LionSigns" 121) "java/lang/String" "value" "[B") (.int (2 : Int32))) (.int (121 : Int32))) (by decide +kernel)
    · exact fun j hj => absurd hj (Nat.not_lt_zero j))
    (fun i j hi hj hij => by
    rcases (show i = 0 ∨ i = 1 ∨ i = 2 by omega) with rfl | rfl | rfl <;> rcases (show j = 0 ∨ j = 1 ∨ j = 2 by omega) with rfl | rfl | rfl
    · exact absurd rfl hij
    · exact Or.inl (hs (.not (.eq (.string "LionSigns" 119) (.string "LionSigns" 121))) (by decide +kernel))
    · exact Or.inr (hs (.not (.eq (.string "LionSigns$TextReader" 15) (.string "LionSigns" 119))) (by decide +kernel))
    · exact Or.inr (hs (.not (.eq (.string "LionSigns" 119) (.string "LionSigns" 121))) (by decide +kernel))
    · exact absurd rfl hij
    · exact Or.inr (hs (.not (.eq (.string "LionSigns$TextReader" 15) (.string "LionSigns" 121))) (by decide +kernel))
    · exact Or.inl (hs (.not (.eq (.string "LionSigns$TextReader" 15) (.string "LionSigns" 119))) (by decide +kernel))
    · exact Or.inl (hs (.not (.eq (.string "LionSigns$TextReader" 15) (.string "LionSigns" 121))) (by decide +kernel))
    · exact absurd rfl hij
    ) hA
  refine ⟨((dC, dI), fun k => match k with | 0 => cI | 1 => cB | 2 => cZ | 3 => cS | 4 => t4 | 5 => t5 | 6 => aK 0 | 7 => aK 1 | 8 => aK 2 | 9 => aV 0 | 10 => aV 1 | _ => aV 2), ⟨hKc, fun k q hk => ?_⟩, ⟨Z4, T4, Z5, T5, ZC, am_str hSt ?_ ?_⟩, ?_⟩
  · match k, hk with
    | 0, hk => cases hk; exact ⟨aI, nI⟩
    | 1, hk => cases hk; exact ⟨aB, nB⟩
    | 2, hk => cases hk; exact ⟨aZ, nZ⟩
    | 3, hk => cases hk; exact ⟨aS, nS⟩
    | k + 4, hk => simp [bs_tys] at hk
  · intro i hi
    rcases (show i = 0 ∨ i = 1 ∨ i = 2 by omega) with rfl | rfl | rfl <;> rfl
  · intro i hi
    rcases (show i = 0 ∨ i = 1 ∨ i = 2 by omega) with rfl | rfl | rfl <;> rfl
  · exact ⟨vk_R.of (hts (.stringRef "LionSigns" 119 "bey") (by decide +kernel)) (hEv 0 (by decide)), vk_R.of (hts (.stringRef "LionSigns" 121 "rjy") (by decide +kernel)) (hEv 1 (by decide)), vk_R.of (hts (.stringRef "LionSigns$TextReader" 15 "") (by decide +kernel)) (hEv 2 (by decide)),
      va_Nw.of rfl (hts (.methodLinkNest RX7 11 yX2_init "LionSigns") (by decide +kernel)), va_Nw.of rfl (hts (.methodLinkNest RX5 11 yX2_init "LionSigns") (by decide +kernel)), va_Nw.of rfl (hts (.methodLinkNest RX8 23 yX5_init "LionSigns") (by decide +kernel)), va_Nw.of rfl (hts (.methodLinkNest RX8 30 yX4_init "LionSigns") (by decide +kernel)), va_Nw.of rfl (hts (.methodLinkNest RX8 37 yX6_init "LionSigns") (by decide +kernel)), va_Nw.of rfl (hts (.methodLinkNest RX8 52 yX3_init "LionSigns") (by decide +kernel)), va_AO.of (hts (.arrayOver (.object "LionSigns$Sheet")) (by decide +kernel))⟩
theorem lw_cmp {L i : Nat} (hL : L ≤ 3072) (hi : i ≤ 4000) (h : ¬ (nI L - 6 : Int32) < nI i) : i + 6 ≤ L := by
  have h6 : (6 : Int32) = nI 6 := rfl
  rw [h6, Int32.lt_iff_toInt_lt, pk_sub_toInt (by omega) (by omega), nI_toInt (by omega)] at h
  omega
theorem lw_ix {L i k : Nat} (hL : L ≤ 3072) (h : i + k < L) {x : Int32} (hx : x = nI k) : vp_in (nI i + x) L := by
  subst hx
  rw [nI_add]
  exact vp_in_nI h (by omega)
set_option maxHeartbeats 8000000 in
set_option maxRecDepth 100000 in
theorem lw_loop {p : Program} {l : Launch} {e : Env} {s : State} {m : MethodId} {below : List Frame} {meth : Method} {cf : Code} {b L : Nat} {xs : Nat → Int32} {g : bs_G} {cells slots : Nat} (hL : L ≤ 3072) (hcap : cells ≤ room_1.cells ∧ slots ≤ room_1.slots) (hF : bs_F p m cf cL_law 4 s #[Value.ref b] wsL_law RL g (fun q : Nat => s.heap.size ≤ q)) (hX : va_X b L xs s s.heap) (hbl : b < s.heap.size) {Q : State → Prop} {ad bd : Nat → Nat}
    (hend : ∀ (H : Heap) (locs : List Loc) (ls : Array Slot), va_S (fun q : Nat => s.heap.size ≤ q) s.heap H locs → W p l e room_1 s m #[Value.ref b] below meth cf H locs cells slots Q (F0 m 1354 ls [.int 1])) :
    ∀ (n i : Nat), i ≤ 4000 → 4000 - i < n → ∀ (c d : Nat → Int32) (A B : Nat → Nat → Int32) (nm : Nat) (H : Heap) (locs : List Loc) (ls : Array Slot), rl c A d B nm → bs_P g (lw_ws g ad bd c A nm d B) H → va_D (fun q : Nat => s.heap.size ≤ q) (lw_ws g ad bd c A nm d B) → va_S (fun q : Nat => s.heap.size ≤ q) s.heap H locs → lv_has ls 4 [(3, .int (nI i)), (2, .ref (bd 0)), (1, .ref (ad 0)), (0, .ref b)] → W p l e room_1 s m #[Value.ref b] below meth cf H locs cells slots Q (F0 m 18 ls []) := by
  obtain ⟨⟨hx, hb, hml, hown, hts⟩, hK, hG, hA⟩ := id hF
  have hbA : ¬ (fun q : Nat => s.heap.size ≤ q) b := Nat.not_le.mpr hbl
  intro n
  induction n with
  | zero => intro i _ h; omega
  | succ n ih =>
    intro i hi hn c d A B nm H locs ls hR hP hD hS hl
    refine lv_iload_n hx hb dL_law_18 rfl (lv_at hl 0 rfl) ?_
    refine lv_aload_n hx hb dL_law_19 rfl (lv_at hl 3 rfl) ?_
    refine va_slen hx hb hX hbl hbA hS dL_law_20 ?_
    refine lv_bipush (v := 6) hx hb dL_law_21 (by decide) ?_
    refine lv_isub hx hb dL_law_23 ?_
    refine lv_icmp_gt (tgt := 1353) hx hb dL_law_24 (by decide) (fun _ => ?_) (fun hc => ?_)
    · refine lv_iconst (v := 1) hx hb dL_law_1353 (by decide) ?_
      exact hend _ _ _ hS
    · have h6 : i + 6 ≤ L := lw_cmp hL hi hc
      have hk : ∀ (c d : Nat → Int32) (A B : Nat → Nat → Int32) (nm : Nat) (H : Heap) (locs : List Loc) (ls : Array Slot), rl c A d B nm → bs_P g (lw_ws g ad bd c A nm d B) H → va_D (fun q : Nat => s.heap.size ≤ q) (lw_ws g ad bd c A nm d B) → va_S (fun q : Nat => s.heap.size ≤ q) s.heap H locs → lv_has ls 4 [(3, .int (nI i)), (2, .ref (bd 0)), (1, .ref (ad 0)), (0, .ref b)] → W p l e room_1 s m #[Value.ref b] below meth cf H locs cells slots Q (F0 m 1347 ls []) := by
        intro c d A B nm H locs ls hR hP hD hS hl
        refine lv_iinc (v := nI (i + 6)) (lv' := [(3, .int (nI (i + 6))), (2, .ref (bd 0)), (1, .ref (ad 0)), (0, .ref b)]) hx hb dL_law_1347 hl (k := 0) rfl (show nI i + Int32.ofInt 6 = nI (i + 6) from nI_add i 6) (by decide) rfl (fun ls hl => ?_)
        refine lv_goto (tgt := 18) hx hb dL_law_1350 (by decide) ?_
        exact ih (i + 6) (by omega) (by omega) c d A B nm H locs ls hR hP hD hS hl
      have hy0 : vp_in (nI i) L := vp_in_nI (by omega) (by omega)
      have hy1 : vp_in (nI i + 1) L := lw_ix (k := 1) hL (by omega) rfl
      have hy2 : vp_in (nI i + 2) L := lw_ix (k := 2) hL (by omega) rfl
      have hy3 : vp_in (nI i + 3) L := lw_ix (k := 3) hL (by omega) rfl
      have hy4 : vp_in (nI i + 4) L := lw_ix (k := 4) hL (by omega) rfl
      have hy5 : vp_in (nI i + 5) L := lw_ix (k := 5) hL (by omega) rfl
      refine lv_aload_n hx hb dL_law_27 rfl (lv_at hl 3 rfl) ?_
      refine lv_iload_n hx hb dL_law_28 rfl (lv_at hl 0 rfl) ?_
      refine va_sld hx hb hX hbl hbA hS hy0 dL_law_29 ?_
      refine lv_bipush (v := 63) hx hb dL_law_30 (by decide) ?_
      refine lv_iand hx hb dL_law_32 ?_
      refine lv_topi (fun x ex => ?_)
      by_cases e0 : x = 0
      · refine lv_tableIn (tgt := 196) hx hb dL_law_33 (by rw [e0]; decide) (by rw [e0]; decide) (by rw [e0]; rfl) (by decide) ?_
        exact lc_0 hcap hF hX hbl hR hy1 hy2 hy3 hy4 hy5 hk hP hD hS hl
      by_cases e1 : x = 1
      · refine lv_tableIn (tgt := 219) hx hb dL_law_33 (by rw [e1]; decide) (by rw [e1]; decide) (by rw [e1]; rfl) (by decide) ?_
        exact lc_1 hcap hF hX hbl hR hy1 hy2 hy3 hy4 hy5 hk hP hD hS hl
      by_cases e2 : x = 2
      · refine lv_tableIn (tgt := 252) hx hb dL_law_33 (by rw [e2]; decide) (by rw [e2]; decide) (by rw [e2]; rfl) (by decide) ?_
        exact lc_2 hcap hF hX hbl hR hy1 hy2 hy3 hy4 hy5 hk hP hD hS hl
      by_cases e3 : x = 3
      · refine lv_tableIn (tgt := 285) hx hb dL_law_33 (by rw [e3]; decide) (by rw [e3]; decide) (by rw [e3]; rfl) (by decide) ?_
        exact lc_3 hcap hF hX hbl hR hy1 hy2 hy3 hy4 hy5 hk hP hD hS hl
      by_cases e4 : x = 4
      · refine lv_tableIn (tgt := 318) hx hb dL_law_33 (by rw [e4]; decide) (by rw [e4]; decide) (by rw [e4]; rfl) (by decide) ?_
        exact lc_4 hcap hF hX hbl hR hy1 hy2 hy3 hy4 hy5 hk hP hD hS hl
      by_cases e5 : x = 5
      · refine lv_tableIn (tgt := 351) hx hb dL_law_33 (by rw [e5]; decide) (by rw [e5]; decide) (by rw [e5]; rfl) (by decide) ?_
        exact lc_5 hcap hF hX hbl hR hy1 hy2 hy3 hy4 hy5 hk hP hD hS hl
      by_cases e6 : x = 6
      · refine lv_tableIn (tgt := 374) hx hb dL_law_33 (by rw [e6]; decide) (by rw [e6]; decide) (by rw [e6]; rfl) (by decide) ?_
        exact lc_6 hcap hF hX hbl hR hy1 hy2 hy3 hy4 hy5 hk hP hD hS hl
      by_cases e7 : x = 7
      · refine lv_tableIn (tgt := 407) hx hb dL_law_33 (by rw [e7]; decide) (by rw [e7]; decide) (by rw [e7]; rfl) (by decide) ?_
        exact lc_7 hcap hF hX hbl hR hy1 hy2 hy3 hy4 hy5 hk hP hD hS hl
      by_cases e8 : x = 8
      · refine lv_tableIn (tgt := 440) hx hb dL_law_33 (by rw [e8]; decide) (by rw [e8]; decide) (by rw [e8]; rfl) (by decide) ?_
        exact lc_8 hcap hF hX hbl hR hy1 hy2 hy3 hy4 hy5 hk hP hD hS hl
      by_cases e9 : x = 9
      · refine lv_tableIn (tgt := 473) hx hb dL_law_33 (by rw [e9]; decide) (by rw [e9]; decide) (by rw [e9]; rfl) (by decide) ?_
        exact lc_9 hcap hF hX hbl hR hy1 hy2 hy3 hy4 hy5 hk hP hD hS hl
      by_cases e10 : x = 10
      · refine lv_tableIn (tgt := 536) hx hb dL_law_33 (by rw [e10]; decide) (by rw [e10]; decide) (by rw [e10]; rfl) (by decide) ?_
        exact lc_10 hcap hF hX hbl hR hy1 hy2 hy3 hy4 hy5 hk hP hD hS hl
      by_cases e11 : x = 11
      · refine lv_tableIn (tgt := 559) hx hb dL_law_33 (by rw [e11]; decide) (by rw [e11]; decide) (by rw [e11]; rfl) (by decide) ?_
        exact lc_11 hcap hF hX hbl hR hy1 hy2 hy3 hy4 hy5 hk hP hD hS hl
      by_cases e12 : x = 12
      · refine lv_tableIn (tgt := 582) hx hb dL_law_33 (by rw [e12]; decide) (by rw [e12]; decide) (by rw [e12]; rfl) (by decide) ?_
        exact lc_12 hcap hF hX hbl hR hy1 hy2 hy3 hy4 hy5 hk hP hD hS hl
      by_cases e13 : x = 13
      · refine lv_tableIn (tgt := 635) hx hb dL_law_33 (by rw [e13]; decide) (by rw [e13]; decide) (by rw [e13]; rfl) (by decide) ?_
        exact lc_13 hcap hF hX hbl hR hy1 hy2 hy3 hy4 hy5 hk hP hD hS hl
      by_cases e14 : x = 14
      · refine lv_tableIn (tgt := 658) hx hb dL_law_33 (by rw [e14]; decide) (by rw [e14]; decide) (by rw [e14]; rfl) (by decide) ?_
        exact lc_14 hcap hF hX hbl hR hy1 hy2 hy3 hy4 hy5 hk hP hD hS hl
      by_cases e15 : x = 15
      · refine lv_tableIn (tgt := 681) hx hb dL_law_33 (by rw [e15]; decide) (by rw [e15]; decide) (by rw [e15]; rfl) (by decide) ?_
        exact lc_15 hcap hF hX hbl hR hy1 hy2 hy3 hy4 hy5 hk hP hD hS hl
      by_cases e16 : x = 16
      · refine lv_tableIn (tgt := 704) hx hb dL_law_33 (by rw [e16]; decide) (by rw [e16]; decide) (by rw [e16]; rfl) (by decide) ?_
        exact lc_16 hcap hF hX hbl hR hy1 hy2 hy3 hy4 hy5 hk hP hD hS hl
      by_cases e17 : x = 17
      · refine lv_tableIn (tgt := 727) hx hb dL_law_33 (by rw [e17]; decide) (by rw [e17]; decide) (by rw [e17]; rfl) (by decide) ?_
        exact lc_17 hcap hF hX hbl hR hy1 hy2 hy3 hy4 hy5 hk hP hD hS hl
      by_cases e18 : x = 18
      · refine lv_tableIn (tgt := 760) hx hb dL_law_33 (by rw [e18]; decide) (by rw [e18]; decide) (by rw [e18]; rfl) (by decide) ?_
        exact lc_18 hcap hF hX hbl hR hy1 hy2 hy3 hy4 hy5 hk hP hD hS hl
      by_cases e19 : x = 19
      · refine lv_tableIn (tgt := 793) hx hb dL_law_33 (by rw [e19]; decide) (by rw [e19]; decide) (by rw [e19]; rfl) (by decide) ?_
        exact lc_19 hcap hF hX hbl hR hy1 hy2 hy3 hy4 hy5 hk hP hD hS hl
      by_cases e20 : x = 20
      · refine lv_tableIn (tgt := 826) hx hb dL_law_33 (by rw [e20]; decide) (by rw [e20]; decide) (by rw [e20]; rfl) (by decide) ?_
        exact lc_20 hcap hF hX hbl hR hy1 hy2 hy3 hy4 hy5 hk hP hD hS hl
      by_cases e21 : x = 21
      · refine lv_tableIn (tgt := 839) hx hb dL_law_33 (by rw [e21]; decide) (by rw [e21]; decide) (by rw [e21]; rfl) (by decide) ?_
        exact lc_21 hcap hF hX hbl hR hy1 hy2 hy3 hy4 hy5 hk hP hD hS hl
      by_cases e22 : x = 22
      · refine lv_tableIn (tgt := 882) hx hb dL_law_33 (by rw [e22]; decide) (by rw [e22]; decide) (by rw [e22]; rfl) (by decide) ?_
        exact lc_22 hcap hF hX hbl hR hy1 hy2 hy3 hy4 hy5 hk hP hD hS hl
      by_cases e23 : x = 23
      · refine lv_tableIn (tgt := 925) hx hb dL_law_33 (by rw [e23]; decide) (by rw [e23]; decide) (by rw [e23]; rfl) (by decide) ?_
        exact lc_23 hcap hF hX hbl hR hy1 hy2 hy3 hy4 hy5 hk hP hD hS hl
      by_cases e24 : x = 24
      · refine lv_tableIn (tgt := 978) hx hb dL_law_33 (by rw [e24]; decide) (by rw [e24]; decide) (by rw [e24]; rfl) (by decide) ?_
        exact lc_24 hcap hF hX hbl hR hy1 hy2 hy3 hy4 hy5 hk hP hD hS hl
      by_cases e25 : x = 25
      · refine lv_tableIn (tgt := 1021) hx hb dL_law_33 (by rw [e25]; decide) (by rw [e25]; decide) (by rw [e25]; rfl) (by decide) ?_
        exact lc_25 hcap hF hX hbl hR hy1 hy2 hy3 hy4 hy5 hk hP hD hS hl
      by_cases e26 : x = 26
      · refine lv_tableIn (tgt := 1044) hx hb dL_law_33 (by rw [e26]; decide) (by rw [e26]; decide) (by rw [e26]; rfl) (by decide) ?_
        exact lc_26 hcap hF hX hbl hR hy1 hy2 hy3 hy4 hy5 hk hP hD hS hl
      by_cases e27 : x = 27
      · refine lv_tableIn (tgt := 1087) hx hb dL_law_33 (by rw [e27]; decide) (by rw [e27]; decide) (by rw [e27]; rfl) (by decide) ?_
        exact lc_27 hcap hF hX hbl hR hy1 hy2 hy3 hy4 hy5 hk hP hD hS hl
      by_cases e28 : x = 28
      · refine lv_tableIn (tgt := 1130) hx hb dL_law_33 (by rw [e28]; decide) (by rw [e28]; decide) (by rw [e28]; rfl) (by decide) ?_
        exact lc_28 hcap hF hX hbl hR hy1 hy2 hy3 hy4 hy5 hk hP hD hS hl
      by_cases e29 : x = 29
      · refine lv_tableIn (tgt := 1193) hx hb dL_law_33 (by rw [e29]; decide) (by rw [e29]; decide) (by rw [e29]; rfl) (by decide) ?_
        exact lc_29 hcap hF hX hbl hR hy1 hy2 hy3 hy4 hy5 hk hP hD hS hl
      by_cases e30 : x = 30
      · refine lv_tableIn (tgt := 1216) hx hb dL_law_33 (by rw [e30]; decide) (by rw [e30]; decide) (by rw [e30]; rfl) (by decide) ?_
        exact lc_30 hcap hF hX hbl hR hy1 hy2 hy3 hy4 hy5 hk hP hD hS hl
      by_cases e31 : x = 31
      · refine lv_tableIn (tgt := 1239) hx hb dL_law_33 (by rw [e31]; decide) (by rw [e31]; decide) (by rw [e31]; rfl) (by decide) ?_
        exact lc_31 hcap hF hX hbl hR hy1 hy2 hy3 hy4 hy5 hk hP hD hS hl
      by_cases e32 : x = 32
      · refine lv_tableIn (tgt := 1252) hx hb dL_law_33 (by rw [e32]; decide) (by rw [e32]; decide) (by rw [e32]; rfl) (by decide) ?_
        exact lc_32 hcap hF hX hbl hR hy1 hy2 hy3 hy4 hy5 hk hP hD hS hl
      by_cases e33 : x = 33
      · refine lv_tableIn (tgt := 1265) hx hb dL_law_33 (by rw [e33]; decide) (by rw [e33]; decide) (by rw [e33]; rfl) (by decide) ?_
        exact lc_33 hcap hF hX hbl hR hy1 hy2 hy3 hy4 hy5 hk hP hD hS hl
      by_cases e34 : x = 34
      · refine lv_tableIn (tgt := 1288) hx hb dL_law_33 (by rw [e34]; decide) (by rw [e34]; decide) (by rw [e34]; rfl) (by decide) ?_
        exact lc_34 hcap hF hX hbl hR hy1 hy2 hy3 hy4 hy5 hk hP hD hS hl
      by_cases e35 : x = 35
      · refine lv_tableIn (tgt := 1301) hx hb dL_law_33 (by rw [e35]; decide) (by rw [e35]; decide) (by rw [e35]; rfl) (by decide) ?_
        exact lc_35 hcap hF hX hbl hR hy1 hy2 hy3 hy4 hy5 hk hP hD hS hl
      by_cases e36 : x = 36
      · refine lv_tableIn (tgt := 1324) hx hb dL_law_33 (by rw [e36]; decide) (by rw [e36]; decide) (by rw [e36]; rfl) (by decide) ?_
        exact lc_36 hcap hF hX hbl hR hy1 hy2 hy3 hy4 hy5 hk hP hD hS hl
      have f0 : ¬ x.toInt = 0 := lv_neT e0 (by decide)
      have f1 : ¬ x.toInt = 1 := lv_neT e1 (by decide)
      have f2 : ¬ x.toInt = 2 := lv_neT e2 (by decide)
      have f3 : ¬ x.toInt = 3 := lv_neT e3 (by decide)
      have f4 : ¬ x.toInt = 4 := lv_neT e4 (by decide)
      have f5 : ¬ x.toInt = 5 := lv_neT e5 (by decide)
      have f6 : ¬ x.toInt = 6 := lv_neT e6 (by decide)
      have f7 : ¬ x.toInt = 7 := lv_neT e7 (by decide)
      have f8 : ¬ x.toInt = 8 := lv_neT e8 (by decide)
      have f9 : ¬ x.toInt = 9 := lv_neT e9 (by decide)
      have f10 : ¬ x.toInt = 10 := lv_neT e10 (by decide)
      have f11 : ¬ x.toInt = 11 := lv_neT e11 (by decide)
      have f12 : ¬ x.toInt = 12 := lv_neT e12 (by decide)
      have f13 : ¬ x.toInt = 13 := lv_neT e13 (by decide)
      have f14 : ¬ x.toInt = 14 := lv_neT e14 (by decide)
      have f15 : ¬ x.toInt = 15 := lv_neT e15 (by decide)
      have f16 : ¬ x.toInt = 16 := lv_neT e16 (by decide)
      have f17 : ¬ x.toInt = 17 := lv_neT e17 (by decide)
      have f18 : ¬ x.toInt = 18 := lv_neT e18 (by decide)
      have f19 : ¬ x.toInt = 19 := lv_neT e19 (by decide)
      have f20 : ¬ x.toInt = 20 := lv_neT e20 (by decide)
      have f21 : ¬ x.toInt = 21 := lv_neT e21 (by decide)
      have f22 : ¬ x.toInt = 22 := lv_neT e22 (by decide)
      have f23 : ¬ x.toInt = 23 := lv_neT e23 (by decide)
      have f24 : ¬ x.toInt = 24 := lv_neT e24 (by decide)
      have f25 : ¬ x.toInt = 25 := lv_neT e25 (by decide)
      have f26 : ¬ x.toInt = 26 := lv_neT e26 (by decide)
      have f27 : ¬ x.toInt = 27 := lv_neT e27 (by decide)
      have f28 : ¬ x.toInt = 28 := lv_neT e28 (by decide)
      have f29 : ¬ x.toInt = 29 := lv_neT e29 (by decide)
      have f30 : ¬ x.toInt = 30 := lv_neT e30 (by decide)
      have f31 : ¬ x.toInt = 31 := lv_neT e31 (by decide)
      have f32 : ¬ x.toInt = 32 := lv_neT e32 (by decide)
      have f33 : ¬ x.toInt = 33 := lv_neT e33 (by decide)
      have f34 : ¬ x.toInt = 34 := lv_neT e34 (by decide)
      have f35 : ¬ x.toInt = 35 := lv_neT e35 (by decide)
      have f36 : ¬ x.toInt = 36 := lv_neT e36 (by decide)
      refine lv_tableOut (tgt := 1347) hx hb dL_law_33 (by omega) (by decide) ?_
      exact hk c d A B nm H locs ls hR hP hD hS hl
set_option maxHeartbeats 8000000 in
set_option maxRecDepth 100000 in
def lw_a (q : Nat) (u : Nat → Nat) : Nat → Nat
  | 0 => q
  | k + 1 => u k
theorem whole_start {p : Program} {e : Env} {s : State} {m : MethodId} {below : List Frame} {meth : Method} {c : Code} (l : Launch) (hflags : l.flags = flags0) {b L : Nat} {xs : Nat → Int32} (hL : L ≤ 3072) (C0 : lw_At p s m meth c b L xs) : W p l e room_1 s m #[Value.ref b] below meth c s.heap [] 0 0 (lw_Z below #[Value.ref b] s) (entryFrame m ([Value.ref b] : List Value).toArray 4) := by
  obtain ⟨hx, hb, hr, hml, hown, hts0, hX, hbl, hlocks, hgv⟩ := id C0
  obtain ⟨g, hK, hG⟩ := am_all C0
  have hts : ∀ w ∈ wsL_law, w.before #[Value.ref b] s = true := fun w h => hts0 w (wsL_law_in w h)
  have hF : bs_F p m c cL_law 4 s #[Value.ref b] wsL_law RL g (fun q : Nat => s.heap.size ≤ q) := ⟨⟨hx, hb, hml, hown, hts⟩, hK, hG, fun _ h => h⟩
  have hA : ∀ q : Nat, s.heap.size ≤ q → (fun q : Nat => s.heap.size ≤ q) q := fun _ h => h
  have hbA : ¬ (fun q : Nat => s.heap.size ≤ q) b := Nat.not_le.mpr hbl
  have hS : va_S (fun q : Nat => s.heap.size ≤ q) s.heap s.heap [] := va_S.rf
  have hP : bs_P g [] s.heap := fun k q h => by simp at h
  have hD : va_D (fun q : Nat => s.heap.size ≤ q) [] := ⟨fun i j p q h => by simp at h, fun k q h => by simp at h⟩
  have hown : s.vm.findClass RL = some m.cls := hown
  have hl := lv_entry ([.ref b]) (n := 4) (Nat.le_of_ble_eq_true rfl)
  rw [lg_entry_eq]
  generalize (lg_sl ([.ref b]) ++ List.replicate (4 - (lg_sl ([.ref b])).length) Slot.unset).toArray = ls at hl ⊢
  have hl : lv_has ls 4 [(0, .ref b)] := hl
  refine va_new (ci := 7) (fs := [.null, .null, .null, .null, .null, .null, .null, .int 0]) (C := RX8) (T := TX8) (N := 8) hx hb hts inlX8 tyX8 tyX8_ok hown (hts (.classLink RL 7 RX8) (by decide +kernel)) (hts (.instantiable RX8 8) (by decide +kernel)) (hts (.initialized RX8) (by decide +kernel)) hK hP hD hS hA rfl (fun j hj => by rcases (show j = 0 ∨ j = 1 ∨ j = 2 ∨ j = 3 ∨ j = 4 ∨ j = 5 ∨ j = 6 ∨ j = 7 by omega) with rfl | rfl | rfl | rfl | rfl | rfl | rfl | rfl <;> rfl) (Nat.le_of_ble_eq_true rfl) (Nat.le_of_ble_eq_true rfl) dL_law_0 (fun q0 H hP hD hS => ?_)
  have hP : bs_P g [(q0, .inr (7, [.null, .null, .null, .null, .null, .null, .null, .int 0]))] H := hP
  have hD : va_D (fun q : Nat => s.heap.size ≤ q) [(q0, .inr (7, [.null, .null, .null, .null, .null, .null, .null, .int 0]))] := hD
  refine W.widen (k := 1) (n := 8) (Nat.le_of_ble_eq_true rfl) (Nat.le_of_ble_eq_true rfl) ?_
  refine lv_dup hx hb dL_law_3 rfl ?_
  refine cI_v (wc := [(q0, .inr (7, [.null, .null, .null, .null, .null, .null, .null, .int 0]))]) (wr := []) (As := []) (rest := [.ref q0]) hF kX8_init (cwI 0 hts gL_law_X8_init rfl rfl rfl (hts (.initialized RX8) (by decide +kernel)) (hts (.methodLink RL 9 yX8_init) (by decide +kernel)) (hts (.instanceMethod yX8_init) (by decide +kernel)) rfl hdX8_init ⟨(Nat.le_of_ble_eq_true rfl), (Nat.le_of_ble_eq_true rfl)⟩) rfl hS hP hD [0] [] rfl rfl (by decide) (by decide) (by decide) hl.1 rfl (Nat.le_of_ble_eq_true rfl) dL_law_4 ⟨(Nat.le_of_ble_eq_true rfl), (Nat.le_of_ble_eq_true rfl)⟩ (fun u0 H locs _ hP hD hS => ?_)
  have hP : bs_P g [(q0, .inr (7, [.ref (u0 0), .ref (u0 18), .ref (u0 36), .ref (u0 43), .ref (u0 46), .ref (u0 48), .ref (u0 49), .int 0])), ((u0 0), .inr (6, [.ref (u0 1), .ref (u0 4), .int 0, .ref (u0 5), .ref (u0 6), .ref (u0 7), .ref (u0 10), .ref (u0 14), .ref (u0 8), .int 0, .ref (u0 9), .int 0, .int 1])), ((u0 1), .inr (1, [.int 0, .int 0, .ref (u0 2), .ref (u0 3)])), ((u0 2), .inl (bs_I g, 2, .inl (fun _ => 0))), ((u0 3), .inl (bs_I g, 2, .inl (fun _ => 0))), ((u0 4), .inl (bs_I g, 6, .inl (upd (upd (upd (upd (upd (upd (fun _ => 0) (0 : Int32).toNatClampNeg (1 : Int32)) (1 : Int32).toNatClampNeg (2 : Int32)) (2 : Int32).toNatClampNeg (4 : Int32)) (3 : Int32).toNatClampNeg (8 : Int32)) (4 : Int32).toNatClampNeg (16 : Int32)) (5 : Int32).toNatClampNeg (32 : Int32)))), ((u0 5), .inl (bs_I g, 6, .inl (fun _ => 0))), ((u0 6), .inl (bs_I g, 6, .inl (fun _ => 0))), ((u0 7), .inl (bs_I g, 6, .inl (fun _ => 0))), ((u0 8), .inl (bs_B g, 60, .inl (fun _ => 0))), ((u0 9), .inl (bs_I g, 24, .inl (fun _ => 0))), ((u0 10), .inr (0, [.int 30, .int 9, .int 16, .ref (u0 13), .ref (u0 11), .ref (u0 12), .int 0])), ((u0 11), .inl (bs_I g, 60, .inl (fun _ => 0))), ((u0 12), .inl (bs_I g, 60, .inl (fun _ => 0))), ((u0 13), .inl (bs_I g, 1152, .inl (fun _ => 0))), ((u0 14), .inr (0, [.int 40, .int 66, .int 10, .ref (u0 17), .ref (u0 15), .ref (u0 16), .int 0])), ((u0 15), .inl (bs_I g, 60, .inl (fun _ => 0))), ((u0 16), .inl (bs_I g, 60, .inl (fun _ => 0))), ((u0 17), .inl (bs_I g, 5280, .inl (fun _ => 0))), ((u0 18), .inr (6, [.ref (u0 19), .ref (u0 22), .int 0, .ref (u0 23), .ref (u0 24), .ref (u0 25), .ref (u0 28), .ref (u0 32), .ref (u0 26), .int 0, .ref (u0 27), .int 0, .int 1])), ((u0 19), .inr (1, [.int 0, .int 0, .ref (u0 20), .ref (u0 21)])), ((u0 20), .inl (bs_I g, 2, .inl (fun _ => 0))), ((u0 21), .inl (bs_I g, 2, .inl (fun _ => 0))), ((u0 22), .inl (bs_I g, 6, .inl (upd (upd (upd (upd (upd (upd (fun _ => 0) (0 : Int32).toNatClampNeg (1 : Int32)) (1 : Int32).toNatClampNeg (2 : Int32)) (2 : Int32).toNatClampNeg (4 : Int32)) (3 : Int32).toNatClampNeg (8 : Int32)) (4 : Int32).toNatClampNeg (16 : Int32)) (5 : Int32).toNatClampNeg (32 : Int32)))), ((u0 23), .inl (bs_I g, 6, .inl (fun _ => 0))), ((u0 24), .inl (bs_I g, 6, .inl (fun _ => 0))), ((u0 25), .inl (bs_I g, 6, .inl (fun _ => 0))), ((u0 26), .inl (bs_B g, 60, .inl (fun _ => 0))), ((u0 27), .inl (bs_I g, 24, .inl (fun _ => 0))), ((u0 28), .inr (0, [.int 30, .int 0, .int 16, .ref (u0 31), .ref (u0 29), .ref (u0 30), .int 0])), ((u0 29), .inl (bs_I g, 60, .inl (fun _ => 0))), ((u0 30), .inl (bs_I g, 60, .inl (fun _ => 0))), ((u0 31), .inl (bs_I g, 0, .inl (fun _ => 0))), ((u0 32), .inr (0, [.int 40, .int 0, .int 10, .ref (u0 35), .ref (u0 33), .ref (u0 34), .int 0])), ((u0 33), .inl (bs_I g, 60, .inl (fun _ => 0))), ((u0 34), .inl (bs_I g, 60, .inl (fun _ => 0))), ((u0 35), .inl (bs_I g, 0, .inl (fun _ => 0))), ((u0 36), .inr (4, [.ref (u0 37), .ref (u0 40), .int 0, .int 0, .int 0, .ref (u0 41), .ref (u0 42)])), ((u0 37), .inr (1, [.int 0, .int 0, .ref (u0 38), .ref (u0 39)])), ((u0 38), .inl (bs_I g, 2, .inl (fun _ => 0))), ((u0 39), .inl (bs_I g, 2, .inl (fun _ => 0))), ((u0 40), .inl (bs_I g, 256, .inl (fun _ => 0))), ((u0 41), .inl (bs_I g, 9, .inl (fun _ => 0))), ((u0 42), .inl (bs_I g, 31, .inl (fun _ => 0))), ((u0 43), .inr (3, [.ref (u0 44), .int 0, .int 0, .ref (g.2 (6 + 2)), .ref (u0 45), .int 0])), ((u0 44), .inl (bs_B g, 60, .inl (fun _ => 0))), ((u0 45), .inl (bs_I g, 60, .inl (fun _ => 0))), ((u0 46), .inr (5, [.int 0, .int 0, .int 0, .int 0, .ref (u0 47), .int 0])), ((u0 47), .inl (bs_I g, 30, .inl (fun _ => 0))), ((u0 48), .inl (bs_S g, 4, .inr (.inr (.inr (.inr (va_up (va_up (va_up (va_up (fun _ => none) (0 : Int32).toNatClampNeg (some (u0 50))) (1 : Int32).toNatClampNeg (some (u0 52))) (2 : Int32).toNatClampNeg (some (u0 54))) (3 : Int32).toNatClampNeg (some (u0 56)))))))), ((u0 49), .inl (bs_I g, 7, .inl (fun _ => 0))), ((u0 50), .inr (2, [.int 0, .int 0, .ref (u0 51)])), ((u0 51), .inl (bs_I g, 24, .inl (fun _ => 0))), ((u0 52), .inr (2, [.int 0, .int 0, .ref (u0 53)])), ((u0 53), .inl (bs_I g, 24, .inl (fun _ => 0))), ((u0 54), .inr (2, [.int 0, .int 0, .ref (u0 55)])), ((u0 55), .inl (bs_I g, 24, .inl (fun _ => 0))), ((u0 56), .inr (2, [.int 0, .int 0, .ref (u0 57)])), ((u0 57), .inl (bs_I g, 24, .inl (fun _ => 0)))] H := hP
  have hD : va_D (fun q : Nat => s.heap.size ≤ q) [(q0, .inr (7, [.ref (u0 0), .ref (u0 18), .ref (u0 36), .ref (u0 43), .ref (u0 46), .ref (u0 48), .ref (u0 49), .int 0])), ((u0 0), .inr (6, [.ref (u0 1), .ref (u0 4), .int 0, .ref (u0 5), .ref (u0 6), .ref (u0 7), .ref (u0 10), .ref (u0 14), .ref (u0 8), .int 0, .ref (u0 9), .int 0, .int 1])), ((u0 1), .inr (1, [.int 0, .int 0, .ref (u0 2), .ref (u0 3)])), ((u0 2), .inl (bs_I g, 2, .inl (fun _ => 0))), ((u0 3), .inl (bs_I g, 2, .inl (fun _ => 0))), ((u0 4), .inl (bs_I g, 6, .inl (upd (upd (upd (upd (upd (upd (fun _ => 0) (0 : Int32).toNatClampNeg (1 : Int32)) (1 : Int32).toNatClampNeg (2 : Int32)) (2 : Int32).toNatClampNeg (4 : Int32)) (3 : Int32).toNatClampNeg (8 : Int32)) (4 : Int32).toNatClampNeg (16 : Int32)) (5 : Int32).toNatClampNeg (32 : Int32)))), ((u0 5), .inl (bs_I g, 6, .inl (fun _ => 0))), ((u0 6), .inl (bs_I g, 6, .inl (fun _ => 0))), ((u0 7), .inl (bs_I g, 6, .inl (fun _ => 0))), ((u0 8), .inl (bs_B g, 60, .inl (fun _ => 0))), ((u0 9), .inl (bs_I g, 24, .inl (fun _ => 0))), ((u0 10), .inr (0, [.int 30, .int 9, .int 16, .ref (u0 13), .ref (u0 11), .ref (u0 12), .int 0])), ((u0 11), .inl (bs_I g, 60, .inl (fun _ => 0))), ((u0 12), .inl (bs_I g, 60, .inl (fun _ => 0))), ((u0 13), .inl (bs_I g, 1152, .inl (fun _ => 0))), ((u0 14), .inr (0, [.int 40, .int 66, .int 10, .ref (u0 17), .ref (u0 15), .ref (u0 16), .int 0])), ((u0 15), .inl (bs_I g, 60, .inl (fun _ => 0))), ((u0 16), .inl (bs_I g, 60, .inl (fun _ => 0))), ((u0 17), .inl (bs_I g, 5280, .inl (fun _ => 0))), ((u0 18), .inr (6, [.ref (u0 19), .ref (u0 22), .int 0, .ref (u0 23), .ref (u0 24), .ref (u0 25), .ref (u0 28), .ref (u0 32), .ref (u0 26), .int 0, .ref (u0 27), .int 0, .int 1])), ((u0 19), .inr (1, [.int 0, .int 0, .ref (u0 20), .ref (u0 21)])), ((u0 20), .inl (bs_I g, 2, .inl (fun _ => 0))), ((u0 21), .inl (bs_I g, 2, .inl (fun _ => 0))), ((u0 22), .inl (bs_I g, 6, .inl (upd (upd (upd (upd (upd (upd (fun _ => 0) (0 : Int32).toNatClampNeg (1 : Int32)) (1 : Int32).toNatClampNeg (2 : Int32)) (2 : Int32).toNatClampNeg (4 : Int32)) (3 : Int32).toNatClampNeg (8 : Int32)) (4 : Int32).toNatClampNeg (16 : Int32)) (5 : Int32).toNatClampNeg (32 : Int32)))), ((u0 23), .inl (bs_I g, 6, .inl (fun _ => 0))), ((u0 24), .inl (bs_I g, 6, .inl (fun _ => 0))), ((u0 25), .inl (bs_I g, 6, .inl (fun _ => 0))), ((u0 26), .inl (bs_B g, 60, .inl (fun _ => 0))), ((u0 27), .inl (bs_I g, 24, .inl (fun _ => 0))), ((u0 28), .inr (0, [.int 30, .int 0, .int 16, .ref (u0 31), .ref (u0 29), .ref (u0 30), .int 0])), ((u0 29), .inl (bs_I g, 60, .inl (fun _ => 0))), ((u0 30), .inl (bs_I g, 60, .inl (fun _ => 0))), ((u0 31), .inl (bs_I g, 0, .inl (fun _ => 0))), ((u0 32), .inr (0, [.int 40, .int 0, .int 10, .ref (u0 35), .ref (u0 33), .ref (u0 34), .int 0])), ((u0 33), .inl (bs_I g, 60, .inl (fun _ => 0))), ((u0 34), .inl (bs_I g, 60, .inl (fun _ => 0))), ((u0 35), .inl (bs_I g, 0, .inl (fun _ => 0))), ((u0 36), .inr (4, [.ref (u0 37), .ref (u0 40), .int 0, .int 0, .int 0, .ref (u0 41), .ref (u0 42)])), ((u0 37), .inr (1, [.int 0, .int 0, .ref (u0 38), .ref (u0 39)])), ((u0 38), .inl (bs_I g, 2, .inl (fun _ => 0))), ((u0 39), .inl (bs_I g, 2, .inl (fun _ => 0))), ((u0 40), .inl (bs_I g, 256, .inl (fun _ => 0))), ((u0 41), .inl (bs_I g, 9, .inl (fun _ => 0))), ((u0 42), .inl (bs_I g, 31, .inl (fun _ => 0))), ((u0 43), .inr (3, [.ref (u0 44), .int 0, .int 0, .ref (g.2 (6 + 2)), .ref (u0 45), .int 0])), ((u0 44), .inl (bs_B g, 60, .inl (fun _ => 0))), ((u0 45), .inl (bs_I g, 60, .inl (fun _ => 0))), ((u0 46), .inr (5, [.int 0, .int 0, .int 0, .int 0, .ref (u0 47), .int 0])), ((u0 47), .inl (bs_I g, 30, .inl (fun _ => 0))), ((u0 48), .inl (bs_S g, 4, .inr (.inr (.inr (.inr (va_up (va_up (va_up (va_up (fun _ => none) (0 : Int32).toNatClampNeg (some (u0 50))) (1 : Int32).toNatClampNeg (some (u0 52))) (2 : Int32).toNatClampNeg (some (u0 54))) (3 : Int32).toNatClampNeg (some (u0 56)))))))), ((u0 49), .inl (bs_I g, 7, .inl (fun _ => 0))), ((u0 50), .inr (2, [.int 0, .int 0, .ref (u0 51)])), ((u0 51), .inl (bs_I g, 24, .inl (fun _ => 0))), ((u0 52), .inr (2, [.int 0, .int 0, .ref (u0 53)])), ((u0 53), .inl (bs_I g, 24, .inl (fun _ => 0))), ((u0 54), .inr (2, [.int 0, .int 0, .ref (u0 55)])), ((u0 55), .inl (bs_I g, 24, .inl (fun _ => 0))), ((u0 56), .inr (2, [.int 0, .int 0, .ref (u0 57)])), ((u0 57), .inl (bs_I g, 24, .inl (fun _ => 0)))] := hD
  refine W.widen (k := 59) (n := 7798) (Nat.le_of_ble_eq_true rfl) (Nat.le_of_ble_eq_true rfl) ?_
  refine lv_astore_n (lv' := [(1, .ref q0), (0, .ref b)]) hx hb dL_law_7 rfl hl (by decide) rfl (fun ls hl => ?_)
  refine va_new (ci := 8) (fs := [.null, .null, .null, .int 0, .null, .int 0, .int 0, .int 0, .int 0, .null, .null, .null, .null, .int 0, .int 0, .null, .null, .int 0, .null, .int 0, .int 0, .null, .null, .null, .null]) (C := RX9) (T := TX9) (N := 25) hx hb hts inlX9 tyX9 tyX9_ok hown (hts (.classLink RL 10 RX9) (by decide +kernel)) (hts (.instantiable RX9 25) (by decide +kernel)) (hts (.initialized RX9) (by decide +kernel)) hK hP hD hS hA rfl (fun j hj => by rcases (show j = 0 ∨ j = 1 ∨ j = 2 ∨ j = 3 ∨ j = 4 ∨ j = 5 ∨ j = 6 ∨ j = 7 ∨ j = 8 ∨ j = 9 ∨ j = 10 ∨ j = 11 ∨ j = 12 ∨ j = 13 ∨ j = 14 ∨ j = 15 ∨ j = 16 ∨ j = 17 ∨ j = 18 ∨ j = 19 ∨ j = 20 ∨ j = 21 ∨ j = 22 ∨ j = 23 ∨ j = 24 by omega) with rfl | rfl | rfl | rfl | rfl | rfl | rfl | rfl | rfl | rfl | rfl | rfl | rfl | rfl | rfl | rfl | rfl | rfl | rfl | rfl | rfl | rfl | rfl | rfl | rfl <;> rfl) (Nat.le_of_ble_eq_true rfl) (Nat.le_of_ble_eq_true rfl) dL_law_8 (fun q1 H hP hD hS => ?_)
  have hP : bs_P g [(q0, .inr (7, [.ref (u0 0), .ref (u0 18), .ref (u0 36), .ref (u0 43), .ref (u0 46), .ref (u0 48), .ref (u0 49), .int 0])), ((u0 0), .inr (6, [.ref (u0 1), .ref (u0 4), .int 0, .ref (u0 5), .ref (u0 6), .ref (u0 7), .ref (u0 10), .ref (u0 14), .ref (u0 8), .int 0, .ref (u0 9), .int 0, .int 1])), ((u0 1), .inr (1, [.int 0, .int 0, .ref (u0 2), .ref (u0 3)])), ((u0 2), .inl (bs_I g, 2, .inl (fun _ => 0))), ((u0 3), .inl (bs_I g, 2, .inl (fun _ => 0))), ((u0 4), .inl (bs_I g, 6, .inl (upd (upd (upd (upd (upd (upd (fun _ => 0) (0 : Int32).toNatClampNeg (1 : Int32)) (1 : Int32).toNatClampNeg (2 : Int32)) (2 : Int32).toNatClampNeg (4 : Int32)) (3 : Int32).toNatClampNeg (8 : Int32)) (4 : Int32).toNatClampNeg (16 : Int32)) (5 : Int32).toNatClampNeg (32 : Int32)))), ((u0 5), .inl (bs_I g, 6, .inl (fun _ => 0))), ((u0 6), .inl (bs_I g, 6, .inl (fun _ => 0))), ((u0 7), .inl (bs_I g, 6, .inl (fun _ => 0))), ((u0 8), .inl (bs_B g, 60, .inl (fun _ => 0))), ((u0 9), .inl (bs_I g, 24, .inl (fun _ => 0))), ((u0 10), .inr (0, [.int 30, .int 9, .int 16, .ref (u0 13), .ref (u0 11), .ref (u0 12), .int 0])), ((u0 11), .inl (bs_I g, 60, .inl (fun _ => 0))), ((u0 12), .inl (bs_I g, 60, .inl (fun _ => 0))), ((u0 13), .inl (bs_I g, 1152, .inl (fun _ => 0))), ((u0 14), .inr (0, [.int 40, .int 66, .int 10, .ref (u0 17), .ref (u0 15), .ref (u0 16), .int 0])), ((u0 15), .inl (bs_I g, 60, .inl (fun _ => 0))), ((u0 16), .inl (bs_I g, 60, .inl (fun _ => 0))), ((u0 17), .inl (bs_I g, 5280, .inl (fun _ => 0))), ((u0 18), .inr (6, [.ref (u0 19), .ref (u0 22), .int 0, .ref (u0 23), .ref (u0 24), .ref (u0 25), .ref (u0 28), .ref (u0 32), .ref (u0 26), .int 0, .ref (u0 27), .int 0, .int 1])), ((u0 19), .inr (1, [.int 0, .int 0, .ref (u0 20), .ref (u0 21)])), ((u0 20), .inl (bs_I g, 2, .inl (fun _ => 0))), ((u0 21), .inl (bs_I g, 2, .inl (fun _ => 0))), ((u0 22), .inl (bs_I g, 6, .inl (upd (upd (upd (upd (upd (upd (fun _ => 0) (0 : Int32).toNatClampNeg (1 : Int32)) (1 : Int32).toNatClampNeg (2 : Int32)) (2 : Int32).toNatClampNeg (4 : Int32)) (3 : Int32).toNatClampNeg (8 : Int32)) (4 : Int32).toNatClampNeg (16 : Int32)) (5 : Int32).toNatClampNeg (32 : Int32)))), ((u0 23), .inl (bs_I g, 6, .inl (fun _ => 0))), ((u0 24), .inl (bs_I g, 6, .inl (fun _ => 0))), ((u0 25), .inl (bs_I g, 6, .inl (fun _ => 0))), ((u0 26), .inl (bs_B g, 60, .inl (fun _ => 0))), ((u0 27), .inl (bs_I g, 24, .inl (fun _ => 0))), ((u0 28), .inr (0, [.int 30, .int 0, .int 16, .ref (u0 31), .ref (u0 29), .ref (u0 30), .int 0])), ((u0 29), .inl (bs_I g, 60, .inl (fun _ => 0))), ((u0 30), .inl (bs_I g, 60, .inl (fun _ => 0))), ((u0 31), .inl (bs_I g, 0, .inl (fun _ => 0))), ((u0 32), .inr (0, [.int 40, .int 0, .int 10, .ref (u0 35), .ref (u0 33), .ref (u0 34), .int 0])), ((u0 33), .inl (bs_I g, 60, .inl (fun _ => 0))), ((u0 34), .inl (bs_I g, 60, .inl (fun _ => 0))), ((u0 35), .inl (bs_I g, 0, .inl (fun _ => 0))), ((u0 36), .inr (4, [.ref (u0 37), .ref (u0 40), .int 0, .int 0, .int 0, .ref (u0 41), .ref (u0 42)])), ((u0 37), .inr (1, [.int 0, .int 0, .ref (u0 38), .ref (u0 39)])), ((u0 38), .inl (bs_I g, 2, .inl (fun _ => 0))), ((u0 39), .inl (bs_I g, 2, .inl (fun _ => 0))), ((u0 40), .inl (bs_I g, 256, .inl (fun _ => 0))), ((u0 41), .inl (bs_I g, 9, .inl (fun _ => 0))), ((u0 42), .inl (bs_I g, 31, .inl (fun _ => 0))), ((u0 43), .inr (3, [.ref (u0 44), .int 0, .int 0, .ref (g.2 (6 + 2)), .ref (u0 45), .int 0])), ((u0 44), .inl (bs_B g, 60, .inl (fun _ => 0))), ((u0 45), .inl (bs_I g, 60, .inl (fun _ => 0))), ((u0 46), .inr (5, [.int 0, .int 0, .int 0, .int 0, .ref (u0 47), .int 0])), ((u0 47), .inl (bs_I g, 30, .inl (fun _ => 0))), ((u0 48), .inl (bs_S g, 4, .inr (.inr (.inr (.inr (va_up (va_up (va_up (va_up (fun _ => none) (0 : Int32).toNatClampNeg (some (u0 50))) (1 : Int32).toNatClampNeg (some (u0 52))) (2 : Int32).toNatClampNeg (some (u0 54))) (3 : Int32).toNatClampNeg (some (u0 56)))))))), ((u0 49), .inl (bs_I g, 7, .inl (fun _ => 0))), ((u0 50), .inr (2, [.int 0, .int 0, .ref (u0 51)])), ((u0 51), .inl (bs_I g, 24, .inl (fun _ => 0))), ((u0 52), .inr (2, [.int 0, .int 0, .ref (u0 53)])), ((u0 53), .inl (bs_I g, 24, .inl (fun _ => 0))), ((u0 54), .inr (2, [.int 0, .int 0, .ref (u0 55)])), ((u0 55), .inl (bs_I g, 24, .inl (fun _ => 0))), ((u0 56), .inr (2, [.int 0, .int 0, .ref (u0 57)])), ((u0 57), .inl (bs_I g, 24, .inl (fun _ => 0))), (q1, .inr (8, [.null, .null, .null, .int 0, .null, .int 0, .int 0, .int 0, .int 0, .null, .null, .null, .null, .int 0, .int 0, .null, .null, .int 0, .null, .int 0, .int 0, .null, .null, .null, .null]))] H := hP
  have hD : va_D (fun q : Nat => s.heap.size ≤ q) [(q0, .inr (7, [.ref (u0 0), .ref (u0 18), .ref (u0 36), .ref (u0 43), .ref (u0 46), .ref (u0 48), .ref (u0 49), .int 0])), ((u0 0), .inr (6, [.ref (u0 1), .ref (u0 4), .int 0, .ref (u0 5), .ref (u0 6), .ref (u0 7), .ref (u0 10), .ref (u0 14), .ref (u0 8), .int 0, .ref (u0 9), .int 0, .int 1])), ((u0 1), .inr (1, [.int 0, .int 0, .ref (u0 2), .ref (u0 3)])), ((u0 2), .inl (bs_I g, 2, .inl (fun _ => 0))), ((u0 3), .inl (bs_I g, 2, .inl (fun _ => 0))), ((u0 4), .inl (bs_I g, 6, .inl (upd (upd (upd (upd (upd (upd (fun _ => 0) (0 : Int32).toNatClampNeg (1 : Int32)) (1 : Int32).toNatClampNeg (2 : Int32)) (2 : Int32).toNatClampNeg (4 : Int32)) (3 : Int32).toNatClampNeg (8 : Int32)) (4 : Int32).toNatClampNeg (16 : Int32)) (5 : Int32).toNatClampNeg (32 : Int32)))), ((u0 5), .inl (bs_I g, 6, .inl (fun _ => 0))), ((u0 6), .inl (bs_I g, 6, .inl (fun _ => 0))), ((u0 7), .inl (bs_I g, 6, .inl (fun _ => 0))), ((u0 8), .inl (bs_B g, 60, .inl (fun _ => 0))), ((u0 9), .inl (bs_I g, 24, .inl (fun _ => 0))), ((u0 10), .inr (0, [.int 30, .int 9, .int 16, .ref (u0 13), .ref (u0 11), .ref (u0 12), .int 0])), ((u0 11), .inl (bs_I g, 60, .inl (fun _ => 0))), ((u0 12), .inl (bs_I g, 60, .inl (fun _ => 0))), ((u0 13), .inl (bs_I g, 1152, .inl (fun _ => 0))), ((u0 14), .inr (0, [.int 40, .int 66, .int 10, .ref (u0 17), .ref (u0 15), .ref (u0 16), .int 0])), ((u0 15), .inl (bs_I g, 60, .inl (fun _ => 0))), ((u0 16), .inl (bs_I g, 60, .inl (fun _ => 0))), ((u0 17), .inl (bs_I g, 5280, .inl (fun _ => 0))), ((u0 18), .inr (6, [.ref (u0 19), .ref (u0 22), .int 0, .ref (u0 23), .ref (u0 24), .ref (u0 25), .ref (u0 28), .ref (u0 32), .ref (u0 26), .int 0, .ref (u0 27), .int 0, .int 1])), ((u0 19), .inr (1, [.int 0, .int 0, .ref (u0 20), .ref (u0 21)])), ((u0 20), .inl (bs_I g, 2, .inl (fun _ => 0))), ((u0 21), .inl (bs_I g, 2, .inl (fun _ => 0))), ((u0 22), .inl (bs_I g, 6, .inl (upd (upd (upd (upd (upd (upd (fun _ => 0) (0 : Int32).toNatClampNeg (1 : Int32)) (1 : Int32).toNatClampNeg (2 : Int32)) (2 : Int32).toNatClampNeg (4 : Int32)) (3 : Int32).toNatClampNeg (8 : Int32)) (4 : Int32).toNatClampNeg (16 : Int32)) (5 : Int32).toNatClampNeg (32 : Int32)))), ((u0 23), .inl (bs_I g, 6, .inl (fun _ => 0))), ((u0 24), .inl (bs_I g, 6, .inl (fun _ => 0))), ((u0 25), .inl (bs_I g, 6, .inl (fun _ => 0))), ((u0 26), .inl (bs_B g, 60, .inl (fun _ => 0))), ((u0 27), .inl (bs_I g, 24, .inl (fun _ => 0))), ((u0 28), .inr (0, [.int 30, .int 0, .int 16, .ref (u0 31), .ref (u0 29), .ref (u0 30), .int 0])), ((u0 29), .inl (bs_I g, 60, .inl (fun _ => 0))), ((u0 30), .inl (bs_I g, 60, .inl (fun _ => 0))), ((u0 31), .inl (bs_I g, 0, .inl (fun _ => 0))), ((u0 32), .inr (0, [.int 40, .int 0, .int 10, .ref (u0 35), .ref (u0 33), .ref (u0 34), .int 0])), ((u0 33), .inl (bs_I g, 60, .inl (fun _ => 0))), ((u0 34), .inl (bs_I g, 60, .inl (fun _ => 0))), ((u0 35), .inl (bs_I g, 0, .inl (fun _ => 0))), ((u0 36), .inr (4, [.ref (u0 37), .ref (u0 40), .int 0, .int 0, .int 0, .ref (u0 41), .ref (u0 42)])), ((u0 37), .inr (1, [.int 0, .int 0, .ref (u0 38), .ref (u0 39)])), ((u0 38), .inl (bs_I g, 2, .inl (fun _ => 0))), ((u0 39), .inl (bs_I g, 2, .inl (fun _ => 0))), ((u0 40), .inl (bs_I g, 256, .inl (fun _ => 0))), ((u0 41), .inl (bs_I g, 9, .inl (fun _ => 0))), ((u0 42), .inl (bs_I g, 31, .inl (fun _ => 0))), ((u0 43), .inr (3, [.ref (u0 44), .int 0, .int 0, .ref (g.2 (6 + 2)), .ref (u0 45), .int 0])), ((u0 44), .inl (bs_B g, 60, .inl (fun _ => 0))), ((u0 45), .inl (bs_I g, 60, .inl (fun _ => 0))), ((u0 46), .inr (5, [.int 0, .int 0, .int 0, .int 0, .ref (u0 47), .int 0])), ((u0 47), .inl (bs_I g, 30, .inl (fun _ => 0))), ((u0 48), .inl (bs_S g, 4, .inr (.inr (.inr (.inr (va_up (va_up (va_up (va_up (fun _ => none) (0 : Int32).toNatClampNeg (some (u0 50))) (1 : Int32).toNatClampNeg (some (u0 52))) (2 : Int32).toNatClampNeg (some (u0 54))) (3 : Int32).toNatClampNeg (some (u0 56)))))))), ((u0 49), .inl (bs_I g, 7, .inl (fun _ => 0))), ((u0 50), .inr (2, [.int 0, .int 0, .ref (u0 51)])), ((u0 51), .inl (bs_I g, 24, .inl (fun _ => 0))), ((u0 52), .inr (2, [.int 0, .int 0, .ref (u0 53)])), ((u0 53), .inl (bs_I g, 24, .inl (fun _ => 0))), ((u0 54), .inr (2, [.int 0, .int 0, .ref (u0 55)])), ((u0 55), .inl (bs_I g, 24, .inl (fun _ => 0))), ((u0 56), .inr (2, [.int 0, .int 0, .ref (u0 57)])), ((u0 57), .inl (bs_I g, 24, .inl (fun _ => 0))), (q1, .inr (8, [.null, .null, .null, .int 0, .null, .int 0, .int 0, .int 0, .int 0, .null, .null, .null, .null, .int 0, .int 0, .null, .null, .int 0, .null, .int 0, .int 0, .null, .null, .null, .null]))] := hD
  refine W.widen (k := 60) (n := 7823) (Nat.le_of_ble_eq_true rfl) (Nat.le_of_ble_eq_true rfl) ?_
  refine lv_dup hx hb dL_law_11 rfl ?_
  refine cI_v (wc := [(q1, .inr (8, [.null, .null, .null, .int 0, .null, .int 0, .int 0, .int 0, .int 0, .null, .null, .null, .null, .int 0, .int 0, .null, .null, .int 0, .null, .int 0, .int 0, .null, .null, .null, .null]))]) (wr := [(q0, .inr (7, [.ref (u0 0), .ref (u0 18), .ref (u0 36), .ref (u0 43), .ref (u0 46), .ref (u0 48), .ref (u0 49), .int 0])), ((u0 0), .inr (6, [.ref (u0 1), .ref (u0 4), .int 0, .ref (u0 5), .ref (u0 6), .ref (u0 7), .ref (u0 10), .ref (u0 14), .ref (u0 8), .int 0, .ref (u0 9), .int 0, .int 1])), ((u0 1), .inr (1, [.int 0, .int 0, .ref (u0 2), .ref (u0 3)])), ((u0 2), .inl (bs_I g, 2, .inl (fun _ => 0))), ((u0 3), .inl (bs_I g, 2, .inl (fun _ => 0))), ((u0 4), .inl (bs_I g, 6, .inl (upd (upd (upd (upd (upd (upd (fun _ => 0) (0 : Int32).toNatClampNeg (1 : Int32)) (1 : Int32).toNatClampNeg (2 : Int32)) (2 : Int32).toNatClampNeg (4 : Int32)) (3 : Int32).toNatClampNeg (8 : Int32)) (4 : Int32).toNatClampNeg (16 : Int32)) (5 : Int32).toNatClampNeg (32 : Int32)))), ((u0 5), .inl (bs_I g, 6, .inl (fun _ => 0))), ((u0 6), .inl (bs_I g, 6, .inl (fun _ => 0))), ((u0 7), .inl (bs_I g, 6, .inl (fun _ => 0))), ((u0 8), .inl (bs_B g, 60, .inl (fun _ => 0))), ((u0 9), .inl (bs_I g, 24, .inl (fun _ => 0))), ((u0 10), .inr (0, [.int 30, .int 9, .int 16, .ref (u0 13), .ref (u0 11), .ref (u0 12), .int 0])), ((u0 11), .inl (bs_I g, 60, .inl (fun _ => 0))), ((u0 12), .inl (bs_I g, 60, .inl (fun _ => 0))), ((u0 13), .inl (bs_I g, 1152, .inl (fun _ => 0))), ((u0 14), .inr (0, [.int 40, .int 66, .int 10, .ref (u0 17), .ref (u0 15), .ref (u0 16), .int 0])), ((u0 15), .inl (bs_I g, 60, .inl (fun _ => 0))), ((u0 16), .inl (bs_I g, 60, .inl (fun _ => 0))), ((u0 17), .inl (bs_I g, 5280, .inl (fun _ => 0))), ((u0 18), .inr (6, [.ref (u0 19), .ref (u0 22), .int 0, .ref (u0 23), .ref (u0 24), .ref (u0 25), .ref (u0 28), .ref (u0 32), .ref (u0 26), .int 0, .ref (u0 27), .int 0, .int 1])), ((u0 19), .inr (1, [.int 0, .int 0, .ref (u0 20), .ref (u0 21)])), ((u0 20), .inl (bs_I g, 2, .inl (fun _ => 0))), ((u0 21), .inl (bs_I g, 2, .inl (fun _ => 0))), ((u0 22), .inl (bs_I g, 6, .inl (upd (upd (upd (upd (upd (upd (fun _ => 0) (0 : Int32).toNatClampNeg (1 : Int32)) (1 : Int32).toNatClampNeg (2 : Int32)) (2 : Int32).toNatClampNeg (4 : Int32)) (3 : Int32).toNatClampNeg (8 : Int32)) (4 : Int32).toNatClampNeg (16 : Int32)) (5 : Int32).toNatClampNeg (32 : Int32)))), ((u0 23), .inl (bs_I g, 6, .inl (fun _ => 0))), ((u0 24), .inl (bs_I g, 6, .inl (fun _ => 0))), ((u0 25), .inl (bs_I g, 6, .inl (fun _ => 0))), ((u0 26), .inl (bs_B g, 60, .inl (fun _ => 0))), ((u0 27), .inl (bs_I g, 24, .inl (fun _ => 0))), ((u0 28), .inr (0, [.int 30, .int 0, .int 16, .ref (u0 31), .ref (u0 29), .ref (u0 30), .int 0])), ((u0 29), .inl (bs_I g, 60, .inl (fun _ => 0))), ((u0 30), .inl (bs_I g, 60, .inl (fun _ => 0))), ((u0 31), .inl (bs_I g, 0, .inl (fun _ => 0))), ((u0 32), .inr (0, [.int 40, .int 0, .int 10, .ref (u0 35), .ref (u0 33), .ref (u0 34), .int 0])), ((u0 33), .inl (bs_I g, 60, .inl (fun _ => 0))), ((u0 34), .inl (bs_I g, 60, .inl (fun _ => 0))), ((u0 35), .inl (bs_I g, 0, .inl (fun _ => 0))), ((u0 36), .inr (4, [.ref (u0 37), .ref (u0 40), .int 0, .int 0, .int 0, .ref (u0 41), .ref (u0 42)])), ((u0 37), .inr (1, [.int 0, .int 0, .ref (u0 38), .ref (u0 39)])), ((u0 38), .inl (bs_I g, 2, .inl (fun _ => 0))), ((u0 39), .inl (bs_I g, 2, .inl (fun _ => 0))), ((u0 40), .inl (bs_I g, 256, .inl (fun _ => 0))), ((u0 41), .inl (bs_I g, 9, .inl (fun _ => 0))), ((u0 42), .inl (bs_I g, 31, .inl (fun _ => 0))), ((u0 43), .inr (3, [.ref (u0 44), .int 0, .int 0, .ref (g.2 (6 + 2)), .ref (u0 45), .int 0])), ((u0 44), .inl (bs_B g, 60, .inl (fun _ => 0))), ((u0 45), .inl (bs_I g, 60, .inl (fun _ => 0))), ((u0 46), .inr (5, [.int 0, .int 0, .int 0, .int 0, .ref (u0 47), .int 0])), ((u0 47), .inl (bs_I g, 30, .inl (fun _ => 0))), ((u0 48), .inl (bs_S g, 4, .inr (.inr (.inr (.inr (va_up (va_up (va_up (va_up (fun _ => none) (0 : Int32).toNatClampNeg (some (u0 50))) (1 : Int32).toNatClampNeg (some (u0 52))) (2 : Int32).toNatClampNeg (some (u0 54))) (3 : Int32).toNatClampNeg (some (u0 56)))))))), ((u0 49), .inl (bs_I g, 7, .inl (fun _ => 0))), ((u0 50), .inr (2, [.int 0, .int 0, .ref (u0 51)])), ((u0 51), .inl (bs_I g, 24, .inl (fun _ => 0))), ((u0 52), .inr (2, [.int 0, .int 0, .ref (u0 53)])), ((u0 53), .inl (bs_I g, 24, .inl (fun _ => 0))), ((u0 54), .inr (2, [.int 0, .int 0, .ref (u0 55)])), ((u0 55), .inl (bs_I g, 24, .inl (fun _ => 0))), ((u0 56), .inr (2, [.int 0, .int 0, .ref (u0 57)])), ((u0 57), .inl (bs_I g, 24, .inl (fun _ => 0)))]) (As := []) (rest := [.ref q1]) hF kX9_init (cwI 0 hts gL_law_X9_init rfl rfl rfl (hts (.initialized RX9) (by decide +kernel)) (hts (.methodLink RL 12 yX9_init) (by decide +kernel)) (hts (.instanceMethod yX9_init) (by decide +kernel)) rfl hdX9_init ⟨(Nat.le_of_ble_eq_true rfl), (Nat.le_of_ble_eq_true rfl)⟩) rfl hS hP hD [59] [0, 1, 2, 3, 4, 5, 6, 7, 8, 9, 10, 11, 12, 13, 14, 15, 16, 17, 18, 19, 20, 21, 22, 23, 24, 25, 26, 27, 28, 29, 30, 31, 32, 33, 34, 35, 36, 37, 38, 39, 40, 41, 42, 43, 44, 45, 46, 47, 48, 49, 50, 51, 52, 53, 54, 55, 56, 57, 58] rfl rfl (by decide) (by decide) (by decide) hl.1 rfl (Nat.le_of_ble_eq_true rfl) dL_law_12 ⟨(Nat.le_of_ble_eq_true rfl), (Nat.le_of_ble_eq_true rfl)⟩ (fun u1 H locs _ hP hD hS => ?_)
  have hP : bs_P g [(q0, .inr (7, [.ref (u0 0), .ref (u0 18), .ref (u0 36), .ref (u0 43), .ref (u0 46), .ref (u0 48), .ref (u0 49), .int 0])), ((u0 0), .inr (6, [.ref (u0 1), .ref (u0 4), .int 0, .ref (u0 5), .ref (u0 6), .ref (u0 7), .ref (u0 10), .ref (u0 14), .ref (u0 8), .int 0, .ref (u0 9), .int 0, .int 1])), ((u0 1), .inr (1, [.int 0, .int 0, .ref (u0 2), .ref (u0 3)])), ((u0 2), .inl (bs_I g, 2, .inl (fun _ => 0))), ((u0 3), .inl (bs_I g, 2, .inl (fun _ => 0))), ((u0 4), .inl (bs_I g, 6, .inl (upd (upd (upd (upd (upd (upd (fun _ => 0) (0 : Int32).toNatClampNeg (1 : Int32)) (1 : Int32).toNatClampNeg (2 : Int32)) (2 : Int32).toNatClampNeg (4 : Int32)) (3 : Int32).toNatClampNeg (8 : Int32)) (4 : Int32).toNatClampNeg (16 : Int32)) (5 : Int32).toNatClampNeg (32 : Int32)))), ((u0 5), .inl (bs_I g, 6, .inl (fun _ => 0))), ((u0 6), .inl (bs_I g, 6, .inl (fun _ => 0))), ((u0 7), .inl (bs_I g, 6, .inl (fun _ => 0))), ((u0 8), .inl (bs_B g, 60, .inl (fun _ => 0))), ((u0 9), .inl (bs_I g, 24, .inl (fun _ => 0))), ((u0 10), .inr (0, [.int 30, .int 9, .int 16, .ref (u0 13), .ref (u0 11), .ref (u0 12), .int 0])), ((u0 11), .inl (bs_I g, 60, .inl (fun _ => 0))), ((u0 12), .inl (bs_I g, 60, .inl (fun _ => 0))), ((u0 13), .inl (bs_I g, 1152, .inl (fun _ => 0))), ((u0 14), .inr (0, [.int 40, .int 66, .int 10, .ref (u0 17), .ref (u0 15), .ref (u0 16), .int 0])), ((u0 15), .inl (bs_I g, 60, .inl (fun _ => 0))), ((u0 16), .inl (bs_I g, 60, .inl (fun _ => 0))), ((u0 17), .inl (bs_I g, 5280, .inl (fun _ => 0))), ((u0 18), .inr (6, [.ref (u0 19), .ref (u0 22), .int 0, .ref (u0 23), .ref (u0 24), .ref (u0 25), .ref (u0 28), .ref (u0 32), .ref (u0 26), .int 0, .ref (u0 27), .int 0, .int 1])), ((u0 19), .inr (1, [.int 0, .int 0, .ref (u0 20), .ref (u0 21)])), ((u0 20), .inl (bs_I g, 2, .inl (fun _ => 0))), ((u0 21), .inl (bs_I g, 2, .inl (fun _ => 0))), ((u0 22), .inl (bs_I g, 6, .inl (upd (upd (upd (upd (upd (upd (fun _ => 0) (0 : Int32).toNatClampNeg (1 : Int32)) (1 : Int32).toNatClampNeg (2 : Int32)) (2 : Int32).toNatClampNeg (4 : Int32)) (3 : Int32).toNatClampNeg (8 : Int32)) (4 : Int32).toNatClampNeg (16 : Int32)) (5 : Int32).toNatClampNeg (32 : Int32)))), ((u0 23), .inl (bs_I g, 6, .inl (fun _ => 0))), ((u0 24), .inl (bs_I g, 6, .inl (fun _ => 0))), ((u0 25), .inl (bs_I g, 6, .inl (fun _ => 0))), ((u0 26), .inl (bs_B g, 60, .inl (fun _ => 0))), ((u0 27), .inl (bs_I g, 24, .inl (fun _ => 0))), ((u0 28), .inr (0, [.int 30, .int 0, .int 16, .ref (u0 31), .ref (u0 29), .ref (u0 30), .int 0])), ((u0 29), .inl (bs_I g, 60, .inl (fun _ => 0))), ((u0 30), .inl (bs_I g, 60, .inl (fun _ => 0))), ((u0 31), .inl (bs_I g, 0, .inl (fun _ => 0))), ((u0 32), .inr (0, [.int 40, .int 0, .int 10, .ref (u0 35), .ref (u0 33), .ref (u0 34), .int 0])), ((u0 33), .inl (bs_I g, 60, .inl (fun _ => 0))), ((u0 34), .inl (bs_I g, 60, .inl (fun _ => 0))), ((u0 35), .inl (bs_I g, 0, .inl (fun _ => 0))), ((u0 36), .inr (4, [.ref (u0 37), .ref (u0 40), .int 0, .int 0, .int 0, .ref (u0 41), .ref (u0 42)])), ((u0 37), .inr (1, [.int 0, .int 0, .ref (u0 38), .ref (u0 39)])), ((u0 38), .inl (bs_I g, 2, .inl (fun _ => 0))), ((u0 39), .inl (bs_I g, 2, .inl (fun _ => 0))), ((u0 40), .inl (bs_I g, 256, .inl (fun _ => 0))), ((u0 41), .inl (bs_I g, 9, .inl (fun _ => 0))), ((u0 42), .inl (bs_I g, 31, .inl (fun _ => 0))), ((u0 43), .inr (3, [.ref (u0 44), .int 0, .int 0, .ref (g.2 (6 + 2)), .ref (u0 45), .int 0])), ((u0 44), .inl (bs_B g, 60, .inl (fun _ => 0))), ((u0 45), .inl (bs_I g, 60, .inl (fun _ => 0))), ((u0 46), .inr (5, [.int 0, .int 0, .int 0, .int 0, .ref (u0 47), .int 0])), ((u0 47), .inl (bs_I g, 30, .inl (fun _ => 0))), ((u0 48), .inl (bs_S g, 4, .inr (.inr (.inr (.inr (va_up (va_up (va_up (va_up (fun _ => none) (0 : Int32).toNatClampNeg (some (u0 50))) (1 : Int32).toNatClampNeg (some (u0 52))) (2 : Int32).toNatClampNeg (some (u0 54))) (3 : Int32).toNatClampNeg (some (u0 56)))))))), ((u0 49), .inl (bs_I g, 7, .inl (fun _ => 0))), ((u0 50), .inr (2, [.int 0, .int 0, .ref (u0 51)])), ((u0 51), .inl (bs_I g, 24, .inl (fun _ => 0))), ((u0 52), .inr (2, [.int 0, .int 0, .ref (u0 53)])), ((u0 53), .inl (bs_I g, 24, .inl (fun _ => 0))), ((u0 54), .inr (2, [.int 0, .int 0, .ref (u0 55)])), ((u0 55), .inl (bs_I g, 24, .inl (fun _ => 0))), ((u0 56), .inr (2, [.int 0, .int 0, .ref (u0 57)])), ((u0 57), .inl (bs_I g, 24, .inl (fun _ => 0))), (q1, .inr (8, [.ref (u1 0), .ref (u1 1), .ref (u1 2), .int 0, .ref (u1 3), .int 0, .int 0, .int 0, .int 0, .ref (u1 4), .ref (u1 5), .ref (u1 6), .ref (u1 7), .int 0, .int 0, .ref (u1 8), .ref (u1 9), .int 0, .ref (u1 10), .int 0, .int 0, .ref (u1 11), .ref (u1 12), .ref (u1 13), .ref (u1 14)])), ((u1 0), .inl (bs_I g, 366, .inl (upd (upd (upd (upd (upd (upd (upd (fun _ => 0) (4 : Int32).toNatClampNeg (1 : Int32)) (8 : Int32).toNatClampNeg (1 : Int32)) (9 : Int32).toNatClampNeg (2 : Int32)) (10 : Int32).toNatClampNeg (4 : Int32)) (11 : Int32).toNatClampNeg (8 : Int32)) (12 : Int32).toNatClampNeg (16 : Int32)) (13 : Int32).toNatClampNeg (32 : Int32)))), ((u1 1), .inl (bs_I g, 366, .inl (fun _ => 0))), ((u1 2), .inl (bs_I g, 32, .inl (fun _ => 0))), ((u1 3), .inl (bs_I g, 7, .inl (fun _ => 0))), ((u1 4), .inl (bs_I g, 124, .inl (fun _ => 0))), ((u1 5), .inl (bs_I g, 128, .inl (fun _ => 0))), ((u1 6), .inl (bs_I g, 64, .inl (fun _ => 0))), ((u1 7), .inl (bs_Z g, 256, .inl (fun _ => 0))), ((u1 8), .inl (bs_I g, 9, .inl (fun _ => 0))), ((u1 9), .inl (bs_I g, 31, .inl (fun _ => 0))), ((u1 10), .inl (bs_I g, 30, .inl (fun _ => 0))), ((u1 11), .inl (bs_I g, 4, .inl (fun _ => 0))), ((u1 12), .inl (bs_I g, 4, .inl (fun _ => 0))), ((u1 13), .inl (bs_I g, 96, .inl (fun _ => 0))), ((u1 14), .inl (bs_I g, 24, .inl (fun _ => 0)))] H := hP
  have hD : va_D (fun q : Nat => s.heap.size ≤ q) [(q0, .inr (7, [.ref (u0 0), .ref (u0 18), .ref (u0 36), .ref (u0 43), .ref (u0 46), .ref (u0 48), .ref (u0 49), .int 0])), ((u0 0), .inr (6, [.ref (u0 1), .ref (u0 4), .int 0, .ref (u0 5), .ref (u0 6), .ref (u0 7), .ref (u0 10), .ref (u0 14), .ref (u0 8), .int 0, .ref (u0 9), .int 0, .int 1])), ((u0 1), .inr (1, [.int 0, .int 0, .ref (u0 2), .ref (u0 3)])), ((u0 2), .inl (bs_I g, 2, .inl (fun _ => 0))), ((u0 3), .inl (bs_I g, 2, .inl (fun _ => 0))), ((u0 4), .inl (bs_I g, 6, .inl (upd (upd (upd (upd (upd (upd (fun _ => 0) (0 : Int32).toNatClampNeg (1 : Int32)) (1 : Int32).toNatClampNeg (2 : Int32)) (2 : Int32).toNatClampNeg (4 : Int32)) (3 : Int32).toNatClampNeg (8 : Int32)) (4 : Int32).toNatClampNeg (16 : Int32)) (5 : Int32).toNatClampNeg (32 : Int32)))), ((u0 5), .inl (bs_I g, 6, .inl (fun _ => 0))), ((u0 6), .inl (bs_I g, 6, .inl (fun _ => 0))), ((u0 7), .inl (bs_I g, 6, .inl (fun _ => 0))), ((u0 8), .inl (bs_B g, 60, .inl (fun _ => 0))), ((u0 9), .inl (bs_I g, 24, .inl (fun _ => 0))), ((u0 10), .inr (0, [.int 30, .int 9, .int 16, .ref (u0 13), .ref (u0 11), .ref (u0 12), .int 0])), ((u0 11), .inl (bs_I g, 60, .inl (fun _ => 0))), ((u0 12), .inl (bs_I g, 60, .inl (fun _ => 0))), ((u0 13), .inl (bs_I g, 1152, .inl (fun _ => 0))), ((u0 14), .inr (0, [.int 40, .int 66, .int 10, .ref (u0 17), .ref (u0 15), .ref (u0 16), .int 0])), ((u0 15), .inl (bs_I g, 60, .inl (fun _ => 0))), ((u0 16), .inl (bs_I g, 60, .inl (fun _ => 0))), ((u0 17), .inl (bs_I g, 5280, .inl (fun _ => 0))), ((u0 18), .inr (6, [.ref (u0 19), .ref (u0 22), .int 0, .ref (u0 23), .ref (u0 24), .ref (u0 25), .ref (u0 28), .ref (u0 32), .ref (u0 26), .int 0, .ref (u0 27), .int 0, .int 1])), ((u0 19), .inr (1, [.int 0, .int 0, .ref (u0 20), .ref (u0 21)])), ((u0 20), .inl (bs_I g, 2, .inl (fun _ => 0))), ((u0 21), .inl (bs_I g, 2, .inl (fun _ => 0))), ((u0 22), .inl (bs_I g, 6, .inl (upd (upd (upd (upd (upd (upd (fun _ => 0) (0 : Int32).toNatClampNeg (1 : Int32)) (1 : Int32).toNatClampNeg (2 : Int32)) (2 : Int32).toNatClampNeg (4 : Int32)) (3 : Int32).toNatClampNeg (8 : Int32)) (4 : Int32).toNatClampNeg (16 : Int32)) (5 : Int32).toNatClampNeg (32 : Int32)))), ((u0 23), .inl (bs_I g, 6, .inl (fun _ => 0))), ((u0 24), .inl (bs_I g, 6, .inl (fun _ => 0))), ((u0 25), .inl (bs_I g, 6, .inl (fun _ => 0))), ((u0 26), .inl (bs_B g, 60, .inl (fun _ => 0))), ((u0 27), .inl (bs_I g, 24, .inl (fun _ => 0))), ((u0 28), .inr (0, [.int 30, .int 0, .int 16, .ref (u0 31), .ref (u0 29), .ref (u0 30), .int 0])), ((u0 29), .inl (bs_I g, 60, .inl (fun _ => 0))), ((u0 30), .inl (bs_I g, 60, .inl (fun _ => 0))), ((u0 31), .inl (bs_I g, 0, .inl (fun _ => 0))), ((u0 32), .inr (0, [.int 40, .int 0, .int 10, .ref (u0 35), .ref (u0 33), .ref (u0 34), .int 0])), ((u0 33), .inl (bs_I g, 60, .inl (fun _ => 0))), ((u0 34), .inl (bs_I g, 60, .inl (fun _ => 0))), ((u0 35), .inl (bs_I g, 0, .inl (fun _ => 0))), ((u0 36), .inr (4, [.ref (u0 37), .ref (u0 40), .int 0, .int 0, .int 0, .ref (u0 41), .ref (u0 42)])), ((u0 37), .inr (1, [.int 0, .int 0, .ref (u0 38), .ref (u0 39)])), ((u0 38), .inl (bs_I g, 2, .inl (fun _ => 0))), ((u0 39), .inl (bs_I g, 2, .inl (fun _ => 0))), ((u0 40), .inl (bs_I g, 256, .inl (fun _ => 0))), ((u0 41), .inl (bs_I g, 9, .inl (fun _ => 0))), ((u0 42), .inl (bs_I g, 31, .inl (fun _ => 0))), ((u0 43), .inr (3, [.ref (u0 44), .int 0, .int 0, .ref (g.2 (6 + 2)), .ref (u0 45), .int 0])), ((u0 44), .inl (bs_B g, 60, .inl (fun _ => 0))), ((u0 45), .inl (bs_I g, 60, .inl (fun _ => 0))), ((u0 46), .inr (5, [.int 0, .int 0, .int 0, .int 0, .ref (u0 47), .int 0])), ((u0 47), .inl (bs_I g, 30, .inl (fun _ => 0))), ((u0 48), .inl (bs_S g, 4, .inr (.inr (.inr (.inr (va_up (va_up (va_up (va_up (fun _ => none) (0 : Int32).toNatClampNeg (some (u0 50))) (1 : Int32).toNatClampNeg (some (u0 52))) (2 : Int32).toNatClampNeg (some (u0 54))) (3 : Int32).toNatClampNeg (some (u0 56)))))))), ((u0 49), .inl (bs_I g, 7, .inl (fun _ => 0))), ((u0 50), .inr (2, [.int 0, .int 0, .ref (u0 51)])), ((u0 51), .inl (bs_I g, 24, .inl (fun _ => 0))), ((u0 52), .inr (2, [.int 0, .int 0, .ref (u0 53)])), ((u0 53), .inl (bs_I g, 24, .inl (fun _ => 0))), ((u0 54), .inr (2, [.int 0, .int 0, .ref (u0 55)])), ((u0 55), .inl (bs_I g, 24, .inl (fun _ => 0))), ((u0 56), .inr (2, [.int 0, .int 0, .ref (u0 57)])), ((u0 57), .inl (bs_I g, 24, .inl (fun _ => 0))), (q1, .inr (8, [.ref (u1 0), .ref (u1 1), .ref (u1 2), .int 0, .ref (u1 3), .int 0, .int 0, .int 0, .int 0, .ref (u1 4), .ref (u1 5), .ref (u1 6), .ref (u1 7), .int 0, .int 0, .ref (u1 8), .ref (u1 9), .int 0, .ref (u1 10), .int 0, .int 0, .ref (u1 11), .ref (u1 12), .ref (u1 13), .ref (u1 14)])), ((u1 0), .inl (bs_I g, 366, .inl (upd (upd (upd (upd (upd (upd (upd (fun _ => 0) (4 : Int32).toNatClampNeg (1 : Int32)) (8 : Int32).toNatClampNeg (1 : Int32)) (9 : Int32).toNatClampNeg (2 : Int32)) (10 : Int32).toNatClampNeg (4 : Int32)) (11 : Int32).toNatClampNeg (8 : Int32)) (12 : Int32).toNatClampNeg (16 : Int32)) (13 : Int32).toNatClampNeg (32 : Int32)))), ((u1 1), .inl (bs_I g, 366, .inl (fun _ => 0))), ((u1 2), .inl (bs_I g, 32, .inl (fun _ => 0))), ((u1 3), .inl (bs_I g, 7, .inl (fun _ => 0))), ((u1 4), .inl (bs_I g, 124, .inl (fun _ => 0))), ((u1 5), .inl (bs_I g, 128, .inl (fun _ => 0))), ((u1 6), .inl (bs_I g, 64, .inl (fun _ => 0))), ((u1 7), .inl (bs_Z g, 256, .inl (fun _ => 0))), ((u1 8), .inl (bs_I g, 9, .inl (fun _ => 0))), ((u1 9), .inl (bs_I g, 31, .inl (fun _ => 0))), ((u1 10), .inl (bs_I g, 30, .inl (fun _ => 0))), ((u1 11), .inl (bs_I g, 4, .inl (fun _ => 0))), ((u1 12), .inl (bs_I g, 4, .inl (fun _ => 0))), ((u1 13), .inl (bs_I g, 96, .inl (fun _ => 0))), ((u1 14), .inl (bs_I g, 24, .inl (fun _ => 0)))] := hD
  refine W.widen (k := 75) (n := 9364) (Nat.le_of_ble_eq_true rfl) (Nat.le_of_ble_eq_true rfl) ?_
  refine lv_astore_n (lv' := [(2, .ref q1), (1, .ref q0), (0, .ref b)]) hx hb dL_law_15 rfl hl (by decide) rfl (fun ls hl => ?_)
  refine lv_iconst (v := 0) hx hb dL_law_16 (by decide) ?_
  refine lv_istore_n (lv' := [(3, .int 0), (2, .ref q1), (1, .ref q0), (0, .ref b)]) hx hb dL_law_17 rfl hl (by decide) rfl (fun ls hl => ?_)
  refine lw_loop (ad := lw_a q0 u0) (bd := lw_a q1 u1) hL ⟨(Nat.le_of_ble_eq_true rfl), (Nat.le_of_ble_eq_true rfl)⟩ hF hX hbl (fun H locs ls hS => ?_) 4001 0 (by decide) (by decide) (fun k => ([0, 0, 0, 0, 1, 0, 0, 30, 9, 16, 0, 40, 66, 10, 0, 0, 0, 0, 1, 0, 0, 30, 0, 16, 0, 40, 0, 10, 0, 0, 0, 0, 0, 0, 0, 0, 0, 0, 0, 0, 0, 0, 0, 0, 0, 0, 0, 0, 0, 0] : List Int32).getD k 0) (fun k => ([0, 0, 0, 0, 0, 0, 0, 0, 0, 0] : List Int32).getD k 0) (fun k => ([(fun _ => 0), (fun _ => 0), (upd (upd (upd (upd (upd (upd (fun _ => 0) (0 : Int32).toNatClampNeg (1 : Int32)) (1 : Int32).toNatClampNeg (2 : Int32)) (2 : Int32).toNatClampNeg (4 : Int32)) (3 : Int32).toNatClampNeg (8 : Int32)) (4 : Int32).toNatClampNeg (16 : Int32)) (5 : Int32).toNatClampNeg (32 : Int32)), (fun _ => 0), (fun _ => 0), (fun _ => 0), (fun _ => 0), (fun _ => 0), (fun _ => 0), (fun _ => 0), (fun _ => 0), (fun _ => 0), (fun _ => 0), (fun _ => 0), (fun _ => 0), (fun _ => 0), (upd (upd (upd (upd (upd (upd (fun _ => 0) (0 : Int32).toNatClampNeg (1 : Int32)) (1 : Int32).toNatClampNeg (2 : Int32)) (2 : Int32).toNatClampNeg (4 : Int32)) (3 : Int32).toNatClampNeg (8 : Int32)) (4 : Int32).toNatClampNeg (16 : Int32)) (5 : Int32).toNatClampNeg (32 : Int32)), (fun _ => 0), (fun _ => 0), (fun _ => 0), (fun _ => 0), (fun _ => 0), (fun _ => 0), (fun _ => 0), (fun _ => 0), (fun _ => 0), (fun _ => 0), (fun _ => 0), (fun _ => 0), (fun _ => 0), (fun _ => 0), (fun _ => 0), (fun _ => 0), (fun _ => 0), (fun _ => 0), (fun _ => 0), (fun _ => 0), (fun _ => 0), (fun _ => 0), (fun _ => 0), (fun _ => 0)] : List (Nat → Int32)).getD k (fun _ => 0)) (fun k => ([(upd (upd (upd (upd (upd (upd (upd (fun _ => 0) (4 : Int32).toNatClampNeg (1 : Int32)) (8 : Int32).toNatClampNeg (1 : Int32)) (9 : Int32).toNatClampNeg (2 : Int32)) (10 : Int32).toNatClampNeg (4 : Int32)) (11 : Int32).toNatClampNeg (8 : Int32)) (12 : Int32).toNatClampNeg (16 : Int32)) (13 : Int32).toNatClampNeg (32 : Int32)), (fun _ => 0), (fun _ => 0), (fun _ => 0), (fun _ => 0), (fun _ => 0), (fun _ => 0), (fun _ => 0), (fun _ => 0), (fun _ => 0), (fun _ => 0), (fun _ => 0), (fun _ => 0), (fun _ => 0), (fun _ => 0)] : List (Nat → Int32)).getD k (fun _ => 0)) 2 H locs ls rl_init hP hD hS hl
  refine va_forget hS.2.2 (W.widen (k := 600000) (n := 7302249) (Nat.le_of_ble_eq_true rfl) (Nat.le_of_ble_eq_true rfl) ?_)
  exact lw_ret hx hb hr hlocks dL_law_1354
