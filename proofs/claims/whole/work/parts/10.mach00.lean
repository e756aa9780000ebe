theorem hdX7_lawOf : yX7_lawOf.cls = RX7 ∧ yX7_lawOf.cls ≠ "java/lang/invoke/MethodHandle" ∧ yX7_lawOf.cls ≠ "java/lang/invoke/VarHandle" ∧ (parseMethodDescriptor yX7_lawOf.desc).map (fun d => d.parameters.length) = some 1 := by decide +kernel
theorem hiX7_lawOf_X7 : ∀ w ∈ wsX70, w ∈ wsX7_lawOf := by decide +kernel
set_option maxHeartbeats 4000000 in
set_option maxRecDepth 100000 in
theorem kX7_lawOf_a {l : Launch} {g : bs_G} {a_t : Nat} {a_lions : Nat} {a_events : Nat} {v_readers : Int32} {a_kinds : Nat} {a_ms : Nat} {a_marks : Nat} {a_turnLaw : Nat} {a_markLaw : Nat} {a_tape : Nat} {v_tapeSize : Int32} {a_waiting : Nat} {v_waits : Int32} {v_z : Int32} {sz : Nat} {x1 : Int32} (hc : x1 = 0) : Met l yX7_lawOf wsX7_lawOf ({ frames := 0, cells := 0, slots := 0, locals := 0 } : Room) (bs_Pc g [.ref a_t, .int x1] [(a_t, .inr (6, [.ref a_lions, .ref a_events, .int v_readers, .ref a_kinds, .ref a_ms, .ref a_marks, .ref a_turnLaw, .ref a_markLaw, .ref a_tape, .int v_tapeSize, .ref a_waiting, .int v_waits, .int v_z]))] sz) (va_Qr (fun (r : Nat) => r = a_turnLaw) (fun (u : Nat) a t => a = u ∧ bs_E g [(a_t, .inr (6, [.ref a_lions, .ref a_events, .int v_readers, .ref a_kinds, .ref a_ms, .ref a_marks, .ref a_turnLaw, .ref a_markLaw, .ref a_tape, .int v_tapeSize, .ref a_waiting, .int v_waits, .int v_z]))] sz (fun (_ : Nat) => [(a_t, .inr (6, [.ref a_lions, .ref a_events, .int v_readers, .ref a_kinds, .ref a_ms, .ref a_marks, .ref a_turnLaw, .ref a_markLaw, .ref a_tape, .int v_tapeSize, .ref a_waiting, .int v_waits, .int v_z]))]) u t) (va_A [(a_t, .inr (6, [.ref a_lions, .ref a_events, .int v_readers, .ref a_kinds, .ref a_ms, .ref a_marks, .ref a_turnLaw, .ref a_markLaw, .ref a_tape, .int v_tapeSize, .ref a_waiting, .int v_waits, .int v_z]))] sz)) 0 0 (va_A [(a_t, .inr (6, [.ref a_lions, .ref a_events, .int v_readers, .ref a_kinds, .ref a_ms, .ref a_marks, .ref a_turnLaw, .ref a_markLaw, .ref a_tape, .int v_tapeSize, .ref a_waiting, .int v_waits, .int v_z]))] sz) := by
  refine ent_r (cc := cX7_lawOf) (maxL := 2) (by decide) rfl (Nat.le_of_ble_eq_true rfl) ?_
  intro p e s m below meth c Q A hF hsz hP hD hS ret ls hl
  obtain ⟨⟨hx, hb, hml, hown, hts⟩, hK, hG, hA⟩ := id hF
  have hown : s.vm.findClass RX7 = some m.cls := hown
  have hl : lv_has ls 2 [(0, .ref a_t), (1, .int x1)] := hl
  refine lv_iload_n hx hb dX7_lawOf_0 rfl (lv_at hl 1 rfl) ?_
  refine lv_if_ne (tgt := 11) hx hb dX7_lawOf_1 (by decide) (fun c1 => ?_) (fun c1 => ?_)
  · exact absurd hc c1
  · refine lv_aload_n hx hb dX7_lawOf_4 rfl (lv_at hl 0 rfl) ?_
    refine va_get (D := g.1) (ci := 6) (v := .ref a_turnLaw) (C := RX7) (T := TX7) (N := 13) hx hb hts hiX7_lawOf_X7 hown hK hP 0 rfl rfl 6 (by decide) (hts (.fieldLink RX7 47 "LionSigns$World" "turnLaw" "LLionSigns$Law;") (by decide +kernel)) (fun _ h9 => h9) rfl dX7_lawOf_5 ?_
    refine lv_goto (tgt := 15) hx hb dX7_lawOf_8 (by decide) ?_
    exact ret _ _ _ _ _ dX7_lawOf_15 rfl hP hD hS
set_option maxHeartbeats 4000000 in
set_option maxRecDepth 100000 in
theorem kX7_lawOf_b {l : Launch} {g : bs_G} {a_t : Nat} {a_lions : Nat} {a_events : Nat} {v_readers : Int32} {a_kinds : Nat} {a_ms : Nat} {a_marks : Nat} {a_turnLaw : Nat} {a_markLaw : Nat} {a_tape : Nat} {v_tapeSize : Int32} {a_waiting : Nat} {v_waits : Int32} {v_z : Int32} {sz : Nat} {x1 : Int32} (hc : ¬ x1 = 0) : Met l yX7_lawOf wsX7_lawOf ({ frames := 0, cells := 0, slots := 0, locals := 0 } : Room) (bs_Pc g [.ref a_t, .int x1] [(a_t, .inr (6, [.ref a_lions, .ref a_events, .int v_readers, .ref a_kinds, .ref a_ms, .ref a_marks, .ref a_turnLaw, .ref a_markLaw, .ref a_tape, .int v_tapeSize, .ref a_waiting, .int v_waits, .int v_z]))] sz) (va_Qr (fun (r : Nat) => r = a_markLaw) (fun (u : Nat) a t => a = u ∧ bs_E g [(a_t, .inr (6, [.ref a_lions, .ref a_events, .int v_readers, .ref a_kinds, .ref a_ms, .ref a_marks, .ref a_turnLaw, .ref a_markLaw, .ref a_tape, .int v_tapeSize, .ref a_waiting, .int v_waits, .int v_z]))] sz (fun (_ : Nat) => [(a_t, .inr (6, [.ref a_lions, .ref a_events, .int v_readers, .ref a_kinds, .ref a_ms, .ref a_marks, .ref a_turnLaw, .ref a_markLaw, .ref a_tape, .int v_tapeSize, .ref a_waiting, .int v_waits, .int v_z]))]) u t) (va_A [(a_t, .inr (6, [.ref a_lions, .ref a_events, .int v_readers, .ref a_kinds, .ref a_ms, .ref a_marks, .ref a_turnLaw, .ref a_markLaw, .ref a_tape, .int v_tapeSize, .ref a_waiting, .int v_waits, .int v_z]))] sz)) 0 0 (va_A [(a_t, .inr (6, [.ref a_lions, .ref a_events, .int v_readers, .ref a_kinds, .ref a_ms, .ref a_marks, .ref a_turnLaw, .ref a_markLaw, .ref a_tape, .int v_tapeSize, .ref a_waiting, .int v_waits, .int v_z]))] sz) := by
  refine ent_r (cc := cX7_lawOf) (maxL := 2) (by decide) rfl (Nat.le_of_ble_eq_true rfl) ?_
  intro p e s m below meth c Q A hF hsz hP hD hS ret ls hl
  obtain ⟨⟨hx, hb, hml, hown, hts⟩, hK, hG, hA⟩ := id hF
  have hown : s.vm.findClass RX7 = some m.cls := hown
  have hl : lv_has ls 2 [(0, .ref a_t), (1, .int x1)] := hl
  refine lv_iload_n hx hb dX7_lawOf_0 rfl (lv_at hl 1 rfl) ?_
  refine lv_if_ne (tgt := 11) hx hb dX7_lawOf_1 (by decide) (fun c1 => ?_) (fun c1 => ?_)
  · refine lv_aload_n hx hb dX7_lawOf_11 rfl (lv_at hl 0 rfl) ?_
    refine va_get (D := g.1) (ci := 6) (v := .ref a_markLaw) (C := RX7) (T := TX7) (N := 13) hx hb hts hiX7_lawOf_X7 hown hK hP 0 rfl rfl 7 (by decide) (hts (.fieldLink RX7 51 "LionSigns$World" "markLaw" "LLionSigns$Law;") (by decide +kernel)) (fun _ h9 => h9) rfl dX7_lawOf_12 ?_
    exact ret _ _ _ _ _ dX7_lawOf_15 rfl hP hD hS
  · exact absurd c1 hc

theorem hdX0_above : yX0_above.cls ≠ "java/lang/invoke/MethodHandle" ∧ yX0_above.cls ≠ "java/lang/invoke/VarHandle" ∧ (parseMethodDescriptor yX0_above.desc).map (fun d => d.parameters.length) = some 1 := by decide +kernel
set_option maxHeartbeats 4000000 in
set_option maxRecDepth 100000 in
theorem kX0_above {l : Launch} {g : bs_G} {sz : Nat} {x0 : Int32} {K : Int32 → Prop} (hw : wpX0_above x0 K) : Met l yX0_above wsX0_above ({ frames := 0, cells := 0, slots := 0, locals := 0 } : Room) (bs_Pc g [.int x0] [] sz) (bs_Qi g [] sz (fun (r : Int32) (_ : Unit) => K r) (fun (_ : Unit) => ([] : va_W))) 0 0 (va_A [] sz) := by
  refine ent_i (cc := cX0_above) (maxL := 1) (rt := .int) (by decide) rfl (Nat.le_of_ble_eq_true rfl) ?_
  intro p e s m below meth c Q A hF hsz hP hD hS ret ls hl
  obtain ⟨⟨hx, hb, hml, hown, hts⟩, hK, hG, hA⟩ := id hF
  have hown : s.vm.findClass RX0 = some m.cls := hown
  have hl : lv_has ls 1 [(0, .int x0)] := hl
  refine lv_iload_n hx hb dX0_above_0 rfl (lv_at hl 0 rfl) ?_
  refine lv_if_lt (tgt := 20) hx hb dX0_above_1 (by decide) (fun c1 => ?_) (fun c1 => ?_)
  · replace hw := hw.1 c1
    refine lv_iconst (v := 0) hx hb dX0_above_20 (by decide) ?_
    exact ret _ _ _ _ 0 () dX0_above_21 rfl hw hP hD hS
  · replace hw := hw.2 c1
    refine lv_iload_n hx hb dX0_above_4 rfl (lv_at hl 0 rfl) ?_
    refine va_gets hx hb hG.1.1 hS hown (hts (.fieldLink RX0 7 "LionSigns$Kinds" "ABOVE" "[I") (by decide +kernel)) (fun _ h9 => h9) dX0_above_5 ?_
    refine va_tlen (v := 7) hx hb hG.1.2.1 hS rfl dX0_above_8 ?_
    refine lv_icmp_ge (tgt := 20) hx hb dX0_above_9 (by decide) (fun c9 => ?_) (fun c9 => ?_)
    · replace hw := hw.1 c9
      refine lv_iconst (v := 0) hx hb dX0_above_20 (by decide) ?_
      exact ret _ _ _ _ 0 () dX0_above_21 rfl hw hP hD hS
    · replace hw := hw.2 c9
      refine va_gets hx hb hG.1.1 hS hown (hts (.fieldLink RX0 7 "LionSigns$Kinds" "ABOVE" "[I") (by decide +kernel)) (fun _ h9 => h9) dX0_above_12 ?_
      refine lv_iload_n hx hb dX0_above_15 rfl (lv_at hl 0 rfl) ?_
      refine va_ti (v := .int (tb_above x0.toNatClampNeg)) hx hb hG.1.2.1 hS hw.1 rfl dX0_above_16 ?_
      replace hw := hw.2
      refine lv_goto (tgt := 21) hx hb dX0_above_17 (by decide) ?_
      exact ret _ _ _ _ (tb_above x0.toNatClampNeg) () dX0_above_21 rfl hw hP hD hS

theorem hdX0_isOf : yX0_isOf.cls ≠ "java/lang/invoke/MethodHandle" ∧ yX0_isOf.cls ≠ "java/lang/invoke/VarHandle" ∧ (parseMethodDescriptor yX0_isOf.desc).map (fun d => d.parameters.length) = some 2 := by decide +kernel
set_option maxHeartbeats 4000000 in
set_option maxRecDepth 100000 in
theorem kX0_isOf {l : Launch} {g : bs_G} {sz : Nat} {x0 : Int32} {x1 : Int32} {K : Int32 → Prop} (hw : wpX0_isOf x0 x1 K) : Met l yX0_isOf wsX0_isOf ({ frames := 1, cells := 0, slots := 0, locals := 20 } : Room) (bs_Pc g [.int x0, .int x1] [] sz) (bs_Qi g [] sz (fun (r : Int32) (_ : Unit) => K r) (fun (_ : Unit) => ([] : va_W))) 0 0 (va_A [] sz) := by
  refine ent_i (cc := cX0_isOf) (maxL := 2) (rt := .boolean) (by decide) rfl (Nat.le_of_ble_eq_true rfl) ?_
  intro p e s m below meth c Q A hF hsz hP hD hS ret ls hl
  obtain ⟨⟨hx, hb, hml, hown, hts⟩, hK, hG, hA⟩ := id hF
  have hown : s.vm.findClass RX0 = some m.cls := hown
  have hl : lv_has ls 2 [(0, .int x0), (1, .int x1)] := hl
  refine lv_iload_n hx hb dX0_isOf_0 rfl (lv_at hl 0 rfl) ?_
  refine lv_iload_n hx hb dX0_isOf_1 rfl (lv_at hl 1 rfl) ?_
  refine lv_icmp_eq (tgt := 24) hx hb dX0_isOf_2 (by decide) (fun c2 => ?_) (fun c2 => ?_)
  · replace hw := hw.1 c2
    refine lv_iconst (v := 1) hx hb dX0_isOf_24 (by decide) ?_
    refine lv_goto (tgt := 29) hx hb dX0_isOf_25 (by decide) ?_
    exact ret _ _ _ _ 1 () dX0_isOf_29 rfl hw hP hD hS
  · replace hw := hw.2 c2
    refine lv_iload_n hx hb dX0_isOf_5 rfl (lv_at hl 0 rfl) ?_
    refine cs_i (wc := []) (wr := []) (As := [.int x0]) (rest := []) hF (kX0_above hw) (va_cwS 1 hts gX0_isOf_X0_above rfl rfl rfl hdX0_above ⟨Nat.le_of_ble_eq_true rfl, Nat.le_of_ble_eq_true rfl⟩) rfl hS hP hD [] [] rfl rfl (by decide) (by decide) (by decide) hl.1 rfl (Nat.le_of_ble_eq_true rfl) dX0_isOf_6 (fun r6 _ H locs hw hP hD hS => ?_)
    try dsimp only at hw
    have hP : bs_P g [] H := va_P.sub hP [] rfl
    have hD : va_D A [] := va_D.sub hD [] (by decide) rfl
    refine lv_iload_n hx hb dX0_isOf_9 rfl (lv_at hl 1 rfl) ?_
    refine lv_icmp_eq (tgt := 24) hx hb dX0_isOf_10 (by decide) (fun c10 => ?_) (fun c10 => ?_)
    · replace hw := hw.1 c10
      refine lv_iconst (v := 1) hx hb dX0_isOf_24 (by decide) ?_
      refine lv_goto (tgt := 29) hx hb dX0_isOf_25 (by decide) ?_
      exact ret _ _ _ _ 1 () dX0_isOf_29 rfl hw hP hD hS
    · replace hw := hw.2 c10
      refine lv_iload_n hx hb dX0_isOf_13 rfl (lv_at hl 0 rfl) ?_
      refine cs_i (wc := []) (wr := []) (As := [.int x0]) (rest := []) hF (kX0_above hw) (va_cwS 1 hts gX0_isOf_X0_above rfl rfl rfl hdX0_above ⟨Nat.le_of_ble_eq_true rfl, Nat.le_of_ble_eq_true rfl⟩) rfl hS hP hD [] [] rfl rfl (by decide) (by decide) (by decide) hl.1 rfl (Nat.le_of_ble_eq_true rfl) dX0_isOf_14 (fun r14 _ H locs hw hP hD hS => ?_)
      try dsimp only at hw
      have hP : bs_P g [] H := va_P.sub hP [] rfl
      have hD : va_D A [] := va_D.sub hD [] (by decide) rfl
      refine cs_i (wc := []) (wr := []) (As := [.int r14]) (rest := []) hF (kX0_above hw) (va_cwS 1 hts gX0_isOf_X0_above rfl rfl rfl hdX0_above ⟨Nat.le_of_ble_eq_true rfl, Nat.le_of_ble_eq_true rfl⟩) rfl hS hP hD [] [] rfl rfl (by decide) (by decide) (by decide) hl.1 rfl (Nat.le_of_ble_eq_true rfl) dX0_isOf_17 (fun r17 _ H locs hw hP hD hS => ?_)
      try dsimp only at hw
      have hP : bs_P g [] H := va_P.sub hP [] rfl
      have hD : va_D A [] := va_D.sub hD [] (by decide) rfl
      refine lv_iload_n hx hb dX0_isOf_20 rfl (lv_at hl 1 rfl) ?_
      refine lv_icmp_ne (tgt := 28) hx hb dX0_isOf_21 (by decide) (fun c21 => ?_) (fun c21 => ?_)
      · replace hw := hw.2 c21
        refine lv_iconst (v := 0) hx hb dX0_isOf_28 (by decide) ?_
        exact ret _ _ _ _ 0 () dX0_isOf_29 rfl hw hP hD hS
      · replace hw := hw.1 c21
        refine lv_iconst (v := 1) hx hb dX0_isOf_24 (by decide) ?_
        refine lv_goto (tgt := 29) hx hb dX0_isOf_25 (by decide) ?_
        exact ret _ _ _ _ 1 () dX0_isOf_29 rfl hw hP hD hS

theorem hdX0_looksAt : yX0_looksAt.cls ≠ "java/lang/invoke/MethodHandle" ∧ yX0_looksAt.cls ≠ "java/lang/invoke/VarHandle" ∧ (parseMethodDescriptor yX0_looksAt.desc).map (fun d => d.parameters.length) = some 3 := by decide +kernel
theorem hiX0_looksAt_X2 : ∀ w ∈ wsX20, w ∈ wsX0_looksAt := by decide +kernel
set_option maxHeartbeats 4000000 in
set_option maxRecDepth 100000 in
theorem kX0_looksAt {l : Launch} {g : bs_G} {a_w2 : Nat} {v_w2_year : Int32} {v_w2_secret : Int32} {a_w2_jaws : Nat} {a_w2_turns : Nat} {v_w2_jaws : Nat → Int32} {sz : Nat} {x0 : Int32} {x1 : Int32} {K : Int32 → Prop} (hw : wpX0_looksAt x0 x1 v_w2_year v_w2_jaws K) : Met l yX0_looksAt wsX0_looksAt ({ frames := 0, cells := 0, slots := 0, locals := 0 } : Room) (bs_Pc g [.int x0, .int x1, .ref a_w2] [(a_w2, .inr (1, [.int v_w2_year, .int v_w2_secret, .ref a_w2_jaws, .ref a_w2_turns])), (a_w2_jaws, .inl (bs_I g, 2, .inl v_w2_jaws))] sz) (bs_Qi g [(a_w2, .inr (1, [.int v_w2_year, .int v_w2_secret, .ref a_w2_jaws, .ref a_w2_turns])), (a_w2_jaws, .inl (bs_I g, 2, .inl v_w2_jaws))] sz (fun (r : Int32) (_ : Unit) => K r) (fun (_ : Unit) => ([(a_w2, .inr (1, [.int v_w2_year, .int v_w2_secret, .ref a_w2_jaws, .ref a_w2_turns])), (a_w2_jaws, .inl (bs_I g, 2, .inl v_w2_jaws))] : va_W))) 0 0 (va_A [(a_w2, .inr (1, [.int v_w2_year, .int v_w2_secret, .ref a_w2_jaws, .ref a_w2_turns])), (a_w2_jaws, .inl (bs_I g, 2, .inl v_w2_jaws))] sz) := by
  refine ent_i (cc := cX0_looksAt) (maxL := 3) (rt := .int) (by decide) rfl (Nat.le_of_ble_eq_true rfl) ?_
  intro p e s m below meth c Q A hF hsz hP hD hS ret ls hl
  obtain ⟨⟨hx, hb, hml, hown, hts⟩, hK, hG, hA⟩ := id hF
  have hown : s.vm.findClass RX0 = some m.cls := hown
  have hl : lv_has ls 3 [(0, .int x0), (1, .int x1), (2, .ref a_w2)] := hl
  refine lv_iload_n hx hb dX0_looksAt_0 rfl (lv_at hl 0 rfl) ?_
  by_cases e1_1 : x0 = 1
  · replace hw := hw.1 e1_1
    refine lv_tableIn (tgt := 40) hx hb dX0_looksAt_1 (by rw [e1_1]; decide) (by rw [e1_1]; decide) (by rw [e1_1]; rfl) (by decide) ?_
    refine lv_aload_n hx hb dX0_looksAt_40 rfl (lv_at hl 2 rfl) ?_
    refine va_get (D := g.1) (ci := 1) (v := .int v_w2_year) (C := RX2) (T := TX2) (N := 4) hx hb hts hiX0_looksAt_X2 hown hK hP 0 rfl rfl 0 (by decide) (hts (.fieldLink RX0 17 "LionSigns$Lions" "year" "I") (by decide +kernel)) (fun _ h9 => h9) rfl dX0_looksAt_41 ?_
    refine lv_iconst (v := 2) hx hb dX0_looksAt_44 (by decide) ?_
    refine lv_irem hx hb dX0_looksAt_45 (by decide) ?_
    exact ret _ _ _ _ (v_w2_year - v_w2_year / 2 * 2) () dX0_looksAt_46 rfl hw hP hD hS
  · replace hw := hw.2 e1_1
    by_cases e1_2 : x0 = 2
    · replace hw := hw.1 e1_2
      refine lv_tableIn (tgt := 56) hx hb dX0_looksAt_1 (by rw [e1_2]; decide) (by rw [e1_2]; decide) (by rw [e1_2]; rfl) (by decide) ?_
      refine lv_iload_n hx hb dX0_looksAt_56 rfl (lv_at hl 1 rfl) ?_
      refine lv_iconst (v := 4) hx hb dX0_looksAt_57 (by decide) ?_
      refine lv_icmp_le (tgt := 69) hx hb dX0_looksAt_58 (by decide) (fun c58 => ?_) (fun c58 => ?_)
      · replace hw := hw.1 c58
        refine lv_iload_n hx hb dX0_looksAt_69 rfl (lv_at hl 1 rfl) ?_
        refine lv_iconst (v := 2) hx hb dX0_looksAt_70 (by decide) ?_
        refine lv_irem hx hb dX0_looksAt_71 (by decide) ?_
        exact ret _ _ _ _ (x1 - x1 / 2 * 2) () dX0_looksAt_72 rfl hw hP hD hS
      · replace hw := hw.2 c58
        refine lv_iconst (v := 1) hx hb dX0_looksAt_61 (by decide) ?_
        refine lv_iload_n hx hb dX0_looksAt_62 rfl (lv_at hl 1 rfl) ?_
        refine lv_iconst (v := 2) hx hb dX0_looksAt_63 (by decide) ?_
        refine lv_irem hx hb dX0_looksAt_64 (by decide) ?_
        refine lv_isub hx hb dX0_looksAt_65 ?_
        refine lv_goto (tgt := 72) hx hb dX0_looksAt_66 (by decide) ?_
        exact ret _ _ _ _ (1 - (x1 - x1 / 2 * 2)) () dX0_looksAt_72 rfl hw hP hD hS
    · replace hw := hw.2 e1_2
      by_cases e1_3 : x0 = 3
      · replace hw := hw.1 e1_3
        refine lv_tableIn (tgt := 73) hx hb dX0_looksAt_1 (by rw [e1_3]; decide) (by rw [e1_3]; decide) (by rw [e1_3]; rfl) (by decide) ?_
        refine lv_aload_n hx hb dX0_looksAt_73 rfl (lv_at hl 2 rfl) ?_
        refine va_get (D := g.1) (ci := 1) (v := .ref a_w2_jaws) (C := RX2) (T := TX2) (N := 4) hx hb hts hiX0_looksAt_X2 hown hK hP 0 rfl rfl 2 (by decide) (hts (.fieldLink RX0 23 "LionSigns$Lions" "jaws" "[I") (by decide +kernel)) (fun _ h9 => h9) rfl dX0_looksAt_74 ?_
        refine lv_iconst (v := 0) hx hb dX0_looksAt_77 (by decide) ?_
        refine va_iald hx hb hK hP 1 0 rfl rfl hw.1 dX0_looksAt_78 ?_
        replace hw := hw.2
        refine lv_aload_n hx hb dX0_looksAt_79 rfl (lv_at hl 2 rfl) ?_
        refine va_get (D := g.1) (ci := 1) (v := .ref a_w2_jaws) (C := RX2) (T := TX2) (N := 4) hx hb hts hiX0_looksAt_X2 hown hK hP 0 rfl rfl 2 (by decide) (hts (.fieldLink RX0 23 "LionSigns$Lions" "jaws" "[I") (by decide +kernel)) (fun _ h9 => h9) rfl dX0_looksAt_80 ?_
        refine lv_iconst (v := 1) hx hb dX0_looksAt_83 (by decide) ?_
        refine va_iald hx hb hK hP 1 0 rfl rfl hw.1 dX0_looksAt_84 ?_
        replace hw := hw.2
        refine lv_icmp_gt (tgt := 92) hx hb dX0_looksAt_85 (by decide) (fun c85 => ?_) (fun c85 => ?_)
        · replace hw := hw.1 c85
          refine lv_iconst (v := 1) hx hb dX0_looksAt_92 (by decide) ?_
          exact ret _ _ _ _ 1 () dX0_looksAt_93 rfl hw hP hD hS
        · replace hw := hw.2 c85
          refine lv_iconst (v := 0) hx hb dX0_looksAt_88 (by decide) ?_
          refine lv_goto (tgt := 93) hx hb dX0_looksAt_89 (by decide) ?_
          exact ret _ _ _ _ 0 () dX0_looksAt_93 rfl hw hP hD hS
      · replace hw := hw.2 e1_3
        by_cases e1_4 : x0 = 4
        · replace hw := hw.1 e1_4
          refine lv_tableIn (tgt := 47) hx hb dX0_looksAt_1 (by rw [e1_4]; decide) (by rw [e1_4]; decide) (by rw [e1_4]; rfl) (by decide) ?_
          refine lv_iconst (v := 1) hx hb dX0_looksAt_47 (by decide) ?_
          refine lv_aload_n hx hb dX0_looksAt_48 rfl (lv_at hl 2 rfl) ?_
          refine va_get (D := g.1) (ci := 1) (v := .int v_w2_year) (C := RX2) (T := TX2) (N := 4) hx hb hts hiX0_looksAt_X2 hown hK hP 0 rfl rfl 0 (by decide) (hts (.fieldLink RX0 17 "LionSigns$Lions" "year" "I") (by decide +kernel)) (fun _ h9 => h9) rfl dX0_looksAt_49 ?_
          refine lv_iconst (v := 2) hx hb dX0_looksAt_52 (by decide) ?_
          refine lv_irem hx hb dX0_looksAt_53 (by decide) ?_
          refine lv_isub hx hb dX0_looksAt_54 ?_
          exact ret _ _ _ _ (1 - (v_w2_year - v_w2_year / 2 * 2)) () dX0_looksAt_55 rfl hw hP hD hS
        · replace hw := hw.2 e1_4
          by_cases e1_5 : x0 = 5
          · replace hw := hw.1 e1_5
            refine lv_tableIn (tgt := 56) hx hb dX0_looksAt_1 (by rw [e1_5]; decide) (by rw [e1_5]; decide) (by rw [e1_5]; rfl) (by decide) ?_
            refine lv_iload_n hx hb dX0_looksAt_56 rfl (lv_at hl 1 rfl) ?_
            refine lv_iconst (v := 4) hx hb dX0_looksAt_57 (by decide) ?_
            refine lv_icmp_le (tgt := 69) hx hb dX0_looksAt_58 (by decide) (fun c58 => ?_) (fun c58 => ?_)
            · replace hw := hw.1 c58
              refine lv_iload_n hx hb dX0_looksAt_69 rfl (lv_at hl 1 rfl) ?_
              refine lv_iconst (v := 2) hx hb dX0_looksAt_70 (by decide) ?_
              refine lv_irem hx hb dX0_looksAt_71 (by decide) ?_
              exact ret _ _ _ _ (x1 - x1 / 2 * 2) () dX0_looksAt_72 rfl hw hP hD hS
            · replace hw := hw.2 c58
              refine lv_iconst (v := 1) hx hb dX0_looksAt_61 (by decide) ?_
              refine lv_iload_n hx hb dX0_looksAt_62 rfl (lv_at hl 1 rfl) ?_
              refine lv_iconst (v := 2) hx hb dX0_looksAt_63 (by decide) ?_
              refine lv_irem hx hb dX0_looksAt_64 (by decide) ?_
              refine lv_isub hx hb dX0_looksAt_65 ?_
              refine lv_goto (tgt := 72) hx hb dX0_looksAt_66 (by decide) ?_
              exact ret _ _ _ _ (1 - (x1 - x1 / 2 * 2)) () dX0_looksAt_72 rfl hw hP hD hS
          · replace hw := hw.2 e1_5
            by_cases e1_6 : x0 = 6
            · replace hw := hw.1 e1_6
              refine lv_tableIn (tgt := 94) hx hb dX0_looksAt_1 (by rw [e1_6]; decide) (by rw [e1_6]; decide) (by rw [e1_6]; rfl) (by decide) ?_
              refine lv_iconst (v := 0) hx hb dX0_looksAt_94 (by decide) ?_
              exact ret _ _ _ _ 0 () dX0_looksAt_95 rfl hw hP hD hS
            · replace hw := hw.2 e1_6
              have e1_1 : ¬ x0.toInt = 1 := lv_neT e1_1 (by decide)
              have e1_2 : ¬ x0.toInt = 2 := lv_neT e1_2 (by decide)
              have e1_3 : ¬ x0.toInt = 3 := lv_neT e1_3 (by decide)
              have e1_4 : ¬ x0.toInt = 4 := lv_neT e1_4 (by decide)
              have e1_5 : ¬ x0.toInt = 5 := lv_neT e1_5 (by decide)
              have e1_6 : ¬ x0.toInt = 6 := lv_neT e1_6 (by decide)
              refine lv_tableOut (tgt := 96) hx hb dX0_looksAt_1 (by omega) (by decide) ?_
              refine lv_iload_n hx hb dX0_looksAt_96 rfl (lv_at hl 1 rfl) ?_
              refine lv_iconst (v := 2) hx hb dX0_looksAt_97 (by decide) ?_
              refine lv_irem hx hb dX0_looksAt_98 (by decide) ?_
              exact ret _ _ _ _ (x1 - x1 / 2 * 2) () dX0_looksAt_99 rfl hw hP hD hS

theorem hdX0_readsOf : yX0_readsOf.cls ≠ "java/lang/invoke/MethodHandle" ∧ yX0_readsOf.cls ≠ "java/lang/invoke/VarHandle" ∧ (parseMethodDescriptor yX0_readsOf.desc).map (fun d => d.parameters.length) = some 5 := by decide +kernel
set_option maxHeartbeats 4000000 in
set_option maxRecDepth 100000 in
theorem kX0_readsOf {l : Launch} {g : bs_G} {sz : Nat} {x0 : Int32} {x1 : Int32} {x2 : Int32} {x3 : Int32} {x4 : Int32} {K : Int32 → Prop} (hw : wpX0_readsOf x0 x1 x2 x3 x4 K) : Met l yX0_readsOf wsX0_readsOf ({ frames := 0, cells := 0, slots := 0, locals := 0 } : Room) (bs_Pc g [.int x0, .int x1, .int x2, .int x3, .int x4] [] sz) (bs_Qi g [] sz (fun (r : Int32) (_ : Unit) => K r) (fun (_ : Unit) => ([] : va_W))) 0 0 (va_A [] sz) := by
  refine ent_i (cc := cX0_readsOf) (maxL := 5) (rt := .int) (by decide) rfl (Nat.le_of_ble_eq_true rfl) ?_
  intro p e s m below meth c Q A hF hsz hP hD hS ret ls hl
  obtain ⟨⟨hx, hb, hml, hown, hts⟩, hK, hG, hA⟩ := id hF
  have hown : s.vm.findClass RX0 = some m.cls := hown
  have hl : lv_has ls 5 [(0, .int x0), (1, .int x1), (2, .int x2), (3, .int x3), (4, .int x4)] := hl
  refine lv_iload_n hx hb dX0_readsOf_0 rfl (lv_at hl 0 rfl) ?_
  by_cases e1_1 : x0 = 1
  · replace hw := hw.1 e1_1
    refine lv_tableIn (tgt := 40) hx hb dX0_readsOf_1 (by rw [e1_1]; decide) (by rw [e1_1]; decide) (by rw [e1_1]; rfl) (by decide) ?_
    refine lv_iconst (v := 2) hx hb dX0_readsOf_40 (by decide) ?_
    refine lv_iload_n hx hb dX0_readsOf_41 rfl (lv_at hl 2 rfl) ?_
    refine lv_imul hx hb dX0_readsOf_42 ?_
    refine lv_iload_n hx hb dX0_readsOf_43 rfl (lv_at hl 3 rfl) ?_
    refine lv_iconst (v := 3) hx hb dX0_readsOf_44 (by decide) ?_
    refine lv_irem hx hb dX0_readsOf_45 (by decide) ?_
    refine lv_iadd hx hb dX0_readsOf_46 ?_
    exact ret _ _ _ _ ((2 * x2) + (x3 - x3 / 3 * 3)) () dX0_readsOf_47 rfl hw hP hD hS
  · replace hw := hw.2 e1_1
    by_cases e1_2 : x0 = 2
    · replace hw := hw.1 e1_2
      refine lv_tableIn (tgt := 58) hx hb dX0_readsOf_1 (by rw [e1_2]; decide) (by rw [e1_2]; decide) (by rw [e1_2]; rfl) (by decide) ?_
      refine lv_iload_n hx hb dX0_readsOf_58 rfl (lv_at hl 2 rfl) ?_
      refine lv_iload_n hx hb dX0_readsOf_59 rfl (lv_at hl 1 rfl) ?_
      refine lv_iadd hx hb dX0_readsOf_60 ?_
      exact ret _ _ _ _ (x2 + x1) () dX0_readsOf_61 rfl hw hP hD hS
    · replace hw := hw.2 e1_2
      by_cases e1_3 : x0 = 3
      · replace hw := hw.1 e1_3
        refine lv_tableIn (tgt := 71) hx hb dX0_readsOf_1 (by rw [e1_3]; decide) (by rw [e1_3]; decide) (by rw [e1_3]; rfl) (by decide) ?_
        refine lv_iload_n hx hb dX0_readsOf_71 rfl (lv_at hl 2 rfl) ?_
        refine lv_iconst (v := 2) hx hb dX0_readsOf_72 (by decide) ?_
        refine lv_irem hx hb dX0_readsOf_73 (by decide) ?_
        exact ret _ _ _ _ (x2 - x2 / 2 * 2) () dX0_readsOf_74 rfl hw hP hD hS
      · replace hw := hw.2 e1_3
        by_cases e1_4 : x0 = 4
        · replace hw := hw.1 e1_4
          refine lv_tableIn (tgt := 48) hx hb dX0_readsOf_1 (by rw [e1_4]; decide) (by rw [e1_4]; decide) (by rw [e1_4]; rfl) (by decide) ?_
          refine lv_iconst (v := 2) hx hb dX0_readsOf_48 (by decide) ?_
          refine lv_iload_n hx hb dX0_readsOf_49 rfl (lv_at hl 2 rfl) ?_
          refine lv_imul hx hb dX0_readsOf_50 ?_
          refine lv_iload_n hx hb dX0_readsOf_51 rfl (lv_at hl 3 rfl) ?_
          refine lv_iconst (v := 3) hx hb dX0_readsOf_52 (by decide) ?_
          refine lv_irem hx hb dX0_readsOf_53 (by decide) ?_
          refine lv_iadd hx hb dX0_readsOf_54 ?_
          refine lv_iconst (v := 3) hx hb dX0_readsOf_55 (by decide) ?_
          refine lv_iadd hx hb dX0_readsOf_56 ?_
          exact ret _ _ _ _ (((2 * x2) + (x3 - x3 / 3 * 3)) + 3) () dX0_readsOf_57 rfl hw hP hD hS
        · replace hw := hw.2 e1_4
          by_cases e1_5 : x0 = 5
          · replace hw := hw.1 e1_5
            refine lv_tableIn (tgt := 62) hx hb dX0_readsOf_1 (by rw [e1_5]; decide) (by rw [e1_5]; decide) (by rw [e1_5]; rfl) (by decide) ?_
            refine lv_iload_n hx hb dX0_readsOf_62 rfl (lv_at hl 2 rfl) ?_
            refine lv_iload_n hx hb dX0_readsOf_63 rfl (lv_at hl 1 rfl) ?_
            refine lv_iadd hx hb dX0_readsOf_64 ?_
            refine lv_iconst (v := 2) hx hb dX0_readsOf_65 (by decide) ?_
            refine lv_idiv hx hb dX0_readsOf_66 (by decide) ?_
            refine lv_iload hx hb dX0_readsOf_67 (lv_at hl 4 rfl) ?_
            refine lv_iadd hx hb dX0_readsOf_69 ?_
            exact ret _ _ _ _ (((x2 + x1) / 2) + x4) () dX0_readsOf_70 rfl hw hP hD hS
          · replace hw := hw.2 e1_5
            by_cases e1_6 : x0 = 6
            · replace hw := hw.1 e1_6
              refine lv_tableIn (tgt := 75) hx hb dX0_readsOf_1 (by rw [e1_6]; decide) (by rw [e1_6]; decide) (by rw [e1_6]; rfl) (by decide) ?_
              refine lv_iload_n hx hb dX0_readsOf_75 rfl (lv_at hl 1 rfl) ?_
              refine lv_bipush (v := 9) hx hb dX0_readsOf_76 (by decide) ?_
              refine lv_icmp_ne (tgt := 85) hx hb dX0_readsOf_78 (by decide) (fun c78 => ?_) (fun c78 => ?_)
              · replace hw := hw.2 c78
                refine lv_iconst (v := 0) hx hb dX0_readsOf_85 (by decide) ?_
                exact ret _ _ _ _ 0 () dX0_readsOf_86 rfl hw hP hD hS
              · replace hw := hw.1 c78
                refine lv_iload_n hx hb dX0_readsOf_81 rfl (lv_at hl 2 rfl) ?_
                refine lv_goto (tgt := 86) hx hb dX0_readsOf_82 (by decide) ?_
                exact ret _ _ _ _ x2 () dX0_readsOf_86 rfl hw hP hD hS
            · replace hw := hw.2 e1_6
              have e1_1 : ¬ x0.toInt = 1 := lv_neT e1_1 (by decide)
              have e1_2 : ¬ x0.toInt = 2 := lv_neT e1_2 (by decide)
              have e1_3 : ¬ x0.toInt = 3 := lv_neT e1_3 (by decide)
              have e1_4 : ¬ x0.toInt = 4 := lv_neT e1_4 (by decide)
              have e1_5 : ¬ x0.toInt = 5 := lv_neT e1_5 (by decide)
              have e1_6 : ¬ x0.toInt = 6 := lv_neT e1_6 (by decide)
              refine lv_tableOut (tgt := 87) hx hb dX0_readsOf_1 (by omega) (by decide) ?_
              refine lv_iload_n hx hb dX0_readsOf_87 rfl (lv_at hl 2 rfl) ?_
              exact ret _ _ _ _ x2 () dX0_readsOf_88 rfl hw hP hD hS

theorem hdX1_placeOf : yX1_placeOf.cls = RX1 ∧ yX1_placeOf.cls ≠ "java/lang/invoke/MethodHandle" ∧ yX1_placeOf.cls ≠ "java/lang/invoke/VarHandle" ∧ (parseMethodDescriptor yX1_placeOf.desc).map (fun d => d.parameters.length) = some 3 := by decide +kernel
theorem hiX1_placeOf_X1 : ∀ w ∈ wsX10, w ∈ wsX1_placeOf := by decide +kernel
set_option maxHeartbeats 4000000 in
set_option maxRecDepth 100000 in
theorem kX1_placeOf {l : Launch} {g : bs_G} {a_t : Nat} {v_highest : Int32} {v_spanA : Int32} {v_spanB : Int32} {a_t_memory : Nat} {a_t_steps : Nat} {a_t_stack : Nat} {v_length : Int32} {sz : Nat} {x1 : Int32} {x2 : Int32} {x3 : Int32} {K : Int32 → Prop} (hw : wpX1_placeOf x1 x2 x3 v_spanA v_spanB K) : Met l yX1_placeOf wsX1_placeOf ({ frames := 0, cells := 0, slots := 0, locals := 0 } : Room) (bs_Pc g [.ref a_t, .int x1, .int x2, .int x3] [(a_t, .inr (0, [.int v_highest, .int v_spanA, .int v_spanB, .ref a_t_memory, .ref a_t_steps, .ref a_t_stack, .int v_length]))] sz) (bs_Qi g [(a_t, .inr (0, [.int v_highest, .int v_spanA, .int v_spanB, .ref a_t_memory, .ref a_t_steps, .ref a_t_stack, .int v_length]))] sz (fun (r : Int32) (_ : Unit) => K r) (fun (_ : Unit) => ([(a_t, .inr (0, [.int v_highest, .int v_spanA, .int v_spanB, .ref a_t_memory, .ref a_t_steps, .ref a_t_stack, .int v_length]))] : va_W))) 0 0 (va_A [(a_t, .inr (0, [.int v_highest, .int v_spanA, .int v_spanB, .ref a_t_memory, .ref a_t_steps, .ref a_t_stack, .int v_length]))] sz) := by
  refine ent_i (cc := cX1_placeOf) (maxL := 4) (rt := .int) (by decide) rfl (Nat.le_of_ble_eq_true rfl) ?_
  intro p e s m below meth c Q A hF hsz hP hD hS ret ls hl
  obtain ⟨⟨hx, hb, hml, hown, hts⟩, hK, hG, hA⟩ := id hF
  have hown : s.vm.findClass RX1 = some m.cls := hown
  have hl : lv_has ls 4 [(0, .ref a_t), (1, .int x1), (2, .int x2), (3, .int x3)] := hl
  refine lv_iload_n hx hb dX1_placeOf_0 rfl (lv_at hl 1 rfl) ?_
  refine lv_if_lt (tgt := 34) hx hb dX1_placeOf_1 (by decide) (fun c1 => ?_) (fun c1 => ?_)
  · replace hw := hw.1 c1
    refine lv_iconst (v := (-1)) hx hb dX1_placeOf_34 (by decide) ?_
    exact ret _ _ _ _ (-1) () dX1_placeOf_35 rfl hw hP hD hS
  · replace hw := hw.2 c1
    refine lv_iload_n hx hb dX1_placeOf_4 rfl (lv_at hl 1 rfl) ?_
    refine lv_aload_n hx hb dX1_placeOf_5 rfl (lv_at hl 0 rfl) ?_
    refine va_get (D := g.1) (ci := 0) (v := .int v_spanA) (C := RX1) (T := TX1) (N := 7) hx hb hts hiX1_placeOf_X1 hown hK hP 0 rfl rfl 1 (by decide) (hts (.fieldLink RX1 22 "LionSigns$Law" "spanA" "I") (by decide +kernel)) (fun _ h9 => h9) rfl dX1_placeOf_6 ?_
    refine lv_icmp_ge (tgt := 34) hx hb dX1_placeOf_9 (by decide) (fun c9 => ?_) (fun c9 => ?_)
    · replace hw := hw.1 c9
      refine lv_iconst (v := (-1)) hx hb dX1_placeOf_34 (by decide) ?_
      exact ret _ _ _ _ (-1) () dX1_placeOf_35 rfl hw hP hD hS
    · replace hw := hw.2 c9
      refine lv_iload_n hx hb dX1_placeOf_12 rfl (lv_at hl 2 rfl) ?_
      refine lv_if_lt (tgt := 34) hx hb dX1_placeOf_13 (by decide) (fun c13 => ?_) (fun c13 => ?_)
      · replace hw := hw.1 c13
        refine lv_iconst (v := (-1)) hx hb dX1_placeOf_34 (by decide) ?_
        exact ret _ _ _ _ (-1) () dX1_placeOf_35 rfl hw hP hD hS
      · replace hw := hw.2 c13
        refine lv_iload_n hx hb dX1_placeOf_16 rfl (lv_at hl 2 rfl) ?_
        refine lv_aload_n hx hb dX1_placeOf_17 rfl (lv_at hl 0 rfl) ?_
        refine va_get (D := g.1) (ci := 0) (v := .int v_spanB) (C := RX1) (T := TX1) (N := 7) hx hb hts hiX1_placeOf_X1 hown hK hP 0 rfl rfl 2 (by decide) (hts (.fieldLink RX1 25 "LionSigns$Law" "spanB" "I") (by decide +kernel)) (fun _ h9 => h9) rfl dX1_placeOf_18 ?_
        refine lv_icmp_ge (tgt := 34) hx hb dX1_placeOf_21 (by decide) (fun c21 => ?_) (fun c21 => ?_)
        · replace hw := hw.1 c21
          refine lv_iconst (v := (-1)) hx hb dX1_placeOf_34 (by decide) ?_
          exact ret _ _ _ _ (-1) () dX1_placeOf_35 rfl hw hP hD hS
        · replace hw := hw.2 c21
          refine lv_iload_n hx hb dX1_placeOf_24 rfl (lv_at hl 3 rfl) ?_
          refine lv_if_lt (tgt := 34) hx hb dX1_placeOf_25 (by decide) (fun c25 => ?_) (fun c25 => ?_)
          · replace hw := hw.1 c25
            refine lv_iconst (v := (-1)) hx hb dX1_placeOf_34 (by decide) ?_
            exact ret _ _ _ _ (-1) () dX1_placeOf_35 rfl hw hP hD hS
          · replace hw := hw.2 c25
            refine lv_iload_n hx hb dX1_placeOf_28 rfl (lv_at hl 3 rfl) ?_
            refine lv_bipush (v := 8) hx hb dX1_placeOf_29 (by decide) ?_
            refine lv_icmp_lt (tgt := 36) hx hb dX1_placeOf_31 (by decide) (fun c31 => ?_) (fun c31 => ?_)
            · replace hw := hw.1 c31
              refine lv_iload_n hx hb dX1_placeOf_36 rfl (lv_at hl 3 rfl) ?_
              refine lv_aload_n hx hb dX1_placeOf_37 rfl (lv_at hl 0 rfl) ?_
              refine va_get (D := g.1) (ci := 0) (v := .int v_spanB) (C := RX1) (T := TX1) (N := 7) hx hb hts hiX1_placeOf_X1 hown hK hP 0 rfl rfl 2 (by decide) (hts (.fieldLink RX1 25 "LionSigns$Law" "spanB" "I") (by decide +kernel)) (fun _ h9 => h9) rfl dX1_placeOf_38 ?_
              refine lv_imul hx hb dX1_placeOf_41 ?_
              refine lv_iload_n hx hb dX1_placeOf_42 rfl (lv_at hl 2 rfl) ?_
              refine lv_iadd hx hb dX1_placeOf_43 ?_
              refine lv_aload_n hx hb dX1_placeOf_44 rfl (lv_at hl 0 rfl) ?_
              refine va_get (D := g.1) (ci := 0) (v := .int v_spanA) (C := RX1) (T := TX1) (N := 7) hx hb hts hiX1_placeOf_X1 hown hK hP 0 rfl rfl 1 (by decide) (hts (.fieldLink RX1 22 "LionSigns$Law" "spanA" "I") (by decide +kernel)) (fun _ h9 => h9) rfl dX1_placeOf_45 ?_
              refine lv_imul hx hb dX1_placeOf_48 ?_
              refine lv_iload_n hx hb dX1_placeOf_49 rfl (lv_at hl 1 rfl) ?_
              refine lv_iadd hx hb dX1_placeOf_50 ?_
              exact ret _ _ _ _ ((((x3 * v_spanB) + x2) * v_spanA) + x1) () dX1_placeOf_51 rfl hw hP hD hS
            · replace hw := hw.2 c31
              refine lv_iconst (v := (-1)) hx hb dX1_placeOf_34 (by decide) ?_
              exact ret _ _ _ _ (-1) () dX1_placeOf_35 rfl hw hP hD hS

theorem hdX1_join : yX1_join.cls ≠ "java/lang/invoke/MethodHandle" ∧ yX1_join.cls ≠ "java/lang/invoke/VarHandle" ∧ (parseMethodDescriptor yX1_join.desc).map (fun d => d.parameters.length) = some 3 := by decide +kernel
set_option maxHeartbeats 4000000 in
set_option maxRecDepth 100000 in
theorem kX1_join {l : Launch} {g : bs_G} {sz : Nat} {x0 : Int32} {x1 : Int32} {x2 : Int32} {K : Int32 → Prop} (hw : wpX1_join x0 x1 x2 K) : Met l yX1_join wsX1_join ({ frames := 0, cells := 0, slots := 0, locals := 0 } : Room) (bs_Pc g [.int x0, .int x1, .int x2] [] sz) (bs_Qi g [] sz (fun (r : Int32) (_ : Unit) => K r) (fun (_ : Unit) => ([] : va_W))) 0 0 (va_A [] sz) := by
  refine ent_i (cc := cX1_join) (maxL := 3) (rt := .int) (by decide) rfl (Nat.le_of_ble_eq_true rfl) ?_
  intro p e s m below meth c Q A hF hsz hP hD hS ret ls hl
  obtain ⟨⟨hx, hb, hml, hown, hts⟩, hK, hG, hA⟩ := id hF
  have hown : s.vm.findClass RX1 = some m.cls := hown
  have hl : lv_has ls 3 [(0, .int x0), (1, .int x1), (2, .int x2)] := hl
  refine lv_iload_n hx hb dX1_join_0 rfl (lv_at hl 0 rfl) ?_
  by_cases e1_38 : x0 = 38
  · replace hw := hw.1 e1_38
    refine lv_lookup (tgt := 98) (off := 97) hx hb dX1_join_1 (by decide) (by rw [e1_38]; rfl) (by decide) ?_
    refine lv_iload_n hx hb dX1_join_98 rfl (lv_at hl 1 rfl) ?_
    refine lv_if_eq (tgt := 110) hx hb dX1_join_99 (by decide) (fun c99 => ?_) (fun c99 => ?_)
    · replace hw := hw.1 c99
      refine lv_iconst (v := 0) hx hb dX1_join_110 (by decide) ?_
      exact ret _ _ _ _ 0 () dX1_join_111 rfl hw hP hD hS
    · replace hw := hw.2 c99
      refine lv_iload_n hx hb dX1_join_102 rfl (lv_at hl 2 rfl) ?_
      refine lv_if_eq (tgt := 110) hx hb dX1_join_103 (by decide) (fun c103 => ?_) (fun c103 => ?_)
      · replace hw := hw.1 c103
        refine lv_iconst (v := 0) hx hb dX1_join_110 (by decide) ?_
        exact ret _ _ _ _ 0 () dX1_join_111 rfl hw hP hD hS
      · replace hw := hw.2 c103
        refine lv_iconst (v := 1) hx hb dX1_join_106 (by decide) ?_
        refine lv_goto (tgt := 111) hx hb dX1_join_107 (by decide) ?_
        exact ret _ _ _ _ 1 () dX1_join_111 rfl hw hP hD hS
  · replace hw := hw.2 e1_38
    by_cases e1_42 : x0 = 42
    · replace hw := hw.1 e1_42
      refine lv_lookup (tgt := 153) (off := 152) hx hb dX1_join_1 (by decide) (by rw [e1_42]; rfl) (by decide) ?_
      refine lv_iload_n hx hb dX1_join_153 rfl (lv_at hl 1 rfl) ?_
      refine lv_iload_n hx hb dX1_join_154 rfl (lv_at hl 2 rfl) ?_
      refine lv_imul hx hb dX1_join_155 ?_
      exact ret _ _ _ _ (x1 * x2) () dX1_join_156 rfl hw hP hD hS
    · replace hw := hw.2 e1_42
      by_cases e1_43 : x0 = 43
      · replace hw := hw.1 e1_43
        refine lv_lookup (tgt := 145) (off := 144) hx hb dX1_join_1 (by decide) (by rw [e1_43]; rfl) (by decide) ?_
        refine lv_iload_n hx hb dX1_join_145 rfl (lv_at hl 1 rfl) ?_
        refine lv_iload_n hx hb dX1_join_146 rfl (lv_at hl 2 rfl) ?_
        refine lv_iadd hx hb dX1_join_147 ?_
        exact ret _ _ _ _ (x1 + x2) () dX1_join_148 rfl hw hP hD hS
      · replace hw := hw.2 e1_43
        by_cases e1_45 : x0 = 45
        · replace hw := hw.1 e1_45
          refine lv_lookup (tgt := 149) (off := 148) hx hb dX1_join_1 (by decide) (by rw [e1_45]; rfl) (by decide) ?_
          refine lv_iload_n hx hb dX1_join_149 rfl (lv_at hl 1 rfl) ?_
          refine lv_iload_n hx hb dX1_join_150 rfl (lv_at hl 2 rfl) ?_
          refine lv_isub hx hb dX1_join_151 ?_
          exact ret _ _ _ _ (x1 - x2) () dX1_join_152 rfl hw hP hD hS
        · replace hw := hw.2 e1_45
          by_cases e1_47 : x0 = 47
          · replace hw := hw.1 e1_47
            refine lv_lookup (tgt := 157) (off := 156) hx hb dX1_join_1 (by decide) (by rw [e1_47]; rfl) (by decide) ?_
            refine lv_iload_n hx hb dX1_join_157 rfl (lv_at hl 2 rfl) ?_
            refine lv_if_ne (tgt := 165) hx hb dX1_join_158 (by decide) (fun c158 => ?_) (fun c158 => ?_)
            · replace hw := hw.2 c158
              refine lv_iload_n hx hb dX1_join_165 rfl (lv_at hl 1 rfl) ?_
              refine lv_iload_n hx hb dX1_join_166 rfl (lv_at hl 2 rfl) ?_
              have hz167 := hw.1; replace hw := hw.2
              refine lv_idiv hx hb dX1_join_167 hz167 ?_
              exact ret _ _ _ _ (x1 / x2) () dX1_join_168 rfl hw hP hD hS
            · replace hw := hw.1 c158
              refine lv_iconst (v := 0) hx hb dX1_join_161 (by decide) ?_
              refine lv_goto (tgt := 168) hx hb dX1_join_162 (by decide) ?_
              exact ret _ _ _ _ 0 () dX1_join_168 rfl hw hP hD hS
          · replace hw := hw.2 e1_47
            by_cases e1_60 : x0 = 60
            · replace hw := hw.1 e1_60
              refine lv_lookup (tgt := 112) (off := 111) hx hb dX1_join_1 (by decide) (by rw [e1_60]; rfl) (by decide) ?_
              refine lv_iload_n hx hb dX1_join_112 rfl (lv_at hl 1 rfl) ?_
              refine lv_iload_n hx hb dX1_join_113 rfl (lv_at hl 2 rfl) ?_
              refine lv_icmp_ge (tgt := 121) hx hb dX1_join_114 (by decide) (fun c114 => ?_) (fun c114 => ?_)
              · replace hw := hw.1 c114
                refine lv_iconst (v := 0) hx hb dX1_join_121 (by decide) ?_
                exact ret _ _ _ _ 0 () dX1_join_122 rfl hw hP hD hS
              · replace hw := hw.2 c114
                refine lv_iconst (v := 1) hx hb dX1_join_117 (by decide) ?_
                refine lv_goto (tgt := 122) hx hb dX1_join_118 (by decide) ?_
                exact ret _ _ _ _ 1 () dX1_join_122 rfl hw hP hD hS
            · replace hw := hw.2 e1_60
              by_cases e1_61 : x0 = 61
              · replace hw := hw.1 e1_61
                refine lv_lookup (tgt := 123) (off := 122) hx hb dX1_join_1 (by decide) (by rw [e1_61]; rfl) (by decide) ?_
                refine lv_iload_n hx hb dX1_join_123 rfl (lv_at hl 1 rfl) ?_
                refine lv_iload_n hx hb dX1_join_124 rfl (lv_at hl 2 rfl) ?_
                refine lv_icmp_ne (tgt := 132) hx hb dX1_join_125 (by decide) (fun c125 => ?_) (fun c125 => ?_)
                · replace hw := hw.2 c125
                  refine lv_iconst (v := 0) hx hb dX1_join_132 (by decide) ?_
                  exact ret _ _ _ _ 0 () dX1_join_133 rfl hw hP hD hS
                · replace hw := hw.1 c125
                  refine lv_iconst (v := 1) hx hb dX1_join_128 (by decide) ?_
                  refine lv_goto (tgt := 133) hx hb dX1_join_129 (by decide) ?_
                  exact ret _ _ _ _ 1 () dX1_join_133 rfl hw hP hD hS
              · replace hw := hw.2 e1_61
                by_cases e1_62 : x0 = 62
                · replace hw := hw.1 e1_62
                  refine lv_lookup (tgt := 134) (off := 133) hx hb dX1_join_1 (by decide) (by rw [e1_62]; rfl) (by decide) ?_
                  refine lv_iload_n hx hb dX1_join_134 rfl (lv_at hl 1 rfl) ?_
                  refine lv_iload_n hx hb dX1_join_135 rfl (lv_at hl 2 rfl) ?_
                  refine lv_icmp_le (tgt := 143) hx hb dX1_join_136 (by decide) (fun c136 => ?_) (fun c136 => ?_)
                  · replace hw := hw.1 c136
                    refine lv_iconst (v := 0) hx hb dX1_join_143 (by decide) ?_
                    exact ret _ _ _ _ 0 () dX1_join_144 rfl hw hP hD hS
                  · replace hw := hw.2 c136
                    refine lv_iconst (v := 1) hx hb dX1_join_139 (by decide) ?_
                    refine lv_goto (tgt := 144) hx hb dX1_join_140 (by decide) ?_
                    exact ret _ _ _ _ 1 () dX1_join_144 rfl hw hP hD hS
                · replace hw := hw.2 e1_62
                  by_cases e1_124 : x0 = 124
                  · replace hw := hw.1 e1_124
                    refine lv_lookup (tgt := 84) (off := 83) hx hb dX1_join_1 (by decide) (by rw [e1_124]; rfl) (by decide) ?_
                    refine lv_iload_n hx hb dX1_join_84 rfl (lv_at hl 1 rfl) ?_
                    refine lv_if_ne (tgt := 92) hx hb dX1_join_85 (by decide) (fun c85 => ?_) (fun c85 => ?_)
                    · replace hw := hw.2 c85
                      refine lv_iconst (v := 1) hx hb dX1_join_92 (by decide) ?_
                      refine lv_goto (tgt := 97) hx hb dX1_join_93 (by decide) ?_
                      exact ret _ _ _ _ 1 () dX1_join_97 rfl hw hP hD hS
                    · replace hw := hw.1 c85
                      refine lv_iload_n hx hb dX1_join_88 rfl (lv_at hl 2 rfl) ?_
                      refine lv_if_eq (tgt := 96) hx hb dX1_join_89 (by decide) (fun c89 => ?_) (fun c89 => ?_)
                      · replace hw := hw.1 c89
                        refine lv_iconst (v := 0) hx hb dX1_join_96 (by decide) ?_
                        exact ret _ _ _ _ 0 () dX1_join_97 rfl hw hP hD hS
                      · replace hw := hw.2 c89
                        refine lv_iconst (v := 1) hx hb dX1_join_92 (by decide) ?_
                        refine lv_goto (tgt := 97) hx hb dX1_join_93 (by decide) ?_
                        exact ret _ _ _ _ 1 () dX1_join_97 rfl hw hP hD hS
                  · replace hw := hw.2 e1_124
                    refine lv_lookup (tgt := 169) (off := 168) hx hb dX1_join_1 (by decide) (by show Op.lookupswitch.offset [(38, 97), (42, 152), (43, 144), (45, 148), (47, 156), (60, 111), (61, 122), (62, 133), (124, 83)] 168 _ = _; rw [lv_osw e1_38 (by decide), lv_osw e1_42 (by decide), lv_osw e1_43 (by decide), lv_osw e1_45 (by decide), lv_osw e1_47 (by decide), lv_osw e1_60 (by decide), lv_osw e1_61 (by decide), lv_osw e1_62 (by decide), lv_osw e1_124 (by decide)]; rfl) (by decide) ?_
                    refine lv_iload_n hx hb dX1_join_169 rfl (lv_at hl 2 rfl) ?_
                    refine lv_if_ne (tgt := 177) hx hb dX1_join_170 (by decide) (fun c170 => ?_) (fun c170 => ?_)
                    · replace hw := hw.2 c170
                      refine lv_iload_n hx hb dX1_join_177 rfl (lv_at hl 1 rfl) ?_
                      refine lv_iload_n hx hb dX1_join_178 rfl (lv_at hl 2 rfl) ?_
                      have hz179 := hw.1; replace hw := hw.2
                      refine lv_irem hx hb dX1_join_179 hz179 ?_
                      exact ret _ _ _ _ (x1 - x1 / x2 * x2) () dX1_join_180 rfl hw hP hD hS
                    · replace hw := hw.1 c170
                      refine lv_iconst (v := 0) hx hb dX1_join_173 (by decide) ?_
                      refine lv_goto (tgt := 180) hx hb dX1_join_174 (by decide) ?_
                      exact ret _ _ _ _ 0 () dX1_join_180 rfl hw hP hD hS

theorem hdX2_copyFrom : yX2_copyFrom.cls = RX2 ∧ yX2_copyFrom.cls ≠ "java/lang/invoke/MethodHandle" ∧ yX2_copyFrom.cls ≠ "java/lang/invoke/VarHandle" ∧ (parseMethodDescriptor yX2_copyFrom.desc).map (fun d => d.parameters.length) = some 1 := by decide +kernel
theorem hiX2_copyFrom_X2 : ∀ w ∈ wsX20, w ∈ wsX2_copyFrom := by decide +kernel
set_option maxHeartbeats 4000000 in
set_option maxRecDepth 100000 in
theorem kX2_copyFrom {l : Launch} {g : bs_G} {a_t : Nat} {a_w1 : Nat} {v_w1_year : Int32} {v_w1_secret : Int32} {a_w1_jaws : Nat} {a_w1_turns : Nat} {v_year : Int32} {v_secret : Int32} {a_t_jaws : Nat} {a_t_turns : Nat} {v_w1_jaws : Nat → Int32} {v_jaws : Nat → Int32} {sz : Nat} {K : Int32 → Int32 → (Nat → Int32) → Prop} (hw : wpX2_copyFrom v_w1_year v_w1_secret v_year v_secret v_w1_jaws v_jaws K) : Met l yX2_copyFrom wsX2_copyFrom ({ frames := 1, cells := 0, slots := 0, locals := 60 } : Room) (bs_Pc g [.ref a_t, .ref a_w1] [(a_w1, .inr (1, [.int v_w1_year, .int v_w1_secret, .ref a_w1_jaws, .ref a_w1_turns])), (a_t, .inr (1, [.int v_year, .int v_secret, .ref a_t_jaws, .ref a_t_turns])), (a_w1_jaws, .inl (bs_I g, 2, .inl v_w1_jaws)), (a_t_jaws, .inl (bs_I g, 2, .inl v_jaws))] sz) (bs_Qv g [(a_w1, .inr (1, [.int v_w1_year, .int v_w1_secret, .ref a_w1_jaws, .ref a_w1_turns])), (a_t, .inr (1, [.int v_year, .int v_secret, .ref a_t_jaws, .ref a_t_turns])), (a_w1_jaws, .inl (bs_I g, 2, .inl v_w1_jaws)), (a_t_jaws, .inl (bs_I g, 2, .inl v_jaws))] sz (fun (u : Int32 × Int32 × (Nat → Int32)) => K u.1 u.2.1 u.2.2) (fun (u : Int32 × Int32 × (Nat → Int32)) => ([(a_w1, .inr (1, [.int v_w1_year, .int v_w1_secret, .ref a_w1_jaws, .ref a_w1_turns])), (a_t, .inr (1, [.int u.1, .int u.2.1, .ref a_t_jaws, .ref a_t_turns])), (a_w1_jaws, .inl (bs_I g, 2, .inl v_w1_jaws)), (a_t_jaws, .inl (bs_I g, 2, .inl u.2.2))] : va_W))) 0 0 (va_A [(a_w1, .inr (1, [.int v_w1_year, .int v_w1_secret, .ref a_w1_jaws, .ref a_w1_turns])), (a_t, .inr (1, [.int v_year, .int v_secret, .ref a_t_jaws, .ref a_t_turns])), (a_w1_jaws, .inl (bs_I g, 2, .inl v_w1_jaws)), (a_t_jaws, .inl (bs_I g, 2, .inl v_jaws))] sz) := by
  refine ent_v (cc := cX2_copyFrom) (maxL := 2) (by decide) rfl (Nat.le_of_ble_eq_true rfl) ?_
  intro p e s m below meth c Q A hF hsz hP hD hS ret ls hl
  obtain ⟨⟨hx, hb, hml, hown, hts⟩, hK, hG, hA⟩ := id hF
  have hown : s.vm.findClass RX2 = some m.cls := hown
  have hl : lv_has ls 2 [(0, .ref a_t), (1, .ref a_w1)] := hl
  refine lv_aload_n hx hb dX2_copyFrom_0 rfl (lv_at hl 0 rfl) ?_
  refine lv_aload_n hx hb dX2_copyFrom_1 rfl (lv_at hl 1 rfl) ?_
  refine va_get (D := g.1) (ci := 1) (v := .int v_w1_year) (C := RX2) (T := TX2) (N := 4) hx hb hts hiX2_copyFrom_X2 hown hK hP 0 rfl rfl 0 (by decide) (hts (.fieldLink RX2 18 "LionSigns$Lions" "year" "I") (by decide +kernel)) (fun _ h9 => h9) rfl dX2_copyFrom_2 ?_
  refine va_put (D := g.1) (ci := 1) (v := .int v_w1_year) (ty := .int) (C := RX2) (T := TX2) (N := 4) hx hb hts hiX2_copyFrom_X2 tyX2 tyX2_ok nmX2 hown hK hP hD hS 1 rfl rfl 0 (by decide) (hts (.fieldLink RX2 18 "LionSigns$Lions" "year" "I") (by decide +kernel)) (fun _ h9 => h9) rfl (by decide +kernel) rfl rfl (Nat.le_of_ble_eq_true rfl) dX2_copyFrom_5 (fun H locs hP hD hS => ?_)
  have hP : bs_P g [(a_w1, .inr (1, [.int v_w1_year, .int v_w1_secret, .ref a_w1_jaws, .ref a_w1_turns])), (a_t, .inr (1, [.int v_w1_year, .int v_secret, .ref a_t_jaws, .ref a_t_turns])), (a_w1_jaws, .inl (bs_I g, 2, .inl v_w1_jaws)), (a_t_jaws, .inl (bs_I g, 2, .inl v_jaws))] H := hP
  have hD : va_D A [(a_w1, .inr (1, [.int v_w1_year, .int v_w1_secret, .ref a_w1_jaws, .ref a_w1_turns])), (a_t, .inr (1, [.int v_w1_year, .int v_secret, .ref a_t_jaws, .ref a_t_turns])), (a_w1_jaws, .inl (bs_I g, 2, .inl v_w1_jaws)), (a_t_jaws, .inl (bs_I g, 2, .inl v_jaws))] := hD
  refine lv_aload_n hx hb dX2_copyFrom_8 rfl (lv_at hl 0 rfl) ?_
  refine lv_aload_n hx hb dX2_copyFrom_9 rfl (lv_at hl 1 rfl) ?_
  refine va_get (D := g.1) (ci := 1) (v := .int v_w1_secret) (C := RX2) (T := TX2) (N := 4) hx hb hts hiX2_copyFrom_X2 hown hK hP 0 rfl rfl 1 (by decide) (hts (.fieldLink RX2 22 "LionSigns$Lions" "secret" "I") (by decide +kernel)) (fun _ h9 => h9) rfl dX2_copyFrom_10 ?_
  refine va_put (D := g.1) (ci := 1) (v := .int v_w1_secret) (ty := .int) (C := RX2) (T := TX2) (N := 4) hx hb hts hiX2_copyFrom_X2 tyX2 tyX2_ok nmX2 hown hK hP hD hS 1 rfl rfl 1 (by decide) (hts (.fieldLink RX2 22 "LionSigns$Lions" "secret" "I") (by decide +kernel)) (fun _ h9 => h9) rfl (by decide +kernel) rfl rfl (Nat.le_of_ble_eq_true rfl) dX2_copyFrom_13 (fun H locs hP hD hS => ?_)
  have hP : bs_P g [(a_w1, .inr (1, [.int v_w1_year, .int v_w1_secret, .ref a_w1_jaws, .ref a_w1_turns])), (a_t, .inr (1, [.int v_w1_year, .int v_w1_secret, .ref a_t_jaws, .ref a_t_turns])), (a_w1_jaws, .inl (bs_I g, 2, .inl v_w1_jaws)), (a_t_jaws, .inl (bs_I g, 2, .inl v_jaws))] H := hP
  have hD : va_D A [(a_w1, .inr (1, [.int v_w1_year, .int v_w1_secret, .ref a_w1_jaws, .ref a_w1_turns])), (a_t, .inr (1, [.int v_w1_year, .int v_w1_secret, .ref a_t_jaws, .ref a_t_turns])), (a_w1_jaws, .inl (bs_I g, 2, .inl v_w1_jaws)), (a_t_jaws, .inl (bs_I g, 2, .inl v_jaws))] := hD
  refine lv_aload_n hx hb dX2_copyFrom_16 rfl (lv_at hl 1 rfl) ?_
  refine va_get (D := g.1) (ci := 1) (v := .ref a_w1_jaws) (C := RX2) (T := TX2) (N := 4) hx hb hts hiX2_copyFrom_X2 hown hK hP 0 rfl rfl 2 (by decide) (hts (.fieldLink RX2 9 "LionSigns$Lions" "jaws" "[I") (by decide +kernel)) (fun _ h9 => h9) rfl dX2_copyFrom_17 ?_
  refine lv_iconst (v := 0) hx hb dX2_copyFrom_20 (by decide) ?_
  refine lv_aload_n hx hb dX2_copyFrom_21 rfl (lv_at hl 0 rfl) ?_
  refine va_get (D := g.1) (ci := 1) (v := .ref a_t_jaws) (C := RX2) (T := TX2) (N := 4) hx hb hts hiX2_copyFrom_X2 hown hK hP 1 rfl rfl 2 (by decide) (hts (.fieldLink RX2 9 "LionSigns$Lions" "jaws" "[I") (by decide +kernel)) (fun _ h9 => h9) rfl dX2_copyFrom_22 ?_
  refine lv_iconst (v := 0) hx hb dX2_copyFrom_25 (by decide) ?_
  refine lv_iconst (v := 2) hx hb dX2_copyFrom_26 (by decide) ?_
  refine va_copyi hx hb (by rw [hml]; exact hl.1.symm) hown (hts (.methodLink RX2 25 arraycopyName) (by decide +kernel)) (hts (.native arraycopyName) (by decide +kernel)) (hts (.static arraycopyName) (by decide +kernel)) (hts (.initialized "java/lang/System") (by decide +kernel)) hK hP hD hS 2 3 0 0 rfl rfl rfl rfl rfl hw.1 hw.2.1 hw.2.2.1 hw.2.2.2.1 hw.2.2.2.2.1 (fun _ _ => rfl) (Nat.le_of_ble_eq_true rfl) (Nat.le_of_ble_eq_true rfl) dX2_copyFrom_27 (fun H locs hP hD hS => ?_)
  replace hw := hw.2.2.2.2.2
  have hP : bs_P g [(a_w1, .inr (1, [.int v_w1_year, .int v_w1_secret, .ref a_w1_jaws, .ref a_w1_turns])), (a_t, .inr (1, [.int v_w1_year, .int v_w1_secret, .ref a_t_jaws, .ref a_t_turns])), (a_w1_jaws, .inl (bs_I g, 2, .inl v_w1_jaws)), (a_t_jaws, .inl (bs_I g, 2, .inl (va_cpy v_w1_jaws v_jaws (0 : Int32).toNatClampNeg (0 : Int32).toNatClampNeg (2 : Int32).toNatClampNeg)))] H := hP
  have hD : va_D A [(a_w1, .inr (1, [.int v_w1_year, .int v_w1_secret, .ref a_w1_jaws, .ref a_w1_turns])), (a_t, .inr (1, [.int v_w1_year, .int v_w1_secret, .ref a_t_jaws, .ref a_t_turns])), (a_w1_jaws, .inl (bs_I g, 2, .inl v_w1_jaws)), (a_t_jaws, .inl (bs_I g, 2, .inl (va_cpy v_w1_jaws v_jaws (0 : Int32).toNatClampNeg (0 : Int32).toNatClampNeg (2 : Int32).toNatClampNeg)))] := hD
  exact ret _ _ _ _ (v_w1_year, v_w1_secret, (va_cpy v_w1_jaws v_jaws (0 : Int32).toNatClampNeg (0 : Int32).toNatClampNeg (2 : Int32).toNatClampNeg)) dX2_copyFrom_30 hw hP hD hS

theorem hdX3_isMissing : yX3_isMissing.cls = RX3 ∧ yX3_isMissing.cls ≠ "java/lang/invoke/MethodHandle" ∧ yX3_isMissing.cls ≠ "java/lang/invoke/VarHandle" ∧ (parseMethodDescriptor yX3_isMissing.desc).map (fun d => d.parameters.length) = some 0 := by decide +kernel
theorem hiX3_isMissing_X3 : ∀ w ∈ wsX30, w ∈ wsX3_isMissing := by decide +kernel
set_option maxHeartbeats 4000000 in
set_option maxRecDepth 100000 in
theorem kX3_isMissing {l : Launch} {g : bs_G} {a_t : Nat} {v_bits : Int32} {v_size : Int32} {a_t_numbers : Nat} {sz : Nat} {K : Int32 → Prop} (hw : wpX3_isMissing v_bits K) : Met l yX3_isMissing wsX3_isMissing ({ frames := 0, cells := 0, slots := 0, locals := 0 } : Room) (bs_Pc g [.ref a_t] [(a_t, .inr (2, [.int v_bits, .int v_size, .ref a_t_numbers]))] sz) (bs_Qi g [(a_t, .inr (2, [.int v_bits, .int v_size, .ref a_t_numbers]))] sz (fun (r : Int32) (_ : Unit) => K r) (fun (_ : Unit) => ([(a_t, .inr (2, [.int v_bits, .int v_size, .ref a_t_numbers]))] : va_W))) 0 0 (va_A [(a_t, .inr (2, [.int v_bits, .int v_size, .ref a_t_numbers]))] sz) := by
  refine ent_i (cc := cX3_isMissing) (maxL := 1) (rt := .boolean) (by decide) rfl (Nat.le_of_ble_eq_true rfl) ?_
  intro p e s m below meth c Q A hF hsz hP hD hS ret ls hl
  obtain ⟨⟨hx, hb, hml, hown, hts⟩, hK, hG, hA⟩ := id hF
  have hown : s.vm.findClass RX3 = some m.cls := hown
  have hl : lv_has ls 1 [(0, .ref a_t)] := hl
  refine lv_aload_n hx hb dX3_isMissing_0 rfl (lv_at hl 0 rfl) ?_
  refine va_get (D := g.1) (ci := 2) (v := .int v_bits) (C := RX3) (T := TX3) (N := 3) hx hb hts hiX3_isMissing_X3 hown hK hP 0 rfl rfl 0 (by decide) (hts (.fieldLink RX3 15 "LionSigns$Sheet" "bits" "I") (by decide +kernel)) (fun _ h9 => h9) rfl dX3_isMissing_1 ?_
  refine lv_if_ne (tgt := 11) hx hb dX3_isMissing_4 (by decide) (fun c4 => ?_) (fun c4 => ?_)
  · replace hw := hw.2 c4
    refine lv_iconst (v := 0) hx hb dX3_isMissing_11 (by decide) ?_
    exact ret _ _ _ _ 0 () dX3_isMissing_12 rfl hw hP hD hS
  · replace hw := hw.1 c4
    refine lv_iconst (v := 1) hx hb dX3_isMissing_7 (by decide) ?_
    refine lv_goto (tgt := 12) hx hb dX3_isMissing_8 (by decide) ?_
    exact ret _ _ _ _ 1 () dX3_isMissing_12 rfl hw hP hD hS

theorem hdX3_narrowed : yX3_narrowed.cls = RX3 ∧ yX3_narrowed.cls ≠ "java/lang/invoke/MethodHandle" ∧ yX3_narrowed.cls ≠ "java/lang/invoke/VarHandle" ∧ (parseMethodDescriptor yX3_narrowed.desc).map (fun d => d.parameters.length) = some 1 := by decide +kernel
theorem hiX3_narrowed_X3 : ∀ w ∈ wsX30, w ∈ wsX3_narrowed := by decide +kernel
set_option maxHeartbeats 4000000 in
set_option maxRecDepth 100000 in
theorem kX3_narrowed {l : Launch} {g : bs_G} {a_t : Nat} {v_bits : Int32} {v_size : Int32} {a_t_numbers : Nat} {sz : Nat} {x1 : Int32} {K : Int32 → Prop} (hw : wpX3_narrowed x1 v_bits K) : Met l yX3_narrowed wsX3_narrowed ({ frames := 0, cells := 0, slots := 0, locals := 0 } : Room) (bs_Pc g [.ref a_t, .int x1] [(a_t, .inr (2, [.int v_bits, .int v_size, .ref a_t_numbers]))] sz) (bs_Qi g [(a_t, .inr (2, [.int v_bits, .int v_size, .ref a_t_numbers]))] sz (fun (r : Int32) (_ : Unit) => K r) (fun (_ : Unit) => ([(a_t, .inr (2, [.int v_bits, .int v_size, .ref a_t_numbers]))] : va_W))) 0 0 (va_A [(a_t, .inr (2, [.int v_bits, .int v_size, .ref a_t_numbers]))] sz) := by
  refine ent_i (cc := cX3_narrowed) (maxL := 2) (rt := .int) (by decide) rfl (Nat.le_of_ble_eq_true rfl) ?_
  intro p e s m below meth c Q A hF hsz hP hD hS ret ls hl
  obtain ⟨⟨hx, hb, hml, hown, hts⟩, hK, hG, hA⟩ := id hF
  have hown : s.vm.findClass RX3 = some m.cls := hown
  have hl : lv_has ls 2 [(0, .ref a_t), (1, .int x1)] := hl
  refine lv_aload_n hx hb dX3_narrowed_0 rfl (lv_at hl 0 rfl) ?_
  refine va_get (D := g.1) (ci := 2) (v := .int v_bits) (C := RX3) (T := TX3) (N := 3) hx hb hts hiX3_narrowed_X3 hown hK hP 0 rfl rfl 0 (by decide) (hts (.fieldLink RX3 15 "LionSigns$Sheet" "bits" "I") (by decide +kernel)) (fun _ h9 => h9) rfl dX3_narrowed_1 ?_
  by_cases e4_8 : v_bits = 8
  · replace hw := hw.1 e4_8
    refine lv_lookup (tgt := 32) (off := 28) hx hb dX3_narrowed_4 (by decide) (by rw [e4_8]; rfl) (by decide) ?_
    refine lv_iload_n hx hb dX3_narrowed_32 rfl (lv_at hl 1 rfl) ?_
    refine lv_i2b hx hb dX3_narrowed_33 rfl ?_
    exact ret _ _ _ _ (x1.toInt8.toInt32) () dX3_narrowed_34 rfl hw hP hD hS
  · replace hw := hw.2 e4_8
    by_cases e4_16 : v_bits = 16
    · replace hw := hw.1 e4_16
      refine lv_lookup (tgt := 35) (off := 31) hx hb dX3_narrowed_4 (by decide) (by rw [e4_16]; rfl) (by decide) ?_
      refine lv_iload_n hx hb dX3_narrowed_35 rfl (lv_at hl 1 rfl) ?_
      refine lv_i2s hx hb dX3_narrowed_36 rfl ?_
      exact ret _ _ _ _ (x1.toInt16.toInt32) () dX3_narrowed_37 rfl hw hP hD hS
    · replace hw := hw.2 e4_16
      refine lv_lookup (tgt := 38) (off := 34) hx hb dX3_narrowed_4 (by decide) (by show Op.lookupswitch.offset [(8, 28), (16, 31)] 34 _ = _; rw [lv_osw e4_8 (by decide), lv_osw e4_16 (by decide)]; rfl) (by decide) ?_
      refine lv_iload_n hx hb dX3_narrowed_38 rfl (lv_at hl 1 rfl) ?_
      exact ret _ _ _ _ x1 () dX3_narrowed_39 rfl hw hP hD hS

theorem hdX3_holds : yX3_holds.cls = RX3 ∧ yX3_holds.cls ≠ "java/lang/invoke/MethodHandle" ∧ yX3_holds.cls ≠ "java/lang/invoke/VarHandle" ∧ (parseMethodDescriptor yX3_holds.desc).map (fun d => d.parameters.length) = some 2 := by decide +kernel
theorem hiX3_holds_X3 : ∀ w ∈ wsX30, w ∈ wsX3_holds := by decide +kernel
set_option maxHeartbeats 4000000 in
set_option maxRecDepth 100000 in
theorem kX3_holds {l : Launch} {g : bs_G} {a_t : Nat} {v_bits : Int32} {v_size : Int32} {a_t_numbers : Nat} {sz : Nat} {x1 : Int32} {x2 : Int32} {K : Int32 → Prop} (hw : wpX3_holds x1 x2 v_size K) : Met l yX3_holds wsX3_holds ({ frames := 0, cells := 0, slots := 0, locals := 0 } : Room) (bs_Pc g [.ref a_t, .int x1, .int x2] [(a_t, .inr (2, [.int v_bits, .int v_size, .ref a_t_numbers]))] sz) (bs_Qi g [(a_t, .inr (2, [.int v_bits, .int v_size, .ref a_t_numbers]))] sz (fun (r : Int32) (_ : Unit) => K r) (fun (_ : Unit) => ([(a_t, .inr (2, [.int v_bits, .int v_size, .ref a_t_numbers]))] : va_W))) 0 0 (va_A [(a_t, .inr (2, [.int v_bits, .int v_size, .ref a_t_numbers]))] sz) := by
  refine ent_i (cc := cX3_holds) (maxL := 3) (rt := .boolean) (by decide) rfl (Nat.le_of_ble_eq_true rfl) ?_
  intro p e s m below meth c Q A hF hsz hP hD hS ret ls hl
  obtain ⟨⟨hx, hb, hml, hown, hts⟩, hK, hG, hA⟩ := id hF
  have hown : s.vm.findClass RX3 = some m.cls := hown
  have hl : lv_has ls 3 [(0, .ref a_t), (1, .int x1), (2, .int x2)] := hl
  refine lv_iload_n hx hb dX3_holds_0 rfl (lv_at hl 1 rfl) ?_
  refine lv_if_lt (tgt := 22) hx hb dX3_holds_1 (by decide) (fun c1 => ?_) (fun c1 => ?_)
  · replace hw := hw.1 c1
    refine lv_iconst (v := 0) hx hb dX3_holds_22 (by decide) ?_
    exact ret _ _ _ _ 0 () dX3_holds_23 rfl hw hP hD hS
  · replace hw := hw.2 c1
    refine lv_iload_n hx hb dX3_holds_4 rfl (lv_at hl 2 rfl) ?_
    refine lv_if_lt (tgt := 22) hx hb dX3_holds_5 (by decide) (fun c5 => ?_) (fun c5 => ?_)
    · replace hw := hw.1 c5
      refine lv_iconst (v := 0) hx hb dX3_holds_22 (by decide) ?_
      exact ret _ _ _ _ 0 () dX3_holds_23 rfl hw hP hD hS
    · replace hw := hw.2 c5
      refine lv_iload_n hx hb dX3_holds_8 rfl (lv_at hl 1 rfl) ?_
      refine lv_aload_n hx hb dX3_holds_9 rfl (lv_at hl 0 rfl) ?_
      refine va_get (D := g.1) (ci := 2) (v := .int v_size) (C := RX3) (T := TX3) (N := 3) hx hb hts hiX3_holds_X3 hown hK hP 0 rfl rfl 1 (by decide) (hts (.fieldLink RX3 19 "LionSigns$Sheet" "size" "I") (by decide +kernel)) (fun _ h9 => h9) rfl dX3_holds_10 ?_
      refine lv_iload_n hx hb dX3_holds_13 rfl (lv_at hl 2 rfl) ?_
      refine lv_isub hx hb dX3_holds_14 ?_
      refine lv_icmp_gt (tgt := 22) hx hb dX3_holds_15 (by decide) (fun c15 => ?_) (fun c15 => ?_)
      · replace hw := hw.1 c15
        refine lv_iconst (v := 0) hx hb dX3_holds_22 (by decide) ?_
        exact ret _ _ _ _ 0 () dX3_holds_23 rfl hw hP hD hS
      · replace hw := hw.2 c15
        refine lv_iconst (v := 1) hx hb dX3_holds_18 (by decide) ?_
        refine lv_goto (tgt := 23) hx hb dX3_holds_19 (by decide) ?_
        exact ret _ _ _ _ 1 () dX3_holds_23 rfl hw hP hD hS

theorem hdX4_levelOf : yX4_levelOf.cls ≠ "java/lang/invoke/MethodHandle" ∧ yX4_levelOf.cls ≠ "java/lang/invoke/VarHandle" ∧ (parseMethodDescriptor yX4_levelOf.desc).map (fun d => d.parameters.length) = some 1 := by decide +kernel
set_option maxHeartbeats 4000000 in
set_option maxRecDepth 100000 in
theorem kX4_levelOf {l : Launch} {g : bs_G} {sz : Nat} {x0 : Int32} {K : Int32 → Prop} (hw : wpX4_levelOf x0 K) : Met l yX4_levelOf wsX4_levelOf ({ frames := 0, cells := 0, slots := 0, locals := 0 } : Room) (bs_Pc g [.int x0] [] sz) (bs_Qi g [] sz (fun (r : Int32) (_ : Unit) => K r) (fun (_ : Unit) => ([] : va_W))) 0 0 (va_A [] sz) := by
  refine ent_i (cc := cX4_levelOf) (maxL := 1) (rt := .int) (by decide) rfl (Nat.le_of_ble_eq_true rfl) ?_
  intro p e s m below meth c Q A hF hsz hP hD hS ret ls hl
  obtain ⟨⟨hx, hb, hml, hown, hts⟩, hK, hG, hA⟩ := id hF
  have hown : s.vm.findClass RX4 = some m.cls := hown
  have hl : lv_has ls 1 [(0, .int x0)] := hl
  refine lv_iload_n hx hb dX4_levelOf_0 rfl (lv_at hl 0 rfl) ?_
  by_cases e1_37 : x0 = 37
  · replace hw := hw.1 e1_37
    refine lv_lookup (tgt := 100) (off := 99) hx hb dX4_levelOf_1 (by decide) (by rw [e1_37]; rfl) (by decide) ?_
    refine lv_iconst (v := 4) hx hb dX4_levelOf_100 (by decide) ?_
    exact ret _ _ _ _ 4 () dX4_levelOf_101 rfl hw hP hD hS
  · replace hw := hw.2 e1_37
    by_cases e1_38 : x0 = 38
    · replace hw := hw.1 e1_38
      refine lv_lookup (tgt := 94) (off := 93) hx hb dX4_levelOf_1 (by decide) (by rw [e1_38]; rfl) (by decide) ?_
      refine lv_iconst (v := 1) hx hb dX4_levelOf_94 (by decide) ?_
      exact ret _ _ _ _ 1 () dX4_levelOf_95 rfl hw hP hD hS
    · replace hw := hw.2 e1_38
      by_cases e1_42 : x0 = 42
      · replace hw := hw.1 e1_42
        refine lv_lookup (tgt := 100) (off := 99) hx hb dX4_levelOf_1 (by decide) (by rw [e1_42]; rfl) (by decide) ?_
        refine lv_iconst (v := 4) hx hb dX4_levelOf_100 (by decide) ?_
        exact ret _ _ _ _ 4 () dX4_levelOf_101 rfl hw hP hD hS
      · replace hw := hw.2 e1_42
        by_cases e1_43 : x0 = 43
        · replace hw := hw.1 e1_43
          refine lv_lookup (tgt := 98) (off := 97) hx hb dX4_levelOf_1 (by decide) (by rw [e1_43]; rfl) (by decide) ?_
          refine lv_iconst (v := 3) hx hb dX4_levelOf_98 (by decide) ?_
          exact ret _ _ _ _ 3 () dX4_levelOf_99 rfl hw hP hD hS
        · replace hw := hw.2 e1_43
          by_cases e1_45 : x0 = 45
          · replace hw := hw.1 e1_45
            refine lv_lookup (tgt := 98) (off := 97) hx hb dX4_levelOf_1 (by decide) (by rw [e1_45]; rfl) (by decide) ?_
            refine lv_iconst (v := 3) hx hb dX4_levelOf_98 (by decide) ?_
            exact ret _ _ _ _ 3 () dX4_levelOf_99 rfl hw hP hD hS
          · replace hw := hw.2 e1_45
            by_cases e1_47 : x0 = 47
            · replace hw := hw.1 e1_47
              refine lv_lookup (tgt := 100) (off := 99) hx hb dX4_levelOf_1 (by decide) (by rw [e1_47]; rfl) (by decide) ?_
              refine lv_iconst (v := 4) hx hb dX4_levelOf_100 (by decide) ?_
              exact ret _ _ _ _ 4 () dX4_levelOf_101 rfl hw hP hD hS
            · replace hw := hw.2 e1_47
              by_cases e1_60 : x0 = 60
              · replace hw := hw.1 e1_60
                refine lv_lookup (tgt := 96) (off := 95) hx hb dX4_levelOf_1 (by decide) (by rw [e1_60]; rfl) (by decide) ?_
                refine lv_iconst (v := 2) hx hb dX4_levelOf_96 (by decide) ?_
                exact ret _ _ _ _ 2 () dX4_levelOf_97 rfl hw hP hD hS
              · replace hw := hw.2 e1_60
                by_cases e1_61 : x0 = 61
                · replace hw := hw.1 e1_61
                  refine lv_lookup (tgt := 96) (off := 95) hx hb dX4_levelOf_1 (by decide) (by rw [e1_61]; rfl) (by decide) ?_
                  refine lv_iconst (v := 2) hx hb dX4_levelOf_96 (by decide) ?_
                  exact ret _ _ _ _ 2 () dX4_levelOf_97 rfl hw hP hD hS
                · replace hw := hw.2 e1_61
                  by_cases e1_62 : x0 = 62
                  · replace hw := hw.1 e1_62
                    refine lv_lookup (tgt := 96) (off := 95) hx hb dX4_levelOf_1 (by decide) (by rw [e1_62]; rfl) (by decide) ?_
                    refine lv_iconst (v := 2) hx hb dX4_levelOf_96 (by decide) ?_
                    exact ret _ _ _ _ 2 () dX4_levelOf_97 rfl hw hP hD hS
                  · replace hw := hw.2 e1_62
                    by_cases e1_124 : x0 = 124
                    · replace hw := hw.1 e1_124
                      refine lv_lookup (tgt := 92) (off := 91) hx hb dX4_levelOf_1 (by decide) (by rw [e1_124]; rfl) (by decide) ?_
                      refine lv_iconst (v := 0) hx hb dX4_levelOf_92 (by decide) ?_
                      exact ret _ _ _ _ 0 () dX4_levelOf_93 rfl hw hP hD hS
                    · replace hw := hw.2 e1_124
                      refine lv_lookup (tgt := 102) (off := 101) hx hb dX4_levelOf_1 (by decide) (by show Op.lookupswitch.offset [(37, 99), (38, 93), (42, 99), (43, 97), (45, 97), (47, 99), (60, 95), (61, 95), (62, 95), (124, 91)] 101 _ = _; rw [lv_osw e1_37 (by decide), lv_osw e1_38 (by decide), lv_osw e1_42 (by decide), lv_osw e1_43 (by decide), lv_osw e1_45 (by decide), lv_osw e1_47 (by decide), lv_osw e1_60 (by decide), lv_osw e1_61 (by decide), lv_osw e1_62 (by decide), lv_osw e1_124 (by decide)]; rfl) (by decide) ?_
                      refine lv_iconst (v := (-1)) hx hb dX4_levelOf_102 (by decide) ?_
                      exact ret _ _ _ _ (-1) () dX4_levelOf_103 rfl hw hP hD hS

theorem hdX4_isDigit : yX4_isDigit.cls ≠ "java/lang/invoke/MethodHandle" ∧ yX4_isDigit.cls ≠ "java/lang/invoke/VarHandle" ∧ (parseMethodDescriptor yX4_isDigit.desc).map (fun d => d.parameters.length) = some 1 := by decide +kernel
set_option maxHeartbeats 4000000 in
set_option maxRecDepth 100000 in
theorem kX4_isDigit {l : Launch} {g : bs_G} {sz : Nat} {x0 : Int32} {K : Int32 → Prop} (hw : wpX4_isDigit x0 K) : Met l yX4_isDigit wsX4_isDigit ({ frames := 0, cells := 0, slots := 0, locals := 0 } : Room) (bs_Pc g [.int x0] [] sz) (bs_Qi g [] sz (fun (r : Int32) (_ : Unit) => K r) (fun (_ : Unit) => ([] : va_W))) 0 0 (va_A [] sz) := by
  refine ent_i (cc := cX4_isDigit) (maxL := 1) (rt := .boolean) (by decide) rfl (Nat.le_of_ble_eq_true rfl) ?_
  intro p e s m below meth c Q A hF hsz hP hD hS ret ls hl
  obtain ⟨⟨hx, hb, hml, hown, hts⟩, hK, hG, hA⟩ := id hF
  have hown : s.vm.findClass RX4 = some m.cls := hown
  have hl : lv_has ls 1 [(0, .int x0)] := hl
  refine lv_iload_n hx hb dX4_isDigit_0 rfl (lv_at hl 0 rfl) ?_
  refine lv_bipush (v := 48) hx hb dX4_isDigit_1 (by decide) ?_
  refine lv_icmp_lt (tgt := 16) hx hb dX4_isDigit_3 (by decide) (fun c3 => ?_) (fun c3 => ?_)
  · replace hw := hw.1 c3
    refine lv_iconst (v := 0) hx hb dX4_isDigit_16 (by decide) ?_
    exact ret _ _ _ _ 0 () dX4_isDigit_17 rfl hw hP hD hS
  · replace hw := hw.2 c3
    refine lv_iload_n hx hb dX4_isDigit_6 rfl (lv_at hl 0 rfl) ?_
    refine lv_bipush (v := 57) hx hb dX4_isDigit_7 (by decide) ?_
    refine lv_icmp_gt (tgt := 16) hx hb dX4_isDigit_9 (by decide) (fun c9 => ?_) (fun c9 => ?_)
    · replace hw := hw.1 c9
      refine lv_iconst (v := 0) hx hb dX4_isDigit_16 (by decide) ?_
      exact ret _ _ _ _ 0 () dX4_isDigit_17 rfl hw hP hD hS
    · replace hw := hw.2 c9
      refine lv_iconst (v := 1) hx hb dX4_isDigit_12 (by decide) ?_
      refine lv_goto (tgt := 17) hx hb dX4_isDigit_13 (by decide) ?_
      exact ret _ _ _ _ 1 () dX4_isDigit_17 rfl hw hP hD hS

theorem hdX4_next : yX4_next.cls = RX4 ∧ yX4_next.cls ≠ "java/lang/invoke/MethodHandle" ∧ yX4_next.cls ≠ "java/lang/invoke/VarHandle" ∧ (parseMethodDescriptor yX4_next.desc).map (fun d => d.parameters.length) = some 0 := by decide +kernel
theorem hiX4_next_X4 : ∀ w ∈ wsX40, w ∈ wsX4_next := by decide +kernel
set_option maxHeartbeats 4000000 in
set_option maxRecDepth 100000 in
theorem kX4_next {l : Launch} {g : bs_G} {a_t : Nat} {a_t_bytes : Nat} {v_size : Int32} {v_at : Int32} {v_names : Nat} {a_t_steps : Nat} {v_length : Int32} {v_bytes : Nat → Int32} {sz : Nat} {K : Int32 → Prop} (hw : wpX4_next v_size v_at v_bytes K) : Met l yX4_next wsX4_next ({ frames := 0, cells := 0, slots := 0, locals := 0 } : Room) (bs_Pc g [.ref a_t] [(a_t, .inr (3, [.ref a_t_bytes, .int v_size, .int v_at, .ref (g.2 (6 + v_names)), .ref a_t_steps, .int v_length])), (a_t_bytes, .inl (bs_B g, 60, .inl v_bytes))] sz) (bs_Qi g [(a_t, .inr (3, [.ref a_t_bytes, .int v_size, .int v_at, .ref (g.2 (6 + v_names)), .ref a_t_steps, .int v_length])), (a_t_bytes, .inl (bs_B g, 60, .inl v_bytes))] sz (fun (r : Int32) (_ : Unit) => K r) (fun (_ : Unit) => ([(a_t, .inr (3, [.ref a_t_bytes, .int v_size, .int v_at, .ref (g.2 (6 + v_names)), .ref a_t_steps, .int v_length])), (a_t_bytes, .inl (bs_B g, 60, .inl v_bytes))] : va_W))) 0 0 (va_A [(a_t, .inr (3, [.ref a_t_bytes, .int v_size, .int v_at, .ref (g.2 (6 + v_names)), .ref a_t_steps, .int v_length])), (a_t_bytes, .inl (bs_B g, 60, .inl v_bytes))] sz) := by
  refine ent_i (cc := cX4_next) (maxL := 1) (rt := .int) (by decide) rfl (Nat.le_of_ble_eq_true rfl) ?_
  intro p e s m below meth c Q A hF hsz hP hD hS ret ls hl
  obtain ⟨⟨hx, hb, hml, hown, hts⟩, hK, hG, hA⟩ := id hF
  have hown : s.vm.findClass RX4 = some m.cls := hown
  have hl : lv_has ls 1 [(0, .ref a_t)] := hl
  refine lv_aload_n hx hb dX4_next_0 rfl (lv_at hl 0 rfl) ?_
  refine va_get (D := g.1) (ci := 3) (v := .int v_at) (C := RX4) (T := TX4) (N := 6) hx hb hts hiX4_next_X4 hown hK hP 0 rfl rfl 2 (by decide) (hts (.fieldLink RX4 44 "LionSigns$TextReader" "at" "I") (by decide +kernel)) (fun _ h9 => h9) rfl dX4_next_1 ?_
  refine lv_if_lt (tgt := 34) hx hb dX4_next_4 (by decide) (fun c4 => ?_) (fun c4 => ?_)
  · replace hw := hw.1 c4
    refine lv_iconst (v := (-1)) hx hb dX4_next_34 (by decide) ?_
    exact ret _ _ _ _ (-1) () dX4_next_35 rfl hw hP hD hS
  · replace hw := hw.2 c4
    refine lv_aload_n hx hb dX4_next_7 rfl (lv_at hl 0 rfl) ?_
    refine va_get (D := g.1) (ci := 3) (v := .int v_at) (C := RX4) (T := TX4) (N := 6) hx hb hts hiX4_next_X4 hown hK hP 0 rfl rfl 2 (by decide) (hts (.fieldLink RX4 44 "LionSigns$TextReader" "at" "I") (by decide +kernel)) (fun _ h9 => h9) rfl dX4_next_8 ?_
    refine lv_aload_n hx hb dX4_next_11 rfl (lv_at hl 0 rfl) ?_
    refine va_get (D := g.1) (ci := 3) (v := .int v_size) (C := RX4) (T := TX4) (N := 6) hx hb hts hiX4_next_X4 hown hK hP 0 rfl rfl 1 (by decide) (hts (.fieldLink RX4 34 "LionSigns$TextReader" "size" "I") (by decide +kernel)) (fun _ h9 => h9) rfl dX4_next_12 ?_
    refine lv_icmp_ge (tgt := 34) hx hb dX4_next_15 (by decide) (fun c15 => ?_) (fun c15 => ?_)
    · replace hw := hw.1 c15
      refine lv_iconst (v := (-1)) hx hb dX4_next_34 (by decide) ?_
      exact ret _ _ _ _ (-1) () dX4_next_35 rfl hw hP hD hS
    · replace hw := hw.2 c15
      refine lv_aload_n hx hb dX4_next_18 rfl (lv_at hl 0 rfl) ?_
      refine va_get (D := g.1) (ci := 3) (v := .ref a_t_bytes) (C := RX4) (T := TX4) (N := 6) hx hb hts hiX4_next_X4 hown hK hP 0 rfl rfl 0 (by decide) (hts (.fieldLink RX4 9 "LionSigns$TextReader" "bytes" "[B") (by decide +kernel)) (fun _ h9 => h9) rfl dX4_next_19 ?_
      refine lv_aload_n hx hb dX4_next_22 rfl (lv_at hl 0 rfl) ?_
      refine va_get (D := g.1) (ci := 3) (v := .int v_at) (C := RX4) (T := TX4) (N := 6) hx hb hts hiX4_next_X4 hown hK hP 0 rfl rfl 2 (by decide) (hts (.fieldLink RX4 44 "LionSigns$TextReader" "at" "I") (by decide +kernel)) (fun _ h9 => h9) rfl dX4_next_23 ?_
      refine va_bald hx hb hK hP 1 1 rfl rfl hw.1 dX4_next_26 ?_
      replace hw := hw.2
      refine lv_sipush (v := 255) hx hb dX4_next_27 (by decide) ?_
      refine lv_iand hx hb dX4_next_30 ?_
      refine lv_goto (tgt := 35) hx hb dX4_next_31 (by decide) ?_
      exact ret _ _ _ _ ((v_bytes v_at.toNatClampNeg) &&& 255) () dX4_next_35 rfl hw hP hD hS

theorem hdX4_add : yX4_add.cls = RX4 ∧ yX4_add.cls ≠ "java/lang/invoke/MethodHandle" ∧ yX4_add.cls ≠ "java/lang/invoke/VarHandle" ∧ (parseMethodDescriptor yX4_add.desc).map (fun d => d.parameters.length) = some 1 := by decide +kernel
theorem hiX4_add_X4 : ∀ w ∈ wsX40, w ∈ wsX4_add := by decide +kernel
set_option maxHeartbeats 4000000 in
set_option maxRecDepth 100000 in
theorem kX4_add {l : Launch} {g : bs_G} {a_t : Nat} {a_t_bytes : Nat} {v_size : Int32} {v_at : Int32} {v_names : Nat} {a_t_steps : Nat} {v_length : Int32} {v_steps : Nat → Int32} {sz : Nat} {x1 : Int32} {K : Int32 → (Nat → Int32) → Prop} (hw : wpX4_add x1 v_length v_steps K) : Met l yX4_add wsX4_add ({ frames := 0, cells := 0, slots := 0, locals := 0 } : Room) (bs_Pc g [.ref a_t, .int x1] [(a_t, .inr (3, [.ref a_t_bytes, .int v_size, .int v_at, .ref (g.2 (6 + v_names)), .ref a_t_steps, .int v_length])), (a_t_steps, .inl (bs_I g, 60, .inl v_steps))] sz) (bs_Qv g [(a_t, .inr (3, [.ref a_t_bytes, .int v_size, .int v_at, .ref (g.2 (6 + v_names)), .ref a_t_steps, .int v_length])), (a_t_steps, .inl (bs_I g, 60, .inl v_steps))] sz (fun (u : Int32 × (Nat → Int32)) => K u.1 u.2) (fun (u : Int32 × (Nat → Int32)) => ([(a_t, .inr (3, [.ref a_t_bytes, .int v_size, .int v_at, .ref (g.2 (6 + v_names)), .ref a_t_steps, .int u.1])), (a_t_steps, .inl (bs_I g, 60, .inl u.2))] : va_W))) 0 0 (va_A [(a_t, .inr (3, [.ref a_t_bytes, .int v_size, .int v_at, .ref (g.2 (6 + v_names)), .ref a_t_steps, .int v_length])), (a_t_steps, .inl (bs_I g, 60, .inl v_steps))] sz) := by
  refine ent_v (cc := cX4_add) (maxL := 2) (by decide) rfl (Nat.le_of_ble_eq_true rfl) ?_
  intro p e s m below meth c Q A hF hsz hP hD hS ret ls hl
  obtain ⟨⟨hx, hb, hml, hown, hts⟩, hK, hG, hA⟩ := id hF
  have hown : s.vm.findClass RX4 = some m.cls := hown
  have hl : lv_has ls 2 [(0, .ref a_t), (1, .int x1)] := hl
  refine lv_aload_n hx hb dX4_add_0 rfl (lv_at hl 0 rfl) ?_
  refine va_get (D := g.1) (ci := 3) (v := .int v_length) (C := RX4) (T := TX4) (N := 6) hx hb hts hiX4_add_X4 hown hK hP 0 rfl rfl 5 (by decide) (hts (.fieldLink RX4 47 "LionSigns$TextReader" "length" "I") (by decide +kernel)) (fun _ h9 => h9) rfl dX4_add_1 ?_
  refine lv_if_lt (tgt := 39) hx hb dX4_add_4 (by decide) (fun c4 => ?_) (fun c4 => ?_)
  · replace hw := hw.1 c4
    exact ret _ _ _ _ (v_length, v_steps) dX4_add_39 hw hP hD hS
  · replace hw := hw.2 c4
    refine lv_aload_n hx hb dX4_add_7 rfl (lv_at hl 0 rfl) ?_
    refine va_get (D := g.1) (ci := 3) (v := .int v_length) (C := RX4) (T := TX4) (N := 6) hx hb hts hiX4_add_X4 hown hK hP 0 rfl rfl 5 (by decide) (hts (.fieldLink RX4 47 "LionSigns$TextReader" "length" "I") (by decide +kernel)) (fun _ h9 => h9) rfl dX4_add_8 ?_
    refine lv_aload_n hx hb dX4_add_11 rfl (lv_at hl 0 rfl) ?_
    refine va_get (D := g.1) (ci := 3) (v := .ref a_t_steps) (C := RX4) (T := TX4) (N := 6) hx hb hts hiX4_add_X4 hown hK hP 0 rfl rfl 4 (by decide) (hts (.fieldLink RX4 21 "LionSigns$TextReader" "steps" "[I") (by decide +kernel)) (fun _ h9 => h9) rfl dX4_add_12 ?_
    refine va_alen (v := 60) hx hb hK hP 1 0 rfl rfl rfl dX4_add_15 ?_
    refine lv_icmp_ge (tgt := 39) hx hb dX4_add_16 (by decide) (fun c16 => ?_) (fun c16 => ?_)
    · replace hw := hw.1 c16
      exact ret _ _ _ _ (v_length, v_steps) dX4_add_39 hw hP hD hS
    · replace hw := hw.2 c16
      refine lv_aload_n hx hb dX4_add_19 rfl (lv_at hl 0 rfl) ?_
      refine va_get (D := g.1) (ci := 3) (v := .ref a_t_steps) (C := RX4) (T := TX4) (N := 6) hx hb hts hiX4_add_X4 hown hK hP 0 rfl rfl 4 (by decide) (hts (.fieldLink RX4 21 "LionSigns$TextReader" "steps" "[I") (by decide +kernel)) (fun _ h9 => h9) rfl dX4_add_20 ?_
      refine lv_aload_n hx hb dX4_add_23 rfl (lv_at hl 0 rfl) ?_
      refine va_get (D := g.1) (ci := 3) (v := .int v_length) (C := RX4) (T := TX4) (N := 6) hx hb hts hiX4_add_X4 hown hK hP 0 rfl rfl 5 (by decide) (hts (.fieldLink RX4 47 "LionSigns$TextReader" "length" "I") (by decide +kernel)) (fun _ h9 => h9) rfl dX4_add_24 ?_
      refine lv_iload_n hx hb dX4_add_27 rfl (lv_at hl 1 rfl) ?_
      refine va_iast hx hb hK hP hD hS 1 0 rfl rfl hw.1 dX4_add_28 (fun H locs hP hD hS => ?_)
      replace hw := hw.2
      have hP : bs_P g [(a_t, .inr (3, [.ref a_t_bytes, .int v_size, .int v_at, .ref (g.2 (6 + v_names)), .ref a_t_steps, .int v_length])), (a_t_steps, .inl (bs_I g, 60, .inl (upd v_steps v_length.toNatClampNeg x1)))] H := hP
      have hD : va_D A [(a_t, .inr (3, [.ref a_t_bytes, .int v_size, .int v_at, .ref (g.2 (6 + v_names)), .ref a_t_steps, .int v_length])), (a_t_steps, .inl (bs_I g, 60, .inl (upd v_steps v_length.toNatClampNeg x1)))] := hD
      refine lv_aload_n hx hb dX4_add_29 rfl (lv_at hl 0 rfl) ?_
      refine lv_dup hx hb dX4_add_30 rfl ?_
      refine va_get (D := g.1) (ci := 3) (v := .int v_length) (C := RX4) (T := TX4) (N := 6) hx hb hts hiX4_add_X4 hown hK hP 0 rfl rfl 5 (by decide) (hts (.fieldLink RX4 47 "LionSigns$TextReader" "length" "I") (by decide +kernel)) (fun _ h9 => h9) rfl dX4_add_31 ?_
      refine lv_iconst (v := 1) hx hb dX4_add_34 (by decide) ?_
      refine lv_iadd hx hb dX4_add_35 ?_
      refine va_put (D := g.1) (ci := 3) (v := .int (v_length + 1)) (ty := .int) (C := RX4) (T := TX4) (N := 6) hx hb hts hiX4_add_X4 tyX4 tyX4_ok nmX4 hown hK hP hD hS 0 rfl rfl 5 (by decide) (hts (.fieldLink RX4 47 "LionSigns$TextReader" "length" "I") (by decide +kernel)) (fun _ h9 => h9) rfl (by decide +kernel) rfl rfl (Nat.le_of_ble_eq_true rfl) dX4_add_36 (fun H locs hP hD hS => ?_)
      have hP : bs_P g [(a_t, .inr (3, [.ref a_t_bytes, .int v_size, .int v_at, .ref (g.2 (6 + v_names)), .ref a_t_steps, .int (v_length + 1)])), (a_t_steps, .inl (bs_I g, 60, .inl (upd v_steps v_length.toNatClampNeg x1)))] H := hP
      have hD : va_D A [(a_t, .inr (3, [.ref a_t_bytes, .int v_size, .int v_at, .ref (g.2 (6 + v_names)), .ref a_t_steps, .int (v_length + 1)])), (a_t_steps, .inl (bs_I g, 60, .inl (upd v_steps v_length.toNatClampNeg x1)))] := hD
      exact ret _ _ _ _ ((v_length + 1), (upd v_steps v_length.toNatClampNeg x1)) dX4_add_39 hw hP hD hS

theorem hdX6_own : yX6_own.cls = RX6 ∧ yX6_own.cls ≠ "java/lang/invoke/MethodHandle" ∧ yX6_own.cls ≠ "java/lang/invoke/VarHandle" ∧ (parseMethodDescriptor yX6_own.desc).map (fun d => d.parameters.length) = some 3 := by decide +kernel
theorem hiX6_own_X6 : ∀ w ∈ wsX60, w ∈ wsX6_own := by decide +kernel
theorem hdX6_above : yX6_above.cls = RX6 ∧ yX6_above.cls ≠ "java/lang/invoke/MethodHandle" ∧ yX6_above.cls ≠ "java/lang/invoke/VarHandle" ∧ (parseMethodDescriptor yX6_above.desc).map (fun d => d.parameters.length) = some 4 := by decide +kernel
theorem hdX6_from : yX6_from.cls = RX6 ∧ yX6_from.cls ≠ "java/lang/invoke/MethodHandle" ∧ yX6_from.cls ≠ "java/lang/invoke/VarHandle" ∧ (parseMethodDescriptor yX6_from.desc).map (fun d => d.parameters.length) = some 4 := by decide +kernel
theorem hiX6_from_X6 : ∀ w ∈ wsX60, w ∈ wsX6_from := by decide +kernel
theorem hdX6_run : yX6_run.cls = RX6 ∧ yX6_run.cls ≠ "java/lang/invoke/MethodHandle" ∧ yX6_run.cls ≠ "java/lang/invoke/VarHandle" ∧ (parseMethodDescriptor yX6_run.desc).map (fun d => d.parameters.length) = some 3 := by decide +kernel
theorem hiX6_run_X6 : ∀ w ∈ wsX60, w ∈ wsX6_run := by decide +kernel
set_option maxHeartbeats 4000000 in
set_option maxRecDepth 100000 in
theorem koX6_own {l : Launch} {g : bs_G} {d : Nat} {R_X6_own : Int32 → Int32 → Int32 → Int32 → Int32 → Int32 → Int32 → Int32 → (Nat → Int32) → (Int32 → Int32 → Int32 → (Nat → Int32) → Prop) → Prop} {R_X6_above : Int32 → Int32 → Int32 → Int32 → Int32 → Int32 → Int32 → Int32 → Int32 → (Nat → Int32) → (Int32 → Int32 → Int32 → (Nat → Int32) → Prop) → Prop} {R_X6_from : Int32 → Int32 → Int32 → Int32 → Int32 → Int32 → Int32 → Int32 → Int32 → (Nat → Int32) → (Int32 → Int32 → Int32 → (Nat → Int32) → Prop) → Prop} {R_X6_run : Int32 → Int32 → Int32 → Int32 → Int32 → Int32 → Int32 → Int32 → (Nat → Int32) → (Int32 → Int32 → Int32 → (Nat → Int32) → Prop) → Prop} (h_X6_own : ∀ (a_t : Nat) (v_kind : Int32) (v_k : Int32) (v_m : Int32) (v_parted : Int32) (a_t_trace : Nat) (v_traced : Int32) (v_trace : Nat → Int32) (sz : Nat) (x1 : Int32) (x2 : Int32) (x3 : Int32) (K : Int32 → Int32 → Int32 → (Nat → Int32) → Prop), R_X6_own x1 x2 x3 v_kind v_k v_m v_parted v_traced v_trace K → Met l yX6_own wsX6_own ({ frames := d + 1, cells := 0, slots := 0, locals := 26 * d + 20 } : Room) (bs_Pc g [.ref a_t, .int x1, .int x2, .int x3] [(a_t, .inr (5, [.int v_kind, .int v_k, .int v_m, .int v_parted, .ref a_t_trace, .int v_traced])), (a_t_trace, .inl (bs_I g, 30, .inl v_trace))] sz) (bs_Qi g [(a_t, .inr (5, [.int v_kind, .int v_k, .int v_m, .int v_parted, .ref a_t_trace, .int v_traced])), (a_t_trace, .inl (bs_I g, 30, .inl v_trace))] sz (fun (r : Int32) (u : Int32 × Int32 × (Nat → Int32)) => K r u.1 u.2.1 u.2.2) (fun (u : Int32 × Int32 × (Nat → Int32)) => ([(a_t, .inr (5, [.int v_kind, .int v_k, .int v_m, .int u.1, .ref a_t_trace, .int u.2.1])), (a_t_trace, .inl (bs_I g, 30, .inl u.2.2))] : va_W))) 0 0 (va_A [(a_t, .inr (5, [.int v_kind, .int v_k, .int v_m, .int v_parted, .ref a_t_trace, .int v_traced])), (a_t_trace, .inl (bs_I g, 30, .inl v_trace))] sz)) (h_X6_above : ∀ (a_t : Nat) (v_kind : Int32) (v_k : Int32) (v_m : Int32) (v_parted : Int32) (a_t_trace : Nat) (v_traced : Int32) (v_trace : Nat → Int32) (sz : Nat) (x1 : Int32) (x2 : Int32) (x3 : Int32) (x4 : Int32) (K : Int32 → Int32 → Int32 → (Nat → Int32) → Prop), R_X6_above x1 x2 x3 x4 v_kind v_k v_m v_parted v_traced v_trace K → Met l yX6_above wsX6_above ({ frames := d + 1, cells := 0, slots := 0, locals := 26 * d + 20 } : Room) (bs_Pc g [.ref a_t, .int x1, .int x2, .int x3, .int x4] [(a_t, .inr (5, [.int v_kind, .int v_k, .int v_m, .int v_parted, .ref a_t_trace, .int v_traced])), (a_t_trace, .inl (bs_I g, 30, .inl v_trace))] sz) (bs_Qi g [(a_t, .inr (5, [.int v_kind, .int v_k, .int v_m, .int v_parted, .ref a_t_trace, .int v_traced])), (a_t_trace, .inl (bs_I g, 30, .inl v_trace))] sz (fun (r : Int32) (u : Int32 × Int32 × (Nat → Int32)) => K r u.1 u.2.1 u.2.2) (fun (u : Int32 × Int32 × (Nat → Int32)) => ([(a_t, .inr (5, [.int v_kind, .int v_k, .int v_m, .int u.1, .ref a_t_trace, .int u.2.1])), (a_t_trace, .inl (bs_I g, 30, .inl u.2.2))] : va_W))) 0 0 (va_A [(a_t, .inr (5, [.int v_kind, .int v_k, .int v_m, .int v_parted, .ref a_t_trace, .int v_traced])), (a_t_trace, .inl (bs_I g, 30, .inl v_trace))] sz)) (h_X6_from : ∀ (a_t : Nat) (v_kind : Int32) (v_k : Int32) (v_m : Int32) (v_parted : Int32) (a_t_trace : Nat) (v_traced : Int32) (v_trace : Nat → Int32) (sz : Nat) (x1 : Int32) (x2 : Int32) (x3 : Int32) (x4 : Int32) (K : Int32 → Int32 → Int32 → (Nat → Int32) → Prop), R_X6_from x1 x2 x3 x4 v_kind v_k v_m v_parted v_traced v_trace K → Met l yX6_from wsX6_from ({ frames := d + 1, cells := 0, slots := 0, locals := 26 * d + 20 } : Room) (bs_Pc g [.ref a_t, .int x1, .int x2, .int x3, .int x4] [(a_t, .inr (5, [.int v_kind, .int v_k, .int v_m, .int v_parted, .ref a_t_trace, .int v_traced])), (a_t_trace, .inl (bs_I g, 30, .inl v_trace))] sz) (bs_Qi g [(a_t, .inr (5, [.int v_kind, .int v_k, .int v_m, .int v_parted, .ref a_t_trace, .int v_traced])), (a_t_trace, .inl (bs_I g, 30, .inl v_trace))] sz (fun (r : Int32) (u : Int32 × Int32 × (Nat → Int32)) => K r u.1 u.2.1 u.2.2) (fun (u : Int32 × Int32 × (Nat → Int32)) => ([(a_t, .inr (5, [.int v_kind, .int v_k, .int v_m, .int u.1, .ref a_t_trace, .int u.2.1])), (a_t_trace, .inl (bs_I g, 30, .inl u.2.2))] : va_W))) 0 0 (va_A [(a_t, .inr (5, [.int v_kind, .int v_k, .int v_m, .int v_parted, .ref a_t_trace, .int v_traced])), (a_t_trace, .inl (bs_I g, 30, .inl v_trace))] sz)) (h_X6_run : ∀ (a_t : Nat) (v_kind : Int32) (v_k : Int32) (v_m : Int32) (v_parted : Int32) (a_t_trace : Nat) (v_traced : Int32) (v_trace : Nat → Int32) (sz : Nat) (x1 : Int32) (x2 : Int32) (x3 : Int32) (K : Int32 → Int32 → Int32 → (Nat → Int32) → Prop), R_X6_run x1 x2 x3 v_kind v_k v_m v_parted v_traced v_trace K → Met l yX6_run wsX6_run ({ frames := d + 1, cells := 0, slots := 0, locals := 26 * d + 20 } : Room) (bs_Pc g [.ref a_t, .int x1, .int x2, .int x3] [(a_t, .inr (5, [.int v_kind, .int v_k, .int v_m, .int v_parted, .ref a_t_trace, .int v_traced])), (a_t_trace, .inl (bs_I g, 30, .inl v_trace))] sz) (bs_Qi g [(a_t, .inr (5, [.int v_kind, .int v_k, .int v_m, .int v_parted, .ref a_t_trace, .int v_traced])), (a_t_trace, .inl (bs_I g, 30, .inl v_trace))] sz (fun (r : Int32) (u : Int32 × Int32 × (Nat → Int32)) => K r u.1 u.2.1 u.2.2) (fun (u : Int32 × Int32 × (Nat → Int32)) => ([(a_t, .inr (5, [.int v_kind, .int v_k, .int v_m, .int u.1, .ref a_t_trace, .int u.2.1])), (a_t_trace, .inl (bs_I g, 30, .inl u.2.2))] : va_W))) 0 0 (va_A [(a_t, .inr (5, [.int v_kind, .int v_k, .int v_m, .int v_parted, .ref a_t_trace, .int v_traced])), (a_t_trace, .inl (bs_I g, 30, .inl v_trace))] sz)) (a_t : Nat) (v_kind : Int32) (v_k : Int32) (v_m : Int32) (v_parted : Int32) (a_t_trace : Nat) (v_traced : Int32) (v_trace : Nat → Int32) (sz : Nat) (x1 : Int32) (x2 : Int32) (x3 : Int32) (K : Int32 → Int32 → Int32 → (Nat → Int32) → Prop) (hw : wpX6_own R_X6_own R_X6_above R_X6_from R_X6_run x1 x2 x3 v_kind v_k v_m v_parted v_traced v_trace K) : Met l yX6_own wsX6_own ({ frames := (d + 1) + 1, cells := 0, slots := 0, locals := 26 * ((d + 1)) + 20 } : Room) (bs_Pc g [.ref a_t, .int x1, .int x2, .int x3] [(a_t, .inr (5, [.int v_kind, .int v_k, .int v_m, .int v_parted, .ref a_t_trace, .int v_traced])), (a_t_trace, .inl (bs_I g, 30, .inl v_trace))] sz) (bs_Qi g [(a_t, .inr (5, [.int v_kind, .int v_k, .int v_m, .int v_parted, .ref a_t_trace, .int v_traced])), (a_t_trace, .inl (bs_I g, 30, .inl v_trace))] sz (fun (r : Int32) (u : Int32 × Int32 × (Nat → Int32)) => K r u.1 u.2.1 u.2.2) (fun (u : Int32 × Int32 × (Nat → Int32)) => ([(a_t, .inr (5, [.int v_kind, .int v_k, .int v_m, .int u.1, .ref a_t_trace, .int u.2.1])), (a_t_trace, .inl (bs_I g, 30, .inl u.2.2))] : va_W))) 0 0 (va_A [(a_t, .inr (5, [.int v_kind, .int v_k, .int v_m, .int v_parted, .ref a_t_trace, .int v_traced])), (a_t_trace, .inl (bs_I g, 30, .inl v_trace))] sz) := by
  refine ent_i (cc := cX6_own) (maxL := 4) (rt := .int) (by decide) rfl (Nat.le_of_ble_eq_true rfl) ?_
  intro p e s m below meth c Q A hF hsz hP hD hS ret ls hl
  obtain ⟨⟨hx, hb, hml, hown, hts⟩, hK, hG, hA⟩ := id hF
  have hown : s.vm.findClass RX6 = some m.cls := hown
  have hl : lv_has ls 4 [(0, .ref a_t), (1, .int x1), (2, .int x2), (3, .int x3)] := hl
  refine lv_aload_n hx hb dX6_own_0 rfl (lv_at hl 0 rfl) ?_
  refine lv_aload_n hx hb dX6_own_1 rfl (lv_at hl 0 rfl) ?_
  refine va_get (D := g.1) (ci := 5) (v := .int v_kind) (C := RX6) (T := TX6) (N := 6) hx hb hts hiX6_own_X6 hown hK hP 0 rfl rfl 0 (by decide) (hts (.fieldLink RX6 15 "LionSigns$Voices" "kind" "I") (by decide +kernel)) (fun _ h9 => h9) rfl dX6_own_2 ?_
  refine lv_iload_n hx hb dX6_own_5 rfl (lv_at hl 1 rfl) ?_
  refine lv_iload_n hx hb dX6_own_6 rfl (lv_at hl 2 rfl) ?_
  refine lv_iload_n hx hb dX6_own_7 rfl (lv_at hl 3 rfl) ?_
  refine cv_i (wc := [(a_t, .inr (5, [.int v_kind, .int v_k, .int v_m, .int v_parted, .ref a_t_trace, .int v_traced])), (a_t_trace, .inl (bs_I g, 30, .inl v_trace))]) (wr := []) (As := [.int v_kind, .int x1, .int x2, .int x3]) (rest := []) (q := (RX6, TX6, 6)) hF (h_X6_from _ _ _ _ _ _ _ _ _ _ _ _ _ _ hw) (cwV 4 hts gX6_own_X6_from rfl rfl rfl hdX6_from ⟨by try dsimp only; omega, by try dsimp only; omega⟩) rfl hS hP hD 0 5 rfl rfl [0, 1] [] rfl rfl (by decide) (by decide) (by decide) hl.1 rfl (Nat.le_of_ble_eq_true rfl) dX6_own_8 (fun r8 u H locs hw hP hD hS => ?_)
  obtain ⟨u8_0, u8_1, u8_2⟩ := u
  try dsimp only at hw
  have hP : bs_P g [(a_t, .inr (5, [.int v_kind, .int v_k, .int v_m, .int u8_0, .ref a_t_trace, .int u8_1])), (a_t_trace, .inl (bs_I g, 30, .inl u8_2))] H := va_P.sub hP [0, 1] rfl
  have hD : va_D A [(a_t, .inr (5, [.int v_kind, .int v_k, .int v_m, .int u8_0, .ref a_t_trace, .int u8_1])), (a_t_trace, .inl (bs_I g, 30, .inl u8_2))] := va_D.sub hD [0, 1] (by decide) rfl
  exact ret _ _ _ _ r8 (u8_0, u8_1, u8_2) dX6_own_11 rfl hw hP hD hS
set_option maxHeartbeats 4000000 in
set_option maxRecDepth 100000 in
theorem koX6_above {l : Launch} {g : bs_G} {d : Nat} {R_X6_own : Int32 → Int32 → Int32 → Int32 → Int32 → Int32 → Int32 → Int32 → (Nat → Int32) → (Int32 → Int32 → Int32 → (Nat → Int32) → Prop) → Prop} {R_X6_above : Int32 → Int32 → Int32 → Int32 → Int32 → Int32 → Int32 → Int32 → Int32 → (Nat → Int32) → (Int32 → Int32 → Int32 → (Nat → Int32) → Prop) → Prop} {R_X6_from : Int32 → Int32 → Int32 → Int32 → Int32 → Int32 → Int32 → Int32 → Int32 → (Nat → Int32) → (Int32 → Int32 → Int32 → (Nat → Int32) → Prop) → Prop} {R_X6_run : Int32 → Int32 → Int32 → Int32 → Int32 → Int32 → Int32 → Int32 → (Nat → Int32) → (Int32 → Int32 → Int32 → (Nat → Int32) → Prop) → Prop} (h_X6_own : ∀ (a_t : Nat) (v_kind : Int32) (v_k : Int32) (v_m : Int32) (v_parted : Int32) (a_t_trace : Nat) (v_traced : Int32) (v_trace : Nat → Int32) (sz : Nat) (x1 : Int32) (x2 : Int32) (x3 : Int32) (K : Int32 → Int32 → Int32 → (Nat → Int32) → Prop), R_X6_own x1 x2 x3 v_kind v_k v_m v_parted v_traced v_trace K → Met l yX6_own wsX6_own ({ frames := d + 1, cells := 0, slots := 0, locals := 26 * d + 20 } : Room) (bs_Pc g [.ref a_t, .int x1, .int x2, .int x3] [(a_t, .inr (5, [.int v_kind, .int v_k, .int v_m, .int v_parted, .ref a_t_trace, .int v_traced])), (a_t_trace, .inl (bs_I g, 30, .inl v_trace))] sz) (bs_Qi g [(a_t, .inr (5, [.int v_kind, .int v_k, .int v_m, .int v_parted, .ref a_t_trace, .int v_traced])), (a_t_trace, .inl (bs_I g, 30, .inl v_trace))] sz (fun (r : Int32) (u : Int32 × Int32 × (Nat → Int32)) => K r u.1 u.2.1 u.2.2) (fun (u : Int32 × Int32 × (Nat → Int32)) => ([(a_t, .inr (5, [.int v_kind, .int v_k, .int v_m, .int u.1, .ref a_t_trace, .int u.2.1])), (a_t_trace, .inl (bs_I g, 30, .inl u.2.2))] : va_W))) 0 0 (va_A [(a_t, .inr (5, [.int v_kind, .int v_k, .int v_m, .int v_parted, .ref a_t_trace, .int v_traced])), (a_t_trace, .inl (bs_I g, 30, .inl v_trace))] sz)) (h_X6_above : ∀ (a_t : Nat) (v_kind : Int32) (v_k : Int32) (v_m : Int32) (v_parted : Int32) (a_t_trace : Nat) (v_traced : Int32) (v_trace : Nat → Int32) (sz : Nat) (x1 : Int32) (x2 : Int32) (x3 : Int32) (x4 : Int32) (K : Int32 → Int32 → Int32 → (Nat → Int32) → Prop), R_X6_above x1 x2 x3 x4 v_kind v_k v_m v_parted v_traced v_trace K → Met l yX6_above wsX6_above ({ frames := d + 1, cells := 0, slots := 0, locals := 26 * d + 20 } : Room) (bs_Pc g [.ref a_t, .int x1, .int x2, .int x3, .int x4] [(a_t, .inr (5, [.int v_kind, .int v_k, .int v_m, .int v_parted, .ref a_t_trace, .int v_traced])), (a_t_trace, .inl (bs_I g, 30, .inl v_trace))] sz) (bs_Qi g [(a_t, .inr (5, [.int v_kind, .int v_k, .int v_m, .int v_parted, .ref a_t_trace, .int v_traced])), (a_t_trace, .inl (bs_I g, 30, .inl v_trace))] sz (fun (r : Int32) (u : Int32 × Int32 × (Nat → Int32)) => K r u.1 u.2.1 u.2.2) (fun (u : Int32 × Int32 × (Nat → Int32)) => ([(a_t, .inr (5, [.int v_kind, .int v_k, .int v_m, .int u.1, .ref a_t_trace, .int u.2.1])), (a_t_trace, .inl (bs_I g, 30, .inl u.2.2))] : va_W))) 0 0 (va_A [(a_t, .inr (5, [.int v_kind, .int v_k, .int v_m, .int v_parted, .ref a_t_trace, .int v_traced])), (a_t_trace, .inl (bs_I g, 30, .inl v_trace))] sz)) (h_X6_from : ∀ (a_t : Nat) (v_kind : Int32) (v_k : Int32) (v_m : Int32) (v_parted : Int32) (a_t_trace : Nat) (v_traced : Int32) (v_trace : Nat → Int32) (sz : Nat) (x1 : Int32) (x2 : Int32) (x3 : Int32) (x4 : Int32) (K : Int32 → Int32 → Int32 → (Nat → Int32) → Prop), R_X6_from x1 x2 x3 x4 v_kind v_k v_m v_parted v_traced v_trace K → Met l yX6_from wsX6_from ({ frames := d + 1, cells := 0, slots := 0, locals := 26 * d + 20 } : Room) (bs_Pc g [.ref a_t, .int x1, .int x2, .int x3, .int x4] [(a_t, .inr (5, [.int v_kind, .int v_k, .int v_m, .int v_parted, .ref a_t_trace, .int v_traced])), (a_t_trace, .inl (bs_I g, 30, .inl v_trace))] sz) (bs_Qi g [(a_t, .inr (5, [.int v_kind, .int v_k, .int v_m, .int v_parted, .ref a_t_trace, .int v_traced])), (a_t_trace, .inl (bs_I g, 30, .inl v_trace))] sz (fun (r : Int32) (u : Int32 × Int32 × (Nat → Int32)) => K r u.1 u.2.1 u.2.2) (fun (u : Int32 × Int32 × (Nat → Int32)) => ([(a_t, .inr (5, [.int v_kind, .int v_k, .int v_m, .int u.1, .ref a_t_trace, .int u.2.1])), (a_t_trace, .inl (bs_I g, 30, .inl u.2.2))] : va_W))) 0 0 (va_A [(a_t, .inr (5, [.int v_kind, .int v_k, .int v_m, .int v_parted, .ref a_t_trace, .int v_traced])), (a_t_trace, .inl (bs_I g, 30, .inl v_trace))] sz)) (h_X6_run : ∀ (a_t : Nat) (v_kind : Int32) (v_k : Int32) (v_m : Int32) (v_parted : Int32) (a_t_trace : Nat) (v_traced : Int32) (v_trace : Nat → Int32) (sz : Nat) (x1 : Int32) (x2 : Int32) (x3 : Int32) (K : Int32 → Int32 → Int32 → (Nat → Int32) → Prop), R_X6_run x1 x2 x3 v_kind v_k v_m v_parted v_traced v_trace K → Met l yX6_run wsX6_run ({ frames := d + 1, cells := 0, slots := 0, locals := 26 * d + 20 } : Room) (bs_Pc g [.ref a_t, .int x1, .int x2, .int x3] [(a_t, .inr (5, [.int v_kind, .int v_k, .int v_m, .int v_parted, .ref a_t_trace, .int v_traced])), (a_t_trace, .inl (bs_I g, 30, .inl v_trace))] sz) (bs_Qi g [(a_t, .inr (5, [.int v_kind, .int v_k, .int v_m, .int v_parted, .ref a_t_trace, .int v_traced])), (a_t_trace, .inl (bs_I g, 30, .inl v_trace))] sz (fun (r : Int32) (u : Int32 × Int32 × (Nat → Int32)) => K r u.1 u.2.1 u.2.2) (fun (u : Int32 × Int32 × (Nat → Int32)) => ([(a_t, .inr (5, [.int v_kind, .int v_k, .int v_m, .int u.1, .ref a_t_trace, .int u.2.1])), (a_t_trace, .inl (bs_I g, 30, .inl u.2.2))] : va_W))) 0 0 (va_A [(a_t, .inr (5, [.int v_kind, .int v_k, .int v_m, .int v_parted, .ref a_t_trace, .int v_traced])), (a_t_trace, .inl (bs_I g, 30, .inl v_trace))] sz)) (a_t : Nat) (v_kind : Int32) (v_k : Int32) (v_m : Int32) (v_parted : Int32) (a_t_trace : Nat) (v_traced : Int32) (v_trace : Nat → Int32) (sz : Nat) (x1 : Int32) (x2 : Int32) (x3 : Int32) (x4 : Int32) (K : Int32 → Int32 → Int32 → (Nat → Int32) → Prop) (hw : wpX6_above R_X6_own R_X6_above R_X6_from R_X6_run x1 x2 x3 x4 v_kind v_k v_m v_parted v_traced v_trace K) : Met l yX6_above wsX6_above ({ frames := (d + 1) + 1, cells := 0, slots := 0, locals := 26 * ((d + 1)) + 20 } : Room) (bs_Pc g [.ref a_t, .int x1, .int x2, .int x3, .int x4] [(a_t, .inr (5, [.int v_kind, .int v_k, .int v_m, .int v_parted, .ref a_t_trace, .int v_traced])), (a_t_trace, .inl (bs_I g, 30, .inl v_trace))] sz) (bs_Qi g [(a_t, .inr (5, [.int v_kind, .int v_k, .int v_m, .int v_parted, .ref a_t_trace, .int v_traced])), (a_t_trace, .inl (bs_I g, 30, .inl v_trace))] sz (fun (r : Int32) (u : Int32 × Int32 × (Nat → Int32)) => K r u.1 u.2.1 u.2.2) (fun (u : Int32 × Int32 × (Nat → Int32)) => ([(a_t, .inr (5, [.int v_kind, .int v_k, .int v_m, .int u.1, .ref a_t_trace, .int u.2.1])), (a_t_trace, .inl (bs_I g, 30, .inl u.2.2))] : va_W))) 0 0 (va_A [(a_t, .inr (5, [.int v_kind, .int v_k, .int v_m, .int v_parted, .ref a_t_trace, .int v_traced])), (a_t_trace, .inl (bs_I g, 30, .inl v_trace))] sz) := by
  refine ent_i (cc := cX6_above) (maxL := 5) (rt := .int) (by decide) rfl (Nat.le_of_ble_eq_true rfl) ?_
  intro p e s m below meth c Q A hF hsz hP hD hS ret ls hl
  obtain ⟨⟨hx, hb, hml, hown, hts⟩, hK, hG, hA⟩ := id hF
  have hown : s.vm.findClass RX6 = some m.cls := hown
  have hl : lv_has ls 5 [(0, .ref a_t), (1, .int x1), (2, .int x2), (3, .int x3), (4, .int x4)] := hl
  refine lv_aload_n hx hb dX6_above_0 rfl (lv_at hl 0 rfl) ?_
  refine lv_iload_n hx hb dX6_above_1 rfl (lv_at hl 1 rfl) ?_
  refine lv_bipush (v := 10) hx hb dX6_above_2 (by decide) ?_
  refine lv_idiv hx hb dX6_above_4 (by decide) ?_
  refine lv_iconst (v := 1) hx hb dX6_above_5 (by decide) ?_
  refine lv_isub hx hb dX6_above_6 ?_
  refine cs_i (wc := []) (wr := [(a_t, .inr (5, [.int v_kind, .int v_k, .int v_m, .int v_parted, .ref a_t_trace, .int v_traced])), (a_t_trace, .inl (bs_I g, 30, .inl v_trace))]) (As := [.int ((x1 / 10) - 1)]) (rest := [.ref a_t]) hF (kX0_above hw) (va_cwS 1 hts gX6_above_X0_above rfl rfl rfl hdX0_above ⟨by try dsimp only; omega, by try dsimp only; omega⟩) rfl hS hP hD [] [0, 1] rfl rfl (by decide) (by decide) (by decide) hl.1 rfl (Nat.le_of_ble_eq_true rfl) dX6_above_7 (fun r7 _ H locs hw hP hD hS => ?_)
  try dsimp only at hw
  have hP : bs_P g [(a_t, .inr (5, [.int v_kind, .int v_k, .int v_m, .int v_parted, .ref a_t_trace, .int v_traced])), (a_t_trace, .inl (bs_I g, 30, .inl v_trace))] H := va_P.sub hP [0, 1] rfl
  have hD : va_D A [(a_t, .inr (5, [.int v_kind, .int v_k, .int v_m, .int v_parted, .ref a_t_trace, .int v_traced])), (a_t_trace, .inl (bs_I g, 30, .inl v_trace))] := va_D.sub hD [0, 1] (by decide) rfl
  refine lv_iload_n hx hb dX6_above_10 rfl (lv_at hl 2 rfl) ?_
  refine lv_iload_n hx hb dX6_above_11 rfl (lv_at hl 3 rfl) ?_
  refine lv_iload hx hb dX6_above_12 (lv_at hl 4 rfl) ?_
  refine cv_i (wc := [(a_t, .inr (5, [.int v_kind, .int v_k, .int v_m, .int v_parted, .ref a_t_trace, .int v_traced])), (a_t_trace, .inl (bs_I g, 30, .inl v_trace))]) (wr := []) (As := [.int r7, .int x2, .int x3, .int x4]) (rest := []) (q := (RX6, TX6, 6)) hF (h_X6_from _ _ _ _ _ _ _ _ _ _ _ _ _ _ hw) (cwV 4 hts gX6_above_X6_from rfl rfl rfl hdX6_from ⟨by try dsimp only; omega, by try dsimp only; omega⟩) rfl hS hP hD 0 5 rfl rfl [0, 1] [] rfl rfl (by decide) (by decide) (by decide) hl.1 rfl (Nat.le_of_ble_eq_true rfl) dX6_above_14 (fun r14 u H locs hw hP hD hS => ?_)
  obtain ⟨u14_0, u14_1, u14_2⟩ := u
  try dsimp only at hw
  have hP : bs_P g [(a_t, .inr (5, [.int v_kind, .int v_k, .int v_m, .int u14_0, .ref a_t_trace, .int u14_1])), (a_t_trace, .inl (bs_I g, 30, .inl u14_2))] H := va_P.sub hP [0, 1] rfl
  have hD : va_D A [(a_t, .inr (5, [.int v_kind, .int v_k, .int v_m, .int u14_0, .ref a_t_trace, .int u14_1])), (a_t_trace, .inl (bs_I g, 30, .inl u14_2))] := va_D.sub hD [0, 1] (by decide) rfl
  exact ret _ _ _ _ r14 (u14_0, u14_1, u14_2) dX6_above_17 rfl hw hP hD hS
set_option maxHeartbeats 4000000 in
set_option maxRecDepth 100000 in
theorem koX6_from {l : Launch} {g : bs_G} {d : Nat} {R_X6_own : Int32 → Int32 → Int32 → Int32 → Int32 → Int32 → Int32 → Int32 → (Nat → Int32) → (Int32 → Int32 → Int32 → (Nat → Int32) → Prop) → Prop} {R_X6_above : Int32 → Int32 → Int32 → Int32 → Int32 → Int32 → Int32 → Int32 → Int32 → (Nat → Int32) → (Int32 → Int32 → Int32 → (Nat → Int32) → Prop) → Prop} {R_X6_from : Int32 → Int32 → Int32 → Int32 → Int32 → Int32 → Int32 → Int32 → Int32 → (Nat → Int32) → (Int32 → Int32 → Int32 → (Nat → Int32) → Prop) → Prop} {R_X6_run : Int32 → Int32 → Int32 → Int32 → Int32 → Int32 → Int32 → Int32 → (Nat → Int32) → (Int32 → Int32 → Int32 → (Nat → Int32) → Prop) → Prop} (h_X6_own : ∀ (a_t : Nat) (v_kind : Int32) (v_k : Int32) (v_m : Int32) (v_parted : Int32) (a_t_trace : Nat) (v_traced : Int32) (v_trace : Nat → Int32) (sz : Nat) (x1 : Int32) (x2 : Int32) (x3 : Int32) (K : Int32 → Int32 → Int32 → (Nat → Int32) → Prop), R_X6_own x1 x2 x3 v_kind v_k v_m v_parted v_traced v_trace K → Met l yX6_own wsX6_own ({ frames := d + 1, cells := 0, slots := 0, locals := 26 * d + 20 } : Room) (bs_Pc g [.ref a_t, .int x1, .int x2, .int x3] [(a_t, .inr (5, [.int v_kind, .int v_k, .int v_m, .int v_parted, .ref a_t_trace, .int v_traced])), (a_t_trace, .inl (bs_I g, 30, .inl v_trace))] sz) (bs_Qi g [(a_t, .inr (5, [.int v_kind, .int v_k, .int v_m, .int v_parted, .ref a_t_trace, .int v_traced])), (a_t_trace, .inl (bs_I g, 30, .inl v_trace))] sz (fun (r : Int32) (u : Int32 × Int32 × (Nat → Int32)) => K r u.1 u.2.1 u.2.2) (fun (u : Int32 × Int32 × (Nat → Int32)) => ([(a_t, .inr (5, [.int v_kind, .int v_k, .int v_m, .int u.1, .ref a_t_trace, .int u.2.1])), (a_t_trace, .inl (bs_I g, 30, .inl u.2.2))] : va_W))) 0 0 (va_A [(a_t, .inr (5, [.int v_kind, .int v_k, .int v_m, .int v_parted, .ref a_t_trace, .int v_traced])), (a_t_trace, .inl (bs_I g, 30, .inl v_trace))] sz)) (h_X6_above : ∀ (a_t : Nat) (v_kind : Int32) (v_k : Int32) (v_m : Int32) (v_parted : Int32) (a_t_trace : Nat) (v_traced : Int32) (v_trace : Nat → Int32) (sz : Nat) (x1 : Int32) (x2 : Int32) (x3 : Int32) (x4 : Int32) (K : Int32 → Int32 → Int32 → (Nat → Int32) → Prop), R_X6_above x1 x2 x3 x4 v_kind v_k v_m v_parted v_traced v_trace K → Met l yX6_above wsX6_above ({ frames := d + 1, cells := 0, slots := 0, locals := 26 * d + 20 } : Room) (bs_Pc g [.ref a_t, .int x1, .int x2, .int x3, .int x4] [(a_t, .inr (5, [.int v_kind, .int v_k, .int v_m, .int v_parted, .ref a_t_trace, .int v_traced])), (a_t_trace, .inl (bs_I g, 30, .inl v_trace))] sz) (bs_Qi g [(a_t, .inr (5, [.int v_kind, .int v_k, .int v_m, .int v_parted, .ref a_t_trace, .int v_traced])), (a_t_trace, .inl (bs_I g, 30, .inl v_trace))] sz (fun (r : Int32) (u : Int32 × Int32 × (Nat → Int32)) => K r u.1 u.2.1 u.2.2) (fun (u : Int32 × Int32 × (Nat → Int32)) => ([(a_t, .inr (5, [.int v_kind, .int v_k, .int v_m, .int u.1, .ref a_t_trace, .int u.2.1])), (a_t_trace, .inl (bs_I g, 30, .inl u.2.2))] : va_W))) 0 0 (va_A [(a_t, .inr (5, [.int v_kind, .int v_k, .int v_m, .int v_parted, .ref a_t_trace, .int v_traced])), (a_t_trace, .inl (bs_I g, 30, .inl v_trace))] sz)) (h_X6_from : ∀ (a_t : Nat) (v_kind : Int32) (v_k : Int32) (v_m : Int32) (v_parted : Int32) (a_t_trace : Nat) (v_traced : Int32) (v_trace : Nat → Int32) (sz : Nat) (x1 : Int32) (x2 : Int32) (x3 : Int32) (x4 : Int32) (K : Int32 → Int32 → Int32 → (Nat → Int32) → Prop), R_X6_from x1 x2 x3 x4 v_kind v_k v_m v_parted v_traced v_trace K → Met l yX6_from wsX6_from ({ frames := d + 1, cells := 0, slots := 0, locals := 26 * d + 20 } : Room) (bs_Pc g [.ref a_t, .int x1, .int x2, .int x3, .int x4] [(a_t, .inr (5, [.int v_kind, .int v_k, .int v_m, .int v_parted, .ref a_t_trace, .int v_traced])), (a_t_trace, .inl (bs_I g, 30, .inl v_trace))] sz) (bs_Qi g [(a_t, .inr (5, [.int v_kind, .int v_k, .int v_m, .int v_parted, .ref a_t_trace, .int v_traced])), (a_t_trace, .inl (bs_I g, 30, .inl v_trace))] sz (fun (r : Int32) (u : Int32 × Int32 × (Nat → Int32)) => K r u.1 u.2.1 u.2.2) (fun (u : Int32 × Int32 × (Nat → Int32)) => ([(a_t, .inr (5, [.int v_kind, .int v_k, .int v_m, .int u.1, .ref a_t_trace, .int u.2.1])), (a_t_trace, .inl (bs_I g, 30, .inl u.2.2))] : va_W))) 0 0 (va_A [(a_t, .inr (5, [.int v_kind, .int v_k, .int v_m, .int v_parted, .ref a_t_trace, .int v_traced])), (a_t_trace, .inl (bs_I g, 30, .inl v_trace))] sz)) (h_X6_run : ∀ (a_t : Nat) (v_kind : Int32) (v_k : Int32) (v_m : Int32) (v_parted : Int32) (a_t_trace : Nat) (v_traced : Int32) (v_trace : Nat → Int32) (sz : Nat) (x1 : Int32) (x2 : Int32) (x3 : Int32) (K : Int32 → Int32 → Int32 → (Nat → Int32) → Prop), R_X6_run x1 x2 x3 v_kind v_k v_m v_parted v_traced v_trace K → Met l yX6_run wsX6_run ({ frames := d + 1, cells := 0, slots := 0, locals := 26 * d + 20 } : Room) (bs_Pc g [.ref a_t, .int x1, .int x2, .int x3] [(a_t, .inr (5, [.int v_kind, .int v_k, .int v_m, .int v_parted, .ref a_t_trace, .int v_traced])), (a_t_trace, .inl (bs_I g, 30, .inl v_trace))] sz) (bs_Qi g [(a_t, .inr (5, [.int v_kind, .int v_k, .int v_m, .int v_parted, .ref a_t_trace, .int v_traced])), (a_t_trace, .inl (bs_I g, 30, .inl v_trace))] sz (fun (r : Int32) (u : Int32 × Int32 × (Nat → Int32)) => K r u.1 u.2.1 u.2.2) (fun (u : Int32 × Int32 × (Nat → Int32)) => ([(a_t, .inr (5, [.int v_kind, .int v_k, .int v_m, .int u.1, .ref a_t_trace, .int u.2.1])), (a_t_trace, .inl (bs_I g, 30, .inl u.2.2))] : va_W))) 0 0 (va_A [(a_t, .inr (5, [.int v_kind, .int v_k, .int v_m, .int v_parted, .ref a_t_trace, .int v_traced])), (a_t_trace, .inl (bs_I g, 30, .inl v_trace))] sz)) (a_t : Nat) (v_kind : Int32) (v_k : Int32) (v_m : Int32) (v_parted : Int32) (a_t_trace : Nat) (v_traced : Int32) (v_trace : Nat → Int32) (sz : Nat) (x1 : Int32) (x2 : Int32) (x3 : Int32) (x4 : Int32) (K : Int32 → Int32 → Int32 → (Nat → Int32) → Prop) (hw : wpX6_from R_X6_own R_X6_above R_X6_from R_X6_run x1 x2 x3 x4 v_kind v_k v_m v_parted v_traced v_trace K) : Met l yX6_from wsX6_from ({ frames := (d + 1) + 1, cells := 0, slots := 0, locals := 26 * ((d + 1)) + 20 } : Room) (bs_Pc g [.ref a_t, .int x1, .int x2, .int x3, .int x4] [(a_t, .inr (5, [.int v_kind, .int v_k, .int v_m, .int v_parted, .ref a_t_trace, .int v_traced])), (a_t_trace, .inl (bs_I g, 30, .inl v_trace))] sz) (bs_Qi g [(a_t, .inr (5, [.int v_kind, .int v_k, .int v_m, .int v_parted, .ref a_t_trace, .int v_traced])), (a_t_trace, .inl (bs_I g, 30, .inl v_trace))] sz (fun (r : Int32) (u : Int32 × Int32 × (Nat → Int32)) => K r u.1 u.2.1 u.2.2) (fun (u : Int32 × Int32 × (Nat → Int32)) => ([(a_t, .inr (5, [.int v_kind, .int v_k, .int v_m, .int u.1, .ref a_t_trace, .int u.2.1])), (a_t_trace, .inl (bs_I g, 30, .inl u.2.2))] : va_W))) 0 0 (va_A [(a_t, .inr (5, [.int v_kind, .int v_k, .int v_m, .int v_parted, .ref a_t_trace, .int v_traced])), (a_t_trace, .inl (bs_I g, 30, .inl v_trace))] sz) := by
  refine ent_i (cc := cX6_from) (maxL := 7) (rt := .int) (by decide) rfl (Nat.le_of_ble_eq_true rfl) ?_
  intro p e s m below meth c Q A hF hsz hP hD hS ret ls hl
  obtain ⟨⟨hx, hb, hml, hown, hts⟩, hK, hG, hA⟩ := id hF
  have hown : s.vm.findClass RX6 = some m.cls := hown
  have hl : lv_has ls 7 [(0, .ref a_t), (1, .int x1), (2, .int x2), (3, .int x3), (4, .int x4)] := hl
  refine lv_iconst (v := 4) hx hb dX6_from_0 (by decide) ?_
  refine lv_iload_n hx hb dX6_from_1 rfl (lv_at hl 1 rfl) ?_
  refine lv_imul hx hb dX6_from_2 ?_
  refine lv_iload_n hx hb dX6_from_3 rfl (lv_at hl 2 rfl) ?_
  refine lv_iadd hx hb dX6_from_4 ?_
  refine lv_istore (lv' := [(5, .int ((4 * x1) + x2)), (0, .ref a_t), (1, .int x1), (2, .int x2), (3, .int x3), (4, .int x4)]) hx hb dX6_from_5 hl (by decide) rfl (fun ls hl => ?_)
  refine lv_aload_n hx hb dX6_from_7 rfl (lv_at hl 1 rfl) ?_
  refine va_get (D := g.1) (ci := 5) (v := .int v_parted) (C := RX6) (T := TX6) (N := 6) hx hb hts hiX6_from_X6 hown hK hP 0 rfl rfl 3 (by decide) (hts (.fieldLink RX6 25 "LionSigns$Voices" "parted" "Z") (by decide +kernel)) (fun _ h9 => h9) rfl dX6_from_8 ?_
  refine lv_if_ne (tgt := 35) hx hb dX6_from_11 (by decide) (fun c11 => ?_) (fun c11 => ?_)
  · replace hw := hw.2 c11
    refine lv_iconst (v := 0) hx hb dX6_from_35 (by decide) ?_
    exact ret _ _ _ _ 0 (v_parted, v_traced, v_trace) dX6_from_36 rfl hw hP hD hS
  · replace hw := hw.1 c11
    refine lv_iload hx hb dX6_from_14 (lv_at hl 5 rfl) ?_
    refine lv_bipush (v := 40) hx hb dX6_from_16 (by decide) ?_
    refine lv_icmp_ge (tgt := 35) hx hb dX6_from_18 (by decide) (fun c18 => ?_) (fun c18 => ?_)
    · replace hw := hw.1 c18
      refine lv_iconst (v := 0) hx hb dX6_from_35 (by decide) ?_
      exact ret _ _ _ _ 0 (v_parted, v_traced, v_trace) dX6_from_36 rfl hw hP hD hS
    · replace hw := hw.2 c18
      refine lv_iload hx hb dX6_from_21 (lv_at hl 0 rfl) ?_
      refine lv_if_lt (tgt := 35) hx hb dX6_from_23 (by decide) (fun c23 => ?_) (fun c23 => ?_)
      · replace hw := hw.1 c23
        refine lv_iconst (v := 0) hx hb dX6_from_35 (by decide) ?_
        exact ret _ _ _ _ 0 (v_parted, v_traced, v_trace) dX6_from_36 rfl hw hP hD hS
      · replace hw := hw.2 c23
        refine lv_iload hx hb dX6_from_26 (lv_at hl 0 rfl) ?_
        refine va_gets hx hb hG.1.2.2.1 hS hown (hts (.fieldLink RX6 46 "LionSigns$Voices" "BODIES" "[I") (by decide +kernel)) (fun _ h9 => h9) dX6_from_28 ?_
        refine va_tlen (v := 28) hx hb hG.1.2.2.2.1 hS rfl dX6_from_31 ?_
        refine lv_icmp_lt (tgt := 37) hx hb dX6_from_32 (by decide) (fun c32 => ?_) (fun c32 => ?_)
        · replace hw := hw.1 c32
          refine va_gets hx hb hG.1.2.2.1 hS hown (hts (.fieldLink RX6 46 "LionSigns$Voices" "BODIES" "[I") (by decide +kernel)) (fun _ h9 => h9) dX6_from_37 ?_
          refine lv_iload hx hb dX6_from_40 (lv_at hl 0 rfl) ?_
          refine va_ti (v := .int (tb_bodies ((4 * x1) + x2).toNatClampNeg)) hx hb hG.1.2.2.2.1 hS hw.1 rfl dX6_from_42 ?_
          replace hw := hw.2
          refine lv_istore (lv' := [(6, .int (tb_bodies ((4 * x1) + x2).toNatClampNeg)), (5, .int ((4 * x1) + x2)), (0, .ref a_t), (1, .int x1), (2, .int x2), (3, .int x3), (4, .int x4)]) hx hb dX6_from_43 hl (by decide) rfl (fun ls hl => ?_)
          refine lv_aload_n hx hb dX6_from_45 rfl (lv_at hl 2 rfl) ?_
          refine va_get (D := g.1) (ci := 5) (v := .int v_traced) (C := RX6) (T := TX6) (N := 6) hx hb hts hiX6_from_X6 hown hK hP 0 rfl rfl 5 (by decide) (hts (.fieldLink RX6 29 "LionSigns$Voices" "traced" "I") (by decide +kernel)) (fun _ h9 => h9) rfl dX6_from_46 ?_
          refine lv_bipush (v := 30) hx hb dX6_from_49 (by decide) ?_
          refine lv_icmp_ge (tgt := 75) hx hb dX6_from_51 (by decide) (fun c51 => ?_) (fun c51 => ?_)
          · replace hw := hw.1 c51
            refine lv_aload_n hx hb dX6_from_75 rfl (lv_at hl 2 rfl) ?_
            refine lv_iload hx hb dX6_from_76 (lv_at hl 0 rfl) ?_
            refine lv_iload_n hx hb dX6_from_78 rfl (lv_at hl 5 rfl) ?_
            refine lv_iload hx hb dX6_from_79 (lv_at hl 6 rfl) ?_
            refine lv_iconst (v := 1) hx hb dX6_from_81 (by decide) ?_
            refine lv_iadd hx hb dX6_from_82 ?_
            refine cv_i (wc := [(a_t, .inr (5, [.int v_kind, .int v_k, .int v_m, .int v_parted, .ref a_t_trace, .int v_traced])), (a_t_trace, .inl (bs_I g, 30, .inl v_trace))]) (wr := []) (As := [.int (tb_bodies ((4 * x1) + x2).toNatClampNeg), .int x3, .int (x4 + 1)]) (rest := []) (q := (RX6, TX6, 6)) hF (h_X6_run _ _ _ _ _ _ _ _ _ _ _ _ _ hw) (cwV 3 hts gX6_from_X6_run rfl rfl rfl hdX6_run ⟨by try dsimp only; omega, by try dsimp only; omega⟩) rfl hS hP hD 0 5 rfl rfl [0, 1] [] rfl rfl (by decide) (by decide) (by decide) hl.1 rfl (Nat.le_of_ble_eq_true rfl) dX6_from_83 (fun r83 u H locs hw hP hD hS => ?_)
            obtain ⟨u83_0, u83_1, u83_2⟩ := u
            try dsimp only at hw
            have hP : bs_P g [(a_t, .inr (5, [.int v_kind, .int v_k, .int v_m, .int u83_0, .ref a_t_trace, .int u83_1])), (a_t_trace, .inl (bs_I g, 30, .inl u83_2))] H := va_P.sub hP [0, 1] rfl
            have hD : va_D A [(a_t, .inr (5, [.int v_kind, .int v_k, .int v_m, .int u83_0, .ref a_t_trace, .int u83_1])), (a_t_trace, .inl (bs_I g, 30, .inl u83_2))] := va_D.sub hD [0, 1] (by decide) rfl
            exact ret _ _ _ _ r83 (u83_0, u83_1, u83_2) dX6_from_86 rfl hw hP hD hS
          · replace hw := hw.2 c51
            refine lv_aload_n hx hb dX6_from_54 rfl (lv_at hl 2 rfl) ?_
            refine va_get (D := g.1) (ci := 5) (v := .ref a_t_trace) (C := RX6) (T := TX6) (N := 6) hx hb hts hiX6_from_X6 hown hK hP 0 rfl rfl 4 (by decide) (hts (.fieldLink RX6 9 "LionSigns$Voices" "trace" "[I") (by decide +kernel)) (fun _ h9 => h9) rfl dX6_from_55 ?_
            refine lv_aload_n hx hb dX6_from_58 rfl (lv_at hl 2 rfl) ?_
            refine va_get (D := g.1) (ci := 5) (v := .int v_traced) (C := RX6) (T := TX6) (N := 6) hx hb hts hiX6_from_X6 hown hK hP 0 rfl rfl 5 (by decide) (hts (.fieldLink RX6 29 "LionSigns$Voices" "traced" "I") (by decide +kernel)) (fun _ h9 => h9) rfl dX6_from_59 ?_
            refine lv_iload hx hb dX6_from_62 (lv_at hl 0 rfl) ?_
            refine va_iast hx hb hK hP hD hS 1 0 rfl rfl hw.1 dX6_from_64 (fun H locs hP hD hS => ?_)
            replace hw := hw.2
            have hP : bs_P g [(a_t, .inr (5, [.int v_kind, .int v_k, .int v_m, .int v_parted, .ref a_t_trace, .int v_traced])), (a_t_trace, .inl (bs_I g, 30, .inl (upd v_trace v_traced.toNatClampNeg (tb_bodies ((4 * x1) + x2).toNatClampNeg))))] H := hP
            have hD : va_D A [(a_t, .inr (5, [.int v_kind, .int v_k, .int v_m, .int v_parted, .ref a_t_trace, .int v_traced])), (a_t_trace, .inl (bs_I g, 30, .inl (upd v_trace v_traced.toNatClampNeg (tb_bodies ((4 * x1) + x2).toNatClampNeg))))] := hD
            refine lv_aload_n hx hb dX6_from_65 rfl (lv_at hl 2 rfl) ?_
            refine lv_dup hx hb dX6_from_66 rfl ?_
            refine va_get (D := g.1) (ci := 5) (v := .int v_traced) (C := RX6) (T := TX6) (N := 6) hx hb hts hiX6_from_X6 hown hK hP 0 rfl rfl 5 (by decide) (hts (.fieldLink RX6 29 "LionSigns$Voices" "traced" "I") (by decide +kernel)) (fun _ h9 => h9) rfl dX6_from_67 ?_
            refine lv_iconst (v := 1) hx hb dX6_from_70 (by decide) ?_
            refine lv_iadd hx hb dX6_from_71 ?_
            refine va_put (D := g.1) (ci := 5) (v := .int (v_traced + 1)) (ty := .int) (C := RX6) (T := TX6) (N := 6) hx hb hts hiX6_from_X6 tyX6 tyX6_ok nmX6 hown hK hP hD hS 0 rfl rfl 5 (by decide) (hts (.fieldLink RX6 29 "LionSigns$Voices" "traced" "I") (by decide +kernel)) (fun _ h9 => h9) rfl (by decide +kernel) rfl rfl (Nat.le_of_ble_eq_true rfl) dX6_from_72 (fun H locs hP hD hS => ?_)
            have hP : bs_P g [(a_t, .inr (5, [.int v_kind, .int v_k, .int v_m, .int v_parted, .ref a_t_trace, .int (v_traced + 1)])), (a_t_trace, .inl (bs_I g, 30, .inl (upd v_trace v_traced.toNatClampNeg (tb_bodies ((4 * x1) + x2).toNatClampNeg))))] H := hP
            have hD : va_D A [(a_t, .inr (5, [.int v_kind, .int v_k, .int v_m, .int v_parted, .ref a_t_trace, .int (v_traced + 1)])), (a_t_trace, .inl (bs_I g, 30, .inl (upd v_trace v_traced.toNatClampNeg (tb_bodies ((4 * x1) + x2).toNatClampNeg))))] := hD
            refine lv_aload_n hx hb dX6_from_75 rfl (lv_at hl 2 rfl) ?_
            refine lv_iload hx hb dX6_from_76 (lv_at hl 0 rfl) ?_
            refine lv_iload_n hx hb dX6_from_78 rfl (lv_at hl 5 rfl) ?_
            refine lv_iload hx hb dX6_from_79 (lv_at hl 6 rfl) ?_
            refine lv_iconst (v := 1) hx hb dX6_from_81 (by decide) ?_
            refine lv_iadd hx hb dX6_from_82 ?_
            refine cv_i (wc := [(a_t, .inr (5, [.int v_kind, .int v_k, .int v_m, .int v_parted, .ref a_t_trace, .int (v_traced + 1)])), (a_t_trace, .inl (bs_I g, 30, .inl (upd v_trace v_traced.toNatClampNeg (tb_bodies ((4 * x1) + x2).toNatClampNeg))))]) (wr := []) (As := [.int (tb_bodies ((4 * x1) + x2).toNatClampNeg), .int x3, .int (x4 + 1)]) (rest := []) (q := (RX6, TX6, 6)) hF (h_X6_run _ _ _ _ _ _ _ _ _ _ _ _ _ hw) (cwV 3 hts gX6_from_X6_run rfl rfl rfl hdX6_run ⟨by try dsimp only; omega, by try dsimp only; omega⟩) rfl hS hP hD 0 5 rfl rfl [0, 1] [] rfl rfl (by decide) (by decide) (by decide) hl.1 rfl (Nat.le_of_ble_eq_true rfl) dX6_from_83 (fun r83 u H locs hw hP hD hS => ?_)
            obtain ⟨u83_0, u83_1, u83_2⟩ := u
            try dsimp only at hw
            have hP : bs_P g [(a_t, .inr (5, [.int v_kind, .int v_k, .int v_m, .int u83_0, .ref a_t_trace, .int u83_1])), (a_t_trace, .inl (bs_I g, 30, .inl u83_2))] H := va_P.sub hP [0, 1] rfl
            have hD : va_D A [(a_t, .inr (5, [.int v_kind, .int v_k, .int v_m, .int u83_0, .ref a_t_trace, .int u83_1])), (a_t_trace, .inl (bs_I g, 30, .inl u83_2))] := va_D.sub hD [0, 1] (by decide) rfl
            exact ret _ _ _ _ r83 (u83_0, u83_1, u83_2) dX6_from_86 rfl hw hP hD hS
        · replace hw := hw.2 c32
          refine lv_iconst (v := 0) hx hb dX6_from_35 (by decide) ?_
          exact ret _ _ _ _ 0 (v_parted, v_traced, v_trace) dX6_from_36 rfl hw hP hD hS
set_option maxHeartbeats 4000000 in
set_option maxRecDepth 100000 in
theorem koX6_run {l : Launch} {g : bs_G} {d : Nat} {R_X6_own : Int32 → Int32 → Int32 → Int32 → Int32 → Int32 → Int32 → Int32 → (Nat → Int32) → (Int32 → Int32 → Int32 → (Nat → Int32) → Prop) → Prop} {R_X6_above : Int32 → Int32 → Int32 → Int32 → Int32 → Int32 → Int32 → Int32 → Int32 → (Nat → Int32) → (Int32 → Int32 → Int32 → (Nat → Int32) → Prop) → Prop} {R_X6_from : Int32 → Int32 → Int32 → Int32 → Int32 → Int32 → Int32 → Int32 → Int32 → (Nat → Int32) → (Int32 → Int32 → Int32 → (Nat → Int32) → Prop) → Prop} {R_X6_run : Int32 → Int32 → Int32 → Int32 → Int32 → Int32 → Int32 → Int32 → (Nat → Int32) → (Int32 → Int32 → Int32 → (Nat → Int32) → Prop) → Prop} (h_X6_own : ∀ (a_t : Nat) (v_kind : Int32) (v_k : Int32) (v_m : Int32) (v_parted : Int32) (a_t_trace : Nat) (v_traced : Int32) (v_trace : Nat → Int32) (sz : Nat) (x1 : Int32) (x2 : Int32) (x3 : Int32) (K : Int32 → Int32 → Int32 → (Nat → Int32) → Prop), R_X6_own x1 x2 x3 v_kind v_k v_m v_parted v_traced v_trace K → Met l yX6_own wsX6_own ({ frames := d + 1, cells := 0, slots := 0, locals := 26 * d + 20 } : Room) (bs_Pc g [.ref a_t, .int x1, .int x2, .int x3] [(a_t, .inr (5, [.int v_kind, .int v_k, .int v_m, .int v_parted, .ref a_t_trace, .int v_traced])), (a_t_trace, .inl (bs_I g, 30, .inl v_trace))] sz) (bs_Qi g [(a_t, .inr (5, [.int v_kind, .int v_k, .int v_m, .int v_parted, .ref a_t_trace, .int v_traced])), (a_t_trace, .inl (bs_I g, 30, .inl v_trace))] sz (fun (r : Int32) (u : Int32 × Int32 × (Nat → Int32)) => K r u.1 u.2.1 u.2.2) (fun (u : Int32 × Int32 × (Nat → Int32)) => ([(a_t, .inr (5, [.int v_kind, .int v_k, .int v_m, .int u.1, .ref a_t_trace, .int u.2.1])), (a_t_trace, .inl (bs_I g, 30, .inl u.2.2))] : va_W))) 0 0 (va_A [(a_t, .inr (5, [.int v_kind, .int v_k, .int v_m, .int v_parted, .ref a_t_trace, .int v_traced])), (a_t_trace, .inl (bs_I g, 30, .inl v_trace))] sz)) (h_X6_above : ∀ (a_t : Nat) (v_kind : Int32) (v_k : Int32) (v_m : Int32) (v_parted : Int32) (a_t_trace : Nat) (v_traced : Int32) (v_trace : Nat → Int32) (sz : Nat) (x1 : Int32) (x2 : Int32) (x3 : Int32) (x4 : Int32) (K : Int32 → Int32 → Int32 → (Nat → Int32) → Prop), R_X6_above x1 x2 x3 x4 v_kind v_k v_m v_parted v_traced v_trace K → Met l yX6_above wsX6_above ({ frames := d + 1, cells := 0, slots := 0, locals := 26 * d + 20 } : Room) (bs_Pc g [.ref a_t, .int x1, .int x2, .int x3, .int x4] [(a_t, .inr (5, [.int v_kind, .int v_k, .int v_m, .int v_parted, .ref a_t_trace, .int v_traced])), (a_t_trace, .inl (bs_I g, 30, .inl v_trace))] sz) (bs_Qi g [(a_t, .inr (5, [.int v_kind, .int v_k, .int v_m, .int v_parted, .ref a_t_trace, .int v_traced])), (a_t_trace, .inl (bs_I g, 30, .inl v_trace))] sz (fun (r : Int32) (u : Int32 × Int32 × (Nat → Int32)) => K r u.1 u.2.1 u.2.2) (fun (u : Int32 × Int32 × (Nat → Int32)) => ([(a_t, .inr (5, [.int v_kind, .int v_k, .int v_m, .int u.1, .ref a_t_trace, .int u.2.1])), (a_t_trace, .inl (bs_I g, 30, .inl u.2.2))] : va_W))) 0 0 (va_A [(a_t, .inr (5, [.int v_kind, .int v_k, .int v_m, .int v_parted, .ref a_t_trace, .int v_traced])), (a_t_trace, .inl (bs_I g, 30, .inl v_trace))] sz)) (h_X6_from : ∀ (a_t : Nat) (v_kind : Int32) (v_k : Int32) (v_m : Int32) (v_parted : Int32) (a_t_trace : Nat) (v_traced : Int32) (v_trace : Nat → Int32) (sz : Nat) (x1 : Int32) (x2 : Int32) (x3 : Int32) (x4 : Int32) (K : Int32 → Int32 → Int32 → (Nat → Int32) → Prop), R_X6_from x1 x2 x3 x4 v_kind v_k v_m v_parted v_traced v_trace K → Met l yX6_from wsX6_from ({ frames := d + 1, cells := 0, slots := 0, locals := 26 * d + 20 } : Room) (bs_Pc g [.ref a_t, .int x1, .int x2, .int x3, .int x4] [(a_t, .inr (5, [.int v_kind, .int v_k, .int v_m, .int v_parted, .ref a_t_trace, .int v_traced])), (a_t_trace, .inl (bs_I g, 30, .inl v_trace))] sz) (bs_Qi g [(a_t, .inr (5, [.int v_kind, .int v_k, .int v_m, .int v_parted, .ref a_t_trace, .int v_traced])), (a_t_trace, .inl (bs_I g, 30, .inl v_trace))] sz (fun (r : Int32) (u : Int32 × Int32 × (Nat → Int32)) => K r u.1 u.2.1 u.2.2) (fun (u : Int32 × Int32 × (Nat → Int32)) => ([(a_t, .inr (5, [.int v_kind, .int v_k, .int v_m, .int u.1, .ref a_t_trace, .int u.2.1])), (a_t_trace, .inl (bs_I g, 30, .inl u.2.2))] : va_W))) 0 0 (va_A [(a_t, .inr (5, [.int v_kind, .int v_k, .int v_m, .int v_parted, .ref a_t_trace, .int v_traced])), (a_t_trace, .inl (bs_I g, 30, .inl v_trace))] sz)) (h_X6_run : ∀ (a_t : Nat) (v_kind : Int32) (v_k : Int32) (v_m : Int32) (v_parted : Int32) (a_t_trace : Nat) (v_traced : Int32) (v_trace : Nat → Int32) (sz : Nat) (x1 : Int32) (x2 : Int32) (x3 : Int32) (K : Int32 → Int32 → Int32 → (Nat → Int32) → Prop), R_X6_run x1 x2 x3 v_kind v_k v_m v_parted v_traced v_trace K → Met l yX6_run wsX6_run ({ frames := d + 1, cells := 0, slots := 0, locals := 26 * d + 20 } : Room) (bs_Pc g [.ref a_t, .int x1, .int x2, .int x3] [(a_t, .inr (5, [.int v_kind, .int v_k, .int v_m, .int v_parted, .ref a_t_trace, .int v_traced])), (a_t_trace, .inl (bs_I g, 30, .inl v_trace))] sz) (bs_Qi g [(a_t, .inr (5, [.int v_kind, .int v_k, .int v_m, .int v_parted, .ref a_t_trace, .int v_traced])), (a_t_trace, .inl (bs_I g, 30, .inl v_trace))] sz (fun (r : Int32) (u : Int32 × Int32 × (Nat → Int32)) => K r u.1 u.2.1 u.2.2) (fun (u : Int32 × Int32 × (Nat → Int32)) => ([(a_t, .inr (5, [.int v_kind, .int v_k, .int v_m, .int u.1, .ref a_t_trace, .int u.2.1])), (a_t_trace, .inl (bs_I g, 30, .inl u.2.2))] : va_W))) 0 0 (va_A [(a_t, .inr (5, [.int v_kind, .int v_k, .int v_m, .int v_parted, .ref a_t_trace, .int v_traced])), (a_t_trace, .inl (bs_I g, 30, .inl v_trace))] sz)) (a_t : Nat) (v_kind : Int32) (v_k : Int32) (v_m : Int32) (v_parted : Int32) (a_t_trace : Nat) (v_traced : Int32) (v_trace : Nat → Int32) (sz : Nat) (x1 : Int32) (x2 : Int32) (x3 : Int32) (K : Int32 → Int32 → Int32 → (Nat → Int32) → Prop) (hw : wpX6_run R_X6_own R_X6_above R_X6_from R_X6_run x1 x2 x3 v_kind v_k v_m v_parted v_traced v_trace K) : Met l yX6_run wsX6_run ({ frames := (d + 1) + 1, cells := 0, slots := 0, locals := 26 * ((d + 1)) + 20 } : Room) (bs_Pc g [.ref a_t, .int x1, .int x2, .int x3] [(a_t, .inr (5, [.int v_kind, .int v_k, .int v_m, .int v_parted, .ref a_t_trace, .int v_traced])), (a_t_trace, .inl (bs_I g, 30, .inl v_trace))] sz) (bs_Qi g [(a_t, .inr (5, [.int v_kind, .int v_k, .int v_m, .int v_parted, .ref a_t_trace, .int v_traced])), (a_t_trace, .inl (bs_I g, 30, .inl v_trace))] sz (fun (r : Int32) (u : Int32 × Int32 × (Nat → Int32)) => K r u.1 u.2.1 u.2.2) (fun (u : Int32 × Int32 × (Nat → Int32)) => ([(a_t, .inr (5, [.int v_kind, .int v_k, .int v_m, .int u.1, .ref a_t_trace, .int u.2.1])), (a_t_trace, .inl (bs_I g, 30, .inl u.2.2))] : va_W))) 0 0 (va_A [(a_t, .inr (5, [.int v_kind, .int v_k, .int v_m, .int v_parted, .ref a_t_trace, .int v_traced])), (a_t_trace, .inl (bs_I g, 30, .inl v_trace))] sz) := by
  refine ent_i (cc := cX6_run) (maxL := 4) (rt := .int) (by decide) rfl (Nat.le_of_ble_eq_true rfl) ?_
  intro p e s m below meth c Q A hF hsz hP hD hS ret ls hl
  obtain ⟨⟨hx, hb, hml, hown, hts⟩, hK, hG, hA⟩ := id hF
  have hown : s.vm.findClass RX6 = some m.cls := hown
  have hl : lv_has ls 4 [(0, .ref a_t), (1, .int x1), (2, .int x2), (3, .int x3)] := hl
  refine lv_iload_n hx hb dX6_run_0 rfl (lv_at hl 1 rfl) ?_
  by_cases e1_10 : x1 = 10
  · replace hw := hw.1 e1_10
    refine lv_lookup (tgt := 116) (off := 115) hx hb dX6_run_1 (by decide) (by rw [e1_10]; rfl) (by decide) ?_
    refine lv_iload_n hx hb dX6_run_116 rfl (lv_at hl 2 rfl) ?_
    refine lv_aload_n hx hb dX6_run_117 rfl (lv_at hl 0 rfl) ?_
    refine va_get (D := g.1) (ci := 5) (v := .int v_k) (C := RX6) (T := TX6) (N := 6) hx hb hts hiX6_run_X6 hown hK hP 0 rfl rfl 1 (by decide) (hts (.fieldLink RX6 19 "LionSigns$Voices" "k" "I") (by decide +kernel)) (fun _ h9 => h9) rfl dX6_run_118 ?_
    refine lv_iadd hx hb dX6_run_121 ?_
    exact ret _ _ _ _ (x2 + v_k) (v_parted, v_traced, v_trace) dX6_run_122 rfl hw hP hD hS
  · replace hw := hw.2 e1_10
    by_cases e1_11 : x1 = 11
    · replace hw := hw.1 e1_11
      refine lv_lookup (tgt := 123) (off := 122) hx hb dX6_run_1 (by decide) (by rw [e1_11]; rfl) (by decide) ?_
      refine lv_aload_n hx hb dX6_run_123 rfl (lv_at hl 0 rfl) ?_
      refine lv_iconst (v := 0) hx hb dX6_run_124 (by decide) ?_
      refine lv_iload_n hx hb dX6_run_125 rfl (lv_at hl 2 rfl) ?_
      refine lv_iload_n hx hb dX6_run_126 rfl (lv_at hl 3 rfl) ?_
      refine cv_i (wc := [(a_t, .inr (5, [.int v_kind, .int v_k, .int v_m, .int v_parted, .ref a_t_trace, .int v_traced])), (a_t_trace, .inl (bs_I g, 30, .inl v_trace))]) (wr := []) (As := [.int 0, .int x2, .int x3]) (rest := []) (q := (RX6, TX6, 6)) hF (h_X6_own _ _ _ _ _ _ _ _ _ _ _ _ _ hw) (cwV 3 hts gX6_run_X6_own rfl rfl rfl hdX6_own ⟨by try dsimp only; omega, by try dsimp only; omega⟩) rfl hS hP hD 0 5 rfl rfl [0, 1] [] rfl rfl (by decide) (by decide) (by decide) hl.1 rfl (Nat.le_of_ble_eq_true rfl) dX6_run_127 (fun r127 u H locs hw hP hD hS => ?_)
      obtain ⟨u127_0, u127_1, u127_2⟩ := u
      try dsimp only at hw
      have hP : bs_P g [(a_t, .inr (5, [.int v_kind, .int v_k, .int v_m, .int u127_0, .ref a_t_trace, .int u127_1])), (a_t_trace, .inl (bs_I g, 30, .inl u127_2))] H := va_P.sub hP [0, 1] rfl
      have hD : va_D A [(a_t, .inr (5, [.int v_kind, .int v_k, .int v_m, .int u127_0, .ref a_t_trace, .int u127_1])), (a_t_trace, .inl (bs_I g, 30, .inl u127_2))] := va_D.sub hD [0, 1] (by decide) rfl
      refine lv_iconst (v := 2) hx hb dX6_run_130 (by decide) ?_
      refine lv_imul hx hb dX6_run_131 ?_
      exact ret _ _ _ _ (r127 * 2) (u127_0, u127_1, u127_2) dX6_run_132 rfl hw hP hD hS
    · replace hw := hw.2 e1_11
      by_cases e1_12 : x1 = 12
      · replace hw := hw.1 e1_12
        refine lv_lookup (tgt := 133) (off := 132) hx hb dX6_run_1 (by decide) (by rw [e1_12]; rfl) (by decide) ?_
        refine lv_aload_n hx hb dX6_run_133 rfl (lv_at hl 0 rfl) ?_
        refine lv_iconst (v := 1) hx hb dX6_run_134 (by decide) ?_
        refine lv_iload_n hx hb dX6_run_135 rfl (lv_at hl 2 rfl) ?_
        refine lv_iload_n hx hb dX6_run_136 rfl (lv_at hl 3 rfl) ?_
        refine cv_i (wc := [(a_t, .inr (5, [.int v_kind, .int v_k, .int v_m, .int v_parted, .ref a_t_trace, .int v_traced])), (a_t_trace, .inl (bs_I g, 30, .inl v_trace))]) (wr := []) (As := [.int 1, .int x2, .int x3]) (rest := []) (q := (RX6, TX6, 6)) hF (h_X6_own _ _ _ _ _ _ _ _ _ _ _ _ _ hw) (cwV 3 hts gX6_run_X6_own rfl rfl rfl hdX6_own ⟨by try dsimp only; omega, by try dsimp only; omega⟩) rfl hS hP hD 0 5 rfl rfl [0, 1] [] rfl rfl (by decide) (by decide) (by decide) hl.1 rfl (Nat.le_of_ble_eq_true rfl) dX6_run_137 (fun r137 u H locs hw hP hD hS => ?_)
        obtain ⟨u137_0, u137_1, u137_2⟩ := u
        try dsimp only at hw
        have hP : bs_P g [(a_t, .inr (5, [.int v_kind, .int v_k, .int v_m, .int u137_0, .ref a_t_trace, .int u137_1])), (a_t_trace, .inl (bs_I g, 30, .inl u137_2))] H := va_P.sub hP [0, 1] rfl
        have hD : va_D A [(a_t, .inr (5, [.int v_kind, .int v_k, .int v_m, .int u137_0, .ref a_t_trace, .int u137_1])), (a_t_trace, .inl (bs_I g, 30, .inl u137_2))] := va_D.sub hD [0, 1] (by decide) rfl
        refine lv_aload_n hx hb dX6_run_140 rfl (lv_at hl 0 rfl) ?_
        refine va_get (D := g.1) (ci := 5) (v := .int v_m) (C := RX6) (T := TX6) (N := 6) hx hb hts hiX6_run_X6 hown hK hP 0 rfl rfl 2 (by decide) (hts (.fieldLink RX6 22 "LionSigns$Voices" "m" "I") (by decide +kernel)) (fun _ h9 => h9) rfl dX6_run_141 ?_
        refine lv_isub hx hb dX6_run_144 ?_
        exact ret _ _ _ _ (r137 - v_m) (u137_0, u137_1, u137_2) dX6_run_145 rfl hw hP hD hS
      · replace hw := hw.2 e1_12
        by_cases e1_13 : x1 = 13
        · replace hw := hw.1 e1_13
          refine lv_lookup (tgt := 146) (off := 145) hx hb dX6_run_1 (by decide) (by rw [e1_13]; rfl) (by decide) ?_
          refine lv_aload_n hx hb dX6_run_146 rfl (lv_at hl 0 rfl) ?_
          refine lv_aload_n hx hb dX6_run_147 rfl (lv_at hl 0 rfl) ?_
          refine va_get (D := g.1) (ci := 5) (v := .int v_m) (C := RX6) (T := TX6) (N := 6) hx hb hts hiX6_run_X6 hown hK hP 0 rfl rfl 2 (by decide) (hts (.fieldLink RX6 22 "LionSigns$Voices" "m" "I") (by decide +kernel)) (fun _ h9 => h9) rfl dX6_run_148 ?_
          refine lv_aload_n hx hb dX6_run_151 rfl (lv_at hl 0 rfl) ?_
          refine va_get (D := g.1) (ci := 5) (v := .int v_k) (C := RX6) (T := TX6) (N := 6) hx hb hts hiX6_run_X6 hown hK hP 0 rfl rfl 1 (by decide) (hts (.fieldLink RX6 19 "LionSigns$Voices" "k" "I") (by decide +kernel)) (fun _ h9 => h9) rfl dX6_run_152 ?_
          refine lv_icmp_ne (tgt := 162) hx hb dX6_run_155 (by decide) (fun c155 => ?_) (fun c155 => ?_)
          · replace hw := hw.2 c155
            refine lv_iconst (v := 0) hx hb dX6_run_162 (by decide) ?_
            refine va_put (D := g.1) (ci := 5) (v := .int 0) (ty := .boolean) (C := RX6) (T := TX6) (N := 6) hx hb hts hiX6_run_X6 tyX6 tyX6_ok nmX6 hown hK hP hD hS 0 rfl rfl 3 (by decide) (hts (.fieldLink RX6 25 "LionSigns$Voices" "parted" "Z") (by decide +kernel)) (fun _ h9 => h9) rfl (by decide +kernel) rfl rfl (Nat.le_of_ble_eq_true rfl) dX6_run_163 (fun H locs hP hD hS => ?_)
            have hP : bs_P g [(a_t, .inr (5, [.int v_kind, .int v_k, .int v_m, .int 0, .ref a_t_trace, .int v_traced])), (a_t_trace, .inl (bs_I g, 30, .inl v_trace))] H := hP
            have hD : va_D A [(a_t, .inr (5, [.int v_kind, .int v_k, .int v_m, .int 0, .ref a_t_trace, .int v_traced])), (a_t_trace, .inl (bs_I g, 30, .inl v_trace))] := hD
            refine lv_aload_n hx hb dX6_run_166 rfl (lv_at hl 0 rfl) ?_
            refine va_get (D := g.1) (ci := 5) (v := .int v_m) (C := RX6) (T := TX6) (N := 6) hx hb hts hiX6_run_X6 hown hK hP 0 rfl rfl 2 (by decide) (hts (.fieldLink RX6 22 "LionSigns$Voices" "m" "I") (by decide +kernel)) (fun _ h9 => h9) rfl dX6_run_167 ?_
            refine lv_aload_n hx hb dX6_run_170 rfl (lv_at hl 0 rfl) ?_
            refine va_get (D := g.1) (ci := 5) (v := .int v_k) (C := RX6) (T := TX6) (N := 6) hx hb hts hiX6_run_X6 hown hK hP 0 rfl rfl 1 (by decide) (hts (.fieldLink RX6 19 "LionSigns$Voices" "k" "I") (by decide +kernel)) (fun _ h9 => h9) rfl dX6_run_171 ?_
            refine lv_icmp_ne (tgt := 181) hx hb dX6_run_174 (by decide) (fun c174 => ?_) (fun c174 => ?_)
            · replace hw := hw.2 c174
              refine lv_iload_n hx hb dX6_run_181 rfl (lv_at hl 2 rfl) ?_
              refine lv_aload_n hx hb dX6_run_182 rfl (lv_at hl 0 rfl) ?_
              refine va_get (D := g.1) (ci := 5) (v := .int v_m) (C := RX6) (T := TX6) (N := 6) hx hb hts hiX6_run_X6 hown hK hP 0 rfl rfl 2 (by decide) (hts (.fieldLink RX6 22 "LionSigns$Voices" "m" "I") (by decide +kernel)) (fun _ h9 => h9) rfl dX6_run_183 ?_
              refine lv_aload_n hx hb dX6_run_186 rfl (lv_at hl 0 rfl) ?_
              refine va_get (D := g.1) (ci := 5) (v := .int v_k) (C := RX6) (T := TX6) (N := 6) hx hb hts hiX6_run_X6 hown hK hP 0 rfl rfl 1 (by decide) (hts (.fieldLink RX6 19 "LionSigns$Voices" "k" "I") (by decide +kernel)) (fun _ h9 => h9) rfl dX6_run_187 ?_
              refine lv_isub hx hb dX6_run_190 ?_
              have hz191 := hw.1; replace hw := hw.2
              refine lv_idiv hx hb dX6_run_191 hz191 ?_
              exact ret _ _ _ _ (x2 / (v_m - v_k)) (0, v_traced, v_trace) dX6_run_192 rfl hw hP hD hS
            · replace hw := hw.1 c174
              refine lv_iconst (v := 0) hx hb dX6_run_177 (by decide) ?_
              refine lv_goto (tgt := 192) hx hb dX6_run_178 (by decide) ?_
              exact ret _ _ _ _ 0 (0, v_traced, v_trace) dX6_run_192 rfl hw hP hD hS
          · replace hw := hw.1 c155
            refine lv_iconst (v := 1) hx hb dX6_run_158 (by decide) ?_
            refine lv_goto (tgt := 163) hx hb dX6_run_159 (by decide) ?_
            refine va_put (D := g.1) (ci := 5) (v := .int 1) (ty := .boolean) (C := RX6) (T := TX6) (N := 6) hx hb hts hiX6_run_X6 tyX6 tyX6_ok nmX6 hown hK hP hD hS 0 rfl rfl 3 (by decide) (hts (.fieldLink RX6 25 "LionSigns$Voices" "parted" "Z") (by decide +kernel)) (fun _ h9 => h9) rfl (by decide +kernel) rfl rfl (Nat.le_of_ble_eq_true rfl) dX6_run_163 (fun H locs hP hD hS => ?_)
            have hP : bs_P g [(a_t, .inr (5, [.int v_kind, .int v_k, .int v_m, .int 1, .ref a_t_trace, .int v_traced])), (a_t_trace, .inl (bs_I g, 30, .inl v_trace))] H := hP
            have hD : va_D A [(a_t, .inr (5, [.int v_kind, .int v_k, .int v_m, .int 1, .ref a_t_trace, .int v_traced])), (a_t_trace, .inl (bs_I g, 30, .inl v_trace))] := hD
            refine lv_aload_n hx hb dX6_run_166 rfl (lv_at hl 0 rfl) ?_
            refine va_get (D := g.1) (ci := 5) (v := .int v_m) (C := RX6) (T := TX6) (N := 6) hx hb hts hiX6_run_X6 hown hK hP 0 rfl rfl 2 (by decide) (hts (.fieldLink RX6 22 "LionSigns$Voices" "m" "I") (by decide +kernel)) (fun _ h9 => h9) rfl dX6_run_167 ?_
            refine lv_aload_n hx hb dX6_run_170 rfl (lv_at hl 0 rfl) ?_
            refine va_get (D := g.1) (ci := 5) (v := .int v_k) (C := RX6) (T := TX6) (N := 6) hx hb hts hiX6_run_X6 hown hK hP 0 rfl rfl 1 (by decide) (hts (.fieldLink RX6 19 "LionSigns$Voices" "k" "I") (by decide +kernel)) (fun _ h9 => h9) rfl dX6_run_171 ?_
            refine lv_icmp_ne (tgt := 181) hx hb dX6_run_174 (by decide) (fun c174 => ?_) (fun c174 => ?_)
            · replace hw := hw.2 c174
              refine lv_iload_n hx hb dX6_run_181 rfl (lv_at hl 2 rfl) ?_
              refine lv_aload_n hx hb dX6_run_182 rfl (lv_at hl 0 rfl) ?_
              refine va_get (D := g.1) (ci := 5) (v := .int v_m) (C := RX6) (T := TX6) (N := 6) hx hb hts hiX6_run_X6 hown hK hP 0 rfl rfl 2 (by decide) (hts (.fieldLink RX6 22 "LionSigns$Voices" "m" "I") (by decide +kernel)) (fun _ h9 => h9) rfl dX6_run_183 ?_
              refine lv_aload_n hx hb dX6_run_186 rfl (lv_at hl 0 rfl) ?_
              refine va_get (D := g.1) (ci := 5) (v := .int v_k) (C := RX6) (T := TX6) (N := 6) hx hb hts hiX6_run_X6 hown hK hP 0 rfl rfl 1 (by decide) (hts (.fieldLink RX6 19 "LionSigns$Voices" "k" "I") (by decide +kernel)) (fun _ h9 => h9) rfl dX6_run_187 ?_
              refine lv_isub hx hb dX6_run_190 ?_
              have hz191 := hw.1; replace hw := hw.2
              refine lv_idiv hx hb dX6_run_191 hz191 ?_
              exact ret _ _ _ _ (x2 / (v_m - v_k)) (1, v_traced, v_trace) dX6_run_192 rfl hw hP hD hS
            · replace hw := hw.1 c174
              refine lv_iconst (v := 0) hx hb dX6_run_177 (by decide) ?_
              refine lv_goto (tgt := 192) hx hb dX6_run_178 (by decide) ?_
              exact ret _ _ _ _ 0 (1, v_traced, v_trace) dX6_run_192 rfl hw hP hD hS
        · replace hw := hw.2 e1_13
          by_cases e1_20 : x1 = 20
          · replace hw := hw.1 e1_20
            refine lv_lookup (tgt := 193) (off := 192) hx hb dX6_run_1 (by decide) (by rw [e1_20]; rfl) (by decide) ?_
            refine lv_aload_n hx hb dX6_run_193 rfl (lv_at hl 0 rfl) ?_
            refine lv_iload_n hx hb dX6_run_194 rfl (lv_at hl 1 rfl) ?_
            refine lv_iconst (v := 0) hx hb dX6_run_195 (by decide) ?_
            refine lv_iload_n hx hb dX6_run_196 rfl (lv_at hl 2 rfl) ?_
            refine lv_iload_n hx hb dX6_run_197 rfl (lv_at hl 3 rfl) ?_
            refine cv_i (wc := [(a_t, .inr (5, [.int v_kind, .int v_k, .int v_m, .int v_parted, .ref a_t_trace, .int v_traced])), (a_t_trace, .inl (bs_I g, 30, .inl v_trace))]) (wr := []) (As := [.int x1, .int 0, .int x2, .int x3]) (rest := []) (q := (RX6, TX6, 6)) hF (h_X6_above _ _ _ _ _ _ _ _ _ _ _ _ _ _ hw) (cwV 4 hts gX6_run_X6_above rfl rfl rfl hdX6_above ⟨by try dsimp only; omega, by try dsimp only; omega⟩) rfl hS hP hD 0 5 rfl rfl [0, 1] [] rfl rfl (by decide) (by decide) (by decide) hl.1 rfl (Nat.le_of_ble_eq_true rfl) dX6_run_198 (fun r198 u H locs hw hP hD hS => ?_)
            obtain ⟨u198_0, u198_1, u198_2⟩ := u
            try dsimp only at hw
            have hP : bs_P g [(a_t, .inr (5, [.int v_kind, .int v_k, .int v_m, .int u198_0, .ref a_t_trace, .int u198_1])), (a_t_trace, .inl (bs_I g, 30, .inl u198_2))] H := va_P.sub hP [0, 1] rfl
            have hD : va_D A [(a_t, .inr (5, [.int v_kind, .int v_k, .int v_m, .int u198_0, .ref a_t_trace, .int u198_1])), (a_t_trace, .inl (bs_I g, 30, .inl u198_2))] := va_D.sub hD [0, 1] (by decide) rfl
            refine lv_iconst (v := 4) hx hb dX6_run_201 (by decide) ?_
            refine lv_isub hx hb dX6_run_202 ?_
            exact ret _ _ _ _ (r198 - 4) (u198_0, u198_1, u198_2) dX6_run_203 rfl hw hP hD hS
          · replace hw := hw.2 e1_20
            by_cases e1_21 : x1 = 21
            · replace hw := hw.1 e1_21
              refine lv_lookup (tgt := 204) (off := 203) hx hb dX6_run_1 (by decide) (by rw [e1_21]; rfl) (by decide) ?_
              refine lv_aload_n hx hb dX6_run_204 rfl (lv_at hl 0 rfl) ?_
              refine lv_iload_n hx hb dX6_run_205 rfl (lv_at hl 1 rfl) ?_
              refine lv_iconst (v := 3) hx hb dX6_run_206 (by decide) ?_
              refine lv_iload_n hx hb dX6_run_207 rfl (lv_at hl 2 rfl) ?_
              refine lv_iload_n hx hb dX6_run_208 rfl (lv_at hl 3 rfl) ?_
              refine cv_i (wc := [(a_t, .inr (5, [.int v_kind, .int v_k, .int v_m, .int v_parted, .ref a_t_trace, .int v_traced])), (a_t_trace, .inl (bs_I g, 30, .inl v_trace))]) (wr := []) (As := [.int x1, .int 3, .int x2, .int x3]) (rest := []) (q := (RX6, TX6, 6)) hF (h_X6_above _ _ _ _ _ _ _ _ _ _ _ _ _ _ hw) (cwV 4 hts gX6_run_X6_above rfl rfl rfl hdX6_above ⟨by try dsimp only; omega, by try dsimp only; omega⟩) rfl hS hP hD 0 5 rfl rfl [0, 1] [] rfl rfl (by decide) (by decide) (by decide) hl.1 rfl (Nat.le_of_ble_eq_true rfl) dX6_run_209 (fun r209 u H locs hw hP hD hS => ?_)
              obtain ⟨u209_0, u209_1, u209_2⟩ := u
              try dsimp only at hw
              have hP : bs_P g [(a_t, .inr (5, [.int v_kind, .int v_k, .int v_m, .int u209_0, .ref a_t_trace, .int u209_1])), (a_t_trace, .inl (bs_I g, 30, .inl u209_2))] H := va_P.sub hP [0, 1] rfl
              have hD : va_D A [(a_t, .inr (5, [.int v_kind, .int v_k, .int v_m, .int u209_0, .ref a_t_trace, .int u209_1])), (a_t_trace, .inl (bs_I g, 30, .inl u209_2))] := va_D.sub hD [0, 1] (by decide) rfl
              refine lv_aload_n hx hb dX6_run_212 rfl (lv_at hl 0 rfl) ?_
              refine lv_iconst (v := 1) hx hb dX6_run_213 (by decide) ?_
              refine lv_iconst (v := 1) hx hb dX6_run_214 (by decide) ?_
              refine lv_iload_n hx hb dX6_run_215 rfl (lv_at hl 3 rfl) ?_
              refine cv_i (wc := [(a_t, .inr (5, [.int v_kind, .int v_k, .int v_m, .int u209_0, .ref a_t_trace, .int u209_1])), (a_t_trace, .inl (bs_I g, 30, .inl u209_2))]) (wr := []) (As := [.int 1, .int 1, .int x3]) (rest := [.int r209]) (q := (RX6, TX6, 6)) hF (h_X6_own _ _ _ _ _ _ _ _ _ _ _ _ _ hw) (cwV 3 hts gX6_run_X6_own rfl rfl rfl hdX6_own ⟨by try dsimp only; omega, by try dsimp only; omega⟩) rfl hS hP hD 0 5 rfl rfl [0, 1] [] rfl rfl (by decide) (by decide) (by decide) hl.1 rfl (Nat.le_of_ble_eq_true rfl) dX6_run_216 (fun r216 u H locs hw hP hD hS => ?_)
              obtain ⟨u216_0, u216_1, u216_2⟩ := u
              try dsimp only at hw
              have hP : bs_P g [(a_t, .inr (5, [.int v_kind, .int v_k, .int v_m, .int u216_0, .ref a_t_trace, .int u216_1])), (a_t_trace, .inl (bs_I g, 30, .inl u216_2))] H := va_P.sub hP [0, 1] rfl
              have hD : va_D A [(a_t, .inr (5, [.int v_kind, .int v_k, .int v_m, .int u216_0, .ref a_t_trace, .int u216_1])), (a_t_trace, .inl (bs_I g, 30, .inl u216_2))] := va_D.sub hD [0, 1] (by decide) rfl
              refine lv_iadd hx hb dX6_run_219 ?_
              exact ret _ _ _ _ (r209 + r216) (u216_0, u216_1, u216_2) dX6_run_220 rfl hw hP hD hS
            · replace hw := hw.2 e1_21
              by_cases e1_30 : x1 = 30
              · replace hw := hw.1 e1_30
                refine lv_lookup (tgt := 221) (off := 220) hx hb dX6_run_1 (by decide) (by rw [e1_30]; rfl) (by decide) ?_
                refine lv_iconst (v := 0) hx hb dX6_run_221 (by decide) ?_
                refine lv_aload_n hx hb dX6_run_222 rfl (lv_at hl 0 rfl) ?_
                refine lv_iload_n hx hb dX6_run_223 rfl (lv_at hl 1 rfl) ?_
                refine lv_iconst (v := 1) hx hb dX6_run_224 (by decide) ?_
                refine lv_iload_n hx hb dX6_run_225 rfl (lv_at hl 2 rfl) ?_
                refine lv_iload_n hx hb dX6_run_226 rfl (lv_at hl 3 rfl) ?_
                refine cv_i (wc := [(a_t, .inr (5, [.int v_kind, .int v_k, .int v_m, .int v_parted, .ref a_t_trace, .int v_traced])), (a_t_trace, .inl (bs_I g, 30, .inl v_trace))]) (wr := []) (As := [.int x1, .int 1, .int x2, .int x3]) (rest := [.int 0]) (q := (RX6, TX6, 6)) hF (h_X6_above _ _ _ _ _ _ _ _ _ _ _ _ _ _ hw) (cwV 4 hts gX6_run_X6_above rfl rfl rfl hdX6_above ⟨by try dsimp only; omega, by try dsimp only; omega⟩) rfl hS hP hD 0 5 rfl rfl [0, 1] [] rfl rfl (by decide) (by decide) (by decide) hl.1 rfl (Nat.le_of_ble_eq_true rfl) dX6_run_227 (fun r227 u H locs hw hP hD hS => ?_)
                obtain ⟨u227_0, u227_1, u227_2⟩ := u
                try dsimp only at hw
                have hP : bs_P g [(a_t, .inr (5, [.int v_kind, .int v_k, .int v_m, .int u227_0, .ref a_t_trace, .int u227_1])), (a_t_trace, .inl (bs_I g, 30, .inl u227_2))] H := va_P.sub hP [0, 1] rfl
                have hD : va_D A [(a_t, .inr (5, [.int v_kind, .int v_k, .int v_m, .int u227_0, .ref a_t_trace, .int u227_1])), (a_t_trace, .inl (bs_I g, 30, .inl u227_2))] := va_D.sub hD [0, 1] (by decide) rfl
                refine lv_isub hx hb dX6_run_230 ?_
                exact ret _ _ _ _ (0 - r227) (u227_0, u227_1, u227_2) dX6_run_231 rfl hw hP hD hS
              · replace hw := hw.2 e1_30
                by_cases e1_40 : x1 = 40
                · replace hw := hw.1 e1_40
                  refine lv_lookup (tgt := 232) (off := 231) hx hb dX6_run_1 (by decide) (by rw [e1_40]; rfl) (by decide) ?_
                  refine lv_aload_n hx hb dX6_run_232 rfl (lv_at hl 0 rfl) ?_
                  refine lv_iload_n hx hb dX6_run_233 rfl (lv_at hl 1 rfl) ?_
                  refine lv_iconst (v := 2) hx hb dX6_run_234 (by decide) ?_
                  refine lv_iload_n hx hb dX6_run_235 rfl (lv_at hl 2 rfl) ?_
                  refine lv_iconst (v := 2) hx hb dX6_run_236 (by decide) ?_
                  refine lv_idiv hx hb dX6_run_237 (by decide) ?_
                  refine lv_iload_n hx hb dX6_run_238 rfl (lv_at hl 3 rfl) ?_
                  refine cv_i (wc := [(a_t, .inr (5, [.int v_kind, .int v_k, .int v_m, .int v_parted, .ref a_t_trace, .int v_traced])), (a_t_trace, .inl (bs_I g, 30, .inl v_trace))]) (wr := []) (As := [.int x1, .int 2, .int (x2 / 2), .int x3]) (rest := []) (q := (RX6, TX6, 6)) hF (h_X6_above _ _ _ _ _ _ _ _ _ _ _ _ _ _ hw) (cwV 4 hts gX6_run_X6_above rfl rfl rfl hdX6_above ⟨by try dsimp only; omega, by try dsimp only; omega⟩) rfl hS hP hD 0 5 rfl rfl [0, 1] [] rfl rfl (by decide) (by decide) (by decide) hl.1 rfl (Nat.le_of_ble_eq_true rfl) dX6_run_239 (fun r239 u H locs hw hP hD hS => ?_)
                  obtain ⟨u239_0, u239_1, u239_2⟩ := u
                  try dsimp only at hw
                  have hP : bs_P g [(a_t, .inr (5, [.int v_kind, .int v_k, .int v_m, .int u239_0, .ref a_t_trace, .int u239_1])), (a_t_trace, .inl (bs_I g, 30, .inl u239_2))] H := va_P.sub hP [0, 1] rfl
                  have hD : va_D A [(a_t, .inr (5, [.int v_kind, .int v_k, .int v_m, .int u239_0, .ref a_t_trace, .int u239_1])), (a_t_trace, .inl (bs_I g, 30, .inl u239_2))] := va_D.sub hD [0, 1] (by decide) rfl
                  exact ret _ _ _ _ r239 (u239_0, u239_1, u239_2) dX6_run_242 rfl hw hP hD hS
                · replace hw := hw.2 e1_40
                  by_cases e1_50 : x1 = 50
                  · replace hw := hw.1 e1_50
                    refine lv_lookup (tgt := 243) (off := 242) hx hb dX6_run_1 (by decide) (by rw [e1_50]; rfl) (by decide) ?_
                    refine lv_aload_n hx hb dX6_run_243 rfl (lv_at hl 0 rfl) ?_
                    refine lv_iload_n hx hb dX6_run_244 rfl (lv_at hl 1 rfl) ?_
                    refine lv_iconst (v := 0) hx hb dX6_run_245 (by decide) ?_
                    refine lv_iload_n hx hb dX6_run_246 rfl (lv_at hl 2 rfl) ?_
                    refine lv_iload_n hx hb dX6_run_247 rfl (lv_at hl 3 rfl) ?_
                    refine cv_i (wc := [(a_t, .inr (5, [.int v_kind, .int v_k, .int v_m, .int v_parted, .ref a_t_trace, .int v_traced])), (a_t_trace, .inl (bs_I g, 30, .inl v_trace))]) (wr := []) (As := [.int x1, .int 0, .int x2, .int x3]) (rest := []) (q := (RX6, TX6, 6)) hF (h_X6_above _ _ _ _ _ _ _ _ _ _ _ _ _ _ hw) (cwV 4 hts gX6_run_X6_above rfl rfl rfl hdX6_above ⟨by try dsimp only; omega, by try dsimp only; omega⟩) rfl hS hP hD 0 5 rfl rfl [0, 1] [] rfl rfl (by decide) (by decide) (by decide) hl.1 rfl (Nat.le_of_ble_eq_true rfl) dX6_run_248 (fun r248 u H locs hw hP hD hS => ?_)
                    obtain ⟨u248_0, u248_1, u248_2⟩ := u
                    try dsimp only at hw
                    have hP : bs_P g [(a_t, .inr (5, [.int v_kind, .int v_k, .int v_m, .int u248_0, .ref a_t_trace, .int u248_1])), (a_t_trace, .inl (bs_I g, 30, .inl u248_2))] H := va_P.sub hP [0, 1] rfl
                    have hD : va_D A [(a_t, .inr (5, [.int v_kind, .int v_k, .int v_m, .int u248_0, .ref a_t_trace, .int u248_1])), (a_t_trace, .inl (bs_I g, 30, .inl u248_2))] := va_D.sub hD [0, 1] (by decide) rfl
                    refine lv_iconst (v := 3) hx hb dX6_run_251 (by decide) ?_
                    refine lv_imul hx hb dX6_run_252 ?_
                    exact ret _ _ _ _ (r248 * 3) (u248_0, u248_1, u248_2) dX6_run_253 rfl hw hP hD hS
                  · replace hw := hw.2 e1_50
                    by_cases e1_51 : x1 = 51
                    · replace hw := hw.1 e1_51
                      refine lv_lookup (tgt := 254) (off := 253) hx hb dX6_run_1 (by decide) (by rw [e1_51]; rfl) (by decide) ?_
                      refine lv_aload_n hx hb dX6_run_254 rfl (lv_at hl 0 rfl) ?_
                      refine lv_iload_n hx hb dX6_run_255 rfl (lv_at hl 1 rfl) ?_
                      refine lv_iconst (v := 2) hx hb dX6_run_256 (by decide) ?_
                      refine lv_iload_n hx hb dX6_run_257 rfl (lv_at hl 2 rfl) ?_
                      refine lv_iload_n hx hb dX6_run_258 rfl (lv_at hl 3 rfl) ?_
                      refine cv_i (wc := [(a_t, .inr (5, [.int v_kind, .int v_k, .int v_m, .int v_parted, .ref a_t_trace, .int v_traced])), (a_t_trace, .inl (bs_I g, 30, .inl v_trace))]) (wr := []) (As := [.int x1, .int 2, .int x2, .int x3]) (rest := []) (q := (RX6, TX6, 6)) hF (h_X6_above _ _ _ _ _ _ _ _ _ _ _ _ _ _ hw) (cwV 4 hts gX6_run_X6_above rfl rfl rfl hdX6_above ⟨by try dsimp only; omega, by try dsimp only; omega⟩) rfl hS hP hD 0 5 rfl rfl [0, 1] [] rfl rfl (by decide) (by decide) (by decide) hl.1 rfl (Nat.le_of_ble_eq_true rfl) dX6_run_259 (fun r259 u H locs hw hP hD hS => ?_)
                      obtain ⟨u259_0, u259_1, u259_2⟩ := u
                      try dsimp only at hw
                      have hP : bs_P g [(a_t, .inr (5, [.int v_kind, .int v_k, .int v_m, .int u259_0, .ref a_t_trace, .int u259_1])), (a_t_trace, .inl (bs_I g, 30, .inl u259_2))] H := va_P.sub hP [0, 1] rfl
                      have hD : va_D A [(a_t, .inr (5, [.int v_kind, .int v_k, .int v_m, .int u259_0, .ref a_t_trace, .int u259_1])), (a_t_trace, .inl (bs_I g, 30, .inl u259_2))] := va_D.sub hD [0, 1] (by decide) rfl
                      refine lv_aload_n hx hb dX6_run_262 rfl (lv_at hl 0 rfl) ?_
                      refine va_get (D := g.1) (ci := 5) (v := .int v_k) (C := RX6) (T := TX6) (N := 6) hx hb hts hiX6_run_X6 hown hK hP 0 rfl rfl 1 (by decide) (hts (.fieldLink RX6 19 "LionSigns$Voices" "k" "I") (by decide +kernel)) (fun _ h9 => h9) rfl dX6_run_263 ?_
                      refine lv_ixor hx hb dX6_run_266 ?_
                      exact ret _ _ _ _ (r259 ^^^ v_k) (u259_0, u259_1, u259_2) dX6_run_267 rfl hw hP hD hS
                    · replace hw := hw.2 e1_51
                      by_cases e1_60 : x1 = 60
                      · replace hw := hw.1 e1_60
                        refine lv_lookup (tgt := 268) (off := 267) hx hb dX6_run_1 (by decide) (by rw [e1_60]; rfl) (by decide) ?_
                        refine lv_aload_n hx hb dX6_run_268 rfl (lv_at hl 0 rfl) ?_
                        refine lv_iload_n hx hb dX6_run_269 rfl (lv_at hl 1 rfl) ?_
                        refine lv_iconst (v := 1) hx hb dX6_run_270 (by decide) ?_
                        refine lv_iload_n hx hb dX6_run_271 rfl (lv_at hl 2 rfl) ?_
                        refine lv_iconst (v := 1) hx hb dX6_run_272 (by decide) ?_
                        refine lv_iadd hx hb dX6_run_273 ?_
                        refine lv_iload_n hx hb dX6_run_274 rfl (lv_at hl 3 rfl) ?_
                        refine cv_i (wc := [(a_t, .inr (5, [.int v_kind, .int v_k, .int v_m, .int v_parted, .ref a_t_trace, .int v_traced])), (a_t_trace, .inl (bs_I g, 30, .inl v_trace))]) (wr := []) (As := [.int x1, .int 1, .int (x2 + 1), .int x3]) (rest := []) (q := (RX6, TX6, 6)) hF (h_X6_above _ _ _ _ _ _ _ _ _ _ _ _ _ _ hw) (cwV 4 hts gX6_run_X6_above rfl rfl rfl hdX6_above ⟨by try dsimp only; omega, by try dsimp only; omega⟩) rfl hS hP hD 0 5 rfl rfl [0, 1] [] rfl rfl (by decide) (by decide) (by decide) hl.1 rfl (Nat.le_of_ble_eq_true rfl) dX6_run_275 (fun r275 u H locs hw hP hD hS => ?_)
                        obtain ⟨u275_0, u275_1, u275_2⟩ := u
                        try dsimp only at hw
                        have hP : bs_P g [(a_t, .inr (5, [.int v_kind, .int v_k, .int v_m, .int u275_0, .ref a_t_trace, .int u275_1])), (a_t_trace, .inl (bs_I g, 30, .inl u275_2))] H := va_P.sub hP [0, 1] rfl
                        have hD : va_D A [(a_t, .inr (5, [.int v_kind, .int v_k, .int v_m, .int u275_0, .ref a_t_trace, .int u275_1])), (a_t_trace, .inl (bs_I g, 30, .inl u275_2))] := va_D.sub hD [0, 1] (by decide) rfl
                        exact ret _ _ _ _ r275 (u275_0, u275_1, u275_2) dX6_run_278 rfl hw hP hD hS
                      · replace hw := hw.2 e1_60
                        by_cases e1_70 : x1 = 70
                        · replace hw := hw.1 e1_70
                          refine lv_lookup (tgt := 279) (off := 278) hx hb dX6_run_1 (by decide) (by rw [e1_70]; rfl) (by decide) ?_
                          refine lv_bipush (v := 9) hx hb dX6_run_279 (by decide) ?_
                          exact ret _ _ _ _ 9 (v_parted, v_traced, v_trace) dX6_run_281 rfl hw hP hD hS
                        · replace hw := hw.2 e1_70
                          by_cases e1_71 : x1 = 71
                          · replace hw := hw.1 e1_71
                            refine lv_lookup (tgt := 282) (off := 281) hx hb dX6_run_1 (by decide) (by rw [e1_71]; rfl) (by decide) ?_
                            refine lv_aload_n hx hb dX6_run_282 rfl (lv_at hl 0 rfl) ?_
                            refine lv_iload_n hx hb dX6_run_283 rfl (lv_at hl 1 rfl) ?_
                            refine lv_iconst (v := 1) hx hb dX6_run_284 (by decide) ?_
                            refine lv_iload_n hx hb dX6_run_285 rfl (lv_at hl 2 rfl) ?_
                            refine lv_iload_n hx hb dX6_run_286 rfl (lv_at hl 3 rfl) ?_
                            refine cv_i (wc := [(a_t, .inr (5, [.int v_kind, .int v_k, .int v_m, .int v_parted, .ref a_t_trace, .int v_traced])), (a_t_trace, .inl (bs_I g, 30, .inl v_trace))]) (wr := []) (As := [.int x1, .int 1, .int x2, .int x3]) (rest := []) (q := (RX6, TX6, 6)) hF (h_X6_above _ _ _ _ _ _ _ _ _ _ _ _ _ _ hw) (cwV 4 hts gX6_run_X6_above rfl rfl rfl hdX6_above ⟨by try dsimp only; omega, by try dsimp only; omega⟩) rfl hS hP hD 0 5 rfl rfl [0, 1] [] rfl rfl (by decide) (by decide) (by decide) hl.1 rfl (Nat.le_of_ble_eq_true rfl) dX6_run_287 (fun r287 u H locs hw hP hD hS => ?_)
                            obtain ⟨u287_0, u287_1, u287_2⟩ := u
                            try dsimp only at hw
                            have hP : bs_P g [(a_t, .inr (5, [.int v_kind, .int v_k, .int v_m, .int u287_0, .ref a_t_trace, .int u287_1])), (a_t_trace, .inl (bs_I g, 30, .inl u287_2))] H := va_P.sub hP [0, 1] rfl
                            have hD : va_D A [(a_t, .inr (5, [.int v_kind, .int v_k, .int v_m, .int u287_0, .ref a_t_trace, .int u287_1])), (a_t_trace, .inl (bs_I g, 30, .inl u287_2))] := va_D.sub hD [0, 1] (by decide) rfl
                            refine lv_aload_n hx hb dX6_run_290 rfl (lv_at hl 0 rfl) ?_
                            refine va_get (D := g.1) (ci := 5) (v := .int v_m) (C := RX6) (T := TX6) (N := 6) hx hb hts hiX6_run_X6 hown hK hP 0 rfl rfl 2 (by decide) (hts (.fieldLink RX6 22 "LionSigns$Voices" "m" "I") (by decide +kernel)) (fun _ h9 => h9) rfl dX6_run_291 ?_
                            refine lv_iadd hx hb dX6_run_294 ?_
                            exact ret _ _ _ _ (r287 + v_m) (u287_0, u287_1, u287_2) dX6_run_295 rfl hw hP hD hS
                          · replace hw := hw.2 e1_71
                            refine lv_lookup (tgt := 296) (off := 295) hx hb dX6_run_1 (by decide) (by show Op.lookupswitch.offset [(10, 115), (11, 122), (12, 132), (13, 145), (20, 192), (21, 203), (30, 220), (40, 231), (50, 242), (51, 253), (60, 267), (70, 278), (71, 281)] 295 _ = _; rw [lv_osw e1_10 (by decide), lv_osw e1_11 (by decide), lv_osw e1_12 (by decide), lv_osw e1_13 (by decide), lv_osw e1_20 (by decide), lv_osw e1_21 (by decide), lv_osw e1_30 (by decide), lv_osw e1_40 (by decide), lv_osw e1_50 (by decide), lv_osw e1_51 (by decide), lv_osw e1_60 (by decide), lv_osw e1_70 (by decide), lv_osw e1_71 (by decide)]; rfl) (by decide) ?_
                            refine lv_iconst (v := 0) hx hb dX6_run_296 (by decide) ?_
                            exact ret _ _ _ _ 0 (v_parted, v_traced, v_trace) dX6_run_297 rfl hw hP hD hS
set_option maxHeartbeats 4000000 in
theorem kG6 {l : Launch} {g : bs_G} : ∀ d : Nat, (∀ (a_t : Nat) (v_kind : Int32) (v_k : Int32) (v_m : Int32) (v_parted : Int32) (a_t_trace : Nat) (v_traced : Int32) (v_trace : Nat → Int32) (sz : Nat) (x1 : Int32) (x2 : Int32) (x3 : Int32) (K : Int32 → Int32 → Int32 → (Nat → Int32) → Prop), wpG6 d 0 x1 x2 x3 0 v_kind v_k v_m v_parted v_traced v_trace K → Met l yX6_own wsX6_own ({ frames := d + 1, cells := 0, slots := 0, locals := 26 * d + 20 } : Room) (bs_Pc g [.ref a_t, .int x1, .int x2, .int x3] [(a_t, .inr (5, [.int v_kind, .int v_k, .int v_m, .int v_parted, .ref a_t_trace, .int v_traced])), (a_t_trace, .inl (bs_I g, 30, .inl v_trace))] sz) (bs_Qi g [(a_t, .inr (5, [.int v_kind, .int v_k, .int v_m, .int v_parted, .ref a_t_trace, .int v_traced])), (a_t_trace, .inl (bs_I g, 30, .inl v_trace))] sz (fun (r : Int32) (u : Int32 × Int32 × (Nat → Int32)) => K r u.1 u.2.1 u.2.2) (fun (u : Int32 × Int32 × (Nat → Int32)) => ([(a_t, .inr (5, [.int v_kind, .int v_k, .int v_m, .int u.1, .ref a_t_trace, .int u.2.1])), (a_t_trace, .inl (bs_I g, 30, .inl u.2.2))] : va_W))) 0 0 (va_A [(a_t, .inr (5, [.int v_kind, .int v_k, .int v_m, .int v_parted, .ref a_t_trace, .int v_traced])), (a_t_trace, .inl (bs_I g, 30, .inl v_trace))] sz)) ∧ (∀ (a_t : Nat) (v_kind : Int32) (v_k : Int32) (v_m : Int32) (v_parted : Int32) (a_t_trace : Nat) (v_traced : Int32) (v_trace : Nat → Int32) (sz : Nat) (x1 : Int32) (x2 : Int32) (x3 : Int32) (x4 : Int32) (K : Int32 → Int32 → Int32 → (Nat → Int32) → Prop), wpG6 d 1 x1 x2 x3 x4 v_kind v_k v_m v_parted v_traced v_trace K → Met l yX6_above wsX6_above ({ frames := d + 1, cells := 0, slots := 0, locals := 26 * d + 20 } : Room) (bs_Pc g [.ref a_t, .int x1, .int x2, .int x3, .int x4] [(a_t, .inr (5, [.int v_kind, .int v_k, .int v_m, .int v_parted, .ref a_t_trace, .int v_traced])), (a_t_trace, .inl (bs_I g, 30, .inl v_trace))] sz) (bs_Qi g [(a_t, .inr (5, [.int v_kind, .int v_k, .int v_m, .int v_parted, .ref a_t_trace, .int v_traced])), (a_t_trace, .inl (bs_I g, 30, .inl v_trace))] sz (fun (r : Int32) (u : Int32 × Int32 × (Nat → Int32)) => K r u.1 u.2.1 u.2.2) (fun (u : Int32 × Int32 × (Nat → Int32)) => ([(a_t, .inr (5, [.int v_kind, .int v_k, .int v_m, .int u.1, .ref a_t_trace, .int u.2.1])), (a_t_trace, .inl (bs_I g, 30, .inl u.2.2))] : va_W))) 0 0 (va_A [(a_t, .inr (5, [.int v_kind, .int v_k, .int v_m, .int v_parted, .ref a_t_trace, .int v_traced])), (a_t_trace, .inl (bs_I g, 30, .inl v_trace))] sz)) ∧ (∀ (a_t : Nat) (v_kind : Int32) (v_k : Int32) (v_m : Int32) (v_parted : Int32) (a_t_trace : Nat) (v_traced : Int32) (v_trace : Nat → Int32) (sz : Nat) (x1 : Int32) (x2 : Int32) (x3 : Int32) (x4 : Int32) (K : Int32 → Int32 → Int32 → (Nat → Int32) → Prop), wpG6 d 2 x1 x2 x3 x4 v_kind v_k v_m v_parted v_traced v_trace K → Met l yX6_from wsX6_from ({ frames := d + 1, cells := 0, slots := 0, locals := 26 * d + 20 } : Room) (bs_Pc g [.ref a_t, .int x1, .int x2, .int x3, .int x4] [(a_t, .inr (5, [.int v_kind, .int v_k, .int v_m, .int v_parted, .ref a_t_trace, .int v_traced])), (a_t_trace, .inl (bs_I g, 30, .inl v_trace))] sz) (bs_Qi g [(a_t, .inr (5, [.int v_kind, .int v_k, .int v_m, .int v_parted, .ref a_t_trace, .int v_traced])), (a_t_trace, .inl (bs_I g, 30, .inl v_trace))] sz (fun (r : Int32) (u : Int32 × Int32 × (Nat → Int32)) => K r u.1 u.2.1 u.2.2) (fun (u : Int32 × Int32 × (Nat → Int32)) => ([(a_t, .inr (5, [.int v_kind, .int v_k, .int v_m, .int u.1, .ref a_t_trace, .int u.2.1])), (a_t_trace, .inl (bs_I g, 30, .inl u.2.2))] : va_W))) 0 0 (va_A [(a_t, .inr (5, [.int v_kind, .int v_k, .int v_m, .int v_parted, .ref a_t_trace, .int v_traced])), (a_t_trace, .inl (bs_I g, 30, .inl v_trace))] sz)) ∧ (∀ (a_t : Nat) (v_kind : Int32) (v_k : Int32) (v_m : Int32) (v_parted : Int32) (a_t_trace : Nat) (v_traced : Int32) (v_trace : Nat → Int32) (sz : Nat) (x1 : Int32) (x2 : Int32) (x3 : Int32) (K : Int32 → Int32 → Int32 → (Nat → Int32) → Prop), wpG6 d 3 x1 x2 x3 0 v_kind v_k v_m v_parted v_traced v_trace K → Met l yX6_run wsX6_run ({ frames := d + 1, cells := 0, slots := 0, locals := 26 * d + 20 } : Room) (bs_Pc g [.ref a_t, .int x1, .int x2, .int x3] [(a_t, .inr (5, [.int v_kind, .int v_k, .int v_m, .int v_parted, .ref a_t_trace, .int v_traced])), (a_t_trace, .inl (bs_I g, 30, .inl v_trace))] sz) (bs_Qi g [(a_t, .inr (5, [.int v_kind, .int v_k, .int v_m, .int v_parted, .ref a_t_trace, .int v_traced])), (a_t_trace, .inl (bs_I g, 30, .inl v_trace))] sz (fun (r : Int32) (u : Int32 × Int32 × (Nat → Int32)) => K r u.1 u.2.1 u.2.2) (fun (u : Int32 × Int32 × (Nat → Int32)) => ([(a_t, .inr (5, [.int v_kind, .int v_k, .int v_m, .int u.1, .ref a_t_trace, .int u.2.1])), (a_t_trace, .inl (bs_I g, 30, .inl u.2.2))] : va_W))) 0 0 (va_A [(a_t, .inr (5, [.int v_kind, .int v_k, .int v_m, .int v_parted, .ref a_t_trace, .int v_traced])), (a_t_trace, .inl (bs_I g, 30, .inl v_trace))] sz)) := by
  intro d
  induction d with
  | zero => exact ⟨fun _ _ _ _ _ _ _ _ _ _ _ _ _ hw => False.elim hw, fun _ _ _ _ _ _ _ _ _ _ _ _ _ _ hw => False.elim hw, fun _ _ _ _ _ _ _ _ _ _ _ _ _ _ hw => False.elim hw, fun _ _ _ _ _ _ _ _ _ _ _ _ _ hw => False.elim hw⟩
  | succ d ih =>
    exact ⟨fun x0 x1 x2 x3 x4 x5 x6 x7 x8 x9 x10 x11 x12 hw => koX6_own (R_X6_own := (fun a0 a1 a2 => wpG6 d 0 a0 a1 a2 0)) (R_X6_above := (wpG6 d 1)) (R_X6_from := (wpG6 d 2)) (R_X6_run := (fun a0 a1 a2 => wpG6 d 3 a0 a1 a2 0)) ih.1 ih.2.1 ih.2.2.1 ih.2.2.2 x0 x1 x2 x3 x4 x5 x6 x7 x8 x9 x10 x11 x12 hw, fun x0 x1 x2 x3 x4 x5 x6 x7 x8 x9 x10 x11 x12 x13 hw => koX6_above (R_X6_own := (fun a0 a1 a2 => wpG6 d 0 a0 a1 a2 0)) (R_X6_above := (wpG6 d 1)) (R_X6_from := (wpG6 d 2)) (R_X6_run := (fun a0 a1 a2 => wpG6 d 3 a0 a1 a2 0)) ih.1 ih.2.1 ih.2.2.1 ih.2.2.2 x0 x1 x2 x3 x4 x5 x6 x7 x8 x9 x10 x11 x12 x13 hw, fun x0 x1 x2 x3 x4 x5 x6 x7 x8 x9 x10 x11 x12 x13 hw => koX6_from (R_X6_own := (fun a0 a1 a2 => wpG6 d 0 a0 a1 a2 0)) (R_X6_above := (wpG6 d 1)) (R_X6_from := (wpG6 d 2)) (R_X6_run := (fun a0 a1 a2 => wpG6 d 3 a0 a1 a2 0)) ih.1 ih.2.1 ih.2.2.1 ih.2.2.2 x0 x1 x2 x3 x4 x5 x6 x7 x8 x9 x10 x11 x12 x13 hw, fun x0 x1 x2 x3 x4 x5 x6 x7 x8 x9 x10 x11 x12 hw => koX6_run (R_X6_own := (fun a0 a1 a2 => wpG6 d 0 a0 a1 a2 0)) (R_X6_above := (wpG6 d 1)) (R_X6_from := (wpG6 d 2)) (R_X6_run := (fun a0 a1 a2 => wpG6 d 3 a0 a1 a2 0)) ih.1 ih.2.1 ih.2.2.1 ih.2.2.2 x0 x1 x2 x3 x4 x5 x6 x7 x8 x9 x10 x11 x12 hw⟩
theorem kX6_own {l : Launch} {g : bs_G} {a_t : Nat} {v_kind : Int32} {v_k : Int32} {v_m : Int32} {v_parted : Int32} {a_t_trace : Nat} {v_traced : Int32} {v_trace : Nat → Int32} {sz : Nat} {x1 : Int32} {x2 : Int32} {x3 : Int32} {K : Int32 → Int32 → Int32 → (Nat → Int32) → Prop} (hw : wpcX6_own x1 x2 x3 v_kind v_k v_m v_parted v_traced v_trace K) : Met l yX6_own wsX6_own ({ frames := 65, cells := 0, slots := 0, locals := 1684 } : Room) (bs_Pc g [.ref a_t, .int x1, .int x2, .int x3] [(a_t, .inr (5, [.int v_kind, .int v_k, .int v_m, .int v_parted, .ref a_t_trace, .int v_traced])), (a_t_trace, .inl (bs_I g, 30, .inl v_trace))] sz) (bs_Qi g [(a_t, .inr (5, [.int v_kind, .int v_k, .int v_m, .int v_parted, .ref a_t_trace, .int v_traced])), (a_t_trace, .inl (bs_I g, 30, .inl v_trace))] sz (fun (r : Int32) (u : Int32 × Int32 × (Nat → Int32)) => K r u.1 u.2.1 u.2.2) (fun (u : Int32 × Int32 × (Nat → Int32)) => ([(a_t, .inr (5, [.int v_kind, .int v_k, .int v_m, .int u.1, .ref a_t_trace, .int u.2.1])), (a_t_trace, .inl (bs_I g, 30, .inl u.2.2))] : va_W))) 0 0 (va_A [(a_t, .inr (5, [.int v_kind, .int v_k, .int v_m, .int v_parted, .ref a_t_trace, .int v_traced])), (a_t_trace, .inl (bs_I g, 30, .inl v_trace))] sz) := (kG6 (l := l) (g := g) 64).1 _ _ _ _ _ _ _ _ _ _ _ _ _ hw
theorem kX6_above {l : Launch} {g : bs_G} {a_t : Nat} {v_kind : Int32} {v_k : Int32} {v_m : Int32} {v_parted : Int32} {a_t_trace : Nat} {v_traced : Int32} {v_trace : Nat → Int32} {sz : Nat} {x1 : Int32} {x2 : Int32} {x3 : Int32} {x4 : Int32} {K : Int32 → Int32 → Int32 → (Nat → Int32) → Prop} (hw : wpcX6_above x1 x2 x3 x4 v_kind v_k v_m v_parted v_traced v_trace K) : Met l yX6_above wsX6_above ({ frames := 65, cells := 0, slots := 0, locals := 1684 } : Room) (bs_Pc g [.ref a_t, .int x1, .int x2, .int x3, .int x4] [(a_t, .inr (5, [.int v_kind, .int v_k, .int v_m, .int v_parted, .ref a_t_trace, .int v_traced])), (a_t_trace, .inl (bs_I g, 30, .inl v_trace))] sz) (bs_Qi g [(a_t, .inr (5, [.int v_kind, .int v_k, .int v_m, .int v_parted, .ref a_t_trace, .int v_traced])), (a_t_trace, .inl (bs_I g, 30, .inl v_trace))] sz (fun (r : Int32) (u : Int32 × Int32 × (Nat → Int32)) => K r u.1 u.2.1 u.2.2) (fun (u : Int32 × Int32 × (Nat → Int32)) => ([(a_t, .inr (5, [.int v_kind, .int v_k, .int v_m, .int u.1, .ref a_t_trace, .int u.2.1])), (a_t_trace, .inl (bs_I g, 30, .inl u.2.2))] : va_W))) 0 0 (va_A [(a_t, .inr (5, [.int v_kind, .int v_k, .int v_m, .int v_parted, .ref a_t_trace, .int v_traced])), (a_t_trace, .inl (bs_I g, 30, .inl v_trace))] sz) := (kG6 (l := l) (g := g) 64).2.1 _ _ _ _ _ _ _ _ _ _ _ _ _ _ hw
theorem kX6_from {l : Launch} {g : bs_G} {a_t : Nat} {v_kind : Int32} {v_k : Int32} {v_m : Int32} {v_parted : Int32} {a_t_trace : Nat} {v_traced : Int32} {v_trace : Nat → Int32} {sz : Nat} {x1 : Int32} {x2 : Int32} {x3 : Int32} {x4 : Int32} {K : Int32 → Int32 → Int32 → (Nat → Int32) → Prop} (hw : wpcX6_from x1 x2 x3 x4 v_kind v_k v_m v_parted v_traced v_trace K) : Met l yX6_from wsX6_from ({ frames := 65, cells := 0, slots := 0, locals := 1684 } : Room) (bs_Pc g [.ref a_t, .int x1, .int x2, .int x3, .int x4] [(a_t, .inr (5, [.int v_kind, .int v_k, .int v_m, .int v_parted, .ref a_t_trace, .int v_traced])), (a_t_trace, .inl (bs_I g, 30, .inl v_trace))] sz) (bs_Qi g [(a_t, .inr (5, [.int v_kind, .int v_k, .int v_m, .int v_parted, .ref a_t_trace, .int v_traced])), (a_t_trace, .inl (bs_I g, 30, .inl v_trace))] sz (fun (r : Int32) (u : Int32 × Int32 × (Nat → Int32)) => K r u.1 u.2.1 u.2.2) (fun (u : Int32 × Int32 × (Nat → Int32)) => ([(a_t, .inr (5, [.int v_kind, .int v_k, .int v_m, .int u.1, .ref a_t_trace, .int u.2.1])), (a_t_trace, .inl (bs_I g, 30, .inl u.2.2))] : va_W))) 0 0 (va_A [(a_t, .inr (5, [.int v_kind, .int v_k, .int v_m, .int v_parted, .ref a_t_trace, .int v_traced])), (a_t_trace, .inl (bs_I g, 30, .inl v_trace))] sz) := (kG6 (l := l) (g := g) 64).2.2.1 _ _ _ _ _ _ _ _ _ _ _ _ _ _ hw
theorem kX6_run {l : Launch} {g : bs_G} {a_t : Nat} {v_kind : Int32} {v_k : Int32} {v_m : Int32} {v_parted : Int32} {a_t_trace : Nat} {v_traced : Int32} {v_trace : Nat → Int32} {sz : Nat} {x1 : Int32} {x2 : Int32} {x3 : Int32} {K : Int32 → Int32 → Int32 → (Nat → Int32) → Prop} (hw : wpcX6_run x1 x2 x3 v_kind v_k v_m v_parted v_traced v_trace K) : Met l yX6_run wsX6_run ({ frames := 65, cells := 0, slots := 0, locals := 1684 } : Room) (bs_Pc g [.ref a_t, .int x1, .int x2, .int x3] [(a_t, .inr (5, [.int v_kind, .int v_k, .int v_m, .int v_parted, .ref a_t_trace, .int v_traced])), (a_t_trace, .inl (bs_I g, 30, .inl v_trace))] sz) (bs_Qi g [(a_t, .inr (5, [.int v_kind, .int v_k, .int v_m, .int v_parted, .ref a_t_trace, .int v_traced])), (a_t_trace, .inl (bs_I g, 30, .inl v_trace))] sz (fun (r : Int32) (u : Int32 × Int32 × (Nat → Int32)) => K r u.1 u.2.1 u.2.2) (fun (u : Int32 × Int32 × (Nat → Int32)) => ([(a_t, .inr (5, [.int v_kind, .int v_k, .int v_m, .int u.1, .ref a_t_trace, .int u.2.1])), (a_t_trace, .inl (bs_I g, 30, .inl u.2.2))] : va_W))) 0 0 (va_A [(a_t, .inr (5, [.int v_kind, .int v_k, .int v_m, .int v_parted, .ref a_t_trace, .int v_traced])), (a_t_trace, .inl (bs_I g, 30, .inl v_trace))] sz) := (kG6 (l := l) (g := g) 64).2.2.2 _ _ _ _ _ _ _ _ _ _ _ _ _ hw

theorem hdX7_draw : yX7_draw.cls = RX7 ∧ yX7_draw.cls ≠ "java/lang/invoke/MethodHandle" ∧ yX7_draw.cls ≠ "java/lang/invoke/VarHandle" ∧ (parseMethodDescriptor yX7_draw.desc).map (fun d => d.parameters.length) = some 0 := by decide +kernel
theorem hiX7_draw_X7 : ∀ w ∈ wsX70, w ∈ wsX7_draw := by decide +kernel
set_option maxHeartbeats 4000000 in
set_option maxRecDepth 100000 in
theorem kX7_draw {l : Launch} {g : bs_G} {a_t : Nat} {a_t_lions : Nat} {a_t_events : Nat} {v_readers : Int32} {a_t_kinds : Nat} {a_t_ms : Nat} {a_t_marks : Nat} {a_t_turnLaw : Nat} {a_t_markLaw : Nat} {a_t_tape : Nat} {v_tapeSize : Int32} {a_t_waiting : Nat} {v_waits : Int32} {v_z : Int32} {sz : Nat} {K : Int32 → Int32 → Prop} (hw : wpX7_draw v_z K) : Met l yX7_draw wsX7_draw ({ frames := 0, cells := 0, slots := 0, locals := 0 } : Room) (bs_Pc g [.ref a_t] [(a_t, .inr (6, [.ref a_t_lions, .ref a_t_events, .int v_readers, .ref a_t_kinds, .ref a_t_ms, .ref a_t_marks, .ref a_t_turnLaw, .ref a_t_markLaw, .ref a_t_tape, .int v_tapeSize, .ref a_t_waiting, .int v_waits, .int v_z]))] sz) (bs_Qi g [(a_t, .inr (6, [.ref a_t_lions, .ref a_t_events, .int v_readers, .ref a_t_kinds, .ref a_t_ms, .ref a_t_marks, .ref a_t_turnLaw, .ref a_t_markLaw, .ref a_t_tape, .int v_tapeSize, .ref a_t_waiting, .int v_waits, .int v_z]))] sz (fun (r : Int32) (u : Int32) => K r u) (fun (u : Int32) => ([(a_t, .inr (6, [.ref a_t_lions, .ref a_t_events, .int v_readers, .ref a_t_kinds, .ref a_t_ms, .ref a_t_marks, .ref a_t_turnLaw, .ref a_t_markLaw, .ref a_t_tape, .int v_tapeSize, .ref a_t_waiting, .int v_waits, .int u]))] : va_W))) 0 0 (va_A [(a_t, .inr (6, [.ref a_t_lions, .ref a_t_events, .int v_readers, .ref a_t_kinds, .ref a_t_ms, .ref a_t_marks, .ref a_t_turnLaw, .ref a_t_markLaw, .ref a_t_tape, .int v_tapeSize, .ref a_t_waiting, .int v_waits, .int v_z]))] sz) := by
  refine ent_i (cc := cX7_draw) (maxL := 1) (rt := .int) (by decide) rfl (Nat.le_of_ble_eq_true rfl) ?_
  intro p e s m below meth c Q A hF hsz hP hD hS ret ls hl
  obtain ⟨⟨hx, hb, hml, hown, hts⟩, hK, hG, hA⟩ := id hF
  have hown : s.vm.findClass RX7 = some m.cls := hown
  have hl : lv_has ls 1 [(0, .ref a_t)] := hl
  refine lv_aload_n hx hb dX7_draw_0 rfl (lv_at hl 0 rfl) ?_
  refine lv_aload_n hx hb dX7_draw_1 rfl (lv_at hl 0 rfl) ?_
  refine va_get (D := g.1) (ci := 6) (v := .int v_z) (C := RX7) (T := TX7) (N := 13) hx hb hts hiX7_draw_X7 hown hK hP 0 rfl rfl 12 (by decide) (hts (.fieldLink RX7 38 "LionSigns$World" "z" "I") (by decide +kernel)) (fun _ h9 => h9) rfl dX7_draw_2 ?_
  refine lv_ldc (v := 1103515245) hx hb hown (hts (.constant RX7 89 (1103515245)) (by decide +kernel)) dX7_draw_5 ?_
  refine lv_imul hx hb dX7_draw_7 ?_
  refine lv_sipush (v := 12345) hx hb dX7_draw_8 (by decide) ?_
  refine lv_iadd hx hb dX7_draw_11 ?_
  refine va_put (D := g.1) (ci := 6) (v := .int ((v_z * 1103515245) + 12345)) (ty := .int) (C := RX7) (T := TX7) (N := 13) hx hb hts hiX7_draw_X7 tyX7 tyX7_ok nmX7 hown hK hP hD hS 0 rfl rfl 12 (by decide) (hts (.fieldLink RX7 38 "LionSigns$World" "z" "I") (by decide +kernel)) (fun _ h9 => h9) rfl (by decide +kernel) rfl rfl (Nat.le_of_ble_eq_true rfl) dX7_draw_12 (fun H locs hP hD hS => ?_)
  have hP : bs_P g [(a_t, .inr (6, [.ref a_t_lions, .ref a_t_events, .int v_readers, .ref a_t_kinds, .ref a_t_ms, .ref a_t_marks, .ref a_t_turnLaw, .ref a_t_markLaw, .ref a_t_tape, .int v_tapeSize, .ref a_t_waiting, .int v_waits, .int ((v_z * 1103515245) + 12345)]))] H := hP
  have hD : va_D A [(a_t, .inr (6, [.ref a_t_lions, .ref a_t_events, .int v_readers, .ref a_t_kinds, .ref a_t_ms, .ref a_t_marks, .ref a_t_turnLaw, .ref a_t_markLaw, .ref a_t_tape, .int v_tapeSize, .ref a_t_waiting, .int v_waits, .int ((v_z * 1103515245) + 12345)]))] := hD
  refine lv_aload_n hx hb dX7_draw_15 rfl (lv_at hl 0 rfl) ?_
  refine va_get (D := g.1) (ci := 6) (v := .int ((v_z * 1103515245) + 12345)) (C := RX7) (T := TX7) (N := 13) hx hb hts hiX7_draw_X7 hown hK hP 0 rfl rfl 12 (by decide) (hts (.fieldLink RX7 38 "LionSigns$World" "z" "I") (by decide +kernel)) (fun _ h9 => h9) rfl dX7_draw_16 ?_
  refine lv_bipush (v := 8) hx hb dX7_draw_19 (by decide) ?_
  refine lv_iushr hx hb dX7_draw_21 rfl ?_
  exact ret _ _ _ _ ((((v_z * 1103515245) + 12345).toUInt32 >>> ((8 : Int32).toUInt32 &&& Int32.toUInt32 31)).toInt32) (((v_z * 1103515245) + 12345)) dX7_draw_22 rfl hw hP hD hS

theorem hdX7_allMarks : yX7_allMarks.cls = RX7 ∧ yX7_allMarks.cls ≠ "java/lang/invoke/MethodHandle" ∧ yX7_allMarks.cls ≠ "java/lang/invoke/VarHandle" ∧ (parseMethodDescriptor yX7_allMarks.desc).map (fun d => d.parameters.length) = some 0 := by decide +kernel
theorem hiX7_allMarks_X7 : ∀ w ∈ wsX70, w ∈ wsX7_allMarks := by decide +kernel
set_option maxHeartbeats 4000000 in
set_option maxRecDepth 100000 in
theorem kX7_allMarks {l : Launch} {g : bs_G} {a_t : Nat} {a_t_lions : Nat} {a_t_events : Nat} {v_readers : Int32} {a_t_kinds : Nat} {a_t_ms : Nat} {a_t_marks : Nat} {a_t_turnLaw : Nat} {a_t_markLaw : Nat} {a_t_tape : Nat} {v_tapeSize : Int32} {a_t_waiting : Nat} {v_waits : Int32} {v_z : Int32} {v_marks : Nat → Int32} {sz : Nat} {K : Int32 → Prop} (hw : wpX7_allMarks v_readers v_marks K) : Met l yX7_allMarks wsX7_allMarks ({ frames := 0, cells := 0, slots := 0, locals := 0 } : Room) (bs_Pc g [.ref a_t] [(a_t, .inr (6, [.ref a_t_lions, .ref a_t_events, .int v_readers, .ref a_t_kinds, .ref a_t_ms, .ref a_t_marks, .ref a_t_turnLaw, .ref a_t_markLaw, .ref a_t_tape, .int v_tapeSize, .ref a_t_waiting, .int v_waits, .int v_z])), (a_t_marks, .inl (bs_I g, 6, .inl v_marks))] sz) (bs_Qi g [(a_t, .inr (6, [.ref a_t_lions, .ref a_t_events, .int v_readers, .ref a_t_kinds, .ref a_t_ms, .ref a_t_marks, .ref a_t_turnLaw, .ref a_t_markLaw, .ref a_t_tape, .int v_tapeSize, .ref a_t_waiting, .int v_waits, .int v_z])), (a_t_marks, .inl (bs_I g, 6, .inl v_marks))] sz (fun (r : Int32) (_ : Unit) => K r) (fun (_ : Unit) => ([(a_t, .inr (6, [.ref a_t_lions, .ref a_t_events, .int v_readers, .ref a_t_kinds, .ref a_t_ms, .ref a_t_marks, .ref a_t_turnLaw, .ref a_t_markLaw, .ref a_t_tape, .int v_tapeSize, .ref a_t_waiting, .int v_waits, .int v_z])), (a_t_marks, .inl (bs_I g, 6, .inl v_marks))] : va_W))) 0 0 (va_A [(a_t, .inr (6, [.ref a_t_lions, .ref a_t_events, .int v_readers, .ref a_t_kinds, .ref a_t_ms, .ref a_t_marks, .ref a_t_turnLaw, .ref a_t_markLaw, .ref a_t_tape, .int v_tapeSize, .ref a_t_waiting, .int v_waits, .int v_z])), (a_t_marks, .inl (bs_I g, 6, .inl v_marks))] sz) := by
  refine ent_i (cc := cX7_allMarks) (maxL := 3) (rt := .int) (by decide) rfl (Nat.le_of_ble_eq_true rfl) ?_
  intro p e s m below meth c Q A hF hsz hP hD hS ret ls hl
  obtain ⟨⟨hx, hb, hml, hown, hts⟩, hK, hG, hA⟩ := id hF
  have hown : s.vm.findClass RX7 = some m.cls := hown
  have hl : lv_has ls 3 [(0, .ref a_t)] := hl
  have lp4 : ∀ (n : Nat) (y1 : Int32) (y2 : Int32), wpX7_allMarks_L4 n y1 y2 v_readers v_marks K → ∀ (H : Heap) (locs : List Loc), bs_P g [(a_t, .inr (6, [.ref a_t_lions, .ref a_t_events, .int v_readers, .ref a_t_kinds, .ref a_t_ms, .ref a_t_marks, .ref a_t_turnLaw, .ref a_t_markLaw, .ref a_t_tape, .int v_tapeSize, .ref a_t_waiting, .int v_waits, .int v_z])), (a_t_marks, .inl (bs_I g, 6, .inl v_marks))] H → va_D A [(a_t, .inr (6, [.ref a_t_lions, .ref a_t_events, .int v_readers, .ref a_t_kinds, .ref a_t_ms, .ref a_t_marks, .ref a_t_turnLaw, .ref a_t_markLaw, .ref a_t_tape, .int v_tapeSize, .ref a_t_waiting, .int v_waits, .int v_z])), (a_t_marks, .inl (bs_I g, 6, .inl v_marks))] → va_S A s.heap H locs → ∀ ls, lv_has ls 3 [(0, .ref a_t), (1, .int y1), (2, .int y2)] → W p l e ({ frames := 0, cells := 0, slots := 0, locals := 0 } : Room) s m [.ref a_t].toArray below meth c H locs 0 0 Q (F0 m 4 ls []) := by
    intro n
    induction n with
    | zero => intro _ _ hw; exact False.elim hw
    | succ n ih =>
      intro y1 y2 hw H locs hP hD hS ls hl
      rw [wpX7_allMarks_L4] at hw
      refine lv_iload_n hx hb dX7_allMarks_4 rfl (lv_at hl 2 rfl) ?_
      refine lv_aload_n hx hb dX7_allMarks_5 rfl (lv_at hl 0 rfl) ?_
      refine va_get (D := g.1) (ci := 6) (v := .int v_readers) (C := RX7) (T := TX7) (N := 13) hx hb hts hiX7_allMarks_X7 hown hK hP 0 rfl rfl 2 (by decide) (hts (.fieldLink RX7 64 "LionSigns$World" "readers" "I") (by decide +kernel)) (fun _ h9 => h9) rfl dX7_allMarks_6 ?_
      refine lv_icmp_ge (tgt := 27) hx hb dX7_allMarks_9 (by decide) (fun c9 => ?_) (fun c9 => ?_)
      · replace hw := hw.1 c9
        refine lv_iload_n hx hb dX7_allMarks_27 rfl (lv_at hl 1 rfl) ?_
        exact ret _ _ _ _ y1 () dX7_allMarks_28 rfl hw hP hD hS
      · replace hw := hw.2 c9
        refine lv_iload_n hx hb dX7_allMarks_12 rfl (lv_at hl 1 rfl) ?_
        refine lv_aload_n hx hb dX7_allMarks_13 rfl (lv_at hl 0 rfl) ?_
        refine va_get (D := g.1) (ci := 6) (v := .ref a_t_marks) (C := RX7) (T := TX7) (N := 13) hx hb hts hiX7_allMarks_X7 hown hK hP 0 rfl rfl 5 (by decide) (hts (.fieldLink RX7 28 "LionSigns$World" "marks" "[I") (by decide +kernel)) (fun _ h9 => h9) rfl dX7_allMarks_14 ?_
        refine lv_iload_n hx hb dX7_allMarks_17 rfl (lv_at hl 2 rfl) ?_
        refine va_iald hx hb hK hP 1 0 rfl rfl hw.1 dX7_allMarks_18 ?_
        replace hw := hw.2
        refine lv_iadd hx hb dX7_allMarks_19 ?_
        refine lv_istore_n (lv' := [(1, .int (y1 + (v_marks y2.toNatClampNeg))), (0, .ref a_t), (2, .int y2)]) hx hb dX7_allMarks_20 rfl hl (by decide) rfl (fun ls hl => ?_)
        refine lv_iinc (v := y2 + 1) (lv' := [(2, .int (y2 + 1)), (1, .int (y1 + (v_marks y2.toNatClampNeg))), (0, .ref a_t)]) hx hb dX7_allMarks_21 hl (k := 2) rfl rfl (by decide) rfl (fun ls hl => ?_)
        refine lv_goto (tgt := 4) hx hb dX7_allMarks_24 (by decide) ?_
        exact ih (y1 + (v_marks y2.toNatClampNeg)) (y2 + 1) hw _ _ hP hD hS _ (lv_sub hl [2, 1, 0] rfl)
  refine lv_iconst (v := 0) hx hb dX7_allMarks_0 (by decide) ?_
  refine lv_istore_n (lv' := [(1, .int 0), (0, .ref a_t)]) hx hb dX7_allMarks_1 rfl hl (by decide) rfl (fun ls hl => ?_)
  refine lv_iconst (v := 0) hx hb dX7_allMarks_2 (by decide) ?_
  refine lv_istore_n (lv' := [(2, .int 0), (1, .int 0), (0, .ref a_t)]) hx hb dX7_allMarks_3 rfl hl (by decide) rfl (fun ls hl => ?_)
  obtain ⟨n1, hw⟩ := hw
  exact lp4 n1 0 0 hw _ _ hP hD hS _ (lv_sub hl [2, 1, 0] rfl)

theorem hdX8_seed : yX8_seed.cls = RX8 ∧ yX8_seed.cls ≠ "java/lang/invoke/MethodHandle" ∧ yX8_seed.cls ≠ "java/lang/invoke/VarHandle" ∧ (parseMethodDescriptor yX8_seed.desc).map (fun d => d.parameters.length) = some 1 := by decide +kernel
theorem hiX8_seed_X7 : ∀ w ∈ wsX70, w ∈ wsX8_seed := by decide +kernel
theorem hiX8_seed_X8 : ∀ w ∈ wsX80, w ∈ wsX8_seed := by decide +kernel
set_option maxHeartbeats 4000000 in
set_option maxRecDepth 100000 in
theorem kX8_seed {l : Launch} {g : bs_G} {a_t : Nat} {a_t_now : Nat} {a_t_kept : Nat} {a_t_thoughts : Nat} {a_t_textReader : Nat} {a_t_voices : Nat} {a_t_sheets : Nat} {a_t_errors : Nat} {v_images : Int32} {a_t_now_lions : Nat} {a_t_now_events : Nat} {v_now_readers : Int32} {a_t_now_kinds : Nat} {a_t_now_ms : Nat} {a_t_now_marks : Nat} {a_t_now_turnLaw : Nat} {a_t_now_markLaw : Nat} {a_t_now_tape : Nat} {v_now_tapeSize : Int32} {a_t_now_waiting : Nat} {v_now_waits : Int32} {v_now_z : Int32} {sz : Nat} {x1 : Int32} {K : Int32 → Int32 → Prop} (hw : wpX8_seed x1 v_now_z K) : Met l yX8_seed wsX8_seed ({ frames := 0, cells := 0, slots := 0, locals := 0 } : Room) (bs_Pc g [.ref a_t, .int x1] [(a_t, .inr (7, [.ref a_t_now, .ref a_t_kept, .ref a_t_thoughts, .ref a_t_textReader, .ref a_t_voices, .ref a_t_sheets, .ref a_t_errors, .int v_images])), (a_t_now, .inr (6, [.ref a_t_now_lions, .ref a_t_now_events, .int v_now_readers, .ref a_t_now_kinds, .ref a_t_now_ms, .ref a_t_now_marks, .ref a_t_now_turnLaw, .ref a_t_now_markLaw, .ref a_t_now_tape, .int v_now_tapeSize, .ref a_t_now_waiting, .int v_now_waits, .int v_now_z]))] sz) (bs_Qi g [(a_t, .inr (7, [.ref a_t_now, .ref a_t_kept, .ref a_t_thoughts, .ref a_t_textReader, .ref a_t_voices, .ref a_t_sheets, .ref a_t_errors, .int v_images])), (a_t_now, .inr (6, [.ref a_t_now_lions, .ref a_t_now_events, .int v_now_readers, .ref a_t_now_kinds, .ref a_t_now_ms, .ref a_t_now_marks, .ref a_t_now_turnLaw, .ref a_t_now_markLaw, .ref a_t_now_tape, .int v_now_tapeSize, .ref a_t_now_waiting, .int v_now_waits, .int v_now_z]))] sz (fun (r : Int32) (u : Int32) => K r u) (fun (u : Int32) => ([(a_t, .inr (7, [.ref a_t_now, .ref a_t_kept, .ref a_t_thoughts, .ref a_t_textReader, .ref a_t_voices, .ref a_t_sheets, .ref a_t_errors, .int v_images])), (a_t_now, .inr (6, [.ref a_t_now_lions, .ref a_t_now_events, .int v_now_readers, .ref a_t_now_kinds, .ref a_t_now_ms, .ref a_t_now_marks, .ref a_t_now_turnLaw, .ref a_t_now_markLaw, .ref a_t_now_tape, .int v_now_tapeSize, .ref a_t_now_waiting, .int v_now_waits, .int u]))] : va_W))) 0 0 (va_A [(a_t, .inr (7, [.ref a_t_now, .ref a_t_kept, .ref a_t_thoughts, .ref a_t_textReader, .ref a_t_voices, .ref a_t_sheets, .ref a_t_errors, .int v_images])), (a_t_now, .inr (6, [.ref a_t_now_lions, .ref a_t_now_events, .int v_now_readers, .ref a_t_now_kinds, .ref a_t_now_ms, .ref a_t_now_marks, .ref a_t_now_turnLaw, .ref a_t_now_markLaw, .ref a_t_now_tape, .int v_now_tapeSize, .ref a_t_now_waiting, .int v_now_waits, .int v_now_z]))] sz) := by
  refine ent_i (cc := cX8_seed) (maxL := 3) (rt := .int) (by decide) rfl (Nat.le_of_ble_eq_true rfl) ?_
  intro p e s m below meth c Q A hF hsz hP hD hS ret ls hl
  obtain ⟨⟨hx, hb, hml, hown, hts⟩, hK, hG, hA⟩ := id hF
  have hown : s.vm.findClass RX8 = some m.cls := hown
  have hl : lv_has ls 3 [(0, .ref a_t), (1, .int x1)] := hl
  refine lv_aload_n hx hb dX8_seed_0 rfl (lv_at hl 0 rfl) ?_
  refine va_get (D := g.1) (ci := 7) (v := .ref a_t_now) (C := RX8) (T := TX8) (N := 8) hx hb hts hiX8_seed_X8 hown hK hP 0 rfl rfl 0 (by decide) (hts (.fieldLink RX8 12 "LionSigns" "now" "LLionSigns$World;") (by decide +kernel)) (fun _ h9 => h9) rfl dX8_seed_1 ?_
  refine va_get (D := g.1) (ci := 6) (v := .int v_now_z) (C := RX7) (T := TX7) (N := 13) hx hb hts hiX8_seed_X7 hown hK hP 1 rfl rfl 12 (by decide) (hts (.fieldLink RX8 168 "LionSigns$World" "z" "I") (by decide +kernel)) (fun _ h9 => h9) rfl dX8_seed_4 ?_
  refine lv_istore_n (lv' := [(2, .int v_now_z), (0, .ref a_t), (1, .int x1)]) hx hb dX8_seed_7 rfl hl (by decide) rfl (fun ls hl => ?_)
  refine lv_aload_n hx hb dX8_seed_8 rfl (lv_at hl 1 rfl) ?_
  refine va_get (D := g.1) (ci := 7) (v := .ref a_t_now) (C := RX8) (T := TX8) (N := 8) hx hb hts hiX8_seed_X8 hown hK hP 0 rfl rfl 0 (by decide) (hts (.fieldLink RX8 12 "LionSigns" "now" "LLionSigns$World;") (by decide +kernel)) (fun _ h9 => h9) rfl dX8_seed_9 ?_
  refine lv_iload_n hx hb dX8_seed_12 rfl (lv_at hl 2 rfl) ?_
  refine va_put (D := g.1) (ci := 6) (v := .int x1) (ty := .int) (C := RX7) (T := TX7) (N := 13) hx hb hts hiX8_seed_X7 tyX7 tyX7_ok nmX7 hown hK hP hD hS 1 rfl rfl 12 (by decide) (hts (.fieldLink RX8 168 "LionSigns$World" "z" "I") (by decide +kernel)) (fun _ h9 => h9) rfl (by decide +kernel) rfl rfl (Nat.le_of_ble_eq_true rfl) dX8_seed_13 (fun H locs hP hD hS => ?_)
  have hP : bs_P g [(a_t, .inr (7, [.ref a_t_now, .ref a_t_kept, .ref a_t_thoughts, .ref a_t_textReader, .ref a_t_voices, .ref a_t_sheets, .ref a_t_errors, .int v_images])), (a_t_now, .inr (6, [.ref a_t_now_lions, .ref a_t_now_events, .int v_now_readers, .ref a_t_now_kinds, .ref a_t_now_ms, .ref a_t_now_marks, .ref a_t_now_turnLaw, .ref a_t_now_markLaw, .ref a_t_now_tape, .int v_now_tapeSize, .ref a_t_now_waiting, .int v_now_waits, .int x1]))] H := hP
  have hD : va_D A [(a_t, .inr (7, [.ref a_t_now, .ref a_t_kept, .ref a_t_thoughts, .ref a_t_textReader, .ref a_t_voices, .ref a_t_sheets, .ref a_t_errors, .int v_images])), (a_t_now, .inr (6, [.ref a_t_now_lions, .ref a_t_now_events, .int v_now_readers, .ref a_t_now_kinds, .ref a_t_now_ms, .ref a_t_now_marks, .ref a_t_now_turnLaw, .ref a_t_now_markLaw, .ref a_t_now_tape, .int v_now_tapeSize, .ref a_t_now_waiting, .int v_now_waits, .int x1]))] := hD
  refine lv_iload_n hx hb dX8_seed_16 rfl (lv_at hl 0 rfl) ?_
  exact ret _ _ _ _ v_now_z (x1) dX8_seed_17 rfl hw hP hD hS

theorem hdX8_no : yX8_no.cls = RX8 ∧ yX8_no.cls ≠ "java/lang/invoke/MethodHandle" ∧ yX8_no.cls ≠ "java/lang/invoke/VarHandle" ∧ (parseMethodDescriptor yX8_no.desc).map (fun d => d.parameters.length) = some 1 := by decide +kernel
theorem hiX8_no_X8 : ∀ w ∈ wsX80, w ∈ wsX8_no := by decide +kernel
set_option maxHeartbeats 4000000 in
set_option maxRecDepth 100000 in
theorem kX8_no {l : Launch} {g : bs_G} {a_t : Nat} {a_t_now : Nat} {a_t_kept : Nat} {a_t_thoughts : Nat} {a_t_textReader : Nat} {a_t_voices : Nat} {a_t_sheets : Nat} {a_t_errors : Nat} {v_images : Int32} {v_errors : Nat → Int32} {sz : Nat} {x1 : Int32} {K : Int32 → (Nat → Int32) → Prop} (hw : wpX8_no x1 v_errors K) : Met l yX8_no wsX8_no ({ frames := 0, cells := 0, slots := 0, locals := 0 } : Room) (bs_Pc g [.ref a_t, .int x1] [(a_t, .inr (7, [.ref a_t_now, .ref a_t_kept, .ref a_t_thoughts, .ref a_t_textReader, .ref a_t_voices, .ref a_t_sheets, .ref a_t_errors, .int v_images])), (a_t_errors, .inl (bs_I g, 7, .inl v_errors))] sz) (bs_Qi g [(a_t, .inr (7, [.ref a_t_now, .ref a_t_kept, .ref a_t_thoughts, .ref a_t_textReader, .ref a_t_voices, .ref a_t_sheets, .ref a_t_errors, .int v_images])), (a_t_errors, .inl (bs_I g, 7, .inl v_errors))] sz (fun (r : Int32) (u : (Nat → Int32)) => K r u) (fun (u : (Nat → Int32)) => ([(a_t, .inr (7, [.ref a_t_now, .ref a_t_kept, .ref a_t_thoughts, .ref a_t_textReader, .ref a_t_voices, .ref a_t_sheets, .ref a_t_errors, .int v_images])), (a_t_errors, .inl (bs_I g, 7, .inl u))] : va_W))) 0 0 (va_A [(a_t, .inr (7, [.ref a_t_now, .ref a_t_kept, .ref a_t_thoughts, .ref a_t_textReader, .ref a_t_voices, .ref a_t_sheets, .ref a_t_errors, .int v_images])), (a_t_errors, .inl (bs_I g, 7, .inl v_errors))] sz) := by
  refine ent_i (cc := cX8_no) (maxL := 2) (rt := .int) (by decide) rfl (Nat.le_of_ble_eq_true rfl) ?_
  intro p e s m below meth c Q A hF hsz hP hD hS ret ls hl
  obtain ⟨⟨hx, hb, hml, hown, hts⟩, hK, hG, hA⟩ := id hF
  have hown : s.vm.findClass RX8 = some m.cls := hown
  have hl : lv_has ls 2 [(0, .ref a_t), (1, .int x1)] := hl
  refine lv_aload_n hx hb dX8_no_0 rfl (lv_at hl 0 rfl) ?_
  refine va_get (D := g.1) (ci := 7) (v := .ref a_t_errors) (C := RX8) (T := TX8) (N := 8) hx hb hts hiX8_no_X8 hown hK hP 0 rfl rfl 6 (by decide) (hts (.fieldLink RX8 48 "LionSigns" "errors" "[I") (by decide +kernel)) (fun _ h9 => h9) rfl dX8_no_1 ?_
  refine lv_iload_n hx hb dX8_no_4 rfl (lv_at hl 1 rfl) ?_
  refine lv_dup2_11 hx hb dX8_no_5 rfl rfl ?_
  refine va_iald hx hb hK hP 1 0 rfl rfl hw.1 dX8_no_6 ?_
  replace hw := hw.2
  refine lv_iconst (v := 1) hx hb dX8_no_7 (by decide) ?_
  refine lv_iadd hx hb dX8_no_8 ?_
  refine va_iast hx hb hK hP hD hS 1 0 rfl rfl hw.1 dX8_no_9 (fun H locs hP hD hS => ?_)
  replace hw := hw.2
  have hP : bs_P g [(a_t, .inr (7, [.ref a_t_now, .ref a_t_kept, .ref a_t_thoughts, .ref a_t_textReader, .ref a_t_voices, .ref a_t_sheets, .ref a_t_errors, .int v_images])), (a_t_errors, .inl (bs_I g, 7, .inl (upd v_errors x1.toNatClampNeg ((v_errors x1.toNatClampNeg) + 1))))] H := hP
  have hD : va_D A [(a_t, .inr (7, [.ref a_t_now, .ref a_t_kept, .ref a_t_thoughts, .ref a_t_textReader, .ref a_t_voices, .ref a_t_sheets, .ref a_t_errors, .int v_images])), (a_t_errors, .inl (bs_I g, 7, .inl (upd v_errors x1.toNatClampNeg ((v_errors x1.toNatClampNeg) + 1))))] := hD
  refine lv_ldcw (v := (-1000000000)) hx hb hown (hts (.constant RX8 268 (-1000000000)) (by decide +kernel)) dX8_no_10 ?_
  refine lv_iload_n hx hb dX8_no_13 rfl (lv_at hl 1 rfl) ?_
  refine lv_isub hx hb dX8_no_14 ?_
  exact ret _ _ _ _ ((-1000000000) - x1) ((upd v_errors x1.toNatClampNeg ((v_errors x1.toNatClampNeg) + 1))) dX8_no_15 rfl hw hP hD hS

theorem hdX8_within : yX8_within.cls ≠ "java/lang/invoke/MethodHandle" ∧ yX8_within.cls ≠ "java/lang/invoke/VarHandle" ∧ (parseMethodDescriptor yX8_within.desc).map (fun d => d.parameters.length) = some 2 := by decide +kernel
set_option maxHeartbeats 4000000 in
set_option maxRecDepth 100000 in
theorem kX8_within {l : Launch} {g : bs_G} {sz : Nat} {x0 : Int32} {x1 : Int32} {K : Int32 → Prop} (hw : wpX8_within x0 x1 K) : Met l yX8_within wsX8_within ({ frames := 0, cells := 0, slots := 0, locals := 0 } : Room) (bs_Pc g [.int x0, .int x1] [] sz) (bs_Qi g [] sz (fun (r : Int32) (_ : Unit) => K r) (fun (_ : Unit) => ([] : va_W))) 0 0 (va_A [] sz) := by
  refine ent_i (cc := cX8_within) (maxL := 2) (rt := .boolean) (by decide) rfl (Nat.le_of_ble_eq_true rfl) ?_
  intro p e s m below meth c Q A hF hsz hP hD hS ret ls hl
  obtain ⟨⟨hx, hb, hml, hown, hts⟩, hK, hG, hA⟩ := id hF
  have hown : s.vm.findClass RX8 = some m.cls := hown
  have hl : lv_has ls 2 [(0, .int x0), (1, .int x1)] := hl
  refine lv_iload_n hx hb dX8_within_0 rfl (lv_at hl 0 rfl) ?_
  refine lv_if_lt (tgt := 13) hx hb dX8_within_1 (by decide) (fun c1 => ?_) (fun c1 => ?_)
  · replace hw := hw.1 c1
    refine lv_iconst (v := 0) hx hb dX8_within_13 (by decide) ?_
    exact ret _ _ _ _ 0 () dX8_within_14 rfl hw hP hD hS
  · replace hw := hw.2 c1
    refine lv_iload_n hx hb dX8_within_4 rfl (lv_at hl 0 rfl) ?_
    refine lv_iload_n hx hb dX8_within_5 rfl (lv_at hl 1 rfl) ?_
    refine lv_icmp_gt (tgt := 13) hx hb dX8_within_6 (by decide) (fun c6 => ?_) (fun c6 => ?_)
    · replace hw := hw.1 c6
      refine lv_iconst (v := 0) hx hb dX8_within_13 (by decide) ?_
      exact ret _ _ _ _ 0 () dX8_within_14 rfl hw hP hD hS
    · replace hw := hw.2 c6
      refine lv_iconst (v := 1) hx hb dX8_within_9 (by decide) ?_
      refine lv_goto (tgt := 14) hx hb dX8_within_10 (by decide) ?_
      exact ret _ _ _ _ 1 () dX8_within_14 rfl hw hP hD hS

theorem hdX8_isLion : yX8_isLion.cls ≠ "java/lang/invoke/MethodHandle" ∧ yX8_isLion.cls ≠ "java/lang/invoke/VarHandle" ∧ (parseMethodDescriptor yX8_isLion.desc).map (fun d => d.parameters.length) = some 1 := by decide +kernel
set_option maxHeartbeats 4000000 in
set_option maxRecDepth 100000 in
theorem kX8_isLion {l : Launch} {g : bs_G} {sz : Nat} {x0 : Int32} {K : Int32 → Prop} (hw : wpX8_isLion x0 K) : Met l yX8_isLion wsX8_isLion ({ frames := 1, cells := 0, slots := 0, locals := 21 } : Room) (bs_Pc g [.int x0] [] sz) (bs_Qi g [] sz (fun (r : Int32) (_ : Unit) => K r) (fun (_ : Unit) => ([] : va_W))) 0 0 (va_A [] sz) := by
  refine ent_i (cc := cX8_isLion) (maxL := 1) (rt := .boolean) (by decide) rfl (Nat.le_of_ble_eq_true rfl) ?_
  intro p e s m below meth c Q A hF hsz hP hD hS ret ls hl
  obtain ⟨⟨hx, hb, hml, hown, hts⟩, hK, hG, hA⟩ := id hF
  have hown : s.vm.findClass RX8 = some m.cls := hown
  have hl : lv_has ls 1 [(0, .int x0)] := hl
  refine lv_iload_n hx hb dX8_isLion_0 rfl (lv_at hl 0 rfl) ?_
  refine lv_iconst (v := 1) hx hb dX8_isLion_1 (by decide) ?_
  refine cs_i (wc := []) (wr := []) (As := [.int x0, .int 1]) (rest := []) hF (kX8_within hw) (va_cwS 2 hts gX8_isLion_X8_within rfl rfl rfl hdX8_within ⟨Nat.le_of_ble_eq_true rfl, Nat.le_of_ble_eq_true rfl⟩) rfl hS hP hD [] [] rfl rfl (by decide) (by decide) (by decide) hl.1 rfl (Nat.le_of_ble_eq_true rfl) dX8_isLion_2 (fun r2 _ H locs hw hP hD hS => ?_)
  try dsimp only at hw
  have hP : bs_P g [] H := va_P.sub hP [] rfl
  have hD : va_D A [] := va_D.sub hD [] (by decide) rfl
  have hzn := hw.1; replace hw := hw.2
  exact ret _ _ _ _ r2 () dX8_isLion_5 hzn hw hP hD hS

theorem hdX8_isUse : yX8_isUse.cls ≠ "java/lang/invoke/MethodHandle" ∧ yX8_isUse.cls ≠ "java/lang/invoke/VarHandle" ∧ (parseMethodDescriptor yX8_isUse.desc).map (fun d => d.parameters.length) = some 1 := by decide +kernel
set_option maxHeartbeats 4000000 in
set_option maxRecDepth 100000 in
theorem kX8_isUse {l : Launch} {g : bs_G} {sz : Nat} {x0 : Int32} {K : Int32 → Prop} (hw : wpX8_isUse x0 K) : Met l yX8_isUse wsX8_isUse ({ frames := 1, cells := 0, slots := 0, locals := 21 } : Room) (bs_Pc g [.int x0] [] sz) (bs_Qi g [] sz (fun (r : Int32) (_ : Unit) => K r) (fun (_ : Unit) => ([] : va_W))) 0 0 (va_A [] sz) := by
  refine ent_i (cc := cX8_isUse) (maxL := 1) (rt := .boolean) (by decide) rfl (Nat.le_of_ble_eq_true rfl) ?_
  intro p e s m below meth c Q A hF hsz hP hD hS ret ls hl
  obtain ⟨⟨hx, hb, hml, hown, hts⟩, hK, hG, hA⟩ := id hF
  have hown : s.vm.findClass RX8 = some m.cls := hown
  have hl : lv_has ls 1 [(0, .int x0)] := hl
  refine lv_iload_n hx hb dX8_isUse_0 rfl (lv_at hl 0 rfl) ?_
  refine lv_iconst (v := 1) hx hb dX8_isUse_1 (by decide) ?_
  refine cs_i (wc := []) (wr := []) (As := [.int x0, .int 1]) (rest := []) hF (kX8_within hw) (va_cwS 2 hts gX8_isUse_X8_within rfl rfl rfl hdX8_within ⟨Nat.le_of_ble_eq_true rfl, Nat.le_of_ble_eq_true rfl⟩) rfl hS hP hD [] [] rfl rfl (by decide) (by decide) (by decide) hl.1 rfl (Nat.le_of_ble_eq_true rfl) dX8_isUse_2 (fun r2 _ H locs hw hP hD hS => ?_)
  try dsimp only at hw
  have hP : bs_P g [] H := va_P.sub hP [] rfl
  have hD : va_D A [] := va_D.sub hD [] (by decide) rfl
  have hzn := hw.1; replace hw := hw.2
  exact ret _ _ _ _ r2 () dX8_isUse_5 hzn hw hP hD hS

theorem hdX8_isSheet : yX8_isSheet.cls ≠ "java/lang/invoke/MethodHandle" ∧ yX8_isSheet.cls ≠ "java/lang/invoke/VarHandle" ∧ (parseMethodDescriptor yX8_isSheet.desc).map (fun d => d.parameters.length) = some 1 := by decide +kernel
set_option maxHeartbeats 4000000 in
set_option maxRecDepth 100000 in
theorem kX8_isSheet {l : Launch} {g : bs_G} {sz : Nat} {x0 : Int32} {K : Int32 → Prop} (hw : wpX8_isSheet x0 K) : Met l yX8_isSheet wsX8_isSheet ({ frames := 1, cells := 0, slots := 0, locals := 21 } : Room) (bs_Pc g [.int x0] [] sz) (bs_Qi g [] sz (fun (r : Int32) (_ : Unit) => K r) (fun (_ : Unit) => ([] : va_W))) 0 0 (va_A [] sz) := by
  refine ent_i (cc := cX8_isSheet) (maxL := 1) (rt := .boolean) (by decide) rfl (Nat.le_of_ble_eq_true rfl) ?_
  intro p e s m below meth c Q A hF hsz hP hD hS ret ls hl
  obtain ⟨⟨hx, hb, hml, hown, hts⟩, hK, hG, hA⟩ := id hF
  have hown : s.vm.findClass RX8 = some m.cls := hown
  have hl : lv_has ls 1 [(0, .int x0)] := hl
  refine lv_iload_n hx hb dX8_isSheet_0 rfl (lv_at hl 0 rfl) ?_
  refine lv_iconst (v := 3) hx hb dX8_isSheet_1 (by decide) ?_
  refine cs_i (wc := []) (wr := []) (As := [.int x0, .int 3]) (rest := []) hF (kX8_within hw) (va_cwS 2 hts gX8_isSheet_X8_within rfl rfl rfl hdX8_within ⟨Nat.le_of_ble_eq_true rfl, Nat.le_of_ble_eq_true rfl⟩) rfl hS hP hD [] [] rfl rfl (by decide) (by decide) (by decide) hl.1 rfl (Nat.le_of_ble_eq_true rfl) dX8_isSheet_2 (fun r2 _ H locs hw hP hD hS => ?_)
  try dsimp only at hw
  have hP : bs_P g [] H := va_P.sub hP [] rfl
  have hD : va_D A [] := va_D.sub hD [] (by decide) rfl
  have hzn := hw.1; replace hw := hw.2
  exact ret _ _ _ _ r2 () dX8_isSheet_5 hzn hw hP hD hS

theorem hdX8_isReader : yX8_isReader.cls = RX8 ∧ yX8_isReader.cls ≠ "java/lang/invoke/MethodHandle" ∧ yX8_isReader.cls ≠ "java/lang/invoke/VarHandle" ∧ (parseMethodDescriptor yX8_isReader.desc).map (fun d => d.parameters.length) = some 1 := by decide +kernel
theorem hiX8_isReader_X7 : ∀ w ∈ wsX70, w ∈ wsX8_isReader := by decide +kernel
theorem hiX8_isReader_X8 : ∀ w ∈ wsX80, w ∈ wsX8_isReader := by decide +kernel
set_option maxHeartbeats 4000000 in
set_option maxRecDepth 100000 in
theorem kX8_isReader {l : Launch} {g : bs_G} {a_t : Nat} {a_t_now : Nat} {a_t_kept : Nat} {a_t_thoughts : Nat} {a_t_textReader : Nat} {a_t_voices : Nat} {a_t_sheets : Nat} {a_t_errors : Nat} {v_images : Int32} {a_t_now_lions : Nat} {a_t_now_events : Nat} {v_now_readers : Int32} {a_t_now_kinds : Nat} {a_t_now_ms : Nat} {a_t_now_marks : Nat} {a_t_now_turnLaw : Nat} {a_t_now_markLaw : Nat} {a_t_now_tape : Nat} {v_now_tapeSize : Int32} {a_t_now_waiting : Nat} {v_now_waits : Int32} {v_now_z : Int32} {sz : Nat} {x1 : Int32} {K : Int32 → Prop} (hw : wpX8_isReader x1 v_now_readers K) : Met l yX8_isReader wsX8_isReader ({ frames := 0, cells := 0, slots := 0, locals := 0 } : Room) (bs_Pc g [.ref a_t, .int x1] [(a_t, .inr (7, [.ref a_t_now, .ref a_t_kept, .ref a_t_thoughts, .ref a_t_textReader, .ref a_t_voices, .ref a_t_sheets, .ref a_t_errors, .int v_images])), (a_t_now, .inr (6, [.ref a_t_now_lions, .ref a_t_now_events, .int v_now_readers, .ref a_t_now_kinds, .ref a_t_now_ms, .ref a_t_now_marks, .ref a_t_now_turnLaw, .ref a_t_now_markLaw, .ref a_t_now_tape, .int v_now_tapeSize, .ref a_t_now_waiting, .int v_now_waits, .int v_now_z]))] sz) (bs_Qi g [(a_t, .inr (7, [.ref a_t_now, .ref a_t_kept, .ref a_t_thoughts, .ref a_t_textReader, .ref a_t_voices, .ref a_t_sheets, .ref a_t_errors, .int v_images])), (a_t_now, .inr (6, [.ref a_t_now_lions, .ref a_t_now_events, .int v_now_readers, .ref a_t_now_kinds, .ref a_t_now_ms, .ref a_t_now_marks, .ref a_t_now_turnLaw, .ref a_t_now_markLaw, .ref a_t_now_tape, .int v_now_tapeSize, .ref a_t_now_waiting, .int v_now_waits, .int v_now_z]))] sz (fun (r : Int32) (_ : Unit) => K r) (fun (_ : Unit) => ([(a_t, .inr (7, [.ref a_t_now, .ref a_t_kept, .ref a_t_thoughts, .ref a_t_textReader, .ref a_t_voices, .ref a_t_sheets, .ref a_t_errors, .int v_images])), (a_t_now, .inr (6, [.ref a_t_now_lions, .ref a_t_now_events, .int v_now_readers, .ref a_t_now_kinds, .ref a_t_now_ms, .ref a_t_now_marks, .ref a_t_now_turnLaw, .ref a_t_now_markLaw, .ref a_t_now_tape, .int v_now_tapeSize, .ref a_t_now_waiting, .int v_now_waits, .int v_now_z]))] : va_W))) 0 0 (va_A [(a_t, .inr (7, [.ref a_t_now, .ref a_t_kept, .ref a_t_thoughts, .ref a_t_textReader, .ref a_t_voices, .ref a_t_sheets, .ref a_t_errors, .int v_images])), (a_t_now, .inr (6, [.ref a_t_now_lions, .ref a_t_now_events, .int v_now_readers, .ref a_t_now_kinds, .ref a_t_now_ms, .ref a_t_now_marks, .ref a_t_now_turnLaw, .ref a_t_now_markLaw, .ref a_t_now_tape, .int v_now_tapeSize, .ref a_t_now_waiting, .int v_now_waits, .int v_now_z]))] sz) := by
  refine ent_i (cc := cX8_isReader) (maxL := 2) (rt := .boolean) (by decide) rfl (Nat.le_of_ble_eq_true rfl) ?_
  intro p e s m below meth c Q A hF hsz hP hD hS ret ls hl
  obtain ⟨⟨hx, hb, hml, hown, hts⟩, hK, hG, hA⟩ := id hF
  have hown : s.vm.findClass RX8 = some m.cls := hown
  have hl : lv_has ls 2 [(0, .ref a_t), (1, .int x1)] := hl
  refine lv_iload_n hx hb dX8_isReader_0 rfl (lv_at hl 1 rfl) ?_
  refine lv_if_lt (tgt := 19) hx hb dX8_isReader_1 (by decide) (fun c1 => ?_) (fun c1 => ?_)
  · replace hw := hw.1 c1
    refine lv_iconst (v := 0) hx hb dX8_isReader_19 (by decide) ?_
    exact ret _ _ _ _ 0 () dX8_isReader_20 rfl hw hP hD hS
  · replace hw := hw.2 c1
    refine lv_iload_n hx hb dX8_isReader_4 rfl (lv_at hl 1 rfl) ?_
    refine lv_aload_n hx hb dX8_isReader_5 rfl (lv_at hl 0 rfl) ?_
    refine va_get (D := g.1) (ci := 7) (v := .ref a_t_now) (C := RX8) (T := TX8) (N := 8) hx hb hts hiX8_isReader_X8 hown hK hP 0 rfl rfl 0 (by decide) (hts (.fieldLink RX8 12 "LionSigns" "now" "LLionSigns$World;") (by decide +kernel)) (fun _ h9 => h9) rfl dX8_isReader_6 ?_
    refine va_get (D := g.1) (ci := 6) (v := .int v_now_readers) (C := RX7) (T := TX7) (N := 13) hx hb hts hiX8_isReader_X7 hown hK hP 1 rfl rfl 2 (by decide) (hts (.fieldLink RX8 61 "LionSigns$World" "readers" "I") (by decide +kernel)) (fun _ h9 => h9) rfl dX8_isReader_9 ?_
    refine lv_icmp_ge (tgt := 19) hx hb dX8_isReader_12 (by decide) (fun c12 => ?_) (fun c12 => ?_)
    · replace hw := hw.1 c12
      refine lv_iconst (v := 0) hx hb dX8_isReader_19 (by decide) ?_
      exact ret _ _ _ _ 0 () dX8_isReader_20 rfl hw hP hD hS
    · replace hw := hw.2 c12
      refine lv_iconst (v := 1) hx hb dX8_isReader_15 (by decide) ?_
      refine lv_goto (tgt := 20) hx hb dX8_isReader_16 (by decide) ?_
      exact ret _ _ _ _ 1 () dX8_isReader_20 rfl hw hP hD hS

theorem hdX9_error : yX9_error.cls = RX9 ∧ yX9_error.cls ≠ "java/lang/invoke/MethodHandle" ∧ yX9_error.cls ≠ "java/lang/invoke/VarHandle" ∧ (parseMethodDescriptor yX9_error.desc).map (fun d => d.parameters.length) = some 1 := by decide +kernel
theorem hiX9_error_X9 : ∀ w ∈ wsX90, w ∈ wsX9_error := by decide +kernel
set_option maxHeartbeats 4000000 in
set_option maxRecDepth 100000 in
theorem kX9_error {l : Launch} {g : bs_G} {a_t : Nat} {a_t_s : Nat} {a_t_kept : Nat} {a_t_beside : Nat} {v_images : Int32} {a_t_errors : Nat} {v_at : Int32} {v_open : Int32} {v_steps : Int32} {v_use : Int32} {a_t_step : Nat} {a_t_named : Nat} {a_t_pile : Nat} {a_t_doesFit : Nat} {v_fitMany : Int32} {v_fitLeast : Int32} {a_t_turnOfSigns : Nat} {a_t_manyTurns : Nat} {v_traced : Int32} {a_t_trace : Nat} {v_speaks : Int32} {v_isParted : Int32} {a_t_bits : Nat} {a_t_sizes : Nat} {a_t_number : Nat} {a_t_aside : Nat} {v_errors : Nat → Int32} {sz : Nat} {x1 : Int32} {K : Int32 → (Nat → Int32) → Prop} (hw : wpX9_error x1 v_errors K) : Met l yX9_error wsX9_error ({ frames := 0, cells := 0, slots := 0, locals := 0 } : Room) (bs_Pc g [.ref a_t, .int x1] [(a_t, .inr (8, [.ref a_t_s, .ref a_t_kept, .ref a_t_beside, .int v_images, .ref a_t_errors, .int v_at, .int v_open, .int v_steps, .int v_use, .ref a_t_step, .ref a_t_named, .ref a_t_pile, .ref a_t_doesFit, .int v_fitMany, .int v_fitLeast, .ref a_t_turnOfSigns, .ref a_t_manyTurns, .int v_traced, .ref a_t_trace, .int v_speaks, .int v_isParted, .ref a_t_bits, .ref a_t_sizes, .ref a_t_number, .ref a_t_aside])), (a_t_errors, .inl (bs_I g, 7, .inl v_errors))] sz) (bs_Qi g [(a_t, .inr (8, [.ref a_t_s, .ref a_t_kept, .ref a_t_beside, .int v_images, .ref a_t_errors, .int v_at, .int v_open, .int v_steps, .int v_use, .ref a_t_step, .ref a_t_named, .ref a_t_pile, .ref a_t_doesFit, .int v_fitMany, .int v_fitLeast, .ref a_t_turnOfSigns, .ref a_t_manyTurns, .int v_traced, .ref a_t_trace, .int v_speaks, .int v_isParted, .ref a_t_bits, .ref a_t_sizes, .ref a_t_number, .ref a_t_aside])), (a_t_errors, .inl (bs_I g, 7, .inl v_errors))] sz (fun (r : Int32) (u : (Nat → Int32)) => K r u) (fun (u : (Nat → Int32)) => ([(a_t, .inr (8, [.ref a_t_s, .ref a_t_kept, .ref a_t_beside, .int v_images, .ref a_t_errors, .int v_at, .int v_open, .int v_steps, .int v_use, .ref a_t_step, .ref a_t_named, .ref a_t_pile, .ref a_t_doesFit, .int v_fitMany, .int v_fitLeast, .ref a_t_turnOfSigns, .ref a_t_manyTurns, .int v_traced, .ref a_t_trace, .int v_speaks, .int v_isParted, .ref a_t_bits, .ref a_t_sizes, .ref a_t_number, .ref a_t_aside])), (a_t_errors, .inl (bs_I g, 7, .inl u))] : va_W))) 0 0 (va_A [(a_t, .inr (8, [.ref a_t_s, .ref a_t_kept, .ref a_t_beside, .int v_images, .ref a_t_errors, .int v_at, .int v_open, .int v_steps, .int v_use, .ref a_t_step, .ref a_t_named, .ref a_t_pile, .ref a_t_doesFit, .int v_fitMany, .int v_fitLeast, .ref a_t_turnOfSigns, .ref a_t_manyTurns, .int v_traced, .ref a_t_trace, .int v_speaks, .int v_isParted, .ref a_t_bits, .ref a_t_sizes, .ref a_t_number, .ref a_t_aside])), (a_t_errors, .inl (bs_I g, 7, .inl v_errors))] sz) := by
  refine ent_i (cc := cX9_error) (maxL := 2) (rt := .int) (by decide) rfl (Nat.le_of_ble_eq_true rfl) ?_
  intro p e s m below meth c Q A hF hsz hP hD hS ret ls hl
  obtain ⟨⟨hx, hb, hml, hown, hts⟩, hK, hG, hA⟩ := id hF
  have hown : s.vm.findClass RX9 = some m.cls := hown
  have hl : lv_has ls 2 [(0, .ref a_t), (1, .int x1)] := hl
  refine lv_aload_n hx hb dX9_error_0 rfl (lv_at hl 0 rfl) ?_
  refine va_get (D := g.1) (ci := 8) (v := .ref a_t_errors) (C := RX9) (T := TX9) (N := 25) hx hb hts hiX9_error_X9 hown hK hP 0 rfl rfl 4 (by decide) (hts (.fieldLink RX9 19 "LionSignsModel" "errors" "[I") (by decide +kernel)) (fun _ h9 => h9) rfl dX9_error_1 ?_
  refine lv_iload_n hx hb dX9_error_4 rfl (lv_at hl 1 rfl) ?_
  refine lv_dup2_11 hx hb dX9_error_5 rfl rfl ?_
  refine va_iald hx hb hK hP 1 0 rfl rfl hw.1 dX9_error_6 ?_
  replace hw := hw.2
  refine lv_iconst (v := 1) hx hb dX9_error_7 (by decide) ?_
  refine lv_iadd hx hb dX9_error_8 ?_
  refine va_iast hx hb hK hP hD hS 1 0 rfl rfl hw.1 dX9_error_9 (fun H locs hP hD hS => ?_)
  replace hw := hw.2
  have hP : bs_P g [(a_t, .inr (8, [.ref a_t_s, .ref a_t_kept, .ref a_t_beside, .int v_images, .ref a_t_errors, .int v_at, .int v_open, .int v_steps, .int v_use, .ref a_t_step, .ref a_t_named, .ref a_t_pile, .ref a_t_doesFit, .int v_fitMany, .int v_fitLeast, .ref a_t_turnOfSigns, .ref a_t_manyTurns, .int v_traced, .ref a_t_trace, .int v_speaks, .int v_isParted, .ref a_t_bits, .ref a_t_sizes, .ref a_t_number, .ref a_t_aside])), (a_t_errors, .inl (bs_I g, 7, .inl (upd v_errors x1.toNatClampNeg ((v_errors x1.toNatClampNeg) + 1))))] H := hP
  have hD : va_D A [(a_t, .inr (8, [.ref a_t_s, .ref a_t_kept, .ref a_t_beside, .int v_images, .ref a_t_errors, .int v_at, .int v_open, .int v_steps, .int v_use, .ref a_t_step, .ref a_t_named, .ref a_t_pile, .ref a_t_doesFit, .int v_fitMany, .int v_fitLeast, .ref a_t_turnOfSigns, .ref a_t_manyTurns, .int v_traced, .ref a_t_trace, .int v_speaks, .int v_isParted, .ref a_t_bits, .ref a_t_sizes, .ref a_t_number, .ref a_t_aside])), (a_t_errors, .inl (bs_I g, 7, .inl (upd v_errors x1.toNatClampNeg ((v_errors x1.toNatClampNeg) + 1))))] := hD
  refine lv_ldc (v := (-1000000000)) hx hb hown (hts (.constant RX9 56 (-1000000000)) (by decide +kernel)) dX9_error_10 ?_
  refine lv_iload_n hx hb dX9_error_12 rfl (lv_at hl 1 rfl) ?_
  refine lv_isub hx hb dX9_error_13 ?_
  exact ret _ _ _ _ ((-1000000000) - x1) ((upd v_errors x1.toNatClampNeg ((v_errors x1.toNatClampNeg) + 1))) dX9_error_14 rfl hw hP hD hS

theorem hdX9_in : yX9_in.cls ≠ "java/lang/invoke/MethodHandle" ∧ yX9_in.cls ≠ "java/lang/invoke/VarHandle" ∧ (parseMethodDescriptor yX9_in.desc).map (fun d => d.parameters.length) = some 3 := by decide +kernel
set_option maxHeartbeats 4000000 in
set_option maxRecDepth 100000 in
theorem kX9_in {l : Launch} {g : bs_G} {sz : Nat} {x0 : Int32} {x1 : Int32} {x2 : Int32} {K : Int32 → Prop} (hw : wpX9_in x0 x1 x2 K) : Met l yX9_in wsX9_in ({ frames := 0, cells := 0, slots := 0, locals := 0 } : Room) (bs_Pc g [.int x0, .int x1, .int x2] [] sz) (bs_Qi g [] sz (fun (r : Int32) (_ : Unit) => K r) (fun (_ : Unit) => ([] : va_W))) 0 0 (va_A [] sz) := by
  refine ent_i (cc := cX9_in) (maxL := 3) (rt := .boolean) (by decide) rfl (Nat.le_of_ble_eq_true rfl) ?_
  intro p e s m below meth c Q A hF hsz hP hD hS ret ls hl
  obtain ⟨⟨hx, hb, hml, hown, hts⟩, hK, hG, hA⟩ := id hF
  have hown : s.vm.findClass RX9 = some m.cls := hown
  have hl : lv_has ls 3 [(0, .int x0), (1, .int x1), (2, .int x2)] := hl
  refine lv_iload_n hx hb dX9_in_0 rfl (lv_at hl 0 rfl) ?_
  refine lv_iload_n hx hb dX9_in_1 rfl (lv_at hl 1 rfl) ?_
  refine lv_icmp_lt (tgt := 14) hx hb dX9_in_2 (by decide) (fun c2 => ?_) (fun c2 => ?_)
  · replace hw := hw.1 c2
    refine lv_iconst (v := 0) hx hb dX9_in_14 (by decide) ?_
    exact ret _ _ _ _ 0 () dX9_in_15 rfl hw hP hD hS
  · replace hw := hw.2 c2
    refine lv_iload_n hx hb dX9_in_5 rfl (lv_at hl 0 rfl) ?_
    refine lv_iload_n hx hb dX9_in_6 rfl (lv_at hl 2 rfl) ?_
    refine lv_icmp_gt (tgt := 14) hx hb dX9_in_7 (by decide) (fun c7 => ?_) (fun c7 => ?_)
    · replace hw := hw.1 c7
      refine lv_iconst (v := 0) hx hb dX9_in_14 (by decide) ?_
      exact ret _ _ _ _ 0 () dX9_in_15 rfl hw hP hD hS
    · replace hw := hw.2 c7
      refine lv_iconst (v := 1) hx hb dX9_in_10 (by decide) ?_
      refine lv_goto (tgt := 15) hx hb dX9_in_11 (by decide) ?_
      exact ret _ _ _ _ 1 () dX9_in_15 rfl hw hP hD hS

theorem hdX9_held : yX9_held.cls ≠ "java/lang/invoke/MethodHandle" ∧ yX9_held.cls ≠ "java/lang/invoke/VarHandle" ∧ (parseMethodDescriptor yX9_held.desc).map (fun d => d.parameters.length) = some 3 := by decide +kernel
set_option maxHeartbeats 4000000 in
set_option maxRecDepth 100000 in
theorem kX9_held {l : Launch} {g : bs_G} {sz : Nat} {x0 : Int32} {x1 : Int32} {x2 : Int32} {K : Int32 → Prop} (hw : wpX9_held x0 x1 x2 K) : Met l yX9_held wsX9_held ({ frames := 0, cells := 0, slots := 0, locals := 0 } : Room) (bs_Pc g [.int x0, .int x1, .int x2] [] sz) (bs_Qi g [] sz (fun (r : Int32) (_ : Unit) => K r) (fun (_ : Unit) => ([] : va_W))) 0 0 (va_A [] sz) := by
  refine ent_i (cc := cX9_held) (maxL := 3) (rt := .int) (by decide) rfl (Nat.le_of_ble_eq_true rfl) ?_
  intro p e s m below meth c Q A hF hsz hP hD hS ret ls hl
  obtain ⟨⟨hx, hb, hml, hown, hts⟩, hK, hG, hA⟩ := id hF
  have hown : s.vm.findClass RX9 = some m.cls := hown
  have hl : lv_has ls 3 [(0, .int x0), (1, .int x1), (2, .int x2)] := hl
  refine lv_iload_n hx hb dX9_held_0 rfl (lv_at hl 0 rfl) ?_
  refine lv_iload_n hx hb dX9_held_1 rfl (lv_at hl 1 rfl) ?_
  refine lv_icmp_ge (tgt := 9) hx hb dX9_held_2 (by decide) (fun c2 => ?_) (fun c2 => ?_)
  · replace hw := hw.1 c2
    refine lv_iload_n hx hb dX9_held_9 rfl (lv_at hl 0 rfl) ?_
    refine lv_iload_n hx hb dX9_held_10 rfl (lv_at hl 2 rfl) ?_
    refine lv_icmp_le (tgt := 18) hx hb dX9_held_11 (by decide) (fun c11 => ?_) (fun c11 => ?_)
    · replace hw := hw.1 c11
      refine lv_iload_n hx hb dX9_held_18 rfl (lv_at hl 0 rfl) ?_
      exact ret _ _ _ _ x0 () dX9_held_19 rfl hw hP hD hS
    · replace hw := hw.2 c11
      refine lv_iload_n hx hb dX9_held_14 rfl (lv_at hl 2 rfl) ?_
      refine lv_goto (tgt := 19) hx hb dX9_held_15 (by decide) ?_
      exact ret _ _ _ _ x2 () dX9_held_19 rfl hw hP hD hS
  · replace hw := hw.2 c2
    refine lv_iload_n hx hb dX9_held_5 rfl (lv_at hl 1 rfl) ?_
    refine lv_goto (tgt := 19) hx hb dX9_held_6 (by decide) ?_
    exact ret _ _ _ _ x1 () dX9_held_19 rfl hw hP hD hS

theorem hdX9_copyAll : yX9_copyAll.cls ≠ "java/lang/invoke/MethodHandle" ∧ yX9_copyAll.cls ≠ "java/lang/invoke/VarHandle" ∧ (parseMethodDescriptor yX9_copyAll.desc).map (fun d => d.parameters.length) = some 2 := by decide +kernel
set_option maxHeartbeats 4000000 in
set_option maxRecDepth 100000 in
theorem kX9_copyAll {l : Launch} {g : bs_G} {a_w0 : Nat} {a_w1 : Nat} {v_w0 : Nat → Int32} {v_w1 : Nat → Int32} {sz : Nat} {K : (Nat → Int32) → Prop} (hw : wpX9_copyAll v_w0 v_w1 K) : Met l yX9_copyAll wsX9_copyAll ({ frames := 0, cells := 0, slots := 0, locals := 0 } : Room) (bs_Pc g [.ref a_w0, .ref a_w1] [(a_w0, .inl (bs_I g, 366, .inl v_w0)), (a_w1, .inl (bs_I g, 366, .inl v_w1))] sz) (bs_Qv g [(a_w0, .inl (bs_I g, 366, .inl v_w0)), (a_w1, .inl (bs_I g, 366, .inl v_w1))] sz (fun (u : (Nat → Int32)) => K u) (fun (u : (Nat → Int32)) => ([(a_w0, .inl (bs_I g, 366, .inl v_w0)), (a_w1, .inl (bs_I g, 366, .inl u))] : va_W))) 0 0 (va_A [(a_w0, .inl (bs_I g, 366, .inl v_w0)), (a_w1, .inl (bs_I g, 366, .inl v_w1))] sz) := by
  refine ent_v (cc := cX9_copyAll) (maxL := 3) (by decide) rfl (Nat.le_of_ble_eq_true rfl) ?_
  intro p e s m below meth c Q A hF hsz hP hD hS ret ls hl
  obtain ⟨⟨hx, hb, hml, hown, hts⟩, hK, hG, hA⟩ := id hF
  have hown : s.vm.findClass RX9 = some m.cls := hown
  have hl : lv_has ls 3 [(0, .ref a_w0), (1, .ref a_w1)] := hl
  have lp2 : ∀ (n : Nat) (y2 : Int32) (z_w1 : Nat → Int32), wpX9_copyAll_L2 n y2 v_w0 z_w1 K → ∀ (H : Heap) (locs : List Loc), bs_P g [(a_w0, .inl (bs_I g, 366, .inl v_w0)), (a_w1, .inl (bs_I g, 366, .inl z_w1))] H → va_D A [(a_w0, .inl (bs_I g, 366, .inl v_w0)), (a_w1, .inl (bs_I g, 366, .inl z_w1))] → va_S A s.heap H locs → ∀ ls, lv_has ls 3 [(0, .ref a_w0), (1, .ref a_w1), (2, .int y2)] → W p l e ({ frames := 0, cells := 0, slots := 0, locals := 0 } : Room) s m [.ref a_w0, .ref a_w1].toArray below meth c H locs 0 0 Q (F0 m 2 ls []) := by
    intro n
    induction n with
    | zero => intro _ _ hw; exact False.elim hw
    | succ n ih =>
      intro y2 z_w1 hw H locs hP hD hS ls hl
      rw [wpX9_copyAll_L2] at hw
      refine lv_iload_n hx hb dX9_copyAll_2 rfl (lv_at hl 2 rfl) ?_
      refine lv_sipush (v := 366) hx hb dX9_copyAll_3 (by decide) ?_
      refine lv_icmp_ge (tgt := 21) hx hb dX9_copyAll_6 (by decide) (fun c6 => ?_) (fun c6 => ?_)
      · replace hw := hw.1 c6
        exact ret _ _ _ _ (z_w1) dX9_copyAll_21 hw hP hD hS
      · replace hw := hw.2 c6
        refine lv_aload_n hx hb dX9_copyAll_9 rfl (lv_at hl 1 rfl) ?_
        refine lv_iload_n hx hb dX9_copyAll_10 rfl (lv_at hl 2 rfl) ?_
        refine lv_aload_n hx hb dX9_copyAll_11 rfl (lv_at hl 0 rfl) ?_
        refine lv_iload_n hx hb dX9_copyAll_12 rfl (lv_at hl 2 rfl) ?_
        refine va_iald hx hb hK hP 0 0 rfl rfl hw.1 dX9_copyAll_13 ?_
        replace hw := hw.2
        refine va_iast hx hb hK hP hD hS 1 0 rfl rfl hw.1 dX9_copyAll_14 (fun H locs hP hD hS => ?_)
        replace hw := hw.2
        have hP : bs_P g [(a_w0, .inl (bs_I g, 366, .inl v_w0)), (a_w1, .inl (bs_I g, 366, .inl (upd z_w1 y2.toNatClampNeg (v_w0 y2.toNatClampNeg))))] H := hP
        have hD : va_D A [(a_w0, .inl (bs_I g, 366, .inl v_w0)), (a_w1, .inl (bs_I g, 366, .inl (upd z_w1 y2.toNatClampNeg (v_w0 y2.toNatClampNeg))))] := hD
        refine lv_iinc (v := y2 + 1) (lv' := [(2, .int (y2 + 1)), (0, .ref a_w0), (1, .ref a_w1)]) hx hb dX9_copyAll_15 hl (k := 2) rfl rfl (by decide) rfl (fun ls hl => ?_)
        refine lv_goto (tgt := 2) hx hb dX9_copyAll_18 (by decide) ?_
        exact ih (y2 + 1) (upd z_w1 y2.toNatClampNeg (v_w0 y2.toNatClampNeg)) hw _ _ hP hD hS _ (lv_sub hl [1, 2, 0] rfl)
  refine lv_iconst (v := 0) hx hb dX9_copyAll_0 (by decide) ?_
  refine lv_istore_n (lv' := [(2, .int 0), (0, .ref a_w0), (1, .ref a_w1)]) hx hb dX9_copyAll_1 rfl hl (by decide) rfl (fun ls hl => ?_)
  obtain ⟨n1, hw⟩ := hw
  exact lp2 n1 0 v_w1 hw _ _ hP hD hS _ (lv_sub hl [1, 2, 0] rfl)

theorem hdX9_saves : yX9_saves.cls = RX9 ∧ yX9_saves.cls ≠ "java/lang/invoke/MethodHandle" ∧ yX9_saves.cls ≠ "java/lang/invoke/VarHandle" ∧ (parseMethodDescriptor yX9_saves.desc).map (fun d => d.parameters.length) = some 0 := by decide +kernel
theorem hiX9_saves_X9 : ∀ w ∈ wsX90, w ∈ wsX9_saves := by decide +kernel
set_option maxHeartbeats 4000000 in
set_option maxRecDepth 100000 in
theorem kX9_saves {l : Launch} {g : bs_G} {a_t : Nat} {a_t_s : Nat} {a_t_kept : Nat} {a_t_beside : Nat} {v_images : Int32} {a_t_errors : Nat} {v_at : Int32} {v_open : Int32} {v_steps : Int32} {v_use : Int32} {a_t_step : Nat} {a_t_named : Nat} {a_t_pile : Nat} {a_t_doesFit : Nat} {v_fitMany : Int32} {v_fitLeast : Int32} {a_t_turnOfSigns : Nat} {a_t_manyTurns : Nat} {v_traced : Int32} {a_t_trace : Nat} {v_speaks : Int32} {v_isParted : Int32} {a_t_bits : Nat} {a_t_sizes : Nat} {a_t_number : Nat} {a_t_aside : Nat} {v_s : Nat → Int32} {v_beside : Nat → Int32} {sz : Nat} {K : (Nat → Int32) → Prop} (hw : wpX9_saves v_s v_beside K) : Met l yX9_saves wsX9_saves ({ frames := 0, cells := 0, slots := 0, locals := 0 } : Room) (bs_Pc g [.ref a_t] [(a_t, .inr (8, [.ref a_t_s, .ref a_t_kept, .ref a_t_beside, .int v_images, .ref a_t_errors, .int v_at, .int v_open, .int v_steps, .int v_use, .ref a_t_step, .ref a_t_named, .ref a_t_pile, .ref a_t_doesFit, .int v_fitMany, .int v_fitLeast, .ref a_t_turnOfSigns, .ref a_t_manyTurns, .int v_traced, .ref a_t_trace, .int v_speaks, .int v_isParted, .ref a_t_bits, .ref a_t_sizes, .ref a_t_number, .ref a_t_aside])), (a_t_s, .inl (bs_I g, 366, .inl v_s)), (a_t_beside, .inl (bs_I g, 32, .inl v_beside))] sz) (bs_Qv g [(a_t, .inr (8, [.ref a_t_s, .ref a_t_kept, .ref a_t_beside, .int v_images, .ref a_t_errors, .int v_at, .int v_open, .int v_steps, .int v_use, .ref a_t_step, .ref a_t_named, .ref a_t_pile, .ref a_t_doesFit, .int v_fitMany, .int v_fitLeast, .ref a_t_turnOfSigns, .ref a_t_manyTurns, .int v_traced, .ref a_t_trace, .int v_speaks, .int v_isParted, .ref a_t_bits, .ref a_t_sizes, .ref a_t_number, .ref a_t_aside])), (a_t_s, .inl (bs_I g, 366, .inl v_s)), (a_t_beside, .inl (bs_I g, 32, .inl v_beside))] sz (fun (u : (Nat → Int32)) => K u) (fun (u : (Nat → Int32)) => ([(a_t, .inr (8, [.ref a_t_s, .ref a_t_kept, .ref a_t_beside, .int v_images, .ref a_t_errors, .int v_at, .int v_open, .int v_steps, .int v_use, .ref a_t_step, .ref a_t_named, .ref a_t_pile, .ref a_t_doesFit, .int v_fitMany, .int v_fitLeast, .ref a_t_turnOfSigns, .ref a_t_manyTurns, .int v_traced, .ref a_t_trace, .int v_speaks, .int v_isParted, .ref a_t_bits, .ref a_t_sizes, .ref a_t_number, .ref a_t_aside])), (a_t_s, .inl (bs_I g, 366, .inl v_s)), (a_t_beside, .inl (bs_I g, 32, .inl u))] : va_W))) 0 0 (va_A [(a_t, .inr (8, [.ref a_t_s, .ref a_t_kept, .ref a_t_beside, .int v_images, .ref a_t_errors, .int v_at, .int v_open, .int v_steps, .int v_use, .ref a_t_step, .ref a_t_named, .ref a_t_pile, .ref a_t_doesFit, .int v_fitMany, .int v_fitLeast, .ref a_t_turnOfSigns, .ref a_t_manyTurns, .int v_traced, .ref a_t_trace, .int v_speaks, .int v_isParted, .ref a_t_bits, .ref a_t_sizes, .ref a_t_number, .ref a_t_aside])), (a_t_s, .inl (bs_I g, 366, .inl v_s)), (a_t_beside, .inl (bs_I g, 32, .inl v_beside))] sz) := by
  refine ent_v (cc := cX9_saves) (maxL := 2) (by decide) rfl (Nat.le_of_ble_eq_true rfl) ?_
  intro p e s m below meth c Q A hF hsz hP hD hS ret ls hl
  obtain ⟨⟨hx, hb, hml, hown, hts⟩, hK, hG, hA⟩ := id hF
  have hown : s.vm.findClass RX9 = some m.cls := hown
  have hl : lv_has ls 2 [(0, .ref a_t)] := hl
  have lp2 : ∀ (n : Nat) (y1 : Int32) (z_beside : Nat → Int32), wpX9_saves_L2 n y1 v_s z_beside K → ∀ (H : Heap) (locs : List Loc), bs_P g [(a_t, .inr (8, [.ref a_t_s, .ref a_t_kept, .ref a_t_beside, .int v_images, .ref a_t_errors, .int v_at, .int v_open, .int v_steps, .int v_use, .ref a_t_step, .ref a_t_named, .ref a_t_pile, .ref a_t_doesFit, .int v_fitMany, .int v_fitLeast, .ref a_t_turnOfSigns, .ref a_t_manyTurns, .int v_traced, .ref a_t_trace, .int v_speaks, .int v_isParted, .ref a_t_bits, .ref a_t_sizes, .ref a_t_number, .ref a_t_aside])), (a_t_s, .inl (bs_I g, 366, .inl v_s)), (a_t_beside, .inl (bs_I g, 32, .inl z_beside))] H → va_D A [(a_t, .inr (8, [.ref a_t_s, .ref a_t_kept, .ref a_t_beside, .int v_images, .ref a_t_errors, .int v_at, .int v_open, .int v_steps, .int v_use, .ref a_t_step, .ref a_t_named, .ref a_t_pile, .ref a_t_doesFit, .int v_fitMany, .int v_fitLeast, .ref a_t_turnOfSigns, .ref a_t_manyTurns, .int v_traced, .ref a_t_trace, .int v_speaks, .int v_isParted, .ref a_t_bits, .ref a_t_sizes, .ref a_t_number, .ref a_t_aside])), (a_t_s, .inl (bs_I g, 366, .inl v_s)), (a_t_beside, .inl (bs_I g, 32, .inl z_beside))] → va_S A s.heap H locs → ∀ ls, lv_has ls 2 [(0, .ref a_t), (1, .int y1)] → W p l e ({ frames := 0, cells := 0, slots := 0, locals := 0 } : Room) s m [.ref a_t].toArray below meth c H locs 0 0 Q (F0 m 2 ls []) := by
    intro n
    induction n with
    | zero => intro _ _ hw; exact False.elim hw
    | succ n ih =>
      intro y1 z_beside hw H locs hP hD hS ls hl
      rw [wpX9_saves_L2] at hw
      refine lv_iload_n hx hb dX9_saves_2 rfl (lv_at hl 1 rfl) ?_
      refine lv_bipush (v := 32) hx hb dX9_saves_3 (by decide) ?_
      refine lv_icmp_ge (tgt := 26) hx hb dX9_saves_5 (by decide) (fun c5 => ?_) (fun c5 => ?_)
      · replace hw := hw.1 c5
        exact ret _ _ _ _ (z_beside) dX9_saves_26 hw hP hD hS
      · replace hw := hw.2 c5
        refine lv_aload_n hx hb dX9_saves_8 rfl (lv_at hl 0 rfl) ?_
        refine va_get (D := g.1) (ci := 8) (v := .ref a_t_beside) (C := RX9) (T := TX9) (N := 25) hx hb hts hiX9_saves_X9 hown hK hP 0 rfl rfl 2 (by decide) (hts (.fieldLink RX9 16 "LionSignsModel" "beside" "[I") (by decide +kernel)) (fun _ h9 => h9) rfl dX9_saves_9 ?_
        refine lv_iload_n hx hb dX9_saves_12 rfl (lv_at hl 1 rfl) ?_
        refine lv_aload_n hx hb dX9_saves_13 rfl (lv_at hl 0 rfl) ?_
        refine va_get (D := g.1) (ci := 8) (v := .ref a_t_s) (C := RX9) (T := TX9) (N := 25) hx hb hts hiX9_saves_X9 hown hK hP 0 rfl rfl 0 (by decide) (hts (.fieldLink RX9 7 "LionSignsModel" "s" "[I") (by decide +kernel)) (fun _ h9 => h9) rfl dX9_saves_14 ?_
        refine lv_iload_n hx hb dX9_saves_17 rfl (lv_at hl 1 rfl) ?_
        refine va_iald hx hb hK hP 1 0 rfl rfl hw.1 dX9_saves_18 ?_
        replace hw := hw.2
        refine va_iast hx hb hK hP hD hS 2 0 rfl rfl hw.1 dX9_saves_19 (fun H locs hP hD hS => ?_)
        replace hw := hw.2
        have hP : bs_P g [(a_t, .inr (8, [.ref a_t_s, .ref a_t_kept, .ref a_t_beside, .int v_images, .ref a_t_errors, .int v_at, .int v_open, .int v_steps, .int v_use, .ref a_t_step, .ref a_t_named, .ref a_t_pile, .ref a_t_doesFit, .int v_fitMany, .int v_fitLeast, .ref a_t_turnOfSigns, .ref a_t_manyTurns, .int v_traced, .ref a_t_trace, .int v_speaks, .int v_isParted, .ref a_t_bits, .ref a_t_sizes, .ref a_t_number, .ref a_t_aside])), (a_t_s, .inl (bs_I g, 366, .inl v_s)), (a_t_beside, .inl (bs_I g, 32, .inl (upd z_beside y1.toNatClampNeg (v_s y1.toNatClampNeg))))] H := hP
        have hD : va_D A [(a_t, .inr (8, [.ref a_t_s, .ref a_t_kept, .ref a_t_beside, .int v_images, .ref a_t_errors, .int v_at, .int v_open, .int v_steps, .int v_use, .ref a_t_step, .ref a_t_named, .ref a_t_pile, .ref a_t_doesFit, .int v_fitMany, .int v_fitLeast, .ref a_t_turnOfSigns, .ref a_t_manyTurns, .int v_traced, .ref a_t_trace, .int v_speaks, .int v_isParted, .ref a_t_bits, .ref a_t_sizes, .ref a_t_number, .ref a_t_aside])), (a_t_s, .inl (bs_I g, 366, .inl v_s)), (a_t_beside, .inl (bs_I g, 32, .inl (upd z_beside y1.toNatClampNeg (v_s y1.toNatClampNeg))))] := hD
        refine lv_iinc (v := y1 + 1) (lv' := [(1, .int (y1 + 1)), (0, .ref a_t)]) hx hb dX9_saves_20 hl (k := 1) rfl rfl (by decide) rfl (fun ls hl => ?_)
        refine lv_goto (tgt := 2) hx hb dX9_saves_23 (by decide) ?_
        exact ih (y1 + 1) (upd z_beside y1.toNatClampNeg (v_s y1.toNatClampNeg)) hw _ _ hP hD hS _ (lv_sub hl [1, 0] rfl)
  refine lv_iconst (v := 0) hx hb dX9_saves_0 (by decide) ?_
  refine lv_istore_n (lv' := [(1, .int 0), (0, .ref a_t)]) hx hb dX9_saves_1 rfl hl (by decide) rfl (fun ls hl => ?_)
  obtain ⟨n1, hw⟩ := hw
  exact lp2 n1 0 v_beside hw _ _ hP hD hS _ (lv_sub hl [1, 0] rfl)

theorem hdX9_putsBack : yX9_putsBack.cls = RX9 ∧ yX9_putsBack.cls ≠ "java/lang/invoke/MethodHandle" ∧ yX9_putsBack.cls ≠ "java/lang/invoke/VarHandle" ∧ (parseMethodDescriptor yX9_putsBack.desc).map (fun d => d.parameters.length) = some 0 := by decide +kernel
theorem hiX9_putsBack_X9 : ∀ w ∈ wsX90, w ∈ wsX9_putsBack := by decide +kernel
set_option maxHeartbeats 4000000 in
set_option maxRecDepth 100000 in
theorem kX9_putsBack {l : Launch} {g : bs_G} {a_t : Nat} {a_t_s : Nat} {a_t_kept : Nat} {a_t_beside : Nat} {v_images : Int32} {a_t_errors : Nat} {v_at : Int32} {v_open : Int32} {v_steps : Int32} {v_use : Int32} {a_t_step : Nat} {a_t_named : Nat} {a_t_pile : Nat} {a_t_doesFit : Nat} {v_fitMany : Int32} {v_fitLeast : Int32} {a_t_turnOfSigns : Nat} {a_t_manyTurns : Nat} {v_traced : Int32} {a_t_trace : Nat} {v_speaks : Int32} {v_isParted : Int32} {a_t_bits : Nat} {a_t_sizes : Nat} {a_t_number : Nat} {a_t_aside : Nat} {v_beside : Nat → Int32} {v_s : Nat → Int32} {sz : Nat} {K : (Nat → Int32) → Prop} (hw : wpX9_putsBack v_beside v_s K) : Met l yX9_putsBack wsX9_putsBack ({ frames := 0, cells := 0, slots := 0, locals := 0 } : Room) (bs_Pc g [.ref a_t] [(a_t, .inr (8, [.ref a_t_s, .ref a_t_kept, .ref a_t_beside, .int v_images, .ref a_t_errors, .int v_at, .int v_open, .int v_steps, .int v_use, .ref a_t_step, .ref a_t_named, .ref a_t_pile, .ref a_t_doesFit, .int v_fitMany, .int v_fitLeast, .ref a_t_turnOfSigns, .ref a_t_manyTurns, .int v_traced, .ref a_t_trace, .int v_speaks, .int v_isParted, .ref a_t_bits, .ref a_t_sizes, .ref a_t_number, .ref a_t_aside])), (a_t_beside, .inl (bs_I g, 32, .inl v_beside)), (a_t_s, .inl (bs_I g, 366, .inl v_s))] sz) (bs_Qv g [(a_t, .inr (8, [.ref a_t_s, .ref a_t_kept, .ref a_t_beside, .int v_images, .ref a_t_errors, .int v_at, .int v_open, .int v_steps, .int v_use, .ref a_t_step, .ref a_t_named, .ref a_t_pile, .ref a_t_doesFit, .int v_fitMany, .int v_fitLeast, .ref a_t_turnOfSigns, .ref a_t_manyTurns, .int v_traced, .ref a_t_trace, .int v_speaks, .int v_isParted, .ref a_t_bits, .ref a_t_sizes, .ref a_t_number, .ref a_t_aside])), (a_t_beside, .inl (bs_I g, 32, .inl v_beside)), (a_t_s, .inl (bs_I g, 366, .inl v_s))] sz (fun (u : (Nat → Int32)) => K u) (fun (u : (Nat → Int32)) => ([(a_t, .inr (8, [.ref a_t_s, .ref a_t_kept, .ref a_t_beside, .int v_images, .ref a_t_errors, .int v_at, .int v_open, .int v_steps, .int v_use, .ref a_t_step, .ref a_t_named, .ref a_t_pile, .ref a_t_doesFit, .int v_fitMany, .int v_fitLeast, .ref a_t_turnOfSigns, .ref a_t_manyTurns, .int v_traced, .ref a_t_trace, .int v_speaks, .int v_isParted, .ref a_t_bits, .ref a_t_sizes, .ref a_t_number, .ref a_t_aside])), (a_t_beside, .inl (bs_I g, 32, .inl v_beside)), (a_t_s, .inl (bs_I g, 366, .inl u))] : va_W))) 0 0 (va_A [(a_t, .inr (8, [.ref a_t_s, .ref a_t_kept, .ref a_t_beside, .int v_images, .ref a_t_errors, .int v_at, .int v_open, .int v_steps, .int v_use, .ref a_t_step, .ref a_t_named, .ref a_t_pile, .ref a_t_doesFit, .int v_fitMany, .int v_fitLeast, .ref a_t_turnOfSigns, .ref a_t_manyTurns, .int v_traced, .ref a_t_trace, .int v_speaks, .int v_isParted, .ref a_t_bits, .ref a_t_sizes, .ref a_t_number, .ref a_t_aside])), (a_t_beside, .inl (bs_I g, 32, .inl v_beside)), (a_t_s, .inl (bs_I g, 366, .inl v_s))] sz) := by
  refine ent_v (cc := cX9_putsBack) (maxL := 2) (by decide) rfl (Nat.le_of_ble_eq_true rfl) ?_
  intro p e s m below meth c Q A hF hsz hP hD hS ret ls hl
  obtain ⟨⟨hx, hb, hml, hown, hts⟩, hK, hG, hA⟩ := id hF
  have hown : s.vm.findClass RX9 = some m.cls := hown
  have hl : lv_has ls 2 [(0, .ref a_t)] := hl
  have lp2 : ∀ (n : Nat) (y1 : Int32) (z_s : Nat → Int32), wpX9_putsBack_L2 n y1 v_beside z_s K → ∀ (H : Heap) (locs : List Loc), bs_P g [(a_t, .inr (8, [.ref a_t_s, .ref a_t_kept, .ref a_t_beside, .int v_images, .ref a_t_errors, .int v_at, .int v_open, .int v_steps, .int v_use, .ref a_t_step, .ref a_t_named, .ref a_t_pile, .ref a_t_doesFit, .int v_fitMany, .int v_fitLeast, .ref a_t_turnOfSigns, .ref a_t_manyTurns, .int v_traced, .ref a_t_trace, .int v_speaks, .int v_isParted, .ref a_t_bits, .ref a_t_sizes, .ref a_t_number, .ref a_t_aside])), (a_t_beside, .inl (bs_I g, 32, .inl v_beside)), (a_t_s, .inl (bs_I g, 366, .inl z_s))] H → va_D A [(a_t, .inr (8, [.ref a_t_s, .ref a_t_kept, .ref a_t_beside, .int v_images, .ref a_t_errors, .int v_at, .int v_open, .int v_steps, .int v_use, .ref a_t_step, .ref a_t_named, .ref a_t_pile, .ref a_t_doesFit, .int v_fitMany, .int v_fitLeast, .ref a_t_turnOfSigns, .ref a_t_manyTurns, .int v_traced, .ref a_t_trace, .int v_speaks, .int v_isParted, .ref a_t_bits, .ref a_t_sizes, .ref a_t_number, .ref a_t_aside])), (a_t_beside, .inl (bs_I g, 32, .inl v_beside)), (a_t_s, .inl (bs_I g, 366, .inl z_s))] → va_S A s.heap H locs → ∀ ls, lv_has ls 2 [(0, .ref a_t), (1, .int y1)] → W p l e ({ frames := 0, cells := 0, slots := 0, locals := 0 } : Room) s m [.ref a_t].toArray below meth c H locs 0 0 Q (F0 m 2 ls []) := by
    intro n
    induction n with
    | zero => intro _ _ hw; exact False.elim hw
    | succ n ih =>
      intro y1 z_s hw H locs hP hD hS ls hl
      rw [wpX9_putsBack_L2] at hw
      refine lv_iload_n hx hb dX9_putsBack_2 rfl (lv_at hl 1 rfl) ?_
      refine lv_bipush (v := 32) hx hb dX9_putsBack_3 (by decide) ?_
      refine lv_icmp_ge (tgt := 26) hx hb dX9_putsBack_5 (by decide) (fun c5 => ?_) (fun c5 => ?_)
      · replace hw := hw.1 c5
        exact ret _ _ _ _ (z_s) dX9_putsBack_26 hw hP hD hS
      · replace hw := hw.2 c5
        refine lv_aload_n hx hb dX9_putsBack_8 rfl (lv_at hl 0 rfl) ?_
        refine va_get (D := g.1) (ci := 8) (v := .ref a_t_s) (C := RX9) (T := TX9) (N := 25) hx hb hts hiX9_putsBack_X9 hown hK hP 0 rfl rfl 0 (by decide) (hts (.fieldLink RX9 7 "LionSignsModel" "s" "[I") (by decide +kernel)) (fun _ h9 => h9) rfl dX9_putsBack_9 ?_
        refine lv_iload_n hx hb dX9_putsBack_12 rfl (lv_at hl 1 rfl) ?_
        refine lv_aload_n hx hb dX9_putsBack_13 rfl (lv_at hl 0 rfl) ?_
        refine va_get (D := g.1) (ci := 8) (v := .ref a_t_beside) (C := RX9) (T := TX9) (N := 25) hx hb hts hiX9_putsBack_X9 hown hK hP 0 rfl rfl 2 (by decide) (hts (.fieldLink RX9 16 "LionSignsModel" "beside" "[I") (by decide +kernel)) (fun _ h9 => h9) rfl dX9_putsBack_14 ?_
        refine lv_iload_n hx hb dX9_putsBack_17 rfl (lv_at hl 1 rfl) ?_
        refine va_iald hx hb hK hP 1 0 rfl rfl hw.1 dX9_putsBack_18 ?_
        replace hw := hw.2
        refine va_iast hx hb hK hP hD hS 2 0 rfl rfl hw.1 dX9_putsBack_19 (fun H locs hP hD hS => ?_)
        replace hw := hw.2
        have hP : bs_P g [(a_t, .inr (8, [.ref a_t_s, .ref a_t_kept, .ref a_t_beside, .int v_images, .ref a_t_errors, .int v_at, .int v_open, .int v_steps, .int v_use, .ref a_t_step, .ref a_t_named, .ref a_t_pile, .ref a_t_doesFit, .int v_fitMany, .int v_fitLeast, .ref a_t_turnOfSigns, .ref a_t_manyTurns, .int v_traced, .ref a_t_trace, .int v_speaks, .int v_isParted, .ref a_t_bits, .ref a_t_sizes, .ref a_t_number, .ref a_t_aside])), (a_t_beside, .inl (bs_I g, 32, .inl v_beside)), (a_t_s, .inl (bs_I g, 366, .inl (upd z_s y1.toNatClampNeg (v_beside y1.toNatClampNeg))))] H := hP
        have hD : va_D A [(a_t, .inr (8, [.ref a_t_s, .ref a_t_kept, .ref a_t_beside, .int v_images, .ref a_t_errors, .int v_at, .int v_open, .int v_steps, .int v_use, .ref a_t_step, .ref a_t_named, .ref a_t_pile, .ref a_t_doesFit, .int v_fitMany, .int v_fitLeast, .ref a_t_turnOfSigns, .ref a_t_manyTurns, .int v_traced, .ref a_t_trace, .int v_speaks, .int v_isParted, .ref a_t_bits, .ref a_t_sizes, .ref a_t_number, .ref a_t_aside])), (a_t_beside, .inl (bs_I g, 32, .inl v_beside)), (a_t_s, .inl (bs_I g, 366, .inl (upd z_s y1.toNatClampNeg (v_beside y1.toNatClampNeg))))] := hD
        refine lv_iinc (v := y1 + 1) (lv' := [(1, .int (y1 + 1)), (0, .ref a_t)]) hx hb dX9_putsBack_20 hl (k := 1) rfl rfl (by decide) rfl (fun ls hl => ?_)
        refine lv_goto (tgt := 2) hx hb dX9_putsBack_23 (by decide) ?_
        exact ih (y1 + 1) (upd z_s y1.toNatClampNeg (v_beside y1.toNatClampNeg)) hw _ _ hP hD hS _ (lv_sub hl [1, 0] rfl)
  refine lv_iconst (v := 0) hx hb dX9_putsBack_0 (by decide) ?_
  refine lv_istore_n (lv' := [(1, .int 0), (0, .ref a_t)]) hx hb dX9_putsBack_1 rfl hl (by decide) rfl (fun ls hl => ?_)
  obtain ⟨n1, hw⟩ := hw
  exact lp2 n1 0 v_s hw _ _ hP hD hS _ (lv_sub hl [1, 0] rfl)

theorem hdX9_isReader : yX9_isReader.cls = RX9 ∧ yX9_isReader.cls ≠ "java/lang/invoke/MethodHandle" ∧ yX9_isReader.cls ≠ "java/lang/invoke/VarHandle" ∧ (parseMethodDescriptor yX9_isReader.desc).map (fun d => d.parameters.length) = some 1 := by decide +kernel
theorem hiX9_isReader_X9 : ∀ w ∈ wsX90, w ∈ wsX9_isReader := by decide +kernel
set_option maxHeartbeats 4000000 in
set_option maxRecDepth 100000 in
theorem kX9_isReader {l : Launch} {g : bs_G} {a_t : Nat} {a_t_s : Nat} {a_t_kept : Nat} {a_t_beside : Nat} {v_images : Int32} {a_t_errors : Nat} {v_at : Int32} {v_open : Int32} {v_steps : Int32} {v_use : Int32} {a_t_step : Nat} {a_t_named : Nat} {a_t_pile : Nat} {a_t_doesFit : Nat} {v_fitMany : Int32} {v_fitLeast : Int32} {a_t_turnOfSigns : Nat} {a_t_manyTurns : Nat} {v_traced : Int32} {a_t_trace : Nat} {v_speaks : Int32} {v_isParted : Int32} {a_t_bits : Nat} {a_t_sizes : Nat} {a_t_number : Nat} {a_t_aside : Nat} {v_s : Nat → Int32} {sz : Nat} {x1 : Int32} {K : Int32 → Prop} (hw : wpX9_isReader x1 v_s K) : Met l yX9_isReader wsX9_isReader ({ frames := 1, cells := 0, slots := 0, locals := 22 } : Room) (bs_Pc g [.ref a_t, .int x1] [(a_t, .inr (8, [.ref a_t_s, .ref a_t_kept, .ref a_t_beside, .int v_images, .ref a_t_errors, .int v_at, .int v_open, .int v_steps, .int v_use, .ref a_t_step, .ref a_t_named, .ref a_t_pile, .ref a_t_doesFit, .int v_fitMany, .int v_fitLeast, .ref a_t_turnOfSigns, .ref a_t_manyTurns, .int v_traced, .ref a_t_trace, .int v_speaks, .int v_isParted, .ref a_t_bits, .ref a_t_sizes, .ref a_t_number, .ref a_t_aside])), (a_t_s, .inl (bs_I g, 366, .inl v_s))] sz) (bs_Qi g [(a_t, .inr (8, [.ref a_t_s, .ref a_t_kept, .ref a_t_beside, .int v_images, .ref a_t_errors, .int v_at, .int v_open, .int v_steps, .int v_use, .ref a_t_step, .ref a_t_named, .ref a_t_pile, .ref a_t_doesFit, .int v_fitMany, .int v_fitLeast, .ref a_t_turnOfSigns, .ref a_t_manyTurns, .int v_traced, .ref a_t_trace, .int v_speaks, .int v_isParted, .ref a_t_bits, .ref a_t_sizes, .ref a_t_number, .ref a_t_aside])), (a_t_s, .inl (bs_I g, 366, .inl v_s))] sz (fun (r : Int32) (_ : Unit) => K r) (fun (_ : Unit) => ([(a_t, .inr (8, [.ref a_t_s, .ref a_t_kept, .ref a_t_beside, .int v_images, .ref a_t_errors, .int v_at, .int v_open, .int v_steps, .int v_use, .ref a_t_step, .ref a_t_named, .ref a_t_pile, .ref a_t_doesFit, .int v_fitMany, .int v_fitLeast, .ref a_t_turnOfSigns, .ref a_t_manyTurns, .int v_traced, .ref a_t_trace, .int v_speaks, .int v_isParted, .ref a_t_bits, .ref a_t_sizes, .ref a_t_number, .ref a_t_aside])), (a_t_s, .inl (bs_I g, 366, .inl v_s))] : va_W))) 0 0 (va_A [(a_t, .inr (8, [.ref a_t_s, .ref a_t_kept, .ref a_t_beside, .int v_images, .ref a_t_errors, .int v_at, .int v_open, .int v_steps, .int v_use, .ref a_t_step, .ref a_t_named, .ref a_t_pile, .ref a_t_doesFit, .int v_fitMany, .int v_fitLeast, .ref a_t_turnOfSigns, .ref a_t_manyTurns, .int v_traced, .ref a_t_trace, .int v_speaks, .int v_isParted, .ref a_t_bits, .ref a_t_sizes, .ref a_t_number, .ref a_t_aside])), (a_t_s, .inl (bs_I g, 366, .inl v_s))] sz) := by
  refine ent_i (cc := cX9_isReader) (maxL := 2) (rt := .boolean) (by decide) rfl (Nat.le_of_ble_eq_true rfl) ?_
  intro p e s m below meth c Q A hF hsz hP hD hS ret ls hl
  obtain ⟨⟨hx, hb, hml, hown, hts⟩, hK, hG, hA⟩ := id hF
  have hown : s.vm.findClass RX9 = some m.cls := hown
  have hl : lv_has ls 2 [(0, .ref a_t), (1, .int x1)] := hl
  refine lv_iload_n hx hb dX9_isReader_0 rfl (lv_at hl 1 rfl) ?_
  refine lv_iconst (v := 0) hx hb dX9_isReader_1 (by decide) ?_
  refine lv_aload_n hx hb dX9_isReader_2 rfl (lv_at hl 0 rfl) ?_
  refine va_get (D := g.1) (ci := 8) (v := .ref a_t_s) (C := RX9) (T := TX9) (N := 25) hx hb hts hiX9_isReader_X9 hown hK hP 0 rfl rfl 0 (by decide) (hts (.fieldLink RX9 7 "LionSignsModel" "s" "[I") (by decide +kernel)) (fun _ h9 => h9) rfl dX9_isReader_3 ?_
  refine lv_bipush (v := 7) hx hb dX9_isReader_6 (by decide) ?_
  refine va_iald hx hb hK hP 1 0 rfl rfl hw.1 dX9_isReader_8 ?_
  replace hw := hw.2
  refine lv_iconst (v := 1) hx hb dX9_isReader_9 (by decide) ?_
  refine lv_isub hx hb dX9_isReader_10 ?_
  refine cs_i (wc := []) (wr := [(a_t, .inr (8, [.ref a_t_s, .ref a_t_kept, .ref a_t_beside, .int v_images, .ref a_t_errors, .int v_at, .int v_open, .int v_steps, .int v_use, .ref a_t_step, .ref a_t_named, .ref a_t_pile, .ref a_t_doesFit, .int v_fitMany, .int v_fitLeast, .ref a_t_turnOfSigns, .ref a_t_manyTurns, .int v_traced, .ref a_t_trace, .int v_speaks, .int v_isParted, .ref a_t_bits, .ref a_t_sizes, .ref a_t_number, .ref a_t_aside])), (a_t_s, .inl (bs_I g, 366, .inl v_s))]) (As := [.int x1, .int 0, .int ((v_s (7 : Int32).toNatClampNeg) - 1)]) (rest := []) hF (kX9_in hw) (va_cwS 3 hts gX9_isReader_X9_in rfl rfl rfl hdX9_in ⟨Nat.le_of_ble_eq_true rfl, Nat.le_of_ble_eq_true rfl⟩) rfl hS hP hD [] [0, 1] rfl rfl (by decide) (by decide) (by decide) hl.1 rfl (Nat.le_of_ble_eq_true rfl) dX9_isReader_11 (fun r11 _ H locs hw hP hD hS => ?_)
  try dsimp only at hw
  have hP : bs_P g [(a_t, .inr (8, [.ref a_t_s, .ref a_t_kept, .ref a_t_beside, .int v_images, .ref a_t_errors, .int v_at, .int v_open, .int v_steps, .int v_use, .ref a_t_step, .ref a_t_named, .ref a_t_pile, .ref a_t_doesFit, .int v_fitMany, .int v_fitLeast, .ref a_t_turnOfSigns, .ref a_t_manyTurns, .int v_traced, .ref a_t_trace, .int v_speaks, .int v_isParted, .ref a_t_bits, .ref a_t_sizes, .ref a_t_number, .ref a_t_aside])), (a_t_s, .inl (bs_I g, 366, .inl v_s))] H := va_P.sub hP [0, 1] rfl
  have hD : va_D A [(a_t, .inr (8, [.ref a_t_s, .ref a_t_kept, .ref a_t_beside, .int v_images, .ref a_t_errors, .int v_at, .int v_open, .int v_steps, .int v_use, .ref a_t_step, .ref a_t_named, .ref a_t_pile, .ref a_t_doesFit, .int v_fitMany, .int v_fitLeast, .ref a_t_turnOfSigns, .ref a_t_manyTurns, .int v_traced, .ref a_t_trace, .int v_speaks, .int v_isParted, .ref a_t_bits, .ref a_t_sizes, .ref a_t_number, .ref a_t_aside])), (a_t_s, .inl (bs_I g, 366, .inl v_s))] := va_D.sub hD [0, 1] (by decide) rfl
  have hzn := hw.1; replace hw := hw.2
  exact ret _ _ _ _ r11 () dX9_isReader_14 hzn hw hP hD hS

theorem hdX9_isLion : yX9_isLion.cls ≠ "java/lang/invoke/MethodHandle" ∧ yX9_isLion.cls ≠ "java/lang/invoke/VarHandle" ∧ (parseMethodDescriptor yX9_isLion.desc).map (fun d => d.parameters.length) = some 1 := by decide +kernel
set_option maxHeartbeats 4000000 in
set_option maxRecDepth 100000 in
theorem kX9_isLion {l : Launch} {g : bs_G} {sz : Nat} {x0 : Int32} {K : Int32 → Prop} (hw : wpX9_isLion x0 K) : Met l yX9_isLion wsX9_isLion ({ frames := 1, cells := 0, slots := 0, locals := 22 } : Room) (bs_Pc g [.int x0] [] sz) (bs_Qi g [] sz (fun (r : Int32) (_ : Unit) => K r) (fun (_ : Unit) => ([] : va_W))) 0 0 (va_A [] sz) := by
  refine ent_i (cc := cX9_isLion) (maxL := 1) (rt := .boolean) (by decide) rfl (Nat.le_of_ble_eq_true rfl) ?_
  intro p e s m below meth c Q A hF hsz hP hD hS ret ls hl
  obtain ⟨⟨hx, hb, hml, hown, hts⟩, hK, hG, hA⟩ := id hF
  have hown : s.vm.findClass RX9 = some m.cls := hown
  have hl : lv_has ls 1 [(0, .int x0)] := hl
  refine lv_iload_n hx hb dX9_isLion_0 rfl (lv_at hl 0 rfl) ?_
  refine lv_iconst (v := 0) hx hb dX9_isLion_1 (by decide) ?_
  refine lv_iconst (v := 1) hx hb dX9_isLion_2 (by decide) ?_
  refine cs_i (wc := []) (wr := []) (As := [.int x0, .int 0, .int 1]) (rest := []) hF (kX9_in hw) (va_cwS 3 hts gX9_isLion_X9_in rfl rfl rfl hdX9_in ⟨Nat.le_of_ble_eq_true rfl, Nat.le_of_ble_eq_true rfl⟩) rfl hS hP hD [] [] rfl rfl (by decide) (by decide) (by decide) hl.1 rfl (Nat.le_of_ble_eq_true rfl) dX9_isLion_3 (fun r3 _ H locs hw hP hD hS => ?_)
  try dsimp only at hw
  have hP : bs_P g [] H := va_P.sub hP [] rfl
  have hD : va_D A [] := va_D.sub hD [] (by decide) rfl
  have hzn := hw.1; replace hw := hw.2
  exact ret _ _ _ _ r3 () dX9_isLion_6 hzn hw hP hD hS

theorem hdX9_its : yX9_its.cls = RX9 ∧ yX9_its.cls ≠ "java/lang/invoke/MethodHandle" ∧ yX9_its.cls ≠ "java/lang/invoke/VarHandle" ∧ (parseMethodDescriptor yX9_its.desc).map (fun d => d.parameters.length) = some 2 := by decide +kernel
theorem hiX9_its_X9 : ∀ w ∈ wsX90, w ∈ wsX9_its := by decide +kernel
set_option maxHeartbeats 4000000 in
set_option maxRecDepth 100000 in
theorem kX9_its {l : Launch} {g : bs_G} {a_t : Nat} {a_t_s : Nat} {a_t_kept : Nat} {a_t_beside : Nat} {v_images : Int32} {a_t_errors : Nat} {v_at : Int32} {v_open : Int32} {v_steps : Int32} {v_use : Int32} {a_t_step : Nat} {a_t_named : Nat} {a_t_pile : Nat} {a_t_doesFit : Nat} {v_fitMany : Int32} {v_fitLeast : Int32} {a_t_turnOfSigns : Nat} {a_t_manyTurns : Nat} {v_traced : Int32} {a_t_trace : Nat} {v_speaks : Int32} {v_isParted : Int32} {a_t_bits : Nat} {a_t_sizes : Nat} {a_t_number : Nat} {a_t_aside : Nat} {v_s : Nat → Int32} {sz : Nat} {x1 : Int32} {x2 : Int32} {K : Int32 → Prop} (hw : wpX9_its x1 x2 v_s K) : Met l yX9_its wsX9_its ({ frames := 0, cells := 0, slots := 0, locals := 0 } : Room) (bs_Pc g [.ref a_t, .int x1, .int x2] [(a_t, .inr (8, [.ref a_t_s, .ref a_t_kept, .ref a_t_beside, .int v_images, .ref a_t_errors, .int v_at, .int v_open, .int v_steps, .int v_use, .ref a_t_step, .ref a_t_named, .ref a_t_pile, .ref a_t_doesFit, .int v_fitMany, .int v_fitLeast, .ref a_t_turnOfSigns, .ref a_t_manyTurns, .int v_traced, .ref a_t_trace, .int v_speaks, .int v_isParted, .ref a_t_bits, .ref a_t_sizes, .ref a_t_number, .ref a_t_aside])), (a_t_s, .inl (bs_I g, 366, .inl v_s))] sz) (bs_Qi g [(a_t, .inr (8, [.ref a_t_s, .ref a_t_kept, .ref a_t_beside, .int v_images, .ref a_t_errors, .int v_at, .int v_open, .int v_steps, .int v_use, .ref a_t_step, .ref a_t_named, .ref a_t_pile, .ref a_t_doesFit, .int v_fitMany, .int v_fitLeast, .ref a_t_turnOfSigns, .ref a_t_manyTurns, .int v_traced, .ref a_t_trace, .int v_speaks, .int v_isParted, .ref a_t_bits, .ref a_t_sizes, .ref a_t_number, .ref a_t_aside])), (a_t_s, .inl (bs_I g, 366, .inl v_s))] sz (fun (r : Int32) (_ : Unit) => K r) (fun (_ : Unit) => ([(a_t, .inr (8, [.ref a_t_s, .ref a_t_kept, .ref a_t_beside, .int v_images, .ref a_t_errors, .int v_at, .int v_open, .int v_steps, .int v_use, .ref a_t_step, .ref a_t_named, .ref a_t_pile, .ref a_t_doesFit, .int v_fitMany, .int v_fitLeast, .ref a_t_turnOfSigns, .ref a_t_manyTurns, .int v_traced, .ref a_t_trace, .int v_speaks, .int v_isParted, .ref a_t_bits, .ref a_t_sizes, .ref a_t_number, .ref a_t_aside])), (a_t_s, .inl (bs_I g, 366, .inl v_s))] : va_W))) 0 0 (va_A [(a_t, .inr (8, [.ref a_t_s, .ref a_t_kept, .ref a_t_beside, .int v_images, .ref a_t_errors, .int v_at, .int v_open, .int v_steps, .int v_use, .ref a_t_step, .ref a_t_named, .ref a_t_pile, .ref a_t_doesFit, .int v_fitMany, .int v_fitLeast, .ref a_t_turnOfSigns, .ref a_t_manyTurns, .int v_traced, .ref a_t_trace, .int v_speaks, .int v_isParted, .ref a_t_bits, .ref a_t_sizes, .ref a_t_number, .ref a_t_aside])), (a_t_s, .inl (bs_I g, 366, .inl v_s))] sz) := by
  refine ent_i (cc := cX9_its) (maxL := 3) (rt := .int) (by decide) rfl (Nat.le_of_ble_eq_true rfl) ?_
  intro p e s m below meth c Q A hF hsz hP hD hS ret ls hl
  obtain ⟨⟨hx, hb, hml, hown, hts⟩, hK, hG, hA⟩ := id hF
  have hown : s.vm.findClass RX9 = some m.cls := hown
  have hl : lv_has ls 3 [(0, .ref a_t), (1, .int x1), (2, .int x2)] := hl
  refine lv_aload_n hx hb dX9_its_0 rfl (lv_at hl 0 rfl) ?_
  refine va_get (D := g.1) (ci := 8) (v := .ref a_t_s) (C := RX9) (T := TX9) (N := 25) hx hb hts hiX9_its_X9 hown hK hP 0 rfl rfl 0 (by decide) (hts (.fieldLink RX9 7 "LionSignsModel" "s" "[I") (by decide +kernel)) (fun _ h9 => h9) rfl dX9_its_1 ?_
  refine lv_bipush (v := 14) hx hb dX9_its_4 (by decide) ?_
  refine lv_iconst (v := 3) hx hb dX9_its_6 (by decide) ?_
  refine lv_iload_n hx hb dX9_its_7 rfl (lv_at hl 1 rfl) ?_
  refine lv_imul hx hb dX9_its_8 ?_
  refine lv_iadd hx hb dX9_its_9 ?_
  refine lv_iload_n hx hb dX9_its_10 rfl (lv_at hl 2 rfl) ?_
  refine lv_iadd hx hb dX9_its_11 ?_
  refine va_iald hx hb hK hP 1 0 rfl rfl hw.1 dX9_its_12 ?_
  replace hw := hw.2
  exact ret _ _ _ _ (v_s ((14 + (3 * x1)) + x2).toNatClampNeg) () dX9_its_13 rfl hw hP hD hS

theorem hdX9_lays1 : yX9_lays1.cls = RX9 ∧ yX9_lays1.cls ≠ "java/lang/invoke/MethodHandle" ∧ yX9_lays1.cls ≠ "java/lang/invoke/VarHandle" ∧ (parseMethodDescriptor yX9_lays1.desc).map (fun d => d.parameters.length) = some 3 := by decide +kernel
theorem hiX9_lays1_X9 : ∀ w ∈ wsX90, w ∈ wsX9_lays1 := by decide +kernel
set_option maxHeartbeats 4000000 in
set_option maxRecDepth 100000 in
theorem kX9_lays1 {l : Launch} {g : bs_G} {a_t : Nat} {a_t_s : Nat} {a_t_kept : Nat} {a_t_beside : Nat} {v_images : Int32} {a_t_errors : Nat} {v_at : Int32} {v_open : Int32} {v_steps : Int32} {v_use : Int32} {a_t_step : Nat} {a_t_named : Nat} {a_t_pile : Nat} {a_t_doesFit : Nat} {v_fitMany : Int32} {v_fitLeast : Int32} {a_t_turnOfSigns : Nat} {a_t_manyTurns : Nat} {v_traced : Int32} {a_t_trace : Nat} {v_speaks : Int32} {v_isParted : Int32} {a_t_bits : Nat} {a_t_sizes : Nat} {a_t_number : Nat} {a_t_aside : Nat} {v_s : Nat → Int32} {sz : Nat} {x1 : Int32} {x2 : Int32} {x3 : Int32} {K : (Nat → Int32) → Prop} (hw : wpX9_lays1 x1 x2 x3 v_s K) : Met l yX9_lays1 wsX9_lays1 ({ frames := 0, cells := 0, slots := 0, locals := 0 } : Room) (bs_Pc g [.ref a_t, .int x1, .int x2, .int x3] [(a_t, .inr (8, [.ref a_t_s, .ref a_t_kept, .ref a_t_beside, .int v_images, .ref a_t_errors, .int v_at, .int v_open, .int v_steps, .int v_use, .ref a_t_step, .ref a_t_named, .ref a_t_pile, .ref a_t_doesFit, .int v_fitMany, .int v_fitLeast, .ref a_t_turnOfSigns, .ref a_t_manyTurns, .int v_traced, .ref a_t_trace, .int v_speaks, .int v_isParted, .ref a_t_bits, .ref a_t_sizes, .ref a_t_number, .ref a_t_aside])), (a_t_s, .inl (bs_I g, 366, .inl v_s))] sz) (bs_Qv g [(a_t, .inr (8, [.ref a_t_s, .ref a_t_kept, .ref a_t_beside, .int v_images, .ref a_t_errors, .int v_at, .int v_open, .int v_steps, .int v_use, .ref a_t_step, .ref a_t_named, .ref a_t_pile, .ref a_t_doesFit, .int v_fitMany, .int v_fitLeast, .ref a_t_turnOfSigns, .ref a_t_manyTurns, .int v_traced, .ref a_t_trace, .int v_speaks, .int v_isParted, .ref a_t_bits, .ref a_t_sizes, .ref a_t_number, .ref a_t_aside])), (a_t_s, .inl (bs_I g, 366, .inl v_s))] sz (fun (u : (Nat → Int32)) => K u) (fun (u : (Nat → Int32)) => ([(a_t, .inr (8, [.ref a_t_s, .ref a_t_kept, .ref a_t_beside, .int v_images, .ref a_t_errors, .int v_at, .int v_open, .int v_steps, .int v_use, .ref a_t_step, .ref a_t_named, .ref a_t_pile, .ref a_t_doesFit, .int v_fitMany, .int v_fitLeast, .ref a_t_turnOfSigns, .ref a_t_manyTurns, .int v_traced, .ref a_t_trace, .int v_speaks, .int v_isParted, .ref a_t_bits, .ref a_t_sizes, .ref a_t_number, .ref a_t_aside])), (a_t_s, .inl (bs_I g, 366, .inl u))] : va_W))) 0 0 (va_A [(a_t, .inr (8, [.ref a_t_s, .ref a_t_kept, .ref a_t_beside, .int v_images, .ref a_t_errors, .int v_at, .int v_open, .int v_steps, .int v_use, .ref a_t_step, .ref a_t_named, .ref a_t_pile, .ref a_t_doesFit, .int v_fitMany, .int v_fitLeast, .ref a_t_turnOfSigns, .ref a_t_manyTurns, .int v_traced, .ref a_t_trace, .int v_speaks, .int v_isParted, .ref a_t_bits, .ref a_t_sizes, .ref a_t_number, .ref a_t_aside])), (a_t_s, .inl (bs_I g, 366, .inl v_s))] sz) := by
  refine ent_v (cc := cX9_lays1) (maxL := 4) (by decide) rfl (Nat.le_of_ble_eq_true rfl) ?_
  intro p e s m below meth c Q A hF hsz hP hD hS ret ls hl
  obtain ⟨⟨hx, hb, hml, hown, hts⟩, hK, hG, hA⟩ := id hF
  have hown : s.vm.findClass RX9 = some m.cls := hown
  have hl : lv_has ls 4 [(0, .ref a_t), (1, .int x1), (2, .int x2), (3, .int x3)] := hl
  refine lv_aload_n hx hb dX9_lays1_0 rfl (lv_at hl 0 rfl) ?_
  refine va_get (D := g.1) (ci := 8) (v := .ref a_t_s) (C := RX9) (T := TX9) (N := 25) hx hb hts hiX9_lays1_X9 hown hK hP 0 rfl rfl 0 (by decide) (hts (.fieldLink RX9 7 "LionSignsModel" "s" "[I") (by decide +kernel)) (fun _ h9 => h9) rfl dX9_lays1_1 ?_
  refine lv_bipush (v := 14) hx hb dX9_lays1_4 (by decide) ?_
  refine lv_iconst (v := 3) hx hb dX9_lays1_6 (by decide) ?_
  refine lv_iload_n hx hb dX9_lays1_7 rfl (lv_at hl 1 rfl) ?_
  refine lv_imul hx hb dX9_lays1_8 ?_
  refine lv_iadd hx hb dX9_lays1_9 ?_
  refine lv_iload_n hx hb dX9_lays1_10 rfl (lv_at hl 2 rfl) ?_
  refine lv_iadd hx hb dX9_lays1_11 ?_
  refine lv_iload_n hx hb dX9_lays1_12 rfl (lv_at hl 3 rfl) ?_
  refine va_iast hx hb hK hP hD hS 1 0 rfl rfl hw.1 dX9_lays1_13 (fun H locs hP hD hS => ?_)
  replace hw := hw.2
  have hP : bs_P g [(a_t, .inr (8, [.ref a_t_s, .ref a_t_kept, .ref a_t_beside, .int v_images, .ref a_t_errors, .int v_at, .int v_open, .int v_steps, .int v_use, .ref a_t_step, .ref a_t_named, .ref a_t_pile, .ref a_t_doesFit, .int v_fitMany, .int v_fitLeast, .ref a_t_turnOfSigns, .ref a_t_manyTurns, .int v_traced, .ref a_t_trace, .int v_speaks, .int v_isParted, .ref a_t_bits, .ref a_t_sizes, .ref a_t_number, .ref a_t_aside])), (a_t_s, .inl (bs_I g, 366, .inl (upd v_s ((14 + (3 * x1)) + x2).toNatClampNeg x3)))] H := hP
  have hD : va_D A [(a_t, .inr (8, [.ref a_t_s, .ref a_t_kept, .ref a_t_beside, .int v_images, .ref a_t_errors, .int v_at, .int v_open, .int v_steps, .int v_use, .ref a_t_step, .ref a_t_named, .ref a_t_pile, .ref a_t_doesFit, .int v_fitMany, .int v_fitLeast, .ref a_t_turnOfSigns, .ref a_t_manyTurns, .int v_traced, .ref a_t_trace, .int v_speaks, .int v_isParted, .ref a_t_bits, .ref a_t_sizes, .ref a_t_number, .ref a_t_aside])), (a_t_s, .inl (bs_I g, 366, .inl (upd v_s ((14 + (3 * x1)) + x2).toNatClampNeg x3)))] := hD
  exact ret _ _ _ _ ((upd v_s ((14 + (3 * x1)) + x2).toNatClampNeg x3)) dX9_lays1_14 hw hP hD hS

theorem hdX9_change1 : yX9_change1.cls = RX9 ∧ yX9_change1.cls ≠ "java/lang/invoke/MethodHandle" ∧ yX9_change1.cls ≠ "java/lang/invoke/VarHandle" ∧ (parseMethodDescriptor yX9_change1.desc).map (fun d => d.parameters.length) = some 2 := by decide +kernel
theorem hiX9_change1_X9 : ∀ w ∈ wsX90, w ∈ wsX9_change1 := by decide +kernel
set_option maxHeartbeats 4000000 in
set_option maxRecDepth 100000 in
theorem kX9_change1 {l : Launch} {g : bs_G} {a_t : Nat} {a_t_s : Nat} {a_t_kept : Nat} {a_t_beside : Nat} {v_images : Int32} {a_t_errors : Nat} {v_at : Int32} {v_open : Int32} {v_steps : Int32} {v_use : Int32} {a_t_step : Nat} {a_t_named : Nat} {a_t_pile : Nat} {a_t_doesFit : Nat} {v_fitMany : Int32} {v_fitLeast : Int32} {a_t_turnOfSigns : Nat} {a_t_manyTurns : Nat} {v_traced : Int32} {a_t_trace : Nat} {v_speaks : Int32} {v_isParted : Int32} {a_t_bits : Nat} {a_t_sizes : Nat} {a_t_number : Nat} {a_t_aside : Nat} {v_s : Nat → Int32} {sz : Nat} {x1 : Int32} {x2 : Int32} {K : Int32 → (Nat → Int32) → Prop} (hw : wpX9_change1 x1 x2 v_s K) : Met l yX9_change1 wsX9_change1 ({ frames := 0, cells := 0, slots := 0, locals := 0 } : Room) (bs_Pc g [.ref a_t, .int x1, .int x2] [(a_t, .inr (8, [.ref a_t_s, .ref a_t_kept, .ref a_t_beside, .int v_images, .ref a_t_errors, .int v_at, .int v_open, .int v_steps, .int v_use, .ref a_t_step, .ref a_t_named, .ref a_t_pile, .ref a_t_doesFit, .int v_fitMany, .int v_fitLeast, .ref a_t_turnOfSigns, .ref a_t_manyTurns, .int v_traced, .ref a_t_trace, .int v_speaks, .int v_isParted, .ref a_t_bits, .ref a_t_sizes, .ref a_t_number, .ref a_t_aside])), (a_t_s, .inl (bs_I g, 366, .inl v_s))] sz) (bs_Qi g [(a_t, .inr (8, [.ref a_t_s, .ref a_t_kept, .ref a_t_beside, .int v_images, .ref a_t_errors, .int v_at, .int v_open, .int v_steps, .int v_use, .ref a_t_step, .ref a_t_named, .ref a_t_pile, .ref a_t_doesFit, .int v_fitMany, .int v_fitLeast, .ref a_t_turnOfSigns, .ref a_t_manyTurns, .int v_traced, .ref a_t_trace, .int v_speaks, .int v_isParted, .ref a_t_bits, .ref a_t_sizes, .ref a_t_number, .ref a_t_aside])), (a_t_s, .inl (bs_I g, 366, .inl v_s))] sz (fun (r : Int32) (u : (Nat → Int32)) => K r u) (fun (u : (Nat → Int32)) => ([(a_t, .inr (8, [.ref a_t_s, .ref a_t_kept, .ref a_t_beside, .int v_images, .ref a_t_errors, .int v_at, .int v_open, .int v_steps, .int v_use, .ref a_t_step, .ref a_t_named, .ref a_t_pile, .ref a_t_doesFit, .int v_fitMany, .int v_fitLeast, .ref a_t_turnOfSigns, .ref a_t_manyTurns, .int v_traced, .ref a_t_trace, .int v_speaks, .int v_isParted, .ref a_t_bits, .ref a_t_sizes, .ref a_t_number, .ref a_t_aside])), (a_t_s, .inl (bs_I g, 366, .inl u))] : va_W))) 0 0 (va_A [(a_t, .inr (8, [.ref a_t_s, .ref a_t_kept, .ref a_t_beside, .int v_images, .ref a_t_errors, .int v_at, .int v_open, .int v_steps, .int v_use, .ref a_t_step, .ref a_t_named, .ref a_t_pile, .ref a_t_doesFit, .int v_fitMany, .int v_fitLeast, .ref a_t_turnOfSigns, .ref a_t_manyTurns, .int v_traced, .ref a_t_trace, .int v_speaks, .int v_isParted, .ref a_t_bits, .ref a_t_sizes, .ref a_t_number, .ref a_t_aside])), (a_t_s, .inl (bs_I g, 366, .inl v_s))] sz) := by
  refine ent_i (cc := cX9_change1) (maxL := 4) (rt := .int) (by decide) rfl (Nat.le_of_ble_eq_true rfl) ?_
  intro p e s m below meth c Q A hF hsz hP hD hS ret ls hl
  obtain ⟨⟨hx, hb, hml, hown, hts⟩, hK, hG, hA⟩ := id hF
  have hown : s.vm.findClass RX9 = some m.cls := hown
  have hl : lv_has ls 4 [(0, .ref a_t), (1, .int x1), (2, .int x2)] := hl
  refine lv_aload_n hx hb dX9_change1_0 rfl (lv_at hl 0 rfl) ?_
  refine va_get (D := g.1) (ci := 8) (v := .ref a_t_s) (C := RX9) (T := TX9) (N := 25) hx hb hts hiX9_change1_X9 hown hK hP 0 rfl rfl 0 (by decide) (hts (.fieldLink RX9 7 "LionSignsModel" "s" "[I") (by decide +kernel)) (fun _ h9 => h9) rfl dX9_change1_1 ?_
  refine lv_iload_n hx hb dX9_change1_4 rfl (lv_at hl 1 rfl) ?_
  refine va_iald hx hb hK hP 1 0 rfl rfl hw.1 dX9_change1_5 ?_
  replace hw := hw.2
  refine lv_istore_n (lv' := [(3, .int (v_s x1.toNatClampNeg)), (0, .ref a_t), (1, .int x1), (2, .int x2)]) hx hb dX9_change1_6 rfl hl (by decide) rfl (fun ls hl => ?_)
  refine lv_aload_n hx hb dX9_change1_7 rfl (lv_at hl 1 rfl) ?_
  refine va_get (D := g.1) (ci := 8) (v := .ref a_t_s) (C := RX9) (T := TX9) (N := 25) hx hb hts hiX9_change1_X9 hown hK hP 0 rfl rfl 0 (by decide) (hts (.fieldLink RX9 7 "LionSignsModel" "s" "[I") (by decide +kernel)) (fun _ h9 => h9) rfl dX9_change1_8 ?_
  refine lv_iload_n hx hb dX9_change1_11 rfl (lv_at hl 2 rfl) ?_
  refine lv_iload_n hx hb dX9_change1_12 rfl (lv_at hl 3 rfl) ?_
  refine va_iast hx hb hK hP hD hS 1 0 rfl rfl hw.1 dX9_change1_13 (fun H locs hP hD hS => ?_)
  replace hw := hw.2
  have hP : bs_P g [(a_t, .inr (8, [.ref a_t_s, .ref a_t_kept, .ref a_t_beside, .int v_images, .ref a_t_errors, .int v_at, .int v_open, .int v_steps, .int v_use, .ref a_t_step, .ref a_t_named, .ref a_t_pile, .ref a_t_doesFit, .int v_fitMany, .int v_fitLeast, .ref a_t_turnOfSigns, .ref a_t_manyTurns, .int v_traced, .ref a_t_trace, .int v_speaks, .int v_isParted, .ref a_t_bits, .ref a_t_sizes, .ref a_t_number, .ref a_t_aside])), (a_t_s, .inl (bs_I g, 366, .inl (upd v_s x1.toNatClampNeg x2)))] H := hP
  have hD : va_D A [(a_t, .inr (8, [.ref a_t_s, .ref a_t_kept, .ref a_t_beside, .int v_images, .ref a_t_errors, .int v_at, .int v_open, .int v_steps, .int v_use, .ref a_t_step, .ref a_t_named, .ref a_t_pile, .ref a_t_doesFit, .int v_fitMany, .int v_fitLeast, .ref a_t_turnOfSigns, .ref a_t_manyTurns, .int v_traced, .ref a_t_trace, .int v_speaks, .int v_isParted, .ref a_t_bits, .ref a_t_sizes, .ref a_t_number, .ref a_t_aside])), (a_t_s, .inl (bs_I g, 366, .inl (upd v_s x1.toNatClampNeg x2)))] := hD
  refine lv_iload_n hx hb dX9_change1_14 rfl (lv_at hl 0 rfl) ?_
  exact ret _ _ _ _ (v_s x1.toNatClampNeg) ((upd v_s x1.toNatClampNeg x2)) dX9_change1_15 rfl hw hP hD hS

theorem hdX9_feed : yX9_feed.cls = RX9 ∧ yX9_feed.cls ≠ "java/lang/invoke/MethodHandle" ∧ yX9_feed.cls ≠ "java/lang/invoke/VarHandle" ∧ (parseMethodDescriptor yX9_feed.desc).map (fun d => d.parameters.length) = some 2 := by decide +kernel
theorem hiX9_feed_X9 : ∀ w ∈ wsX90, w ∈ wsX9_feed := by decide +kernel
set_option maxHeartbeats 4000000 in
set_option maxRecDepth 100000 in
theorem kX9_feed {l : Launch} {g : bs_G} {a_t : Nat} {a_t_s : Nat} {a_t_kept : Nat} {a_t_beside : Nat} {v_images : Int32} {a_t_errors : Nat} {v_at : Int32} {v_open : Int32} {v_steps : Int32} {v_use : Int32} {a_t_step : Nat} {a_t_named : Nat} {a_t_pile : Nat} {a_t_doesFit : Nat} {v_fitMany : Int32} {v_fitLeast : Int32} {a_t_turnOfSigns : Nat} {a_t_manyTurns : Nat} {v_traced : Int32} {a_t_trace : Nat} {v_speaks : Int32} {v_isParted : Int32} {a_t_bits : Nat} {a_t_sizes : Nat} {a_t_number : Nat} {a_t_aside : Nat} {v_s : Nat → Int32} {v_errors : Nat → Int32} {sz : Nat} {x1 : Int64} {x3 : Int32} {K : Int32 → (Nat → Int32) → (Nat → Int32) → Prop} (hw : wpX9_feed x1 x3 v_s v_errors K) : Met l yX9_feed wsX9_feed ({ frames := 1, cells := 0, slots := 0, locals := 22 } : Room) (bs_Pc g [.ref a_t, .long x1, .int x3] [(a_t, .inr (8, [.ref a_t_s, .ref a_t_kept, .ref a_t_beside, .int v_images, .ref a_t_errors, .int v_at, .int v_open, .int v_steps, .int v_use, .ref a_t_step, .ref a_t_named, .ref a_t_pile, .ref a_t_doesFit, .int v_fitMany, .int v_fitLeast, .ref a_t_turnOfSigns, .ref a_t_manyTurns, .int v_traced, .ref a_t_trace, .int v_speaks, .int v_isParted, .ref a_t_bits, .ref a_t_sizes, .ref a_t_number, .ref a_t_aside])), (a_t_s, .inl (bs_I g, 366, .inl v_s)), (a_t_errors, .inl (bs_I g, 7, .inl v_errors))] sz) (bs_Qi g [(a_t, .inr (8, [.ref a_t_s, .ref a_t_kept, .ref a_t_beside, .int v_images, .ref a_t_errors, .int v_at, .int v_open, .int v_steps, .int v_use, .ref a_t_step, .ref a_t_named, .ref a_t_pile, .ref a_t_doesFit, .int v_fitMany, .int v_fitLeast, .ref a_t_turnOfSigns, .ref a_t_manyTurns, .int v_traced, .ref a_t_trace, .int v_speaks, .int v_isParted, .ref a_t_bits, .ref a_t_sizes, .ref a_t_number, .ref a_t_aside])), (a_t_s, .inl (bs_I g, 366, .inl v_s)), (a_t_errors, .inl (bs_I g, 7, .inl v_errors))] sz (fun (r : Int32) (u : (Nat → Int32) × (Nat → Int32)) => K r u.1 u.2) (fun (u : (Nat → Int32) × (Nat → Int32)) => ([(a_t, .inr (8, [.ref a_t_s, .ref a_t_kept, .ref a_t_beside, .int v_images, .ref a_t_errors, .int v_at, .int v_open, .int v_steps, .int v_use, .ref a_t_step, .ref a_t_named, .ref a_t_pile, .ref a_t_doesFit, .int v_fitMany, .int v_fitLeast, .ref a_t_turnOfSigns, .ref a_t_manyTurns, .int v_traced, .ref a_t_trace, .int v_speaks, .int v_isParted, .ref a_t_bits, .ref a_t_sizes, .ref a_t_number, .ref a_t_aside])), (a_t_s, .inl (bs_I g, 366, .inl u.1)), (a_t_errors, .inl (bs_I g, 7, .inl u.2))] : va_W))) 0 0 (va_A [(a_t, .inr (8, [.ref a_t_s, .ref a_t_kept, .ref a_t_beside, .int v_images, .ref a_t_errors, .int v_at, .int v_open, .int v_steps, .int v_use, .ref a_t_step, .ref a_t_named, .ref a_t_pile, .ref a_t_doesFit, .int v_fitMany, .int v_fitLeast, .ref a_t_turnOfSigns, .ref a_t_manyTurns, .int v_traced, .ref a_t_trace, .int v_speaks, .int v_isParted, .ref a_t_bits, .ref a_t_sizes, .ref a_t_number, .ref a_t_aside])), (a_t_s, .inl (bs_I g, 366, .inl v_s)), (a_t_errors, .inl (bs_I g, 7, .inl v_errors))] sz) := by
  refine ent_i (cc := cX9_feed) (maxL := 5) (rt := .int) (by decide) rfl (Nat.le_of_ble_eq_true rfl) ?_
  intro p e s m below meth c Q A hF hsz hP hD hS ret ls hl
  obtain ⟨⟨hx, hb, hml, hown, hts⟩, hK, hG, hA⟩ := id hF
  have hown : s.vm.findClass RX9 = some m.cls := hown
  have hl : lv_has ls 5 [(0, .ref a_t), (1, .long x1), (3, .int x3)] := hl
  have lp38 : ∀ (n : Nat) (y1 : Int64) (y3 : Int32) (y4 : Int32) (z_s : Nat → Int32) (z_errors : Nat → Int32), wpX9_feed_L38 n y1 y3 y4 z_s z_errors K → ∀ (H : Heap) (locs : List Loc), bs_P g [(a_t, .inr (8, [.ref a_t_s, .ref a_t_kept, .ref a_t_beside, .int v_images, .ref a_t_errors, .int v_at, .int v_open, .int v_steps, .int v_use, .ref a_t_step, .ref a_t_named, .ref a_t_pile, .ref a_t_doesFit, .int v_fitMany, .int v_fitLeast, .ref a_t_turnOfSigns, .ref a_t_manyTurns, .int v_traced, .ref a_t_trace, .int v_speaks, .int v_isParted, .ref a_t_bits, .ref a_t_sizes, .ref a_t_number, .ref a_t_aside])), (a_t_s, .inl (bs_I g, 366, .inl z_s)), (a_t_errors, .inl (bs_I g, 7, .inl z_errors))] H → va_D A [(a_t, .inr (8, [.ref a_t_s, .ref a_t_kept, .ref a_t_beside, .int v_images, .ref a_t_errors, .int v_at, .int v_open, .int v_steps, .int v_use, .ref a_t_step, .ref a_t_named, .ref a_t_pile, .ref a_t_doesFit, .int v_fitMany, .int v_fitLeast, .ref a_t_turnOfSigns, .ref a_t_manyTurns, .int v_traced, .ref a_t_trace, .int v_speaks, .int v_isParted, .ref a_t_bits, .ref a_t_sizes, .ref a_t_number, .ref a_t_aside])), (a_t_s, .inl (bs_I g, 366, .inl z_s)), (a_t_errors, .inl (bs_I g, 7, .inl z_errors))] → va_S A s.heap H locs → ∀ ls, lv_has ls 5 [(0, .ref a_t), (1, .long y1), (3, .int y3), (4, .int y4)] → W p l e ({ frames := 1, cells := 0, slots := 0, locals := 22 } : Room) s m [.ref a_t, .long x1, .int x3].toArray below meth c H locs 0 0 Q (F0 m 38 ls []) := by
    intro n
    induction n with
    | zero => intro _ _ _ _ _ hw; exact False.elim hw
    | succ n ih =>
      intro y1 y3 y4 z_s z_errors hw H locs hP hD hS ls hl
      rw [wpX9_feed_L38] at hw
      refine lv_iload hx hb dX9_feed_38 (lv_at hl 3 rfl) ?_
      refine lv_iload_n hx hb dX9_feed_40 rfl (lv_at hl 2 rfl) ?_
      refine lv_icmp_ge (tgt := 87) hx hb dX9_feed_41 (by decide) (fun c41 => ?_) (fun c41 => ?_)
      · replace hw := hw.1 c41
        refine lv_aload_n hx hb dX9_feed_87 rfl (lv_at hl 0 rfl) ?_
        refine va_get (D := g.1) (ci := 8) (v := .ref a_t_s) (C := RX9) (T := TX9) (N := 25) hx hb hts hiX9_feed_X9 hown hK hP 0 rfl rfl 0 (by decide) (hts (.fieldLink RX9 7 "LionSignsModel" "s" "[I") (by decide +kernel)) (fun _ h9 => h9) rfl dX9_feed_88 ?_
        refine lv_iconst (v := 5) hx hb dX9_feed_91 (by decide) ?_
        refine va_iald hx hb hK hP 1 0 rfl rfl hw.1 dX9_feed_92 ?_
        replace hw := hw.2
        exact ret _ _ _ _ (z_s (5 : Int32).toNatClampNeg) (z_s, z_errors) dX9_feed_93 rfl hw hP hD hS
      · replace hw := hw.2 c41
        refine lv_aload_n hx hb dX9_feed_44 rfl (lv_at hl 0 rfl) ?_
        refine va_get (D := g.1) (ci := 8) (v := .ref a_t_s) (C := RX9) (T := TX9) (N := 25) hx hb hts hiX9_feed_X9 hown hK hP 0 rfl rfl 0 (by decide) (hts (.fieldLink RX9 7 "LionSignsModel" "s" "[I") (by decide +kernel)) (fun _ h9 => h9) rfl dX9_feed_45 ?_
        refine lv_sipush (v := 282) hx hb dX9_feed_48 (by decide) ?_
        refine lv_aload_n hx hb dX9_feed_51 rfl (lv_at hl 0 rfl) ?_
        refine va_get (D := g.1) (ci := 8) (v := .ref a_t_s) (C := RX9) (T := TX9) (N := 25) hx hb hts hiX9_feed_X9 hown hK hP 0 rfl rfl 0 (by decide) (hts (.fieldLink RX9 7 "LionSignsModel" "s" "[I") (by decide +kernel)) (fun _ h9 => h9) rfl dX9_feed_52 ?_
        refine lv_iconst (v := 5) hx hb dX9_feed_55 (by decide) ?_
        refine va_iald hx hb hK hP 1 0 rfl rfl hw.1 dX9_feed_56 ?_
        replace hw := hw.2
        refine lv_iadd hx hb dX9_feed_57 ?_
        refine lv_lload_n hx hb dX9_feed_58 rfl (lv_at hl 1 rfl) ?_
        refine lv_bipush (v := 8) hx hb dX9_feed_59 (by decide) ?_
        refine lv_iload hx hb dX9_feed_61 (lv_at hl 3 rfl) ?_
        refine lv_imul hx hb dX9_feed_63 ?_
        refine lv_lshr hx hb dX9_feed_64 rfl ?_
        refine lv_ldc2 (v := 255) hx hb hown (hts (.constantLong RX9 65 (255)) (by decide +kernel)) dX9_feed_65 ?_
        refine lv_land hx hb dX9_feed_68 ?_
        refine lv_l2i hx hb dX9_feed_69 rfl ?_
        refine va_iast hx hb hK hP hD hS 1 0 rfl rfl hw.1 dX9_feed_70 (fun H locs hP hD hS => ?_)
        replace hw := hw.2
        have hP : bs_P g [(a_t, .inr (8, [.ref a_t_s, .ref a_t_kept, .ref a_t_beside, .int v_images, .ref a_t_errors, .int v_at, .int v_open, .int v_steps, .int v_use, .ref a_t_step, .ref a_t_named, .ref a_t_pile, .ref a_t_doesFit, .int v_fitMany, .int v_fitLeast, .ref a_t_turnOfSigns, .ref a_t_manyTurns, .int v_traced, .ref a_t_trace, .int v_speaks, .int v_isParted, .ref a_t_bits, .ref a_t_sizes, .ref a_t_number, .ref a_t_aside])), (a_t_s, .inl (bs_I g, 366, .inl (upd z_s (282 + (z_s (5 : Int32).toNatClampNeg)).toNatClampNeg (((y1 >>> ((8 * y4).toInt64 &&& 63)) &&& 255).toInt32)))), (a_t_errors, .inl (bs_I g, 7, .inl z_errors))] H := hP
        have hD : va_D A [(a_t, .inr (8, [.ref a_t_s, .ref a_t_kept, .ref a_t_beside, .int v_images, .ref a_t_errors, .int v_at, .int v_open, .int v_steps, .int v_use, .ref a_t_step, .ref a_t_named, .ref a_t_pile, .ref a_t_doesFit, .int v_fitMany, .int v_fitLeast, .ref a_t_turnOfSigns, .ref a_t_manyTurns, .int v_traced, .ref a_t_trace, .int v_speaks, .int v_isParted, .ref a_t_bits, .ref a_t_sizes, .ref a_t_number, .ref a_t_aside])), (a_t_s, .inl (bs_I g, 366, .inl (upd z_s (282 + (z_s (5 : Int32).toNatClampNeg)).toNatClampNeg (((y1 >>> ((8 * y4).toInt64 &&& 63)) &&& 255).toInt32)))), (a_t_errors, .inl (bs_I g, 7, .inl z_errors))] := hD
        refine lv_aload_n hx hb dX9_feed_71 rfl (lv_at hl 0 rfl) ?_
        refine va_get (D := g.1) (ci := 8) (v := .ref a_t_s) (C := RX9) (T := TX9) (N := 25) hx hb hts hiX9_feed_X9 hown hK hP 0 rfl rfl 0 (by decide) (hts (.fieldLink RX9 7 "LionSignsModel" "s" "[I") (by decide +kernel)) (fun _ h9 => h9) rfl dX9_feed_72 ?_
        refine lv_iconst (v := 5) hx hb dX9_feed_75 (by decide) ?_
        refine lv_dup2_11 hx hb dX9_feed_76 rfl rfl ?_
        refine va_iald hx hb hK hP 1 0 rfl rfl hw.1 dX9_feed_77 ?_
        replace hw := hw.2
        refine lv_iconst (v := 1) hx hb dX9_feed_78 (by decide) ?_
        refine lv_iadd hx hb dX9_feed_79 ?_
        refine va_iast hx hb hK hP hD hS 1 0 rfl rfl hw.1 dX9_feed_80 (fun H locs hP hD hS => ?_)
        replace hw := hw.2
        have hP : bs_P g [(a_t, .inr (8, [.ref a_t_s, .ref a_t_kept, .ref a_t_beside, .int v_images, .ref a_t_errors, .int v_at, .int v_open, .int v_steps, .int v_use, .ref a_t_step, .ref a_t_named, .ref a_t_pile, .ref a_t_doesFit, .int v_fitMany, .int v_fitLeast, .ref a_t_turnOfSigns, .ref a_t_manyTurns, .int v_traced, .ref a_t_trace, .int v_speaks, .int v_isParted, .ref a_t_bits, .ref a_t_sizes, .ref a_t_number, .ref a_t_aside])), (a_t_s, .inl (bs_I g, 366, .inl (upd (upd z_s (282 + (z_s (5 : Int32).toNatClampNeg)).toNatClampNeg (((y1 >>> ((8 * y4).toInt64 &&& 63)) &&& 255).toInt32)) (5 : Int32).toNatClampNeg (((upd z_s (282 + (z_s (5 : Int32).toNatClampNeg)).toNatClampNeg (((y1 >>> ((8 * y4).toInt64 &&& 63)) &&& 255).toInt32)) (5 : Int32).toNatClampNeg) + 1)))), (a_t_errors, .inl (bs_I g, 7, .inl z_errors))] H := hP
        have hD : va_D A [(a_t, .inr (8, [.ref a_t_s, .ref a_t_kept, .ref a_t_beside, .int v_images, .ref a_t_errors, .int v_at, .int v_open, .int v_steps, .int v_use, .ref a_t_step, .ref a_t_named, .ref a_t_pile, .ref a_t_doesFit, .int v_fitMany, .int v_fitLeast, .ref a_t_turnOfSigns, .ref a_t_manyTurns, .int v_traced, .ref a_t_trace, .int v_speaks, .int v_isParted, .ref a_t_bits, .ref a_t_sizes, .ref a_t_number, .ref a_t_aside])), (a_t_s, .inl (bs_I g, 366, .inl (upd (upd z_s (282 + (z_s (5 : Int32).toNatClampNeg)).toNatClampNeg (((y1 >>> ((8 * y4).toInt64 &&& 63)) &&& 255).toInt32)) (5 : Int32).toNatClampNeg (((upd z_s (282 + (z_s (5 : Int32).toNatClampNeg)).toNatClampNeg (((y1 >>> ((8 * y4).toInt64 &&& 63)) &&& 255).toInt32)) (5 : Int32).toNatClampNeg) + 1)))), (a_t_errors, .inl (bs_I g, 7, .inl z_errors))] := hD
        refine lv_iinc (v := y4 + 1) (lv' := [(4, .int (y4 + 1)), (0, .ref a_t), (1, .long y1), (3, .int y3)]) hx hb dX9_feed_81 hl (k := 3) rfl rfl (by decide) rfl (fun ls hl => ?_)
        refine lv_goto (tgt := 38) hx hb dX9_feed_84 (by decide) ?_
        exact ih y1 y3 (y4 + 1) (upd (upd z_s (282 + (z_s (5 : Int32).toNatClampNeg)).toNatClampNeg (((y1 >>> ((8 * y4).toInt64 &&& 63)) &&& 255).toInt32)) (5 : Int32).toNatClampNeg (((upd z_s (282 + (z_s (5 : Int32).toNatClampNeg)).toNatClampNeg (((y1 >>> ((8 * y4).toInt64 &&& 63)) &&& 255).toInt32)) (5 : Int32).toNatClampNeg) + 1)) z_errors hw _ _ hP hD hS _ (lv_sub hl [1, 2, 3, 0] rfl)
  refine lv_iload_n hx hb dX9_feed_0 rfl (lv_at hl 2 rfl) ?_
  refine lv_iconst (v := 1) hx hb dX9_feed_1 (by decide) ?_
  refine lv_bipush (v := 8) hx hb dX9_feed_2 (by decide) ?_
  refine cs_i (wc := []) (wr := [(a_t, .inr (8, [.ref a_t_s, .ref a_t_kept, .ref a_t_beside, .int v_images, .ref a_t_errors, .int v_at, .int v_open, .int v_steps, .int v_use, .ref a_t_step, .ref a_t_named, .ref a_t_pile, .ref a_t_doesFit, .int v_fitMany, .int v_fitLeast, .ref a_t_turnOfSigns, .ref a_t_manyTurns, .int v_traced, .ref a_t_trace, .int v_speaks, .int v_isParted, .ref a_t_bits, .ref a_t_sizes, .ref a_t_number, .ref a_t_aside])), (a_t_s, .inl (bs_I g, 366, .inl v_s)), (a_t_errors, .inl (bs_I g, 7, .inl v_errors))]) (As := [.int x3, .int 1, .int 8]) (rest := []) hF (kX9_in hw) (va_cwS 3 hts gX9_feed_X9_in rfl rfl rfl hdX9_in ⟨Nat.le_of_ble_eq_true rfl, Nat.le_of_ble_eq_true rfl⟩) rfl hS hP hD [] [0, 1, 2] rfl rfl (by decide) (by decide) (by decide) hl.1 rfl (Nat.le_of_ble_eq_true rfl) dX9_feed_4 (fun r4 _ H locs hw hP hD hS => ?_)
  try dsimp only at hw
  have hP : bs_P g [(a_t, .inr (8, [.ref a_t_s, .ref a_t_kept, .ref a_t_beside, .int v_images, .ref a_t_errors, .int v_at, .int v_open, .int v_steps, .int v_use, .ref a_t_step, .ref a_t_named, .ref a_t_pile, .ref a_t_doesFit, .int v_fitMany, .int v_fitLeast, .ref a_t_turnOfSigns, .ref a_t_manyTurns, .int v_traced, .ref a_t_trace, .int v_speaks, .int v_isParted, .ref a_t_bits, .ref a_t_sizes, .ref a_t_number, .ref a_t_aside])), (a_t_s, .inl (bs_I g, 366, .inl v_s)), (a_t_errors, .inl (bs_I g, 7, .inl v_errors))] H := va_P.sub hP [0, 1, 2] rfl
  have hD : va_D A [(a_t, .inr (8, [.ref a_t_s, .ref a_t_kept, .ref a_t_beside, .int v_images, .ref a_t_errors, .int v_at, .int v_open, .int v_steps, .int v_use, .ref a_t_step, .ref a_t_named, .ref a_t_pile, .ref a_t_doesFit, .int v_fitMany, .int v_fitLeast, .ref a_t_turnOfSigns, .ref a_t_manyTurns, .int v_traced, .ref a_t_trace, .int v_speaks, .int v_isParted, .ref a_t_bits, .ref a_t_sizes, .ref a_t_number, .ref a_t_aside])), (a_t_s, .inl (bs_I g, 366, .inl v_s)), (a_t_errors, .inl (bs_I g, 7, .inl v_errors))] := va_D.sub hD [0, 1, 2] (by decide) rfl
  refine lv_if_ne (tgt := 16) hx hb dX9_feed_7 (by decide) (fun c7 => ?_) (fun c7 => ?_)
  · replace hw := hw.2 c7
    refine lv_aload_n hx hb dX9_feed_16 rfl (lv_at hl 0 rfl) ?_
    refine va_get (D := g.1) (ci := 8) (v := .ref a_t_s) (C := RX9) (T := TX9) (N := 25) hx hb hts hiX9_feed_X9 hown hK hP 0 rfl rfl 0 (by decide) (hts (.fieldLink RX9 7 "LionSignsModel" "s" "[I") (by decide +kernel)) (fun _ h9 => h9) rfl dX9_feed_17 ?_
    refine lv_iconst (v := 5) hx hb dX9_feed_20 (by decide) ?_
    refine va_iald hx hb hK hP 1 0 rfl rfl hw.1 dX9_feed_21 ?_
    replace hw := hw.2
    refine lv_iload_n hx hb dX9_feed_22 rfl (lv_at hl 2 rfl) ?_
    refine lv_iadd hx hb dX9_feed_23 ?_
    refine lv_bipush (v := 60) hx hb dX9_feed_24 (by decide) ?_
    refine lv_icmp_le (tgt := 35) hx hb dX9_feed_26 (by decide) (fun c26 => ?_) (fun c26 => ?_)
    · replace hw := hw.1 c26
      refine lv_iconst (v := 0) hx hb dX9_feed_35 (by decide) ?_
      refine lv_istore (lv' := [(4, .int 0), (0, .ref a_t), (1, .long x1), (3, .int x3)]) hx hb dX9_feed_36 hl (by decide) rfl (fun ls hl => ?_)
      obtain ⟨n1, hw⟩ := hw
      exact lp38 n1 x1 x3 0 v_s v_errors hw _ _ hP hD hS _ (lv_sub hl [1, 2, 3, 0] rfl)
    · replace hw := hw.2 c26
      refine lv_aload_n hx hb dX9_feed_29 rfl (lv_at hl 0 rfl) ?_
      refine lv_iconst (v := 4) hx hb dX9_feed_30 (by decide) ?_
      refine cv_i (wc := [(a_t, .inr (8, [.ref a_t_s, .ref a_t_kept, .ref a_t_beside, .int v_images, .ref a_t_errors, .int v_at, .int v_open, .int v_steps, .int v_use, .ref a_t_step, .ref a_t_named, .ref a_t_pile, .ref a_t_doesFit, .int v_fitMany, .int v_fitLeast, .ref a_t_turnOfSigns, .ref a_t_manyTurns, .int v_traced, .ref a_t_trace, .int v_speaks, .int v_isParted, .ref a_t_bits, .ref a_t_sizes, .ref a_t_number, .ref a_t_aside])), (a_t_errors, .inl (bs_I g, 7, .inl v_errors))]) (wr := [(a_t_s, .inl (bs_I g, 366, .inl v_s))]) (As := [.int 4]) (rest := []) (q := (RX9, TX9, 25)) hF (kX9_error hw) (cwV 1 hts gX9_feed_X9_error rfl rfl rfl hdX9_error ⟨Nat.le_of_ble_eq_true rfl, Nat.le_of_ble_eq_true rfl⟩) rfl hS hP hD 0 8 rfl rfl [0, 2] [1] rfl rfl (by decide) (by decide) (by decide) hl.1 rfl (Nat.le_of_ble_eq_true rfl) dX9_feed_31 (fun r31 u H locs hw hP hD hS => ?_)
      obtain ⟨u31_0, rfl⟩ : ∃ z, z = u := ⟨_, rfl⟩
      try dsimp only at hw
      have hP : bs_P g [(a_t, .inr (8, [.ref a_t_s, .ref a_t_kept, .ref a_t_beside, .int v_images, .ref a_t_errors, .int v_at, .int v_open, .int v_steps, .int v_use, .ref a_t_step, .ref a_t_named, .ref a_t_pile, .ref a_t_doesFit, .int v_fitMany, .int v_fitLeast, .ref a_t_turnOfSigns, .ref a_t_manyTurns, .int v_traced, .ref a_t_trace, .int v_speaks, .int v_isParted, .ref a_t_bits, .ref a_t_sizes, .ref a_t_number, .ref a_t_aside])), (a_t_s, .inl (bs_I g, 366, .inl v_s)), (a_t_errors, .inl (bs_I g, 7, .inl u31_0))] H := va_P.sub hP [1, 0, 2] rfl
      have hD : va_D A [(a_t, .inr (8, [.ref a_t_s, .ref a_t_kept, .ref a_t_beside, .int v_images, .ref a_t_errors, .int v_at, .int v_open, .int v_steps, .int v_use, .ref a_t_step, .ref a_t_named, .ref a_t_pile, .ref a_t_doesFit, .int v_fitMany, .int v_fitLeast, .ref a_t_turnOfSigns, .ref a_t_manyTurns, .int v_traced, .ref a_t_trace, .int v_speaks, .int v_isParted, .ref a_t_bits, .ref a_t_sizes, .ref a_t_number, .ref a_t_aside])), (a_t_s, .inl (bs_I g, 366, .inl v_s)), (a_t_errors, .inl (bs_I g, 7, .inl u31_0))] := va_D.sub hD [1, 0, 2] (by decide) rfl
      exact ret _ _ _ _ r31 (v_s, u31_0) dX9_feed_34 rfl hw hP hD hS
  · replace hw := hw.1 c7
    refine lv_aload_n hx hb dX9_feed_10 rfl (lv_at hl 0 rfl) ?_
    refine lv_iconst (v := 1) hx hb dX9_feed_11 (by decide) ?_
    refine cv_i (wc := [(a_t, .inr (8, [.ref a_t_s, .ref a_t_kept, .ref a_t_beside, .int v_images, .ref a_t_errors, .int v_at, .int v_open, .int v_steps, .int v_use, .ref a_t_step, .ref a_t_named, .ref a_t_pile, .ref a_t_doesFit, .int v_fitMany, .int v_fitLeast, .ref a_t_turnOfSigns, .ref a_t_manyTurns, .int v_traced, .ref a_t_trace, .int v_speaks, .int v_isParted, .ref a_t_bits, .ref a_t_sizes, .ref a_t_number, .ref a_t_aside])), (a_t_errors, .inl (bs_I g, 7, .inl v_errors))]) (wr := [(a_t_s, .inl (bs_I g, 366, .inl v_s))]) (As := [.int 1]) (rest := []) (q := (RX9, TX9, 25)) hF (kX9_error hw) (cwV 1 hts gX9_feed_X9_error rfl rfl rfl hdX9_error ⟨Nat.le_of_ble_eq_true rfl, Nat.le_of_ble_eq_true rfl⟩) rfl hS hP hD 0 8 rfl rfl [0, 2] [1] rfl rfl (by decide) (by decide) (by decide) hl.1 rfl (Nat.le_of_ble_eq_true rfl) dX9_feed_12 (fun r12 u H locs hw hP hD hS => ?_)
    obtain ⟨u12_0, rfl⟩ : ∃ z, z = u := ⟨_, rfl⟩
    try dsimp only at hw
    have hP : bs_P g [(a_t, .inr (8, [.ref a_t_s, .ref a_t_kept, .ref a_t_beside, .int v_images, .ref a_t_errors, .int v_at, .int v_open, .int v_steps, .int v_use, .ref a_t_step, .ref a_t_named, .ref a_t_pile, .ref a_t_doesFit, .int v_fitMany, .int v_fitLeast, .ref a_t_turnOfSigns, .ref a_t_manyTurns, .int v_traced, .ref a_t_trace, .int v_speaks, .int v_isParted, .ref a_t_bits, .ref a_t_sizes, .ref a_t_number, .ref a_t_aside])), (a_t_s, .inl (bs_I g, 366, .inl v_s)), (a_t_errors, .inl (bs_I g, 7, .inl u12_0))] H := va_P.sub hP [1, 0, 2] rfl
    have hD : va_D A [(a_t, .inr (8, [.ref a_t_s, .ref a_t_kept, .ref a_t_beside, .int v_images, .ref a_t_errors, .int v_at, .int v_open, .int v_steps, .int v_use, .ref a_t_step, .ref a_t_named, .ref a_t_pile, .ref a_t_doesFit, .int v_fitMany, .int v_fitLeast, .ref a_t_turnOfSigns, .ref a_t_manyTurns, .int v_traced, .ref a_t_trace, .int v_speaks, .int v_isParted, .ref a_t_bits, .ref a_t_sizes, .ref a_t_number, .ref a_t_aside])), (a_t_s, .inl (bs_I g, 366, .inl v_s)), (a_t_errors, .inl (bs_I g, 7, .inl u12_0))] := va_D.sub hD [1, 0, 2] (by decide) rfl
    exact ret _ _ _ _ r12 (v_s, u12_0) dX9_feed_15 rfl hw hP hD hS

theorem hdX9_look : yX9_look.cls = RX9 ∧ yX9_look.cls ≠ "java/lang/invoke/MethodHandle" ∧ yX9_look.cls ≠ "java/lang/invoke/VarHandle" ∧ (parseMethodDescriptor yX9_look.desc).map (fun d => d.parameters.length) = some 0 := by decide +kernel
theorem hiX9_look_X9 : ∀ w ∈ wsX90, w ∈ wsX9_look := by decide +kernel
set_option maxHeartbeats 4000000 in
set_option maxRecDepth 100000 in
theorem kX9_look {l : Launch} {g : bs_G} {a_t : Nat} {a_t_s : Nat} {a_t_kept : Nat} {a_t_beside : Nat} {v_images : Int32} {a_t_errors : Nat} {v_at : Int32} {v_open : Int32} {v_steps : Int32} {v_use : Int32} {a_t_step : Nat} {a_t_named : Nat} {a_t_pile : Nat} {a_t_doesFit : Nat} {v_fitMany : Int32} {v_fitLeast : Int32} {a_t_turnOfSigns : Nat} {a_t_manyTurns : Nat} {v_traced : Int32} {a_t_trace : Nat} {v_speaks : Int32} {v_isParted : Int32} {a_t_bits : Nat} {a_t_sizes : Nat} {a_t_number : Nat} {a_t_aside : Nat} {v_s : Nat → Int32} {sz : Nat} {K : Int32 → Prop} (hw : wpX9_look v_at v_s K) : Met l yX9_look wsX9_look ({ frames := 0, cells := 0, slots := 0, locals := 0 } : Room) (bs_Pc g [.ref a_t] [(a_t, .inr (8, [.ref a_t_s, .ref a_t_kept, .ref a_t_beside, .int v_images, .ref a_t_errors, .int v_at, .int v_open, .int v_steps, .int v_use, .ref a_t_step, .ref a_t_named, .ref a_t_pile, .ref a_t_doesFit, .int v_fitMany, .int v_fitLeast, .ref a_t_turnOfSigns, .ref a_t_manyTurns, .int v_traced, .ref a_t_trace, .int v_speaks, .int v_isParted, .ref a_t_bits, .ref a_t_sizes, .ref a_t_number, .ref a_t_aside])), (a_t_s, .inl (bs_I g, 366, .inl v_s))] sz) (bs_Qi g [(a_t, .inr (8, [.ref a_t_s, .ref a_t_kept, .ref a_t_beside, .int v_images, .ref a_t_errors, .int v_at, .int v_open, .int v_steps, .int v_use, .ref a_t_step, .ref a_t_named, .ref a_t_pile, .ref a_t_doesFit, .int v_fitMany, .int v_fitLeast, .ref a_t_turnOfSigns, .ref a_t_manyTurns, .int v_traced, .ref a_t_trace, .int v_speaks, .int v_isParted, .ref a_t_bits, .ref a_t_sizes, .ref a_t_number, .ref a_t_aside])), (a_t_s, .inl (bs_I g, 366, .inl v_s))] sz (fun (r : Int32) (_ : Unit) => K r) (fun (_ : Unit) => ([(a_t, .inr (8, [.ref a_t_s, .ref a_t_kept, .ref a_t_beside, .int v_images, .ref a_t_errors, .int v_at, .int v_open, .int v_steps, .int v_use, .ref a_t_step, .ref a_t_named, .ref a_t_pile, .ref a_t_doesFit, .int v_fitMany, .int v_fitLeast, .ref a_t_turnOfSigns, .ref a_t_manyTurns, .int v_traced, .ref a_t_trace, .int v_speaks, .int v_isParted, .ref a_t_bits, .ref a_t_sizes, .ref a_t_number, .ref a_t_aside])), (a_t_s, .inl (bs_I g, 366, .inl v_s))] : va_W))) 0 0 (va_A [(a_t, .inr (8, [.ref a_t_s, .ref a_t_kept, .ref a_t_beside, .int v_images, .ref a_t_errors, .int v_at, .int v_open, .int v_steps, .int v_use, .ref a_t_step, .ref a_t_named, .ref a_t_pile, .ref a_t_doesFit, .int v_fitMany, .int v_fitLeast, .ref a_t_turnOfSigns, .ref a_t_manyTurns, .int v_traced, .ref a_t_trace, .int v_speaks, .int v_isParted, .ref a_t_bits, .ref a_t_sizes, .ref a_t_number, .ref a_t_aside])), (a_t_s, .inl (bs_I g, 366, .inl v_s))] sz) := by
  refine ent_i (cc := cX9_look) (maxL := 1) (rt := .int) (by decide) rfl (Nat.le_of_ble_eq_true rfl) ?_
  intro p e s m below meth c Q A hF hsz hP hD hS ret ls hl
  obtain ⟨⟨hx, hb, hml, hown, hts⟩, hK, hG, hA⟩ := id hF
  have hown : s.vm.findClass RX9 = some m.cls := hown
  have hl : lv_has ls 1 [(0, .ref a_t)] := hl
  refine lv_aload_n hx hb dX9_look_0 rfl (lv_at hl 0 rfl) ?_
  refine va_get (D := g.1) (ci := 8) (v := .int v_at) (C := RX9) (T := TX9) (N := 25) hx hb hts hiX9_look_X9 hown hK hP 0 rfl rfl 5 (by decide) (hts (.fieldLink RX9 67 "LionSignsModel" "at" "I") (by decide +kernel)) (fun _ h9 => h9) rfl dX9_look_1 ?_
  refine lv_aload_n hx hb dX9_look_4 rfl (lv_at hl 0 rfl) ?_
  refine va_get (D := g.1) (ci := 8) (v := .ref a_t_s) (C := RX9) (T := TX9) (N := 25) hx hb hts hiX9_look_X9 hown hK hP 0 rfl rfl 0 (by decide) (hts (.fieldLink RX9 7 "LionSignsModel" "s" "[I") (by decide +kernel)) (fun _ h9 => h9) rfl dX9_look_5 ?_
  refine lv_iconst (v := 5) hx hb dX9_look_8 (by decide) ?_
  refine va_iald hx hb hK hP 1 0 rfl rfl hw.1 dX9_look_9 ?_
  replace hw := hw.2
  refine lv_icmp_ge (tgt := 29) hx hb dX9_look_10 (by decide) (fun c10 => ?_) (fun c10 => ?_)
  · replace hw := hw.1 c10
    refine lv_iconst (v := (-1)) hx hb dX9_look_29 (by decide) ?_
    exact ret _ _ _ _ (-1) () dX9_look_30 rfl hw hP hD hS
  · replace hw := hw.2 c10
    refine lv_aload_n hx hb dX9_look_13 rfl (lv_at hl 0 rfl) ?_
    refine va_get (D := g.1) (ci := 8) (v := .ref a_t_s) (C := RX9) (T := TX9) (N := 25) hx hb hts hiX9_look_X9 hown hK hP 0 rfl rfl 0 (by decide) (hts (.fieldLink RX9 7 "LionSignsModel" "s" "[I") (by decide +kernel)) (fun _ h9 => h9) rfl dX9_look_14 ?_
    refine lv_sipush (v := 282) hx hb dX9_look_17 (by decide) ?_
    refine lv_aload_n hx hb dX9_look_20 rfl (lv_at hl 0 rfl) ?_
    refine va_get (D := g.1) (ci := 8) (v := .int v_at) (C := RX9) (T := TX9) (N := 25) hx hb hts hiX9_look_X9 hown hK hP 0 rfl rfl 5 (by decide) (hts (.fieldLink RX9 67 "LionSignsModel" "at" "I") (by decide +kernel)) (fun _ h9 => h9) rfl dX9_look_21 ?_
    refine lv_iadd hx hb dX9_look_24 ?_
    refine va_iald hx hb hK hP 1 0 rfl rfl hw.1 dX9_look_25 ?_
    replace hw := hw.2
    refine lv_goto (tgt := 30) hx hb dX9_look_26 (by decide) ?_
    exact ret _ _ _ _ (v_s (282 + v_at).toNatClampNeg) () dX9_look_30 rfl hw hP hD hS

theorem hdX9_isName : yX9_isName.cls = RX9 ∧ yX9_isName.cls ≠ "java/lang/invoke/MethodHandle" ∧ yX9_isName.cls ≠ "java/lang/invoke/VarHandle" ∧ (parseMethodDescriptor yX9_isName.desc).map (fun d => d.parameters.length) = some 1 := by decide +kernel
theorem hiX9_isName_X9 : ∀ w ∈ wsX90, w ∈ wsX9_isName := by decide +kernel
set_option maxHeartbeats 4000000 in
set_option maxRecDepth 100000 in
theorem kX9_isName {l : Launch} {g : bs_G} {a_t : Nat} {a_t_s : Nat} {a_t_kept : Nat} {a_t_beside : Nat} {v_images : Int32} {a_t_errors : Nat} {v_at : Int32} {v_open : Int32} {v_steps : Int32} {v_use : Int32} {a_t_step : Nat} {a_t_named : Nat} {a_t_pile : Nat} {a_t_doesFit : Nat} {v_fitMany : Int32} {v_fitLeast : Int32} {a_t_turnOfSigns : Nat} {a_t_manyTurns : Nat} {v_traced : Int32} {a_t_trace : Nat} {v_speaks : Int32} {v_isParted : Int32} {a_t_bits : Nat} {a_t_sizes : Nat} {a_t_number : Nat} {a_t_aside : Nat} {sz : Nat} {x1 : Int32} {K : Int32 → Prop} (hw : wpX9_isName x1 v_use K) : Met l yX9_isName wsX9_isName ({ frames := 0, cells := 0, slots := 0, locals := 0 } : Room) (bs_Pc g [.ref a_t, .int x1] [(a_t, .inr (8, [.ref a_t_s, .ref a_t_kept, .ref a_t_beside, .int v_images, .ref a_t_errors, .int v_at, .int v_open, .int v_steps, .int v_use, .ref a_t_step, .ref a_t_named, .ref a_t_pile, .ref a_t_doesFit, .int v_fitMany, .int v_fitLeast, .ref a_t_turnOfSigns, .ref a_t_manyTurns, .int v_traced, .ref a_t_trace, .int v_speaks, .int v_isParted, .ref a_t_bits, .ref a_t_sizes, .ref a_t_number, .ref a_t_aside]))] sz) (bs_Qi g [(a_t, .inr (8, [.ref a_t_s, .ref a_t_kept, .ref a_t_beside, .int v_images, .ref a_t_errors, .int v_at, .int v_open, .int v_steps, .int v_use, .ref a_t_step, .ref a_t_named, .ref a_t_pile, .ref a_t_doesFit, .int v_fitMany, .int v_fitLeast, .ref a_t_turnOfSigns, .ref a_t_manyTurns, .int v_traced, .ref a_t_trace, .int v_speaks, .int v_isParted, .ref a_t_bits, .ref a_t_sizes, .ref a_t_number, .ref a_t_aside]))] sz (fun (r : Int32) (_ : Unit) => K r) (fun (_ : Unit) => ([(a_t, .inr (8, [.ref a_t_s, .ref a_t_kept, .ref a_t_beside, .int v_images, .ref a_t_errors, .int v_at, .int v_open, .int v_steps, .int v_use, .ref a_t_step, .ref a_t_named, .ref a_t_pile, .ref a_t_doesFit, .int v_fitMany, .int v_fitLeast, .ref a_t_turnOfSigns, .ref a_t_manyTurns, .int v_traced, .ref a_t_trace, .int v_speaks, .int v_isParted, .ref a_t_bits, .ref a_t_sizes, .ref a_t_number, .ref a_t_aside]))] : va_W))) 0 0 (va_A [(a_t, .inr (8, [.ref a_t_s, .ref a_t_kept, .ref a_t_beside, .int v_images, .ref a_t_errors, .int v_at, .int v_open, .int v_steps, .int v_use, .ref a_t_step, .ref a_t_named, .ref a_t_pile, .ref a_t_doesFit, .int v_fitMany, .int v_fitLeast, .ref a_t_turnOfSigns, .ref a_t_manyTurns, .int v_traced, .ref a_t_trace, .int v_speaks, .int v_isParted, .ref a_t_bits, .ref a_t_sizes, .ref a_t_number, .ref a_t_aside]))] sz) := by
  refine ent_i (cc := cX9_isName) (maxL := 3) (rt := .boolean) (by decide) rfl (Nat.le_of_ble_eq_true rfl) ?_
  intro p e s m below meth c Q A hF hsz hP hD hS ret ls hl
  obtain ⟨⟨hx, hb, hml, hown, hts⟩, hK, hG, hA⟩ := id hF
  have hown : s.vm.findClass RX9 = some m.cls := hown
  have hl : lv_has ls 3 [(0, .ref a_t), (1, .int x1)] := hl
  refine lv_aload_n hx hb dX9_isName_0 rfl (lv_at hl 0 rfl) ?_
  refine va_get (D := g.1) (ci := 8) (v := .int v_use) (C := RX9) (T := TX9) (N := 25) hx hb hts hiX9_isName_X9 hown hK hP 0 rfl rfl 8 (by decide) (hts (.fieldLink RX9 71 "LionSignsModel" "use" "I") (by decide +kernel)) (fun _ h9 => h9) rfl dX9_isName_1 ?_
  refine lv_if_ne (tgt := 27) hx hb dX9_isName_4 (by decide) (fun c4 => ?_) (fun c4 => ?_)
  · replace hw := hw.2 c4
    refine lv_iload_n hx hb dX9_isName_27 rfl (lv_at hl 1 rfl) ?_
    refine lv_bipush (v := 114) hx hb dX9_isName_28 (by decide) ?_
    refine lv_icmp_eq (tgt := 39) hx hb dX9_isName_30 (by decide) (fun c30 => ?_) (fun c30 => ?_)
    · replace hw := hw.1 c30
      refine lv_iconst (v := 1) hx hb dX9_isName_39 (by decide) ?_
      refine lv_goto (tgt := 44) hx hb dX9_isName_40 (by decide) ?_
      refine lv_istore_n (lv' := [(2, .int 1), (0, .ref a_t), (1, .int x1)]) hx hb dX9_isName_44 rfl hl (by decide) rfl (fun ls hl => ?_)
      refine lv_iload_n hx hb dX9_isName_45 rfl (lv_at hl 0 rfl) ?_
      refine lv_if_ne (tgt := 55) hx hb dX9_isName_46 (by decide) (fun c46 => ?_) (fun c46 => ?_)
      · replace hw := hw.2 c46
        refine lv_iconst (v := 1) hx hb dX9_isName_55 (by decide) ?_
        refine lv_goto (tgt := 60) hx hb dX9_isName_56 (by decide) ?_
        exact ret _ _ _ _ 1 () dX9_isName_60 rfl hw hP hD hS
      · replace hw := hw.1 c46
        refine lv_iload_n hx hb dX9_isName_49 rfl (lv_at hl 2 rfl) ?_
        refine lv_bipush (v := 121) hx hb dX9_isName_50 (by decide) ?_
        refine lv_icmp_ne (tgt := 59) hx hb dX9_isName_52 (by decide) (fun c52 => ?_) (fun c52 => ?_)
        · replace hw := hw.2 c52
          refine lv_iconst (v := 0) hx hb dX9_isName_59 (by decide) ?_
          exact ret _ _ _ _ 0 () dX9_isName_60 rfl hw hP hD hS
        · replace hw := hw.1 c52
          refine lv_iconst (v := 1) hx hb dX9_isName_55 (by decide) ?_
          refine lv_goto (tgt := 60) hx hb dX9_isName_56 (by decide) ?_
          exact ret _ _ _ _ 1 () dX9_isName_60 rfl hw hP hD hS
    · replace hw := hw.2 c30
      refine lv_iload_n hx hb dX9_isName_33 rfl (lv_at hl 1 rfl) ?_
      refine lv_bipush (v := 106) hx hb dX9_isName_34 (by decide) ?_
      refine lv_icmp_ne (tgt := 43) hx hb dX9_isName_36 (by decide) (fun c36 => ?_) (fun c36 => ?_)
      · replace hw := hw.2 c36
        refine lv_iconst (v := 0) hx hb dX9_isName_43 (by decide) ?_
        refine lv_istore_n (lv' := [(2, .int 0), (0, .ref a_t), (1, .int x1)]) hx hb dX9_isName_44 rfl hl (by decide) rfl (fun ls hl => ?_)
        refine lv_iload_n hx hb dX9_isName_45 rfl (lv_at hl 0 rfl) ?_
        refine lv_if_ne (tgt := 55) hx hb dX9_isName_46 (by decide) (fun c46 => ?_) (fun c46 => ?_)
        · replace hw := hw.2 c46
          refine lv_iconst (v := 1) hx hb dX9_isName_55 (by decide) ?_
          refine lv_goto (tgt := 60) hx hb dX9_isName_56 (by decide) ?_
          exact ret _ _ _ _ 1 () dX9_isName_60 rfl hw hP hD hS
        · replace hw := hw.1 c46
          refine lv_iload_n hx hb dX9_isName_49 rfl (lv_at hl 2 rfl) ?_
          refine lv_bipush (v := 121) hx hb dX9_isName_50 (by decide) ?_
          refine lv_icmp_ne (tgt := 59) hx hb dX9_isName_52 (by decide) (fun c52 => ?_) (fun c52 => ?_)
          · replace hw := hw.2 c52
            refine lv_iconst (v := 0) hx hb dX9_isName_59 (by decide) ?_
            exact ret _ _ _ _ 0 () dX9_isName_60 rfl hw hP hD hS
          · replace hw := hw.1 c52
            refine lv_iconst (v := 1) hx hb dX9_isName_55 (by decide) ?_
            refine lv_goto (tgt := 60) hx hb dX9_isName_56 (by decide) ?_
            exact ret _ _ _ _ 1 () dX9_isName_60 rfl hw hP hD hS
      · replace hw := hw.1 c36
        refine lv_iconst (v := 1) hx hb dX9_isName_39 (by decide) ?_
        refine lv_goto (tgt := 44) hx hb dX9_isName_40 (by decide) ?_
        refine lv_istore_n (lv' := [(2, .int 1), (0, .ref a_t), (1, .int x1)]) hx hb dX9_isName_44 rfl hl (by decide) rfl (fun ls hl => ?_)
        refine lv_iload_n hx hb dX9_isName_45 rfl (lv_at hl 0 rfl) ?_
        refine lv_if_ne (tgt := 55) hx hb dX9_isName_46 (by decide) (fun c46 => ?_) (fun c46 => ?_)
        · replace hw := hw.2 c46
          refine lv_iconst (v := 1) hx hb dX9_isName_55 (by decide) ?_
          refine lv_goto (tgt := 60) hx hb dX9_isName_56 (by decide) ?_
          exact ret _ _ _ _ 1 () dX9_isName_60 rfl hw hP hD hS
        · replace hw := hw.1 c46
          refine lv_iload_n hx hb dX9_isName_49 rfl (lv_at hl 2 rfl) ?_
          refine lv_bipush (v := 121) hx hb dX9_isName_50 (by decide) ?_
          refine lv_icmp_ne (tgt := 59) hx hb dX9_isName_52 (by decide) (fun c52 => ?_) (fun c52 => ?_)
          · replace hw := hw.2 c52
            refine lv_iconst (v := 0) hx hb dX9_isName_59 (by decide) ?_
            exact ret _ _ _ _ 0 () dX9_isName_60 rfl hw hP hD hS
          · replace hw := hw.1 c52
            refine lv_iconst (v := 1) hx hb dX9_isName_55 (by decide) ?_
            refine lv_goto (tgt := 60) hx hb dX9_isName_56 (by decide) ?_
            exact ret _ _ _ _ 1 () dX9_isName_60 rfl hw hP hD hS
  · replace hw := hw.1 c4
    refine lv_iload_n hx hb dX9_isName_7 rfl (lv_at hl 1 rfl) ?_
    refine lv_bipush (v := 98) hx hb dX9_isName_8 (by decide) ?_
    refine lv_icmp_eq (tgt := 19) hx hb dX9_isName_10 (by decide) (fun c10 => ?_) (fun c10 => ?_)
    · replace hw := hw.1 c10
      refine lv_iconst (v := 1) hx hb dX9_isName_19 (by decide) ?_
      refine lv_goto (tgt := 44) hx hb dX9_isName_20 (by decide) ?_
      refine lv_istore_n (lv' := [(2, .int 1), (0, .ref a_t), (1, .int x1)]) hx hb dX9_isName_44 rfl hl (by decide) rfl (fun ls hl => ?_)
      refine lv_iload_n hx hb dX9_isName_45 rfl (lv_at hl 0 rfl) ?_
      refine lv_if_ne (tgt := 55) hx hb dX9_isName_46 (by decide) (fun c46 => ?_) (fun c46 => ?_)
      · replace hw := hw.2 c46
        refine lv_iconst (v := 1) hx hb dX9_isName_55 (by decide) ?_
        refine lv_goto (tgt := 60) hx hb dX9_isName_56 (by decide) ?_
        exact ret _ _ _ _ 1 () dX9_isName_60 rfl hw hP hD hS
      · replace hw := hw.1 c46
        refine lv_iload_n hx hb dX9_isName_49 rfl (lv_at hl 2 rfl) ?_
        refine lv_bipush (v := 121) hx hb dX9_isName_50 (by decide) ?_
        refine lv_icmp_ne (tgt := 59) hx hb dX9_isName_52 (by decide) (fun c52 => ?_) (fun c52 => ?_)
        · replace hw := hw.2 c52
          refine lv_iconst (v := 0) hx hb dX9_isName_59 (by decide) ?_
          exact ret _ _ _ _ 0 () dX9_isName_60 rfl hw hP hD hS
        · replace hw := hw.1 c52
          refine lv_iconst (v := 1) hx hb dX9_isName_55 (by decide) ?_
          refine lv_goto (tgt := 60) hx hb dX9_isName_56 (by decide) ?_
          exact ret _ _ _ _ 1 () dX9_isName_60 rfl hw hP hD hS
    · replace hw := hw.2 c10
      refine lv_iload_n hx hb dX9_isName_13 rfl (lv_at hl 1 rfl) ?_
      refine lv_bipush (v := 101) hx hb dX9_isName_14 (by decide) ?_
      refine lv_icmp_ne (tgt := 23) hx hb dX9_isName_16 (by decide) (fun c16 => ?_) (fun c16 => ?_)
      · replace hw := hw.2 c16
        refine lv_iconst (v := 0) hx hb dX9_isName_23 (by decide) ?_
        refine lv_goto (tgt := 44) hx hb dX9_isName_24 (by decide) ?_
        refine lv_istore_n (lv' := [(2, .int 0), (0, .ref a_t), (1, .int x1)]) hx hb dX9_isName_44 rfl hl (by decide) rfl (fun ls hl => ?_)
        refine lv_iload_n hx hb dX9_isName_45 rfl (lv_at hl 0 rfl) ?_
        refine lv_if_ne (tgt := 55) hx hb dX9_isName_46 (by decide) (fun c46 => ?_) (fun c46 => ?_)
        · replace hw := hw.2 c46
          refine lv_iconst (v := 1) hx hb dX9_isName_55 (by decide) ?_
          refine lv_goto (tgt := 60) hx hb dX9_isName_56 (by decide) ?_
          exact ret _ _ _ _ 1 () dX9_isName_60 rfl hw hP hD hS
        · replace hw := hw.1 c46
          refine lv_iload_n hx hb dX9_isName_49 rfl (lv_at hl 2 rfl) ?_
          refine lv_bipush (v := 121) hx hb dX9_isName_50 (by decide) ?_
          refine lv_icmp_ne (tgt := 59) hx hb dX9_isName_52 (by decide) (fun c52 => ?_) (fun c52 => ?_)
          · replace hw := hw.2 c52
            refine lv_iconst (v := 0) hx hb dX9_isName_59 (by decide) ?_
            exact ret _ _ _ _ 0 () dX9_isName_60 rfl hw hP hD hS
          · replace hw := hw.1 c52
            refine lv_iconst (v := 1) hx hb dX9_isName_55 (by decide) ?_
            refine lv_goto (tgt := 60) hx hb dX9_isName_56 (by decide) ?_
            exact ret _ _ _ _ 1 () dX9_isName_60 rfl hw hP hD hS
      · replace hw := hw.1 c16
        refine lv_iconst (v := 1) hx hb dX9_isName_19 (by decide) ?_
        refine lv_goto (tgt := 44) hx hb dX9_isName_20 (by decide) ?_
        refine lv_istore_n (lv' := [(2, .int 1), (0, .ref a_t), (1, .int x1)]) hx hb dX9_isName_44 rfl hl (by decide) rfl (fun ls hl => ?_)
        refine lv_iload_n hx hb dX9_isName_45 rfl (lv_at hl 0 rfl) ?_
        refine lv_if_ne (tgt := 55) hx hb dX9_isName_46 (by decide) (fun c46 => ?_) (fun c46 => ?_)
        · replace hw := hw.2 c46
          refine lv_iconst (v := 1) hx hb dX9_isName_55 (by decide) ?_
          refine lv_goto (tgt := 60) hx hb dX9_isName_56 (by decide) ?_
          exact ret _ _ _ _ 1 () dX9_isName_60 rfl hw hP hD hS
        · replace hw := hw.1 c46
          refine lv_iload_n hx hb dX9_isName_49 rfl (lv_at hl 2 rfl) ?_
          refine lv_bipush (v := 121) hx hb dX9_isName_50 (by decide) ?_
          refine lv_icmp_ne (tgt := 59) hx hb dX9_isName_52 (by decide) (fun c52 => ?_) (fun c52 => ?_)
          · replace hw := hw.2 c52
            refine lv_iconst (v := 0) hx hb dX9_isName_59 (by decide) ?_
            exact ret _ _ _ _ 0 () dX9_isName_60 rfl hw hP hD hS
          · replace hw := hw.1 c52
            refine lv_iconst (v := 1) hx hb dX9_isName_55 (by decide) ?_
            refine lv_goto (tgt := 60) hx hb dX9_isName_56 (by decide) ?_
            exact ret _ _ _ _ 1 () dX9_isName_60 rfl hw hP hD hS

theorem hdX9_step1 : yX9_step1.cls = RX9 ∧ yX9_step1.cls ≠ "java/lang/invoke/MethodHandle" ∧ yX9_step1.cls ≠ "java/lang/invoke/VarHandle" ∧ (parseMethodDescriptor yX9_step1.desc).map (fun d => d.parameters.length) = some 2 := by decide +kernel
theorem hiX9_step1_X9 : ∀ w ∈ wsX90, w ∈ wsX9_step1 := by decide +kernel
set_option maxHeartbeats 4000000 in
set_option maxRecDepth 100000 in
theorem kX9_step1 {l : Launch} {g : bs_G} {a_t : Nat} {a_t_s : Nat} {a_t_kept : Nat} {a_t_beside : Nat} {v_images : Int32} {a_t_errors : Nat} {v_at : Int32} {v_open : Int32} {v_steps : Int32} {v_use : Int32} {a_t_step : Nat} {a_t_named : Nat} {a_t_pile : Nat} {a_t_doesFit : Nat} {v_fitMany : Int32} {v_fitLeast : Int32} {a_t_turnOfSigns : Nat} {a_t_manyTurns : Nat} {v_traced : Int32} {a_t_trace : Nat} {v_speaks : Int32} {v_isParted : Int32} {a_t_bits : Nat} {a_t_sizes : Nat} {a_t_number : Nat} {a_t_aside : Nat} {v_step : Nat → Int32} {sz : Nat} {x1 : Int32} {x2 : Int32} {K : Int32 → (Nat → Int32) → Prop} (hw : wpX9_step1 x1 x2 v_steps v_step K) : Met l yX9_step1 wsX9_step1 ({ frames := 0, cells := 0, slots := 0, locals := 0 } : Room) (bs_Pc g [.ref a_t, .int x1, .int x2] [(a_t, .inr (8, [.ref a_t_s, .ref a_t_kept, .ref a_t_beside, .int v_images, .ref a_t_errors, .int v_at, .int v_open, .int v_steps, .int v_use, .ref a_t_step, .ref a_t_named, .ref a_t_pile, .ref a_t_doesFit, .int v_fitMany, .int v_fitLeast, .ref a_t_turnOfSigns, .ref a_t_manyTurns, .int v_traced, .ref a_t_trace, .int v_speaks, .int v_isParted, .ref a_t_bits, .ref a_t_sizes, .ref a_t_number, .ref a_t_aside])), (a_t_step, .inl (bs_I g, 124, .inl v_step))] sz) (bs_Qv g [(a_t, .inr (8, [.ref a_t_s, .ref a_t_kept, .ref a_t_beside, .int v_images, .ref a_t_errors, .int v_at, .int v_open, .int v_steps, .int v_use, .ref a_t_step, .ref a_t_named, .ref a_t_pile, .ref a_t_doesFit, .int v_fitMany, .int v_fitLeast, .ref a_t_turnOfSigns, .ref a_t_manyTurns, .int v_traced, .ref a_t_trace, .int v_speaks, .int v_isParted, .ref a_t_bits, .ref a_t_sizes, .ref a_t_number, .ref a_t_aside])), (a_t_step, .inl (bs_I g, 124, .inl v_step))] sz (fun (u : Int32 × (Nat → Int32)) => K u.1 u.2) (fun (u : Int32 × (Nat → Int32)) => ([(a_t, .inr (8, [.ref a_t_s, .ref a_t_kept, .ref a_t_beside, .int v_images, .ref a_t_errors, .int v_at, .int v_open, .int u.1, .int v_use, .ref a_t_step, .ref a_t_named, .ref a_t_pile, .ref a_t_doesFit, .int v_fitMany, .int v_fitLeast, .ref a_t_turnOfSigns, .ref a_t_manyTurns, .int v_traced, .ref a_t_trace, .int v_speaks, .int v_isParted, .ref a_t_bits, .ref a_t_sizes, .ref a_t_number, .ref a_t_aside])), (a_t_step, .inl (bs_I g, 124, .inl u.2))] : va_W))) 0 0 (va_A [(a_t, .inr (8, [.ref a_t_s, .ref a_t_kept, .ref a_t_beside, .int v_images, .ref a_t_errors, .int v_at, .int v_open, .int v_steps, .int v_use, .ref a_t_step, .ref a_t_named, .ref a_t_pile, .ref a_t_doesFit, .int v_fitMany, .int v_fitLeast, .ref a_t_turnOfSigns, .ref a_t_manyTurns, .int v_traced, .ref a_t_trace, .int v_speaks, .int v_isParted, .ref a_t_bits, .ref a_t_sizes, .ref a_t_number, .ref a_t_aside])), (a_t_step, .inl (bs_I g, 124, .inl v_step))] sz) := by
  refine ent_v (cc := cX9_step1) (maxL := 3) (by decide) rfl (Nat.le_of_ble_eq_true rfl) ?_
  intro p e s m below meth c Q A hF hsz hP hD hS ret ls hl
  obtain ⟨⟨hx, hb, hml, hown, hts⟩, hK, hG, hA⟩ := id hF
  have hown : s.vm.findClass RX9 = some m.cls := hown
  have hl : lv_has ls 3 [(0, .ref a_t), (1, .int x1), (2, .int x2)] := hl
  refine lv_aload_n hx hb dX9_step1_0 rfl (lv_at hl 0 rfl) ?_
  refine va_get (D := g.1) (ci := 8) (v := .ref a_t_step) (C := RX9) (T := TX9) (N := 25) hx hb hts hiX9_step1_X9 hown hK hP 0 rfl rfl 9 (by decide) (hts (.fieldLink RX9 22 "LionSignsModel" "step" "[I") (by decide +kernel)) (fun _ h9 => h9) rfl dX9_step1_1 ?_
  refine lv_iconst (v := 2) hx hb dX9_step1_4 (by decide) ?_
  refine lv_aload_n hx hb dX9_step1_5 rfl (lv_at hl 0 rfl) ?_
  refine va_get (D := g.1) (ci := 8) (v := .int v_steps) (C := RX9) (T := TX9) (N := 25) hx hb hts hiX9_step1_X9 hown hK hP 0 rfl rfl 7 (by decide) (hts (.fieldLink RX9 74 "LionSignsModel" "steps" "I") (by decide +kernel)) (fun _ h9 => h9) rfl dX9_step1_6 ?_
  refine lv_imul hx hb dX9_step1_9 ?_
  refine lv_iload_n hx hb dX9_step1_10 rfl (lv_at hl 1 rfl) ?_
  refine va_iast hx hb hK hP hD hS 1 0 rfl rfl hw.1 dX9_step1_11 (fun H locs hP hD hS => ?_)
  replace hw := hw.2
  have hP : bs_P g [(a_t, .inr (8, [.ref a_t_s, .ref a_t_kept, .ref a_t_beside, .int v_images, .ref a_t_errors, .int v_at, .int v_open, .int v_steps, .int v_use, .ref a_t_step, .ref a_t_named, .ref a_t_pile, .ref a_t_doesFit, .int v_fitMany, .int v_fitLeast, .ref a_t_turnOfSigns, .ref a_t_manyTurns, .int v_traced, .ref a_t_trace, .int v_speaks, .int v_isParted, .ref a_t_bits, .ref a_t_sizes, .ref a_t_number, .ref a_t_aside])), (a_t_step, .inl (bs_I g, 124, .inl (upd v_step (2 * v_steps).toNatClampNeg x1)))] H := hP
  have hD : va_D A [(a_t, .inr (8, [.ref a_t_s, .ref a_t_kept, .ref a_t_beside, .int v_images, .ref a_t_errors, .int v_at, .int v_open, .int v_steps, .int v_use, .ref a_t_step, .ref a_t_named, .ref a_t_pile, .ref a_t_doesFit, .int v_fitMany, .int v_fitLeast, .ref a_t_turnOfSigns, .ref a_t_manyTurns, .int v_traced, .ref a_t_trace, .int v_speaks, .int v_isParted, .ref a_t_bits, .ref a_t_sizes, .ref a_t_number, .ref a_t_aside])), (a_t_step, .inl (bs_I g, 124, .inl (upd v_step (2 * v_steps).toNatClampNeg x1)))] := hD
  refine lv_aload_n hx hb dX9_step1_12 rfl (lv_at hl 0 rfl) ?_
  refine va_get (D := g.1) (ci := 8) (v := .ref a_t_step) (C := RX9) (T := TX9) (N := 25) hx hb hts hiX9_step1_X9 hown hK hP 0 rfl rfl 9 (by decide) (hts (.fieldLink RX9 22 "LionSignsModel" "step" "[I") (by decide +kernel)) (fun _ h9 => h9) rfl dX9_step1_13 ?_
  refine lv_iconst (v := 2) hx hb dX9_step1_16 (by decide) ?_
  refine lv_aload_n hx hb dX9_step1_17 rfl (lv_at hl 0 rfl) ?_
  refine va_get (D := g.1) (ci := 8) (v := .int v_steps) (C := RX9) (T := TX9) (N := 25) hx hb hts hiX9_step1_X9 hown hK hP 0 rfl rfl 7 (by decide) (hts (.fieldLink RX9 74 "LionSignsModel" "steps" "I") (by decide +kernel)) (fun _ h9 => h9) rfl dX9_step1_18 ?_
  refine lv_imul hx hb dX9_step1_21 ?_
  refine lv_iconst (v := 1) hx hb dX9_step1_22 (by decide) ?_
  refine lv_iadd hx hb dX9_step1_23 ?_
  refine lv_iload_n hx hb dX9_step1_24 rfl (lv_at hl 2 rfl) ?_
  refine va_iast hx hb hK hP hD hS 1 0 rfl rfl hw.1 dX9_step1_25 (fun H locs hP hD hS => ?_)
  replace hw := hw.2
  have hP : bs_P g [(a_t, .inr (8, [.ref a_t_s, .ref a_t_kept, .ref a_t_beside, .int v_images, .ref a_t_errors, .int v_at, .int v_open, .int v_steps, .int v_use, .ref a_t_step, .ref a_t_named, .ref a_t_pile, .ref a_t_doesFit, .int v_fitMany, .int v_fitLeast, .ref a_t_turnOfSigns, .ref a_t_manyTurns, .int v_traced, .ref a_t_trace, .int v_speaks, .int v_isParted, .ref a_t_bits, .ref a_t_sizes, .ref a_t_number, .ref a_t_aside])), (a_t_step, .inl (bs_I g, 124, .inl (upd (upd v_step (2 * v_steps).toNatClampNeg x1) ((2 * v_steps) + 1).toNatClampNeg x2)))] H := hP
  have hD : va_D A [(a_t, .inr (8, [.ref a_t_s, .ref a_t_kept, .ref a_t_beside, .int v_images, .ref a_t_errors, .int v_at, .int v_open, .int v_steps, .int v_use, .ref a_t_step, .ref a_t_named, .ref a_t_pile, .ref a_t_doesFit, .int v_fitMany, .int v_fitLeast, .ref a_t_turnOfSigns, .ref a_t_manyTurns, .int v_traced, .ref a_t_trace, .int v_speaks, .int v_isParted, .ref a_t_bits, .ref a_t_sizes, .ref a_t_number, .ref a_t_aside])), (a_t_step, .inl (bs_I g, 124, .inl (upd (upd v_step (2 * v_steps).toNatClampNeg x1) ((2 * v_steps) + 1).toNatClampNeg x2)))] := hD
  refine lv_aload_n hx hb dX9_step1_26 rfl (lv_at hl 0 rfl) ?_
  refine lv_dup hx hb dX9_step1_27 rfl ?_
  refine va_get (D := g.1) (ci := 8) (v := .int v_steps) (C := RX9) (T := TX9) (N := 25) hx hb hts hiX9_step1_X9 hown hK hP 0 rfl rfl 7 (by decide) (hts (.fieldLink RX9 74 "LionSignsModel" "steps" "I") (by decide +kernel)) (fun _ h9 => h9) rfl dX9_step1_28 ?_
  refine lv_iconst (v := 1) hx hb dX9_step1_31 (by decide) ?_
  refine lv_iadd hx hb dX9_step1_32 ?_
  refine va_put (D := g.1) (ci := 8) (v := .int (v_steps + 1)) (ty := .int) (C := RX9) (T := TX9) (N := 25) hx hb hts hiX9_step1_X9 tyX9 tyX9_ok nmX9 hown hK hP hD hS 0 rfl rfl 7 (by decide) (hts (.fieldLink RX9 74 "LionSignsModel" "steps" "I") (by decide +kernel)) (fun _ h9 => h9) rfl (by decide +kernel) rfl rfl (Nat.le_of_ble_eq_true rfl) dX9_step1_33 (fun H locs hP hD hS => ?_)
  have hP : bs_P g [(a_t, .inr (8, [.ref a_t_s, .ref a_t_kept, .ref a_t_beside, .int v_images, .ref a_t_errors, .int v_at, .int v_open, .int (v_steps + 1), .int v_use, .ref a_t_step, .ref a_t_named, .ref a_t_pile, .ref a_t_doesFit, .int v_fitMany, .int v_fitLeast, .ref a_t_turnOfSigns, .ref a_t_manyTurns, .int v_traced, .ref a_t_trace, .int v_speaks, .int v_isParted, .ref a_t_bits, .ref a_t_sizes, .ref a_t_number, .ref a_t_aside])), (a_t_step, .inl (bs_I g, 124, .inl (upd (upd v_step (2 * v_steps).toNatClampNeg x1) ((2 * v_steps) + 1).toNatClampNeg x2)))] H := hP
  have hD : va_D A [(a_t, .inr (8, [.ref a_t_s, .ref a_t_kept, .ref a_t_beside, .int v_images, .ref a_t_errors, .int v_at, .int v_open, .int (v_steps + 1), .int v_use, .ref a_t_step, .ref a_t_named, .ref a_t_pile, .ref a_t_doesFit, .int v_fitMany, .int v_fitLeast, .ref a_t_turnOfSigns, .ref a_t_manyTurns, .int v_traced, .ref a_t_trace, .int v_speaks, .int v_isParted, .ref a_t_bits, .ref a_t_sizes, .ref a_t_number, .ref a_t_aside])), (a_t_step, .inl (bs_I g, 124, .inl (upd (upd v_step (2 * v_steps).toNatClampNeg x1) ((2 * v_steps) + 1).toNatClampNeg x2)))] := hD
  exact ret _ _ _ _ ((v_steps + 1), (upd (upd v_step (2 * v_steps).toNatClampNeg x1) ((2 * v_steps) + 1).toNatClampNeg x2)) dX9_step1_36 hw hP hD hS

theorem hdX9_opens : yX9_opens.cls = RX9 ∧ yX9_opens.cls ≠ "java/lang/invoke/MethodHandle" ∧ yX9_opens.cls ≠ "java/lang/invoke/VarHandle" ∧ (parseMethodDescriptor yX9_opens.desc).map (fun d => d.parameters.length) = some 0 := by decide +kernel
theorem hiX9_opens_X9 : ∀ w ∈ wsX90, w ∈ wsX9_opens := by decide +kernel
set_option maxHeartbeats 4000000 in
set_option maxRecDepth 100000 in
theorem kX9_opens {l : Launch} {g : bs_G} {a_t : Nat} {a_t_s : Nat} {a_t_kept : Nat} {a_t_beside : Nat} {v_images : Int32} {a_t_errors : Nat} {v_at : Int32} {v_open : Int32} {v_steps : Int32} {v_use : Int32} {a_t_step : Nat} {a_t_named : Nat} {a_t_pile : Nat} {a_t_doesFit : Nat} {v_fitMany : Int32} {v_fitLeast : Int32} {a_t_turnOfSigns : Nat} {a_t_manyTurns : Nat} {v_traced : Int32} {a_t_trace : Nat} {v_speaks : Int32} {v_isParted : Int32} {a_t_bits : Nat} {a_t_sizes : Nat} {a_t_number : Nat} {a_t_aside : Nat} {sz : Nat} {K : Int32 → Int32 → Int32 → Prop} (hw : wpX9_opens v_at v_open K) : Met l yX9_opens wsX9_opens ({ frames := 0, cells := 0, slots := 0, locals := 0 } : Room) (bs_Pc g [.ref a_t] [(a_t, .inr (8, [.ref a_t_s, .ref a_t_kept, .ref a_t_beside, .int v_images, .ref a_t_errors, .int v_at, .int v_open, .int v_steps, .int v_use, .ref a_t_step, .ref a_t_named, .ref a_t_pile, .ref a_t_doesFit, .int v_fitMany, .int v_fitLeast, .ref a_t_turnOfSigns, .ref a_t_manyTurns, .int v_traced, .ref a_t_trace, .int v_speaks, .int v_isParted, .ref a_t_bits, .ref a_t_sizes, .ref a_t_number, .ref a_t_aside]))] sz) (bs_Qi g [(a_t, .inr (8, [.ref a_t_s, .ref a_t_kept, .ref a_t_beside, .int v_images, .ref a_t_errors, .int v_at, .int v_open, .int v_steps, .int v_use, .ref a_t_step, .ref a_t_named, .ref a_t_pile, .ref a_t_doesFit, .int v_fitMany, .int v_fitLeast, .ref a_t_turnOfSigns, .ref a_t_manyTurns, .int v_traced, .ref a_t_trace, .int v_speaks, .int v_isParted, .ref a_t_bits, .ref a_t_sizes, .ref a_t_number, .ref a_t_aside]))] sz (fun (r : Int32) (u : Int32 × Int32) => K r u.1 u.2) (fun (u : Int32 × Int32) => ([(a_t, .inr (8, [.ref a_t_s, .ref a_t_kept, .ref a_t_beside, .int v_images, .ref a_t_errors, .int u.1, .int u.2, .int v_steps, .int v_use, .ref a_t_step, .ref a_t_named, .ref a_t_pile, .ref a_t_doesFit, .int v_fitMany, .int v_fitLeast, .ref a_t_turnOfSigns, .ref a_t_manyTurns, .int v_traced, .ref a_t_trace, .int v_speaks, .int v_isParted, .ref a_t_bits, .ref a_t_sizes, .ref a_t_number, .ref a_t_aside]))] : va_W))) 0 0 (va_A [(a_t, .inr (8, [.ref a_t_s, .ref a_t_kept, .ref a_t_beside, .int v_images, .ref a_t_errors, .int v_at, .int v_open, .int v_steps, .int v_use, .ref a_t_step, .ref a_t_named, .ref a_t_pile, .ref a_t_doesFit, .int v_fitMany, .int v_fitLeast, .ref a_t_turnOfSigns, .ref a_t_manyTurns, .int v_traced, .ref a_t_trace, .int v_speaks, .int v_isParted, .ref a_t_bits, .ref a_t_sizes, .ref a_t_number, .ref a_t_aside]))] sz) := by
  refine ent_i (cc := cX9_opens) (maxL := 1) (rt := .boolean) (by decide) rfl (Nat.le_of_ble_eq_true rfl) ?_
  intro p e s m below meth c Q A hF hsz hP hD hS ret ls hl
  obtain ⟨⟨hx, hb, hml, hown, hts⟩, hK, hG, hA⟩ := id hF
  have hown : s.vm.findClass RX9 = some m.cls := hown
  have hl : lv_has ls 1 [(0, .ref a_t)] := hl
  refine lv_aload_n hx hb dX9_opens_0 rfl (lv_at hl 0 rfl) ?_
  refine va_get (D := g.1) (ci := 8) (v := .int v_open) (C := RX9) (T := TX9) (N := 25) hx hb hts hiX9_opens_X9 hown hK hP 0 rfl rfl 6 (by decide) (hts (.fieldLink RX9 101 "LionSignsModel" "open" "I") (by decide +kernel)) (fun _ h9 => h9) rfl dX9_opens_1 ?_
  refine lv_iconst (v := 5) hx hb dX9_opens_4 (by decide) ?_
  refine lv_icmp_ne (tgt := 10) hx hb dX9_opens_5 (by decide) (fun c5 => ?_) (fun c5 => ?_)
  · replace hw := hw.2 c5
    refine lv_aload_n hx hb dX9_opens_10 rfl (lv_at hl 0 rfl) ?_
    refine lv_dup hx hb dX9_opens_11 rfl ?_
    refine va_get (D := g.1) (ci := 8) (v := .int v_open) (C := RX9) (T := TX9) (N := 25) hx hb hts hiX9_opens_X9 hown hK hP 0 rfl rfl 6 (by decide) (hts (.fieldLink RX9 101 "LionSignsModel" "open" "I") (by decide +kernel)) (fun _ h9 => h9) rfl dX9_opens_12 ?_
    refine lv_iconst (v := 1) hx hb dX9_opens_15 (by decide) ?_
    refine lv_iadd hx hb dX9_opens_16 ?_
    refine va_put (D := g.1) (ci := 8) (v := .int (v_open + 1)) (ty := .int) (C := RX9) (T := TX9) (N := 25) hx hb hts hiX9_opens_X9 tyX9 tyX9_ok nmX9 hown hK hP hD hS 0 rfl rfl 6 (by decide) (hts (.fieldLink RX9 101 "LionSignsModel" "open" "I") (by decide +kernel)) (fun _ h9 => h9) rfl (by decide +kernel) rfl rfl (Nat.le_of_ble_eq_true rfl) dX9_opens_17 (fun H locs hP hD hS => ?_)
    have hP : bs_P g [(a_t, .inr (8, [.ref a_t_s, .ref a_t_kept, .ref a_t_beside, .int v_images, .ref a_t_errors, .int v_at, .int (v_open + 1), .int v_steps, .int v_use, .ref a_t_step, .ref a_t_named, .ref a_t_pile, .ref a_t_doesFit, .int v_fitMany, .int v_fitLeast, .ref a_t_turnOfSigns, .ref a_t_manyTurns, .int v_traced, .ref a_t_trace, .int v_speaks, .int v_isParted, .ref a_t_bits, .ref a_t_sizes, .ref a_t_number, .ref a_t_aside]))] H := hP
    have hD : va_D A [(a_t, .inr (8, [.ref a_t_s, .ref a_t_kept, .ref a_t_beside, .int v_images, .ref a_t_errors, .int v_at, .int (v_open + 1), .int v_steps, .int v_use, .ref a_t_step, .ref a_t_named, .ref a_t_pile, .ref a_t_doesFit, .int v_fitMany, .int v_fitLeast, .ref a_t_turnOfSigns, .ref a_t_manyTurns, .int v_traced, .ref a_t_trace, .int v_speaks, .int v_isParted, .ref a_t_bits, .ref a_t_sizes, .ref a_t_number, .ref a_t_aside]))] := hD
    refine lv_aload_n hx hb dX9_opens_20 rfl (lv_at hl 0 rfl) ?_
    refine lv_dup hx hb dX9_opens_21 rfl ?_
    refine va_get (D := g.1) (ci := 8) (v := .int v_at) (C := RX9) (T := TX9) (N := 25) hx hb hts hiX9_opens_X9 hown hK hP 0 rfl rfl 5 (by decide) (hts (.fieldLink RX9 67 "LionSignsModel" "at" "I") (by decide +kernel)) (fun _ h9 => h9) rfl dX9_opens_22 ?_
    refine lv_iconst (v := 1) hx hb dX9_opens_25 (by decide) ?_
    refine lv_iadd hx hb dX9_opens_26 ?_
    refine va_put (D := g.1) (ci := 8) (v := .int (v_at + 1)) (ty := .int) (C := RX9) (T := TX9) (N := 25) hx hb hts hiX9_opens_X9 tyX9 tyX9_ok nmX9 hown hK hP hD hS 0 rfl rfl 5 (by decide) (hts (.fieldLink RX9 67 "LionSignsModel" "at" "I") (by decide +kernel)) (fun _ h9 => h9) rfl (by decide +kernel) rfl rfl (Nat.le_of_ble_eq_true rfl) dX9_opens_27 (fun H locs hP hD hS => ?_)
    have hP : bs_P g [(a_t, .inr (8, [.ref a_t_s, .ref a_t_kept, .ref a_t_beside, .int v_images, .ref a_t_errors, .int (v_at + 1), .int (v_open + 1), .int v_steps, .int v_use, .ref a_t_step, .ref a_t_named, .ref a_t_pile, .ref a_t_doesFit, .int v_fitMany, .int v_fitLeast, .ref a_t_turnOfSigns, .ref a_t_manyTurns, .int v_traced, .ref a_t_trace, .int v_speaks, .int v_isParted, .ref a_t_bits, .ref a_t_sizes, .ref a_t_number, .ref a_t_aside]))] H := hP
    have hD : va_D A [(a_t, .inr (8, [.ref a_t_s, .ref a_t_kept, .ref a_t_beside, .int v_images, .ref a_t_errors, .int (v_at + 1), .int (v_open + 1), .int v_steps, .int v_use, .ref a_t_step, .ref a_t_named, .ref a_t_pile, .ref a_t_doesFit, .int v_fitMany, .int v_fitLeast, .ref a_t_turnOfSigns, .ref a_t_manyTurns, .int v_traced, .ref a_t_trace, .int v_speaks, .int v_isParted, .ref a_t_bits, .ref a_t_sizes, .ref a_t_number, .ref a_t_aside]))] := hD
    refine lv_iconst (v := 1) hx hb dX9_opens_30 (by decide) ?_
    exact ret _ _ _ _ 1 ((v_at + 1), (v_open + 1)) dX9_opens_31 rfl hw hP hD hS
  · replace hw := hw.1 c5
    refine lv_iconst (v := 0) hx hb dX9_opens_8 (by decide) ?_
    exact ret _ _ _ _ 0 (v_at, v_open) dX9_opens_9 rfl hw hP hD hS
