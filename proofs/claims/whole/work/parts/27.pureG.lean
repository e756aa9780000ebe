/-! moving between sheets -/
theorem i_242 (k i q : Nat) : ((24 * nI k + nI i) + nI q : Int32) = nI (24 * k + i + q) := by rw [show (24 : Int32) = nI 24 from rfl, pk_mul, nI_add, nI_add]
theorem r_mv2 {k2 k1 i j m : Nat} {er b s a : Nat → Int32} {K : Int32 → (Nat → Int32) → (Nat → Int32) → (Nat → Int32) → Prop} {n : Nat → Int32} (hk2 : k2 < 4) (hj : j + m ≤ 24) (hK : ∀ n' : Nat → Int32, (∀ q, q < m → n' (24 * k2 + j + q) = a q) → (∀ p, p < 24 * k2 + j ∨ 24 * k2 + j + m ≤ p → n' p = n p) → K (nI m) er n' a) :
    ∀ (r q : Nat) (z : Nat → Int32), q + r = m → (∀ p, p < q → z (24 * k2 + j + p) = a p) → (∀ p, p < 24 * k2 + j ∨ 24 * k2 + j + q ≤ p → z p = n p) → wpX9_move_L152 (r + 1) (nI k1) (nI i) (nI k2) (nI j) (nI m) (nI q) er b s z a K := by
  intro r
  induction r with
  | zero =>
    intro q z h h1 h2
    have e : q = m := by omega
    subst e
    rw [wpX9_move_L152]
    exact br_t (nI_le (Nat.le_refl _) (by omega)) (hK z h1 h2)
  | succ r ih =>
    intro q z h h1 h2
    rw [wpX9_move_L152]
    refine br_f (nI_ge (by omega) (by omega)) ⟨vp_in_nI (by omega) (by decide), ?_⟩
    rw [i_242, nI_1, i_cl (show 24 * k2 + j + q < 2147483648 by omega), i_cl (show q < 2147483648 by omega)]
    refine ⟨vp_in_nI (by omega) (by decide), ih (q + 1) _ (by omega) (fun p hp => ?_) (fun p hp => ?_)⟩
    · by_cases e : p = q
      · subst e; exact pk_us
      · rw [pk_un (by omega)]; exact h1 p (by omega)
    · rw [pk_un (by omega)]; exact h2 p (by omega)
theorem r_mv1 {k2 k1 i j m : Nat} {er b s n : Nat → Int32} {K : Int32 → (Nat → Int32) → (Nat → Int32) → (Nat → Int32) → Prop} (hk1 : k1 < 4) (hk2 : k2 < 4) (hi : i + m ≤ 24) (hj : j + m ≤ 24) (hK : ∀ n' a : Nat → Int32, (∀ q, q < m → n' (24 * k2 + j + q) = n (24 * k1 + i + q)) → (∀ p, p < 24 * k2 + j ∨ 24 * k2 + j + m ≤ p → n' p = n p) → K (nI m) er n' a) :
    ∀ (r q : Nat) (a : Nat → Int32), q + r = m → (∀ p, p < q → a p = n (24 * k1 + i + p)) → wpX9_move_L115 (r + 1) (nI k1) (nI i) (nI k2) (nI j) (nI m) (nI q) er b s n a K := by
  intro r
  induction r with
  | zero =>
    intro q a h h1
    have e : q = m := by omega
    subst e
    rw [wpX9_move_L115]
    refine br_t (nI_le (Nat.le_refl _) (by omega)) ⟨q + 1, ?_⟩
    exact r_mv2 (k1 := k1) (i := i) (n := n) hk2 hj (fun n' a1 a2 => hK n' a (fun p hp => by rw [a1 p hp, h1 p hp]) a2) q 0 n (by omega) (fun p hp => absurd hp (Nat.not_lt_zero p)) (fun p _ => rfl)
  | succ r ih =>
    intro q a h h1
    rw [wpX9_move_L115]
    refine br_f (nI_ge (by omega) (by omega)) ?_
    rw [i_242, nI_1, i_cl (show 24 * k1 + i + q < 2147483648 by omega), i_cl (show q < 2147483648 by omega)]
    refine ⟨vp_in_nI (by omega) (by decide), vp_in_nI (by omega) (by decide), ih (q + 1) _ (by omega) (fun p hp => ?_)⟩
    by_cases e : p = q
    · subst e; exact pk_us
    · rw [pk_un e]; exact h1 p (by omega)
/-- whether n numbers stand from i on -/
def hd_ (i n size : Int32) : Prop := ¬ i < 0 ∧ ¬ n < 0 ∧ ¬ (size - n) < i
theorem h8_t {i n size : Int32} {K : Int32 → Prop} (h : hd_ i n size) (k : K 1) : wpX3_holds i n size K := br_f h.1 (br_f h.2.1 (br_f h.2.2 k))
theorem h8_f {i n size : Int32} {K : Int32 → Prop} (h : ¬ hd_ i n size) (k : K 0) : wpX3_holds i n size K :=
  ⟨fun _ => k, fun h1 => ⟨fun _ => k, fun h2 => ⟨fun _ => k, fun h3 => absurd ⟨h1, h2, h3⟩ h⟩⟩⟩
theorem hd_n {i n : Int32} {S : Nat} (hS : S ≤ 24) (h : hd_ i n (nI S)) : ∃ a m : Nat, i = nI a ∧ n = nI m ∧ a + m ≤ S := by
  obtain ⟨h1, h2, h3⟩ := h
  obtain ⟨a, ha, rfl⟩ := nI_of h1
  obtain ⟨m, hm, rfl⟩ := nI_of h2
  refine ⟨a, m, rfl, rfl, ?_⟩
  rw [i_lt, i_sub (by rw [nI_toInt (by omega), nI_toInt hm]; omega) (by rw [nI_toInt (by omega), nI_toInt hm]; omega), nI_toInt (by omega), nI_toInt hm, nI_toInt ha] at h3
  omega
theorem pg_move {k1 k2 : Nat} {x2 x4 x5 bits1 size1 bits2 size2 : Int32} {numbers1 numbers2 er8 er9 b s n as : Nat → Int32} {K : Int32 → (Nat → Int32) → (Nat → Int32) → Int32 → (Nat → Int32) → (Nat → Int32) → (Nat → Int32) → Prop} (hk1 : k1 < 4) (hk2 : k2 < 4) (hs1 : rs k1 bits1 size1 numbers1 b s n) (hs2 : rs k2 bits2 size2 numbers2 b s n)
    (hE : ∀ e, e < 7 → K (-1000000000 - nI e) (upd er8 e (er8 e + 1)) numbers2 (-1000000000 - nI e) (upd er9 e (er9 e + 1)) n as)
    (hO : ∀ numbers' n' a', rs k2 bits2 size2 numbers' b s n' → (∀ i, i < 24 * k2 ∨ 24 * k2 + 24 ≤ i → n' i = n i) → K x5 er8 numbers' x5 er9 n' a') :
    wpX8_move (nI k1) x2 (nI k2) x4 x5 er8 bits1 size1 bits2 size2 numbers1 numbers2 (fun r8 u0 u1 => wpX9_move (nI k1) x2 (nI k2) x4 x5 er9 b s n as (fun r9 w0 w1 w2 => K r8 u0 u1 r9 w0 w1 w2)) := by
  obtain ⟨hb1, hb2, hb3, hb4, hb5⟩ := id hs1
  obtain ⟨hc1, hc2, hc3, hc4, hc5⟩ := id hs2
  obtain ⟨S1, hS1, eS1⟩ := in_nI (n := 24) hb4
  obtain ⟨S2, hS2, eS2⟩ := in_nI (n := 24) hc4
  have hsz1 : s k1 = size1 := hb2.symm
  have hsz2 : s k2 = size2 := hc2.symm
  have R9 : ∀ (K9 : Int32 → (Nat → Int32) → (Nat → Int32) → (Nat → Int32) → Prop), ((bits1 = 0 ∨ bits2 = 0) → K9 (-1000000000 - nI 2) (upd er9 2 (er9 2 + 1)) n as) → (¬ bits1 = 0 → ¬ bits2 = 0 → ¬ bits1 = bits2 → K9 (-1000000000 - nI 5) (upd er9 5 (er9 5 + 1)) n as) →
      (¬ bits1 = 0 → ¬ bits2 = 0 → bits1 = bits2 → ¬ (hd_ x2 x5 size1 ∧ hd_ x4 x5 size2) → K9 (-1000000000 - nI 1) (upd er9 1 (er9 1 + 1)) n as) →
      (¬ bits1 = 0 → ¬ bits2 = 0 → bits1 = bits2 → hd_ x2 x5 size1 → hd_ x4 x5 size2 → ∃ n1, wpX9_move_L115 n1 (nI k1) x2 (nI k2) x4 x5 0 er9 b s n as K9) → wpX9_move (nI k1) x2 (nI k2) x4 x5 er9 b s n as K9 := by
    intro K9 a2 a5 a1 ag
    unfold wpX9_move wpX9_isSheet
    rw [i_cl (show k1 < 2147483648 by omega), i_cl (show k2 < 2147483648 by omega), ← hb1, ← hc1, hsz1, hsz2]
    refine w9_t (n := 3) (by omega) (by decide) ⟨rfl, br_f (by decide) (w9_t (n := 3) (by omega) (by decide) ⟨rfl, br_f (by decide) ⟨vp_in_nI hk1 (by decide), fun z1 => e9 (k := 2) (by decide) (a2 (Or.inl z1)), fun z1 => ⟨vp_in_nI hk2 (by decide), fun z2 => e9 (k := 2) (by decide) (a2 (Or.inr z2)), fun z2 => ⟨vp_in_nI hk1 (by decide), vp_in_nI hk2 (by decide), fun q => ?_, fun q => e9 (k := 5) (by decide) (a5 z1 z2 q)⟩⟩⟩⟩)⟩
    have er1 : ¬ (hd_ x2 x5 size1 ∧ hd_ x4 x5 size2) → wpX9_error 1 er9 (fun r108 u108_0 => K9 r108 u108_0 n as) := fun w => e9 (k := 1) (by decide) (a1 z1 z2 q w)
    refine ⟨fun w => er1 (fun h => h.1.2.1 w), fun h5 => ⟨fun w => er1 (fun h => h.1.1 w), fun h2 => ⟨fun w => er1 (fun h => h.2.1 w), fun h4 => ⟨vp_in_nI hk1 (by decide), fun w => er1 (fun h => h.1.2.2 w), fun hh1 => ⟨vp_in_nI hk2 (by decide), fun w => ag z1 z2 q ⟨h2, h5, hh1⟩ ⟨h4, h5, fun z => ?_⟩, fun w => er1 (fun h => h.2.2.2 ?_)⟩⟩⟩⟩⟩
    · rw [i_lt] at z; rw [i_le] at w; omega
    · rw [i_lt]; rw [i_le] at w; omega
  unfold wpX8_move wpX8_isSheet wpX3_isMissing
  refine w8_t (n := 3) (by omega) (by decide) ⟨rfl, br_f (by decide) (w8_t (n := 3) (by omega) (by decide) ⟨rfl, br_f (by decide) ⟨vp_in_nI hk1 (by decide), vp_in_nI hk2 (by decide), ?_⟩⟩)⟩
  refine ⟨fun z1 => br_f (by decide) (e8 (k := 2) (by decide) (R9 _ (fun _ => hE 2 (by decide)) (fun q => absurd z1 q) (fun q => absurd z1 q) (fun q => absurd z1 q))), fun z1 => br_t rfl ?_⟩
  refine ⟨fun z2 => br_f (by decide) (e8 (k := 2) (by decide) (R9 _ (fun _ => hE 2 (by decide)) (fun _ q => absurd z2 q) (fun _ q => absurd z2 q) (fun _ q => absurd z2 q))), fun z2 => br_t rfl ?_⟩
  have nz : ¬ (bits1 = 0 ∨ bits2 = 0) := fun q => q.elim z1 z2
  refine ⟨fun eb => ?_, fun eb => e8 (k := 5) (by decide) (R9 _ (fun q => absurd q nz) (fun _ _ _ => hE 5 (by decide)) (fun _ _ q => absurd q eb) (fun _ _ q => absurd q eb))⟩
  have bad : ¬ (hd_ x2 x5 size1 ∧ hd_ x4 x5 size2) → wpX8_no 1 er8 (fun r102 u102_0 => wpX9_move (nI k1) x2 (nI k2) x4 x5 er9 b s n as (fun r9 w0 w1 w2 => K r102 u102_0 numbers2 r9 w0 w1 w2)) :=
    fun h => e8 (k := 1) (by decide) (R9 _ (fun q => absurd q nz) (fun _ _ q => absurd eb q) (fun _ _ _ _ => hE 1 (by decide)) (fun _ _ _ w1 w2 => absurd ⟨w1, w2⟩ h))
  by_cases h1 : hd_ x2 x5 size1
  · by_cases h2 : hd_ x4 x5 size2
    · refine h8_t h1 (br_f (by decide) (h8_t h2 (br_f (by decide) ⟨h1.1, h2.1, h1.2.1, ?_⟩)))
      rw [eS1] at h1
      rw [eS2] at h2
      obtain ⟨i, m, rfl, rfl, him⟩ := hd_n hS1 h1
      obtain ⟨j, m', rfl, em, hjm⟩ := hd_n hS2 h2
      have em2 : m' = m := by
        have h3 := h1.2.1
        have e := congrArg Int32.toInt em
        rcases Nat.lt_or_ge m 2147483648 with hm | hm
        · rw [nI_toInt hm, nI_toInt (by omega)] at e
          omega
        · omega
      subst em2
      rw [i_cl (show i < 2147483648 by omega), i_cl (show j < 2147483648 by omega), i_cl (show m' < 2147483648 by omega)]
      refine ⟨by omega, by omega, R9 _ (fun q => absurd q nz) (fun _ _ q => absurd eb q) (fun _ _ _ w => absurd ⟨by rw [eS1]; exact h1, by rw [eS2]; exact h2⟩ w) (fun _ _ _ _ _ => ⟨m' + 1, r_mv1 hk1 hk2 (by omega) (by omega) (fun n' a a1 a2 => ?_) m' 0 as (by omega) (fun p hp => absurd hp (Nat.not_lt_zero p))⟩)⟩
      refine hO _ _ _ ⟨hc1, hc2, hc3, hc4, fun p hp => ?_⟩ (fun p hp => a2 p (by omega))
      by_cases hin : j ≤ p ∧ p < j + m'
      · rw [pk_cpy_in hin.1 hin.2]
        have e1 := a1 (p - j) (by omega)
        rw [show 24 * k2 + j + (p - j) = 24 * k2 + p by omega] at e1
        rw [e1, hb5 _ (by omega), show 24 * k1 + (i + (p - j)) = 24 * k1 + i + (p - j) by omega]
      · rw [pk_cpy_out (by omega), a2 _ (by omega)]
        exact hc5 p hp
    · exact h8_t h1 (br_f (by decide) (h8_f h2 (br_t rfl (bad (fun h => h2 h.2)))))
  · exact h8_f h1 (br_t rfl (bad (fun h => h1 h.1)))
/-- a sheet that there isn't -/
theorem pg_mo1 {x1 x2 x3 x4 x5 bits1 size1 bits2 size2 : Int32} {numbers1 numbers2 er8 er9 b s n as : Nat → Int32} {K : Int32 → (Nat → Int32) → (Nat → Int32) → Int32 → (Nat → Int32) → (Nat → Int32) → (Nat → Int32) → Prop} (hx : ¬ vp_in x1 4)
    (hE : K (-1000000000 - nI 1) (upd er8 1 (er8 1 + 1)) numbers2 (-1000000000 - nI 1) (upd er9 1 (er9 1 + 1)) n as) : wpX8_move x1 x2 x3 x4 x5 er8 bits1 size1 bits2 size2 numbers1 numbers2 (fun r8 u0 u1 => wpX9_move x1 x2 x3 x4 x5 er9 b s n as (fun r9 w0 w1 w2 => K r8 u0 u1 r9 w0 w1 w2)) := by
  have hx2 : ¬ in_ x1 (3 : Nat) := fun q => hx (vp_in_iff.mpr (by unfold in_ at q; omega))
  unfold wpX8_move wpX8_isSheet
  refine w8_f (n := 3) (by decide) hx2 ⟨rfl, br_t rfl (e8 (k := 1) (by decide) ?_)⟩
  unfold wpX9_move wpX9_isSheet
  exact w9_f (n := 3) (by decide) hx2 ⟨rfl, br_t rfl (e9 (k := 1) (by decide) hE)⟩
theorem pg_mo2 {k1 : Nat} {x2 x3 x4 x5 bits1 size1 bits2 size2 : Int32} {numbers1 numbers2 er8 er9 b s n as : Nat → Int32} {K : Int32 → (Nat → Int32) → (Nat → Int32) → Int32 → (Nat → Int32) → (Nat → Int32) → (Nat → Int32) → Prop} (hk1 : k1 < 4) (hx : ¬ vp_in x3 4)
    (hE : K (-1000000000 - nI 1) (upd er8 1 (er8 1 + 1)) numbers2 (-1000000000 - nI 1) (upd er9 1 (er9 1 + 1)) n as) : wpX8_move (nI k1) x2 x3 x4 x5 er8 bits1 size1 bits2 size2 numbers1 numbers2 (fun r8 u0 u1 => wpX9_move (nI k1) x2 x3 x4 x5 er9 b s n as (fun r9 w0 w1 w2 => K r8 u0 u1 r9 w0 w1 w2)) := by
  have hx2 : ¬ in_ x3 (3 : Nat) := fun q => hx (vp_in_iff.mpr (by unfold in_ at q; omega))
  unfold wpX8_move wpX8_isSheet
  refine w8_t (n := 3) (by omega) (by decide) ⟨rfl, br_f (by decide) (w8_f (n := 3) (by decide) hx2 ⟨rfl, br_t rfl (e8 (k := 1) (by decide) ?_)⟩)⟩
  unfold wpX9_move wpX9_isSheet
  exact w9_t (n := 3) (by omega) (by decide) ⟨rfl, br_f (by decide) (w9_f (n := 3) (by decide) hx2 ⟨rfl, br_t rfl (e9 (k := 1) (by decide) hE)⟩)⟩
set_option maxRecDepth 20000 in
theorem pc_move_00 {c d : Nat → Int32} {A B : Nat → Nat → Int32} {nm : Nat} {x1 : Int32} {x2 : Int32} {x3 : Int32} {x4 : Int32} {x5 : Int32} (hR : rl c A d B nm) (hx1 : x1 = 0) (hx3 : x3 = 0) : wpX8_moveA x1 x2 x3 x4 x5 (A 36) (c 42) (c 43) (A 37) (fun r8 u0 u1 => wpX9_move x1 x2 x3 x4 x5 (B 3) (B 11) (B 12) (B 13) (B 14) (fun r9 w0 w1 w2 => r8 = r9 ∧ rl c (va_up (va_up A 36 u0) 37 u1) d (va_up (va_up (va_up B 3 w0) 13 w1) 14 w2) nm)) := by
  subst hx1
  subst hx3
  obtain ⟨hw, hi, ht0, ht1, hm0, hm1, him, her, hv, hs0, hs1, hs2, hs3, hnm⟩ := id hR
  refine pg_move (k1 := 0) (k2 := 0) (K := fun r8 u0 u1 r9 w0 w1 w2 => r8 = r9 ∧ rl c (va_up (va_up A 36 u0) 37 u1) d (va_up (va_up (va_up B 3 w0) 13 w1) 14 w2) nm) (by decide) (by decide) hs0 hs0 (fun e he => ?_) (fun numbers' n' a' hs' ho => ?_)
  · exact ⟨rfl, hw, hi, ht0, ht1, hm0, hm1, him, er_up her (k := e) he, hv, hs0, hs1, hs2, hs3, hnm⟩
  · exact ⟨rfl, hw, hi, ht0, ht1, hm0, hm1, him, her, hv, hs', rs_o hs1 (rfl) (rfl) (fun i h => ho _ (by omega)), rs_o hs2 (rfl) (rfl) (fun i h => ho _ (by omega)), rs_o hs3 (rfl) (rfl) (fun i h => ho _ (by omega)), hnm⟩
set_option maxRecDepth 20000 in
theorem pc_move_01 {c d : Nat → Int32} {A B : Nat → Nat → Int32} {nm : Nat} {x1 : Int32} {x2 : Int32} {x3 : Int32} {x4 : Int32} {x5 : Int32} (hR : rl c A d B nm) (hx1 : x1 = 0) (hx3 : x3 = 1) : wpX8_move x1 x2 x3 x4 x5 (A 36) (c 42) (c 43) (c 44) (c 45) (A 37) (A 38) (fun r8 u0 u1 => wpX9_move x1 x2 x3 x4 x5 (B 3) (B 11) (B 12) (B 13) (B 14) (fun r9 w0 w1 w2 => r8 = r9 ∧ rl c (va_up (va_up A 36 u0) 38 u1) d (va_up (va_up (va_up B 3 w0) 13 w1) 14 w2) nm)) := by
  subst hx1
  subst hx3
  obtain ⟨hw, hi, ht0, ht1, hm0, hm1, him, her, hv, hs0, hs1, hs2, hs3, hnm⟩ := id hR
  refine pg_move (k1 := 0) (k2 := 1) (K := fun r8 u0 u1 r9 w0 w1 w2 => r8 = r9 ∧ rl c (va_up (va_up A 36 u0) 38 u1) d (va_up (va_up (va_up B 3 w0) 13 w1) 14 w2) nm) (by decide) (by decide) hs0 hs1 (fun e he => ?_) (fun numbers' n' a' hs' ho => ?_)
  · exact ⟨rfl, hw, hi, ht0, ht1, hm0, hm1, him, er_up her (k := e) he, hv, hs0, hs1, hs2, hs3, hnm⟩
  · exact ⟨rfl, hw, hi, ht0, ht1, hm0, hm1, him, her, hv, rs_o hs0 (rfl) (rfl) (fun i h => ho _ (by omega)), hs', rs_o hs2 (rfl) (rfl) (fun i h => ho _ (by omega)), rs_o hs3 (rfl) (rfl) (fun i h => ho _ (by omega)), hnm⟩
set_option maxRecDepth 20000 in
theorem pc_move_02 {c d : Nat → Int32} {A B : Nat → Nat → Int32} {nm : Nat} {x1 : Int32} {x2 : Int32} {x3 : Int32} {x4 : Int32} {x5 : Int32} (hR : rl c A d B nm) (hx1 : x1 = 0) (hx3 : x3 = 2) : wpX8_move x1 x2 x3 x4 x5 (A 36) (c 42) (c 43) (c 46) (c 47) (A 37) (A 39) (fun r8 u0 u1 => wpX9_move x1 x2 x3 x4 x5 (B 3) (B 11) (B 12) (B 13) (B 14) (fun r9 w0 w1 w2 => r8 = r9 ∧ rl c (va_up (va_up A 36 u0) 39 u1) d (va_up (va_up (va_up B 3 w0) 13 w1) 14 w2) nm)) := by
  subst hx1
  subst hx3
  obtain ⟨hw, hi, ht0, ht1, hm0, hm1, him, her, hv, hs0, hs1, hs2, hs3, hnm⟩ := id hR
  refine pg_move (k1 := 0) (k2 := 2) (K := fun r8 u0 u1 r9 w0 w1 w2 => r8 = r9 ∧ rl c (va_up (va_up A 36 u0) 39 u1) d (va_up (va_up (va_up B 3 w0) 13 w1) 14 w2) nm) (by decide) (by decide) hs0 hs2 (fun e he => ?_) (fun numbers' n' a' hs' ho => ?_)
  · exact ⟨rfl, hw, hi, ht0, ht1, hm0, hm1, him, er_up her (k := e) he, hv, hs0, hs1, hs2, hs3, hnm⟩
  · exact ⟨rfl, hw, hi, ht0, ht1, hm0, hm1, him, her, hv, rs_o hs0 (rfl) (rfl) (fun i h => ho _ (by omega)), rs_o hs1 (rfl) (rfl) (fun i h => ho _ (by omega)), hs', rs_o hs3 (rfl) (rfl) (fun i h => ho _ (by omega)), hnm⟩
set_option maxRecDepth 20000 in
theorem pc_move_03 {c d : Nat → Int32} {A B : Nat → Nat → Int32} {nm : Nat} {x1 : Int32} {x2 : Int32} {x3 : Int32} {x4 : Int32} {x5 : Int32} (hR : rl c A d B nm) (hx1 : x1 = 0) (hx3 : x3 = 3) : wpX8_move x1 x2 x3 x4 x5 (A 36) (c 42) (c 43) (c 48) (c 49) (A 37) (A 40) (fun r8 u0 u1 => wpX9_move x1 x2 x3 x4 x5 (B 3) (B 11) (B 12) (B 13) (B 14) (fun r9 w0 w1 w2 => r8 = r9 ∧ rl c (va_up (va_up A 36 u0) 40 u1) d (va_up (va_up (va_up B 3 w0) 13 w1) 14 w2) nm)) := by
  subst hx1
  subst hx3
  obtain ⟨hw, hi, ht0, ht1, hm0, hm1, him, her, hv, hs0, hs1, hs2, hs3, hnm⟩ := id hR
  refine pg_move (k1 := 0) (k2 := 3) (K := fun r8 u0 u1 r9 w0 w1 w2 => r8 = r9 ∧ rl c (va_up (va_up A 36 u0) 40 u1) d (va_up (va_up (va_up B 3 w0) 13 w1) 14 w2) nm) (by decide) (by decide) hs0 hs3 (fun e he => ?_) (fun numbers' n' a' hs' ho => ?_)
  · exact ⟨rfl, hw, hi, ht0, ht1, hm0, hm1, him, er_up her (k := e) he, hv, hs0, hs1, hs2, hs3, hnm⟩
  · exact ⟨rfl, hw, hi, ht0, ht1, hm0, hm1, him, her, hv, rs_o hs0 (rfl) (rfl) (fun i h => ho _ (by omega)), rs_o hs1 (rfl) (rfl) (fun i h => ho _ (by omega)), rs_o hs2 (rfl) (rfl) (fun i h => ho _ (by omega)), hs', hnm⟩
set_option maxRecDepth 20000 in
theorem pc_move_0o {c d : Nat → Int32} {A B : Nat → Nat → Int32} {nm : Nat} {x1 : Int32} {x2 : Int32} {x3 : Int32} {x4 : Int32} {x5 : Int32} (hR : rl c A d B nm) (hx1 : x1 = 0) (hx3 : ¬ vp_in x3 4) : wpX8_move x1 x2 x3 x4 x5 (A 36) (c 42) (c 43) (c 44) (c 45) (A 37) (A 38) (fun r8 u0 u1 => wpX9_move x1 x2 x3 x4 x5 (B 3) (B 11) (B 12) (B 13) (B 14) (fun r9 w0 w1 w2 => r8 = r9 ∧ rl c (va_up (va_up A 36 u0) 38 u1) d (va_up (va_up (va_up B 3 w0) 13 w1) 14 w2) nm)) := by
  subst hx1
  obtain ⟨hw, hi, ht0, ht1, hm0, hm1, him, her, hv, hs0, hs1, hs2, hs3, hnm⟩ := id hR
  refine pg_mo2 (k1 := 0) (K := fun r8 u0 u1 r9 w0 w1 w2 => r8 = r9 ∧ rl c (va_up (va_up A 36 u0) 38 u1) d (va_up (va_up (va_up B 3 w0) 13 w1) 14 w2) nm) (by decide) hx3 ?_
  exact ⟨rfl, hw, hi, ht0, ht1, hm0, hm1, him, er_up her (k := 1) (by decide), hv, hs0, hs1, hs2, hs3, hnm⟩
set_option maxRecDepth 20000 in
theorem pc_move_10 {c d : Nat → Int32} {A B : Nat → Nat → Int32} {nm : Nat} {x1 : Int32} {x2 : Int32} {x3 : Int32} {x4 : Int32} {x5 : Int32} (hR : rl c A d B nm) (hx1 : x1 = 1) (hx3 : x3 = 0) : wpX8_move x1 x2 x3 x4 x5 (A 36) (c 44) (c 45) (c 42) (c 43) (A 38) (A 37) (fun r8 u0 u1 => wpX9_move x1 x2 x3 x4 x5 (B 3) (B 11) (B 12) (B 13) (B 14) (fun r9 w0 w1 w2 => r8 = r9 ∧ rl c (va_up (va_up A 36 u0) 37 u1) d (va_up (va_up (va_up B 3 w0) 13 w1) 14 w2) nm)) := by
  subst hx1
  subst hx3
  obtain ⟨hw, hi, ht0, ht1, hm0, hm1, him, her, hv, hs0, hs1, hs2, hs3, hnm⟩ := id hR
  refine pg_move (k1 := 1) (k2 := 0) (K := fun r8 u0 u1 r9 w0 w1 w2 => r8 = r9 ∧ rl c (va_up (va_up A 36 u0) 37 u1) d (va_up (va_up (va_up B 3 w0) 13 w1) 14 w2) nm) (by decide) (by decide) hs1 hs0 (fun e he => ?_) (fun numbers' n' a' hs' ho => ?_)
  · exact ⟨rfl, hw, hi, ht0, ht1, hm0, hm1, him, er_up her (k := e) he, hv, hs0, hs1, hs2, hs3, hnm⟩
  · exact ⟨rfl, hw, hi, ht0, ht1, hm0, hm1, him, her, hv, hs', rs_o hs1 (rfl) (rfl) (fun i h => ho _ (by omega)), rs_o hs2 (rfl) (rfl) (fun i h => ho _ (by omega)), rs_o hs3 (rfl) (rfl) (fun i h => ho _ (by omega)), hnm⟩
set_option maxRecDepth 20000 in
theorem pc_move_11 {c d : Nat → Int32} {A B : Nat → Nat → Int32} {nm : Nat} {x1 : Int32} {x2 : Int32} {x3 : Int32} {x4 : Int32} {x5 : Int32} (hR : rl c A d B nm) (hx1 : x1 = 1) (hx3 : x3 = 1) : wpX8_moveA x1 x2 x3 x4 x5 (A 36) (c 44) (c 45) (A 38) (fun r8 u0 u1 => wpX9_move x1 x2 x3 x4 x5 (B 3) (B 11) (B 12) (B 13) (B 14) (fun r9 w0 w1 w2 => r8 = r9 ∧ rl c (va_up (va_up A 36 u0) 38 u1) d (va_up (va_up (va_up B 3 w0) 13 w1) 14 w2) nm)) := by
  subst hx1
  subst hx3
  obtain ⟨hw, hi, ht0, ht1, hm0, hm1, him, her, hv, hs0, hs1, hs2, hs3, hnm⟩ := id hR
  refine pg_move (k1 := 1) (k2 := 1) (K := fun r8 u0 u1 r9 w0 w1 w2 => r8 = r9 ∧ rl c (va_up (va_up A 36 u0) 38 u1) d (va_up (va_up (va_up B 3 w0) 13 w1) 14 w2) nm) (by decide) (by decide) hs1 hs1 (fun e he => ?_) (fun numbers' n' a' hs' ho => ?_)
  · exact ⟨rfl, hw, hi, ht0, ht1, hm0, hm1, him, er_up her (k := e) he, hv, hs0, hs1, hs2, hs3, hnm⟩
  · exact ⟨rfl, hw, hi, ht0, ht1, hm0, hm1, him, her, hv, rs_o hs0 (rfl) (rfl) (fun i h => ho _ (by omega)), hs', rs_o hs2 (rfl) (rfl) (fun i h => ho _ (by omega)), rs_o hs3 (rfl) (rfl) (fun i h => ho _ (by omega)), hnm⟩
set_option maxRecDepth 20000 in
theorem pc_move_12 {c d : Nat → Int32} {A B : Nat → Nat → Int32} {nm : Nat} {x1 : Int32} {x2 : Int32} {x3 : Int32} {x4 : Int32} {x5 : Int32} (hR : rl c A d B nm) (hx1 : x1 = 1) (hx3 : x3 = 2) : wpX8_move x1 x2 x3 x4 x5 (A 36) (c 44) (c 45) (c 46) (c 47) (A 38) (A 39) (fun r8 u0 u1 => wpX9_move x1 x2 x3 x4 x5 (B 3) (B 11) (B 12) (B 13) (B 14) (fun r9 w0 w1 w2 => r8 = r9 ∧ rl c (va_up (va_up A 36 u0) 39 u1) d (va_up (va_up (va_up B 3 w0) 13 w1) 14 w2) nm)) := by
  subst hx1
  subst hx3
  obtain ⟨hw, hi, ht0, ht1, hm0, hm1, him, her, hv, hs0, hs1, hs2, hs3, hnm⟩ := id hR
  refine pg_move (k1 := 1) (k2 := 2) (K := fun r8 u0 u1 r9 w0 w1 w2 => r8 = r9 ∧ rl c (va_up (va_up A 36 u0) 39 u1) d (va_up (va_up (va_up B 3 w0) 13 w1) 14 w2) nm) (by decide) (by decide) hs1 hs2 (fun e he => ?_) (fun numbers' n' a' hs' ho => ?_)
  · exact ⟨rfl, hw, hi, ht0, ht1, hm0, hm1, him, er_up her (k := e) he, hv, hs0, hs1, hs2, hs3, hnm⟩
  · exact ⟨rfl, hw, hi, ht0, ht1, hm0, hm1, him, her, hv, rs_o hs0 (rfl) (rfl) (fun i h => ho _ (by omega)), rs_o hs1 (rfl) (rfl) (fun i h => ho _ (by omega)), hs', rs_o hs3 (rfl) (rfl) (fun i h => ho _ (by omega)), hnm⟩
set_option maxRecDepth 20000 in
theorem pc_move_13 {c d : Nat → Int32} {A B : Nat → Nat → Int32} {nm : Nat} {x1 : Int32} {x2 : Int32} {x3 : Int32} {x4 : Int32} {x5 : Int32} (hR : rl c A d B nm) (hx1 : x1 = 1) (hx3 : x3 = 3) : wpX8_move x1 x2 x3 x4 x5 (A 36) (c 44) (c 45) (c 48) (c 49) (A 38) (A 40) (fun r8 u0 u1 => wpX9_move x1 x2 x3 x4 x5 (B 3) (B 11) (B 12) (B 13) (B 14) (fun r9 w0 w1 w2 => r8 = r9 ∧ rl c (va_up (va_up A 36 u0) 40 u1) d (va_up (va_up (va_up B 3 w0) 13 w1) 14 w2) nm)) := by
  subst hx1
  subst hx3
  obtain ⟨hw, hi, ht0, ht1, hm0, hm1, him, her, hv, hs0, hs1, hs2, hs3, hnm⟩ := id hR
  refine pg_move (k1 := 1) (k2 := 3) (K := fun r8 u0 u1 r9 w0 w1 w2 => r8 = r9 ∧ rl c (va_up (va_up A 36 u0) 40 u1) d (va_up (va_up (va_up B 3 w0) 13 w1) 14 w2) nm) (by decide) (by decide) hs1 hs3 (fun e he => ?_) (fun numbers' n' a' hs' ho => ?_)
  · exact ⟨rfl, hw, hi, ht0, ht1, hm0, hm1, him, er_up her (k := e) he, hv, hs0, hs1, hs2, hs3, hnm⟩
  · exact ⟨rfl, hw, hi, ht0, ht1, hm0, hm1, him, her, hv, rs_o hs0 (rfl) (rfl) (fun i h => ho _ (by omega)), rs_o hs1 (rfl) (rfl) (fun i h => ho _ (by omega)), rs_o hs2 (rfl) (rfl) (fun i h => ho _ (by omega)), hs', hnm⟩
set_option maxRecDepth 20000 in
theorem pc_move_1o {c d : Nat → Int32} {A B : Nat → Nat → Int32} {nm : Nat} {x1 : Int32} {x2 : Int32} {x3 : Int32} {x4 : Int32} {x5 : Int32} (hR : rl c A d B nm) (hx1 : x1 = 1) (hx3 : ¬ vp_in x3 4) : wpX8_move x1 x2 x3 x4 x5 (A 36) (c 44) (c 45) (c 42) (c 43) (A 38) (A 37) (fun r8 u0 u1 => wpX9_move x1 x2 x3 x4 x5 (B 3) (B 11) (B 12) (B 13) (B 14) (fun r9 w0 w1 w2 => r8 = r9 ∧ rl c (va_up (va_up A 36 u0) 37 u1) d (va_up (va_up (va_up B 3 w0) 13 w1) 14 w2) nm)) := by
  subst hx1
  obtain ⟨hw, hi, ht0, ht1, hm0, hm1, him, her, hv, hs0, hs1, hs2, hs3, hnm⟩ := id hR
  refine pg_mo2 (k1 := 1) (K := fun r8 u0 u1 r9 w0 w1 w2 => r8 = r9 ∧ rl c (va_up (va_up A 36 u0) 37 u1) d (va_up (va_up (va_up B 3 w0) 13 w1) 14 w2) nm) (by decide) hx3 ?_
  exact ⟨rfl, hw, hi, ht0, ht1, hm0, hm1, him, er_up her (k := 1) (by decide), hv, hs0, hs1, hs2, hs3, hnm⟩
set_option maxRecDepth 20000 in
theorem pc_move_20 {c d : Nat → Int32} {A B : Nat → Nat → Int32} {nm : Nat} {x1 : Int32} {x2 : Int32} {x3 : Int32} {x4 : Int32} {x5 : Int32} (hR : rl c A d B nm) (hx1 : x1 = 2) (hx3 : x3 = 0) : wpX8_move x1 x2 x3 x4 x5 (A 36) (c 46) (c 47) (c 42) (c 43) (A 39) (A 37) (fun r8 u0 u1 => wpX9_move x1 x2 x3 x4 x5 (B 3) (B 11) (B 12) (B 13) (B 14) (fun r9 w0 w1 w2 => r8 = r9 ∧ rl c (va_up (va_up A 36 u0) 37 u1) d (va_up (va_up (va_up B 3 w0) 13 w1) 14 w2) nm)) := by
  subst hx1
  subst hx3
  obtain ⟨hw, hi, ht0, ht1, hm0, hm1, him, her, hv, hs0, hs1, hs2, hs3, hnm⟩ := id hR
  refine pg_move (k1 := 2) (k2 := 0) (K := fun r8 u0 u1 r9 w0 w1 w2 => r8 = r9 ∧ rl c (va_up (va_up A 36 u0) 37 u1) d (va_up (va_up (va_up B 3 w0) 13 w1) 14 w2) nm) (by decide) (by decide) hs2 hs0 (fun e he => ?_) (fun numbers' n' a' hs' ho => ?_)
  · exact ⟨rfl, hw, hi, ht0, ht1, hm0, hm1, him, er_up her (k := e) he, hv, hs0, hs1, hs2, hs3, hnm⟩
  · exact ⟨rfl, hw, hi, ht0, ht1, hm0, hm1, him, her, hv, hs', rs_o hs1 (rfl) (rfl) (fun i h => ho _ (by omega)), rs_o hs2 (rfl) (rfl) (fun i h => ho _ (by omega)), rs_o hs3 (rfl) (rfl) (fun i h => ho _ (by omega)), hnm⟩
set_option maxRecDepth 20000 in
theorem pc_move_21 {c d : Nat → Int32} {A B : Nat → Nat → Int32} {nm : Nat} {x1 : Int32} {x2 : Int32} {x3 : Int32} {x4 : Int32} {x5 : Int32} (hR : rl c A d B nm) (hx1 : x1 = 2) (hx3 : x3 = 1) : wpX8_move x1 x2 x3 x4 x5 (A 36) (c 46) (c 47) (c 44) (c 45) (A 39) (A 38) (fun r8 u0 u1 => wpX9_move x1 x2 x3 x4 x5 (B 3) (B 11) (B 12) (B 13) (B 14) (fun r9 w0 w1 w2 => r8 = r9 ∧ rl c (va_up (va_up A 36 u0) 38 u1) d (va_up (va_up (va_up B 3 w0) 13 w1) 14 w2) nm)) := by
  subst hx1
  subst hx3
  obtain ⟨hw, hi, ht0, ht1, hm0, hm1, him, her, hv, hs0, hs1, hs2, hs3, hnm⟩ := id hR
  refine pg_move (k1 := 2) (k2 := 1) (K := fun r8 u0 u1 r9 w0 w1 w2 => r8 = r9 ∧ rl c (va_up (va_up A 36 u0) 38 u1) d (va_up (va_up (va_up B 3 w0) 13 w1) 14 w2) nm) (by decide) (by decide) hs2 hs1 (fun e he => ?_) (fun numbers' n' a' hs' ho => ?_)
  · exact ⟨rfl, hw, hi, ht0, ht1, hm0, hm1, him, er_up her (k := e) he, hv, hs0, hs1, hs2, hs3, hnm⟩
  · exact ⟨rfl, hw, hi, ht0, ht1, hm0, hm1, him, her, hv, rs_o hs0 (rfl) (rfl) (fun i h => ho _ (by omega)), hs', rs_o hs2 (rfl) (rfl) (fun i h => ho _ (by omega)), rs_o hs3 (rfl) (rfl) (fun i h => ho _ (by omega)), hnm⟩
set_option maxRecDepth 20000 in
theorem pc_move_22 {c d : Nat → Int32} {A B : Nat → Nat → Int32} {nm : Nat} {x1 : Int32} {x2 : Int32} {x3 : Int32} {x4 : Int32} {x5 : Int32} (hR : rl c A d B nm) (hx1 : x1 = 2) (hx3 : x3 = 2) : wpX8_moveA x1 x2 x3 x4 x5 (A 36) (c 46) (c 47) (A 39) (fun r8 u0 u1 => wpX9_move x1 x2 x3 x4 x5 (B 3) (B 11) (B 12) (B 13) (B 14) (fun r9 w0 w1 w2 => r8 = r9 ∧ rl c (va_up (va_up A 36 u0) 39 u1) d (va_up (va_up (va_up B 3 w0) 13 w1) 14 w2) nm)) := by
  subst hx1
  subst hx3
  obtain ⟨hw, hi, ht0, ht1, hm0, hm1, him, her, hv, hs0, hs1, hs2, hs3, hnm⟩ := id hR
  refine pg_move (k1 := 2) (k2 := 2) (K := fun r8 u0 u1 r9 w0 w1 w2 => r8 = r9 ∧ rl c (va_up (va_up A 36 u0) 39 u1) d (va_up (va_up (va_up B 3 w0) 13 w1) 14 w2) nm) (by decide) (by decide) hs2 hs2 (fun e he => ?_) (fun numbers' n' a' hs' ho => ?_)
  · exact ⟨rfl, hw, hi, ht0, ht1, hm0, hm1, him, er_up her (k := e) he, hv, hs0, hs1, hs2, hs3, hnm⟩
  · exact ⟨rfl, hw, hi, ht0, ht1, hm0, hm1, him, her, hv, rs_o hs0 (rfl) (rfl) (fun i h => ho _ (by omega)), rs_o hs1 (rfl) (rfl) (fun i h => ho _ (by omega)), hs', rs_o hs3 (rfl) (rfl) (fun i h => ho _ (by omega)), hnm⟩
set_option maxRecDepth 20000 in
theorem pc_move_23 {c d : Nat → Int32} {A B : Nat → Nat → Int32} {nm : Nat} {x1 : Int32} {x2 : Int32} {x3 : Int32} {x4 : Int32} {x5 : Int32} (hR : rl c A d B nm) (hx1 : x1 = 2) (hx3 : x3 = 3) : wpX8_move x1 x2 x3 x4 x5 (A 36) (c 46) (c 47) (c 48) (c 49) (A 39) (A 40) (fun r8 u0 u1 => wpX9_move x1 x2 x3 x4 x5 (B 3) (B 11) (B 12) (B 13) (B 14) (fun r9 w0 w1 w2 => r8 = r9 ∧ rl c (va_up (va_up A 36 u0) 40 u1) d (va_up (va_up (va_up B 3 w0) 13 w1) 14 w2) nm)) := by
  subst hx1
  subst hx3
  obtain ⟨hw, hi, ht0, ht1, hm0, hm1, him, her, hv, hs0, hs1, hs2, hs3, hnm⟩ := id hR
  refine pg_move (k1 := 2) (k2 := 3) (K := fun r8 u0 u1 r9 w0 w1 w2 => r8 = r9 ∧ rl c (va_up (va_up A 36 u0) 40 u1) d (va_up (va_up (va_up B 3 w0) 13 w1) 14 w2) nm) (by decide) (by decide) hs2 hs3 (fun e he => ?_) (fun numbers' n' a' hs' ho => ?_)
  · exact ⟨rfl, hw, hi, ht0, ht1, hm0, hm1, him, er_up her (k := e) he, hv, hs0, hs1, hs2, hs3, hnm⟩
  · exact ⟨rfl, hw, hi, ht0, ht1, hm0, hm1, him, her, hv, rs_o hs0 (rfl) (rfl) (fun i h => ho _ (by omega)), rs_o hs1 (rfl) (rfl) (fun i h => ho _ (by omega)), rs_o hs2 (rfl) (rfl) (fun i h => ho _ (by omega)), hs', hnm⟩
set_option maxRecDepth 20000 in
theorem pc_move_2o {c d : Nat → Int32} {A B : Nat → Nat → Int32} {nm : Nat} {x1 : Int32} {x2 : Int32} {x3 : Int32} {x4 : Int32} {x5 : Int32} (hR : rl c A d B nm) (hx1 : x1 = 2) (hx3 : ¬ vp_in x3 4) : wpX8_move x1 x2 x3 x4 x5 (A 36) (c 46) (c 47) (c 42) (c 43) (A 39) (A 37) (fun r8 u0 u1 => wpX9_move x1 x2 x3 x4 x5 (B 3) (B 11) (B 12) (B 13) (B 14) (fun r9 w0 w1 w2 => r8 = r9 ∧ rl c (va_up (va_up A 36 u0) 37 u1) d (va_up (va_up (va_up B 3 w0) 13 w1) 14 w2) nm)) := by
  subst hx1
  obtain ⟨hw, hi, ht0, ht1, hm0, hm1, him, her, hv, hs0, hs1, hs2, hs3, hnm⟩ := id hR
  refine pg_mo2 (k1 := 2) (K := fun r8 u0 u1 r9 w0 w1 w2 => r8 = r9 ∧ rl c (va_up (va_up A 36 u0) 37 u1) d (va_up (va_up (va_up B 3 w0) 13 w1) 14 w2) nm) (by decide) hx3 ?_
  exact ⟨rfl, hw, hi, ht0, ht1, hm0, hm1, him, er_up her (k := 1) (by decide), hv, hs0, hs1, hs2, hs3, hnm⟩
set_option maxRecDepth 20000 in
theorem pc_move_30 {c d : Nat → Int32} {A B : Nat → Nat → Int32} {nm : Nat} {x1 : Int32} {x2 : Int32} {x3 : Int32} {x4 : Int32} {x5 : Int32} (hR : rl c A d B nm) (hx1 : x1 = 3) (hx3 : x3 = 0) : wpX8_move x1 x2 x3 x4 x5 (A 36) (c 48) (c 49) (c 42) (c 43) (A 40) (A 37) (fun r8 u0 u1 => wpX9_move x1 x2 x3 x4 x5 (B 3) (B 11) (B 12) (B 13) (B 14) (fun r9 w0 w1 w2 => r8 = r9 ∧ rl c (va_up (va_up A 36 u0) 37 u1) d (va_up (va_up (va_up B 3 w0) 13 w1) 14 w2) nm)) := by
  subst hx1
  subst hx3
  obtain ⟨hw, hi, ht0, ht1, hm0, hm1, him, her, hv, hs0, hs1, hs2, hs3, hnm⟩ := id hR
  refine pg_move (k1 := 3) (k2 := 0) (K := fun r8 u0 u1 r9 w0 w1 w2 => r8 = r9 ∧ rl c (va_up (va_up A 36 u0) 37 u1) d (va_up (va_up (va_up B 3 w0) 13 w1) 14 w2) nm) (by decide) (by decide) hs3 hs0 (fun e he => ?_) (fun numbers' n' a' hs' ho => ?_)
  · exact ⟨rfl, hw, hi, ht0, ht1, hm0, hm1, him, er_up her (k := e) he, hv, hs0, hs1, hs2, hs3, hnm⟩
  · exact ⟨rfl, hw, hi, ht0, ht1, hm0, hm1, him, her, hv, hs', rs_o hs1 (rfl) (rfl) (fun i h => ho _ (by omega)), rs_o hs2 (rfl) (rfl) (fun i h => ho _ (by omega)), rs_o hs3 (rfl) (rfl) (fun i h => ho _ (by omega)), hnm⟩
set_option maxRecDepth 20000 in
theorem pc_move_31 {c d : Nat → Int32} {A B : Nat → Nat → Int32} {nm : Nat} {x1 : Int32} {x2 : Int32} {x3 : Int32} {x4 : Int32} {x5 : Int32} (hR : rl c A d B nm) (hx1 : x1 = 3) (hx3 : x3 = 1) : wpX8_move x1 x2 x3 x4 x5 (A 36) (c 48) (c 49) (c 44) (c 45) (A 40) (A 38) (fun r8 u0 u1 => wpX9_move x1 x2 x3 x4 x5 (B 3) (B 11) (B 12) (B 13) (B 14) (fun r9 w0 w1 w2 => r8 = r9 ∧ rl c (va_up (va_up A 36 u0) 38 u1) d (va_up (va_up (va_up B 3 w0) 13 w1) 14 w2) nm)) := by
  subst hx1
  subst hx3
  obtain ⟨hw, hi, ht0, ht1, hm0, hm1, him, her, hv, hs0, hs1, hs2, hs3, hnm⟩ := id hR
  refine pg_move (k1 := 3) (k2 := 1) (K := fun r8 u0 u1 r9 w0 w1 w2 => r8 = r9 ∧ rl c (va_up (va_up A 36 u0) 38 u1) d (va_up (va_up (va_up B 3 w0) 13 w1) 14 w2) nm) (by decide) (by decide) hs3 hs1 (fun e he => ?_) (fun numbers' n' a' hs' ho => ?_)
  · exact ⟨rfl, hw, hi, ht0, ht1, hm0, hm1, him, er_up her (k := e) he, hv, hs0, hs1, hs2, hs3, hnm⟩
  · exact ⟨rfl, hw, hi, ht0, ht1, hm0, hm1, him, her, hv, rs_o hs0 (rfl) (rfl) (fun i h => ho _ (by omega)), hs', rs_o hs2 (rfl) (rfl) (fun i h => ho _ (by omega)), rs_o hs3 (rfl) (rfl) (fun i h => ho _ (by omega)), hnm⟩
set_option maxRecDepth 20000 in
theorem pc_move_32 {c d : Nat → Int32} {A B : Nat → Nat → Int32} {nm : Nat} {x1 : Int32} {x2 : Int32} {x3 : Int32} {x4 : Int32} {x5 : Int32} (hR : rl c A d B nm) (hx1 : x1 = 3) (hx3 : x3 = 2) : wpX8_move x1 x2 x3 x4 x5 (A 36) (c 48) (c 49) (c 46) (c 47) (A 40) (A 39) (fun r8 u0 u1 => wpX9_move x1 x2 x3 x4 x5 (B 3) (B 11) (B 12) (B 13) (B 14) (fun r9 w0 w1 w2 => r8 = r9 ∧ rl c (va_up (va_up A 36 u0) 39 u1) d (va_up (va_up (va_up B 3 w0) 13 w1) 14 w2) nm)) := by
  subst hx1
  subst hx3
  obtain ⟨hw, hi, ht0, ht1, hm0, hm1, him, her, hv, hs0, hs1, hs2, hs3, hnm⟩ := id hR
  refine pg_move (k1 := 3) (k2 := 2) (K := fun r8 u0 u1 r9 w0 w1 w2 => r8 = r9 ∧ rl c (va_up (va_up A 36 u0) 39 u1) d (va_up (va_up (va_up B 3 w0) 13 w1) 14 w2) nm) (by decide) (by decide) hs3 hs2 (fun e he => ?_) (fun numbers' n' a' hs' ho => ?_)
  · exact ⟨rfl, hw, hi, ht0, ht1, hm0, hm1, him, er_up her (k := e) he, hv, hs0, hs1, hs2, hs3, hnm⟩
  · exact ⟨rfl, hw, hi, ht0, ht1, hm0, hm1, him, her, hv, rs_o hs0 (rfl) (rfl) (fun i h => ho _ (by omega)), rs_o hs1 (rfl) (rfl) (fun i h => ho _ (by omega)), hs', rs_o hs3 (rfl) (rfl) (fun i h => ho _ (by omega)), hnm⟩
set_option maxRecDepth 20000 in
theorem pc_move_33 {c d : Nat → Int32} {A B : Nat → Nat → Int32} {nm : Nat} {x1 : Int32} {x2 : Int32} {x3 : Int32} {x4 : Int32} {x5 : Int32} (hR : rl c A d B nm) (hx1 : x1 = 3) (hx3 : x3 = 3) : wpX8_moveA x1 x2 x3 x4 x5 (A 36) (c 48) (c 49) (A 40) (fun r8 u0 u1 => wpX9_move x1 x2 x3 x4 x5 (B 3) (B 11) (B 12) (B 13) (B 14) (fun r9 w0 w1 w2 => r8 = r9 ∧ rl c (va_up (va_up A 36 u0) 40 u1) d (va_up (va_up (va_up B 3 w0) 13 w1) 14 w2) nm)) := by
  subst hx1
  subst hx3
  obtain ⟨hw, hi, ht0, ht1, hm0, hm1, him, her, hv, hs0, hs1, hs2, hs3, hnm⟩ := id hR
  refine pg_move (k1 := 3) (k2 := 3) (K := fun r8 u0 u1 r9 w0 w1 w2 => r8 = r9 ∧ rl c (va_up (va_up A 36 u0) 40 u1) d (va_up (va_up (va_up B 3 w0) 13 w1) 14 w2) nm) (by decide) (by decide) hs3 hs3 (fun e he => ?_) (fun numbers' n' a' hs' ho => ?_)
  · exact ⟨rfl, hw, hi, ht0, ht1, hm0, hm1, him, er_up her (k := e) he, hv, hs0, hs1, hs2, hs3, hnm⟩
  · exact ⟨rfl, hw, hi, ht0, ht1, hm0, hm1, him, her, hv, rs_o hs0 (rfl) (rfl) (fun i h => ho _ (by omega)), rs_o hs1 (rfl) (rfl) (fun i h => ho _ (by omega)), rs_o hs2 (rfl) (rfl) (fun i h => ho _ (by omega)), hs', hnm⟩
set_option maxRecDepth 20000 in
theorem pc_move_3o {c d : Nat → Int32} {A B : Nat → Nat → Int32} {nm : Nat} {x1 : Int32} {x2 : Int32} {x3 : Int32} {x4 : Int32} {x5 : Int32} (hR : rl c A d B nm) (hx1 : x1 = 3) (hx3 : ¬ vp_in x3 4) : wpX8_move x1 x2 x3 x4 x5 (A 36) (c 48) (c 49) (c 42) (c 43) (A 40) (A 37) (fun r8 u0 u1 => wpX9_move x1 x2 x3 x4 x5 (B 3) (B 11) (B 12) (B 13) (B 14) (fun r9 w0 w1 w2 => r8 = r9 ∧ rl c (va_up (va_up A 36 u0) 37 u1) d (va_up (va_up (va_up B 3 w0) 13 w1) 14 w2) nm)) := by
  subst hx1
  obtain ⟨hw, hi, ht0, ht1, hm0, hm1, him, her, hv, hs0, hs1, hs2, hs3, hnm⟩ := id hR
  refine pg_mo2 (k1 := 3) (K := fun r8 u0 u1 r9 w0 w1 w2 => r8 = r9 ∧ rl c (va_up (va_up A 36 u0) 37 u1) d (va_up (va_up (va_up B 3 w0) 13 w1) 14 w2) nm) (by decide) hx3 ?_
  exact ⟨rfl, hw, hi, ht0, ht1, hm0, hm1, him, er_up her (k := 1) (by decide), hv, hs0, hs1, hs2, hs3, hnm⟩
set_option maxRecDepth 20000 in
theorem pc_move_o0 {c d : Nat → Int32} {A B : Nat → Nat → Int32} {nm : Nat} {x1 : Int32} {x2 : Int32} {x3 : Int32} {x4 : Int32} {x5 : Int32} (hR : rl c A d B nm) (hx1 : ¬ vp_in x1 4) (hx3 : x3 = 0) : wpX8_move x1 x2 x3 x4 x5 (A 36) (c 44) (c 45) (c 42) (c 43) (A 38) (A 37) (fun r8 u0 u1 => wpX9_move x1 x2 x3 x4 x5 (B 3) (B 11) (B 12) (B 13) (B 14) (fun r9 w0 w1 w2 => r8 = r9 ∧ rl c (va_up (va_up A 36 u0) 37 u1) d (va_up (va_up (va_up B 3 w0) 13 w1) 14 w2) nm)) := by
  subst hx3
  obtain ⟨hw, hi, ht0, ht1, hm0, hm1, him, her, hv, hs0, hs1, hs2, hs3, hnm⟩ := id hR
  refine pg_mo1 (K := fun r8 u0 u1 r9 w0 w1 w2 => r8 = r9 ∧ rl c (va_up (va_up A 36 u0) 37 u1) d (va_up (va_up (va_up B 3 w0) 13 w1) 14 w2) nm) hx1 ?_
  exact ⟨rfl, hw, hi, ht0, ht1, hm0, hm1, him, er_up her (k := 1) (by decide), hv, hs0, hs1, hs2, hs3, hnm⟩
set_option maxRecDepth 20000 in
theorem pc_move_o1 {c d : Nat → Int32} {A B : Nat → Nat → Int32} {nm : Nat} {x1 : Int32} {x2 : Int32} {x3 : Int32} {x4 : Int32} {x5 : Int32} (hR : rl c A d B nm) (hx1 : ¬ vp_in x1 4) (hx3 : x3 = 1) : wpX8_move x1 x2 x3 x4 x5 (A 36) (c 42) (c 43) (c 44) (c 45) (A 37) (A 38) (fun r8 u0 u1 => wpX9_move x1 x2 x3 x4 x5 (B 3) (B 11) (B 12) (B 13) (B 14) (fun r9 w0 w1 w2 => r8 = r9 ∧ rl c (va_up (va_up A 36 u0) 38 u1) d (va_up (va_up (va_up B 3 w0) 13 w1) 14 w2) nm)) := by
  subst hx3
  obtain ⟨hw, hi, ht0, ht1, hm0, hm1, him, her, hv, hs0, hs1, hs2, hs3, hnm⟩ := id hR
  refine pg_mo1 (K := fun r8 u0 u1 r9 w0 w1 w2 => r8 = r9 ∧ rl c (va_up (va_up A 36 u0) 38 u1) d (va_up (va_up (va_up B 3 w0) 13 w1) 14 w2) nm) hx1 ?_
  exact ⟨rfl, hw, hi, ht0, ht1, hm0, hm1, him, er_up her (k := 1) (by decide), hv, hs0, hs1, hs2, hs3, hnm⟩
set_option maxRecDepth 20000 in
theorem pc_move_o2 {c d : Nat → Int32} {A B : Nat → Nat → Int32} {nm : Nat} {x1 : Int32} {x2 : Int32} {x3 : Int32} {x4 : Int32} {x5 : Int32} (hR : rl c A d B nm) (hx1 : ¬ vp_in x1 4) (hx3 : x3 = 2) : wpX8_move x1 x2 x3 x4 x5 (A 36) (c 42) (c 43) (c 46) (c 47) (A 37) (A 39) (fun r8 u0 u1 => wpX9_move x1 x2 x3 x4 x5 (B 3) (B 11) (B 12) (B 13) (B 14) (fun r9 w0 w1 w2 => r8 = r9 ∧ rl c (va_up (va_up A 36 u0) 39 u1) d (va_up (va_up (va_up B 3 w0) 13 w1) 14 w2) nm)) := by
  subst hx3
  obtain ⟨hw, hi, ht0, ht1, hm0, hm1, him, her, hv, hs0, hs1, hs2, hs3, hnm⟩ := id hR
  refine pg_mo1 (K := fun r8 u0 u1 r9 w0 w1 w2 => r8 = r9 ∧ rl c (va_up (va_up A 36 u0) 39 u1) d (va_up (va_up (va_up B 3 w0) 13 w1) 14 w2) nm) hx1 ?_
  exact ⟨rfl, hw, hi, ht0, ht1, hm0, hm1, him, er_up her (k := 1) (by decide), hv, hs0, hs1, hs2, hs3, hnm⟩
set_option maxRecDepth 20000 in
theorem pc_move_o3 {c d : Nat → Int32} {A B : Nat → Nat → Int32} {nm : Nat} {x1 : Int32} {x2 : Int32} {x3 : Int32} {x4 : Int32} {x5 : Int32} (hR : rl c A d B nm) (hx1 : ¬ vp_in x1 4) (hx3 : x3 = 3) : wpX8_move x1 x2 x3 x4 x5 (A 36) (c 42) (c 43) (c 48) (c 49) (A 37) (A 40) (fun r8 u0 u1 => wpX9_move x1 x2 x3 x4 x5 (B 3) (B 11) (B 12) (B 13) (B 14) (fun r9 w0 w1 w2 => r8 = r9 ∧ rl c (va_up (va_up A 36 u0) 40 u1) d (va_up (va_up (va_up B 3 w0) 13 w1) 14 w2) nm)) := by
  subst hx3
  obtain ⟨hw, hi, ht0, ht1, hm0, hm1, him, her, hv, hs0, hs1, hs2, hs3, hnm⟩ := id hR
  refine pg_mo1 (K := fun r8 u0 u1 r9 w0 w1 w2 => r8 = r9 ∧ rl c (va_up (va_up A 36 u0) 40 u1) d (va_up (va_up (va_up B 3 w0) 13 w1) 14 w2) nm) hx1 ?_
  exact ⟨rfl, hw, hi, ht0, ht1, hm0, hm1, him, er_up her (k := 1) (by decide), hv, hs0, hs1, hs2, hs3, hnm⟩
set_option maxRecDepth 20000 in
theorem pc_move_oo {c d : Nat → Int32} {A B : Nat → Nat → Int32} {nm : Nat} {x1 : Int32} {x2 : Int32} {x3 : Int32} {x4 : Int32} {x5 : Int32} (hR : rl c A d B nm) (hx1 : ¬ vp_in x1 4) (hx3 : ¬ vp_in x3 4) : wpX8_move x1 x2 x3 x4 x5 (A 36) (c 42) (c 43) (c 44) (c 45) (A 37) (A 38) (fun r8 u0 u1 => wpX9_move x1 x2 x3 x4 x5 (B 3) (B 11) (B 12) (B 13) (B 14) (fun r9 w0 w1 w2 => r8 = r9 ∧ rl c (va_up (va_up A 36 u0) 38 u1) d (va_up (va_up (va_up B 3 w0) 13 w1) 14 w2) nm)) := by
  obtain ⟨hw, hi, ht0, ht1, hm0, hm1, him, her, hv, hs0, hs1, hs2, hs3, hnm⟩ := id hR
  refine pg_mo1 (K := fun r8 u0 u1 r9 w0 w1 w2 => r8 = r9 ∧ rl c (va_up (va_up A 36 u0) 38 u1) d (va_up (va_up (va_up B 3 w0) 13 w1) 14 w2) nm) hx1 ?_
  exact ⟨rfl, hw, hi, ht0, ht1, hm0, hm1, him, er_up her (k := 1) (by decide), hv, hs0, hs1, hs2, hs3, hnm⟩

/-! images -/
theorem tn_st {st st' : Nat → Int32} : ∀ k, (∀ i, i < k → st' i = st i) → tx_n st' k = tx_n st k := by
  intro k
  induction k with
  | zero => intro _; rfl
  | succ k ih =>
    intro h
    rw [tx_n, tx_n, h k (by omega), ih (fun i hi => h i (by omega))]
theorem rt_st {u n : Nat} {st st' s : Nat → Int32} (hn : n ≤ 60) (h : rt u (nI n) st s) (hs : ∀ i, i < n → st' i = st i) : rt u (nI n) st' s := by
  obtain ⟨h1, h2, h3, h4⟩ := h
  rw [i_tn (by omega)] at h3 h4
  refine ⟨h1, h2, ?_, ?_⟩
  · rw [i_tn (by omega)]
    refine ⟨h3.1, fun q => by rw [tn_st n hs]; exact h3.2.1 q, fun k hk => ?_⟩
    rw [hs k hk, tn_st k (fun i hi => hs i (by omega))]
    exact h3.2.2 k hk
  · rw [i_tn (by omega)]
    intro k hk
    rw [hs k hk]
    exact h4 k hk
theorem tk0 {n : Nat} (hn : n ≤ 60) : (if (0 : Int32) < nI n then nI n else 0) = nI n := by
  by_cases h : n = 0
  · subst h
    rfl
  · exact if_pos (show nI 0 < nI n from nI_lt (by omega) (by omega))
theorem tk8 {n N : Nat} {w st mem : Nat → Int32} {len : Int32} {K : Int32 → (Nat → Int32) → (Nat → Int32) → Prop} (hn : n ≤ 60) (hN : N < 1000000) (hk : ∀ st' mem', (∀ i, i < n → st' i = w i) → (∀ i, i < N → mem' i = 0) → K (nI n) st' mem') : wpX1_take (nI n) w len st N mem K := by
  unfold wpX1_take
  rw [if_neg (show ¬ (60 : Nat) < 60 by decide), if_neg (show ¬ (60 : Int32) < nI n from (show ¬ nI 60 < nI n from nI_nlt hn (by decide))), tk0 hn, i_cl (show n < 2147483648 by omega), c_0]
  exact ⟨by decide, by decide, nI_pos (by omega), by omega, by omega, f_fill hN (fun z hz _ => hk _ _ (fun i hi => by rw [pk_cpy_in (by omega) (by omega)]; congr 1; omega) hz)⟩
theorem c_copy {wy wse wz wr wt ww r1 t1 w1 z1 y1 s1 l0 l1 : Int32} {wj wev wk wm wmk wtp wwt j1 ev1 k1 m1 mk1 tp1 wt1 wst0 wst1 st0 st1 mem0 mem1 s : Nat → Int32} {n0 n1 N0 N1 : Nat}
    {K : Int32 → Int32 → Int32 → Int32 → Int32 → Int32 → (Nat → Int32) → (Nat → Int32) → (Nat → Int32) → (Nat → Int32) → (Nat → Int32) → Int32 → (Nat → Int32) → (Nat → Int32) → Int32 → (Nat → Int32) → (Nat → Int32) → (Nat → Int32) → (Nat → Int32) → Prop}
    (hw : rw_ wy wse wz wr wt ww wj wev wk wm wmk wtp wwt s) (ht0 : rt 0 (nI n0) wst0 s) (ht1 : rt 1 (nI n1) wst1 s) (hn0 : n0 ≤ 60) (hn1 : n1 ≤ 60) (hN0 : N0 < 1000000) (hN1 : N1 < 1000000)
    (hk : ∀ j ev kd ms mk st0' mem0' st1' mem1' tp wt', rw_ wy wse wz wr wt ww j ev kd ms mk tp wt' s → rt 0 (nI n0) st0' s → rt 1 (nI n1) st1' s → (∀ i, i < N0 → mem0' i = 0) → (∀ i, i < N1 → mem1' i = 0) → K wr wt ww wz wy wse j ev kd ms mk (nI n0) st0' mem0' (nI n1) st1' mem1' tp wt') :
    wpX7_copyFrom r1 t1 w1 z1 wr wt ww wz wy wse y1 s1 wj j1 wev ev1 wk k1 wm m1 wmk mk1 (nI n0) wst0 l0 st0 N0 mem0 (nI n1) wst1 l1 st1 N1 mem1 wtp tp1 wwt wt1 K := by
  obtain ⟨e1, e2, e3, e4, e5, e6, ej0, ej1, hev, hkk, hmm, hmk, htp, htf, hwt⟩ := id hw
  have c6 : (6 : Int32).toNatClampNeg = 6 := by decide
  have c60 : (60 : Int32).toNatClampNeg = 60 := by decide
  have c24 : (24 : Int32).toNatClampNeg = 24 := by decide
  have cp : ∀ (f g : Nat → Int32) (n i : Nat), i < n → va_cpy f g 0 0 n i = f i := fun f g n i h => by rw [pk_cpy_in (by omega) (by omega)]; congr 1; omega
  unfold wpX7_copyFrom
  rw [c_0, c6, c60, c24]
  refine c_cp (fun j h0 h1 => ⟨by decide, by decide, by decide, by decide, by decide, by decide, by decide, by decide, by decide, by decide, by decide, by decide, by decide, by decide, by decide, by decide, by decide, by decide, by decide, by decide, tk8 hn0 hN0 (fun st0' mem0' a0 b0 => tk8 hn1 hN1 (fun st1' mem1' a1 b1 => ⟨by decide, by decide, by decide, by decide, by decide, fun i hi => by rw [Nat.zero_add]; exact htf i hi, by decide, by decide, by decide, by decide, by decide, ?_⟩))⟩)
  refine hk _ _ _ _ _ _ _ _ _ _ _ ⟨e1, e2, e3, e4, e5, e6, by rw [h0]; exact ej0, by rw [h1]; exact ej1, fun i hi => by rw [cp _ _ _ _ hi]; exact hev i hi, fun i hi => by rw [cp _ _ _ _ hi]; exact hkk i hi, fun i hi => by rw [cp _ _ _ _ hi]; exact hmm i hi, fun i hi => by rw [cp _ _ _ _ hi]; exact hmk i hi, fun i hi => by rw [cp _ _ _ _ hi]; exact htp i hi, fun i hi => by rw [cp _ _ _ _ hi]; exact htf i hi, fun i hi => by rw [cp _ _ _ _ hi]; exact hwt i hi⟩ (rt_st hn0 ht0 a0) (rt_st hn1 ht1 a1) b0 b1
theorem ca9l {w f : Nat → Int32} {K : (Nat → Int32) → Prop} (hk : ∀ z : Nat → Int32, (∀ i, i < 366 → z i = w i) → K z) : ∀ (m k : Nat) (z : Nat → Int32), k + m = 366 → (∀ i, i < k → z i = w i) → wpX9_copyAll_L2 (m + 1) (nI k) w z K := by
  intro m
  induction m with
  | zero =>
    intro k z h hz
    have e : k = 366 := by omega
    subst e
    rw [wpX9_copyAll_L2]
    exact br_t (by decide) (hk z hz)
  | succ m ih =>
    intro k z h hz
    rw [wpX9_copyAll_L2]
    refine br_f (show ¬ nI 366 ≤ nI k from nI_ge (by omega) (by decide)) ⟨vp_in_nI (by omega) (by decide), vp_in_nI (by omega) (by decide), ?_⟩
    rw [i_cl (show k < 2147483648 by omega), nI_1]
    refine ih (k + 1) _ (by omega) (fun i hi => ?_)
    by_cases e : i = k
    · subst e; exact pk_us
    · rw [pk_un e]; exact hz i (by omega)
theorem ca9 {w f : Nat → Int32} {K : (Nat → Int32) → Prop} (hk : ∀ z : Nat → Int32, (∀ i, i < 366 → z i = w i) → K z) : wpX9_copyAll w f K := ⟨367, ca9l (f := f) hk 366 0 f (by omega) (fun i hi => absurd hi (Nat.not_lt_zero i))⟩
theorem rw_c {year secret z readers tapeSize waits : Int32} {jaws events kinds ms marks tape waiting s s' : Nat → Int32} (h : rw_ year secret z readers tapeSize waits jaws events kinds ms marks tape waiting s) (o : ∀ i, i < 366 → s' i = s i) : rw_ year secret z readers tapeSize waits jaws events kinds ms marks tape waiting s' := by
  obtain ⟨e1, e2, e3, e4, e5, e6, ej0, ej1, hev, hkk, hmm, hmk, htp, htf, hwt⟩ := h
  exact ⟨by rw [o _ (by omega)]; exact e1, by rw [o _ (by omega)]; exact e2, by rw [o _ (by omega)]; exact e3, by rw [o _ (by omega)]; exact e4, by rw [o _ (by omega)]; exact e5, by rw [o _ (by omega)]; exact e6, by rw [o _ (by omega)]; exact ej0, by rw [o _ (by omega)]; exact ej1,
    fun i h => by rw [o _ (by omega)]; exact hev i h, fun i h => by rw [o _ (by omega)]; exact hkk i h, fun i h => by rw [o _ (by omega)]; exact hmm i h, fun i h => by rw [o _ (by omega)]; exact hmk i h, fun i h => by rw [o _ (by omega)]; exact htp i h, htf, fun i h => by rw [o _ (by omega)]; exact hwt i h⟩
theorem ri_c {s s' : Nat → Int32} (h : ri s) (o : ∀ i, i < 366 → s' i = s i) : ri s' := by
  obtain ⟨i0, i1, i2, i3, i5, i6, i7, ie, ik, im, is⟩ := h
  exact ⟨by rw [o _ (by omega)]; exact i0, by rw [o _ (by omega)]; exact i1, by rw [o _ (by omega)]; exact i2, by rw [o _ (by omega)]; exact i3, by rw [o _ (by omega)]; exact i5, by rw [o _ (by omega)]; exact i6, by rw [o _ (by omega)]; exact i7,
    fun i h => by rw [o _ (by omega)]; exact ie i h, fun i h => by rw [o _ (by omega)]; exact ik i h, fun i h => by rw [o _ (by omega)]; exact im i h, fun i h => by rw [o _ (by omega)]; exact is i h⟩
set_option maxRecDepth 20000 in
theorem pc_image {c d : Nat → Int32} {A B : Nat → Nat → Int32} {nm : Nat} (hR : rl c A d B nm) : wpX8_image (c 0) (c 15) (c 16) (c 17) (c 18) (c 1) (c 2) (c 3) (c 4) (c 5) (c 6) (c 19) (c 20) (A 0) (A 14) (A 2) (A 16) (A 3) (A 17) (A 4) (A 18) (A 5) (A 19) (c 10) (A 8) (c 24) (A 22) 0 (A 24) (c 14) (A 11) (c 28) (A 25) 0 (A 27) (A 6) (A 20) (A 7) (A 21) (fun r8 u0 u1 u2 u3 u4 u5 u6 u7 u8 u9 u10 u11 u12 u13 u14 u15 u16 u17 u18 u19 => wpX9_image (d 0) (B 0) (B 1) (fun r9 w0 w1 => r8 = r9 ∧ rl (va_up (va_up (va_up (va_up (va_up (va_up (va_up (va_up (va_up c 0 u0) 15 u1) 16 u2) 17 u3) 18 u4) 19 u5) 20 u6) 24 u12) 28 u15) (va_up (va_up (va_up (va_up (va_up (va_up (va_up (va_up (va_up (va_up (va_up A 14 u7) 16 u8) 17 u9) 18 u10) 19 u11) 22 u13) 24 u14) 25 u16) 27 u17) 20 u18) 21 u19) (va_up d 0 w0) (va_up B 1 w1) nm)) := by
  obtain ⟨hw, hi, ht0, ht1, hm0, hm1, him, her, hv, hs0, hs1, hs2, hs3, hnm⟩ := id hR
  obtain ⟨n0, hn0, en0, hok0⟩ := rt_n ht0
  have ht0n : rt 0 (nI n0) (A 8) (B 0) := by rw [← en0]; exact ht0
  obtain ⟨n1, hn1, en1, hok1⟩ := rt_n ht1
  have ht1n : rt 1 (nI n1) (A 11) (B 0) := by rw [← en1]; exact ht1
  unfold wpX8_image wpX9_image
  rw [en0, en1]
  refine c_copy hw ht0n ht1n hn0 hn1 (by decide) (by decide) (fun j ev kd ms mk st0' mem0' st1' mem1' tp wt' hw' h0' h1' z0 z1 => ca9 (fun z hz => ?_))
  have eim : c 0 + 1 = d 0 + 1 := by rw [him.1]
  have hk : rw_ (c 5) (c 6) (c 4) (c 1) (c 2) (c 3) j ev kd ms mk tp wt' z ∧ ri z ∧ rt 0 (nI n0) st0' z ∧ rt 1 (nI n1) st1' z := ⟨rw_c hw' hz, ri_c hi hz, rt_congr (by decide) h0' (fun i _ h => hz i (by omega)), rt_congr (by decide) h1' (fun i _ h => hz i (by omega))⟩
  exact ⟨eim, hw, hi, ht0, ht1, hm0, hm1, ⟨eim, fun _ => hk⟩, her, hv, hs0, hs1, hs2, hs3, hnm⟩
set_option maxRecDepth 20000 in
theorem pc_restore {c d : Nat → Int32} {A B : Nat → Nat → Int32} {nm : Nat} (hR : rl c A d B nm) : wpX8_restore (c 0) (c 1) (c 2) (c 3) (c 4) (c 15) (c 16) (c 17) (c 18) (c 19) (c 20) (c 5) (c 6) (A 14) (A 0) (A 16) (A 2) (A 17) (A 3) (A 18) (A 4) (A 19) (A 5) (c 24) (A 22) (c 10) (A 8) 1152 (A 10) (c 28) (A 25) (c 14) (A 11) 5280 (A 13) (A 20) (A 6) (A 21) (A 7) (A 36) (fun r8 u0 u1 u2 u3 u4 u5 u6 u7 u8 u9 u10 u11 u12 u13 u14 u15 u16 u17 u18 u19 => wpX9_restore (d 0) (B 1) (B 0) (B 3) (fun r9 w0 w1 => r8 = r9 ∧ rl (va_up (va_up (va_up (va_up (va_up (va_up (va_up (va_up c 1 u0) 2 u1) 3 u2) 4 u3) 5 u4) 6 u5) 10 u11) 14 u14) (va_up (va_up (va_up (va_up (va_up (va_up (va_up (va_up (va_up (va_up (va_up (va_up A 0 u6) 2 u7) 3 u8) 4 u9) 5 u10) 8 u12) 10 u13) 11 u15) 13 u16) 6 u17) 7 u18) 36 u19) d (va_up (va_up B 0 w0) 3 w1) nm)) := by
  obtain ⟨hw, hi, ht0, ht1, hm0, hm1, him, her, hv, hs0, hs1, hs2, hs3, hnm⟩ := id hR
  unfold wpX8_restore wpX9_restore
  rw [← him.1]
  refine ⟨fun z => e8 (k := 2) (by decide) (br_t z (e9 (k := 2) (by decide) ?_)), fun nz => ?_⟩
  · exact ⟨rfl, hw, hi, ht0, ht1, hm0, hm1, him, er_up her (k := 2) (by decide), hv, hs0, hs1, hs2, hs3, hnm⟩
  obtain ⟨kw, ki, kt0, kt1⟩ := id (him.2 nz)
  obtain ⟨n0, hn0, en0, hok0⟩ := rt_n kt0
  have kt0n : rt 0 (nI n0) (A 22) (B 1) := by rw [← en0]; exact kt0
  obtain ⟨n1, hn1, en1, hok1⟩ := rt_n kt1
  have kt1n : rt 1 (nI n1) (A 25) (B 1) := by rw [← en1]; exact kt1
  rw [en0, en1]
  refine c_copy kw kt0n kt1n hn0 hn1 (by decide) (by decide) (fun j ev kd ms mk st0' mem0' st1' mem1' tp wt' hw' h0' h1' z0 z1 => br_f nz (ca9 (fun z hz => ⟨vp_in_iff.mpr (by decide), ?_⟩)))
  rw [c_0]
  exact ⟨by rw [hz 0 (by decide)]; exact kw.1, rw_c hw' hz, ri_c ki hz, rt_congr (by decide) h0' (fun i _ h => hz i (by omega)), rt_congr (by decide) h1' (fun i _ h => hz i (by omega)), rm_0 hm0 z0, rm_0 hm1 z1, him, her, hv, hs0, hs1, hs2, hs3, hnm⟩

/-! feeding -/
theorem by_8 (z : Int32) : z.toInt8.toInt32 &&& 255 = z &&& 255 := by
  rw [pk_and (m := 255) _ 8 (by decide), pk_and (m := 255) _ 8 (by decide)]
  congr 1
  have h1 : (z.toInt8.toInt32).toInt = z.toInt.bmod (2 ^ 8) := by rw [Int8.toInt_toInt32, Int32.toInt_toInt8]
  have h2 : (z.toInt8.toInt32).toInt = if 2 * (z.toInt8.toInt32).toBitVec.toNat < 2 ^ 32 then ((z.toInt8.toInt32).toBitVec.toNat : Int) else ((z.toInt8.toInt32).toBitVec.toNat : Int) - ((2 ^ 32 : Nat) : Int) := BitVec.toInt_eq_toNat_cond _
  have h3 : z.toInt = if 2 * z.toBitVec.toNat < 2 ^ 32 then (z.toBitVec.toNat : Int) else (z.toBitVec.toNat : Int) - ((2 ^ 32 : Nat) : Int) := BitVec.toInt_eq_toNat_cond _
  have h4 : z.toBitVec.toNat < 2 ^ 32 := z.toBitVec.isLt
  have h5 : (z.toInt8.toInt32).toBitVec.toNat < 2 ^ 32 := (z.toInt8.toInt32).toBitVec.isLt
  rw [h2, h3, Int.bmod_eq_emod] at h1
  generalize z.toBitVec.toNat = a at h1 h4 ⊢
  generalize (z.toInt8.toInt32).toBitVec.toNat = b at h1 h5 ⊢
  split at h1 <;> split at h1 <;> split at h1 <;> omega
def fd_c (c : Nat) : Prop := c = 0 ∨ c = 8 ∨ c = 16 ∨ c = 24 ∨ c = 32 ∨ c = 40 ∨ c = 48 ∨ c = 56
theorem fd_s (w s : Int64) {c : Nat} (hc : fd_c c) (hs : (s.toBitVec.smod 64).toNat = c) : ((w >>> s) &&& 255).toInt32 = nI (w.toBitVec.toNat / 2 ^ c % 256) := by
  rw [Int64.toInt32_and, show (255 : Int64).toInt32 = 255 from by decide, pk_and (m := 255) _ 8 (by decide)]
  congr 1
  have e1 : (w >>> s).toInt32.toBitVec.toNat = (w.toBitVec.sshiftRight c).toNat % 2 ^ 32 := by
    show ((w.toBitVec.sshiftRight (s.toBitVec.smod 64).toNat).signExtend 32).toNat = _
    rw [hs, BitVec.signExtend_eq_setWidth_of_le _ (by decide), BitVec.toNat_setWidth]
  have e2 : (w.toBitVec.sshiftRight c).toInt = w.toBitVec.toInt >>> c := BitVec.toInt_sshiftRight
  rw [BitVec.toInt_eq_toNat_cond, BitVec.toInt_eq_toNat_cond, Int.shiftRight_eq_div_pow] at e2
  have h4 : w.toBitVec.toNat < 2 ^ 64 := w.toBitVec.isLt
  have h5 : (w.toBitVec.sshiftRight c).toNat < 2 ^ 64 := (w.toBitVec.sshiftRight c).isLt
  rw [e1]
  generalize w.toBitVec.toNat = a at e2 h4 ⊢
  generalize (w.toBitVec.sshiftRight c).toNat = b at e2 h5 ⊢
  unfold fd_c at hc
  rcases hc with rfl | rfl | rfl | rfl | rfl | rfl | rfl | rfl
  all_goals (split at e2 <;> split at e2 <;> omega)
theorem fd_u (w : Int64) (s : UInt64) {c : Nat} (hs : (s.toBitVec % 64).toNat = c) : (w.toUInt64 >>> s).toInt64.toInt32 &&& 255 = nI (w.toBitVec.toNat / 2 ^ c % 256) := by
  rw [pk_and (m := 255) _ 8 (by decide)]
  congr 1
  have e : (w.toUInt64 >>> s).toInt64.toBitVec = w.toBitVec >>> c := by
    rw [← hs]
    exact UInt64.toBitVec_shiftRight _ _
  have e1 : (w.toUInt64 >>> s).toInt64.toInt32.toBitVec.toNat = (w.toBitVec.toNat / 2 ^ c) % 2 ^ 32 := by
    show (((w.toUInt64 >>> s).toInt64.toBitVec).signExtend 32).toNat = _
    rw [e, BitVec.signExtend_eq_setWidth_of_le _ (by decide), BitVec.toNat_setWidth, BitVec.toNat_ushiftRight, Nat.shiftRight_eq_div_pow]
  rw [e1]
  generalize w.toBitVec.toNat / 2 ^ c = q
  omega
theorem fd_k : ∀ k, k < 8 → ((((8 * nI k : Int32).toInt64.toUInt64 &&& Int64.toUInt64 63).toBitVec % 64).toNat = 8 * k ∧ (((8 * nI k : Int32).toInt64 &&& 63).toBitVec.smod 64).toNat = 8 * k) := by decide +kernel
/-- the byte that the class lays, and the reference -/
def fd_8 (w : Int64) (k : Nat) : Int32 := vp_nar .byte ((((w.toUInt64 >>> ((8 * nI k).toInt64.toUInt64 &&& Int64.toUInt64 63)).toInt64).toInt32).toInt8.toInt32)
def fd_9 (w : Int64) (k : Nat) : Int32 := ((w >>> ((8 * nI k).toInt64 &&& 63)) &&& 255).toInt32
theorem fd_e (w : Int64) {k : Nat} (hk : k < 8) : fd_8 w k &&& 255 = fd_9 w k ∧ fits .byte (.int (fd_8 w k)) = true := by
  obtain ⟨h1, h2⟩ := fd_k k hk
  unfold fd_8 fd_9
  rw [pk_vb]
  refine ⟨?_, pk_fb _⟩
  rw [by_8, fd_u w _ h1, fd_s w _ (by unfold fd_c; omega) h2]
theorem c_fdl {w : Int64} {T N : Nat} {er tape : Nat → Int32} {K : Int32 → (Nat → Int32) → Int32 → (Nat → Int32) → Prop} (hN : N ≤ 8) (hT : T + N ≤ 60) (hk : ∀ t : Nat → Int32, (∀ i, i < N → t (T + i) = fd_8 w i) → (∀ p, p < T ∨ T + N ≤ p → t p = tape p) → K (nI (T + N)) er (nI (T + N)) t) :
    ∀ (m k : Nat) (t : Nat → Int32), k + m = N → (∀ i, i < k → t (T + i) = fd_8 w i) → (∀ p, p < T ∨ T + k ≤ p → t p = tape p) → wpX8_feed_L40 (m + 1) w (nI N) (nI k) er (nI T) t K := by
  intro m
  induction m with
  | zero =>
    intro k t h h1 h2
    have e : k = N := by omega
    subst e
    rw [wpX8_feed_L40]
    refine br_t (nI_le (Nat.le_refl _) (by omega)) ?_
    rw [nI_add]
    exact hk t h1 h2
  | succ m ih =>
    intro k t h h1 h2
    rw [wpX8_feed_L40]
    refine br_f (nI_ge (by omega) (by omega)) ?_
    rw [nI_add, nI_1, i_cl (show T + k < 2147483648 by omega)]
    refine ⟨vp_in_nI (by omega) (by decide), ih (k + 1) _ (by omega) (fun i hi => ?_) (fun p hp => ?_)⟩
    · by_cases e : i = k
      · subst e; rw [pk_us]; rfl
      · rw [pk_un (by omega)]; exact h1 i (by omega)
    · rw [pk_un (by omega)]; exact h2 p (by omega)
theorem r_fdl {w : Int64} {T N : Nat} {er s : Nat → Int32} {K : Int32 → (Nat → Int32) → (Nat → Int32) → Prop} (hN : N ≤ 8) (hT : T + N ≤ 60) (hk : ∀ z : Nat → Int32, z 5 = nI (T + N) → (∀ i, i < N → z (282 + T + i) = fd_9 w i) → (∀ p, p ≠ 5 → p < 282 + T ∨ 282 + T + N ≤ p → z p = s p) → K (nI (T + N)) z er) :
    ∀ (m k : Nat) (z : Nat → Int32), k + m = N → z 5 = nI (T + k) → (∀ i, i < k → z (282 + T + i) = fd_9 w i) → (∀ p, p ≠ 5 → p < 282 + T ∨ 282 + T + k ≤ p → z p = s p) → wpX9_feed_L38 (m + 1) w (nI N) (nI k) z er K := by
  intro m
  induction m with
  | zero =>
    intro k z h h5 h1 h2
    have e : k = N := by omega
    subst e
    rw [wpX9_feed_L38]
    refine br_t (nI_le (Nat.le_refl _) (by omega)) ⟨vp_in_iff.mpr (by decide), ?_⟩
    rw [show (5 : Int32).toNatClampNeg = 5 from rfl, h5]
    exact hk z h5 h1 h2
  | succ m ih =>
    intro k z h h5 h1 h2
    rw [wpX9_feed_L38]
    dsimp only
    rw [show (5 : Int32).toNatClampNeg = 5 from rfl, h5, show (282 + nI (T + k) : Int32) = nI (282 + (T + k)) from nI_add 282 _, i_cl (show 282 + (T + k) < 2147483648 by omega), pk_un (show (5 : Nat) ≠ 282 + (T + k) by omega), h5, nI_1 k, nI_1 (T + k)]
    refine br_f (nI_ge (by omega) (by omega)) ⟨vp_in_iff.mpr (by decide), vp_in_nI (by omega) (by decide), vp_in_iff.mpr (by decide), vp_in_iff.mpr (by decide), ih (k + 1) _ (by omega) ?_ (fun i hi => ?_) (fun p hp5 hp => ?_)⟩
    · rw [pk_us]; rfl
    · rw [pk_un (by omega)]
      by_cases e : i = k
      · subst e; rw [show 282 + T + i = 282 + (T + i) by omega, pk_us]; rfl
      · rw [pk_un (by omega)]; exact h1 i (by omega)
    · rw [pk_un hp5, pk_un (by omega)]; exact h2 p hp5 (by omega)
set_option maxRecDepth 20000 in
theorem pc_feed {c d : Nat → Int32} {A B : Nat → Nat → Int32} {nm : Nat} {x1 : Int64} {x3 : Int32} (hR : rl c A d B nm) : wpX8_feed x1 x3 (A 36) (c 2) (A 6) (fun r8 u0 u1 u2 => wpX9_feed x1 x3 (B 0) (B 3) (fun r9 w0 w1 => r8 = r9 ∧ rl (va_up c 2 u1) (va_up (va_up A 36 u0) 6 u2) d (va_up (va_up B 0 w0) 3 w1) nm)) := by
  obtain ⟨hw, hi, ht0, ht1, hm0, hm1, him, her, hv, hs0, hs1, hs2, hs3, hnm⟩ := id hR
  obtain ⟨e1, e2, e3, e4, e5, e6, ej0, ej1, hev, hkk, hmm, hmk, htp, htf, hwt⟩ := id hw
  obtain ⟨T, hT, eT⟩ := in_nI (n := 60) hi.2.2.2.2.1
  have ec2 : c 2 = nI T := e5.trans eT
  unfold wpX8_feed wpX9_feed
  rw [show (5 : Int32).toNatClampNeg = 5 from rfl, ec2, eT]
  rcases rg_dec x3 8 (by decide) with hx | ⟨N, hN1, hN, rfl⟩
  · refine rg8 (n := 8) (by decide) hx (e8 (k := 1) (by decide) (rg9 (n := 8) (by decide) hx (br_t rfl (e9 (k := 1) (by decide) ?_))))
    exact ⟨rfl, ec2 ▸ hw, hi, ht0, ht1, hm0, hm1, him, er_up her (k := 1) (by decide), hv, hs0, hs1, hs2, hs3, hnm⟩
  · refine br_f (show ¬ nI N < nI 1 from nI_nlt hN1 (by omega)) (br_t (show nI N ≤ nI 8 from nI_le hN (by decide)) ?_)
    rw [show (60 - nI N : Int32) = nI (60 - N) from pk_sub (a := 60) (by omega), nI_add]
    by_cases hle : T + N ≤ 60
    · refine br_t (nI_le (by omega) (by omega)) ⟨N + 1, c_fdl hN hle (fun t t1 t2 => ?_) N 0 (A 6) (by omega) (fun i hi => absurd hi (Nat.not_lt_zero i)) (fun p _ => rfl)⟩
      refine rg9t hN1 hN (by decide) (br_f (by decide) ⟨vp_in_iff.mpr (by decide), br_t (show nI (T + N) ≤ nI 60 from nI_le hle (by decide)) ⟨N + 1, r_fdl hN hle (fun z z5 z1 z2 => ?_) N 0 (B 0) (by omega) eT (fun i hi => absurd hi (Nat.not_lt_zero i)) (fun p _ _ => rfl)⟩⟩)
      have o : ∀ p, p ≠ 5 → p < 282 ∨ 342 ≤ p → z p = B 0 p := fun p h5 h => z2 p h5 (by omega)
      have o2 : ∀ p, p ≠ 5 → p < 282 ∨ 342 ≤ p → va_up (va_up B 0 z) 3 (B 3) 0 p = B 0 p := fun p h5 h => o p h5 h
      obtain ⟨i0, i1, i2, i3, i5, i6, i7, ie, ik, im, is⟩ := id hi
      refine ⟨rfl, ⟨by rw [o2 _ (by omega) (by omega)]; exact e1, by rw [o2 _ (by omega) (by omega)]; exact e2, by rw [o2 _ (by omega) (by omega)]; exact e3, by rw [o2 _ (by omega) (by omega)]; exact e4, z5.symm, by rw [o2 _ (by omega) (by omega)]; exact e6, by rw [o2 _ (by omega) (by omega)]; exact ej0, by rw [o2 _ (by omega) (by omega)]; exact ej1,
        fun i h => by rw [o2 _ (by omega) (by omega)]; exact hev i h, fun i h => by rw [o2 _ (by omega) (by omega)]; exact hkk i h, fun i h => by rw [o2 _ (by omega) (by omega)]; exact hmm i h, fun i h => by rw [o2 _ (by omega) (by omega)]; exact hmk i h, fun i h => ?_, fun i h => ?_, fun i h => by rw [o2 _ (by omega) (by omega)]; exact hwt i h⟩,
        ⟨by rw [o2 _ (by omega) (by omega)]; exact i0, by rw [o2 _ (by omega) (by omega)]; exact i1, by rw [o2 _ (by omega) (by omega)]; exact i2, by rw [o2 _ (by omega) (by omega)]; exact i3, by show in_ (z 5) 60; rw [z5]; exact in_mk (n := 60) hle (by decide), by rw [o2 _ (by omega) (by omega)]; exact i6, by rw [o2 _ (by omega) (by omega)]; exact i7,
        fun i h => by rw [o2 _ (by omega) (by omega)]; exact ie i h, fun i h => by rw [o2 _ (by omega) (by omega)]; exact ik i h, fun i h => by rw [o2 _ (by omega) (by omega)]; exact im i h, fun i h => by rw [o2 _ (by omega) (by omega)]; exact is i h⟩,
        rt_congr (by decide) ht0 (fun i h1 h2 => o i (by omega) (by omega)), rt_congr (by decide) ht1 (fun i h1 h2 => o i (by omega) (by omega)), hm0, hm1, him, her, hv, hs0, hs1, hs2, hs3, hnm⟩
      · show t i &&& 255 = z (282 + i)
        by_cases hin : T ≤ i ∧ i < T + N
        · have a1 := t1 (i - T) (by omega)
          have a2 := z1 (i - T) (by omega)
          rw [show T + (i - T) = i by omega] at a1
          rw [show 282 + T + (i - T) = 282 + i by omega] at a2
          rw [a1, a2]
          exact (fd_e x1 (by omega)).1
        · rw [t2 i (by omega), z2 _ (by omega) (by omega)]
          exact htp i h
      · show fits .byte (.int (t i)) = true
        by_cases hin : T ≤ i ∧ i < T + N
        · have a1 := t1 (i - T) (by omega)
          rw [show T + (i - T) = i by omega] at a1
          rw [a1]
          exact (fd_e x1 (by omega)).2
        · rw [t2 i (by omega)]
          exact htf i h
    · refine br_f (nI_ge (by omega) (by omega)) (e8 (k := 4) (by decide) ?_)
      refine rg9t hN1 hN (by decide) (br_f (by decide) ⟨vp_in_iff.mpr (by decide), br_f (show ¬ nI (T + N) ≤ nI 60 from nI_ge (by omega) (by omega)) (e9 (k := 4) (by decide) ?_)⟩)
      exact ⟨rfl, ec2 ▸ hw, hi, ht0, ht1, hm0, hm1, him, er_up her (k := 4) (by decide), hv, hs0, hs1, hs2, hs3, hnm⟩

/-! voices -/
section Voices
variable {n : Nat} {x k m kd D b3 p t : Int32} {f : Nat → Int32} {K : Int32 → Int32 → Int32 → (Nat → Int32) → Prop}
theorem g_own {v : Int32} (h : wpG6 n 2 kd v x D kd k m p t f K) : wpG6 (n + 1) 0 v x D b3 kd k m p t f K := h
theorem g_above {body v : Int32} {j : Nat} (hb : body / 10 - 1 = nI j) (hj : j < 7) (h : wpG6 n 2 (nI (ab_ j)) v x D kd k m p t f K) : wpG6 (n + 1) 1 body v x D kd k m p t f K := by
  show wpX0_above (body / 10 - 1) (fun r => wpG6 n 2 r v x D kd k m p t f K)
  rw [hb]
  exact ab8 hj h
theorem g_from {kind v d : Nat} {l : List Int32} (b : Int32) (hk : kind < 7) (hv : v < 4) (hd : d < 30) (hl : l.length < 30) (hp : pl_ok f l) (hb : tb_bodies (4 * kind + v) = b) (h : ∀ f', pl_ok f' (b :: l) → wpG6 n 3 b x (nI (d + 1)) 0 kd k m 0 (nI (l.length + 1)) f' K) : wpG6 (n + 1) 2 (nI kind) (nI v) x (nI d) kd k m 0 (nI l.length) f K := by
  show wpX6_from (fun a0 a1 a2 => wpG6 n 0 a0 a1 a2 0) (wpG6 n 1) (wpG6 n 2) (fun a0 a1 a2 => wpG6 n 3 a0 a1 a2 0) (nI kind) (nI v) x (nI d) kd k m 0 (nI l.length) f K
  unfold wpX6_from
  have e : (4 * nI kind + nI v : Int32) = nI (4 * kind + v) := by rw [show (4 : Int32) = nI 4 from rfl, pk_mul, nI_add]
  rw [e, i_cl (show 4 * kind + v < 2147483648 by omega), i_cl (show l.length < 2147483648 by omega), hb, nI_1, nI_1]
  exact br_t rfl (br_f (show ¬ nI 40 ≤ nI d from nI_ge (by omega) (by decide)) (br_f (nI_pos (by omega)) (br_t (show nI (4 * kind + v) < nI 28 from nI_lt (by omega) (by decide)) ⟨vp_in_nI (by omega) (by decide), br_f (show ¬ nI 30 ≤ nI l.length from nI_ge hl (by decide)) ⟨vp_in_nI hl (by decide), h _ (pl_push b hp)⟩⟩)))
theorem g_fromp {kind v x d : Int32} (hp : ¬ p = 0) (h : K 0 p t f) : wpG6 (n + 1) 2 kind v x d kd k m p t f K := by
  show wpX6_from (fun a0 a1 a2 => wpG6 n 0 a0 a1 a2 0) (wpG6 n 1) (wpG6 n 2) (fun a0 a1 a2 => wpG6 n 3 a0 a1 a2 0) kind v x d kd k m p t f K
  exact br_f hp h
def g_run (n : Nat) (b x D kd k m p t : Int32) (f : Nat → Int32) (K : Int32 → Int32 → Int32 → (Nat → Int32) → Prop) : Prop := wpX6_run (fun a0 a1 a2 => wpG6 n 0 a0 a1 a2 0) (wpG6 n 1) (wpG6 n 2) (fun a0 a1 a2 => wpG6 n 3 a0 a1 a2 0) b x D kd k m p t f K
theorem g_r {b : Int32} (h : g_run n b x D kd k m p t f K) : wpG6 (n + 1) 3 b x D 0 kd k m p t f K := h
theorem g_10 (h : K (x + k) p t f) : wpG6 (n + 1) 3 10 x D 0 kd k m p t f K := g_r (br_t rfl h)
theorem g_11 (h : wpG6 n 0 0 x D 0 kd k m p t f (fun r a b c => K (r * 2) a b c)) : wpG6 (n + 1) 3 11 x D 0 kd k m p t f K := g_r (br_f (by decide) (br_t rfl h))
theorem g_12 (h : wpG6 n 0 1 x D 0 kd k m p t f (fun r a b c => K (r - m) a b c)) : wpG6 (n + 1) 3 12 x D 0 kd k m p t f K := g_r (br_f (by decide) (br_f (by decide) (br_t rfl h)))
theorem g_13 (h1 : m = k → K 0 1 t f) (h0 : ¬ m = k → ¬ m - k = 0 → K (x / (m - k)) 0 t f) (hd : ¬ m = k → ¬ m - k = 0) : wpG6 (n + 1) 3 13 x D 0 kd k m p t f K :=
  g_r (br_f (by decide) (br_f (by decide) (br_f (by decide) (br_t rfl ⟨fun e => br_t e (h1 e), fun e => br_f e ⟨hd e, h0 e (hd e)⟩⟩))))
theorem g_20 (h : wpG6 n 1 20 0 x D kd k m p t f (fun r a b c => K (r - 4) a b c)) : wpG6 (n + 1) 3 20 x D 0 kd k m p t f K := g_r (br_f (by decide) (br_f (by decide) (br_f (by decide) (br_f (by decide) (br_t rfl h)))))
theorem g_21 (h : wpG6 n 1 21 3 x D kd k m p t f (fun r a b c => wpG6 n 0 1 1 D 0 kd k m a b c (fun r2 a2 b2 c2 => K (r + r2) a2 b2 c2))) : wpG6 (n + 1) 3 21 x D 0 kd k m p t f K := g_r (br_f (by decide) (br_f (by decide) (br_f (by decide) (br_f (by decide) (br_f (by decide) (br_t rfl h))))))
theorem g_30 (h : wpG6 n 1 30 1 x D kd k m p t f (fun r a b c => K (0 - r) a b c)) : wpG6 (n + 1) 3 30 x D 0 kd k m p t f K := g_r (br_f (by decide) (br_f (by decide) (br_f (by decide) (br_f (by decide) (br_f (by decide) (br_f (by decide) (br_t rfl h)))))))
theorem g_40 (h : wpG6 n 1 40 2 (x / 2) D kd k m p t f K) : wpG6 (n + 1) 3 40 x D 0 kd k m p t f K := g_r (br_f (by decide) (br_f (by decide) (br_f (by decide) (br_f (by decide) (br_f (by decide) (br_f (by decide) (br_f (by decide) (br_t rfl h))))))))
theorem g_50 (h : wpG6 n 1 50 0 x D kd k m p t f (fun r a b c => K (r * 3) a b c)) : wpG6 (n + 1) 3 50 x D 0 kd k m p t f K := g_r (br_f (by decide) (br_f (by decide) (br_f (by decide) (br_f (by decide) (br_f (by decide) (br_f (by decide) (br_f (by decide) (br_f (by decide) (br_t rfl h)))))))))
theorem g_51 (h : wpG6 n 1 51 2 x D kd k m p t f (fun r a b c => K (r ^^^ k) a b c)) : wpG6 (n + 1) 3 51 x D 0 kd k m p t f K := g_r (br_f (by decide) (br_f (by decide) (br_f (by decide) (br_f (by decide) (br_f (by decide) (br_f (by decide) (br_f (by decide) (br_f (by decide) (br_f (by decide) (br_t rfl h))))))))))
theorem g_60 (h : wpG6 n 1 60 1 (x + 1) D kd k m p t f K) : wpG6 (n + 1) 3 60 x D 0 kd k m p t f K := g_r (br_f (by decide) (br_f (by decide) (br_f (by decide) (br_f (by decide) (br_f (by decide) (br_f (by decide) (br_f (by decide) (br_f (by decide) (br_f (by decide) (br_f (by decide) (br_t rfl h)))))))))))
theorem g_70 (h : K 9 p t f) : wpG6 (n + 1) 3 70 x D 0 kd k m p t f K := g_r (br_f (by decide) (br_f (by decide) (br_f (by decide) (br_f (by decide) (br_f (by decide) (br_f (by decide) (br_f (by decide) (br_f (by decide) (br_f (by decide) (br_f (by decide) (br_f (by decide) (br_t rfl h))))))))))))
theorem g_71 (h : wpG6 n 1 71 1 x D kd k m p t f (fun r a b c => K (r + m) a b c)) : wpG6 (n + 1) 3 71 x D 0 kd k m p t f K := g_r (br_f (by decide) (br_f (by decide) (br_f (by decide) (br_f (by decide) (br_f (by decide) (br_f (by decide) (br_f (by decide) (br_f (by decide) (br_f (by decide) (br_f (by decide) (br_f (by decide) (br_f (by decide) (br_t rfl h)))))))))))))
end Voices
theorem k_7 {j : Nat} (h : j < 7) : j = 0 ∨ j = 1 ∨ j = 2 ∨ j = 3 ∨ j = 4 ∨ j = 5 ∨ j = 6 := by omega
/-- STOPS: what it leaves, and what it answers -/
def sl_ (j : Nat) (l : List Int32) : List Int32 := if j = 1 then 10 :: 20 :: l else if j = 4 then 10 :: 20 :: 50 :: l else if j = 6 then 70 :: l else 10 :: l
def sv_ (j : Nat) (x k : Int32) : Int32 := if j = 1 then x + k - 4 else if j = 4 then (x + k - 4) * 3 else if j = 6 then 9 else x + k
theorem sl_le (j : Nat) (l : List Int32) : (sl_ j l).length ≤ l.length + 3 := by
  unfold sl_
  split
  · simp
  split
  · simp
  split <;> simp
theorem v8_0 {n d : Nat} {x k m kd : Int32} {f : Nat → Int32} {l : List Int32} {K : Int32 → Int32 → Int32 → (Nat → Int32) → Prop} (hl : l.length < 20) (hd : d < 20) (hp : pl_ok f l) (h : ∀ f', pl_ok f' (10 :: l) → K (x + k) 0 (nI (l.length + 1)) f') : wpG6 (n + 2) 2 (nI 0) 0 x (nI d) kd k m 0 (nI l.length) f K :=
  g_from (v := 0) 10 (by decide) (by decide) (by omega) (by omega) hp rfl (fun f' hp' => g_10 (h f' hp'))
theorem v8_1 {n d : Nat} {x k m kd : Int32} {f : Nat → Int32} {l : List Int32} {K : Int32 → Int32 → Int32 → (Nat → Int32) → Prop} (hl : l.length < 19) (hd : d < 19) (hp : pl_ok f l) (h : ∀ f', pl_ok f' (10 :: 20 :: l) → K (x + k - 4) 0 (nI (l.length + 2)) f') : wpG6 (n + 5) 2 (nI 1) 0 x (nI d) kd k m 0 (nI l.length) f K :=
  g_from (v := 0) 20 (by decide) (by decide) (by omega) (by omega) hp rfl (fun f' hp' => g_20 (g_above (j := 1) (by decide) (by decide) (v8_0 (l := 20 :: l) (by simp; omega) (by omega) hp' h)))
theorem v8_s {n d j : Nat} {x k m kd : Int32} {f : Nat → Int32} {l : List Int32} {K : Int32 → Int32 → Int32 → (Nat → Int32) → Prop} (hj : j < 7) (hl : l.length < 18) (hd : d < 18) (hp : pl_ok f l) (h : ∀ f', pl_ok f' (sl_ j l) → K (sv_ j x k) 0 (nI (sl_ j l).length) f') : wpG6 (n + 8) 2 (nI j) 0 x (nI d) kd k m 0 (nI l.length) f K := by
  rcases k_7 hj with rfl | rfl | rfl | rfl | rfl | rfl | rfl
  · exact v8_0 (by omega) (by omega) hp h
  · exact v8_1 (by omega) (by omega) hp h
  · exact g_from (v := 0) 10 (by decide) (by decide) (by omega) (by omega) hp rfl (fun f' hp' => g_10 (h f' hp'))
  · exact g_from (v := 0) 10 (by decide) (by decide) (by omega) (by omega) hp rfl (fun f' hp' => g_10 (h f' hp'))
  · exact g_from (v := 0) 50 (by decide) (by decide) (by omega) (by omega) hp rfl (fun f' hp' => g_50 (g_above (j := 4) (by decide) (by decide) (v8_1 (l := 50 :: l) (by simp; omega) (by omega) hp' h)))
  · exact g_from (v := 0) 10 (by decide) (by decide) (by omega) (by omega) hp rfl (fun f' hp' => g_10 (h f' hp'))
  · exact g_from (v := 0) 70 (by decide) (by decide) (by omega) (by omega) hp rfl (fun f' hp' => g_70 (h f' hp'))
/-- READS -/
def el_ (j kd : Nat) (l : List Int32) : List Int32 := if j = 2 then sl_ kd (11 :: 30 :: l) else if j = 5 then sl_ kd (11 :: 30 :: 60 :: l) else if j = 6 then sl_ kd (11 :: 71 :: l) else sl_ kd (11 :: l)
def ev_ (j kd : Nat) (x k m : Int32) : Int32 := if j = 2 then 0 - sv_ kd x k * 2 else if j = 5 then 0 - sv_ kd (x + 1) k * 2 else if j = 6 then sv_ kd x k * 2 + m else sv_ kd x k * 2
theorem el_le (j kd : Nat) (l : List Int32) : (el_ j kd l).length ≤ l.length + 6 := by
  unfold el_
  split
  · have := sl_le kd (11 :: 30 :: l); simp at this; omega
  split
  · have := sl_le kd (11 :: 30 :: 60 :: l); simp at this; omega
  split
  · have := sl_le kd (11 :: 71 :: l); simp at this; omega
  · have := sl_le kd (11 :: l); simp at this; omega
theorem v8_11 {n d kd j : Nat} {x k m : Int32} {f : Nat → Int32} {l : List Int32} {K : Int32 → Int32 → Int32 → (Nat → Int32) → Prop} (hkd : kd < 7) (hj : j < 7) (hb : tb_bodies (4 * j + 1) = 11) (hl : l.length < 16) (hd : d < 16) (hp : pl_ok f l) (h : ∀ f', pl_ok f' (sl_ kd (11 :: l)) → K (sv_ kd x k * 2) 0 (nI (sl_ kd (11 :: l)).length) f') : wpG6 (n + 11) 2 (nI j) 1 x (nI d) (nI kd) k m 0 (nI l.length) f K :=
  g_from (v := 1) 11 hj (by decide) (by omega) (by omega) hp hb (fun f' hp' => g_11 (g_own (v8_s (l := 11 :: l) hkd (by simp; omega) (by omega) hp' h)))
theorem v8_30 {n d kd : Nat} {x k m : Int32} {f : Nat → Int32} {l : List Int32} {K : Int32 → Int32 → Int32 → (Nat → Int32) → Prop} (hkd : kd < 7) (hl : l.length < 15) (hd : d < 15) (hp : pl_ok f l) (h : ∀ f', pl_ok f' (sl_ kd (11 :: 30 :: l)) → K (0 - sv_ kd x k * 2) 0 (nI (sl_ kd (11 :: 30 :: l)).length) f') : wpG6 (n + 14) 2 (nI 2) 1 x (nI d) (nI kd) k m 0 (nI l.length) f K :=
  g_from (v := 1) 30 (by decide) (by decide) (by omega) (by omega) hp rfl (fun f' hp' => g_30 (g_above (j := 2) (by decide) (by decide) (v8_11 (j := 0) (l := 30 :: l) hkd (by decide) rfl (by simp; omega) (by omega) hp' h)))
theorem v8_e {n d j kd : Nat} {x k m : Int32} {f : Nat → Int32} {l : List Int32} {K : Int32 → Int32 → Int32 → (Nat → Int32) → Prop} (hj : j < 7) (hkd : kd < 7) (hl : l.length < 14) (hd : d < 14) (hp : pl_ok f l) (h : ∀ f', pl_ok f' (el_ j kd l) → K (ev_ j kd x k m) 0 (nI (el_ j kd l).length) f') : wpG6 (n + 17) 2 (nI j) 1 x (nI d) (nI kd) k m 0 (nI l.length) f K := by
  rcases k_7 hj with rfl | rfl | rfl | rfl | rfl | rfl | rfl
  · exact v8_11 hkd (by decide) rfl (by omega) (by omega) hp h
  · exact v8_11 hkd (by decide) rfl (by omega) (by omega) hp h
  · exact v8_30 hkd (by omega) (by omega) hp h
  · exact v8_11 hkd (by decide) rfl (by omega) (by omega) hp h
  · exact v8_11 hkd (by decide) rfl (by omega) (by omega) hp h
  · exact g_from (v := 1) 60 (by decide) (by decide) (by omega) (by omega) hp rfl (fun f' hp' => g_60 (g_above (j := 5) (by decide) (by decide) (v8_30 (l := 60 :: l) hkd (by simp; omega) (by omega) hp' h)))
  · exact g_from (v := 1) 71 (by decide) (by decide) (by omega) (by omega) hp rfl (fun f' hp' => g_71 (g_above (j := 6) (by decide) (by decide) (v8_11 (j := 0) (l := 71 :: l) hkd (by decide) rfl (by simp; omega) (by omega) hp' h)))
/-- ASKS -/
def al_ (j kd : Nat) (l : List Int32) : List Int32 := if j = 3 then el_ kd kd (12 :: 40 :: l) else if j = 4 then el_ kd kd (12 :: 51 :: l) else el_ kd kd (12 :: l)
def av_ (j kd : Nat) (x k m : Int32) : Int32 := if j = 3 then ev_ kd kd (x / 2) k m - m else if j = 4 then (ev_ kd kd x k m - m) ^^^ k else ev_ kd kd x k m - m
theorem al_le (j kd : Nat) (l : List Int32) : (al_ j kd l).length ≤ l.length + 8 := by
  unfold al_
  split
  · have := el_le kd kd (12 :: 40 :: l); simp at this; omega
  split
  · have := el_le kd kd (12 :: 51 :: l); simp at this; omega
  · have := el_le kd kd (12 :: l); simp at this; omega
theorem v8_12 {n d kd j : Nat} {x k m : Int32} {f : Nat → Int32} {l : List Int32} {K : Int32 → Int32 → Int32 → (Nat → Int32) → Prop} (hkd : kd < 7) (hj : j < 7) (hb : tb_bodies (4 * j + 2) = 12) (hl : l.length < 12) (hd : d < 12) (hp : pl_ok f l) (h : ∀ f', pl_ok f' (el_ kd kd (12 :: l)) → K (ev_ kd kd x k m - m) 0 (nI (el_ kd kd (12 :: l)).length) f') : wpG6 (n + 20) 2 (nI j) 2 x (nI d) (nI kd) k m 0 (nI l.length) f K :=
  g_from (v := 2) 12 hj (by decide) (by omega) (by omega) hp hb (fun f' hp' => g_12 (g_own (v8_e (l := 12 :: l) hkd hkd (by simp; omega) (by omega) hp' h)))
theorem v8_a {n d j kd : Nat} {x k m : Int32} {f : Nat → Int32} {l : List Int32} {K : Int32 → Int32 → Int32 → (Nat → Int32) → Prop} (hj : j < 7) (hkd : kd < 7) (hl : l.length < 11) (hd : d < 11) (hp : pl_ok f l) (h : ∀ f', pl_ok f' (al_ j kd l) → K (av_ j kd x k m) 0 (nI (al_ j kd l).length) f') : wpG6 (n + 23) 2 (nI j) 2 x (nI d) (nI kd) k m 0 (nI l.length) f K := by
  rcases k_7 hj with rfl | rfl | rfl | rfl | rfl | rfl | rfl
  · exact v8_12 hkd (by decide) rfl (by omega) (by omega) hp h
  · exact v8_12 hkd (by decide) rfl (by omega) (by omega) hp h
  · exact v8_12 hkd (by decide) rfl (by omega) (by omega) hp h
  · exact g_from (v := 2) 40 (by decide) (by decide) (by omega) (by omega) hp rfl (fun f' hp' => g_40 (g_above (j := 3) (by decide) (by decide) (v8_12 (j := 0) (l := 40 :: l) hkd (by decide) rfl (by simp; omega) (by omega) hp' h)))
  · exact g_from (v := 2) 51 (by decide) (by decide) (by omega) (by omega) hp rfl (fun f' hp' => g_51 (g_above (j := 4) (by decide) (by decide) (v8_12 (j := 1) (l := 51 :: l) hkd (by decide) rfl (by simp; omega) (by omega) hp' h)))
  · exact v8_12 hkd (by decide) rfl (by omega) (by omega) hp h
  · exact v8_12 hkd (by decide) rfl (by omega) (by omega) hp h
/-- PARTS -/
theorem v8_13 {n d j : Nat} {x k m kd : Int32} {f : Nat → Int32} {l : List Int32} {K : Int32 → Int32 → Int32 → (Nat → Int32) → Prop} (hj : j < 7) (hb : tb_bodies (4 * j + 3) = 13) (hl : l.length < 20) (hd : d < 20) (hz : ¬ m = k → ¬ m - k = 0) (hp : pl_ok f l) (h1 : m = k → ∀ f', pl_ok f' (13 :: l) → K 0 1 (nI (l.length + 1)) f') (h0 : ¬ m = k → ∀ f', pl_ok f' (13 :: l) → K (x / (m - k)) 0 (nI (l.length + 1)) f') : wpG6 (n + 2) 2 (nI j) 3 x (nI d) kd k m 0 (nI l.length) f K :=
  g_from (v := 3) 13 hj (by decide) (by omega) (by omega) hp hb (fun f' hp' => g_13 (fun e => h1 e f' hp') (fun e _ => h0 e f' hp') hz)
theorem v8_21 {n d j kd : Nat} {x k m : Int32} {f : Nat → Int32} {l : List Int32} {K : Int32 → Int32 → Int32 → (Nat → Int32) → Prop} (hj : j < 7) (hkd : kd < 7) (hb : tb_bodies (4 * j + 3) = 21) (hl : l.length < 10) (hd : d < 10) (hz : ¬ m = k → ¬ m - k = 0) (hp : pl_ok f l) (h1 : m = k → ∀ f', pl_ok f' (13 :: 21 :: l) → K (0 + 0) 1 (nI (l.length + 2)) f') (h0 : ¬ m = k → ∀ f', pl_ok f' (el_ kd kd (13 :: 21 :: l)) → K (x / (m - k) + ev_ kd kd 1 k m) 0 (nI (el_ kd kd (13 :: 21 :: l)).length) f') : wpG6 (n + 20) 2 (nI j) 3 x (nI d) (nI kd) k m 0 (nI l.length) f K :=
  g_from (v := 3) 21 hj (by decide) (by omega) (by omega) hp hb (fun f' hp' => g_21 (g_above (j := 1) (by decide) (by decide) (v8_13 (j := 0) (l := 21 :: l) (by decide) rfl (by simp; omega) (by omega) hz hp' (fun e f'' hp'' => g_own (g_fromp (by decide) (h1 e f'' hp''))) (fun e f'' hp'' => g_own (v8_e (l := 13 :: 21 :: l) hkd hkd (by simp; omega) (by omega) hp'' (h0 e))))))
/-! the reference's voices -/
theorem b9 {l : List Int32} {b : Int32} {f : Nat → Int32} {K : Int32 → (Nat → Int32) → Prop} (hl : l.length < 30) (hp : pl_ok f l) (h : ∀ f', pl_ok f' (b :: l) → K (nI (l.length + 1)) f') : wpX9_begins b (nI l.length) f K := by
  unfold wpX9_begins
  rw [i_cl (show l.length < 2147483648 by omega), nI_1]
  exact br_f (show ¬ nI 30 ≤ nI l.length from nI_ge hl (by decide)) ⟨vp_in_nI hl (by decide), h _ (pl_push b hp)⟩
section Voices9
variable {x k : Int32} {f : Nat → Int32} {l : List Int32}
theorem s9_0 {n : Nat} {K : Int32 → Int32 → (Nat → Int32) → Prop} (hl : l.length < 20) (hp : pl_ok f l) (h : ∀ f', pl_ok f' (10 :: l) → K (x + k) (nI (l.length + 1)) f') : wpGS (n + 1) 0 (nI 0) x (nI l.length) k f K :=
  br_t rfl (b9 (by omega) hp h)
theorem s9_1 {n : Nat} {K : Int32 → Int32 → (Nat → Int32) → Prop} (hl : l.length < 19) (hp : pl_ok f l) (h : ∀ f', pl_ok f' (10 :: 20 :: l) → K (x + k - 4) (nI (l.length + 2)) f') : wpGS (n + 2) 0 (nI 1) x (nI l.length) k f K :=
  br_f (by decide) (br_t rfl (b9 (by omega) hp (fun f' hp' => ab9 (k := 1) (by decide) (s9_0 (l := 20 :: l) (by simp; omega) hp' h))))
theorem s9_s {n j : Nat} {K : Int32 → Int32 → (Nat → Int32) → Prop} (hj : j < 7) (hl : l.length < 18) (hp : pl_ok f l) (h : ∀ f', pl_ok f' (sl_ j l) → K (sv_ j x k) (nI (sl_ j l).length) f') : wpGS (n + 4) 0 (nI j) x (nI l.length) k f K := by
  rcases k_7 hj with rfl | rfl | rfl | rfl | rfl | rfl | rfl
  · exact s9_0 (by omega) hp h
  · exact s9_1 (by omega) hp h
  · exact br_f (by decide) (br_f (by decide) (br_t rfl (ab9 (k := 2) (by decide) (s9_0 (by omega) hp h))))
  · exact br_f (by decide) (br_f (by decide) (br_f (by decide) (br_t rfl (ab9 (k := 3) (by decide) (s9_0 (by omega) hp h)))))
  · exact br_f (by decide) (br_f (by decide) (br_f (by decide) (br_f (by decide) (br_t rfl (b9 (by omega) hp (fun f' hp' => ab9 (k := 4) (by decide) (s9_1 (l := 50 :: l) (by simp; omega) hp' h)))))))
  · exact br_f (by decide) (br_f (by decide) (br_f (by decide) (br_f (by decide) (br_f (by decide) (br_t rfl (ab9 (k := 5) (by decide) (br_f (by decide) (br_f (by decide) (br_t rfl (ab9 (k := 2) (by decide) (s9_0 (by omega) hp h)))))))))))
  · exact br_f (by decide) (br_f (by decide) (br_f (by decide) (br_f (by decide) (br_f (by decide) (br_f (by decide) (br_t rfl (b9 (by omega) hp h)))))))
end Voices9
section Voices9b
variable {x m : Int32} {f s : Nat → Int32} {l : List Int32} {sp kd : Nat}
theorem kn9 {K : Int32 → Prop} (hsp : sp < 6) (ek : s (14 + 3 * sp) = nI kd) (h : K (nI kd)) : wpX9_kindNow (nI sp) s K := by
  refine its9 (k := 0) hsp (by decide) ?_
  rw [show 14 + 0 + 3 * sp = 14 + 3 * sp by omega, ek]
  exact h
theorem mn9 {K : Int32 → Prop} (hsp : sp < 6) (em : s (15 + 3 * sp) = m) (h : K m) : wpX9_mNow (nI sp) s K := by
  refine its9 (k := 1) hsp (by decide) ?_
  rw [show 14 + 1 + 3 * sp = 15 + 3 * sp by omega, em]
  exact h
theorem e9_0 {n : Nat} {K : Int32 → Int32 → (Nat → Int32) → Prop} (hsp : sp < 6) (hkd : kd < 7) (ek : s (14 + 3 * sp) = nI kd) (hl : l.length < 16) (hp : pl_ok f l) (h : ∀ f', pl_ok f' (sl_ kd (11 :: l)) → K (sv_ kd x (nI sp) * 2) (nI (sl_ kd (11 :: l)).length) f') : wpGR (n + 1) 0 (nI 0) x (nI l.length) (nI sp) f s K :=
  br_t rfl (b9 (by omega) hp (fun f' hp' => kn9 hsp ek (s9_s (n := 4) (l := 11 :: l) hkd (by simp; omega) hp' h)))
theorem e9_2 {n : Nat} {K : Int32 → Int32 → (Nat → Int32) → Prop} (hsp : sp < 6) (hkd : kd < 7) (ek : s (14 + 3 * sp) = nI kd) (hl : l.length < 15) (hp : pl_ok f l) (h : ∀ f', pl_ok f' (sl_ kd (11 :: 30 :: l)) → K (0 - sv_ kd x (nI sp) * 2) (nI (sl_ kd (11 :: 30 :: l)).length) f') : wpGR (n + 2) 0 (nI 2) x (nI l.length) (nI sp) f s K :=
  br_f (by decide) (br_f (by decide) (br_t rfl (b9 (by omega) hp (fun f' hp' => ab9 (k := 2) (by decide) (e9_0 (l := 30 :: l) hsp hkd ek (by simp; omega) hp' h)))))
theorem e9_e {n j : Nat} {K : Int32 → Int32 → (Nat → Int32) → Prop} (hj : j < 7) (hsp : sp < 6) (hkd : kd < 7) (ek : s (14 + 3 * sp) = nI kd) (em : s (15 + 3 * sp) = m) (hl : l.length < 14) (hp : pl_ok f l) (h : ∀ f', pl_ok f' (el_ j kd l) → K (ev_ j kd x (nI sp) m) (nI (el_ j kd l).length) f') : wpGR (n + 4) 0 (nI j) x (nI l.length) (nI sp) f s K := by
  rcases k_7 hj with rfl | rfl | rfl | rfl | rfl | rfl | rfl
  · exact e9_0 hsp hkd ek (by omega) hp h
  · exact br_f (by decide) (br_t rfl (ab9 (k := 1) (by decide) (e9_0 hsp hkd ek (by omega) hp h)))
  · exact e9_2 hsp hkd ek (by omega) hp h
  · exact br_f (by decide) (br_f (by decide) (br_f (by decide) (br_t rfl (ab9 (k := 3) (by decide) (e9_0 hsp hkd ek (by omega) hp h)))))
  · exact br_f (by decide) (br_f (by decide) (br_f (by decide) (br_f (by decide) (br_t rfl (ab9 (k := 4) (by decide) (br_f (by decide) (br_t rfl (ab9 (k := 1) (by decide) (e9_0 hsp hkd ek (by omega) hp h)))))))))
  · exact br_f (by decide) (br_f (by decide) (br_f (by decide) (br_f (by decide) (br_f (by decide) (br_t rfl (b9 (by omega) hp (fun f' hp' => ab9 (k := 5) (by decide) (e9_2 (l := 60 :: l) hsp hkd ek (by simp; omega) hp' h))))))))
  · exact br_f (by decide) (br_f (by decide) (br_f (by decide) (br_f (by decide) (br_f (by decide) (br_f (by decide) (br_t rfl (b9 (by omega) hp (fun f' hp' => ab9 (k := 6) (by decide) (e9_0 (l := 71 :: l) hsp hkd ek (by simp; omega) hp' (fun f'' hp'' => mn9 hsp em (h f'' hp'')))))))))))
theorem a9_0 {n : Nat} {K : Int32 → Int32 → (Nat → Int32) → Prop} (hsp : sp < 6) (hkd : kd < 7) (ek : s (14 + 3 * sp) = nI kd) (em : s (15 + 3 * sp) = m) (hl : l.length < 12) (hp : pl_ok f l) (h : ∀ f', pl_ok f' (el_ kd kd (12 :: l)) → K (ev_ kd kd x (nI sp) m - m) (nI (el_ kd kd (12 :: l)).length) f') : wpGA (n + 1) 0 (nI 0) x (nI l.length) (nI sp) f s K :=
  br_t rfl (b9 (by omega) hp (fun f' hp' => kn9 hsp ek (e9_e (n := 4) (l := 12 :: l) hkd hsp hkd ek em (by simp; omega) hp' (fun f'' hp'' => mn9 hsp em (h f'' hp'')))))
theorem a9_a {n j : Nat} {K : Int32 → Int32 → (Nat → Int32) → Prop} (hj : j < 7) (hsp : sp < 6) (hkd : kd < 7) (ek : s (14 + 3 * sp) = nI kd) (em : s (15 + 3 * sp) = m) (hl : l.length < 11) (hp : pl_ok f l) (h : ∀ f', pl_ok f' (al_ j kd l) → K (av_ j kd x (nI sp) m) (nI (al_ j kd l).length) f') : wpGA (n + 4) 0 (nI j) x (nI l.length) (nI sp) f s K := by
  rcases k_7 hj with rfl | rfl | rfl | rfl | rfl | rfl | rfl
  · exact a9_0 hsp hkd ek em (by omega) hp h
  · exact br_f (by decide) (br_t rfl (ab9 (k := 1) (by decide) (a9_0 hsp hkd ek em (by omega) hp h)))
  · exact br_f (by decide) (br_f (by decide) (br_t rfl (ab9 (k := 2) (by decide) (a9_0 hsp hkd ek em (by omega) hp h))))
  · exact br_f (by decide) (br_f (by decide) (br_f (by decide) (br_t rfl (b9 (by omega) hp (fun f' hp' => ab9 (k := 3) (by decide) (a9_0 (l := 40 :: l) hsp hkd ek em (by simp; omega) hp' h))))))
  · exact br_f (by decide) (br_f (by decide) (br_f (by decide) (br_f (by decide) (br_t rfl (b9 (by omega) hp (fun f' hp' => ab9 (k := 4) (by decide) (br_f (by decide) (br_t rfl (ab9 (k := 1) (by decide) (a9_0 (l := 51 :: l) hsp hkd ek em (by simp; omega) hp' h))))))))))
  · exact br_f (by decide) (br_f (by decide) (br_f (by decide) (br_f (by decide) (br_f (by decide) (ab9 (k := 5) (by decide) (br_f (by decide) (br_f (by decide) (br_t rfl (ab9 (k := 2) (by decide) (a9_0 hsp hkd ek em (by omega) hp h))))))))))
  · exact br_f (by decide) (br_f (by decide) (br_f (by decide) (br_f (by decide) (br_f (by decide) (ab9 (k := 6) (by decide) (a9_0 hsp hkd ek em (by omega) hp h))))))
theorem p9_0 {n : Nat} {ip : Int32} {K : Int32 → Int32 → Int32 → (Nat → Int32) → Prop} (hsp : sp < 6) (em : s (15 + 3 * sp) = m) (hl : l.length < 20) (hp : pl_ok f l) (hz : m = nI sp ↔ m - nI sp = 0) (h1 : m = nI sp → ∀ f', pl_ok f' (13 :: l) → K 0 (nI (l.length + 1)) 1 f') (h0 : ¬ m = nI sp → ∀ f', pl_ok f' (13 :: l) → K (x / (m - nI sp)) (nI (l.length + 1)) 0 f') : wpGP (n + 1) 0 (nI 0) x (nI l.length) (nI sp) ip f s K :=
  br_t rfl (b9 (by omega) hp (fun f' hp' => mn9 hsp em ⟨fun e => br_t e (h1 (hz.mpr e) f' hp'), fun e => br_f e ⟨fun e1 => by
    have := h0 (fun q => e (hz.mp q)) f' hp'
    rw [e1, i_div1] at this
    exact this, fun e1 => ⟨e, h0 (fun q => e (hz.mp q)) f' hp'⟩⟩⟩))
theorem p9_1 {n : Nat} {ip : Int32} {K : Int32 → Int32 → Int32 → (Nat → Int32) → Prop} (hsp : sp < 6) (hkd : kd < 7) (ek : s (14 + 3 * sp) = nI kd) (em : s (15 + 3 * sp) = m) (hl : l.length < 10) (hp : pl_ok f l) (hz : m = nI sp ↔ m - nI sp = 0) (h1 : m = nI sp → ∀ f', pl_ok f' (13 :: 21 :: l) → K 0 (nI (l.length + 2)) 1 f') (h0 : ¬ m = nI sp → ∀ f', pl_ok f' (el_ kd kd (13 :: 21 :: l)) → K (x / (m - nI sp) + ev_ kd kd 1 (nI sp) m) (nI (el_ kd kd (13 :: 21 :: l)).length) 0 f') : wpGP (n + 2) 0 (nI 1) x (nI l.length) (nI sp) ip f s K :=
  br_f (by decide) (br_t rfl (b9 (by omega) hp (fun f' hp' => ab9 (k := 1) (by decide) (p9_0 (l := 21 :: l) hsp em (by simp; omega) hp' hz (fun e f'' hp'' => br_f (by decide) (h1 e f'' hp'')) (fun e f'' hp'' => br_t rfl (kn9 hsp ek (e9_e (n := 4) (l := 13 :: 21 :: l) hkd hsp hkd ek em (by simp; omega) hp'' (h0 e))))))))
end Voices9b
theorem pl_nil2 (f : Nat → Int32) : pl_ok f ([] : List Int32) := pl_nil f
theorem pl_rv {l : List Int32} {f g : Nat → Int32} (hl : l.length ≤ 30) (hf : pl_ok f l) (hg : pl_ok g l) : rv (nI l.length) (nI l.length) f g := by
  refine ⟨rfl, in_mk (n := 30) hl (by decide), fun i hi => ?_⟩
  rw [i_tn (by omega)] at hi
  have a := hf (l.length - 1 - i) (by omega)
  have b := hg (l.length - 1 - i) (by omega)
  rw [show l.length - 1 - (l.length - 1 - i) = i by omega] at a b
  rw [a, b]
set_option maxRecDepth 20000 in
theorem pc_voice {c d : Nat → Int32} {A B : Nat → Nat → Int32} {nm : Nat} {x1 : Int32} {x2 : Int32} {x3 : Int32} (hR : rl c A d B nm) : wpX8_voice x1 x2 x3 (c 1) (A 36) (A 3) (A 4) (c 37) (c 38) (c 39) (c 40) (c 41) (A 35) (fun r8 u0 u1 u2 u3 u4 u5 u6 => wpX9_voice x1 x2 x3 (d 7) (d 8) (d 9) (B 0) (B 3) (B 10) (fun r9 w0 w1 w2 w3 w4 => r8 = r9 ∧ rl (va_up (va_up (va_up (va_up (va_up c 37 u1) 38 u2) 39 u3) 40 u4) 41 u5) (va_up (va_up A 36 u0) 35 u6) (va_up (va_up (va_up d 7 w0) 8 w1) 9 w2) (va_up (va_up B 3 w3) 10 w4) nm)) := by
  obtain ⟨hw, hi, ht0, ht1, hm0, hm1, him, her, hv, hs0, hs1, hs2, hs3, hnm⟩ := id hR
  obtain ⟨R, hR6, e7⟩ := in_nI (n := 6) hi.2.2.2.2.2.2.1
  have ec : c 1 = nI R := hw.2.2.2.1.trans e7
  unfold wpX8_voice wpX9_voice
  rw [ec]
  rcases pk_ix x1 (show R < 2 ^ 31 by omega) with hx | hx | ⟨j, hj, rfl⟩
  · refine r8_n (R := R) (Or.inl hx) (br_t rfl (e8 (k := 1) (by decide) ?_))
    refine r9_n e7 (by omega) (Or.inl hx) (br_t rfl (e9 (k := 1) (by decide) ?_))
    exact ⟨rfl, hw, hi, ht0, ht1, hm0, hm1, him, er_up her (k := 1) (by decide), hv, hs0, hs1, hs2, hs3, hnm⟩
  · refine r8_n (R := R) (Or.inr hx) (br_t rfl (e8 (k := 1) (by decide) ?_))
    refine r9_n e7 (by omega) (Or.inr hx) (br_t rfl (e9 (k := 1) (by decide) ?_))
    exact ⟨rfl, hw, hi, ht0, ht1, hm0, hm1, him, er_up her (k := 1) (by decide), hv, hs0, hs1, hs2, hs3, hnm⟩
  refine r8_t hj (by omega) (br_f (by decide) ?_)
  rcases in_dec x2 3 (by decide) with hx | ⟨v, hv3, rfl⟩
  · refine w8_f (n := 3) (by decide) hx (br_t rfl (e8 (k := 1) (by decide) ?_))
    refine r9_t e7 hj (by omega) (br_f (by decide) (w9_f (n := 3) (by decide) hx (br_t rfl (e9 (k := 1) (by decide) ?_))))
    exact ⟨rfl, hw, hi, ht0, ht1, hm0, hm1, him, er_up her (k := 1) (by decide), hv, hs0, hs1, hs2, hs3, hnm⟩
  have hj6 : j < 6 := by omega
  obtain ⟨kd, hkd, ek⟩ := in_nI (n := 6) (hi.2.2.2.2.2.2.2.2.1 j hj6)
  have hkd7 : kd < 7 := by omega
  obtain ⟨m, hm9, em⟩ := in_nI (n := 9) (hi.2.2.2.2.2.2.2.2.2.1 j hj6)
  have ek8 : A 3 j = nI kd := (hw.2.2.2.2.2.2.2.2.2.1 j hj6).trans ek
  have em8 : A 4 j = nI m := (hw.2.2.2.2.2.2.2.2.2.2.1 j hj6).trans em
  have hz : nI m = nI j ↔ nI m - nI j = 0 := by
    refine ⟨fun e => by rw [e]; exact Int32.sub_self _, fun e => ?_⟩
    have e2 := congrArg Int32.toInt e
    rw [i_sub (by rw [nI_toInt (by omega), nI_toInt (by omega)]; omega) (by rw [nI_toInt (by omega), nI_toInt (by omega)]; omega), nI_toInt (by omega), nI_toInt (by omega), Int32.toInt_zero] at e2
    rw [show m = j by omega]
  refine w8_t (n := 3) hv3 (by decide) (br_f (by decide) ⟨vp_in_nI hj6 (by decide), vp_in_nI hj6 (by decide), ?_⟩)
  rw [i_cl (show j < 2147483648 by omega), ek8, em8]
  unfold wpX6_speak wpcX6_own
  have p0 : pl_ok (A 35) [] := pl_nil _
  have q0 : pl_ok (B 10) [] := pl_nil _
  rcases (show v = 0 ∨ v = 1 ∨ v = 2 ∨ v = 3 by omega) with rfl | rfl | rfl | rfl
  · refine g_own (v8_s (n := 55) (l := []) hkd7 (by decide) (by decide) p0 (fun f' hf' => br_t rfl ?_))
    refine r9_t e7 hj (by omega) (br_f (by decide) (w9_t (n := 3) hv3 (by decide) (br_f (by decide) (kn9 hj6 ek (br_t rfl (s9_s (n := 4) (l := []) hkd7 (by decide) q0 (fun g' hg' => br_t rfl ?_)))))))
    have hle := sl_le kd []
    exact ⟨rfl, hw, hi, ht0, ht1, hm0, hm1, him, her, pl_rv (by simp at hle; omega) hf' hg', hs0, hs1, hs2, hs3, hnm⟩
  · refine g_own (v8_e (n := 46) (l := []) hkd7 hkd7 (by decide) (by decide) p0 (fun f' hf' => br_t rfl ?_))
    refine r9_t e7 hj (by omega) (br_f (by decide) (w9_t (n := 3) hv3 (by decide) (br_f (by decide) (kn9 hj6 ek (br_f (by decide) (br_t rfl (e9_e (n := 4) (l := []) hkd7 hj6 hkd7 ek em (by decide) q0 (fun g' hg' => br_t rfl ?_))))))))
    have hle := el_le kd kd []
    exact ⟨rfl, hw, hi, ht0, ht1, hm0, hm1, him, her, pl_rv (by simp at hle; omega) hf' hg', hs0, hs1, hs2, hs3, hnm⟩
  · refine g_own (v8_a (n := 40) (l := []) hkd7 hkd7 (by decide) (by decide) p0 (fun f' hf' => br_t rfl ?_))
    refine r9_t e7 hj (by omega) (br_f (by decide) (w9_t (n := 3) hv3 (by decide) (br_f (by decide) (kn9 hj6 ek (br_f (by decide) (br_f (by decide) (br_t rfl (a9_a (n := 4) (l := []) hkd7 hj6 hkd7 ek em (by decide) q0 (fun g' hg' => br_t rfl ?_)))))))))
    have hle := al_le kd kd []
    exact ⟨rfl, hw, hi, ht0, ht1, hm0, hm1, him, her, pl_rv (by simp at hle; omega) hf' hg', hs0, hs1, hs2, hs3, hnm⟩
  · by_cases hp : kd = 1 ∨ kd = 4
    · have hb : tb_bodies (4 * kd + 3) = 21 := by rcases hp with rfl | rfl <;> rfl
      have ref : ∀ F : Int32 → Int32 → Int32 → (Nat → Int32) → Prop, (∀ n, wpGP (n + 2) 0 (nI 1) x3 (nI ([] : List Int32).length) (nI j) 0 (B 10) (B 0) F) → wpGP 8 0 (nI kd) x3 (nI ([] : List Int32).length) (nI j) 0 (B 10) (B 0) F := by
        intro F hF
        rcases hp with rfl | rfl
        · exact hF 6
        · exact br_f (by decide) (br_f (by decide) (ab9 (k := 4) (by decide) (hF 5)))
      refine g_own (v8_21 (n := 43) (l := []) hkd7 hkd7 hb (by decide) (by decide) (fun e => fun z => e (hz.mpr z)) p0 (fun e f' hf' => br_f (by decide) (e8 (k := 6) (by decide) ?_)) (fun e f' hf' => br_t rfl ?_))
      · refine r9_t e7 hj (by omega) (br_f (by decide) (w9_t (n := 3) hv3 (by decide) (br_f (by decide) (kn9 hj6 ek (br_f (by decide) (br_f (by decide) (br_f (by decide) (ref _ (fun n => p9_1 (l := []) hj6 hkd7 ek em (by decide) q0 hz (fun _ g' hg' => br_f (by decide) (e9 (k := 6) (by decide) ?_)) (fun e2 => absurd e e2))))))))))
        exact ⟨rfl, hw, hi, ht0, ht1, hm0, hm1, him, er_up her (k := 6) (by decide), pl_rv (l := [13, 21]) (by decide) hf' hg', hs0, hs1, hs2, hs3, hnm⟩
      · refine r9_t e7 hj (by omega) (br_f (by decide) (w9_t (n := 3) hv3 (by decide) (br_f (by decide) (kn9 hj6 ek (br_f (by decide) (br_f (by decide) (br_f (by decide) (ref _ (fun n => p9_1 (l := []) hj6 hkd7 ek em (by decide) q0 hz (fun e2 => absurd e2 e) (fun _ g' hg' => br_t rfl ?_))))))))))
        have hle := el_le kd kd [13, 21]
        exact ⟨rfl, hw, hi, ht0, ht1, hm0, hm1, him, her, pl_rv (by simp at hle; omega) hf' hg', hs0, hs1, hs2, hs3, hnm⟩
    · have hb : tb_bodies (4 * kd + 3) = 13 := by
        rcases k_7 hkd7 with rfl | rfl | rfl | rfl | rfl | rfl | rfl
        · rfl
        · exact absurd (Or.inl rfl) hp
        · rfl
        · rfl
        · exact absurd (Or.inr rfl) hp
        · rfl
        · rfl
      have ref : ∀ F : Int32 → Int32 → Int32 → (Nat → Int32) → Prop, (∀ n, wpGP (n + 1) 0 (nI 0) x3 (nI ([] : List Int32).length) (nI j) 0 (B 10) (B 0) F) → wpGP 8 0 (nI kd) x3 (nI ([] : List Int32).length) (nI j) 0 (B 10) (B 0) F := by
        intro F hF
        rcases k_7 hkd7 with rfl | rfl | rfl | rfl | rfl | rfl | rfl
        · exact hF 7
        · exact absurd (Or.inl rfl) hp
        · exact br_f (by decide) (br_f (by decide) (ab9 (k := 2) (by decide) (hF 6)))
        · exact br_f (by decide) (br_f (by decide) (ab9 (k := 3) (by decide) (hF 6)))
        · exact absurd (Or.inr rfl) hp
        · exact br_f (by decide) (br_f (by decide) (ab9 (k := 5) (by decide) (br_f (by decide) (br_f (by decide) (ab9 (k := 2) (by decide) (hF 5))))))
        · exact br_f (by decide) (br_f (by decide) (ab9 (k := 6) (by decide) (hF 6)))
      refine g_own (v8_13 (n := 61) (l := []) hkd7 hb (by decide) (by decide) (fun e => fun z => e (hz.mpr z)) p0 (fun e f' hf' => br_f (by decide) (e8 (k := 6) (by decide) ?_)) (fun e f' hf' => br_t rfl ?_))
      · refine r9_t e7 hj (by omega) (br_f (by decide) (w9_t (n := 3) hv3 (by decide) (br_f (by decide) (kn9 hj6 ek (br_f (by decide) (br_f (by decide) (br_f (by decide) (ref _ (fun n => p9_0 (l := []) hj6 em (by decide) q0 hz (fun _ g' hg' => br_f (by decide) (e9 (k := 6) (by decide) ?_)) (fun e2 => absurd e e2))))))))))
        exact ⟨rfl, hw, hi, ht0, ht1, hm0, hm1, him, er_up her (k := 6) (by decide), pl_rv (l := [13]) (by decide) hf' hg', hs0, hs1, hs2, hs3, hnm⟩
      · refine r9_t e7 hj (by omega) (br_f (by decide) (w9_t (n := 3) hv3 (by decide) (br_f (by decide) (kn9 hj6 ek (br_f (by decide) (br_f (by decide) (br_f (by decide) (ref _ (fun n => p9_0 (l := []) hj6 em (by decide) q0 hz (fun e2 => absurd e2 e) (fun _ g' hg' => br_t rfl ?_))))))))))
        exact ⟨rfl, hw, hi, ht0, ht1, hm0, hm1, him, her, pl_rv (l := [13]) (by decide) hf' hg', hs0, hs1, hs2, hs3, hnm⟩


/-! the question -/
def gn_ (p : Nat → Bool) (tv : Nat → Nat) : Nat → (Nat → Nat) × Nat
  | 0 => (fun _ => 0, 0)
  | k + 1 => if p k = true then ((fun i => if i = tv k then (gn_ p tv k).1 i + 1 else (gn_ p tv k).1 i), if (gn_ p tv k).2 < (gn_ p tv k).1 (tv k) + 1 then (gn_ p tv k).1 (tv k) + 1 else (gn_ p tv k).2) else gn_ p tv k
theorem gn_b (p : Nat → Bool) (tv : Nat → Nat) : ∀ k, (∀ i, (gn_ p tv k).1 i ≤ k) ∧ (gn_ p tv k).2 ≤ k := by
  intro k
  induction k with
  | zero => exact ⟨fun i => Nat.le_refl _, Nat.le_refl _⟩
  | succ k ih =>
    obtain ⟨h1, h2⟩ := ih
    rw [gn_]
    by_cases hp : p k = true
    · rw [if_pos hp]
      refine ⟨fun i => ?_, ?_⟩
      · have := h1 i
        dsimp only
        split <;> omega
      · have := h1 (tv k)
        dsimp only
        split <;> omega
    · rw [if_neg hp]
      exact ⟨fun i => Nat.le_succ_of_le (h1 i), Nat.le_succ_of_le h2⟩
theorem gn_s1 (p : Nat → Bool) (tv : Nat → Nat) {k : Nat} (hp : p k = true) : (∀ i, (gn_ p tv (k + 1)).1 i = if i = tv k then (gn_ p tv k).1 i + 1 else (gn_ p tv k).1 i) ∧ (gn_ p tv (k + 1)).2 = if (gn_ p tv k).2 < (gn_ p tv k).1 (tv k) + 1 then (gn_ p tv k).1 (tv k) + 1 else (gn_ p tv k).2 := by
  rw [gn_, if_pos hp]
  exact ⟨fun i => rfl, rfl⟩
theorem gn_s0 (p : Nat → Bool) (tv : Nat → Nat) {k : Nat} (hp : ¬ p k = true) : gn_ p tv (k + 1) = gn_ p tv k := by
  rw [gn_, if_neg hp]
/-- the turn by the signs of an event -/
def tq_ (st : Nat → Int32) (n : Nat) (e y : Int32) (b : Nat) : Int32 := tx_g st (nI n) 30 (nI b) (e - e / 16 * 16) (y - y / 8 * 8)
def tqn (st : Nat → Int32) (n : Nat) (e y : Int32) (l : Nat) (q : Nat) : Nat := (tq_ st n e y (sgn l e (nI q))).toInt.toNat
theorem tq_n (st : Nat → Int32) (n : Nat) (e y : Int32) (l q : Nat) : tqn st n e y l q ≤ 30 ∧ tq_ st n e y (sgn l e (nI q)) = nI (tqn st n e y l q) := by
  obtain ⟨t, ht, et⟩ := in_nI (n := 30) (tx_g_in (st := st) (len := nI n) (h := 30) (a := nI (sgn l e (nI q))) (b := e - e / 16 * 16) (c := y - y / 8 * 8) (by decide))
  have e2 : tq_ st n e y (sgn l e (nI q)) = nI t := et
  unfold tqn
  rw [e2, i_tn (by omega)]
  exact ⟨ht, rfl⟩
theorem c_ggl {st secrets tbs : Nat → Int32} {p : Nat → Bool} {n l e : Nat} {y : Int32} {K : Int32 → (Nat → Int32) → Prop} (hl : l < 2) (he : e ≤ 255) (hsec : ∀ q, q < 256 → p q = true → secrets (cn_ p q) = nI q) (htb : ∀ b, b < 9 → tbs b = tq_ st n (nI e) y b) (hk : ∀ z, K (nI (gn_ p (tqn st n (nI e) y l) 256).2) z) :
    ∀ (m q : Nat) (z : Nat → Int32), q + m = 256 → (∀ i, i < 31 → z i = nI ((gn_ p (tqn st n (nI e) y l) q).1 i)) → wpX5_greatestGroup_L13 (cn_ p 256 - cn_ p q + 1) (nI l) (nI e) (nI (gn_ p (tqn st n (nI e) y l) q).2) (nI (cn_ p q)) (nI (cn_ p 256)) z secrets tbs K := by
  intro m
  induction m with
  | zero =>
    intro q z h hz
    have eq : q = 256 := by omega
    subst eq
    rw [Nat.sub_self, wpX5_greatestGroup_L13]
    have := cn_le p 256
    exact br_t (nI_le (Nat.le_refl _) (by omega)) (hk z)
  | succ m ih =>
    intro q z h hz
    have hc := cn_le p 256
    have hcq := cn_le p q
    by_cases hp : p q = true
    · have ec : cn_ p (q + 1) = cn_ p q + 1 := by rw [cn_, if_pos hp]
      have hm := cn_m p (show q + 1 ≤ 256 by omega)
      obtain ⟨b1, b2⟩ := gn_b p (tqn st n (nI e) y l) q
      obtain ⟨g1, g2⟩ := gn_s1 p (tqn st n (nI e) y l) hp
      obtain ⟨t1, t2⟩ := tq_n st n (nI e) y l q
      have hb1 := b1 (tqn st n (nI e) y l q)
      rw [show cn_ p 256 - cn_ p q + 1 = (cn_ p 256 - cn_ p (q + 1) + 1) + 1 by omega, wpX5_greatestGroup_L13]
      refine br_f (nI_ge (by omega) (by omega)) ⟨vp_in_nI (by omega) (by decide), ?_⟩
      rw [i_cl (show cn_ p q < 2147483648 by omega), hsec q (by omega) hp]
      refine s8 hl he ?_
      have hs9 := sgn_le l (nI e) (nI q)
      refine br_f (show ¬ nI 9 ≤ nI (sgn l (nI e) (nI q)) from nI_ge (by omega) (by decide)) ?_
      rw [i_cl (show sgn l (nI e) (nI q) < 2147483648 by omega), htb _ (by omega), t2, i_cl (show tqn st n (nI e) y l q < 2147483648 by omega)]
      refine ⟨vp_in_nI (by omega) (by decide), br_f (nI_pos (by omega)) (br_f (show ¬ nI 30 < nI (tqn st n (nI e) y l q) from nI_nlt t1 (by decide)) ?_)⟩
      rw [pk_us, hz _ (by omega), nI_1, nI_1]
      refine ⟨vp_in_nI (by omega) (by decide), vp_in_nI (by omega) (by decide), vp_in_nI (by omega) (by decide), ?_⟩
      have hh := ih (q + 1) (upd z (tqn st n (nI e) y l q) (nI ((gn_ p (tqn st n (nI e) y l) q).1 (tqn st n (nI e) y l q) + 1))) (by omega) (fun i hi => by
        rw [g1 i]
        by_cases ei : i = tqn st n (nI e) y l q
        · rw [if_pos ei, ei, pk_us]
        · rw [if_neg ei, pk_un ei]; exact hz i hi)
      rw [g2, ec] at hh
      rw [ec]
      by_cases hlt : (gn_ p (tqn st n (nI e) y l) q).2 < (gn_ p (tqn st n (nI e) y l) q).1 (tqn st n (nI e) y l q) + 1
      · rw [if_pos hlt] at hh
        rw [if_pos (nI_lt hlt (by omega))]
        exact hh
      · rw [if_neg hlt] at hh
        rw [if_neg (nI_nlt (by omega) (by omega))]
        exact hh
    · have ec : cn_ p (q + 1) = cn_ p q := by rw [cn_, if_neg hp]
      have eg := gn_s0 p (tqn st n (nI e) y l) hp
      have hh := ih (q + 1) z (by omega) (fun i hi => by rw [eg]; exact hz i hi)
      rw [eg, ec] at hh
      exact hh
theorem c_gg {st secrets tbs groups : Nat → Int32} {p : Nat → Bool} {n l e : Nat} {y : Int32} {K : Int32 → (Nat → Int32) → Prop} (hl : l < 2) (he : e ≤ 255) (hsec : ∀ q, q < 256 → p q = true → secrets (cn_ p q) = nI q) (htb : ∀ b, b < 9 → tbs b = tq_ st n (nI e) y b) (hk : ∀ z, K (nI (gn_ p (tqn st n (nI e) y l) 256).2) z) : wpX5_greatestGroup (nI l) (nI e) (nI (cn_ p 256)) groups secrets tbs K := by
  unfold wpX5_greatestGroup
  exact f_fill (by decide) (fun z hz _ => ⟨cn_ p 256 - cn_ p 0 + 1, c_ggl hl he hsec htb hk 256 0 z rfl (fun i hi => hz i hi)⟩)
/-- the best so far -/
def bq_ (x : Int32) (g : Nat → Nat) : Nat → Int32 × Nat
  | 0 => (x, 257)
  | k + 1 => if (bq_ x g k).2 ≤ g k then bq_ x g k else (nI k, g k)
theorem bq_le (x : Int32) (g : Nat → Nat) : ∀ k, (bq_ x g k).2 ≤ 257 := by
  intro k
  induction k with
  | zero => exact Nat.le_refl _
  | succ k ih =>
    rw [bq_]
    split
    · exact ih
    · show g k ≤ 257
      omega
theorem bq_c {x x' : Int32} {g : Nat → Nat} (h0 : g 0 < 257) : ∀ k, bq_ x g (k + 1) = bq_ x' g (k + 1) := by
  intro k
  induction k with
  | zero =>
    rw [bq_, bq_, bq_, bq_, if_neg (by show ¬ 257 ≤ g 0; omega), if_neg (by show ¬ 257 ≤ g 0; omega)]
  | succ k ih => rw [bq_, ih, ← bq_]
theorem c_sqi {st secrets groups : Nat → Int32} {n l e : Nat} {hi sa sb y be bg ft : Int32} {KO : Int32 → Int32 → Int32 → Int32 → (Nat → Int32) → (Nat → Int32) → (Nat → Int32) → (Nat → Int32) → Prop} {K : Int32 → Int32 → (Nat → Int32) → (Nat → Int32) → (Nat → Int32) → (Nat → Int32) → Prop} (hn : n ≤ 60) (hok : tx_ok st n)
    (hk : ∀ mem' sk' tbs', rm 30 9 16 hi sa sb (nI n) st mem' → (∀ b, b < 9 → tbs' b = tq_ st n (nI e) y b) → wpX5_greatestGroup (nI l) (nI e) ft groups secrets tbs' (fun r65 u65_0 => ((bg ≤ r65 → KO (nI l) (nI e + 1) be bg u65_0 tbs' mem' sk') ∧ (¬ bg ≤ r65 → KO (nI l) (nI e + 1) (nI e) r65 u65_0 tbs' mem' sk')))) :
    ∀ (m b : Nat) (mem sk tbs : Nat → Int32), b + m = 9 → rm 30 9 16 hi sa sb (nI n) st mem → (∀ i, i < b → tbs i = tq_ st n (nI e) y i) → wpX5_seekQuestion_L19 KO (m + 1) (nI l) (nI e) (nI b) ft be bg groups secrets tbs y hi sa sb (nI n) 1152 mem st sk K := by
  intro m
  induction m with
  | zero =>
    intro b mem sk tbs h hm ht
    have eb : b = 9 := by omega
    subst eb
    rw [wpX5_seekQuestion_L19]
    exact br_t (by decide) (hk mem sk tbs hm ht)
  | succ m ih =>
    intro b mem sk tbs h hm ht
    rw [wpX5_seekQuestion_L19]
    refine br_f (show ¬ nI 9 ≤ nI b from nI_ge (by omega) (by decide)) (g_gives9 hn hok hm rfl (fun mem' sk' hm' => ⟨vp_in_nI (by omega) (by decide), ?_⟩))
    rw [i_cl (show b < 2147483648 by omega), nI_1]
    refine ih (b + 1) mem' sk' _ (by omega) hm' (fun i hi => ?_)
    by_cases ei : i = b
    · subst ei; exact pk_us
    · rw [pk_un ei]; exact ht i (by omega)
theorem c_sql {st secrets : Nat → Int32} {p : Nat → Bool} {n l : Nat} {hi sa sb y x : Int32} {K : Int32 → Int32 → (Nat → Int32) → (Nat → Int32) → (Nat → Int32) → (Nat → Int32) → Prop} (hl : l < 2) (hn : n ≤ 60) (hok : tx_ok st n) (hsec : ∀ q, q < 256 → p q = true → secrets (cn_ p q) = nI q)
    (hk : ∀ groups tbs mem' sk', rm 30 9 16 hi sa sb (nI n) st mem' → K (bq_ x (fun e => (gn_ p (tqn st n (nI e) y l) 256).2) 256).1 (nI (bq_ x (fun e => (gn_ p (tqn st n (nI e) y l) 256).2) 256).2) groups tbs mem' sk') :
    ∀ (m e : Nat) (groups tbs mem sk : Nat → Int32), e + m = 256 → rm 30 9 16 hi sa sb (nI n) st mem → wpX5_seekQuestion_L9 (m + 1) (nI l) (nI e) (nI (cn_ p 256)) (bq_ x (fun e => (gn_ p (tqn st n (nI e) y l) 256).2) e).1 (nI (bq_ x (fun e => (gn_ p (tqn st n (nI e) y l) 256).2) e).2) groups secrets tbs y hi sa sb (nI n) 1152 mem st sk K := by
  intro m
  induction m with
  | zero =>
    intro e groups tbs mem sk h hm
    have ee : e = 256 := by omega
    subst ee
    rw [wpX5_seekQuestion_L9]
    exact br_t (by decide) (hk groups tbs mem sk hm)
  | succ m ih =>
    intro e groups tbs mem sk h hm
    have hb := bq_le x (fun e => (gn_ p (tqn st n (nI e) y l) 256).2) e
    have hg := (gn_b p (tqn st n (nI e) y l) 256).2
    rw [wpX5_seekQuestion_L9]
    refine br_f (show ¬ nI 256 ≤ nI e from nI_ge (by omega) (by decide)) ⟨10, ?_⟩
    refine c_sqi hn hok (fun mem' sk' tbs' hm' ht' => c_gg hl (by omega) hsec ht' (fun z => ?_)) 9 0 mem sk tbs rfl hm (fun i hi => absurd hi (Nat.not_lt_zero i))
    have ec : bq_ x (fun e => (gn_ p (tqn st n (nI e) y l) 256).2) (e + 1) = if (bq_ x (fun e => (gn_ p (tqn st n (nI e) y l) 256).2) e).2 ≤ (gn_ p (tqn st n (nI e) y l) 256).2 then bq_ x (fun e => (gn_ p (tqn st n (nI e) y l) 256).2) e else (nI e, (gn_ p (tqn st n (nI e) y l) 256).2) := rfl
    rw [nI_1]
    refine ⟨fun q => ?_, fun q => ?_⟩
    · rw [if_pos ((nI_leI (by omega) (by omega)).mp q)] at ec
      have hh := ih (e + 1) z tbs' mem' sk' (by omega) hm'
      rw [ec] at hh
      exact hh
    · rw [if_neg (fun w => q (nI_le w (by omega)))] at ec
      have hh := ih (e + 1) z tbs' mem' sk' (by omega) hm'
      rw [ec] at hh
      exact hh
theorem r_mal {s df : Nat → Int32} {st : Nat → Int32} {p : Nat → Bool} {n l e : Nat} {y : Int32} {K : Int32 → (Nat → Int32) → (Nat → Int32) → (Nat → Int32) → (Nat → Int32) → Prop} (hl : l < 2) (he : e ≤ 255) (hdf : ∀ q, q < 256 → df q = b01 (p q)) {nm pl tb : Nat → Int32} (htb : ∀ b, b < 9 → tb b = tq_ st n (nI e) y b)
    (hk : ∀ z, K (nI (gn_ p (tqn st n (nI e) y l) 256).2) nm pl tb z) : ∀ (m q : Nat) (z : Nat → Int32), q + m = 256 → (∀ i, i < 31 → z i = nI ((gn_ p (tqn st n (nI e) y l) q).1 i)) → wpX9_mostAlike_L58 (m + 1) (nI l) (nI e) (nI (gn_ p (tqn st n (nI e) y l) q).2) (nI q) s nm pl tb z df K := by
  intro m
  induction m with
  | zero =>
    intro q z h hz
    have eq : q = 256 := by omega
    subst eq
    rw [wpX9_mostAlike_L58]
    exact br_t (by decide) (hk z)
  | succ m ih =>
    intro q z h hz
    rw [wpX9_mostAlike_L58]
    refine br_f (show ¬ nI 256 ≤ nI q from nI_ge (by omega) (by decide)) ⟨vp_in_nI (by omega) (by decide), ?_⟩
    rw [i_cl (show q < 2147483648 by omega), hdf q (by omega)]
    by_cases hp : p q = true
    · obtain ⟨b1, b2⟩ := gn_b p (tqn st n (nI e) y l) q
      obtain ⟨g1, g2⟩ := gn_s1 p (tqn st n (nI e) y l) hp
      obtain ⟨t1, t2⟩ := tq_n st n (nI e) y l q
      have hb1 := b1 (tqn st n (nI e) y l q)
      rw [hp]
      refine br_f (by decide) (s9 hl he ?_)
      have hs9 := sgn_le l (nI e) (nI q)
      rw [i_cl (show sgn l (nI e) (nI q) < 2147483648 by omega), htb _ (by omega), t2, i_cl (show tqn st n (nI e) y l q < 2147483648 by omega), pk_us, hz _ (by omega), nI_1, nI_1]
      refine ⟨vp_in_nI (by omega) (by decide), vp_in_nI (by omega) (by decide), vp_in_nI (by omega) (by decide), vp_in_nI (by omega) (by decide), ?_⟩
      have hh := ih (q + 1) (upd z (tqn st n (nI e) y l q) (nI ((gn_ p (tqn st n (nI e) y l) q).1 (tqn st n (nI e) y l q) + 1))) (by omega) (fun i hi => by
        rw [g1 i]
        by_cases ei : i = tqn st n (nI e) y l q
        · rw [if_pos ei, ei, pk_us]
        · rw [if_neg ei, pk_un ei]; exact hz i hi)
      rw [g2] at hh
      by_cases hlt : (gn_ p (tqn st n (nI e) y l) q).2 < (gn_ p (tqn st n (nI e) y l) q).1 (tqn st n (nI e) y l q) + 1
      · rw [if_pos hlt] at hh
        exact br_f (nI_ge hlt (by omega)) ⟨vp_in_nI (by omega) (by decide), hh⟩
      · rw [if_neg hlt] at hh
        exact br_t (nI_le (by omega) (by omega)) hh
    · have hp2 : p q = false := by simpa using hp
      have eg := gn_s0 p (tqn st n (nI e) y l) hp
      have hh := ih (q + 1) z (by omega) (fun i hi => by rw [eg]; exact hz i hi)
      rw [eg] at hh
      rw [hp2, nI_1]
      exact br_t rfl hh
theorem r_maz {s df nm pl tb : Nat → Int32} {l e : Nat} {K : Int32 → (Nat → Int32) → (Nat → Int32) → (Nat → Int32) → (Nat → Int32) → Prop} (hk : ∀ z : Nat → Int32, (∀ i, i < 31 → z i = 0) → ∃ n1, wpX9_mostAlike_L58 n1 (nI l) (nI e) 0 0 s nm pl tb z df K) :
    ∀ (m j : Nat) (z : Nat → Int32), j + m = 31 → (∀ i, i < j → z i = 0) → wpX9_mostAlike_L34 (m + 1) (nI l) (nI e) (nI j) s nm pl tb z df K := by
  intro m
  induction m with
  | zero =>
    intro j z h hz
    have ej : j = 31 := by omega
    subst ej
    rw [wpX9_mostAlike_L34]
    exact br_t (by decide) (hk z hz)
  | succ m ih =>
    intro j z h hz
    rw [wpX9_mostAlike_L34]
    refine br_f (show ¬ nI 30 < nI j from nI_nlt (by omega) (by decide)) ⟨vp_in_nI (by omega) (by decide), ?_⟩
    rw [i_cl (show j < 2147483648 by omega), nI_1]
    refine ih (j + 1) _ (by omega) (fun i hi => ?_)
    by_cases ei : i = j
    · subst ei; exact pk_us
    · rw [pk_un ei]; exact hz i (by omega)
theorem r_mat {s df st many : Nat → Int32} {n l e : Nat} {K : Int32 → (Nat → Int32) → (Nat → Int32) → (Nat → Int32) → (Nat → Int32) → Prop} (hrt : rt 0 (nI n) st s) (hn : n ≤ 60) (hk : ∀ nm pl tb : Nat → Int32, (∀ b, b < 9 → tb b = tq_ st n (nI e) (s 0) b) → ∃ n1, wpX9_mostAlike_L34 n1 (nI l) (nI e) 0 s nm pl tb many df K) :
    ∀ (m b : Nat) (nm pl tb : Nat → Int32), b + m = 9 → (∀ i, i < b → tb i = tq_ st n (nI e) (s 0) i) → wpX9_mostAlike_L2 (m + 1) (nI l) (nI e) (nI b) s nm pl tb many df K := by
  intro m
  induction m with
  | zero =>
    intro b nm pl tb h ht
    have eb : b = 9 := by omega
    subst eb
    rw [wpX9_mostAlike_L2]
    exact br_t (by decide) (hk nm pl tb ht)
  | succ m ih =>
    intro b nm pl tb h ht
    rw [wpX9_mostAlike_L2]
    refine br_f (show ¬ nI 9 ≤ nI b from nI_ge (by omega) (by decide)) ⟨vp_in_iff.mpr (by decide), ?_⟩
    rw [c_0]
    refine t9 hrt hn (fun nm' p' => ⟨vp_in_nI (by omega) (by decide), ?_⟩)
    rw [i_cl (show b < 2147483648 by omega), nI_1]
    refine ih (b + 1) nm' p' _ (by omega) (fun i hi => ?_)
    by_cases ei : i = b
    · subst ei; exact pk_us
    · rw [pk_un ei]; exact ht i (by omega)
theorem r_ma {s df st many nm pl tb : Nat → Int32} {p : Nat → Bool} {n l e : Nat} {K : Int32 → (Nat → Int32) → (Nat → Int32) → (Nat → Int32) → (Nat → Int32) → Prop} (hl : l < 2) (he : e ≤ 255) (hdf : ∀ q, q < 256 → df q = b01 (p q)) (hrt : rt 0 (nI n) st s) (hn : n ≤ 60)
    (hk : ∀ nm pl tb z, K (nI (gn_ p (tqn st n (nI e) (s 0) l) 256).2) nm pl tb z) : wpX9_mostAlike (nI l) (nI e) s nm pl tb many df K :=
  ⟨10, r_mat hrt hn (fun nm' pl' tb' ht => ⟨32, r_maz (fun z hz => ⟨257, r_mal hl he hdf ht (fun z => hk nm' pl' tb' z) 256 0 z rfl (fun i hi => hz i hi)⟩) 31 0 many rfl (fun i hi => absurd hi (Nat.not_lt_zero i))⟩) 9 0 nm pl tb rfl (fun i hi => absurd hi (Nat.not_lt_zero i))⟩
theorem r_qul {s df st bits sizes number er : Nat → Int32} {p : Nat → Bool} {n l : Nat} {x1 x3 fm fl : Int32} {K : Int32 → Int32 → Int32 → (Nat → Int32) → (Nat → Int32) → (Nat → Int32) → (Nat → Int32) → (Nat → Int32) → (Nat → Int32) → Prop} (hl : l < 2) (hdf : ∀ q, q < 256 → df q = b01 (p q)) (hrt : rt 0 (nI n) st s) (hn : n ≤ 60)
    (hk : ∀ nm pl tb z, (x3 = 0 → K (bq_ 0 (fun e => (gn_ p (tqn st n (nI e) (s 0) l) 256).2) 256).1 fm fl er nm pl df tb z) ∧ (¬ x3 = 0 → K (nI (bq_ 0 (fun e => (gn_ p (tqn st n (nI e) (s 0) l) 256).2) 256).2) fm fl er nm pl df tb z)) :
    ∀ (m e : Nat) (nm pl tb z : Nat → Int32), e + m = 256 → wpX9_question_L74 (m + 1) x1 (nI l) x3 (bq_ 0 (fun e => (gn_ p (tqn st n (nI e) (s 0) l) 256).2) e).1 (nI (bq_ 0 (fun e => (gn_ p (tqn st n (nI e) (s 0) l) 256).2) e).2) (nI e) fm fl er bits s sizes number nm pl df tb z K := by
  intro m
  induction m with
  | zero =>
    intro e nm pl tb z h
    have ee : e = 256 := by omega
    subst ee
    rw [wpX9_question_L74]
    exact br_t (by decide) (hk nm pl tb z)
  | succ m ih =>
    intro e nm pl tb z h
    have hb := bq_le 0 (fun e => (gn_ p (tqn st n (nI e) (s 0) l) 256).2) e
    have hg := (gn_b p (tqn st n (nI e) (s 0) l) 256).2
    rw [wpX9_question_L74]
    refine br_f (show ¬ nI 256 ≤ nI e from nI_ge (by omega) (by decide)) (r_ma hl (by omega) hdf hrt hn (fun nm' pl' tb' z' => ?_))
    have ec : bq_ 0 (fun e => (gn_ p (tqn st n (nI e) (s 0) l) 256).2) (e + 1) = if (bq_ 0 (fun e => (gn_ p (tqn st n (nI e) (s 0) l) 256).2) e).2 ≤ (gn_ p (tqn st n (nI e) (s 0) l) 256).2 then bq_ 0 (fun e => (gn_ p (tqn st n (nI e) (s 0) l) 256).2) e else (nI e, (gn_ p (tqn st n (nI e) (s 0) l) 256).2) := rfl
    rw [nI_1]
    refine ⟨fun q => br_t q ?_, fun q => br_f q ?_⟩
    · rw [if_pos ((nI_leI (by omega) (by omega)).mp q)] at ec
      have hh := ih (e + 1) nm' pl' tb' z' (by omega)
      rw [ec] at hh
      exact hh
    · rw [if_neg (fun w => q (nI_le w (by omega)))] at ec
      have hh := ih (e + 1) nm' pl' tb' z' (by omega)
      rw [ec] at hh
      exact hh
set_option maxRecDepth 20000 in
theorem pf_question {c d : Nat → Int32} {A B : Nat → Nat → Int32} {nm : Nat} {x2 : Int32} {x3 : Int32} {k : Nat} {bits size : Int32} {numbers : Nat → Int32} (hk : k < 4) (hs : rs k bits size numbers (B 11) (B 12) (B 13)) (hR : rl c A d B nm) : wpX8_question (nI k) x2 x3 (A 36) bits size (c 29) (c 30) (c 31) (c 5) (c 6) (c 32) (c 33) (A 0) (A 28) numbers (A 2) (c 7) (c 8) (c 9) (c 10) 1152 (A 10) (A 8) (A 9) (A 29) (A 30) (A 32) (A 31) (fun r8 u0 u1 u2 u3 u4 u5 u6 u7 u8 u9 u10 u11 u12 => wpX9_question (nI k) x2 x3 (d 5) (d 6) (B 3) (B 11) (B 0) (B 12) (B 13) (B 5) (B 6) (B 7) (B 8) (B 9) (fun r9 w0 w1 w2 w3 w4 w5 w6 w7 => r8 = r9 ∧ rl (va_up (va_up (va_up (va_up (va_up c 29 u1) 30 u2) 31 u3) 32 u4) 33 u5) (va_up (va_up (va_up (va_up (va_up (va_up (va_up (va_up A 36 u0) 28 u6) 10 u7) 9 u8) 29 u9) 30 u10) 32 u11) 31 u12) (va_up (va_up d 5 w0) 6 w1) (va_up (va_up (va_up (va_up (va_up (va_up B 3 w2) 5 w3) 6 w4) 7 w5) 8 w6) 9 w7) nm)) := by
  obtain ⟨hw, hi, ht0, ht1, hm0, hm1, him, her, hv, hs0, hs1, hs2, hs3, hnm⟩ := id hR
  obtain ⟨n0, hn0, en0, hok0⟩ := rt_n ht0
  have ht0n : rt 0 (nI n0) (A 8) (B 0) := by rw [← en0]; exact ht0
  have hm0n : rm 30 9 16 (c 7) (c 8) (c 9) (nI n0) (A 8) (A 10) := by rw [← en0]; exact hm0
  obtain ⟨hb1, hb2, hb3, hb4, hb5⟩ := hs
  obtain ⟨S, hS, eS⟩ := in_nI (n := 24) hb4
  obtain ⟨Y, hYn, eY⟩ := in_nI (n := 9999) hi.1
  have hevb : ∀ i, i < 6 → in_ (B 0 (8 + i)) 255 := hi.2.2.2.2.2.2.2.1
  have hsz : B 12 k = nI S := hb2.symm.trans eS
  unfold wpX8_question wpX9_question wpX8_isSheet wpX9_isSheet wpX8_isLion wpX9_isLion wpX3_isMissing
  refine w8_t (n := 3) (by omega) (by decide) ⟨rfl, br_f (by decide) ?_⟩
  rcases in_dec x2 1 (by decide) with hx | ⟨l, hl, rfl⟩
  · refine w8_f (n := 1) (by decide) hx ⟨rfl, br_t rfl (e8 (k := 1) (by decide) ?_)⟩
    refine w9_t (n := 3) (by omega) (by decide) ⟨rfl, br_f (by decide) (w9_f (n := 1) (by decide) hx ⟨rfl, br_t rfl (e9 (k := 1) (by decide) ?_)⟩)⟩
    exact ⟨rfl, hw, hi, ht0, ht1, hm0, hm1, him, er_up her (k := 1) (by decide), hv, hs0, hs1, hs2, hs3, hnm⟩
  refine w8_t (n := 1) hl (by decide) ⟨rfl, br_f (by decide) ?_⟩
  rcases in_dec x3 1 (by decide) with hx | ⟨w, hw1, rfl⟩
  · refine w8_f (n := 1) (by decide) hx (br_t rfl (e8 (k := 1) (by decide) ?_))
    refine w9_t (n := 3) (by omega) (by decide) ⟨rfl, br_f (by decide) (w9_t (n := 1) hl (by decide) ⟨rfl, br_f (by decide) (w9_f (n := 1) (by decide) hx (br_t rfl (e9 (k := 1) (by decide) ?_)))⟩)⟩
    exact ⟨rfl, hw, hi, ht0, ht1, hm0, hm1, him, er_up her (k := 1) (by decide), hv, hs0, hs1, hs2, hs3, hnm⟩
  refine w8_t (n := 1) hw1 (by decide) (br_f (by decide) ⟨vp_in_nI hk (by decide), ?_⟩)
  have hl : l < 2 := by omega
  by_cases hz : bits = 0
  · refine br_t hz (br_f (by decide) (e8 (k := 2) (by decide) ?_))
    refine w9_t (n := 3) (by omega) (by decide) ⟨rfl, br_f (by decide) (w9_t (n := 1) (by omega) (by decide) ⟨rfl, br_f (by decide) (w9_t (n := 1) hw1 (by decide) (br_f (by decide) ⟨vp_in_nI hk (by decide), br_t (by rw [i_cl (show k < 2147483648 by omega), ← hb1]; exact hz) (e9 (k := 2) (by decide) ?_)⟩))⟩)⟩
    exact ⟨rfl, hw, hi, ht0, ht1, hm0, hm1, him, er_up her (k := 2) (by decide), hv, hs0, hs1, hs2, hs3, hnm⟩
  have hzb : ¬ B 11 (nI k).toNatClampNeg = 0 := by rw [i_cl (show k < 2147483648 by omega), ← hb1]; exact hz
  refine br_f hz (br_t rfl ⟨vp_in_nI hk (by decide), ?_⟩)
  rw [en0, eS]
  refine ⟨257, c_gal (s := B 0) (number := B 13) (sh := k) hl (by omega) (hw.1.trans eY) hS hw.2.2.2.2.2.2.2.2.1 hevb ?_ hb5 hn0 hok0 (fun year sec jaws mem' sk' turns secrets hm' hsec => ?_) 256 0 _ _ _ (A 10) (A 9) (A 29) (A 30) rfl hm0n (fun q hq => absurd hq (Nat.not_lt_zero q))⟩
  · rcases (show l = 0 ∨ l = 1 by omega) with rfl | rfl
    · exact hw.2.2.2.2.2.2.1
    · exact hw.2.2.2.2.2.2.2.1
  have hm2 : rm 30 9 16 (c 7) (c 8) (c 9) (c 10) (A 8) mem' := by rw [en0]; exact hm'
  have hcl := cn_le (fi_ (A 8) n0 l Y S (B 0) (B 13) k) 256
  by_cases hc : cn_ (fi_ (A 8) n0 l Y S (B 0) (B 13) k) 256 = 0
  · refine br_t (by rw [hc]; rfl) (e8 (k := 3) (by decide) ?_)
    refine w9_t (n := 3) (by omega) (by decide) ⟨rfl, br_f (by decide) (w9_t (n := 1) (by omega) (by decide) ⟨rfl, br_f (by decide) (w9_t (n := 1) hw1 (by decide) (br_f (by decide) ⟨vp_in_nI hk (by decide), br_f hzb (r_ff hl (by omega) eY hk hsz hS hevb ht0n hn0 (fun nm' p' df hdf => br_t (by rw [hc]; rfl) (e9 (k := 3) (by decide) ?_)))⟩))⟩)⟩
    exact ⟨rfl, hw, hi, ht0, ht1, hm2, hm1, him, er_up her (k := 3) (by decide), hv, hs0, hs1, hs2, hs3, hnm⟩
  refine br_f (nI_ne0 (by omega) (by omega)) ⟨257, ?_⟩
  have c5 : c 5 = B 0 0 := hw.1
  rw [c5]
  refine c_sql (x := c 30) hl hn0 hok0 hsec (fun groups tbs mem2 sk2 hmm2 => ?_) 256 0 (A 32) (A 31) mem' sk' rfl hm'
  have hm2 : rm 30 9 16 (c 7) (c 8) (c 9) (c 10) (A 8) mem2 := by rw [en0]; exact hmm2
  have hg0 : (gn_ (fi_ (A 8) n0 l Y S (B 0) (B 13) k) (tqn (A 8) n0 (nI 0) (B 0 0) l) 256).2 < 257 := Nat.lt_succ_of_le (gn_b _ _ 256).2
  have eb := bq_c (x := c 30) (x' := 0) (g := fun e => (gn_ (fi_ (A 8) n0 l Y S (B 0) (B 13) k) (tqn (A 8) n0 (nI e) (B 0 0) l) 256).2) hg0 255
  rw [eb]
  refine ⟨fun q => ?_, fun q => ?_⟩
  · refine w9_t (n := 3) (by omega) (by decide) ⟨rfl, br_f (by decide) (w9_t (n := 1) (by omega) (by decide) ⟨rfl, br_f (by decide) (w9_t (n := 1) hw1 (by decide) (br_f (by decide) ⟨vp_in_nI hk (by decide), br_f hzb (r_ff hl (by omega) eY hk hsz hS hevb ht0n hn0 (fun nm' p' df hdf => br_f (nI_ne0 (by omega) (by omega)) ⟨257, r_qul hl hdf ht0n hn0 (fun nm2 pl2 tb2 z2 => ⟨fun _ => ?_, fun q2 => absurd q q2⟩) 256 0 nm' p' (B 8) (B 9) rfl⟩))⟩))⟩)⟩
    exact ⟨rfl, hw, hi, ht0, ht1, hm2, hm1, him, her, hv, hs0, hs1, hs2, hs3, hnm⟩
  · refine w9_t (n := 3) (by omega) (by decide) ⟨rfl, br_f (by decide) (w9_t (n := 1) (by omega) (by decide) ⟨rfl, br_f (by decide) (w9_t (n := 1) hw1 (by decide) (br_f (by decide) ⟨vp_in_nI hk (by decide), br_f hzb (r_ff hl (by omega) eY hk hsz hS hevb ht0n hn0 (fun nm' p' df hdf => br_f (nI_ne0 (by omega) (by omega)) ⟨257, r_qul hl hdf ht0n hn0 (fun nm2 pl2 tb2 z2 => ⟨fun q2 => absurd q2 q, fun _ => ?_⟩) 256 0 nm' p' (B 8) (B 9) rfl⟩))⟩))⟩)⟩
    exact ⟨rfl, hw, hi, ht0, ht1, hm2, hm1, him, her, hv, hs0, hs1, hs2, hs3, hnm⟩
set_option maxRecDepth 20000 in
theorem pf_question_o {c d : Nat → Int32} {A B : Nat → Nat → Int32} {nm : Nat} {x1 : Int32} {x2 : Int32} {x3 : Int32} {bits size : Int32} {numbers : Nat → Int32} (hx1 : ¬ vp_in x1 4) (hR : rl c A d B nm) : wpX8_question x1 x2 x3 (A 36) bits size (c 29) (c 30) (c 31) (c 5) (c 6) (c 32) (c 33) (A 0) (A 28) numbers (A 2) (c 7) (c 8) (c 9) (c 10) 1152 (A 10) (A 8) (A 9) (A 29) (A 30) (A 32) (A 31) (fun r8 u0 u1 u2 u3 u4 u5 u6 u7 u8 u9 u10 u11 u12 => wpX9_question x1 x2 x3 (d 5) (d 6) (B 3) (B 11) (B 0) (B 12) (B 13) (B 5) (B 6) (B 7) (B 8) (B 9) (fun r9 w0 w1 w2 w3 w4 w5 w6 w7 => r8 = r9 ∧ rl (va_up (va_up (va_up (va_up (va_up c 29 u1) 30 u2) 31 u3) 32 u4) 33 u5) (va_up (va_up (va_up (va_up (va_up (va_up (va_up (va_up A 36 u0) 28 u6) 10 u7) 9 u8) 29 u9) 30 u10) 32 u11) 31 u12) (va_up (va_up d 5 w0) 6 w1) (va_up (va_up (va_up (va_up (va_up (va_up B 3 w2) 5 w3) 6 w4) 7 w5) 8 w6) 9 w7) nm)) := by
  obtain ⟨hw, hi, ht0, ht1, hm0, hm1, him, her, hv, hs0, hs1, hs2, hs3, hnm⟩ := id hR
  have hx : ¬ in_ x1 (3 : Nat) := fun q => hx1 (vp_in_iff.mpr (by unfold in_ at q; omega))
  unfold wpX8_question wpX8_isSheet
  refine w8_f (n := 3) (by decide) hx ⟨rfl, br_t rfl (e8 (k := 1) (by decide) ?_)⟩
  unfold wpX9_question wpX9_isSheet
  refine w9_f (n := 3) (by decide) hx ⟨rfl, br_t rfl (e9 (k := 1) (by decide) ?_)⟩
  exact ⟨rfl, hw, hi, ht0, ht1, hm0, hm1, him, er_up her (k := 1) (by decide), hv, hs0, hs1, hs2, hs3, hnm⟩
theorem pc_question_0 {c d : Nat → Int32} {A B : Nat → Nat → Int32} {nm : Nat} {x1 : Int32} {x2 : Int32} {x3 : Int32} (hR : rl c A d B nm) (hx1 : x1 = 0) : wpX8_question x1 x2 x3 (A 36) (c 42) (c 43) (c 29) (c 30) (c 31) (c 5) (c 6) (c 32) (c 33) (A 0) (A 28) (A 37) (A 2) (c 7) (c 8) (c 9) (c 10) 1152 (A 10) (A 8) (A 9) (A 29) (A 30) (A 32) (A 31) (fun r8 u0 u1 u2 u3 u4 u5 u6 u7 u8 u9 u10 u11 u12 => wpX9_question x1 x2 x3 (d 5) (d 6) (B 3) (B 11) (B 0) (B 12) (B 13) (B 5) (B 6) (B 7) (B 8) (B 9) (fun r9 w0 w1 w2 w3 w4 w5 w6 w7 => r8 = r9 ∧ rl (va_up (va_up (va_up (va_up (va_up c 29 u1) 30 u2) 31 u3) 32 u4) 33 u5) (va_up (va_up (va_up (va_up (va_up (va_up (va_up (va_up A 36 u0) 28 u6) 10 u7) 9 u8) 29 u9) 30 u10) 32 u11) 31 u12) (va_up (va_up d 5 w0) 6 w1) (va_up (va_up (va_up (va_up (va_up (va_up B 3 w2) 5 w3) 6 w4) 7 w5) 8 w6) 9 w7) nm)) := by
  subst hx1
  exact pf_question (k := 0) (by decide) hR.2.2.2.2.2.2.2.2.2.1 hR
theorem pc_question_1 {c d : Nat → Int32} {A B : Nat → Nat → Int32} {nm : Nat} {x1 : Int32} {x2 : Int32} {x3 : Int32} (hR : rl c A d B nm) (hx1 : x1 = 1) : wpX8_question x1 x2 x3 (A 36) (c 44) (c 45) (c 29) (c 30) (c 31) (c 5) (c 6) (c 32) (c 33) (A 0) (A 28) (A 38) (A 2) (c 7) (c 8) (c 9) (c 10) 1152 (A 10) (A 8) (A 9) (A 29) (A 30) (A 32) (A 31) (fun r8 u0 u1 u2 u3 u4 u5 u6 u7 u8 u9 u10 u11 u12 => wpX9_question x1 x2 x3 (d 5) (d 6) (B 3) (B 11) (B 0) (B 12) (B 13) (B 5) (B 6) (B 7) (B 8) (B 9) (fun r9 w0 w1 w2 w3 w4 w5 w6 w7 => r8 = r9 ∧ rl (va_up (va_up (va_up (va_up (va_up c 29 u1) 30 u2) 31 u3) 32 u4) 33 u5) (va_up (va_up (va_up (va_up (va_up (va_up (va_up (va_up A 36 u0) 28 u6) 10 u7) 9 u8) 29 u9) 30 u10) 32 u11) 31 u12) (va_up (va_up d 5 w0) 6 w1) (va_up (va_up (va_up (va_up (va_up (va_up B 3 w2) 5 w3) 6 w4) 7 w5) 8 w6) 9 w7) nm)) := by
  subst hx1
  exact pf_question (k := 1) (by decide) hR.2.2.2.2.2.2.2.2.2.2.1 hR
theorem pc_question_2 {c d : Nat → Int32} {A B : Nat → Nat → Int32} {nm : Nat} {x1 : Int32} {x2 : Int32} {x3 : Int32} (hR : rl c A d B nm) (hx1 : x1 = 2) : wpX8_question x1 x2 x3 (A 36) (c 46) (c 47) (c 29) (c 30) (c 31) (c 5) (c 6) (c 32) (c 33) (A 0) (A 28) (A 39) (A 2) (c 7) (c 8) (c 9) (c 10) 1152 (A 10) (A 8) (A 9) (A 29) (A 30) (A 32) (A 31) (fun r8 u0 u1 u2 u3 u4 u5 u6 u7 u8 u9 u10 u11 u12 => wpX9_question x1 x2 x3 (d 5) (d 6) (B 3) (B 11) (B 0) (B 12) (B 13) (B 5) (B 6) (B 7) (B 8) (B 9) (fun r9 w0 w1 w2 w3 w4 w5 w6 w7 => r8 = r9 ∧ rl (va_up (va_up (va_up (va_up (va_up c 29 u1) 30 u2) 31 u3) 32 u4) 33 u5) (va_up (va_up (va_up (va_up (va_up (va_up (va_up (va_up A 36 u0) 28 u6) 10 u7) 9 u8) 29 u9) 30 u10) 32 u11) 31 u12) (va_up (va_up d 5 w0) 6 w1) (va_up (va_up (va_up (va_up (va_up (va_up B 3 w2) 5 w3) 6 w4) 7 w5) 8 w6) 9 w7) nm)) := by
  subst hx1
  exact pf_question (k := 2) (by decide) hR.2.2.2.2.2.2.2.2.2.2.2.1 hR
theorem pc_question_3 {c d : Nat → Int32} {A B : Nat → Nat → Int32} {nm : Nat} {x1 : Int32} {x2 : Int32} {x3 : Int32} (hR : rl c A d B nm) (hx1 : x1 = 3) : wpX8_question x1 x2 x3 (A 36) (c 48) (c 49) (c 29) (c 30) (c 31) (c 5) (c 6) (c 32) (c 33) (A 0) (A 28) (A 40) (A 2) (c 7) (c 8) (c 9) (c 10) 1152 (A 10) (A 8) (A 9) (A 29) (A 30) (A 32) (A 31) (fun r8 u0 u1 u2 u3 u4 u5 u6 u7 u8 u9 u10 u11 u12 => wpX9_question x1 x2 x3 (d 5) (d 6) (B 3) (B 11) (B 0) (B 12) (B 13) (B 5) (B 6) (B 7) (B 8) (B 9) (fun r9 w0 w1 w2 w3 w4 w5 w6 w7 => r8 = r9 ∧ rl (va_up (va_up (va_up (va_up (va_up c 29 u1) 30 u2) 31 u3) 32 u4) 33 u5) (va_up (va_up (va_up (va_up (va_up (va_up (va_up (va_up A 36 u0) 28 u6) 10 u7) 9 u8) 29 u9) 30 u10) 32 u11) 31 u12) (va_up (va_up d 5 w0) 6 w1) (va_up (va_up (va_up (va_up (va_up (va_up B 3 w2) 5 w3) 6 w4) 7 w5) 8 w6) 9 w7) nm)) := by
  subst hx1
  exact pf_question (k := 3) (by decide) hR.2.2.2.2.2.2.2.2.2.2.2.2.1 hR
theorem pc_question_o {c d : Nat → Int32} {A B : Nat → Nat → Int32} {nm : Nat} {x1 : Int32} {x2 : Int32} {x3 : Int32} (hR : rl c A d B nm) (hx1 : ¬ vp_in x1 4) : wpX8_question x1 x2 x3 (A 36) (c 42) (c 43) (c 29) (c 30) (c 31) (c 5) (c 6) (c 32) (c 33) (A 0) (A 28) (A 37) (A 2) (c 7) (c 8) (c 9) (c 10) 1152 (A 10) (A 8) (A 9) (A 29) (A 30) (A 32) (A 31) (fun r8 u0 u1 u2 u3 u4 u5 u6 u7 u8 u9 u10 u11 u12 => wpX9_question x1 x2 x3 (d 5) (d 6) (B 3) (B 11) (B 0) (B 12) (B 13) (B 5) (B 6) (B 7) (B 8) (B 9) (fun r9 w0 w1 w2 w3 w4 w5 w6 w7 => r8 = r9 ∧ rl (va_up (va_up (va_up (va_up (va_up c 29 u1) 30 u2) 31 u3) 32 u4) 33 u5) (va_up (va_up (va_up (va_up (va_up (va_up (va_up (va_up A 36 u0) 28 u6) 10 u7) 9 u8) 29 u9) 30 u10) 32 u11) 31 u12) (va_up (va_up d 5 w0) 6 w1) (va_up (va_up (va_up (va_up (va_up (va_up B 3 w2) 5 w3) 6 w4) 7 w5) 8 w6) 9 w7) nm)) := pf_question_o hx1 hR
