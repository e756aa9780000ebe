/-! calls that go by turns and years -/
theorem rt_n {u : Nat} {len : Int32} {st s : Nat → Int32} (h : rt u len st s) : ∃ n, n ≤ 60 ∧ len = nI n ∧ tx_ok st n := by
  obtain ⟨n, hn, rfl⟩ := in_nI (n := 60) h.2.1
  refine ⟨n, hn, rfl, ?_⟩
  have := h.2.2.1
  rwa [i_tn (by omega)] at this
theorem tg_0 {st : Nat → Int32} {hi a b c : Int32} : tx_g st (nI 0) hi a b c = tx_c hi a := rfl
theorem tg_p {st : Nat → Int32} {hi a b c : Int32} {n : Nat} (h : 0 < n) (hn : n ≤ 60) : tx_g st (nI n) hi a b c = tx_c hi ((tx_v st a b c n).headD 0) := by
  unfold tx_g
  rw [if_neg (nI_ne0 h (by omega)), i_tn (by omega)]
theorem pc_sign {c d : Nat → Int32} {A B : Nat → Nat → Int32} {nm : Nat} {x1 : Int32} {x2 : Int32} (hR : rl c A d B nm) : wpX8_sign x1 x2 (A 36) (c 5) (c 6) (c 7) (c 8) (c 9) (c 10) 1152 (A 10) (A 8) (A 9) (fun r8 u0 u1 u2 => wpX9_sign x1 x2 (B 3) (B 0) (B 5) (B 6) (fun r9 w0 w1 w2 => r8 = r9 ∧ rl c (va_up (va_up (va_up A 36 u0) 10 u1) 9 u2) d (va_up (va_up (va_up B 3 w0) 5 w1) 6 w2) nm)) := by
  obtain ⟨hw, hi, ht0, ht1, hm0, hm1, him, her, hv, hs0, hs1, hs2, hs3, hnm⟩ := id hR
  obtain ⟨n0, hn0, en0, hok0⟩ := rt_n ht0
  have ht0n : rt 0 (nI n0) (A 8) (B 0) := by rw [← en0]; exact ht0
  have hm0n : rm 30 9 16 (c 7) (c 8) (c 9) (nI n0) (A 8) (A 10) := by rw [← en0]; exact hm0
  unfold wpX8_sign wpX9_sign wpX8_isLion wpX9_isLion wpX9_isByte
  rcases in_dec x1 1 (by decide) with hx | ⟨j, hj, rfl⟩
  · refine w8_f (n := 1) (by decide) hx ⟨rfl, br_t rfl (e8 (k := 1) (by decide) ?_)⟩
    refine w9_f (n := 1) (by decide) hx ⟨rfl, br_t rfl (e9 (k := 1) (by decide) ?_)⟩
    exact ⟨rfl, hw, hi, ht0, ht1, hm0, hm1, him, er_up her (k := 1) (by decide), hv, hs0, hs1, hs2, hs3, hnm⟩
  · refine w8_t (n := 1) hj (by decide) ⟨rfl, br_f (by decide) ?_⟩
    rcases in_dec x2 255 (by decide) with hx | ⟨v, hv2, rfl⟩
    · refine w8_f (n := 255) (by decide) hx (br_t rfl (e8 (k := 1) (by decide) ?_))
      refine w9_t (n := 1) hj (by decide) ⟨rfl, br_f (by decide) (w9_f (n := 255) (by decide) hx ⟨rfl, br_t rfl (e9 (k := 1) (by decide) ?_)⟩)⟩
      exact ⟨rfl, hw, hi, ht0, ht1, hm0, hm1, him, er_up her (k := 1) (by decide), hv, hs0, hs1, hs2, hs3, hnm⟩
    · rw [en0]
      refine w8_t (n := 255) hv2 (by decide) (br_f (by decide) (t8 (by omega) hv2 hn0 hok0 hm0n (fun mem' sk' hm' => ?_)))
      refine w9_t (n := 1) hj (by decide) ⟨rfl, br_f (by decide) (w9_t (n := 255) hv2 (by decide) ⟨rfl, br_f (by decide) (t9o (by omega) hv2 ht0n hn0 (fun nm' p' => ?_))⟩)⟩
      exact ⟨by rw [hw.1, hw.2.1], hw, hi, ht0, ht1, by rw [en0]; exact hm', hm1, him, her, hv, hs0, hs1, hs2, hs3, hnm⟩
theorem pc_law {c d : Nat → Int32} {A B : Nat → Nat → Int32} {nm : Nat} {x1 : Int32} {x2 : Int32} {x3 : Int32} {x4 : Int32} (hR : rl c A d B nm) : wpX8_law x1 x2 x3 x4 (A 36) (c 7) (c 8) (c 9) (c 10) 1152 (A 10) (A 8) (A 9) (c 11) (c 12) (c 13) (c 14) 5280 (A 13) (A 11) (A 12) (fun r8 u0 u1 u2 u3 u4 => wpX9_law x1 x2 x3 x4 (B 5) (B 0) (B 6) (B 3) (fun r9 w0 w1 w2 => r8 = r9 ∧ rl c (va_up (va_up (va_up (va_up (va_up A 36 u0) 10 u1) 9 u2) 13 u3) 12 u4) d (va_up (va_up (va_up B 5 w0) 6 w1) 3 w2) nm)) := by
  obtain ⟨hw, hi, ht0, ht1, hm0, hm1, him, her, hv, hs0, hs1, hs2, hs3, hnm⟩ := id hR
  obtain ⟨n0, hn0, en0, hok0⟩ := rt_n ht0
  have ht0n : rt 0 (nI n0) (A 8) (B 0) := by rw [← en0]; exact ht0
  have hm0n : rm 30 9 16 (c 7) (c 8) (c 9) (nI n0) (A 8) (A 10) := by rw [← en0]; exact hm0
  obtain ⟨n1, hn1, en1, hok1⟩ := rt_n ht1
  have ht1n : rt 1 (nI n1) (A 11) (B 0) := by rw [← en1]; exact ht1
  have hm1n : rm 40 66 10 (c 11) (c 12) (c 13) (nI n1) (A 11) (A 13) := by rw [← en1]; exact hm1
  unfold wpX8_law wpX9_law wpX8_isUse
  rcases in_dec x1 1 (by decide) with hx | ⟨j, hj, rfl⟩
  · refine w8_f (n := 1) (by decide) hx ⟨rfl, br_t rfl (e8 (k := 1) (by decide) ?_)⟩
    refine w9_f (n := 1) (by decide) hx (br_t rfl (e9 (k := 1) (by decide) ?_))
    exact ⟨rfl, hw, hi, ht0, ht1, hm0, hm1, him, er_up her (k := 1) (by decide), hv, hs0, hs1, hs2, hs3, hnm⟩
  · refine w8_t (n := 1) hj (by decide) ⟨rfl, br_f (by decide) ?_⟩
    rcases (show j = 0 ∨ j = 1 by omega) with rfl | rfl
    · refine br_t rfl ?_
      rw [en0]
      refine g_gives9 hn0 hok0 hm0n rfl (fun mem' sk' hm' => ?_)
      refine w9_t (n := 1) hj (by decide) (br_f (by decide) (br_t rfl ⟨vp_in_iff.mpr (by decide), br_t rfl ⟨vp_in_iff.mpr (by decide), vp_in_iff.mpr (by decide), ?_⟩⟩))
      rw [c_98, c_101, c_121]
      refine r_hasText (u := 0) (by decide) ht0n hn0 ?_
      by_cases h0 : n0 = 0
      · subst h0
        refine br_t rfl (br_t rfl (h_held ?_))
        exact ⟨tg_0, hw, hi, ht0, ht1, by rw [en0]; exact hm', hm1, him, her, hv, hs0, hs1, hs2, hs3, hnm⟩
      · rw [if_neg h0]
        refine br_f (by decide) (r_worked (u := 0) (a := x2) (b := x3) (c := x4) (by decide) ht0n hn0 (by omega) ⟨by rw [if_pos rfl, pk_un (by decide), pk_un (by decide), pk_us], by rw [if_pos rfl, pk_un (by decide), pk_us], by rw [pk_us]⟩ (fun p => br_t rfl (h_held ?_)))
        exact ⟨tg_p (by omega) hn0, hw, hi, ht0, ht1, by rw [en0]; exact hm', hm1, him, her, hv, hs0, hs1, hs2, hs3, hnm⟩
    · refine br_f (by decide) ?_
      rw [en1]
      refine g_gives66 hn1 hok1 hm1n rfl (fun mem' sk' hm' => ?_)
      refine w9_t (n := 1) hj (by decide) (br_f (by decide) (br_f (by decide) ⟨vp_in_iff.mpr (by decide), br_f (by decide) ⟨vp_in_iff.mpr (by decide), vp_in_iff.mpr (by decide), ?_⟩⟩))
      rw [c_114, c_106, c_121]
      refine r_hasText (u := 1) (by decide) ht1n hn1 ?_
      by_cases h0 : n1 = 0
      · subst h0
        refine br_t rfl (br_f (by decide) (h_held ?_))
        exact ⟨tg_0, hw, hi, ht0, ht1, hm0, by rw [en1]; exact hm', him, her, hv, hs0, hs1, hs2, hs3, hnm⟩
      · rw [if_neg h0]
        refine br_f (by decide) (r_worked (u := 1) (a := x2) (b := x3) (c := x4) (by decide) ht1n hn1 (by omega) ⟨by rw [if_neg (by decide), pk_un (by decide), pk_un (by decide), pk_us], by rw [if_neg (by decide), pk_un (by decide), pk_us], by rw [pk_us]⟩ (fun p => br_f (by decide) (h_held ?_)))
        exact ⟨tg_p (by omega) hn1, hw, hi, ht0, ht1, hm0, by rw [en1]; exact hm', him, her, hv, hs0, hs1, hs2, hs3, hnm⟩
/-- a fill -/
theorem f_loop {x y3 : Int32} {N : Nat} {f : Nat → Int32} {K : (Nat → Int32) → Prop} (hN : N < 1000000) (hy : y3 = nI N) (hk : ∀ z : Nat → Int32, (∀ i, i < N → z i = x) → (∀ i, N ≤ i → z i = f i) → K z) :
    ∀ (m k : Nat) (z : Nat → Int32), k + m = N → (∀ i, i < k → z i = x) → (∀ i, k ≤ i → z i = f i) → wpJ7_fill_53178_L5 (m + 1) x (nI k) y3 N z K := by
  subst hy
  intro m
  induction m with
  | zero =>
    intro k z hkm h1 h2
    have e : k = N := by omega
    subst e
    rw [wpJ7_fill_53178_L5]
    exact br_t (nI_le (Nat.le_refl _) (by omega)) (hk z h1 h2)
  | succ m ih =>
    intro k z hkm h1 h2
    rw [wpJ7_fill_53178_L5]
    refine br_f (nI_ge (by omega) (by omega)) ⟨vp_in_nI (by omega) (by omega), ?_⟩
    rw [i_cl (by omega), nI_1]
    refine ih (k + 1) _ (by omega) (fun i hi => ?_) (fun i hi => ?_)
    · by_cases e : i = k
      · subst e; exact pk_us
      · rw [pk_un e]; exact h1 i (by omega)
    · rw [pk_un (by omega)]; exact h2 i (by omega)
theorem f_fill {x : Int32} {N : Nat} {f : Nat → Int32} {K : (Nat → Int32) → Prop} (hN : N < 1000000) (hk : ∀ z : Nat → Int32, (∀ i, i < N → z i = x) → (∀ i, N ≤ i → z i = f i) → K z) : wpJ7_fill_53178 x N f K :=
  ⟨N + 1, f_loop hN rfl hk N 0 f (by omega) (fun i hi => by omega) (fun i _ => rfl)⟩
theorem rm_0 {h0 hi sa sb len len' : Int32} {A0 B0 : Nat} {st st' mem mem' : Nat → Int32} (h : rm h0 A0 B0 hi sa sb len st mem) (hz : ∀ i, i < 8 * B0 * A0 → mem' i = 0) : rm h0 A0 B0 hi sa sb len' st' mem' := by
  refine ⟨h.1, h.2.1, h.2.2.1, fun a b c ha hb hc => Or.inl (hz _ ?_)⟩
  have h1 : c * B0 + b + 1 ≤ 8 * B0 := by
    have := Nat.mul_le_mul_right B0 (show c + 1 ≤ 8 by omega)
    rw [Nat.add_mul] at this
    omega
  have h2 := Nat.mul_le_mul_right A0 h1
  rw [Nat.add_mul] at h2
  omega
/-- what a text is read from -/
theorem rt_cg {u : Nat} {len : Int32} {st s s' : Nat → Int32} (h : rt u len st s) (hs : ∀ i, 32 + 125 * u ≤ i → i < 157 + 125 * u → s' i = s i) : rt u len st s' := by
  obtain ⟨h1, h2, h3, h4⟩ := h
  refine ⟨by rw [hs _ (by omega) (by omega)]; exact h1, h2, h3, fun k hk => ?_⟩
  have h5 : len.toInt.toNat ≤ 60 := h3.1
  rw [hs _ (by omega) (by omega), hs _ (by omega) (by omega)]
  exact h4 k hk
theorem rt_z {u : Nat} {st s : Nat → Int32} (h : s (32 + 125 * u) = 0) : rt u 0 st s :=
  ⟨h.symm, ⟨by decide, by decide⟩, ⟨by decide, fun q => absurd q (by decide), fun k hk => absurd hk (Nat.not_lt_zero k)⟩, fun k hk => absurd hk (Nat.not_lt_zero k)⟩
theorem pc_untell {c d : Nat → Int32} {A B : Nat → Nat → Int32} {nm : Nat} {x1 : Int32} (hR : rl c A d B nm) : wpX8_untell x1 (c 10) 1152 (A 10) (c 14) 5280 (A 13) (A 36) (fun r8 u0 u1 u2 u3 u4 => wpX9_untell x1 (B 0) (B 3) (fun r9 w0 w1 => r8 = r9 ∧ rl (va_up (va_up c 10 u0) 14 u2) (va_up (va_up (va_up A 10 u1) 13 u3) 36 u4) d (va_up (va_up B 0 w0) 3 w1) nm)) := by
  obtain ⟨hw, hi, ht0, ht1, hm0, hm1, him, her, hv, hs0, hs1, hs2, hs3, hnm⟩ := id hR
  obtain ⟨n0, hn0, en0, hok0⟩ := rt_n ht0
  have ht0n : rt 0 (nI n0) (A 8) (B 0) := by rw [← en0]; exact ht0
  obtain ⟨n1, hn1, en1, hok1⟩ := rt_n ht1
  have ht1n : rt 1 (nI n1) (A 11) (B 0) := by rw [← en1]; exact ht1
  unfold wpX8_untell wpX8_isUse
  rcases in_dec x1 1 (by decide) with hx | ⟨j, hj, rfl⟩
  · refine w8_f (n := 1) (by decide) hx ⟨rfl, br_t rfl (e8 (k := 1) (by decide) ?_)⟩
    unfold wpX9_untell
    refine w9_f (n := 1) (by decide) hx (br_t rfl (e9 (k := 1) (by decide) ?_))
    exact ⟨rfl, hw, hi, ht0, ht1, hm0, hm1, him, er_up her (k := 1) (by decide), hv, hs0, hs1, hs2, hs3, hnm⟩
  · refine w8_t (n := 1) hj (by decide) ⟨rfl, br_f (by decide) ?_⟩
    have key : ∀ v, (32 + 125 * j : Nat) < 366 ∧ rw_ (c 5) (c 6) (c 4) (c 1) (c 2) (c 3) (A 0) (A 2) (A 3) (A 4) (A 5) (A 6) (A 7) (upd (B 0) (32 + 125 * j) v) ∧ ri (upd (B 0) (32 + 125 * j) v) := by
      intro v
      refine ⟨by omega, ?_, ri_z hi (Or.inr (by omega))⟩
      obtain ⟨e1, e2, e3, e4, e5, e6, ej0, ej1, hev, hkk, hmm, hmk, htp, htf, hwt⟩ := id hw
      refine ⟨by rw [pk_un (by omega)]; exact e1, by rw [pk_un (by omega)]; exact e2, by rw [pk_un (by omega)]; exact e3, by rw [pk_un (by omega)]; exact e4, by rw [pk_un (by omega)]; exact e5, by rw [pk_un (by omega)]; exact e6, by rw [pk_un (by omega)]; exact ej0, by rw [pk_un (by omega)]; exact ej1,
        fun i h => by rw [pk_un (by omega)]; exact hev i h, fun i h => by rw [pk_un (by omega)]; exact hkk i h, fun i h => by rw [pk_un (by omega)]; exact hmm i h, fun i h => by rw [pk_un (by omega)]; exact hmk i h, fun i h => by rw [pk_un (by omega)]; exact htp i h, htf, fun i h => by rw [pk_un (by omega)]; exact hwt i h⟩
    have e : (32 + 125 * nI j : Int32) = nI (32 + 125 * j) := by rw [show (125 : Int32) = nI 125 from rfl, pk_mul, show (32 : Int32) = nI 32 from rfl, nI_add]
    have ref : ∀ (n : Nat) (st : Nat → Int32), n ≤ 60 → rt j (nI n) st (B 0) → ∀ K : Int32 → (Nat → Int32) → (Nat → Int32) → Prop, K (if n = 0 then 0 else 1) (upd (B 0) (32 + 125 * j) 0) (B 3) →
        wpX9_untell (nI j) (B 0) (B 3) K := by
      intro n st hn ht K hK
      unfold wpX9_untell
      rw [e, i_cl (show 32 + 125 * j < 2147483648 by omega)]
      refine w9_t (n := 1) hj (by decide) (br_f (by decide) (r_hasText (by omega) ht hn ?_))
      by_cases h0 : n = 0
      · rw [if_pos h0] at hK ⊢
        exact br_t rfl ⟨vp_in_nI (key 0).1 (by decide), hK⟩
      · rw [if_neg h0] at hK ⊢
        exact br_f (by decide) ⟨vp_in_nI (key 0).1 (by decide), hK⟩
    have cls : ∀ (n N : Nat) (mem : Nat → Int32), n ≤ 60 → N < 1000000 → ∀ K : Int32 → Int32 → (Nat → Int32) → Prop, (∀ z, (∀ i, i < N → z i = 0) → K (if n = 0 then 0 else 1) 0 z) →
        ((nI n ≤ 0 → wpX1_drop (nI n) N mem (fun u0 u1 => K 0 u0 u1)) ∧ (¬ nI n ≤ 0 → wpX1_drop (nI n) N mem (fun u0 u1 => K 1 u0 u1))) := by
      intro n N mem hn hN K hK
      by_cases h0 : n = 0
      · subst h0
        exact br_t (by decide) (f_fill hN (fun z hz _ => hK z hz))
      · refine br_f (nI_nle (by omega) (by omega)) (f_fill hN (fun z hz _ => ?_))
        have := hK z hz
        rwa [if_neg h0] at this
    rcases (show j = 0 ∨ j = 1 by omega) with rfl | rfl
    · refine br_t rfl ?_
      rw [en0]
      refine cls n0 1152 (A 10) hn0 (by decide) (fun r u0 u1 => wpX9_untell (nI 0) (B 0) (B 3) (fun r9 w0 w1 => r = r9 ∧ rl (va_up (va_up c 10 u0) 14 (c 14)) (va_up (va_up (va_up A 10 u1) 13 (A 13)) 36 (A 36)) d (va_up (va_up B 0 w0) 3 w1) nm)) (fun z hz => ?_)
      refine ref n0 (A 8) hn0 ht0n (fun r9 w0 w1 => (if n0 = 0 then 0 else 1) = r9 ∧ rl (va_up (va_up c 10 0) 14 (c 14)) (va_up (va_up (va_up A 10 z) 13 (A 13)) 36 (A 36)) d (va_up (va_up B 0 w0) 3 w1) nm) ?_
      exact ⟨rfl, (key 0).2.1, (key 0).2.2, rt_z (show upd (B 0) (32 + 125 * 0) 0 (32 + 125 * 0) = 0 from pk_us), rt_cg ht1 (fun i h1 h2 => pk_un (by omega)), rm_0 hm0 hz, hm1, him, her, hv, hs0, hs1, hs2, hs3, hnm⟩
    · refine br_f (by decide) ?_
      rw [en1]
      refine cls n1 5280 (A 13) hn1 (by decide) (fun r u0 u1 => wpX9_untell (nI 1) (B 0) (B 3) (fun r9 w0 w1 => r = r9 ∧ rl (va_up (va_up c 10 (c 10)) 14 u0) (va_up (va_up (va_up A 10 (A 10)) 13 u1) 36 (A 36)) d (va_up (va_up B 0 w0) 3 w1) nm)) (fun z hz => ?_)
      refine ref n1 (A 11) hn1 ht1n (fun r9 w0 w1 => (if n1 = 0 then 0 else 1) = r9 ∧ rl (va_up (va_up c 10 (c 10)) 14 0) (va_up (va_up (va_up A 10 (A 10)) 13 z) 36 (A 36)) d (va_up (va_up B 0 w0) 3 w1) nm) ?_
      exact ⟨rfl, (key 0).2.1, (key 0).2.2, rt_cg ht0 (fun i h1 h2 => pk_un (by omega)), rt_z (show upd (B 0) (32 + 125 * 1) 0 (32 + 125 * 1) = 0 from pk_us), hm0, rm_0 hm1 hz, him, her, hv, hs0, hs1, hs2, hs3, hnm⟩

/-! counts, years, checks -/
theorem ev_xor (a b : Nat) : nI a ^^^ nI b = nI (a ^^^ b) := by
  apply Int32.toBitVec_inj.1
  show BitVec.ofNat 32 a ^^^ BitVec.ofNat 32 b = BitVec.ofNat 32 (a ^^^ b)
  apply BitVec.eq_of_getLsbD_eq
  intro i hi
  simp [hi]
theorem ev8 {Y : Nat} {events : Nat → Int32} {K : Int32 → Prop} (hY : Y < 200000) (kk : K (events (Y % 6))) : wpX7_eventIn (nI Y) events K := by
  unfold wpX7_eventIn wpJ9_floorMod_7cf53
  have hx : Y ^^^ 6 < 2 ^ 18 := Nat.xor_lt_two_pow (by omega) (by decide)
  have e : (nI Y ^^^ 6 : Int32) = nI (Y ^^^ 6) := ev_xor Y 6
  have er : (nI Y - nI Y / 6 * 6 : Int32) = nI (Y % 6) := pk_rem (by omega) (by decide) (by decide)
  refine ⟨by decide, ?_⟩
  rw [e, er]
  refine br_t (nI_pos' (by omega)) ⟨vp_in_nI (by omega) (by decide), ?_⟩
  rw [i_cl (by omega)]
  exact kk
def sm_ (f : Nat → Int32) : Nat → Int32
  | 0 => 0
  | k + 1 => sm_ f k + f k
theorem sm_c {f g : Nat → Int32} : ∀ k, (∀ i, i < k → f i = g i) → sm_ f k = sm_ g k := by
  intro k
  induction k with
  | zero => intro _; rfl
  | succ k ih => intro h; rw [sm_, sm_, ih (fun i hi => h i (by omega)), h k (by omega)]
theorem am8l {R : Nat} {f : Nat → Int32} {K : Int32 → Prop} (hR : R ≤ 6) (hk : K (sm_ f R)) : ∀ m k : Nat, k + m = R → wpX7_allMarks_L4 (m + 1) (sm_ f k) (nI k) (nI R) f K := by
  intro m
  induction m with
  | zero =>
    intro k h
    have e : k = R := by omega
    subst e
    rw [wpX7_allMarks_L4]
    exact br_t (nI_le (Nat.le_refl _) (by omega)) hk
  | succ m ih =>
    intro k h
    rw [wpX7_allMarks_L4]
    refine br_f (nI_ge (by omega) (by omega)) ⟨vp_in_nI (by omega) (by decide), ?_⟩
    rw [i_cl (by omega), nI_1]
    exact ih (k + 1) (by omega)
theorem am8 {R : Nat} {f : Nat → Int32} {K : Int32 → Prop} (hR : R ≤ 6) (hk : K (sm_ f R)) : wpX7_allMarks (nI R) f K := ⟨R + 1, am8l hR hk R 0 (by omega)⟩
theorem am9l {R : Nat} {s : Nat → Int32} {K : Int32 → Prop} (hR : R ≤ 6) (e7 : s 7 = nI R) (hk : K (sm_ (fun i => s (16 + 3 * i)) R)) : ∀ m k : Nat, k + m = R → wpX9_marksAll_L4 (m + 1) (sm_ (fun i => s (16 + 3 * i)) k) (nI k) s K := by
  intro m
  induction m with
  | zero =>
    intro k h
    have e : k = R := by omega
    subst e
    rw [wpX9_marksAll_L4]
    refine ⟨vp_in_iff.mpr (by decide), ?_⟩
    rw [c_7, e7]
    exact br_t (nI_le (Nat.le_refl _) (by omega)) hk
  | succ m ih =>
    intro k h
    rw [wpX9_marksAll_L4]
    refine ⟨vp_in_iff.mpr (by decide), ?_⟩
    rw [c_7, e7]
    refine br_f (nI_ge (by omega) (by omega)) (its9 (k := 2) (by omega) (by decide) ?_)
    rw [nI_1, show 14 + 2 + 3 * k = 16 + 3 * k by omega]
    exact ih (k + 1) (by omega)
theorem am9 {R : Nat} {s : Nat → Int32} {K : Int32 → Prop} (hR : R ≤ 6) (e7 : s 7 = nI R) (hk : K (sm_ (fun i => s (16 + 3 * i)) R)) : wpX9_marksAll s K := ⟨R + 1, am9l hR e7 hk R 0 (by omega)⟩
set_option maxRecDepth 20000 in
theorem pc_count {c d : Nat → Int32} {A B : Nat → Nat → Int32} {nm : Nat} {x1 : Int32} (hR : rl c A d B nm) : wpX8_count x1 (A 36) (c 1) (c 2) (c 3) (c 4) (c 41) (A 5) (c 5) (c 6) (A 0) (fun r8 u0 => wpX9_count x1 (d 7) (B 3) (B 0) (fun r9 w0 => r8 = r9 ∧ rl c (va_up A 36 u0) d (va_up B 3 w0) nm)) := by
  obtain ⟨hw, hi, ht0, ht1, hm0, hm1, him, her, hv, hs0, hs1, hs2, hs3, hnm⟩ := id hR
  obtain ⟨e1, e2, e3, e4, e5, e6, ej0, ej1, hev, hkk, hmm, hmk, htp, htf, hwt⟩ := id hw
  obtain ⟨R, hR6, e7⟩ := in_nI (n := 6) hi.2.2.2.2.2.2.1
  have fin : ∀ r r' : Int32, r = r' → r = r' ∧ rl c (va_up A 36 (A 36)) d (va_up B 3 (B 3)) nm := fun r r' h => ⟨h, hw, hi, ht0, ht1, hm0, hm1, him, her, hv, hs0, hs1, hs2, hs3, hnm⟩
  unfold wpX8_count wpX9_count
  refine ⟨fun h0 => ⟨fun _ => ⟨vp_in_iff.mpr (by decide), fin _ _ e4⟩, fun n => absurd h0 n⟩, fun n0 => ?_⟩
  refine ⟨fun h => br_f n0 (br_t h ⟨vp_in_iff.mpr (by decide), fin _ _ e1⟩), fun n1 => ?_⟩
  refine ⟨fun h => br_f n0 (br_f n1 (br_t h ⟨vp_in_iff.mpr (by decide), fin _ _ e2⟩)), fun n2 => ?_⟩
  refine ⟨fun h => ⟨vp_in_iff.mpr (by decide), br_f n0 (br_f n1 (br_f n2 (br_t h ⟨by rw [h]; exact vp_in_iff.mpr (by decide), fin _ _ (by rw [h]; exact ej0)⟩)))⟩, fun n3 => ?_⟩
  refine ⟨fun h => ⟨vp_in_iff.mpr (by decide), br_f n0 (br_f n1 (br_f n2 (br_f n3 (br_t h ⟨by rw [h]; exact vp_in_iff.mpr (by decide), fin _ _ (by rw [h]; exact ej1)⟩))))⟩, fun n4 => ?_⟩
  refine ⟨fun h => ?_, fun n5 => ?_⟩
  · rw [e4, e7]
    exact am8 hR6 (br_f n0 (br_f n1 (br_f n2 (br_f n3 (br_f n4 (br_t h (am9 hR6 e7 (fin _ _ (sm_c R (fun i hi => hmk i (by omega)))))))))))
  refine ⟨fun h => br_f n0 (br_f n1 (br_f n2 (br_f n3 (br_f n4 (br_f n5 (br_t h ⟨vp_in_iff.mpr (by decide), fin _ _ e5⟩)))))), fun n6 => ?_⟩
  refine ⟨fun h => br_f n0 (br_f n1 (br_f n2 (br_f n3 (br_f n4 (br_f n5 (br_f n6 (br_t h ⟨vp_in_iff.mpr (by decide), fin _ _ e6⟩))))))), fun n7 => ?_⟩
  refine ⟨fun h => br_f n0 (br_f n1 (br_f n2 (br_f n3 (br_f n4 (br_f n5 (br_f n6 (br_f n7 (br_t h (fin _ _ hv.1))))))))), fun n8 => ?_⟩
  refine ⟨fun h => br_f n0 (br_f n1 (br_f n2 (br_f n3 (br_f n4 (br_f n5 (br_f n6 (br_f n7 (br_f n8 (br_t h ⟨vp_in_iff.mpr (by decide), fin _ _ e3⟩))))))))), fun n9 => ?_⟩
  refine e8 (k := 1) (by decide) (br_f n0 (br_f n1 (br_f n2 (br_f n3 (br_f n4 (br_f n5 (br_f n6 (br_f n7 (br_f n8 (br_f n9 (e9 (k := 1) (by decide) ?_)))))))))))
  exact ⟨rfl, hw, hi, ht0, ht1, hm0, hm1, him, er_up her (k := 1) (by decide), hv, hs0, hs1, hs2, hs3, hnm⟩
/-! checks -/
def ck_ (wt tr : Nat → Int32) : Nat → Nat → Int32
  | 0, _ => 0
  | m + 1, k => if 6 ≤ k then nI (1 + k) else if wt k = tr k then ck_ wt tr m (k + 1) else nI (1 + k)
theorem ck8 {W n : Nat} {st waiting events : Nat → Int32} {hi sa sb sec y : Int32} {K : Int32 → Int32 → (Nat → Int32) → (Nat → Int32) → Prop} (hW : W ≤ 24) (hn : n ≤ 60) (hok : tx_ok st n) (hev : ∀ i, i < 6 → in_ (events i) 255) :
    ∀ (m k : Nat) (mem sk : Nat → Int32), k + m = W → rm 30 9 16 hi sa sb (nI n) st mem → (∀ mem' sk', rm 30 9 16 hi sa sb (nI n) st mem' → K (ck_ waiting (fun i => tn_ st n 0 (events i) sec y) m k) 0 mem' sk') →
      wpX8_check_L18 (m + 1) (nI W) (nI k) 0 waiting events y sec hi sa sb (nI n) 1152 mem st sk K := by
  intro m
  induction m with
  | zero =>
    intro k mem sk h hm hk
    have e : k = W := by omega
    subst e
    rw [wpX8_check_L18]
    exact br_t (nI_le (Nat.le_refl _) (by omega)) (hk mem sk hm)
  | succ m ih =>
    intro k mem sk h hm hk
    rw [wpX8_check_L18]
    refine br_f (nI_ge (by omega) (by omega)) ?_
    rw [show (1 + nI k : Int32) = nI (1 + k) from nI_add 1 k]
    by_cases h6 : 6 ≤ k
    · rw [ck_] at hk
      simp only [if_pos h6] at hk
      exact br_t (show nI 6 ≤ nI k from nI_le h6 (by omega)) (hk mem sk hm)
    · refine br_f (show ¬ nI 6 ≤ nI k from nI_ge (by omega) (by decide)) ⟨vp_in_nI (by omega) (by decide), vp_in_nI (by omega) (by decide), ?_⟩
      rw [i_cl (show k < 2147483648 by omega)]
      obtain ⟨e, he, ee⟩ := in_nI (n := 255) (hev k (by omega))
      rw [ee]
      refine t8 (l := 0) (by decide) he hn hok hm (fun mem' sk' hm' => ?_)
      rw [← ee]
      rw [ck_] at hk
      simp only [if_neg h6] at hk
      refine ⟨fun q => ?_, fun q => ?_⟩
      · rw [nI_1]
        exact ih (k + 1) mem' sk' (by omega) hm' (fun m2 s2 h2 => by have := hk m2 s2 h2; rwa [if_pos q] at this)
      · have := hk mem' sk' hm'
        rwa [if_neg q] at this
theorem ck9 {W n : Nat} {st s : Nat → Int32} {K : Int32 → (Nat → Int32) → (Nat → Int32) → (Nat → Int32) → Prop} (hW : W ≤ 24) (hn : n ≤ 60) (hrt : rt 0 (nI n) st s) (hev : ∀ i, i < 6 → in_ (s (8 + i)) 255) :
    ∀ (m k : Nat) (nm p : Nat → Int32), k + m = W → (∀ nm' p', K (ck_ (fun i => s (342 + i)) (fun i => tn_ st n 0 (s (8 + i)) (s 1) (s 0)) m k) s nm' p') → wpX9_check_L18 (m + 1) (nI W) (nI k) s nm p K := by
  intro m
  induction m with
  | zero =>
    intro k nm p h hk
    have e : k = W := by omega
    subst e
    rw [wpX9_check_L18]
    exact br_t (nI_le (Nat.le_refl _) (by omega)) (hk nm p)
  | succ m ih =>
    intro k nm p h hk
    rw [wpX9_check_L18]
    refine br_f (nI_ge (by omega) (by omega)) ?_
    rw [show (1 + nI k : Int32) = nI (1 + k) from nI_add 1 k, show (342 + nI k : Int32) = nI (342 + k) from nI_add 342 k, show (8 + nI k : Int32) = nI (8 + k) from nI_add 8 k]
    by_cases h6 : 6 ≤ k
    · rw [ck_] at hk
      simp only [if_pos h6] at hk
      exact br_t (show nI 6 ≤ nI k from nI_le h6 (by omega)) (hk nm p)
    · refine br_f (show ¬ nI 6 ≤ nI k from nI_ge (by omega) (by decide)) ⟨vp_in_nI (by omega) (by decide), vp_in_nI (by omega) (by decide), ?_⟩
      rw [i_cl (show 8 + k < 2147483648 by omega), i_cl (show 342 + k < 2147483648 by omega)]
      obtain ⟨e, he, ee⟩ := in_nI (n := 255) (hev k (by omega))
      rw [ee]
      refine t9o (l := 0) (by decide) he hrt hn (fun nm' p' => ?_)
      rw [← ee]
      rw [ck_] at hk
      simp only [if_neg h6] at hk
      refine ⟨fun q => ?_, fun q => ?_⟩
      · rw [nI_1]
        exact ih (k + 1) nm' p' (by omega) (fun m2 s2 => by have := hk m2 s2; rwa [if_pos q] at this)
      · have := hk nm' p'
        rwa [if_neg q] at this
theorem ck_c {w w' t t' : Nat → Int32} : ∀ m k, k + m ≤ 24 → (∀ i, i < 24 → w i = w' i) → (∀ i, i < 6 → t i = t' i) → ck_ w t m k = ck_ w' t' m k := by
  intro m
  induction m with
  | zero => intro k _ _ _; rfl
  | succ m ih =>
    intro k hk hw ht
    rw [ck_, ck_]
    by_cases h6 : 6 ≤ k
    · rw [if_pos h6, if_pos h6]
    · rw [if_neg h6, if_neg h6, hw k (by omega), ht k (by omega), ih (k + 1) (by omega) hw ht]
set_option maxRecDepth 20000 in
theorem pc_check {c d : Nat → Int32} {A B : Nat → Nat → Int32} {nm : Nat} (hR : rl c A d B nm) : wpX8_check (c 3) (A 7) (A 2) (c 5) (c 6) (c 7) (c 8) (c 9) (c 10) 1152 (A 10) (A 8) (A 9) (fun r8 u0 u1 u2 => wpX9_check (B 0) (B 5) (B 6) (fun r9 w0 w1 w2 => r8 = r9 ∧ rl (va_up c 3 u0) (va_up (va_up A 10 u1) 9 u2) d (va_up (va_up (va_up B 0 w0) 5 w1) 6 w2) nm)) := by
  obtain ⟨hw, hi, ht0, ht1, hm0, hm1, him, her, hv, hs0, hs1, hs2, hs3, hnm⟩ := id hR
  obtain ⟨e1, e2, e3, e4, e5, e6, ej0, ej1, hev, hkk, hmm, hmk, htp, htf, hwt⟩ := id hw
  obtain ⟨n0, hn0, en0, hok0⟩ := rt_n ht0
  have ht0n : rt 0 (nI n0) (A 8) (B 0) := by rw [← en0]; exact ht0
  have hm0n : rm 30 9 16 (c 7) (c 8) (c 9) (nI n0) (A 8) (A 10) := by rw [← en0]; exact hm0
  obtain ⟨W, hW, eW⟩ := in_nI (n := 24) hi.2.2.2.2.2.1
  have evb : ∀ i, i < 6 → in_ (B 0 (8 + i)) 255 := hi.2.2.2.2.2.2.2.1
  unfold wpX8_check wpX9_check
  rw [en0, e6, eW]
  refine ⟨W + 1, ck8 hW hn0 hok0 (fun i h => by rw [hev i h]; exact evb i h) W 0 (A 10) (A 9) (by omega) hm0n (fun mem' sk' hm' => ⟨vp_in_iff.mpr (by decide), vp_in_iff.mpr (by decide), W + 1, ?_⟩)⟩
  rw [show (6 : Int32).toNatClampNeg = 6 from rfl, eW]
  refine ck9 hW hn0 (rt_keep (by decide) ht0n (by omega)) (fun i h => by rw [pk_un (by omega)]; exact evb i h) W 0 (B 5) (B 6) (by omega) (fun nm' p' => ?_)
  have hm2 : rm 30 9 16 (c 7) (c 8) (c 9) (c 10) (A 8) mem' := by rw [en0]; exact hm'
  refine ⟨ck_c W 0 (by omega) (fun i h => by rw [pk_un (by omega)]; exact hwt i h) (fun i h => by rw [pk_un (by omega), pk_un (by omega), pk_un (by omega), hev i h, e1, e2]), rw_waits hw _, ri_6 hi (in_mk (n := 24) (j := 0) (by decide) (by decide)), rt_keep (by decide) ht0 (by omega), rt_keep (by decide) ht1 (by omega), hm2, hm1, him, her, hv, hs0, hs1, hs2, hs3, hnm⟩

/-! years, years by draws -/
theorem rg_dec (x : Int32) (n : Nat) (hn : n < 2147483647) : ¬ (1 ≤ x.toInt ∧ x.toInt ≤ n) ∨ ∃ j : Nat, 1 ≤ j ∧ j ≤ n ∧ x = nI j := by
  by_cases h : in_ x n
  · obtain ⟨j, hj, rfl⟩ := in_nI h
    by_cases h1 : 1 ≤ j
    · exact Or.inr ⟨j, h1, hj, rfl⟩
    · refine Or.inl (fun q => ?_)
      rw [nI_toInt (by omega)] at q
      omega
  · unfold in_ at h
    exact Or.inl (fun q => h (by omega))
theorem rg8 {x : Int32} {n : Nat} {P Q : Prop} (hn : n < 2147483647) (hx : ¬ (1 ≤ x.toInt ∧ x.toInt ≤ n)) (hP : P) : (x < 1 → P) ∧ (¬ x < 1 → ((x ≤ nI n → Q) ∧ (¬ x ≤ nI n → P))) := by
  refine ⟨fun _ => hP, fun h1 => ⟨fun h2 => absurd ?_ hx, fun _ => hP⟩⟩
  rw [i_lt, show (1 : Int32).toInt = 1 by decide] at h1
  rw [i_le, nI_toInt (by omega)] at h2
  omega
theorem rg9 {x : Int32} {n : Nat} {K : Int32 → Prop} (hn : n < 2147483647) (hx : ¬ (1 ≤ x.toInt ∧ x.toInt ≤ n)) (hK : K 0) : wpX9_in x 1 (nI n) K := by
  refine ⟨fun _ => hK, fun h1 => ⟨fun _ => hK, fun h2 => absurd ?_ hx⟩⟩
  rw [i_lt, show (1 : Int32).toInt = 1 by decide] at h1
  rw [i_lt, nI_toInt (by omega)] at h2
  omega
theorem rg9t {j n : Nat} {K : Int32 → Prop} (h1 : 1 ≤ j) (h2 : j ≤ n) (hn : n < 2147483647) (hK : K 1) : wpX9_in (nI j) 1 (nI n) K :=
  br_f (show ¬ nI j < nI 1 from nI_nlt h1 (by omega)) (br_f (nI_nlt h2 (by omega)) hK)
theorem rj_le {Y Y' : Int} {s : Nat → Int32} (h : rj Y s) (hy : Y ≤ Y') : rj Y' s := ⟨in_le h.1 hy, h.2⟩
/-- the event that a year's place names, and years behind each other -/
def ye_ (s : Nat → Int32) : Int32 := s (8 + (s 0).toInt.toNat % 6)
def ys_ (st : Nat → Int32) (n : Nat) (st1 : Nat → Int32) (n1 : Nat) (s : Nat → Int32) : Nat → Nat → Int32
  | 0 => s
  | k + 1 => yr_ st n st1 n1 (ye_ (ys_ st n st1 n1 s k)) (ys_ st n st1 n1 s k)
theorem ye_n {s : Nat → Int32} {Y : Int} (hj : rj Y s) : ∃ e : Nat, e ≤ 255 ∧ ye_ s = nI e := in_nI (n := 255) (hj.2.2.2.2.2.2.2.1 _ (Nat.mod_lt _ (by decide)))
theorem rj_ys (st : Nat → Int32) (n : Nat) (st1 : Nat → Int32) (n1 : Nat) {s : Nat → Int32} {Y : Int} (hj : rj Y s) : ∀ k : Nat, Y + k < 100000 → rj (Y + k) (ys_ st n st1 n1 s k) := by
  intro k
  induction k with
  | zero => intro _; exact rj_le hj (by omega)
  | succ k ih =>
    intro hk
    have h := rj_yr st n st1 n1 (ye_ (ys_ st n st1 n1 s k)) (ih (by omega)) (by omega)
    exact rj_le h (by omega)
theorem rt_ys {u : Nat} {len : Int32} {st' s : Nat → Int32} (st : Nat → Int32) (n : Nat) (st1 : Nat → Int32) (n1 : Nat) {Y : Int} (hu : u < 2) (hj : rj Y s) (h : rt u len st' s) : ∀ k : Nat, Y + k < 100000 → rt u len st' (ys_ st n st1 n1 s k) := by
  intro k
  induction k with
  | zero => intro _; exact h
  | succ k ih =>
    intro hk
    exact rt_yr st n st1 n1 _ hu (rj_ys st n st1 n1 hj k (by omega)) (ih (by omega))
theorem yn_ {s : Nat → Int32} {Y : Int} (hj : rj Y s) (hY : Y < 100000) : ∃ v : Nat, v < 100000 ∧ s 0 = nI v ∧ (s 0).toInt.toNat = v := by
  obtain ⟨v, hv, ev⟩ := in_nI (n := Y.toNat) (in_le hj.1 (by have := hj.1.1; have := hj.1.2; omega))
  have h0 := hj.1.1
  have h1 := hj.1.2
  refine ⟨v, by omega, ev, ?_⟩
  rw [ev, i_tn (by omega)]
theorem r_goesl {st st1 s : Nat → Int32} {n n1 N : Nat} {Y : Int} {K : (Nat → Int32) → (Nat → Int32) → (Nat → Int32) → Prop} (hj : rj Y s) (hY : Y + N < 100000) (hN : N < 1000) (h0 : rt 0 (nI n) st s) (hn : n ≤ 60) (h1 : rt 1 (nI n1) st1 s) (hn1 : n1 ≤ 60)
    (hk : ∀ nm p, K (ys_ st n st1 n1 s N) nm p) : ∀ (m k : Nat) (nm p : Nat → Int32), k + m = N → wpX9_goes_L2 (m + 1) (nI N) (nI k) (ys_ st n st1 n1 s k) nm p K := by
  intro m
  induction m with
  | zero =>
    intro k nm p h
    have e : k = N := by omega
    subst e
    rw [wpX9_goes_L2]
    exact br_t (nI_le (Nat.le_refl _) (by omega)) (hk nm p)
  | succ m ih =>
    intro k nm p h
    have hjk := rj_ys st n st1 n1 hj k (by omega)
    obtain ⟨v, hv, ev, etn⟩ := yn_ hjk (by omega)
    obtain ⟨e, he, ee⟩ := ye_n hjk
    have er : (nI v - nI v / 6 * 6 : Int32) = nI (v % 6) := pk_rem (by omega) (by decide) (by decide)
    have ey : ye_ (ys_ st n st1 n1 s k) = ys_ st n st1 n1 s k (8 + v % 6) := by unfold ye_; rw [etn]
    rw [wpX9_goes_L2]
    dsimp only
    rw [c_0, ev, er, show (8 + nI (v % 6) : Int32) = nI (8 + v % 6) from nI_add 8 _, nI_1]
    refine br_f (nI_ge (by omega) (by omega)) ⟨vp_in_iff.mpr (by decide), vp_in_nI (by omega) (by decide), ?_⟩
    rw [i_cl (show 8 + v % 6 < 2147483648 by omega), ← ey, ee]
    refine r_year he hjk (by omega) (rt_ys st n st1 n1 (by decide) hj h0 k (by omega)) hn (rt_ys st n st1 n1 (by decide) hj h1 k (by omega)) hn1 (fun nm' p' => ?_)
    rw [← ee]
    exact ih (k + 1) nm' p' (by omega)
theorem r_goes {st st1 s nm p : Nat → Int32} {n n1 N : Nat} {Y : Int} {K : (Nat → Int32) → (Nat → Int32) → (Nat → Int32) → Prop} (hj : rj Y s) (hY : Y + N < 100000) (hN : N < 1000) (h0 : rt 0 (nI n) st s) (hn : n ≤ 60) (h1 : rt 1 (nI n1) st1 s) (hn1 : n1 ≤ 60)
    (hk : ∀ nm p, K (ys_ st n st1 n1 s N) nm p) : wpX9_goes (nI N) s nm p K := ⟨N + 1, r_goesl hj hY hN h0 hn h1 hn1 hk N 0 nm p (by omega)⟩
theorem c_yearsl {st st1 s events kinds ms tape waiting errors : Nat → Int32} {secret z readers tapeSize waits hi sa sb hi1 sa1 sb1 : Int32} {n n1 N R : Nat} {Y : Int} {K : Int32 → (Nat → Int32) → Int32 → (Nat → Int32) → (Nat → Int32) → (Nat → Int32) → (Nat → Int32) → (Nat → Int32) → (Nat → Int32) → (Nat → Int32) → Prop}
    (hj : rj Y s) (hY : Y + N < 100000) (hN : N < 1000) (hR : R ≤ 6) (eR : readers = nI R) (hn : n ≤ 60) (hok : tx_ok st n) (hn1 : n1 ≤ 60) (hok1 : tx_ok st1 n1)
    (hk : ∀ year' mem' sk' turns' jaws' marks' mem1' sk1', rm 30 9 16 hi sa sb (nI n) st mem' → rm 40 66 10 hi1 sa1 sb1 (nI n1) st1 mem1' → rw_ year' secret z readers tapeSize waits jaws' events kinds ms marks' tape waiting (ys_ st n st1 n1 s N) → K (sm_ marks' R) errors year' marks' mem' sk' turns' jaws' mem1' sk1') :
    ∀ (m k : Nat) (year : Int32) (mem sk turns jaws marks mem1 sk1 : Nat → Int32), k + m = N → rm 30 9 16 hi sa sb (nI n) st mem → rm 40 66 10 hi1 sa1 sb1 (nI n1) st1 mem1 → rw_ year secret z readers tapeSize waits jaws events kinds ms marks tape waiting (ys_ st n st1 n1 s k) →
      wpX8_years_L43 (m + 1) (nI N) (nI k) errors readers year secret marks events hi sa sb (nI n) 1152 mem st sk turns jaws kinds ms hi1 sa1 sb1 (nI n1) 5280 mem1 st1 sk1 K := by
  intro m
  induction m with
  | zero =>
    intro k year mem sk turns jaws marks mem1 sk1 h hm hm1 hw
    have e : k = N := by omega
    subst e
    rw [wpX8_years_L43]
    refine br_t (nI_le (Nat.le_refl _) (by omega)) ?_
    rw [eR]
    refine am8 hR ?_
    exact hk year mem sk turns jaws marks mem1 sk1 hm hm1 hw
  | succ m ih =>
    intro k year mem sk turns jaws marks mem1 sk1 h hm hm1 hw
    have hjk := rj_ys st n st1 n1 hj k (by omega)
    obtain ⟨v, hv, ev, etn⟩ := yn_ hjk (by omega)
    obtain ⟨e, he, ee⟩ := ye_n hjk
    have ey : ye_ (ys_ st n st1 n1 s k) = ys_ st n st1 n1 s k (8 + v % 6) := by unfold ye_; rw [etn]
    have e1 : year = nI v := hw.1.trans ev
    rw [wpX8_years_L43]
    refine br_f (nI_ge (by omega) (by omega)) ?_
    have kk : wpX7_pass (nI e) readers year secret hi sa sb (nI n) 1152 mem st sk turns jaws marks kinds ms hi1 sa1 sb1 (nI n1) 5280 mem1 st1 sk1 (fun u69_0 u69_1 u69_2 u69_3 u69_4 u69_5 u69_6 u69_7 => wpX8_years_L43 (m + 1) (nI N) (nI k + 1) errors readers u69_0 secret u69_5 events hi sa sb (nI n) 1152 u69_1 st u69_2 u69_3 u69_4 kinds ms hi1 sa1 sb1 (nI n1) 5280 u69_6 st1 u69_7 K) := by
      refine c_pass he hw hjk (by omega) hn hok hm hn1 hok1 hm1 (fun mem' sk' turns' jaws' marks' mem1' sk1' hm' hm1' hw' => ?_)
      rw [nI_1]
      rw [← ee] at hw'
      exact ih (k + 1) _ mem' sk' turns' jaws' marks' mem1' sk1' (by omega) hm' hm1' hw'
    rw [e1] at kk ⊢
    refine ev8 (by omega) ?_
    rw [hw.2.2.2.2.2.2.2.2.1 _ (Nat.mod_lt _ (by decide)), ← ey, ee]
    exact kk
set_option maxRecDepth 20000 in
theorem pc_years {c d : Nat → Int32} {A B : Nat → Nat → Int32} {nm : Nat} {x1 : Int32} (hR : rl c A d B nm) : wpX8_years x1 (A 36) (c 1) (c 5) (c 6) (A 5) (A 2) (c 7) (c 8) (c 9) (c 10) 1152 (A 10) (A 8) (A 9) (A 1) (A 0) (A 3) (A 4) (c 11) (c 12) (c 13) (c 14) 5280 (A 13) (A 11) (A 12) (fun r8 u0 u1 u2 u3 u4 u5 u6 u7 u8 => wpX9_years x1 (B 0) (B 5) (B 6) (B 3) (fun r9 w0 w1 w2 w3 => r8 = r9 ∧ rl (va_up c 5 u1) (va_up (va_up (va_up (va_up (va_up (va_up (va_up (va_up A 36 u0) 5 u2) 10 u3) 9 u4) 1 u5) 0 u6) 13 u7) 12 u8) d (va_up (va_up (va_up (va_up B 0 w0) 5 w1) 6 w2) 3 w3) nm)) := by
  obtain ⟨hw, hi, ht0, ht1, hm0, hm1, him, her, hv, hs0, hs1, hs2, hs3, hnm⟩ := id hR
  obtain ⟨n0, hn0, en0, hok0⟩ := rt_n ht0
  have ht0n : rt 0 (nI n0) (A 8) (B 0) := by rw [← en0]; exact ht0
  have hm0n : rm 30 9 16 (c 7) (c 8) (c 9) (nI n0) (A 8) (A 10) := by rw [← en0]; exact hm0
  obtain ⟨n1, hn1, en1, hok1⟩ := rt_n ht1
  have ht1n : rt 1 (nI n1) (A 11) (B 0) := by rw [← en1]; exact ht1
  have hm1n : rm 40 66 10 (c 11) (c 12) (c 13) (nI n1) (A 11) (A 13) := by rw [← en1]; exact hm1
  obtain ⟨R, hR6, e7⟩ := in_nI (n := 6) hi.2.2.2.2.2.2.1
  obtain ⟨y, hy, ey⟩ := in_nI (n := 9999) hi.1
  have ec5 : c 5 = nI y := hw.1.trans ey
  unfold wpX8_years wpX9_years
  rcases rg_dec x1 60 (by decide) with hx | ⟨N, hN1, hN, rfl⟩
  · refine rg8 (n := 60) (by decide) hx (e8 (k := 1) (by decide) (rg9 (n := 60) (by decide) hx (br_t rfl (e9 (k := 1) (by decide) ?_))))
    exact ⟨rfl, hw, hi, ht0, ht1, hm0, hm1, him, er_up her (k := 1) (by decide), hv, hs0, hs1, hs2, hs3, hnm⟩
  · refine br_f (show ¬ nI N < nI 1 from nI_nlt hN1 (by omega)) (br_t (show nI N ≤ nI 60 from nI_le hN (by decide)) ?_)
    have e99 : (9999 - nI N : Int32) = nI (9999 - N) := pk_sub (a := 9999) (by omega)
    rw [c_0, ey, nI_add, e99]
    by_cases hle : y + N ≤ 9999
    · refine br_t (by rw [ec5]; exact nI_le (by omega) (by omega)) ⟨N + 1, ?_⟩
      have hj : rj y (B 0) := ⟨by rw [ey]; exact in_mk (Nat.le_refl _) (by omega), hi.2⟩
      rw [en0, en1]
      refine c_yearsl (z := c 4) (tapeSize := c 2) (waits := c 3) (tape := A 6) (waiting := A 7) hj (by omega) (by omega) hR6 (hw.2.2.2.1.trans e7) hn0 hok0 hn1 hok1 (fun year' mem' sk' turns' jaws' marks' mem1' sk1' hm' hm1' hw' => ?_) N 0 (c 5) (A 10) (A 9) (A 1) (A 0) (A 5) (A 13) (A 12) (by omega) hm0n hm1n hw
      refine rg9t hN1 hN (by decide) (br_f (by decide) ⟨vp_in_iff.mpr (by decide), br_t (show nI (y + N) ≤ nI 9999 from nI_le hle (by decide)) (r_goes hj (by omega) (by omega) ht0n hn0 ht1n hn1 (fun nm' p' => ?_))⟩)
      have hjN := rj_ys (A 8) n0 (A 11) n1 hj N (by omega)
      have e7N : ys_ (A 8) n0 (A 11) n1 (B 0) N 7 = nI R := hw'.2.2.2.1.symm.trans (hw.2.2.2.1.trans e7)
      refine am9 hR6 e7N ?_
      have hm2 : rm 30 9 16 (c 7) (c 8) (c 9) (c 10) (A 8) mem' := by rw [en0]; exact hm'
      have hm3 : rm 40 66 10 (c 11) (c 12) (c 13) (c 14) (A 11) mem1' := by rw [en1]; exact hm1'
      exact ⟨sm_c R (fun i h => hw'.2.2.2.2.2.2.2.2.2.2.2.1 i (by omega)), hw', rj_le hjN (by omega), rt_ys _ _ _ _ (by decide) hj ht0 N (by omega), rt_ys _ _ _ _ (by decide) hj ht1 N (by omega), hm2, hm3, him, her, hv, hs0, hs1, hs2, hs3, hnm⟩
    · refine br_f (by rw [ec5]; exact nI_ge (by omega) (by omega)) (e8 (k := 3) (by decide) ?_)
      refine rg9t hN1 hN (by decide) (br_f (by decide) ⟨vp_in_iff.mpr (by decide), br_f (show ¬ nI (y + N) ≤ nI 9999 from nI_ge (by omega) (by omega)) (e9 (k := 3) (by decide) ?_)⟩)
      exact ⟨rfl, hw, hi, ht0, ht1, hm0, hm1, him, er_up her (k := 3) (by decide), hv, hs0, hs1, hs2, hs3, hnm⟩
