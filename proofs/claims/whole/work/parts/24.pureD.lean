/-! what would be -/
def lv_z (z : Int32) : Int32 := z * 1103515245 + 12345
def lv_e (z : Int32) : Int32 := ((z.toUInt32 >>> ((8 : Int32).toUInt32 &&& Int32.toUInt32 31)).toInt32) - ((z.toUInt32 >>> ((8 : Int32).toUInt32 &&& Int32.toUInt32 31)).toInt32) / 256 * 256
theorem lv_n (z : Int32) : ∃ e : Nat, e ≤ 255 ∧ lv_e z = nI e := by
  have h := pk_ushr z 8 8 (by decide)
  have hz : z.toBitVec.toNat < 2 ^ 32 := z.toBitVec.isLt
  have hq : z.toBitVec.toNat / 2 ^ 8 < 2 ^ 24 := by omega
  have e : (z.toUInt32 >>> ((8 : Int32).toUInt32 &&& Int32.toUInt32 31)).toInt32 = nI (z.toBitVec.toNat / 2 ^ 8) := by
    apply Int32.toBitVec_inj.mp
    apply BitVec.eq_of_toNat_eq
    rw [h, pk_tn (by omega)]
  refine ⟨z.toBitVec.toNat / 2 ^ 8 % 256, by omega, ?_⟩
  unfold lv_e
  rw [e]
  exact pk_rem (d := 256) (by omega) (by decide) (by decide)
def ls_ (st : Nat → Int32) (n : Nat) (st1 : Nat → Int32) (n1 : Nat) (s : Nat → Int32) : Nat → Nat → Int32
  | 0 => s
  | k + 1 => yr_ st n st1 n1 (lv_e (lv_z (ls_ st n st1 n1 s k 4))) (upd (ls_ st n st1 n1 s k) 4 (lv_z (ls_ st n st1 n1 s k 4)))
theorem rj_z {s : Nat → Int32} {Y : Int} (h : rj Y s) (v : Int32) : rj Y (upd s 4 v) := by
  obtain ⟨h0, h1, h2, h3, h5, h6, h7, he, hk, hm, hs⟩ := id h
  exact ⟨by rw [pk_un (by decide)]; exact h0, by rw [pk_un (by decide)]; exact h1, by rw [pk_un (by decide)]; exact h2, by rw [pk_un (by decide)]; exact h3, by rw [pk_un (by decide)]; exact h5, by rw [pk_un (by decide)]; exact h6, by rw [pk_un (by decide)]; exact h7,
    fun i hi => by rw [pk_un (by omega)]; exact he i hi, fun i hi => by rw [pk_un (by omega)]; exact hk i hi, fun i hi => by rw [pk_un (by omega)]; exact hm i hi, fun i hi => by rw [pk_un (by omega)]; exact hs i hi⟩
theorem rj_ls (st : Nat → Int32) (n : Nat) (st1 : Nat → Int32) (n1 : Nat) {s : Nat → Int32} {Y : Int} (hj : rj Y s) : ∀ k : Nat, Y + k < 100000 → rj (Y + k) (ls_ st n st1 n1 s k) := by
  intro k
  induction k with
  | zero => intro _; exact rj_le hj (by omega)
  | succ k ih =>
    intro hk
    have h := rj_yr st n st1 n1 (lv_e (lv_z (ls_ st n st1 n1 s k 4))) (rj_z (ih (by omega)) (lv_z (ls_ st n st1 n1 s k 4))) (by omega)
    exact rj_le h (by omega)
theorem rt_ls {u : Nat} {len : Int32} {st' s : Nat → Int32} (st : Nat → Int32) (n : Nat) (st1 : Nat → Int32) (n1 : Nat) {Y : Int} (hu : u < 2) (hj : rj Y s) (h : rt u len st' s) : ∀ k : Nat, Y + k < 100000 → rt u len st' (ls_ st n st1 n1 s k) := by
  intro k
  induction k with
  | zero => intro _; exact h
  | succ k ih =>
    intro hk
    exact rt_yr st n st1 n1 _ hu (rj_z (rj_ls st n st1 n1 hj k (by omega)) _) (rt_keep hu (ih (by omega)) (by omega))
theorem c_loosel {st st1 s events kinds ms tape waiting errors : Nat → Int32} {secret readers tapeSize waits hi sa sb hi1 sa1 sb1 : Int32} {n n1 N R : Nat} {Y : Int} {K : Int32 → (Nat → Int32) → Int32 → Int32 → (Nat → Int32) → (Nat → Int32) → (Nat → Int32) → (Nat → Int32) → (Nat → Int32) → (Nat → Int32) → (Nat → Int32) → Prop}
    (hj : rj Y s) (hY : Y + N < 100000) (hN : N < 1000) (hR : R ≤ 6) (eR : readers = nI R) (hn : n ≤ 60) (hok : tx_ok st n) (hn1 : n1 ≤ 60) (hok1 : tx_ok st1 n1)
    (hk : ∀ z' year' mem' sk' turns' jaws' marks' mem1' sk1', rm 30 9 16 hi sa sb (nI n) st mem' → rm 40 66 10 hi1 sa1 sb1 (nI n1) st1 mem1' → rw_ year' secret z' readers tapeSize waits jaws' events kinds ms marks' tape waiting (ls_ st n st1 n1 s N) → K (sm_ marks' R) errors z' year' marks' mem' sk' turns' jaws' mem1' sk1') :
    ∀ (m k : Nat) (z year : Int32) (mem sk turns jaws marks mem1 sk1 : Nat → Int32), k + m = N → rm 30 9 16 hi sa sb (nI n) st mem → rm 40 66 10 hi1 sa1 sb1 (nI n1) st1 mem1 → rw_ year secret z readers tapeSize waits jaws events kinds ms marks tape waiting (ls_ st n st1 n1 s k) →
      wpX8_loose_L43 (m + 1) (nI N) (nI k) errors readers z year secret marks hi sa sb (nI n) 1152 mem st sk turns jaws kinds ms hi1 sa1 sb1 (nI n1) 5280 mem1 st1 sk1 K := by
  intro m
  induction m with
  | zero =>
    intro k z year mem sk turns jaws marks mem1 sk1 h hm hm1 hw
    have e : k = N := by omega
    subst e
    rw [wpX8_loose_L43]
    refine br_t (nI_le (Nat.le_refl _) (by omega)) ?_
    rw [eR]
    refine am8 hR ?_
    exact hk z year mem sk turns jaws marks mem1 sk1 hm hm1 hw
  | succ m ih =>
    intro k z year mem sk turns jaws marks mem1 sk1 h hm hm1 hw
    have hjk := rj_ls st n st1 n1 hj k (by omega)
    have ez : z = ls_ st n st1 n1 s k 4 := hw.2.2.1
    obtain ⟨e, he, ee⟩ := lv_n (lv_z z)
    rw [wpX8_loose_L43]
    refine br_f (nI_ge (by omega) (by omega)) ?_
    show wpX7_pass (lv_e (lv_z z)) readers year secret hi sa sb (nI n) 1152 mem st sk turns jaws marks kinds ms hi1 sa1 sb1 (nI n1) 5280 mem1 st1 sk1 _
    rw [ee]
    refine c_pass he (rw_z hw (lv_z z)) (rj_z hjk _) (by omega) hn hok hm hn1 hok1 hm1 (fun mem' sk' turns' jaws' marks' mem1' sk1' hm' hm1' hw' => ?_)
    rw [nI_1]
    rw [← ee, ez] at hw'
    rw [ez]
    exact ih (k + 1) _ _ mem' sk' turns' jaws' marks' mem1' sk1' (by omega) hm' hm1' hw'
theorem r_loosel {st st1 s errors : Nat → Int32} {n n1 N R : Nat} {Y : Int} {K : Int32 → (Nat → Int32) → (Nat → Int32) → (Nat → Int32) → (Nat → Int32) → Prop} (hj : rj Y s) (hY : Y + N < 100000) (hN : N < 1000) (h0 : rt 0 (nI n) st s) (hn : n ≤ 60) (h1 : rt 1 (nI n1) st1 s) (hn1 : n1 ≤ 60)
    (hR : R ≤ 6) (e7 : ls_ st n st1 n1 s N 7 = nI R)
    (hk : ∀ nm p, K (sm_ (fun i => ls_ st n st1 n1 s N (16 + 3 * i)) R) (ls_ st n st1 n1 s N) errors nm p) : ∀ (m k : Nat) (nm p : Nat → Int32), k + m = N → wpX9_loose_L38 (m + 1) (nI N) (nI k) (ls_ st n st1 n1 s k) errors nm p K := by
  intro m
  induction m with
  | zero =>
    intro k nm p h
    have e : k = N := by omega
    subst e
    rw [wpX9_loose_L38]
    exact br_t (nI_le (Nat.le_refl _) (by omega)) (am9 hR e7 (hk nm p))
  | succ m ih =>
    intro k nm p h
    have hjk := rj_ls st n st1 n1 hj k (by omega)
    obtain ⟨e, he, ee⟩ := lv_n (lv_z (ls_ st n st1 n1 s k 4))
    rw [wpX9_loose_L38]
    refine br_f (nI_ge (by omega) (by omega)) ⟨vp_in_iff.mpr (by decide), vp_in_iff.mpr (by decide), vp_in_iff.mpr (by decide), ?_⟩
    rw [show (4 : Int32).toNatClampNeg = 4 from rfl, pk_us]
    show wpX9_year1 (lv_e (lv_z (ls_ st n st1 n1 s k 4))) (upd (ls_ st n st1 n1 s k) 4 (lv_z (ls_ st n st1 n1 s k 4))) nm p _
    rw [ee]
    refine r_year he (rj_z hjk _) (by omega) (rt_keep (by decide) (rt_ls st n st1 n1 (by decide) hj h0 k (by omega)) (by omega)) hn (rt_keep (by decide) (rt_ls st n st1 n1 (by decide) hj h1 k (by omega)) (by omega)) hn1 (fun nm' p' => ?_)
    rw [← ee, nI_1]
    exact ih (k + 1) nm' p' (by omega)
set_option maxRecDepth 20000 in
theorem pc_loose {c d : Nat → Int32} {A B : Nat → Nat → Int32} {nm : Nat} {x1 : Int32} (hR : rl c A d B nm) : wpX8_loose x1 (A 36) (c 1) (c 4) (c 5) (c 6) (A 5) (c 7) (c 8) (c 9) (c 10) 1152 (A 10) (A 8) (A 9) (A 1) (A 0) (A 3) (A 4) (c 11) (c 12) (c 13) (c 14) 5280 (A 13) (A 11) (A 12) (fun r8 u0 u1 u2 u3 u4 u5 u6 u7 u8 u9 => wpX9_loose x1 (B 0) (B 3) (B 5) (B 6) (fun r9 w0 w1 w2 w3 => r8 = r9 ∧ rl (va_up (va_up c 4 u1) 5 u2) (va_up (va_up (va_up (va_up (va_up (va_up (va_up (va_up A 36 u0) 5 u3) 10 u4) 9 u5) 1 u6) 0 u7) 13 u8) 12 u9) d (va_up (va_up (va_up (va_up B 0 w0) 3 w1) 5 w2) 6 w3) nm)) := by
  obtain ⟨hw, hi, ht0, ht1, hm0, hm1, him, her, hv, hs0, hs1, hs2, hs3, hnm⟩ := id hR
  obtain ⟨n0, hn0, en0, hok0⟩ := rt_n ht0
  have ht0n : rt 0 (nI n0) (A 8) (B 0) := by rw [← en0]; exact ht0
  have hm0n : rm 30 9 16 (c 7) (c 8) (c 9) (nI n0) (A 8) (A 10) := by rw [← en0]; exact hm0
  obtain ⟨n1, hn1, en1, hok1⟩ := rt_n ht1
  have ht1n : rt 1 (nI n1) (A 11) (B 0) := by rw [← en1]; exact ht1
  have hm1n : rm 40 66 10 (c 11) (c 12) (c 13) (nI n1) (A 11) (A 13) := by rw [← en1]; exact hm1
  obtain ⟨R, hR6, e7⟩ := in_nI (n := 6) hi.2.2.2.2.2.2.1
  obtain ⟨y, hy, ey⟩ := in_nI (n := 9999) hi.1
  have ec5 : c 5 = nI y := hw.1.trans ey
  unfold wpX8_loose wpX9_loose
  rcases rg_dec x1 30 (by decide) with hx | ⟨N, hN1, hN, rfl⟩
  · refine rg8 (n := 30) (by decide) hx (e8 (k := 1) (by decide) (rg9 (n := 30) (by decide) hx (br_t rfl (e9 (k := 1) (by decide) ?_))))
    exact ⟨rfl, hw, hi, ht0, ht1, hm0, hm1, him, er_up her (k := 1) (by decide), hv, hs0, hs1, hs2, hs3, hnm⟩
  · refine br_f (show ¬ nI N < nI 1 from nI_nlt hN1 (by omega)) (br_t (show nI N ≤ nI 30 from nI_le hN (by decide)) ?_)
    have e99 : (9999 - nI N : Int32) = nI (9999 - N) := pk_sub (a := 9999) (by omega)
    rw [c_0, ey, nI_add, e99]
    by_cases hle : y + N ≤ 9999
    · refine br_t (by rw [ec5]; exact nI_le (by omega) (by omega)) ⟨N + 1, ?_⟩
      have hj : rj y (B 0) := ⟨by rw [ey]; exact in_mk (Nat.le_refl _) (by omega), hi.2⟩
      rw [en0, en1]
      refine c_loosel (tapeSize := c 2) (waits := c 3) (events := A 2) (tape := A 6) (waiting := A 7) hj (by omega) (by omega) hR6 (hw.2.2.2.1.trans e7) hn0 hok0 hn1 hok1 (fun z' year' mem' sk' turns' jaws' marks' mem1' sk1' hm' hm1' hw' => ?_) N 0 (c 4) (c 5) (A 10) (A 9) (A 1) (A 0) (A 5) (A 13) (A 12) (by omega) hm0n hm1n hw
      have e7N : ls_ (A 8) n0 (A 11) n1 (B 0) N 7 = nI R := hw'.2.2.2.1.symm.trans (hw.2.2.2.1.trans e7)
      refine rg9t hN1 hN (by decide) (br_f (by decide) ⟨vp_in_iff.mpr (by decide), br_t (show nI (y + N) ≤ nI 9999 from nI_le hle (by decide)) ⟨N + 1, r_loosel hj (by omega) (by omega) ht0n hn0 ht1n hn1 hR6 e7N (fun nm' p' => ?_) N 0 (B 5) (B 6) (by omega)⟩⟩)
      have hjN := rj_ls (A 8) n0 (A 11) n1 hj N (by omega)
      have hm2 : rm 30 9 16 (c 7) (c 8) (c 9) (c 10) (A 8) mem' := by rw [en0]; exact hm'
      have hm3 : rm 40 66 10 (c 11) (c 12) (c 13) (c 14) (A 11) mem1' := by rw [en1]; exact hm1'
      exact ⟨sm_c R (fun i h => hw'.2.2.2.2.2.2.2.2.2.2.2.1 i (by omega)), hw', rj_le hjN (by omega), rt_ls _ _ _ _ (by decide) hj ht0 N (by omega), rt_ls _ _ _ _ (by decide) hj ht1 N (by omega), hm2, hm3, him, her, hv, hs0, hs1, hs2, hs3, hnm⟩
    · refine br_f (by rw [ec5]; exact nI_ge (by omega) (by omega)) (e8 (k := 3) (by decide) ?_)
      refine rg9t hN1 hN (by decide) (br_f (by decide) ⟨vp_in_iff.mpr (by decide), br_f (show ¬ nI (y + N) ≤ nI 9999 from nI_ge (by omega) (by omega)) (e9 (k := 3) (by decide) ?_)⟩)
      exact ⟨rfl, hw, hi, ht0, ht1, hm0, hm1, him, er_up her (k := 3) (by decide), hv, hs0, hs1, hs2, hs3, hnm⟩
/-- what is laid aside, and laid back -/
theorem sv9l {s : Nat → Int32} {K : (Nat → Int32) → Prop} (hk : ∀ b : Nat → Int32, (∀ i, i < 32 → b i = s i) → K b) : ∀ (m k : Nat) (b : Nat → Int32), k + m = 32 → (∀ i, i < k → b i = s i) → wpX9_saves_L2 (m + 1) (nI k) s b K := by
  intro m
  induction m with
  | zero =>
    intro k b h hb
    have e : k = 32 := by omega
    subst e
    rw [wpX9_saves_L2]
    exact br_t (by decide) (hk b hb)
  | succ m ih =>
    intro k b h hb
    rw [wpX9_saves_L2]
    refine br_f (show ¬ nI 32 ≤ nI k from nI_ge (by omega) (by decide)) ⟨vp_in_nI (by omega) (by decide), vp_in_nI (by omega) (by decide), ?_⟩
    rw [i_cl (show k < 2147483648 by omega), nI_1]
    refine ih (k + 1) _ (by omega) (fun i hi => ?_)
    by_cases e : i = k
    · subst e; exact pk_us
    · rw [pk_un e]; exact hb i (by omega)
theorem sv9 {s b : Nat → Int32} {K : (Nat → Int32) → Prop} (hk : ∀ b : Nat → Int32, (∀ i, i < 32 → b i = s i) → K b) : wpX9_saves s b K := ⟨33, sv9l hk 32 0 b (by omega) (fun i hi => absurd hi (Nat.not_lt_zero i))⟩
theorem pb9l {s b : Nat → Int32} {K : (Nat → Int32) → Prop} (hb : ∀ i, i < 32 → b i = s i) (hk : K s) : ∀ (m k : Nat) (z : Nat → Int32), k + m = 32 → (∀ i, i < k ∨ 32 ≤ i → z i = s i) → wpX9_putsBack_L2 (m + 1) (nI k) b z K := by
  intro m
  induction m with
  | zero =>
    intro k z h hz
    have e : k = 32 := by omega
    subst e
    have ez : z = s := funext (fun i => hz i (by omega))
    subst ez
    rw [wpX9_putsBack_L2]
    exact br_t (by decide) hk
  | succ m ih =>
    intro k z h hz
    rw [wpX9_putsBack_L2]
    refine br_f (show ¬ nI 32 ≤ nI k from nI_ge (by omega) (by decide)) ⟨vp_in_nI (by omega) (by decide), vp_in_nI (by omega) (by decide), ?_⟩
    rw [i_cl (show k < 2147483648 by omega), nI_1]
    refine ih (k + 1) _ (by omega) (fun i hi => ?_)
    by_cases e : i = k
    · subst e; rw [pk_us]; exact hb i (by omega)
    · rw [pk_un e]; exact hz i (by omega)
theorem pb9 {s b z : Nat → Int32} {K : (Nat → Int32) → Prop} (hb : ∀ i, i < 32 → b i = s i) (hz : ∀ i, 32 ≤ i → z i = s i) (hk : K s) : wpX9_putsBack b z K := ⟨33, pb9l hb hk 32 0 z (by omega) (fun i hi => hz i (by omega))⟩
theorem ys_hi (st : Nat → Int32) (n : Nat) (st1 : Nat → Int32) (n1 : Nat) {s : Nat → Int32} {Y : Int} (hj : rj Y s) : ∀ k : Nat, Y + k < 100000 → ∀ i, 32 ≤ i → ys_ st n st1 n1 s k i = s i := by
  intro k
  induction k with
  | zero => intro _ i _; rfl
  | succ k ih =>
    intro hk i hi
    rw [← ih (by omega) i hi]
    exact yr_hi st n st1 n1 _ (rj_ys st n st1 n1 hj k (by omega)) hi
theorem ys_lo (st : Nat → Int32) (n : Nat) (st1 : Nat → Int32) (n1 : Nat) (s : Nat → Int32) {i : Nat} (hi : i = 1 ∨ (4 ≤ i ∧ i < 16) ∨ (16 ≤ i ∧ ¬ (i - 16) % 3 = 0)) : ∀ k : Nat, ys_ st n st1 n1 s k i = s i := by
  intro k
  induction k with
  | zero => rfl
  | succ k ih =>
    rw [← ih]
    exact yr_lo st n st1 n1 _ hi
/-- thought lions against a row -/
def th_ (year sec : Int32) (jaws events t : Nat → Int32) : Prop := year = t 0 ∧ sec = t 1 ∧ jaws 0 = t 2 ∧ jaws 1 = t 3 ∧ ∀ i, i < 6 → events i = t (8 + i)
theorem th_s {st : Nat → Int32} {n : Nat} {st1 : Nat → Int32} {n1 : Nat} {year sec : Int32} {jaws jaws' events t : Nat → Int32} (h : th_ year sec jaws events t) (h0 : jaws' 0 = yj_ st n (ye_ t) t 0) (h1 : jaws' 1 = yj_ st n (ye_ t) t 1) : th_ (year + 1) sec jaws' events (yr_ st n st1 n1 (ye_ t) t) :=
  ⟨by rw [yr_0, h.1], by rw [yr_lo _ _ _ _ _ (by omega)]; exact h.2.1, by rw [yr_2]; exact h0, by rw [yr_3]; exact h1, fun i hi => by rw [yr_lo _ _ _ _ _ (by omega)]; exact h.2.2.2.2 i hi⟩
theorem c_st {st sk mem turns jaws events t : Nat → Int32} {n : Nat} {hi sa sb sec year : Int32} {Y : Int} {K : (Nat → Int32) → (Nat → Int32) → (Nat → Int32) → (Nat → Int32) → Prop} (hj : rj Y t) (hY : Y < 100000) (hth : th_ year sec jaws events t) (hn : n ≤ 60) (hok : tx_ok st n) (hm : rm 30 9 16 hi sa sb (nI n) st mem)
    (hk : ∀ mem' sk' turns' jaws', rm 30 9 16 hi sa sb (nI n) st mem' → jaws' 0 = yj_ st n (ye_ t) t 0 → jaws' 1 = yj_ st n (ye_ t) t 1 → turns' 0 = yt_ st n (ye_ t) t 0 → turns' 1 = yt_ st n (ye_ t) t 1 → K mem' sk' turns' jaws') :
    wpX7_eventIn year events (fun r => wpX7_stir r year sec hi sa sb (nI n) 1152 mem st sk turns jaws K) := by
  obtain ⟨v, hv, ev, etn⟩ := yn_ hj (by omega)
  obtain ⟨e, he, ee⟩ := ye_n hj
  have ey : ye_ t = t (8 + v % 6) := by unfold ye_; rw [etn]
  obtain ⟨e0, e1, j0, j1, hev⟩ := hth
  rw [e0, ev]
  refine ev8 (by omega) ?_
  rw [hev _ (Nat.mod_lt _ (by decide)), ← ey, ee]
  refine c_stir he hn hok hm (fun mem' sk' hm' => hk mem' sk' _ _ hm' ?_ ?_ ?_ ?_)
  · rw [pk_un (show (0 : Nat) ≠ 1 by decide), pk_us, ee, ← ev, e1, j0]; rfl
  · rw [pk_us, ee, ← ev, e1, j1]; rfl
  · rw [pk_un (show (0 : Nat) ≠ 1 by decide), pk_us, ee, ← ev, e1]; rfl
  · rw [pk_us, ee, ← ev, e1]; rfl
theorem c_cp {y s y1 s1 : Int32} {f g : Nat → Int32} {K : Int32 → Int32 → (Nat → Int32) → Prop} (hk : ∀ j : Nat → Int32, j 0 = f 0 → j 1 = f 1 → K y s j) : wpX2_copyFrom y s y1 s1 f g K :=
  ⟨by decide, by decide, by decide, by decide, by decide, hk _ (pk_cpy_in (by decide) (by decide)) (pk_cpy_in (by decide) (by decide))⟩

/-! then, marksThen, laughs, alike -/
theorem c_jal {st st1 events s wj : Nat → Int32} {n n1 N l : Nat} {hi sa sb sec wy ws : Int32} {Y : Int} {K : Int32 → Int32 → Int32 → (Nat → Int32) → (Nat → Int32) → (Nat → Int32) → (Nat → Int32) → Prop}
    (hj : rj Y s) (hY : Y + N < 100000) (hN : N < 1000) (hl : l < 2) (hn : n ≤ 60) (hok : tx_ok st n)
    (hk : ∀ year jaws mem' sk' turns, rm 30 9 16 hi sa sb (nI n) st mem' → K (ys_ st n st1 n1 s N (2 + l)) year sec jaws mem' sk' turns) :
    ∀ (m k : Nat) (year : Int32) (mem sk turns jaws : Nat → Int32), k + m = N → rm 30 9 16 hi sa sb (nI n) st mem → th_ year sec jaws events (ys_ st n st1 n1 s k) →
      wpX5_jawAfter_L14 (m + 1) (nI l) (nI N) (nI k) wy ws year sec wj jaws events hi sa sb (nI n) 1152 mem st sk turns K := by
  intro m
  induction m with
  | zero =>
    intro k year mem sk turns jaws h hm hth
    have e : k = N := by omega
    subst e
    rw [wpX5_jawAfter_L14]
    refine br_t (nI_le (Nat.le_refl _) (by omega)) ⟨vp_in_nI hl (by decide), ?_⟩
    rw [i_cl (show l < 2147483648 by omega)]
    have ej : jaws l = ys_ st n st1 n1 s k (2 + l) := by
      rcases (show l = 0 ∨ l = 1 by omega) with rfl | rfl
      · exact hth.2.2.1
      · exact hth.2.2.2.1
    rw [ej]
    exact hk year jaws mem sk turns hm
  | succ m ih =>
    intro k year mem sk turns jaws h hm hth
    rw [wpX5_jawAfter_L14]
    refine br_f (nI_ge (by omega) (by omega)) ?_
    refine c_st (rj_ys st n st1 n1 hj k (by omega)) (by omega) hth hn hok hm (fun mem' sk' turns' jaws' hm' h0 h1 _ _ => ?_)
    rw [nI_1]
    exact ih (k + 1) _ mem' sk' turns' jaws' (by omega) hm' (th_s hth h0 h1)
set_option maxRecDepth 20000 in
theorem pc_then {c d : Nat → Int32} {A B : Nat → Nat → Int32} {nm : Nat} {x1 : Int32} {x2 : Int32} (hR : rl c A d B nm) : wpX8_then x1 x2 (A 36) (c 5) (c 6) (c 32) (c 33) (A 0) (A 28) (A 2) (c 7) (c 8) (c 9) (c 10) 1152 (A 10) (A 8) (A 9) (A 29) (fun r8 u0 u1 u2 u3 u4 u5 u6 => wpX9_then x1 x2 (B 3) (B 0) (B 2) (B 5) (B 6) (fun r9 w0 w1 w2 w3 w4 => r8 = r9 ∧ rl (va_up (va_up c 32 u1) 33 u2) (va_up (va_up (va_up (va_up (va_up A 36 u0) 28 u3) 10 u4) 9 u5) 29 u6) d (va_up (va_up (va_up (va_up (va_up B 3 w0) 0 w1) 2 w2) 5 w3) 6 w4) nm)) := by
  obtain ⟨hw, hi, ht0, ht1, hm0, hm1, him, her, hv, hs0, hs1, hs2, hs3, hnm⟩ := id hR
  obtain ⟨n0, hn0, en0, hok0⟩ := rt_n ht0
  have ht0n : rt 0 (nI n0) (A 8) (B 0) := by rw [← en0]; exact ht0
  have hm0n : rm 30 9 16 (c 7) (c 8) (c 9) (nI n0) (A 8) (A 10) := by rw [← en0]; exact hm0
  obtain ⟨n1, hn1, en1, hok1⟩ := rt_n ht1
  have ht1n : rt 1 (nI n1) (A 11) (B 0) := by rw [← en1]; exact ht1
  have hj : rj 9999 (B 0) := hi
  have hth0 : ∀ j : Nat → Int32, j 0 = A 0 0 → j 1 = A 0 1 → th_ (c 5) (c 6) j (A 2) (B 0) := fun j h0 h1 => ⟨hw.1, hw.2.1, h0.trans hw.2.2.2.2.2.2.1, h1.trans hw.2.2.2.2.2.2.2.1, hw.2.2.2.2.2.2.2.2.1⟩
  unfold wpX8_then wpX9_then wpX8_isLion wpX9_isLion
  rcases in_dec x1 1 (by decide) with hx | ⟨l, hl, rfl⟩
  · refine w8_f (n := 1) (by decide) hx ⟨rfl, br_t rfl (e8 (k := 1) (by decide) ?_)⟩
    refine w9_f (n := 1) (by decide) hx ⟨rfl, br_t rfl (e9 (k := 1) (by decide) ?_)⟩
    exact ⟨rfl, hw, hi, ht0, ht1, hm0, hm1, him, er_up her (k := 1) (by decide), hv, hs0, hs1, hs2, hs3, hnm⟩
  · refine w8_t (n := 1) hl (by decide) ⟨rfl, br_f (by decide) ?_⟩
    rcases in_dec x2 60 (by decide) with hx | ⟨N, hN, rfl⟩
    · refine w8_f (n := 60) (by decide) hx (br_t rfl (e8 (k := 1) (by decide) ?_))
      refine w9_t (n := 1) hl (by decide) ⟨rfl, br_f (by decide) (w9_f (n := 60) (by decide) hx (br_t rfl (e9 (k := 1) (by decide) ?_)))⟩
      exact ⟨rfl, hw, hi, ht0, ht1, hm0, hm1, him, er_up her (k := 1) (by decide), hv, hs0, hs1, hs2, hs3, hnm⟩
    · refine w8_t (n := 60) hN (by decide) (br_f (by decide) ?_)
      rw [en0]
      refine c_cp (fun j h0 h1 => ⟨N + 1, ?_⟩)
      refine c_jal (st1 := A 11) (n1 := n1) hj (by omega) (by omega) (by omega) hn0 hok0 (fun year jaws mem' sk' turns hm' => ?_) N 0 (c 5) (A 10) (A 9) (A 29) j (by omega) hm0n (hth0 j h0 h1)
      refine w9_t (n := 1) hl (by decide) ⟨rfl, br_f (by decide) (w9_t (n := 60) hN (by decide) (br_f (by decide) (sv9 (fun b hb => r_goes hj (by omega) (by omega) ht0n hn0 ht1n hn1 (fun nm' p' => ?_)))))⟩
      rw [show (2 + nI l : Int32) = nI (2 + l) from nI_add 2 l]
      refine ⟨vp_in_nI (by omega) (by decide), ?_⟩
      rw [i_cl (show 2 + l < 2147483648 by omega)]
      refine pb9 hb (fun i h => ys_hi _ _ _ _ hj N (by omega) i h) ?_
      have hm2 : rm 30 9 16 (c 7) (c 8) (c 9) (c 10) (A 8) mem' := by rw [en0]; exact hm'
      exact ⟨rfl, hw, hi, ht0, ht1, hm2, hm1, him, her, hv, hs0, hs1, hs2, hs3, hnm⟩
/-- a reader's marks, thought -/
theorem c_mal {st st1 kinds ms events s wj wm : Nat → Int32} {n n1 N j : Nat} {hi sa sb hi1 sa1 sb1 sec wy ws y4 readers : Int32} {Y : Int} {K : Int32 → Int32 → Int32 → (Nat → Int32) → (Nat → Int32) → (Nat → Int32) → (Nat → Int32) → (Nat → Int32) → (Nat → Int32) → Prop}
    (hj : rj Y s) (hY : Y + N < 100000) (hN : N < 1000) (hjr : j < (s 7).toInt.toNat) (er : readers = s 7) (hkk : kinds j = s (14 + 3 * j)) (hms : ms j = s (15 + 3 * j)) (hn : n ≤ 60) (hok : tx_ok st n) (hn1 : n1 ≤ 60) (hok1 : tx_ok st1 n1)
    (hk : ∀ year jaws mem' sk' turns mem1' sk1', rm 30 9 16 hi sa sb (nI n) st mem' → rm 40 66 10 hi1 sa1 sb1 (nI n1) st1 mem1' → K (ys_ st n st1 n1 s N (16 + 3 * j)) year sec jaws mem' sk' turns mem1' sk1') :
    ∀ (m k : Nat) (had year : Int32) (mem sk turns jaws mem1 sk1 : Nat → Int32), k + m = N → had = ys_ st n st1 n1 s k (16 + 3 * j) → rm 30 9 16 hi sa sb (nI n) st mem → rm 40 66 10 hi1 sa1 sb1 (nI n1) st1 mem1 → th_ year sec jaws events (ys_ st n st1 n1 s k) →
      wpX5_marksAfter_L31 (m + 1) (nI j) (nI N) y4 had (nI k) readers wy ws year sec wj jaws wm events hi sa sb (nI n) 1152 mem st sk turns kinds ms hi1 sa1 sb1 (nI n1) 5280 mem1 st1 sk1 K := by
  have h76 := hj.2.2.2.2.2.2.1
  have hj6 : j < 6 := by
    unfold in_ at h76
    omega
  intro m
  induction m with
  | zero =>
    intro k had year mem sk turns jaws mem1 sk1 h hh hm hm1 hth
    have e : k = N := by omega
    subst e
    rw [wpX5_marksAfter_L31]
    refine br_t (nI_le (Nat.le_refl _) (by omega)) ?_
    rw [hh]
    exact hk year jaws mem sk turns mem1 sk1 hm hm1
  | succ m ih =>
    intro k had year mem sk turns jaws mem1 sk1 h hh hm hm1 hth
    have hjk := rj_ys st n st1 n1 hj k (by omega)
    rw [wpX5_marksAfter_L31]
    refine br_f (nI_ge (by omega) (by omega)) ?_
    refine c_st hjk (by omega) hth hn hok hm (fun mem' sk' turns' jaws' hm' h0 h1 t0 t1 => ?_)
    obtain ⟨M, hM, eM⟩ := in_nI (n := 9) (hjk.2.2.2.2.2.2.2.2.2.1 j hj6)
    obtain ⟨H, hH, eH⟩ := in_nI (n := 9999) (hjk.2.2.2.2.2.2.2.2.2.2 j hj6)
    obtain ⟨v, hv, ev, etn⟩ := yn_ hjk (by omega)
    have e15 : ys_ st n st1 n1 s k (15 + 3 * j) = s (15 + 3 * j) := ys_lo _ _ _ _ _ (by omega) k
    have e14 : ys_ st n st1 n1 s k (14 + 3 * j) = s (14 + 3 * j) := ys_lo _ _ _ _ _ (by omega) k
    have e7 : ys_ st n st1 n1 s k 7 = s 7 := ys_lo _ _ _ _ _ (by omega) k
    have eyr : year = nI v := hth.1.trans ev
    have key : wpX7_grown (nI j) (nI H) readers kinds ms (nI v) jaws' turns' hi1 sa1 sb1 (nI n1) 5280 mem1 st1 sk1 (fun r64 u64_0 u64_1 => wpX5_marksAfter_L31 (m + 1) (nI j) (nI N) y4 r64 (nI k + 1) readers wy ws (year + 1) sec wj jaws' wm events hi sa sb (nI n) 1152 mem' st sk' turns' kinds ms hi1 sa1 sb1 (nI n1) 5280 u64_0 st1 u64_1 K) := by
      refine c_grown hj6 hn1 hok1 hm1 (by rw [hms, ← e15]; exact eM) hM hv hH (fun mem1' sk1' hm1' => ?_)
      rw [nI_1]
      refine ih (k + 1) _ (year + 1) mem' sk' turns' jaws' mem1' sk1' (by omega) ?_ hm' hm1' (th_s hth h0 h1)
      show _ = yr_ st n st1 n1 (ye_ (ys_ st n st1 n1 s k)) (ys_ st n st1 n1 s k) (16 + 3 * j)
      rw [yr_m _ _ _ _ _ _ (by rw [e7]; exact hjr), h0, h1, t0, t1, hkk, hms, e14, e15, ← ev, ← eH, er, e7]
    rw [hh, eH]
    rw [← eyr] at key
    exact key
set_option maxRecDepth 20000 in
theorem pc_marksThen {c d : Nat → Int32} {A B : Nat → Nat → Int32} {nm : Nat} {x1 : Int32} {x2 : Int32} (hR : rl c A d B nm) : wpX8_marksThen x1 x2 (c 1) (A 36) (c 5) (c 6) (c 32) (c 33) (A 0) (A 28) (A 5) (A 2) (c 7) (c 8) (c 9) (c 10) 1152 (A 10) (A 8) (A 9) (A 29) (A 3) (A 4) (c 11) (c 12) (c 13) (c 14) 5280 (A 13) (A 11) (A 12) (fun r8 u0 u1 u2 u3 u4 u5 u6 u7 u8 => wpX9_marksThen x1 x2 (B 0) (B 3) (B 2) (B 5) (B 6) (fun r9 w0 w1 w2 w3 w4 => r8 = r9 ∧ rl (va_up (va_up c 32 u1) 33 u2) (va_up (va_up (va_up (va_up (va_up (va_up (va_up A 36 u0) 28 u3) 10 u4) 9 u5) 29 u6) 13 u7) 12 u8) d (va_up (va_up (va_up (va_up (va_up B 0 w0) 3 w1) 2 w2) 5 w3) 6 w4) nm)) := by
  obtain ⟨hw, hi, ht0, ht1, hm0, hm1, him, her, hv, hs0, hs1, hs2, hs3, hnm⟩ := id hR
  obtain ⟨n0, hn0, en0, hok0⟩ := rt_n ht0
  have ht0n : rt 0 (nI n0) (A 8) (B 0) := by rw [← en0]; exact ht0
  have hm0n : rm 30 9 16 (c 7) (c 8) (c 9) (nI n0) (A 8) (A 10) := by rw [← en0]; exact hm0
  obtain ⟨n1, hn1, en1, hok1⟩ := rt_n ht1
  have ht1n : rt 1 (nI n1) (A 11) (B 0) := by rw [← en1]; exact ht1
  have hm1n : rm 40 66 10 (c 11) (c 12) (c 13) (nI n1) (A 11) (A 13) := by rw [← en1]; exact hm1
  obtain ⟨R, hR6, e7⟩ := in_nI (n := 6) hi.2.2.2.2.2.2.1
  have ec : c 1 = nI R := hw.2.2.2.1.trans e7
  have hj : rj 9999 (B 0) := hi
  have hth0 : ∀ j : Nat → Int32, j 0 = A 0 0 → j 1 = A 0 1 → th_ (c 5) (c 6) j (A 2) (B 0) := fun j h0 h1 => ⟨hw.1, hw.2.1, h0.trans hw.2.2.2.2.2.2.1, h1.trans hw.2.2.2.2.2.2.2.1, hw.2.2.2.2.2.2.2.2.1⟩
  unfold wpX8_marksThen wpX9_marksThen
  rw [ec]
  rcases pk_ix x1 (show R < 2 ^ 31 by omega) with hx | hx | ⟨j, hjR, rfl⟩
  · refine r8_n (R := R) (Or.inl hx) (br_t rfl (e8 (k := 1) (by decide) ?_))
    refine r9_n e7 (by omega) (Or.inl hx) (br_t rfl (e9 (k := 1) (by decide) ?_))
    exact ⟨rfl, hw, hi, ht0, ht1, hm0, hm1, him, er_up her (k := 1) (by decide), hv, hs0, hs1, hs2, hs3, hnm⟩
  · refine r8_n (R := R) (Or.inr hx) (br_t rfl (e8 (k := 1) (by decide) ?_))
    refine r9_n e7 (by omega) (Or.inr hx) (br_t rfl (e9 (k := 1) (by decide) ?_))
    exact ⟨rfl, hw, hi, ht0, ht1, hm0, hm1, him, er_up her (k := 1) (by decide), hv, hs0, hs1, hs2, hs3, hnm⟩
  · refine r8_t hjR (by omega) (br_f (by decide) ?_)
    rcases in_dec x2 60 (by decide) with hx | ⟨N, hN, rfl⟩
    · refine w8_f (n := 60) (by decide) hx (br_t rfl (e8 (k := 1) (by decide) ?_))
      refine r9_t e7 hjR (by omega) (br_f (by decide) (w9_f (n := 60) (by decide) hx (br_t rfl (e9 (k := 1) (by decide) ?_))))
      exact ⟨rfl, hw, hi, ht0, ht1, hm0, hm1, him, er_up her (k := 1) (by decide), hv, hs0, hs1, hs2, hs3, hnm⟩
    · refine w8_t (n := 60) hN (by decide) (br_f (by decide) ?_)
      rw [en0, en1]
      refine c_cp (fun jw h0 h1 => ⟨vp_in_nI (by omega) (by decide), N + 1, ?_⟩)
      rw [i_cl (show j < 2147483648 by omega)]
      refine c_mal (s := B 0) hj (by omega) (by omega) (by rw [e7, i_tn (by omega)]; exact hjR) e7.symm (hw.2.2.2.2.2.2.2.2.2.1 j (by omega)) (hw.2.2.2.2.2.2.2.2.2.2.1 j (by omega)) hn0 hok0 hn1 hok1 (fun year jaws mem' sk' turns mem1' sk1' hm' hm1' => ?_) N 0 _ (c 5) (A 10) (A 9) (A 29) jw (A 13) (A 12) (by omega) (hw.2.2.2.2.2.2.2.2.2.2.2.1 j (by omega)) hm0n hm1n (hth0 jw h0 h1)
      refine r9_t e7 hjR (by omega) (br_f (by decide) (w9_t (n := 60) hN (by decide) (br_f (by decide) (sv9 (fun b hb => r_goes hj (by omega) (by omega) ht0n hn0 ht1n hn1 (fun nm' p' => its9 (k := 2) (by omega) (by decide) ?_))))))
      rw [show 14 + 2 + 3 * j = 16 + 3 * j by omega]
      refine pb9 hb (fun i h => ys_hi _ _ _ _ hj N (by omega) i h) ?_
      have hm2 : rm 30 9 16 (c 7) (c 8) (c 9) (c 10) (A 8) mem' := by rw [en0]; exact hm'
      have hm3 : rm 40 66 10 (c 11) (c 12) (c 13) (c 14) (A 11) mem1' := by rw [en1]; exact hm1'
      exact ⟨rfl, hw, hi, ht0, ht1, hm2, hm3, him, her, hv, hs0, hs1, hs2, hs3, hnm⟩
/-- the first place where it stops -/
def lg_ (p : Nat → Bool) : Nat → Nat → Nat
  | 0, k => k
  | m + 1, k => if p k = true then k else lg_ p m (k + 1)
theorem lg_le (p : Nat → Bool) : ∀ m k, lg_ p m k ≤ k + m := by
  intro m
  induction m with
  | zero => intro k; exact Nat.le_refl _
  | succ m ih =>
    intro k
    rw [lg_]
    split
    · omega
    · have := ih (k + 1)
      omega
theorem c_lal {st st1 events s wj : Nat → Int32} {n n1 l : Nat} {hi sa sb sec wy ws v : Int32} {Y : Int} {K : Int32 → Int32 → Int32 → (Nat → Int32) → (Nat → Int32) → (Nat → Int32) → (Nat → Int32) → Prop}
    (hj : rj Y s) (hY : Y + 100 < 100000) (hl : l < 2) (hn : n ≤ 60) (hok : tx_ok st n) :
    ∀ (m k : Nat) (year : Int32) (mem sk turns jaws : Nat → Int32), k + m = 61 → rm 30 9 16 hi sa sb (nI n) st mem → th_ year sec jaws events (ys_ st n st1 n1 s k) →
      (∀ year jaws mem' sk' turns, rm 30 9 16 hi sa sb (nI n) st mem' → K (if lg_ (fun q => decide (¬ ys_ st n st1 n1 s q (2 + l) < v)) m k = 61 then -1 else nI (lg_ (fun q => decide (¬ ys_ st n st1 n1 s q (2 + l) < v)) m k)) year sec jaws mem' sk' turns) →
      wpX5_yearsToLaugh_L14 (m + 1) (nI l) v (nI k) wy ws year sec wj jaws events hi sa sb (nI n) 1152 mem st sk turns K := by
  intro m
  induction m with
  | zero =>
    intro k year mem sk turns jaws h hm hth hk
    have e : k = 61 := by omega
    subst e
    rw [wpX5_yearsToLaugh_L14]
    have := hk year jaws mem sk turns hm
    rw [lg_, if_pos rfl] at this
    exact br_t (by decide) this
  | succ m ih =>
    intro k year mem sk turns jaws h hm hth hk
    rw [wpX5_yearsToLaugh_L14]
    refine br_f (show ¬ nI 60 < nI k from nI_nlt (by omega) (by decide)) ⟨vp_in_nI hl (by decide), ?_⟩
    rw [i_cl (show l < 2147483648 by omega)]
    have ej : jaws l = ys_ st n st1 n1 s k (2 + l) := by
      rcases (show l = 0 ∨ l = 1 by omega) with rfl | rfl
      · exact hth.2.2.1
      · exact hth.2.2.2.1
    rw [ej]
    simp only [lg_] at hk
    refine ⟨fun q => ?_, fun q => ?_⟩
    · simp only [q, not_true_eq_false, decide_false, Bool.false_eq_true, if_false] at hk
      refine c_st (rj_ys st n st1 n1 hj k (by omega)) (by omega) hth hn hok hm (fun mem' sk' turns' jaws' hm' h0 h1 _ _ => ?_)
      rw [nI_1]
      exact ih (k + 1) _ mem' sk' turns' jaws' (by omega) hm' (th_s hth h0 h1) hk
    · simp only [q, not_false_eq_true, decide_true, if_true] at hk
      have := hk year jaws mem sk turns hm
      rwa [if_neg (show ¬ k = 61 by omega)] at this
theorem r_lal {st st1 s b errors : Nat → Int32} {n n1 l : Nat} {v : Int32} {Y : Int} {K : Int32 → (Nat → Int32) → (Nat → Int32) → (Nat → Int32) → (Nat → Int32) → (Nat → Int32) → Prop} (hj : rj Y s) (hY : Y + 100 < 100000) (hl : l < 2) (h0 : rt 0 (nI n) st s) (hn : n ≤ 60) (h1 : rt 1 (nI n1) st1 s) (hn1 : n1 ≤ 60) (hb : ∀ i, i < 32 → b i = s i) :
    ∀ (m k : Nat) (nm p : Nat → Int32), k + m = 61 →
      (∀ nm p, (lg_ (fun q => decide (¬ ys_ st n st1 n1 s q (2 + l) < v)) m k = 61 → wpX9_error 2 errors (fun r e => K r e s b nm p)) ∧ (¬ lg_ (fun q => decide (¬ ys_ st n st1 n1 s q (2 + l) < v)) m k = 61 → K (nI (lg_ (fun q => decide (¬ ys_ st n st1 n1 s q (2 + l) < v)) m k)) errors s b nm p)) →
      wpX9_laughs_L30 (m + 1) (nI l) v (nI k) errors (ys_ st n st1 n1 s k) b nm p K := by
  intro m
  induction m with
  | zero =>
    intro k nm p h hk
    have e : k = 61 := by omega
    subst e
    rw [wpX9_laughs_L30]
    refine br_t (by decide) (pb9 hb (fun i h => ys_hi _ _ _ _ hj 61 (by omega) i h) (br_f (by decide) ?_))
    exact (hk nm p).1 rfl
  | succ m ih =>
    intro k nm p h hk
    rw [wpX9_laughs_L30]
    dsimp only
    rw [show (2 + nI l : Int32) = nI (2 + l) from nI_add 2 l]
    refine br_f (show ¬ nI 60 < nI k from nI_nlt (by omega) (by decide)) ⟨vp_in_nI (by omega) (by decide), ?_⟩
    rw [i_cl (show 2 + l < 2147483648 by omega)]
    simp only [lg_] at hk
    by_cases q : ys_ st n st1 n1 s k (2 + l) < v
    · simp only [q, not_true_eq_false, decide_false, Bool.false_eq_true, if_false] at hk
      refine br_f (by rw [i_le]; rw [i_lt] at q; omega) ?_
      refine r_goes (N := 1) (rj_ys st n st1 n1 hj k (by omega)) (by omega) (by decide) (rt_ys st n st1 n1 (by decide) hj h0 k (by omega)) hn (rt_ys st n st1 n1 (by decide) hj h1 k (by omega)) hn1 (fun nm' p' => ?_)
      rw [nI_1]
      exact ih (k + 1) nm' p' (by omega) hk
    · simp only [q, not_false_eq_true, decide_true, if_true] at hk
      refine br_t (by rw [i_le]; rw [i_lt] at q; omega) (pb9 hb (fun i h => ys_hi _ _ _ _ hj k (by omega) i h) (br_t (show nI k ≤ nI 60 from nI_le (by omega) (by decide)) ?_))
      exact (hk nm p).2 (by omega)
set_option maxRecDepth 20000 in
theorem pc_laughs {c d : Nat → Int32} {A B : Nat → Nat → Int32} {nm : Nat} {x1 : Int32} {x2 : Int32} (hR : rl c A d B nm) : wpX8_laughs x1 x2 (A 36) (c 5) (c 6) (c 32) (c 33) (A 0) (A 28) (A 2) (c 7) (c 8) (c 9) (c 10) 1152 (A 10) (A 8) (A 9) (A 29) (fun r8 u0 u1 u2 u3 u4 u5 u6 => wpX9_laughs x1 x2 (B 3) (B 0) (B 2) (B 5) (B 6) (fun r9 w0 w1 w2 w3 w4 => r8 = r9 ∧ rl (va_up (va_up c 32 u1) 33 u2) (va_up (va_up (va_up (va_up (va_up A 36 u0) 28 u3) 10 u4) 9 u5) 29 u6) d (va_up (va_up (va_up (va_up (va_up B 3 w0) 0 w1) 2 w2) 5 w3) 6 w4) nm)) := by
  obtain ⟨hw, hi, ht0, ht1, hm0, hm1, him, her, hv, hs0, hs1, hs2, hs3, hnm⟩ := id hR
  obtain ⟨n0, hn0, en0, hok0⟩ := rt_n ht0
  have ht0n : rt 0 (nI n0) (A 8) (B 0) := by rw [← en0]; exact ht0
  have hm0n : rm 30 9 16 (c 7) (c 8) (c 9) (nI n0) (A 8) (A 10) := by rw [← en0]; exact hm0
  obtain ⟨n1, hn1, en1, hok1⟩ := rt_n ht1
  have ht1n : rt 1 (nI n1) (A 11) (B 0) := by rw [← en1]; exact ht1
  have hj : rj 9999 (B 0) := hi
  have hth0 : ∀ j : Nat → Int32, j 0 = A 0 0 → j 1 = A 0 1 → th_ (c 5) (c 6) j (A 2) (B 0) := fun j h0 h1 => ⟨hw.1, hw.2.1, h0.trans hw.2.2.2.2.2.2.1, h1.trans hw.2.2.2.2.2.2.2.1, hw.2.2.2.2.2.2.2.2.1⟩
  unfold wpX8_laughs wpX9_laughs wpX8_isLion wpX9_isLion
  rcases in_dec x1 1 (by decide) with hx | ⟨l, hl, rfl⟩
  · refine w8_f (n := 1) (by decide) hx ⟨rfl, br_t rfl (e8 (k := 1) (by decide) ?_)⟩
    refine w9_f (n := 1) (by decide) hx ⟨rfl, br_t rfl (e9 (k := 1) (by decide) ?_)⟩
    exact ⟨rfl, hw, hi, ht0, ht1, hm0, hm1, him, er_up her (k := 1) (by decide), hv, hs0, hs1, hs2, hs3, hnm⟩
  · refine w8_t (n := 1) hl (by decide) ⟨rfl, br_f (by decide) ?_⟩
    rcases in_dec x2 359 (by decide) with hx | ⟨v, hv2, rfl⟩
    · refine w8_f (n := 359) (by decide) hx (br_t rfl (e8 (k := 1) (by decide) ?_))
      refine w9_t (n := 1) hl (by decide) ⟨rfl, br_f (by decide) (w9_f (n := 359) (by decide) hx (br_t rfl (e9 (k := 1) (by decide) ?_)))⟩
      exact ⟨rfl, hw, hi, ht0, ht1, hm0, hm1, him, er_up her (k := 1) (by decide), hv, hs0, hs1, hs2, hs3, hnm⟩
    · refine w8_t (n := 359) hv2 (by decide) (br_f (by decide) ?_)
      rw [en0]
      refine c_cp (fun j h0 h1 => ⟨62, ?_⟩)
      refine c_lal (st1 := A 11) (n1 := n1) hj (by omega) (by omega) hn0 hok0 61 0 (c 5) (A 10) (A 9) (A 29) j rfl hm0n (hth0 j h0 h1) (fun year jaws mem' sk' turns hm' => ?_)
      have hm2 : rm 30 9 16 (c 7) (c 8) (c 9) (c 10) (A 8) mem' := by rw [en0]; exact hm'
      have hle := lg_le (fun q => decide (¬ ys_ (A 8) n0 (A 11) n1 (B 0) q (2 + l) < nI v)) 61 0
      by_cases h61 : lg_ (fun q => decide (¬ ys_ (A 8) n0 (A 11) n1 (B 0) q (2 + l) < nI v)) 61 0 = 61
      · rw [if_pos h61]
        refine br_f (by decide) (e8 (k := 2) (by decide) ?_)
        refine w9_t (n := 1) hl (by decide) ⟨rfl, br_f (by decide) (w9_t (n := 359) hv2 (by decide) (br_f (by decide) (sv9 (fun b hb => ⟨62, r_lal hj (by omega) (by omega) ht0n hn0 ht1n hn1 hb 61 0 (B 5) (B 6) rfl (fun nm' p' => ⟨fun _ => e9 (k := 2) (by decide) ?_, fun q => absurd h61 q⟩)⟩))))⟩
        exact ⟨rfl, hw, hi, ht0, ht1, hm2, hm1, him, er_up her (k := 2) (by decide), hv, hs0, hs1, hs2, hs3, hnm⟩
      · rw [if_neg h61]
        refine br_t (nI_pos' (by omega)) ?_
        refine w9_t (n := 1) hl (by decide) ⟨rfl, br_f (by decide) (w9_t (n := 359) hv2 (by decide) (br_f (by decide) (sv9 (fun b hb => ⟨62, r_lal hj (by omega) (by omega) ht0n hn0 ht1n hn1 hb 61 0 (B 5) (B 6) rfl (fun nm' p' => ⟨fun q => absurd q h61, fun _ => ?_⟩)⟩))))⟩
        exact ⟨rfl, hw, hi, ht0, ht1, hm2, hm1, him, her, hv, hs0, hs1, hs2, hs3, hnm⟩

/-! alike, odds -/
theorem c_aal {st st1 events s wj : Nat → Int32} {n n1 : Nat} {hi sa sb sec wy ws : Int32} {Y : Int} {K : Int32 → Int32 → Int32 → (Nat → Int32) → (Nat → Int32) → (Nat → Int32) → (Nat → Int32) → Prop}
    (hj : rj Y s) (hY : Y + 100 < 100000) (hn : n ≤ 60) (hok : tx_ok st n) :
    ∀ (m k : Nat) (year : Int32) (mem sk turns jaws : Nat → Int32), k + m = 61 → rm 30 9 16 hi sa sb (nI n) st mem → th_ year sec jaws events (ys_ st n st1 n1 s k) →
      (∀ year jaws mem' sk' turns, rm 30 9 16 hi sa sb (nI n) st mem' → K (if lg_ (fun q => decide (ys_ st n st1 n1 s q 2 = ys_ st n st1 n1 s q 3)) m k = 61 then -1 else nI (lg_ (fun q => decide (ys_ st n st1 n1 s q 2 = ys_ st n st1 n1 s q 3)) m k)) year sec jaws mem' sk' turns) →
      wpX5_yearsToMatch_L13 (m + 1) (nI k) wy ws year sec wj jaws events hi sa sb (nI n) 1152 mem st sk turns K := by
  intro m
  induction m with
  | zero =>
    intro k year mem sk turns jaws h hm hth hk
    have e : k = 61 := by omega
    subst e
    rw [wpX5_yearsToMatch_L13]
    have := hk year jaws mem sk turns hm
    rw [lg_, if_pos rfl] at this
    exact br_t (by decide) this
  | succ m ih =>
    intro k year mem sk turns jaws h hm hth hk
    rw [wpX5_yearsToMatch_L13]
    refine br_f (show ¬ nI 60 < nI k from nI_nlt (by omega) (by decide)) ⟨vp_in_iff.mpr (by decide), vp_in_iff.mpr (by decide), ?_⟩
    rw [c_0, c_1, hth.2.2.1, hth.2.2.2.1]
    simp only [lg_] at hk
    refine ⟨fun q => ?_, fun q => ?_⟩
    · simp only [q, decide_true, if_true] at hk
      have := hk year jaws mem sk turns hm
      rwa [if_neg (show ¬ k = 61 by omega)] at this
    · simp only [q, decide_false, Bool.false_eq_true, if_false] at hk
      refine c_st (rj_ys st n st1 n1 hj k (by omega)) (by omega) hth hn hok hm (fun mem' sk' turns' jaws' hm' h0 h1 _ _ => ?_)
      rw [nI_1]
      exact ih (k + 1) _ mem' sk' turns' jaws' (by omega) hm' (th_s hth h0 h1) hk
theorem r_aal {st st1 s b errors : Nat → Int32} {n n1 : Nat} {Y : Int} {K : Int32 → (Nat → Int32) → (Nat → Int32) → (Nat → Int32) → (Nat → Int32) → (Nat → Int32) → Prop} (hj : rj Y s) (hY : Y + 100 < 100000) (h0 : rt 0 (nI n) st s) (hn : n ≤ 60) (h1 : rt 1 (nI n1) st1 s) (hn1 : n1 ≤ 60) (hb : ∀ i, i < 32 → b i = s i) :
    ∀ (m k : Nat) (nm p : Nat → Int32), k + m = 61 →
      (∀ nm p, (lg_ (fun q => decide (ys_ st n st1 n1 s q 2 = ys_ st n st1 n1 s q 3)) m k = 61 → wpX9_error 2 errors (fun r e => K r s b e nm p)) ∧ (¬ lg_ (fun q => decide (ys_ st n st1 n1 s q 2 = ys_ st n st1 n1 s q 3)) m k = 61 → K (nI (lg_ (fun q => decide (ys_ st n st1 n1 s q 2 = ys_ st n st1 n1 s q 3)) m k)) s b errors nm p)) →
      wpX9_alike_L6 (m + 1) (nI k) (ys_ st n st1 n1 s k) b errors nm p K := by
  intro m
  induction m with
  | zero =>
    intro k nm p h hk
    have e : k = 61 := by omega
    subst e
    rw [wpX9_alike_L6]
    refine br_t (by decide) (pb9 hb (fun i h => ys_hi _ _ _ _ hj 61 (by omega) i h) (br_f (by decide) ?_))
    exact (hk nm p).1 rfl
  | succ m ih =>
    intro k nm p h hk
    rw [wpX9_alike_L6]
    refine br_f (show ¬ nI 60 < nI k from nI_nlt (by omega) (by decide)) ⟨vp_in_iff.mpr (by decide), vp_in_iff.mpr (by decide), ?_⟩
    rw [c_2, c_3]
    simp only [lg_] at hk
    refine ⟨fun q => ?_, fun q => ?_⟩
    · simp only [q, decide_true, if_true] at hk
      refine pb9 hb (fun i h => ys_hi _ _ _ _ hj k (by omega) i h) (br_t (show nI k ≤ nI 60 from nI_le (by omega) (by decide)) ?_)
      exact (hk nm p).2 (by omega)
    · simp only [q, decide_false, Bool.false_eq_true, if_false] at hk
      refine r_goes (N := 1) (rj_ys st n st1 n1 hj k (by omega)) (by omega) (by decide) (rt_ys st n st1 n1 (by decide) hj h0 k (by omega)) hn (rt_ys st n st1 n1 (by decide) hj h1 k (by omega)) hn1 (fun nm' p' => ?_)
      rw [nI_1]
      exact ih (k + 1) nm' p' (by omega) hk
set_option maxRecDepth 20000 in
theorem pc_alike {c d : Nat → Int32} {A B : Nat → Nat → Int32} {nm : Nat} (hR : rl c A d B nm) : wpX8_alike (c 5) (c 6) (c 32) (c 33) (A 0) (A 28) (A 2) (c 7) (c 8) (c 9) (c 10) 1152 (A 10) (A 8) (A 9) (A 29) (A 36) (fun r8 u0 u1 u2 u3 u4 u5 u6 => wpX9_alike (B 0) (B 2) (B 3) (B 5) (B 6) (fun r9 w0 w1 w2 w3 w4 => r8 = r9 ∧ rl (va_up (va_up c 32 u0) 33 u1) (va_up (va_up (va_up (va_up (va_up A 28 u2) 10 u3) 9 u4) 29 u5) 36 u6) d (va_up (va_up (va_up (va_up (va_up B 0 w0) 2 w1) 3 w2) 5 w3) 6 w4) nm)) := by
  obtain ⟨hw, hi, ht0, ht1, hm0, hm1, him, her, hv, hs0, hs1, hs2, hs3, hnm⟩ := id hR
  obtain ⟨n0, hn0, en0, hok0⟩ := rt_n ht0
  have ht0n : rt 0 (nI n0) (A 8) (B 0) := by rw [← en0]; exact ht0
  have hm0n : rm 30 9 16 (c 7) (c 8) (c 9) (nI n0) (A 8) (A 10) := by rw [← en0]; exact hm0
  obtain ⟨n1, hn1, en1, hok1⟩ := rt_n ht1
  have ht1n : rt 1 (nI n1) (A 11) (B 0) := by rw [← en1]; exact ht1
  have hj : rj 9999 (B 0) := hi
  have hth0 : ∀ j : Nat → Int32, j 0 = A 0 0 → j 1 = A 0 1 → th_ (c 5) (c 6) j (A 2) (B 0) := fun j h0 h1 => ⟨hw.1, hw.2.1, h0.trans hw.2.2.2.2.2.2.1, h1.trans hw.2.2.2.2.2.2.2.1, hw.2.2.2.2.2.2.2.2.1⟩
  unfold wpX8_alike wpX9_alike
  rw [en0]
  refine c_cp (fun j h0 h1 => ⟨62, ?_⟩)
  refine c_aal (st1 := A 11) (n1 := n1) hj (by omega) hn0 hok0 61 0 (c 5) (A 10) (A 9) (A 29) j rfl hm0n (hth0 j h0 h1) (fun year jaws mem' sk' turns hm' => ?_)
  have hm2 : rm 30 9 16 (c 7) (c 8) (c 9) (c 10) (A 8) mem' := by rw [en0]; exact hm'
  have hle := lg_le (fun q => decide (ys_ (A 8) n0 (A 11) n1 (B 0) q 2 = ys_ (A 8) n0 (A 11) n1 (B 0) q 3)) 61 0
  by_cases h61 : lg_ (fun q => decide (ys_ (A 8) n0 (A 11) n1 (B 0) q 2 = ys_ (A 8) n0 (A 11) n1 (B 0) q 3)) 61 0 = 61
  · rw [if_pos h61]
    refine br_f (by decide) (e8 (k := 2) (by decide) (sv9 (fun b hb => ⟨62, r_aal hj (by omega) ht0n hn0 ht1n hn1 hb 61 0 (B 5) (B 6) rfl (fun nm' p' => ⟨fun _ => e9 (k := 2) (by decide) ?_, fun q => absurd h61 q⟩)⟩)))
    exact ⟨rfl, hw, hi, ht0, ht1, hm2, hm1, him, er_up her (k := 2) (by decide), hv, hs0, hs1, hs2, hs3, hnm⟩
  · rw [if_neg h61]
    refine br_t (nI_pos' (by omega)) (sv9 (fun b hb => ⟨62, r_aal hj (by omega) ht0n hn0 ht1n hn1 hb 61 0 (B 5) (B 6) rfl (fun nm' p' => ⟨fun q => absurd q h61, fun _ => ?_⟩)⟩))
    exact ⟨rfl, hw, hi, ht0, ht1, hm2, hm1, him, her, hv, hs0, hs1, hs2, hs3, hnm⟩
/-- how many -/
def cn_ (p : Nat → Bool) : Nat → Nat
  | 0 => 0
  | k + 1 => if p k = true then cn_ p k + 1 else cn_ p k
theorem cn_le (p : Nat → Bool) : ∀ k, cn_ p k ≤ k := by
  intro k
  induction k with
  | zero => exact Nat.le_refl _
  | succ k ih =>
    rw [cn_]
    split <;> omega
theorem c_mA {st st1 sk sk1 mem mem1 turns kinds ms events s wj j0 wm : Nat → Int32} {n n1 N j : Nat} {hi sa sb hi1 sa1 sb1 sec wy ws ly ls readers : Int32} {Y : Int} {K : Int32 → Int32 → Int32 → (Nat → Int32) → (Nat → Int32) → (Nat → Int32) → (Nat → Int32) → (Nat → Int32) → (Nat → Int32) → Prop}
    (hj : rj Y s) (hY : Y + N < 100000) (hN : N < 1000) (hjr : j < (s 7).toInt.toNat) (er : readers = s 7) (hkk : kinds j = s (14 + 3 * j)) (hms : ms j = s (15 + 3 * j)) (hmk : wm j = s (16 + 3 * j)) (hn : n ≤ 60) (hok : tx_ok st n) (hn1 : n1 ≤ 60) (hok1 : tx_ok st1 n1)
    (hm : rm 30 9 16 hi sa sb (nI n) st mem) (hm1 : rm 40 66 10 hi1 sa1 sb1 (nI n1) st1 mem1) (hth : ∀ jw : Nat → Int32, jw 0 = wj 0 → jw 1 = wj 1 → th_ wy sec jw events s)
    (hk : ∀ year jaws mem' sk' turns mem1' sk1', rm 30 9 16 hi sa sb (nI n) st mem' → rm 40 66 10 hi1 sa1 sb1 (nI n1) st1 mem1' → K (ys_ st n st1 n1 s N (16 + 3 * j)) year sec jaws mem' sk' turns mem1' sk1') :
    wpX5_marksAfter (nI j) (nI N) sec readers wy ws ly ls wj j0 wm events hi sa sb (nI n) 1152 mem st sk turns kinds ms hi1 sa1 sb1 (nI n1) 5280 mem1 st1 sk1 K := by
  have h76 := hj.2.2.2.2.2.2.1
  have hj6 : j < 6 := by
    unfold in_ at h76
    omega
  refine c_cp (fun jw h0 h1 => ⟨vp_in_nI hj6 (by decide), N + 1, ?_⟩)
  rw [i_cl (show j < 2147483648 by omega)]
  exact c_mal hj hY hN hjr er hkk hms hn hok hn1 hok1 hk N 0 _ wy mem sk turns jw mem1 sk1 (by omega) hmk hm hm1 (hth jw h0 h1)
/-- by which secrets a reader has so many -/
def od_ (st : Nat → Int32) (n : Nat) (st1 : Nat → Int32) (n1 : Nat) (s : Nat → Int32) (N j : Nat) (v : Int32) (q : Nat) : Bool := decide (¬ ys_ st n st1 n1 (upd s 1 (nI q)) N (16 + 3 * j) < v)
theorem rj_q {s : Nat → Int32} {Y : Int} (h : rj Y s) {q : Nat} (hq : q ≤ 255) : rj Y (upd s 1 (nI q)) := by
  obtain ⟨h0, h1, h2, h3, h5, h6, h7, he, hk, hm, hs⟩ := id h
  exact ⟨by rw [pk_un (by decide)]; exact h0, by rw [pk_us]; exact in_mk (n := 255) hq (by decide), by rw [pk_un (by decide)]; exact h2, by rw [pk_un (by decide)]; exact h3, by rw [pk_un (by decide)]; exact h5, by rw [pk_un (by decide)]; exact h6, by rw [pk_un (by decide)]; exact h7,
    fun i hi => by rw [pk_un (by omega)]; exact he i hi, fun i hi => by rw [pk_un (by omega)]; exact hk i hi, fun i hi => by rw [pk_un (by omega)]; exact hm i hi, fun i hi => by rw [pk_un (by omega)]; exact hs i hi⟩
theorem c_chl {st st1 kinds ms events s wj wm : Nat → Int32} {n n1 N j : Nat} {hi sa sb hi1 sa1 sb1 wy ws v readers : Int32} {Y : Int} {K : Int32 → Int32 → Int32 → (Nat → Int32) → (Nat → Int32) → (Nat → Int32) → (Nat → Int32) → (Nat → Int32) → (Nat → Int32) → Prop}
    (hj : rj Y s) (hY : Y + N < 100000) (hN : N < 1000) (hjr : j < (s 7).toInt.toNat) (er : readers = s 7) (hkk : kinds j = s (14 + 3 * j)) (hms : ms j = s (15 + 3 * j)) (hmk : wm j = s (16 + 3 * j)) (hn : n ≤ 60) (hok : tx_ok st n) (hn1 : n1 ≤ 60) (hok1 : tx_ok st1 n1)
    (hy : wy = s 0) (h0 : wj 0 = s 2) (h1 : wj 1 = s 3) (hev : ∀ i, i < 6 → events i = s (8 + i))
    (hk : ∀ year sec jaws mem' sk' turns mem1' sk1', rm 30 9 16 hi sa sb (nI n) st mem' → rm 40 66 10 hi1 sa1 sb1 (nI n1) st1 mem1' → K (nI (cn_ (od_ st n st1 n1 s N j v) 256)) year sec jaws mem' sk' turns mem1' sk1') :
    ∀ (m k : Nat) (ly ls : Int32) (lj mem sk turns mem1 sk1 : Nat → Int32), k + m = 256 → rm 30 9 16 hi sa sb (nI n) st mem → rm 40 66 10 hi1 sa1 sb1 (nI n1) st1 mem1 →
      wpX5_chances_L6 (m + 1) (nI j) v (nI N) (nI (cn_ (od_ st n st1 n1 s N j v) k)) (nI k) readers wy ws ly ls wj lj wm events hi sa sb (nI n) 1152 mem st sk turns kinds ms hi1 sa1 sb1 (nI n1) 5280 mem1 st1 sk1 K := by
  intro m
  induction m with
  | zero =>
    intro k ly ls lj mem sk turns mem1 sk1 h hm hm1
    have e : k = 256 := by omega
    subst e
    rw [wpX5_chances_L6]
    exact br_t (by decide) (hk _ _ _ _ _ _ _ _ hm hm1)
  | succ m ih =>
    intro k ly ls lj mem sk turns mem1 sk1 h hm hm1
    have hcn := cn_le (od_ st n st1 n1 s N j v) k
    rw [wpX5_chances_L6]
    refine br_f (show ¬ nI 256 ≤ nI k from nI_ge (by omega) (by decide)) ?_
    refine c_mA (s := upd s 1 (nI k)) (rj_q hj (by omega)) hY hN (by rw [pk_un (by decide)]; exact hjr) (by rw [pk_un (by decide)]; exact er) (by rw [pk_un (by omega)]; exact hkk) (by rw [pk_un (by omega)]; exact hms) (by rw [pk_un (by omega)]; exact hmk) hn hok hn1 hok1 hm hm1
      (fun jw w0 w1 => ⟨by rw [pk_un (by decide)]; exact hy, by rw [pk_us], by rw [pk_un (by decide), w0]; exact h0, by rw [pk_un (by decide), w1]; exact h1, fun i hi => by rw [pk_un (by omega)]; exact hev i hi⟩) (fun year jaws mem' sk' turns' mem1' sk1' hm' hm1' => ?_)
    have ec : cn_ (od_ st n st1 n1 s N j v) (k + 1) = if od_ st n st1 n1 s N j v k = true then cn_ (od_ st n st1 n1 s N j v) k + 1 else cn_ (od_ st n st1 n1 s N j v) k := rfl
    rw [nI_1, nI_1]
    refine ⟨fun q => ?_, fun q => ?_⟩
    · have hp : od_ st n st1 n1 s N j v k = false := by unfold od_; simp [q]
      rw [hp, if_neg (by decide)] at ec
      rw [← ec]
      exact ih (k + 1) _ _ _ _ _ _ _ _ (by omega) hm' hm1'
    · have hp : od_ st n st1 n1 s N j v k = true := by unfold od_; simp [q]
      rw [hp, if_pos rfl] at ec
      rw [← ec]
      exact ih (k + 1) _ _ _ _ _ _ _ _ (by omega) hm' hm1'
/-- lowest terms -/
def fr_ : Nat → Nat → Nat → Nat × Nat
  | 0, a, b => (a, b)
  | m + 1, a, b => if a % 2 = 0 then fr_ m (a / 2) (b / 2) else (a, b)
def gc_ : Nat → Nat → Nat → Nat
  | 0, p, _ => p
  | f + 1, p, q => if q = 0 then p else gc_ f q (p % q)
def gt_ : Nat → Nat → Nat → Bool
  | 0, _, q => decide (q = 0)
  | f + 1, p, q => if q = 0 then true else gt_ f q (p % q)
theorem gf_ : ∀ g, g ≤ 256 → gt_ 20 g 256 = true ∧ 0 < gc_ 20 g 256 ∧ gc_ 20 g 256 ≤ 256 ∧ g / gc_ 20 g 256 = (fr_ 8 g 256).1 ∧ 256 / gc_ 20 g 256 = (fr_ 8 g 256).2 := by decide +kernel
theorem cm9 {K : Int32 → Prop} {y0 y1 : Int32} : ∀ f p q : Nat, p < 1000 → q < 1000 → gt_ f p q = true → K (nI (gc_ f p q)) → wpX9_common_L4 (f + 1) y0 y1 (nI p) (nI q) K := by
  intro f
  induction f with
  | zero =>
    intro p q hp hq ht hk
    have e : q = 0 := by simpa [gt_] using ht
    subst e
    rw [wpX9_common_L4]
    exact br_t rfl hk
  | succ f ih =>
    intro p q hp hq ht hk
    rw [wpX9_common_L4]
    rw [gt_] at ht
    rw [gc_] at hk
    by_cases e : q = 0
    · subst e
      exact br_t rfl hk
    · rw [if_neg e] at ht hk
      have hq0 : ¬ nI q = 0 := nI_ne0 (by omega) (by omega)
      have hr := Nat.mod_lt p (show 0 < q by omega)
      refine br_f hq0 ⟨hq0, ?_⟩
      rw [pk_rem (by omega) (by omega) (by omega)]
      exact ih q (p % q) hq (by omega) ht hk
theorem fr_le : ∀ m a b, a ≤ 256 → b ≤ 256 → (fr_ m a b).1 ≤ 256 ∧ (fr_ m a b).2 ≤ 256 := by
  intro m
  induction m with
  | zero => intro a b ha hb; exact ⟨ha, hb⟩
  | succ m ih =>
    intro a b ha hb
    rw [fr_]
    split
    · exact ih _ _ (by omega) (by omega)
    · exact ⟨ha, hb⟩
theorem c_odl {st kinds ms events st1 wj lj wm errors mem sk turns mem1 sk1 : Nat → Int32} {y1 y2 y3 y4 hi sa sb hi1 sa1 sb1 wy ws ly ls readers ln ln1 : Int32} {N N1 : Nat} {K : Int32 → (Nat → Int32) → Int32 → Int32 → (Nat → Int32) → (Nat → Int32) → (Nat → Int32) → (Nat → Int32) → (Nat → Int32) → (Nat → Int32) → Prop} :
    ∀ (m k a b : Nat), k + m = 8 → a ≤ 256 → b ≤ 256 → ((y4 = 0 → K (nI (fr_ m a b).1) errors ly ls lj mem sk turns mem1 sk1) ∧ (¬ y4 = 0 → K (nI (fr_ m a b).2) errors ly ls lj mem sk turns mem1 sk1)) →
      wpX8_odds_L66 (m + 1) y1 y2 y3 y4 (nI a) (nI b) (nI k) readers errors wy ws ly ls wj lj wm events hi sa sb ln N mem st sk turns kinds ms hi1 sa1 sb1 ln1 N1 mem1 st1 sk1 K := by
  intro m
  induction m with
  | zero =>
    intro k a b h ha hb hk
    have e : k = 8 := by omega
    subst e
    rw [wpX8_odds_L66]
    exact br_t (by decide) hk
  | succ m ih =>
    intro k a b h ha hb hk
    rw [wpX8_odds_L66]
    refine br_f (show ¬ nI 8 ≤ nI k from nI_ge (by omega) (by decide)) ?_
    have e1 : (nI a - nI a / 2 * 2 : Int32) = nI (a % 2) := pk_rem (by omega) (by decide) (by decide)
    have e2 : (nI a / 2 : Int32) = nI (a / 2) := pk_div (by omega) (by decide) (by decide)
    have e3 : (nI b / 2 : Int32) = nI (b / 2) := pk_div (by omega) (by decide) (by decide)
    rw [fr_] at hk
    rw [e1, e2, e3, nI_1]
    by_cases q : a % 2 = 0
    · rw [if_pos q] at hk
      rw [q]
      exact br_t rfl (ih (k + 1) _ _ (by omega) (by omega) (by omega) hk)
    · rw [if_neg q] at hk
      exact br_f (nI_ne0 (by omega) (by omega)) hk
theorem r_odl {st st1 s b errors : Nat → Int32} {n n1 N j : Nat} {v y4 : Int32} {Y : Int} {K : Int32 → (Nat → Int32) → (Nat → Int32) → (Nat → Int32) → (Nat → Int32) → (Nat → Int32) → Prop} (hj : rj Y s) (hY : Y + N < 100000) (hN : N < 1000) (hj6 : j < 6) (h0 : rt 0 (nI n) st s) (hn : n ≤ 60) (h1 : rt 1 (nI n1) st1 s) (hn1 : n1 ≤ 60) (hb : ∀ i, i < 32 → b i = s i)
    (hk : ∀ nm p, (y4 = 0 → K (nI (fr_ 8 (cn_ (od_ st n st1 n1 s N j v) 256) 256).1) s errors b nm p) ∧ (¬ y4 = 0 → K (nI (fr_ 8 (cn_ (od_ st n st1 n1 s N j v) 256) 256).2) s errors b nm p)) :
    ∀ (m k : Nat) (nm p : Nat → Int32), k + m = 256 → wpX9_odds_L55 (m + 1) (nI j) v (nI N) y4 (nI (cn_ (od_ st n st1 n1 s N j v) k)) (nI k) s errors b nm p K := by
  intro m
  induction m with
  | zero =>
    intro k nm p h
    have e : k = 256 := by omega
    subst e
    rw [wpX9_odds_L55]
    refine br_t (by decide) ?_
    have hc := cn_le (od_ st n st1 n1 s N j v) 256
    obtain ⟨g1, g2, g3, g4, g5⟩ := gf_ _ hc
    obtain ⟨k1, k2⟩ := hk nm p
    rw [← g4] at k1
    rw [← g5] at k2
    refine ⟨fun q => ⟨21, ?_⟩, fun q => ⟨21, ?_⟩⟩
    · refine cm9 20 _ 256 (by omega) (by decide) g1 ⟨nI_ne0 g2 (by omega), ?_⟩
      rw [pk_div (by omega) g2 (by omega)]
      exact k1 q
    · refine cm9 20 _ 256 (by omega) (by decide) g1 ⟨nI_ne0 g2 (by omega), ?_⟩
      rw [show (256 : Int32) = nI 256 from rfl, pk_div (by decide) g2 (by omega)]
      exact k2 q
  | succ m ih =>
    intro k nm p h
    rw [wpX9_odds_L55]
    refine br_f (show ¬ nI 256 ≤ nI k from nI_ge (by omega) (by decide)) ⟨vp_in_iff.mpr (by decide), ?_⟩
    rw [c_1]
    refine r_goes (s := upd s 1 (nI k)) (rj_q hj (by omega)) hY hN (rt_keep (by decide) h0 (by omega)) hn (rt_keep (by decide) h1 (by omega)) hn1 (fun nm' p' => its9 (k := 2) hj6 (by decide) ?_)
    rw [show 14 + 2 + 3 * j = 16 + 3 * j by omega, Int32.add_zero, nI_1, nI_1]
    have hz : ∀ i, 32 ≤ i → ys_ st n st1 n1 (upd s 1 (nI k)) N i = s i := fun i hi => by rw [ys_hi st n st1 n1 (rj_q hj (by omega)) N (by omega) i hi, pk_un (by omega)]
    have ec : cn_ (od_ st n st1 n1 s N j v) (k + 1) = if od_ st n st1 n1 s N j v k = true then cn_ (od_ st n st1 n1 s N j v) k + 1 else cn_ (od_ st n st1 n1 s N j v) k := rfl
    refine ⟨fun q => pb9 hb hz ?_, fun q => pb9 hb hz ?_⟩
    · have hp : od_ st n st1 n1 s N j v k = false := by unfold od_; simp [q]
      rw [hp, if_neg (by decide)] at ec
      rw [← ec]
      exact ih (k + 1) nm' p' (by omega)
    · have hp : od_ st n st1 n1 s N j v k = true := by unfold od_; simp [q]
      rw [hp, if_pos rfl] at ec
      rw [← ec]
      exact ih (k + 1) nm' p' (by omega)
set_option maxRecDepth 20000 in
theorem pc_odds {c d : Nat → Int32} {A B : Nat → Nat → Int32} {nm : Nat} {x1 : Int32} {x2 : Int32} {x3 : Int32} {x4 : Int32} (hR : rl c A d B nm) : wpX8_odds x1 x2 x3 x4 (c 1) (A 36) (c 5) (c 6) (c 32) (c 33) (A 0) (A 28) (A 5) (A 2) (c 7) (c 8) (c 9) (c 10) 1152 (A 10) (A 8) (A 9) (A 29) (A 3) (A 4) (c 11) (c 12) (c 13) (c 14) 5280 (A 13) (A 11) (A 12) (fun r8 u0 u1 u2 u3 u4 u5 u6 u7 u8 => wpX9_odds x1 x2 x3 x4 (B 0) (B 3) (B 2) (B 5) (B 6) (fun r9 w0 w1 w2 w3 w4 => r8 = r9 ∧ rl (va_up (va_up c 32 u1) 33 u2) (va_up (va_up (va_up (va_up (va_up (va_up (va_up A 36 u0) 28 u3) 10 u4) 9 u5) 29 u6) 13 u7) 12 u8) d (va_up (va_up (va_up (va_up (va_up B 0 w0) 3 w1) 2 w2) 5 w3) 6 w4) nm)) := by
  obtain ⟨hw, hi, ht0, ht1, hm0, hm1, him, her, hv, hs0, hs1, hs2, hs3, hnm⟩ := id hR
  obtain ⟨n0, hn0, en0, hok0⟩ := rt_n ht0
  have ht0n : rt 0 (nI n0) (A 8) (B 0) := by rw [← en0]; exact ht0
  have hm0n : rm 30 9 16 (c 7) (c 8) (c 9) (nI n0) (A 8) (A 10) := by rw [← en0]; exact hm0
  obtain ⟨n1, hn1, en1, hok1⟩ := rt_n ht1
  have ht1n : rt 1 (nI n1) (A 11) (B 0) := by rw [← en1]; exact ht1
  have hm1n : rm 40 66 10 (c 11) (c 12) (c 13) (nI n1) (A 11) (A 13) := by rw [← en1]; exact hm1
  obtain ⟨R, hR6, e7⟩ := in_nI (n := 6) hi.2.2.2.2.2.2.1
  have ec : c 1 = nI R := hw.2.2.2.1.trans e7
  have hj : rj 9999 (B 0) := hi
  unfold wpX8_odds wpX9_odds
  rw [ec]
  rcases pk_ix x1 (show R < 2 ^ 31 by omega) with hx | hx | ⟨j, hjR, rfl⟩
  · refine r8_n (R := R) (Or.inl hx) (br_t rfl (e8 (k := 1) (by decide) ?_))
    refine r9_n e7 (by omega) (Or.inl hx) (br_t rfl (e9 (k := 1) (by decide) ?_))
    exact ⟨rfl, hw, hi, ht0, ht1, hm0, hm1, him, er_up her (k := 1) (by decide), hv, hs0, hs1, hs2, hs3, hnm⟩
  · refine r8_n (R := R) (Or.inr hx) (br_t rfl (e8 (k := 1) (by decide) ?_))
    refine r9_n e7 (by omega) (Or.inr hx) (br_t rfl (e9 (k := 1) (by decide) ?_))
    exact ⟨rfl, hw, hi, ht0, ht1, hm0, hm1, him, er_up her (k := 1) (by decide), hv, hs0, hs1, hs2, hs3, hnm⟩
  · refine r8_t hjR (by omega) (br_f (by decide) ?_)
    rcases in_dec x2 9999 (by decide) with hx | ⟨v, hv2, rfl⟩
    · refine w8_f (n := 9999) (by decide) hx (br_t rfl (e8 (k := 1) (by decide) ?_))
      refine r9_t e7 hjR (by omega) (br_f (by decide) (w9_f (n := 9999) (by decide) hx (br_t rfl (e9 (k := 1) (by decide) ?_))))
      exact ⟨rfl, hw, hi, ht0, ht1, hm0, hm1, him, er_up her (k := 1) (by decide), hv, hs0, hs1, hs2, hs3, hnm⟩
    · refine w8_t (n := 9999) hv2 (by decide) (br_f (by decide) ?_)
      rcases in_dec x3 20 (by decide) with hx | ⟨N, hN, rfl⟩
      · refine w8_f (n := 20) (by decide) hx (br_t rfl (e8 (k := 1) (by decide) ?_))
        refine r9_t e7 hjR (by omega) (br_f (by decide) (w9_t (n := 9999) hv2 (by decide) (br_f (by decide) (w9_f (n := 20) (by decide) hx (br_t rfl (e9 (k := 1) (by decide) ?_))))))
        exact ⟨rfl, hw, hi, ht0, ht1, hm0, hm1, him, er_up her (k := 1) (by decide), hv, hs0, hs1, hs2, hs3, hnm⟩
      · refine w8_t (n := 20) hN (by decide) (br_f (by decide) ?_)
        rcases in_dec x4 1 (by decide) with hx | ⟨pt, hpt, rfl⟩
        · refine w8_f (n := 1) (by decide) hx (br_t rfl (e8 (k := 1) (by decide) ?_))
          refine r9_t e7 hjR (by omega) (br_f (by decide) (w9_t (n := 9999) hv2 (by decide) (br_f (by decide) (w9_t (n := 20) hN (by decide) (br_f (by decide) (w9_f (n := 1) (by decide) hx (br_t rfl (e9 (k := 1) (by decide) ?_))))))))
          exact ⟨rfl, hw, hi, ht0, ht1, hm0, hm1, him, er_up her (k := 1) (by decide), hv, hs0, hs1, hs2, hs3, hnm⟩
        · refine w8_t (n := 1) hpt (by decide) (br_f (by decide) ⟨257, ?_⟩)
          rw [en0, en1]
          refine c_chl (s := B 0) hj (by omega) (by omega) (by rw [e7, i_tn (by omega)]; exact hjR) e7.symm (hw.2.2.2.2.2.2.2.2.2.1 j (by omega)) (hw.2.2.2.2.2.2.2.2.2.2.1 j (by omega)) (hw.2.2.2.2.2.2.2.2.2.2.2.1 j (by omega)) hn0 hok0 hn1 hok1 hw.1 hw.2.2.2.2.2.2.1 hw.2.2.2.2.2.2.2.1 hw.2.2.2.2.2.2.2.2.1 (fun year sec jaws mem' sk' turns mem1' sk1' hm' hm1' => ?_) 256 0 _ _ _ (A 10) (A 9) (A 29) (A 13) (A 12) rfl hm0n hm1n
          have hm2 : rm 30 9 16 (c 7) (c 8) (c 9) (c 10) (A 8) mem' := by rw [en0]; exact hm'
          have hm3 : rm 40 66 10 (c 11) (c 12) (c 13) (c 14) (A 11) mem1' := by rw [en1]; exact hm1'
          refine ⟨9, c_odl 8 0 _ 256 rfl (cn_le _ 256) (by decide) ?_⟩
          have ref : ∀ r : Int32, ((nI pt = 0 → r = nI (fr_ 8 (cn_ (od_ (A 8) n0 (A 11) n1 (B 0) N j (nI v)) 256) 256).1) ∧ (¬ nI pt = 0 → r = nI (fr_ 8 (cn_ (od_ (A 8) n0 (A 11) n1 (B 0) N j (nI v)) 256) 256).2)) → ∀ K : Int32 → (Nat → Int32) → (Nat → Int32) → (Nat → Int32) → (Nat → Int32) → (Nat → Int32) → Prop, (∀ b' nm' p', K r (B 0) (B 3) b' nm' p') →
              wpX9_odds (nI j) (nI v) (nI N) (nI pt) (B 0) (B 3) (B 2) (B 5) (B 6) K := by
            intro r hr K hK
            unfold wpX9_odds
            refine r9_t e7 hjR (by omega) (br_f (by decide) (w9_t (n := 9999) hv2 (by decide) (br_f (by decide) (w9_t (n := 20) hN (by decide) (br_f (by decide) (w9_t (n := 1) hpt (by decide) (br_f (by decide) (sv9 (fun b hb => ⟨257, r_odl hj (by omega) (by omega) (by omega) ht0n hn0 ht1n hn1 hb (fun nm' p' => ⟨fun q => ?_, fun q => ?_⟩) 256 0 (B 5) (B 6) rfl⟩)))))))))
            · rw [← hr.1 q]
              exact hK b nm' p'
            · rw [← hr.2 q]
              exact hK b nm' p'
          refine ⟨fun q => ?_, fun q => ?_⟩
          · exact ref _ ⟨fun _ => rfl, fun q2 => absurd q q2⟩ (fun r9 w0 w1 w2 w3 w4 => nI (fr_ 8 (cn_ (od_ (A 8) n0 (A 11) n1 (B 0) N j (nI v)) 256) 256).1 = r9 ∧ rl (va_up (va_up c 32 year) 33 sec) (va_up (va_up (va_up (va_up (va_up (va_up (va_up A 36 (A 36)) 28 jaws) 10 mem') 9 sk') 29 turns) 13 mem1') 12 sk1') d (va_up (va_up (va_up (va_up (va_up B 0 w0) 3 w1) 2 w2) 5 w3) 6 w4) nm) (fun b' nm' p' => ⟨rfl, hw, hi, ht0, ht1, hm2, hm3, him, her, hv, hs0, hs1, hs2, hs3, hnm⟩)
          · exact ref _ ⟨fun q2 => absurd q2 q, fun _ => rfl⟩ (fun r9 w0 w1 w2 w3 w4 => nI (fr_ 8 (cn_ (od_ (A 8) n0 (A 11) n1 (B 0) N j (nI v)) 256) 256).2 = r9 ∧ rl (va_up (va_up c 32 year) 33 sec) (va_up (va_up (va_up (va_up (va_up (va_up (va_up A 36 (A 36)) 28 jaws) 10 mem') 9 sk') 29 turns) 13 mem1') 12 sk1') d (va_up (va_up (va_up (va_up (va_up B 0 w0) 3 w1) 2 w2) 5 w3) 6 w4) nm) (fun b' nm' p' => ⟨rfl, hw, hi, ht0, ht1, hm2, hm3, him, her, hv, hs0, hs1, hs2, hs3, hnm⟩)
