/-! signs, turns, a year -/
theorem i_tn {v : Nat} (h : v < 2147483648) : (nI v).toInt.toNat = v := by rw [nI_toInt (by omega)]; omega
def sg_pop (v : Nat) : Nat := v % 2 + v / 2 % 2 + v / 4 % 2 + v / 8 % 2 + v / 16 % 2 + v / 32 % 2 + v / 64 % 2 + v / 128 % 2
theorem sg_8 : ∀ a b c d e f g h : Nat, a ≤ 1 → b ≤ 1 → c ≤ 1 → d ≤ 1 → e ≤ 1 → f ≤ 1 → g ≤ 1 → h ≤ 1 → a + b + c + d + e + f + g + h ≤ 8 := by omega
theorem sg_1 (x : Nat) : x % 2 ≤ 1 := by omega
theorem sg_le (v : Nat) : sg_pop v ≤ 8 := sg_8 _ _ _ _ _ _ _ _ (sg_1 _) (sg_1 _) (sg_1 _) (sg_1 _) (sg_1 _) (sg_1 _) (sg_1 _) (sg_1 _)
theorem sg_z0 : ∀ v, v < 256 → sg_pop v = 0 → v = 0 := by decide +kernel
theorem sg_z {v : Nat} (h : v < 256) (h0 : sg_pop v = 0) : v = 0 := sg_z0 v h h0
def sg_q1 (v : Nat) : Nat := v - (v / 2 &&& 85)
def sg_q2 (v : Nat) : Nat := (v &&& 51) + (v / 4 &&& 51)
def sg_q3 (v : Nat) : Nat := (v + v / 16) &&& 15
theorem sg_b1 : ∀ v, v < 256 → (nI v - ((((nI v).toUInt32 >>> ((1 : Int32).toUInt32 &&& Int32.toUInt32 31)).toInt32) &&& 1431655765)) = nI (sg_q1 v) := by decide +kernel
theorem sg_b2 : ∀ v, v < 256 → ((nI v &&& 858993459) + ((((nI v).toUInt32 >>> ((2 : Int32).toUInt32 &&& Int32.toUInt32 31)).toInt32) &&& 858993459)) = nI (sg_q2 v) := by decide +kernel
theorem sg_b3 : ∀ v, v < 128 → ((nI v + (((nI v).toUInt32 >>> ((4 : Int32).toUInt32 &&& Int32.toUInt32 31)).toInt32)) &&& 252645135) = nI (sg_q3 v) := by decide +kernel
theorem sg_b4 : ∀ v, v < 16 → (((nI v + (((nI v).toUInt32 >>> ((8 : Int32).toUInt32 &&& Int32.toUInt32 31)).toInt32)) + (((nI v + (((nI v).toUInt32 >>> ((8 : Int32).toUInt32 &&& Int32.toUInt32 31)).toInt32)).toUInt32 >>> ((16 : Int32).toUInt32 &&& Int32.toUInt32 31)).toInt32)) &&& 63) = nI v := by decide +kernel
theorem sg_qq : ∀ v, v < 256 → sg_q1 v < 256 ∧ sg_q2 (sg_q1 v) < 128 ∧ sg_q3 (sg_q2 (sg_q1 v)) < 16 ∧ sg_q3 (sg_q2 (sg_q1 v)) = sg_pop v := by decide +kernel
theorem sg_bc {v : Nat} {K : Int32 → Prop} (hv : v < 256) (kk : K (nI (sg_pop v))) : wpJ6_bitCount_0f7a4 (nI v) K := by
  obtain ⟨h1, h2, h3, h4⟩ := sg_qq v hv
  unfold wpJ6_bitCount_0f7a4
  rw [sg_b1 v hv, sg_b2 _ h1, sg_b3 _ h2, sg_b4 _ h3, h4]
  exact kk
def sg_nx (v : Nat) : Nat := v &&& (v - 1)
theorem sg_st : ∀ v, v < 256 → 0 < v → nI v &&& (nI v - 1) = nI (sg_nx v) ∧ sg_nx v < v ∧ sg_pop (sg_nx v) + 1 = sg_pop v := by decide +kernel
theorem sg_ol {K : Int32 → Prop} {y0 : Int32} : ∀ (m v c : Nat), v < 256 → sg_pop v = m → K (nI (c + m)) → wpX9_ones_L4 (m + 1) y0 (nI c) (nI v) K := by
  intro m
  induction m with
  | zero =>
    intro v c hv hp hk
    have e := sg_z hv hp
    subst e
    rw [wpX9_ones_L4]
    exact br_t rfl hk
  | succ m ih =>
    intro v c hv hp hk
    have h0 : 0 < v := by
      rcases Nat.eq_zero_or_pos v with h | h
      · subst h
        simp [sg_pop] at hp
      · exact h
    obtain ⟨e1, e2, e3⟩ := sg_st v hv h0
    rw [wpX9_ones_L4]
    refine br_f (nI_ne0 h0 (by omega)) ?_
    rw [e1, nI_1]
    exact ih (sg_nx v) (c + 1) (by omega) (by omega) (by rw [show c + 1 + m = c + (m + 1) by omega]; exact hk)
theorem sg_on {v : Nat} {K : Int32 → Prop} (hv : v < 256) (kk : K (nI (sg_pop v))) : wpX9_ones (nI v) K :=
  ⟨sg_pop v + 1, sg_ol (sg_pop v) v 0 hv rfl (by rw [Nat.zero_add]; exact kk)⟩
theorem sg_and {e : Nat} (he : e ≤ 255) (x : Int32) : ∃ v, v < 256 ∧ nI e &&& x = nI v := by
  have h : (nI e &&& x) &&& 255 = nI e &&& x := by
    rw [Int32.and_assoc, Int32.and_comm x 255, ← Int32.and_assoc, show nI e &&& 255 = nI e from by rw [pk_andN (m := 255) (by omega) 8 (by decide), Nat.mod_eq_of_lt (by omega)]]
  obtain ⟨j, hj, ej⟩ := pk_andE (nI e &&& x) (m := 255) 8 (by decide)
  exact ⟨j, hj, by rw [← h, ej]⟩
/-- how many signs a lion reads of an event -/
def sgn (l : Nat) (e s : Int32) : Nat := sg_pop (e &&& (if l = 0 then s else s ^^^ (-1))).toInt.toNat
theorem sgn_le (l : Nat) (e s : Int32) : sgn l e s ≤ 8 := sg_le _
theorem sgn_e {l e v : Nat} {s : Int32} (hv : v < 256) (h : nI e &&& (if l = 0 then s else s ^^^ (-1)) = nI v) : sgn l (nI e) s = sg_pop v := by
  unfold sgn
  rw [h, i_tn (by omega)]
theorem s8 {l e : Nat} {s : Int32} {K : Int32 → Prop} (hl : l < 2) (he : e ≤ 255) (kk : K (nI (sgn l (nI e) s))) : wpX2_signsOf (nI l) s (nI e) K := by
  unfold wpX2_signsOf
  rcases (show l = 0 ∨ l = 1 by omega) with rfl | rfl
  · obtain ⟨v, hv, ev⟩ := sg_and he s
    rw [sgn_e hv (by rw [if_pos rfl]; exact ev)] at kk
    exact br_t rfl (by rw [ev]; exact sg_bc hv kk)
  · obtain ⟨v, hv, ev⟩ := sg_and he (s ^^^ (-1))
    rw [sgn_e hv (by rw [if_neg (by decide)]; exact ev)] at kk
    exact br_f (by decide) (by rw [ev]; exact sg_bc hv kk)
theorem s9 {l e : Nat} {s : Int32} {K : Int32 → Prop} (hl : l < 2) (he : e ≤ 255) (kk : K (nI (sgn l (nI e) s))) : wpX9_signsOf (nI l) (nI e) s K := by
  unfold wpX9_signsOf
  rcases (show l = 0 ∨ l = 1 by omega) with rfl | rfl
  · obtain ⟨v, hv, ev⟩ := sg_and he s
    rw [sgn_e hv (by rw [if_pos rfl]; exact ev)] at kk
    exact br_t rfl (by rw [ev]; exact sg_on hv kk)
  · obtain ⟨v, hv, ev⟩ := sg_and he (s ^^^ (-1))
    rw [sgn_e hv (by rw [if_neg (by decide)]; exact ev)] at kk
    exact br_f (by decide) (by rw [ev]; exact sg_on hv kk)

/-- a turn -/
def tn_ (st : Nat → Int32) (n l : Nat) (e s y : Int32) : Int32 := tx_g st (nI n) 30 (nI (sgn l e s)) (e - e / 16 * 16) (y - y / 8 * 8)
theorem tx_g_in {st : Nat → Int32} {len a b c : Int32} {h : Nat} (hh : h < 2147483648) : in_ (tx_g st len (nI h) a b c) h := by
  have := tx_c_in (hi := nI h) (x := (if len = 0 then a else (tx_v st a b c len.toInt.toNat).headD 0)) (nI_pos' (by omega))
  simp only [i_le, Int32.toInt_zero, nI_toInt (show h < 2 ^ 31 by omega)] at this
  exact this
theorem tn_in (st : Nat → Int32) (n l : Nat) (e s y : Int32) : in_ (tn_ st n l e s y) 30 := tx_g_in (h := 30) (by decide)
theorem t8 {l e n : Nat} {st sk mem : Nat → Int32} {hi sa sb s y : Int32} {K : Int32 → (Nat → Int32) → (Nat → Int32) → Prop} (hl : l < 2) (he : e ≤ 255) (hn : n ≤ 60) (hok : tx_ok st n) (hm : rm 30 9 16 hi sa sb (nI n) st mem)
    (hk : ∀ mem' sk', rm 30 9 16 hi sa sb (nI n) st mem' → K (tn_ st n l (nI e) s y) mem' sk') : wpX7_turnOf (nI l) (nI e) y s hi sa sb (nI n) 1152 mem st sk K := by
  unfold wpX7_turnOf
  exact s8 hl he (g_gives9 hn hok hm rfl hk)
theorem t9 {n : Nat} {st s nm pile : Nat → Int32} {x e y : Int32} {K : Int32 → (Nat → Int32) → (Nat → Int32) → Prop} (hrt : rt 0 (nI n) st s) (hn : n ≤ 60)
    (hk : ∀ nm' p', K (tx_g st (nI n) 30 x (e - e / 16 * 16) (y - y / 8 * 8)) nm' p') : wpX9_turnBy x e y nm s pile K := by
  unfold wpX9_turnBy
  refine ⟨vp_in_iff.mpr (by decide), vp_in_iff.mpr (by decide), vp_in_iff.mpr (by decide), ?_⟩
  rw [c_98, c_101, c_121]
  exact r_text (u := 0) (hi := 30) (pile := pile) (nm := upd (upd (upd nm 98 x) 101 (e - e / 16 * 16)) 121 (y - y / 8 * 8)) (K := fun r p => K r (upd (upd (upd nm 98 x) 101 (e - e / 16 * 16)) 121 (y - y / 8 * 8)) p) (by decide) hrt hn
    ⟨by rw [if_pos rfl, pk_un (by decide), pk_un (by decide), pk_us], by rw [if_pos rfl, pk_un (by decide), pk_us], by rw [pk_us]⟩ (fun p => hk _ p)
theorem t9o {l e n : Nat} {st s nm pile : Nat → Int32} {K : Int32 → (Nat → Int32) → (Nat → Int32) → Prop} (hl : l < 2) (he : e ≤ 255) (hrt : rt 0 (nI n) st s) (hn : n ≤ 60)
    (hk : ∀ nm' p', K (tn_ st n l (nI e) (s 1) (s 0)) nm' p') : wpX9_turnOf (nI l) (nI e) s nm pile K := by
  unfold wpX9_turnOf
  refine ⟨vp_in_iff.mpr (by decide), ?_⟩
  rw [c_1, c_0]
  exact s9 hl he ⟨vp_in_iff.mpr (by decide), t9 hrt hn hk⟩
def jn_ (j t : Int32) : Int32 := (j + t) - (j + t) / 360 * 360
theorem jn_in {j t : Int32} (hj : in_ j 359) (ht : in_ t 30) : in_ (jn_ j t) 359 := by
  obtain ⟨a, ha, rfl⟩ := in_nI (n := 359) hj
  obtain ⟨b, hb, rfl⟩ := in_nI (n := 30) ht
  unfold jn_
  rw [nI_add, show (360 : Int32) = nI 360 from rfl, pk_rem (by omega) (by decide) (by decide)]
  exact in_mk (n := 359) (by omega) (by decide)
theorem c_stir {e n : Nat} {st sk mem turns jaws : Nat → Int32} {hi sa sb s y : Int32} {K : (Nat → Int32) → (Nat → Int32) → (Nat → Int32) → (Nat → Int32) → Prop} (he : e ≤ 255) (hn : n ≤ 60) (hok : tx_ok st n) (hm : rm 30 9 16 hi sa sb (nI n) st mem)
    (hk : ∀ mem' sk', rm 30 9 16 hi sa sb (nI n) st mem' → K mem' sk' (upd (upd turns 0 (tn_ st n 0 (nI e) s y)) 1 (tn_ st n 1 (nI e) s y)) (upd (upd jaws 0 (jn_ (jaws 0) (tn_ st n 0 (nI e) s y))) 1 (jn_ (jaws 1) (tn_ st n 1 (nI e) s y)))) :
    wpX7_stir (nI e) y s hi sa sb (nI n) 1152 mem st sk turns jaws K := by
  refine ⟨3, ?_⟩
  rw [wpX7_stir_L2]
  refine br_f (by decide) ?_
  rw [c_0, show (0 + 1 : Int32) = nI 1 from by decide]
  refine t8 (l := 0) (by decide) he hn hok hm (fun mem1 sk1 hm1 => ⟨vp_in_iff.mpr (by decide), vp_in_iff.mpr (by decide), vp_in_iff.mpr (by decide), vp_in_iff.mpr (by decide), ?_⟩)
  rw [wpX7_stir_L2]
  refine br_f (by decide) ?_
  rw [i_cl (show 1 < 2147483648 by decide), show (nI 1 + 1 : Int32) = nI 2 from by decide]
  refine t8 (l := 1) (by decide) he hn hok hm1 (fun mem2 sk2 hm2 => ⟨vp_in_iff.mpr (by decide), vp_in_iff.mpr (by decide), vp_in_iff.mpr (by decide), vp_in_iff.mpr (by decide), ?_⟩)
  rw [wpX7_stir_L2]
  refine br_t (by decide) ?_
  rw [pk_us, pk_us, pk_un (show (1 : Nat) ≠ 0 by decide)]
  exact hk mem2 sk2 hm2
/-- what is read, and the marks behind it -/
def lo_ (l a b : Int32) : Int32 := if l = 0 then a else b
def mk_ (st : Nat → Int32) (n : Nat) (k m y j0 j1 t0 t1 R had : Int32) : Int32 :=
  tx_c 9999 (had + tx_g st (nI n) 40 (ro_ k m (lo_ (la_ k m y j0 j1) t0 t1) (lo_ (la_ k m y j0 j1) j0 j1) R) (lo_ (la_ k m y j0 j1) j0 j1 - lo_ (la_ k m y j0 j1) j0 j1 / 10 * 10) (y - y / 8 * 8))
theorem mk_in (st : Nat → Int32) (n : Nat) (k m y j0 j1 t0 t1 R had : Int32) : in_ (mk_ st n k m y j0 j1 t0 t1 R had) 9999 := by
  have := tx_c_in (hi := 9999) (x := had + tx_g st (nI n) 40 (ro_ k m (lo_ (la_ k m y j0 j1) t0 t1) (lo_ (la_ k m y j0 j1) j0 j1) R) (lo_ (la_ k m y j0 j1) j0 j1 - lo_ (la_ k m y j0 j1) j0 j1 / 10 * 10) (y - y / 8 * 8)) (by decide)
  simp only [i_le, Int32.toInt_zero, show (9999 : Int32).toInt = 9999 by decide] at this
  exact this
theorem la_01 {k m y j0 j1 : Int32} {M Y : Nat} (em : m = nI M) (hM : M ≤ 9) (ey : y = nI Y) (hY : Y < 100000) : la_ k m y j0 j1 = 0 ∨ la_ k m y j0 j1 = 1 := by
  subst em; subst ey
  have h2 : ∀ q : Nat, q < 2 → (nI q = 0 ∨ nI q = 1) ∧ ((1 - nI q : Int32) = 0 ∨ (1 - nI q : Int32) = 1) := by decide
  have e1 : (nI M - nI M / 2 * 2 : Int32) = nI (M % 2) := pk_rem (by omega) (by decide) (by decide)
  have e2 : (nI Y - nI Y / 2 * 2 : Int32) = nI (Y % 2) := pk_rem (by omega) (by decide) (by decide)
  have a1 := h2 (M % 2) (by omega)
  have a2 := h2 (Y % 2) (by omega)
  unfold la_
  rw [e1, e2]
  split
  · exact a2.1
  split
  · split
    · exact a1.1
    · exact a1.2
  split
  · split
    · exact Or.inr rfl
    · exact Or.inl rfl
  split
  · exact a2.2
  split
  · split
    · exact a1.1
    · exact a1.2
  split
  · exact Or.inl rfl
  · exact a1.1
theorem c_grown {j n M Y H : Nat} {st sk mem kinds ms jaws turns : Nat → Int32} {hi sa sb R : Int32} {K : Int32 → (Nat → Int32) → (Nat → Int32) → Prop} (hj : j < 6) (hn : n ≤ 60) (hok : tx_ok st n) (hm : rm 40 66 10 hi sa sb (nI n) st mem)
    (eM : ms j = nI M) (hM : M ≤ 9) (hY : Y < 100000) (hH : H ≤ 9999)
    (hk : ∀ mem' sk', rm 40 66 10 hi sa sb (nI n) st mem' → K (mk_ st n (kinds j) (ms j) (nI Y) (jaws 0) (jaws 1) (turns 0) (turns 1) R (nI H)) mem' sk') :
    wpX7_grown (nI j) (nI H) R kinds ms (nI Y) jaws turns hi sa sb (nI n) 5280 mem st sk K := by
  unfold wpX7_grown
  rw [i_cl (show j < 2147483648 by omega)]
  refine ⟨vp_in_nI hj (by decide), vp_in_nI hj (by decide), la8 ?_⟩
  have fin : ∀ l : Int32, (lo_ (la_ (kinds j) (ms j) (nI Y) (jaws 0) (jaws 1)) (jaws 0) (jaws 1) = jaws l.toNatClampNeg) → (lo_ (la_ (kinds j) (ms j) (nI Y) (jaws 0) (jaws 1)) (turns 0) (turns 1) = turns l.toNatClampNeg) → vp_in l 2 →
      vp_in l 2 ∧ vp_in (nI j) 6 ∧ vp_in (nI j) 6 ∧ vp_in l 2 ∧ wpX0_readsOf (kinds j) (ms j) (turns l.toNatClampNeg) (jaws l.toNatClampNeg) R (fun r52 => wpX1_gives r52 (jaws l.toNatClampNeg - jaws l.toNatClampNeg / 10 * 10) (nI Y - nI Y / 8 * 8) hi sa sb (nI n) 5280 mem st sk (fun r79 u79_0 u79_1 => K (if (nI H + r79) < 9999 then (nI H + r79) else 9999) u79_0 u79_1)) := by
    intro l e1 e2 hl
    refine ⟨hl, vp_in_nI hj (by decide), vp_in_nI hj (by decide), hl, ro8 (g_gives66 hn hok hm rfl (fun mem' sk' hm' => ?_))⟩
    have h := hk mem' sk' hm'
    unfold mk_ at h
    rw [e1, e2] at h
    obtain ⟨q, hq, eq⟩ := in_nI (n := 40) (tx_g_in (st := st) (len := nI n) (h := 40) (a := ro_ (kinds j) (ms j) (turns l.toNatClampNeg) (jaws l.toNatClampNeg) R) (b := jaws l.toNatClampNeg - jaws l.toNatClampNeg / 10 * 10) (c := nI Y - nI Y / 8 * 8) (by decide))
    rw [show (nI 40 : Int32) = 40 from rfl] at eq
    rw [eq, nI_add] at h ⊢
    unfold tx_c at h
    rw [if_neg (nI_pos (by omega))] at h
    by_cases hc : H + q < 9999
    · rw [if_neg (show ¬ (9999 : Int32) < nI (H + q) from nI_nlt (show H + q ≤ 9999 by omega) (by decide))] at h
      rw [if_pos (show nI (H + q) < 9999 from nI_lt hc (by decide))]
      exact h
    · rw [if_neg (show ¬ nI (H + q) < 9999 from nI_nlt (show 9999 ≤ H + q by omega) (by omega))]
      by_cases hd : 9999 < H + q
      · rw [if_pos (show (9999 : Int32) < nI (H + q) from nI_lt hd (by omega))] at h
        exact h
      · rw [if_neg (show ¬ (9999 : Int32) < nI (H + q) from nI_nlt (show H + q ≤ 9999 by omega) (by decide))] at h
        rw [show H + q = 9999 by omega] at h
        exact h
  rcases la_01 (k := kinds j) (j0 := jaws 0) (j1 := jaws 1) eM hM (rfl : nI Y = nI Y) hY with e | e
  · rw [e] at fin ⊢
    exact fin 0 (by rw [c_0]; rfl) (by rw [c_0]; rfl) (vp_in_iff.mpr (by decide))
  · rw [e] at fin ⊢
    exact fin 1 (by rw [c_1]; rfl) (by rw [c_1]; rfl) (vp_in_iff.mpr (by decide))

/-! a year of the world -/
theorem m9 {n : Nat} {st s nm pile : Nat → Int32} {x j y : Int32} {K : Int32 → (Nat → Int32) → (Nat → Int32) → Prop} (hrt : rt 1 (nI n) st s) (hn : n ≤ 60)
    (hk : ∀ nm' p', K (tx_g st (nI n) 40 x j y) nm' p') : wpX9_markBy x j y nm s pile K := by
  unfold wpX9_markBy
  refine ⟨vp_in_iff.mpr (by decide), vp_in_iff.mpr (by decide), vp_in_iff.mpr (by decide), ?_⟩
  rw [c_114, c_106, c_121]
  exact r_text (u := 1) (hi := 40) (pile := pile) (nm := upd (upd (upd nm 114 x) 106 j) 121 y) (K := fun r p => K r (upd (upd (upd nm 114 x) 106 j) 121 y) p) (by decide) hrt hn
    ⟨by rw [if_neg (by decide), pk_un (by decide), pk_un (by decide), pk_us], by rw [if_neg (by decide), pk_un (by decide), pk_us], by rw [pk_us]⟩ (fun p => hk _ p)
theorem rt_congr {u : Nat} {len : Int32} {st s s' : Nat → Int32} (hu : u < 2) (h : rt u len st s) (hs : ∀ i, 32 ≤ i → i < 282 → s' i = s i) : rt u len st s' := by
  obtain ⟨h1, h2, h3, h4⟩ := h
  refine ⟨by rw [hs _ (by omega) (by omega)]; exact h1, h2, h3, fun k hk => ?_⟩
  have h5 : len.toInt.toNat ≤ 60 := h3.1
  rw [hs _ (by omega) (by omega), hs _ (by omega) (by omega)]
  exact h4 k hk
/-- the jaws, and the turns, behind a year -/
def yt_ (st : Nat → Int32) (n : Nat) (e : Int32) (s : Nat → Int32) (l : Nat) : Int32 := tn_ st n l e (s 1) (s 0)
def yj_ (st : Nat → Int32) (n : Nat) (e : Int32) (s : Nat → Int32) (l : Nat) : Int32 := jn_ (s (2 + l)) (yt_ st n e s l)
/-- the row when the first j readers have read -/
def yk_ (st : Nat → Int32) (n : Nat) (st1 : Nat → Int32) (n1 : Nat) (e : Int32) (s : Nat → Int32) (j : Nat) : Nat → Int32 := fun i =>
  if i = 2 then yj_ st n e s 0 else if i = 3 then yj_ st n e s 1
  else if 16 ≤ i ∧ (i - 16) % 3 = 0 ∧ i < 16 + 3 * j then mk_ st1 n1 (s (i - 2)) (s (i - 1)) (s 0) (yj_ st n e s 0) (yj_ st n e s 1) (yt_ st n e s 0) (yt_ st n e s 1) (s 7) (s i) else s i
def yr_ (st : Nat → Int32) (n : Nat) (st1 : Nat → Int32) (n1 : Nat) (e : Int32) (s : Nat → Int32) : Nat → Int32 := upd (yk_ st n st1 n1 e s (s 7).toInt.toNat) 0 (s 0 + 1)
theorem yk_2 (st : Nat → Int32) (n : Nat) (st1 : Nat → Int32) (n1 : Nat) (e : Int32) (s : Nat → Int32) (j : Nat) : yk_ st n st1 n1 e s j 2 = yj_ st n e s 0 := rfl
theorem yk_3 (st : Nat → Int32) (n : Nat) (st1 : Nat → Int32) (n1 : Nat) (e : Int32) (s : Nat → Int32) (j : Nat) : yk_ st n st1 n1 e s j 3 = yj_ st n e s 1 := rfl
theorem yk_o (st : Nat → Int32) (n : Nat) (st1 : Nat → Int32) (n1 : Nat) (e : Int32) (s : Nat → Int32) {j i : Nat} (h2 : i ≠ 2) (h3 : i ≠ 3) (h : ¬ (16 ≤ i ∧ (i - 16) % 3 = 0 ∧ i < 16 + 3 * j)) : yk_ st n st1 n1 e s j i = s i := by
  unfold yk_
  rw [if_neg h2, if_neg h3, if_neg h]
theorem yk_s (st : Nat → Int32) (n : Nat) (st1 : Nat → Int32) (n1 : Nat) (e : Int32) (s : Nat → Int32) (j : Nat) :
    upd (yk_ st n st1 n1 e s j) (16 + 3 * j) (mk_ st1 n1 (s (14 + 3 * j)) (s (15 + 3 * j)) (s 0) (yj_ st n e s 0) (yj_ st n e s 1) (yt_ st n e s 0) (yt_ st n e s 1) (s 7) (s (16 + 3 * j))) = yk_ st n st1 n1 e s (j + 1) := by
  funext i
  by_cases hi : i = 16 + 3 * j
  · subst hi
    rw [pk_us]
    unfold yk_
    rw [if_neg (by omega), if_neg (by omega), if_pos (by omega), show 16 + 3 * j - 2 = 14 + 3 * j by omega, show 16 + 3 * j - 1 = 15 + 3 * j by omega]
  · rw [pk_un hi]
    unfold yk_
    by_cases h : 16 ≤ i ∧ (i - 16) % 3 = 0 ∧ i < 16 + 3 * j
    · rw [if_pos h, if_pos (show 16 ≤ i ∧ (i - 16) % 3 = 0 ∧ i < 16 + 3 * (j + 1) by omega)]
    · rw [if_neg h, if_neg (show ¬ (16 ≤ i ∧ (i - 16) % 3 = 0 ∧ i < 16 + 3 * (j + 1)) by omega)]
theorem yk_0 (st : Nat → Int32) (n : Nat) (st1 : Nat → Int32) (n1 : Nat) (e : Int32) (s : Nat → Int32) : upd (upd s 2 (yj_ st n e s 0)) 3 (yj_ st n e s 1) = yk_ st n st1 n1 e s 0 := by
  funext i
  unfold yk_
  by_cases h3 : i = 3
  · subst h3
    rw [pk_us]
    rfl
  · rw [pk_un h3]
    by_cases h2 : i = 2
    · subst h2
      rw [pk_us]
      rfl
    · rw [pk_un h2, if_neg h2, if_neg h3, if_neg (by omega)]
/-- what a row's numbers keep to, the year aside -/
def rj (Y : Int) (s : Nat → Int32) : Prop :=
  in_ (s 0) Y ∧ in_ (s 1) 255 ∧ in_ (s 2) 359 ∧ in_ (s 3) 359 ∧ in_ (s 5) 60 ∧ in_ (s 6) 24 ∧ in_ (s 7) 6 ∧
  (∀ i, i < 6 → in_ (s (8 + i)) 255) ∧ (∀ i, i < 6 → in_ (s (14 + 3 * i)) 6) ∧ (∀ i, i < 6 → in_ (s (15 + 3 * i)) 9) ∧ (∀ i, i < 6 → in_ (s (16 + 3 * i)) 9999)
theorem rj_i {s : Nat → Int32} : ri s ↔ rj 9999 s := Iff.rfl
theorem yr_0 (st : Nat → Int32) (n : Nat) (st1 : Nat → Int32) (n1 : Nat) (e : Int32) (s : Nat → Int32) : yr_ st n st1 n1 e s 0 = s 0 + 1 := pk_us
theorem yr_2 (st : Nat → Int32) (n : Nat) (st1 : Nat → Int32) (n1 : Nat) (e : Int32) (s : Nat → Int32) : yr_ st n st1 n1 e s 2 = yj_ st n e s 0 := by
  unfold yr_; rw [pk_un (by decide)]; rfl
theorem yr_3 (st : Nat → Int32) (n : Nat) (st1 : Nat → Int32) (n1 : Nat) (e : Int32) (s : Nat → Int32) : yr_ st n st1 n1 e s 3 = yj_ st n e s 1 := by
  unfold yr_; rw [pk_un (by decide)]; rfl
theorem yr_o (st : Nat → Int32) (n : Nat) (st1 : Nat → Int32) (n1 : Nat) (e : Int32) (s : Nat → Int32) {i : Nat} (h0 : i ≠ 0) (h2 : i ≠ 2) (h3 : i ≠ 3) (h : ¬ (16 ≤ i ∧ (i - 16) % 3 = 0 ∧ i < 16 + 3 * (s 7).toInt.toNat)) : yr_ st n st1 n1 e s i = s i := by
  unfold yr_; rw [pk_un h0, yk_o _ _ _ _ _ _ h2 h3 h]
theorem yr_m (st : Nat → Int32) (n : Nat) (st1 : Nat → Int32) (n1 : Nat) (e : Int32) (s : Nat → Int32) {j : Nat} (h : j < (s 7).toInt.toNat) : yr_ st n st1 n1 e s (16 + 3 * j) = mk_ st1 n1 (s (14 + 3 * j)) (s (15 + 3 * j)) (s 0) (yj_ st n e s 0) (yj_ st n e s 1) (yt_ st n e s 0) (yt_ st n e s 1) (s 7) (s (16 + 3 * j)) := by
  unfold yr_
  rw [pk_un (by omega)]
  unfold yk_
  rw [if_neg (by omega), if_neg (by omega), if_pos (by omega), show 16 + 3 * j - 2 = 14 + 3 * j by omega, show 16 + 3 * j - 1 = 15 + 3 * j by omega]
theorem in_le {x : Int32} {a b : Int} (h : in_ x a) (hab : a ≤ b) : in_ x b := ⟨h.1, by have := h.2; omega⟩
theorem in_s1 {x : Int32} {Y : Int} (h : in_ x Y) (hY : Y < 100000) : in_ (x + 1) (Y + 1) := by
  obtain ⟨h1, h2⟩ := h
  have e : (x + 1).toInt = x.toInt + 1 := by
    rw [i_add (by rw [show (1 : Int32).toInt = 1 by decide]; omega) (by rw [show (1 : Int32).toInt = 1 by decide]; omega), show (1 : Int32).toInt = 1 by decide]
  exact ⟨by omega, by omega⟩
theorem yr_hi (st : Nat → Int32) (n : Nat) (st1 : Nat → Int32) (n1 : Nat) (e : Int32) {s : Nat → Int32} {Y : Int} (h : rj Y s) {i : Nat} (hi : 32 ≤ i) : yr_ st n st1 n1 e s i = s i := by
  have h7 := h.2.2.2.2.2.2.1
  unfold in_ at h7
  exact yr_o _ _ _ _ _ _ (by omega) (by omega) (by omega) (by omega)
theorem yr_lo (st : Nat → Int32) (n : Nat) (st1 : Nat → Int32) (n1 : Nat) (e : Int32) {s : Nat → Int32} {i : Nat} (hi : i = 1 ∨ (4 ≤ i ∧ i < 16) ∨ (16 ≤ i ∧ ¬ (i - 16) % 3 = 0)) : yr_ st n st1 n1 e s i = s i :=
  yr_o _ _ _ _ _ _ (by omega) (by omega) (by omega) (by omega)
theorem rj_yr (st : Nat → Int32) (n : Nat) (st1 : Nat → Int32) (n1 : Nat) (e : Int32) {s : Nat → Int32} {Y : Int} (h : rj Y s) (hY : Y < 100000) : rj (Y + 1) (yr_ st n st1 n1 e s) := by
  obtain ⟨h0, h1, h2, h3, h5, h6, h7, he, hk, hm, hs⟩ := id h
  refine ⟨by rw [yr_0]; exact in_s1 h0 hY, by rw [yr_lo _ _ _ _ _ (by omega)]; exact h1, by rw [yr_2]; exact jn_in h2 (tn_in _ _ _ _ _ _), by rw [yr_3]; exact jn_in h3 (tn_in _ _ _ _ _ _),
    by rw [yr_lo _ _ _ _ _ (by omega)]; exact h5, by rw [yr_lo _ _ _ _ _ (by omega)]; exact h6, by rw [yr_lo _ _ _ _ _ (by omega)]; exact h7,
    fun i hi => by rw [yr_lo _ _ _ _ _ (by omega)]; exact he i hi, fun i hi => by rw [yr_lo _ _ _ _ _ (by omega)]; exact hk i hi, fun i hi => by rw [yr_lo _ _ _ _ _ (by omega)]; exact hm i hi, fun i hi => ?_⟩
  by_cases hR : i < (s 7).toInt.toNat
  · rw [yr_m _ _ _ _ _ _ hR]
    exact mk_in _ _ _ _ _ _ _ _ _ _ _
  · rw [yr_o _ _ _ _ _ _ (by omega) (by omega) (by omega) (by omega)]
    exact hs i hi
theorem rt_yr {u : Nat} {len : Int32} {st' s : Nat → Int32} (st : Nat → Int32) (n : Nat) (st1 : Nat → Int32) (n1 : Nat) (e : Int32) {Y : Int} (hu : u < 2) (hj : rj Y s) (h : rt u len st' s) : rt u len st' (yr_ st n st1 n1 e s) :=
  rt_congr hu h (fun i h1 h2 => yr_hi _ _ _ _ _ hj h1)
/-- the reference's loop over readers -/
theorem r_yl {st st1 s : Nat → Int32} {n n1 e R : Nat} {Y : Int} {K : (Nat → Int32) → (Nat → Int32) → (Nat → Int32) → Prop} (hj : rj Y s) (hY : Y < 100000) (hR : R ≤ 6) (e7 : s 7 = nI R) (h1 : rt 1 (nI n1) st1 s) (hn1 : n1 ≤ 60)
    (hk : ∀ nm p, K (yr_ st n st1 n1 (nI e) s) nm p) :
    ∀ (m j : Nat) (nm p : Nat → Int32), j + m = R → wpX9_year1_L53 (m + 1) (nI e) (yt_ st n (nI e) s 0) (yt_ st n (nI e) s 1) (nI j) (yk_ st n st1 n1 (nI e) s j) nm p K := by
  intro m
  induction m with
  | zero =>
    intro j nm p hjm
    have ej : j = R := by omega
    subst ej
    rw [wpX9_year1_L53]
    refine ⟨vp_in_iff.mpr (by decide), ?_⟩
    rw [c_7, c_0, yk_o st n st1 n1 (nI e) s (show (7 : Nat) ≠ 2 by decide) (by decide) (by omega), yk_o st n st1 n1 (nI e) s (show (0 : Nat) ≠ 2 by decide) (by decide) (by omega), e7]
    refine br_t (nI_le (Nat.le_refl _) (by omega)) ⟨vp_in_iff.mpr (by decide), vp_in_iff.mpr (by decide), ?_⟩
    have h := hk nm p
    unfold yr_ at h
    rw [e7, i_tn (by omega)] at h
    exact h
  | succ m ih =>
    intro j nm p hjm
    have hj6 : j < 6 := by omega
    rw [wpX9_year1_L53]
    refine ⟨vp_in_iff.mpr (by decide), ?_⟩
    rw [c_7, yk_o st n st1 n1 (nI e) s (show (7 : Nat) ≠ 2 by decide) (by decide) (by omega), e7]
    refine br_f (nI_ge (by omega) (by omega)) (la9 hj6 ?_)
    rw [yk_2, yk_3, yk_o st n st1 n1 (nI e) s (show (0 : Nat) ≠ 2 by decide) (by decide) (by omega), yk_o st n st1 n1 (nI e) s (show (14 + 3 * j : Nat) ≠ 2 by omega) (by omega) (by omega), yk_o st n st1 n1 (nI e) s (show (15 + 3 * j : Nat) ≠ 2 by omega) (by omega) (by omega)]
    obtain ⟨M, hM, eM⟩ := in_nI (n := 9) (hj.2.2.2.2.2.2.2.2.2.1 j hj6)
    obtain ⟨Yn, hYn, eY⟩ := in_nI (n := Y.toNat) (in_le hj.1 (by have := hj.1.1; have := hj.1.2; omega))
    have h1k : rt 1 (nI n1) st1 (yk_ st n st1 n1 (nI e) s j) := rt_congr (by decide) h1 (fun i h1 h2 => yk_o _ _ _ _ _ _ (by omega) (by omega) (by omega))
    have tail : ∀ (l t w : Int32), lo_ (la_ (s (14 + 3 * j)) (s (15 + 3 * j)) (s 0) (yj_ st n (nI e) s 0) (yj_ st n (nI e) s 1)) (yt_ st n (nI e) s 0) (yt_ st n (nI e) s 1) = t → lo_ (la_ (s (14 + 3 * j)) (s (15 + 3 * j)) (s 0) (yj_ st n (nI e) s 0) (yj_ st n (nI e) s 1)) (yj_ st n (nI e) s 0) (yj_ st n (nI e) s 1) = w → vp_in (2 + l) 366 → yk_ st n st1 n1 (nI e) s j (2 + l).toNatClampNeg = w →
        vp_in (2 + l) 366 ∧ wpX9_readOf (nI j) t (yk_ st n st1 n1 (nI e) s j (2 + l).toNatClampNeg) (yk_ st n st1 n1 (nI e) s j) (fun r95 => wpX9_its (nI j) 2 (yk_ st n st1 n1 (nI e) s j) (fun r108 => vp_in (2 + l) 366 ∧ vp_in 0 366 ∧ wpX9_markBy r95 ((yk_ st n st1 n1 (nI e) s j (2 + l).toNatClampNeg) - (yk_ st n st1 n1 (nI e) s j (2 + l).toNatClampNeg) / 10 * 10) ((yk_ st n st1 n1 (nI e) s j (0 : Int32).toNatClampNeg) - (yk_ st n st1 n1 (nI e) s j (0 : Int32).toNatClampNeg) / 8 * 8) nm (yk_ st n st1 n1 (nI e) s j) p (fun r135 u135_0 u135_1 => wpX9_held (r108 + r135) 0 9999 (fun r143 => wpX9_lays1 (nI j) 2 r143 (yk_ st n st1 n1 (nI e) s j) (fun u146_0 => wpX9_year1_L53 (m + 1) (nI e) (yt_ st n (nI e) s 0) (yt_ st n (nI e) s 1) (nI j + 1) u146_0 u135_0 u135_1 K))))) := by
      intro l t w e1 e2 hl e3
      refine ⟨hl, ?_⟩
      rw [e3]
      refine ro9 hj6 (its9 (k := 2) hj6 (by decide) ⟨hl, vp_in_iff.mpr (by decide), m9 h1k hn1 (fun nm' p' => h_held (lays9 (k := 2) hj6 (by decide) ?_))⟩)
      rw [c_0, yk_o st n st1 n1 (nI e) s (show (0 : Nat) ≠ 2 by decide) (by decide) (by omega), yk_o st n st1 n1 (nI e) s (show (14 + 3 * j : Nat) ≠ 2 by omega) (by omega) (by omega), yk_o st n st1 n1 (nI e) s (show (15 + 3 * j : Nat) ≠ 2 by omega) (by omega) (by omega), yk_o st n st1 n1 (nI e) s (show (7 : Nat) ≠ 2 by decide) (by decide) (by omega), show 14 + 2 + 3 * j = 16 + 3 * j by omega, yk_o st n st1 n1 (nI e) s (show (16 + 3 * j : Nat) ≠ 2 by omega) (by omega) (by omega), nI_1]
      have h := ih (j + 1) nm' p' (by omega)
      rw [← yk_s] at h
      unfold mk_ at h
      rw [e1, e2] at h
      exact h
    rcases la_01 (k := s (14 + 3 * j)) (j0 := yj_ st n (nI e) s 0) (j1 := yj_ st n (nI e) s 1) eM hM eY (by omega) with el | el
    · rw [el] at tail ⊢
      exact br_t rfl (tail 0 _ _ rfl rfl (vp_in_iff.mpr (by decide)) (by rw [show (2 + 0 : Int32).toNatClampNeg = 2 by decide, yk_2]; rfl))
    · rw [el] at tail ⊢
      exact br_f (by decide) (tail 1 _ _ rfl rfl (vp_in_iff.mpr (by decide)) (by rw [show (2 + 1 : Int32).toNatClampNeg = 3 by decide, yk_3]; rfl))
/-- the reference's year -/
theorem r_year {st st1 s nm pile : Nat → Int32} {n n1 e : Nat} {Y : Int} {K : (Nat → Int32) → (Nat → Int32) → (Nat → Int32) → Prop} (he : e ≤ 255) (hj : rj Y s) (hY : Y < 100000) (h0 : rt 0 (nI n) st s) (hn : n ≤ 60) (h1 : rt 1 (nI n1) st1 s) (hn1 : n1 ≤ 60)
    (hk : ∀ nm p, K (yr_ st n st1 n1 (nI e) s) nm p) : wpX9_year1 (nI e) s nm pile K := by
  obtain ⟨R, hR, e7⟩ := in_nI (n := 6) hj.2.2.2.2.2.2.1
  unfold wpX9_year1
  refine t9o (l := 0) (by decide) he h0 hn (fun nm1 p1 => t9o (l := 1) (by decide) he h0 hn (fun nm2 p2 => ⟨vp_in_iff.mpr (by decide), vp_in_iff.mpr (by decide), vp_in_iff.mpr (by decide), vp_in_iff.mpr (by decide), R + 1, ?_⟩))
  rw [c_2, c_3, pk_un (show (3 : Nat) ≠ 2 by decide)]
  have h := r_yl (st := st) (n := n) (e := e) hj hY hR e7 h1 hn1 hk R 0 nm2 p2 (by omega)
  rw [← yk_0] at h
  exact h
/-- the class's loop over readers -/
def yc_ (st : Nat → Int32) (n : Nat) (kinds ms jaws turns : Nat → Int32) (y R : Int32) (j : Nat) (marks : Nat → Int32) : Nat → Int32 := fun i => if i < j then mk_ st n (kinds i) (ms i) y (jaws 0) (jaws 1) (turns 0) (turns 1) R (marks i) else marks i
theorem yc_s (st : Nat → Int32) (n : Nat) (kinds ms jaws turns : Nat → Int32) (y R : Int32) (j : Nat) (marks : Nat → Int32) :
    upd (yc_ st n kinds ms jaws turns y R j marks) j (mk_ st n (kinds j) (ms j) y (jaws 0) (jaws 1) (turns 0) (turns 1) R (marks j)) = yc_ st n kinds ms jaws turns y R (j + 1) marks := by
  funext i
  by_cases h : i = j
  · subst h
    rw [pk_us]
    unfold yc_
    rw [if_pos (by omega)]
  · rw [pk_un h]
    unfold yc_
    by_cases h2 : i < j
    · rw [if_pos h2, if_pos (by omega)]
    · rw [if_neg h2, if_neg (by omega)]
theorem c_pl {n Y R : Nat} {st kinds ms jaws turns marks : Nat → Int32} {x y1 tl1 tl2 tl3 tl4 : Int32} {N : Nat} {tm tst ts : Nat → Int32} {hi sa sb : Int32} {K : Int32 → (Nat → Int32) → (Nat → Int32) → (Nat → Int32) → (Nat → Int32) → (Nat → Int32) → (Nat → Int32) → (Nat → Int32) → Prop} (hn : n ≤ 60) (hok : tx_ok st n) (hR : R ≤ 6)
    (hms : ∀ i, i < 6 → in_ (ms i) 9) (hY : Y < 100000) (hmk : ∀ i, i < 6 → in_ (marks i) 9999)
    (hk : ∀ mem' sk', rm 40 66 10 hi sa sb (nI n) st mem' → K (nI Y + 1) tm ts turns jaws (yc_ st n kinds ms jaws turns (nI Y) (nI R) R marks) mem' sk') :
    ∀ (m j : Nat) (mem sk : Nat → Int32), j + m = R → rm 40 66 10 hi sa sb (nI n) st mem → wpX7_pass_L11 (m + 1) x (nI j) (nI R) (nI Y) y1 tl1 tl2 tl3 tl4 N tm tst ts turns jaws (yc_ st n kinds ms jaws turns (nI Y) (nI R) j marks) kinds ms hi sa sb (nI n) 5280 mem st sk K := by
  intro m
  induction m with
  | zero =>
    intro j mem sk hjm hm
    have ej : j = R := by omega
    subst ej
    rw [wpX7_pass_L11]
    exact br_t (nI_le (Nat.le_refl _) (by omega)) (hk mem sk hm)
  | succ m ih =>
    intro j mem sk hjm hm
    rw [wpX7_pass_L11]
    refine br_f (nI_ge (by omega) (by omega)) ⟨vp_in_nI (show j < 6 by omega) (by decide), ?_⟩
    rw [i_cl (show j < 2147483648 by omega)]
    have ec : yc_ st n kinds ms jaws turns (nI Y) (nI R) j marks j = marks j := if_neg (by omega)
    obtain ⟨M, hM, eM⟩ := in_nI (n := 9) (hms j (by omega))
    obtain ⟨H, hH, eH⟩ := in_nI (n := 9999) (hmk j (by omega))
    rw [ec, eH]
    refine c_grown (show j < 6 by omega) hn hok hm eM hM hY hH (fun mem' sk' hm' => ⟨vp_in_nI (show j < 6 by omega) (by decide), ?_⟩)
    rw [← eH, yc_s, nI_1]
    exact ih (j + 1) mem' sk' (by omega) hm'
/-- the class's year -/
theorem c_pass {st st1 s sk sk1 mem mem1 turns jaws events kinds ms marks tape waiting : Nat → Int32} {year secret z readers tapeSize waits hi sa sb hi1 sa1 sb1 : Int32} {n n1 e : Nat} {Y : Int} {K : Int32 → (Nat → Int32) → (Nat → Int32) → (Nat → Int32) → (Nat → Int32) → (Nat → Int32) → (Nat → Int32) → (Nat → Int32) → Prop} (he : e ≤ 255)
    (hw : rw_ year secret z readers tapeSize waits jaws events kinds ms marks tape waiting s) (hj : rj Y s) (hY : Y < 100000) (hn : n ≤ 60) (hok : tx_ok st n) (hm : rm 30 9 16 hi sa sb (nI n) st mem) (hn1 : n1 ≤ 60) (hok1 : tx_ok st1 n1) (hm1 : rm 40 66 10 hi1 sa1 sb1 (nI n1) st1 mem1)
    (hk : ∀ mem' sk' turns' jaws' marks' mem1' sk1', rm 30 9 16 hi sa sb (nI n) st mem' → rm 40 66 10 hi1 sa1 sb1 (nI n1) st1 mem1' → rw_ (year + 1) secret z readers tapeSize waits jaws' events kinds ms marks' tape waiting (yr_ st n st1 n1 (nI e) s) → K (year + 1) mem' sk' turns' jaws' marks' mem1' sk1') :
    wpX7_pass (nI e) readers year secret hi sa sb (nI n) 1152 mem st sk turns jaws marks kinds ms hi1 sa1 sb1 (nI n1) 5280 mem1 st1 sk1 K := by
  obtain ⟨e1, e2, e3, e4, e5, e6, ej0, ej1, hev, hkk, hmm, hmk, htp, htf, hwt⟩ := id hw
  obtain ⟨R, hR, e7⟩ := in_nI (n := 6) hj.2.2.2.2.2.2.1
  obtain ⟨Yn, hYn, eY⟩ := in_nI (n := Y.toNat) (in_le hj.1 (by have := hj.1.1; have := hj.1.2; omega))
  have eyr : year = nI Yn := e1.trans eY
  have ere : readers = nI R := e4.trans e7
  unfold wpX7_pass
  refine c_stir he hn hok hm (fun mem' sk' hm' => ⟨R + 1, ?_⟩)
  have h := c_pl (x := nI e) (y1 := secret) (tl1 := hi) (tl2 := sa) (tl3 := sb) (tl4 := nI n) (N := 1152) (tm := mem') (tst := st) (ts := sk') (n := n1) (Y := Yn) (R := R) (st := st1) (hi := hi1) (sa := sa1) (sb := sb1) (kinds := kinds) (ms := ms) (marks := marks)
    (jaws := upd (upd jaws 0 (jn_ (jaws 0) (tn_ st n 0 (nI e) secret year))) 1 (jn_ (jaws 1) (tn_ st n 1 (nI e) secret year))) (turns := upd (upd turns 0 (tn_ st n 0 (nI e) secret year)) 1 (tn_ st n 1 (nI e) secret year)) (K := K) hn1 hok1 hR
    (fun i hi => by rw [hmm i hi]; exact hj.2.2.2.2.2.2.2.2.2.1 i hi) (by omega) (fun i hi => by rw [hmk i hi]; exact hj.2.2.2.2.2.2.2.2.2.2 i hi) (fun mem1' sk1' hm1' => ?_) R 0 mem1 sk1 (by omega) hm1
  · rw [ere, eyr]
    rw [eyr] at h
    exact h
  · rw [← eyr, ← ere]
    refine hk mem' sk' _ _ _ mem1' sk1' hm' hm1' ?_
    have q1 : tn_ st n 0 (nI e) secret year = yt_ st n (nI e) s 0 := by unfold yt_; rw [e2, e1]
    have q2 : tn_ st n 1 (nI e) secret year = yt_ st n (nI e) s 1 := by unfold yt_; rw [e2, e1]
    have q3 : jn_ (jaws 0) (yt_ st n (nI e) s 0) = yj_ st n (nI e) s 0 := by unfold yj_; rw [ej0]
    have q4 : jn_ (jaws 1) (yt_ st n (nI e) s 1) = yj_ st n (nI e) s 1 := by unfold yj_; rw [ej1]
    rw [q1, q2, q3, q4]
    have o : ∀ i, i = 1 ∨ (4 ≤ i ∧ i < 16) ∨ (16 ≤ i ∧ ¬ (i - 16) % 3 = 0) → yr_ st n st1 n1 (nI e) s i = s i := fun i hi => yr_lo _ _ _ _ _ hi
    refine ⟨by rw [yr_0, e1], by rw [o _ (by omega)]; exact e2, by rw [o _ (by omega)]; exact e3, by rw [o _ (by omega)]; exact e4, by rw [o _ (by omega)]; exact e5, by rw [o _ (by omega)]; exact e6,
      by rw [yr_2, pk_un (show (0 : Nat) ≠ 1 by decide), pk_us], by rw [yr_3, pk_us], fun i hi => by rw [o _ (by omega)]; exact hev i hi, fun i hi => by rw [o _ (by omega)]; exact hkk i hi, fun i hi => by rw [o _ (by omega)]; exact hmm i hi, fun i hi => ?_,
      fun i hi => by rw [yr_hi _ _ _ _ _ hj (by omega)]; exact htp i hi, htf, fun i hi => by rw [yr_hi _ _ _ _ _ hj (by omega)]; exact hwt i hi⟩
    unfold yc_
    by_cases hiR : i < R
    · rw [if_pos hiR, yr_m _ _ _ _ _ _ (by rw [e7, i_tn (by omega)]; exact hiR), pk_us, pk_us, pk_un (show (0 : Nat) ≠ 1 by decide), pk_un (show (0 : Nat) ≠ 1 by decide), pk_us, pk_us, hkk i hi, hmm i hi, hmk i hi, e1, e4]
    · rw [if_neg hiR, yr_o _ _ _ _ _ _ (by omega) (by omega) (by omega) (by rw [e7, i_tn (by omega)]; omega)]
      exact hmk i hi
