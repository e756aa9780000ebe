/-! sheets against readers -/
theorem lg_b (p : Nat → Bool) : ∀ m k i, k ≤ i → i < lg_ p m k → p i = false := by
  intro m
  induction m with
  | zero => intro k i h1 h2; rw [lg_] at h2; omega
  | succ m ih =>
    intro k i h1 h2
    rw [lg_] at h2
    by_cases hp : p k = true
    · rw [if_pos hp] at h2; omega
    · rw [if_neg hp] at h2
      by_cases e : i = k
      · subst e; simpa using hp
      · exact ih (k + 1) i (by omega) h2
def mA_ (f : Nat → Int32) (g : Nat → Int32) (T : Nat) : Nat → Int32 := fun i => if i < T then f i else g i
theorem mA_s (f g : Nat → Int32) (j : Nat) : upd (mA_ f g j) j (f j) = mA_ f g (j + 1) := by
  funext i
  by_cases h : i = j
  · subst h; rw [pk_us]; unfold mA_; rw [if_pos (by omega)]
  · rw [pk_un h]
    unfold mA_
    by_cases h2 : i < j
    · rw [if_pos h2, if_pos (by omega)]
    · rw [if_neg h2, if_neg (by omega)]
theorem mA_0 (f g : Nat → Int32) : mA_ f g 0 = g := by funext i; unfold mA_; rw [if_neg (by omega)]
def sA_ (f : Nat → Int32) (s : Nat → Int32) (T : Nat) : Nat → Int32 := fun i => if 16 ≤ i ∧ (i - 16) % 3 = 0 ∧ i < 16 + 3 * T then f ((i - 16) / 3) else s i
theorem sA_s (f s : Nat → Int32) (j : Nat) : upd (sA_ f s j) (16 + 3 * j) (f j) = sA_ f s (j + 1) := by
  funext i
  by_cases h : i = 16 + 3 * j
  · subst h
    rw [pk_us]
    unfold sA_
    rw [if_pos (by omega), show (16 + 3 * j - 16) / 3 = j by omega]
  · rw [pk_un h]
    unfold sA_
    by_cases h2 : 16 ≤ i ∧ (i - 16) % 3 = 0 ∧ i < 16 + 3 * j
    · rw [if_pos h2, if_pos (show 16 ≤ i ∧ (i - 16) % 3 = 0 ∧ i < 16 + 3 * (j + 1) by omega)]
    · rw [if_neg h2, if_neg (show ¬ (16 ≤ i ∧ (i - 16) % 3 = 0 ∧ i < 16 + 3 * (j + 1)) by omega)]
theorem sA_0 (f s : Nat → Int32) : sA_ f s 0 = s := by funext i; unfold sA_; rw [if_neg (by omega)]
theorem sA_o (f s : Nat → Int32) {T i : Nat} (h : ¬ (16 ≤ i ∧ (i - 16) % 3 = 0 ∧ i < 16 + 3 * T)) : sA_ f s T i = s i := if_neg h
theorem sA_i (f s : Nat → Int32) {T j : Nat} (h : j < T) : sA_ f s T (16 + 3 * j) = f j := by
  unfold sA_
  rw [if_pos (by omega), show (16 + 3 * j - 16) / 3 = j by omega]
def pm_ (S R : Nat) (f : Nat → Int32) (i : Nat) : Bool := !(decide (i < S) && decide (i < R) && decide (0 ≤ (f i).toInt) && decide ((f i).toInt ≤ 9999))
theorem pm_f {S R : Nat} {f : Nat → Int32} {i : Nat} : pm_ S R f i = false ↔ i < S ∧ i < R ∧ in_ (f i) 9999 := by
  unfold pm_ in_
  simp [and_assoc]
theorem c_mkl {S R : Nat} {numbers marks errors : Nat → Int32} {y1 bits : Int32} {K : Int32 → (Nat → Int32) → (Nat → Int32) → Prop} (hS : S ≤ 24) (hR : R ≤ 6) : ∀ m i : Nat, i + m = 24 → K (nI (lg_ (pm_ S R numbers) m i)) errors (mA_ numbers marks (lg_ (pm_ S R numbers) m i)) →
    wpX8_markAll_L35 (m + 1) y1 (nI i) bits (nI S) errors (nI R) numbers (mA_ numbers marks i) K := by
  intro m
  induction m with
  | zero =>
    intro i h hk
    rw [wpX8_markAll_L35]
    exact br_t (nI_le (by omega) (by omega)) hk
  | succ m ih =>
    intro i h hk
    rw [lg_] at hk
    rw [wpX8_markAll_L35]
    by_cases h1 : S ≤ i
    · have hp : pm_ S R numbers i = true := by
        rcases hq : pm_ S R numbers i with _ | _
        · have := pm_f.mp hq; omega
        · rfl
      rw [if_pos hp] at hk
      exact br_t (nI_le h1 (by omega)) hk
    · refine br_f (nI_ge (by omega) (by omega)) ?_
      by_cases h2 : R ≤ i
      · have hp : pm_ S R numbers i = true := by
          rcases hq : pm_ S R numbers i with _ | _
          · have := pm_f.mp hq; omega
          · rfl
        rw [if_pos hp] at hk
        exact br_t (nI_le h2 (by omega)) hk
      · refine br_f (nI_ge (by omega) (by omega)) ⟨vp_in_nI (by omega) (by decide), ?_⟩
        rw [i_cl (show i < 2147483648 by omega)]
        rcases in_dec (numbers i) 9999 (by decide) with hx | ⟨v, hv, ev⟩
        · have hp : pm_ S R numbers i = true := by
            rcases hq : pm_ S R numbers i with _ | _
            · exact absurd (pm_f.mp hq).2.2 hx
            · rfl
          rw [if_pos hp] at hk
          exact w8_f (n := 9999) (by decide) hx (br_t rfl hk)
        · have hp : ¬ pm_ S R numbers i = true := by
            rw [pm_f.mpr ⟨by omega, by omega, by rw [ev]; exact in_mk (n := 9999) hv (by decide)⟩]
            decide
          rw [if_neg hp] at hk
          have hh := ih (i + 1) (by omega) hk
          rw [← mA_s] at hh
          rw [ev] at hh ⊢
          refine w8_t (n := 9999) hv (by decide) (br_f (by decide) ⟨vp_in_nI (by omega) (by decide), vp_in_nI (by omega) (by decide), ?_⟩)
          rw [nI_1]
          exact hh
theorem r_mkl {S R sh : Nat} {number s errors bits sizes : Nat → Int32} {y2 : Int32} {K : Int32 → (Nat → Int32) → (Nat → Int32) → Prop} (hsh : sh < 4) (hS : S ≤ 24) (eS : sizes sh = nI S) (hR : R ≤ 6) (e7 : s 7 = nI R) : ∀ m i : Nat, i + m = 24 → K (nI (lg_ (pm_ S R (fun q => number (24 * sh + q))) m i)) errors (sA_ (fun q => number (24 * sh + q)) s (lg_ (pm_ S R (fun q => number (24 * sh + q))) m i)) →
    wpX9_markAll_L18 (m + 1) (nI sh) y2 (nI i) bits errors sizes (sA_ (fun q => number (24 * sh + q)) s i) number K := by
  intro m
  induction m with
  | zero =>
    intro i h hk
    rw [wpX9_markAll_L18]
    refine ⟨vp_in_nI hsh (by decide), ?_⟩
    rw [i_cl (show sh < 2147483648 by omega), eS]
    exact br_t (nI_le (by omega) (by omega)) hk
  | succ m ih =>
    intro i h hk
    rw [lg_] at hk
    have e1 : (24 * nI sh + nI i : Int32) = nI (24 * sh + i) := by rw [show (24 : Int32) = nI 24 from rfl, pk_mul, nI_add]
    rw [wpX9_markAll_L18]
    dsimp only
    rw [e1, c_7, i_cl (show sh < 2147483648 by omega), i_cl (show 24 * sh + i < 2147483648 by omega), eS, sA_o _ s (show ¬ (16 ≤ 7 ∧ (7 - 16) % 3 = 0 ∧ 7 < 16 + 3 * i) by omega), e7]
    refine ⟨vp_in_nI hsh (by decide), ?_⟩
    by_cases h1 : S ≤ i
    · have hp : pm_ S R (fun q => number (24 * sh + q)) i = true := by
        rcases hq : pm_ S R (fun q => number (24 * sh + q)) i with _ | _
        · have := pm_f.mp hq; omega
        · rfl
      rw [if_pos hp] at hk
      exact br_t (nI_le h1 (by omega)) hk
    · refine br_f (nI_ge (by omega) (by omega)) ⟨vp_in_iff.mpr (by decide), ?_⟩
      by_cases h2 : R ≤ i
      · have hp : pm_ S R (fun q => number (24 * sh + q)) i = true := by
          rcases hq : pm_ S R (fun q => number (24 * sh + q)) i with _ | _
          · have := pm_f.mp hq; omega
          · rfl
        rw [if_pos hp] at hk
        exact br_t (nI_le h2 (by omega)) hk
      · refine br_f (nI_ge (by omega) (by omega)) ⟨vp_in_nI (by omega) (by decide), ?_⟩
        rcases in_dec (number (24 * sh + i)) 9999 (by decide) with hx | ⟨v, hv, ev⟩
        · have hp : pm_ S R (fun q => number (24 * sh + q)) i = true := by
            rcases hq : pm_ S R (fun q => number (24 * sh + q)) i with _ | _
            · exact absurd (pm_f.mp hq).2.2 hx
            · rfl
          rw [if_pos hp] at hk
          exact w9_f (n := 9999) (by decide) hx (br_t rfl hk)
        · have hp : ¬ pm_ S R (fun q => number (24 * sh + q)) i = true := by
            rw [pm_f.mpr ⟨by omega, by omega, by show in_ (number (24 * sh + i)) 9999; rw [ev]; exact in_mk (n := 9999) hv (by decide)⟩]
            decide
          rw [if_neg hp] at hk
          have hh := ih (i + 1) (by omega) hk
          rw [← sA_s] at hh
          try dsimp only at hh
          rw [ev] at hh ⊢
          refine w9_t (n := 9999) hv (by decide) (br_f (by decide) ⟨vp_in_nI (by omega) (by decide), lays9 (k := 2) (by omega) (by decide) ?_⟩)
          rw [nI_1, show 14 + 2 + 3 * i = 16 + 3 * i by omega]
          exact hh
theorem lg_c {p q : Nat → Bool} : ∀ m k, (∀ i, k ≤ i → i < k + m → p i = q i) → lg_ p m k = lg_ q m k := by
  intro m
  induction m with
  | zero => intro k _; rfl
  | succ m ih =>
    intro k h
    rw [lg_, lg_, h k (by omega) (by omega), ih (k + 1) (fun i h1 h2 => h i (by omega) (by omega))]
/-- judging -/
def pj_ (S R : Nat) (f g : Nat → Int32) (i : Nat) : Bool := !(decide (i < S) && decide (i < R) && decide (f i = g i))
theorem pj_f {S R : Nat} {f g : Nat → Int32} {i : Nat} : pj_ S R f g i = false ↔ i < S ∧ i < R ∧ f i = g i := by
  unfold pj_
  simp [and_assoc]
theorem pj_t {S R : Nat} {f g : Nat → Int32} {i : Nat} (h : ¬ (i < S ∧ i < R ∧ f i = g i)) : pj_ S R f g i = true := by
  rcases hq : pj_ S R f g i with _ | _
  · exact absurd (pj_f.mp hq) h
  · rfl
theorem c_jul {S R : Nat} {numbers marks errors : Nat → Int32} {y1 bits : Int32} {K : Int32 → (Nat → Int32) → Prop} (hS : S ≤ 24) (hR : R ≤ 6) : ∀ m i : Nat, i + m = 24 → K (nI (lg_ (pj_ S R numbers marks) m i)) errors →
    wpX8_judge_L35 (m + 1) y1 (nI i) bits (nI S) errors (nI R) numbers marks K := by
  intro m
  induction m with
  | zero =>
    intro i h hk
    rw [wpX8_judge_L35]
    exact br_t (nI_le (by omega) (by omega)) hk
  | succ m ih =>
    intro i h hk
    rw [lg_] at hk
    rw [wpX8_judge_L35]
    by_cases h1 : S ≤ i
    · rw [if_pos (pj_t (by omega))] at hk
      exact br_t (nI_le h1 (by omega)) hk
    · refine br_f (nI_ge (by omega) (by omega)) ?_
      by_cases h2 : R ≤ i
      · rw [if_pos (pj_t (by omega))] at hk
        exact br_t (nI_le h2 (by omega)) hk
      · refine br_f (nI_ge (by omega) (by omega)) ⟨vp_in_nI (by omega) (by decide), vp_in_nI (by omega) (by decide), ?_⟩
        rw [i_cl (show i < 2147483648 by omega)]
        refine ⟨fun q => ?_, fun q => ?_⟩
        · rw [pj_f.mpr ⟨by omega, by omega, q⟩, if_neg (by decide)] at hk
          rw [nI_1]
          exact ih (i + 1) (by omega) hk
        · rw [if_pos (pj_t (fun z => q z.2.2))] at hk
          exact hk
theorem r_jul {S R sh : Nat} {number s errors bits sizes : Nat → Int32} {y2 : Int32} {K : Int32 → (Nat → Int32) → Prop} (hsh : sh < 4) (hS : S ≤ 24) (eS : sizes sh = nI S) (hR : R ≤ 6) (e7 : s 7 = nI R) : ∀ m i : Nat, i + m = 24 → K (nI (lg_ (pj_ S R (fun q => number (24 * sh + q)) (fun q => s (16 + 3 * q))) m i)) errors →
    wpX9_judge_L18 (m + 1) (nI sh) y2 (nI i) bits errors sizes s number K := by
  intro m
  induction m with
  | zero =>
    intro i h hk
    rw [wpX9_judge_L18]
    refine ⟨vp_in_nI hsh (by decide), ?_⟩
    rw [i_cl (show sh < 2147483648 by omega), eS]
    exact br_t (nI_le (by omega) (by omega)) hk
  | succ m ih =>
    intro i h hk
    rw [lg_] at hk
    have e1 : (24 * nI sh + nI i : Int32) = nI (24 * sh + i) := by rw [show (24 : Int32) = nI 24 from rfl, pk_mul, nI_add]
    rw [wpX9_judge_L18]
    dsimp only
    rw [e1, c_7, i_cl (show sh < 2147483648 by omega), i_cl (show 24 * sh + i < 2147483648 by omega), eS, e7]
    refine ⟨vp_in_nI hsh (by decide), ?_⟩
    by_cases h1 : S ≤ i
    · rw [if_pos (pj_t (by omega))] at hk
      exact br_t (nI_le h1 (by omega)) hk
    · refine br_f (nI_ge (by omega) (by omega)) ⟨vp_in_iff.mpr (by decide), ?_⟩
      by_cases h2 : R ≤ i
      · rw [if_pos (pj_t (by omega))] at hk
        exact br_t (nI_le h2 (by omega)) hk
      · refine br_f (nI_ge (by omega) (by omega)) ⟨vp_in_nI (by omega) (by decide), its9 (k := 2) (by omega) (by decide) ?_⟩
        rw [show 14 + 2 + 3 * i = 16 + 3 * i by omega]
        refine ⟨fun q => ?_, fun q => ?_⟩
        · rw [pj_f.mpr ⟨by omega, by omega, q⟩, if_neg (by decide)] at hk
          rw [nI_1]
          exact ih (i + 1) (by omega) hk
        · rw [if_pos (pj_t (fun z => q z.2.2))] at hk
          exact hk
set_option maxRecDepth 20000 in
theorem pf_markAll {c d : Nat → Int32} {A B : Nat → Nat → Int32} {nm : Nat} {k : Nat} {bits size : Int32} {numbers : Nat → Int32} (hk : k < 4) (hs : rs k bits size numbers (B 11) (B 12) (B 13)) (hR : rl c A d B nm) : wpX8_markAll (nI k) bits size (A 36) (c 1) numbers (A 5) (fun r8 u0 u1 => wpX9_markAll (nI k) (B 11) (B 3) (B 12) (B 0) (B 13) (fun r9 w0 w1 => r8 = r9 ∧ rl c (va_up (va_up A 36 u0) 5 u1) d (va_up (va_up B 3 w0) 0 w1) nm)) := by
  obtain ⟨hw, hi, ht0, ht1, hm0, hm1, him, her, hv, hs0, hs1, hs2, hs3, hnm⟩ := id hR
  obtain ⟨hb1, hb2, hb3, hb4, hb5⟩ := hs
  obtain ⟨S, hS, eS⟩ := in_nI (n := 24) hb4
  obtain ⟨R, hR6, e7⟩ := in_nI (n := 6) hi.2.2.2.2.2.2.1
  have hsz : B 12 k = nI S := hb2.symm.trans eS
  have ec1 : c 1 = nI R := hw.2.2.2.1.trans e7
  unfold wpX8_markAll wpX9_markAll wpX8_isSheet wpX9_lacks wpX9_isSheet wpX3_isMissing
  refine w8_t (n := 3) (by omega) (by decide) ⟨rfl, br_f (by decide) ⟨vp_in_nI hk (by decide), ?_⟩⟩
  by_cases hz : bits = 0
  · refine br_t hz (br_f (by decide) (e8 (k := 2) (by decide) ?_))
    refine w9_t (n := 3) (by omega) (by decide) ⟨rfl, br_f (by decide) ⟨vp_in_nI hk (by decide), br_t (by rw [i_cl (show k < 2147483648 by omega), ← hb1]; exact hz) (br_f (by decide) (e9 (k := 2) (by decide) ?_))⟩⟩
    exact ⟨rfl, hw, hi, ht0, ht1, hm0, hm1, him, er_up her (k := 2) (by decide), hv, hs0, hs1, hs2, hs3, hnm⟩
  have hzb : ¬ B 11 (nI k).toNatClampNeg = 0 := by rw [i_cl (show k < 2147483648 by omega), ← hb1]; exact hz
  refine br_f hz (br_t rfl ?_)
  rw [eS, ec1]
  refine ⟨25, ?_⟩
  rw [← mA_0 numbers (A 5)]
  refine c_mkl hS hR6 24 0 rfl ?_
  have el : lg_ (pm_ S R numbers) 24 0 = lg_ (pm_ S R (fun q => B 13 (24 * k + q))) 24 0 := lg_c 24 0 (fun i _ h2 => by unfold pm_; rw [hb5 i (by omega)])
  refine w9_t (n := 3) (by omega) (by decide) ⟨rfl, br_f (by decide) ⟨vp_in_nI hk (by decide), br_f hzb (br_t rfl ⟨25, ?_⟩)⟩⟩
  rw [← sA_0 (fun q => B 13 (24 * k + q)) (B 0)]
  refine r_mkl hk hS hsz hR6 e7 24 0 rfl ?_
  rw [← el]
  have hb : ∀ i, i < lg_ (pm_ S R numbers) 24 0 → i < S ∧ i < R ∧ in_ (numbers i) 9999 := fun i h => pm_f.mp (lg_b _ 24 0 i (by omega) h)
  generalize lg_ (pm_ S R numbers) 24 0 = T at hb ⊢
  have hT : T ≤ 6 := by
    rcases Nat.lt_or_ge 6 T with h | h
    · have := hb 6 (by omega); omega
    · exact h
  have o : ∀ i, ¬ (16 ≤ i ∧ (i - 16) % 3 = 0 ∧ i < 16 + 3 * T) → sA_ (fun q => B 13 (24 * k + q)) (B 0) T i = B 0 i := fun i h => sA_o _ _ h
  obtain ⟨e1, e2, e3, e4, e5, e6, ej0, ej1, hev, hkk, hmm, hmk, htp, htf, hwt⟩ := id hw
  obtain ⟨i0, i1, i2, i3, i5, i6, i7, ie, ik, im, is⟩ := id hi
  have o2 : ∀ i, ¬ (16 ≤ i ∧ (i - 16) % 3 = 0 ∧ i < 16 + 3 * T) → va_up (va_up B 3 (B 3)) 0 (sA_ (fun q => B 13 (24 * k + q)) (B 0) T) 0 i = B 0 i := fun i h => o i h
  refine ⟨rfl, ⟨by rw [o2 _ (by omega)]; exact e1, by rw [o2 _ (by omega)]; exact e2, by rw [o2 _ (by omega)]; exact e3, by rw [o2 _ (by omega)]; exact e4, by rw [o2 _ (by omega)]; exact e5, by rw [o2 _ (by omega)]; exact e6, by rw [o2 _ (by omega)]; exact ej0, by rw [o2 _ (by omega)]; exact ej1,
    fun i h => by rw [o2 _ (by omega)]; exact hev i h, fun i h => by rw [o2 _ (by omega)]; exact hkk i h, fun i h => by rw [o2 _ (by omega)]; exact hmm i h, fun i h => ?_, fun i h => by rw [o2 _ (by omega)]; exact htp i h, htf, fun i h => by rw [o2 _ (by omega)]; exact hwt i h⟩,
    ⟨by rw [o2 _ (by omega)]; exact i0, by rw [o2 _ (by omega)]; exact i1, by rw [o2 _ (by omega)]; exact i2, by rw [o2 _ (by omega)]; exact i3, by rw [o2 _ (by omega)]; exact i5, by rw [o2 _ (by omega)]; exact i6, by rw [o2 _ (by omega)]; exact i7,
    fun i h => by rw [o2 _ (by omega)]; exact ie i h, fun i h => by rw [o2 _ (by omega)]; exact ik i h, fun i h => by rw [o2 _ (by omega)]; exact im i h, fun i h => ?_⟩,
    rt_congr (by decide) ht0 (fun i h1 h2 => o i (by omega)), rt_congr (by decide) ht1 (fun i h1 h2 => o i (by omega)), hm0, hm1, him, her, hv, hs0, hs1, hs2, hs3, hnm⟩
  · show mA_ numbers (A 5) T i = sA_ (fun q => B 13 (24 * k + q)) (B 0) T (16 + 3 * i)
    unfold mA_
    by_cases hiT : i < T
    · rw [if_pos hiT, sA_i _ _ hiT]; exact hb5 i (by omega)
    · rw [if_neg hiT, o _ (by omega)]; exact hmk i h
  · show in_ (sA_ (fun q => B 13 (24 * k + q)) (B 0) T (16 + 3 * i)) 9999
    by_cases hiT : i < T
    · rw [sA_i _ _ hiT]
      show in_ (B 13 (24 * k + i)) 9999
      rw [← hb5 i (by omega)]
      exact (hb i hiT).2.2
    · rw [o _ (by omega)]; exact is i h
set_option maxRecDepth 20000 in
theorem pf_markAll_o {c d : Nat → Int32} {A B : Nat → Nat → Int32} {nm : Nat} {x1 : Int32} {bits size : Int32} {numbers : Nat → Int32} (hx1 : ¬ vp_in x1 4) (hR : rl c A d B nm) : wpX8_markAll x1 bits size (A 36) (c 1) numbers (A 5) (fun r8 u0 u1 => wpX9_markAll x1 (B 11) (B 3) (B 12) (B 0) (B 13) (fun r9 w0 w1 => r8 = r9 ∧ rl c (va_up (va_up A 36 u0) 5 u1) d (va_up (va_up B 3 w0) 0 w1) nm)) := by
  obtain ⟨hw, hi, ht0, ht1, hm0, hm1, him, her, hv, hs0, hs1, hs2, hs3, hnm⟩ := id hR
  have hx : ¬ in_ x1 (3 : Nat) := fun q => hx1 (vp_in_iff.mpr (by unfold in_ at q; omega))
  unfold wpX8_markAll wpX8_isSheet
  refine w8_f (n := 3) (by decide) hx ⟨rfl, br_t rfl (e8 (k := 1) (by decide) ?_)⟩
  unfold wpX9_markAll wpX9_lacks wpX9_isSheet
  refine w9_f (n := 3) (by decide) hx ⟨rfl, br_t rfl (br_f (by decide) (e9 (k := 1) (by decide) ?_))⟩
  exact ⟨rfl, hw, hi, ht0, ht1, hm0, hm1, him, er_up her (k := 1) (by decide), hv, hs0, hs1, hs2, hs3, hnm⟩
theorem pc_markAll_0 {c d : Nat → Int32} {A B : Nat → Nat → Int32} {nm : Nat} {x1 : Int32} (hR : rl c A d B nm) (hx1 : x1 = 0) : wpX8_markAll x1 (c 42) (c 43) (A 36) (c 1) (A 37) (A 5) (fun r8 u0 u1 => wpX9_markAll x1 (B 11) (B 3) (B 12) (B 0) (B 13) (fun r9 w0 w1 => r8 = r9 ∧ rl c (va_up (va_up A 36 u0) 5 u1) d (va_up (va_up B 3 w0) 0 w1) nm)) := by
  subst hx1
  exact pf_markAll (k := 0) (by decide) hR.2.2.2.2.2.2.2.2.2.1 hR
theorem pc_markAll_1 {c d : Nat → Int32} {A B : Nat → Nat → Int32} {nm : Nat} {x1 : Int32} (hR : rl c A d B nm) (hx1 : x1 = 1) : wpX8_markAll x1 (c 44) (c 45) (A 36) (c 1) (A 38) (A 5) (fun r8 u0 u1 => wpX9_markAll x1 (B 11) (B 3) (B 12) (B 0) (B 13) (fun r9 w0 w1 => r8 = r9 ∧ rl c (va_up (va_up A 36 u0) 5 u1) d (va_up (va_up B 3 w0) 0 w1) nm)) := by
  subst hx1
  exact pf_markAll (k := 1) (by decide) hR.2.2.2.2.2.2.2.2.2.2.1 hR
theorem pc_markAll_2 {c d : Nat → Int32} {A B : Nat → Nat → Int32} {nm : Nat} {x1 : Int32} (hR : rl c A d B nm) (hx1 : x1 = 2) : wpX8_markAll x1 (c 46) (c 47) (A 36) (c 1) (A 39) (A 5) (fun r8 u0 u1 => wpX9_markAll x1 (B 11) (B 3) (B 12) (B 0) (B 13) (fun r9 w0 w1 => r8 = r9 ∧ rl c (va_up (va_up A 36 u0) 5 u1) d (va_up (va_up B 3 w0) 0 w1) nm)) := by
  subst hx1
  exact pf_markAll (k := 2) (by decide) hR.2.2.2.2.2.2.2.2.2.2.2.1 hR
theorem pc_markAll_3 {c d : Nat → Int32} {A B : Nat → Nat → Int32} {nm : Nat} {x1 : Int32} (hR : rl c A d B nm) (hx1 : x1 = 3) : wpX8_markAll x1 (c 48) (c 49) (A 36) (c 1) (A 40) (A 5) (fun r8 u0 u1 => wpX9_markAll x1 (B 11) (B 3) (B 12) (B 0) (B 13) (fun r9 w0 w1 => r8 = r9 ∧ rl c (va_up (va_up A 36 u0) 5 u1) d (va_up (va_up B 3 w0) 0 w1) nm)) := by
  subst hx1
  exact pf_markAll (k := 3) (by decide) hR.2.2.2.2.2.2.2.2.2.2.2.2.1 hR
theorem pc_markAll_o {c d : Nat → Int32} {A B : Nat → Nat → Int32} {nm : Nat} {x1 : Int32} (hR : rl c A d B nm) (hx1 : ¬ vp_in x1 4) : wpX8_markAll x1 (c 42) (c 43) (A 36) (c 1) (A 37) (A 5) (fun r8 u0 u1 => wpX9_markAll x1 (B 11) (B 3) (B 12) (B 0) (B 13) (fun r9 w0 w1 => r8 = r9 ∧ rl c (va_up (va_up A 36 u0) 5 u1) d (va_up (va_up B 3 w0) 0 w1) nm)) := pf_markAll_o hx1 hR
set_option maxRecDepth 20000 in
theorem pf_judge {c d : Nat → Int32} {A B : Nat → Nat → Int32} {nm : Nat} {k : Nat} {bits size : Int32} {numbers : Nat → Int32} (hk : k < 4) (hs : rs k bits size numbers (B 11) (B 12) (B 13)) (hR : rl c A d B nm) : wpX8_judge (nI k) bits size (A 36) (c 1) numbers (A 5) (fun r8 u0 => wpX9_judge (nI k) (B 11) (B 3) (B 12) (B 0) (B 13) (fun r9 w0 => r8 = r9 ∧ rl c (va_up A 36 u0) d (va_up B 3 w0) nm)) := by
  obtain ⟨hw, hi, ht0, ht1, hm0, hm1, him, her, hv, hs0, hs1, hs2, hs3, hnm⟩ := id hR
  obtain ⟨hb1, hb2, hb3, hb4, hb5⟩ := hs
  obtain ⟨S, hS, eS⟩ := in_nI (n := 24) hb4
  obtain ⟨R, hR6, e7⟩ := in_nI (n := 6) hi.2.2.2.2.2.2.1
  have hsz : B 12 k = nI S := hb2.symm.trans eS
  have ec1 : c 1 = nI R := hw.2.2.2.1.trans e7
  unfold wpX8_judge wpX9_judge wpX8_isSheet wpX9_lacks wpX9_isSheet wpX3_isMissing
  refine w8_t (n := 3) (by omega) (by decide) ⟨rfl, br_f (by decide) ⟨vp_in_nI hk (by decide), ?_⟩⟩
  by_cases hz : bits = 0
  · refine br_t hz (br_f (by decide) (e8 (k := 2) (by decide) ?_))
    refine w9_t (n := 3) (by omega) (by decide) ⟨rfl, br_f (by decide) ⟨vp_in_nI hk (by decide), br_t (by rw [i_cl (show k < 2147483648 by omega), ← hb1]; exact hz) (br_f (by decide) (e9 (k := 2) (by decide) ?_))⟩⟩
    exact ⟨rfl, hw, hi, ht0, ht1, hm0, hm1, him, er_up her (k := 2) (by decide), hv, hs0, hs1, hs2, hs3, hnm⟩
  have hzb : ¬ B 11 (nI k).toNatClampNeg = 0 := by rw [i_cl (show k < 2147483648 by omega), ← hb1]; exact hz
  refine br_f hz (br_t rfl ?_)
  rw [eS, ec1]
  refine ⟨25, c_jul hS hR6 24 0 rfl ?_⟩
  have el : lg_ (pj_ S R numbers (A 5)) 24 0 = lg_ (pj_ S R (fun q => B 13 (24 * k + q)) (fun q => B 0 (16 + 3 * q))) 24 0 := lg_c 24 0 (fun i _ h2 => by
    unfold pj_
    rw [hb5 i (by omega)]
    by_cases h6 : i < R
    · rw [hw.2.2.2.2.2.2.2.2.2.2.2.1 i (by omega)]
    · simp [h6])
  rw [el]
  refine w9_t (n := 3) (by omega) (by decide) ⟨rfl, br_f (by decide) ⟨vp_in_nI hk (by decide), br_f hzb (br_t rfl ⟨25, r_jul hk hS hsz hR6 e7 24 0 rfl ?_⟩)⟩⟩
  exact ⟨rfl, hw, hi, ht0, ht1, hm0, hm1, him, her, hv, hs0, hs1, hs2, hs3, hnm⟩
set_option maxRecDepth 20000 in
theorem pf_judge_o {c d : Nat → Int32} {A B : Nat → Nat → Int32} {nm : Nat} {x1 : Int32} {bits size : Int32} {numbers : Nat → Int32} (hx1 : ¬ vp_in x1 4) (hR : rl c A d B nm) : wpX8_judge x1 bits size (A 36) (c 1) numbers (A 5) (fun r8 u0 => wpX9_judge x1 (B 11) (B 3) (B 12) (B 0) (B 13) (fun r9 w0 => r8 = r9 ∧ rl c (va_up A 36 u0) d (va_up B 3 w0) nm)) := by
  obtain ⟨hw, hi, ht0, ht1, hm0, hm1, him, her, hv, hs0, hs1, hs2, hs3, hnm⟩ := id hR
  have hx : ¬ in_ x1 (3 : Nat) := fun q => hx1 (vp_in_iff.mpr (by unfold in_ at q; omega))
  unfold wpX8_judge wpX8_isSheet
  refine w8_f (n := 3) (by decide) hx ⟨rfl, br_t rfl (e8 (k := 1) (by decide) ?_)⟩
  unfold wpX9_judge wpX9_lacks wpX9_isSheet
  refine w9_f (n := 3) (by decide) hx ⟨rfl, br_t rfl (br_f (by decide) (e9 (k := 1) (by decide) ?_))⟩
  exact ⟨rfl, hw, hi, ht0, ht1, hm0, hm1, him, er_up her (k := 1) (by decide), hv, hs0, hs1, hs2, hs3, hnm⟩
theorem pc_judge_0 {c d : Nat → Int32} {A B : Nat → Nat → Int32} {nm : Nat} {x1 : Int32} (hR : rl c A d B nm) (hx1 : x1 = 0) : wpX8_judge x1 (c 42) (c 43) (A 36) (c 1) (A 37) (A 5) (fun r8 u0 => wpX9_judge x1 (B 11) (B 3) (B 12) (B 0) (B 13) (fun r9 w0 => r8 = r9 ∧ rl c (va_up A 36 u0) d (va_up B 3 w0) nm)) := by
  subst hx1
  exact pf_judge (k := 0) (by decide) hR.2.2.2.2.2.2.2.2.2.1 hR
theorem pc_judge_1 {c d : Nat → Int32} {A B : Nat → Nat → Int32} {nm : Nat} {x1 : Int32} (hR : rl c A d B nm) (hx1 : x1 = 1) : wpX8_judge x1 (c 44) (c 45) (A 36) (c 1) (A 38) (A 5) (fun r8 u0 => wpX9_judge x1 (B 11) (B 3) (B 12) (B 0) (B 13) (fun r9 w0 => r8 = r9 ∧ rl c (va_up A 36 u0) d (va_up B 3 w0) nm)) := by
  subst hx1
  exact pf_judge (k := 1) (by decide) hR.2.2.2.2.2.2.2.2.2.2.1 hR
theorem pc_judge_2 {c d : Nat → Int32} {A B : Nat → Nat → Int32} {nm : Nat} {x1 : Int32} (hR : rl c A d B nm) (hx1 : x1 = 2) : wpX8_judge x1 (c 46) (c 47) (A 36) (c 1) (A 39) (A 5) (fun r8 u0 => wpX9_judge x1 (B 11) (B 3) (B 12) (B 0) (B 13) (fun r9 w0 => r8 = r9 ∧ rl c (va_up A 36 u0) d (va_up B 3 w0) nm)) := by
  subst hx1
  exact pf_judge (k := 2) (by decide) hR.2.2.2.2.2.2.2.2.2.2.2.1 hR
theorem pc_judge_3 {c d : Nat → Int32} {A B : Nat → Nat → Int32} {nm : Nat} {x1 : Int32} (hR : rl c A d B nm) (hx1 : x1 = 3) : wpX8_judge x1 (c 48) (c 49) (A 36) (c 1) (A 40) (A 5) (fun r8 u0 => wpX9_judge x1 (B 11) (B 3) (B 12) (B 0) (B 13) (fun r9 w0 => r8 = r9 ∧ rl c (va_up A 36 u0) d (va_up B 3 w0) nm)) := by
  subst hx1
  exact pf_judge (k := 3) (by decide) hR.2.2.2.2.2.2.2.2.2.2.2.2.1 hR
theorem pc_judge_o {c d : Nat → Int32} {A B : Nat → Nat → Int32} {nm : Nat} {x1 : Int32} (hR : rl c A d B nm) (hx1 : ¬ vp_in x1 4) : wpX8_judge x1 (c 42) (c 43) (A 36) (c 1) (A 37) (A 5) (fun r8 u0 => wpX9_judge x1 (B 11) (B 3) (B 12) (B 0) (B 13) (fun r9 w0 => r8 = r9 ∧ rl c (va_up A 36 u0) d (va_up B 3 w0) nm)) := pf_judge_o hx1 hR

/-! sheets that are written -/
theorem na_a {X : Nat} (h5 : X < 4294967296) : (if 2 * (X * 16777216 % 4294967296) < 4294967296 then ((X * 16777216 % 4294967296 : Nat) : Int) else ((X * 16777216 % 4294967296 : Nat) : Int) - ((4294967296 : Nat) : Int)) / ((16777216 : Nat) : Int) = (if 2 * X < 4294967296 then (X : Int) else (X : Int) - ((4294967296 : Nat) : Int)) % ((256 : Nat) : Int) - ((if (if 2 * X < 4294967296 then (X : Int) else (X : Int) - ((4294967296 : Nat) : Int)) % ((256 : Nat) : Int) ≥ (((256 : Nat) : Int) + 1) / 2 then 256 else 0 : Nat) : Int) := by
  by_cases h1 : 2 * (X * 16777216 % 4294967296) < 4294967296 <;> by_cases h2 : 2 * X < 4294967296 <;> (first | rw [if_pos h1] | rw [if_neg h1]) <;> (first | rw [if_pos h2] | rw [if_neg h2]) <;> split <;> omega
theorem na_b {X : Nat} (h5 : X < 4294967296) : (if 2 * (X * 65536 % 4294967296) < 4294967296 then ((X * 65536 % 4294967296 : Nat) : Int) else ((X * 65536 % 4294967296 : Nat) : Int) - ((4294967296 : Nat) : Int)) / ((65536 : Nat) : Int) = (if 2 * X < 4294967296 then (X : Int) else (X : Int) - ((4294967296 : Nat) : Int)) % ((65536 : Nat) : Int) - ((if (if 2 * X < 4294967296 then (X : Int) else (X : Int) - ((4294967296 : Nat) : Int)) % ((65536 : Nat) : Int) ≥ (((65536 : Nat) : Int) + 1) / 2 then 65536 else 0 : Nat) : Int) := by
  by_cases h1 : 2 * (X * 65536 % 4294967296) < 4294967296 <;> by_cases h2 : 2 * X < 4294967296 <;> (first | rw [if_pos h1] | rw [if_neg h1]) <;> (first | rw [if_pos h2] | rw [if_neg h2]) <;> split <;> omega
theorem na_k {x s : Int32} {k w : Nat} (hs : (s.toBitVec.smod 32).toNat = k) (hk : k = 24 ∧ w = 8 ∨ k = 16 ∧ w = 16) : ((x <<< s) >>> s).toInt = x.toInt.bmod (2 ^ w) := by
  rw [pk_shr (x <<< s) s k hs]
  have h2 := pk_shl x s k hs
  have h3 : (x <<< s).toInt = if 2 * (x <<< s).toBitVec.toNat < 2 ^ 32 then ((x <<< s).toBitVec.toNat : Int) else ((x <<< s).toBitVec.toNat : Int) - ((2 ^ 32 : Nat) : Int) := BitVec.toInt_eq_toNat_cond _
  have h4 : x.toInt = if 2 * x.toBitVec.toNat < 2 ^ 32 then (x.toBitVec.toNat : Int) else (x.toBitVec.toNat : Int) - ((2 ^ 32 : Nat) : Int) := BitVec.toInt_eq_toNat_cond _
  have h5 : x.toBitVec.toNat < 2 ^ 32 := x.toBitVec.isLt
  rw [h2] at h3
  rw [h3, h4, Int.shiftRight_eq_div_pow, Int.bmod_eq_emod]
  clear h2 h3 h4
  generalize x.toBitVec.toNat = X at h5 ⊢
  rcases hk with ⟨rfl, rfl⟩ | ⟨rfl, rfl⟩
  · simp only [Nat.reducePow] at h5 ⊢
    exact na_a h5
  · simp only [Nat.reducePow] at h5 ⊢
    exact na_b h5
theorem na_8 (x : Int32) : (x <<< ((32 - 8 : Int32) &&& 31)) >>> ((32 - 8 : Int32) &&& 31) = x.toInt8.toInt32 := by
  apply Int32.toInt_inj.mp
  rw [na_k (k := 24) (w := 8) (by decide) (Or.inl ⟨rfl, rfl⟩), Int8.toInt_toInt32, Int32.toInt_toInt8]
theorem na_16 (x : Int32) : (x <<< ((32 - 16 : Int32) &&& 31)) >>> ((32 - 16 : Int32) &&& 31) = x.toInt16.toInt32 := by
  apply Int32.toInt_inj.mp
  rw [na_k (k := 16) (w := 16) (by decide) (Or.inr ⟨rfl, rfl⟩), Int16.toInt_toInt32, Int32.toInt_toInt16]
theorem na_32 (x : Int32) : (x <<< ((32 - 32 : Int32) &&& 31)) >>> ((32 - 32 : Int32) &&& 31) = x := by
  have h2 := pk_shl x ((32 - 32 : Int32) &&& 31) 0 (by decide)
  have h5 : x.toBitVec.toNat < 2 ^ 32 := x.toBitVec.isLt
  have e : x <<< ((32 - 32 : Int32) &&& 31) = x := by
    apply Int32.toBitVec_inj.mp
    apply BitVec.eq_of_toNat_eq
    rw [h2]
    omega
  rw [e]
  apply Int32.toInt_inj.mp
  rw [pk_shr x ((32 - 32 : Int32) &&& 31) 0 (by decide)]
  exact Int.shiftRight_zero _
theorem rs_o {k : Nat} {bits size : Int32} {numbers b s n b' s' n' : Nat → Int32} (h : rs k bits size numbers b s n) (hb : b' k = b k) (hs : s' k = s k) (hn : ∀ i, i < 24 → n' (24 * k + i) = n (24 * k + i)) : rs k bits size numbers b' s' n' :=
  ⟨by rw [hb]; exact h.1, by rw [hs]; exact h.2.1, h.2.2.1, h.2.2.2.1, fun i hi => by rw [hn i hi]; exact h.2.2.2.2 i hi⟩
theorem i_24 (k i : Nat) : (24 * nI k + nI i : Int32) = nI (24 * k + i) := by rw [show (24 : Int32) = nI 24 from rfl, pk_mul, nI_add]
theorem pg_put {k : Nat} {x2 x3 bits size : Int32} {numbers er8 er9 b s n : Nat → Int32} {K : Int32 → (Nat → Int32) → (Nat → Int32) → Int32 → (Nat → Int32) → (Nat → Int32) → Prop} (hk : k < 4) (hs : rs k bits size numbers b s n)
    (hE : ∀ e, e < 7 → K (-1000000000 - nI e) (upd er8 e (er8 e + 1)) numbers (-1000000000 - nI e) n (upd er9 e (er9 e + 1)))
    (hO : ∀ numbers' n', rs k bits size numbers' b s n' → (∀ i, i < 24 * k ∨ 24 * k + 24 ≤ i → n' i = n i) → K 1 er8 numbers' 1 n' er9) :
    wpX8_put (nI k) x2 x3 bits size er8 numbers (fun r8 u0 u1 => wpX9_put (nI k) x2 x3 b s n er9 (fun r9 w0 w1 => K r8 u0 u1 r9 w0 w1)) := by
  obtain ⟨hb1, hb2, hb3, hb4, hb5⟩ := id hs
  obtain ⟨S, hS, eS⟩ := in_nI (n := 24) hb4
  have hsz : s k = nI S := hb2.symm.trans eS
  unfold wpX8_put wpX9_put wpX8_isSheet wpX9_isSheet wpX3_isMissing
  rw [i_cl (show k < 2147483648 by omega), hsz, eS]
  refine w8_t (n := 3) (by omega) (by decide) ⟨rfl, br_f (by decide) ⟨vp_in_nI hk (by decide), ?_⟩⟩
  by_cases hz : bits = 0
  · refine br_t hz (br_f (by decide) (e8 (k := 2) (by decide) ?_))
    refine w9_t (n := 3) (by omega) (by decide) ⟨rfl, br_f (by decide) ⟨vp_in_nI hk (by decide), br_t (by rw [← hb1]; exact hz) (e9 (k := 2) (by decide) (hE 2 (by decide)))⟩⟩
  have hzb : ¬ b k = 0 := by rw [← hb1]; exact hz
  refine br_f hz (br_t rfl ?_)
  have out : (x2 < 0 ∨ nI S ≤ x2) → wpX9_in x2 0 (nI S - 1) (fun r38 => ((r38 = 0 → wpX9_error 1 er9 (fun r46 u46_0 => K (-1000000000 - nI 1) (upd er8 1 (er8 1 + 1)) numbers r46 n u46_0)) ∧ (¬ r38 = 0 → vp_in (nI k) 4 ∧ vp_in ((24 * nI k) + x2) 96 ∧ K (-1000000000 - nI 1) (upd er8 1 (er8 1 + 1)) numbers 1 (upd n ((24 * nI k) + x2).toNatClampNeg ((x3 <<< ((32 - (b k)) &&& 31)) >>> ((32 - (b k)) &&& 31))) er9))) := by
    intro h
    have kk := (br_t (c := (0 : Int32) = 0) (B := vp_in (nI k) 4 ∧ vp_in ((24 * nI k) + x2) 96 ∧ K (-1000000000 - nI 1) (upd er8 1 (er8 1 + 1)) numbers 1 (upd n ((24 * nI k) + x2).toNatClampNeg ((x3 <<< ((32 - (b k)) &&& 31)) >>> ((32 - (b k)) &&& 31))) er9) rfl (e9 (k := 1) (er := er9) (K := fun r46 u46_0 => K (-1000000000 - nI 1) (upd er8 1 (er8 1 + 1)) numbers r46 n u46_0) (by decide) (hE 1 (by decide))))
    refine ⟨fun _ => kk, fun h1 => ⟨fun _ => kk, fun h2 => absurd ?_ h2⟩⟩
    rcases h with h | h
    · exact absurd h h1
    · have e1 : (1 : Int32).toInt = 1 := by decide
      have e2 := nI_toInt (show S < 2 ^ 31 by omega)
      rw [i_le, e2] at h
      rw [i_lt, i_sub (by omega) (by omega), e1, e2]
      omega
  have R9 : ∀ F : Int32 → Prop, wpX9_in x2 0 (nI S - 1) F → wpX9_in (nI k) 0 3 (fun r3 => narrow .boolean (.int r3) = .int r3 ∧ ((r3 = 0 → F 0) ∧ (¬ r3 = 0 → vp_in (nI k) 4 ∧ ((b k = 0 → F 0) ∧ (¬ b k = 0 → vp_in (nI k) 4 ∧ wpX9_in x2 0 (nI S - 1) F))))) := fun F hF => w9_t (n := 3) (by omega) (by decide) ⟨rfl, br_f (by decide) ⟨vp_in_nI hk (by decide), br_f hzb ⟨vp_in_nI hk (by decide), hF⟩⟩⟩
  rcases pk_ix x2 (show S < 2 ^ 31 by omega) with hx | hx | ⟨j, hj, rfl⟩
  · refine br_t hx (e8 (k := 1) (by decide) ?_)
    exact w9_t (n := 3) (by omega) (by decide) ⟨rfl, br_f (by decide) ⟨vp_in_nI hk (by decide), br_f hzb ⟨vp_in_nI hk (by decide), out (Or.inl hx)⟩⟩⟩
  · have h0 : ¬ x2 < 0 := by
      rw [i_lt, Int32.toInt_zero]
      rw [i_le, nI_toInt (by omega)] at hx
      omega
    have h1 : ¬ x2 < nI S := by
      rw [i_lt, nI_toInt (by omega)]
      rw [i_le, nI_toInt (by omega)] at hx
      omega
    refine br_f h0 (br_f h1 (e8 (k := 1) (by decide) ?_))
    exact w9_t (n := 3) (by omega) (by decide) ⟨rfl, br_f (by decide) ⟨vp_in_nI hk (by decide), br_f hzb ⟨vp_in_nI hk (by decide), out (Or.inr hx)⟩⟩⟩
  · refine br_f (nI_pos (by omega)) (br_t (nI_lt hj (by omega)) ?_)
    have fin : ∀ v : Int32, (x3 <<< ((32 - b k) &&& 31)) >>> ((32 - b k) &&& 31) = v → vp_in (nI j) 24 ∧ wpX9_in (nI k) 0 3 (fun r3 => narrow .boolean (.int r3) = .int r3 ∧ ((r3 = 0 → wpX9_error 1 er9 (fun r9 u9_0 => K 1 er8 (upd numbers (nI j).toNatClampNeg v) r9 n u9_0)) ∧ (¬ r3 = 0 → vp_in (nI k) 4 ∧ ((b k = 0 → wpX9_error 2 er9 (fun r24 u24_0 => K 1 er8 (upd numbers (nI j).toNatClampNeg v) r24 n u24_0)) ∧ (¬ b k = 0 → vp_in (nI k) 4 ∧ wpX9_in (nI j) 0 (nI S - 1) (fun r38 => ((r38 = 0 → wpX9_error 1 er9 (fun r46 u46_0 => K 1 er8 (upd numbers (nI j).toNatClampNeg v) r46 n u46_0)) ∧ (¬ r38 = 0 → vp_in (nI k) 4 ∧ vp_in ((24 * nI k) + nI j) 96 ∧ K 1 er8 (upd numbers (nI j).toNatClampNeg v) 1 (upd n ((24 * nI k) + nI j).toNatClampNeg ((x3 <<< ((32 - (b k)) &&& 31)) >>> ((32 - (b k)) &&& 31))) er9)))))))) := by
      intro v hv
      rw [hv, i_24, i_cl (show j < 2147483648 by omega), i_cl (show 24 * k + j < 2147483648 by omega)]
      obtain ⟨S', rfl⟩ : ∃ S', S = S' + 1 := ⟨S - 1, by omega⟩
      rw [nI_pred]
      refine ⟨vp_in_nI (by omega) (by decide), w9_t (n := 3) (by omega) (by decide) ⟨rfl, br_f (by decide) ⟨vp_in_nI hk (by decide), br_f hzb ⟨vp_in_nI hk (by decide), w9_t (by omega) (by omega) (br_f (by decide) ⟨vp_in_nI hk (by decide), vp_in_nI (by omega) (by decide), hO _ _ ⟨hb1, hb2, hb3, hb4, fun i hi => ?_⟩ (fun i hi => pk_un (by omega))⟩)⟩⟩⟩⟩
      by_cases e : i = j
      · subst e; rw [pk_us, pk_us]
      · rw [pk_un e, pk_un (by omega)]; exact hb5 i hi
    unfold wpX3_narrowed
    rcases hb3 with e | e | e | e
    · exact absurd e hz
    · exact br_t e (fin _ (by rw [← hb1, e]; exact na_8 x3))
    · exact br_f (by rw [e]; decide) (br_t e (fin _ (by rw [← hb1, e]; exact na_16 x3)))
    · exact br_f (by rw [e]; decide) (br_f (by rw [e]; decide) (fin _ (by rw [← hb1, e]; exact na_32 x3)))
/-! beginning a sheet -/
theorem sh_p {x2 x3 : Int32} {G E1 E3 : Prop} (h0 : x2 = 0 → G) (h3 : ¬ x2 = 0 → ¬ 0 ≤ x3 → E3) (h1 : ¬ x2 = 0 → 0 ≤ x3 → ¬ x3 ≤ 24 → E1) (hg : ¬ x2 = 0 → 0 ≤ x3 → x3 ≤ 24 → G) :
    (x2 = 0 → ((x2 = 0 → G) ∧ (¬ x2 = 0 → ((x3 ≤ 24 → G) ∧ (¬ x3 ≤ 24 → E1))))) ∧ (¬ x2 = 0 → ((0 ≤ x3 → ((x2 = 0 → G) ∧ (¬ x2 = 0 → ((x3 ≤ 24 → G) ∧ (¬ x3 ≤ 24 → E1))))) ∧ (¬ 0 ≤ x3 → E3))) :=
  ⟨fun z => ⟨h0, fun z2 => absurd z z2⟩, fun z => ⟨fun w => ⟨h0, fun z2 => ⟨hg z2 w, h1 z2 w⟩⟩, h3 z⟩⟩
theorem sh_q {x2 : Int32} {P E : Prop} (hb : ¬ (x2 = 0 ∨ x2 = 8 ∨ x2 = 16 ∨ x2 = 32) → E) (hp : (x2 = 0 ∨ x2 = 8 ∨ x2 = 16 ∨ x2 = 32) → P) :
    (x2 = 0 → P) ∧ (¬ x2 = 0 → ((x2 = 8 → P) ∧ (¬ x2 = 8 → ((x2 = 16 → P) ∧ (¬ x2 = 16 → ((x2 = 32 → P) ∧ (¬ x2 = 32 → E))))))) :=
  ⟨fun h => hp (Or.inl h), fun n0 => ⟨fun h => hp (Or.inr (Or.inl h)), fun n1 => ⟨fun h => hp (Or.inr (Or.inr (Or.inl h))), fun n2 => ⟨fun h => hp (Or.inr (Or.inr (Or.inr h))), fun n3 => hb (fun q => q.elim n0 (fun q => q.elim n1 (fun q => q.elim n2 n3)))⟩⟩⟩⟩
theorem r_shl {k : Nat} {x2 x3 : Int32} {er bits sizes n : Nat → Int32} {K : Int32 → (Nat → Int32) → (Nat → Int32) → (Nat → Int32) → (Nat → Int32) → Prop} (hk : k < 4) (hK : ∀ n', (∀ i, i < 24 → n' (24 * k + i) = 0) → (∀ i, i < 24 * k ∨ 24 * k + 24 ≤ i → n' i = n i) → K 1 er bits sizes n') :
    ∀ (m j : Nat) (z : Nat → Int32), j + m = 24 → (∀ i, i < j → z (24 * k + i) = 0) → (∀ i, i < 24 * k ∨ 24 * k + 24 ≤ i → z i = n i) → wpX9_sheet_L90 (m + 1) (nI k) x2 x3 (nI j) er bits sizes z K := by
  intro m
  induction m with
  | zero =>
    intro j z h h1 h2
    have e : j = 24 := by omega
    subst e
    rw [wpX9_sheet_L90]
    exact br_t (by decide) (hK z h1 h2)
  | succ m ih =>
    intro j z h h1 h2
    rw [wpX9_sheet_L90]
    refine br_f (show ¬ nI 24 ≤ nI j from nI_ge (by omega) (by decide)) ?_
    rw [i_24, nI_1, i_cl (show 24 * k + j < 2147483648 by omega)]
    refine ⟨vp_in_nI (by omega) (by decide), ih (j + 1) _ (by omega) (fun i hi => ?_) (fun i hi => ?_)⟩
    · by_cases e : i = j
      · subst e; exact pk_us
      · rw [pk_un (by omega)]; exact h1 i (by omega)
    · rw [pk_un (by omega)]; exact h2 i hi
theorem pg_sheet {k : Nat} {x2 x3 bits size : Int32} {numbers er8 er9 b s n : Nat → Int32} {K : Int32 → (Nat → Int32) → Int32 → Int32 → (Nat → Int32) → Int32 → (Nat → Int32) → (Nat → Int32) → (Nat → Int32) → (Nat → Int32) → Prop} (hk : k < 4)
    (hE : ∀ e, e < 7 → K (-1000000000 - nI e) (upd er8 e (er8 e + 1)) bits size numbers (-1000000000 - nI e) (upd er9 e (er9 e + 1)) b s n)
    (hO : ∀ bits' size' numbers' b' s' n', rs k bits' size' numbers' b' s' n' → (∀ i, i ≠ k → b' i = b i) → (∀ i, i ≠ k → s' i = s i) → (∀ i, i < 24 * k ∨ 24 * k + 24 ≤ i → n' i = n i) → K 1 er8 bits' size' numbers' 1 er9 b' s' n') :
    wpX8_sheet (nI k) x2 x3 er8 bits size numbers (fun r8 u0 u1 u2 u3 => wpX9_sheet (nI k) x2 x3 er9 b s n (fun r9 w0 w1 w2 w3 => K r8 u0 u1 u2 u3 r9 w0 w1 w2 w3)) := by
  have R9 : ∀ (K9 : Int32 → (Nat → Int32) → (Nat → Int32) → (Nat → Int32) → (Nat → Int32) → Prop), ((¬ (x2 = 0 ∨ x2 = 8 ∨ x2 = 16 ∨ x2 = 32) → K9 (-1000000000 - nI 1) (upd er9 1 (er9 1 + 1)) b s n) ∧ ((x2 = 0 ∨ x2 = 8 ∨ x2 = 16 ∨ x2 = 32) →
      (¬ x2 = 0 → ¬ 0 ≤ x3 → K9 (-1000000000 - nI 3) (upd er9 3 (er9 3 + 1)) b s n) ∧ (¬ x2 = 0 → 0 ≤ x3 → ¬ x3 ≤ 24 → K9 (-1000000000 - nI 1) (upd er9 1 (er9 1 + 1)) b s n) ∧
      ((x2 = 0 ∨ (0 ≤ x3 ∧ x3 ≤ 24)) → ∀ n', (∀ i, i < 24 → n' (24 * k + i) = 0) → (∀ i, i < 24 * k ∨ 24 * k + 24 ≤ i → n' i = n i) → K9 1 er9 (upd b k x2) (upd s k (if x2 = 0 then 0 else x3)) n'))) → wpX9_sheet (nI k) x2 x3 er9 b s n K9 := by
    intro K9 hh
    unfold wpX9_sheet wpX9_isSheet
    rw [i_cl (show k < 2147483648 by omega)]
    refine w9_t (n := 3) (by omega) (by decide) ⟨rfl, br_f (by decide) (sh_q (fun q => e9 (k := 1) (by decide) (hh.1 q)) (fun q => ?_))⟩
    obtain ⟨h3, h1, hg⟩ := hh.2 q
    refine sh_p (fun z => ⟨vp_in_nI hk (by decide), br_t z ⟨vp_in_nI hk (by decide), 25, ?_⟩⟩) (fun z w => e9 (k := 3) (by decide) (h3 z w)) (fun z w w2 => e9 (k := 1) (by decide) (h1 z w w2)) (fun z w w2 => ⟨vp_in_nI hk (by decide), br_f z ⟨vp_in_nI hk (by decide), 25, ?_⟩⟩)
    · refine r_shl hk (fun n' a1 a2 => ?_) 24 0 n rfl (fun i hi => absurd hi (Nat.not_lt_zero i)) (fun i _ => rfl)
      have := hg (Or.inl z) n' a1 a2
      rwa [if_pos z] at this
    · refine r_shl hk (fun n' a1 a2 => ?_) 24 0 n rfl (fun i hi => absurd hi (Nat.not_lt_zero i)) (fun i _ => rfl)
      have := hg (Or.inr ⟨w, w2⟩) n' a1 a2
      rwa [if_neg z] at this
  have good : (x2 = 0 ∨ x2 = 8 ∨ x2 = 16 ∨ x2 = 32) → (x2 = 0 ∨ (0 ≤ x3 ∧ x3 ≤ 24)) → ∀ z : Nat → Int32, (∀ i, i < 24 → z i = 0) → wpX9_sheet (nI k) x2 x3 er9 b s n (fun r9 w0 w1 w2 w3 => K 1 er8 x2 (if x2 = 0 then 0 else x3) z r9 w0 w1 w2 w3) := by
    intro q g z hz
    refine R9 _ ⟨fun w => absurd q w, fun _ => ⟨fun w w2 => ?_, fun w w2 w3 => ?_, fun _ n' a1 a2 => ?_⟩⟩
    · exact (g.elim (fun e => absurd e w) (fun e => absurd e.1 w2))
    · exact (g.elim (fun e => absurd e w) (fun e => absurd e.2 w3))
    · refine hO _ _ _ _ _ _ ⟨by rw [pk_us], by rw [pk_us], q, ?_, fun i hi => by rw [hz i hi, a1 i hi]⟩ (fun i hi => pk_un hi) (fun i hi => pk_un hi) a2
      by_cases e : x2 = 0
      · rw [if_pos e]; exact ⟨by decide, by decide⟩
      · rw [if_neg e]
        have g2 := g.resolve_left e
        rw [i_le, i_le, Int32.toInt_zero, show (24 : Int32).toInt = 24 by decide] at g2
        exact g2
  unfold wpX8_sheet wpX8_isSheet wpX3_begin
  refine w8_t (n := 3) (by omega) (by decide) ⟨rfl, br_f (by decide) (sh_q (fun q => e8 (k := 1) (by decide) (R9 _ ⟨fun _ => hE 1 (by decide), fun w => absurd w q⟩)) (fun q => ?_))⟩
  refine sh_p (fun z => ⟨vp_in_nI hk (by decide), br_t z (f_fill (by decide) (fun y hy _ => ?_))⟩) (fun z w => e8 (k := 3) (by decide) (R9 _ ⟨fun w => absurd q w, fun _ => ⟨fun _ _ => hE 3 (by decide), fun _ a => absurd a w, fun a => ?_⟩⟩)) (fun z w w2 => e8 (k := 1) (by decide) (R9 _ ⟨fun w => absurd q w, fun _ => ⟨fun _ a => absurd w a, fun _ _ _ => hE 1 (by decide), fun a => ?_⟩⟩)) (fun z w w2 => ⟨vp_in_nI hk (by decide), br_f z (f_fill (by decide) (fun y hy _ => ?_))⟩)
  · have := good q (Or.inl z) y hy
    rwa [if_pos z] at this
  · exact (a.elim (fun e => absurd e z) (fun e => absurd e.1 w))
  · exact (a.elim (fun e => absurd e z) (fun e => absurd e.2 w2))
  · have := good q (Or.inr ⟨w, w2⟩) y hy
    rwa [if_neg z] at this
set_option maxRecDepth 20000 in
theorem pf_put_o {c d : Nat → Int32} {A B : Nat → Nat → Int32} {nm : Nat} {x1 : Int32} {x2 : Int32} {x3 : Int32} {bits size : Int32} {numbers : Nat → Int32} (hN : numbers = A 37) (hx1 : ¬ vp_in x1 4) (hR : rl c A d B nm) : wpX8_put x1 x2 x3 bits size (A 36) numbers (fun r8 u0 u1 => wpX9_put x1 x2 x3 (B 11) (B 12) (B 13) (B 3) (fun r9 w0 w1 => r8 = r9 ∧ rl c (va_up (va_up A 36 u0) 37 u1) d (va_up (va_up B 13 w0) 3 w1) nm)) := by
  subst hN
  obtain ⟨hw, hi, ht0, ht1, hm0, hm1, him, her, hv, hs0, hs1, hs2, hs3, hnm⟩ := id hR
  have hx : ¬ in_ x1 (3 : Nat) := fun q => hx1 (vp_in_iff.mpr (by unfold in_ at q; omega))
  unfold wpX8_put wpX8_isSheet
  refine w8_f (n := 3) (by decide) hx ⟨rfl, br_t rfl (e8 (k := 1) (by decide) ?_)⟩
  unfold wpX9_put wpX9_isSheet
  refine w9_f (n := 3) (by decide) hx ⟨rfl, br_t rfl (e9 (k := 1) (by decide) ?_)⟩
  exact ⟨rfl, hw, hi, ht0, ht1, hm0, hm1, him, er_up her (k := 1) (by decide), hv, hs0, hs1, hs2, hs3, hnm⟩
set_option maxRecDepth 20000 in
theorem pc_put_0 {c d : Nat → Int32} {A B : Nat → Nat → Int32} {nm : Nat} {x1 : Int32} {x2 : Int32} {x3 : Int32} (hR : rl c A d B nm) (hx1 : x1 = 0) : wpX8_put x1 x2 x3 (c 42) (c 43) (A 36) (A 37) (fun r8 u0 u1 => wpX9_put x1 x2 x3 (B 11) (B 12) (B 13) (B 3) (fun r9 w0 w1 => r8 = r9 ∧ rl c (va_up (va_up A 36 u0) 37 u1) d (va_up (va_up B 13 w0) 3 w1) nm)) := by
  subst hx1
  obtain ⟨hw, hi, ht0, ht1, hm0, hm1, him, her, hv, hs0, hs1, hs2, hs3, hnm⟩ := id hR
  refine pg_put (k := 0) (by decide) hs0 (fun e he => ?_) (fun numbers' n' hs' ho => ?_)
  · exact ⟨rfl, hw, hi, ht0, ht1, hm0, hm1, him, er_up her (k := e) he, hv, hs0, hs1, hs2, hs3, hnm⟩
  · exact ⟨rfl, hw, hi, ht0, ht1, hm0, hm1, him, her, hv, hs', rs_o hs1 (rfl) (rfl) (fun i h => ho _ (by omega)), rs_o hs2 (rfl) (rfl) (fun i h => ho _ (by omega)), rs_o hs3 (rfl) (rfl) (fun i h => ho _ (by omega)), hnm⟩
set_option maxRecDepth 20000 in
theorem pc_put_1 {c d : Nat → Int32} {A B : Nat → Nat → Int32} {nm : Nat} {x1 : Int32} {x2 : Int32} {x3 : Int32} (hR : rl c A d B nm) (hx1 : x1 = 1) : wpX8_put x1 x2 x3 (c 44) (c 45) (A 36) (A 38) (fun r8 u0 u1 => wpX9_put x1 x2 x3 (B 11) (B 12) (B 13) (B 3) (fun r9 w0 w1 => r8 = r9 ∧ rl c (va_up (va_up A 36 u0) 38 u1) d (va_up (va_up B 13 w0) 3 w1) nm)) := by
  subst hx1
  obtain ⟨hw, hi, ht0, ht1, hm0, hm1, him, her, hv, hs0, hs1, hs2, hs3, hnm⟩ := id hR
  refine pg_put (k := 1) (by decide) hs1 (fun e he => ?_) (fun numbers' n' hs' ho => ?_)
  · exact ⟨rfl, hw, hi, ht0, ht1, hm0, hm1, him, er_up her (k := e) he, hv, hs0, hs1, hs2, hs3, hnm⟩
  · exact ⟨rfl, hw, hi, ht0, ht1, hm0, hm1, him, her, hv, rs_o hs0 (rfl) (rfl) (fun i h => ho _ (by omega)), hs', rs_o hs2 (rfl) (rfl) (fun i h => ho _ (by omega)), rs_o hs3 (rfl) (rfl) (fun i h => ho _ (by omega)), hnm⟩
set_option maxRecDepth 20000 in
theorem pc_put_2 {c d : Nat → Int32} {A B : Nat → Nat → Int32} {nm : Nat} {x1 : Int32} {x2 : Int32} {x3 : Int32} (hR : rl c A d B nm) (hx1 : x1 = 2) : wpX8_put x1 x2 x3 (c 46) (c 47) (A 36) (A 39) (fun r8 u0 u1 => wpX9_put x1 x2 x3 (B 11) (B 12) (B 13) (B 3) (fun r9 w0 w1 => r8 = r9 ∧ rl c (va_up (va_up A 36 u0) 39 u1) d (va_up (va_up B 13 w0) 3 w1) nm)) := by
  subst hx1
  obtain ⟨hw, hi, ht0, ht1, hm0, hm1, him, her, hv, hs0, hs1, hs2, hs3, hnm⟩ := id hR
  refine pg_put (k := 2) (by decide) hs2 (fun e he => ?_) (fun numbers' n' hs' ho => ?_)
  · exact ⟨rfl, hw, hi, ht0, ht1, hm0, hm1, him, er_up her (k := e) he, hv, hs0, hs1, hs2, hs3, hnm⟩
  · exact ⟨rfl, hw, hi, ht0, ht1, hm0, hm1, him, her, hv, rs_o hs0 (rfl) (rfl) (fun i h => ho _ (by omega)), rs_o hs1 (rfl) (rfl) (fun i h => ho _ (by omega)), hs', rs_o hs3 (rfl) (rfl) (fun i h => ho _ (by omega)), hnm⟩
set_option maxRecDepth 20000 in
theorem pc_put_3 {c d : Nat → Int32} {A B : Nat → Nat → Int32} {nm : Nat} {x1 : Int32} {x2 : Int32} {x3 : Int32} (hR : rl c A d B nm) (hx1 : x1 = 3) : wpX8_put x1 x2 x3 (c 48) (c 49) (A 36) (A 40) (fun r8 u0 u1 => wpX9_put x1 x2 x3 (B 11) (B 12) (B 13) (B 3) (fun r9 w0 w1 => r8 = r9 ∧ rl c (va_up (va_up A 36 u0) 40 u1) d (va_up (va_up B 13 w0) 3 w1) nm)) := by
  subst hx1
  obtain ⟨hw, hi, ht0, ht1, hm0, hm1, him, her, hv, hs0, hs1, hs2, hs3, hnm⟩ := id hR
  refine pg_put (k := 3) (by decide) hs3 (fun e he => ?_) (fun numbers' n' hs' ho => ?_)
  · exact ⟨rfl, hw, hi, ht0, ht1, hm0, hm1, him, er_up her (k := e) he, hv, hs0, hs1, hs2, hs3, hnm⟩
  · exact ⟨rfl, hw, hi, ht0, ht1, hm0, hm1, him, her, hv, rs_o hs0 (rfl) (rfl) (fun i h => ho _ (by omega)), rs_o hs1 (rfl) (rfl) (fun i h => ho _ (by omega)), rs_o hs2 (rfl) (rfl) (fun i h => ho _ (by omega)), hs', hnm⟩
theorem pc_put_o {c d : Nat → Int32} {A B : Nat → Nat → Int32} {nm : Nat} {x1 : Int32} {x2 : Int32} {x3 : Int32} (hR : rl c A d B nm) (hx1 : ¬ vp_in x1 4) : wpX8_put x1 x2 x3 (c 42) (c 43) (A 36) (A 37) (fun r8 u0 u1 => wpX9_put x1 x2 x3 (B 11) (B 12) (B 13) (B 3) (fun r9 w0 w1 => r8 = r9 ∧ rl c (va_up (va_up A 36 u0) 37 u1) d (va_up (va_up B 13 w0) 3 w1) nm)) := pf_put_o rfl hx1 hR
set_option maxRecDepth 20000 in
theorem pf_sheet_o {c d : Nat → Int32} {A B : Nat → Nat → Int32} {nm : Nat} {x1 : Int32} {x2 : Int32} {x3 : Int32} {bits size : Int32} {numbers : Nat → Int32} (hB : bits = c 42) (hZ : size = c 43) (hN : numbers = A 37) (hx1 : ¬ vp_in x1 4) (hR : rl c A d B nm) : wpX8_sheet x1 x2 x3 (A 36) bits size numbers (fun r8 u0 u1 u2 u3 => wpX9_sheet x1 x2 x3 (B 3) (B 11) (B 12) (B 13) (fun r9 w0 w1 w2 w3 => r8 = r9 ∧ rl (va_up (va_up c 42 u1) 43 u2) (va_up (va_up A 36 u0) 37 u3) d (va_up (va_up (va_up (va_up B 3 w0) 11 w1) 12 w2) 13 w3) nm)) := by
  subst hB hZ hN
  obtain ⟨hw, hi, ht0, ht1, hm0, hm1, him, her, hv, hs0, hs1, hs2, hs3, hnm⟩ := id hR
  have hx : ¬ in_ x1 (3 : Nat) := fun q => hx1 (vp_in_iff.mpr (by unfold in_ at q; omega))
  unfold wpX8_sheet wpX8_isSheet
  refine w8_f (n := 3) (by decide) hx ⟨rfl, br_t rfl (e8 (k := 1) (by decide) ?_)⟩
  unfold wpX9_sheet wpX9_isSheet
  refine w9_f (n := 3) (by decide) hx ⟨rfl, br_t rfl (e9 (k := 1) (by decide) ?_)⟩
  exact ⟨rfl, hw, hi, ht0, ht1, hm0, hm1, him, er_up her (k := 1) (by decide), hv, hs0, hs1, hs2, hs3, hnm⟩
set_option maxRecDepth 20000 in
theorem pc_sheet_0 {c d : Nat → Int32} {A B : Nat → Nat → Int32} {nm : Nat} {x1 : Int32} {x2 : Int32} {x3 : Int32} (hR : rl c A d B nm) (hx1 : x1 = 0) : wpX8_sheet x1 x2 x3 (A 36) (c 42) (c 43) (A 37) (fun r8 u0 u1 u2 u3 => wpX9_sheet x1 x2 x3 (B 3) (B 11) (B 12) (B 13) (fun r9 w0 w1 w2 w3 => r8 = r9 ∧ rl (va_up (va_up c 42 u1) 43 u2) (va_up (va_up A 36 u0) 37 u3) d (va_up (va_up (va_up (va_up B 3 w0) 11 w1) 12 w2) 13 w3) nm)) := by
  subst hx1
  obtain ⟨hw, hi, ht0, ht1, hm0, hm1, him, her, hv, hs0, hs1, hs2, hs3, hnm⟩ := id hR
  refine pg_sheet (k := 0) (by decide) (fun e he => ?_) (fun bits' size' numbers' b' s' n' hs' hb hz ho => ?_)
  · exact ⟨rfl, hw, hi, ht0, ht1, hm0, hm1, him, er_up her (k := e) he, hv, hs0, hs1, hs2, hs3, hnm⟩
  · exact ⟨rfl, hw, hi, ht0, ht1, hm0, hm1, him, her, hv, hs', rs_o hs1 (hb _ (by decide)) (hz _ (by decide)) (fun i h => ho _ (by omega)), rs_o hs2 (hb _ (by decide)) (hz _ (by decide)) (fun i h => ho _ (by omega)), rs_o hs3 (hb _ (by decide)) (hz _ (by decide)) (fun i h => ho _ (by omega)), hnm⟩
set_option maxRecDepth 20000 in
theorem pc_sheet_1 {c d : Nat → Int32} {A B : Nat → Nat → Int32} {nm : Nat} {x1 : Int32} {x2 : Int32} {x3 : Int32} (hR : rl c A d B nm) (hx1 : x1 = 1) : wpX8_sheet x1 x2 x3 (A 36) (c 44) (c 45) (A 38) (fun r8 u0 u1 u2 u3 => wpX9_sheet x1 x2 x3 (B 3) (B 11) (B 12) (B 13) (fun r9 w0 w1 w2 w3 => r8 = r9 ∧ rl (va_up (va_up c 44 u1) 45 u2) (va_up (va_up A 36 u0) 38 u3) d (va_up (va_up (va_up (va_up B 3 w0) 11 w1) 12 w2) 13 w3) nm)) := by
  subst hx1
  obtain ⟨hw, hi, ht0, ht1, hm0, hm1, him, her, hv, hs0, hs1, hs2, hs3, hnm⟩ := id hR
  refine pg_sheet (k := 1) (by decide) (fun e he => ?_) (fun bits' size' numbers' b' s' n' hs' hb hz ho => ?_)
  · exact ⟨rfl, hw, hi, ht0, ht1, hm0, hm1, him, er_up her (k := e) he, hv, hs0, hs1, hs2, hs3, hnm⟩
  · exact ⟨rfl, hw, hi, ht0, ht1, hm0, hm1, him, her, hv, rs_o hs0 (hb _ (by decide)) (hz _ (by decide)) (fun i h => ho _ (by omega)), hs', rs_o hs2 (hb _ (by decide)) (hz _ (by decide)) (fun i h => ho _ (by omega)), rs_o hs3 (hb _ (by decide)) (hz _ (by decide)) (fun i h => ho _ (by omega)), hnm⟩
set_option maxRecDepth 20000 in
theorem pc_sheet_2 {c d : Nat → Int32} {A B : Nat → Nat → Int32} {nm : Nat} {x1 : Int32} {x2 : Int32} {x3 : Int32} (hR : rl c A d B nm) (hx1 : x1 = 2) : wpX8_sheet x1 x2 x3 (A 36) (c 46) (c 47) (A 39) (fun r8 u0 u1 u2 u3 => wpX9_sheet x1 x2 x3 (B 3) (B 11) (B 12) (B 13) (fun r9 w0 w1 w2 w3 => r8 = r9 ∧ rl (va_up (va_up c 46 u1) 47 u2) (va_up (va_up A 36 u0) 39 u3) d (va_up (va_up (va_up (va_up B 3 w0) 11 w1) 12 w2) 13 w3) nm)) := by
  subst hx1
  obtain ⟨hw, hi, ht0, ht1, hm0, hm1, him, her, hv, hs0, hs1, hs2, hs3, hnm⟩ := id hR
  refine pg_sheet (k := 2) (by decide) (fun e he => ?_) (fun bits' size' numbers' b' s' n' hs' hb hz ho => ?_)
  · exact ⟨rfl, hw, hi, ht0, ht1, hm0, hm1, him, er_up her (k := e) he, hv, hs0, hs1, hs2, hs3, hnm⟩
  · exact ⟨rfl, hw, hi, ht0, ht1, hm0, hm1, him, her, hv, rs_o hs0 (hb _ (by decide)) (hz _ (by decide)) (fun i h => ho _ (by omega)), rs_o hs1 (hb _ (by decide)) (hz _ (by decide)) (fun i h => ho _ (by omega)), hs', rs_o hs3 (hb _ (by decide)) (hz _ (by decide)) (fun i h => ho _ (by omega)), hnm⟩
set_option maxRecDepth 20000 in
theorem pc_sheet_3 {c d : Nat → Int32} {A B : Nat → Nat → Int32} {nm : Nat} {x1 : Int32} {x2 : Int32} {x3 : Int32} (hR : rl c A d B nm) (hx1 : x1 = 3) : wpX8_sheet x1 x2 x3 (A 36) (c 48) (c 49) (A 40) (fun r8 u0 u1 u2 u3 => wpX9_sheet x1 x2 x3 (B 3) (B 11) (B 12) (B 13) (fun r9 w0 w1 w2 w3 => r8 = r9 ∧ rl (va_up (va_up c 48 u1) 49 u2) (va_up (va_up A 36 u0) 40 u3) d (va_up (va_up (va_up (va_up B 3 w0) 11 w1) 12 w2) 13 w3) nm)) := by
  subst hx1
  obtain ⟨hw, hi, ht0, ht1, hm0, hm1, him, her, hv, hs0, hs1, hs2, hs3, hnm⟩ := id hR
  refine pg_sheet (k := 3) (by decide) (fun e he => ?_) (fun bits' size' numbers' b' s' n' hs' hb hz ho => ?_)
  · exact ⟨rfl, hw, hi, ht0, ht1, hm0, hm1, him, er_up her (k := e) he, hv, hs0, hs1, hs2, hs3, hnm⟩
  · exact ⟨rfl, hw, hi, ht0, ht1, hm0, hm1, him, her, hv, rs_o hs0 (hb _ (by decide)) (hz _ (by decide)) (fun i h => ho _ (by omega)), rs_o hs1 (hb _ (by decide)) (hz _ (by decide)) (fun i h => ho _ (by omega)), rs_o hs2 (hb _ (by decide)) (hz _ (by decide)) (fun i h => ho _ (by omega)), hs', hnm⟩
theorem pc_sheet_o {c d : Nat → Int32} {A B : Nat → Nat → Int32} {nm : Nat} {x1 : Int32} {x2 : Int32} {x3 : Int32} (hR : rl c A d B nm) (hx1 : ¬ vp_in x1 4) : wpX8_sheet x1 x2 x3 (A 36) (c 42) (c 43) (A 37) (fun r8 u0 u1 u2 u3 => wpX9_sheet x1 x2 x3 (B 3) (B 11) (B 12) (B 13) (fun r9 w0 w1 w2 w3 => r8 = r9 ∧ rl (va_up (va_up c 42 u1) 43 u2) (va_up (va_up A 36 u0) 37 u3) d (va_up (va_up (va_up (va_up B 3 w0) 11 w1) 12 w2) 13 w3) nm)) := pf_sheet_o rfl rfl rfl hx1 hR
