/-! what fits -/
def jq_ (st : Nat → Int32) (n l Y : Nat) (q : Int32) (ev : Nat → Int32) (j0 : Int32) : Nat → Int32
  | 0 => j0
  | i + 1 => jn_ (jq_ st n l Y q ev j0 i) (tn_ st n l (ev ((Y + i) % 6)) q (nI (Y + i)))
def ft_ (f : Nat → Bool) : Nat → Nat → Bool
  | 0, _ => true
  | m + 1, k => if f k = true then ft_ f m (k + 1) else false
def b01 (b : Bool) : Int32 := if b = true then 1 else 0
theorem c_ev {st sk mem turns jaws events : Nat → Int32} {n Y : Nat} {hi sa sb sec : Int32} {K : (Nat → Int32) → (Nat → Int32) → (Nat → Int32) → (Nat → Int32) → Prop} (hY : Y < 200000) (hev : ∀ i, i < 6 → in_ (events i) 255) (hn : n ≤ 60) (hok : tx_ok st n) (hm : rm 30 9 16 hi sa sb (nI n) st mem)
    (hk : ∀ mem' sk' turns' jaws', rm 30 9 16 hi sa sb (nI n) st mem' → (∀ l, l < 2 → jaws' l = jn_ (jaws l) (tn_ st n l (events (Y % 6)) sec (nI Y))) → K mem' sk' turns' jaws') :
    wpX7_eventIn (nI Y) events (fun r => wpX7_stir r (nI Y) sec hi sa sb (nI n) 1152 mem st sk turns jaws K) := by
  obtain ⟨e, he, ee⟩ := in_nI (n := 255) (hev _ (Nat.mod_lt Y (by decide)))
  refine ev8 hY ?_
  rw [ee]
  refine c_stir he hn hok hm (fun mem' sk' hm' => hk mem' sk' _ _ hm' (fun l hl => ?_))
  rcases (show l = 0 ∨ l = 1 by omega) with rfl | rfl
  · rw [pk_un (show (0 : Nat) ≠ 1 by decide), pk_us, ee]
  · rw [pk_us, ee]
theorem c_tel {st numbers events : Nat → Int32} {n l Y S : Nat} {hi sa sb q j0 : Int32} {K : Int32 → Int32 → (Nat → Int32) → (Nat → Int32) → (Nat → Int32) → (Nat → Int32) → Prop} (hl : l < 2) (hY : Y < 100000) (hS : S ≤ 24) (hev : ∀ i, i < 6 → in_ (events i) 255) (hn : n ≤ 60) (hok : tx_ok st n) :
    ∀ (m k : Nat) (mem sk turns jaws : Nat → Int32), (k + 1) + m = S → rm 30 9 16 hi sa sb (nI n) st mem → jaws l = jq_ st n l Y q events j0 k →
      (∀ year jaws mem' sk' turns, rm 30 9 16 hi sa sb (nI n) st mem' → K (b01 (ft_ (fun i => decide (jq_ st n l Y q events j0 i = numbers i)) m (k + 1))) year jaws mem' sk' turns) →
      wpX5_tells_L3 (m + 1) (nI l) (nI (k + 1)) (nI S) (nI (Y + k)) q jaws numbers events hi sa sb (nI n) 1152 mem st sk turns K := by
  intro m
  induction m with
  | zero =>
    intro k mem sk turns jaws h hm hj hk
    have e : k + 1 = S := by omega
    subst e
    rw [wpX5_tells_L3]
    exact br_t (nI_le (Nat.le_refl _) (by omega)) (hk _ jaws mem sk turns hm)
  | succ m ih =>
    intro k mem sk turns jaws h hm hj hk
    rw [wpX5_tells_L3]
    refine br_f (nI_ge (by omega) (by omega)) (br_f (nI_nle (by omega) (by omega)) ?_)
    refine c_ev (by omega) hev hn hok hm (fun mem' sk' turns' jaws' hm' hj' => ⟨vp_in_nI hl (by decide), vp_in_nI (by omega) (by decide), ?_⟩)
    rw [i_cl (show l < 2147483648 by omega), i_cl (show k + 1 < 2147483648 by omega)]
    have ej : jaws' l = jq_ st n l Y q events j0 (k + 1) := by rw [hj' l hl, hj]; rfl
    rw [ej]
    simp only [ft_] at hk
    refine ⟨fun w => ?_, fun w => ?_⟩
    · simp only [w, decide_true, if_true] at hk
      rw [nI_1, nI_1]
      exact ih (k + 1) mem' sk' turns' jaws' (by omega) hm' ej hk
    · simp only [w, decide_false, Bool.false_eq_true, if_false] at hk
      exact hk _ jaws' mem' sk' turns' hm'
theorem c_tell {st numbers events mem sk turns jaws : Nat → Int32} {n l Y S : Nat} {hi sa sb q : Int32} {K : Int32 → Int32 → (Nat → Int32) → (Nat → Int32) → (Nat → Int32) → (Nat → Int32) → Prop} (hl : l < 2) (hY : Y < 100000) (hS : S ≤ 24) (hev : ∀ i, i < 6 → in_ (events i) 255) (hn : n ≤ 60) (hok : tx_ok st n) (hm : rm 30 9 16 hi sa sb (nI n) st mem)
    (hk : ∀ year jaws' mem' sk' turns, rm 30 9 16 hi sa sb (nI n) st mem' → K (b01 (ft_ (fun i => decide (jq_ st n l Y q events (jaws l) i = numbers i)) S 0)) year jaws' mem' sk' turns) :
    wpX5_tells (nI l) (nI S) (nI Y) q jaws numbers events hi sa sb (nI n) 1152 mem st sk turns K := by
  refine ⟨S + 1, ?_⟩
  cases S with
  | zero =>
    rw [wpX5_tells_L3]
    exact br_t (by decide) (hk _ jaws mem sk turns hm)
  | succ m =>
    rw [wpX5_tells_L3]
    refine br_f (show ¬ nI (m + 1) ≤ nI 0 from nI_ge (by omega) (by omega)) (br_t (by decide) ⟨vp_in_nI hl (by decide), vp_in_iff.mpr (by decide), ?_⟩)
    rw [i_cl (show l < 2147483648 by omega), c_0]
    simp only [ft_] at hk
    refine ⟨fun w => ?_, fun w => ?_⟩
    · have w2 : jq_ st n l Y q events (jaws l) 0 = numbers 0 := w
      simp only [w2, decide_true, if_true] at hk
      exact c_tel (k := 0) (j0 := jaws l) hl hY hS hev hn hok m mem sk turns jaws (by omega) hm rfl hk
    · have w2 : ¬ jq_ st n l Y q events (jaws l) 0 = numbers 0 := w
      simp only [w2, decide_false, Bool.false_eq_true, if_false] at hk
      exact hk _ jaws mem sk turns hm
theorem r_isl {st s number : Nat → Int32} {sizes : Nat → Int32} {n l Y S sh q : Nat} {K : Int32 → (Nat → Int32) → (Nat → Int32) → Prop} (hl : l < 2) (hY : Y < 100000) (eY : s 0 = nI Y) (hsh : sh < 4) (eS : sizes sh = nI S) (hS : S ≤ 24) (hev : ∀ i, i < 6 → in_ (s (8 + i)) 255) (hrt : rt 0 (nI n) st s) (hn : n ≤ 60)
    (j0 : Int32) : ∀ (m k : Nat) (nm p : Nat → Int32), k + m = S →
      (∀ nm p, K (b01 (ft_ (fun i => decide (jq_ st n l Y (nI q) (fun i => s (8 + i)) j0 i = number (24 * sh + i))) m k)) nm p) →
      wpX9_isSecret_L13 (m + 1) (nI sh) (nI l) (nI q) (jq_ st n l Y (nI q) (fun i => s (8 + i)) j0 k) (nI k) s sizes number nm p K := by
  intro m
  induction m with
  | zero =>
    intro k nm p h hk
    have e : k = S := by omega
    subst e
    rw [wpX9_isSecret_L13]
    refine ⟨vp_in_nI hsh (by decide), ?_⟩
    rw [i_cl (show sh < 2147483648 by omega), eS]
    exact br_t (nI_le (Nat.le_refl _) (by omega)) (hk nm p)
  | succ m ih =>
    intro k nm p h hk
    have e1 : (24 * nI sh + nI k : Int32) = nI (24 * sh + k) := by rw [show (24 : Int32) = nI 24 from rfl, pk_mul, nI_add]
    have e2 : (nI Y + nI k : Int32) = nI (Y + k) := nI_add Y k
    have er : (nI (Y + k) - nI (Y + k) / 6 * 6 : Int32) = nI ((Y + k) % 6) := pk_rem (by omega) (by decide) (by decide)
    have e3 : (8 + nI ((Y + k) % 6) : Int32) = nI (8 + (Y + k) % 6) := nI_add 8 _
    obtain ⟨e, he, ee⟩ := in_nI (n := 255) (hev _ (Nat.mod_lt (Y + k) (by decide)))
    rw [wpX9_isSecret_L13]
    dsimp only
    rw [e1, c_0, eY, e2, er, e3, i_cl (show sh < 2147483648 by omega), i_cl (show 24 * sh + k < 2147483648 by omega), i_cl (show 8 + (Y + k) % 6 < 2147483648 by omega), eS, ee]
    refine ⟨vp_in_nI hsh (by decide), br_f (nI_ge (by omega) (by omega)) ⟨vp_in_nI (by omega) (by decide), ?_⟩⟩
    simp only [ft_] at hk
    refine ⟨fun w => ?_, fun w => ?_⟩
    · simp only [w.symm, decide_true, if_true] at hk
      refine ⟨vp_in_iff.mpr (by decide), vp_in_nI (by omega) (by decide), s9 hl he ⟨vp_in_iff.mpr (by decide), t9 hrt hn (fun nm' p' => ?_)⟩⟩
      rw [nI_1]
      have hh := ih (k + 1) nm' p' (by omega) hk
      have ej : jq_ st n l Y (nI q) (fun i => s (8 + i)) j0 (k + 1) = jn_ (jq_ st n l Y (nI q) (fun i => s (8 + i)) j0 k) (tn_ st n l (nI e) (nI q) (nI (Y + k))) := by rw [← ee]; rfl
      rw [ej] at hh
      exact hh
    · have w2 : ¬ jq_ st n l Y (nI q) (fun i => s (8 + i)) j0 k = number (24 * sh + k) := fun z => w z.symm
      simp only [w2, decide_false, Bool.false_eq_true, if_false] at hk
      exact hk nm p
/-- whether a secret fits -/
def fi_ (st : Nat → Int32) (n l Y S : Nat) (s number : Nat → Int32) (sh q : Nat) : Bool := ft_ (fun i => decide (jq_ st n l Y (nI q) (fun i => s (8 + i)) (s (2 + l)) i = number (24 * sh + i))) S 0
theorem r_is {st s number nm p : Nat → Int32} {sizes : Nat → Int32} {n l Y S sh q : Nat} {K : Int32 → (Nat → Int32) → (Nat → Int32) → Prop} (hl : l < 2) (hY : Y < 100000) (eY : s 0 = nI Y) (hsh : sh < 4) (eS : sizes sh = nI S) (hS : S ≤ 24) (hev : ∀ i, i < 6 → in_ (s (8 + i)) 255) (hrt : rt 0 (nI n) st s) (hn : n ≤ 60)
    (hk : ∀ nm p, K (b01 (fi_ st n l Y S s number sh q)) nm p) : wpX9_isSecret (nI sh) (nI l) (nI q) s sizes number nm p K := by
  unfold wpX9_isSecret
  rw [show (2 + nI l : Int32) = nI (2 + l) from nI_add 2 l]
  refine ⟨vp_in_nI (by omega) (by decide), S + 1, ?_⟩
  rw [i_cl (show 2 + l < 2147483648 by omega)]
  exact r_isl hl hY eY hsh eS hS hev hrt hn (s (2 + l)) S 0 nm p (by omega) hk
theorem ft_c {f g : Nat → Bool} : ∀ m k, (∀ i, k ≤ i → i < k + m → f i = g i) → ft_ f m k = ft_ g m k := by
  intro m
  induction m with
  | zero => intro k _; rfl
  | succ m ih =>
    intro k h
    rw [ft_, ft_, h k (by omega) (by omega), ih (k + 1) (fun i h1 h2 => h i (by omega) (by omega))]
theorem jq_c {st : Nat → Int32} {n l Y : Nat} {q j0 : Int32} {ev ev' : Nat → Int32} (h : ∀ i, i < 6 → ev i = ev' i) : ∀ k, jq_ st n l Y q ev j0 k = jq_ st n l Y q ev' j0 k := by
  intro k
  induction k with
  | zero => rfl
  | succ k ih => rw [jq_, jq_, ih, h _ (Nat.mod_lt _ (by decide))]
theorem cn_m (p : Nat → Bool) {a b : Nat} (h : a ≤ b) : cn_ p a ≤ cn_ p b := by
  obtain ⟨d, rfl⟩ : ∃ d, b = a + d := ⟨b - a, by omega⟩
  clear h
  induction d with
  | zero => exact Nat.le_refl _
  | succ d ih =>
    refine Nat.le_trans ih ?_
    show cn_ p (a + d) ≤ cn_ p (a + d + 1)
    rw [cn_]
    split <;> omega
/-- the class gathers -/
theorem c_gal {st numbers events wj s number : Nat → Int32} {n l Y S sh : Nat} {hi sa sb wy ws : Int32} {K : Int32 → Int32 → Int32 → (Nat → Int32) → (Nat → Int32) → (Nat → Int32) → (Nat → Int32) → (Nat → Int32) → Prop} (hl : l < 2) (hY : Y < 100000) (ey : wy = nI Y) (hS : S ≤ 24) (hev : ∀ i, i < 6 → events i = s (8 + i)) (hevb : ∀ i, i < 6 → in_ (s (8 + i)) 255) (hwj : wj l = s (2 + l)) (hnum : ∀ i, i < 24 → numbers i = number (24 * sh + i)) (hn : n ≤ 60) (hok : tx_ok st n)
    (hk : ∀ year sec jaws mem' sk' turns secrets, rm 30 9 16 hi sa sb (nI n) st mem' → (∀ q, q < 256 → fi_ st n l Y S s number sh q = true → secrets (cn_ (fi_ st n l Y S s number sh) q) = nI q) → K (nI (cn_ (fi_ st n l Y S s number sh) 256)) year sec jaws mem' sk' turns secrets) :
    ∀ (m k : Nat) (ly ls : Int32) (lj mem sk turns secrets : Nat → Int32), k + m = 256 → rm 30 9 16 hi sa sb (nI n) st mem → (∀ q, q < k → fi_ st n l Y S s number sh q = true → secrets (cn_ (fi_ st n l Y S s number sh) q) = nI q) →
      wpX5_gather_L8 (m + 1) (nI l) (nI k) (nI (cn_ (fi_ st n l Y S s number sh) k)) wy ws ly ls wj lj (nI S) numbers events hi sa sb (nI n) 1152 mem st sk turns secrets K := by
  subst ey
  intro m
  induction m with
  | zero =>
    intro k ly ls lj mem sk turns secrets h hm hs
    have e : k = 256 := by omega
    subst e
    rw [wpX5_gather_L8]
    exact br_t (by decide) (hk _ _ _ _ _ _ _ hm hs)
  | succ m ih =>
    intro k ly ls lj mem sk turns secrets h hm hs
    have hcn := cn_le (fi_ st n l Y S s number sh) k
    rw [wpX5_gather_L8]
    refine br_f (show ¬ nI 256 ≤ nI k from nI_ge (by omega) (by decide)) (c_cp (fun j h0 h1 => ?_))
    have ejl : j l = s (2 + l) := by
      rw [← hwj]
      rcases (show l = 0 ∨ l = 1 by omega) with rfl | rfl
      · exact h0
      · exact h1
    refine br_f (show ¬ nI 256 ≤ nI (cn_ (fi_ st n l Y S s number sh) k) from nI_ge (by omega) (by decide)) ?_
    refine c_tell hl hY hS (fun i hi => by rw [hev i hi]; exact hevb i hi) hn hok hm (fun year jaws' mem' sk' turns' hm' => ?_)
    have eb : ft_ (fun i => decide (jq_ st n l Y (nI k) events (j l) i = numbers i)) S 0 = fi_ st n l Y S s number sh k := by
      unfold fi_
      refine ft_c S 0 (fun i _ h2 => ?_)
      rw [ejl, jq_c (ev' := fun i => s (8 + i)) hev i, hnum i (by omega)]
    rw [eb]
    have ec : cn_ (fi_ st n l Y S s number sh) (k + 1) = if fi_ st n l Y S s number sh k = true then cn_ (fi_ st n l Y S s number sh) k + 1 else cn_ (fi_ st n l Y S s number sh) k := rfl
    rw [nI_1]
    by_cases hp : fi_ st n l Y S s number sh k = true
    · rw [hp]
      rw [if_pos hp] at ec
      refine br_f (by decide) ⟨vp_in_nI (by omega) (by decide), ?_⟩
      rw [i_cl (show cn_ (fi_ st n l Y S s number sh) k < 2147483648 by omega), nI_1, ← ec]
      refine ih (k + 1) _ _ _ _ _ _ _ (by omega) hm' (fun q hq hf => ?_)
      by_cases e : q = k
      · subst e
        exact pk_us
      · have h1 := cn_m (fi_ st n l Y S s number sh) (show q + 1 ≤ k by omega)
        rw [cn_, if_pos hf] at h1
        rw [pk_un (by omega)]
        exact hs q (by omega) hf
    · have hp2 : fi_ st n l Y S s number sh k = false := by simpa using hp
      rw [hp2]
      rw [if_neg hp] at ec
      refine br_t rfl ?_
      rw [← ec]
      refine ih (k + 1) _ _ _ _ _ _ _ (by omega) hm' (fun q hq hf => ?_)
      by_cases e : q = k
      · subst e
        exact absurd hf hp
      · exact hs q (by omega) hf
/-- the reference finds -/
def lo2 (p : Nat → Bool) (k : Nat) : Int32 := if lg_ p (256 - k) k = 256 then -1 else nI (lg_ p (256 - k) k)
theorem r_ffl {st s number : Nat → Int32} {sizes : Nat → Int32} {n l Y S sh : Nat} {K : Int32 → Int32 → (Nat → Int32) → (Nat → Int32) → (Nat → Int32) → Prop} (hl : l < 2) (hY : Y < 100000) (eY : s 0 = nI Y) (hsh : sh < 4) (eS : sizes sh = nI S) (hS : S ≤ 24) (hev : ∀ i, i < 6 → in_ (s (8 + i)) 255) (hrt : rt 0 (nI n) st s) (hn : n ≤ 60)
    (hk : ∀ nm p df, (∀ q, q < 256 → df q = b01 (fi_ st n l Y S s number sh q)) → K (nI (cn_ (fi_ st n l Y S s number sh) 256)) (lo2 (fi_ st n l Y S s number sh) 0) nm p df) :
    ∀ (k : Nat) (nm p df : Nat → Int32), k ≤ 256 → (∀ q, k ≤ q → q < 256 → df q = b01 (fi_ st n l Y S s number sh q)) →
      wpX9_findsFits_L14 (k + 1) (nI sh) (nI l) (nI k + (-1)) (nI (cn_ (fi_ st n l Y S s number sh) 256 - cn_ (fi_ st n l Y S s number sh) k)) (lo2 (fi_ st n l Y S s number sh) k) s sizes number nm p df K := by
  intro k
  induction k with
  | zero =>
    intro nm p df hk2 hd
    rw [wpX9_findsFits_L14]
    exact br_t (by decide) (hk nm p df (fun q hq => hd q (by omega) hq))
  | succ k ih =>
    intro nm p df hk2 hd
    have hc1 := cn_m (fi_ st n l Y S s number sh) (show k + 1 ≤ 256 by omega)
    have hc2 := cn_m (fi_ st n l Y S s number sh) (show k ≤ 256 by omega)
    have hcl := cn_le (fi_ st n l Y S s number sh) 256
    have ec : cn_ (fi_ st n l Y S s number sh) (k + 1) = if fi_ st n l Y S s number sh k = true then cn_ (fi_ st n l Y S s number sh) k + 1 else cn_ (fi_ st n l Y S s number sh) k := rfl
    have e256 : 256 - k = (256 - (k + 1)) + 1 := by omega
    rw [wpX9_findsFits_L14]
    dsimp only
    rw [pk_m1]
    refine br_f (nI_pos (by omega)) (r_is hl hY eY hsh eS hS hev hrt hn (fun nm' p' => ⟨vp_in_nI (by omega) (by decide), vp_in_nI (by omega) (by decide), ?_⟩))
    rw [i_cl (show k < 2147483648 by omega), pk_us]
    have hd' : ∀ v, v = b01 (fi_ st n l Y S s number sh k) → ∀ q, k ≤ q → q < 256 → upd df k v q = b01 (fi_ st n l Y S s number sh q) := by
      intro v hv q h1 h2
      by_cases e : q = k
      · subst e; rw [pk_us]; exact hv
      · rw [pk_un e]; exact hd q (by omega) h2
    by_cases hp : fi_ st n l Y S s number sh k = true
    · have hh := ih nm' p' (upd df k 1) (by omega) (hd' 1 (by rw [hp]; rfl))
      rw [if_pos hp] at ec
      have el : lo2 (fi_ st n l Y S s number sh) k = nI k := by
        unfold lo2
        rw [e256, lg_, if_pos hp, if_neg (by omega)]
      rw [el] at hh
      rw [hp]
      have e1 : vp_nar .boolean (b01 true) = 1 := by decide
      rw [e1]
      refine br_f (by decide) ⟨vp_in_nI (by omega) (by decide), br_f (by decide) ?_⟩
      rw [nI_1, show cn_ (fi_ st n l Y S s number sh) 256 - cn_ (fi_ st n l Y S s number sh) (k + 1) + 1 = cn_ (fi_ st n l Y S s number sh) 256 - cn_ (fi_ st n l Y S s number sh) k by omega]
      exact hh
    · have hp2 : fi_ st n l Y S s number sh k = false := by simpa using hp
      have hh := ih nm' p' (upd df k 0) (by omega) (hd' 0 (by rw [hp2]; rfl))
      rw [if_neg hp] at ec
      have el : lo2 (fi_ st n l Y S s number sh) k = lo2 (fi_ st n l Y S s number sh) (k + 1) := by
        unfold lo2
        rw [e256, lg_, if_neg hp]
      rw [el] at hh
      rw [hp2]
      have e1 : vp_nar .boolean (b01 false) = 0 := by decide
      rw [e1]
      refine br_t rfl ⟨vp_in_nI (by omega) (by decide), br_t rfl ?_⟩
      rw [Int32.add_zero, ec]
      exact hh
theorem r_ff {st s number nm p df : Nat → Int32} {sizes : Nat → Int32} {n l Y S sh : Nat} {fm fl : Int32} {K : Int32 → Int32 → (Nat → Int32) → (Nat → Int32) → (Nat → Int32) → Prop} (hl : l < 2) (hY : Y < 100000) (eY : s 0 = nI Y) (hsh : sh < 4) (eS : sizes sh = nI S) (hS : S ≤ 24) (hev : ∀ i, i < 6 → in_ (s (8 + i)) 255) (hrt : rt 0 (nI n) st s) (hn : n ≤ 60)
    (hk : ∀ nm p df, (∀ q, q < 256 → df q = b01 (fi_ st n l Y S s number sh q)) → K (nI (cn_ (fi_ st n l Y S s number sh) 256)) (lo2 (fi_ st n l Y S s number sh) 0) nm p df) : wpX9_findsFits (nI sh) (nI l) fm fl s sizes number nm p df K := by
  refine ⟨257, ?_⟩
  have h := r_ffl hl hY eY hsh eS hS hev hrt hn hk 256 nm p df (Nat.le_refl _) (fun q h1 h2 => by omega)
  rw [Nat.sub_self] at h
  exact h
/-- the first that fits -/
theorem cn_lg (p : Nat → Bool) : ∀ m k, cn_ p k = 0 → (cn_ p (k + m) = 0 ∧ lg_ p m k = k + m) ∨ (lg_ p m k < k + m ∧ p (lg_ p m k) = true ∧ cn_ p (lg_ p m k) = 0 ∧ 0 < cn_ p (k + m)) := by
  intro m
  induction m with
  | zero => intro k h; exact Or.inl ⟨h, rfl⟩
  | succ m ih =>
    intro k h
    have ec : cn_ p (k + 1) = if p k = true then cn_ p k + 1 else cn_ p k := rfl
    rw [lg_]
    by_cases hp : p k = true
    · rw [if_pos hp] at ec ⊢
      refine Or.inr ⟨by omega, hp, h, ?_⟩
      have := cn_m p (show k + 1 ≤ k + (m + 1) by omega)
      omega
    · rw [if_neg hp] at ec ⊢
      have := ih (k + 1) (by omega)
      rwa [show k + 1 + m = k + (m + 1) by omega] at this

set_option maxRecDepth 20000 in
theorem pf_fits {c d : Nat → Int32} {A B : Nat → Nat → Int32} {nm : Nat} {x2 : Int32} {x3 : Int32} {k : Nat} {bits size : Int32} {numbers : Nat → Int32} (hk : k < 4) (hs : rs k bits size numbers (B 11) (B 12) (B 13)) (hR : rl c A d B nm) : wpX8_fits (nI k) x2 x3 (A 36) bits size (c 29) (c 5) (c 6) (c 32) (c 33) (A 0) (A 28) numbers (A 2) (c 7) (c 8) (c 9) (c 10) 1152 (A 10) (A 8) (A 9) (A 29) (A 30) (fun r8 u0 u1 u2 u3 u4 u5 u6 u7 u8 => wpX9_fits (nI k) x2 x3 (d 5) (d 6) (B 3) (B 11) (B 0) (B 12) (B 13) (B 5) (B 6) (B 7) (fun r9 w0 w1 w2 w3 w4 w5 => r8 = r9 ∧ rl (va_up (va_up (va_up c 29 u1) 32 u2) 33 u3) (va_up (va_up (va_up (va_up (va_up (va_up A 36 u0) 28 u4) 10 u5) 9 u6) 29 u7) 30 u8) (va_up (va_up d 5 w0) 6 w1) (va_up (va_up (va_up (va_up B 3 w2) 5 w3) 6 w4) 7 w5) nm)) := by
  obtain ⟨hw, hi, ht0, ht1, hm0, hm1, him, her, hv, hs0, hs1, hs2, hs3, hnm⟩ := id hR
  obtain ⟨n0, hn0, en0, hok0⟩ := rt_n ht0
  have ht0n : rt 0 (nI n0) (A 8) (B 0) := by rw [← en0]; exact ht0
  have hm0n : rm 30 9 16 (c 7) (c 8) (c 9) (nI n0) (A 8) (A 10) := by rw [← en0]; exact hm0
  obtain ⟨hb1, hb2, hb3, hb4, hb5⟩ := hs
  obtain ⟨S, hS, eS⟩ := in_nI (n := 24) hb4
  obtain ⟨Y, hYn, eY⟩ := in_nI (n := 9999) hi.1
  have hevb : ∀ i, i < 6 → in_ (B 0 (8 + i)) 255 := hi.2.2.2.2.2.2.2.1
  have hsz : B 12 k = nI S := hb2.symm.trans eS
  unfold wpX8_fits wpX9_fits wpX8_isSheet wpX9_isSheet wpX8_isLion wpX9_isLion wpX3_isMissing
  refine w8_t (n := 3) (by omega) (by decide) ⟨rfl, br_f (by decide) ?_⟩
  rcases in_dec x2 1 (by decide) with hx | ⟨l, hl, rfl⟩
  · refine w8_f (n := 1) (by decide) hx ⟨rfl, br_t rfl (e8 (k := 1) (by decide) ?_)⟩
    refine w9_t (n := 3) (by omega) (by decide) ⟨rfl, br_f (by decide) (w9_f (n := 1) (by decide) hx ⟨rfl, br_t rfl (e9 (k := 1) (by decide) ?_)⟩)⟩
    exact ⟨rfl, hw, hi, ht0, ht1, hm0, hm1, him, er_up her (k := 1) (by decide), hv, hs0, hs1, hs2, hs3, hnm⟩
  refine w8_t (n := 1) hl (by decide) ⟨rfl, br_f (by decide) ?_⟩
  rcases in_dec x3 1 (by decide) with hx | ⟨w, hw1, rfl⟩
  · refine w8_f (n := 1) (by decide) hx (br_t rfl (e8 (k := 1) (by decide) ?_))
    refine w9_t (n := 3) (by omega) (by decide) ⟨rfl, br_f (by decide) (w9_t (n := 1) hl (by decide) ⟨rfl, br_f (by decide) (w9_f (n := 1) (by decide) hx (br_t rfl (e9 (k := 1) (by decide) ?_)))⟩)⟩
    exact ⟨rfl, hw, hi, ht0, ht1, hm0, hm1, him, er_up her (k := 1) (by decide), hv, hs0, hs1, hs2, hs3, hnm⟩
  refine w8_t (n := 1) hw1 (by decide) (br_f (by decide) ⟨vp_in_nI hk (by decide), ?_⟩)
  have hl : l < 2 := by omega
  by_cases hz : bits = 0
  · refine br_t hz (br_f (by decide) (e8 (k := 2) (by decide) ?_))
    refine w9_t (n := 3) (by omega) (by decide) ⟨rfl, br_f (by decide) (w9_t (n := 1) (by omega) (by decide) ⟨rfl, br_f (by decide) (w9_t (n := 1) hw1 (by decide) (br_f (by decide) ⟨vp_in_nI hk (by decide), br_t (by rw [i_cl (show k < 2147483648 by omega), ← hb1]; exact hz) (e9 (k := 2) (by decide) ?_)⟩))⟩)⟩
    exact ⟨rfl, hw, hi, ht0, ht1, hm0, hm1, him, er_up her (k := 2) (by decide), hv, hs0, hs1, hs2, hs3, hnm⟩
  have hzb : ¬ B 11 (nI k).toNatClampNeg = 0 := by rw [i_cl (show k < 2147483648 by omega), ← hb1]; exact hz
  refine br_f hz (br_t rfl ⟨vp_in_nI hk (by decide), ?_⟩)
  rw [en0, eS]
  refine ⟨257, c_gal (s := B 0) (number := B 13) (sh := k) hl (by omega) (hw.1.trans eY) hS hw.2.2.2.2.2.2.2.2.1 hevb ?_ hb5 hn0 hok0 (fun year sec jaws mem' sk' turns secrets hm' hsec => ?_) 256 0 _ _ _ (A 10) (A 9) (A 29) (A 30) rfl hm0n (fun q hq => absurd hq (Nat.not_lt_zero q))⟩
  · rcases (show l = 0 ∨ l = 1 by omega) with rfl | rfl
    · exact hw.2.2.2.2.2.2.1
    · exact hw.2.2.2.2.2.2.2.1
  have hm2 : rm 30 9 16 (c 7) (c 8) (c 9) (c 10) (A 8) mem' := by rw [en0]; exact hm'
  have hcl := cn_le (fi_ (A 8) n0 l Y S (B 0) (B 13) k) 256
  rcases (show w = 0 ∨ w = 1 by omega) with rfl | rfl
  · refine br_t rfl ?_
    refine w9_t (n := 3) (by omega) (by decide) ⟨rfl, br_f (by decide) (w9_t (n := 1) (by omega) (by decide) ⟨rfl, br_f (by decide) (w9_t (n := 1) hw1 (by decide) (br_f (by decide) ⟨vp_in_nI hk (by decide), br_f hzb (r_ff hl (by omega) eY hk hsz hS hevb ht0n hn0 (fun nm' p' df hdf => br_t rfl ?_))⟩))⟩)⟩
    exact ⟨rfl, hw, hi, ht0, ht1, hm2, hm1, him, her, hv, hs0, hs1, hs2, hs3, hnm⟩
  · refine br_f (by decide) ?_
    by_cases hc : cn_ (fi_ (A 8) n0 l Y S (B 0) (B 13) k) 256 = 0
    · refine br_t (by rw [hc]; rfl) (e8 (k := 2) (by decide) ?_)
      refine w9_t (n := 3) (by omega) (by decide) ⟨rfl, br_f (by decide) (w9_t (n := 1) (by omega) (by decide) ⟨rfl, br_f (by decide) (w9_t (n := 1) hw1 (by decide) (br_f (by decide) ⟨vp_in_nI hk (by decide), br_f hzb (r_ff hl (by omega) eY hk hsz hS hevb ht0n hn0 (fun nm' p' df hdf => br_f (by decide) (br_t (by rw [hc]; rfl) (e9 (k := 2) (by decide) ?_))))⟩))⟩)⟩
      exact ⟨rfl, hw, hi, ht0, ht1, hm2, hm1, him, er_up her (k := 2) (by decide), hv, hs0, hs1, hs2, hs3, hnm⟩
    · refine br_f (nI_ne0 (by omega) (by omega)) ⟨vp_in_iff.mpr (by decide), ?_⟩
      refine w9_t (n := 3) (by omega) (by decide) ⟨rfl, br_f (by decide) (w9_t (n := 1) (by omega) (by decide) ⟨rfl, br_f (by decide) (w9_t (n := 1) hw1 (by decide) (br_f (by decide) ⟨vp_in_nI hk (by decide), br_f hzb (r_ff hl (by omega) eY hk hsz hS hevb ht0n hn0 (fun nm' p' df hdf => br_f (by decide) (br_f (nI_ne0 (by omega) (by omega)) ?_)))⟩))⟩)⟩
      rcases cn_lg (fi_ (A 8) n0 l Y S (B 0) (B 13) k) 256 0 rfl with ⟨h1, -⟩ | ⟨h1, h2, h3, -⟩
      · exact absurd (by rw [Nat.zero_add] at h1; exact h1) hc
      · have e := hsec _ (by omega) h2
        rw [h3] at e
        have e2 : lo2 (fi_ (A 8) n0 l Y S (B 0) (B 13) k) 0 = nI (lg_ (fi_ (A 8) n0 l Y S (B 0) (B 13) k) 256 0) := if_neg (show ¬ lg_ (fi_ (A 8) n0 l Y S (B 0) (B 13) k) 256 0 = 256 by omega)
        exact ⟨by rw [c_0, e, e2], hw, hi, ht0, ht1, hm2, hm1, him, her, hv, hs0, hs1, hs2, hs3, hnm⟩
set_option maxRecDepth 20000 in
theorem pf_fits_o {c d : Nat → Int32} {A B : Nat → Nat → Int32} {nm : Nat} {x1 : Int32} {x2 : Int32} {x3 : Int32} {bits size : Int32} {numbers : Nat → Int32} (hx1 : ¬ vp_in x1 4) (hR : rl c A d B nm) : wpX8_fits x1 x2 x3 (A 36) bits size (c 29) (c 5) (c 6) (c 32) (c 33) (A 0) (A 28) numbers (A 2) (c 7) (c 8) (c 9) (c 10) 1152 (A 10) (A 8) (A 9) (A 29) (A 30) (fun r8 u0 u1 u2 u3 u4 u5 u6 u7 u8 => wpX9_fits x1 x2 x3 (d 5) (d 6) (B 3) (B 11) (B 0) (B 12) (B 13) (B 5) (B 6) (B 7) (fun r9 w0 w1 w2 w3 w4 w5 => r8 = r9 ∧ rl (va_up (va_up (va_up c 29 u1) 32 u2) 33 u3) (va_up (va_up (va_up (va_up (va_up (va_up A 36 u0) 28 u4) 10 u5) 9 u6) 29 u7) 30 u8) (va_up (va_up d 5 w0) 6 w1) (va_up (va_up (va_up (va_up B 3 w2) 5 w3) 6 w4) 7 w5) nm)) := by
  obtain ⟨hw, hi, ht0, ht1, hm0, hm1, him, her, hv, hs0, hs1, hs2, hs3, hnm⟩ := id hR
  have hx : ¬ in_ x1 (3 : Nat) := fun q => hx1 (vp_in_iff.mpr (by unfold in_ at q; omega))
  unfold wpX8_fits wpX8_isSheet
  refine w8_f (n := 3) (by decide) hx ⟨rfl, br_t rfl (e8 (k := 1) (by decide) ?_)⟩
  unfold wpX9_fits wpX9_isSheet
  refine w9_f (n := 3) (by decide) hx ⟨rfl, br_t rfl (e9 (k := 1) (by decide) ?_)⟩
  exact ⟨rfl, hw, hi, ht0, ht1, hm0, hm1, him, er_up her (k := 1) (by decide), hv, hs0, hs1, hs2, hs3, hnm⟩
theorem pc_fits_0 {c d : Nat → Int32} {A B : Nat → Nat → Int32} {nm : Nat} {x1 : Int32} {x2 : Int32} {x3 : Int32} (hR : rl c A d B nm) (hx1 : x1 = 0) : wpX8_fits x1 x2 x3 (A 36) (c 42) (c 43) (c 29) (c 5) (c 6) (c 32) (c 33) (A 0) (A 28) (A 37) (A 2) (c 7) (c 8) (c 9) (c 10) 1152 (A 10) (A 8) (A 9) (A 29) (A 30) (fun r8 u0 u1 u2 u3 u4 u5 u6 u7 u8 => wpX9_fits x1 x2 x3 (d 5) (d 6) (B 3) (B 11) (B 0) (B 12) (B 13) (B 5) (B 6) (B 7) (fun r9 w0 w1 w2 w3 w4 w5 => r8 = r9 ∧ rl (va_up (va_up (va_up c 29 u1) 32 u2) 33 u3) (va_up (va_up (va_up (va_up (va_up (va_up A 36 u0) 28 u4) 10 u5) 9 u6) 29 u7) 30 u8) (va_up (va_up d 5 w0) 6 w1) (va_up (va_up (va_up (va_up B 3 w2) 5 w3) 6 w4) 7 w5) nm)) := by
  subst hx1
  exact pf_fits (k := 0) (by decide) hR.2.2.2.2.2.2.2.2.2.1 hR
theorem pc_fits_1 {c d : Nat → Int32} {A B : Nat → Nat → Int32} {nm : Nat} {x1 : Int32} {x2 : Int32} {x3 : Int32} (hR : rl c A d B nm) (hx1 : x1 = 1) : wpX8_fits x1 x2 x3 (A 36) (c 44) (c 45) (c 29) (c 5) (c 6) (c 32) (c 33) (A 0) (A 28) (A 38) (A 2) (c 7) (c 8) (c 9) (c 10) 1152 (A 10) (A 8) (A 9) (A 29) (A 30) (fun r8 u0 u1 u2 u3 u4 u5 u6 u7 u8 => wpX9_fits x1 x2 x3 (d 5) (d 6) (B 3) (B 11) (B 0) (B 12) (B 13) (B 5) (B 6) (B 7) (fun r9 w0 w1 w2 w3 w4 w5 => r8 = r9 ∧ rl (va_up (va_up (va_up c 29 u1) 32 u2) 33 u3) (va_up (va_up (va_up (va_up (va_up (va_up A 36 u0) 28 u4) 10 u5) 9 u6) 29 u7) 30 u8) (va_up (va_up d 5 w0) 6 w1) (va_up (va_up (va_up (va_up B 3 w2) 5 w3) 6 w4) 7 w5) nm)) := by
  subst hx1
  exact pf_fits (k := 1) (by decide) hR.2.2.2.2.2.2.2.2.2.2.1 hR
theorem pc_fits_2 {c d : Nat → Int32} {A B : Nat → Nat → Int32} {nm : Nat} {x1 : Int32} {x2 : Int32} {x3 : Int32} (hR : rl c A d B nm) (hx1 : x1 = 2) : wpX8_fits x1 x2 x3 (A 36) (c 46) (c 47) (c 29) (c 5) (c 6) (c 32) (c 33) (A 0) (A 28) (A 39) (A 2) (c 7) (c 8) (c 9) (c 10) 1152 (A 10) (A 8) (A 9) (A 29) (A 30) (fun r8 u0 u1 u2 u3 u4 u5 u6 u7 u8 => wpX9_fits x1 x2 x3 (d 5) (d 6) (B 3) (B 11) (B 0) (B 12) (B 13) (B 5) (B 6) (B 7) (fun r9 w0 w1 w2 w3 w4 w5 => r8 = r9 ∧ rl (va_up (va_up (va_up c 29 u1) 32 u2) 33 u3) (va_up (va_up (va_up (va_up (va_up (va_up A 36 u0) 28 u4) 10 u5) 9 u6) 29 u7) 30 u8) (va_up (va_up d 5 w0) 6 w1) (va_up (va_up (va_up (va_up B 3 w2) 5 w3) 6 w4) 7 w5) nm)) := by
  subst hx1
  exact pf_fits (k := 2) (by decide) hR.2.2.2.2.2.2.2.2.2.2.2.1 hR
theorem pc_fits_3 {c d : Nat → Int32} {A B : Nat → Nat → Int32} {nm : Nat} {x1 : Int32} {x2 : Int32} {x3 : Int32} (hR : rl c A d B nm) (hx1 : x1 = 3) : wpX8_fits x1 x2 x3 (A 36) (c 48) (c 49) (c 29) (c 5) (c 6) (c 32) (c 33) (A 0) (A 28) (A 40) (A 2) (c 7) (c 8) (c 9) (c 10) 1152 (A 10) (A 8) (A 9) (A 29) (A 30) (fun r8 u0 u1 u2 u3 u4 u5 u6 u7 u8 => wpX9_fits x1 x2 x3 (d 5) (d 6) (B 3) (B 11) (B 0) (B 12) (B 13) (B 5) (B 6) (B 7) (fun r9 w0 w1 w2 w3 w4 w5 => r8 = r9 ∧ rl (va_up (va_up (va_up c 29 u1) 32 u2) 33 u3) (va_up (va_up (va_up (va_up (va_up (va_up A 36 u0) 28 u4) 10 u5) 9 u6) 29 u7) 30 u8) (va_up (va_up d 5 w0) 6 w1) (va_up (va_up (va_up (va_up B 3 w2) 5 w3) 6 w4) 7 w5) nm)) := by
  subst hx1
  exact pf_fits (k := 3) (by decide) hR.2.2.2.2.2.2.2.2.2.2.2.2.1 hR
theorem pc_fits_o {c d : Nat → Int32} {A B : Nat → Nat → Int32} {nm : Nat} {x1 : Int32} {x2 : Int32} {x3 : Int32} (hR : rl c A d B nm) (hx1 : ¬ vp_in x1 4) : wpX8_fits x1 x2 x3 (A 36) (c 42) (c 43) (c 29) (c 5) (c 6) (c 32) (c 33) (A 0) (A 28) (A 37) (A 2) (c 7) (c 8) (c 9) (c 10) 1152 (A 10) (A 8) (A 9) (A 29) (A 30) (fun r8 u0 u1 u2 u3 u4 u5 u6 u7 u8 => wpX9_fits x1 x2 x3 (d 5) (d 6) (B 3) (B 11) (B 0) (B 12) (B 13) (B 5) (B 6) (B 7) (fun r9 w0 w1 w2 w3 w4 w5 => r8 = r9 ∧ rl (va_up (va_up (va_up c 29 u1) 32 u2) 33 u3) (va_up (va_up (va_up (va_up (va_up (va_up A 36 u0) 28 u4) 10 u5) 9 u6) 29 u7) 30 u8) (va_up (va_up d 5 w0) 6 w1) (va_up (va_up (va_up (va_up B 3 w2) 5 w3) 6 w4) 7 w5) nm)) := pf_fits_o hx1 hR
