/-! texts that are read -/
section Texts
def ch_ (n : Nat) (t : Nat → Int32) (i : Nat) : Int32 := if i < n then t i &&& 255 else -1
def hh_ : List (Int32 × Int32 × Int32) → Nat
  | [] => 0
  | e :: T => if -3 ≤ e.1 then hh_ T + 1 else if e.1 = -33 then hh_ T else hh_ T - 1
def hw_ (u : Nat) : List (Int32 × Int32 × Int32) → Prop
  | [] => True
  | e :: T => hw_ u T ∧ tx_e u e.1 e.2.1 e.2.2 ∧ ((-3 ≤ e.1 ∧ e.1 ≤ 9999) ∨ (e.1 = -33 ∧ 1 ≤ hh_ T) ∨ ((e.1 = -124 ∨ e.1 = -38 ∨ e.1 = -60 ∨ e.1 = -61 ∨ e.1 = -62 ∨ e.1 = -43 ∨ e.1 = -45 ∨ e.1 = -42 ∨ e.1 = -47 ∨ e.1 = -37) ∧ 2 ≤ hh_ T))
def fx_ (T : List (Int32 × Int32 × Int32)) : List Int32 := T.map (fun e => e.1)
def fl_ : List (Int32 × Int32 × Int32) → List Int32
  | [] => []
  | e :: T => e.2.2 :: e.2.1 :: fl_ T
theorem fx_n (T : List (Int32 × Int32 × Int32)) : (fx_ T).length = T.length := List.length_map _
theorem fl_n (T : List (Int32 × Int32 × Int32)) : (fl_ T).length = 2 * T.length := by
  induction T with
  | nil => rfl
  | cons e T ih =>
    show (fl_ T).length + 1 + 1 = 2 * (T.length + 1)
    rw [ih]; omega
def q8 (b : Bool) (i' : Nat) (T' : List (Int32 × Int32 × Int32)) (K : Int32 → Int32 → Int32 → (Nat → Int32) → Prop) : Prop :=
  ∀ len st, (b = true → len = nI T'.length ∧ pl_ok st (fx_ T')) → K (if b = true then 1 else 0) (nI i') len st
def q9 (op : Nat) (b : Bool) (i' : Nat) (T' : List (Int32 × Int32 × Int32)) (K : Int32 → Int32 → Int32 → Int32 → (Nat → Int32) → Prop) : Prop :=
  ∀ o len z, (b = true → o = nI op ∧ len = nI T'.length ∧ pl_ok z (fl_ T')) → K (if b = true then 1 else 0) (nI i') o len z
def qf (u n i : Nat) (T : List (Int32 × Int32 × Int32)) (b : Bool) (i' : Nat) (T' : List (Int32 × Int32 × Int32)) : Prop :=
  i ≤ i' ∧ i' ≤ n ∧ T'.length + i ≤ T.length + i' ∧ (b = true → i < i' ∧ hh_ T' = hh_ T + 1 ∧ (hw_ u T → hw_ u T'))
def LV (u n : Nat) (t s : Nat → Int32) (lev op i : Nat) (T : List (Int32 × Int32 × Int32)) : Prop :=
  ∃ b i' T', qf u n i T b i' T' ∧
    (∀ d st K, 8 * (5 - op) + (7 - lev) ≤ d → pl_ok st (fx_ T) → q8 b i' T' K → wpG4 d 0 (nI lev) (nI op) (nI n) (nI i) u (nI T.length) t st K) ∧
    (∀ d z K, 8 * (5 - op) + (6 - lev) ≤ d → pl_ok z (fl_ T) → q9 op b i' T' K → wpG9 d lev (nI i) (nI op) (nI T.length) (nI u) s z K)
def SN (u n : Nat) (t s : Nat → Int32) (op i : Nat) (T : List (Int32 × Int32 × Int32)) : Prop :=
  ∃ b i' T', qf u n i T b i' T' ∧
    (∀ d st K, 8 * (5 - op) + 1 ≤ d → pl_ok st (fx_ T) → q8 b i' T' K → wpG4 d 1 (nI op) 0 (nI n) (nI i) u (nI T.length) t st K) ∧
    (∀ d z K, 8 * (5 - op) + 1 ≤ d → pl_ok z (fl_ T) → q9 op b i' T' K → wpG9 d 5 (nI i) (nI op) (nI T.length) (nI u) s z K)

def lv_ (x : Int32) : Int32 := if x = 37 then 4 else if x = 38 then 1 else if x = 42 then 4 else if x = 43 then 3 else if x = 45 then 3 else if x = 47 then 4 else if x = 60 then 2 else if x = 61 then 2 else if x = 62 then 2 else if x = 124 then 0 else -1
theorem c_lv {x : Int32} {K : Int32 → Prop} (hk : K (lv_ x)) : wpX4_levelOf x K := by
  unfold lv_ at hk
  unfold wpX4_levelOf
  by_cases h37 : x = 37
  · rw [if_pos h37] at hk; exact br_t h37 hk
  rw [if_neg h37] at hk; refine br_f h37 ?_
  by_cases h38 : x = 38
  · rw [if_pos h38] at hk; exact br_t h38 hk
  rw [if_neg h38] at hk; refine br_f h38 ?_
  by_cases h42 : x = 42
  · rw [if_pos h42] at hk; exact br_t h42 hk
  rw [if_neg h42] at hk; refine br_f h42 ?_
  by_cases h43 : x = 43
  · rw [if_pos h43] at hk; exact br_t h43 hk
  rw [if_neg h43] at hk; refine br_f h43 ?_
  by_cases h45 : x = 45
  · rw [if_pos h45] at hk; exact br_t h45 hk
  rw [if_neg h45] at hk; refine br_f h45 ?_
  by_cases h47 : x = 47
  · rw [if_pos h47] at hk; exact br_t h47 hk
  rw [if_neg h47] at hk; refine br_f h47 ?_
  by_cases h60 : x = 60
  · rw [if_pos h60] at hk; exact br_t h60 hk
  rw [if_neg h60] at hk; refine br_f h60 ?_
  by_cases h61 : x = 61
  · rw [if_pos h61] at hk; exact br_t h61 hk
  rw [if_neg h61] at hk; refine br_f h61 ?_
  by_cases h62 : x = 62
  · rw [if_pos h62] at hk; exact br_t h62 hk
  rw [if_neg h62] at hk; refine br_f h62 ?_
  by_cases h124 : x = 124
  · rw [if_pos h124] at hk; exact br_t h124 hk
  rw [if_neg h124] at hk; refine br_f h124 ?_
  exact hk
theorem lv_c (x : Int32) : (x = 37 ∧ lv_ x = nI 4) ∨ (x = 38 ∧ lv_ x = nI 1) ∨ (x = 42 ∧ lv_ x = nI 4) ∨ (x = 43 ∧ lv_ x = nI 3) ∨ (x = 45 ∧ lv_ x = nI 3) ∨ (x = 47 ∧ lv_ x = nI 4) ∨ (x = 60 ∧ lv_ x = nI 2) ∨ (x = 61 ∧ lv_ x = nI 2) ∨ (x = 62 ∧ lv_ x = nI 2) ∨ (x = 124 ∧ lv_ x = nI 0) ∨ (lv_ x = -1 ∧ ¬ x = 37 ∧ ¬ x = 38 ∧ ¬ x = 42 ∧ ¬ x = 43 ∧ ¬ x = 45 ∧ ¬ x = 47 ∧ ¬ x = 60 ∧ ¬ x = 61 ∧ ¬ x = 62 ∧ ¬ x = 124) := by
  by_cases h37 : x = 37
  · subst h37; exact (Or.inl ⟨rfl, by decide⟩)
  by_cases h38 : x = 38
  · subst h38; exact (Or.inr (Or.inl ⟨rfl, by decide⟩))
  by_cases h42 : x = 42
  · subst h42; exact (Or.inr (Or.inr (Or.inl ⟨rfl, by decide⟩)))
  by_cases h43 : x = 43
  · subst h43; exact (Or.inr (Or.inr (Or.inr (Or.inl ⟨rfl, by decide⟩))))
  by_cases h45 : x = 45
  · subst h45; exact (Or.inr (Or.inr (Or.inr (Or.inr (Or.inl ⟨rfl, by decide⟩)))))
  by_cases h47 : x = 47
  · subst h47; exact (Or.inr (Or.inr (Or.inr (Or.inr (Or.inr (Or.inl ⟨rfl, by decide⟩))))))
  by_cases h60 : x = 60
  · subst h60; exact (Or.inr (Or.inr (Or.inr (Or.inr (Or.inr (Or.inr (Or.inl ⟨rfl, by decide⟩)))))))
  by_cases h61 : x = 61
  · subst h61; exact (Or.inr (Or.inr (Or.inr (Or.inr (Or.inr (Or.inr (Or.inr (Or.inl ⟨rfl, by decide⟩))))))))
  by_cases h62 : x = 62
  · subst h62; exact (Or.inr (Or.inr (Or.inr (Or.inr (Or.inr (Or.inr (Or.inr (Or.inr (Or.inl ⟨rfl, by decide⟩)))))))))
  by_cases h124 : x = 124
  · subst h124; exact (Or.inr (Or.inr (Or.inr (Or.inr (Or.inr (Or.inr (Or.inr (Or.inr (Or.inr (Or.inl ⟨rfl, by decide⟩))))))))))
  refine (Or.inr (Or.inr (Or.inr (Or.inr (Or.inr (Or.inr (Or.inr (Or.inr (Or.inr (Or.inr ⟨?_, h37, h38, h42, h43, h45, h47, h60, h61, h62, h124⟩))))))))))
  unfold lv_
  rw [if_neg h37, if_neg h38, if_neg h42, if_neg h43, if_neg h45, if_neg h47, if_neg h60, if_neg h61, if_neg h62, if_neg h124]
theorem lv_s {x : Int32} {lev : Nat} (hl : lev < 5) (h : lv_ x = nI lev) : tx_s x ∧ -x < -3 ∧ ¬ -x = -33 ∧ (-x = -124 ∨ -x = -38 ∨ -x = -60 ∨ -x = -61 ∨ -x = -62 ∨ -x = -43 ∨ -x = -45 ∨ -x = -42 ∨ -x = -47 ∨ -x = -37) := by
  rcases lv_c x with ⟨e, -⟩ | ⟨e, -⟩ | ⟨e, -⟩ | ⟨e, -⟩ | ⟨e, -⟩ | ⟨e, -⟩ | ⟨e, -⟩ | ⟨e, -⟩ | ⟨e, -⟩ | ⟨e, -⟩ | ⟨e, -⟩
  · subst e; exact ⟨by unfold tx_s; decide, by decide, by decide, by decide⟩
  · subst e; exact ⟨by unfold tx_s; decide, by decide, by decide, by decide⟩
  · subst e; exact ⟨by unfold tx_s; decide, by decide, by decide, by decide⟩
  · subst e; exact ⟨by unfold tx_s; decide, by decide, by decide, by decide⟩
  · subst e; exact ⟨by unfold tx_s; decide, by decide, by decide, by decide⟩
  · subst e; exact ⟨by unfold tx_s; decide, by decide, by decide, by decide⟩
  · subst e; exact ⟨by unfold tx_s; decide, by decide, by decide, by decide⟩
  · subst e; exact ⟨by unfold tx_s; decide, by decide, by decide, by decide⟩
  · subst e; exact ⟨by unfold tx_s; decide, by decide, by decide, by decide⟩
  · subst e; exact ⟨by unfold tx_s; decide, by decide, by decide, by decide⟩
  · rw [e] at h
    rcases (show lev = 0 ∨ lev = 1 ∨ lev = 2 ∨ lev = 3 ∨ lev = 4 by omega) with rfl | rfl | rfl | rfl | rfl <;> exact absurd h (by decide)
variable {u n : Nat} {t s : Nat → Int32}
theorem ch_b (n : Nat) (t : Nat → Int32) {i : Nat} (hi : i < n) : ∃ b : Nat, b < 256 ∧ ch_ n t i = nI b := by
  obtain ⟨b, hb, e⟩ := pk_andE (t i) (m := 255) 8 (by decide)
  exact ⟨b, hb, (if_pos hi).trans e⟩
theorem lv_i {i lev : Nat} (hl : lev < 5) (h : lv_ (ch_ n t i) = nI lev) : i < n := by
  rcases Nat.lt_or_ge i n with q | q
  · exact q
  · rw [show ch_ n t i = -1 from if_neg (by omega)] at h
    rcases (show lev = 0 ∨ lev = 1 ∨ lev = 2 ∨ lev = 3 ∨ lev = 4 by omega) with rfl | rfl | rfl | rfl | rfl <;> exact absurd h (by decide)
theorem c_nx {i : Nat} {K : Int32 → Prop} (hn : n ≤ 60) (hi : i ≤ n) (hk : K (ch_ n t i)) : wpX4_next (nI n) (nI i) t K := by
  unfold ch_ at hk
  refine br_f (nI_pos (by omega)) ?_
  by_cases h : i < n
  · rw [if_pos h] at hk
    refine br_f (nI_ge h (by omega)) ⟨vp_in_nI (by omega) (by decide), ?_⟩
    rw [i_cl (show i < 2147483648 by omega)]
    exact hk
  · rw [if_neg h] at hk
    exact br_t (nI_le (by omega) (by omega)) hk
theorem r_lk {i : Nat} {K : Int32 → Prop} (hn : n ≤ 60) (h5 : s 5 = nI n) (hb : ∀ i, i < n → t i &&& 255 = s (282 + i)) (hi : i ≤ n) (hk : K (ch_ n t i)) : wpX9_look (nI i) s K := by
  unfold ch_ at hk
  unfold wpX9_look
  rw [show (5 : Int32).toNatClampNeg = 5 from rfl, h5, show (282 + nI i : Int32) = nI (282 + i) by rw [show (282 : Int32) = nI 282 from rfl, nI_add]]
  refine ⟨vp_in_iff.mpr (by decide), ?_⟩
  by_cases h : i < n
  · rw [if_pos h, hb i h] at hk
    refine br_f (nI_ge h (by omega)) ⟨vp_in_nI (by omega) (by decide), ?_⟩
    rw [i_cl (show 282 + i < 2147483648 by omega)]
    exact hk
  · rw [if_neg h] at hk
    exact br_t (nI_le (by omega) (by omega)) hk
theorem c_ad {x : Int32} {st : Nat → Int32} {T : List (Int32 × Int32 × Int32)} {K : Int32 → (Nat → Int32) → Prop} (hT : T.length < 60) (hp : pl_ok st (fx_ T)) (hk : ∀ st', pl_ok st' (x :: fx_ T) → K (nI (T.length + 1)) st') : wpX4_add x (nI T.length) st K := by
  refine br_f (nI_pos (by omega)) (br_f (show ¬ nI 60 ≤ nI T.length from nI_ge hT (by decide)) ⟨vp_in_nI hT (by decide), ?_⟩)
  rw [nI_1, i_cl (show T.length < 2147483648 by omega)]
  have h := pl_push x hp
  rw [fx_n] at h
  exact hk _ h
theorem r_st {w v : Int32} {z : Nat → Int32} {T : List (Int32 × Int32 × Int32)} {K : Int32 → (Nat → Int32) → Prop} (hT : T.length < 60) (hp : pl_ok z (fl_ T)) (hk : ∀ z', pl_ok z' (v :: w :: fl_ T) → K (nI (T.length + 1)) z') : wpX9_step1 w v (nI T.length) z K := by
  unfold wpX9_step1
  rw [show (2 * nI T.length : Int32) = nI (2 * T.length) by rw [show (2 : Int32) = nI 2 from rfl, pk_mul], nI_1, nI_1, i_cl (show 2 * T.length < 2147483648 by omega), i_cl (show 2 * T.length + 1 < 2147483648 by omega)]
  refine ⟨vp_in_nI (by omega) (by decide), vp_in_nI (by omega) (by decide), ?_⟩
  have h := pl_push v (pl_push w hp)
  rw [List.length_cons, fl_n] at h
  exact hk _ h
def dg_ (c : Int32) : Prop := ¬ c < 48 ∧ ¬ 57 < c
theorem c_dg {c : Int32} {K : Int32 → Prop} (h1 : dg_ c → K 1) (h0 : ¬ dg_ c → K 0) : wpX4_isDigit c K :=
  ⟨fun a => h0 (fun q => q.1 a), fun a => ⟨fun b => h0 (fun q => q.2 b), fun b => h1 ⟨a, b⟩⟩⟩
theorem r_dg {c : Int32} {K : Int32 → Prop} (h1 : dg_ c → K 1) (h0 : ¬ dg_ c → K 0) : wpX9_in c 48 57 K :=
  ⟨fun a => h0 (fun q => q.1 a), fun a => ⟨fun b => h0 (fun q => q.2 b), fun b => h1 ⟨a, b⟩⟩⟩
theorem dg_b {i : Nat} (h : dg_ (ch_ n t i)) : ∃ b : Nat, 48 ≤ b ∧ b ≤ 57 ∧ i < n ∧ ch_ n t i = nI b := by
  rcases Nat.lt_or_ge i n with q | q
  · obtain ⟨b, hb, e⟩ := ch_b n t q
    rw [e] at h
    refine ⟨b, ?_, ?_, q, e⟩
    · rcases Nat.lt_or_ge b 48 with z | z
      · exact absurd (show nI b < nI 48 from nI_lt z (by decide)) h.1
      · exact z
    · rcases Nat.lt_or_ge 57 b with z | z
      · exact absurd (show nI 57 < nI b from nI_lt z (by omega)) h.2
      · exact z
  · rw [show ch_ n t i = -1 from if_neg (by omega)] at h
    exact absurd (by decide) h.1
theorem nr (hn : n ≤ 60) (h5 : s 5 = nI n) (hb : ∀ i, i < n → t i &&& 255 = s (282 + i)) : ∀ m k i v, m + k = 4 → i ≤ n → ((m = 0 ∧ v < 10000) ∨ (m = 1 ∧ v < 1000) ∨ (m = 2 ∧ v < 100) ∨ (m = 3 ∧ v < 10) ∨ (m = 4 ∧ v = 0)) →
    ∃ i' v' : Nat, i ≤ i' ∧ i' ≤ n ∧ v' ≤ 9999 ∧ (0 < m → dg_ (ch_ n t i) → i < i') ∧
      (∀ f, m < f → ∀ len st K, wpX4_add (nI v') len st (fun a b => K (nI i') a b) → wpX4_readNumber_L4 f (nI v) (nI k) (nI n) (nI i) len st t K) ∧
      (∀ f, m < f → ∀ R0 R1 R2 R3 R4 R5 y1 o len z K, wpX9_step1 0 (nI v') len z (fun a b => K 1 (nI i') o a b) → wpX9_one_L46 R0 R1 R2 R3 R4 R5 f y1 (nI v) (nI k) (nI i) o len (nI u) s z K) := by
  intro m
  induction m with
  | zero =>
    intro k i v hk hi hv
    refine ⟨i, v, by omega, hi, by omega, fun h => absurd h (Nat.lt_irrefl 0), fun f hf len st K hK => ?_, fun f hf R0 R1 R2 R3 R4 R5 y1 o len z K hK => ?_⟩
    · obtain ⟨f, rfl⟩ : ∃ g, f = g + 1 := ⟨f - 1, by omega⟩
      exact br_t (show nI 4 ≤ nI k from nI_le (by omega) (by omega)) hK
    · obtain ⟨f, rfl⟩ : ∃ g, f = g + 1 := ⟨f - 1, by omega⟩
      exact br_t (show nI 4 ≤ nI k from nI_le (by omega) (by omega)) hK
  | succ m ih =>
    intro k i v hk hi hv
    rcases Classical.em (dg_ (ch_ n t i)) with hd | hd
    · obtain ⟨b, b1, b2, hin, eb⟩ := dg_b hd
      obtain ⟨i', v', g1, g2, g3, -, c2, r2⟩ := ih (k + 1) (i + 1) (10 * v + (b - 48)) (by omega) (by omega) (by omega)
      refine ⟨i', v', by omega, g2, g3, fun _ _ => by omega, fun f hf len st K hK => ?_, fun f hf R0 R1 R2 R3 R4 R5 y1 o len z K hK => ?_⟩
      · obtain ⟨f, rfl⟩ : ∃ g, f = g + 1 := ⟨f - 1, by omega⟩
        refine br_f (show ¬ nI 4 ≤ nI k from nI_ge (by omega) (by decide)) (c_nx hn hi (c_dg (fun _ => br_f (by decide) (c_nx hn hi ?_)) (fun q => absurd hd q)))
        rw [eb, show ((nI v * 10 + nI b) - 48 : Int32) = nI (10 * v + (b - 48)) by rw [show (10 : Int32) = nI 10 from rfl, pk_mul, nI_add, show (48 : Int32) = nI 48 from rfl, pk_sub (by omega)]; congr 1; omega, nI_1, nI_1]
        exact c2 f (by omega) len st K hK
      · obtain ⟨f, rfl⟩ : ∃ g, f = g + 1 := ⟨f - 1, by omega⟩
        refine br_f (show ¬ nI 4 ≤ nI k from nI_ge (by omega) (by decide)) (r_lk hn h5 hb hi (r_dg (fun _ => br_f (by decide) (r_lk hn h5 hb hi ?_)) (fun q => absurd hd q)))
        rw [eb, show ((10 * nI v + nI b) - 48 : Int32) = nI (10 * v + (b - 48)) by rw [show (10 : Int32) = nI 10 from rfl, pk_mul, nI_add, show (48 : Int32) = nI 48 from rfl, pk_sub (by omega)]; congr 1; omega, nI_1, nI_1]
        exact r2 f (by omega) R0 R1 R2 R3 R4 R5 y1 o len z K hK
    · refine ⟨i, v, by omega, hi, by omega, fun _ h => absurd h hd, fun f hf len st K hK => ?_, fun f hf R0 R1 R2 R3 R4 R5 y1 o len z K hK => ?_⟩
      · obtain ⟨f, rfl⟩ : ∃ g, f = g + 1 := ⟨f - 1, by omega⟩
        exact br_f (show ¬ nI 4 ≤ nI k from nI_ge (by omega) (by decide)) (c_nx hn hi (c_dg (fun q => absurd q hd) (fun _ => br_t rfl hK)))
      · obtain ⟨f, rfl⟩ : ∃ g, f = g + 1 := ⟨f - 1, by omega⟩
        exact br_f (show ¬ nI 4 ≤ nI k from nI_ge (by omega) (by decide)) (r_lk hn h5 hb hi (r_dg (fun q => absurd q hd) (fun _ => br_t rfl hK)))
def ix_ (u : Nat) (x : Int32) : Nat := if x = (if u = 0 then 98 else 114) then 0 else if x = (if u = 0 then 101 else 106) then 1 else if x = 121 then 2 else 3
theorem r_nm {u : Nat} {x : Int32} {K : Int32 → Prop} (hu : u < 2) (hk : K (if ix_ u x = 3 then 0 else 1)) : wpX9_isName x (nI u) K := by
  unfold wpX9_isName
  rcases (show u = 0 ∨ u = 1 by omega) with rfl | rfl
  · refine br_t rfl ?_
    by_cases h1 : x = 98
    · rw [show ix_ 0 x = 0 from if_pos h1] at hk; exact br_t h1 (br_f (by decide) hk)
    refine br_f h1 ?_
    by_cases h2 : x = 101
    · rw [show ix_ 0 x = 1 from (if_neg h1).trans (if_pos h2)] at hk; exact br_t h2 (br_f (by decide) hk)
    refine br_f h2 (br_t rfl ?_)
    by_cases h3 : x = 121
    · rw [show ix_ 0 x = 2 from (if_neg h1).trans ((if_neg h2).trans (if_pos h3))] at hk; exact br_t h3 hk
    · rw [show ix_ 0 x = 3 from (if_neg h1).trans ((if_neg h2).trans (if_neg h3))] at hk; exact br_f h3 hk
  · refine br_f (by decide) ?_
    by_cases h1 : x = 114
    · rw [show ix_ 1 x = 0 from if_pos h1] at hk; exact br_t h1 (br_f (by decide) hk)
    refine br_f h1 ?_
    by_cases h2 : x = 106
    · rw [show ix_ 1 x = 1 from (if_neg h1).trans (if_pos h2)] at hk; exact br_t h2 (br_f (by decide) hk)
    refine br_f h2 (br_t rfl ?_)
    by_cases h3 : x = 121
    · rw [show ix_ 1 x = 2 from (if_neg h1).trans ((if_neg h2).trans (if_pos h3))] at hk; exact br_t h3 hk
    · rw [show ix_ 1 x = 3 from (if_neg h1).trans ((if_neg h2).trans (if_neg h3))] at hk; exact br_f h3 hk
theorem ix_e1 : ∀ b, b < 256 → ((nI b).toUInt32 % 65536).toInt32 = nI b := by decide +kernel
theorem ix_e2 : ∀ u, u < 2 → ∀ b, b < 256 → (tb_str u 0 = (nI b).toInt8.toInt32 ↔ nI b = (if u = 0 then 98 else 114)) ∧ (tb_str u 1 = (nI b).toInt8.toInt32 ↔ nI b = (if u = 0 then 101 else 106)) ∧ (tb_str u 2 = (nI b).toInt8.toInt32 ↔ nI b = 121) := by decide +kernel
theorem c_ix {u b : Nat} {K : Int32 → Prop} (hu : u < 2) (hb : b < 256) (hk : K (if ix_ u (nI b) = 3 then -1 else nI (ix_ u (nI b)))) : wpJ0_indexOf_0f7a4 u ((nI b).toUInt32 % 65536).toInt32 K := by
  have h3 : u < 3 := by omega
  have hl : tb_len u = 3 := (by decide : ∀ u, u < 2 → tb_len u = 3) u hu
  obtain ⟨z0, z1, z2⟩ := ix_e2 u hu b hb
  rw [ix_e1 b hb]
  unfold wpJ0_indexOf_0f7a4 wpJ0_indexOf_7cf53 wpJ0_isLatin1_aae02 wpJ0_length_8abf5 wpJ0_coder_7d493 wpJ1_indexOf_4cfef wpJ1_canEncode_9a6ad wpJ1_indexOfChar_4cfef
  rw [hl]
  refine ⟨h3, h3, br_f (by decide) ⟨h3, br_t rfl (br_f (by decide) ⟨h3, h3, h3, h3, h3, br_f (by decide) ⟨h3, br_f (nI_pos (by omega)) (br_f (show ¬ nI 255 < nI b from nI_nlt (by omega) (by decide)) (br_f (by decide) ⟨h3, br_t (by decide) ⟨4, ?_⟩⟩))⟩⟩)⟩⟩
  refine br_f (by decide) ⟨h3, by rw [hl]; exact vp_in_iff.mpr (by decide), ?_⟩
  by_cases h0 : nI b = (if u = 0 then 98 else 114)
  · rw [show ix_ u (nI b) = 0 from if_pos h0] at hk
    exact br_t (z0.mpr h0) hk
  refine br_f (fun q => h0 (z0.mp q)) (br_f (by decide) ⟨h3, by rw [hl]; exact vp_in_iff.mpr (by decide), ?_⟩)
  by_cases h1 : nI b = (if u = 0 then 101 else 106)
  · rw [show ix_ u (nI b) = 1 from (if_neg h0).trans (if_pos h1)] at hk
    exact br_t (z1.mpr h1) hk
  refine br_f (fun q => h1 (z1.mp q)) (br_f (by decide) ⟨h3, by rw [hl]; exact vp_in_iff.mpr (by decide), ?_⟩)
  by_cases h2 : nI b = 121
  · rw [show ix_ u (nI b) = 2 from (if_neg h0).trans ((if_neg h1).trans (if_pos h2))] at hk
    exact br_t (z2.mpr h2) hk
  rw [show ix_ u (nI b) = 3 from (if_neg h0).trans ((if_neg h1).trans (if_neg h2))] at hk
  exact br_f (fun q => h2 (z2.mp q)) (br_t (by decide) hk)


theorem lv5 {op : Nat} (h : ∀ i T, i ≤ n → T.length ≤ i → SN u n t s op i T) : ∀ i T, i ≤ n → T.length ≤ i → LV u n t s 5 op i T := by
  intro i T hi hT
  obtain ⟨b, i', T', hq, h8, h9⟩ := h i T hi hT
  refine ⟨b, i', T', hq, fun d st K hd hp hK => ?_, fun d z K hd hp hK => h9 d z K (by omega) hp hK⟩
  obtain ⟨d, rfl⟩ : ∃ g, d = g + 1 := ⟨d - 1, by omega⟩
  show wpX4_readLevel (wpG4 d 0) (fun a0 => wpG4 d 1 a0 0) (fun a0 => wpG4 d 2 a0 0) (fun a0 => wpG4 d 3 a0 0) (nI 5) (nI op) (nI n) (nI i) u (nI T.length) t st K
  exact br_f (by decide) (h8 d st _ (by omega) hp (fun len st' hh => ⟨by cases b <;> rfl, hK len st' hh⟩))
theorem hh_s {x w v : Int32} {T : List (Int32 × Int32 × Int32)} (h1 : -x < -3) (h2 : ¬ -x = -33) : hh_ ((-x, w, v) :: T) = hh_ T - 1 := by
  show (if -3 ≤ -x then hh_ T + 1 else if -x = -33 then hh_ T else hh_ T - 1) = _
  rw [if_neg (fun q => by rw [i_le] at q; rw [i_lt] at h1; omega), if_neg h2]
theorem lp (hn : n ≤ 60) {lev op : Nat} (hl : lev < 5)
    {L : Nat → Nat → Int32 → Int32 → Int32 → Int32 → (Nat → Int32) → (Nat → Int32) → (Int32 → Int32 → Int32 → Int32 → (Nat → Int32) → Prop) → Prop}
    (hL1 : ∀ d m i o st z K, i ≤ n → lv_ (ch_ n t i) = nI lev → wpG9 d (lev + 1) (nI (i + 1)) o st (nI u) s z (fun r a b c e => (r = 0 → K 0 a b c e) ∧ (¬ r = 0 → wpX9_step1 3 (ch_ n t i) c e (fun c' e' => L d m a b c' (nI u) s e' K))) → L d (m + 1) (nI i) o st (nI u) s z K)
    (hL2 : ∀ d m i o st z (K : Int32 → Int32 → Int32 → Int32 → (Nat → Int32) → Prop), i ≤ n → ¬ lv_ (ch_ n t i) = nI lev → K 1 (nI i) o st z → L d (m + 1) (nI i) o st (nI u) s z K)
    (hv : ∀ i T, i ≤ n → T.length ≤ i → LV u n t s (lev + 1) op i T) :
    ∀ m i T c, n - i < m → i ≤ n → T.length ≤ i → c < i → 1 ≤ hh_ T →
      ∃ b i' T', i ≤ i' ∧ i' ≤ n ∧ T'.length + i ≤ T.length + i' ∧ (b = true → hh_ T' = hh_ T ∧ (hw_ u T → hw_ u T')) ∧
        (∀ d st K, 8 * (5 - op) + (6 - lev) ≤ d → pl_ok st (fx_ T) → q8 b i' T' K → ∀ k, n - i < k → wpX4_readLevel_L39 (wpG4 d 0) (fun a0 => wpG4 d 1 a0 0) (fun a0 => wpG4 d 2 a0 0) (fun a0 => wpG4 d 3 a0 0) k (nI lev) (nI op) 60 (nI c) (nI n) (nI i) u (nI T.length) t st K) ∧
        (∀ d z K, 8 * (5 - op) + (5 - lev) ≤ d → pl_ok z (fl_ T) → q9 op b i' T' K → ∀ k, n - i < k → L d k (nI i) (nI op) (nI T.length) (nI u) s z K) := by
  intro m
  induction m with
  | zero => intro i T c h; omega
  | succ m ih =>
    intro i T c hm hi hT hc hh
    by_cases hlv : lv_ (ch_ n t i) = nI lev
    · have hin := lv_i hl hlv
      obtain ⟨s1, s2, s3, s4⟩ := lv_s hl hlv
      obtain ⟨b1, i1, T1, ⟨a1, a2, a3, a4⟩, c1, r1⟩ := hv (i + 1) T (by omega) (by omega)
      cases b1 with
      | false =>
        refine ⟨false, i1, T1, by omega, a2, by omega, (fun h => nomatch h), fun d st K hd hp hK k hk => ?_, fun d z K hd hp hK k hk => ?_⟩
        · obtain ⟨k, rfl⟩ : ∃ g, k = g + 1 := ⟨k - 1, by omega⟩
          refine br_f (show ¬ nI 60 ≤ nI c from nI_ge (by omega) (by decide)) (c_nx hn hi (c_lv (br_t hlv (c_nx hn hi ?_))))
          rw [nI_1, nI_1, nI_1]
          exact c1 d st _ (by omega) hp (fun len st' _ => br_t rfl (hK len st' (fun h => nomatch h)))
        · obtain ⟨k, rfl⟩ : ∃ g, k = g + 1 := ⟨k - 1, by omega⟩
          exact hL1 d k i _ _ z K hi hlv (r1 d z _ (by omega) hp (fun o len z' _ => br_t rfl (hK o len z' (fun h => nomatch h))))
      | true =>
        obtain ⟨b1, b2, b3⟩ := a4 rfl
        have e2 : hh_ ((-(ch_ n t i), 3, ch_ n t i) :: T1) = hh_ T := by rw [hh_s s2 s3, b2]; rfl
        obtain ⟨b', i', T', g1, g2, g3, g4, c2, r2⟩ := ih i1 ((-(ch_ n t i), 3, ch_ n t i) :: T1) (c + 1) (by omega) a2 (by rw [List.length_cons]; omega) (by omega) (by omega)
        rw [List.length_cons] at g3
        refine ⟨b', i', T', by omega, g2, by omega, fun h => ⟨by rw [(g4 h).1, e2], fun w => (g4 h).2 ⟨b3 w, Or.inr (Or.inr (Or.inr ⟨rfl, rfl, s1⟩)), Or.inr (Or.inr ⟨s4, by omega⟩)⟩⟩, fun d st K hd hp hK k hk => ?_, fun d z K hd hp hK k hk => ?_⟩
        · obtain ⟨k, rfl⟩ : ∃ g, k = g + 1 := ⟨k - 1, by omega⟩
          refine br_f (show ¬ nI 60 ≤ nI c from nI_ge (by omega) (by decide)) (c_nx hn hi (c_lv (br_t hlv (c_nx hn hi ?_))))
          rw [nI_1, nI_1, nI_1]
          refine c1 d st _ (by omega) hp (fun len st' h => br_f (by decide) ?_)
          obtain ⟨rfl, hp'⟩ := h rfl
          exact c_ad (by omega) hp' (fun st'' hp'' => c2 d st'' K hd hp'' hK k (by omega))
        · obtain ⟨k, rfl⟩ : ∃ g, k = g + 1 := ⟨k - 1, by omega⟩
          refine hL1 d k i _ _ z K hi hlv (r1 d z _ (by omega) hp (fun o len z' h => br_f (by decide) ?_))
          obtain ⟨rfl, rfl, hp'⟩ := h rfl
          exact r_st (by omega) hp' (fun z'' hp'' => r2 d z'' K hd hp'' hK k (by omega))
    · refine ⟨true, i, T, by omega, hi, by omega, fun _ => ⟨rfl, id⟩, fun d st K hd hp hK k hk => ?_, fun d z K hd hp hK k hk => ?_⟩
      · obtain ⟨k, rfl⟩ : ∃ g, k = g + 1 := ⟨k - 1, by omega⟩
        exact br_f (show ¬ nI 60 ≤ nI c from nI_ge (by omega) (by decide)) (c_nx hn hi (c_lv (br_f hlv (hK _ _ (fun _ => ⟨rfl, hp⟩)))))
      · obtain ⟨k, rfl⟩ : ∃ g, k = g + 1 := ⟨k - 1, by omega⟩
        exact hL2 d k i _ _ z K hi hlv (hK _ _ _ (fun _ => ⟨rfl, rfl, hp⟩))
theorem lvb (hn : n ≤ 60) {lev op : Nat} (hl : lev < 5) (hl2 : lev ≠ 2)
    {L : Nat → Nat → Int32 → Int32 → Int32 → Int32 → (Nat → Int32) → (Nat → Int32) → (Int32 → Int32 → Int32 → Int32 → (Nat → Int32) → Prop) → Prop}
    (hL1 : ∀ d m i o st z K, i ≤ n → lv_ (ch_ n t i) = nI lev → wpG9 d (lev + 1) (nI (i + 1)) o st (nI u) s z (fun r a b c e => (r = 0 → K 0 a b c e) ∧ (¬ r = 0 → wpX9_step1 3 (ch_ n t i) c e (fun c' e' => L d m a b c' (nI u) s e' K))) → L d (m + 1) (nI i) o st (nI u) s z K)
    (hL2 : ∀ d m i o st z (K : Int32 → Int32 → Int32 → Int32 → (Nat → Int32) → Prop), i ≤ n → ¬ lv_ (ch_ n t i) = nI lev → K 1 (nI i) o st z → L d (m + 1) (nI i) o st (nI u) s z K)
    (hW : ∀ d a o st z K, wpG9 d (lev + 1) a o st (nI u) s z (fun r a b c e => (r = 0 → K 0 a b c e) ∧ (¬ r = 0 → ∃ k, L d k a b c (nI u) s e K)) → wpG9 (d + 1) lev a o st (nI u) s z K)
    (hv : ∀ i T, i ≤ n → T.length ≤ i → LV u n t s (lev + 1) op i T) : ∀ i T, i ≤ n → T.length ≤ i → LV u n t s lev op i T := by
  intro i T hi hT
  have n2 : ¬ nI lev = 2 := fun q => hl2 ((nI_eq (by omega) (by decide)).mp (show nI lev = nI 2 from q))
  obtain ⟨b1, i1, T1, ⟨a1, a2, a3, a4⟩, c1, r1⟩ := hv i T hi hT
  cases b1 with
  | false =>
    refine ⟨false, i1, T1, ⟨a1, a2, a3, fun h => nomatch h⟩, fun d st K hd hp hK => ?_, fun d z K hd hp hK => ?_⟩
    · obtain ⟨d, rfl⟩ : ∃ g, d = g + 1 := ⟨d - 1, by omega⟩
      show wpX4_readLevel (wpG4 d 0) (fun a0 => wpG4 d 1 a0 0) (fun a0 => wpG4 d 2 a0 0) (fun a0 => wpG4 d 3 a0 0) (nI lev) (nI op) (nI n) (nI i) u (nI T.length) t st K
      refine br_t (show nI lev < nI 5 from nI_lt hl (by decide)) ?_
      rw [nI_1]
      exact c1 d st _ (by omega) hp (fun len st' _ => br_t rfl (hK len st' (fun h => nomatch h)))
    · obtain ⟨d, rfl⟩ : ∃ g, d = g + 1 := ⟨d - 1, by omega⟩
      exact hW d _ _ _ z K (r1 d z _ (by omega) hp (fun o len z' _ => br_t rfl (hK o len z' (fun h => nomatch h))))
  | true =>
    obtain ⟨b1, b2, b3⟩ := a4 rfl
    obtain ⟨b', i', T', g1, g2, g3, g4, c2, r2⟩ := lp hn hl hL1 hL2 hv (n - i1 + 1) i1 T1 0 (by omega) a2 (by omega) (by omega) (by omega)
    refine ⟨b', i', T', ⟨by omega, g2, by omega, fun h => ⟨by omega, by rw [(g4 h).1, b2], fun w => (g4 h).2 (b3 w)⟩⟩, fun d st K hd hp hK => ?_, fun d z K hd hp hK => ?_⟩
    · obtain ⟨d, rfl⟩ : ∃ g, d = g + 1 := ⟨d - 1, by omega⟩
      show wpX4_readLevel (wpG4 d 0) (fun a0 => wpG4 d 1 a0 0) (fun a0 => wpG4 d 2 a0 0) (fun a0 => wpG4 d 3 a0 0) (nI lev) (nI op) (nI n) (nI i) u (nI T.length) t st K
      refine br_t (show nI lev < nI 5 from nI_lt hl (by decide)) ?_
      rw [nI_1]
      refine c1 d st _ (by omega) hp (fun len st' h => br_f (by decide) ?_)
      obtain ⟨rfl, hp'⟩ := h rfl
      exact br_f n2 ⟨n - i1 + 1, c2 d st' K (by omega) hp' hK _ (by omega)⟩
    · obtain ⟨d, rfl⟩ : ∃ g, d = g + 1 := ⟨d - 1, by omega⟩
      refine hW d _ _ _ z K (r1 d z _ (by omega) hp (fun o len z' h => br_f (by decide) ?_))
      obtain ⟨rfl, rfl, hp'⟩ := h rfl
      exact ⟨n - i1 + 1, r2 d z' K (by omega) hp' hK _ (by omega)⟩
theorem lv2 (hn : n ≤ 60) (h5 : s 5 = nI n) (hb : ∀ i, i < n → t i &&& 255 = s (282 + i)) {op : Nat} (hv : ∀ i T, i ≤ n → T.length ≤ i → LV u n t s 3 op i T) : ∀ i T, i ≤ n → T.length ≤ i → LV u n t s 2 op i T := by
  intro i T hi hT
  have sh : ∀ d a o st z (K : Int32 → Int32 → Int32 → Int32 → (Nat → Int32) → Prop), wpX9_compared (wpG9 d 0) (wpG9 d 1) (wpG9 d 2) (wpG9 d 3) (wpG9 d 4) (wpG9 d 5) a o st (nI u) s z K → wpG9 (d + 1) 2 a o st (nI u) s z K := fun d a o st z K h => h
  obtain ⟨b1, i1, T1, ⟨a1, a2, a3, a4⟩, c1, r1⟩ := hv i T hi hT
  cases b1 with
  | false =>
    refine ⟨false, i1, T1, ⟨a1, a2, a3, fun h => nomatch h⟩, fun d st K hd hp hK => ?_, fun d z K hd hp hK => ?_⟩
    · obtain ⟨d, rfl⟩ : ∃ g, d = g + 1 := ⟨d - 1, by omega⟩
      show wpX4_readLevel (wpG4 d 0) (fun a0 => wpG4 d 1 a0 0) (fun a0 => wpG4 d 2 a0 0) (fun a0 => wpG4 d 3 a0 0) (nI 2) (nI op) (nI n) (nI i) u (nI T.length) t st K
      refine br_t (by decide) ?_
      rw [nI_1]
      exact c1 d st _ (by omega) hp (fun len st' _ => br_t rfl (hK len st' (fun h => nomatch h)))
    · obtain ⟨d, rfl⟩ : ∃ g, d = g + 1 := ⟨d - 1, by omega⟩
      exact sh d _ _ _ z K (r1 d z _ (by omega) hp (fun o len z' _ => br_t rfl (hK o len z' (fun h => nomatch h))))
  | true =>
    obtain ⟨b1, b2, b3⟩ := a4 rfl
    by_cases hlv : lv_ (ch_ n t i1) = nI 2
    · have hin := lv_i (by decide) hlv
      obtain ⟨s1, s2, s3, s4⟩ := lv_s (by decide) hlv
      have hs3 : ch_ n t i1 = 60 ∨ ch_ n t i1 = 61 ∨ ch_ n t i1 = 62 := by
        rcases lv_c (ch_ n t i1) with ⟨e, q⟩ | ⟨e, q⟩ | ⟨e, q⟩ | ⟨e, q⟩ | ⟨e, q⟩ | ⟨e, q⟩ | ⟨e, q⟩ | ⟨e, q⟩ | ⟨e, q⟩ | ⟨e, q⟩ | ⟨q, -⟩
        all_goals first | exact Or.inl e | exact Or.inr (Or.inl e) | exact Or.inr (Or.inr e) | exact absurd (hlv.symm.trans q) (by decide)
      have sw : ∀ {x : Int32} {A B : Prop}, (x = 60 ∨ x = 61 ∨ x = 62) → A → (x = 60 → A) ∧ (¬ x = 60 → (x = 61 → A) ∧ (¬ x = 61 → (x = 62 → A) ∧ (¬ x = 62 → B))) :=
        fun h a => ⟨fun _ => a, fun z => ⟨fun _ => a, fun z2 => ⟨fun _ => a, fun z3 => absurd h (fun q => q.elim z (fun q => q.elim z2 z3))⟩⟩⟩
      obtain ⟨b4, i2, T2, ⟨d1, d2, d3, d4⟩, c2, r2⟩ := hv (i1 + 1) T1 (by omega) (by omega)
      cases b4 with
      | false =>
        refine ⟨false, i2, T2, ⟨by omega, d2, by omega, fun h => nomatch h⟩, fun d st K hd hp hK => ?_, fun d z K hd hp hK => ?_⟩
        · obtain ⟨d, rfl⟩ : ∃ g, d = g + 1 := ⟨d - 1, by omega⟩
          show wpX4_readLevel (wpG4 d 0) (fun a0 => wpG4 d 1 a0 0) (fun a0 => wpG4 d 2 a0 0) (fun a0 => wpG4 d 3 a0 0) (nI 2) (nI op) (nI n) (nI i) u (nI T.length) t st K
          refine br_t (by decide) ?_
          rw [nI_1]
          refine c1 d st _ (by omega) hp (fun len st' h => br_f (by decide) ?_)
          obtain ⟨rfl, hp'⟩ := h rfl
          refine br_t rfl ⟨1, br_f (by decide) (c_nx hn a2 (c_lv (br_t hlv (c_nx hn a2 ?_))))⟩
          rw [nI_1, nI_1]
          exact c2 d st' _ (by omega) hp' (fun len st'' _ => br_t rfl (hK len st'' (fun h => nomatch h)))
        · obtain ⟨d, rfl⟩ : ∃ g, d = g + 1 := ⟨d - 1, by omega⟩
          refine sh d _ _ _ z K (r1 d z _ (by omega) hp (fun o len z' h => br_f (by decide) ?_))
          obtain ⟨rfl, rfl, hp'⟩ := h rfl
          refine r_lk hn h5 hb a2 (sw hs3 ?_)
          rw [nI_1]
          exact r2 d z' _ (by omega) hp' (fun o len z'' _ => br_t rfl (hK o len z'' (fun h => nomatch h)))
      | true =>
        obtain ⟨f1, f2, f3⟩ := d4 rfl
        have e2 : hh_ ((-(ch_ n t i1), 3, ch_ n t i1) :: T2) = hh_ T + 1 := by rw [hh_s s2 s3, f2, b2]; rfl
        refine ⟨true, i2, (-(ch_ n t i1), 3, ch_ n t i1) :: T2, ⟨by omega, d2, by rw [List.length_cons]; omega, fun _ => ⟨by omega, e2, fun w => ⟨f3 (b3 w), Or.inr (Or.inr (Or.inr ⟨rfl, rfl, s1⟩)), Or.inr (Or.inr ⟨s4, by omega⟩)⟩⟩⟩, fun d st K hd hp hK => ?_, fun d z K hd hp hK => ?_⟩
        · obtain ⟨d, rfl⟩ : ∃ g, d = g + 1 := ⟨d - 1, by omega⟩
          show wpX4_readLevel (wpG4 d 0) (fun a0 => wpG4 d 1 a0 0) (fun a0 => wpG4 d 2 a0 0) (fun a0 => wpG4 d 3 a0 0) (nI 2) (nI op) (nI n) (nI i) u (nI T.length) t st K
          refine br_t (by decide) ?_
          rw [nI_1]
          refine c1 d st _ (by omega) hp (fun len st' h => br_f (by decide) ?_)
          obtain ⟨rfl, hp'⟩ := h rfl
          refine br_t rfl ⟨2, br_f (by decide) (c_nx hn a2 (c_lv (br_t hlv (c_nx hn a2 ?_))))⟩
          rw [nI_1, nI_1]
          refine c2 d st' _ (by omega) hp' (fun len st'' h => br_f (by decide) ?_)
          obtain ⟨rfl, hp''⟩ := h rfl
          exact c_ad (by omega) hp'' (fun st3 hp3 => br_t (by decide) (hK _ st3 (fun _ => ⟨rfl, hp3⟩)))
        · obtain ⟨d, rfl⟩ : ∃ g, d = g + 1 := ⟨d - 1, by omega⟩
          refine sh d _ _ _ z K (r1 d z _ (by omega) hp (fun o len z' h => br_f (by decide) ?_))
          obtain ⟨rfl, rfl, hp'⟩ := h rfl
          refine r_lk hn h5 hb a2 (sw hs3 ?_)
          rw [nI_1]
          refine r2 d z' _ (by omega) hp' (fun o len z'' h => br_f (by decide) ?_)
          obtain ⟨rfl, rfl, hp''⟩ := h rfl
          exact r_st (by omega) hp'' (fun z3 hp3 => hK _ _ z3 (fun _ => ⟨rfl, rfl, hp3⟩))
    · refine ⟨true, i1, T1, ⟨a1, a2, a3, fun _ => ⟨b1, b2, b3⟩⟩, fun d st K hd hp hK => ?_, fun d z K hd hp hK => ?_⟩
      · obtain ⟨d, rfl⟩ : ∃ g, d = g + 1 := ⟨d - 1, by omega⟩
        show wpX4_readLevel (wpG4 d 0) (fun a0 => wpG4 d 1 a0 0) (fun a0 => wpG4 d 2 a0 0) (fun a0 => wpG4 d 3 a0 0) (nI 2) (nI op) (nI n) (nI i) u (nI T.length) t st K
        refine br_t (by decide) ?_
        rw [nI_1]
        refine c1 d st _ (by omega) hp (fun len st' h => br_f (by decide) ?_)
        obtain ⟨rfl, hp'⟩ := h rfl
        exact br_t rfl ⟨1, br_f (by decide) (c_nx hn a2 (c_lv (br_f hlv (hK _ _ (fun _ => ⟨rfl, hp'⟩)))))⟩
      · obtain ⟨d, rfl⟩ : ∃ g, d = g + 1 := ⟨d - 1, by omega⟩
        refine sh d _ _ _ z K (r1 d z _ (by omega) hp (fun o len z' h => br_f (by decide) ?_))
        obtain ⟨rfl, rfl, hp'⟩ := h rfl
        have hx : ∀ x : Int32, lv_ x = nI 2 → ¬ ch_ n t i1 = x := fun x h q => hlv (by rw [q]; exact h)
        exact r_lk hn h5 hb a2 (br_f (hx 60 (by decide)) (br_f (hx 61 (by decide)) (br_f (hx 62 (by decide)) (hK _ _ _ (fun _ => ⟨rfl, rfl, hp'⟩)))))

end Texts
section Texts2
variable {u n : Nat} {t s : Nat → Int32}
theorem ix_lt (u : Nat) (x : Int32) : ix_ u x < 4 := by
  by_cases h0 : x = (if u = 0 then 98 else 114)
  · rw [show ix_ u x = 0 from if_pos h0]; decide
  by_cases h1 : x = (if u = 0 then 101 else 106)
  · rw [show ix_ u x = 1 from (if_neg h0).trans (if_pos h1)]; decide
  by_cases h2 : x = 121
  · rw [show ix_ u x = 2 from (if_neg h0).trans ((if_neg h1).trans (if_pos h2))]; decide
  · rw [show ix_ u x = 3 from (if_neg h0).trans ((if_neg h1).trans (if_neg h2))]; decide
theorem ix_d : ∀ u, u < 2 → ∀ b, b < 58 → 48 ≤ b → ix_ u (nI b) = 3 := by decide +kernel
theorem ix_m {u : Nat} (hu : u < 2) : ix_ u (-1) = 3 := (by decide : ∀ u, u < 2 → ix_ u (-1) = 3) u hu
theorem ix_t {u : Nat} {x : Int32} (h : ¬ ix_ u x = 3) : tx_e u (-1 - nI (ix_ u x)) 1 x ∧ -3 ≤ -1 - nI (ix_ u x) ∧ (-1 - nI (ix_ u x)) ≤ 9999 := by
  by_cases h0 : x = (if u = 0 then 98 else 114)
  · rw [show ix_ u x = 0 from if_pos h0]
    exact ⟨Or.inr (Or.inl ⟨rfl, Or.inl ⟨by decide, h0⟩⟩), by decide, by decide⟩
  by_cases h1 : x = (if u = 0 then 101 else 106)
  · rw [show ix_ u x = 1 from (if_neg h0).trans (if_pos h1)]
    exact ⟨Or.inr (Or.inl ⟨rfl, Or.inr (Or.inl ⟨by decide, h1⟩)⟩), by decide, by decide⟩
  by_cases h2 : x = 121
  · rw [show ix_ u x = 2 from (if_neg h0).trans ((if_neg h1).trans (if_pos h2))]
    exact ⟨Or.inr (Or.inl ⟨rfl, Or.inr (Or.inr ⟨by decide, h2⟩)⟩), by decide, by decide⟩
  · exact absurd ((if_neg h0).trans ((if_neg h1).trans (if_neg h2))) h
theorem c_fa {d op i : Nat} {st : Nat → Int32} {T : List (Int32 × Int32 × Int32)} {K : Int32 → Int32 → Int32 → (Nat → Int32) → Prop} (hn : n ≤ 60) (hu : u < 2) (hi : i ≤ n) (hop : op ≤ 5) (hd : ¬ dg_ (ch_ n t i)) (hx : ix_ u (ch_ n t i) = 3) (hz : op = 5 ∨ (¬ ch_ n t i = 33 ∧ ¬ ch_ n t i = 40)) (hK : K 0 (nI i) (nI T.length) st) :
    wpX4_readSingle (wpG4 d 0) (fun a0 => wpG4 d 1 a0 0) (fun a0 => wpG4 d 2 a0 0) (fun a0 => wpG4 d 3 a0 0) (nI op) (nI n) (nI i) u (nI T.length) t st K := by
  refine c_nx hn hi (c_dg (fun q => absurd q hd) (fun _ => br_t rfl ?_))
  have fin : ∀ {A B C : Prop}, (5 ≤ nI op → K 0 (nI i) (nI T.length) st) ∧ (¬ 5 ≤ nI op → (ch_ n t i = 33 → A) ∧ (¬ ch_ n t i = 33 → (ch_ n t i = 40 → B) ∧ (¬ ch_ n t i = 40 → K 0 (nI i) (nI T.length) st))) := by
    intro A B C
    rcases hz with rfl | ⟨z1, z2⟩
    · exact br_t (by decide) hK
    · exact ⟨fun _ => hK, fun _ => br_f z1 (br_f z2 hK)⟩
  rcases Nat.lt_or_ge i n with q | q
  · obtain ⟨b, hb, eb⟩ := ch_b n t q
    refine br_t (by rw [eb]; exact nI_pos' (by omega)) ⟨by omega, ?_⟩
    rw [eb] at hx fin ⊢
    refine c_ix hu hb ?_
    rw [if_pos hx]
    exact br_t (by decide) (fin (C := True))
  · have e : ch_ n t i = -1 := if_neg (by omega)
    rw [e] at fin ⊢
    exact br_f (by decide) (br_t (by decide) (fin (C := True)))
theorem sn (hn : n ≤ 60) (hu : u < 2) (h5 : s 5 = nI n) (hb : ∀ i, i < n → t i &&& 255 = s (282 + i)) {op : Nat} (hop : op ≤ 5)
    (hs : op < 5 → ∀ i T, i ≤ n → T.length ≤ i → SN u n t s (op + 1) i T) (hl : op < 5 → ∀ i T, i ≤ n → T.length ≤ i → LV u n t s 0 (op + 1) i T) : ∀ i T, i ≤ n → T.length ≤ i → SN u n t s op i T := by
  intro i T hi hT
  have sc : ∀ d st (K : Int32 → Int32 → Int32 → (Nat → Int32) → Prop), wpX4_readSingle (wpG4 d 0) (fun a0 => wpG4 d 1 a0 0) (fun a0 => wpG4 d 2 a0 0) (fun a0 => wpG4 d 3 a0 0) (nI op) (nI n) (nI i) u (nI T.length) t st K → wpG4 (d + 1) 1 (nI op) 0 (nI n) (nI i) u (nI T.length) t st K := fun d st K h => h
  have so : ∀ d z (K : Int32 → Int32 → Int32 → Int32 → (Nat → Int32) → Prop), wpX9_one (wpG9 d 0) (wpG9 d 1) (wpG9 d 2) (wpG9 d 3) (wpG9 d 4) (wpG9 d 5) (nI i) (nI op) (nI T.length) (nI u) s z K → wpG9 (d + 1) 5 (nI i) (nI op) (nI T.length) (nI u) s z K := fun d z K h => h
  by_cases hd : dg_ (ch_ n t i)
  · obtain ⟨b, b1, b2, hin, eb⟩ := dg_b hd
    obtain ⟨i', v', g1, g2, g3, g4, c2, r2⟩ := nr (u := u) hn h5 hb 4 0 i 0 (by omega) hi (by omega)
    have hii := g4 (by decide) hd
    have ev : (-3 : Int32) ≤ nI v' := by rw [i_le, nI_toInt (by omega)]; exact Int.le_trans (show (-3 : Int32).toInt ≤ 0 by decide) (Int.natCast_nonneg v')
    refine ⟨true, i', (nI v', 0, nI v') :: T, ⟨by omega, g2, by rw [List.length_cons]; omega, fun _ => ⟨hii, if_pos ev, fun w => ⟨w, Or.inl ⟨rfl, rfl, in_mk g3 (by decide)⟩, Or.inl ⟨ev, show nI v' ≤ nI 9999 from nI_le g3 (by decide)⟩⟩⟩⟩, fun d st K hd' hp hK => ?_, fun d z K hd' hp hK => ?_⟩
    · obtain ⟨d, rfl⟩ : ∃ g, d = g + 1 := ⟨d - 1, by omega⟩
      exact sc d st K (c_nx hn hi (c_dg (fun _ => br_f (by decide) ⟨5, c2 5 (by decide) _ _ _ (c_ad (by omega) hp (fun st' hp' => hK _ st' (fun _ => ⟨rfl, hp'⟩)))⟩) (fun q => absurd hd q)))
    · obtain ⟨d, rfl⟩ : ∃ g, d = g + 1 := ⟨d - 1, by omega⟩
      refine so d z K (r_lk hn h5 hb hi (r_nm hu ?_))
      rw [eb, ix_d u hu b (by omega) b1, if_pos rfl, ← eb]
      exact br_t rfl (r_dg (fun _ => br_f (by decide) ⟨5, r2 5 (by decide) _ _ _ _ _ _ _ _ _ _ _ (r_st (by omega) hp (fun z' hp' => hK _ _ z' (fun _ => ⟨rfl, rfl, hp'⟩)))⟩) (fun q => absurd hd q))
  by_cases hx : ix_ u (ch_ n t i) = 3
  · by_cases ho : op = 5
    · subst ho
      refine ⟨false, i, T, ⟨by omega, hi, by omega, fun h => nomatch h⟩, fun d st K hd' hp hK => ?_, fun d z K hd' hp hK => ?_⟩
      · obtain ⟨d, rfl⟩ : ∃ g, d = g + 1 := ⟨d - 1, by omega⟩
        exact sc d st K (c_fa hn hu hi hop hd hx (Or.inl rfl) (hK _ st (fun h => nomatch h)))
      · obtain ⟨d, rfl⟩ : ∃ g, d = g + 1 := ⟨d - 1, by omega⟩
        refine so d z K (r_lk hn h5 hb hi (r_nm hu ?_))
        rw [hx, if_pos rfl]
        have hf := hK (nI 5) (nI T.length) z (fun h => nomatch h)
        exact br_t rfl (r_dg (fun q => absurd q hd) (fun _ => br_t rfl ⟨fun _ => br_t rfl (br_t rfl hf), fun _ => ⟨fun _ => br_t rfl (br_t rfl hf), fun _ => hf⟩⟩))
    have hop4 : op < 5 := by omega
    have n5 : ¬ nI op = 5 := fun q => ho ((nI_eq (by omega) (by decide)).mp (show nI op = nI 5 from q))
    have l5 : ¬ (5 : Int32) ≤ nI op := show ¬ nI 5 ≤ nI op from nI_ge hop4 (by decide)
    by_cases h33 : ch_ n t i = 33
    · have hin : i < n := by
        rcases Nat.lt_or_ge i n with q | q
        · exact q
        · rw [show ch_ n t i = -1 from if_neg (by omega)] at h33; exact absurd h33 (by decide)
      obtain ⟨b1, i1, T1, ⟨a1, a2, a3, a4⟩, c1, r1⟩ := hs hop4 (i + 1) T (by omega) (by omega)
      have cl : ∀ d st (K : Int32 → Int32 → Int32 → (Nat → Int32) → Prop), wpX4_readDenied (wpG4 d 0) (fun a0 => wpG4 d 1 a0 0) (fun a0 => wpG4 d 2 a0 0) (fun a0 => wpG4 d 3 a0 0) (nI (op + 1)) (nI n) (nI (i + 1)) u (nI T.length) t st (fun r a b c => narrow .boolean (.int r) = .int r ∧ K r a b c) → wpX4_readSingle (wpG4 (d + 1) 0) (fun a0 => wpG4 (d + 1) 1 a0 0) (fun a0 => wpG4 (d + 1) 2 a0 0) (fun a0 => wpG4 (d + 1) 3 a0 0) (nI op) (nI n) (nI i) u (nI T.length) t st K := by
        intro d st K h
        refine c_nx hn hi (c_dg (fun q => absurd q hd) (fun _ => br_t rfl ?_))
        obtain ⟨b, hb', eb⟩ := ch_b n t hin
        refine br_t (by rw [eb]; exact nI_pos' (by omega)) ⟨by omega, ?_⟩
        rw [eb]
        refine c_ix hu hb' ?_
        rw [← eb, if_pos hx]
        refine br_t (by decide) (br_f l5 (br_t h33 (br_t h33 ?_)))
        rw [nI_1, nI_1]
        exact h
      have rl' : ∀ d z (K : Int32 → Int32 → Int32 → Int32 → (Nat → Int32) → Prop), wpG9 d 5 (nI (i + 1)) (nI (op + 1)) (nI T.length) (nI u) s z (fun r a b c e => (r = 0 → K 0 a b c e) ∧ (¬ r = 0 → wpX9_step1 2 0 c e (fun c' e' => K 1 a (b - 1) c' e'))) → wpX9_one (wpG9 d 0) (wpG9 d 1) (wpG9 d 2) (wpG9 d 3) (wpG9 d 4) (wpG9 d 5) (nI i) (nI op) (nI T.length) (nI u) s z K := by
        intro d z K h
        refine r_lk hn h5 hb hi (r_nm hu ?_)
        rw [hx, if_pos rfl]
        refine br_t rfl (r_dg (fun q => absurd q hd) (fun _ => br_t rfl (br_t h33 (br_f n5 (br_f (by decide) ?_)))))
        rw [nI_1, nI_1]
        exact h
      cases b1 with
      | false =>
        refine ⟨false, i1, T1, ⟨by omega, a2, by omega, fun h => nomatch h⟩, fun d st K hd' hp hK => ?_, fun d z K hd' hp hK => ?_⟩
        · obtain ⟨d, rfl⟩ : ∃ g, d = g + 1 := ⟨d - 1, by omega⟩
          obtain ⟨d, rfl⟩ : ∃ g, d = g + 1 := ⟨d - 1, by omega⟩
          exact sc (d + 1) st K (cl d st K (c1 d st _ (by omega) hp (fun len st' _ => br_t rfl ⟨rfl, hK len st' (fun h => nomatch h)⟩)))
        · obtain ⟨d, rfl⟩ : ∃ g, d = g + 1 := ⟨d - 1, by omega⟩
          exact so d z K (rl' d z K (r1 d z _ (by omega) hp (fun o len z' _ => br_t rfl (hK o len z' (fun h => nomatch h)))))
      | true =>
        obtain ⟨f1, f2, f3⟩ := a4 rfl
        have e2 : hh_ ((-33, 2, 0) :: T1) = hh_ T1 := rfl
        refine ⟨true, i1, (-33, 2, 0) :: T1, ⟨by omega, a2, by rw [List.length_cons]; omega, fun _ => ⟨by omega, by rw [e2, f2], fun w => ⟨f3 w, Or.inr (Or.inr (Or.inl ⟨rfl, rfl⟩)), Or.inr (Or.inl ⟨rfl, by omega⟩)⟩⟩⟩, fun d st K hd' hp hK => ?_, fun d z K hd' hp hK => ?_⟩
        · obtain ⟨d, rfl⟩ : ∃ g, d = g + 1 := ⟨d - 1, by omega⟩
          obtain ⟨d, rfl⟩ : ∃ g, d = g + 1 := ⟨d - 1, by omega⟩
          refine sc (d + 1) st K (cl d st K (c1 d st _ (by omega) hp (fun len st' h => br_f (by decide) ?_)))
          obtain ⟨rfl, hp'⟩ := h rfl
          exact c_ad (by omega) hp' (fun st'' hp'' => ⟨rfl, hK _ st'' (fun _ => ⟨rfl, hp''⟩)⟩)
        · obtain ⟨d, rfl⟩ : ∃ g, d = g + 1 := ⟨d - 1, by omega⟩
          refine so d z K (rl' d z K (r1 d z _ (by omega) hp (fun o len z' h => br_f (by decide) ?_)))
          obtain ⟨rfl, rfl, hp'⟩ := h rfl
          rw [nI_pred]
          exact r_st (by omega) hp' (fun z'' hp'' => hK _ _ z'' (fun _ => ⟨rfl, rfl, hp''⟩))
    by_cases h40 : ch_ n t i = 40
    · have hin : i < n := by
        rcases Nat.lt_or_ge i n with q | q
        · exact q
        · rw [show ch_ n t i = -1 from if_neg (by omega)] at h40; exact absurd h40 (by decide)
      obtain ⟨b1, i1, T1, ⟨a1, a2, a3, a4⟩, c1, r1⟩ := hl hop4 (i + 1) T (by omega) (by omega)
      have cl : ∀ d st (K : Int32 → Int32 → Int32 → (Nat → Int32) → Prop), wpX4_readClosed (wpG4 d 0) (fun a0 => wpG4 d 1 a0 0) (fun a0 => wpG4 d 2 a0 0) (fun a0 => wpG4 d 3 a0 0) (nI (op + 1)) (nI n) (nI (i + 1)) u (nI T.length) t st (fun r a b c => narrow .boolean (.int r) = .int r ∧ K r a b c) → wpX4_readSingle (wpG4 (d + 1) 0) (fun a0 => wpG4 (d + 1) 1 a0 0) (fun a0 => wpG4 (d + 1) 2 a0 0) (fun a0 => wpG4 (d + 1) 3 a0 0) (nI op) (nI n) (nI i) u (nI T.length) t st K := by
        intro d st K h
        refine c_nx hn hi (c_dg (fun q => absurd q hd) (fun _ => br_t rfl ?_))
        obtain ⟨b, hb', eb⟩ := ch_b n t hin
        refine br_t (by rw [eb]; exact nI_pos' (by omega)) ⟨by omega, ?_⟩
        rw [eb]
        refine c_ix hu hb' ?_
        rw [← eb, if_pos hx]
        refine br_t (by decide) (br_f l5 (br_f h33 (br_t h40 (br_f h33 ?_))))
        rw [nI_1, nI_1]
        exact h
      have rl' : ∀ d z (K : Int32 → Int32 → Int32 → Int32 → (Nat → Int32) → Prop), wpG9 d 0 (nI (i + 1)) (nI (op + 1)) (nI T.length) (nI u) s z (fun r a b c e => (r = 0 → K 0 a b c e) ∧ (¬ r = 0 → wpX9_look a s (fun r163 => ((r163 = 41 → K 1 (a + 1) (b - 1) c e) ∧ (¬ r163 = 41 → K 0 a b c e))))) → wpX9_one (wpG9 d 0) (wpG9 d 1) (wpG9 d 2) (wpG9 d 3) (wpG9 d 4) (wpG9 d 5) (nI i) (nI op) (nI T.length) (nI u) s z K := by
        intro d z K h
        refine r_lk hn h5 hb hi (r_nm hu ?_)
        rw [hx, if_pos rfl]
        refine br_t rfl (r_dg (fun q => absurd q hd) (fun _ => br_t rfl (br_f h33 (br_t h40 (br_f n5 (br_f (by decide) ?_))))))
        rw [nI_1, nI_1]
        exact h
      cases b1 with
      | false =>
        refine ⟨false, i1, T1, ⟨by omega, a2, by omega, fun h => nomatch h⟩, fun d st K hd' hp hK => ?_, fun d z K hd' hp hK => ?_⟩
        · obtain ⟨d, rfl⟩ : ∃ g, d = g + 1 := ⟨d - 1, by omega⟩
          obtain ⟨d, rfl⟩ : ∃ g, d = g + 1 := ⟨d - 1, by omega⟩
          exact sc (d + 1) st K (cl d st K (c1 d st _ (by omega) hp (fun len st' _ => br_t rfl ⟨rfl, hK len st' (fun h => nomatch h)⟩)))
        · obtain ⟨d, rfl⟩ : ∃ g, d = g + 1 := ⟨d - 1, by omega⟩
          exact so d z K (rl' d z K (r1 d z _ (by omega) hp (fun o len z' _ => br_t rfl (hK o len z' (fun h => nomatch h)))))
      | true =>
        obtain ⟨f1, f2, f3⟩ := a4 rfl
        by_cases h41 : ch_ n t i1 = 41
        · have hin1 : i1 < n := by
            rcases Nat.lt_or_ge i1 n with q | q
            · exact q
            · rw [show ch_ n t i1 = -1 from if_neg (by omega)] at h41; exact absurd h41 (by decide)
          refine ⟨true, i1 + 1, T1, ⟨by omega, by omega, by omega, fun _ => ⟨by omega, f2, f3⟩⟩, fun d st K hd' hp hK => ?_, fun d z K hd' hp hK => ?_⟩
          · obtain ⟨d, rfl⟩ : ∃ g, d = g + 1 := ⟨d - 1, by omega⟩
            obtain ⟨d, rfl⟩ : ∃ g, d = g + 1 := ⟨d - 1, by omega⟩
            refine sc (d + 1) st K (cl d st K (c1 d st _ (by omega) hp (fun len st' h => br_f (by decide) ?_)))
            obtain ⟨rfl, hp'⟩ := h rfl
            refine c_nx hn a2 (br_t h41 ⟨rfl, ?_⟩)
            rw [nI_1]
            exact hK _ st' (fun _ => ⟨rfl, hp'⟩)
          · obtain ⟨d, rfl⟩ : ∃ g, d = g + 1 := ⟨d - 1, by omega⟩
            refine so d z K (rl' d z K (r1 d z _ (by omega) hp (fun o len z' h => br_f (by decide) ?_)))
            obtain ⟨rfl, rfl, hp'⟩ := h rfl
            refine r_lk hn h5 hb a2 (br_t h41 ?_)
            rw [nI_pred, nI_1]
            exact hK _ _ z' (fun _ => ⟨rfl, rfl, hp'⟩)
        · refine ⟨false, i1, T1, ⟨by omega, a2, by omega, fun h => nomatch h⟩, fun d st K hd' hp hK => ?_, fun d z K hd' hp hK => ?_⟩
          · obtain ⟨d, rfl⟩ : ∃ g, d = g + 1 := ⟨d - 1, by omega⟩
            obtain ⟨d, rfl⟩ : ∃ g, d = g + 1 := ⟨d - 1, by omega⟩
            refine sc (d + 1) st K (cl d st K (c1 d st _ (by omega) hp (fun len st' h => br_f (by decide) ?_)))
            exact c_nx hn a2 (br_f h41 ⟨rfl, hK _ st' (fun h => nomatch h)⟩)
          · obtain ⟨d, rfl⟩ : ∃ g, d = g + 1 := ⟨d - 1, by omega⟩
            refine so d z K (rl' d z K (r1 d z _ (by omega) hp (fun o len z' h => br_f (by decide) ?_)))
            exact r_lk hn h5 hb a2 (br_f h41 (hK _ _ z' (fun h => nomatch h)))
    · refine ⟨false, i, T, ⟨by omega, hi, by omega, fun h => nomatch h⟩, fun d st K hd' hp hK => ?_, fun d z K hd' hp hK => ?_⟩
      · obtain ⟨d, rfl⟩ : ∃ g, d = g + 1 := ⟨d - 1, by omega⟩
        exact sc d st K (c_fa hn hu hi hop hd hx (Or.inr ⟨h33, h40⟩) (hK _ st (fun h => nomatch h)))
      · obtain ⟨d, rfl⟩ : ∃ g, d = g + 1 := ⟨d - 1, by omega⟩
        refine so d z K (r_lk hn h5 hb hi (r_nm hu ?_))
        rw [hx, if_pos rfl]
        exact br_t rfl (r_dg (fun q => absurd q hd) (fun _ => br_t rfl (br_f h33 (br_f h40 (hK _ _ z (fun h => nomatch h))))))
  · have hin : i < n := by
      rcases Nat.lt_or_ge i n with q | q
      · exact q
      · rw [show ch_ n t i = -1 from if_neg (by omega)] at hx; exact absurd (ix_m hu) hx
    obtain ⟨t1, t2, t3⟩ := ix_t hx
    have hlt := ix_lt u (ch_ n t i)
    refine ⟨true, i + 1, (-1 - nI (ix_ u (ch_ n t i)), 1, ch_ n t i) :: T, ⟨by omega, by omega, by rw [List.length_cons]; omega, fun _ => ⟨by omega, if_pos t2, fun w => ⟨w, t1, Or.inl ⟨t2, t3⟩⟩⟩⟩, fun d st K hd' hp hK => ?_, fun d z K hd' hp hK => ?_⟩
    · obtain ⟨d, rfl⟩ : ∃ g, d = g + 1 := ⟨d - 1, by omega⟩
      refine sc d st K (c_nx hn hi (c_dg (fun q => absurd q hd) (fun _ => br_t rfl ?_)))
      obtain ⟨b, hb', eb⟩ := ch_b n t hin
      refine br_t (by rw [eb]; exact nI_pos' (by omega)) ⟨by omega, ?_⟩
      rw [eb]
      refine c_ix hu hb' ?_
      rw [← eb, if_neg hx]
      refine br_f (nI_pos (by omega)) (c_ad (by omega) hp (fun st' hp' => ?_))
      rw [nI_1]
      exact hK _ st' (fun _ => ⟨rfl, hp'⟩)
    · obtain ⟨d, rfl⟩ : ∃ g, d = g + 1 := ⟨d - 1, by omega⟩
      refine so d z K (r_lk hn h5 hb hi (r_nm hu ?_))
      rw [if_neg hx]
      refine br_f (by decide) (r_st (by omega) hp (fun z' hp' => ?_))
      rw [nI_1]
      exact hK _ _ z' (fun _ => ⟨rfl, rfl, hp'⟩)

theorem lw0 (hn : n ≤ 60) (h5 : s 5 = nI n) (hb : ∀ i, i < n → t i &&& 255 = s (282 + i)) {op : Nat} (hv : ∀ i T, i ≤ n → T.length ≤ i → LV u n t s 1 op i T) : ∀ i T, i ≤ n → T.length ≤ i → LV u n t s 0 op i T := by
  refine lvb (L := (fun d => wpX9_whole_L9 (wpG9 d 0) (wpG9 d 1) (wpG9 d 2) (wpG9 d 3) (wpG9 d 4) (wpG9 d 5))) hn (by decide) (by decide) ?_ ?_ (fun d a o st z K h => h) hv
  · intro d m i o st z K hi hlv h
    unfold wpX9_whole_L9
    have hc : ch_ n t i = 124 := by
      rcases lv_c (ch_ n t i) with ⟨e, q⟩ | ⟨e, q⟩ | ⟨e, q⟩ | ⟨e, q⟩ | ⟨e, q⟩ | ⟨e, q⟩ | ⟨e, q⟩ | ⟨e, q⟩ | ⟨e, q⟩ | ⟨e, q⟩ | ⟨q, -⟩
      all_goals first | exact e | exact absurd (hlv.symm.trans q) (by decide)
    have e := hc
    · refine r_lk hn h5 hb hi ?_
      refine br_t e ?_
      rw [nI_1]
      rw [e] at h
      exact h
  · intro d m i o st z K hi hlv h
    unfold wpX9_whole_L9
    have hx : ∀ x : Int32, lv_ x = nI 0 → ¬ ch_ n t i = x := fun x h q => hlv (by rw [q]; exact h)
    refine r_lk hn h5 hb hi ?_
    refine br_f (hx 124 (by decide)) ?_
    exact h

theorem lw1 (hn : n ≤ 60) (h5 : s 5 = nI n) (hb : ∀ i, i < n → t i &&& 255 = s (282 + i)) {op : Nat} (hv : ∀ i T, i ≤ n → T.length ≤ i → LV u n t s 2 op i T) : ∀ i T, i ≤ n → T.length ≤ i → LV u n t s 1 op i T := by
  refine lvb (L := (fun d => wpX9_both_L9 (wpG9 d 0) (wpG9 d 1) (wpG9 d 2) (wpG9 d 3) (wpG9 d 4) (wpG9 d 5))) hn (by decide) (by decide) ?_ ?_ (fun d a o st z K h => h) hv
  · intro d m i o st z K hi hlv h
    unfold wpX9_both_L9
    have hc : ch_ n t i = 38 := by
      rcases lv_c (ch_ n t i) with ⟨e, q⟩ | ⟨e, q⟩ | ⟨e, q⟩ | ⟨e, q⟩ | ⟨e, q⟩ | ⟨e, q⟩ | ⟨e, q⟩ | ⟨e, q⟩ | ⟨e, q⟩ | ⟨e, q⟩ | ⟨q, -⟩
      all_goals first | exact e | exact absurd (hlv.symm.trans q) (by decide)
    have e := hc
    · refine r_lk hn h5 hb hi ?_
      refine br_t e ?_
      rw [nI_1]
      rw [e] at h
      exact h
  · intro d m i o st z K hi hlv h
    unfold wpX9_both_L9
    have hx : ∀ x : Int32, lv_ x = nI 1 → ¬ ch_ n t i = x := fun x h q => hlv (by rw [q]; exact h)
    refine r_lk hn h5 hb hi ?_
    refine br_f (hx 38 (by decide)) ?_
    exact h

theorem lw3 (hn : n ≤ 60) (h5 : s 5 = nI n) (hb : ∀ i, i < n → t i &&& 255 = s (282 + i)) {op : Nat} (hv : ∀ i T, i ≤ n → T.length ≤ i → LV u n t s 4 op i T) : ∀ i T, i ≤ n → T.length ≤ i → LV u n t s 3 op i T := by
  refine lvb (L := (fun d => wpX9_sum_L9 (wpG9 d 0) (wpG9 d 1) (wpG9 d 2) (wpG9 d 3) (wpG9 d 4) (wpG9 d 5))) hn (by decide) (by decide) ?_ ?_ (fun d a o st z K h => h) hv
  · intro d m i o st z K hi hlv h
    unfold wpX9_sum_L9
    have hc : ch_ n t i = 43 ∨ ch_ n t i = 45 := by
      rcases lv_c (ch_ n t i) with ⟨e, q⟩ | ⟨e, q⟩ | ⟨e, q⟩ | ⟨e, q⟩ | ⟨e, q⟩ | ⟨e, q⟩ | ⟨e, q⟩ | ⟨e, q⟩ | ⟨e, q⟩ | ⟨e, q⟩ | ⟨q, -⟩
      all_goals first | exact Or.inl e | exact Or.inr (e) | exact absurd (hlv.symm.trans q) (by decide)
    rcases hc with e | e
    · refine r_lk hn h5 hb hi ?_
      refine br_t e ?_
      refine r_lk hn h5 hb hi ?_
      rw [nI_1]
      exact h
    · refine r_lk hn h5 hb hi ?_
      refine br_f (by rw [e]; decide) ?_
      refine r_lk hn h5 hb hi ?_
      refine br_t e ?_
      refine r_lk hn h5 hb hi ?_
      rw [nI_1]
      exact h
  · intro d m i o st z K hi hlv h
    unfold wpX9_sum_L9
    have hx : ∀ x : Int32, lv_ x = nI 3 → ¬ ch_ n t i = x := fun x h q => hlv (by rw [q]; exact h)
    refine r_lk hn h5 hb hi ?_
    refine br_f (hx 43 (by decide)) ?_
    refine r_lk hn h5 hb hi ?_
    refine br_f (hx 45 (by decide)) ?_
    exact h

theorem lw4 (hn : n ≤ 60) (h5 : s 5 = nI n) (hb : ∀ i, i < n → t i &&& 255 = s (282 + i)) {op : Nat} (hv : ∀ i T, i ≤ n → T.length ≤ i → LV u n t s 5 op i T) : ∀ i T, i ≤ n → T.length ≤ i → LV u n t s 4 op i T := by
  refine lvb (L := (fun d => wpX9_product_L9 (wpG9 d 0) (wpG9 d 1) (wpG9 d 2) (wpG9 d 3) (wpG9 d 4) (wpG9 d 5))) hn (by decide) (by decide) ?_ ?_ (fun d a o st z K h => h) hv
  · intro d m i o st z K hi hlv h
    unfold wpX9_product_L9
    have hc : ch_ n t i = 42 ∨ ch_ n t i = 47 ∨ ch_ n t i = 37 := by
      rcases lv_c (ch_ n t i) with ⟨e, q⟩ | ⟨e, q⟩ | ⟨e, q⟩ | ⟨e, q⟩ | ⟨e, q⟩ | ⟨e, q⟩ | ⟨e, q⟩ | ⟨e, q⟩ | ⟨e, q⟩ | ⟨e, q⟩ | ⟨q, -⟩
      all_goals first | exact Or.inl e | exact Or.inr (Or.inl e) | exact Or.inr (Or.inr (e)) | exact absurd (hlv.symm.trans q) (by decide)
    rcases hc with e | e | e
    · refine r_lk hn h5 hb hi ?_
      refine br_t e ?_
      refine r_lk hn h5 hb hi ?_
      rw [nI_1]
      exact h
    · refine r_lk hn h5 hb hi ?_
      refine br_f (by rw [e]; decide) ?_
      refine r_lk hn h5 hb hi ?_
      refine br_t e ?_
      refine r_lk hn h5 hb hi ?_
      rw [nI_1]
      exact h
    · refine r_lk hn h5 hb hi ?_
      refine br_f (by rw [e]; decide) ?_
      refine r_lk hn h5 hb hi ?_
      refine br_f (by rw [e]; decide) ?_
      refine r_lk hn h5 hb hi ?_
      refine br_t e ?_
      refine r_lk hn h5 hb hi ?_
      rw [nI_1]
      exact h
  · intro d m i o st z K hi hlv h
    unfold wpX9_product_L9
    have hx : ∀ x : Int32, lv_ x = nI 4 → ¬ ch_ n t i = x := fun x h q => hlv (by rw [q]; exact h)
    refine r_lk hn h5 hb hi ?_
    refine br_f (hx 42 (by decide)) ?_
    refine r_lk hn h5 hb hi ?_
    refine br_f (hx 47 (by decide)) ?_
    refine r_lk hn h5 hb hi ?_
    refine br_f (hx 37 (by decide)) ?_
    exact h

theorem snA (hn : n ≤ 60) (hu : u < 2) (h5 : s 5 = nI n) (hb : ∀ i, i < n → t i &&& 255 = s (282 + i)) : ∀ k op, op + k = 5 → ∀ i T, i ≤ n → T.length ≤ i → SN u n t s op i T := by
  intro k
  induction k with
  | zero => intro op h; exact sn hn hu h5 hb (by omega) (fun q => by omega) (fun q => by omega)
  | succ k ih =>
    intro op h
    have h1 := ih (op + 1) (by omega)
    exact sn hn hu h5 hb (by omega) (fun _ => h1) (fun _ => lw0 hn h5 hb (lw1 hn h5 hb (lv2 hn h5 hb (lw3 hn h5 hb (lw4 hn h5 hb (lv5 h1))))))
theorem lvA (hn : n ≤ 60) (hu : u < 2) (h5 : s 5 = nI n) (hb : ∀ i, i < n → t i &&& 255 = s (282 + i)) : LV u n t s 0 0 0 [] :=
  lw0 hn h5 hb (lw1 hn h5 hb (lv2 hn h5 hb (lw3 hn h5 hb (lw4 hn h5 hb (lv5 (snA hn hu h5 hb 5 0 (by omega))))))) 0 [] (Nat.zero_le n) (Nat.le_refl 0)
end Texts2
theorem tkx {u : Nat} : ∀ T : List (Int32 × Int32 × Int32), hw_ u T → ∀ st, pl_ok st (fx_ T) → tx_n st T.length = hh_ T ∧ ∀ k, k < T.length → (-3 ≤ st k ∧ st k ≤ 9999) ∨ (st k = -33 ∧ 1 ≤ tx_n st k) ∨ ((st k = -124 ∨ st k = -38 ∨ st k = -60 ∨ st k = -61 ∨ st k = -62 ∨ st k = -43 ∨ st k = -45 ∨ st k = -42 ∨ st k = -47 ∨ st k = -37) ∧ 2 ≤ tx_n st k) := by
  intro T
  induction T with
  | nil => intro _ st _; exact ⟨rfl, fun k h => absurd h (Nat.not_lt_zero k)⟩
  | cons e T ih =>
    intro hw st hp
    obtain ⟨w1, w2, w3⟩ := hw
    have ht : st T.length = e.1 := by have := pl_top (x := e.1) (l := fx_ T) hp; rwa [fx_n] at this
    obtain ⟨i1, i2⟩ := ih w1 st (pl_tail (x := e.1) (l := fx_ T) hp)
    refine ⟨?_, fun k hk => ?_⟩
    · show (if -3 ≤ st T.length then tx_n st T.length + 1 else if st T.length = -33 then tx_n st T.length else tx_n st T.length - 1) = _
      rw [ht, i1]
      rfl
    · rcases Nat.lt_or_ge k T.length with q | q
      · exact i2 k q
      · rw [List.length_cons] at hk
        obtain rfl : k = T.length := by omega
        rw [ht, i1]
        exact w3
theorem tke {u : Nat} : ∀ T : List (Int32 × Int32 × Int32), hw_ u T → ∀ st z, pl_ok st (fx_ T) → pl_ok z (fl_ T) → ∀ k, k < T.length → tx_e u (st k) (z (2 * k)) (z (2 * k + 1)) := by
  intro T
  induction T with
  | nil => intro _ st z _ _ k h; exact absurd h (Nat.not_lt_zero k)
  | cons e T ih =>
    intro hw st z hp hz k hk
    obtain ⟨w1, w2, w3⟩ := hw
    have ht : st T.length = e.1 := by have := pl_top (x := e.1) (l := fx_ T) hp; rwa [fx_n] at this
    have hz1 : z (2 * T.length + 1) = e.2.2 := by have := pl_top (x := e.2.2) (l := e.2.1 :: fl_ T) hz; rwa [List.length_cons, fl_n] at this
    have hz2 := pl_tail (x := e.2.2) (l := e.2.1 :: fl_ T) hz
    have hz3 : z (2 * T.length) = e.2.1 := by have := pl_top (x := e.2.1) (l := fl_ T) hz2; rwa [fl_n] at this
    rcases Nat.lt_or_ge k T.length with q | q
    · exact ih w1 st z (pl_tail (x := e.1) (l := fx_ T) hp) (pl_tail (x := e.2.1) (l := fl_ T) hz2) k q
    · rw [List.length_cons] at hk
      obtain rfl : k = T.length := by omega
      rw [ht, hz1, hz3]
      exact w2
theorem r_txl {u m : Nat} (hu : u < 2) (hm : m ≤ 60) {s0 z er : Nat → Int32} {at' o y2 : Int32} {K : Int32 → Int32 → Int32 → Int32 → Int32 → (Nat → Int32) → (Nat → Int32) → (Nat → Int32) → Prop}
    (hK : ∀ s' : Nat → Int32, (∀ p, p < 2 * m → s' (33 + 125 * u + p) = z p) → (∀ p, p < 33 + 125 * u ∨ 33 + 125 * u + 2 * m ≤ p → s' p = s0 p) → K 1 at' o (nI m) (nI u) s' z er) :
    ∀ f p s1, 2 * m - p < f → p ≤ 2 * m → (∀ q, q < p → s1 (33 + 125 * u + q) = z q) → (∀ q, q < 33 + 125 * u ∨ 33 + 125 * u + p ≤ q → s1 q = s0 q) → wpX9_text_L101 f (nI u) y2 (nI (32 + 125 * u)) (nI p) at' o (nI m) (nI u) s1 z er K := by
  intro f
  induction f with
  | zero => intro p s1 h; omega
  | succ f ih =>
    intro p s1 hf hp h1 h2
    have e2 : (2 * nI m : Int32) = nI (2 * m) := by rw [show (2 : Int32) = nI 2 from rfl, pk_mul]
    unfold wpX9_text_L101
    rw [e2, nI_1, nI_add, i_cl (show p < 2147483648 by omega), i_cl (show 32 + 125 * u + 1 + p < 2147483648 by omega), nI_1]
    rcases Nat.lt_or_ge p (2 * m) with q | q
    · refine br_f (nI_ge q (by omega)) ⟨vp_in_nI (by omega) (by decide), vp_in_nI (by omega) (by decide), ih (p + 1) _ (by omega) (by omega) (fun r hr => ?_) (fun r hr => ?_)⟩
      · by_cases e : r = p
        · rw [e, show 32 + 125 * u + 1 + p = 33 + 125 * u + p by omega, pk_us]
        · rw [pk_un (by omega)]; exact h1 r (by omega)
      · rw [pk_un (by omega)]; exact h2 r (by omega)
    · obtain rfl : p = 2 * m := by omega
      exact br_t (nI_le (Nat.le_refl _) (by omega)) (hK s1 h1 h2)
theorem c_flt {T u nm0 : Nat} {tape bytes steps : Nat → Int32} {size at0 len : Int32} {K : Int32 → Int32 → Int32 → Nat → Int32 → (Nat → Int32) → (Nat → Int32) → Prop} (hT : T ≤ 60) (hf : ∀ i, i < 60 → fits .byte (.int (tape i)) = true)
    {b : Bool} {i' : Nat} {T' : List (Int32 × Int32 × Int32)} (hi' : i' ≤ T)
    (hc : ∀ K, q8 b i' T' K → wpG4 64 0 0 0 (nI T) 0 u 0 (va_cpy tape bytes 0 0 T) steps K)
    (hK : ∀ len st by', (b = true → len = nI T'.length ∧ pl_ok st (fx_ T')) → K (if b = true ∧ i' = T then -1 else nI i') (nI T) (nI i') u len by' st) : wpX4_faultIn (nI T) u tape size at0 nm0 len bytes steps K := by
  have e3 : (if (0 : Int32) < nI T then nI T else 0) = nI T := by
    by_cases h : T = 0
    · subst h; rfl
    · exact if_pos (show nI 0 < nI T from nI_lt (by omega) (by omega))
  unfold wpX4_faultIn
  rw [if_neg (show ¬ (60 : Nat) < 60 by decide), if_neg (show ¬ (60 : Int32) < nI T from (show ¬ nI 60 < nI T from nI_nlt hT (by decide))), e3, c_0, i_cl (show T < 2147483648 by omega)]
  refine ⟨by decide, by decide, nI_pos (by omega), by omega, by omega, fun i hi => by rw [Nat.zero_add]; exact hf i (by omega), hc _ (fun len st h => ?_)⟩
  have hk := hK len st (va_cpy tape bytes 0 0 T) h
  cases b with
  | false => exact br_t rfl (br_t rfl hk)
  | true =>
    refine br_f (by decide) ?_
    by_cases e : i' = T
    · rw [if_pos ⟨rfl, e⟩] at hk
      exact br_t (by rw [e]) (br_f (by decide) hk)
    · rw [if_neg (fun q => e q.2)] at hk
      exact br_f (fun q => e ((nI_eq (by omega) (by omega)).mp q)) (br_t rfl hk)
theorem pl_cg {f g : Nat → Int32} {l : List Int32} (h : pl_ok f l) (e : ∀ i, i < l.length → g i = f i) : pl_ok g l := fun j hj => by rw [e _ (by omega)]; exact h j hj
theorem rt_mk {u m : Nat} (hm : m ≤ 60) {T : List (Int32 × Int32 × Int32)} {st z s' : Nat → Int32} (hl : T.length = m) (hh : hh_ T = 1) (hw : hw_ u T) (h1 : pl_ok st (fx_ T)) (h2 : pl_ok z (fl_ T)) (e0 : s' (32 + 125 * u) = nI m) (e1 : ∀ p, p < 2 * m → s' (33 + 125 * u + p) = z p) : rt u (nI m) st s' := by
  subst hl
  obtain ⟨x1, x2⟩ := tkx T hw st h1
  have x3 := tke T hw st z h1 h2
  refine ⟨e0.symm, in_mk (n := 60) hm (by decide), ?_, ?_⟩
  · rw [i_tn (by omega)]
    exact ⟨hm, fun _ => x1.trans hh, x2⟩
  · rw [i_tn (by omega)]
    intro k hk
    rw [e1 (2 * k) (by omega), show 34 + 125 * u + 2 * k = 33 + 125 * u + (2 * k + 1) by omega, e1 (2 * k + 1) (by omega)]
    exact x3 k hk

set_option maxRecDepth 20000 in
theorem pc_text {c d : Nat → Int32} {A B : Nat → Nat → Int32} {nm : Nat} {x1 : Int32} (hR : rl c A d B nm) : wpX8_text x1 (c 2) (A 6) (c 34) (c 35) nm (c 36) (A 33) (A 34) (c 10) (A 8) 1152 (A 10) (c 14) (A 11) 5280 (A 13) (A 36) (fun r8 u0 u1 u2 u3 u4 u5 u6 u7 u8 u9 u10 u11 u12 u13 => wpX9_text x1 (d 1) (d 2) (d 3) (d 4) (B 0) (B 4) (B 3) (fun r9 w0 w1 w2 w3 w4 w5 w6 => r8 = r9 ∧ rl (va_up (va_up (va_up (va_up (va_up (va_up c 2 u0) 34 u1) 35 u2) 36 u4) 10 u7) 14 u10) (va_up (va_up (va_up (va_up (va_up (va_up (va_up A 33 u5) 34 u6) 8 u8) 10 u9) 11 u11) 13 u12) 36 u13) (va_up (va_up (va_up (va_up d 1 w0) 2 w1) 3 w2) 4 w3) (va_up (va_up (va_up B 0 w4) 4 w5) 3 w6) u3)) := by 
  obtain ⟨hw, hi, ht0, ht1, hm0, hm1, him, her, hv, hs0, hs1, hs2, hs3, hnm⟩ := id hR
  obtain ⟨e1, e2, e3, e4, e5, e6, ej0, ej1, hev, hkk, hmm, hmk, htp, htf, hwt⟩ := id hw
  obtain ⟨n, hn, eT⟩ := in_nI (n := 60) hi.2.2.2.2.1
  have ec2 : c 2 = nI n := e5.trans eT
  unfold wpX8_text wpX8_isUse
  rcases in_dec x1 1 (by decide) with hx | ⟨u, hu1, rfl⟩
  · refine w8_f (n := 1) (by decide) hx ⟨rfl, br_t rfl (e8 (k := 1) (by decide) ?_)⟩
    unfold wpX9_text
    refine w9_f (n := 1) (by decide) hx (br_t rfl (e9 (k := 1) (by decide) ?_))
    exact ⟨rfl, hw, hi, ht0, ht1, hm0, hm1, him, er_up her (k := 1) (by decide), hv, hs0, hs1, hs2, hs3, hnm⟩
  have hu : u < 2 := by omega
  refine w8_t (n := 1) hu1 (by decide) ⟨rfl, br_f (by decide) ?_⟩
  rw [ec2]
  -- the new row
  have key : ∀ s' : Nat → Int32, s' 5 = 0 → (∀ p, p < 5 ∨ (5 < p ∧ p < 32) ∨ 282 ≤ p → s' p = B 0 p) → rw_ (c 5) (c 6) (c 4) (c 1) 0 (c 3) (A 0) (A 2) (A 3) (A 4) (A 5) (A 6) (A 7) s' ∧ ri s' := by
    intro s' h5 hp
    obtain ⟨i0, i1, i2, i3, i5, i6, i7, ie, ik, im, is⟩ := id hi
    exact ⟨⟨by rw [hp _ (by omega)]; exact e1, by rw [hp _ (by omega)]; exact e2, by rw [hp _ (by omega)]; exact e3, by rw [hp _ (by omega)]; exact e4, h5.symm, by rw [hp _ (by omega)]; exact e6, by rw [hp _ (by omega)]; exact ej0, by rw [hp _ (by omega)]; exact ej1,
      fun i h => by rw [hp _ (by omega)]; exact hev i h, fun i h => by rw [hp _ (by omega)]; exact hkk i h, fun i h => by rw [hp _ (by omega)]; exact hmm i h, fun i h => by rw [hp _ (by omega)]; exact hmk i h, fun i h => by rw [hp _ (by omega)]; exact htp i h, htf, fun i h => by rw [hp _ (by omega)]; exact hwt i h⟩,
      ⟨by rw [hp _ (by omega)]; exact i0, by rw [hp _ (by omega)]; exact i1, by rw [hp _ (by omega)]; exact i2, by rw [hp _ (by omega)]; exact i3, by rw [h5]; exact ⟨by decide, by decide⟩, by rw [hp _ (by omega)]; exact i6, by rw [hp _ (by omega)]; exact i7,
      fun i h => by rw [hp _ (by omega)]; exact ie i h, fun i h => by rw [hp _ (by omega)]; exact ik i h, fun i h => by rw [hp _ (by omega)]; exact im i h, fun i h => by rw [hp _ (by omega)]; exact is i h⟩⟩
  obtain ⟨b, i', T', ⟨-, g2, g3, g4⟩, hc8, hc9⟩ := lvA (u := u) (n := n) (t := va_cpy (A 6) (A 33) 0 0 n) (s := B 0) hn hu eT (fun i hi => by
    rw [pk_cpy_in (by omega) (by omega), show 0 + (i - 0) = i by omega]; exact htp i (by omega))
  have gl : T'.length ≤ 60 := by have : ([] : List (Int32 × Int32 × Int32)).length = 0 := rfl; omega
  have cls : ∀ K, q8 b i' T' K → wpG4 64 0 0 0 (nI n) 0 u 0 (va_cpy (A 6) (A 33) 0 0 n) (A 34) K := fun K hK => hc8 64 (A 34) K (by decide) (pl_nil _) hK
  have ref : ∀ K : Int32 → Int32 → Int32 → Int32 → Int32 → (Nat → Int32) → (Nat → Int32) → (Nat → Int32) → Prop,
      (¬ (b = true ∧ i' = n) → ∀ o len z, K (-10 - nI i') (nI i') o len (nI u) (upd (B 0) 5 0) z (B 3)) →
      (b = true ∧ i' = n → ∀ s' z, pl_ok z (fl_ T') → (∀ p, p < 2 * T'.length → s' (33 + 125 * u + p) = z p) → s' (32 + 125 * u) = nI T'.length → s' 5 = 0 → (∀ p, p < 5 ∨ (5 < p ∧ p < 32 + 125 * u) ∨ 33 + 125 * u + 2 * T'.length ≤ p → s' p = B 0 p) → K 1 (nI i') (nI 0) (nI T'.length) (nI u) s' z (B 3)) →
      wpX9_text (nI u) (d 1) (d 2) (d 3) (d 4) (B 0) (B 4) (B 3) K := by
    intro K hK0 hK1
    have e : (32 + 125 * nI u : Int32) = nI (32 + 125 * u) := by rw [show (125 : Int32) = nI 125 from rfl, pk_mul, show (32 : Int32) = nI 32 from rfl, nI_add]
    unfold wpX9_text
    rw [e, show (5 : Int32).toNatClampNeg = 5 from rfl, i_cl (show 32 + 125 * u < 2147483648 by omega), eT]
    refine w9_t (n := 1) hu1 (by decide) (br_f (by decide) (hc9 64 (B 4) _ (by decide) (pl_nil _) (fun o len z h => ?_)))
    cases b with
    | false => exact br_t rfl ⟨vp_in_iff.mpr (by decide), br_t rfl (hK0 (fun q => nomatch q.1) o len z)⟩
    | true =>
      obtain ⟨rfl, rfl, hp⟩ := h rfl
      refine br_f (by decide) ⟨vp_in_iff.mpr (by decide), ?_⟩
      by_cases ei : i' = n
      · refine br_t (by rw [ei]) ⟨vp_in_iff.mpr (by decide), br_f (by decide) ⟨vp_in_nI (by omega) (by decide), 2 * T'.length + 1, ?_⟩⟩
        refine r_txl hu gl (s0 := upd (upd (B 0) 5 0) (32 + 125 * u) (nI T'.length)) (fun s' p1 p2 => ?_) (2 * T'.length + 1) 0 _ (by omega) (by omega) (fun q hq => absurd hq (Nat.not_lt_zero q)) (fun q _ => rfl)
        exact hK1 ⟨rfl, ei⟩ s' z hp p1 (by rw [p2 _ (by omega), pk_us]) (by rw [p2 _ (by omega), pk_un (by omega), pk_us]) (fun p hp => by rw [p2 _ (by omega), pk_un (by omega), pk_un (by omega)])
      · exact br_f (fun q => ei ((nI_eq (by omega) (by omega)).mp q)) ⟨vp_in_iff.mpr (by decide), br_t rfl (hK0 (fun q => ei q.2) _ _ z)⟩
  rcases (show u = 0 ∨ u = 1 by omega) with rfl | rfl
  · have hK : ∀ len st by', (b = true → len = nI T'.length ∧ pl_ok st (fx_ T')) → ((if b = true ∧ i' = n then -1 else nI i') < 0 → ((nI 0 = 0 → wpX1_take len st (c 10) (A 8) 1152 (A 10) (fun u85_0 u85_1 u85_2 => (fun r8 u0 u1 u2 u3 u4 u5 u6 u7 u8 u9 u10 u11 u12 u13 => wpX9_text (nI 0) (d 1) (d 2) (d 3) (d 4) (B 0) (B 4) (B 3) (fun r9 w0 w1 w2 w3 w4 w5 w6 => r8 = r9 ∧ rl (va_up (va_up (va_up (va_up (va_up (va_up c 2 u0) 34 u1) 35 u2) 36 u4) 10 u7) 14 u10) (va_up (va_up (va_up (va_up (va_up (va_up (va_up A 33 u5) 34 u6) 8 u8) 10 u9) 11 u11) 13 u12) 36 u13) (va_up (va_up (va_up (va_up d 1 w0) 2 w1) 3 w2) 4 w3) (va_up (va_up (va_up B 0 w4) 4 w5) 3 w6) u3)) 1 0 (nI n) (nI i') 0 len by' st u85_0 u85_1 u85_2 (c 14) (A 11) (A 13) (A 36))) ∧ (¬ nI 0 = 0 → wpX1_take len st (c 14) (A 11) 5280 (A 13) (fun u85_0 u85_1 u85_2 => (fun r8 u0 u1 u2 u3 u4 u5 u6 u7 u8 u9 u10 u11 u12 u13 => wpX9_text (nI 0) (d 1) (d 2) (d 3) (d 4) (B 0) (B 4) (B 3) (fun r9 w0 w1 w2 w3 w4 w5 w6 => r8 = r9 ∧ rl (va_up (va_up (va_up (va_up (va_up (va_up c 2 u0) 34 u1) 35 u2) 36 u4) 10 u7) 14 u10) (va_up (va_up (va_up (va_up (va_up (va_up (va_up A 33 u5) 34 u6) 8 u8) 10 u9) 11 u11) 13 u12) 36 u13) (va_up (va_up (va_up (va_up d 1 w0) 2 w1) 3 w2) 4 w3) (va_up (va_up (va_up B 0 w4) 4 w5) 3 w6) u3)) 1 0 (nI n) (nI i') 0 len by' st (c 10) (A 8) (A 10) u85_0 u85_1 u85_2 (A 36))))) ∧ (¬ (if b = true ∧ i' = n then -1 else nI i') < 0 → (fun r8 u0 u1 u2 u3 u4 u5 u6 u7 u8 u9 u10 u11 u12 u13 => wpX9_text (nI 0) (d 1) (d 2) (d 3) (d 4) (B 0) (B 4) (B 3) (fun r9 w0 w1 w2 w3 w4 w5 w6 => r8 = r9 ∧ rl (va_up (va_up (va_up (va_up (va_up (va_up c 2 u0) 34 u1) 35 u2) 36 u4) 10 u7) 14 u10) (va_up (va_up (va_up (va_up (va_up (va_up (va_up A 33 u5) 34 u6) 8 u8) 10 u9) 11 u11) 13 u12) 36 u13) (va_up (va_up (va_up (va_up d 1 w0) 2 w1) 3 w2) 4 w3) (va_up (va_up (va_up B 0 w4) 4 w5) 3 w6) u3)) ((-10) - (if b = true ∧ i' = n then -1 else nI i')) 0 (nI n) (nI i') 0 len by' st (c 10) (A 8) (A 10) (c 14) (A 11) (A 13) (A 36)) := by
      intro len st by' hh
      by_cases hz : b = true ∧ i' = n
      · rw [if_pos hz]
        obtain ⟨rfl, hp8⟩ := hh hz.1
        obtain ⟨-, gh, gw⟩ := g4 hz.1
        refine br_t (by decide) (br_t rfl (tk8 gl (by decide) (fun st' mem' ms mz => ?_)))
        refine ref _ (fun q => absurd hz q) (fun _ s' z hz9 p1 p2 p3 p4 => ?_)
        obtain ⟨k1, k2⟩ := key s' p3 (fun p hp => p4 p (by omega))
        have hnew : rt 0 (nI T'.length) st' s' := rt_mk gl rfl gh (gw trivial) (pl_cg hp8 (fun i hi => ms i (by rwa [fx_n] at hi))) hz9 p2 p1
        exact ⟨rfl, k1, k2, hnew, rt_cg ht1 (fun i h1 h2 => p4 i (by omega)), rm_0 hm0 mz, hm1, him, her, hv, hs0, hs1, hs2, hs3, by decide⟩
      · rw [if_neg hz]
        refine br_f (nI_pos (by omega)) (ref _ (fun _ o len9 z => ?_) (fun q => absurd q hz))
        obtain ⟨k1, k2⟩ := key (upd (B 0) 5 0) pk_us (fun p hp => pk_un (by omega))
        exact ⟨rfl, k1, k2, rt_cg ht0 (fun i h1 h2 => pk_un (by omega)), rt_cg ht1 (fun i h1 h2 => pk_un (by omega)), hm0, hm1, him, her, hv, hs0, hs1, hs2, hs3, by decide⟩
    exact br_t rfl (c_flt hn htf g2 cls hK)
  · have hK : ∀ len st by', (b = true → len = nI T'.length ∧ pl_ok st (fx_ T')) → ((if b = true ∧ i' = n then -1 else nI i') < 0 → ((nI 1 = 0 → wpX1_take len st (c 10) (A 8) 1152 (A 10) (fun u85_0 u85_1 u85_2 => (fun r8 u0 u1 u2 u3 u4 u5 u6 u7 u8 u9 u10 u11 u12 u13 => wpX9_text (nI 1) (d 1) (d 2) (d 3) (d 4) (B 0) (B 4) (B 3) (fun r9 w0 w1 w2 w3 w4 w5 w6 => r8 = r9 ∧ rl (va_up (va_up (va_up (va_up (va_up (va_up c 2 u0) 34 u1) 35 u2) 36 u4) 10 u7) 14 u10) (va_up (va_up (va_up (va_up (va_up (va_up (va_up A 33 u5) 34 u6) 8 u8) 10 u9) 11 u11) 13 u12) 36 u13) (va_up (va_up (va_up (va_up d 1 w0) 2 w1) 3 w2) 4 w3) (va_up (va_up (va_up B 0 w4) 4 w5) 3 w6) u3)) 1 0 (nI n) (nI i') 1 len by' st u85_0 u85_1 u85_2 (c 14) (A 11) (A 13) (A 36))) ∧ (¬ nI 1 = 0 → wpX1_take len st (c 14) (A 11) 5280 (A 13) (fun u85_0 u85_1 u85_2 => (fun r8 u0 u1 u2 u3 u4 u5 u6 u7 u8 u9 u10 u11 u12 u13 => wpX9_text (nI 1) (d 1) (d 2) (d 3) (d 4) (B 0) (B 4) (B 3) (fun r9 w0 w1 w2 w3 w4 w5 w6 => r8 = r9 ∧ rl (va_up (va_up (va_up (va_up (va_up (va_up c 2 u0) 34 u1) 35 u2) 36 u4) 10 u7) 14 u10) (va_up (va_up (va_up (va_up (va_up (va_up (va_up A 33 u5) 34 u6) 8 u8) 10 u9) 11 u11) 13 u12) 36 u13) (va_up (va_up (va_up (va_up d 1 w0) 2 w1) 3 w2) 4 w3) (va_up (va_up (va_up B 0 w4) 4 w5) 3 w6) u3)) 1 0 (nI n) (nI i') 1 len by' st (c 10) (A 8) (A 10) u85_0 u85_1 u85_2 (A 36))))) ∧ (¬ (if b = true ∧ i' = n then -1 else nI i') < 0 → (fun r8 u0 u1 u2 u3 u4 u5 u6 u7 u8 u9 u10 u11 u12 u13 => wpX9_text (nI 1) (d 1) (d 2) (d 3) (d 4) (B 0) (B 4) (B 3) (fun r9 w0 w1 w2 w3 w4 w5 w6 => r8 = r9 ∧ rl (va_up (va_up (va_up (va_up (va_up (va_up c 2 u0) 34 u1) 35 u2) 36 u4) 10 u7) 14 u10) (va_up (va_up (va_up (va_up (va_up (va_up (va_up A 33 u5) 34 u6) 8 u8) 10 u9) 11 u11) 13 u12) 36 u13) (va_up (va_up (va_up (va_up d 1 w0) 2 w1) 3 w2) 4 w3) (va_up (va_up (va_up B 0 w4) 4 w5) 3 w6) u3)) ((-10) - (if b = true ∧ i' = n then -1 else nI i')) 0 (nI n) (nI i') 1 len by' st (c 10) (A 8) (A 10) (c 14) (A 11) (A 13) (A 36)) := by
      intro len st by' hh
      by_cases hz : b = true ∧ i' = n
      · rw [if_pos hz]
        obtain ⟨rfl, hp8⟩ := hh hz.1
        obtain ⟨-, gh, gw⟩ := g4 hz.1
        refine br_t (by decide) (br_f (by decide) (tk8 gl (by decide) (fun st' mem' ms mz => ?_)))
        refine ref _ (fun q => absurd hz q) (fun _ s' z hz9 p1 p2 p3 p4 => ?_)
        obtain ⟨k1, k2⟩ := key s' p3 (fun p hp => p4 p (by omega))
        have hnew : rt 1 (nI T'.length) st' s' := rt_mk gl rfl gh (gw trivial) (pl_cg hp8 (fun i hi => ms i (by rwa [fx_n] at hi))) hz9 p2 p1
        exact ⟨rfl, k1, k2, rt_cg ht0 (fun i h1 h2 => p4 i (by omega)), hnew, hm0, rm_0 hm1 mz, him, her, hv, hs0, hs1, hs2, hs3, by decide⟩
      · rw [if_neg hz]
        refine br_f (nI_pos (by omega)) (ref _ (fun _ o len9 z => ?_) (fun q => absurd q hz))
        obtain ⟨k1, k2⟩ := key (upd (B 0) 5 0) pk_us (fun p hp => pk_un (by omega))
        exact ⟨rfl, k1, k2, rt_cg ht0 (fun i h1 h2 => pk_un (by omega)), rt_cg ht1 (fun i h1 h2 => pk_un (by omega)), hm0, hm1, him, her, hv, hs0, hs1, hs2, hs3, by decide⟩
    exact br_f (by decide) (c_flt hn htf g2 cls hK)
