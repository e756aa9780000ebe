/-! numbers -/
theorem i_lt {x y : Int32} : x < y ↔ x.toInt < y.toInt := Int32.lt_iff_toInt_lt
theorem i_le {x y : Int32} : x ≤ y ↔ x.toInt ≤ y.toInt := Int32.le_iff_toInt_le
theorem i_eq {x y : Int32} : x = y ↔ x.toInt = y.toInt := Int32.toInt_inj.symm
theorem i_lo (x : Int32) : -2147483648 ≤ x.toInt := Int32.le_toInt x
theorem i_hi (x : Int32) : x.toInt < 2147483648 := Int32.toInt_lt x
theorem i_bm {x : Int} (h1 : -2147483648 ≤ x) (h2 : x < 2147483648) : x.bmod (2 ^ 32) = x := by
  rw [Int.bmod_eq_emod]
  split <;> omega
theorem i_add {x y : Int32} (h1 : -2147483648 ≤ x.toInt + y.toInt) (h2 : x.toInt + y.toInt < 2147483648) : (x + y).toInt = x.toInt + y.toInt := by
  rw [Int32.toInt_add, i_bm h1 h2]
theorem i_sub {x y : Int32} (h1 : -2147483648 ≤ x.toInt - y.toInt) (h2 : x.toInt - y.toInt < 2147483648) : (x - y).toInt = x.toInt - y.toInt := by
  rw [Int32.toInt_sub, i_bm h1 h2]
theorem in_nI {x : Int32} {n : Nat} (h : in_ x n) : ∃ j : Nat, j ≤ n ∧ x = nI j := by
  obtain ⟨h1, h2⟩ := h
  refine ⟨x.toInt.toNat, by omega, i_eq.mpr ?_⟩
  have := i_hi x
  rw [nI_toInt (by omega)]
  omega
theorem in_mk {j n : Nat} (hj : j ≤ n) (hn : n < 2147483648) : in_ (nI j) n := by
  unfold in_
  rw [nI_toInt (by omega)]
  omega
theorem i_m2 (n : Nat) : nI (n + 2) + (-2) = nI n := by
  have h : (-2 : Int32) = -1 + -1 := by decide
  rw [h, ← Int32.add_assoc, pk_m1, pk_m1]
theorem i_cl {n : Nat} (h : n < 2147483648) : (nI n).toNatClampNeg = n := nI_clamp h
theorem i_ar (x : Int32) : x + 1 - 1 = x := Int32.add_sub_cancel x 1
theorem i_div1 (x : Int32) : x / (-1) = -x := by
  apply Int32.toBitVec_inj.mp
  show x.toBitVec.sdiv (-1#32) = -x.toBitVec
  rw [BitVec.sdiv_neg (by decide), BitVec.sdiv_one]
theorem i_rem1 (x : Int32) : x - x / (-1) * (-1) = 0 := by
  rw [i_div1, Int32.neg_mul_neg, Int32.mul_one, Int32.sub_self]
/-- an upper and a lower end -/
theorem tx_c1 {hi x : Int32} (h : 0 ≤ hi) : (if 0 < (if x < hi then x else hi) then (if x < hi then x else hi) else 0) = tx_c hi x := by
  unfold tx_c
  simp only [i_lt, i_le, Int32.toInt_zero] at h ⊢
  by_cases h1 : x.toInt < hi.toInt
  · rw [if_pos h1]
    by_cases h2 : x.toInt < 0
    · rw [if_neg (show ¬ 0 < x.toInt by omega), if_pos h2]
    · rw [if_neg h2, if_neg (show ¬ hi.toInt < x.toInt by omega)]
      by_cases h3 : 0 < x.toInt
      · rw [if_pos h3]
      · rw [if_neg h3]
        exact i_eq.mpr (by rw [Int32.toInt_zero]; omega)
  · rw [if_neg h1, if_neg (show ¬ x.toInt < 0 by omega)]
    by_cases h2 : hi.toInt < x.toInt
    · rw [if_pos h2]
      by_cases h3 : 0 < hi.toInt
      · rw [if_pos h3]
      · rw [if_neg h3]
        exact i_eq.mpr (by rw [Int32.toInt_zero]; omega)
    · rw [if_neg h2]
      have e : x = hi := i_eq.mpr (by omega)
      rw [e]
      by_cases h3 : 0 < hi.toInt
      · rw [if_pos h3]
      · rw [if_neg h3]
        exact i_eq.mpr (by rw [Int32.toInt_zero]; omega)
theorem h_held {x hi : Int32} {K : Int32 → Prop} (hk : K (tx_c hi x)) : wpX9_held x 0 hi K := by
  unfold wpX9_held
  unfold tx_c at hk
  refine ⟨fun h0 => ⟨fun h1 => ?_, fun h1 => ?_⟩, fun h0 => ?_⟩
  · rw [if_neg (by rw [i_lt]; rw [i_le] at h0; omega), if_neg (by rw [i_lt]; rw [i_le] at h1; omega)] at hk
    exact hk
  · rw [if_neg (by rw [i_lt]; rw [i_le] at h0; omega), if_pos (by rw [i_lt]; rw [i_le] at h1; omega)] at hk
    exact hk
  · rw [if_pos (by rw [i_lt]; rw [i_le] at h0; omega)] at hk
    exact hk
/-- a pile: the latest first -/
def pl_ok (f : Nat → Int32) (l : List Int32) : Prop := ∀ j, j < l.length → f (l.length - 1 - j) = l.getD j 0
theorem pl_nil (f : Nat → Int32) : pl_ok f [] := fun j h => absurd h (Nat.not_lt_zero j)
theorem pl_top {f : Nat → Int32} {x : Int32} {l : List Int32} (h : pl_ok f (x :: l)) : f l.length = x := by
  have := h 0 (by simp)
  simpa using this
theorem pl_tail {f : Nat → Int32} {x : Int32} {l : List Int32} (h : pl_ok f (x :: l)) : pl_ok f l := by
  intro j hj
  have := h (j + 1) (by simp; omega)
  rw [List.getD_cons_succ] at this
  rw [← this]
  congr 1
  simp
  omega
theorem pl_push {f : Nat → Int32} {l : List Int32} (x : Int32) (h : pl_ok f l) : pl_ok (upd f l.length x) (x :: l) := by
  intro j hj
  cases j with
  | zero => simp [upd]
  | succ j =>
    have hj' : j < l.length := by simpa using hj
    rw [List.getD_cons_succ, ← h j hj']
    have e : (x :: l).length - 1 - (j + 1) = l.length - 1 - j := by simp; omega
    rw [e, pk_un (by omega)]
theorem pl_set {f : Nat → Int32} {l : List Int32} {x : Int32} (y : Int32) (h : pl_ok f (x :: l)) : pl_ok (upd f l.length y) (y :: l) := pl_push y (pl_tail h)
theorem c_98 : (98 : Int32).toNatClampNeg = 98 := by decide
theorem c_101 : (101 : Int32).toNatClampNeg = 101 := by decide
theorem c_121 : (121 : Int32).toNatClampNeg = 121 := by decide
theorem c_114 : (114 : Int32).toNatClampNeg = 114 := by decide
theorem c_106 : (106 : Int32).toNatClampNeg = 106 := by decide
theorem c_0 : (0 : Int32).toNatClampNeg = 0 := by decide
theorem c_1 : (1 : Int32).toNatClampNeg = 1 := by decide
theorem c_2 : (2 : Int32).toNatClampNeg = 2 := by decide
theorem c_3 : (3 : Int32).toNatClampNeg = 3 := by decide
theorem c_7 : (7 : Int32).toNatClampNeg = 7 := by decide

/-! what a law gives, worked out by the class and by the reference -/
theorem tx_len {st : Nat → Int32} {n : Nat} (a b c : Int32) (h : tx_ok st n) : ∀ k, k ≤ n → (tx_v st a b c k).length = tx_n st k := by
  intro k
  induction k with
  | zero => intro _; rfl
  | succ k ih =>
    intro hk
    have ih := ih (by omega)
    have hs := h.2.2 k (by omega)
    unfold tx_v tx_n
    rcases hs with ⟨h1, h2⟩ | ⟨h1, h2⟩ | ⟨h1, h2⟩
    · by_cases h0 : 0 ≤ st k
      · rw [if_pos h0, if_pos h1, List.length_cons, ih]
      · rw [if_neg h0, if_pos h1, if_pos h1, List.length_cons, ih]
    · have e3 : ¬ -3 ≤ st k := by rw [h1]; decide
      have e0 : ¬ 0 ≤ st k := by rw [h1]; decide
      rw [if_neg e3, if_neg e0, if_neg e3, if_pos h1, if_pos h1]
      match hv : tx_v st a b c k with
      | [] => rw [hv] at ih; simp at ih; omega
      | x :: r => rw [hv] at ih; simpa using ih
    · have e3 : ¬ -3 ≤ st k := by rcases h1 with e | e | e | e | e | e | e | e | e | e <;> rw [e] <;> decide
      have e0 : ¬ 0 ≤ st k := by rcases h1 with e | e | e | e | e | e | e | e | e | e <;> rw [e] <;> decide
      have e33 : ¬ st k = -33 := by rcases h1 with e | e | e | e | e | e | e | e | e | e <;> rw [e] <;> decide
      rw [if_neg e3, if_neg e0, if_neg e3, if_neg e33, if_neg e33]
      match hv : tx_v st a b c k with
      | [] => rw [hv] at ih; simp at ih; omega
      | [x] => rw [hv] at ih; simp at ih; omega
      | x :: y :: r => rw [hv] at ih; simp at ih ⊢; omega
theorem tx_n_le {st : Nat → Int32} : ∀ k, tx_n st k ≤ k := by
  intro k
  induction k with
  | zero => exact Nat.le_refl _
  | succ k ih =>
    unfold tx_n
    split
    · omega
    · split <;> omega
theorem h_join {s x y : Int32} {K : Int32 → Prop} (hs : s = 124 ∨ s = 38 ∨ s = 60 ∨ s = 61 ∨ s = 62 ∨ s = 43 ∨ s = 45 ∨ s = 42 ∨ s = 47 ∨ s = 37) (hk : K (tx_j s x y)) : wpX1_join s x y K := by
  unfold wpX1_join
  rcases hs with rfl | rfl | rfl | rfl | rfl | rfl | rfl | rfl | rfl | rfl
  · have hk : K (if x ≠ 0 ∨ y ≠ 0 then 1 else 0) := hk
    exact br_f (by decide) (br_f (by decide) (br_f (by decide) (br_f (by decide) (br_f (by decide) (br_f (by decide) (br_f (by decide) (br_f (by decide) (br_t rfl (⟨fun h => ⟨fun h2 => by rw [if_neg (fun q => q.elim (fun w => w h) (fun w => w h2))] at hk; exact hk, fun h2 => by rw [if_pos (Or.inr h2)] at hk; exact hk⟩, fun h => by rw [if_pos (Or.inl h)] at hk; exact hk⟩)))))))))
  · have hk : K (if x ≠ 0 ∧ y ≠ 0 then 1 else 0) := hk
    exact br_t rfl (⟨fun h => by rw [if_neg (fun q => q.1 h)] at hk; exact hk, fun h => ⟨fun h2 => by rw [if_neg (fun q => q.2 h2)] at hk; exact hk, fun h2 => by rw [if_pos ⟨h, h2⟩] at hk; exact hk⟩⟩)
  · have hk : K (if x < y then 1 else 0) := hk
    exact br_f (by decide) (br_f (by decide) (br_f (by decide) (br_f (by decide) (br_f (by decide) (br_t rfl (⟨fun h => by rw [if_neg (by rw [i_lt]; rw [i_le] at h; omega)] at hk; exact hk, fun h => by rw [if_pos (by rw [i_lt]; rw [i_le] at h; omega)] at hk; exact hk⟩))))))
  · have hk : K (if x = y then 1 else 0) := hk
    exact br_f (by decide) (br_f (by decide) (br_f (by decide) (br_f (by decide) (br_f (by decide) (br_f (by decide) (br_t rfl (⟨fun h => by rw [if_pos h] at hk; exact hk, fun h => by rw [if_neg h] at hk; exact hk⟩)))))))
  · have hk : K (if y < x then 1 else 0) := hk
    exact br_f (by decide) (br_f (by decide) (br_f (by decide) (br_f (by decide) (br_f (by decide) (br_f (by decide) (br_f (by decide) (br_t rfl (⟨fun h => by rw [if_neg (by rw [i_lt]; rw [i_le] at h; omega)] at hk; exact hk, fun h => by rw [if_pos (by rw [i_lt]; rw [i_le] at h; omega)] at hk; exact hk⟩))))))))
  · have hk : K (x + y) := hk
    exact br_f (by decide) (br_f (by decide) (br_t rfl (hk)))
  · have hk : K (x - y) := hk
    exact br_f (by decide) (br_f (by decide) (br_f (by decide) (br_t rfl (hk))))
  · have hk : K (x * y) := hk
    exact br_f (by decide) (br_t rfl (hk))
  · have hk : K (if y = 0 then 0 else x / y) := hk
    exact br_f (by decide) (br_f (by decide) (br_f (by decide) (br_f (by decide) (br_t rfl (⟨fun h => by rw [if_pos h] at hk; exact hk, fun h => ⟨h, by rw [if_neg h] at hk; exact hk⟩⟩)))))
  · have hk : K (if y = 0 then 0 else x - x / y * y) := hk
    exact br_f (by decide) (br_f (by decide) (br_f (by decide) (br_f (by decide) (br_f (by decide) (br_f (by decide) (br_f (by decide) (br_f (by decide) (br_f (by decide) (⟨fun h => by rw [if_pos h] at hk; exact hk, fun h => ⟨h, by rw [if_neg h] at hk; exact hk⟩⟩)))))))))
theorem h_joined {s x y : Int32} {K : Int32 → Prop} (hs : s = 124 ∨ s = 38 ∨ s = 60 ∨ s = 61 ∨ s = 62 ∨ s = 43 ∨ s = 45 ∨ s = 42 ∨ s = 47 ∨ s = 37) (hk : K (tx_j s x y)) : wpX9_joined s x y K := by
  unfold wpX9_joined
  rcases hs with rfl | rfl | rfl | rfl | rfl | rfl | rfl | rfl | rfl | rfl
  · have hk : K (if x ≠ 0 ∨ y ≠ 0 then 1 else 0) := hk
    exact br_f (by decide) (br_f (by decide) (br_f (by decide) (br_f (by decide) (br_f (by decide) (br_f (by decide) (br_f (by decide) (br_f (by decide) (br_f (by decide) (br_f (by decide) (br_f (by decide) (br_f (by decide) (br_f (by decide) (br_f (by decide) (br_f (by decide) (br_f (by decide) (br_f (by decide) (br_f (by decide) (br_f (by decide) (br_f (by decide) (br_f (by decide) (br_f (by decide) (br_f (by decide) (br_f (by decide) (br_f (by decide) (br_f (by decide) (⟨fun h => ⟨fun h2 => by rw [if_neg (fun q => q.elim (fun w => w h) (fun w => w h2))] at hk; exact hk, fun h2 => by rw [if_pos (Or.inr h2)] at hk; exact hk⟩, fun h => by rw [if_pos (Or.inl h)] at hk; exact hk⟩))))))))))))))))))))))))))
  · have hk : K (if x ≠ 0 ∧ y ≠ 0 then 1 else 0) := hk
    exact br_f (by decide) (br_t rfl (⟨fun h => by rw [if_neg (fun q => q.1 h)] at hk; exact hk, fun h => ⟨fun h2 => by rw [if_neg (fun q => q.2 h2)] at hk; exact hk, fun h2 => by rw [if_pos ⟨h, h2⟩] at hk; exact hk⟩⟩))
  · have hk : K (if x < y then 1 else 0) := hk
    exact br_f (by decide) (br_f (by decide) (br_f (by decide) (br_f (by decide) (br_f (by decide) (br_f (by decide) (br_f (by decide) (br_f (by decide) (br_f (by decide) (br_f (by decide) (br_f (by decide) (br_f (by decide) (br_f (by decide) (br_f (by decide) (br_f (by decide) (br_f (by decide) (br_f (by decide) (br_f (by decide) (br_f (by decide) (br_f (by decide) (br_f (by decide) (br_f (by decide) (br_f (by decide) (br_t rfl (⟨fun h => by rw [if_neg (by rw [i_lt]; rw [i_le] at h; omega)] at hk; exact hk, fun h => by rw [if_pos (by rw [i_lt]; rw [i_le] at h; omega)] at hk; exact hk⟩))))))))))))))))))))))))
  · have hk : K (if x = y then 1 else 0) := hk
    exact br_f (by decide) (br_f (by decide) (br_f (by decide) (br_f (by decide) (br_f (by decide) (br_f (by decide) (br_f (by decide) (br_f (by decide) (br_f (by decide) (br_f (by decide) (br_f (by decide) (br_f (by decide) (br_f (by decide) (br_f (by decide) (br_f (by decide) (br_f (by decide) (br_f (by decide) (br_f (by decide) (br_f (by decide) (br_f (by decide) (br_f (by decide) (br_f (by decide) (br_f (by decide) (br_f (by decide) (br_t rfl (⟨fun h => by rw [if_pos h] at hk; exact hk, fun h => by rw [if_neg h] at hk; exact hk⟩)))))))))))))))))))))))))
  · have hk : K (if y < x then 1 else 0) := hk
    exact br_f (by decide) (br_f (by decide) (br_f (by decide) (br_f (by decide) (br_f (by decide) (br_f (by decide) (br_f (by decide) (br_f (by decide) (br_f (by decide) (br_f (by decide) (br_f (by decide) (br_f (by decide) (br_f (by decide) (br_f (by decide) (br_f (by decide) (br_f (by decide) (br_f (by decide) (br_f (by decide) (br_f (by decide) (br_f (by decide) (br_f (by decide) (br_f (by decide) (br_f (by decide) (br_f (by decide) (br_f (by decide) (br_t rfl (⟨fun h => by rw [if_neg (by rw [i_lt]; rw [i_le] at h; omega)] at hk; exact hk, fun h => by rw [if_pos (by rw [i_lt]; rw [i_le] at h; omega)] at hk; exact hk⟩))))))))))))))))))))))))))
  · have hk : K (x + y) := hk
    exact br_f (by decide) (br_f (by decide) (br_f (by decide) (br_f (by decide) (br_f (by decide) (br_f (by decide) (br_t rfl (hk)))))))
  · have hk : K (x - y) := hk
    exact br_f (by decide) (br_f (by decide) (br_f (by decide) (br_f (by decide) (br_f (by decide) (br_f (by decide) (br_f (by decide) (br_f (by decide) (br_t rfl (hk)))))))))
  · have hk : K (x * y) := hk
    exact br_f (by decide) (br_f (by decide) (br_f (by decide) (br_f (by decide) (br_f (by decide) (br_t rfl (hk))))))
  · have hk : K (if y = 0 then 0 else x / y) := hk
    exact br_f (by decide) (br_f (by decide) (br_f (by decide) (br_f (by decide) (br_f (by decide) (br_f (by decide) (br_f (by decide) (br_f (by decide) (br_f (by decide) (br_f (by decide) (br_t rfl (⟨fun h => by rw [if_pos h] at hk; exact hk, fun h => ⟨fun h2 => by rw [if_neg h, h2, i_div1] at hk; exact hk, fun h2 => ⟨h, by rw [if_neg h] at hk; exact hk⟩⟩⟩)))))))))))
  · have hk : K (if y = 0 then 0 else x - x / y * y) := hk
    exact br_t rfl (⟨fun h => by rw [if_pos h] at hk; exact hk, fun h => ⟨fun h2 => by rw [if_neg h, h2, i_rem1] at hk; exact hk, fun h2 => ⟨h, by rw [if_neg h] at hk; exact hk⟩⟩⟩)
def tx_l (st : Nat → Int32) (a b c : Int32) (k : Nat) : Int32 := if k = 0 then a else (tx_v st a b c k).headD 0
/-- the class's loop over the steps -/
theorem w_loop {st : Nat → Int32} {n : Nat} {a b c hi : Int32} {K : Int32 → (Nat → Int32) → Prop} (hn : n ≤ 60) (hok : tx_ok st n) (hhi : 0 ≤ hi) (hk : ∀ sk, K (tx_c hi (tx_l st a b c n)) sk) :
    ∀ (m k : Nat) (sk : Nat → Int32), k + m = n → pl_ok sk (tx_v st a b c k) → wpX1_work_L9 (m + 1) a b c (tx_l st a b c k) (nI (tx_v st a b c k).length) (nI k) hi (nI n) st sk K := by
  intro m
  induction m with
  | zero =>
    intro k sk hkm hp
    have e : k = n := by omega
    subst e
    rw [wpX1_work_L9]
    refine br_t (nI_le (Nat.le_refl _) (by omega)) ?_
    rw [tx_c1 hhi]
    exact hk sk
  | succ m ih =>
    intro k sk hkm hp
    rw [wpX1_work_L9]
    refine br_f (nI_ge (by omega) (by omega)) ⟨vp_in_nI (by omega) (by decide), ?_⟩
    rw [i_cl (show k < 2147483648 by omega)]
    have hs := hok.2.2 k (by omega)
    have hlen := tx_len a b c hok k (by omega)
    have hle := @tx_n_le st k
    have ih1 : ∀ (v : Int32) (l : List Int32) (sk' : Nat → Int32), tx_v st a b c (k + 1) = v :: l → pl_ok sk' (v :: l) → wpX1_work_L9 (m + 1) a b c v (nI (l.length + 1)) (nI (k + 1)) hi (nI n) st sk' K := by
      intro v l sk' e hp'
      have h := ih (k + 1) sk' (by omega) (by rw [e]; exact hp')
      rw [e] at h
      have e2 : tx_l st a b c (k + 1) = v := by unfold tx_l; rw [if_neg (by omega), e]; rfl
      rw [e2] at h
      exact h
    have put : ∀ (v : Int32) (l : List Int32), l.length < 60 → tx_v st a b c (k + 1) = v :: l → pl_ok sk l → (((nI l.length < 0 → wpX1_work_L9 (m + 1) a b c v (nI l.length + 1) (nI k + 1) hi (nI n) st sk K) ∧ (¬ nI l.length < 0 → ((60 ≤ nI l.length → wpX1_work_L9 (m + 1) a b c v (nI l.length + 1) (nI k + 1) hi (nI n) st sk K) ∧ (¬ 60 ≤ nI l.length → vp_in (nI l.length) 60 ∧ wpX1_work_L9 (m + 1) a b c v (nI l.length + 1) (nI k + 1) hi (nI n) st (upd sk (nI l.length).toNatClampNeg v) K))))) := by
      intro v l hl e hp'
      refine br_f (nI_pos (by omega)) (br_f (show ¬ nI 60 ≤ nI l.length from nI_ge (by omega) (by decide)) ⟨vp_in_nI hl (by decide), ?_⟩)
      rw [i_cl (show l.length < 2147483648 by omega), nI_1, nI_1]
      exact ih1 v l _ e (pl_push v hp')
    rcases hs with ⟨h1, h2⟩ | ⟨h1, h2⟩ | ⟨h1, h2⟩
    · by_cases h0 : 0 ≤ st k
      · refine br_f (by rw [i_lt]; rw [i_le] at h0; omega) ?_
        refine put (st k) _ (by omega) ?_ hp
        rw [tx_v, if_pos h0]
      · refine br_t (by rw [i_lt]; rw [i_le] at h0; omega) (br_f (by rw [i_lt]; rw [i_le] at h1; omega) ?_)
        have e : ∀ v, (if st k = -1 then a else if st k = -2 then b else c) = v → tx_v st a b c (k + 1) = v :: tx_v st a b c k := by
          intro v hv
          rw [tx_v, if_neg h0, if_pos h1, hv]
        refine ⟨fun e1 => ?_, fun e1 => ⟨fun e2 => ?_, fun e2 => ?_⟩⟩
        · exact put a _ (by omega) (e a (by rw [if_pos e1])) hp
        · exact put b _ (by omega) (e b (by rw [if_neg e1, if_pos e2])) hp
        · exact put c _ (by omega) (e c (by rw [if_neg e1, if_neg e2])) hp
    · have e3 : ¬ -3 ≤ st k := by rw [h1]; decide
      have e0 : ¬ 0 ≤ st k := by rw [h1]; decide
      refine br_t (by rw [h1]; decide) (br_t (by rw [h1]; decide) (br_t h1 ?_))
      match hv : tx_v st a b c k with
      | [] => rw [hv] at hlen; simp at hlen; omega
      | x :: r =>
        rw [hv] at hp hlen
        have hr : r.length < 60 := by simp at hlen; omega
        have et : ∀ v, (if x = 0 then (1 : Int32) else 0) = v → tx_v st a b c (k + 1) = v :: r := by
          intro v hv2
          rw [tx_v, if_neg e0, if_neg e3, if_pos h1, hv, ← hv2]
        rw [List.length_cons, pk_m1]
        refine br_f (nI_pos (by omega)) (br_f (show ¬ nI 60 ≤ nI r.length from nI_ge (by omega) (by decide)) ⟨vp_in_nI hr (by decide), ?_⟩)
        rw [i_cl (show r.length < 2147483648 by omega), pl_top hp]
        refine ⟨fun hx => ?_, fun hx => ?_⟩
        · have q := put 1 r hr (et 1 (by rw [if_pos hx])) (pl_tail hp)
          rw [i_cl (show r.length < 2147483648 by omega)] at q
          exact q
        · have q := put 0 r hr (et 0 (by rw [if_neg hx])) (pl_tail hp)
          rw [i_cl (show r.length < 2147483648 by omega)] at q
          exact q
    · have e3 : ¬ -3 ≤ st k := by rcases h1 with e | e | e | e | e | e | e | e | e | e <;> rw [e] <;> decide
      have e0 : ¬ 0 ≤ st k := by rcases h1 with e | e | e | e | e | e | e | e | e | e <;> rw [e] <;> decide
      have e33 : ¬ st k = -33 := by rcases h1 with e | e | e | e | e | e | e | e | e | e <;> rw [e] <;> decide
      refine br_t (by rw [i_lt]; rw [i_le] at e0; omega) (br_t (by rw [i_lt]; rw [i_le] at e3; omega) (br_f e33 ?_))
      match hv : tx_v st a b c k with
      | [] => rw [hv] at hlen; simp at hlen; omega
      | [x] => rw [hv] at hlen; simp at hlen; omega
      | y :: x :: r =>
        rw [hv] at hp hlen
        have hr : r.length + 1 < 60 := by simp at hlen; omega
        have et : tx_v st a b c (k + 1) = tx_j (-(st k)) x y :: r := by
          rw [tx_v, if_neg e0, if_neg e3, if_neg e33, hv]
        rw [List.length_cons, List.length_cons, i_m2]
        refine br_f (nI_pos (by omega)) (br_f (show ¬ nI 60 ≤ nI r.length + 1 by rw [nI_1]; exact nI_ge (by omega) (by decide)) ⟨vp_in_nI (by omega) (by decide), ?_, ?_⟩)
        · rw [nI_1]
          exact vp_in_nI hr (by decide)
        · rw [nI_1, i_cl (show r.length < 2147483648 by omega), i_cl (show r.length + 1 < 2147483648 by omega)]
          have t1 : sk (r.length + 1) = y := pl_top hp
          have t2 : sk r.length = x := pl_top (pl_tail hp)
          rw [t1, t2]
          refine h_join (by rcases h1 with e | e | e | e | e | e | e | e | e | e <;> rw [e] <;> decide) ?_
          exact (by
            have q := put (tx_j (-(st k)) x y) r (by omega) et (pl_tail (pl_tail hp))
            rw [i_cl (show r.length < 2147483648 by omega), nI_1 r.length] at q
            exact q)
theorem i_x1 (F k : Nat) : (nI F + 1) + (2 * nI k) = nI (F + 1 + 2 * k) := by
  rw [nI_1, show (2 : Int32) = nI 2 from rfl, pk_mul, nI_add]
theorem i_x2 (F k : Nat) : (nI F + 2) + (2 * nI k) = nI (F + 2 + 2 * k) := by
  rw [show (2 : Int32) = nI 2 from rfl, nI_add, pk_mul, nI_add]
/-- what the names of use u stand for -/
def nm_ok (u : Nat) (nm : Nat → Int32) (a b c : Int32) : Prop := nm (if u = 0 then 98 else 114) = a ∧ nm (if u = 0 then 101 else 106) = b ∧ nm 121 = c
/-- the reference's loop over the steps -/
theorem r_loop {u n : Nat} {s st nm : Nat → Int32} {a b c : Int32} {K : Int32 → (Nat → Int32) → Prop} (hu : u < 2) (hrt : rt u (nI n) st s) (hn : n ≤ 60) (h0n : 0 < n) (hnm : nm_ok u nm a b c)
    (hk : ∀ pile, K ((tx_v st a b c n).headD 0) pile) :
    ∀ (m k : Nat) (pile : Nat → Int32), k + m = n → pl_ok pile (tx_v st a b c k) → wpX9_worked_L13 (m + 1) (nI u) (nI (32 + 125 * u)) (nI (tx_v st a b c k).length) (nI k) s pile nm K := by
  obtain ⟨hl, hl2, hok, htk⟩ := hrt
  have hnn : (nI n).toInt.toNat = n := by rw [nI_toInt (by omega)]; omega
  rw [hnn] at hok htk
  intro m
  induction m with
  | zero =>
    intro k pile hkm hp
    have e : k = n := by omega
    subst e
    rw [wpX9_worked_L13]
    refine ⟨vp_in_nI (by omega) (by decide), ?_⟩
    rw [i_cl (show 32 + 125 * u < 2147483648 by omega), ← hl]
    refine br_t (nI_le (Nat.le_refl _) (by omega)) ⟨vp_in_iff.mpr (by decide), ?_⟩
    have hlen := tx_len a b c hok k (Nat.le_refl _)
    rw [hok.2.1 h0n] at hlen
    match hv : tx_v st a b c k with
    | [] => rw [hv] at hlen; simp at hlen
    | [x] =>
      have := hk pile
      rw [hv] at this hp
      have t : pile 0 = x := pl_top hp
      show K (pile 0) pile
      rw [t]
      exact this
    | x :: y :: r => rw [hv] at hlen; simp at hlen
  | succ m ih =>
    intro k pile hkm hp
    rw [wpX9_worked_L13]
    refine ⟨vp_in_nI (by omega) (by decide), ?_⟩
    rw [i_cl (show 32 + 125 * u < 2147483648 by omega), ← hl]
    refine br_f (nI_ge (by omega) (by omega)) ?_
    rw [i_x1, i_x2]
    refine ⟨vp_in_nI (by omega) (by decide), vp_in_nI (by omega) (by decide), ?_⟩
    rw [i_cl (show 32 + 125 * u + 1 + 2 * k < 2147483648 by omega), i_cl (show 32 + 125 * u + 2 + 2 * k < 2147483648 by omega)]
    have hs := hok.2.2 k (by omega)
    have hlen := tx_len a b c hok k (by omega)
    have hle := @tx_n_le st k
    have ht := htk k (by omega)
    rw [show 33 + 125 * u + 2 * k = 32 + 125 * u + 1 + 2 * k by omega, show 34 + 125 * u + 2 * k = 32 + 125 * u + 2 + 2 * k by omega] at ht
    generalize s (32 + 125 * u + 1 + 2 * k) = what at ht ⊢
    generalize s (32 + 125 * u + 2 + 2 * k) = v at ht ⊢
    have ih1 : ∀ (v : Int32) (l : List Int32) (sk' : Nat → Int32), tx_v st a b c (k + 1) = v :: l → pl_ok sk' (v :: l) → wpX9_worked_L13 (m + 1) (nI u) (nI (32 + 125 * u)) (nI (l.length + 1)) (nI k + 1) s sk' nm K := by
      intro v l sk' e hp'
      have h := ih (k + 1) sk' (by omega) (by rw [e]; exact hp')
      rw [e] at h
      rw [nI_1]
      exact h
    rcases ht with ⟨w0, e1, e2⟩ | ⟨w1, e1⟩ | ⟨w2, e1⟩ | ⟨w3, e1, e2⟩
    · subst w0
      refine br_t rfl (br_t rfl ⟨vp_in_nI (by omega) (by decide), ?_⟩)
      rw [i_cl (show (tx_v st a b c k).length < 2147483648 by omega), nI_1]
      refine ih1 v _ _ ?_ (pl_push v hp)
      rw [tx_v, if_pos (by rw [e1, i_le]; exact e2.1), e1]
    · subst w1
      refine br_f (by decide) (br_t rfl (br_f (by decide) ?_))
      have hnv : vp_in v 128 ∧ ∃ q, nm v.toNatClampNeg = q ∧ tx_v st a b c (k + 1) = q :: tx_v st a b c k := by
        obtain ⟨n1, n2, n3⟩ := hnm
        rcases (show u = 0 ∨ u = 1 by omega) with rfl | rfl
        · rcases e1 with ⟨e, ev⟩ | ⟨e, ev⟩ | ⟨e, ev⟩
          · simp only [if_true, reduceIte] at ev n1
            subst ev
            exact ⟨vp_in_iff.mpr (by decide), a, n1, by rw [tx_v, e]; rfl⟩
          · simp only [if_true, reduceIte] at ev n2
            subst ev
            exact ⟨vp_in_iff.mpr (by decide), b, n2, by rw [tx_v, e]; rfl⟩
          · subst ev
            exact ⟨vp_in_iff.mpr (by decide), c, n3, by rw [tx_v, e]; rfl⟩
        · rcases e1 with ⟨e, ev⟩ | ⟨e, ev⟩ | ⟨e, ev⟩
          · simp only [Nat.one_ne_zero, if_false, reduceIte] at ev n1
            subst ev
            exact ⟨vp_in_iff.mpr (by decide), a, n1, by rw [tx_v, e]; rfl⟩
          · simp only [Nat.one_ne_zero, if_false, reduceIte] at ev n2
            subst ev
            exact ⟨vp_in_iff.mpr (by decide), b, n2, by rw [tx_v, e]; rfl⟩
          · subst ev
            exact ⟨vp_in_iff.mpr (by decide), c, n3, by rw [tx_v, e]; rfl⟩
      obtain ⟨hv1, q, hq, he⟩ := hnv
      refine ⟨hv1, vp_in_nI (by omega) (by decide), ?_⟩
      rw [i_cl (show (tx_v st a b c k).length < 2147483648 by omega), nI_1, hq]
      exact ih1 q _ _ he (pl_push q hp)
    · subst w2
      refine br_f (by decide) (br_f (by decide) (br_t rfl ?_))
      have e0 : ¬ 0 ≤ st k := by rw [e1]; decide
      have e3 : ¬ -3 ≤ st k := by rw [e1]; decide
      have hn1 : 1 ≤ tx_n st k := by
        rcases hs with ⟨h1, -⟩ | ⟨-, h2⟩ | ⟨h1, -⟩
        · exact absurd h1 e3
        · exact h2
        · rw [e1] at h1
          exact absurd h1 (by decide)
      match hv : tx_v st a b c k with
      | [] => rw [hv] at hlen; simp at hlen; omega
      | x :: r =>
        rw [hv] at hp hlen
        have hr : r.length < 60 := by simp at hlen; omega
        have et : ∀ v, (if x = 0 then (1 : Int32) else 0) = v → tx_v st a b c (k + 1) = v :: r := by
          intro v hv2
          rw [tx_v, if_neg e0, if_neg e3, if_pos e1, hv, ← hv2]
        rw [List.length_cons, nI_pred]
        refine ⟨vp_in_nI (by omega) (by decide), ?_⟩
        rw [i_cl (show r.length < 2147483648 by omega), pl_top hp]
        refine ⟨fun hx => ⟨vp_in_nI (by omega) (by decide), ?_⟩, fun hx => ⟨vp_in_nI (by omega) (by decide), ?_⟩⟩
        · exact ih1 1 r _ (et 1 (by rw [if_pos hx])) (pl_set 1 hp)
        · exact ih1 0 r _ (et 0 (by rw [if_neg hx])) (pl_set 0 hp)
    · subst w3
      refine br_f (by decide) (br_f (by decide) (br_f (by decide) ?_))
      have e4 : ¬ 0 ≤ st k ∧ ¬ -3 ≤ st k ∧ ¬ st k = -33 := by rw [e1]; rcases e2 with e | e | e | e | e | e | e | e | e | e <;> rw [e] <;> decide
      obtain ⟨e0, e3, e33⟩ := e4
      have hn1 : 2 ≤ tx_n st k := by
        rcases hs with ⟨h1, -⟩ | ⟨h1, -⟩ | ⟨-, h2⟩
        · exact absurd h1 e3
        · exact absurd h1 e33
        · exact h2
      match hv : tx_v st a b c k with
      | [] => rw [hv] at hlen; simp at hlen; omega
      | [x] => rw [hv] at hlen; simp at hlen; omega
      | y :: x :: r =>
        rw [hv] at hp hlen
        have hr : r.length + 1 < 60 := by simp at hlen; omega
        have et : tx_v st a b c (k + 1) = tx_j v x y :: r := by
          rw [tx_v, if_neg e0, if_neg e3, if_neg e33, hv, e1, Int32.neg_neg]
        rw [List.length_cons, List.length_cons, pk_m1, nI_pred]
        refine ⟨vp_in_nI (by omega) (by decide), vp_in_nI (by omega) (by decide), ?_⟩
        rw [i_cl (show r.length < 2147483648 by omega), i_cl (show r.length + 1 < 2147483648 by omega)]
        have t1 : pile (r.length + 1) = y := pl_top hp
        have t2 : pile r.length = x := pl_top (pl_tail hp)
        rw [t1, t2]
        exact h_joined e2 ⟨vp_in_nI (by omega) (by decide), ih1 _ r _ et (pl_push _ (pl_tail (pl_tail hp)))⟩
/-- the reference works a text out -/
theorem r_worked {u n : Nat} {s st nm pile : Nat → Int32} {a b c : Int32} {K : Int32 → (Nat → Int32) → Prop} (hu : u < 2) (hrt : rt u (nI n) st s) (hn : n ≤ 60) (h0n : 0 < n) (hnm : nm_ok u nm a b c)
    (hk : ∀ pile, K ((tx_v st a b c n).headD 0) pile) : wpX9_worked (nI u) s pile nm K := by
  refine ⟨n + 1, ?_⟩
  have h := r_loop hu hrt hn h0n hnm hk n 0 pile (by omega) (pl_nil _)
  have e : (32 + 125 * nI u : Int32) = nI (32 + 125 * u) := by rw [show (125 : Int32) = nI 125 from rfl, pk_mul, show (32 : Int32) = nI 32 from rfl, nI_add]
  rw [e]
  exact h
/-- the class works a text out -/
theorem c_work {n : Nat} {st sk : Nat → Int32} {a b c hi : Int32} {K : Int32 → (Nat → Int32) → Prop} (hn : n ≤ 60) (hok : tx_ok st n) (hhi : 0 ≤ hi) (hk : ∀ sk, K (tx_g st (nI n) hi a b c) sk) : wpX1_work a b c hi (nI n) st sk K := by
  refine ⟨n + 1, ?_⟩
  refine w_loop hn hok hhi (fun sk => ?_) n 0 sk (by omega) (pl_nil _)
  have e : tx_g st (nI n) hi a b c = tx_c hi (tx_l st a b c n) := by
    unfold tx_g tx_l
    rw [nI_toInt (by omega)]
    by_cases h : n = 0
    · subst h; rfl
    · rw [if_neg h, if_neg (nI_ne0 (by omega) (by omega))]
      simp
  rw [← e]
  exact hk sk
theorem tx_c_in {hi x : Int32} (h : 0 ≤ hi) : 0 ≤ tx_c hi x ∧ tx_c hi x ≤ hi := by
  unfold tx_c
  simp only [i_lt, i_le, Int32.toInt_zero] at h ⊢
  split
  · rw [Int32.toInt_zero]; omega
  · split <;> omega
theorem r_hasText {u n : Nat} {s st : Nat → Int32} {K : Int32 → Prop} (hu : u < 2) (hrt : rt u (nI n) st s) (hn : n ≤ 60) (hk : K (if n = 0 then 0 else 1)) : wpX9_hasText (nI u) s K := by
  unfold wpX9_hasText
  have e : (32 + 125 * nI u : Int32) = nI (32 + 125 * u) := by rw [show (125 : Int32) = nI 125 from rfl, pk_mul, show (32 : Int32) = nI 32 from rfl, nI_add]
  rw [e]
  refine ⟨vp_in_nI (by omega) (by decide), ?_⟩
  rw [i_cl (show 32 + 125 * u < 2147483648 by omega), ← hrt.1]
  by_cases h : n = 0
  · subst h
    exact br_t (by decide) hk
  · rw [if_neg h] at hk
    exact br_f (nI_nle (by omega) (by omega)) hk
/-- what the reference's law answers, its names laid -/
theorem r_text {u n : Nat} {s st nm pile : Nat → Int32} {a b c hi : Int32} {K : Int32 → (Nat → Int32) → Prop} (hu : u < 2) (hrt : rt u (nI n) st s) (hn : n ≤ 60) (hnm : nm_ok u nm a b c) (hk : ∀ pile, K (tx_g st (nI n) hi a b c) pile) :
    wpX9_hasText (nI u) s (fun r => ((r = 0 → wpX9_held a 0 hi (fun r2 => K r2 pile)) ∧ (¬ r = 0 → wpX9_worked (nI u) s pile nm (fun r1 p1 => wpX9_held r1 0 hi (fun r2 => K r2 p1))))) := by
  refine r_hasText hu hrt hn ?_
  by_cases h : n = 0
  · subst h
    refine br_t rfl (h_held ?_)
    exact hk pile
  · rw [if_neg h]
    refine br_f (by decide) (r_worked hu hrt hn (by omega) hnm (fun p1 => h_held ?_))
    have := hk p1
    unfold tx_g at this
    rw [if_neg (nI_ne0 (by omega) (by omega)), nI_toInt (by omega)] at this
    simpa using this
/-! the class's memory -/
theorem g_gives9 {n N : Nat} {st sk mem : Nat → Int32} {a b c hi sa sb : Int32} {K : Int32 → (Nat → Int32) → (Nat → Int32) → Prop} (hn : n ≤ 60) (hok : tx_ok st n) (hm : rm 30 9 16 hi sa sb (nI n) st mem) (hN : N = 1152)
    (hk : ∀ mem' sk', rm 30 9 16 hi sa sb (nI n) st mem' → K (tx_g st (nI n) 30 a b c) mem' sk') : wpX1_gives a b c hi sa sb (nI n) N mem st sk K := by
  obtain ⟨rfl, rfl, rfl, hmem⟩ := hm
  subst hN
  unfold wpX1_gives wpX1_placeOf
  have out : ∀ r : Int32, r = -1 → (((0 ≤ r → vp_in r 1152 ∧ (((mem r.toNatClampNeg) = 0 → wpX1_work a b c 30 (nI n) st sk (fun r42 u42_0 => vp_in r 1152 ∧ vp_in r 1152 ∧ K (((upd mem r.toNatClampNeg (r42 + 1)) r.toNatClampNeg) - 1) (upd mem r.toNatClampNeg (r42 + 1)) u42_0)) ∧ (¬ (mem r.toNatClampNeg) = 0 → vp_in r 1152 ∧ K ((mem r.toNatClampNeg) - 1) mem sk))) ∧ (¬ 0 ≤ r → wpX1_work a b c 30 (nI n) st sk (fun r18 u18_0 => K r18 mem u18_0)))) := by
    intro r hr
    subst hr
    exact br_f (by decide) (c_work hn hok (by decide) (fun sk' => hk mem sk' ⟨rfl, rfl, rfl, hmem⟩))
  rcases pk_ix a (show 9 < 2 ^ 31 by decide) with h | h | ⟨a1, ha, rfl⟩
  · exact br_t h (out _ rfl)
  · refine br_f (by rw [i_lt]; rw [i_le, nI_toInt (by decide)] at h; rw [Int32.toInt_zero]; omega) (br_t h (out _ rfl))
  refine br_f (nI_pos (by omega)) (br_f (nI_ge ha (by decide)) ?_)
  rcases pk_ix b (show 16 < 2 ^ 31 by decide) with h | h | ⟨b1, hb, rfl⟩
  · exact br_t h (out _ rfl)
  · refine br_f (by rw [i_lt]; rw [i_le, nI_toInt (by decide)] at h; rw [Int32.toInt_zero]; omega) (br_t h (out _ rfl))
  refine br_f (nI_pos (by omega)) (br_f (nI_ge hb (by decide)) ?_)
  rcases pk_ix c (show 8 < 2 ^ 31 by decide) with h | h | ⟨c1, hc, rfl⟩
  · exact br_t h (out _ rfl)
  · refine br_f (by rw [i_lt]; rw [i_le, nI_toInt (by decide)] at h; rw [Int32.toInt_zero]; omega) (br_f ?_ (out _ rfl))
    intro h2
    rw [i_lt] at h2
    rw [i_le] at h
    have e8 : (8 : Int32).toInt = 8 := by decide
    have e8n : (nI 8).toInt = 8 := by decide
    omega
  refine br_f (nI_pos (by omega)) (br_t (show nI c1 < nI 8 from nI_lt hc (by decide)) ?_)
  have e : ((nI c1 * nI 16 + nI b1) * nI 9 + nI a1 : Int32) = nI ((c1 * 16 + b1) * 9 + a1) := by rw [pk_mul, nI_add, pk_mul, nI_add]
  rw [e]
  have hp : (c1 * 16 + b1) * 9 + a1 < 1152 := by omega
  refine br_t (nI_pos' (by omega)) ⟨vp_in_nI hp (by decide), ?_⟩
  rw [i_cl (show (c1 * 16 + b1) * 9 + a1 < 2147483648 by omega)]
  have hcase := hmem a1 b1 c1 ha hb hc
  refine ⟨fun h0 => ?_, fun h0 => ⟨vp_in_nI hp (by decide), ?_⟩⟩
  · refine c_work hn hok (by decide) (fun sk' => ⟨vp_in_nI hp (by decide), vp_in_nI hp (by decide), ?_⟩)
    rw [pk_us, i_ar]
    refine hk _ sk' ⟨rfl, rfl, rfl, fun a2 b2 c2 ha2 hb2 hc2 => ?_⟩
    by_cases he : (c2 * 16 + b2) * 9 + a2 = (c1 * 16 + b1) * 9 + a1
    · have e1 : a2 = a1 := by omega
      have e2 : b2 = b1 := by omega
      have e3 : c2 = c1 := by omega
      subst e1; subst e2; subst e3
      exact Or.inr (by rw [pk_us])
    · rw [pk_un he]
      exact hmem a2 b2 c2 ha2 hb2 hc2
  · rcases hcase with h | h
    · exact absurd h h0
    · rw [h, i_ar]
      exact hk mem sk ⟨rfl, rfl, rfl, hmem⟩
theorem g_gives66 {n N : Nat} {st sk mem : Nat → Int32} {a b c hi sa sb : Int32} {K : Int32 → (Nat → Int32) → (Nat → Int32) → Prop} (hn : n ≤ 60) (hok : tx_ok st n) (hm : rm 40 66 10 hi sa sb (nI n) st mem) (hN : N = 5280)
    (hk : ∀ mem' sk', rm 40 66 10 hi sa sb (nI n) st mem' → K (tx_g st (nI n) 40 a b c) mem' sk') : wpX1_gives a b c hi sa sb (nI n) N mem st sk K := by
  obtain ⟨rfl, rfl, rfl, hmem⟩ := hm
  subst hN
  unfold wpX1_gives wpX1_placeOf
  have out : ∀ r : Int32, r = -1 → (((0 ≤ r → vp_in r 5280 ∧ (((mem r.toNatClampNeg) = 0 → wpX1_work a b c 40 (nI n) st sk (fun r42 u42_0 => vp_in r 5280 ∧ vp_in r 5280 ∧ K (((upd mem r.toNatClampNeg (r42 + 1)) r.toNatClampNeg) - 1) (upd mem r.toNatClampNeg (r42 + 1)) u42_0)) ∧ (¬ (mem r.toNatClampNeg) = 0 → vp_in r 5280 ∧ K ((mem r.toNatClampNeg) - 1) mem sk))) ∧ (¬ 0 ≤ r → wpX1_work a b c 40 (nI n) st sk (fun r18 u18_0 => K r18 mem u18_0)))) := by
    intro r hr
    subst hr
    exact br_f (by decide) (c_work hn hok (by decide) (fun sk' => hk mem sk' ⟨rfl, rfl, rfl, hmem⟩))
  rcases pk_ix a (show 66 < 2 ^ 31 by decide) with h | h | ⟨a1, ha, rfl⟩
  · exact br_t h (out _ rfl)
  · refine br_f (by rw [i_lt]; rw [i_le, nI_toInt (by decide)] at h; rw [Int32.toInt_zero]; omega) (br_t h (out _ rfl))
  refine br_f (nI_pos (by omega)) (br_f (nI_ge ha (by decide)) ?_)
  rcases pk_ix b (show 10 < 2 ^ 31 by decide) with h | h | ⟨b1, hb, rfl⟩
  · exact br_t h (out _ rfl)
  · refine br_f (by rw [i_lt]; rw [i_le, nI_toInt (by decide)] at h; rw [Int32.toInt_zero]; omega) (br_t h (out _ rfl))
  refine br_f (nI_pos (by omega)) (br_f (nI_ge hb (by decide)) ?_)
  rcases pk_ix c (show 8 < 2 ^ 31 by decide) with h | h | ⟨c1, hc, rfl⟩
  · exact br_t h (out _ rfl)
  · refine br_f (by rw [i_lt]; rw [i_le, nI_toInt (by decide)] at h; rw [Int32.toInt_zero]; omega) (br_f ?_ (out _ rfl))
    intro h2
    rw [i_lt] at h2
    rw [i_le] at h
    have e8 : (8 : Int32).toInt = 8 := by decide
    have e8n : (nI 8).toInt = 8 := by decide
    omega
  refine br_f (nI_pos (by omega)) (br_t (show nI c1 < nI 8 from nI_lt hc (by decide)) ?_)
  have e : ((nI c1 * nI 10 + nI b1) * nI 66 + nI a1 : Int32) = nI ((c1 * 10 + b1) * 66 + a1) := by rw [pk_mul, nI_add, pk_mul, nI_add]
  rw [e]
  have hp : (c1 * 10 + b1) * 66 + a1 < 5280 := by omega
  refine br_t (nI_pos' (by omega)) ⟨vp_in_nI hp (by decide), ?_⟩
  rw [i_cl (show (c1 * 10 + b1) * 66 + a1 < 2147483648 by omega)]
  have hcase := hmem a1 b1 c1 ha hb hc
  refine ⟨fun h0 => ?_, fun h0 => ⟨vp_in_nI hp (by decide), ?_⟩⟩
  · refine c_work hn hok (by decide) (fun sk' => ⟨vp_in_nI hp (by decide), vp_in_nI hp (by decide), ?_⟩)
    rw [pk_us, i_ar]
    refine hk _ sk' ⟨rfl, rfl, rfl, fun a2 b2 c2 ha2 hb2 hc2 => ?_⟩
    by_cases he : (c2 * 10 + b2) * 66 + a2 = (c1 * 10 + b1) * 66 + a1
    · have e1 : a2 = a1 := by omega
      have e2 : b2 = b1 := by omega
      have e3 : c2 = c1 := by omega
      subst e1; subst e2; subst e3
      exact Or.inr (by rw [pk_us])
    · rw [pk_un he]
      exact hmem a2 b2 c2 ha2 hb2 hc2
  · rcases hcase with h | h
    · exact absurd h h0
    · rw [h, i_ar]
      exact hk mem sk ⟨rfl, rfl, rfl, hmem⟩

theorem rw_year {year secret z readers tapeSize waits : Int32} {jaws events kinds ms marks tape waiting s : Nat → Int32} (h : rw_ year secret z readers tapeSize waits jaws events kinds ms marks tape waiting s) (v : Int32) : rw_ v secret z readers tapeSize waits jaws events kinds ms marks tape waiting (upd s 0 v) := by
  obtain ⟨h_year, h_secret, h_z, h_readers, h_tapeSize, h_waits, hj0, hj1, h_events, h_kinds, h_ms, h_marks, h_tape, h_fit, h_waiting⟩ := h
  exact ⟨by rw [pk_us], by rw [pk_un (by omega)]; exact h_secret, by rw [pk_un (by omega)]; exact h_z, by rw [pk_un (by omega)]; exact h_readers, by rw [pk_un (by omega)]; exact h_tapeSize, by rw [pk_un (by omega)]; exact h_waits, by rw [pk_un (by omega)]; exact hj0, by rw [pk_un (by omega)]; exact hj1, fun i hi => by rw [pk_un (by omega)]; exact h_events i hi, fun i hi => by rw [pk_un (by omega)]; exact h_kinds i hi, fun i hi => by rw [pk_un (by omega)]; exact h_ms i hi, fun i hi => by rw [pk_un (by omega)]; exact h_marks i hi, fun i hi => by rw [pk_un (by omega)]; exact h_tape i hi, h_fit, fun i hi => by rw [pk_un (by omega)]; exact h_waiting i hi⟩
theorem rw_secret {year secret z readers tapeSize waits : Int32} {jaws events kinds ms marks tape waiting s : Nat → Int32} (h : rw_ year secret z readers tapeSize waits jaws events kinds ms marks tape waiting s) (v : Int32) : rw_ year v z readers tapeSize waits jaws events kinds ms marks tape waiting (upd s 1 v) := by
  obtain ⟨h_year, h_secret, h_z, h_readers, h_tapeSize, h_waits, hj0, hj1, h_events, h_kinds, h_ms, h_marks, h_tape, h_fit, h_waiting⟩ := h
  exact ⟨by rw [pk_un (by omega)]; exact h_year, by rw [pk_us], by rw [pk_un (by omega)]; exact h_z, by rw [pk_un (by omega)]; exact h_readers, by rw [pk_un (by omega)]; exact h_tapeSize, by rw [pk_un (by omega)]; exact h_waits, by rw [pk_un (by omega)]; exact hj0, by rw [pk_un (by omega)]; exact hj1, fun i hi => by rw [pk_un (by omega)]; exact h_events i hi, fun i hi => by rw [pk_un (by omega)]; exact h_kinds i hi, fun i hi => by rw [pk_un (by omega)]; exact h_ms i hi, fun i hi => by rw [pk_un (by omega)]; exact h_marks i hi, fun i hi => by rw [pk_un (by omega)]; exact h_tape i hi, h_fit, fun i hi => by rw [pk_un (by omega)]; exact h_waiting i hi⟩
theorem rw_z {year secret z readers tapeSize waits : Int32} {jaws events kinds ms marks tape waiting s : Nat → Int32} (h : rw_ year secret z readers tapeSize waits jaws events kinds ms marks tape waiting s) (v : Int32) : rw_ year secret v readers tapeSize waits jaws events kinds ms marks tape waiting (upd s 4 v) := by
  obtain ⟨h_year, h_secret, h_z, h_readers, h_tapeSize, h_waits, hj0, hj1, h_events, h_kinds, h_ms, h_marks, h_tape, h_fit, h_waiting⟩ := h
  exact ⟨by rw [pk_un (by omega)]; exact h_year, by rw [pk_un (by omega)]; exact h_secret, by rw [pk_us], by rw [pk_un (by omega)]; exact h_readers, by rw [pk_un (by omega)]; exact h_tapeSize, by rw [pk_un (by omega)]; exact h_waits, by rw [pk_un (by omega)]; exact hj0, by rw [pk_un (by omega)]; exact hj1, fun i hi => by rw [pk_un (by omega)]; exact h_events i hi, fun i hi => by rw [pk_un (by omega)]; exact h_kinds i hi, fun i hi => by rw [pk_un (by omega)]; exact h_ms i hi, fun i hi => by rw [pk_un (by omega)]; exact h_marks i hi, fun i hi => by rw [pk_un (by omega)]; exact h_tape i hi, h_fit, fun i hi => by rw [pk_un (by omega)]; exact h_waiting i hi⟩
theorem rw_readers {year secret z readers tapeSize waits : Int32} {jaws events kinds ms marks tape waiting s : Nat → Int32} (h : rw_ year secret z readers tapeSize waits jaws events kinds ms marks tape waiting s) (v : Int32) : rw_ year secret z v tapeSize waits jaws events kinds ms marks tape waiting (upd s 7 v) := by
  obtain ⟨h_year, h_secret, h_z, h_readers, h_tapeSize, h_waits, hj0, hj1, h_events, h_kinds, h_ms, h_marks, h_tape, h_fit, h_waiting⟩ := h
  exact ⟨by rw [pk_un (by omega)]; exact h_year, by rw [pk_un (by omega)]; exact h_secret, by rw [pk_un (by omega)]; exact h_z, by rw [pk_us], by rw [pk_un (by omega)]; exact h_tapeSize, by rw [pk_un (by omega)]; exact h_waits, by rw [pk_un (by omega)]; exact hj0, by rw [pk_un (by omega)]; exact hj1, fun i hi => by rw [pk_un (by omega)]; exact h_events i hi, fun i hi => by rw [pk_un (by omega)]; exact h_kinds i hi, fun i hi => by rw [pk_un (by omega)]; exact h_ms i hi, fun i hi => by rw [pk_un (by omega)]; exact h_marks i hi, fun i hi => by rw [pk_un (by omega)]; exact h_tape i hi, h_fit, fun i hi => by rw [pk_un (by omega)]; exact h_waiting i hi⟩
theorem rw_tapeSize {year secret z readers tapeSize waits : Int32} {jaws events kinds ms marks tape waiting s : Nat → Int32} (h : rw_ year secret z readers tapeSize waits jaws events kinds ms marks tape waiting s) (v : Int32) : rw_ year secret z readers v waits jaws events kinds ms marks tape waiting (upd s 5 v) := by
  obtain ⟨h_year, h_secret, h_z, h_readers, h_tapeSize, h_waits, hj0, hj1, h_events, h_kinds, h_ms, h_marks, h_tape, h_fit, h_waiting⟩ := h
  exact ⟨by rw [pk_un (by omega)]; exact h_year, by rw [pk_un (by omega)]; exact h_secret, by rw [pk_un (by omega)]; exact h_z, by rw [pk_un (by omega)]; exact h_readers, by rw [pk_us], by rw [pk_un (by omega)]; exact h_waits, by rw [pk_un (by omega)]; exact hj0, by rw [pk_un (by omega)]; exact hj1, fun i hi => by rw [pk_un (by omega)]; exact h_events i hi, fun i hi => by rw [pk_un (by omega)]; exact h_kinds i hi, fun i hi => by rw [pk_un (by omega)]; exact h_ms i hi, fun i hi => by rw [pk_un (by omega)]; exact h_marks i hi, fun i hi => by rw [pk_un (by omega)]; exact h_tape i hi, h_fit, fun i hi => by rw [pk_un (by omega)]; exact h_waiting i hi⟩
theorem rw_waits {year secret z readers tapeSize waits : Int32} {jaws events kinds ms marks tape waiting s : Nat → Int32} (h : rw_ year secret z readers tapeSize waits jaws events kinds ms marks tape waiting s) (v : Int32) : rw_ year secret z readers tapeSize v jaws events kinds ms marks tape waiting (upd s 6 v) := by
  obtain ⟨h_year, h_secret, h_z, h_readers, h_tapeSize, h_waits, hj0, hj1, h_events, h_kinds, h_ms, h_marks, h_tape, h_fit, h_waiting⟩ := h
  exact ⟨by rw [pk_un (by omega)]; exact h_year, by rw [pk_un (by omega)]; exact h_secret, by rw [pk_un (by omega)]; exact h_z, by rw [pk_un (by omega)]; exact h_readers, by rw [pk_un (by omega)]; exact h_tapeSize, by rw [pk_us], by rw [pk_un (by omega)]; exact hj0, by rw [pk_un (by omega)]; exact hj1, fun i hi => by rw [pk_un (by omega)]; exact h_events i hi, fun i hi => by rw [pk_un (by omega)]; exact h_kinds i hi, fun i hi => by rw [pk_un (by omega)]; exact h_ms i hi, fun i hi => by rw [pk_un (by omega)]; exact h_marks i hi, fun i hi => by rw [pk_un (by omega)]; exact h_tape i hi, h_fit, fun i hi => by rw [pk_un (by omega)]; exact h_waiting i hi⟩
theorem rw_jaws {year secret z readers tapeSize waits : Int32} {jaws events kinds ms marks tape waiting s : Nat → Int32} (h : rw_ year secret z readers tapeSize waits jaws events kinds ms marks tape waiting s) (v : Int32) {j : Nat} (hj : j < 2) : rw_ year secret z readers tapeSize waits (upd jaws j v) events kinds ms marks tape waiting (upd s (2 + j) v) := by
  obtain ⟨h_year, h_secret, h_z, h_readers, h_tapeSize, h_waits, hj0, hj1, h_events, h_kinds, h_ms, h_marks, h_tape, h_fit, h_waiting⟩ := h
  exact ⟨by rw [pk_un (by omega)]; exact h_year, by rw [pk_un (by omega)]; exact h_secret, by rw [pk_un (by omega)]; exact h_z, by rw [pk_un (by omega)]; exact h_readers, by rw [pk_un (by omega)]; exact h_tapeSize, by rw [pk_un (by omega)]; exact h_waits, by rcases (show j = 0 ∨ j = 1 by omega) with rfl | rfl <;> simp [upd, hj0], by rcases (show j = 0 ∨ j = 1 by omega) with rfl | rfl <;> simp [upd, hj1], fun i hi => by rw [pk_un (by omega)]; exact h_events i hi, fun i hi => by rw [pk_un (by omega)]; exact h_kinds i hi, fun i hi => by rw [pk_un (by omega)]; exact h_ms i hi, fun i hi => by rw [pk_un (by omega)]; exact h_marks i hi, fun i hi => by rw [pk_un (by omega)]; exact h_tape i hi, h_fit, fun i hi => by rw [pk_un (by omega)]; exact h_waiting i hi⟩
theorem rw_events {year secret z readers tapeSize waits : Int32} {jaws events kinds ms marks tape waiting s : Nat → Int32} (h : rw_ year secret z readers tapeSize waits jaws events kinds ms marks tape waiting s) (v : Int32) {j : Nat} (hj : j < 6) : rw_ year secret z readers tapeSize waits jaws (upd events j v) kinds ms marks tape waiting (upd s (8 + j) v) := by
  obtain ⟨h_year, h_secret, h_z, h_readers, h_tapeSize, h_waits, hj0, hj1, h_events, h_kinds, h_ms, h_marks, h_tape, h_fit, h_waiting⟩ := h
  exact ⟨by rw [pk_un (by omega)]; exact h_year, by rw [pk_un (by omega)]; exact h_secret, by rw [pk_un (by omega)]; exact h_z, by rw [pk_un (by omega)]; exact h_readers, by rw [pk_un (by omega)]; exact h_tapeSize, by rw [pk_un (by omega)]; exact h_waits, by rw [pk_un (by omega)]; exact hj0, by rw [pk_un (by omega)]; exact hj1, fun i hi => by
    by_cases e : i = j
    · subst e; rw [pk_us, pk_us]
    · rw [pk_un e, pk_un (by omega)]; exact h_events i hi, fun i hi => by rw [pk_un (by omega)]; exact h_kinds i hi, fun i hi => by rw [pk_un (by omega)]; exact h_ms i hi, fun i hi => by rw [pk_un (by omega)]; exact h_marks i hi, fun i hi => by rw [pk_un (by omega)]; exact h_tape i hi, h_fit, fun i hi => by rw [pk_un (by omega)]; exact h_waiting i hi⟩
theorem rw_kinds {year secret z readers tapeSize waits : Int32} {jaws events kinds ms marks tape waiting s : Nat → Int32} (h : rw_ year secret z readers tapeSize waits jaws events kinds ms marks tape waiting s) (v : Int32) {j : Nat} (hj : j < 6) : rw_ year secret z readers tapeSize waits jaws events (upd kinds j v) ms marks tape waiting (upd s (14 + 3 * j) v) := by
  obtain ⟨h_year, h_secret, h_z, h_readers, h_tapeSize, h_waits, hj0, hj1, h_events, h_kinds, h_ms, h_marks, h_tape, h_fit, h_waiting⟩ := h
  exact ⟨by rw [pk_un (by omega)]; exact h_year, by rw [pk_un (by omega)]; exact h_secret, by rw [pk_un (by omega)]; exact h_z, by rw [pk_un (by omega)]; exact h_readers, by rw [pk_un (by omega)]; exact h_tapeSize, by rw [pk_un (by omega)]; exact h_waits, by rw [pk_un (by omega)]; exact hj0, by rw [pk_un (by omega)]; exact hj1, fun i hi => by rw [pk_un (by omega)]; exact h_events i hi, fun i hi => by
    by_cases e : i = j
    · subst e; rw [pk_us, pk_us]
    · rw [pk_un e, pk_un (by omega)]; exact h_kinds i hi, fun i hi => by rw [pk_un (by omega)]; exact h_ms i hi, fun i hi => by rw [pk_un (by omega)]; exact h_marks i hi, fun i hi => by rw [pk_un (by omega)]; exact h_tape i hi, h_fit, fun i hi => by rw [pk_un (by omega)]; exact h_waiting i hi⟩
theorem rw_ms {year secret z readers tapeSize waits : Int32} {jaws events kinds ms marks tape waiting s : Nat → Int32} (h : rw_ year secret z readers tapeSize waits jaws events kinds ms marks tape waiting s) (v : Int32) {j : Nat} (hj : j < 6) : rw_ year secret z readers tapeSize waits jaws events kinds (upd ms j v) marks tape waiting (upd s (15 + 3 * j) v) := by
  obtain ⟨h_year, h_secret, h_z, h_readers, h_tapeSize, h_waits, hj0, hj1, h_events, h_kinds, h_ms, h_marks, h_tape, h_fit, h_waiting⟩ := h
  exact ⟨by rw [pk_un (by omega)]; exact h_year, by rw [pk_un (by omega)]; exact h_secret, by rw [pk_un (by omega)]; exact h_z, by rw [pk_un (by omega)]; exact h_readers, by rw [pk_un (by omega)]; exact h_tapeSize, by rw [pk_un (by omega)]; exact h_waits, by rw [pk_un (by omega)]; exact hj0, by rw [pk_un (by omega)]; exact hj1, fun i hi => by rw [pk_un (by omega)]; exact h_events i hi, fun i hi => by rw [pk_un (by omega)]; exact h_kinds i hi, fun i hi => by
    by_cases e : i = j
    · subst e; rw [pk_us, pk_us]
    · rw [pk_un e, pk_un (by omega)]; exact h_ms i hi, fun i hi => by rw [pk_un (by omega)]; exact h_marks i hi, fun i hi => by rw [pk_un (by omega)]; exact h_tape i hi, h_fit, fun i hi => by rw [pk_un (by omega)]; exact h_waiting i hi⟩
theorem rw_marks {year secret z readers tapeSize waits : Int32} {jaws events kinds ms marks tape waiting s : Nat → Int32} (h : rw_ year secret z readers tapeSize waits jaws events kinds ms marks tape waiting s) (v : Int32) {j : Nat} (hj : j < 6) : rw_ year secret z readers tapeSize waits jaws events kinds ms (upd marks j v) tape waiting (upd s (16 + 3 * j) v) := by
  obtain ⟨h_year, h_secret, h_z, h_readers, h_tapeSize, h_waits, hj0, hj1, h_events, h_kinds, h_ms, h_marks, h_tape, h_fit, h_waiting⟩ := h
  exact ⟨by rw [pk_un (by omega)]; exact h_year, by rw [pk_un (by omega)]; exact h_secret, by rw [pk_un (by omega)]; exact h_z, by rw [pk_un (by omega)]; exact h_readers, by rw [pk_un (by omega)]; exact h_tapeSize, by rw [pk_un (by omega)]; exact h_waits, by rw [pk_un (by omega)]; exact hj0, by rw [pk_un (by omega)]; exact hj1, fun i hi => by rw [pk_un (by omega)]; exact h_events i hi, fun i hi => by rw [pk_un (by omega)]; exact h_kinds i hi, fun i hi => by rw [pk_un (by omega)]; exact h_ms i hi, fun i hi => by
    by_cases e : i = j
    · subst e; rw [pk_us, pk_us]
    · rw [pk_un e, pk_un (by omega)]; exact h_marks i hi, fun i hi => by rw [pk_un (by omega)]; exact h_tape i hi, h_fit, fun i hi => by rw [pk_un (by omega)]; exact h_waiting i hi⟩
theorem rw_tape {year secret z readers tapeSize waits : Int32} {jaws events kinds ms marks tape waiting s : Nat → Int32} (h : rw_ year secret z readers tapeSize waits jaws events kinds ms marks tape waiting s) (v w : Int32) (hv : v &&& 255 = w) (hf : fits .byte (.int v) = true) {j : Nat} (hj : j < 60) : rw_ year secret z readers tapeSize waits jaws events kinds ms marks (upd tape j v) waiting (upd s (282 + j) w) := by
  obtain ⟨h_year, h_secret, h_z, h_readers, h_tapeSize, h_waits, hj0, hj1, h_events, h_kinds, h_ms, h_marks, h_tape, h_fit, h_waiting⟩ := h
  exact ⟨by rw [pk_un (by omega)]; exact h_year, by rw [pk_un (by omega)]; exact h_secret, by rw [pk_un (by omega)]; exact h_z, by rw [pk_un (by omega)]; exact h_readers, by rw [pk_un (by omega)]; exact h_tapeSize, by rw [pk_un (by omega)]; exact h_waits, by rw [pk_un (by omega)]; exact hj0, by rw [pk_un (by omega)]; exact hj1, fun i hi => by rw [pk_un (by omega)]; exact h_events i hi, fun i hi => by rw [pk_un (by omega)]; exact h_kinds i hi, fun i hi => by rw [pk_un (by omega)]; exact h_ms i hi, fun i hi => by rw [pk_un (by omega)]; exact h_marks i hi, fun i hi => by
    by_cases e : i = j
    · subst e; rw [pk_us, pk_us]; exact hv
    · rw [pk_un e, pk_un (by omega)]; exact h_tape i hi, fun i hi => by
    by_cases e : i = j
    · subst e; rw [pk_us]; exact hf
    · rw [pk_un e]; exact h_fit i hi, fun i hi => by rw [pk_un (by omega)]; exact h_waiting i hi⟩
theorem rw_waiting {year secret z readers tapeSize waits : Int32} {jaws events kinds ms marks tape waiting s : Nat → Int32} (h : rw_ year secret z readers tapeSize waits jaws events kinds ms marks tape waiting s) (v : Int32) {j : Nat} (hj : j < 24) : rw_ year secret z readers tapeSize waits jaws events kinds ms marks tape (upd waiting j v) (upd s (342 + j) v) := by
  obtain ⟨h_year, h_secret, h_z, h_readers, h_tapeSize, h_waits, hj0, hj1, h_events, h_kinds, h_ms, h_marks, h_tape, h_fit, h_waiting⟩ := h
  exact ⟨by rw [pk_un (by omega)]; exact h_year, by rw [pk_un (by omega)]; exact h_secret, by rw [pk_un (by omega)]; exact h_z, by rw [pk_un (by omega)]; exact h_readers, by rw [pk_un (by omega)]; exact h_tapeSize, by rw [pk_un (by omega)]; exact h_waits, by rw [pk_un (by omega)]; exact hj0, by rw [pk_un (by omega)]; exact hj1, fun i hi => by rw [pk_un (by omega)]; exact h_events i hi, fun i hi => by rw [pk_un (by omega)]; exact h_kinds i hi, fun i hi => by rw [pk_un (by omega)]; exact h_ms i hi, fun i hi => by rw [pk_un (by omega)]; exact h_marks i hi, fun i hi => by rw [pk_un (by omega)]; exact h_tape i hi, h_fit, fun i hi => by
    by_cases e : i = j
    · subst e; rw [pk_us, pk_us]
    · rw [pk_un e, pk_un (by omega)]; exact h_waiting i hi⟩
theorem ri_0 {s : Nat → Int32} (h : ri s) {v : Int32} (hv : in_ v 9999) : ri (upd s 0 v) := by
  obtain ⟨q0, q1, q2, q3, q5, q6, q7, qe, qk, qm, qs⟩ := h
  exact ⟨by rw [pk_us]; exact hv, by rw [pk_un (by omega)]; exact q1, by rw [pk_un (by omega)]; exact q2, by rw [pk_un (by omega)]; exact q3, by rw [pk_un (by omega)]; exact q5, by rw [pk_un (by omega)]; exact q6, by rw [pk_un (by omega)]; exact q7, fun i hi => by rw [pk_un (by omega)]; exact qe i hi, fun i hi => by rw [pk_un (by omega)]; exact qk i hi, fun i hi => by rw [pk_un (by omega)]; exact qm i hi, fun i hi => by rw [pk_un (by omega)]; exact qs i hi⟩
theorem ri_1 {s : Nat → Int32} (h : ri s) {v : Int32} (hv : in_ v 255) : ri (upd s 1 v) := by
  obtain ⟨q0, q1, q2, q3, q5, q6, q7, qe, qk, qm, qs⟩ := h
  exact ⟨by rw [pk_un (by omega)]; exact q0, by rw [pk_us]; exact hv, by rw [pk_un (by omega)]; exact q2, by rw [pk_un (by omega)]; exact q3, by rw [pk_un (by omega)]; exact q5, by rw [pk_un (by omega)]; exact q6, by rw [pk_un (by omega)]; exact q7, fun i hi => by rw [pk_un (by omega)]; exact qe i hi, fun i hi => by rw [pk_un (by omega)]; exact qk i hi, fun i hi => by rw [pk_un (by omega)]; exact qm i hi, fun i hi => by rw [pk_un (by omega)]; exact qs i hi⟩
theorem ri_2 {s : Nat → Int32} (h : ri s) {v : Int32} (hv : in_ v 359) : ri (upd s 2 v) := by
  obtain ⟨q0, q1, q2, q3, q5, q6, q7, qe, qk, qm, qs⟩ := h
  exact ⟨by rw [pk_un (by omega)]; exact q0, by rw [pk_un (by omega)]; exact q1, by rw [pk_us]; exact hv, by rw [pk_un (by omega)]; exact q3, by rw [pk_un (by omega)]; exact q5, by rw [pk_un (by omega)]; exact q6, by rw [pk_un (by omega)]; exact q7, fun i hi => by rw [pk_un (by omega)]; exact qe i hi, fun i hi => by rw [pk_un (by omega)]; exact qk i hi, fun i hi => by rw [pk_un (by omega)]; exact qm i hi, fun i hi => by rw [pk_un (by omega)]; exact qs i hi⟩
theorem ri_3 {s : Nat → Int32} (h : ri s) {v : Int32} (hv : in_ v 359) : ri (upd s 3 v) := by
  obtain ⟨q0, q1, q2, q3, q5, q6, q7, qe, qk, qm, qs⟩ := h
  exact ⟨by rw [pk_un (by omega)]; exact q0, by rw [pk_un (by omega)]; exact q1, by rw [pk_un (by omega)]; exact q2, by rw [pk_us]; exact hv, by rw [pk_un (by omega)]; exact q5, by rw [pk_un (by omega)]; exact q6, by rw [pk_un (by omega)]; exact q7, fun i hi => by rw [pk_un (by omega)]; exact qe i hi, fun i hi => by rw [pk_un (by omega)]; exact qk i hi, fun i hi => by rw [pk_un (by omega)]; exact qm i hi, fun i hi => by rw [pk_un (by omega)]; exact qs i hi⟩
theorem ri_5 {s : Nat → Int32} (h : ri s) {v : Int32} (hv : in_ v 60) : ri (upd s 5 v) := by
  obtain ⟨q0, q1, q2, q3, q5, q6, q7, qe, qk, qm, qs⟩ := h
  exact ⟨by rw [pk_un (by omega)]; exact q0, by rw [pk_un (by omega)]; exact q1, by rw [pk_un (by omega)]; exact q2, by rw [pk_un (by omega)]; exact q3, by rw [pk_us]; exact hv, by rw [pk_un (by omega)]; exact q6, by rw [pk_un (by omega)]; exact q7, fun i hi => by rw [pk_un (by omega)]; exact qe i hi, fun i hi => by rw [pk_un (by omega)]; exact qk i hi, fun i hi => by rw [pk_un (by omega)]; exact qm i hi, fun i hi => by rw [pk_un (by omega)]; exact qs i hi⟩
theorem ri_6 {s : Nat → Int32} (h : ri s) {v : Int32} (hv : in_ v 24) : ri (upd s 6 v) := by
  obtain ⟨q0, q1, q2, q3, q5, q6, q7, qe, qk, qm, qs⟩ := h
  exact ⟨by rw [pk_un (by omega)]; exact q0, by rw [pk_un (by omega)]; exact q1, by rw [pk_un (by omega)]; exact q2, by rw [pk_un (by omega)]; exact q3, by rw [pk_un (by omega)]; exact q5, by rw [pk_us]; exact hv, by rw [pk_un (by omega)]; exact q7, fun i hi => by rw [pk_un (by omega)]; exact qe i hi, fun i hi => by rw [pk_un (by omega)]; exact qk i hi, fun i hi => by rw [pk_un (by omega)]; exact qm i hi, fun i hi => by rw [pk_un (by omega)]; exact qs i hi⟩
theorem ri_7 {s : Nat → Int32} (h : ri s) {v : Int32} (hv : in_ v 6) : ri (upd s 7 v) := by
  obtain ⟨q0, q1, q2, q3, q5, q6, q7, qe, qk, qm, qs⟩ := h
  exact ⟨by rw [pk_un (by omega)]; exact q0, by rw [pk_un (by omega)]; exact q1, by rw [pk_un (by omega)]; exact q2, by rw [pk_un (by omega)]; exact q3, by rw [pk_un (by omega)]; exact q5, by rw [pk_un (by omega)]; exact q6, by rw [pk_us]; exact hv, fun i hi => by rw [pk_un (by omega)]; exact qe i hi, fun i hi => by rw [pk_un (by omega)]; exact qk i hi, fun i hi => by rw [pk_un (by omega)]; exact qm i hi, fun i hi => by rw [pk_un (by omega)]; exact qs i hi⟩
theorem ri_qe {s : Nat → Int32} (h : ri s) {v : Int32} (hv : in_ v 255) {j : Nat} (hj : j < 6) : ri (upd s (8 + j) v) := by
  obtain ⟨q0, q1, q2, q3, q5, q6, q7, qe, qk, qm, qs⟩ := h
  exact ⟨by rw [pk_un (by omega)]; exact q0, by rw [pk_un (by omega)]; exact q1, by rw [pk_un (by omega)]; exact q2, by rw [pk_un (by omega)]; exact q3, by rw [pk_un (by omega)]; exact q5, by rw [pk_un (by omega)]; exact q6, by rw [pk_un (by omega)]; exact q7, fun i hi => by
    by_cases e : i = j
    · subst e; rw [pk_us]; exact hv
    · rw [pk_un (by omega)]; exact qe i hi, fun i hi => by rw [pk_un (by omega)]; exact qk i hi, fun i hi => by rw [pk_un (by omega)]; exact qm i hi, fun i hi => by rw [pk_un (by omega)]; exact qs i hi⟩
theorem ri_qk {s : Nat → Int32} (h : ri s) {v : Int32} (hv : in_ v 6) {j : Nat} (hj : j < 6) : ri (upd s (14 + 3 * j) v) := by
  obtain ⟨q0, q1, q2, q3, q5, q6, q7, qe, qk, qm, qs⟩ := h
  exact ⟨by rw [pk_un (by omega)]; exact q0, by rw [pk_un (by omega)]; exact q1, by rw [pk_un (by omega)]; exact q2, by rw [pk_un (by omega)]; exact q3, by rw [pk_un (by omega)]; exact q5, by rw [pk_un (by omega)]; exact q6, by rw [pk_un (by omega)]; exact q7, fun i hi => by rw [pk_un (by omega)]; exact qe i hi, fun i hi => by
    by_cases e : i = j
    · subst e; rw [pk_us]; exact hv
    · rw [pk_un (by omega)]; exact qk i hi, fun i hi => by rw [pk_un (by omega)]; exact qm i hi, fun i hi => by rw [pk_un (by omega)]; exact qs i hi⟩
theorem ri_qm {s : Nat → Int32} (h : ri s) {v : Int32} (hv : in_ v 9) {j : Nat} (hj : j < 6) : ri (upd s (15 + 3 * j) v) := by
  obtain ⟨q0, q1, q2, q3, q5, q6, q7, qe, qk, qm, qs⟩ := h
  exact ⟨by rw [pk_un (by omega)]; exact q0, by rw [pk_un (by omega)]; exact q1, by rw [pk_un (by omega)]; exact q2, by rw [pk_un (by omega)]; exact q3, by rw [pk_un (by omega)]; exact q5, by rw [pk_un (by omega)]; exact q6, by rw [pk_un (by omega)]; exact q7, fun i hi => by rw [pk_un (by omega)]; exact qe i hi, fun i hi => by rw [pk_un (by omega)]; exact qk i hi, fun i hi => by
    by_cases e : i = j
    · subst e; rw [pk_us]; exact hv
    · rw [pk_un (by omega)]; exact qm i hi, fun i hi => by rw [pk_un (by omega)]; exact qs i hi⟩
theorem ri_qs {s : Nat → Int32} (h : ri s) {v : Int32} (hv : in_ v 9999) {j : Nat} (hj : j < 6) : ri (upd s (16 + 3 * j) v) := by
  obtain ⟨q0, q1, q2, q3, q5, q6, q7, qe, qk, qm, qs⟩ := h
  exact ⟨by rw [pk_un (by omega)]; exact q0, by rw [pk_un (by omega)]; exact q1, by rw [pk_un (by omega)]; exact q2, by rw [pk_un (by omega)]; exact q3, by rw [pk_un (by omega)]; exact q5, by rw [pk_un (by omega)]; exact q6, by rw [pk_un (by omega)]; exact q7, fun i hi => by rw [pk_un (by omega)]; exact qe i hi, fun i hi => by rw [pk_un (by omega)]; exact qk i hi, fun i hi => by rw [pk_un (by omega)]; exact qm i hi, fun i hi => by
    by_cases e : i = j
    · subst e; rw [pk_us]; exact hv
    · rw [pk_un (by omega)]; exact qs i hi⟩
theorem ri_z {s : Nat → Int32} (h : ri s) {v : Int32} {k : Nat} (hk : k = 4 ∨ 32 ≤ k) : ri (upd s k v) := by
  obtain ⟨q0, q1, q2, q3, q5, q6, q7, qe, qk, qm, qs⟩ := h
  exact ⟨by rw [pk_un (by omega)]; exact q0, by rw [pk_un (by omega)]; exact q1, by rw [pk_un (by omega)]; exact q2, by rw [pk_un (by omega)]; exact q3, by rw [pk_un (by omega)]; exact q5, by rw [pk_un (by omega)]; exact q6, by rw [pk_un (by omega)]; exact q7, fun i hi => by rw [pk_un (by omega)]; exact qe i hi, fun i hi => by rw [pk_un (by omega)]; exact qk i hi, fun i hi => by rw [pk_un (by omega)]; exact qm i hi, fun i hi => by rw [pk_un (by omega)]; exact qs i hi⟩
theorem rt_keep {u : Nat} {len v : Int32} {st s : Nat → Int32} (hu : u < 2) (h : rt u len st s) {k : Nat} (hk : k < 32 ∨ 282 ≤ k) : rt u len st (upd s k v) := by
  obtain ⟨h1, h2, h3, h4⟩ := h
  refine ⟨by rw [pk_un (by omega)]; exact h1, h2, h3, fun i hi => ?_⟩
  have hb : i < 60 := by have := h2.2; omega
  rw [pk_un (by omega), pk_un (by omega)]
  exact h4 i hi

/-! rules for the small methods -/
theorem in_dec (x : Int32) (n : Nat) (hn : n < 2147483647) : ¬ in_ x n ∨ ∃ j : Nat, j ≤ n ∧ x = nI j := by
  by_cases h : in_ x n
  · exact Or.inr (in_nI h)
  · exact Or.inl h
theorem w8_t {j n : Nat} {K : Int32 → Prop} (h : j ≤ n) (hn : n < 2147483648) (k : K 1) : wpX8_within (nI j) (nI n) K :=
  br_f (nI_pos (by omega)) (br_f (nI_nlt h (by omega)) k)
theorem w8_f {x : Int32} {n : Nat} {K : Int32 → Prop} (hn : n < 2147483648) (h : ¬ in_ x n) (k : K 0) : wpX8_within x (nI n) K := by
  unfold in_ at h
  refine ⟨fun _ => k, fun h1 => ⟨fun _ => k, fun h2 => absurd ?_ h⟩⟩
  rw [i_lt, Int32.toInt_zero] at h1
  rw [i_lt, nI_toInt (by omega)] at h2
  omega
theorem w9_t {j n : Nat} {K : Int32 → Prop} (h : j ≤ n) (hn : n < 2147483648) (k : K 1) : wpX9_in (nI j) 0 (nI n) K :=
  br_f (nI_pos (by omega)) (br_f (nI_nlt h (by omega)) k)
theorem w9_f {x : Int32} {n : Nat} {K : Int32 → Prop} (hn : n < 2147483648) (h : ¬ in_ x n) (k : K 0) : wpX9_in x 0 (nI n) K := by
  unfold in_ at h
  refine ⟨fun _ => k, fun h1 => ⟨fun _ => k, fun h2 => absurd ?_ h⟩⟩
  rw [i_lt, Int32.toInt_zero] at h1
  rw [i_lt, nI_toInt (by omega)] at h2
  omega
theorem r8_t {j R : Nat} {K : Int32 → Prop} (h : j < R) (hn : R < 2147483648) (k : K 1) : wpX8_isReader (nI j) (nI R) K :=
  br_f (nI_pos (by omega)) (br_f (nI_ge h (by omega)) k)
theorem r8_n {x : Int32} {R : Nat} {K : Int32 → Prop} (h : x < 0 ∨ nI R ≤ x) (k : K 0) : wpX8_isReader x (nI R) K :=
  ⟨fun _ => k, fun h1 => ⟨fun _ => k, fun h2 => absurd h (fun q => q.elim h1 h2)⟩⟩
theorem r9_t {j R : Nat} {s : Nat → Int32} {K : Int32 → Prop} (e : s 7 = nI R) (h : j < R) (hn : R < 2147483648) (k : K 1) : wpX9_isReader (nI j) s K := by
  refine ⟨vp_in_iff.mpr (by decide), ?_⟩
  rw [show (7 : Int32).toNatClampNeg = 7 from rfl, e]
  obtain ⟨r, rfl⟩ : ∃ r, R = r + 1 := ⟨R - 1, by omega⟩
  rw [nI_pred]
  exact w9_t (by omega) (by omega) ⟨rfl, k⟩
theorem r9_n {x : Int32} {R : Nat} {s : Nat → Int32} {K : Int32 → Prop} (e : s 7 = nI R) (hn : R < 2147483648) (h : x < 0 ∨ nI R ≤ x) (k : K 0) : wpX9_isReader x s K := by
  refine ⟨vp_in_iff.mpr (by decide), ?_⟩
  rw [show (7 : Int32).toNatClampNeg = 7 from rfl, e]
  refine ⟨fun _ => ⟨rfl, k⟩, fun h1 => ⟨fun _ => ⟨rfl, k⟩, fun h2 => absurd ?_ h2⟩⟩
  rcases h with h | h
  · exact absurd h h1
  · have e1 : (1 : Int32).toInt = 1 := by decide
    have e2 := nI_toInt (show R < 2 ^ 31 by omega)
    rw [i_le, e2] at h
    rw [i_lt, i_sub (by omega) (by omega), e1, e2]
    omega
theorem e8 {k : Nat} {er : Nat → Int32} {K : Int32 → (Nat → Int32) → Prop} (hk : k < 7) (kk : K (-1000000000 - nI k) (upd er k (er k + 1))) : wpX8_no (nI k) er K := by
  refine ⟨vp_in_nI hk (by decide), vp_in_nI hk (by decide), ?_⟩
  rw [i_cl (by omega)]
  exact kk
theorem e9 {k : Nat} {er : Nat → Int32} {K : Int32 → (Nat → Int32) → Prop} (hk : k < 7) (kk : K (-1000000000 - nI k) (upd er k (er k + 1))) : wpX9_error (nI k) er K := by
  refine ⟨vp_in_nI hk (by decide), vp_in_nI hk (by decide), ?_⟩
  rw [i_cl (by omega)]
  exact kk
theorem er_up {f g : Nat → Int32} (h : ∀ i, i < 7 → f i = g i) {k : Nat} (hk : k < 7) : ∀ i, i < 7 → upd f k (f k + 1) i = upd g k (g k + 1) i := by
  intro i hi
  by_cases e : i = k
  · subst e; rw [pk_us, pk_us, h i hi]
  · rw [pk_un e, pk_un e]; exact h i hi
theorem i_x3 (j k : Nat) : ((14 + (3 * nI j)) + nI k : Int32) = nI (14 + 3 * j + k) := by
  rw [show (3 : Int32) = nI 3 from rfl, pk_mul, show (14 : Int32) = nI 14 from rfl, nI_add, nI_add]
theorem its9 {j k : Nat} {s : Nat → Int32} {K : Int32 → Prop} (hj : j < 6) (hk : k < 3) (kk : K (s (14 + k + 3 * j))) : wpX9_its (nI j) (nI k) s K := by
  unfold wpX9_its
  rw [i_x3]
  refine ⟨vp_in_nI (by omega) (by decide), ?_⟩
  rw [i_cl (by omega), show 14 + 3 * j + k = 14 + k + 3 * j by omega]
  exact kk
theorem lays9 {j k : Nat} {v : Int32} {s : Nat → Int32} {K : (Nat → Int32) → Prop} (hj : j < 6) (hk : k < 3) (kk : K (upd s (14 + k + 3 * j) v)) : wpX9_lays1 (nI j) (nI k) v s K := by
  unfold wpX9_lays1
  rw [i_x3]
  refine ⟨vp_in_nI (by omega) (by decide), ?_⟩
  rw [i_cl (by omega), show 14 + 3 * j + k = 14 + k + 3 * j by omega]
  exact kk
theorem chg9 {k : Nat} {x v : Int32} {s : Nat → Int32} {K : Int32 → (Nat → Int32) → Prop} (hx : x = nI k) (hk : k < 366) (kk : K (s k) (upd s k v)) : wpX9_change1 x v s K := by
  subst hx
  refine ⟨vp_in_nI hk (by decide), vp_in_nI hk (by decide), ?_⟩
  rw [i_cl (by omega)]
  exact kk

theorem pc_year {c d : Nat → Int32} {A B : Nat → Nat → Int32} {nm : Nat} {x1 : Int32} (hR : rl c A d B nm) : wpX8_year x1 (c 5) (A 36) (fun r8 u0 u1 => wpX9_year x1 (B 3) (B 0) (fun r9 w0 w1 => r8 = r9 ∧ rl (va_up c 5 u0) (va_up A 36 u1) d (va_up (va_up B 3 w0) 0 w1) nm)) := by
  obtain ⟨hw, hi, ht0, ht1, hm0, hm1, him, her, hv, hs0, hs1, hs2, hs3, hnm⟩ := id hR
  unfold wpX8_year wpX9_year
  rcases in_dec x1 9999 (by decide) with hx | ⟨j, hj, rfl⟩
  · refine w8_f (n := 9999) (by decide) hx (br_t rfl (e8 (k := 1) (by decide) ?_))
    refine w9_f (n := 9999) (by decide) hx (br_t rfl (e9 (k := 1) (by decide) ?_))
    exact ⟨rfl, hw, hi, ht0, ht1, hm0, hm1, him, er_up her (k := 1) (by decide), hv, hs0, hs1, hs2, hs3, hnm⟩
  · refine w8_t (n := 9999) hj (by decide) (br_f (by decide) ?_)
    refine w9_t (n := 9999) hj (by decide) (br_f (by decide) (chg9 (k := 0) rfl (by decide) ?_))
    exact ⟨hw.1, rw_year hw _, ri_0 hi (in_mk hj (by decide)), rt_keep (by decide) ht0 (by omega), rt_keep (by decide) ht1 (by omega), hm0, hm1, him, her, hv, hs0, hs1, hs2, hs3, hnm⟩

theorem pc_knows {c d : Nat → Int32} {A B : Nat → Nat → Int32} {nm : Nat} {x1 : Int32} (hR : rl c A d B nm) : wpX8_knows x1 (c 6) (A 36) (fun r8 u0 u1 => wpX9_knows x1 (B 3) (B 0) (fun r9 w0 w1 => r8 = r9 ∧ rl (va_up c 6 u0) (va_up A 36 u1) d (va_up (va_up B 3 w0) 0 w1) nm)) := by
  obtain ⟨hw, hi, ht0, ht1, hm0, hm1, him, her, hv, hs0, hs1, hs2, hs3, hnm⟩ := id hR
  unfold wpX8_knows wpX9_knows wpX9_isByte
  rcases in_dec x1 255 (by decide) with hx | ⟨j, hj, rfl⟩
  · refine w8_f (n := 255) (by decide) hx (br_t rfl (e8 (k := 1) (by decide) ?_))
    refine w9_f (n := 255) (by decide) hx ⟨rfl, br_t rfl (e9 (k := 1) (by decide) ?_)⟩
    exact ⟨rfl, hw, hi, ht0, ht1, hm0, hm1, him, er_up her (k := 1) (by decide), hv, hs0, hs1, hs2, hs3, hnm⟩
  · refine w8_t (n := 255) hj (by decide) (br_f (by decide) ?_)
    refine w9_t (n := 255) hj (by decide) ⟨rfl, br_f (by decide) (chg9 (k := 1) rfl (by decide) ?_)⟩
    exact ⟨hw.2.1, rw_secret hw _, ri_1 hi (in_mk hj (by decide)), rt_keep (by decide) ht0 (by omega), rt_keep (by decide) ht1 (by omega), hm0, hm1, him, her, hv, hs0, hs1, hs2, hs3, hnm⟩

theorem pc_seed {c d : Nat → Int32} {A B : Nat → Nat → Int32} {nm : Nat} {x1 : Int32} (hR : rl c A d B nm) : wpX8_seed x1 (c 4) (fun r8 u0 => wpX9_seed x1 (B 0) (fun r9 w0 => r8 = r9 ∧ rl (va_up c 4 u0) A d (va_up B 0 w0) nm)) := by
  obtain ⟨hw, hi, ht0, ht1, hm0, hm1, him, her, hv, hs0, hs1, hs2, hs3, hnm⟩ := id hR
  unfold wpX8_seed wpX9_seed
  refine chg9 (k := 4) rfl (by decide) ?_
  exact ⟨hw.2.2.1, rw_z hw _, ri_z hi (Or.inl rfl), rt_keep (by decide) ht0 (by omega), rt_keep (by decide) ht1 (by omega), hm0, hm1, him, her, hv, hs0, hs1, hs2, hs3, hnm⟩

theorem pc_happens {c d : Nat → Int32} {A B : Nat → Nat → Int32} {nm : Nat} {x1 : Int32} {x2 : Int32} (hR : rl c A d B nm) : wpX8_happens x1 x2 (A 36) (A 2) (fun r8 u0 u1 => wpX9_happens x1 x2 (B 3) (B 0) (fun r9 w0 w1 => r8 = r9 ∧ rl c (va_up (va_up A 36 u0) 2 u1) d (va_up (va_up B 3 w0) 0 w1) nm)) := by
  obtain ⟨hw, hi, ht0, ht1, hm0, hm1, him, her, hv, hs0, hs1, hs2, hs3, hnm⟩ := id hR
  unfold wpX8_happens wpX9_happens wpX9_isByte
  rcases in_dec x1 5 (by decide) with hx | ⟨j, hj, rfl⟩
  · refine w8_f (n := 5) (by decide) hx (br_t rfl (e8 (k := 1) (by decide) ?_))
    refine w9_f (n := 5) (by decide) hx (br_t rfl (e9 (k := 1) (by decide) ?_))
    exact ⟨rfl, hw, hi, ht0, ht1, hm0, hm1, him, er_up her (k := 1) (by decide), hv, hs0, hs1, hs2, hs3, hnm⟩
  · refine w8_t (n := 5) hj (by decide) (br_f (by decide) ?_)
    rcases in_dec x2 255 (by decide) with hx | ⟨v, hv2, rfl⟩
    · refine w8_f (n := 255) (by decide) hx (br_t rfl (e8 (k := 1) (by decide) ?_))
      refine w9_t (n := 5) hj (by decide) (br_f (by decide) (w9_f (n := 255) (by decide) hx ⟨rfl, br_t rfl (e9 (k := 1) (by decide) ?_)⟩))
      exact ⟨rfl, hw, hi, ht0, ht1, hm0, hm1, him, er_up her (k := 1) (by decide), hv, hs0, hs1, hs2, hs3, hnm⟩
    · refine w8_t (n := 255) hv2 (by decide) (br_f (by decide) ⟨vp_in_nI (by omega) (by decide), vp_in_nI (by omega) (by decide), ?_⟩)
      rw [i_cl (show j < 2147483648 by omega)]
      refine w9_t (n := 5) hj (by decide) (br_f (by decide) (w9_t (n := 255) hv2 (by decide) ⟨rfl, br_f (by decide) (chg9 (k := 8 + j) (nI_add 8 j) (by omega) ?_)⟩))
      exact ⟨hw.2.2.2.2.2.2.2.2.1 j (by omega), rw_events hw _ (by omega), ri_qe hi (in_mk hv2 (by decide)) (by omega), rt_keep (by decide) ht0 (by omega), rt_keep (by decide) ht1 (by omega), hm0, hm1, him, her, hv, hs0, hs1, hs2, hs3, hnm⟩

theorem pc_jawed {c d : Nat → Int32} {A B : Nat → Nat → Int32} {nm : Nat} {x1 : Int32} {x2 : Int32} (hR : rl c A d B nm) : wpX8_jawed x1 x2 (A 36) (A 0) (fun r8 u0 u1 => wpX9_jawed x1 x2 (B 3) (B 0) (fun r9 w0 w1 => r8 = r9 ∧ rl c (va_up (va_up A 36 u0) 0 u1) d (va_up (va_up B 3 w0) 0 w1) nm)) := by
  obtain ⟨hw, hi, ht0, ht1, hm0, hm1, him, her, hv, hs0, hs1, hs2, hs3, hnm⟩ := id hR
  unfold wpX8_jawed wpX9_jawed wpX8_isLion wpX9_isLion
  rcases in_dec x1 1 (by decide) with hx | ⟨j, hj, rfl⟩
  · refine w8_f (n := 1) (by decide) hx ⟨rfl, br_t rfl (e8 (k := 1) (by decide) ?_)⟩
    refine w9_f (n := 1) (by decide) hx ⟨rfl, br_t rfl (e9 (k := 1) (by decide) ?_)⟩
    exact ⟨rfl, hw, hi, ht0, ht1, hm0, hm1, him, er_up her (k := 1) (by decide), hv, hs0, hs1, hs2, hs3, hnm⟩
  · refine w8_t (n := 1) hj (by decide) ⟨rfl, br_f (by decide) ?_⟩
    rcases in_dec x2 359 (by decide) with hx | ⟨v, hv2, rfl⟩
    · refine w8_f (n := 359) (by decide) hx (br_t rfl (e8 (k := 1) (by decide) ?_))
      refine w9_t (n := 1) hj (by decide) ⟨rfl, br_f (by decide) (w9_f (n := 359) (by decide) hx (br_t rfl (e9 (k := 1) (by decide) ?_)))⟩
      exact ⟨rfl, hw, hi, ht0, ht1, hm0, hm1, him, er_up her (k := 1) (by decide), hv, hs0, hs1, hs2, hs3, hnm⟩
    · refine w8_t (n := 359) hv2 (by decide) (br_f (by decide) ⟨vp_in_nI (by omega) (by decide), vp_in_nI (by omega) (by decide), ?_⟩)
      rw [i_cl (show j < 2147483648 by omega)]
      refine w9_t (n := 1) hj (by decide) ⟨rfl, br_f (by decide) (w9_t (n := 359) hv2 (by decide) (br_f (by decide) (chg9 (k := 2 + j) (nI_add 2 j) (by omega) ?_)))⟩
      rcases (show j = 0 ∨ j = 1 by omega) with rfl | rfl
      · exact ⟨hw.2.2.2.2.2.2.1, rw_jaws hw _ (by decide), ri_2 hi (in_mk hv2 (by decide)), rt_keep (by decide) ht0 (by omega), rt_keep (by decide) ht1 (by omega), hm0, hm1, him, her, hv, hs0, hs1, hs2, hs3, hnm⟩
      · exact ⟨hw.2.2.2.2.2.2.2.1, rw_jaws hw _ (by decide), ri_3 hi (in_mk hv2 (by decide)), rt_keep (by decide) ht0 (by omega), rt_keep (by decide) ht1 (by omega), hm0, hm1, him, her, hv, hs0, hs1, hs2, hs3, hnm⟩

theorem pc_become {c d : Nat → Int32} {A B : Nat → Nat → Int32} {nm : Nat} {x1 : Int32} {x2 : Int32} (hR : rl c A d B nm) : wpX8_become x1 x2 (c 1) (A 36) (A 3) (A 4) (fun r8 u0 u1 u2 => wpX9_become x1 x2 (B 0) (B 3) (fun r9 w0 w1 => r8 = r9 ∧ rl c (va_up (va_up (va_up A 36 u0) 3 u1) 4 u2) d (va_up (va_up B 0 w0) 3 w1) nm)) := by
  obtain ⟨hw, hi, ht0, ht1, hm0, hm1, him, her, hv, hs0, hs1, hs2, hs3, hnm⟩ := id hR
  obtain ⟨R, hR6, e7⟩ := in_nI (n := 6) hi.2.2.2.2.2.2.1
  have ec : c 1 = nI R := hw.2.2.2.1.trans e7
  unfold wpX8_become wpX9_become wpX9_isKm
  rw [ec]
  rcases pk_ix x1 (show R < 2 ^ 31 by omega) with hx | hx | ⟨j, hj, rfl⟩
  · refine r8_n (R := R) (Or.inl hx) (br_t rfl (e8 (k := 1) (by decide) ?_))
    refine r9_n e7 (by omega) (Or.inl hx) (br_t rfl (e9 (k := 1) (by decide) ?_))
    exact ⟨rfl, hw, hi, ht0, ht1, hm0, hm1, him, er_up her (k := 1) (by decide), hv, hs0, hs1, hs2, hs3, hnm⟩
  · refine r8_n (R := R) (Or.inr hx) (br_t rfl (e8 (k := 1) (by decide) ?_))
    refine r9_n e7 (by omega) (Or.inr hx) (br_t rfl (e9 (k := 1) (by decide) ?_))
    exact ⟨rfl, hw, hi, ht0, ht1, hm0, hm1, him, er_up her (k := 1) (by decide), hv, hs0, hs1, hs2, hs3, hnm⟩
  · refine r8_t hj (by omega) (br_f (by decide) ?_)
    rcases in_dec x2 69 (by decide) with hx | ⟨v, hv2, rfl⟩
    · refine w8_f (n := 69) (by decide) hx (br_t rfl (e8 (k := 1) (by decide) ?_))
      refine r9_t e7 hj (by omega) (br_f (by decide) (w9_f (n := 69) (by decide) hx ⟨rfl, br_t rfl (e9 (k := 1) (by decide) ?_)⟩))
      exact ⟨rfl, hw, hi, ht0, ht1, hm0, hm1, him, er_up her (k := 1) (by decide), hv, hs0, hs1, hs2, hs3, hnm⟩
    · refine w8_t (n := 69) hv2 (by decide) (br_f (by decide) ⟨vp_in_nI (by omega) (by decide), vp_in_nI (by omega) (by decide), vp_in_nI (by omega) (by decide), ?_⟩)
      rw [i_cl (show j < 2147483648 by omega)]
      refine r9_t e7 hj (by omega) (br_f (by decide) (w9_t (n := 69) hv2 (by decide) ⟨rfl, br_f (by decide) ?_⟩))
      refine its9 (j := j) (k := 0) (by omega) (by decide) (lays9 (j := j) (k := 0) (by omega) (by decide) (lays9 (j := j) (k := 1) (by omega) (by decide) ?_))
      have d1 : (nI v / 10 : Int32) = nI (v / 10) := pk_div (by omega) (by decide) (by decide)
      have d2 : (nI v - nI v / 10 * 10 : Int32) = nI (v % 10) := pk_rem (by omega) (by decide) (by decide)
      rw [d1] at d2
      rw [d1, d2]
      exact ⟨hw.2.2.2.2.2.2.2.2.2.1 j (by omega), rw_ms (rw_kinds hw _ (by omega)) _ (by omega), ri_qm (ri_qk hi (in_mk (n := 6) (by omega) (by decide)) (by omega)) (in_mk (n := 9) (by omega) (by decide)) (by omega), rt_keep (by decide) (rt_keep (by decide) ht0 (by omega)) (by omega), rt_keep (by decide) (rt_keep (by decide) ht1 (by omega)) (by omega), hm0, hm1, him, her, hv, hs0, hs1, hs2, hs3, hnm⟩

theorem pc_marked {c d : Nat → Int32} {A B : Nat → Nat → Int32} {nm : Nat} {x1 : Int32} {x2 : Int32} (hR : rl c A d B nm) : wpX8_marked x1 x2 (c 1) (A 36) (A 5) (fun r8 u0 u1 => wpX9_marked x1 x2 (B 0) (B 3) (fun r9 w0 w1 => r8 = r9 ∧ rl c (va_up (va_up A 36 u0) 5 u1) d (va_up (va_up B 0 w0) 3 w1) nm)) := by
  obtain ⟨hw, hi, ht0, ht1, hm0, hm1, him, her, hv, hs0, hs1, hs2, hs3, hnm⟩ := id hR
  obtain ⟨R, hR6, e7⟩ := in_nI (n := 6) hi.2.2.2.2.2.2.1
  have ec : c 1 = nI R := hw.2.2.2.1.trans e7
  unfold wpX8_marked wpX9_marked
  rw [ec]
  rcases pk_ix x1 (show R < 2 ^ 31 by omega) with hx | hx | ⟨j, hj, rfl⟩
  · refine r8_n (R := R) (Or.inl hx) (br_t rfl (e8 (k := 1) (by decide) ?_))
    refine r9_n e7 (by omega) (Or.inl hx) (br_t rfl (e9 (k := 1) (by decide) ?_))
    exact ⟨rfl, hw, hi, ht0, ht1, hm0, hm1, him, er_up her (k := 1) (by decide), hv, hs0, hs1, hs2, hs3, hnm⟩
  · refine r8_n (R := R) (Or.inr hx) (br_t rfl (e8 (k := 1) (by decide) ?_))
    refine r9_n e7 (by omega) (Or.inr hx) (br_t rfl (e9 (k := 1) (by decide) ?_))
    exact ⟨rfl, hw, hi, ht0, ht1, hm0, hm1, him, er_up her (k := 1) (by decide), hv, hs0, hs1, hs2, hs3, hnm⟩
  · refine r8_t hj (by omega) (br_f (by decide) ?_)
    rcases in_dec x2 9999 (by decide) with hx | ⟨v, hv2, rfl⟩
    · refine w8_f (n := 9999) (by decide) hx (br_t rfl (e8 (k := 1) (by decide) ?_))
      refine r9_t e7 hj (by omega) (br_f (by decide) (w9_f (n := 9999) (by decide) hx (br_t rfl (e9 (k := 1) (by decide) ?_))))
      exact ⟨rfl, hw, hi, ht0, ht1, hm0, hm1, him, er_up her (k := 1) (by decide), hv, hs0, hs1, hs2, hs3, hnm⟩
    · refine w8_t (n := 9999) hv2 (by decide) (br_f (by decide) ⟨vp_in_nI (by omega) (by decide), vp_in_nI (by omega) (by decide), ?_⟩)
      rw [i_cl (show j < 2147483648 by omega)]
      refine r9_t e7 hj (by omega) (br_f (by decide) (w9_t (n := 9999) hv2 (by decide) (br_f (by decide) (chg9 (k := 16 + 3 * j) ?_ (by omega) ?_))))
      · rw [show (2 : Int32) = nI 2 from rfl, i_x3, show 14 + 3 * j + 2 = 16 + 3 * j by omega]
      · exact ⟨hw.2.2.2.2.2.2.2.2.2.2.2.1 j (by omega), rw_marks hw _ (by omega), ri_qs hi (in_mk hv2 (by decide)) (by omega), rt_keep (by decide) ht0 (by omega), rt_keep (by decide) ht1 (by omega), hm0, hm1, him, her, hv, hs0, hs1, hs2, hs3, hnm⟩

theorem pc_told {c d : Nat → Int32} {A B : Nat → Nat → Int32} {nm : Nat} {x1 : Int32} (hR : rl c A d B nm) : wpX8_told x1 (A 36) (fun r8 u0 => wpX9_told x1 (B 3) (fun r9 w0 => r8 = r9 ∧ rl c (va_up A 36 u0) d (va_up B 3 w0) nm)) := by
  obtain ⟨hw, hi, ht0, ht1, hm0, hm1, him, her, hv, hs0, hs1, hs2, hs3, hnm⟩ := id hR
  unfold wpX8_told wpX9_told
  by_cases hx : 1 ≤ x1.toInt ∧ x1.toInt ≤ 6
  · obtain ⟨j, hj, rfl⟩ : ∃ j : Nat, j < 7 ∧ x1 = nI j := vp_in_of (n := 7) (vp_in_iff.mpr (by omega)) (by decide)
    have ej := nI_toInt (show j < 2 ^ 31 by omega)
    rw [ej] at hx
    refine br_f (nI_nlt (show 1 ≤ j by omega) (by omega)) (br_f (nI_nlt (show j ≤ 6 by omega) (by decide)) ⟨vp_in_nI hj (by decide), ?_⟩)
    refine br_f (nI_nlt (show 1 ≤ j by omega) (by omega)) (br_f (nI_nlt (show j ≤ 6 by omega) (by decide)) (br_f (by decide) ⟨vp_in_nI hj (by decide), ?_⟩))
    rw [i_cl (by omega)]
    exact ⟨her j hj, hw, hi, ht0, ht1, hm0, hm1, him, her, hv, hs0, hs1, hs2, hs3, hnm⟩
  · have e1 : (1 : Int32).toInt = 1 := by decide
    have e6 : (6 : Int32).toInt = 6 := by decide
    have k8 : wpX8_no 1 (A 36) (fun r22 u22_0 => wpX9_in x1 1 6 (fun r4 => ((r4 = 0 → wpX9_error 1 (B 3) (fun r21 u21_0 => r22 = r21 ∧ rl c (va_up A 36 u22_0) d (va_up B 3 u21_0) nm)) ∧ (¬ r4 = 0 → vp_in x1 7 ∧ (r22 = ((B 3) x1.toNatClampNeg) ∧ rl c (va_up A 36 u22_0) d (va_up B 3 (B 3)) nm))))) := by
      refine e8 (k := 1) (by decide) ?_
      have k9 : wpX9_error 1 (B 3) (fun r21 u21_0 => (-1000000000 - nI 1 : Int32) = r21 ∧ rl c (va_up A 36 (upd (A 36) 1 (A 36 1 + 1))) d (va_up B 3 u21_0) nm) := by
        refine e9 (k := 1) (by decide) ?_
        exact ⟨rfl, hw, hi, ht0, ht1, hm0, hm1, him, er_up her (k := 1) (by decide), hv, hs0, hs1, hs2, hs3, hnm⟩
      exact ⟨fun _ => br_t rfl k9, fun h1 => ⟨fun _ => br_t rfl k9, fun h2 => absurd (by rw [i_lt, e1] at h1; rw [i_lt, e6] at h2; omega) hx⟩⟩
    exact ⟨fun _ => k8, fun h1 => ⟨fun _ => k8, fun h2 => absurd (by rw [i_lt, e1] at h1; rw [i_lt, e6] at h2; omega) hx⟩⟩


def la_ (k m y j0 j1 : Int32) : Int32 := if k = 1 then y - y / 2 * 2 else if k = 2 then (if m ≤ 4 then m - m / 2 * 2 else 1 - (m - m / 2 * 2)) else if k = 3 then (if j1 < j0 then 1 else 0) else if k = 4 then 1 - (y - y / 2 * 2) else if k = 5 then (if m ≤ 4 then m - m / 2 * 2 else 1 - (m - m / 2 * 2)) else if k = 6 then 0 else m - m / 2 * 2
theorem la8 {k m y : Int32} {jaws : Nat → Int32} {K : Int32 → Prop} (hk : K (la_ k m y (jaws 0) (jaws 1))) : wpX0_looksAt k m y jaws K := by
  unfold wpX0_looksAt
  unfold la_ at hk
  refine ⟨fun h => by rw [if_pos h] at hk; exact hk, fun h => ?_⟩
  rw [if_neg h] at hk
  refine ⟨fun h => ?_, fun h => ?_⟩
  · rw [if_pos h] at hk
    exact ⟨fun h => by rw [if_pos h] at hk; exact hk, fun h => by rw [if_neg h] at hk; exact hk⟩
  rw [if_neg h] at hk
  refine ⟨fun h => ?_, fun h => ?_⟩
  · rw [if_pos h] at hk
    exact ⟨vp_in_iff.mpr (by decide), vp_in_iff.mpr (by decide), fun h => by rw [c_0, c_1] at h; rw [if_pos h] at hk; exact hk, fun h => by rw [c_0, c_1] at h; rw [if_neg h] at hk; exact hk⟩
  rw [if_neg h] at hk
  refine ⟨fun h => by rw [if_pos h] at hk; exact hk, fun h => ?_⟩
  rw [if_neg h] at hk
  refine ⟨fun h => ?_, fun h => ?_⟩
  · rw [if_pos h] at hk
    exact ⟨fun h => by rw [if_pos h] at hk; exact hk, fun h => by rw [if_neg h] at hk; exact hk⟩
  rw [if_neg h] at hk
  exact ⟨fun h => by rw [if_pos h] at hk; exact hk, fun h => by rw [if_neg h] at hk; exact hk⟩
theorem la9 {j : Nat} {s : Nat → Int32} {K : Int32 → Prop} (hj : j < 6) (hk : K (la_ (s (14 + 3 * j)) (s (15 + 3 * j)) (s 0) (s 2) (s 3))) : wpX9_looksAt (nI j) s K := by
  unfold wpX9_looksAt
  refine its9 (k := 1) hj (by decide) (its9 (k := 0) hj (by decide) ?_)
  show (_ → _) ∧ _
  unfold la_ at hk
  refine ⟨fun h => ⟨vp_in_iff.mpr (by decide), by rw [if_pos h] at hk; exact hk⟩, fun h => ?_⟩
  rw [if_neg h] at hk
  refine ⟨fun h => its9 (k := 1) hj (by decide) ?_, fun h => ?_⟩
  · rw [if_pos h] at hk
    exact ⟨fun h => by rw [if_pos h] at hk; exact hk, fun h => by rw [if_neg h] at hk; exact hk⟩
  rw [if_neg h] at hk
  refine ⟨fun h => ?_, fun h => ?_⟩
  · rw [if_pos h] at hk
    exact ⟨vp_in_iff.mpr (by decide), vp_in_iff.mpr (by decide), fun h => by rw [c_2, c_3] at h; rw [if_pos h] at hk; exact hk, fun h => by rw [c_2, c_3] at h; rw [if_neg h] at hk; exact hk⟩
  rw [if_neg h] at hk
  refine ⟨fun h => ⟨vp_in_iff.mpr (by decide), by rw [if_pos h] at hk; exact hk⟩, fun h => ?_⟩
  rw [if_neg h] at hk
  refine ⟨fun h => its9 (k := 1) hj (by decide) ?_, fun h => ?_⟩
  · rw [if_pos h] at hk
    exact ⟨fun h => by rw [if_pos h] at hk; exact hk, fun h => by rw [if_neg h] at hk; exact hk⟩
  rw [if_neg h] at hk
  exact ⟨fun h => by rw [if_pos h] at hk; exact hk, fun h => by rw [if_neg h] at hk; exact hk⟩
def ro_ (k m t w n : Int32) : Int32 := if k = 1 then (2 * t) + (w - w / 3 * 3) else if k = 2 then t + m else if k = 3 then t - t / 2 * 2 else if k = 4 then ((2 * t) + (w - w / 3 * 3)) + 3 else if k = 5 then ((t + m) / 2) + n else if k = 6 then (if m = 9 then t else 0) else t
theorem ro8 {k m t w n : Int32} {K : Int32 → Prop} (hk : K (ro_ k m t w n)) : wpX0_readsOf k m t w n K := by
  unfold wpX0_readsOf
  unfold ro_ at hk
  refine ⟨fun h => by rw [if_pos h] at hk; exact hk, fun h => ?_⟩
  rw [if_neg h] at hk
  refine ⟨fun h => by rw [if_pos h] at hk; exact hk, fun h => ?_⟩
  rw [if_neg h] at hk
  refine ⟨fun h => by rw [if_pos h] at hk; exact hk, fun h => ?_⟩
  rw [if_neg h] at hk
  refine ⟨fun h => by rw [if_pos h] at hk; exact hk, fun h => ?_⟩
  rw [if_neg h] at hk
  refine ⟨fun h => by rw [if_pos h] at hk; exact hk, fun h => ?_⟩
  rw [if_neg h] at hk
  refine ⟨fun h => ?_, fun h => by rw [if_neg h] at hk; exact hk⟩
  rw [if_pos h] at hk
  exact ⟨fun h => by rw [if_pos h] at hk; exact hk, fun h => by rw [if_neg h] at hk; exact hk⟩
theorem ro9 {j : Nat} {t w : Int32} {s : Nat → Int32} {K : Int32 → Prop} (hj : j < 6) (hk : K (ro_ (s (14 + 3 * j)) (s (15 + 3 * j)) t w (s 7))) : wpX9_readOf (nI j) t w s K := by
  unfold wpX9_readOf
  refine its9 (k := 1) hj (by decide) (its9 (k := 0) hj (by decide) ?_)
  show (_ → _) ∧ _
  unfold ro_ at hk
  refine ⟨fun h => by rw [if_pos h] at hk; exact hk, fun h => ?_⟩
  rw [if_neg h] at hk
  refine ⟨fun h => by rw [if_pos h] at hk; exact hk, fun h => ?_⟩
  rw [if_neg h] at hk
  refine ⟨fun h => by rw [if_pos h] at hk; exact hk, fun h => ?_⟩
  rw [if_neg h] at hk
  refine ⟨fun h => by rw [if_pos h] at hk; exact hk, fun h => ?_⟩
  rw [if_neg h] at hk
  refine ⟨fun h => ⟨vp_in_iff.mpr (by decide), by rw [if_pos h] at hk; exact hk⟩, fun h => ?_⟩
  rw [if_neg h] at hk
  refine ⟨fun h => ?_, fun h => by rw [if_neg h] at hk; exact hk⟩
  rw [if_pos h] at hk
  exact ⟨fun h => by rw [if_pos h] at hk; exact hk, fun h => by rw [if_neg h] at hk; exact hk⟩
def ab_ (k : Nat) : Nat := if k = 4 then 1 else if k = 5 then 2 else 0
theorem ab_t : ∀ k, k < 7 → tb_above k = nI (ab_ k) := by decide
theorem ab_le (k : Nat) : ab_ k ≤ 2 := by unfold ab_; split <;> (try split) <;> omega
theorem ab8 {k : Nat} {K : Int32 → Prop} (h : k < 7) (kk : K (nI (ab_ k))) : wpX0_above (nI k) K := by
  refine br_f (nI_pos (by omega)) (br_f (show ¬ nI 7 ≤ nI k from nI_ge h (by decide)) ⟨vp_in_nI h (by decide), ?_⟩)
  rw [i_cl (by omega), ab_t k h]
  exact kk
theorem ab9 {k : Nat} {K : Int32 → Prop} (h : k < 7) (kk : K (nI (ab_ k))) : wpX9_above (nI k) K := by
  unfold ab_ at kk
  refine ⟨fun e => ?_, fun e => ?_⟩
  · have e := (nI_eq (a := k) (b := 4) (by omega) (by decide)).mp e
    rw [if_pos e] at kk
    exact kk
  · have e : ¬ k = 4 := fun q => e (by rw [q]; rfl)
    rw [if_neg e] at kk
    refine ⟨fun e2 => ?_, fun e2 => ?_⟩
    · have e2 := (nI_eq (a := k) (b := 5) (by omega) (by decide)).mp e2
      rw [if_pos e2] at kk
      exact kk
    · have e2 : ¬ k = 5 := fun q => e2 (by rw [q]; rfl)
      rw [if_neg e2] at kk
      exact kk
def io_ (k q : Nat) : Prop := q = 0 ∨ k = q ∨ ab_ k = q
theorem io8 {k q : Nat} {K : Int32 → Prop} (h : k < 7) (hq : q < 7) (k1 : io_ k q → K 1) (k0 : ¬ io_ k q → K 0) : wpX0_isOf (nI k) (nI q) K := by
  have eq : ∀ a b : Nat, a < 7 → b < 7 → (nI a = nI b ↔ a = b) := fun a b ha hb => nI_eq (by omega) (by omega)
  have h2 := ab_le k
  have h3 : ab_ (ab_ k) = 0 := (show ∀ k, k < 7 → ab_ (ab_ k) = 0 by decide) k h
  refine ⟨fun e => k1 (Or.inr (Or.inl ((eq k q h hq).mp e))), fun n1 => ab8 h ⟨fun e => k1 (Or.inr (Or.inr ((eq _ q (by omega) hq).mp e))), fun n2 => ab8 h (ab8 (by omega) ?_)⟩⟩
  rw [h3]
  refine ⟨fun e => k1 (Or.inl ((eq 0 q (by decide) hq).mp e).symm), fun n3 => k0 (fun hio => ?_)⟩
  rcases hio with e | e | e
  · exact n3 (by rw [e])
  · exact n1 (by rw [e])
  · exact n2 (by rw [e])
set_option maxRecDepth 20000 in
theorem pc_as {c d : Nat → Int32} {A B : Nat → Nat → Int32} {nm : Nat} {x1 : Int32} {x2 : Int32} (hR : rl c A d B nm) : wpX8_as x1 x2 (c 1) (A 36) (A 3) (A 4) (fun r8 u0 => wpX9_as x1 x2 (B 0) (B 3) (fun r9 w0 => r8 = r9 ∧ rl c (va_up A 36 u0) d (va_up B 3 w0) nm)) := by
  obtain ⟨hw, hi, ht0, ht1, hm0, hm1, him, her, hv, hs0, hs1, hs2, hs3, hnm⟩ := id hR
  obtain ⟨R, hR6, e7⟩ := in_nI (n := 6) hi.2.2.2.2.2.2.1
  have ec : c 1 = nI R := hw.2.2.2.1.trans e7
  unfold wpX8_as wpX9_as
  rw [ec]
  rcases pk_ix x1 (show R < 2 ^ 31 by omega) with hx | hx | ⟨j, hj, rfl⟩
  · refine r8_n (R := R) (Or.inl hx) (br_t rfl (e8 (k := 1) (by decide) ?_))
    refine r9_n e7 (by omega) (Or.inl hx) (br_t rfl (e9 (k := 1) (by decide) ?_))
    exact ⟨rfl, hw, hi, ht0, ht1, hm0, hm1, him, er_up her (k := 1) (by decide), hv, hs0, hs1, hs2, hs3, hnm⟩
  · refine r8_n (R := R) (Or.inr hx) (br_t rfl (e8 (k := 1) (by decide) ?_))
    refine r9_n e7 (by omega) (Or.inr hx) (br_t rfl (e9 (k := 1) (by decide) ?_))
    exact ⟨rfl, hw, hi, ht0, ht1, hm0, hm1, him, er_up her (k := 1) (by decide), hv, hs0, hs1, hs2, hs3, hnm⟩
  · refine r8_t hj (by omega) (br_f (by decide) ?_)
    rcases in_dec x2 6 (by decide) with hx | ⟨q, hq, rfl⟩
    · refine w8_f (n := 6) (by decide) hx (br_t rfl (e8 (k := 1) (by decide) ?_))
      refine r9_t e7 hj (by omega) (br_f (by decide) (w9_f (n := 6) (by decide) hx (br_t rfl (e9 (k := 1) (by decide) ?_))))
      exact ⟨rfl, hw, hi, ht0, ht1, hm0, hm1, him, er_up her (k := 1) (by decide), hv, hs0, hs1, hs2, hs3, hnm⟩
    · refine w8_t (n := 6) hq (by decide) (br_f (by decide) ⟨vp_in_nI (by omega) (by decide), ?_⟩)
      rw [i_cl (show j < 2147483648 by omega)]
      obtain ⟨kd, hkd, ek⟩ := in_nI (n := 6) (hi.2.2.2.2.2.2.2.2.1 j (by omega))
      have ek8 : A 3 j = nI kd := (hw.2.2.2.2.2.2.2.2.2.1 j (by omega)).trans ek
      rw [ek8]
      have good : io_ kd q → wpX9_as (nI j) (nI q) (B 0) (B 3) (fun r9 w0 => A 4 j = r9 ∧ rl c (va_up A 36 (A 36)) d (va_up B 3 w0) nm) := by
        intro hio
        unfold wpX9_as
        refine r9_t e7 hj (by omega) (br_f (by decide) (w9_t (n := 6) hq (by decide) (br_f (by decide) (its9 (k := 0) (by omega) (by decide) ?_))))
        rw [show 14 + 0 + 3 * j = 14 + 3 * j by omega, ek]
        have last : wpX9_its (nI j) 1 (B 0) (fun r9 => A 4 j = r9 ∧ rl c (va_up A 36 (A 36)) d (va_up B 3 (B 3)) nm) := by
          refine its9 (k := 1) (by omega) (by decide) ?_
          exact ⟨hw.2.2.2.2.2.2.2.2.2.2.1 j (by omega), hw, hi, ht0, ht1, hm0, hm1, him, her, hv, hs0, hs1, hs2, hs3, hnm⟩
        have eqq : ∀ a b : Nat, a < 7 → b < 7 → (nI a = nI b ↔ a = b) := fun a b ha hb => nI_eq (by omega) (by omega)
        have h2 := ab_le kd
        refine ⟨fun _ => br_f (by decide) last, fun n0 => ⟨fun _ => br_f (by decide) last, fun n1 => ab9 (by omega) ⟨fun _ => br_f (by decide) last, fun n2 => ?_⟩⟩⟩
        rcases hio with e | e | e
        · exact absurd (by rw [e]; rfl) n0
        · exact absurd (by rw [e]) n1
        · exact absurd (by rw [e]) n2
      refine io8 (by omega) (by omega) (fun hio => br_f (by decide) ⟨vp_in_nI (by omega) (by decide), ?_⟩) (fun hio => br_t rfl (e8 (k := 5) (by decide) ?_))
      · exact good hio
      · refine r9_t e7 hj (by omega) (br_f (by decide) (w9_t (n := 6) hq (by decide) (br_f (by decide) (its9 (k := 0) (by omega) (by decide) ?_))))
        rw [show 14 + 0 + 3 * j = 14 + 3 * j by omega, ek]
        have eqq : ∀ a b : Nat, a < 7 → b < 7 → (nI a = nI b ↔ a = b) := fun a b ha hb => nI_eq (by omega) (by omega)
        have h2 := ab_le kd
        refine br_f (fun e => hio (Or.inl ((eqq q 0 (by omega) (by decide)).mp e))) (br_f (fun e => hio (Or.inr (Or.inl ((eqq kd q (by omega) (by omega)).mp e)))) (ab9 (by omega) (br_f (fun e => hio (Or.inr (Or.inr ((eqq _ q (by omega) (by omega)).mp e)))) (br_t rfl (e9 (k := 5) (by decide) ?_)))))
        exact ⟨rfl, hw, hi, ht0, ht1, hm0, hm1, him, er_up her (k := 5) (by decide), hv, hs0, hs1, hs2, hs3, hnm⟩

set_option maxRecDepth 20000 in
theorem pc_readerIs {c d : Nat → Int32} {A B : Nat → Nat → Int32} {nm : Nat} {x1 : Int32} {x2 : Int32} (hR : rl c A d B nm) : wpX8_readerIs x1 x2 (c 1) (A 36) (A 3) (A 4) (c 5) (A 0) (A 5) (fun r8 u0 => wpX9_readerIs x1 x2 (B 0) (B 3) (fun r9 w0 => r8 = r9 ∧ rl c (va_up A 36 u0) d (va_up B 3 w0) nm)) := by
  obtain ⟨hw, hi, ht0, ht1, hm0, hm1, him, her, hv, hs0, hs1, hs2, hs3, hnm⟩ := id hR
  obtain ⟨R, hR6, e7⟩ := in_nI (n := 6) hi.2.2.2.2.2.2.1
  have ec : c 1 = nI R := hw.2.2.2.1.trans e7
  unfold wpX8_readerIs wpX9_readerIs
  rw [ec]
  rcases pk_ix x1 (show R < 2 ^ 31 by omega) with hx | hx | ⟨j, hj, rfl⟩
  · refine r8_n (R := R) (Or.inl hx) (br_t rfl (e8 (k := 1) (by decide) ?_))
    refine r9_n e7 (by omega) (Or.inl hx) (br_t rfl (e9 (k := 1) (by decide) ?_))
    exact ⟨rfl, hw, hi, ht0, ht1, hm0, hm1, him, er_up her (k := 1) (by decide), hv, hs0, hs1, hs2, hs3, hnm⟩
  · refine r8_n (R := R) (Or.inr hx) (br_t rfl (e8 (k := 1) (by decide) ?_))
    refine r9_n e7 (by omega) (Or.inr hx) (br_t rfl (e9 (k := 1) (by decide) ?_))
    exact ⟨rfl, hw, hi, ht0, ht1, hm0, hm1, him, er_up her (k := 1) (by decide), hv, hs0, hs1, hs2, hs3, hnm⟩
  · refine r8_t hj (by omega) (br_f (by decide) ?_)
    have g9 : ∀ r : Int32, ∀ q : Nat, q ≤ 3 → ((nI q = 3 → wpX9_looksAt (nI j) (B 0) (fun r30 => r = r30 ∧ rl c (va_up A 36 (A 36)) d (va_up B 3 (B 3)) nm)) ∧ (¬ nI q = 3 → wpX9_its (nI j) (nI q) (B 0) (fun r39 => r = r39 ∧ rl c (va_up A 36 (A 36)) d (va_up B 3 (B 3)) nm))) → wpX9_readerIs (nI j) (nI q) (B 0) (B 3) (fun r9 w0 => r = r9 ∧ rl c (va_up A 36 (A 36)) d (va_up B 3 w0) nm) := by
      intro r q hq hk
      unfold wpX9_readerIs
      exact r9_t e7 hj (by omega) (br_f (by decide) (w9_t (n := 3) hq (by decide) (br_f (by decide) hk)))
    rcases in_dec x2 3 (by decide) with hx | ⟨q, hq, rfl⟩
    · refine w8_f (n := 3) (by decide) hx (br_t rfl (e8 (k := 1) (by decide) ?_))
      refine r9_t e7 hj (by omega) (br_f (by decide) (w9_f (n := 3) (by decide) hx (br_t rfl (e9 (k := 1) (by decide) ?_))))
      exact ⟨rfl, hw, hi, ht0, ht1, hm0, hm1, him, er_up her (k := 1) (by decide), hv, hs0, hs1, hs2, hs3, hnm⟩
    · refine w8_t (n := 3) hq (by decide) (br_f (by decide) ?_)
      rcases (show q = 0 ∨ q = 1 ∨ q = 2 ∨ q = 3 by omega) with rfl | rfl | rfl | rfl
      · refine br_t rfl ⟨vp_in_nI (by omega) (by decide), ?_⟩
        rw [i_cl (show j < 2147483648 by omega)]
        refine g9 _ 0 (by decide) (br_f (by decide) (its9 (k := 0) (by omega) (by decide) ?_))
        exact ⟨hw.2.2.2.2.2.2.2.2.2.1 j (by omega), hw, hi, ht0, ht1, hm0, hm1, him, her, hv, hs0, hs1, hs2, hs3, hnm⟩
      · refine br_f (by decide) (br_t rfl ⟨vp_in_nI (by omega) (by decide), ?_⟩)
        rw [i_cl (show j < 2147483648 by omega)]
        refine g9 _ 1 (by decide) (br_f (by decide) (its9 (k := 1) (by omega) (by decide) ?_))
        exact ⟨hw.2.2.2.2.2.2.2.2.2.2.1 j (by omega), hw, hi, ht0, ht1, hm0, hm1, him, her, hv, hs0, hs1, hs2, hs3, hnm⟩
      · refine br_f (by decide) (br_f (by decide) (br_t rfl ⟨vp_in_nI (by omega) (by decide), ?_⟩))
        rw [i_cl (show j < 2147483648 by omega)]
        refine g9 _ 2 (by decide) (br_f (by decide) (its9 (k := 2) (by omega) (by decide) ?_))
        exact ⟨hw.2.2.2.2.2.2.2.2.2.2.2.1 j (by omega), hw, hi, ht0, ht1, hm0, hm1, him, her, hv, hs0, hs1, hs2, hs3, hnm⟩
      · refine br_f (by decide) (br_f (by decide) (br_f (by decide) ⟨vp_in_nI (by omega) (by decide), vp_in_nI (by omega) (by decide), la8 ?_⟩))
        rw [i_cl (show j < 2147483648 by omega)]
        refine g9 _ 3 (by decide) (br_t rfl (la9 (by omega) ?_))
        exact ⟨by rw [hw.2.2.2.2.2.2.2.2.2.1 j (by omega), hw.2.2.2.2.2.2.2.2.2.2.1 j (by omega), hw.1, hw.2.2.2.2.2.2.1, hw.2.2.2.2.2.2.2.1], hw, hi, ht0, ht1, hm0, hm1, him, her, hv, hs0, hs1, hs2, hs3, hnm⟩

set_option maxRecDepth 20000 in
theorem pc_body {c d : Nat → Int32} {A B : Nat → Nat → Int32} {nm : Nat} {x1 : Int32} (hR : rl c A d B nm) : wpX8_body x1 (A 36) (c 41) (A 35) (fun r8 u0 => wpX9_body x1 (d 7) (B 3) (B 10) (fun r9 w0 => r8 = r9 ∧ rl c (va_up A 36 u0) d (va_up B 3 w0) nm)) := by
  obtain ⟨hw, hi, ht0, ht1, hm0, hm1, him, her, hv, hs0, hs1, hs2, hs3, hnm⟩ := id hR
  obtain ⟨hv1, hv2, hv3⟩ := id hv
  obtain ⟨T, hT, eT⟩ := in_nI (n := 30) hv2
  unfold wpX8_body wpX9_body
  rw [← hv1, eT]
  have hv3' : ∀ i, i < T → A 35 i = B 10 i := by
    intro i h
    refine hv3 i ?_
    rw [eT, nI_toInt (by omega)]
    omega
  have bad : (x1 < 0 ∨ nI T ≤ x1) → ∀ r : Int32, wpX9_in x1 0 (nI T - 1) (fun r8 => ((r8 = 0 → wpX9_error 2 (B 3) (fun r25 u25_0 => (-1000000000 - nI 2 : Int32) = r25 ∧ rl c (va_up A 36 (upd (A 36) 2 (A 36 2 + 1))) d (va_up B 3 u25_0) nm)) ∧ (¬ r8 = 0 → vp_in x1 30 ∧ ((-1000000000 - nI 2 : Int32) = (B 10) x1.toNatClampNeg ∧ rl c (va_up A 36 (upd (A 36) 2 (A 36 2 + 1))) d (va_up B 3 (B 3)) nm)))) := by
    intro h _
    have k : ∀ r : Int32, r = 0 → ((r = 0 → wpX9_error 2 (B 3) (fun r25 u25_0 => (-1000000000 - nI 2 : Int32) = r25 ∧ rl c (va_up A 36 (upd (A 36) 2 (A 36 2 + 1))) d (va_up B 3 u25_0) nm)) ∧ (¬ r = 0 → vp_in x1 30 ∧ ((-1000000000 - nI 2 : Int32) = (B 10) x1.toNatClampNeg ∧ rl c (va_up A 36 (upd (A 36) 2 (A 36 2 + 1))) d (va_up B 3 (B 3)) nm))) := by
      intro r hr
      refine br_t hr (e9 (k := 2) (by decide) ?_)
      exact ⟨rfl, hw, hi, ht0, ht1, hm0, hm1, him, er_up her (k := 2) (by decide), hv, hs0, hs1, hs2, hs3, hnm⟩
    refine ⟨fun _ => k 0 rfl, fun h1 => ⟨fun _ => k 0 rfl, fun h2 => absurd ?_ h2⟩⟩
    rcases h with h | h
    · exact absurd h h1
    · have e1 : (1 : Int32).toInt = 1 := by decide
      have e2 := nI_toInt (show T < 2 ^ 31 by omega)
      rw [i_le, e2] at h
      rw [i_lt, i_sub (by omega) (by omega), e1, e2]
      omega
  rcases pk_ix x1 (show T < 2 ^ 31 by omega) with hx | hx | ⟨j, hj, rfl⟩
  · exact br_t hx (e8 (k := 2) (by decide) (bad (Or.inl hx) 0))
  · exact ⟨fun _ => e8 (k := 2) (by decide) (bad (Or.inr hx) 0), fun _ => br_t hx (e8 (k := 2) (by decide) (bad (Or.inr hx) 0))⟩
  · refine br_f (nI_pos (by omega)) (br_f (nI_ge hj (by omega)) ⟨vp_in_nI (by omega) (by decide), ?_⟩)
    obtain ⟨r, rfl⟩ : ∃ r, T = r + 1 := ⟨T - 1, by omega⟩
    rw [nI_pred]
    refine w9_t (n := r) (by omega) (by omega) (br_f (by decide) ⟨vp_in_nI (by omega) (by decide), ?_⟩)
    rw [i_cl (show j < 2147483648 by omega)]
    exact ⟨hv3' j hj, hw, hi, ht0, ht1, hm0, hm1, him, her, hv, hs0, hs1, hs2, hs3, hnm⟩

set_option maxRecDepth 20000 in
theorem pc_tell {c d : Nat → Int32} {A B : Nat → Nat → Int32} {nm : Nat} {x1 : Int32} (hR : rl c A d B nm) : wpX8_tell x1 (c 3) (A 7) (A 36) (fun r8 u0 u1 u2 => wpX9_tell x1 (B 0) (B 3) (fun r9 w0 w1 => r8 = r9 ∧ rl (va_up c 3 u0) (va_up (va_up A 7 u1) 36 u2) d (va_up (va_up B 0 w0) 3 w1) nm)) := by
  obtain ⟨hw, hi, ht0, ht1, hm0, hm1, him, her, hv, hs0, hs1, hs2, hs3, hnm⟩ := id hR
  obtain ⟨N, hN, e6⟩ := in_nI (n := 24) hi.2.2.2.2.2.1
  have ec : c 3 = nI N := hw.2.2.2.2.2.1.trans e6
  unfold wpX8_tell wpX9_tell
  rw [ec, show (6 : Int32).toNatClampNeg = 6 from rfl, e6]
  by_cases h : N = 24
  · subst h
    refine br_f (by decide) (e8 (k := 4) (by decide) ⟨vp_in_iff.mpr (by decide), br_t rfl (e9 (k := 4) (by decide) ?_)⟩)
    exact ⟨rfl, ec ▸ hw, hi, ht0, ht1, hm0, hm1, him, er_up her (k := 4) (by decide), hv, hs0, hs1, hs2, hs3, hnm⟩
  · refine br_t (show nI N < nI 24 from nI_lt (by omega) (by decide)) ⟨vp_in_nI (by omega) (by decide), vp_in_iff.mpr (by decide), br_f (fun q => h ((nI_eq (a := N) (b := 24) (by omega) (by decide)).mp q)) ?_⟩
    have ei : (342 + nI N : Int32) = nI (342 + N) := nI_add 342 N
    rw [ei]
    refine ⟨vp_in_iff.mpr (by decide), vp_in_nI (by omega) (by decide), vp_in_iff.mpr (by decide), vp_in_iff.mpr (by decide), vp_in_iff.mpr (by decide), ?_⟩
    rw [i_cl (show 342 + N < 2147483648 by omega), i_cl (show N < 2147483648 by omega), pk_un (show (6 : Nat) ≠ 342 + N by omega), e6, pk_us, nI_1]
    refine ⟨rfl, rw_waits (rw_waiting hw _ (by omega)) _, ri_6 (ri_z hi (Or.inr (by omega))) (in_mk (n := 24) (by omega) (by decide)), rt_keep (by decide) (rt_keep (by decide) ht0 (by omega)) (by omega), rt_keep (by decide) (rt_keep (by decide) ht1 (by omega)) (by omega), hm0, hm1, him, her, hv, hs0, hs1, hs2, hs3, hnm⟩

set_option maxRecDepth 20000 in
theorem pc_reader {c d : Nat → Int32} {A B : Nat → Nat → Int32} {nm : Nat} {x1 : Int32} (hR : rl c A d B nm) : wpX8_reader x1 (c 1) (A 3) (A 4) (A 5) (A 36) (fun r8 u0 u1 u2 u3 u4 => wpX9_reader x1 (B 0) (B 3) (fun r9 w0 w1 => r8 = r9 ∧ rl (va_up c 1 u0) (va_up (va_up (va_up (va_up A 3 u1) 4 u2) 5 u3) 36 u4) d (va_up (va_up B 0 w0) 3 w1) nm)) := by
  obtain ⟨hw, hi, ht0, ht1, hm0, hm1, him, her, hv, hs0, hs1, hs2, hs3, hnm⟩ := id hR
  obtain ⟨R, hR6, e7⟩ := in_nI (n := 6) hi.2.2.2.2.2.2.1
  have ec : c 1 = nI R := hw.2.2.2.1.trans e7
  rw [ec]
  unfold wpX8_reader wpX9_reader wpX9_isKm
  rw [show (7 : Int32).toNatClampNeg = 7 from rfl, e7]
  rcases in_dec x1 69 (by decide) with hx | ⟨v, hv2, rfl⟩
  · refine w8_f (n := 69) (by decide) hx (br_t rfl (e8 (k := 1) (by decide) ?_))
    refine w9_f (n := 69) (by decide) hx ⟨rfl, br_t rfl (e9 (k := 1) (by decide) ?_)⟩
    exact ⟨rfl, ec ▸ hw, hi, ht0, ht1, hm0, hm1, him, er_up her (k := 1) (by decide), hv, hs0, hs1, hs2, hs3, hnm⟩
  · refine w8_t (n := 69) hv2 (by decide) (br_f (by decide) ?_)
    by_cases h : R = 6
    · subst h
      refine br_f (by decide) (e8 (k := 4) (by decide) (w9_t (n := 69) hv2 (by decide) ⟨rfl, br_f (by decide) ⟨vp_in_iff.mpr (by decide), br_t rfl (e9 (k := 4) (by decide) ?_)⟩⟩))
      exact ⟨rfl, ec ▸ hw, hi, ht0, ht1, hm0, hm1, him, er_up her (k := 4) (by decide), hv, hs0, hs1, hs2, hs3, hnm⟩
    · refine br_t (show nI R < nI 6 from nI_lt (by omega) (by decide)) ⟨vp_in_nI (by omega) (by decide), vp_in_nI (by omega) (by decide), vp_in_nI (by omega) (by decide), ?_⟩
      refine w9_t (n := 69) hv2 (by decide) ⟨rfl, br_f (by decide) ⟨vp_in_iff.mpr (by decide), br_f (fun q => h ((nI_eq (a := R) (b := 6) (by omega) (by decide)).mp q)) ⟨vp_in_iff.mpr (by decide), ?_⟩⟩⟩
      refine lays9 (j := R) (k := 0) (by omega) (by decide) (lays9 (j := R) (k := 1) (by omega) (by decide) (lays9 (j := R) (k := 2) (by omega) (by decide) ⟨vp_in_iff.mpr (by decide), vp_in_iff.mpr (by decide), ?_⟩))
      have d1 : (nI v / 10 : Int32) = nI (v / 10) := pk_div (by omega) (by decide) (by decide)
      have d2 : (nI v - nI v / 10 * 10 : Int32) = nI (v % 10) := pk_rem (by omega) (by decide) (by decide)
      rw [d1] at d2
      rw [d1, d2, i_cl (show R < 2147483648 by omega), pk_un (show (7 : Nat) ≠ 14 + 2 + 3 * R by omega), pk_un (show (7 : Nat) ≠ 14 + 1 + 3 * R by omega), pk_un (show (7 : Nat) ≠ 14 + 0 + 3 * R by omega), e7, nI_1]
      refine ⟨rfl, rw_readers (rw_marks (rw_ms (rw_kinds hw _ (by omega)) _ (by omega)) _ (by omega)) _, ri_7 (ri_qs (ri_qm (ri_qk hi (in_mk (n := 6) (by omega) (by decide)) (by omega)) (in_mk (n := 9) (by omega) (by decide)) (by omega)) (in_mk (n := 9999) (j := 0) (by omega) (by decide)) (by omega)) (in_mk (n := 6) (by omega) (by decide)), rt_keep (by decide) (rt_keep (by decide) (rt_keep (by decide) (rt_keep (by decide) ht0 (by omega)) (by omega)) (by omega)) (by omega), rt_keep (by decide) (rt_keep (by decide) (rt_keep (by decide) (rt_keep (by decide) ht1 (by omega)) (by omega)) (by omega)) (by omega), hm0, hm1, him, her, hv, hs0, hs1, hs2, hs3, hnm⟩

