/-! how the class's world stands to the reference's: c, A the class's ints and rows, d, B the reference's, nm which names the reader of texts holds -/
/-- a world of the class against a row s of the reference -/
def rw_ (year secret z readers tapeSize waits : Int32) (jaws events kinds ms marks tape waiting s : Nat → Int32) : Prop :=
  year = s 0 ∧ secret = s 1 ∧ z = s 4 ∧ readers = s 7 ∧ tapeSize = s 5 ∧ waits = s 6 ∧ jaws 0 = s 2 ∧ jaws 1 = s 3 ∧
  (∀ i, i < 6 → events i = s (8 + i)) ∧ (∀ i, i < 6 → kinds i = s (14 + 3 * i)) ∧ (∀ i, i < 6 → ms i = s (15 + 3 * i)) ∧ (∀ i, i < 6 → marks i = s (16 + 3 * i)) ∧
  (∀ i, i < 60 → tape i &&& 255 = s (282 + i)) ∧ (∀ i, i < 60 → fits .byte (.int (tape i)) = true) ∧ (∀ i, i < 24 → waiting i = s (342 + i))
def in_ (x : Int32) (n : Int) : Prop := 0 ≤ x.toInt ∧ x.toInt ≤ n
/-- what the numbers of a row s keep to -/
def ri (s : Nat → Int32) : Prop :=
  in_ (s 0) 9999 ∧ in_ (s 1) 255 ∧ in_ (s 2) 359 ∧ in_ (s 3) 359 ∧ in_ (s 5) 60 ∧ in_ (s 6) 24 ∧ in_ (s 7) 6 ∧
  (∀ i, i < 6 → in_ (s (8 + i)) 255) ∧ (∀ i, i < 6 → in_ (s (14 + 3 * i)) 6) ∧ (∀ i, i < 6 → in_ (s (15 + 3 * i)) 9) ∧ (∀ i, i < 6 → in_ (s (16 + 3 * i)) 9999)
/-- how many values stand on the pile behind the first k steps of a text; the steps are the class's: a number, -1 .. -3 a name, else a sign, negated -/
def tx_n (st : Nat → Int32) : Nat → Nat
  | 0 => 0
  | k + 1 => if -3 ≤ st k then tx_n st k + 1 else if st k = -33 then tx_n st k else tx_n st k - 1
/-- a text that can be worked out -/
def tx_ok (st : Nat → Int32) (n : Nat) : Prop :=
  n ≤ 60 ∧ (0 < n → tx_n st n = 1) ∧ ∀ k, k < n → (-3 ≤ st k ∧ st k ≤ 9999) ∨ (st k = -33 ∧ 1 ≤ tx_n st k) ∨ ((st k = -124 ∨ st k = -38 ∨ st k = -60 ∨ st k = -61 ∨ st k = -62 ∨ st k = -43 ∨ st k = -45 ∨ st k = -42 ∨ st k = -47 ∨ st k = -37) ∧ 2 ≤ tx_n st k)
/-- a sign of two values -/
def tx_s (v : Int32) : Prop := v = 124 ∨ v = 38 ∨ v = 60 ∨ v = 61 ∨ v = 62 ∨ v = 43 ∨ v = 45 ∨ v = 42 ∨ v = 47 ∨ v = 37
/-- a step of the class against a pair of the reference, by use -/
def tx_e (u : Nat) (x what v : Int32) : Prop :=
  (what = 0 ∧ x = v ∧ in_ v 9999) ∨ (what = 1 ∧ ((x = -1 ∧ v = (if u = 0 then 98 else 114)) ∨ (x = -2 ∧ v = (if u = 0 then 101 else 106)) ∨ (x = -3 ∧ v = 121))) ∨ (what = 2 ∧ x = -33) ∨ (what = 3 ∧ x = -v ∧ tx_s v)
/-- a text of the class against the reference's -/
def rt (u : Nat) (len : Int32) (st s : Nat → Int32) : Prop :=
  len = s (32 + 125 * u) ∧ in_ len 60 ∧ tx_ok st len.toInt.toNat ∧ ∀ k, k < len.toInt.toNat → tx_e u (st k) (s (33 + 125 * u + 2 * k)) (s (34 + 125 * u + 2 * k))
def tx_j (c x y : Int32) : Int32 :=
  if c = 124 then (if x ≠ 0 ∨ y ≠ 0 then 1 else 0) else if c = 38 then (if x ≠ 0 ∧ y ≠ 0 then 1 else 0) else if c = 60 then (if x < y then 1 else 0) else if c = 61 then (if x = y then 1 else 0) else if c = 62 then (if y < x then 1 else 0)
  else if c = 43 then x + y else if c = 45 then x - y else if c = 42 then x * y else if c = 47 then (if y = 0 then 0 else x / y) else (if y = 0 then 0 else x - x / y * y)
/-- the pile behind the first k steps, the latest first -/
def tx_v (st : Nat → Int32) (a b c : Int32) : Nat → List Int32
  | 0 => []
  | k + 1 => if 0 ≤ st k then st k :: tx_v st a b c k else if -3 ≤ st k then (if st k = -1 then a else if st k = -2 then b else c) :: tx_v st a b c k
    else if st k = -33 then (match tx_v st a b c k with | x :: r => (if x = 0 then 1 else 0) :: r | [] => [])
    else (match tx_v st a b c k with | y :: x :: r => tx_j (-(st k)) x y :: r | _ => [])
def tx_c (hi x : Int32) : Int32 := if x < 0 then 0 else if hi < x then hi else x
/-- what a law gives -/
def tx_g (st : Nat → Int32) (len hi a b c : Int32) : Int32 := tx_c hi (if len = 0 then a else (tx_v st a b c len.toInt.toNat).headD 0)
/-- what a law remembers is what it gives -/
def rm (h0 : Int32) (A0 B0 : Nat) (hi sa sb len : Int32) (st mem : Nat → Int32) : Prop :=
  hi = h0 ∧ sa = nI A0 ∧ sb = nI B0 ∧ ∀ a b c : Nat, a < A0 → b < B0 → c < 8 → mem ((c * B0 + b) * A0 + a) = 0 ∨ mem ((c * B0 + b) * A0 + a) = tx_g st len hi (nI a) (nI b) (nI c) + 1
/-- a sheet -/
def rs (k : Nat) (bits size : Int32) (numbers bits' sizes' number' : Nat → Int32) : Prop :=
  bits = bits' k ∧ size = sizes' k ∧ (bits = 0 ∨ bits = 8 ∨ bits = 16 ∨ bits = 32) ∧ in_ size 24 ∧ ∀ i, i < 24 → numbers i = number' (24 * k + i)
def rv (traced traced' : Int32) (trace trace' : Nat → Int32) : Prop := traced = traced' ∧ in_ traced 30 ∧ ∀ i, i < traced.toInt.toNat → trace i = trace' i
def rk (c : Nat → Int32) (A : Nat → Nat → Int32) (s : Nat → Int32) : Prop :=
  rw_ (c 19) (c 20) (c 18) (c 15) (c 16) (c 17) (A 14) (A 16) (A 17) (A 18) (A 19) (A 20) (A 21) s ∧ ri s ∧ rt 0 (c 24) (A 22) s ∧ rt 1 (c 28) (A 25) s
def rl (c : Nat → Int32) (A : Nat → Nat → Int32) (d : Nat → Int32) (B : Nat → Nat → Int32) (nm : Nat) : Prop :=
  rw_ (c 5) (c 6) (c 4) (c 1) (c 2) (c 3) (A 0) (A 2) (A 3) (A 4) (A 5) (A 6) (A 7) (B 0) ∧ ri (B 0) ∧ rt 0 (c 10) (A 8) (B 0) ∧ rt 1 (c 14) (A 11) (B 0) ∧
  rm 30 9 16 (c 7) (c 8) (c 9) (c 10) (A 8) (A 10) ∧ rm 40 66 10 (c 11) (c 12) (c 13) (c 14) (A 11) (A 13) ∧
  (c 0 = d 0 ∧ (¬ c 0 = 0 → rk c A (B 1))) ∧ (∀ i, i < 7 → A 36 i = B 3 i) ∧ rv (c 41) (d 7) (A 35) (B 10) ∧
  rs 0 (c 42) (c 43) (A 37) (B 11) (B 12) (B 13) ∧ rs 1 (c 44) (c 45) (A 38) (B 11) (B 12) (B 13) ∧ rs 2 (c 46) (c 47) (A 39) (B 11) (B 12) (B 13) ∧ rs 3 (c 48) (c 49) (A 40) (B 11) (B 12) (B 13) ∧ nm < 3
