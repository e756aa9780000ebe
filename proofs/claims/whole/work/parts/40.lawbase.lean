/-- the cells of class and reference, at the loop's head -/
def lw_ws (g : bs_G) (ad bd : Nat → Nat) (c : Nat → Int32) (A : Nat → Nat → Int32) (nm : Nat) (d : Nat → Int32) (B : Nat → Nat → Int32) : va_W :=
  [((ad 0), .inr (7, [.ref (ad 1), .ref (ad 19), .ref (ad 37), .ref (ad 44), .ref (ad 47), .ref (ad 49), .ref (ad 50), .int (c 0)])),
   ((ad 1), .inr (6, [.ref (ad 2), .ref (ad 5), .int (c 1), .ref (ad 6), .ref (ad 7), .ref (ad 8), .ref (ad 11), .ref (ad 15), .ref (ad 9), .int (c 2), .ref (ad 10), .int (c 3), .int (c 4)])),
   ((ad 2), .inr (1, [.int (c 5), .int (c 6), .ref (ad 3), .ref (ad 4)])),
   ((ad 3), .inl (bs_I g, 2, .inl (A 0))),
   ((ad 4), .inl (bs_I g, 2, .inl (A 1))),
   ((ad 5), .inl (bs_I g, 6, .inl (A 2))),
   ((ad 6), .inl (bs_I g, 6, .inl (A 3))),
   ((ad 7), .inl (bs_I g, 6, .inl (A 4))),
   ((ad 8), .inl (bs_I g, 6, .inl (A 5))),
   ((ad 9), .inl (bs_B g, 60, .inl (A 6))),
   ((ad 10), .inl (bs_I g, 24, .inl (A 7))),
   ((ad 11), .inr (0, [.int (c 7), .int (c 8), .int (c 9), .ref (ad 14), .ref (ad 12), .ref (ad 13), .int (c 10)])),
   ((ad 12), .inl (bs_I g, 60, .inl (A 8))),
   ((ad 13), .inl (bs_I g, 60, .inl (A 9))),
   ((ad 14), .inl (bs_I g, 1152, .inl (A 10))),
   ((ad 15), .inr (0, [.int (c 11), .int (c 12), .int (c 13), .ref (ad 18), .ref (ad 16), .ref (ad 17), .int (c 14)])),
   ((ad 16), .inl (bs_I g, 60, .inl (A 11))),
   ((ad 17), .inl (bs_I g, 60, .inl (A 12))),
   ((ad 18), .inl (bs_I g, 5280, .inl (A 13))),
   ((ad 19), .inr (6, [.ref (ad 20), .ref (ad 23), .int (c 15), .ref (ad 24), .ref (ad 25), .ref (ad 26), .ref (ad 29), .ref (ad 33), .ref (ad 27), .int (c 16), .ref (ad 28), .int (c 17), .int (c 18)])),
   ((ad 20), .inr (1, [.int (c 19), .int (c 20), .ref (ad 21), .ref (ad 22)])),
   ((ad 21), .inl (bs_I g, 2, .inl (A 14))),
   ((ad 22), .inl (bs_I g, 2, .inl (A 15))),
   ((ad 23), .inl (bs_I g, 6, .inl (A 16))),
   ((ad 24), .inl (bs_I g, 6, .inl (A 17))),
   ((ad 25), .inl (bs_I g, 6, .inl (A 18))),
   ((ad 26), .inl (bs_I g, 6, .inl (A 19))),
   ((ad 27), .inl (bs_B g, 60, .inl (A 20))),
   ((ad 28), .inl (bs_I g, 24, .inl (A 21))),
   ((ad 29), .inr (0, [.int (c 21), .int (c 22), .int (c 23), .ref (ad 32), .ref (ad 30), .ref (ad 31), .int (c 24)])),
   ((ad 30), .inl (bs_I g, 60, .inl (A 22))),
   ((ad 31), .inl (bs_I g, 60, .inl (A 23))),
   ((ad 32), .inl (bs_I g, 0, .inl (A 24))),
   ((ad 33), .inr (0, [.int (c 25), .int (c 26), .int (c 27), .ref (ad 36), .ref (ad 34), .ref (ad 35), .int (c 28)])),
   ((ad 34), .inl (bs_I g, 60, .inl (A 25))),
   ((ad 35), .inl (bs_I g, 60, .inl (A 26))),
   ((ad 36), .inl (bs_I g, 0, .inl (A 27))),
   ((ad 37), .inr (4, [.ref (ad 38), .ref (ad 41), .int (c 29), .int (c 30), .int (c 31), .ref (ad 42), .ref (ad 43)])),
   ((ad 38), .inr (1, [.int (c 32), .int (c 33), .ref (ad 39), .ref (ad 40)])),
   ((ad 39), .inl (bs_I g, 2, .inl (A 28))),
   ((ad 40), .inl (bs_I g, 2, .inl (A 29))),
   ((ad 41), .inl (bs_I g, 256, .inl (A 30))),
   ((ad 42), .inl (bs_I g, 9, .inl (A 31))),
   ((ad 43), .inl (bs_I g, 31, .inl (A 32))),
   ((ad 44), .inr (3, [.ref (ad 45), .int (c 34), .int (c 35), .ref (g.2 (6 + nm)), .ref (ad 46), .int (c 36)])),
   ((ad 45), .inl (bs_B g, 60, .inl (A 33))),
   ((ad 46), .inl (bs_I g, 60, .inl (A 34))),
   ((ad 47), .inr (5, [.int (c 37), .int (c 38), .int (c 39), .int (c 40), .ref (ad 48), .int (c 41)])),
   ((ad 48), .inl (bs_I g, 30, .inl (A 35))),
   ((ad 49), .inl (bs_S g, 4, .inr (.inr (.inr (.inr (va_up (va_up (va_up (va_up (fun _ => none) (0 : Int32).toNatClampNeg (some (ad 51))) (1 : Int32).toNatClampNeg (some (ad 53))) (2 : Int32).toNatClampNeg (some (ad 55))) (3 : Int32).toNatClampNeg (some (ad 57)))))))),
   ((ad 50), .inl (bs_I g, 7, .inl (A 36))),
   ((ad 51), .inr (2, [.int (c 42), .int (c 43), .ref (ad 52)])),
   ((ad 52), .inl (bs_I g, 24, .inl (A 37))),
   ((ad 53), .inr (2, [.int (c 44), .int (c 45), .ref (ad 54)])),
   ((ad 54), .inl (bs_I g, 24, .inl (A 38))),
   ((ad 55), .inr (2, [.int (c 46), .int (c 47), .ref (ad 56)])),
   ((ad 56), .inl (bs_I g, 24, .inl (A 39))),
   ((ad 57), .inr (2, [.int (c 48), .int (c 49), .ref (ad 58)])),
   ((ad 58), .inl (bs_I g, 24, .inl (A 40))),
   ((bd 0), .inr (8, [.ref (bd 1), .ref (bd 2), .ref (bd 3), .int (d 0), .ref (bd 4), .int (d 1), .int (d 2), .int (d 3), .int (d 4), .ref (bd 5), .ref (bd 6), .ref (bd 7), .ref (bd 8), .int (d 5), .int (d 6), .ref (bd 9), .ref (bd 10), .int (d 7), .ref (bd 11), .int (d 8), .int (d 9), .ref (bd 12), .ref (bd 13), .ref (bd 14), .ref (bd 15)])),
   ((bd 1), .inl (bs_I g, 366, .inl (B 0))),
   ((bd 2), .inl (bs_I g, 366, .inl (B 1))),
   ((bd 3), .inl (bs_I g, 32, .inl (B 2))),
   ((bd 4), .inl (bs_I g, 7, .inl (B 3))),
   ((bd 5), .inl (bs_I g, 124, .inl (B 4))),
   ((bd 6), .inl (bs_I g, 128, .inl (B 5))),
   ((bd 7), .inl (bs_I g, 64, .inl (B 6))),
   ((bd 8), .inl (bs_Z g, 256, .inl (B 7))),
   ((bd 9), .inl (bs_I g, 9, .inl (B 8))),
   ((bd 10), .inl (bs_I g, 31, .inl (B 9))),
   ((bd 11), .inl (bs_I g, 30, .inl (B 10))),
   ((bd 12), .inl (bs_I g, 4, .inl (B 11))),
   ((bd 13), .inl (bs_I g, 4, .inl (B 12))),
   ((bd 14), .inl (bs_I g, 96, .inl (B 13))),
   ((bd 15), .inl (bs_I g, 24, .inl (B 14)))]
section LawCalls
variable {p : Program} {l : Launch} {e : Env} {R : Room} {s : State} {m : MethodId} {args : Array Value} {below : List Frame} {meth : Method} {c : Code} {H : Heap} {locs : List Loc} {Q : State → Prop} {pc cells slots : Nat} {ls : Array Slot} {rest st0 As : List Value} {A : Nat → Prop} {g : bs_G}
  {cc bytes : ByteArray} {nL maxL index n : Nat} {Ts wsY : List Cond} {own : String} {y : MethodName} {ret : Option FieldType} {rm : Room} {ws wc wr : va_W} {b : Addr}
theorem cvL_i {S : Type} {post : Int32 → S → Prop} {w1 : S → va_W} {q : vw_C} {fs : List Value} (hF : bs_F p m c cc nL s args Ts own g A) (hM : Met l y wsY rm (bs_Pc g (.ref b :: As) wc H.size) (bs_Qi g wc H.size post w1) 0 0 (va_A wc H.size))
    (cw : CallW R s args own q.1 index y bytes maxL ret wsY rm 0 0 n) (hn : As.length = n) (hcap : cells ≤ R.cells ∧ slots ≤ R.slots) (hS : va_S A s.heap H locs) (hP : bs_P g ws H) (hD : va_D A ws) (qk ci : Nat) (hc : vwCl[ci]? = some q) (he : ws[qk]? = some (b, .inr (ci, fs))) (isC isR : List Nat) (hC : isC.map (fun i => ws[i]?) = wc.map some) (hR : isR.map (fun i => ws[i]?) = wr.map some) (hnC : va_nd isC = true) (hnR : va_nd isR = true) (hdis : ∀ i ∈ isR, i ∉ isC)
    (hsize : ls.size = nL) (hst : st0 = As.reverse ++ .ref b :: rest) (hroom : (rest.map fun v => v.category).sum ≤ 8) (hdg : decode cc pc = .ok (.invokevirtual index, 3))
    (kk : ∀ (r : Int32) (u : S) (H1 : Heap) (locs1 : List Loc), post r u → bs_P g (wr ++ w1 u) H1 → va_D A (wr ++ w1 u) → va_S A s.heap H1 locs1 → W p l e R s m args below meth c H1 locs1 cells slots Q (F0 m (pc + 3) ls (.int r :: rest))) :
    W p l e R s m args below meth c H locs cells slots Q (F0 m pc ls st0) := by
  have hFr := va_free hD hS hF.2.2.2 isC hC
  refine va_calli (mc := 0) (ms := 0) (va_runV hF.1 hM cw ⟨(bs_pre hF hS hP hD isC hnC hC (.ref b :: As)).1, va_recv hF.2.1 hP hc he, (bs_pre hF hS hP hD isC hnC hC (.ref b :: As)).2⟩ rfl hn hsize hst (lv_room hroom) hdg hcap) hS (fun q _ h => hFr q h) hFr (fun r u t H1 locs1 ht hvm hq hB hz hk hS1 => ?_)
  obtain ⟨hP1, hD1⟩ := hB
  rw [ht] at hP1
  obtain ⟨hP2, hD2⟩ := va_join hP hD isC isR hC hR hnR hdis hk hFr hP1 hD1
  exact kk r u H1 locs1 hq hP2 hD2 hS1
end LawCalls
theorem lw_e4 {x : Int32} (h0 : ¬ x = 0) (h1 : ¬ x = 1) (h2 : ¬ x = 2) (h3 : ¬ x = 3) : ¬ vp_in x 4 := by
  intro h
  obtain ⟨j, hj, rfl⟩ := vp_in_of h (by decide)
  have : j = 0 ∨ j = 1 ∨ j = 2 ∨ j = 3 := by omega
  rcases this with rfl | rfl | rfl | rfl
  · exact h0 rfl
  · exact h1 rfl
  · exact h2 rfl
  · exact h3 rfl
