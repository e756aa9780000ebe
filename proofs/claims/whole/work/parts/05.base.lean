/-! THE COMMON GROUND OF ALL CONTRACTS: one entry row a kind of method, one call row a kind of call. -/
/-- what every contract carries: the class numbers and field places, and further addresses: 0 int[], 1 byte[], 2 boolean[], 3 Sheet[], 4 Kinds.ABOVE, 5 Voices.BODIES -/
abbrev bs_G : Type := va_G × (Nat → Nat)
abbrev bs_I (g : bs_G) : ClassId := g.2 0
abbrev bs_B (g : bs_G) : ClassId := g.2 1
abbrev bs_Z (g : bs_G) : ClassId := g.2 2
abbrev bs_S (g : bs_G) : ClassId := g.2 3
abbrev bs_tys (g : bs_G) : List (ClassId × FieldType) := [(g.2 0, .int), (g.2 1, .byte), (g.2 2, .boolean), (g.2 3, .object "LionSigns$Sheet")]
abbrev bs_P (g : bs_G) (ws : va_W) (H : Heap) : Prop := va_P g.1 vwCl ws H
abbrev bs_K (g : bs_G) (U : State) : Prop := va_K g.1 vwCl (bs_tys g) U
/-- the tables that nobody writes -/
def bs_above : Nat → Value := fun j => .int (tb_above j)
def bs_bodies : Nat → Value := fun j => .int (tb_bodies j)
/-- the String constants: 0 "bey", 1 "rjy", 2 "" at g.2 (6 + w), their bytes at g.2 (9 + w) -/
def bs_A (g : bs_G) (A : Nat → Prop) (U : State) (H : Heap) : Prop :=
  va_Z "LionSigns$Kinds" "ABOVE" "[I" (.ref (g.2 4)) A U H ∧ va_T .int (g.2 4) 7 bs_above A U H ∧ va_Z "LionSigns$Voices" "BODIES" "[I" (.ref (g.2 5)) A U H ∧ va_T .int (g.2 5) 28 bs_bodies A U H ∧
  va_Z "java/lang/String" "COMPACT_STRINGS" "Z" (.int 1) A U H ∧ vk_S 3 tb_lens tb_strs (fun w => g.2 (6 + w)) (fun w => g.2 (9 + w)) A U H
theorem bs_A.moved {g : bs_G} {A : Nat → Prop} {u U : State} {H : Heap} (hvm : u.vm.Alike U.vm) (h : bs_A g A u H) : bs_A g A U H :=
  ⟨va_Z.moved hvm h.1, va_T.moved hvm h.2.1, va_Z.moved hvm h.2.2.1, va_T.moved hvm h.2.2.2.1, va_Z.moved hvm h.2.2.2.2.1, vk_S.moved hvm h.2.2.2.2.2⟩
theorem bs_A.kept {g : bs_G} {A : Nat → Prop} {U : State} {H H1 : Heap} (h : bs_A g A U H) (hq : ∀ a : Nat, a < H.size → ¬ A a → H1[a]? = H[a]?) : bs_A g A U H1 :=
  ⟨h.1.kept hq, h.2.1.kept hq, h.2.2.1.kept hq, h.2.2.2.1.kept hq, h.2.2.2.2.1.kept hq, h.2.2.2.2.2.kept hq⟩
theorem bs_A.narrow {g : bs_G} {A B : Nat → Prop} {U : State} {H : Heap} (h : bs_A g A U H) (hAB : ∀ q, B q → A q) : bs_A g B U H :=
  ⟨h.1.narrow hAB, h.2.1.narrow hAB, h.2.2.1.narrow hAB, h.2.2.2.1.narrow hAB, h.2.2.2.2.1.narrow hAB, h.2.2.2.2.2.narrow hAB⟩
/-- the nest's private constructors, and the class of Sheet[] -/
def bs_N (U : State) : Prop := va_Nw (.methodLinkNest RX7 11 yX2_init "LionSigns") U ∧ va_Nw (.methodLinkNest RX5 11 yX2_init "LionSigns") U ∧ va_Nw (.methodLinkNest RX8 23 yX5_init "LionSigns") U ∧ va_Nw (.methodLinkNest RX8 30 yX4_init "LionSigns") U ∧ va_Nw (.methodLinkNest RX8 37 yX6_init "LionSigns") U ∧ va_Nw (.methodLinkNest RX8 52 yX3_init "LionSigns") U ∧ va_AO "LionSigns$Sheet" U
theorem bs_N.same {u U : State} (hv : U.vm = u.vm) (h : bs_N u) : bs_N U := ⟨va_Nw.same rfl hv.symm h.1, va_Nw.same rfl hv.symm h.2.1, va_Nw.same rfl hv.symm h.2.2.1, va_Nw.same rfl hv.symm h.2.2.2.1, va_Nw.same rfl hv.symm h.2.2.2.2.1, va_Nw.same rfl hv.symm h.2.2.2.2.2.1, va_AO.moved (by rw [hv]; exact Vm.Alike.refl _) h.2.2.2.2.2.2⟩
theorem bs_N.warm {s U : State} (hW : s.WarmedH U.vm) (h : bs_N s) : bs_N U := ⟨va_Nw.warmM hW h.1, va_Nw.warmM hW h.2.1, va_Nw.warmM hW h.2.2.1, va_Nw.warmM hW h.2.2.2.1, va_Nw.warmM hW h.2.2.2.2.1, va_Nw.warmM hW h.2.2.2.2.2.1, va_AO.moved hW.alike h.2.2.2.2.2.2⟩
/-- where the String constants stand -/
def bs_R (g : bs_G) (U : State) : Prop := vk_R "LionSigns" 119 "bey" (g.2 (6 + 0)) U ∧ vk_R "LionSigns" 121 "rjy" (g.2 (6 + 1)) U ∧ vk_R "LionSigns$TextReader" 15 "" (g.2 (6 + 2)) U ∧ bs_N U
theorem bs_R.same {g : bs_G} {u U : State} (hv : U.vm = u.vm) (h : bs_R g u) : bs_R g U := ⟨h.1.same hv, h.2.1.same hv, h.2.2.1.same hv, h.2.2.2.same hv⟩
theorem bs_R.warm {g : bs_G} {s U : State} (hW : s.WarmedH U.vm) (h : bs_R g s) : bs_R g U := ⟨h.1.warm hW, h.2.1.warm hW, h.2.2.1.warm hW, h.2.2.2.warm hW⟩
/-- a contract's start: the world's cells ws, sz cells in all -/
abbrev bs_Pc (g : bs_G) (av : List Value) (ws : va_W) (sz : Nat) : Array Value → State → Prop :=
  va_Pc av (fun U => U.heap.size = sz ∧ bs_P g ws U.heap ∧ bs_K g U ∧ va_D (fun _ => True) ws ∧ bs_A g (va_A ws sz) U U.heap ∧ bs_R g U)
/-- its end -/
abbrev bs_E (g : bs_G) {S : Type} (ws : va_W) (sz : Nat) (w1 : S → va_W) : S → State → Prop := fun u t => bs_P g (w1 u) t.heap ∧ va_D (va_A ws sz) (w1 u)
abbrev bs_Qi (g : bs_G) {S : Type} (ws : va_W) (sz : Nat) (post : Int32 → S → Prop) (w1 : S → va_W) : Array Value → State → Outcome → State → Prop :=
  va_Qi post (bs_E g ws sz w1) (va_A ws sz)
abbrev bs_Qv (g : bs_G) {S : Type} (ws : va_W) (sz : Nat) (post : S → Prop) (w1 : S → va_W) : Array Value → State → Outcome → State → Prop :=
  va_Qv post (bs_E g ws sz w1) (va_A ws sz)
/-- what holds at a method's entry, and all along -/
def bs_F (p : Program) (m : MethodId) (c : Code) (cc : ByteArray) (nL : Nat) (s : State) (args : Array Value) (Ts : List Cond) (own : String) (g : bs_G) (A : Nat → Prop) : Prop :=
  CallFix p m c cc nL s args Ts own ∧ bs_K g s ∧ (bs_A g A s s.heap ∧ bs_R g s) ∧ ∀ q : Nat, s.heap.size ≤ q → A q
theorem ent_i {l : Launch} {y : MethodName} {ws ws' : List Cond} {rm : Room} {av : List Value} {wc : va_W} {S : Type} {post : Int32 → S → Prop} {w1 : S → va_W} {sz : Nat} {g : bs_G} {cc : ByteArray} {maxL : Nat} {rt : FieldType}
    (hy : plainName y.cls = true) (hw : ws = Cond.code y cc maxL (some rt) :: ws') (hav : (lg_sl av).length ≤ maxL)
    (body : ∀ (p : Program) (e : Env) (s : State) (m : MethodId) (below : List Frame) (meth : Method) (c : Code) (Q : State → Prop) (A : Nat → Prop),
      bs_F p m c cc maxL s av.toArray ws y.cls g A → s.heap.size = sz → bs_P g wc s.heap → va_D A wc → va_S A s.heap s.heap [] →
      (∀ (H : Heap) (locs : List Loc) (pc : Nat) (ls : Array Slot) (r : Int32) (u : S), decode cc pc = .ok (.ireturn, 1) → narrow rt (.int r) = .int r → post r u → bs_P g (w1 u) H → va_D A (w1 u) → va_S A s.heap H locs → W p l e rm s m av.toArray below meth c H locs 0 0 Q (F0 m pc ls [.int r])) →
      ∀ ls, lv_has ls maxL (lv_args 0 av) → W p l e rm s m av.toArray below meth c s.heap [] 0 0 Q (F0 m 0 ls [])) :
    Met l y ws rm (bs_Pc g av wc sz) (bs_Qi g wc sz post w1) 0 0 (va_A wc sz) := by
  refine Met.ofW (cc := cc) (maxL := maxL) (ret := some rt) hy hw ?_
  intro p e s m args below meth c s₁ B hml hv
  obtain ⟨rfl, hsz, hP, hK, hD0, hG, hRf⟩ := hv
  have hx := B.exec
  have hb := B.bytes
  have hr := B.returns
  have hts := atoms_spec (ws := ws) B.pre
  have hown : s.vm.findClass y.cls = some m.cls := findClass_of_methodNamed B.named
  have hlocks := B.notSynchronized
  subst hsz
  have hl := lv_entry av (n := maxL) hav
  rw [lg_entry_eq]
  refine body p e s m below meth c _ _ ⟨⟨hx, hb, hml, hown, hts⟩, hK, ⟨hG, hRf⟩, fun q h => Or.inr h⟩ rfl hP hD0.self va_S.rf ?_ _ hl
  intro H locs pc ls r u hd hn hq hP1 hD1 hS
  exact W.zret hx hb hr hn (fun t ht hW => ⟨⟨r, u, rfl, hq, by rw [ht]; exact hP1, hD1⟩, hS.F ht⟩) hS.2.2 hd
theorem ent_v {l : Launch} {y : MethodName} {ws ws' : List Cond} {rm : Room} {av : List Value} {wc : va_W} {S : Type} {post : S → Prop} {w1 : S → va_W} {sz : Nat} {g : bs_G} {cc : ByteArray} {maxL : Nat}
    (hy : plainName y.cls = true) (hw : ws = Cond.code y cc maxL none :: ws') (hav : (lg_sl av).length ≤ maxL)
    (body : ∀ (p : Program) (e : Env) (s : State) (m : MethodId) (below : List Frame) (meth : Method) (c : Code) (Q : State → Prop) (A : Nat → Prop),
      bs_F p m c cc maxL s av.toArray ws y.cls g A → s.heap.size = sz → bs_P g wc s.heap → va_D A wc → va_S A s.heap s.heap [] →
      (∀ (H : Heap) (locs : List Loc) (pc : Nat) (ls : Array Slot) (u : S), decode cc pc = .ok (.return_, 1) → post u → bs_P g (w1 u) H → va_D A (w1 u) → va_S A s.heap H locs → W p l e rm s m av.toArray below meth c H locs 0 0 Q (F0 m pc ls [])) →
      ∀ ls, lv_has ls maxL (lv_args 0 av) → W p l e rm s m av.toArray below meth c s.heap [] 0 0 Q (F0 m 0 ls [])) :
    Met l y ws rm (bs_Pc g av wc sz) (bs_Qv g wc sz post w1) 0 0 (va_A wc sz) := by
  refine Met.ofW (cc := cc) (maxL := maxL) (ret := none) hy hw ?_
  intro p e s m args below meth c s₁ B hml hv
  obtain ⟨rfl, hsz, hP, hK, hD0, hG, hRf⟩ := hv
  have hx := B.exec
  have hb := B.bytes
  have hr := B.returns
  have hts := atoms_spec (ws := ws) B.pre
  have hown : s.vm.findClass y.cls = some m.cls := findClass_of_methodNamed B.named
  have hlocks := B.notSynchronized
  subst hsz
  have hl := lv_entry av (n := maxL) hav
  rw [lg_entry_eq]
  refine body p e s m below meth c _ _ ⟨⟨hx, hb, hml, hown, hts⟩, hK, ⟨hG, hRf⟩, fun q h => Or.inr h⟩ rfl hP hD0.self va_S.rf ?_ _ hl
  intro H locs pc ls u hd hq hP1 hD1 hS
  exact W.vret hx hb hr (fun t ht hW => ⟨⟨u, rfl, hq, by rw [ht]; exact hP1, hD1⟩, hS.F ht⟩) hS.2.2 hd
theorem ent_r {l : Launch} {y : MethodName} {ws ws' : List Cond} {rm : Room} {av : List Value} {wc : va_W} {post : Nat → Prop} {sz : Nat} {g : bs_G} {cc : ByteArray} {maxL : Nat} {nm : String}
    (hy : plainName y.cls = true) (hw : ws = Cond.code y cc maxL (some (.object nm)) :: ws') (hav : (lg_sl av).length ≤ maxL)
    (body : ∀ (p : Program) (e : Env) (s : State) (m : MethodId) (below : List Frame) (meth : Method) (c : Code) (Q : State → Prop) (A : Nat → Prop),
      bs_F p m c cc maxL s av.toArray ws y.cls g A → s.heap.size = sz → bs_P g wc s.heap → va_D A wc → va_S A s.heap s.heap [] →
      (∀ (H : Heap) (locs : List Loc) (pc : Nat) (ls : Array Slot) (r : Nat), decode cc pc = .ok (.areturn, 1) → post r → bs_P g wc H → va_D A wc → va_S A s.heap H locs → W p l e rm s m av.toArray below meth c H locs 0 0 Q (F0 m pc ls [.ref r])) →
      ∀ ls, lv_has ls maxL (lv_args 0 av) → W p l e rm s m av.toArray below meth c s.heap [] 0 0 Q (F0 m 0 ls [])) :
    Met l y ws rm (bs_Pc g av wc sz) (va_Qr post (fun (u : Nat) a t => a = u ∧ bs_E g wc sz (fun (_ : Nat) => wc) u t) (va_A wc sz)) 0 0 (va_A wc sz) := by
  refine Met.ofW (cc := cc) (maxL := maxL) (ret := some (.object nm)) hy hw ?_
  intro p e s m args below meth c s₁ B hml hv
  obtain ⟨rfl, hsz, hP, hK, hD0, hG, hRf⟩ := hv
  have hx := B.exec
  have hb := B.bytes
  have hr := B.returns
  have hts := atoms_spec (ws := ws) B.pre
  have hown : s.vm.findClass y.cls = some m.cls := findClass_of_methodNamed B.named
  have hlocks := B.notSynchronized
  subst hsz
  have hl := lv_entry av (n := maxL) hav
  rw [lg_entry_eq]
  refine body p e s m below meth c _ _ ⟨⟨hx, hb, hml, hown, hts⟩, hK, ⟨hG, hRf⟩, fun q h => Or.inr h⟩ rfl hP hD0.self va_S.rf ?_ _ hl
  intro H locs pc ls r hd hq hP1 hD1 hS
  exact W.aret hx hb hr (Or.inl ⟨_, rfl⟩) (Or.inr ⟨_, rfl⟩) (fun t ht hW => ⟨⟨r, r, rfl, hq, rfl, by rw [ht]; exact hP1, hD1⟩, hS.F ht⟩) hS.2.2 hd
section Calls
variable {p : Program} {l : Launch} {e : Env} {R : Room} {s : State} {m : MethodId} {args : Array Value} {below : List Frame} {meth : Method} {c : Code} {H : Heap} {locs : List Loc} {Q : State → Prop} {pc : Nat} {ls : Array Slot} {rest st0 As : List Value} {a : Array Value} {A : Nat → Prop} {g : bs_G}
  {cc bytes : ByteArray} {nL maxL index n : Nat} {Ts wsY : List Cond} {own : String} {y : MethodName} {ret : Option FieldType} {rm : Room} {ws wc wr : va_W} {b : Addr}
/-- the callee's start holds -/
theorem bs_pre (hF : bs_F p m c cc nL s args Ts own g A) (hS : va_S A s.heap H locs) (hP : bs_P g ws H) (hD : va_D A ws) (isC : List Nat) (hnC : va_nd isC = true) (hC : isC.map (fun i => ws[i]?) = wc.map some) (av : List Value) :
    FrameBlind (bs_Pc g av wc H.size) ∧ ∀ U : State, U.heap = H → s.WarmedH U.vm → bs_Pc g av wc H.size av.toArray U := by
  obtain ⟨-, hK, ⟨hG, hRf⟩, hA⟩ := hF
  have hFr := va_free hD hS hA isC hC
  have hmem : ∀ (k : Nat) (q : Nat × va_E), wc[k]? = some q → ∃ i : Nat, ws[i]? = some q := by
    intro k q hq
    have h1 : (isC.map (fun i => ws[i]?))[k]? = some (some q) := by rw [hC, List.getElem?_map, hq]; rfl
    rw [List.getElem?_map] at h1
    cases hi : isC[k]? with
    | none => rw [hi] at h1; cases h1
    | some i => rw [hi] at h1; exact ⟨i, Option.some.inj h1⟩
  refine ⟨fun a U g' mk q => ?_, fun U hU hW => ?_⟩
  · obtain ⟨q0, q1, qP, qK, qD, qG, qR⟩ := q
    exact ⟨q0, q1, qP, va_K.moved (u := U) (U := U.calling g' mk a) (Vm.Alike.refl U.vm) qK, qD, bs_A.moved (u := U) (U := U.calling g' mk a) (Vm.Alike.refl U.vm) qG, bs_R.same (u := U) (U := U.calling g' mk a) rfl qR⟩
  · refine ⟨rfl, by rw [hU], ?_, va_K.moved hW.alike hK, (hD.sub isC hnC hC).weaken (fun _ _ _ _ => trivial), ?_, bs_R.warm hW hRf⟩
    · rw [hU]
      intro k q hq
      obtain ⟨i, hi⟩ := hmem k q hq
      exact hP i q hi
    · rw [hU]
      exact bs_A.moved hW.alike ((hG.kept hS.2.1).narrow hFr)
/-- behind a call that answers an int -/
theorem bs_ci {S : Type} {post : Int32 → S → Prop} {w1 : S → va_W} (hr : va_Run p l e R s m args below meth c H locs 0 0 0 0 (F0 m pc ls st0) rest (bs_Qi g wc H.size post w1 a) (va_A wc H.size))
    (hF : bs_F p m c cc nL s args Ts own g A) (hS : va_S A s.heap H locs) (hP : bs_P g ws H) (hD : va_D A ws) (isC isR : List Nat) (hC : isC.map (fun i => ws[i]?) = wc.map some) (hR : isR.map (fun i => ws[i]?) = wr.map some) (hn : va_nd isR = true) (hdis : ∀ i ∈ isR, i ∉ isC)
    (kk : ∀ (r : Int32) (u : S) (H1 : Heap) (locs1 : List Loc), post r u → bs_P g (wr ++ w1 u) H1 → va_D A (wr ++ w1 u) → va_S A s.heap H1 locs1 → W p l e R s m args below meth c H1 locs1 0 0 Q (F0 m (pc + 3) ls (.int r :: rest))) :
    W p l e R s m args below meth c H locs 0 0 Q (F0 m pc ls st0) := by
  have hFr := va_free hD hS hF.2.2.2 isC hC
  refine va_calli hr hS (fun q _ h => hFr q h) hFr (fun r u t H1 locs1 ht hvm hq hB hz hk hS1 => ?_)
  obtain ⟨hP1, hD1⟩ := hB
  rw [ht] at hP1
  obtain ⟨hP2, hD2⟩ := va_join hP hD isC isR hC hR hn hdis hk hFr hP1 hD1
  exact kk r u H1 locs1 hq hP2 hD2 hS1
theorem bs_cv {S : Type} {post : S → Prop} {w1 : S → va_W} (hr : va_Run p l e R s m args below meth c H locs 0 0 0 0 (F0 m pc ls st0) rest (bs_Qv g wc H.size post w1 a) (va_A wc H.size))
    (hF : bs_F p m c cc nL s args Ts own g A) (hS : va_S A s.heap H locs) (hP : bs_P g ws H) (hD : va_D A ws) (isC isR : List Nat) (hC : isC.map (fun i => ws[i]?) = wc.map some) (hR : isR.map (fun i => ws[i]?) = wr.map some) (hn : va_nd isR = true) (hdis : ∀ i ∈ isR, i ∉ isC)
    (kk : ∀ (u : S) (H1 : Heap) (locs1 : List Loc), post u → bs_P g (wr ++ w1 u) H1 → va_D A (wr ++ w1 u) → va_S A s.heap H1 locs1 → W p l e R s m args below meth c H1 locs1 0 0 Q (F0 m (pc + 3) ls rest)) :
    W p l e R s m args below meth c H locs 0 0 Q (F0 m pc ls st0) := by
  have hFr := va_free hD hS hF.2.2.2 isC hC
  refine va_callv hr hS (fun q _ h => hFr q h) hFr (fun u t H1 locs1 ht hvm hq hB hz hk hS1 => ?_)
  obtain ⟨hP1, hD1⟩ := hB
  rw [ht] at hP1
  obtain ⟨hP2, hD2⟩ := va_join hP hD isC isR hC hR hn hdis hk hFr hP1 hD1
  exact kk u H1 locs1 hq hP2 hD2 hS1
/-- invokestatic, an int back -/
theorem cs_i {S : Type} {post : Int32 → S → Prop} {w1 : S → va_W} (hF : bs_F p m c cc nL s args Ts own g A) (hM : Met l y wsY rm (bs_Pc g As wc H.size) (bs_Qi g wc H.size post w1) 0 0 (va_A wc H.size))
    (cw : CallB R s args own index y bytes maxL ret wsY rm 0 0 n ∧ (Cond.static y).before args s = true) (hn : As.length = n) (hS : va_S A s.heap H locs) (hP : bs_P g ws H) (hD : va_D A ws) (isC isR : List Nat) (hC : isC.map (fun i => ws[i]?) = wc.map some) (hR : isR.map (fun i => ws[i]?) = wr.map some) (hnC : va_nd isC = true) (hnR : va_nd isR = true) (hdis : ∀ i ∈ isR, i ∉ isC)
    (hsize : ls.size = nL) (hst : st0 = As.reverse ++ rest) (hroom : (rest.map fun v => v.category).sum ≤ 8) (hdg : decode cc pc = .ok (.invokestatic index, 3))
    (kk : ∀ (r : Int32) (u : S) (H1 : Heap) (locs1 : List Loc), post r u → bs_P g (wr ++ w1 u) H1 → va_D A (wr ++ w1 u) → va_S A s.heap H1 locs1 → W p l e R s m args below meth c H1 locs1 0 0 Q (F0 m (pc + 3) ls (.int r :: rest))) :
    W p l e R s m args below meth c H locs 0 0 Q (F0 m pc ls st0) :=
  bs_ci (va_runS hF.1 hM cw (bs_pre hF hS hP hD isC hnC hC As) rfl hn hsize hst (lv_room hroom) hdg ⟨Nat.zero_le _, Nat.zero_le _⟩) hF hS hP hD isC isR hC hR hnR hdis kk
theorem cs_v {S : Type} {post : S → Prop} {w1 : S → va_W} (hF : bs_F p m c cc nL s args Ts own g A) (hM : Met l y wsY rm (bs_Pc g As wc H.size) (bs_Qv g wc H.size post w1) 0 0 (va_A wc H.size))
    (cw : CallB R s args own index y bytes maxL ret wsY rm 0 0 n ∧ (Cond.static y).before args s = true) (hn : As.length = n) (hS : va_S A s.heap H locs) (hP : bs_P g ws H) (hD : va_D A ws) (isC isR : List Nat) (hC : isC.map (fun i => ws[i]?) = wc.map some) (hR : isR.map (fun i => ws[i]?) = wr.map some) (hnC : va_nd isC = true) (hnR : va_nd isR = true) (hdis : ∀ i ∈ isR, i ∉ isC)
    (hsize : ls.size = nL) (hst : st0 = As.reverse ++ rest) (hroom : (rest.map fun v => v.category).sum ≤ 8) (hdg : decode cc pc = .ok (.invokestatic index, 3))
    (kk : ∀ (u : S) (H1 : Heap) (locs1 : List Loc), post u → bs_P g (wr ++ w1 u) H1 → va_D A (wr ++ w1 u) → va_S A s.heap H1 locs1 → W p l e R s m args below meth c H1 locs1 0 0 Q (F0 m (pc + 3) ls rest)) :
    W p l e R s m args below meth c H locs 0 0 Q (F0 m pc ls st0) :=
  bs_cv (va_runS hF.1 hM cw (bs_pre hF hS hP hD isC hnC hC As) rfl hn hsize hst (lv_room hroom) hdg ⟨Nat.zero_le _, Nat.zero_le _⟩) hF hS hP hD isC isR hC hR hnR hdis kk
/-- invokevirtual, an int back; the receiver is the cell at place qk, of class number ci -/
theorem cv_i {S : Type} {post : Int32 → S → Prop} {w1 : S → va_W} {q : vw_C} {fs : List Value} (hF : bs_F p m c cc nL s args Ts own g A) (hM : Met l y wsY rm (bs_Pc g (.ref b :: As) wc H.size) (bs_Qi g wc H.size post w1) 0 0 (va_A wc H.size))
    (cw : CallW R s args own q.1 index y bytes maxL ret wsY rm 0 0 n) (hn : As.length = n) (hS : va_S A s.heap H locs) (hP : bs_P g ws H) (hD : va_D A ws) (qk ci : Nat) (hc : vwCl[ci]? = some q) (he : ws[qk]? = some (b, .inr (ci, fs))) (isC isR : List Nat) (hC : isC.map (fun i => ws[i]?) = wc.map some) (hR : isR.map (fun i => ws[i]?) = wr.map some) (hnC : va_nd isC = true) (hnR : va_nd isR = true) (hdis : ∀ i ∈ isR, i ∉ isC)
    (hsize : ls.size = nL) (hst : st0 = As.reverse ++ .ref b :: rest) (hroom : (rest.map fun v => v.category).sum ≤ 8) (hdg : decode cc pc = .ok (.invokevirtual index, 3))
    (kk : ∀ (r : Int32) (u : S) (H1 : Heap) (locs1 : List Loc), post r u → bs_P g (wr ++ w1 u) H1 → va_D A (wr ++ w1 u) → va_S A s.heap H1 locs1 → W p l e R s m args below meth c H1 locs1 0 0 Q (F0 m (pc + 3) ls (.int r :: rest))) :
    W p l e R s m args below meth c H locs 0 0 Q (F0 m pc ls st0) :=
  bs_ci (va_runV hF.1 hM cw ⟨(bs_pre hF hS hP hD isC hnC hC (.ref b :: As)).1, va_recv hF.2.1 hP hc he, (bs_pre hF hS hP hD isC hnC hC (.ref b :: As)).2⟩ rfl hn hsize hst (lv_room hroom) hdg ⟨Nat.zero_le _, Nat.zero_le _⟩) hF hS hP hD isC isR hC hR hnR hdis kk
theorem cv_v {S : Type} {post : S → Prop} {w1 : S → va_W} {q : vw_C} {fs : List Value} (hF : bs_F p m c cc nL s args Ts own g A) (hM : Met l y wsY rm (bs_Pc g (.ref b :: As) wc H.size) (bs_Qv g wc H.size post w1) 0 0 (va_A wc H.size))
    (cw : CallW R s args own q.1 index y bytes maxL ret wsY rm 0 0 n) (hn : As.length = n) (hS : va_S A s.heap H locs) (hP : bs_P g ws H) (hD : va_D A ws) (qk ci : Nat) (hc : vwCl[ci]? = some q) (he : ws[qk]? = some (b, .inr (ci, fs))) (isC isR : List Nat) (hC : isC.map (fun i => ws[i]?) = wc.map some) (hR : isR.map (fun i => ws[i]?) = wr.map some) (hnC : va_nd isC = true) (hnR : va_nd isR = true) (hdis : ∀ i ∈ isR, i ∉ isC)
    (hsize : ls.size = nL) (hst : st0 = As.reverse ++ .ref b :: rest) (hroom : (rest.map fun v => v.category).sum ≤ 8) (hdg : decode cc pc = .ok (.invokevirtual index, 3))
    (kk : ∀ (u : S) (H1 : Heap) (locs1 : List Loc), post u → bs_P g (wr ++ w1 u) H1 → va_D A (wr ++ w1 u) → va_S A s.heap H1 locs1 → W p l e R s m args below meth c H1 locs1 0 0 Q (F0 m (pc + 3) ls rest)) :
    W p l e R s m args below meth c H locs 0 0 Q (F0 m pc ls st0) :=
  bs_cv (va_runV hF.1 hM cw ⟨(bs_pre hF hS hP hD isC hnC hC (.ref b :: As)).1, va_recv hF.2.1 hP hc he, (bs_pre hF hS hP hD isC hnC hC (.ref b :: As)).2⟩ rfl hn hsize hst (lv_room hroom) hdg ⟨Nat.zero_le _, Nat.zero_le _⟩) hF hS hP hD isC isR hC hR hnR hdis kk
/-- invokevirtual on a cell that isn't of the world (a String constant) -/
theorem cv_iS {S : Type} {post : Int32 → S → Prop} {w1 : S → va_W} {C : String} (hF : bs_F p m c cc nL s args Ts own g A) (hM : Met l y wsY rm (bs_Pc g (.ref b :: As) wc H.size) (bs_Qi g wc H.size post w1) 0 0 (va_A wc H.size))
    (cw : CallW R s args own C index y bytes maxL ret wsY rm 0 0 n) (hn : As.length = n) (hS : va_S A s.heap H locs) (hP : bs_P g ws H) (hD : va_D A ws) (hrecv : ∃ cellB : Cell, H[b]? = some cellB ∧ cellB.vm.isStatics = false ∧ s.vm.findClass C = some cellB.cls) (isC isR : List Nat) (hC : isC.map (fun i => ws[i]?) = wc.map some) (hR : isR.map (fun i => ws[i]?) = wr.map some) (hnC : va_nd isC = true) (hnR : va_nd isR = true) (hdis : ∀ i ∈ isR, i ∉ isC)
    (hsize : ls.size = nL) (hst : st0 = As.reverse ++ .ref b :: rest) (hroom : (rest.map fun v => v.category).sum ≤ 8) (hdg : decode cc pc = .ok (.invokevirtual index, 3))
    (kk : ∀ (r : Int32) (u : S) (H1 : Heap) (locs1 : List Loc), post r u → bs_P g (wr ++ w1 u) H1 → va_D A (wr ++ w1 u) → va_S A s.heap H1 locs1 → W p l e R s m args below meth c H1 locs1 0 0 Q (F0 m (pc + 3) ls (.int r :: rest))) :
    W p l e R s m args below meth c H locs 0 0 Q (F0 m pc ls st0) :=
  bs_ci (va_runV hF.1 hM cw ⟨(bs_pre hF hS hP hD isC hnC hC (.ref b :: As)).1, hrecv, (bs_pre hF hS hP hD isC hnC hC (.ref b :: As)).2⟩ rfl hn hsize hst (lv_room hroom) hdg ⟨Nat.zero_le _, Nat.zero_le _⟩) hF hS hP hD isC isR hC hR hnR hdis kk
/-- invokevirtual, a reference back, nothing written -/
theorem cv_r {post : Nat → Prop} {q : vw_C} {fs : List Value} (hF : bs_F p m c cc nL s args Ts own g A) (hM : Met l y wsY rm (bs_Pc g (.ref b :: As) wc H.size) (va_Qr post (fun (u : Nat) a t => a = u ∧ bs_E g wc H.size (fun (_ : Nat) => wc) u t) (va_A wc H.size)) 0 0 (va_A wc H.size))
    (cw : CallW R s args own q.1 index y bytes maxL ret wsY rm 0 0 n) (hn : As.length = n) (hS : va_S A s.heap H locs) (hP : bs_P g ws H) (hD : va_D A ws) (qk ci : Nat) (hc : vwCl[ci]? = some q) (he : ws[qk]? = some (b, .inr (ci, fs))) (isC isR : List Nat) (hC : isC.map (fun i => ws[i]?) = wc.map some) (hR : isR.map (fun i => ws[i]?) = wr.map some) (hnC : va_nd isC = true) (hnR : va_nd isR = true) (hdis : ∀ i ∈ isR, i ∉ isC)
    (hsize : ls.size = nL) (hst : st0 = As.reverse ++ .ref b :: rest) (hroom : (rest.map fun v => v.category).sum ≤ 8) (hdg : decode cc pc = .ok (.invokevirtual index, 3))
    (kk : ∀ (r : Nat) (H1 : Heap) (locs1 : List Loc), post r → bs_P g (wr ++ wc) H1 → va_D A (wr ++ wc) → va_S A s.heap H1 locs1 → W p l e R s m args below meth c H1 locs1 0 0 Q (F0 m (pc + 3) ls (.ref r :: rest))) :
    W p l e R s m args below meth c H locs 0 0 Q (F0 m pc ls st0) := by
  have hFr := va_free hD hS hF.2.2.2 isC hC
  refine va_callr (va_runV hF.1 hM cw ⟨(bs_pre hF hS hP hD isC hnC hC (.ref b :: As)).1, va_recv hF.2.1 hP hc he, (bs_pre hF hS hP hD isC hnC hC (.ref b :: As)).2⟩ rfl hn hsize hst (lv_room hroom) hdg ⟨Nat.zero_le _, Nat.zero_le _⟩) hS (fun q _ h => hFr q h) hFr (fun u ra t H1 locs1 ht hvm hq hB hz hk hS1 => ?_)
  obtain ⟨hra, hP1, hD1⟩ := hB
  subst hra
  rw [ht] at hP1
  obtain ⟨hP2, hD2⟩ := va_join hP hD isC isR hC hR hnR hdis hk hFr hP1 hD1
  exact kk ra H1 locs1 hq hP2 hD2 hS1
end Calls
