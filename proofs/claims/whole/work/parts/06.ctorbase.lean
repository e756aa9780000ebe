/-! constructors: entry, calls, new arrays whose class is the common one -/
theorem ent_c {l : Launch} {y : MethodName} {ws ws' : List Cond} {rm : Room} {av : List Value} {wc : va_W} {S : Type} {post : S → Prop} {w1 : S → va_W} {sz mc ms : Nat} {g : bs_G} {cc : ByteArray} {maxL : Nat}
    (hy : plainName y.cls = true) (hyn : y.name = "<init>") (hw : ws = Cond.code y cc maxL none :: ws') (hav : (lg_sl av).length ≤ maxL)
    (body : ∀ (p : Program) (e : Env) (s : State) (m : MethodId) (below : List Frame) (meth : Method) (c : Code) (Q : State → Prop) (A : Nat → Prop),
      bs_F p m c cc maxL s av.toArray ws y.cls g A → meth.name = "<init>" → s.heap.size = sz → bs_P g wc s.heap → va_D A wc → va_S A s.heap s.heap [] →
      (∀ (H : Heap) (locs : List Loc) (pc : Nat) (ls : Array Slot) (u : S), decode cc pc = .ok (.return_, 1) → post u → bs_P g (w1 u) H → va_D A (w1 u) → va_S A s.heap H locs → W p l e rm s m av.toArray below meth c H locs mc ms Q (F0 m pc ls [])) →
      ∀ ls, lv_has ls maxL (lv_args 0 av) → W p l e rm s m av.toArray below meth c s.heap [] 0 0 Q (F0 m 0 ls [])) :
    Met l y ws rm (bs_Pc g av wc sz) (bs_Qv g wc sz post w1) mc ms (va_A wc sz) := by
  refine Met.ofW (cc := cc) (maxL := maxL) (ret := none) hy hw ?_
  intro p e s m args below meth c s₁ B hml hv
  obtain ⟨rfl, hsz, hP, hK, hD0, hG, hRf⟩ := hv
  have hx := B.exec
  have hb := B.bytes
  have hr := B.returns
  have hts := atoms_spec (ws := ws) B.pre
  have hown : s.vm.findClass y.cls = some m.cls := findClass_of_methodNamed B.named
  have hlocks := B.notSynchronized
  have hin : meth.name = "<init>" := (name_of_methodNamed B.named B.method).1.trans hyn
  subst hsz
  have hl := lv_entry av (n := maxL) hav
  rw [lg_entry_eq]
  refine body p e s m below meth c _ _ ⟨⟨hx, hb, hml, hown, hts⟩, hK, ⟨hG, hRf⟩, fun q h => Or.inr h⟩ hin rfl hP hD0.self va_S.rf ?_ _ hl
  intro H locs pc ls u hd hq hP1 hD1 hS
  exact W.vret hx hb hr (fun t ht hW => ⟨⟨u, rfl, hq, by rw [ht]; exact hP1, hD1⟩, hS.F ht⟩) hS.2.2 hd
section CtorCalls
variable {p : Program} {l : Launch} {e : Env} {R : Room} {s : State} {m : MethodId} {args : Array Value} {below : List Frame} {meth : Method} {c : Code} {H : Heap} {locs : List Loc} {Q : State → Prop} {pc cells slots : Nat} {ls : Array Slot} {rest st0 As : List Value} {A : Nat → Prop} {g : bs_G}
  {cc bytes : ByteArray} {nL maxL index n mc ms : Nat} {Ts wsY : List Cond} {own : String} {y : MethodName} {rm : Room} {ws wc wr : va_W} {b : Addr}
/-- invokespecial <init> -/
theorem cI_v {S : Type} {post : S → Prop} {w1 : S → va_W} (hF : bs_F p m c cc nL s args Ts own g A) (hM : Met l y wsY rm (bs_Pc g (.ref b :: As) wc H.size) (bs_Qv g wc H.size post w1) mc ms (va_A wc H.size))
    (cw : CallB R s args own index y bytes maxL none wsY rm mc ms n ∧ y.name = "<init>" ∧ (Cond.instanceMethod y).before args s = true) (hn : As.length = n) (hS : va_S A s.heap H locs) (hP : bs_P g ws H) (hD : va_D A ws) (isC isR : List Nat) (hC : isC.map (fun i => ws[i]?) = wc.map some) (hR : isR.map (fun i => ws[i]?) = wr.map some) (hnC : va_nd isC = true) (hnR : va_nd isR = true) (hdis : ∀ i ∈ isR, i ∉ isC)
    (hsize : ls.size = nL) (hst : st0 = As.reverse ++ .ref b :: rest) (hroom : (rest.map fun v => v.category).sum ≤ 8) (hdg : decode cc pc = .ok (.invokespecial index, 3)) (hcap : cells + mc ≤ R.cells ∧ slots + ms ≤ R.slots)
    (kk : ∀ (u : S) (H1 : Heap) (locs1 : List Loc), post u → bs_P g (wr ++ w1 u) H1 → va_D A (wr ++ w1 u) → va_S A s.heap H1 locs1 → W p l e R s m args below meth c H1 locs1 (cells + mc) (slots + ms) Q (F0 m (pc + 3) ls rest)) :
    W p l e R s m args below meth c H locs cells slots Q (F0 m pc ls st0) := by
  have hFr := va_free hD hS hF.2.2.2 isC hC
  refine va_callv (va_runI hF.1 hM cw (bs_pre hF hS hP hD isC hnC hC (.ref b :: As)) rfl hn hsize hst (lv_room hroom) hdg hcap) hS (fun q _ h => hFr q h) hFr (fun u t H1 locs1 ht hvm hq hB hz hk hS1 => ?_)
  obtain ⟨hP1, hD1⟩ := hB
  rw [ht] at hP1
  obtain ⟨hP2, hD2⟩ := va_join hP hD isC isR hC hR hnR hdis hk hFr hP1 hD1
  exact kk u H1 locs1 hq hP2 hD2 hS1
/-- invokespecial of a nest mate's private <init> -/
theorem cN_v {S : Type} {post : S → Prop} {w1 : S → va_W} {host : String} (hF : bs_F p m c cc nL s args Ts own g A) (hM : Met l y wsY rm (bs_Pc g (.ref b :: As) wc H.size) (bs_Qv g wc H.size post w1) mc ms (va_A wc H.size))
    (cw : va_CN R s args own index y host bytes maxL none wsY rm mc ms n ∧ y.name = "<init>" ∧ (Cond.instanceMethod y).before args s = true) (hn : As.length = n) (hS : va_S A s.heap H locs) (hP : bs_P g ws H) (hD : va_D A ws) (isC isR : List Nat) (hC : isC.map (fun i => ws[i]?) = wc.map some) (hR : isR.map (fun i => ws[i]?) = wr.map some) (hnC : va_nd isC = true) (hnR : va_nd isR = true) (hdis : ∀ i ∈ isR, i ∉ isC)
    (hsize : ls.size = nL) (hst : st0 = As.reverse ++ .ref b :: rest) (hroom : (rest.map fun v => v.category).sum ≤ 8) (hdg : decode cc pc = .ok (.invokespecial index, 3)) (hcap : cells + mc ≤ R.cells ∧ slots + ms ≤ R.slots)
    (kk : ∀ (u : S) (H1 : Heap) (locs1 : List Loc), post u → bs_P g (wr ++ w1 u) H1 → va_D A (wr ++ w1 u) → va_S A s.heap H1 locs1 → W p l e R s m args below meth c H1 locs1 (cells + mc) (slots + ms) Q (F0 m (pc + 3) ls rest)) :
    W p l e R s m args below meth c H locs cells slots Q (F0 m pc ls st0) := by
  have hFr := va_free hD hS hF.2.2.2 isC hC
  refine va_callv (va_runIN hF.1 hM cw (bs_pre hF hS hP hD isC hnC hC (.ref b :: As)) rfl hn hsize hst (lv_room hroom) hdg hcap) hS (fun q _ h => hFr q h) hFr (fun u t H1 locs1 ht hvm hq hB hz hk hS1 => ?_)
  obtain ⟨hP1, hD1⟩ := hB
  rw [ht] at hP1
  obtain ⟨hP2, hD2⟩ := va_join hP hD isC isR hC hR hnR hdis hk hFr hP1 hD1
  exact kk u H1 locs1 hq hP2 hD2 hS1
theorem nw_I (hF : bs_F p m c cc nL s args Ts own g A) (harr : (Cond.arrayClass .int).before args s = true) (hP : bs_P g ws H) (hD : va_D A ws) (hS : va_S A s.heap H locs)
    {k : Int32} {N : Nat} (hn : ¬ k < 0) (hN : k.toNatClampNeg = N) (hbytes : N * componentBytes .int ≤ 536870912) (hcells : cells + 1 ≤ R.cells) (hslots : slots + N ≤ R.slots) (hdg : decode cc pc = .ok (.newarray .int, 2))
    (kk : ∀ (q : Nat) (H1 : Heap), bs_P g (ws ++ [(q, .inl (bs_I g, N, .inl (fun _ => 0)))]) H1 → va_D A (ws ++ [(q, .inl (bs_I g, N, .inl (fun _ => 0)))]) → va_S A s.heap H1 locs → W p l e R s m args below meth c H1 locs (cells + 1) (slots + N) Q (F0 m (pc + 2) ls (.ref q :: rest))) :
    W p l e R s m args below meth c H locs cells slots Q (F0 m pc ls (.int k :: rest)) := by
  obtain ⟨⟨hx, hb, hml, hown, hts⟩, hK, hG, hA⟩ := hF
  refine va_newa (atype := .int) (ty := .int) (a0 := (N, .inl (fun _ => 0))) hx hb harr rfl hK hP hD hS hA (fun cA => rfl) hn hN hbytes hcells hslots hdg (fun q cA H1 hK1 hP1 hD1 hS1 => ?_)
  have e1 : cA = bs_I g := Option.some.inj ((hK1.2 4 (cA, .int) rfl).2.symm.trans (hK.2 0 (bs_I g, .int) rfl).2)
  subst e1
  exact kk q H1 hP1 hD1 hS1
theorem nw_B (hF : bs_F p m c cc nL s args Ts own g A) (harr : (Cond.arrayClass .byte).before args s = true) (hP : bs_P g ws H) (hD : va_D A ws) (hS : va_S A s.heap H locs)
    {k : Int32} {N : Nat} (hn : ¬ k < 0) (hN : k.toNatClampNeg = N) (hbytes : N * componentBytes .byte ≤ 536870912) (hcells : cells + 1 ≤ R.cells) (hslots : slots + N ≤ R.slots) (hdg : decode cc pc = .ok (.newarray .byte, 2))
    (kk : ∀ (q : Nat) (H1 : Heap), bs_P g (ws ++ [(q, .inl (bs_B g, N, .inl (fun _ => 0)))]) H1 → va_D A (ws ++ [(q, .inl (bs_B g, N, .inl (fun _ => 0)))]) → va_S A s.heap H1 locs → W p l e R s m args below meth c H1 locs (cells + 1) (slots + N) Q (F0 m (pc + 2) ls (.ref q :: rest))) :
    W p l e R s m args below meth c H locs cells slots Q (F0 m pc ls (.int k :: rest)) := by
  obtain ⟨⟨hx, hb, hml, hown, hts⟩, hK, hG, hA⟩ := hF
  refine va_newa (atype := .byte) (ty := .byte) (a0 := (N, .inl (fun _ => 0))) hx hb harr rfl hK hP hD hS hA (fun cA => rfl) hn hN hbytes hcells hslots hdg (fun q cA H1 hK1 hP1 hD1 hS1 => ?_)
  have e1 : cA = bs_B g := Option.some.inj ((hK1.2 4 (cA, .byte) rfl).2.symm.trans (hK.2 1 (bs_B g, .byte) rfl).2)
  subst e1
  exact kk q H1 hP1 hD1 hS1
theorem nw_Z (hF : bs_F p m c cc nL s args Ts own g A) (harr : (Cond.arrayClass .boolean).before args s = true) (hP : bs_P g ws H) (hD : va_D A ws) (hS : va_S A s.heap H locs)
    {k : Int32} {N : Nat} (hn : ¬ k < 0) (hN : k.toNatClampNeg = N) (hbytes : N * componentBytes .boolean ≤ 536870912) (hcells : cells + 1 ≤ R.cells) (hslots : slots + N ≤ R.slots) (hdg : decode cc pc = .ok (.newarray .boolean, 2))
    (kk : ∀ (q : Nat) (H1 : Heap), bs_P g (ws ++ [(q, .inl (bs_Z g, N, .inl (fun _ => 0)))]) H1 → va_D A (ws ++ [(q, .inl (bs_Z g, N, .inl (fun _ => 0)))]) → va_S A s.heap H1 locs → W p l e R s m args below meth c H1 locs (cells + 1) (slots + N) Q (F0 m (pc + 2) ls (.ref q :: rest))) :
    W p l e R s m args below meth c H locs cells slots Q (F0 m pc ls (.int k :: rest)) := by
  obtain ⟨⟨hx, hb, hml, hown, hts⟩, hK, hG, hA⟩ := hF
  refine va_newa (atype := .boolean) (ty := .boolean) (a0 := (N, .inl (fun _ => 0))) hx hb harr rfl hK hP hD hS hA (fun cA => rfl) hn hN hbytes hcells hslots hdg (fun q cA H1 hK1 hP1 hD1 hS1 => ?_)
  have e1 : cA = bs_Z g := Option.some.inj ((hK1.2 4 (cA, .boolean) rfl).2.symm.trans (hK.2 2 (bs_Z g, .boolean) rfl).2)
  subst e1
  exact kk q H1 hP1 hD1 hS1
theorem nw_S {idx : Nat} (hF : bs_F p m c cc nL s args Ts own g A) (hown : s.vm.findClass own = some m.cls) (hclink : (Cond.classLink own idx "LionSigns$Sheet").before args s = true) (hP : bs_P g ws H) (hD : va_D A ws) (hS : va_S A s.heap H locs)
    {k : Int32} {N : Nat} (hn : ¬ k < 0) (hN : k.toNatClampNeg = N) (hbytes : N * 4 ≤ 536870912) (hcells : cells + 1 ≤ R.cells) (hslots : slots + N ≤ R.slots) (hdg : decode cc pc = .ok (.anewarray idx, 3))
    (kk : ∀ (q : Nat) (H1 : Heap), bs_P g (ws ++ [(q, .inl (bs_S g, N, .inr (.inr (.inr (.inr (fun _ => none))))))]) H1 → va_D A (ws ++ [(q, .inl (bs_S g, N, .inr (.inr (.inr (.inr (fun _ => none))))))]) → va_S A s.heap H1 locs → W p l e R s m args below meth c H1 locs (cells + 1) (slots + N) Q (F0 m (pc + 3) ls (.ref q :: rest))) :
    W p l e R s m args below meth c H locs cells slots Q (F0 m pc ls (.int k :: rest)) := by
  obtain ⟨⟨hx, hb, hml, -, hts⟩, hK, hG, hA⟩ := hF
  refine va_newq hx hb hown hclink hG.2.2.2.2.2.2.2.2.2.2 hK hP hD hS hA hn hN hbytes hcells hslots hdg (fun q cA H1 hK1 hP1 hD1 hS1 => ?_)
  obtain ⟨_, _, _, _, _, h4⟩ := (hK1.2 4 (cA, .object "LionSigns$Sheet") rfl).2
  obtain ⟨_, _, _, _, _, h5⟩ := (hK.2 3 (bs_S g, .object "LionSigns$Sheet") rfl).2
  have e1 : cA = bs_S g := Option.some.inj (h4.symm.trans h5)
  subst e1
  exact kk q H1 hP1 hD1 hS1
end CtorCalls
