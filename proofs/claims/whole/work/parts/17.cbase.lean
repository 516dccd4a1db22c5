/-! constructors: what they make comes with the world -/
abbrev QC (D : va_G) (w' : (Nat → Nat) → va_W) (A : Nat → Prop) := va_Qv (S := Nat → Nat) (fun _ => True) (fun u t => va_P D vwCl (w' u) t.heap ∧ va_D A (w' u)) A
def KC (l : Launch) (D : va_G) (cI cZ : ClassId) (y : MethodName) (wsy : List Cond) (rm : Room) (av : List Value) (w : va_W) (mc ms : Nat) (w' : (Nat → Nat) → va_W) : Prop := ∀ sz : Nat, Met l y wsy rm (va_Pc av (PreW D cI cZ w sz)) (QC D w' (va_A w sz)) mc ms (va_A w sz)
def nl (l : List Nat) (k : Nat) : Nat := l.getD k 0
theorem KC.of {l : Launch} {D : va_G} {cI cZ : ClassId} {y : MethodName} {wsy wst : List Cond} {rm : Room} {av : List Value} {w : va_W} {mc ms : Nat} {w' : (Nat → Nat) → va_W} (cc : ByteArray) (maxL : Nat) (hy : plainName y.cls = true) (hw : wsy = Cond.code y cc maxL none :: wst) (hav : (lg_sl av).length ≤ maxL)
    (body : ∀ p e s m below meth c A ls ar Q, Q = MQ below (QC D w' A) ar s mc ms A → meth.name = y.name → Body0 p s m meth c D cI cZ y wsy av w ar cc maxL none A ls → W p l e rm s m ar below meth c s.heap [] 0 0 Q (F0 m 0 ls [])) : KC l D cI cZ y wsy rm av w mc ms w' := by
  intro sz
  refine Met.ofW (cc := cc) (maxL := maxL) (ret := none) hy hw ?_
  intro p e s m args below meth c s₁ B hml hv
  obtain ⟨rfl, hsz, hP, hK, hN, hD0⟩ := hv
  subst hsz
  rw [lg_entry_eq]
  exact body p e s m below meth c _ _ _ _ rfl (name_of_methodNamed B.named B.method).1 ⟨B.exec, B.bytes, B.returns, hml, atoms_spec (ws := wsy) B.pre, findClass_of_methodNamed B.named, B.notSynchronized, hK, hN, hP, hD0.self, fun q h => Or.inr h, va_S.rf, lv_entry av hav⟩
section Ctors
variable {p : Program} {l : Launch} {e : Env} {R : Room} {s : State} {m : MethodId} {args : Array Value} {below : List Frame} {meth : Method} {c : Code} {H : Heap} {locs : List Loc} {cells slots : Nat} {Q : State → Prop}
variable {D : va_G} {cI cZ : ClassId} {w' : (Nat → Nat) → va_W} {A : Nat → Prop} {cc : ByteArray} {pc : Nat} {ls : Array Slot} {wsy : List Cond} {rm : Room} {y : MethodName} {bytes : ByteArray} {maxL nL n index mc ms : Nat} {own : String} {b : Addr} {As rest st0 : List Value} {ws wc wr : va_W} {H0 : Heap} {Ts : List Cond}
theorem retC (u : Nat → Nat) (hx : p.tables.exec = Jvm.exec) (hb : c.code = cc) (hr : meth.sig.returnType = none) (hlk : meth.locks = false) (hP : va_P D vwCl (w' u) H) (hD : va_D A (w' u)) (hS : va_S A s.heap H locs) (hdg : decode cc pc = .ok (.return_, 1)) :
    W p l e R s m args below meth c H locs mc ms (MQ below (QC D w' A) args s mc ms A) (F0 m pc ls []) :=
  W.vret hx hb hr (fun t ht hW => ⟨⟨u, rfl, trivial, (show va_P D vwCl (w' u) t.heap ∧ va_D A (w' u) from ⟨by rw [ht]; exact hP, hD⟩)⟩, hS.F ht⟩) hS.2.2 hdg hlk
theorem callC (S : CallFix p m c cc nL s args Ts own) (hM : KC l D cI cZ y wsy rm (.ref b :: As) wc mc ms w') (cw : CallB R s args own index y bytes maxL none wsy rm mc ms n ∧ y.name = "<init>" ∧ (Cond.instanceMethod y).before args s = true) (hK : va_K D vwCl (TY cI cZ) s) (hN : NW s) (hP : va_P D vwCl ws H) (hD : va_D A ws) (hS : va_S A H0 H locs) (hA : ∀ q, H0.size ≤ q → A q) (isC isR : List Nat) (wr : va_W) (hC : isC.map (fun i => ws[i]?) = wc.map some) (hR : isR.map (fun i => ws[i]?) = wr.map some) (hnd : va_nd isC = true) (hnr : va_nd isR = true) (hdis : ∀ i ∈ isR, i ∉ isC) (hn : As.length = n) (hsize : ls.size = nL) (hst : st0 = As.reverse ++ .ref b :: rest) (hW : (rest.map fun v => v.category).sum ≤ 8) (hdg : decode cc pc = .ok (.invokespecial index, 3)) (hf : cells + mc ≤ R.cells ∧ slots + ms ≤ R.slots)
    (kk : ∀ (u : Nat → Nat) (H1 : Heap) (locs1 : List Loc), va_P D vwCl (wr ++ w' u) H1 → va_D A (wr ++ w' u) → va_S A H0 H1 locs1 → W p l e R s m args below meth c H1 locs1 (cells + mc) (slots + ms) Q (F0 m (pc + 3) ls rest)) : W p l e R s m args below meth c H locs cells slots Q (F0 m pc ls st0) := by
  have hFc := va_free (wc := wc) hD hS hA isC hC
  refine va_callv (va_runI (As := As) (rest := rest) S (hM H.size) cw (preS hK hN hP hD isC hC hnd) rfl hn hsize hst (lv_room hW) hdg hf) hS (fun q _ h => hFc q h) hFc (fun u t H1 locs1 ht hvm hw hB hz1 hk1 hS1 => ?_)
  have hB : va_P D vwCl (w' u) t.heap ∧ va_D (va_A wc H.size) (w' u) := hB
  rw [ht] at hB
  obtain ⟨g1, g2⟩ := va_join hP hD isC isR hC hR hnr hdis hk1 hFc hB.1 hB.2
  exact kk u H1 locs1 g1 g2 hS1
theorem callCN {host : String} (S : CallFix p m c cc nL s args Ts own) (hM : KC l D cI cZ y wsy rm (.ref b :: As) wc mc ms w') (cw : va_CN R s args own index y host bytes maxL none wsy rm mc ms n ∧ y.name = "<init>" ∧ (Cond.instanceMethod y).before args s = true) (hK : va_K D vwCl (TY cI cZ) s) (hN : NW s) (hP : va_P D vwCl ws H) (hD : va_D A ws) (hS : va_S A H0 H locs) (hA : ∀ q, H0.size ≤ q → A q) (isC isR : List Nat) (wr : va_W) (hC : isC.map (fun i => ws[i]?) = wc.map some) (hR : isR.map (fun i => ws[i]?) = wr.map some) (hnd : va_nd isC = true) (hnr : va_nd isR = true) (hdis : ∀ i ∈ isR, i ∉ isC) (hn : As.length = n) (hsize : ls.size = nL) (hst : st0 = As.reverse ++ .ref b :: rest) (hW : (rest.map fun v => v.category).sum ≤ 8) (hdg : decode cc pc = .ok (.invokespecial index, 3)) (hf : cells + mc ≤ R.cells ∧ slots + ms ≤ R.slots)
    (kk : ∀ (u : Nat → Nat) (H1 : Heap) (locs1 : List Loc), va_P D vwCl (wr ++ w' u) H1 → va_D A (wr ++ w' u) → va_S A H0 H1 locs1 → W p l e R s m args below meth c H1 locs1 (cells + mc) (slots + ms) Q (F0 m (pc + 3) ls rest)) : W p l e R s m args below meth c H locs cells slots Q (F0 m pc ls st0) := by
  have hFc := va_free (wc := wc) hD hS hA isC hC
  refine va_callv (va_runIN (As := As) (rest := rest) S (hM H.size) cw (preS hK hN hP hD isC hC hnd) rfl hn hsize hst (lv_room hW) hdg hf) hS (fun q _ h => hFc q h) hFc (fun u t H1 locs1 ht hvm hw hB hz1 hk1 hS1 => ?_)
  have hB : va_P D vwCl (w' u) t.heap ∧ va_D (va_A wc H.size) (w' u) := hB
  rw [ht] at hB
  obtain ⟨g1, g2⟩ := va_join hP hD isC isR hC hR hnr hdis hk1 hFc hB.1 hB.2
  exact kk u H1 locs1 g1 g2 hS1
theorem va_newI (hexec : p.tables.exec = Jvm.exec) (hb : c.code = cc) (harr : (Cond.arrayClass .int).before args s = true) (hK : va_K D vwCl (TY cI cZ) s) (hP : va_P D vwCl ws H) (hD : va_D A ws) (hS : va_S A H0 H locs) (hA : ∀ q, H0.size ≤ q → A q) {n : Int32} {N' : Nat} (hn : ¬ n < 0) (hN : n.toNatClampNeg = N') (hbytes : N' ≤ 100) (hcells : cells + 1 ≤ R.cells) (hslots : slots + N' ≤ R.slots) (hdg : decode cc pc = .ok (.newarray .int, 2))
    (kk : ∀ (q : Nat) (H1 : Heap), va_P D vwCl (ws ++ [(q, .inl (cI, N', .inl (fun _ => 0)))]) H1 → va_D A (ws ++ [(q, .inl (cI, N', .inl (fun _ => 0)))]) → va_S A H0 H1 locs → W p l e R s m args below meth c H1 locs (cells + 1) (slots + N') Q (F0 m (pc + 2) ls (.ref q :: rest))) : W p l e R s m args below meth c H locs cells slots Q (F0 m pc ls (.int n :: rest)) := by
  refine va_newa (atype := .int) (ty := .int) (a0 := (N', .inl (fun _ => 0))) hexec hb harr rfl hK hP hD hS hA (fun _ => rfl) hn hN (by show N' * 4 ≤ 536870912; omega) hcells hslots hdg (fun q cA H1 hK1 hP1 hD1 hS1 => ?_)
  have e1 : s.vm.findClass ("[" ++ FieldType.int.toString) = some cA := (hK1.2 2 (cA, .int) rfl).2
  have e2 : s.vm.findClass ("[" ++ FieldType.int.toString) = some cI := (hK.2 0 (cI, .int) rfl).2
  rw [e1] at e2
  cases e2
  exact kk q H1 hP1 hD1 hS1
theorem va_newZ (hexec : p.tables.exec = Jvm.exec) (hb : c.code = cc) (harr : (Cond.arrayClass .boolean).before args s = true) (hK : va_K D vwCl (TY cI cZ) s) (hP : va_P D vwCl ws H) (hD : va_D A ws) (hS : va_S A H0 H locs) (hA : ∀ q, H0.size ≤ q → A q) {n : Int32} {N' : Nat} (hn : ¬ n < 0) (hN : n.toNatClampNeg = N') (hbytes : N' ≤ 100) (hcells : cells + 1 ≤ R.cells) (hslots : slots + N' ≤ R.slots) (hdg : decode cc pc = .ok (.newarray .boolean, 2))
    (kk : ∀ (q : Nat) (H1 : Heap), va_P D vwCl (ws ++ [(q, .inl (cZ, N', .inl (fun _ => 0)))]) H1 → va_D A (ws ++ [(q, .inl (cZ, N', .inl (fun _ => 0)))]) → va_S A H0 H1 locs → W p l e R s m args below meth c H1 locs (cells + 1) (slots + N') Q (F0 m (pc + 2) ls (.ref q :: rest))) : W p l e R s m args below meth c H locs cells slots Q (F0 m pc ls (.int n :: rest)) := by
  refine va_newa (atype := .boolean) (ty := .boolean) (a0 := (N', .inl (fun _ => 0))) hexec hb harr rfl hK hP hD hS hA (fun _ => rfl) hn hN (by show N' * 1 ≤ 536870912; omega) hcells hslots hdg (fun q cA H1 hK1 hP1 hD1 hS1 => ?_)
  have e1 : s.vm.findClass ("[" ++ FieldType.boolean.toString) = some cA := (hK1.2 2 (cA, .boolean) rfl).2
  have e2 : s.vm.findClass ("[" ++ FieldType.boolean.toString) = some cZ := (hK.2 1 (cZ, .boolean) rfl).2
  rw [e1] at e2
  cases e2
  exact kk q H1 hP1 hD1 hS1
end Ctors
