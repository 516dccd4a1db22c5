/-! own words, pure: bars, due -/
theorem itx_find {ρ : Type} {f : Nat → Unit → Unit ⊕ ρ} {x : ρ} {P : Nat → Prop} (N : Nat) (h1 : ∀ i, i < N → P i → f i () = .inr x) (h2 : ∀ i, i < N → ¬ P i → f i () = .inl ()) : ∀ k i : Nat, i + k ≤ N → (((∃ j, i ≤ j ∧ j < i + k ∧ P j) → itx f k i () = .inr x) ∧ ((¬ ∃ j, i ≤ j ∧ j < i + k ∧ P j) → itx f k i () = .inl ()))
  | 0, i, _ => ⟨fun ⟨j, a, b, _⟩ => by omega, fun _ => itx_z⟩
  | k + 1, i, hk => by
    have ih := itx_find N h1 h2 k (i + 1) (by omega)
    by_cases q : P i
    · exact ⟨fun _ => itx_out (h1 i (by omega) q), fun w => absurd ⟨i, Nat.le_refl _, by omega, q⟩ w⟩
    · rw [itx_go (h2 i (by omega) q)]
      constructor
      · rintro ⟨j, a, b, c⟩
        refine ih.1 ⟨j, ?_, by omega, c⟩
        by_cases w : j = i
        · subst w; exact absurd c q
        · omega
      · intro w
        exact ih.2 (fun ⟨j, a, b, c⟩ => w ⟨j, by omega, by omega, c⟩)
def MX (P : Nat → Prop) (w : Nat → Nat) (m : Nat) : Prop := (∀ j, P j → w j ≤ m) ∧ (m = 0 ∨ ∃ j, P j ∧ w j = m)
theorem MX.uniq {P Q : Nat → Prop} {w u : Nat → Nat} {m m' : Nat} (h : MX P w m) (h' : MX Q u m') (a : ∀ j, P j → ∃ i, Q i ∧ u i = w j) (b : ∀ i, Q i → ∃ j, P j ∧ w j = u i) : m = m' := by
  have l1 : m ≤ m' := by
    rcases h.2 with q | ⟨j, hj, q⟩
    · omega
    · obtain ⟨i, hi, e⟩ := a j hj
      have := h'.1 i hi
      omega
  have l2 : m' ≤ m := by
    rcases h'.2 with q | ⟨j, hj, q⟩
    · omega
    · obtain ⟨i, hi, e⟩ := b j hj
      have := h.1 i hi
      omega
  omega
theorem it_max {f : Nat → Int32 → Int32} {P : Nat → Prop} {w : Nat → Nat} (N : Nat) (hw : ∀ i, w i ≤ 45) (h1 : ∀ i z, i < N → P i → f i z = if z < nI (w i) then nI (w i) else z) (h2 : ∀ i z, i < N → ¬ P i → f i z = z) : ∃ m : Nat, m ≤ 45 ∧ it f N 0 0 = nI m ∧ MX (fun j => j < N ∧ P j) w m := by
  have := it_invN (f := f) N (fun i z => ∃ m : Nat, m ≤ 45 ∧ z = nI m ∧ MX (fun j => j < i ∧ P j) w m) (fun i z hi hz => by
    obtain ⟨m, hm, rfl, ha, hb'⟩ := hz
    by_cases q : P i
    · rw [h1 i _ hi q]
      have hwi := hw i
      by_cases l : m < w i
      · rw [if_pos (nI_lt l (by omega))]
        refine ⟨w i, hwi, rfl, fun j hj => ?_, Or.inr ⟨i, ⟨by omega, q⟩, rfl⟩⟩
        by_cases e : j = i
        · subst e; omega
        · have := ha j ⟨by have := hj.1; omega, hj.2⟩
          omega
      · rw [if_neg (nI_nlt (by omega) (by omega))]
        refine ⟨m, hm, rfl, fun j hj => ?_, hb'.elim Or.inl (fun ⟨j, hj, e⟩ => Or.inr ⟨j, ⟨by have := hj.1; omega, hj.2⟩, e⟩)⟩
        by_cases e : j = i
        · subst e; omega
        · exact ha j ⟨by have := hj.1; omega, hj.2⟩
    · rw [h2 i _ hi q]
      refine ⟨m, hm, rfl, fun j hj => ?_, hb'.elim Or.inl (fun ⟨j, hj, e⟩ => Or.inr ⟨j, ⟨by have := hj.1; omega, hj.2⟩, e⟩)⟩
      by_cases e : j = i
      · subst e; exact absurd hj.2 q
      · exact ha j ⟨by have := hj.1; omega, hj.2⟩) N 0 0 (by omega) ⟨0, by decide, rfl, fun j hj => by have := hj.1; omega, Or.inl rfl⟩
  rwa [Nat.zero_add] at this
section Grant
variable {wc op mw : Int32} {pl fh sp va ce ne ow ro told owed : Nat → Int32}
/-- some lawful hanging of n or fewer grants all of s -/
def CG (mw : Int32) (told owed : Nat → Int32) (n : Nat) (s : Int32) : Prop := ∃ h, ok owed n h ∧ ∀ i, i < 32 → hb s i = true → hb (nI (Gs mw told h)) i = true
theorem canGrant_ok (hL : RLs wc op pl fh sp va ce ne ow ro mw told owed) {im : Int32} {lw gr be mo : Nat → Int32} (h : RS im lw gr be mo mw told owed) {n : Nat} (hn : n < 6) (s : Int32) : ∃ (r : Bool) (a : Int32) (b c d e : Nat → Int32), v_X5_canGrant (nI n) s im lw gr be mo wc ro ce ne va = (r, a, b, c, d, e) ∧ SV b c d e mw told owed ∧ (r = true ↔ CG mw told owed n s) := by
  obtain ⟨a, b, c, d, e, ha⟩ := ex5 (v_X5_make im lw gr be mo wc ro ce ne va)
  have hs := make_RS hL h ha
  have st : ∀ i, i < 32 → v_X5_canGrant_L6 (nI n) s a b c d e i () = if bI (hb (c n) i) = 0 then .inl () else if (s &&& (nI i ^^^ (-1))) = 0 then .inr (true, a, b, c, d, e) else .inl () := fun i hi => by
    unfold v_X5_canGrant_L6
    rw [bnd_eq (at_nI hn (by decide)).symm, bnd_eq (has7 (c n) hi).symm]
  have F := itx_find (f := v_X5_canGrant_L6 (nI n) s a b c d e) (x := (true, a, b, c, d, e)) (P := fun i => hb (c n) i = true ∧ (s &&& (nI i ^^^ (-1))) = 0) 32 (fun i hi q => by rw [st i hi, q.1, ifT, if_pos q.2]) (fun i hi q => by
    rw [st i hi]
    cases w : hb (c n) i with
    | false => rw [ifF]
    | true => rw [ifT, if_neg (fun z => q ⟨w, z⟩)]) 32 0 (by decide)
  have key : (∃ j, 0 ≤ j ∧ j < 0 + 32 ∧ hb (c n) j = true ∧ (s &&& (nI j ^^^ (-1))) = 0) ↔ CG mw told owed n s := by
    constructor
    · rintro ⟨j, _, hj, q1, q2⟩
      obtain ⟨x, hx, e2⟩ := ((hs n hn).2.1 j (by omega)).mp q1
      exact ⟨x, hx, by rw [e2]; exact and_not.mp q2⟩
    · rintro ⟨x, hx, q⟩
      have hg := (Gs_eq hL x).2
      exact ⟨Gs mw told x, Nat.zero_le _, by omega, ((hs n hn).2.1 _ hg).mpr ⟨x, hx, rfl⟩, and_not.mpr q⟩
  have f : v_X5_canGrant (nI n) s im lw gr be mo wc ro ce ne va = mch (itx (v_X5_canGrant_L6 (nI n) s a b c d e) 32 0 ()) (fun _ => (false, a, b, c, d, e)) := by
    unfold v_X5_canGrant
    rw [bnd5_eq ha]
  by_cases q : CG mw told owed n s
  · refine ⟨true, a, b, c, d, e, ?_, hs, ⟨fun _ => q, fun _ => rfl⟩⟩
    rw [f, F.1 (key.mpr q)]; rfl
  · refine ⟨false, a, b, c, d, e, ?_, hs, ⟨fun w => (by cases w), fun w => absurd w q⟩⟩
    rw [f, F.2 (fun w => q (key.mp w))]; rfl
theorem barred_ok (hL : RLs wc op pl fh sp va ce ne ow ro mw told owed) {im : Int32} {lw gr be mo : Nat → Int32} (h : RS im lw gr be mo mw told owed) {n : Nat} (hn : n < 6) (x y : Int32) : ∃ (r : Bool) (a : Int32) (b c d e : Nat → Int32), v_X7_areBarred x y (nI n) im lw gr be mo wc ro ce ne va = (r, a, b, c, d, e) ∧ SV b c d e mw told owed ∧ (r = true ↔ CG mw told owed n ((1 : Int32) <<< (x &&& 31)) ∧ CG mw told owed n ((1 : Int32) <<< (y &&& 31)) ∧ ¬ CG mw told owed n (((1 : Int32) <<< (x &&& 31)) ||| ((1 : Int32) <<< (y &&& 31)))) := by
  obtain ⟨r1, a, b, c, d, e, ha, hs, hr1⟩ := canGrant_ok hL h hn ((1 : Int32) <<< (x &&& 31))
  unfold v_X7_areBarred
  rw [bnd6_eq ha.symm]
  cases r1 with
  | false =>
    rw [ifF]
    refine ⟨false, a, b, c, d, e, rfl, hs, ⟨fun w => (by cases w), fun w => ?_⟩⟩
    have := hr1.mpr w.1
    cases this
  | true =>
    rw [ifT]
    obtain ⟨r2, a2, b2, c2, d2, e2, ha2, hs2, hr2⟩ := canGrant_ok hL (RS_of (im := a) hs) hn ((1 : Int32) <<< (y &&& 31))
    rw [bnd6_eq ha2.symm]
    cases r2 with
    | false =>
      rw [ifF]
      refine ⟨false, a2, b2, c2, d2, e2, rfl, hs2, ⟨fun w => (by cases w), fun w => ?_⟩⟩
      have := hr2.mpr w.2.1
      cases this
    | true =>
      rw [ifT]
      obtain ⟨r3, a3, b3, c3, d3, e3, ha3, hs3, hr3⟩ := canGrant_ok hL (RS_of (im := a2) hs2) hn (((1 : Int32) <<< (x &&& 31)) ||| ((1 : Int32) <<< (y &&& 31)))
      rw [bnd6_eq ha3.symm]
      cases r3 with
      | false =>
        rw [ifF]
        refine ⟨true, a3, b3, c3, d3, e3, rfl, hs3, ⟨fun _ => ⟨hr1.mp rfl, hr2.mp rfl, fun w => ?_⟩, fun _ => rfl⟩⟩
        have := hr3.mpr w
        cases this
      | true =>
        rw [ifT]
        exact ⟨false, a3, b3, c3, d3, e3, rfl, hs3, ⟨fun w => (by cases w), fun w => absurd (hr3.mp rfl) w.2.2⟩⟩
theorem CG_1 {n w : Nat} (hw : w < 32) : CG mw told owed n ((1 : Int32) <<< (nI w &&& 31)) ↔ ∃ h, ok owed n h ∧ hb (nI (Gs mw told h)) w = true := by
  constructor
  · rintro ⟨h, hh, q⟩
    exact ⟨h, hh, q w hw (by rw [hb_sh w hw w hw]; exact decide_eq_true rfl)⟩
  · rintro ⟨h, hh, q⟩
    refine ⟨h, hh, fun i hi e => ?_⟩
    rw [hb_sh w hw i hi, decide_eq_true_eq] at e
    subst e; exact q
theorem CG_2 {n w o : Nat} (hw : w < 32) (ho : o < 32) : CG mw told owed n (((1 : Int32) <<< (nI w &&& 31)) ||| ((1 : Int32) <<< (nI o &&& 31))) ↔ ∃ h, ok owed n h ∧ hb (nI (Gs mw told h)) w = true ∧ hb (nI (Gs mw told h)) o = true := by
  constructor
  · rintro ⟨h, hh, q⟩
    refine ⟨h, hh, q w hw ?_, q o ho ?_⟩
    · rw [hb_or, hb_sh w hw w hw, decide_eq_true rfl]; rfl
    · rw [hb_or, hb_sh o ho o ho, decide_eq_true rfl, Bool.or_true]
  · rintro ⟨h, hh, q1, q2⟩
    refine ⟨h, hh, fun i hi e => ?_⟩
    rw [hb_or, hb_sh w hw i hi, hb_sh o ho i hi, Bool.or_eq_true, decide_eq_true_eq, decide_eq_true_eq] at e
    rcases e with rfl | rfl
    · exact q1
    · exact q2
theorem ex_snoc {A B : Nat → Prop} {i : Nat} : (∃ h, (h < i + 1 ∧ A h) ∧ B h) ↔ (∃ h, (h < i ∧ A h) ∧ B h) ∨ (A i ∧ B i) := by
  constructor
  · rintro ⟨h, ⟨h1, h2⟩, h3⟩
    by_cases q : h = i
    · subst q; exact Or.inr ⟨h2, h3⟩
    · exact Or.inl ⟨h, ⟨by omega, h2⟩, h3⟩
  · rintro (⟨h, ⟨h1, h2⟩, h3⟩ | ⟨h2, h3⟩)
    · exact ⟨h, ⟨by omega, h2⟩, h3⟩
    · exact ⟨i, ⟨by omega, h2⟩, h3⟩
theorem ex_skip {A B : Nat → Prop} {i : Nat} (hA : ¬ A i) : (∃ h, (h < i + 1 ∧ A h) ∧ B h) ↔ (∃ h, (h < i ∧ A h) ∧ B h) := by
  rw [ex_snoc]
  exact ⟨fun q => q.elim id (fun w => absurd w.1 hA), Or.inl⟩
def BX (mw : Int32) (told owed : Nat → Int32) (n w i : Nat) (z1 z2 : Int32) : Prop := ∀ g, g < 32 → (hb z2 g = true ↔ ∃ h, (h < i ∧ (cn h ≤ n ∧ Lw owed h)) ∧ hb (nI (Gs mw told h)) g = true) ∧ (hb z1 g = true ↔ ∃ h, (h < i ∧ (cn h ≤ n ∧ Lw owed h)) ∧ (hb (nI (Gs mw told h)) w = true ∧ hb (nI (Gs mw told h)) g = true))
theorem bars8_f (hL : RLs wc op pl fh sp va ce ne ow ro mw told owed) (n w i : Nat) (hw : w < 32) (z1 z2 : Int32) : v_X8_bars_L33 (nI w) (nI n) mw owed told i (z1, z2) = if nI n < nI (cn i) then (z1, z2) else if bI (v_X8_isLawful (nI i) owed) = 0 then (z1, z2) else if nI (hb (nI (Gs mw told i)) w).toNat = 1 then (z1 ||| nI (Gs mw told i), z2 ||| nI (Gs mw told i)) else (z1 ||| 0, z2 ||| nI (Gs mw told i)) := by
  show v_X8_bars_L33c (nI w) (nI n) mw owed told i z1 z2 = _
  unfold v_X8_bars_L33c
  rw [bnd_eq (ones_cnt (nI i)).symm, bnd_eq rfl, bnd_eq (Gs_eq hL i).1.symm, hb1 _ hw]
  rfl
theorem bars8 (hL : RLs wc op pl fh sp va ce ne ow ro mw told owed) {n w : Nat} (hn : n < 6) (hw : w < 32) : BX mw told owed n w 4096 (it (v_X8_bars_L33 (nI w) (nI n) mw owed told) 4096 0 (0, 0)).1 (it (v_X8_bars_L33 (nI w) (nI n) mw owed told) 4096 0 (0, 0)).2 := by
  refine it_invN (f := v_X8_bars_L33 (nI w) (nI n) mw owed told) 4096 (fun i (z : Int32 × Int32) => BX mw told owed n w i z.1 z.2) (fun i z hi hz => ?_) 4096 0 (0, 0) (by decide) (fun g hg => ?_)
  · obtain ⟨z1, z2⟩ := z
    have hz : BX mw told owed n w i z1 z2 := hz
    show BX mw told owed n w (i + 1) (v_X8_bars_L33 (nI w) (nI n) mw owed told i (z1, z2)).1 (v_X8_bars_L33 (nI w) (nI n) mw owed told i (z1, z2)).2
    rw [bars8_f hL n w i hw]
    have hc : cn i ≤ 12 := cnt_le _
    have skip : ¬ (cn i ≤ n ∧ Lw owed i) → BX mw told owed n w (i + 1) z1 z2 := fun hs g hg => by
      rw [ex_skip (A := fun h => cn h ≤ n ∧ Lw owed h) hs, ex_skip (A := fun h => cn h ≤ n ∧ Lw owed h) hs]
      exact hz g hg
    by_cases q1 : n < cn i
    · rw [if_pos (nI_lt q1 (by omega))]
      exact skip (fun w => by have := w.1; omega)
    · rw [if_neg (nI_nlt (by omega) (by omega))]
      cases l : v_X8_isLawful (nI i) owed with
      | false =>
        rw [ifF]
        refine skip (fun w => ?_)
        have := w.2
        unfold Lw at this
        rw [l] at this; cases this
      | true =>
        rw [ifT]
        have hA : cn i ≤ n ∧ Lw owed i := ⟨by omega, l⟩
        cases b : hb (nI (Gs mw told i)) w with
        | true =>
          rw [if_pos (show nI true.toNat = 1 from rfl)]
          intro g hg
          obtain ⟨c1, c2⟩ := hz g hg
          rw [ex_snoc (A := fun h => cn h ≤ n ∧ Lw owed h), ex_snoc (A := fun h => cn h ≤ n ∧ Lw owed h), ← c1, ← c2]
          show (hb (z2 ||| nI (Gs mw told i)) g = true ↔ _) ∧ (hb (z1 ||| nI (Gs mw told i)) g = true ↔ _)
          rw [hb_or, hb_or, Bool.or_eq_true, Bool.or_eq_true]
          exact ⟨⟨fun q => q.elim Or.inl (fun w => Or.inr ⟨hA, w⟩), fun q => q.elim Or.inl (fun w => Or.inr w.2)⟩, ⟨fun q => q.elim Or.inl (fun w => Or.inr ⟨hA, b, w⟩), fun q => q.elim Or.inl (fun w => Or.inr w.2.2)⟩⟩
        | false =>
          rw [if_neg (show ¬ nI false.toNat = 1 by decide)]
          intro g hg
          obtain ⟨c1, c2⟩ := hz g hg
          rw [ex_snoc (A := fun h => cn h ≤ n ∧ Lw owed h), ex_snoc (A := fun h => cn h ≤ n ∧ Lw owed h), ← c1, ← c2]
          show (hb (z2 ||| nI (Gs mw told i)) g = true ↔ _) ∧ (hb (z1 ||| 0) g = true ↔ _)
          rw [hb_or, or0, Bool.or_eq_true]
          exact ⟨⟨fun q => q.elim Or.inl (fun w => Or.inr ⟨hA, w⟩), fun q => q.elim Or.inl (fun w => Or.inr w.2)⟩, ⟨Or.inl, fun q => q.elim id (fun w => by rw [b] at w; cases w.2.1)⟩⟩
  · rw [hb_0]
    exact ⟨⟨fun q => (by cases q), fun ⟨h, hh, _⟩ => (by have := hh.1; omega)⟩, ⟨fun q => (by cases q), fun ⟨h, hh, _⟩ => (by have := hh.1; omega)⟩⟩
theorem bars7 (hL : RLs wc op pl fh sp va ce ne ow ro mw told owed) {im : Int32} {lw gr be mo : Nat → Int32} (h : RS im lw gr be mo mw told owed) {n w k : Nat} (hn : n < 6) (hw : w < 32) (hk : k ≤ 5) : ∃ (a : Int32) (b c d e : Nat → Int32) (z : Int32), it (v_X7_bars_L25 (nI w) (nI n) wc ro ce ne va) k 0 (im, lw, gr, be, mo, 0) = (a, b, c, d, e, z) ∧ RS a b c d e mw told owed ∧ ∀ g, g < 32 → (hb z g = true ↔ g < k ∧ ¬ g = w ∧ CG mw told owed n ((1 : Int32) <<< (nI w &&& 31)) ∧ CG mw told owed n ((1 : Int32) <<< (nI g &&& 31)) ∧ ¬ CG mw told owed n (((1 : Int32) <<< (nI w &&& 31)) ||| ((1 : Int32) <<< (nI g &&& 31)))) := by
  have key := it_invN (f := v_X7_bars_L25 (nI w) (nI n) wc ro ce ne va) k (fun i (s : Int32 × (Nat → Int32) × (Nat → Int32) × (Nat → Int32) × (Nat → Int32) × Int32) => ∃ (a : Int32) (b c d e : Nat → Int32) (z : Int32), s = (a, b, c, d, e, z) ∧ RS a b c d e mw told owed ∧ ∀ g, g < 32 → (hb z g = true ↔ g < i ∧ ¬ g = w ∧ CG mw told owed n ((1 : Int32) <<< (nI w &&& 31)) ∧ CG mw told owed n ((1 : Int32) <<< (nI g &&& 31)) ∧ ¬ CG mw told owed n (((1 : Int32) <<< (nI w &&& 31)) ||| ((1 : Int32) <<< (nI g &&& 31))))) (fun i s hi hs => by
    obtain ⟨a, b, c, d, e, z, rfl, hR, hz⟩ := hs
    have f : v_X7_bars_L25 (nI w) (nI n) wc ro ce ne va i (a, b, c, d, e, z) = if nI i = nI w then (a, b, c, d, e, z) else bnd6 (v_X7_areBarred (nI w) (nI i) (nI n) a b c d e wc ro ce ne va) (fun r a b c d e => if bI r = 0 then (a, b, c, d, e, z) else (a, b, c, d, e, z ||| ((1 : Int32) <<< (nI i &&& 31)))) := by
      show v_X7_bars_L25c (nI w) (nI n) wc ro ce ne va i a b c d e z = _
      unfold v_X7_bars_L25c
      rw [bnd_eq rfl]
      rfl
    rw [f]
    have same : ∀ z' : Int32, ¬ (¬ i = w ∧ CG mw told owed n ((1 : Int32) <<< (nI w &&& 31)) ∧ CG mw told owed n ((1 : Int32) <<< (nI i &&& 31)) ∧ ¬ CG mw told owed n (((1 : Int32) <<< (nI w &&& 31)) ||| ((1 : Int32) <<< (nI i &&& 31)))) → ∀ g, g < 32 → (hb z g = true ↔ g < i + 1 ∧ ¬ g = w ∧ CG mw told owed n ((1 : Int32) <<< (nI w &&& 31)) ∧ CG mw told owed n ((1 : Int32) <<< (nI g &&& 31)) ∧ ¬ CG mw told owed n (((1 : Int32) <<< (nI w &&& 31)) ||| ((1 : Int32) <<< (nI g &&& 31)))) := fun _ hq g hg => by
      rw [hz g hg]
      constructor
      · rintro ⟨h1, h2⟩; exact ⟨by omega, h2⟩
      · rintro ⟨h1, h2⟩
        by_cases q : g = i
        · subst q; exact absurd h2 hq
        · exact ⟨by omega, h2⟩
    by_cases q : i = w
    · rw [if_pos (by rw [q])]
      exact ⟨a, b, c, d, e, z, rfl, hR, same z (fun hh => hh.1 q)⟩
    · rw [if_neg (eq_ne (by omega) (by omega) q)]
      obtain ⟨r, a1, b1, c1, d1, e1, ha, hs, hr⟩ := barred_ok hL hR hn (nI w) (nI i)
      rw [bnd6_eq ha.symm]
      cases r with
      | false =>
        rw [ifF]
        exact ⟨a1, b1, c1, d1, e1, z, rfl, RS_of hs, same z (fun hh => by have := hr.mpr hh.2; cases this)⟩
      | true =>
        rw [ifT]
        refine ⟨a1, b1, c1, d1, e1, _, rfl, RS_of hs, fun g hg => ?_⟩
        rw [hb_or, hb_sh i (by omega) g hg, Bool.or_eq_true, hz g hg, decide_eq_true_eq]
        constructor
        · rintro (⟨h1, h2⟩ | rfl)
          · exact ⟨by omega, h2⟩
          · exact ⟨by omega, q, hr.mp rfl⟩
        · rintro ⟨h1, h2⟩
          by_cases q : g = i
          · exact Or.inr q
          · exact Or.inl ⟨by omega, h2⟩) k 0 (im, lw, gr, be, mo, 0) (by omega) ⟨im, lw, gr, be, mo, 0, rfl, h, fun g hg => by
      rw [hb_0]
      exact ⟨fun q => (by cases q), fun q => (by have := q.1; omega)⟩⟩
  rwa [Nat.zero_add] at key
theorem m_bars (hL : RLs wc op pl fh sp va ce ne ow ro mw told owed) {x y im o1 o3 : Int32} {lw gr be mo o2 o4 o5 o6 : Nat → Int32} (h : RS im lw gr be mo mw told owed) (e : (o1, o2, o3, o4, o5, o6) = v_X7_bars x y wc im lw gr be mo ro ce ne va) : o1 = v_X8_bars x y mw owed told ∧ RS o3 o4 o5 o6 o2 mw told owed := by
  have f7 : v_X7_bars x y wc im lw gr be mo ro ce ne va = if bI (v_X7_isWish x wc) = 0 then (-1, mo, im, lw, gr, be) else if bI (v_X7_isSquares y) = 0 then (-2, mo, im, lw, gr, be) else bnd6 (it (v_X7_bars_L25 x y wc ro ce ne va) wc.toNatClampNeg 0 (im, lw, gr, be, mo, 0)) (fun a b c d e f => (f, e, a, b, c, d)) := by
    unfold v_X7_bars
    rw [bnd_eq rfl, bnd_eq rfl]
    rfl
  have f8 : v_X8_bars x y mw owed told = if bI (v_X8_isWish x mw) = 0 then -1 else if bI (v_X8_in y.toInt64 0 5) = 0 then -2 else bnd2 (it (v_X8_bars_L33 x y mw owed told) 4096 0 (0, 0)) (fun a b => if ((b >>> (x &&& 31)) &&& 1) = 1 then (b &&& (a ^^^ (-1))) else 0) := by
    unfold v_X8_bars
    rw [bnd_eq rfl, bnd_eq rfl]
  have hLL := hL
  obtain ⟨⟨k, hk, rfl, rfl, hw⟩, hd⟩ := hL
  rw [f7] at e; rw [f8]
  rcases w7 (x := x) hk rfl with ⟨a, b⟩ | ⟨w, hwk, rfl, a, b⟩
  · rw [a, ifF] at e; rw [b, ifF]
    cases e
    exact ⟨rfl, h⟩
  · rw [a, ifT] at e; rw [b, ifT]
    rcases q5 y with ⟨a, b⟩ | ⟨n, hn, rfl, a, b⟩
    · rw [a, ifF] at e; rw [b, ifF]
      cases e
      exact ⟨rfl, h⟩
    · rw [a, ifT, nI_clamp (by omega)] at e; rw [b, ifT]
      obtain ⟨a1, b1, c1, d1, e1, z, ha, hs, hz⟩ := bars7 hLL h hn (w := w) (by omega) hk
      rw [bnd6_eq ha.symm] at e
      have B := bars8 hLL hn (w := w) (by omega)
      obtain ⟨s1, s2, hs12⟩ := ex2 (it (v_X8_bars_L33 (nI w) (nI n) (nI k) owed told) 4096 0 (0, 0))
      rw [bnd2_eq hs12, hb1 s2 (by omega)]
      rw [← hs12] at B
      have B : BX (nI k) told owed n w 4096 s1 s2 := B
      cases e
      refine ⟨?_, hs⟩
      have lt : ∀ h g, hb (nI (Gs (nI k) told h)) g = true → g < k := fun h g q => by
        have h32 := hb_lt q
        rw [← (Gs_eq hLL h).1] at q
        have := ((granted_hb hLL h32).mp q).1
        rwa [nI_clamp (by omega)] at this
      have W1 : CG (nI k) told owed n ((1 : Int32) <<< (nI w &&& 31)) ↔ hb s2 w = true := by
        rw [CG_1 (by omega), (B w (by omega)).1]
        exact ⟨fun ⟨h, ⟨h1, h2, h3⟩, h4⟩ => ⟨h, ⟨h1, h2, h3⟩, h4⟩, fun ⟨h, ⟨h1, h2, h3⟩, h4⟩ => ⟨h, ⟨h1, h2, h3⟩, h4⟩⟩
      cases q : hb s2 w with
      | false =>
        rw [if_neg (show ¬ nI false.toNat = 1 by decide)]
        apply hb_ext
        intro g hg
        rw [hb_0]
        cases r : hb o1 g with
        | false => rfl
        | true =>
          have := W1.mp ((hz g hg).mp r).2.2.1
          rw [q] at this; cases this
      | true =>
        rw [if_pos (show nI true.toNat = 1 from rfl)]
        apply hb_ext
        intro g hg
        rw [hb_and, hb_not s1 hg, Bool.eq_iff_iff, hz g hg, Bool.and_eq_true, (B g hg).1, Bool.not_eq_true', ← Bool.not_eq_true, (B g hg).2]
        constructor
        · rintro ⟨h1, h2, h3, h4, h5⟩
          rw [CG_1 hg] at h4
          rw [CG_2 (by omega) hg] at h5
          obtain ⟨x, ⟨y1, y2, y3⟩, y4⟩ := h4
          exact ⟨⟨x, ⟨y1, y2, y3⟩, y4⟩, fun ⟨x, ⟨y1, y2, y3⟩, y4⟩ => h5 ⟨x, ⟨y1, y2, y3⟩, y4⟩⟩
        · rintro ⟨⟨x, ⟨y1, y2, y3⟩, y4⟩, h5⟩
          refine ⟨lt x g y4, ?_, W1.mpr q, ?_, ?_⟩
          · intro eg
            subst eg
            exact h5 ⟨x, ⟨y1, y2, y3⟩, y4, y4⟩
          · rw [CG_1 hg]; exact ⟨x, ⟨y1, y2, y3⟩, y4⟩
          · rw [CG_2 (by omega) hg]
            exact fun ⟨x, ⟨y1, y2, y3⟩, y4⟩ => h5 ⟨x, ⟨y1, y2, y3⟩, y4⟩
def Wt (mw : Int32) (told : Nat → Int32) (x : Int32) : Nat := (v_X8_worthOf x mw told).toNatClampNeg
theorem Wt_eq (hL : RLs wc op pl fh sp va ce ne ow ro mw told owed) (x : Int32) : v_X8_worthOf x mw told = nI (Wt mw told x) ∧ Wt mw told x ≤ 45 := by
  obtain ⟨v, hv, e⟩ := worth_lt hL x
  unfold Wt
  rw [e, nI_clamp (by omega)]
  exact ⟨rfl, hv⟩
def MH (mw : Int32) (told owed : Nat → Int32) (n : Nat) (s : Int32) (m : Nat) : Prop := MX (ok owed n) (fun h => Wt mw told (nI (Gs mw told h) &&& s)) m
theorem mostWorth_ok (hL : RLs wc op pl fh sp va ce ne ow ro mw told owed) {im : Int32} {lw gr be mo : Nat → Int32} (h : RS im lw gr be mo mw told owed) {n : Nat} (hn : n < 6) (s : Int32) : ∃ (m : Nat) (a : Int32) (b c d e : Nat → Int32), v_X5_mostWorth (nI n) s im lw gr be mo wc ro ce ne va = (nI m, a, b, c, d, e) ∧ SV b c d e mw told owed ∧ m ≤ 45 ∧ MH mw told owed n s m := by
  obtain ⟨a, b, c, d, e, ha⟩ := ex5 (v_X5_make im lw gr be mo wc ro ce ne va)
  have hs := make_RS hL h ha
  have st : ∀ i z, i < 32 → v_X5_mostWorth_L9 (nI n) s wc va c i z = if bI (hb (c n) i) = 0 then z else if z < nI (Wt mw told (nI i &&& s)) then nI (Wt mw told (nI i &&& s)) else z := fun i z hi => by
    unfold v_X5_mostWorth_L9
    rw [bnd_eq (at_nI hn (by decide)).symm, bnd_eq (has7 (c n) hi).symm, bnd_eq (sum_eq hL _).symm, (Wt_eq hL _).1]
  obtain ⟨m, hm, e1, hx⟩ := it_max (f := v_X5_mostWorth_L9 (nI n) s wc va c) (P := fun i => hb (c n) i = true) (w := fun i => Wt mw told (nI i &&& s)) 32 (fun i => (Wt_eq hL _).2) (fun i z hi q => by rw [st i z hi, q, ifT]) (fun i z hi q => by
    rw [st i z hi]
    cases w : hb (c n) i with
    | false => rw [ifF]
    | true => exact absurd w q)
  refine ⟨m, a, b, c, d, e, ?_, hs, hm, ?_⟩
  · unfold v_X5_mostWorth
    rw [bnd5_eq ha, bnd_eq e1.symm]
  · refine ⟨fun h hh => ?_, ?_⟩
    · have hg := Gs_eq hL h
      exact hx.1 (Gs mw told h) ⟨hg.2, ((hs n hn).2.1 _ hg.2).mpr ⟨h, hh, rfl⟩⟩
    · rcases hx.2 with q | ⟨j, ⟨hj, q⟩, e2⟩
      · exact Or.inl q
      · obtain ⟨h, hh, e3⟩ := ((hs n hn).2.1 j hj).mp q
        exact Or.inr ⟨h, hh, by show Wt mw told (nI (Gs mw told h) &&& s) = m; rw [e3]; exact e2⟩
theorem MH.uniq {n m m' : Nat} {s : Int32} (h : MH mw told owed n s m) (h' : MH mw told owed n s m') : m = m' := MX.uniq h h' (fun j hj => ⟨j, hj, rfl⟩) (fun j hj => ⟨j, hj, rfl⟩)
theorem mostOf_ok (hL : RLs wc op pl fh sp va ce ne ow ro mw told owed) {n : Nat} (hn : n < 6) (s : Int32) (hne : ∃ h, ok owed n h) : ∃ m : Nat, v_X8_mostOf s (nI n) mw owed told = nI m ∧ MH mw told owed n s m := by
  have key := it_invN (f := v_X8_mostOf_L6 s (nI n) mw owed told) 4096 (fun i z => (z = -9 ∧ ∀ h, ¬ (h < i ∧ cn h ≤ n ∧ Lw owed h)) ∨ ∃ m : Nat, m ≤ 45 ∧ z = nI m ∧ (∀ h, (h < i ∧ cn h ≤ n ∧ Lw owed h) → Wt mw told (nI (Gs mw told h) &&& s) ≤ m) ∧ ∃ h, (h < i ∧ cn h ≤ n ∧ Lw owed h) ∧ Wt mw told (nI (Gs mw told h) &&& s) = m) (fun i z hi hz => by
    have f : v_X8_mostOf_L6 s (nI n) mw owed told i z = if nI n < nI (cn i) then z else if bI (v_X8_isLawful (nI i) owed) = 0 then z else if nI (Wt mw told (nI (Gs mw told i) &&& s)) ≤ z then z else nI (Wt mw told (nI (Gs mw told i) &&& s)) := by
      unfold v_X8_mostOf_L6
      rw [bnd_eq (ones_cnt (nI i)).symm, bnd_eq rfl, bnd_eq (Gs_eq hL i).1.symm, bnd_eq (Wt_eq hL _).1.symm]
      rfl
    rw [f]
    have hc : cn i ≤ 12 := cnt_le _
    have hw := (Wt_eq hL (nI (Gs mw told i) &&& s)).2
    have up : ∀ h, ¬ (cn i ≤ n ∧ Lw owed i) → ((h < i + 1 ∧ cn h ≤ n ∧ Lw owed h) ↔ (h < i ∧ cn h ≤ n ∧ Lw owed h)) := fun h hs => by
      constructor
      · rintro ⟨a, b⟩
        by_cases q : h = i
        · subst q; exact absurd b hs
        · exact ⟨by omega, b⟩
      · rintro ⟨a, b⟩; exact ⟨by omega, b⟩
    have skip : ¬ (cn i ≤ n ∧ Lw owed i) → ((z = -9 ∧ ∀ h, ¬ (h < i + 1 ∧ cn h ≤ n ∧ Lw owed h)) ∨ ∃ m : Nat, m ≤ 45 ∧ z = nI m ∧ (∀ h, (h < i + 1 ∧ cn h ≤ n ∧ Lw owed h) → Wt mw told (nI (Gs mw told h) &&& s) ≤ m) ∧ ∃ h, (h < i + 1 ∧ cn h ≤ n ∧ Lw owed h) ∧ Wt mw told (nI (Gs mw told h) &&& s) = m) := fun hs => by
      rcases hz with ⟨a, b⟩ | ⟨m, a, b, c, h, d, e⟩
      · exact Or.inl ⟨a, fun h hh => b h ((up h hs).mp hh)⟩
      · exact Or.inr ⟨m, a, b, fun h hh => c h ((up h hs).mp hh), h, (up h hs).mpr d, e⟩
    by_cases q1 : n < cn i
    · rw [if_pos (nI_lt q1 (by omega))]
      exact skip (fun w => by have := w.1; omega)
    · rw [if_neg (nI_nlt (by omega) (by omega))]
      cases l : v_X8_isLawful (nI i) owed with
      | false =>
        rw [ifF]
        refine skip (fun w => ?_)
        have := w.2
        unfold Lw at this
        rw [l] at this; cases this
      | true =>
        rw [ifT]
        have hA : i < i + 1 ∧ cn i ≤ n ∧ Lw owed i := ⟨by omega, by omega, l⟩
        rcases hz with ⟨rfl, b⟩ | ⟨m, a, rfl, c, h, d, e⟩
        · have : ¬ nI (Wt mw told (nI (Gs mw told i) &&& s)) ≤ -9 := by
            rw [Int32.le_iff_toInt_le, nI_toInt (by omega), show (-9 : Int32).toInt = -9 from rfl]
            omega
          rw [if_neg this]
          refine Or.inr ⟨_, hw, rfl, fun h hh => ?_, i, hA, rfl⟩
          by_cases q : h = i
          · subst q; exact Nat.le_refl _
          · exact absurd ⟨by have := hh.1; omega, hh.2⟩ (b h)
        · by_cases q : Wt mw told (nI (Gs mw told i) &&& s) ≤ m
          · rw [if_pos (nI_le q (by omega))]
            refine Or.inr ⟨m, a, rfl, fun h hh => ?_, h, ⟨by have := d.1; omega, d.2⟩, e⟩
            by_cases q : h = i
            · subst q; assumption
            · exact c h ⟨by have := hh.1; omega, hh.2⟩
          · rw [if_neg (nI_ge (by omega) (by omega))]
            refine Or.inr ⟨_, hw, rfl, fun h hh => ?_, i, hA, rfl⟩
            by_cases q : h = i
            · subst q; exact Nat.le_refl _
            · have := c h ⟨by have := hh.1; omega, hh.2⟩
              omega) 4096 0 (-9) (by decide) (Or.inl ⟨rfl, fun h hh => by have := hh.1; omega⟩)
  have e8 : v_X8_mostOf s (nI n) mw owed told = it (v_X8_mostOf_L6 s (nI n) mw owed told) 4096 0 (-9) := by
    unfold v_X8_mostOf
    rw [bnd_eq rfl]
  rw [e8]
  rcases key with ⟨a, b⟩ | ⟨m, a, b, c, h, d, e⟩
  · obtain ⟨h, hh⟩ := hne
    exact absurd hh (b h)
  · exact ⟨m, b, c, Or.inr ⟨h, d, e⟩⟩
theorem m_due (hL : RLs wc op pl fh sp va ce ne ow ro mw told owed) {x y im o1 o3 : Int32} {lw gr be mo o2 o4 o5 o6 : Nat → Int32} (h : RS im lw gr be mo mw told owed) (e : (o1, o2, o3, o4, o5, o6) = v_X7_due x y wc im lw gr be mo ro ce ne va) : o1 = v_X8_due x y mw owed told ∧ RS o3 o4 o5 o6 o2 mw told owed := by
  have f7 : v_X7_due x y wc im lw gr be mo ro ce ne va = if bI (v_X7_isWish x wc) = 0 then (-1, mo, im, lw, gr, be) else if bI (v_X7_isSquares y) = 0 then (-2, mo, im, lw, gr, be) else bnd6 (v_X5_bestOf y im lw gr be mo wc ro ce ne va) (fun a b c d e f => if a = -9 then (-9, f, b, c, d, e) else if bI (v_X7_has (v_X1_grantedBy a wc ce ne) x) = 0 then (0, f, b, c, d, e) else bnd6 (v_X5_mostWorth y ((((1 : Int32) <<< (wc &&& 31)) - 1) &&& (((1 : Int32) <<< (x &&& 31)) ^^^ (-1))) b c d e f wc ro ce ne va) (fun a2 b2 c2 d2 e2 f2 => (a2 - v_X1_sumOf (v_X1_grantedBy a wc ce ne &&& ((((1 : Int32) <<< (wc &&& 31)) - 1) &&& (((1 : Int32) <<< (x &&& 31)) ^^^ (-1)))) wc va, f2, b2, c2, d2, e2))) := by
    unfold v_X7_due
    rw [bnd_eq rfl, bnd_eq rfl]
    rfl
  have f8 : v_X8_due x y mw owed told = if bI (v_X8_isWish x mw) = 0 then -1 else if bI (v_X8_in y.toInt64 0 5) = 0 then -2 else (fun bb => if bb = -9 then -9 else if bI (v_X8_has (v_X8_granted bb mw told) x) = 0 then 0 else (v_X8_mostOf ((((1 : Int32) <<< (mw &&& 31)) - 1) &&& (((1 : Int32) <<< (x &&& 31)) ^^^ (-1))) y mw owed told - v_X8_worthOf (v_X8_granted bb mw told &&& ((((1 : Int32) <<< (mw &&& 31)) - 1) &&& (((1 : Int32) <<< (x &&& 31)) ^^^ (-1)))) mw told)) (v_X8_bestHanging y mw owed told) := by
    unfold v_X8_due
    rw [bnd_eq rfl, bnd_eq rfl, bnd_eq rfl]
    rw [bnd_eq rfl, bnd_eq rfl, bnd_eq rfl, bnd_eq rfl, bnd_eq rfl, bnd_eq rfl]
  have hLL := hL
  obtain ⟨⟨k, hk, rfl, rfl, hw⟩, hd⟩ := hL
  rw [f7] at e; rw [f8]
  rcases w7 (x := x) hk rfl with ⟨a, b⟩ | ⟨w, hwk, rfl, a, b⟩
  · rw [a, ifF] at e; rw [b, ifF]
    cases e
    exact ⟨rfl, h⟩
  · rw [a, ifT] at e; rw [b, ifT]
    rcases q5 y with ⟨a, b⟩ | ⟨n, hn, rfl, a, b⟩
    · rw [a, ifF] at e; rw [b, ifF]
      cases e
      exact ⟨rfl, h⟩
    · rw [a, ifT] at e; rw [b, ifT]
      obtain ⟨a1, a2, a3, a4, a5, ha, hs⟩ := bestOf_ok hLL h hn
      obtain ⟨mm, hbm⟩ := best_ok hLL hn
      rw [bnd6_eq ha.symm, best_eq hLL hn hs, granted_eq hLL] at e
      generalize v_X8_bestHanging (nI n) (nI k) owed told = bb at e hbm ⊢
      show o1 = (if bb = -9 then -9 else if bI (v_X8_has (v_X8_granted bb (nI k) told) (nI w)) = 0 then 0 else (v_X8_mostOf ((((1 : Int32) <<< (nI k &&& 31)) - 1) &&& (((1 : Int32) <<< (nI w &&& 31)) ^^^ (-1))) (nI n) (nI k) owed told - v_X8_worthOf (v_X8_granted bb (nI k) told &&& ((((1 : Int32) <<< (nI k &&& 31)) - 1) &&& (((1 : Int32) <<< (nI w &&& 31)) ^^^ (-1)))) (nI k) told)) ∧ _
      by_cases q1 : bb = -9
      · rw [if_pos q1] at e
        rw [if_pos q1]
        cases e
        exact ⟨rfl, RS_of hs⟩
      · rw [if_neg q1] at e
        rw [if_neg q1]
        rw [has7 _ (by omega)] at e
        rw [has8 _ (by omega)]
        cases q2 : hb (v_X8_granted bb (nI k) told) w with
        | false =>
          rw [q2, ifF] at e
          rw [ifF]
          cases e
          exact ⟨rfl, RS_of hs⟩
        | true =>
          rw [q2, ifT] at e
          rw [ifT]
          have hne : ∃ h, ok owed n h := by
            rcases hbm with ⟨b1, _⟩ | ⟨h, hh, _⟩
            · exact absurd b1 q1
            · exact ⟨h, hh⟩
          obtain ⟨m, b1, b2, b3, b4, b5, hb', hs2, _, hm⟩ := mostWorth_ok hLL (RS_of (im := a1) hs) hn ((((1 : Int32) <<< (nI k &&& 31)) - 1) &&& (((1 : Int32) <<< (nI w &&& 31)) ^^^ (-1)))
          obtain ⟨m', e8, hm'⟩ := mostOf_ok hLL hn ((((1 : Int32) <<< (nI k &&& 31)) - 1) &&& (((1 : Int32) <<< (nI w &&& 31)) ^^^ (-1))) hne
          rw [bnd6_eq hb'.symm, sum_eq hLL] at e
          rw [e8, ← MH.uniq hm hm']
          cases e
          exact ⟨rfl, RS_of hs2⟩
end Grant
