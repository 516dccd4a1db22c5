/-! own words, pure: the survey's end; best, many -/
section Best
variable {wc op mw : Int32} {pl fh sp va ce ne ow ro told owed : Nat → Int32}
theorem fewer_eq {i : Nat} (h1 : 1 ≤ i) (hi : i < 6) (gr mo be : Nat → Int32) : v_X5_addThoseOfFewer (nI i) gr mo be = if mo (i - 1) < mo i then (upd gr i (gr i ||| gr (i - 1)), mo, be) else (upd gr i (gr i ||| gr (i - 1)), upd mo i (mo (i - 1)), upd be i (be (i - 1))) := by
  have e : nI i - 1 = nI (i - 1) := by
    have := nI_pred (i - 1)
    rwa [show i - 1 + 1 = i by omega] at this
  have hj : i - 1 < 6 := by omega
  unfold v_X5_addThoseOfFewer
  rw [e, bnd_eq (at_nI hi (by decide)).symm, bnd_eq (at_nI hj (by decide)).symm, bnd_eq (put_nI hi (by decide)).symm, bnd_eq (at_nI hj (by decide)).symm, bnd_eq (at_nI hi (by decide)).symm, bnd_eq (at_nI hj (by decide)).symm, bnd_eq (put_nI hi (by decide)).symm, bnd_eq (at_nI hj (by decide)).symm, bnd_eq (put_nI hi (by decide)).symm]
theorem make_2 (hL : RLs wc op pl fh sp va ce ne ow ro mw told owed) (lw gr be mo : Nat → Int32) (h0 : ∀ n, n < 6 → SX lw gr be mo mw told owed 4096 n) : ∀ n, n < 6 → SF (it v_X5_make_L86 5 1 (gr, be, mo)).1 (it v_X5_make_L86 5 1 (gr, be, mo)).2.1 (it v_X5_make_L86 5 1 (gr, be, mo)).2.2 mw told owed n := by
  have key := it_invN (f := v_X5_make_L86) 6 (fun i (z : (Nat → Int32) × (Nat → Int32) × (Nat → Int32)) => 1 ≤ i ∧ ∀ n, n < 6 → (n < i → SF z.1 z.2.1 z.2.2 mw told owed n) ∧ (i ≤ n → SX lw z.1 z.2.1 z.2.2 mw told owed 4096 n)) (fun i z hi hz => by
    obtain ⟨z1, z2, z3⟩ := z
    obtain ⟨hi1, hz⟩ := hz
    have hz : ∀ n, n < 6 → (n < i → SF z1 z2 z3 mw told owed n) ∧ (i ≤ n → SX lw z1 z2 z3 mw told owed 4096 n) := hz
    have f : v_X5_make_L86 i (z1, z2, z3) = bnd3 (v_X5_addThoseOfFewer (nI i) z1 z3 z2) (fun a b c => (a, c, b)) := rfl
    have hF := (hz (i - 1) (by omega)).1 (by omega)
    have hX := (hz i hi).2 (Nat.le_refl _)
    have eo : ∀ h, (ok owed (i - 1) h ∨ okx owed i 4096 h) ↔ ok owed i h := fun h => by
      unfold ok okx
      constructor
      · rintro (⟨a, b, c⟩ | ⟨a, b, c⟩)
        · exact ⟨a, by omega, c⟩
        · exact ⟨a, by omega, c⟩
      · rintro ⟨a, b, c⟩
        by_cases q : cn h = i
        · exact Or.inr ⟨a, q, c⟩
        · exact Or.inl ⟨a, by omega, c⟩
    have G : ∀ g, g < 32 → (hb (z1 i ||| z1 (i - 1)) g = true ↔ ∃ h, ok owed i h ∧ Gs mw told h = g) := fun g hg => by
      rw [hb_or, Bool.or_eq_true, hX.1 g hg, hF.1 g hg]
      constructor
      · rintro (⟨x, hx, hx2⟩ | ⟨x, hx, hx2⟩)
        · exact ⟨x, (eo x).mp (Or.inr hx), hx2⟩
        · exact ⟨x, (eo x).mp (Or.inl hx), hx2⟩
      · rintro ⟨x, hx, hx2⟩
        rcases (eo x).mpr hx with q | q
        · exact Or.inr ⟨x, q, hx2⟩
        · exact Or.inl ⟨x, q, hx2⟩
    have M := BEP.merge (vn_45 hL) hF.2 hX.2 (fun h h' q q' => by have a := q.2.1; have b := q'.2.1; omega)
    rw [f, fewer_eq hi1 hi]
    refine ⟨by omega, ?_⟩
    by_cases q : z3 (i - 1) < z3 i
    · rw [if_pos q]
      show ∀ n, n < 6 → (n < i + 1 → SF (upd z1 i (z1 i ||| z1 (i - 1))) z2 z3 mw told owed n) ∧ (i + 1 ≤ n → SX lw (upd z1 i (z1 i ||| z1 (i - 1))) z2 z3 mw told owed 4096 n)
      intro n hn
      by_cases en : n = i
      · subst en
        refine ⟨fun _ => ⟨by rw [pk_us]; exact G, (M.1 q).cong eo⟩, fun w => by omega⟩
      · unfold SF SX
        rw [pk_un en]
        exact ⟨fun w => (hz n hn).1 (by omega), fun w => (hz n hn).2 (by omega)⟩
    · rw [if_neg q]
      show ∀ n, n < 6 → (n < i + 1 → SF (upd z1 i (z1 i ||| z1 (i - 1))) (upd z2 i (z2 (i - 1))) (upd z3 i (z3 (i - 1))) mw told owed n) ∧ (i + 1 ≤ n → SX lw (upd z1 i (z1 i ||| z1 (i - 1))) (upd z2 i (z2 (i - 1))) (upd z3 i (z3 (i - 1))) mw told owed 4096 n)
      intro n hn
      by_cases en : n = i
      · subst en
        refine ⟨fun _ => ⟨by rw [pk_us]; exact G, by rw [pk_us, pk_us]; exact (M.2 q).cong eo⟩, fun w => by omega⟩
      · unfold SF SX
        rw [pk_un en, pk_un en, pk_un en]
        exact ⟨fun w => (hz n hn).1 (by omega), fun w => (hz n hn).2 (by omega)⟩) 5 1 (gr, be, mo) (by decide) ⟨by decide, fun n hn => ⟨fun w => by
      have : n = 0 := by omega
      subst this
      have h := h0 0 (by decide)
      have e : ∀ h, okx owed 0 4096 h ↔ ok owed 0 h := fun h => by
        unfold ok okx
        constructor
        · rintro ⟨a, b, c⟩; exact ⟨a, by omega, c⟩
        · rintro ⟨a, b, c⟩; exact ⟨a, by omega, c⟩
      refine ⟨fun g hg => ?_, h.2.cong e⟩
      show hb (gr 0) g = true ↔ _
      rw [h.1 g hg]
      exact ⟨fun ⟨x, hx, hx2⟩ => ⟨x, (e x).mp hx, hx2⟩, fun ⟨x, hx, hx2⟩ => ⟨x, (e x).mpr hx, hx2⟩⟩, fun _ => h0 n hn⟩⟩
  exact fun n hn => (key.2 n hn).1 (by omega)
def RS (im : Int32) (lw gr be mo : Nat → Int32) (mw : Int32) (told owed : Nat → Int32) : Prop := ¬ im = 0 → SV lw gr be mo mw told owed
theorem make_RS (hL : RLs wc op pl fh sp va ce ne ow ro mw told owed) {im o1 : Int32} {lw gr be mo o2 o3 o4 o5 : Nat → Int32} (h : RS im lw gr be mo mw told owed) (e : (o1, o2, o3, o4, o5) = v_X5_make im lw gr be mo wc ro ce ne va) : SV o2 o3 o4 o5 mw told owed := by
  have f : v_X5_make im lw gr be mo wc ro ce ne va = if im = 0 then bnd4 (it (v_X5_make_L48 wc ro ce ne va) 4096 0 (v_X4_fill 0 lw 6, v_X4_fill 0 gr 6, v_X4_fill (-9) be 6, v_X4_fill (-1) mo 6)) (fun a b c d => bnd3 (it v_X5_make_L86 5 1 (b, c, d)) (fun e f g => (1, a, e, f, g))) else (im, lw, gr, be, mo) := by
    unfold v_X5_make
    rw [bnd_eq rfl, bnd_eq rfl, bnd_eq rfl, bnd_eq rfl]
  rw [f] at e
  by_cases q : im = 0
  · rw [if_pos q] at e
    have m1 := make_1 hL (v_X4_fill 0 lw 6) (v_X4_fill 0 gr 6) (v_X4_fill (-9) be 6) (v_X4_fill (-1) mo 6) (fun n hn => ⟨fill_at (by decide) hn, fill_at (by decide) hn, fill_at (by decide) hn, fill_at (by decide) hn⟩)
    obtain ⟨a1, a2, a3, a4, ha⟩ := ex4 (it (v_X5_make_L48 wc ro ce ne va) 4096 0 (v_X4_fill 0 lw 6, v_X4_fill 0 gr 6, v_X4_fill (-9) be 6, v_X4_fill (-1) mo 6))
    rw [bnd4_eq ha] at e
    rw [← ha] at m1
    have m2 := make_2 hL a1 a2 a3 a4 (fun n hn => (m1 n hn).2)
    obtain ⟨b1, b2, b3, hb'⟩ := ex3 (it v_X5_make_L86 5 1 (a2, a3, a4))
    rw [bnd3_eq hb'] at e
    rw [← hb'] at m2
    cases e
    exact fun n hn => ⟨(m1 n hn).1, m2 n hn⟩
  · rw [if_neg q] at e
    cases e
    exact h q
theorem RS_of {im : Int32} {lw gr be mo : Nat → Int32} (h : SV lw gr be mo mw told owed) : RS im lw gr be mo mw told owed := fun _ => h
theorem bestOf_ok (hL : RLs wc op pl fh sp va ce ne ow ro mw told owed) {im : Int32} {lw gr be mo : Nat → Int32} (h : RS im lw gr be mo mw told owed) {n : Nat} (hn : n < 6) : ∃ (a : Int32) (b c d e : Nat → Int32), v_X5_bestOf (nI n) im lw gr be mo wc ro ce ne va = (d n, a, b, c, d, e) ∧ SV b c d e mw told owed := by
  obtain ⟨a, b, c, d, e, ha⟩ := ex5 (v_X5_make im lw gr be mo wc ro ce ne va)
  refine ⟨a, b, c, d, e, ?_, make_RS hL h ha⟩
  unfold v_X5_bestOf
  rw [bnd5_eq ha, bnd_eq (at_nI hn (by decide)).symm]
theorem lawfulOf_ok (hL : RLs wc op pl fh sp va ce ne ow ro mw told owed) {im : Int32} {lw gr be mo : Nat → Int32} (h : RS im lw gr be mo mw told owed) {n : Nat} (hn : n < 6) : ∃ (a : Int32) (b c d e : Nat → Int32), v_X5_lawfulOf (nI n) im lw gr be mo wc ro ce ne va = (b n, a, b, c, d, e) ∧ SV b c d e mw told owed := by
  obtain ⟨a, b, c, d, e, ha⟩ := ex5 (v_X5_make im lw gr be mo wc ro ce ne va)
  refine ⟨a, b, c, d, e, ?_, make_RS hL h ha⟩
  unfold v_X5_lawfulOf
  rw [bnd5_eq ha, bnd_eq (at_nI hn (by decide)).symm]
theorem best_ok (hL : RLs wc op pl fh sp va ce ne ow ro mw told owed) {n : Nat} (hn : n < 6) : ∃ m : Int32, BEP (vn mw told) cn (-9) (ok owed n) (v_X8_bestHanging (nI n) mw owed told) m := by
  have key := it_invN (f := v_X8_bestHanging_L9 (nI n) mw owed told) 4096 (fun i (z : Int32 × Int32) => BEP (vn mw told) cn (-9) (fun h => h < i ∧ cn h ≤ n ∧ Lw owed h) z.2 z.1) (fun i z hi hz => by
    obtain ⟨z1, z2⟩ := z
    have hz : BEP (vn mw told) cn (-9) (fun h => h < i ∧ cn h ≤ n ∧ Lw owed h) z2 z1 := hz
    have f : v_X8_bestHanging_L9 (nI n) mw owed told i (z1, z2) = if nI n < nI (cn i) then (z1, z2) else if bI (v_X8_isLawful (nI i) owed) = 0 then (z1, z2) else if z1 < nI (vn mw told i) then (nI (vn mw told i), nI i) else if nI (vn mw told i) = z1 then (if nI (cnt z2) ≤ nI (cn i) then (z1, z2) else (nI (vn mw told i), nI i)) else (z1, z2) := by
      show v_X8_bestHanging_L9c (nI n) mw owed told i z1 z2 = _
      unfold v_X8_bestHanging_L9c
      rw [bnd_eq (ones_cnt (nI i)).symm, bnd_eq rfl, bnd_eq (Gs_eq hL i).1.symm, bnd_eq (vn_eq hL i).symm, bnd_eq (ones_cnt z2).symm]
      rfl
    show BEP (vn mw told) cn (-9) (fun h => h < i + 1 ∧ cn h ≤ n ∧ Lw owed h) (v_X8_bestHanging_L9 (nI n) mw owed told i (z1, z2)).2 (v_X8_bestHanging_L9 (nI n) mw owed told i (z1, z2)).1
    rw [f]
    have hc : cn i ≤ 12 := cnt_le _
    have skip : ¬ (cn i ≤ n ∧ Lw owed i) → BEP (vn mw told) cn (-9) (fun h => h < i + 1 ∧ cn h ≤ n ∧ Lw owed h) z2 z1 := fun hs => hz.cong (fun h => by
      constructor
      · rintro ⟨a, b⟩; exact ⟨by omega, b⟩
      · rintro ⟨a, b⟩
        by_cases q : h = i
        · subst q; exact absurd b hs
        · exact ⟨by omega, b⟩)
    by_cases q1 : n < cn i
    · rw [if_pos (nI_lt q1 (by omega))]
      exact skip (fun w => by have := w.1; omega)
    · rw [if_neg (nI_nlt (by omega) (by omega))]
      cases l : v_X8_isLawful (nI i) owed with
      | false =>
        rw [ifF]
        refine skip (fun w => ?_)
        have := w.2
        unfold Lw at this
        rw [l] at this; cases this
      | true =>
        rw [ifT]
        have A := BEP.addM (i := i) (vn_45 hL) hz (fun h hh => hh.1)
        have A := A.cong (Q := fun h => h < i + 1 ∧ cn h ≤ n ∧ Lw owed h) (fun h => by
          constructor
          · rintro (⟨a, b⟩ | rfl)
            · exact ⟨by omega, b⟩
            · exact ⟨by omega, by omega, l⟩
          · rintro ⟨a, b⟩
            by_cases q : h = i
            · exact Or.inr q
            · exact Or.inl ⟨by omega, b⟩)
        by_cases q2 : z1 < nI (vn mw told i)
        · rw [if_pos q2]
          rw [if_pos q2, if_pos q2] at A; exact A
        · rw [if_neg q2]
          rw [if_neg q2, if_neg q2] at A
          by_cases q3 : nI (vn mw told i) = z1
          · rw [if_pos q3]
            rw [if_pos q3, if_pos q3] at A
            by_cases q4 : nI (cnt z2) ≤ nI (cn i)
            · rw [if_pos q4]
              rw [if_pos q4, if_pos q4] at A; exact A
            · rw [if_neg q4]
              rw [if_neg q4, if_neg q4] at A; exact A
          · rw [if_neg q3]
            rw [if_neg q3, if_neg q3] at A; exact A) 4096 0 (-9, -9) (by decide) (Or.inl ⟨rfl, rfl, fun h hh => by have := hh.1; omega⟩)
  obtain ⟨a1, a2, ha⟩ := ex2 (it (v_X8_bestHanging_L9 (nI n) mw owed told) 4096 0 (-9, -9))
  refine ⟨a1, ?_⟩
  unfold v_X8_bestHanging
  rw [bnd2_eq ha]
  rw [← ha] at key
  exact key
theorem best_eq (hL : RLs wc op pl fh sp va ce ne ow ro mw told owed) {n : Nat} (hn : n < 6) {lw gr be mo : Nat → Int32} (h : SV lw gr be mo mw told owed) : be n = v_X8_bestHanging (nI n) mw owed told := by
  obtain ⟨m, hm⟩ := best_ok hL hn
  exact BEP.uniq (h n hn).2.2 hm
theorem m_many (hL : RLs wc op pl fh sp va ce ne ow ro mw told owed) {x im o1 o2 : Int32} {lw gr be mo o3 o4 o5 o6 : Nat → Int32} (h : RS im lw gr be mo mw told owed) (e : (o1, o2, o3, o4, o5, o6) = v_X7_many x im lw gr be mo wc ro ce ne va) : o1 = v_X8_many x owed ∧ RS o2 o3 o4 o5 o6 mw told owed := by
  have f7 : v_X7_many x im lw gr be mo wc ro ce ne va = if bI (v_X7_isSquares x) = 0 then (-2, im, lw, gr, be, mo) else bnd6 (v_X5_lawfulOf x im lw gr be mo wc ro ce ne va) (fun a b c d e f => (a, b, c, d, e, f)) := by
    unfold v_X7_many
    rw [bnd_eq rfl]
  have f8 : v_X8_many x owed = if bI (v_X8_in x.toInt64 0 5) = 0 then -2 else it (v_X8_many_L19 x owed) 4096 0 0 := by
    unfold v_X8_many
    rw [bnd_eq rfl, bnd_eq rfl]
  rw [f7] at e; rw [f8]
  rcases q5 x with ⟨a, b⟩ | ⟨n, hn, rfl, a, b⟩
  · rw [a, ifF] at e; rw [b, ifF]
    cases e
    exact ⟨rfl, h⟩
  · rw [a, ifT] at e; rw [b, ifT]
    obtain ⟨a1, a2, a3, a4, a5, ha, hs⟩ := lawfulOf_ok hL h hn
    rw [bnd6_eq ha.symm] at e
    cases e
    exact ⟨(hs n hn).1, RS_of hs⟩
theorem m_best (hL : RLs wc op pl fh sp va ce ne ow ro mw told owed) {x y im o1 o2 : Int32} {lw gr be mo o3 o4 o5 o6 : Nat → Int32} (h : RS im lw gr be mo mw told owed) (e : (o1, o2, o3, o4, o5, o6) = v_X7_best x y im lw gr be mo wc ro ce ne va) : o1 = v_X8_best x y mw owed told ∧ RS o2 o3 o4 o5 o6 mw told owed := by
  have f7 : v_X7_best x y im lw gr be mo wc ro ce ne va = if bI (v_X7_isSquares x) = 0 then (-2, im, lw, gr, be, mo) else if y < 0 then (-2, im, lw, gr, be, mo) else if y ≤ 2 then bnd6 (v_X5_bestOf x im lw gr be mo wc ro ce ne va) (fun a b c d e f => if a = -9 then (-9, b, c, d, e, f) else if y = 1 then (a, b, c, d, e, f) else if y = 0 then (v_X1_sumOf (v_X1_grantedBy a wc ce ne) wc va, b, c, d, e, f) else (v_X1_grantedBy a wc ce ne, b, c, d, e, f)) else (-2, im, lw, gr, be, mo) := by
    unfold v_X7_best
    rw [bnd_eq rfl]
    rfl
  have f8 : v_X8_best x y mw owed told = if bI (v_X8_in x.toInt64 0 5) = 0 then -2 else if bI (v_X8_in y.toInt64 0 2) = 0 then -2 else (fun b => if b = -9 then -9 else if y = 0 then v_X8_worthOf (v_X8_granted b mw told) mw told else if y = 1 then b else v_X8_granted b mw told) (v_X8_bestHanging x mw owed told) := by
    unfold v_X8_best
    rw [bnd_eq rfl, bnd_eq rfl, bnd_eq rfl, bnd_eq rfl, bnd_eq rfl, bnd_eq rfl]
  rw [f7] at e; rw [f8]
  rcases q5 x with ⟨a, b⟩ | ⟨n, hn, rfl, a, b⟩
  · rw [a, ifF] at e; rw [b, ifF]
    cases e
    exact ⟨rfl, h⟩
  · rw [a, ifT] at e; rw [b, ifT]
    rcases in02 y with ⟨b, c⟩ | ⟨s, hs, rfl, b, c, d⟩
    · rw [b, ifF]
      have e : (o1, o2, o3, o4, o5, o6) = (-2, im, lw, gr, be, mo) := by
        rcases c with c | ⟨c, d⟩
        · rw [if_pos c] at e; exact e
        · rw [if_neg c, if_neg d] at e; exact e
      cases e
      exact ⟨rfl, h⟩
    · rw [b, ifT]
      rw [if_neg c, if_pos d] at e
      obtain ⟨a1, a2, a3, a4, a5, ha, hs⟩ := bestOf_ok hL h hn
      rw [bnd6_eq ha.symm, best_eq hL hn hs, sum_eq hL, granted_eq hL] at e
      generalize v_X8_bestHanging (nI n) mw owed told = bb at e ⊢
      by_cases q1 : bb = -9
      · rw [if_pos q1] at e
        cases e
        exact ⟨(if_pos q1).symm, RS_of hs⟩
      · rw [if_neg q1] at e
        show o1 = (if bb = -9 then -9 else if nI s = 0 then v_X8_worthOf (v_X8_granted bb mw told) mw told else if nI s = 1 then bb else v_X8_granted bb mw told) ∧ _
        rw [if_neg q1]
        by_cases q2 : nI s = 1
        · rw [if_pos q2] at e
          rw [if_neg (show ¬ nI s = 0 by rw [q2]; decide), if_pos q2]
          cases e
          exact ⟨rfl, RS_of hs⟩
        · rw [if_neg q2] at e
          rw [if_neg q2]
          by_cases q3 : nI s = 0
          · rw [if_pos q3] at e
            rw [if_pos q3]
            cases e
            exact ⟨rfl, RS_of hs⟩
          · rw [if_neg q3] at e
            rw [if_neg q3]
            cases e
            exact ⟨rfl, RS_of hs⟩
end Best
