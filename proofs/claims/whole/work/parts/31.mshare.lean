/-! own words, pure: fractions; shares -/
def EU (z : Int32 × Int32) : (Int32 × Int32) ⊕ (Int32 × Int32) := if z.1 = 0 then .inr z else .inl (z.2 - z.2 / z.1 * z.1, z.1)
theorem eu_mono {f : Nat → Int32 × Int32 → (Int32 × Int32) ⊕ (Int32 × Int32)} (hf : ∀ i z, f i z = EU z) {r : Int32 × Int32} : ∀ (k i j m : Nat) (s : Int32 × Int32), itx f k i s = .inr r → itx f (k + m) j s = .inr r
  | 0, i, j, m, s, h => by
    rw [itx_z] at h; cases h
  | k + 1, i, j, m, s, h => by
    rw [show k + 1 + m = (k + m) + 1 by omega]
    cases q : EU s with
    | inr r' =>
      rw [itx_out (hf i s |>.trans q)] at h
      rw [itx_out (hf j s |>.trans q)]
      exact h
    | inl s' =>
      rw [itx_go (hf i s |>.trans q)] at h
      rw [itx_go (hf j s |>.trans q)]
      exact eu_mono hf k (i + 1) (j + 1) m s' h
theorem eu_same {f g : Nat → Int32 × Int32 → (Int32 × Int32) ⊕ (Int32 × Int32)} (hf : ∀ i z, f i z = EU z) (hg : ∀ i z, g i z = EU z) : ∀ (k i : Nat) (s : Int32 × Int32), itx f k i s = itx g k i s
  | 0, _, _ => rfl
  | k + 1, i, s => by
    cases q : EU s with
    | inr r' => rw [itx_out (hf i s |>.trans q), itx_out (hg i s |>.trans q)]
    | inl s' =>
      rw [itx_go (hf i s |>.trans q), itx_go (hg i s |>.trans q)]
      exact eu_same hf hg k (i + 1) s'
theorem rem_abs {x y : Int32} : (x - x / y * y).toInt.natAbs = x.toInt.natAbs % y.toInt.natAbs := by
  rw [rem_toInt, Int.natAbs_tmod]
theorem i32_0 {x : Int32} (h : x.toInt.natAbs = 0) : x = 0 := Int32.toInt_inj.mp (by rw [show (0 : Int32).toInt = 0 from rfl]; omega)
theorem i32_ne {x : Int32} (h : ¬ x = 0) : 0 < x.toInt.natAbs := by
  rcases Nat.eq_zero_or_pos x.toInt.natAbs with q | q
  · exact absurd (i32_0 q) h
  · exact q
theorem eu_step {a b : Int32} (h : ¬ a = 0) : EU (a, b) = .inl (b - b / a * a, a) := if_neg h
theorem eu_end {a b : Int32} (h : a = 0) : EU (a, b) = .inr (a, b) := if_pos h
theorem eu_log {f : Nat → Int32 × Int32 → (Int32 × Int32) ⊕ (Int32 × Int32)} (hf : ∀ i z, f i z = EU z) : ∀ (m i : Nat) (a b : Int32), a.toInt.natAbs < 2 ^ m → ∃ r, itx f (2 * m + 1) i (a, b) = .inr r
  | 0, i, a, b, h => ⟨(a, b), itx_out ((hf i _).trans (eu_end (i32_0 (by have h : a.toInt.natAbs < 1 := h; omega))))⟩
  | m + 1, i, a, b, h => by
    by_cases q : a = 0
    · exact ⟨(a, b), itx_out ((hf i _).trans (eu_end q))⟩
    · rw [show 2 * (m + 1) + 1 = (2 * m + 2) + 1 by omega, itx_go ((hf i _).trans (eu_step q))]
      have ha := i32_ne q
      by_cases q2 : b - b / a * a = 0
      · exact ⟨_, itx_out ((hf _ _).trans (eu_end q2))⟩
      · rw [show 2 * m + 2 = (2 * m + 1) + 1 by omega, itx_go ((hf _ _).trans (eu_step q2))]
        refine eu_log hf m _ _ _ ?_
        have h1 := i32_ne q2
        rw [rem_abs]
        have e1 : (b - b / a * a).toInt.natAbs = b.toInt.natAbs % a.toInt.natAbs := rem_abs
        have l1 : b.toInt.natAbs % a.toInt.natAbs < a.toInt.natAbs := Nat.mod_lt _ ha
        rw [e1] at h1 ⊢
        generalize b.toInt.natAbs % a.toInt.natAbs = B at *
        generalize a.toInt.natAbs = A at *
        have l2 : A % B < B := Nat.mod_lt _ h1
        have l3 : A % B ≤ A - B := by
          rw [Nat.mod_eq_sub_mod (by omega)]
          exact Nat.mod_le _ _
        rw [Nat.pow_succ] at h
        omega
theorem eu_lin {f : Nat → Int32 × Int32 → (Int32 × Int32) ⊕ (Int32 × Int32)} (hf : ∀ i z, f i z = EU z) : ∀ (n i : Nat) (a b : Int32), a.toInt.natAbs ≤ n → ∃ r, itx f (n + 1) i (a, b) = .inr r
  | 0, i, a, b, h => ⟨(a, b), itx_out ((hf i _).trans (eu_end (i32_0 (by omega))))⟩
  | n + 1, i, a, b, h => by
    by_cases q : a = 0
    · exact ⟨(a, b), itx_out ((hf i _).trans (eu_end q))⟩
    · rw [itx_go ((hf i _).trans (eu_step q))]
      have := rem_lt (x := b) q
      exact eu_lin hf n _ _ _ (by omega)
theorem cd_EU (i : Nat) (z : Int32 × Int32) : v_X7_commonDivisor_L7 i z = EU z := by
  obtain ⟨a, b⟩ := z
  rfl
theorem co_EU (i : Nat) (z : Int32 × Int32) : v_X8_common_L4 i z = EU z := by
  obtain ⟨a, b⟩ := z
  rfl
theorem common_eq {x y : Int32} (h : ¬ y < 0) : v_X7_commonDivisor x y = v_X8_common x y := by
  have e7 : v_X7_commonDivisor x y = (unS (itx v_X7_commonDivisor_L7 64 0 (y, x))).2 := rfl
  have e8 : v_X8_common x y = (unS (itx v_X8_common_L4 (y.toInt.natAbs + 1) 0 (y, x))).2 := rfl
  obtain ⟨j, hj, rfl⟩ := nI_of h
  have hn : (nI j).toInt.natAbs = j := by rw [nI_toInt hj]; rfl
  rw [e7, e8, hn]
  obtain ⟨r1, h1⟩ := eu_log cd_EU 31 0 (nI j) x (by rw [hn]; exact hj)
  obtain ⟨r2, h2⟩ := eu_lin co_EU j 0 (nI j) x (by rw [hn]; exact Nat.le_refl _)
  have a1 := eu_mono cd_EU _ 0 0 (1 + j + 1) _ h1
  have a2 := eu_mono co_EU _ 0 0 64 _ h2
  rw [← eu_same cd_EU co_EU, show j + 1 + 64 = 2 * 31 + 1 + (1 + j + 1) by omega, a1] at a2
  rw [eu_mono cd_EU _ 0 0 1 _ h1, h2]
  cases a2
  rfl
theorem least_eq {x y : Int32} (b : Bool) (h : ¬ y < 0) (h0 : ¬ y = 0) : v_X7_inLeastTerms x y b = if bI b = 0 then y / v_X8_common x y else x / v_X8_common x y := by
  have f : v_X7_inLeastTerms x y b = if bI b = 0 then (if v_X7_commonDivisor x y = 0 then y else y / v_X7_commonDivisor x y) else (if v_X7_commonDivisor x y = 0 then x else x / v_X7_commonDivisor x y) := by
    unfold v_X7_inLeastTerms
    rw [bnd_eq rfl]
  rw [f, common_eq h, if_neg (common_ne h0), if_neg (common_ne h0)]
theorem fact_eq (x : Int32) : v_X7_factorial x = v_X8_factorial x := by
  have e7 : v_X7_factorial x = it v_X7_factorial_L4 ((x.toNatClampNeg + 1) - 2) 2 1 := rfl
  have e8 : v_X8_factorial x = it v_X8_factorial_L4 ((x.toNatClampNeg + 1) - 2) 2 1 := rfl
  rw [e7, e8]
  exact it_cong (2 + ((x.toNatClampNeg + 1) - 2)) (fun i s hi => rfl) _ _ _ (Nat.le_refl _)
theorem fact_tab : ∀ k, k < 6 → ¬ v_X8_factorial (nI k) < 0 ∧ ¬ v_X8_factorial (nI k) = 0 := by decide +kernel
theorem it_upd {f : Nat → (Nat → Int32) → (Nat → Int32)} {F : Nat → Int32 → Int32} (N : Nat) (hf : ∀ i z, i < N → f i z = upd z i (F i (z i))) (z : Nat → Int32) (j : Nat) : (j < N → it f N 0 z j = F j (z j)) ∧ (¬ j < N → it f N 0 z j = z j) := by
  have := it_invN (f := f) N (fun i s => (j < i → s j = F j (z j)) ∧ (¬ j < i → s j = z j)) (fun i s hi hs => by
    rw [hf i s hi]
    by_cases q : j = i
    · subst q
      rw [pk_us, hs.2 (Nat.lt_irrefl _)]
      exact ⟨fun _ => rfl, fun w => absurd (Nat.lt_succ_self _) w⟩
    · rw [pk_un q]
      exact ⟨fun w => hs.1 (by omega), fun w => hs.2 (by omega)⟩) N 0 z (by omega) ⟨fun w => by omega, fun _ => rfl⟩
  rwa [Nat.zero_add] at this
section Share
variable {wc op mw : Int32} {pl fh sp va ce ne ow ro told owed : Nat → Int32}
theorem lay_in (hL : RLs wc op pl fh sp va ce ne ow ro mw told owed) {k : Nat} (hk : k ≤ 5) (hm : mw = nI k) (g : Int32) (z : Nat → Int32) (j : Nat) (hj : j < 2 ^ k) : it (v_X8_layValues_L55 mw told g) ((1 : Int32) <<< (mw &&& 31)).toNatClampNeg 0 z j = if nI (Wt mw told (g &&& nI j)) ≤ z j then z j else nI (Wt mw told (g &&& nI j)) := by
  have p32 : 2 ^ k ≤ 2 ^ 5 := Nat.pow_le_pow_right (by decide) hk
  have e : ((1 : Int32) <<< (mw &&& 31)).toNatClampNeg = 2 ^ k := by
    rw [hm, sh_nI k (by omega), nI_clamp (by omega)]
  rw [e]
  refine (it_upd (F := fun i y => if nI (Wt mw told (g &&& nI i)) ≤ y then y else nI (Wt mw told (g &&& nI i))) (2 ^ k) (fun i s hi => ?_) z j).1 hj
  unfold v_X8_layValues_L55
  rw [bnd_eq (Wt_eq hL _).1.symm, nI_clamp (by omega)]
  by_cases q : nI (Wt mw told (g &&& nI i)) ≤ s i
  · rw [if_pos q]
    show upd s i (s i) = upd s i (if nI (Wt mw told (g &&& nI i)) ≤ s i then s i else nI (Wt mw told (g &&& nI i)))
    rw [if_pos q]
  · rw [if_neg q]
    show upd s i (nI (Wt mw told (g &&& nI i))) = upd s i (if nI (Wt mw told (g &&& nI i)) ≤ s i then s i else nI (Wt mw told (g &&& nI i)))
    rw [if_neg q]
theorem lay_ok (hL : RLs wc op pl fh sp va ce ne ow ro mw told owed) {k n : Nat} (hk : k ≤ 5) (hm : mw = nI k) (hn : n < 6) (z0 : Nat → Int32) : ∀ j, j < 2 ^ k → ∃ m : Nat, m ≤ 45 ∧ v_X8_layValues (nI n) mw owed told z0 j = nI m ∧ MH mw told owed n (nI j) m := by
  intro j hj
  have p32 : 2 ^ k ≤ 2 ^ 5 := Nat.pow_le_pow_right (by decide) hk
  have e8 : v_X8_layValues (nI n) mw owed told z0 = it (v_X8_layValues_L23 (nI n) mw owed told) 4096 0 (it v_X8_layValues_L2 32 0 z0) := by
    unfold v_X8_layValues
    rw [bnd_eq rfl, bnd_eq rfl]
  have z1 : it v_X8_layValues_L2 32 0 z0 j = 0 := (it_upd (f := v_X8_layValues_L2) (F := fun _ _ => 0) 32 (fun i z hi => by
    show upd z (nI i).toNatClampNeg 0 = upd z i 0
    rw [nI_clamp (by omega)]) z0 j).1 (by omega)
  have key := it_invN (f := v_X8_layValues_L23 (nI n) mw owed told) 4096 (fun i (z : Nat → Int32) => ∃ m : Nat, m ≤ 45 ∧ z j = nI m ∧ MX (fun h => h < i ∧ cn h ≤ n ∧ Lw owed h) (fun h => Wt mw told (nI (Gs mw told h) &&& nI j)) m) (fun i z hi hz => by
    have f : v_X8_layValues_L23 (nI n) mw owed told i z = if nI n < nI (cn i) then z else if bI (v_X8_isLawful (nI i) owed) = 0 then z else it (v_X8_layValues_L55 mw told (nI (Gs mw told i))) ((1 : Int32) <<< (mw &&& 31)).toNatClampNeg 0 z := by
      unfold v_X8_layValues_L23
      rw [bnd_eq (ones_cnt (nI i)).symm, bnd_eq rfl, bnd_eq (Gs_eq hL i).1.symm, bnd_eq rfl]
      rfl
    rw [f]
    have hc : cn i ≤ 12 := cnt_le _
    obtain ⟨m, hm1, e1, x1, x2⟩ := hz
    have skip : ¬ (cn i ≤ n ∧ Lw owed i) → ∃ m : Nat, m ≤ 45 ∧ z j = nI m ∧ MX (fun h => h < i + 1 ∧ cn h ≤ n ∧ Lw owed h) (fun h => Wt mw told (nI (Gs mw told h) &&& nI j)) m := fun hs => by
      refine ⟨m, hm1, e1, fun h hh => x1 h ?_, x2.elim Or.inl (fun ⟨h, hh, w⟩ => Or.inr ⟨h, ⟨by have := hh.1; omega, hh.2⟩, w⟩)⟩
      by_cases q : h = i
      · subst q; exact absurd hh.2 hs
      · exact ⟨by have := hh.1; omega, hh.2⟩
    by_cases q1 : n < cn i
    · rw [if_pos (nI_lt q1 (by omega))]
      exact skip (fun w => by have := w.1; omega)
    · rw [if_neg (nI_nlt (by omega) (by omega))]
      cases l : v_X8_isLawful (nI i) owed with
      | false =>
        rw [ifF]
        refine skip (fun w => ?_)
        have := w.2
        unfold Lw at this
        rw [l] at this; cases this
      | true =>
        rw [ifT, lay_in hL hk hm _ _ _ hj, e1]
        have hw := (Wt_eq hL (nI (Gs mw told i) &&& nI j)).2
        by_cases q : Wt mw told (nI (Gs mw told i) &&& nI j) ≤ m
        · rw [if_pos (nI_le q (by omega))]
          refine ⟨m, hm1, rfl, fun h hh => ?_, x2.elim Or.inl (fun ⟨h, hh, w⟩ => Or.inr ⟨h, ⟨by have := hh.1; omega, hh.2⟩, w⟩)⟩
          by_cases q2 : h = i
          · subst q2; exact q
          · exact x1 h ⟨by have := hh.1; omega, hh.2⟩
        · rw [if_neg (nI_ge (by omega) (by omega))]
          refine ⟨_, hw, rfl, fun h hh => ?_, Or.inr ⟨i, ⟨by omega, by omega, l⟩, rfl⟩⟩
          by_cases q2 : h = i
          · subst q2; exact Nat.le_refl _
          · have := x1 h ⟨by have := hh.1; omega, hh.2⟩
            show Wt mw told (nI (Gs mw told h) &&& nI j) ≤ Wt mw told (nI (Gs mw told i) &&& nI j)
            have this : Wt mw told (nI (Gs mw told h) &&& nI j) ≤ m := this
            omega) 4096 0 (it v_X8_layValues_L2 32 0 z0) (by decide) ⟨0, by decide, z1, fun h hh => by have := hh.1; omega, Or.inl rfl⟩
  rw [e8]
  exact key
theorem share_loop (hL : RLs wc op pl fh sp va ce ne ow ro mw told owed) {im : Int32} {lw gr be mo : Nat → Int32} (h : RS im lw gr be mo mw told owed) {n w k : Nat} (hn : n < 6) (hk : k ≤ 5) (hm : mw = nI k) (hw : w < k) (vals : Nat → Int32) (hv : ∀ j, j < 2 ^ k → ∃ m : Nat, m ≤ 45 ∧ vals j = nI m ∧ MH mw told owed n (nI j) m) : ∃ (a : Int32) (b c d e : Nat → Int32), it (v_X7_share_L35 (nI w) (nI n) wc ro ce ne va mw) (2 ^ k) 0 (0, im, lw, gr, be, mo) = (it (v_X8_share_L36 (nI w) mw vals) (2 ^ k) 0 0, a, b, c, d, e) ∧ RS a b c d e mw told owed := by
  have p32 : 2 ^ k ≤ 2 ^ 5 := Nat.pow_le_pow_right (by decide) hk
  have key := it_rel (f := v_X7_share_L35 (nI w) (nI n) wc ro ce ne va mw) (g := v_X8_share_L36 (nI w) mw vals) (2 ^ k) (fun i (s : Int32 × Int32 × (Nat → Int32) × (Nat → Int32) × (Nat → Int32) × (Nat → Int32)) (t : Int32) => ∃ (a : Int32) (b c d e : Nat → Int32), s = (t, a, b, c, d, e) ∧ RS a b c d e mw told owed) (fun i s t hi hs => by
    obtain ⟨a, b, c, d, e, rfl, hR⟩ := hs
    have f7 : v_X7_share_L35 (nI w) (nI n) wc ro ce ne va mw i (t, a, b, c, d, e) = if bI (hb (nI i) w) = 0 then bnd6 (v_X5_mostWorth (nI n) (nI i ||| ((1 : Int32) <<< (nI w &&& 31))) a b c d e wc ro ce ne va) (fun x a b c d e => bnd6 (v_X5_mostWorth (nI n) (nI i) a b c d e wc ro ce ne va) (fun y a b c d e => (t + ((v_X8_factorial (nI (cnt (nI i))) * v_X8_factorial ((mw - 1) - nI (cnt (nI i)))) * (x - y)), a, b, c, d, e))) else (t, a, b, c, d, e) := by
      show v_X7_share_L35c (nI w) (nI n) wc ro ce ne va mw i t a b c d e = _
      unfold v_X7_share_L35c
      rw [bnd_eq (has7 (nI i) (by omega)).symm, bnd_eq (bc_ones (by omega)).symm, bnd_eq (fact_eq _).symm, bnd_eq (fact_eq _).symm]
      rfl
    have f8 : v_X8_share_L36 (nI w) mw vals i t = if bI (hb (nI i) w) = 0 then t + ((v_X8_factorial (nI (cnt (nI i))) * v_X8_factorial ((mw - 1) - nI (cnt (nI i)))) * (vals (nI i ||| ((1 : Int32) <<< (nI w &&& 31))).toNatClampNeg - vals (nI i).toNatClampNeg)) else t := by
      unfold v_X8_share_L36
      rw [bnd_eq (has8 (nI i) (by omega)).symm, bnd_eq (ones_cnt (nI i)).symm, bnd_eq rfl, bnd_eq (ones_cnt (nI i)).symm, bnd_eq rfl, bnd_eq rfl]
    rw [f7, f8]
    cases q : hb (nI i) w with
    | true =>
      rw [ifT, ifT]
      exact ⟨a, b, c, d, e, rfl, hR⟩
    | false =>
      rw [ifF, ifF]
      have eo : nI i ||| ((1 : Int32) <<< (nI w &&& 31)) = nI (i ||| 2 ^ w) := by rw [sh_nI w (by omega), nI_or]
      have lo : i ||| 2 ^ w < 2 ^ k := Nat.or_lt_two_pow hi (Nat.pow_lt_pow_right (by decide) hw)
      obtain ⟨m1, a1, b1, c1, d1, e1, ha1, hs1, hm1, hx1⟩ := mostWorth_ok hL hR hn (nI i ||| ((1 : Int32) <<< (nI w &&& 31)))
      rw [bnd6_eq ha1.symm]
      obtain ⟨m2, a2, b2, c2, d2, e2, ha2, hs2, hm2, hx2⟩ := mostWorth_ok hL (RS_of (im := a1) hs1) hn (nI i)
      rw [bnd6_eq ha2.symm]
      obtain ⟨u1, _, v1, y1⟩ := hv (i ||| 2 ^ w) lo
      obtain ⟨u2, _, v2, y2⟩ := hv i hi
      rw [eo] at hx1
      rw [eo, nI_clamp (by omega), nI_clamp (by omega), v1, v2, MH.uniq y1 hx1, MH.uniq y2 hx2]
      exact ⟨a2, b2, c2, d2, e2, rfl, RS_of hs2⟩) (2 ^ k) 0 (0, im, lw, gr, be, mo) 0 (by omega) ⟨im, lw, gr, be, mo, rfl, h⟩
  exact key
theorem m_share (hL : RLs wc op pl fh sp va ce ne ow ro mw told owed) {x y im o1 o3 p1 : Int32} {b3 : Bool} {lw gr be mo o2 o4 o5 o6 vals p2 : Nat → Int32} (h : RS im lw gr be mo mw told owed) (e : (o1, o2, o3, o4, o5, o6) = v_X7_share x y b3 wc im lw gr be mo ro ce ne va) (e' : (p1, p2) = v_X8_share x y b3 mw owed told vals) : o1 = p1 ∧ RS o3 o4 o5 o6 o2 mw told owed := by
  have f7 : v_X7_share x y b3 wc im lw gr be mo ro ce ne va = if bI (v_X7_isWish x wc) = 0 then (-1, mo, im, lw, gr, be) else if bI (v_X7_isSquares y) = 0 then (-2, mo, im, lw, gr, be) else bnd6 (it (v_X7_share_L35 x y wc ro ce ne va wc) ((1 : Int32) <<< (wc &&& 31)).toNatClampNeg 0 (0, im, lw, gr, be, mo)) (fun a b c d e f => (v_X7_inLeastTerms a (v_X7_factorial wc) b3, f, b, c, d, e)) := by
    unfold v_X7_share
    rw [bnd_eq rfl, bnd_eq rfl, bnd_eq rfl]
    rfl
  have f8 : v_X8_share x y b3 mw owed told vals = if bI (v_X8_isWish x mw) = 0 then (-1, vals) else if bI (v_X8_in y.toInt64 0 5) = 0 then (-2, vals) else (fun o27 => (fun s => if bI b3 = 0 then (v_X8_factorial mw / v_X8_common s (v_X8_factorial mw), o27) else (s / v_X8_common s (v_X8_factorial mw), o27)) (it (v_X8_share_L36 x mw o27) ((1 : Int32) <<< (mw &&& 31)).toNatClampNeg 0 0)) (v_X8_layValues y mw owed told vals) := by
    unfold v_X8_share
    rw [bnd_eq rfl, bnd_eq rfl, bnd_eq rfl, bnd_eq rfl, bnd_eq rfl, bnd_eq rfl, bnd_eq rfl]
  have hLL := hL
  obtain ⟨⟨k, hk, rfl, rfl, hw⟩, hd⟩ := hL
  rw [f7] at e; rw [f8] at e'
  rcases w7 (x := x) hk rfl with ⟨a, b⟩ | ⟨w, hwk, rfl, a, b⟩
  · rw [a, ifF] at e; rw [b, ifF] at e'
    cases e; cases e'
    exact ⟨rfl, h⟩
  · rw [a, ifT] at e; rw [b, ifT] at e'
    rcases q5 y with ⟨a, b⟩ | ⟨n, hn, rfl, a, b⟩
    · rw [a, ifF] at e; rw [b, ifF] at e'
      cases e; cases e'
      exact ⟨rfl, h⟩
    · have p32 : 2 ^ k ≤ 2 ^ 5 := Nat.pow_le_pow_right (by decide) hk
      rw [a, ifT, sh_nI k (by omega), nI_clamp (by omega)] at e; rw [b, ifT, sh_nI k (by omega), nI_clamp (by omega)] at e'
      have lv := lay_ok hLL hk rfl hn vals
      obtain ⟨a1, b1, c1, d1, e1, ha, hs⟩ := share_loop hLL h hn hk rfl hwk _ lv
      rw [bnd6_eq ha.symm, fact_eq] at e
      obtain ⟨n1, n2⟩ := fact_tab k (by omega)
      rw [least_eq b3 n1 n2] at e
      cases b3 with
      | false =>
        rw [ifF] at e
        have e' : (p1, p2) = (v_X8_factorial (nI k) / v_X8_common (it (v_X8_share_L36 (nI w) (nI k) (v_X8_layValues (nI n) (nI k) owed told vals)) (2 ^ k) 0 0) (v_X8_factorial (nI k)), v_X8_layValues (nI n) (nI k) owed told vals) := by rw [e']; exact ifF _ _
        cases e; cases e'
        exact ⟨rfl, hs⟩
      | true =>
        rw [ifT] at e
        have e' : (p1, p2) = (it (v_X8_share_L36 (nI w) (nI k) (v_X8_layValues (nI n) (nI k) owed told vals)) (2 ^ k) 0 0 / v_X8_common (it (v_X8_share_L36 (nI w) (nI k) (v_X8_layValues (nI n) (nI k) owed told vals)) (2 ^ k) 0 0) (v_X8_factorial (nI k)), v_X8_layValues (nI n) (nI k) owed told vals) := by rw [e']; exact ifT _ _
        cases e; cases e'
        exact ⟨rfl, hs⟩
end Share
