/-! own words, pure: the whole text, net and model side by side -/
section Wish
variable {len : Nat} {f : Nat → Int32} {co nu fh sp va sq wc op H many owes : Int32} {ow ro pl fhs sps vas ce ne rO rW : Nat → Int32}
theorem rw_f {L a fa t b1 c1 A b2 c2 B b3 c3 C b4 c4 : Int32} {k : Nat} (hk : k < 5) (h1 : v_X8_two 4095 L (a + 1) fa f = (t, b1, c1)) (h2 : v_X8_figure 63 L b1 c1 f = (A, b2, c2)) (h3 : v_X8_figure 126 L b2 c2 f = (B, b3, c3)) (h4 : v_X8_figure 1022 L b3 c3 f = (C, b4, c4)) : v_X8_readWish (nI k) L a fa f rW = if c4 = -9 then (if L ≤ b4 then (nI k, b4, v_X8_fail b4 c4, upd (upd (upd (upd rW (5 * k) t) (5 * k + 1) A) (5 * k + 2) B) (5 * k + 3) C) else if f b4.toNatClampNeg = 100 then (nI k + 1, b4 + 1, c4, upd (upd (upd (upd (upd rW (5 * k) t) (5 * k + 1) A) (5 * k + 2) B) (5 * k + 3) C) (5 * k + 4) 1) else if f b4.toNatClampNeg = 108 then (nI k + 1, b4 + 1, c4, upd (upd (upd (upd (upd rW (5 * k) t) (5 * k + 1) A) (5 * k + 2) B) (5 * k + 3) C) (5 * k + 4) 0) else (nI k, b4, v_X8_fail b4 c4, upd (upd (upd (upd rW (5 * k) t) (5 * k + 1) A) (5 * k + 2) B) (5 * k + 3) C)) else (nI k, b4, v_X8_fail b4 c4, upd (upd (upd (upd rW (5 * k) t) (5 * k + 1) A) (5 * k + 2) B) (5 * k + 3) C) := by
  have ix : ∀ c : Nat, c < 5 → (5 * nI k + nI c).toNatClampNeg = 5 * k + c := fun c hc => by
    rw [show (5 : Int32) = nI 5 from rfl, pk_mul, nI_add, nI_clamp (by omega)]
  have ix0 : (5 * nI k).toNatClampNeg = 5 * k := by
    rw [show (5 : Int32) = nI 5 from rfl, pk_mul, nI_clamp (by omega)]
  unfold v_X8_readWish
  rw [bnd3_eq h1.symm, bnd3_eq h2.symm, bnd3_eq h3.symm, bnd3_eq h4.symm, bnd_eq rfl, ix0, show (5 * nI k + (1 : Int32)).toNatClampNeg = 5 * k + 1 from ix 1 (by decide), show (5 * nI k + (2 : Int32)).toNatClampNeg = 5 * k + 2 from ix 2 (by decide), show (5 * nI k + (3 : Int32)).toNatClampNeg = 5 * k + 3 from ix 3 (by decide), show (5 * nI k + (4 : Int32)).toNatClampNeg = 5 * k + 4 from ix 4 (by decide)]
theorem rw_bad {L a fa t b1 c1 A b2 c2 B b3 c3 C b4 : Int32} {k p : Nat} (hp : p < 2 ^ 31) (hk : k < 5) (h1 : v_X8_two 4095 L (a + 1) fa f = (t, b1, c1)) (h2 : v_X8_figure 63 L b1 c1 f = (A, b2, c2)) (h3 : v_X8_figure 126 L b2 c2 f = (B, b3, c3)) (h4 : v_X8_figure 1022 L b3 c3 f = (C, b4, nI p)) : ∃ (m b : Int32) (g : Nat → Int32), v_X8_readWish (nI k) L a fa f rW = (m, b, nI p, g) := by
  refine ⟨nI k, b4, upd (upd (upd (upd rW (5 * k) t) (5 * k + 1) A) (5 * k + 2) B) (5 * k + 3) C, ?_⟩
  rw [rw_f hk h1 h2 h3 h4, if_neg (nI_ne9 hp), show v_X8_fail b4 (nI p) = nI p from if_neg (nI_ne9 hp)]
theorem ph_W {i r k : Nat} (hl : len ≤ 72) (hr : i + r = len) (hi : i < len) (hx : f i = 87) (hk : k < 5) : (∃ (P A B C : Nat) (d : Bool) (r' : Nat), P < 12 ∧ A < 6 ∧ 1 ≤ B ∧ B ≤ 6 ∧ 1 ≤ C ∧ C ≤ 9 ∧ v_X8_readWish (nI k) (nI len) (nI i) (-9) f rW = (nI (k + 1), nI (i + 7), -9, W5 rW k P A B C (bI d)) ∧ i + 7 + r' = len ∧ r = r' + 7 ∧ itx (LT len f) r i (1, co, nu, fh, sp, va, sq, nI k, op, ow, ro, pl, fhs, sps, vas, ce, ne) = itx (LT len f) r' (i + 7) (1, 6, nI P, nI A, nI B, nI C, sq, nI (k + 1), op, ow, ro, upd pl k (nI P), upd fhs k (nI A), upd sps k (nI B), upd vas k (nI C), upd ce k (cl P A B), upd ne k (if d = true then cl P A B else 0))) ∨ (∃ p : Nat, p ≤ len ∧ (∃ (m b : Int32) (g : Nat → Int32), v_X8_readWish (nI k) (nI len) (nI i) (-9) f rW = (m, b, nI p, g)) ∧ Fails len f r i (1, co, nu, fh, sp, va, sq, nI k, op, ow, ro, pl, fhs, sps, vas, ce, ne) p) := by
  have st : LT len f i (1, co, nu, fh, sp, va, sq, nI k, op, ow, ro, pl, fhs, sps, vas, ce, ne) = .inl (3, 0, nu, fh, sp, va, sq, nI k, op, ow, ro, pl, fhs, sps, vas, ce, ne) := LT_t (by omega) (by rw [hx]; exact tk1 (first_W hk))
  have key := two_sim (len := len) (f := f) (i := i + 1) (r := r - 1) (T0 := (3, 0, nu, fh, sp, va, sq, nI k, op, ow, ro, pl, fhs, sps, vas, ce, ne)) (T1 := fun t => (3, 1, nI (10 * t), fh, sp, va, sq, nI k, op, ow, ro, pl, fhs, sps, vas, ce, ne)) (T2 := fun t v => (3, 2, nI (10 * t + v), fh, sp, va, sq, nI k, op, ow, ro, pl, fhs, sps, vas, ce, ne)) AL_0 hl (by omega) (show ¬ (3 : Int32) = 1 by decide) (fun t => show ¬ (3 : Int32) = 1 by decide)
    (fun t hi1 e hF => LT_t (by omega) (by rw [tk3_12 (co := 0) (a := true) (b := nI (10 * t)) (Or.inl z1) (by rw [z1]; exact tn1_ok e hF), z1]))
    (fun hi1 hno => LT_n (by omega) (by
      obtain ⟨n', hn'⟩ := tn1_no (nu := nu) hno
      exact ⟨_, _, _, _, _, _, _, _, _, _, _, _, _, _, _, _, _, by rw [tk3_12 (co := 0) (a := false) (b := n') (Or.inl z1) (by rw [z1]; exact hn')]⟩))
    (fun t v hi1 ht hv e h1 h2 => LT_t (by omega) (by rw [tk3_12 (co := 1) (a := true) (b := nI (10 * t + v)) (Or.inr z2) (by rw [z2]; exact tn2_ok (by decide) ht hv e h1 h2), z2]))
    (fun t hi1 ht hno => LT_n (by omega) (by
      obtain ⟨n', hn'⟩ := tn2_no (co := 2) (by decide) ht hno
      exact ⟨_, _, _, _, _, _, _, _, _, _, _, _, _, _, _, _, _, by rw [tk3_12 (co := 1) (a := false) (b := n') (Or.inr z2) (by rw [z2]; exact hn')]⟩))
  have e1 : nI i + 1 = nI (i + 1) := nI_1 i
  rcases key with ⟨t, v, r1, h1, h2, h3, h6, h8, h7⟩ | ⟨p, q1, h1, h2, h3⟩
  case inr =>
    refine Or.inr ⟨p, h1, rw_bad (by omega) hk (by rw [e1]; exact h2) (fig_dead (by omega)) (fig_dead (by omega)) (fig_dead (by omega)), ?_⟩
    rw [show r = (r - 1) + 1 by omega]
    exact fails_step st h3
  generalize 10 * t + v = P at h1 h2 h3 h7
  have e7 : itx (LT len f) r i (1, co, nu, fh, sp, va, sq, nI k, op, ow, ro, pl, fhs, sps, vas, ce, ne) = itx (LT len f) r1 (i + 3) (3, 2, nI P, fh, sp, va, sq, nI k, op, ow, ro, pl, fhs, sps, vas, ce, ne) := by
    rw [show r = (r - 1) + 1 by omega, itx_go st]
    exact h7
  have h3 : v_X8_two 4095 (nI len) (nI i + 1) (-9) f = (nI P, nI (i + 3), -9) := by rw [e1]; exact h3
  have k2 := fig_sim (len := len) (f := f) (i := i + 3) (r := r1) (lo := 0) (hi9 := 5) (m := 63) (T0 := (3, 2, nI P, fh, sp, va, sq, nI k, op, ow, ro, pl, fhs, sps, vas, ce, ne)) (T1 := fun n => (3, 3, nI P, nI n, sp, va, sq, nI k, op, ow, ro, pl, fhs, sps, vas, ce, ne)) (fun d hd => m63 d (by omega)) (by decide) hl (by omega) (show ¬ (3 : Int32) = 1 by decide)
    (fun d hi1 d1 d2 e => LT_t (by omega) (by
      refine (tk3_w (co := 2) (by rw [z3, tw3, e, if_neg (nI_pos (by omega)), if_neg (show ¬ 5 < nI d from nI_nlt (a := 5) d2 (by decide))])).trans ?_
      rw [z3]))
    (fun hi1 hno => LT_n (by omega) (by
      rcases rngN (f (i + 3) - 48) 0 5 (by decide) (by decide) with q | q | ⟨q1, q2⟩
      · obtain ⟨d, d1, d2, d3⟩ := q
        exact absurd ⟨d, d1, d2, d3⟩ hno
      · exact ⟨_, _, _, _, _, _, _, _, _, _, _, _, _, _, _, _, _, tk3_w (co := 2) (by rw [z3, tw3, if_pos (show f (i + 3) - 48 < 0 from q)])⟩
      · exact ⟨_, _, _, _, _, _, _, _, _, _, _, _, _, _, _, _, _, tk3_w (co := 2) (by rw [z3, tw3, if_neg (show ¬ f (i + 3) - 48 < 0 from q1), if_pos (show 5 < f (i + 3) - 48 from q2)])⟩))
  rcases k2 with ⟨A, r2, a1, a2, a3, a4, a5, a6⟩ | ⟨p, a1, a2, a3⟩
  case inr =>
    exact Or.inr ⟨p, a1, rw_bad (by omega) hk h3 a2 (fig_dead (by omega)) (fig_dead (by omega)), (Fails_eq e7).mpr a3⟩
  have e8 := e7.trans a6
  have k3 := fig_sim (len := len) (f := f) (i := i + 4) (r := r2) (lo := 1) (hi9 := 6) (m := 126) (T0 := (3, 3, nI P, nI A, sp, va, sq, nI k, op, ow, ro, pl, fhs, sps, vas, ce, ne)) (T1 := fun n => (3, 4, nI P, nI A, nI n, va, sq, nI k, op, ow, ro, pl, fhs, sps, vas, ce, ne)) (fun d hd => m126 d (by omega)) (by decide) hl (by omega) (show ¬ (3 : Int32) = 1 by decide)
    (fun d hi1 d1 d2 e => LT_t (by omega) (by
      refine (tk3_w (co := 3) (by rw [z4, tw4, e, if_neg (show ¬ nI d < 1 from nI_nlt (b := 1) d1 (by omega)), if_neg (show ¬ 6 < nI d from nI_nlt (a := 6) d2 (by decide))])).trans ?_
      rw [z4]))
    (fun hi1 hno => LT_n (by omega) (by
      rcases rngN (f (i + 4) - 48) 1 6 (by decide) (by decide) with q | q | ⟨q1, q2⟩
      · obtain ⟨d, d1, d2, d3⟩ := q
        exact absurd ⟨d, d1, d2, d3⟩ hno
      · exact ⟨_, _, _, _, _, _, _, _, _, _, _, _, _, _, _, _, _, tk3_w (co := 3) (by rw [z4, tw4, if_pos (show f (i + 4) - 48 < 1 from q)])⟩
      · exact ⟨_, _, _, _, _, _, _, _, _, _, _, _, _, _, _, _, _, tk3_w (co := 3) (by rw [z4, tw4, if_neg (show ¬ f (i + 4) - 48 < 1 from q1), if_pos (show 6 < f (i + 4) - 48 from q2)])⟩))
  rcases k3 with ⟨B, r3, b1, b2, b3, b4, b5, b6⟩ | ⟨p, b1, b2, b3⟩
  case inr =>
    exact Or.inr ⟨p, b1, rw_bad (by omega) hk h3 a3 b2 (fig_dead (by omega)), (Fails_eq e8).mpr b3⟩
  have e9 := e8.trans b6
  have k4 := fig_sim (len := len) (f := f) (i := i + 5) (r := r3) (lo := 1) (hi9 := 9) (m := 1022) (T0 := (3, 4, nI P, nI A, nI B, va, sq, nI k, op, ow, ro, pl, fhs, sps, vas, ce, ne)) (T1 := fun n => (3, 5, nI P, nI A, nI B, nI n, sq, nI k, op, ow, ro, pl, fhs, sps, vas, ce, ne)) (fun d hd => m1022 d (by omega)) (by decide) hl (by omega) (show ¬ (3 : Int32) = 1 by decide)
    (fun d hi1 d1 d2 e => LT_t (by omega) (by
      refine (tk3_w (co := 4) (by rw [z5, tw5, e, if_neg (show ¬ nI d < 1 from nI_nlt (b := 1) d1 (by omega)), if_neg (show ¬ 9 < nI d from nI_nlt (a := 9) d2 (by decide))])).trans ?_
      rw [z5]))
    (fun hi1 hno => LT_n (by omega) (by
      rcases rngN (f (i + 5) - 48) 1 9 (by decide) (by decide) with q | q | ⟨q1, q2⟩
      · obtain ⟨d, d1, d2, d3⟩ := q
        exact absurd ⟨d, d1, d2, d3⟩ hno
      · exact ⟨_, _, _, _, _, _, _, _, _, _, _, _, _, _, _, _, _, tk3_w (co := 4) (by rw [z5, tw5, if_pos (show f (i + 5) - 48 < 1 from q)])⟩
      · exact ⟨_, _, _, _, _, _, _, _, _, _, _, _, _, _, _, _, _, tk3_w (co := 4) (by rw [z5, tw5, if_neg (show ¬ f (i + 5) - 48 < 1 from q1), if_pos (show 9 < f (i + 5) - 48 from q2)])⟩))
  rcases k4 with ⟨C, r4, c1, c2, c3, c4, c5, c6⟩ | ⟨p, c1, c2, c3⟩
  case inr =>
    exact Or.inr ⟨p, c1, rw_bad (by omega) hk h3 a3 b3 c2, (Fails_eq e9).mpr c3⟩
  have e10 := e9.trans c6
  have e10 : itx (LT len f) r i (1, co, nu, fh, sp, va, sq, nI k, op, ow, ro, pl, fhs, sps, vas, ce, ne) = itx (LT len f) r4 (i + 6) (3, 5, nI P, nI A, nI B, nI C, sq, nI k, op, ow, ro, pl, fhs, sps, vas, ce, ne) := e10
  have hw := rw_f (rW := rW) hk h3 a3 b3 c3
  rw [if_pos rfl] at hw
  have c4 : i + 6 + r4 = len := by omega
  by_cases hend : len ≤ i + 6
  · rw [if_pos (show nI len ≤ nI (i + 5 + 1) from nI_le (by omega) (by omega))] at hw
    refine Or.inr ⟨i + 6, by omega, ⟨_, _, _, hw.trans (by rw [show v_X8_fail (nI (i + 5 + 1)) (-9) = nI (i + 6) from if_pos rfl])⟩, (Fails_eq e10).mpr (fails_here c4 (show ¬ (3 : Int32) = 1 by decide) (fun w => by omega))⟩
  · rw [if_neg (show ¬ nI len ≤ nI (i + 5 + 1) from nI_ge (by omega) (by omega)), nI_clamp (by omega)] at hw
    have good : ∀ d : Bool, f (i + 6) = (if d = true then 100 else 108) → (∃ (P A B C : Nat) (d : Bool) (r' : Nat), P < 12 ∧ A < 6 ∧ 1 ≤ B ∧ B ≤ 6 ∧ 1 ≤ C ∧ C ≤ 9 ∧ v_X8_readWish (nI k) (nI len) (nI i) (-9) f rW = (nI (k + 1), nI (i + 7), -9, W5 rW k P A B C (bI d)) ∧ i + 7 + r' = len ∧ r = r' + 7 ∧ itx (LT len f) r i (1, co, nu, fh, sp, va, sq, nI k, op, ow, ro, pl, fhs, sps, vas, ce, ne) = itx (LT len f) r' (i + 7) (1, 6, nI P, nI A, nI B, nI C, sq, nI (k + 1), op, ow, ro, upd pl k (nI P), upd fhs k (nI A), upd sps k (nI B), upd vas k (nI C), upd ce k (cl P A B), upd ne k (if d = true then cl P A B else 0))) := fun d hd => by
      refine ⟨P, A, B, C, d, r4 - 1, h1, by omega, b1, b2, c1, c2, ?_, by omega, by omega, ?_⟩
      · rw [hw]
        cases d with
        | true =>
          rw [if_pos (show f (i + 5 + 1) = 100 from hd), nI_1, nI_1]; rfl
        | false =>
          rw [if_neg (show ¬ f (i + 5 + 1) = 100 by rw [show f (i + 5 + 1) = 108 from hd]; decide), if_pos (show f (i + 5 + 1) = 108 from hd), nI_1, nI_1]; rfl
      · have sl : LT len f (i + 6) (3, 5, nI P, nI A, nI B, nI C, sq, nI k, op, ow, ro, pl, fhs, sps, vas, ce, ne) = .inl (1, 6, nI P, nI A, nI B, nI C, sq, nI (k + 1), op, ow, ro, upd pl k (nI P), upd fhs k (nI A), upd sps k (nI B), upd vas k (nI C), upd ce k (cl P A B), upd ne k (if d = true then cl P A B else 0)) := LT_t (by omega) (by
          refine (tk3_w (co := 5) (a := true) (o2 := 1) (o3 := nI P) (o4 := nI A) (o5 := nI B) (o6 := nI C) (o7 := nI (k + 1)) (o8 := upd ce k (cl P A B)) (o9 := upd ne k (if d = true then cl P A B else 0)) (o10 := upd pl k (nI P)) (o11 := upd fhs k (nI A)) (o12 := upd sps k (nI B)) (o13 := upd vas k (nI C)) ?_).trans (by rw [z6])
          rw [z6, tw6]
          have hlast := last_f (x := f (i + 6)) (P := P) (A := A) (C := C) (pl := pl) (fhs := fhs) (sps := sps) (vas := vas) (ce := ce) (ne := ne) hk b2
          cases d with
          | true =>
            rw [if_pos (show f (i + 6) = 100 from hd)] at hlast
            rw [bnd9_eq hlast.symm]
          | false =>
            rw [if_neg (show ¬ f (i + 6) = 100 by rw [show f (i + 6) = 108 from hd]; decide), if_pos (show f (i + 6) = 108 from hd)] at hlast
            rw [bnd9_eq hlast.symm])
        rw [e10, show r4 = (r4 - 1) + 1 by omega, itx_go sl, show r4 - 1 + 1 - 1 = r4 - 1 by omega]
    by_cases q1 : f (i + 6) = 100
    · exact Or.inl (good true (by rw [q1, if_pos rfl]))
    · by_cases q2 : f (i + 6) = 108
      · exact Or.inl (good false (by rw [q2, if_neg (by decide)]))
      · rw [if_neg (show ¬ f (i + 5 + 1) = 100 from q1), if_neg (show ¬ f (i + 5 + 1) = 108 from q2)] at hw
        refine Or.inr ⟨i + 6, by omega, ⟨_, _, _, hw.trans (by rw [show v_X8_fail (nI (i + 5 + 1)) (-9) = nI (i + 6) from if_pos rfl])⟩, (Fails_eq e10).mpr (fails_here c4 (show ¬ (3 : Int32) = 1 by decide) (fun hi6 => LT_n (by omega) ?_))⟩
        have hlast := last_f (x := f (i + 6)) (P := P) (A := A) (C := C) (pl := pl) (fhs := fhs) (sps := sps) (vas := vas) (ce := ce) (ne := ne) hk b2
        rw [if_neg q1, if_neg q2] at hlast
        exact ⟨_, _, _, _, _, _, _, _, _, _, _, _, _, _, _, _, _, tk3_w (co := 5) (by rw [z6, tw6, bnd9_eq hlast.symm])⟩
end Wish
