/-! own words, pure: fault, letting -/
section Main
variable {len : Nat} {f : Nat → Int32} {rO rW : Nat → Int32}
theorem rp_H {H many owes L a r1 a1 f1 : Int32} (h5 : cnt H < 5) (h : v_X8_two (4095 &&& (H ^^^ (-1))) L (a + 1) (-9) f = (r1, a1, f1)) : v_X8_readPart 72 H many owes L a (-9) rO f rW = if f1 = -9 then (H ||| ((1 : Int32) <<< (r1 &&& 31)), many, owes, a1, f1, rO, rW) else (H ||| 0, many, owes, a1, f1, rO, rW) := by
  unfold v_X8_readPart
  rw [if_pos (show (72 : Int32) = 72 from rfl), bnd_eq (ones_cnt H).symm, if_neg (show ¬ 5 ≤ nI (cnt H) from nI_ge (b := 5) h5 (by decide)), bnd3_eq h.symm, bnd_eq rfl]
theorem rp_W {H owes L a : Int32} {k : Nat} {m b c : Int32} {g : Nat → Int32} (hk : k < 5) (h : v_X8_readWish (nI k) L a (-9) f rW = (m, b, c, g)) : v_X8_readPart 87 H (nI k) owes L a (-9) rO f rW = (H, m, owes, b, c, rO, g) := by
  unfold v_X8_readPart
  rw [if_neg (show ¬ (87 : Int32) = 72 by decide), if_pos (show (87 : Int32) = 87 from rfl), if_neg (show ¬ 5 ≤ nI k from nI_ge (b := 5) hk (by decide)), bnd4_eq h.symm]
theorem rp_O {H many owes L a r1 a1 f1 r2 a2 f2 : Int32} {n : Nat} (ho : owes = nI n) (hn : n < 4) (h : v_X8_two (v_X8_notOwed rO) L (a + 1) (-9) f = (r1, a1, f1)) (h2 : v_X8_figure 126 L a1 f1 f = (r2, a2, f2)) : v_X8_readPart 79 H many owes L a (-9) rO f rW = if f2 = -9 then (H, many, owes + 1, a2, f2, upd rO r1.toNatClampNeg r2, rW) else (H, many, owes, a2, f2, rO, rW) := by
  subst ho
  unfold v_X8_readPart
  rw [if_neg (show ¬ (79 : Int32) = 72 by decide), if_neg (show ¬ (79 : Int32) = 87 by decide), if_pos (show (79 : Int32) = 79 from rfl), if_neg (show ¬ 4 ≤ nI n from nI_ge (b := 4) hn (by decide)), bnd_eq rfl, bnd3_eq h.symm, bnd3_eq h2.symm]
theorem rp_bad {x H a L : Int32} {k n : Nat} (hk : k ≤ 5) (hn : n ≤ 4) (h1 : ¬ (x = 72 ∧ cnt H < 5)) (h2 : ¬ (x = 87 ∧ k < 5)) (h3 : ¬ (x = 79 ∧ n < 4)) : v_X8_readPart x H (nI k) (nI n) L a (-9) rO f rW = (H, nI k, nI n, a, a, rO, rW) := by
  have ef : v_X8_fail a (-9) = a := if_pos rfl
  have c1 := cnt_le H
  unfold v_X8_readPart
  rw [bnd_eq (show a = v_X8_fail a (-9) from ef.symm), bnd_eq (ones_cnt H).symm]
  by_cases q : x = 72
  · have g1 : 5 ≤ cnt H := Nat.le_of_not_lt (fun w => h1 ⟨q, w⟩)
    rw [if_pos q, if_pos (show 5 ≤ nI (cnt H) from nI_le (a := 5) (by omega) (by omega)), if_neg (show ¬ x = 87 by rw [q]; decide), if_neg (show ¬ x = 79 by rw [q]; decide)]
  · rw [if_neg q]
    by_cases q2 : x = 87
    · have g1 : 5 ≤ k := Nat.le_of_not_lt (fun w => h2 ⟨q2, w⟩)
      rw [if_pos q2, if_pos (show 5 ≤ nI k from nI_le (a := 5) (by omega) (by omega)), if_neg (show ¬ x = 79 by rw [q2]; decide)]
    · rw [if_neg q2]
      by_cases q3 : x = 79
      · have g1 : 4 ≤ n := Nat.le_of_not_lt (fun w => h3 ⟨q3, w⟩)
        rw [if_pos q3, if_pos (show 4 ≤ nI n from nI_le (a := 4) (by omega) (by omega))]
      · rw [if_neg q3]
theorem L72_go {i j : Nat} {H many owes a b c d e : Int32} {g u : Nat → Int32} (hl : len ≤ 72) (hi : i < len) (h : v_X8_readPart (f i) H many owes (nI len) (nI i) (-9) rO f rW = (a, b, c, d, e, g, u)) : v_X8_readText_L72 (nI len) f j (H, many, owes, nI i, -9, rO, rW) = .inl (a, b, c, d, e, g, u) := by
  show v_X8_readText_L72c (nI len) f j H many owes (nI i) (-9) rO rW = _
  unfold v_X8_readText_L72c
  rw [if_pos rfl, if_neg (nI_ge hi (by omega)), nI_clamp (by omega), bnd7_eq h.symm]
theorem L72_end {j : Nat} {H many owes : Int32} : v_X8_readText_L72 (nI len) f j (H, many, owes, nI len, -9, rO, rW) = .inr (H, many, owes, nI len, -9, rO, rW) := by
  show v_X8_readText_L72c (nI len) f j H many owes (nI len) (-9) rO rW = _
  unfold v_X8_readText_L72c
  rw [if_pos rfl, if_pos (Int32.le_refl _)]
theorem L72_stop {j p : Nat} {H many owes a : Int32} (hp : p < 2 ^ 31) : v_X8_readText_L72 (nI len) f j (H, many, owes, a, nI p, rO, rW) = .inr (H, many, owes, a, nI p, rO, rW) := by
  show v_X8_readText_L72c (nI len) f j H many owes a (nI p) rO rW = _
  unfold v_X8_readText_L72c
  rw [if_neg (nI_ne9 hp)]
end Main
/-- what both have in the end: the same fault, or the same letting -/
def Goal (len : Nat) (f : Nat → Int32) (r i : Nat) (T : TT) (Y : (Int32 × Int32 × Int32 × Int32 × Int32 × (Nat → Int32) × (Nat → Int32)) ⊕ (Int32 × Int32 × Int32 × Int32 × Int32 × (Nat → Int32) × (Nat → Int32))) : Prop := ∃ (H' many' owes' at' fa' : Int32) (rO' rW' : Nat → Int32), Y = .inr (H', many', owes', at', fa', rO', rW') ∧ ((∃ p : Nat, p ≤ len ∧ fa' = nI p ∧ Fails len f r i T p) ∨ (fa' = -9 ∧ ∃ (co' nu' fh' sp' va' sq' wc' op' : Int32) (ow' ro' pl' fhs' sps' vas' ce' ne' : Nat → Int32), itx (LT len f) r i T = .inl (1, co', nu', fh', sp', va', sq', wc', op', ow', ro', pl', fhs', sps', vas', ce', ne') ∧ LQ sq' wc' op' ow' ro' pl' fhs' sps' vas' ce' ne' H' many' owes' rO' rW'))
theorem Goal_eq {len : Nat} {f : Nat → Int32} {r i r' i' : Nat} {T T' : TT} {Y : (Int32 × Int32 × Int32 × Int32 × Int32 × (Nat → Int32) × (Nat → Int32)) ⊕ (Int32 × Int32 × Int32 × Int32 × Int32 × (Nat → Int32) × (Nat → Int32))} (e : itx (LT len f) r i T = itx (LT len f) r' i' T') (h : Goal len f r' i' T' Y) : Goal len f r i T Y := by
  unfold Goal Fails at h ⊢
  rw [e]; exact h
theorem main_sim {len : Nat} {f : Nat → Int32} (hl : len ≤ 72) : ∀ (N r i k j : Nat) (co nu fh sp va sq wc op H many owes : Int32) (ow ro pl fhs sps vas ce ne rO rW : Nat → Int32), r ≤ N → i + r = len → r + 1 ≤ k → LQ sq wc op ow ro pl fhs sps vas ce ne H many owes rO rW → Goal len f r i (1, co, nu, fh, sp, va, sq, wc, op, ow, ro, pl, fhs, sps, vas, ce, ne) (itx (v_X8_readText_L72 (nI len) f) k j (H, many, owes, nI i, -9, rO, rW))
  | N, 0, i, k, j, co, nu, fh, sp, va, sq, wc, op, H, many, owes, ow, ro, pl, fhs, sps, vas, ce, ne, rO, rW, _, hi, hk, hq => by
    have : i = len := by omega
    subst this
    rw [show k = (k - 1) + 1 by omega, itx_out L72_end]
    exact ⟨_, _, _, _, _, _, _, rfl, Or.inr ⟨rfl, _, _, _, _, _, _, _, _, _, _, _, _, _, _, _, _, itx_z, hq⟩⟩
  | 0, r + 1, i, k, j, co, nu, fh, sp, va, sq, wc, op, H, many, owes, ow, ro, pl, fhs, sps, vas, ce, ne, rO, rW, h0, hi, hk, hq => by omega
  | N + 1, r + 1, i, k, j, co, nu, fh, sp, va, sq, wc, op, H, many, owes, ow, ro, pl, fhs, sps, vas, ce, ne, rO, rW, hN, hi, hk, hq => by
    have hq0 := hq
    obtain ⟨rfl, hs, h5, ⟨w, hw5, rfl, rfl, hw⟩, hd, rfl, h4⟩ := hq
    have stop : ∀ {p : Nat} {A B C D : Int32} {g u : Nat → Int32}, p ≤ len → v_X8_readPart (f i) sq (nI w) (nI (cnt op)) (nI len) (nI i) (-9) rO f rW = (A, B, C, D, nI p, g, u) → Fails len f (r + 1) i (1, co, nu, fh, sp, va, sq, nI w, op, ow, ro, pl, fhs, sps, vas, ce, ne) p → Goal len f (r + 1) i (1, co, nu, fh, sp, va, sq, nI w, op, ow, ro, pl, fhs, sps, vas, ce, ne) (itx (v_X8_readText_L72 (nI len) f) k j (sq, nI w, nI (cnt op), nI i, -9, rO, rW)) := fun {p A B C D g u} hp e hf => by
      rw [show k = (k - 2) + 1 + 1 by omega, itx_go (L72_go hl (by omega) e), itx_out (L72_stop (by omega))]
      exact ⟨_, _, _, _, _, _, _, rfl, Or.inl ⟨p, hp, rfl, hf⟩⟩
    by_cases cH : f i = 72 ∧ cnt sq < 5
    · rcases ph_H (co := co) (nu := nu) (fh := fh) (sp := sp) (va := va) (wc := nI w) (op := op) (ow := ow) (ro := ro) (pl := pl) (fhs := fhs) (sps := sps) (vas := vas) (ce := ce) (ne := ne) hl hi (by omega) cH.1 hs cH.2 with ⟨c, r', a1, a2, a3, a4, a5, a6⟩ | ⟨p, r1, a1, a2, a3⟩
      · have e := rp_H (many := nI w) (owes := nI (cnt op)) (L := nI len) (a := nI i) (f := f) (rO := rO) (rW := rW) (r1 := nI c) (a1 := nI (i + 3)) (f1 := -9) cH.2 (by rw [nI_1]; exact a3)
        rw [if_pos rfl, ← cH.1] at e
        rw [show k = (k - 1) + 1 by omega, itx_go (L72_go hl (by omega) e)]
        exact Goal_eq a6 (main_sim hl N r' (i + 3) (k - 1) (j + 1) _ _ _ _ _ _ _ _ _ _ _ _ _ _ _ _ _ _ _ _ _ (by omega) (by omega) (by omega) (LQ_H hq0 a1 a2 cH.2))
      · have e := rp_H (many := nI w) (owes := nI (cnt op)) (L := nI len) (a := nI i) (f := f) (rO := rO) (rW := rW) (r1 := r1) (a1 := nI p) (f1 := nI p) cH.2 (by rw [nI_1]; exact a2)
        rw [if_neg (nI_ne9 (by omega)), ← cH.1] at e
        exact stop a1 e a3
    · by_cases cW : f i = 87 ∧ w < 5
      · rcases ph_W (co := co) (nu := nu) (fh := fh) (sp := sp) (va := va) (sq := sq) (op := op) (ow := ow) (ro := ro) (pl := pl) (fhs := fhs) (sps := sps) (vas := vas) (ce := ce) (ne := ne) (rW := rW) hl hi (by omega) cW.1 cW.2 with ⟨P, A, B, C, d, r', b1, b2, b3, b4, b5, b6, a3, a4, a5, a6⟩ | ⟨p, a1, ⟨m, b, g, a2⟩, a3⟩
        · have e := rp_W (H := sq) (owes := nI (cnt op)) (rO := rO) cW.2 a3
          rw [← cW.1] at e
          rw [show k = (k - 1) + 1 by omega, itx_go (L72_go hl (by omega) e)]
          exact Goal_eq a6 (main_sim hl N r' (i + 7) (k - 1) (j + 1) _ _ _ _ _ _ _ _ _ _ _ _ _ _ _ _ _ _ _ _ _ (by omega) (by omega) (by omega) (LQ_W d hq0 cW.2 b1 b2 b3 b4 b5 b6))
        · have e := rp_W (H := sq) (owes := nI (cnt op)) (rO := rO) cW.2 a2
          rw [← cW.1] at e
          exact stop a1 e a3
      · by_cases cO : f i = 79 ∧ cnt op < 4
        · rcases ph_O (co := co) (nu := nu) (fh := fh) (sp := sp) (va := va) (sq := sq) (wc := nI w) (ow := ow) (ro := ro) (pl := pl) (fhs := fhs) (sps := sps) (vas := vas) (ce := ce) (ne := ne) (AL_own hd) hl hi (by omega) cO.1 hd.1 cO.2 with ⟨c, n, r', b1, b2, b3, b4, a2, a3, a4, a5, a6⟩ | ⟨p, a1, ⟨r1, x1, f1, r2, x2, a2, a4⟩, a3⟩
          · have e := rp_O (H := sq) (many := nI w) (rW := rW) (a := nI i) rfl cO.2 (by rw [nI_1]; exact a2) a3
            rw [if_pos rfl, ← cO.1, nI_clamp (by omega)] at e
            rw [show k = (k - 1) + 1 by omega, itx_go (L72_go hl (by omega) e)]
            exact Goal_eq a6 (main_sim hl N r' (i + 4) (k - 1) (j + 1) _ _ _ _ _ _ _ _ _ _ _ _ _ _ _ _ _ _ _ _ _ (by omega) (by omega) (by omega) (LQ_O hq0 b1 b2 b3 b4 cO.2))
          · have e := rp_O (H := sq) (many := nI w) (rW := rW) (a := nI i) rfl cO.2 (by rw [nI_1]; exact a2) a4
            rw [if_neg (nI_ne9 (by omega)), ← cO.1] at e
            exact stop a1 e a3
        · have e := rp_bad (L := nI len) (a := nI i) (f := f) (rO := rO) (rW := rW) hw5 h4 cH cW cO
          obtain ⟨p', hp'⟩ := first_no hs hd.1 hw5 cH cW cO
          obtain ⟨R, y1, y2⟩ := LT_n (len := len) (f := f) (i := i) (pt := 1) (co := co) (nu := nu) (fh := fh) (sp := sp) (va := va) (sq := sq) (wc := nI w) (op := op) (ow := ow) (ro := ro) (pl := pl) (fhs := fhs) (sps := sps) (vas := vas) (ce := ce) (ne := ne) (by omega) ⟨_, _, _, _, _, _, _, _, _, _, _, _, _, _, _, _, _, tk1 hp'⟩
          exact stop (p := i) (by omega) e (Or.inr ⟨R, itx_out y1, y2⟩)
/-- a text read by both -/
theorem read_ok {n : Nat} {f : Nat → Int32} (hn : n ≤ 72) (co nu fh sp va : Int32) (ow ro pl fhs sps vas ce ne rO rW : Nat → Int32) : (∃ p : Nat, p ≤ 72 ∧ (v_X3_readThrough co nu fh sp va ow ro (nI n) f pl fhs sps vas ce ne).1 = nI p ∧ (v_X8_readText (nI n) f rO rW).1 = nI p) ∨ (∃ (co' nu' fh' sp' va' sq' wc' op' H' many' owes' at' : Int32) (ow' ro' pl' fhs' sps' vas' ce' ne' rO' rW' : Nat → Int32), v_X3_readThrough co nu fh sp va ow ro (nI n) f pl fhs sps vas ce ne = (-9, 1, co', nu', fh', sp', va', op', sq', wc', pl', fhs', sps', vas', ce', ne', ow', ro') ∧ v_X8_readText (nI n) f rO rW = (-9, at', -9, H', many', owes', rO', rW') ∧ LQ sq' wc' op' ow' ro' pl' fhs' sps' vas' ce' ne' H' many' owes' rO' rW') := by
  have e7 : v_X3_readThrough co nu fh sp va ow ro (nI n) f pl fhs sps vas ce ne = mch (itx (LT n f) n 0 (0, co, nu, fh, sp, va, 0, 0, 0, v_X4_fill 0 ow 12, v_X4_fill 6 ro 2, pl, fhs, sps, vas, ce, ne)) (fun s14t => bnd17 s14t fun s1 s2 s3 s4 s5 s6 s7 s8 s9 s10 s11 s12 s13 s14 s15 s16 s17 => if s1 = 1 then (-9, s1, s2, s3, s4, s5, s6, s9, s7, s8, s12, s13, s14, s15, s16, s17, s10, s11) else (nI n, s1, s2, s3, s4, s5, s6, s9, s7, s8, s12, s13, s14, s15, s16, s17, s10, s11)) := by
    unfold v_X3_readThrough
    rw [bnd5_eq (show (0, 0, 0, v_X4_fill 0 ow 12, v_X4_fill 6 ro 2) = v_X1_clear ow ro from rfl), show (v_X6_length (nI n)).toNatClampNeg = n from nI_clamp (by omega)]
    rfl
  have e8 : v_X8_readText (nI n) f rO rW = if nI n = 0 then (0, 0, -9, 0, 0, 0, it v_X8_readText_L28 12 0 rO, rW) else if f 0 = 78 then bnd7 (unS (itx (v_X8_readText_L72 (nI n) f) 74 0 (0, 0, 0, 1, -9, it v_X8_readText_L28 12 0 rO, rW))) (fun a b c d e g u => (e, d, e, a, b, c, g, u)) else (0, 0, -9, 0, 0, 0, it v_X8_readText_L28 12 0 rO, rW) := by
    unfold v_X8_readText
    rw [bnd_eq rfl, bnd_eq rfl]
    rfl
  have bad : ∀ p : Nat, Fails n f n 0 (0, co, nu, fh, sp, va, 0, 0, 0, v_X4_fill 0 ow 12, v_X4_fill 6 ro 2, pl, fhs, sps, vas, ce, ne) p → (v_X3_readThrough co nu fh sp va ow ro (nI n) f pl fhs sps vas ce ne).1 = nI p := fun p h => by
    rw [e7]
    rcases h with ⟨T', h1, h2, h3⟩ | ⟨R, h1, h2⟩
    · rw [h1]
      obtain ⟨s1, s2, s3, s4, s5, s6, s7, s8, s9, s10, s11, s12, s13, s14, s15, s16, s17⟩ := T'
      have h2 : ¬ s1 = 1 := h2
      show (if s1 = 1 then (-9, s1, s2, s3, s4, s5, s6, s9, s7, s8, s12, s13, s14, s15, s16, s17, s10, s11) else (nI n, s1, s2, s3, s4, s5, s6, s9, s7, s8, s12, s13, s14, s15, s16, s17, s10, s11)).1 = nI p
      rw [if_neg h2, h3]
    · rw [h1]
      exact h2
  by_cases h0 : n = 0
  · subst h0
    refine Or.inl ⟨0, by decide, bad 0 (fails_here rfl (show ¬ (0 : Int32) = 1 by decide) (fun w => by omega)), ?_⟩
    rw [e8, if_pos nI_0]; rfl
  · rw [if_neg (nI_ne0 (by omega) (by omega))] at e8
    by_cases hN : f 0 = 78
    · rw [if_pos hN] at e8
      have st : LT n f 0 (0, co, nu, fh, sp, va, 0, 0, 0, v_X4_fill 0 ow 12, v_X4_fill 6 ro 2, pl, fhs, sps, vas, ce, ne) = .inl (1, co, nu, fh, sp, va, 0, 0, 0, v_X4_fill 0 ow 12, v_X4_fill 6 ro 2, pl, fhs, sps, vas, ce, ne) := LT_t (by omega) (by
        unfold v_X3_takes
        rw [if_pos rfl, if_pos hN])
      have z0 : ∀ p, p < 12 → it v_X8_readText_L28 12 0 rO p = 0 := fun p hp => (it_upd (f := v_X8_readText_L28) (F := fun _ _ => 0) 12 (fun i z hi => by
        show upd z (nI i).toNatClampNeg 0 = upd z i 0
        rw [nI_clamp (by omega)]) rO p).1 hp
      have hq : LQ 0 0 0 (v_X4_fill 0 ow 12) (v_X4_fill 6 ro 2) pl fhs sps vas ce ne 0 0 0 (it v_X8_readText_L28 12 0 rO) rW := by
        refine ⟨rfl, sm_0, by rw [cnt_0]; decide, ⟨0, by decide, rfl, rfl, fun w hw => by omega⟩, ⟨sm_0, fun p hp => ⟨?_, 0, by decide, ?_, ?_⟩, fun r hr => ⟨6, by decide, ?_, fun p hp _ x hx ex => ?_, Or.inl rfl⟩⟩, by rw [cnt_0]; rfl, by rw [cnt_0]; decide⟩
        · rw [fill_at (by decide) hp, z0 p hp]
        · exact z0 p hp
        · rw [hb_0]; rfl
        · rw [fill_at (by decide) hr]; rfl
        · rw [z0 p hp] at ex
          have : x = 0 := by
            have ex : nI 0 = nI x := ex
            rw [nI_eq (by omega) (by omega)] at ex
            exact ex.symm
          omega
      have key := main_sim (f := f) hn (n - 1) (n - 1) 1 74 0 co nu fh sp va 0 0 0 0 0 0 (v_X4_fill 0 ow 12) (v_X4_fill 6 ro 2) pl fhs sps vas ce ne (it v_X8_readText_L28 12 0 rO) rW (Nat.le_refl _) (by omega) (by omega) hq
      have e1 : itx (LT n f) n 0 (0, co, nu, fh, sp, va, 0, 0, 0, v_X4_fill 0 ow 12, v_X4_fill 6 ro 2, pl, fhs, sps, vas, ce, ne) = itx (LT n f) (n - 1) 1 (1, co, nu, fh, sp, va, 0, 0, 0, v_X4_fill 0 ow 12, v_X4_fill 6 ro 2, pl, fhs, sps, vas, ce, ne) := by
        have := itx_go (k := n - 1) st
        rwa [show n - 1 + 1 = n by omega] at this
      obtain ⟨H', many', owes', at', fa', rO', rW', k1, k2⟩ := Goal_eq e1 key
      have k1 : itx (v_X8_readText_L72 (nI n) f) 74 0 (0, 0, 0, 1, -9, it v_X8_readText_L28 12 0 rO, rW) = .inr (H', many', owes', at', fa', rO', rW') := k1
      rw [k1] at e8
      have e8 : v_X8_readText (nI n) f rO rW = (fa', at', fa', H', many', owes', rO', rW') := e8
      rcases k2 with ⟨p, hp, ep, hf⟩ | ⟨ep, co', nu', fh', sp', va', sq', wc', op', ow', ro', pl', fhs', sps', vas', ce', ne', k3, k4⟩
      · refine Or.inl ⟨p, by omega, bad p hf, ?_⟩
        rw [e8]; exact ep
      · subst ep
        refine Or.inr ⟨co', nu', fh', sp', va', sq', wc', op', H', many', owes', at', ow', ro', pl', fhs', sps', vas', ce', ne', rO', rW', ?_, e8, k4⟩
        rw [e7, k3]
        show (if (1 : Int32) = 1 then ((-9 : Int32), (1 : Int32), co', nu', fh', sp', va', op', sq', wc', pl', fhs', sps', vas', ce', ne', ow', ro') else (nI n, (1 : Int32), co', nu', fh', sp', va', op', sq', wc', pl', fhs', sps', vas', ce', ne', ow', ro')) = _
        rw [if_pos rfl]
    · rw [if_neg hN] at e8
      obtain ⟨R, y1, y2⟩ := LT_n (len := n) (f := f) (i := 0) (pt := 0) (co := co) (nu := nu) (fh := fh) (sp := sp) (va := va) (sq := 0) (wc := 0) (op := 0) (ow := v_X4_fill 0 ow 12) (ro := v_X4_fill 6 ro 2) (pl := pl) (fhs := fhs) (sps := sps) (vas := vas) (ce := ce) (ne := ne) (by omega) ⟨_, _, _, _, _, _, _, _, _, _, _, _, _, _, _, _, _, by
        unfold v_X3_takes
        rw [if_pos rfl, if_neg hN]⟩
      refine Or.inl ⟨0, by decide, bad 0 (Or.inr ⟨R, ?_, y2⟩), by rw [e8]; rfl⟩
      have := itx_out (k := n - 1) y1
      rwa [show n - 1 + 1 = n by omega] at this
