/-! own words, pure: the text read: parts -/
abbrev TT := Int32 × Int32 × Int32 × Int32 × Int32 × Int32 × Int32 × Int32 × Int32 × (Nat → Int32) × (Nat → Int32) × (Nat → Int32) × (Nat → Int32) × (Nat → Int32) × (Nat → Int32) × (Nat → Int32) × (Nat → Int32)
def LT (len : Nat) (f : Nat → Int32) (i : Nat) (T : TT) : TT ⊕ (Int32 × TT) := v_X3_readThrough_L14 (nI len) f i T
def Fails (len : Nat) (f : Nat → Int32) (r i : Nat) (T : TT) (p : Nat) : Prop := (∃ T' : TT, itx (LT len f) r i T = .inl T' ∧ ¬ T'.1 = 1 ∧ p = len) ∨ ∃ R : Int32 × TT, itx (LT len f) r i T = .inr R ∧ R.1 = nI p
section Sim
variable {len : Nat} {f : Nat → Int32}
theorem fails_here {r i : Nat} {T : TT} (hr : i + r = len) (hp : ¬ T.1 = 1) (h : i < len → ∃ R : Int32 × TT, LT len f i T = .inr R ∧ R.1 = nI i) : Fails len f r i T i := by
  cases r with
  | zero => exact Or.inl ⟨T, itx_z, hp, by omega⟩
  | succ r =>
    obtain ⟨R, h1, h2⟩ := h (by omega)
    exact Or.inr ⟨R, itx_out h1, h2⟩
theorem fails_step {r i p : Nat} {T T1 : TT} (h : LT len f i T = .inl T1) (h1 : Fails len f r (i + 1) T1 p) : Fails len f (r + 1) i T p := by
  unfold Fails
  rw [itx_go h]
  exact h1
theorem two_sim {i r : Nat} {g al : Int32} {T0 : TT} {T1 : Nat → TT} {T2 : Nat → Nat → TT} (hA : AL g al) (hl : len ≤ 72) (hr : i + r = len) (p0 : ¬ T0.1 = 1) (p1 : ∀ t, ¬ (T1 t).1 = 1) (s1 : ∀ t, i < len → f i - 48 = nI t → F1 g t → LT len f i T0 = .inl (T1 t)) (n1 : i < len → ¬ FP g (f i) → ∃ R : Int32 × TT, LT len f i T0 = .inr R ∧ R.1 = nI i) (s2 : ∀ t v, i + 1 < len → (t = 0 ∨ t = 1) → v ≤ 9 → f (i + 1) - 48 = nI v → 10 * t + v < 12 → hb g (10 * t + v) = false → LT len f (i + 1) (T1 t) = .inl (T2 t v)) (n2 : ∀ t, i + 1 < len → (t = 0 ∨ t = 1) → ¬ SP g t (f (i + 1)) → ∃ R : Int32 × TT, LT len f (i + 1) (T1 t) = .inr R ∧ R.1 = nI (i + 1)) : (∃ t v r' : Nat, 10 * t + v < 12 ∧ hb g (10 * t + v) = false ∧ v_X8_two al (nI len) (nI i) (-9) f = (nI (10 * t + v), nI (i + 2), -9) ∧ i + 2 + r' = len ∧ r = r' + 2 ∧ itx (LT len f) r i T0 = itx (LT len f) r' (i + 2) (T2 t v)) ∨ (∃ (p : Nat) (r1 : Int32), p ≤ len ∧ v_X8_two al (nI len) (nI i) (-9) f = (r1, nI p, nI p) ∧ Fails len f r i T0 p) := by
  rcases two_or (f := f) hA hl (show i ≤ len by omega) with ⟨t, v, ht, hv, hi, e1, e2, hF, h1, h2, e⟩ | ⟨hno, r1, e⟩ | ⟨t, hi, ht, e1, hF, hno, r1, e⟩
  · refine Or.inl ⟨t, v, r - 2, h1, h2, e, by omega, by omega, ?_⟩
    rw [show r = (r - 2) + 1 + 1 by omega, itx_go (s1 t (by omega) e1 hF), itx_go (s2 t v hi ht hv e2 h1 h2), show r - 2 + 1 + 1 - 2 = r - 2 by omega]
  · exact Or.inr ⟨i, r1, by omega, e, fails_here hr p0 (fun hi => n1 hi (hno hi))⟩
  · refine Or.inr ⟨i + 1, r1, by omega, e, ?_⟩
    rw [show r = (r - 1) + 1 by omega]
    exact fails_step (s1 t hi e1 hF) (fails_here (by omega) (p1 t) (fun hi2 => n2 t hi2 ht (hno hi2)))
theorem fig_sim {i r lo hi9 : Nat} {m : Int32} {T0 : TT} {T1 : Nat → TT} (hm : ∀ d, d ≤ 9 → (hb m d = true ↔ lo ≤ d ∧ d ≤ hi9)) (h9 : hi9 ≤ 9) (hl : len ≤ 72) (hr : i + r = len) (p0 : ¬ T0.1 = 1) (s1 : ∀ d, i < len → lo ≤ d → d ≤ hi9 → f i - 48 = nI d → LT len f i T0 = .inl (T1 d)) (n1 : i < len → (¬ ∃ d, lo ≤ d ∧ d ≤ hi9 ∧ f i - 48 = nI d) → ∃ R : Int32 × TT, LT len f i T0 = .inr R ∧ R.1 = nI i) : (∃ d r' : Nat, lo ≤ d ∧ d ≤ hi9 ∧ v_X8_figure m (nI len) (nI i) (-9) f = (nI d, nI (i + 1), -9) ∧ i + 1 + r' = len ∧ r = r' + 1 ∧ itx (LT len f) r i T0 = itx (LT len f) r' (i + 1) (T1 d)) ∨ (∃ p : Nat, p ≤ len ∧ v_X8_figure m (nI len) (nI i) (-9) f = (0, nI p, nI p) ∧ Fails len f r i T0 p) := by
  rcases fig_or (m := m) (f := f) hl (show i ≤ len by omega) with ⟨d, hd, hi, ed, hbd, e⟩ | ⟨hno, e⟩
  · obtain ⟨h1, h2⟩ := (hm d hd).mp hbd
    refine Or.inl ⟨d, r - 1, h1, h2, e, by omega, by omega, ?_⟩
    rw [show r = (r - 1) + 1 by omega, itx_go (s1 d hi h1 h2 ed), show r - 1 + 1 - 1 = r - 1 by omega]
  · refine Or.inr ⟨i, by omega, e, fails_here hr p0 (fun hi => n1 hi ?_)⟩
    rintro ⟨d, h1, h2, ed⟩
    have := hno d (by omega) hi ed
    rw [(hm d (by omega)).mpr ⟨h1, h2⟩] at this
    cases this
end Sim
/-! one letter of the net -/
section Letter
variable {len : Nat} {f : Nat → Int32} {co nu fh sp va sq wc op : Int32} {ow ro pl fhs sps vas ce ne : Nat → Int32}
theorem LT_f {i : Nat} {pt : Int32} (hi : i < 72) {b : Bool} {o2 o3 o4 o5 o6 o7 o8 o9 o10 : Int32} {o11 o12 o13 o14 o15 o16 o17 o18 : Nat → Int32} (h : (b, o2, o3, o4, o5, o6, o7, o8, o9, o10, o11, o12, o13, o14, o15, o16, o17, o18) = v_X3_takes (f i) pt co nu fh sp va sq wc op pl fhs sps vas ce ne ow ro) : LT len f i (pt, co, nu, fh, sp, va, sq, wc, op, ow, ro, pl, fhs, sps, vas, ce, ne) = if bI b = 0 then .inr (nI i, o2, o3, o4, o5, o6, o7, o8, o9, o10, o15, o16, o17, o18, o11, o12, o13, o14) else .inl (o2, o3, o4, o5, o6, o7, o9, o10, o8, o13, o14, o15, o16, o17, o18, o11, o12) := by
  have ea : v_X6_letterAt (nI i) f = f i := by
    unfold v_X6_letterAt
    rw [bnd_eq (at_nI hi (by decide)).symm]
  show v_X3_readThrough_L14c (nI len) f i pt co nu fh sp va sq wc op ow ro pl fhs sps vas ce ne = _
  unfold v_X3_readThrough_L14c
  rw [bnd_eq rfl, bnd_eq ea.symm, bnd18_eq h]
theorem LT_t {i : Nat} {pt : Int32} (hi : i < 72) {o2 o3 o4 o5 o6 o7 o8 o9 o10 : Int32} {o11 o12 o13 o14 o15 o16 o17 o18 : Nat → Int32} (h : v_X3_takes (f i) pt co nu fh sp va sq wc op pl fhs sps vas ce ne ow ro = (true, o2, o3, o4, o5, o6, o7, o8, o9, o10, o11, o12, o13, o14, o15, o16, o17, o18)) : LT len f i (pt, co, nu, fh, sp, va, sq, wc, op, ow, ro, pl, fhs, sps, vas, ce, ne) = .inl (o2, o3, o4, o5, o6, o7, o9, o10, o8, o13, o14, o15, o16, o17, o18, o11, o12) := by
  rw [LT_f hi h.symm, ifT]
theorem LT_n {i : Nat} {pt : Int32} (hi : i < 72) (h : ∃ (o2 o3 o4 o5 o6 o7 o8 o9 o10 : Int32) (o11 o12 o13 o14 o15 o16 o17 o18 : Nat → Int32), v_X3_takes (f i) pt co nu fh sp va sq wc op pl fhs sps vas ce ne ow ro = (false, o2, o3, o4, o5, o6, o7, o8, o9, o10, o11, o12, o13, o14, o15, o16, o17, o18)) : ∃ R : Int32 × TT, LT len f i (pt, co, nu, fh, sp, va, sq, wc, op, ow, ro, pl, fhs, sps, vas, ce, ne) = .inr R ∧ R.1 = nI i := by
  obtain ⟨o2, o3, o4, o5, o6, o7, o8, o9, o10, o11, o12, o13, o14, o15, o16, o17, o18, h⟩ := h
  exact ⟨_, by rw [LT_f hi h.symm, ifF], rfl⟩
theorem tk1 {x : Int32} {b : Bool} {p : Int32} (h : v_X3_takesFirst x 1 sq wc op = (b, p)) : v_X3_takes x 1 co nu fh sp va sq wc op pl fhs sps vas ce ne ow ro = (b, p, 0, nu, fh, sp, va, op, sq, wc, ce, ne, ow, ro, pl, fhs, sps, vas) := by
  unfold v_X3_takes
  rw [if_neg (show ¬ (1 : Int32) = 0 by decide), if_pos rfl, bnd2_eq h.symm]
theorem tk2 {x : Int32} {a : Bool} {b : Int32} (h : v_X3_takesOfNumber x sq (co + 1) nu = (a, b)) : v_X3_takes x 2 co nu fh sp va sq wc op pl fhs sps vas ce ne ow ro = if bI a = 0 then (false, 2, co + 1, b, fh, sp, va, op, sq, wc, ce, ne, ow, ro, pl, fhs, sps, vas) else if co + 1 = 2 then (true, 1, co + 1, b, fh, sp, va, op, sq ||| ((1 : Int32) <<< (b &&& 31)), wc, ce, ne, ow, ro, pl, fhs, sps, vas) else (true, 2, co + 1, b, fh, sp, va, op, sq, wc, ce, ne, ow, ro, pl, fhs, sps, vas) := by
  have e : v_X3_takesOfSquare x 2 (co + 1) nu sq = if bI a = 0 then (false, 2, b, sq) else if co + 1 = 2 then (true, 1, b, sq ||| ((1 : Int32) <<< (b &&& 31))) else (true, 2, b, sq) := by
    unfold v_X3_takesOfSquare
    rw [bnd_eq (show sq = v_X1_squares sq from rfl), bnd2_eq h.symm, bnd_eq (show (sq ||| ((1 : Int32) <<< (b &&& 31))) = v_X1_addSquare b sq from rfl)]
  unfold v_X3_takes
  rw [if_neg (show ¬ (2 : Int32) = 0 by decide), if_neg (show ¬ (2 : Int32) = 1 by decide), if_pos rfl]
  cases a with
  | false =>
    rw [ifF] at e ⊢
    rw [bnd4_eq e.symm]
  | true =>
    rw [ifT] at e ⊢
    by_cases q : co + 1 = 2
    · rw [if_pos q] at e ⊢
      rw [bnd4_eq e.symm]
    · rw [if_neg q] at e ⊢
      rw [bnd4_eq e.symm]
theorem tk3_12 {x : Int32} {a : Bool} {b : Int32} (hc : co + 1 = 1 ∨ co + 1 = 2) (h : v_X3_takesOfNumber x 0 (co + 1) nu = (a, b)) : v_X3_takes x 3 co nu fh sp va sq wc op pl fhs sps vas ce ne ow ro = (a, 3, co + 1, b, fh, sp, va, op, sq, wc, ce, ne, ow, ro, pl, fhs, sps, vas) := by
  have e : v_X3_takesOfWish x 3 (co + 1) nu fh sp va wc pl fhs sps vas ce ne = (a, 3, b, fh, sp, va, wc, ce, ne, pl, fhs, sps, vas) := by
    unfold v_X3_takesOfWish
    rcases hc with q | q
    · rw [if_pos q, bnd2_eq h.symm]
    · rw [if_neg (show ¬ co + 1 = 1 by rw [q]; decide), if_pos q, bnd2_eq h.symm]
  unfold v_X3_takes
  rw [if_neg (show ¬ (3 : Int32) = 0 by decide), if_neg (show ¬ (3 : Int32) = 1 by decide), if_neg (show ¬ (3 : Int32) = 2 by decide), if_pos rfl, bnd13_eq e.symm]
theorem tk3_w {x : Int32} {a : Bool} {o2 o3 o4 o5 o6 o7 : Int32} {o8 o9 o10 o11 o12 o13 : Nat → Int32} (e : v_X3_takesOfWish x 3 (co + 1) nu fh sp va wc pl fhs sps vas ce ne = (a, o2, o3, o4, o5, o6, o7, o8, o9, o10, o11, o12, o13)) : v_X3_takes x 3 co nu fh sp va sq wc op pl fhs sps vas ce ne ow ro = (a, o2, co + 1, o3, o4, o5, o6, op, sq, o7, o8, o9, ow, ro, o10, o11, o12, o13) := by
  unfold v_X3_takes
  rw [if_neg (show ¬ (3 : Int32) = 0 by decide), if_neg (show ¬ (3 : Int32) = 1 by decide), if_neg (show ¬ (3 : Int32) = 2 by decide), if_pos rfl, bnd13_eq e.symm]
theorem tw3 {x : Int32} : v_X3_takesOfWish x 3 3 nu fh sp va wc pl fhs sps vas ce ne = if (x - 48) < 0 then (false, 3, nu, (x - 48), sp, va, wc, ce, ne, pl, fhs, sps, vas) else if 5 < (x - 48) then (false, 3, nu, (x - 48), sp, va, wc, ce, ne, pl, fhs, sps, vas) else (true, 3, nu, (x - 48), sp, va, wc, ce, ne, pl, fhs, sps, vas) := by
  unfold v_X3_takesOfWish
  rw [if_neg (show ¬ (3 : Int32) = 1 by decide), if_neg (show ¬ (3 : Int32) = 2 by decide), if_pos rfl]
theorem tw4 {x : Int32} : v_X3_takesOfWish x 3 4 nu fh sp va wc pl fhs sps vas ce ne = if (x - 48) < 1 then (false, 3, nu, fh, (x - 48), va, wc, ce, ne, pl, fhs, sps, vas) else if 6 < (x - 48) then (false, 3, nu, fh, (x - 48), va, wc, ce, ne, pl, fhs, sps, vas) else (true, 3, nu, fh, (x - 48), va, wc, ce, ne, pl, fhs, sps, vas) := by
  unfold v_X3_takesOfWish
  rw [if_neg (show ¬ (4 : Int32) = 1 by decide), if_neg (show ¬ (4 : Int32) = 2 by decide), if_neg (show ¬ (4 : Int32) = 3 by decide), if_pos rfl]
theorem tw5 {x : Int32} : v_X3_takesOfWish x 3 5 nu fh sp va wc pl fhs sps vas ce ne = if (x - 48) < 1 then (false, 3, nu, fh, sp, (x - 48), wc, ce, ne, pl, fhs, sps, vas) else if 9 < (x - 48) then (false, 3, nu, fh, sp, (x - 48), wc, ce, ne, pl, fhs, sps, vas) else (true, 3, nu, fh, sp, (x - 48), wc, ce, ne, pl, fhs, sps, vas) := by
  unfold v_X3_takesOfWish
  rw [if_neg (show ¬ (5 : Int32) = 1 by decide), if_neg (show ¬ (5 : Int32) = 2 by decide), if_neg (show ¬ (5 : Int32) = 3 by decide), if_neg (show ¬ (5 : Int32) = 4 by decide), if_pos rfl]
theorem tw6 {x : Int32} : v_X3_takesOfWish x 3 6 nu fh sp va wc pl fhs sps vas ce ne = bnd9 (v_X3_takesLastOfWish x 3 nu fh sp va wc pl fhs sps vas ce ne) (fun a b c d e f g h i => (a, b, nu, fh, sp, va, c, d, e, f, g, h, i)) := by
  unfold v_X3_takesOfWish
  rw [if_neg (show ¬ (6 : Int32) = 1 by decide), if_neg (show ¬ (6 : Int32) = 2 by decide), if_neg (show ¬ (6 : Int32) = 3 by decide), if_neg (show ¬ (6 : Int32) = 4 by decide), if_neg (show ¬ (6 : Int32) = 5 by decide)]
theorem add_f {P A B C k : Nat} (d : Bool) (hk : k < 5) (hB : B ≤ 6) : v_X1_addWish (nI P) (nI A) (nI B) (nI C) d (nI k) pl fhs sps vas ce ne = (nI (k + 1), upd ce k (cl P A B), upd ne k (if d = true then cl P A B else 0), upd pl k (nI P), upd fhs k (nI A), upd sps k (nI B), upd vas k (nI C)) := by
  unfold v_X1_addWish
  rw [nI_clamp (show B < 2 ^ 31 by omega), bnd_eq (show cl P A B = it (v_X1_addWish_L6 (nI P) (nI A)) B 0 0 from rfl), bnd_eq (put_nI hk (by decide)).symm, bnd_eq (put_nI hk (by decide)).symm, bnd_eq (put_nI hk (by decide)).symm, bnd_eq (put_nI hk (by decide)).symm, bnd_eq (put_nI hk (by decide)).symm, bnd_eq (put_nI hk (by decide)).symm, bnd_eq (put_nI hk (by decide)).symm, nI_1]
  cases d with
  | false => rw [ifF, if_neg (by decide)]
  | true => rw [ifT, if_pos rfl]
theorem last_f {x : Int32} {P A B C k : Nat} (hk : k < 5) (hB : B ≤ 6) : v_X3_takesLastOfWish x 3 (nI P) (nI A) (nI B) (nI C) (nI k) pl fhs sps vas ce ne = if x = 100 then (true, 1, nI (k + 1), upd ce k (cl P A B), upd ne k (if true = true then cl P A B else 0), upd pl k (nI P), upd fhs k (nI A), upd sps k (nI B), upd vas k (nI C)) else if x = 108 then (true, 1, nI (k + 1), upd ce k (cl P A B), upd ne k (if false = true then cl P A B else 0), upd pl k (nI P), upd fhs k (nI A), upd sps k (nI B), upd vas k (nI C)) else (false, 3, nI k, ce, ne, pl, fhs, sps, vas) := by
  unfold v_X3_takesLastOfWish
  rw [bnd7_eq (add_f true hk hB).symm, bnd7_eq (add_f false hk hB).symm]
theorem tk4_12 {x : Int32} {a : Bool} {b : Int32} (hc : co + 1 = 1 ∨ co + 1 = 2) (h : v_X3_takesOfNumber x op (co + 1) nu = (a, b)) : v_X3_takes x 4 co nu fh sp va sq wc op pl fhs sps vas ce ne ow ro = (a, 4, co + 1, b, fh, sp, va, op, sq, wc, ce, ne, ow, ro, pl, fhs, sps, vas) := by
  have e : v_X3_takesOfOwed x 4 (co + 1) nu op ow ro = (a, 4, b, op, ow, ro) := by
    have h3 : ¬ 3 ≤ co + 1 := by
      rcases hc with q | q
      · rw [q]; decide
      · rw [q]; decide
    unfold v_X3_takesOfOwed
    rw [if_neg h3, bnd_eq (show op = v_X1_owedPlaces op from rfl), bnd2_eq h.symm]
  unfold v_X3_takes
  rw [if_neg (show ¬ (4 : Int32) = 0 by decide), if_neg (show ¬ (4 : Int32) = 1 by decide), if_neg (show ¬ (4 : Int32) = 2 by decide), if_neg (show ¬ (4 : Int32) = 3 by decide), bnd6_eq e.symm]
theorem own_f {P n : Nat} (hP : P < 12) (hn1 : 1 ≤ n) (hn : n ≤ 6) : v_X1_addOwed (nI P) (nI n) op ow ro = (op ||| ((1 : Int32) <<< (nI P &&& 31)), upd ow P (nI n), upd ro (P / 6) (if (6 - nI n) < ro (P / 6) then (6 - nI n) else ro (P / 6))) := by
  unfold v_X1_addOwed
  rw [show (nI P / 6) = nI (P / 6) from pk_div (by omega) (by decide) (by decide), bnd_eq rfl, bnd_eq (put_nI hP (by decide)).symm, bnd_eq (at_nI (show P / 6 < 2 by omega) (by decide)).symm, bnd_eq (put_nI (show P / 6 < 2 by omega) (by decide)).symm]
theorem tk4_3 {x : Int32} {P : Nat} (hP : P < 12) : v_X3_takes x 4 2 (nI P) fh sp va sq wc op pl fhs sps vas ce ne ow ro = if (x - 48) < 1 then (false, 4, 3, nI P, fh, sp, va, op, sq, wc, ce, ne, ow, ro, pl, fhs, sps, vas) else if (x - 48) ≤ 6 then bnd3 (v_X1_addOwed (nI P) (x - 48) op ow ro) (fun a b c => (true, 1, 3, nI P, fh, sp, va, a, sq, wc, ce, ne, b, c, pl, fhs, sps, vas)) else (false, 4, 3, nI P, fh, sp, va, op, sq, wc, ce, ne, ow, ro, pl, fhs, sps, vas) := by
  obtain ⟨a, b, c, h⟩ := ex3 (v_X1_addOwed (nI P) (x - 48) op ow ro)
  have e : v_X3_takesOfOwed x 4 3 (nI P) op ow ro = if (x - 48) < 1 then (false, 4, nI P, op, ow, ro) else if (x - 48) ≤ 6 then (true, 1, nI P, a, b, c) else (false, 4, nI P, op, ow, ro) := by
    unfold v_X3_takesOfOwed
    rw [if_pos (show (3 : Int32) ≤ 3 by decide), bnd3_eq h]
  have g : v_X3_takes x 4 2 (nI P) fh sp va sq wc op pl fhs sps vas ce ne ow ro = bnd6 (v_X3_takesOfOwed x 4 3 (nI P) op ow ro) (fun o1 o2 o3 o4 o5 o6 => (o1, o2, 3, o3, fh, sp, va, o4, sq, wc, ce, ne, o5, o6, pl, fhs, sps, vas)) := by
    unfold v_X3_takes
    rw [if_neg (show ¬ (4 : Int32) = 0 by decide), if_neg (show ¬ (4 : Int32) = 1 by decide), if_neg (show ¬ (4 : Int32) = 2 by decide), if_neg (show ¬ (4 : Int32) = 3 by decide), show (2 : Int32) + 1 = 3 from by decide]
  rw [g, bnd3_eq h]
  by_cases q : (x - 48) < 1
  · rw [if_pos q] at e ⊢
    rw [bnd6_eq e.symm]
  · rw [if_neg q] at e ⊢
    by_cases w : (x - 48) ≤ 6
    · rw [if_pos w] at e ⊢
      rw [bnd6_eq e.symm]
    · rw [if_neg w] at e ⊢
      rw [bnd6_eq e.symm]
end Letter
