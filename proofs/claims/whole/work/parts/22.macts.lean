/-! own words, pure: acts, moves -/
def okm (m : Int32) : Prop := ∃ h t : Nat, h < 4096 ∧ cnt (nI h) ≤ 5 ∧ t < 6 ∧ m = nI (4096 * t + h)
theorem mom7 (h t : Nat) : nI t * 4096 + nI h = nI (4096 * t + h) := by
  rw [show (4096 : Int32) = nI 4096 from rfl, pk_mul, nI_add, Nat.mul_comm]
theorem mom8 (h t : Nat) : nI h + 4096 * nI t = nI (4096 * t + h) := by
  rw [show (4096 : Int32) = nI 4096 from rfl, pk_mul, nI_add, Nat.add_comm]
theorem okm_ne {m : Int32} (h : okm m) : ¬ m = -9 := by
  obtain ⟨h, t, hh, h5, ht, rfl⟩ := h
  intro q
  have : ¬ nI (4096 * t + h) < 0 := nI_pos (by omega)
  rw [q] at this
  exact this (by decide)
theorem okm_back {h t : Nat} (hh : h < 4096) (ht : t < 6) : nI (4096 * t + h) - nI (4096 * t + h) / 4096 * 4096 = nI h ∧ nI (4096 * t + h) / 4096 = nI t := by
  rw [show (4096 : Int32) = nI 4096 from rfl, pk_rem (by omega) (by decide) (by decide), pk_div (by omega) (by decide) (by decide)]
  rw [show (4096 * t + h) % 4096 = h by omega, show (4096 * t + h) / 4096 = t by omega]
  exact ⟨rfl, rfl⟩
theorem RH_mk {x : Int32} {t : Nat} (hs : sm x) (h5 : cnt x ≤ 5) (ht : t < 6) : RH x (nI t) x (nI t) := by
  obtain ⟨h, hh, rfl⟩ := hs
  exact ⟨h, t, hh, h5, ht, rfl, rfl, rfl, rfl⟩
def RA (sz : Int32) (mo : Nat → Int32) (ac nx : Int32) (row : Nat → Int32) : Prop := ∃ n x : Nat, n ≤ 16 ∧ x < 16 ∧ sz = nI n ∧ ac = nI n ∧ nx = nI x ∧ ∀ j, j < n → mo j = row ((x + 16 - n + j) % 16) ∧ okm (mo j)
theorem RA.vp {sz ac nx : Int32} {mo row : Nat → Int32} (h : RA sz mo ac nx row) : vp_in nx 16 := by
  obtain ⟨n, x, hn, hx, rfl, rfl, rfl, hr⟩ := h
  exact vp_in_nI hx (by decide)
theorem forget_at {f : Nat → Int32} {j : Nat} (hj : j < 15) : (v_X0_forgetFirst f).2 j = f (j + 1) := by
  have := it_invN (f := v_X0_forgetFirst_L2) 16 (fun i z => 1 ≤ i ∧ ∀ k, k < 16 → z k = if k + 1 < i then f (k + 1) else f k) (fun i s hi hs => by
    obtain ⟨h1, hs⟩ := hs
    refine ⟨by omega, fun k hk => ?_⟩
    show v_X4_put (nI i - 1) (v_X4_at (nI i) s 16) s 16 k = _
    have e : nI i - 1 = nI (i - 1) := by
      have := nI_pred (i - 1)
      rwa [show i - 1 + 1 = i by omega] at this
    rw [e, at_nI hi (by decide), put_nI (by omega) (by decide)]
    by_cases ek : k = i - 1
    · subst ek
      rw [pk_us, hs i hi, if_neg (by omega), if_pos (by omega), show i - 1 + 1 = i by omega]
    · rw [pk_un ek, hs k hk]
      by_cases hk1 : k + 1 < i
      · rw [if_pos hk1, if_pos (by omega)]
      · rw [if_neg hk1, if_neg (by omega)]) 15 1 f (by decide) ⟨by decide, fun k hk => by rw [if_neg (by omega)]⟩
  have h2 := this.2 j (by omega)
  rw [if_pos (by omega)] at h2
  exact h2
theorem m_add {sz ac nx m o1 : Int32} {mo row o2 : Nat → Int32} (h : RA sz mo ac nx row) (hm : okm m) (e : (o1, o2) = v_X0_add m sz mo) : RA o1 o2 (if 16 ≤ ac then 16 else ac + 1) ((nx + 1) - (nx + 1) / 16 * 16) (upd row nx.toNatClampNeg m) := by
  obtain ⟨n, x, hn, hx, rfl, rfl, rfl, hr⟩ := h
  have f0 : v_X0_add m (nI n) mo = if nI n < 16 then (nI n + 1, v_X4_put (nI n) m mo 16) else (15 + 1, v_X4_put 15 m (v_X0_forgetFirst mo).2 16) := rfl
  have en : (nI x + 1) - (nI x + 1) / 16 * 16 = nI ((x + 1) % 16) := by
    rw [nI_1, show (16 : Int32) = nI 16 from rfl, pk_rem (by omega) (by decide) (by decide)]
  rw [f0] at e
  rw [en, nI_clamp (by omega)]
  by_cases h16 : n < 16
  · rw [if_pos (show nI n < 16 from nI_lt (b := 16) h16 (by decide)), put_nI h16 (by decide)] at e
    rw [if_neg (show ¬ 16 ≤ nI n from nI_ge (b := 16) h16 (by decide))]
    cases e
    refine ⟨n + 1, (x + 1) % 16, by omega, by omega, nI_1 n, nI_1 n, rfl, fun j hj => ?_⟩
    by_cases ej : j = n
    · subst ej
      rw [pk_us, show ((x + 1) % 16 + 16 - (j + 1) + j) % 16 = x by omega, pk_us]
      exact ⟨rfl, hm⟩
    · rw [pk_un ej, pk_un (show ¬ ((x + 1) % 16 + 16 - (n + 1) + j) % 16 = x by omega), show ((x + 1) % 16 + 16 - (n + 1) + j) % 16 = (x + 16 - n + j) % 16 by omega]
      exact hr j (by omega)
  · have : n = 16 := by omega
    subst this
    rw [if_neg (show ¬ nI 16 < 16 by decide), show (15 : Int32) = nI 15 from rfl, put_nI (by decide) (by decide)] at e
    rw [if_pos (show 16 ≤ nI 16 by decide)]
    cases e
    refine ⟨16, (x + 1) % 16, by omega, by omega, rfl, rfl, rfl, fun j hj => ?_⟩
    by_cases ej : j = 15
    · subst ej
      rw [pk_us, show ((x + 1) % 16 + 16 - 16 + 15) % 16 = x by omega, pk_us]
      exact ⟨rfl, hm⟩
    · rw [pk_un ej, forget_at (by omega), pk_un (show ¬ ((x + 1) % 16 + 16 - 16 + j) % 16 = x by omega), show ((x + 1) % 16 + 16 - 16 + j) % 16 = (x + 16 - 16 + (j + 1)) % 16 by omega]
      exact hr (j + 1) (by omega)
theorem keepAct_eq (H R ac nx : Int32) (row : Nat → Int32) : v_X8_keepAct H R ac nx row = ((if 16 ≤ ac then 16 else ac + 1), ((nx + 1) - (nx + 1) / 16 * 16), (upd row nx.toNatClampNeg (H + (4096 * R)))) := by
  unfold v_X8_keepAct
  split <;> rfl
theorem m_keep {sz ac nx o1 p1 p2 : Int32} {h t : Nat} {mo row o2 p3 : Nat → Int32} (hr : RA sz mo ac nx row) (hh : h < 4096) (h5 : cnt (nI h) ≤ 5) (ht : t < 6) (e : (o1, o2) = v_X0_add (nI t * 4096 + nI h) sz mo) (e' : (p1, p2, p3) = v_X8_keepAct (nI h) (nI t) ac nx row) : RA o1 o2 p1 p2 p3 := by
  rw [keepAct_eq, mom8] at e'
  rw [mom7] at e
  cases e'
  exact m_add hr ⟨h, t, hh, h5, ht, rfl⟩ e
theorem m_hang {x nh nr mh mr sz ac nx o1 o2 o3 p1 p2 p3 p4 : Int32} {mo row o4 p5 : Nat → Int32} (h : RH nh nr mh mr) (hr : RA sz mo ac nx row) (e : (o1, o2, o3, o4) = v_X7_hang x nh nr sz mo) (e' : (p1, p2, p3, p4, p5) = v_X8_hang x mh mr ac nx row) : o1 = p1 ∧ RH o2 nr p4 mr ∧ RA o3 o4 p2 p3 p5 := by
  have hR := h
  obtain ⟨h, t, hh, h5, ht, rfl, rfl, rfl, rfl⟩ := h
  have f7 : v_X7_hang x (nI h) (nI t) sz mo = if bI (v_X7_isCell x) = 0 then (-1, nI h, sz, mo) else if bI (v_X7_has (nI h) x) = 0 then (if v_J6_bitCount_0f7a4 (nI h) < 5 then bnd2 (v_X0_add (nI t * 4096 + nI h) sz mo) fun a b => (v_J6_bitCount_0f7a4 (nI h ||| ((1 : Int32) <<< (x &&& 31))), nI h ||| ((1 : Int32) <<< (x &&& 31)), a, b) else (-4, nI h, sz, mo)) else (-3, nI h, sz, mo) := rfl
  have f8 : v_X8_hang x (nI h) (nI t) ac nx row = if bI (v_X8_isCell x) = 0 then (-1, ac, nx, nI h, row) else if bI (v_X8_has (nI h) x) = 0 then (if v_X8_ones (nI h) = 5 then (-4, ac, nx, nI h, row) else bnd3 (v_X8_keepAct (nI h) (nI t) ac nx row) fun a b c => (v_X8_ones (nI h ||| ((1 : Int32) <<< (x &&& 31))), a, b, nI h ||| ((1 : Int32) <<< (x &&& 31)), c)) else (-3, ac, nx, nI h, row) := rfl
  rw [f7] at e; rw [f8] at e'
  rcases c7 x with ⟨a, b⟩ | ⟨p, hp, rfl, a, b⟩
  · rw [a, ifF] at e; rw [b, ifF] at e'
    cases e; cases e'
    exact ⟨rfl, hR, hr⟩
  · rw [a, ifT, has7 _ (by omega)] at e; rw [b, ifT, has8 _ (by omega)] at e'
    cases hc : hb (nI h) p with
    | true =>
      rw [hc, ifT] at e e'
      cases e; cases e'
      exact ⟨rfl, hR, hr⟩
    | false =>
      rw [hc, ifF] at e e'
      rw [bc_ones hh] at e
      rw [ones_cnt] at e'
      by_cases hq : cnt (nI h) = 5
      · rw [hq, if_neg (show ¬ nI 5 < 5 by decide)] at e
        rw [hq, if_pos (show nI 5 = 5 from rfl)] at e'
        cases e; cases e'
        exact ⟨rfl, hR, hr⟩
      · rw [if_pos (show nI (cnt (nI h)) < 5 from nI_lt (b := 5) (by omega) (by decide))] at e
        rw [if_neg (show ¬ nI (cnt (nI h)) = 5 from fun q => hq ((nI_eq (b := 5) (by omega) (by decide)).mp q))] at e'
        obtain ⟨a1, a2, ha⟩ := ex2 (v_X0_add (nI t * 4096 + nI h) sz mo)
        obtain ⟨b1, b2, b3, hb'⟩ := ex3 (v_X8_keepAct (nI h) (nI t) ac nx row)
        rw [bnd2_eq ha] at e; rw [bnd3_eq hb'] at e'
        have hs : sm (nI h ||| ((1 : Int32) <<< (nI p &&& 31))) := sm_or ⟨h, hh, rfl⟩ (sm_sh hp)
        cases e; cases e'
        refine ⟨?_, RH_mk hs (by rw [cnt_set hp hc]; omega) ht, m_keep hr hh h5 ht ha hb'⟩
        rw [sm_bc hs, ones_cnt]
theorem m_take {x nh nr mh mr sz ac nx o1 o2 o3 p1 p2 p3 p4 : Int32} {mo row o4 p5 : Nat → Int32} (h : RH nh nr mh mr) (hr : RA sz mo ac nx row) (e : (o1, o2, o3, o4) = v_X7_take x nh nr sz mo) (e' : (p1, p2, p3, p4, p5) = v_X8_take x mh mr ac nx row) : o1 = p1 ∧ RH o2 nr p4 mr ∧ RA o3 o4 p2 p3 p5 := by
  have hR := h
  obtain ⟨h, t, hh, h5, ht, rfl, rfl, rfl, rfl⟩ := h
  have f7 : v_X7_take x (nI h) (nI t) sz mo = if bI (v_X7_isCell x) = 0 then (-1, nI h, sz, mo) else if bI (v_X7_has (nI h) x) = 0 then (-3, nI h, sz, mo) else bnd2 (v_X0_add (nI t * 4096 + nI h) sz mo) fun a b => (v_J6_bitCount_0f7a4 (nI h &&& (((1 : Int32) <<< (x &&& 31)) ^^^ (-1))), nI h &&& (((1 : Int32) <<< (x &&& 31)) ^^^ (-1)), a, b) := rfl
  have f8 : v_X8_take x (nI h) (nI t) ac nx row = if bI (v_X8_isCell x) = 0 then (-1, ac, nx, nI h, row) else if bI (v_X8_has (nI h) x) = 0 then (-3, ac, nx, nI h, row) else bnd3 (v_X8_keepAct (nI h) (nI t) ac nx row) fun a b c => (v_X8_ones (nI h &&& (((1 : Int32) <<< (x &&& 31)) ^^^ (-1))), a, b, nI h &&& (((1 : Int32) <<< (x &&& 31)) ^^^ (-1)), c) := rfl
  rw [f7] at e; rw [f8] at e'
  rcases c7 x with ⟨a, b⟩ | ⟨p, hp, rfl, a, b⟩
  · rw [a, ifF] at e; rw [b, ifF] at e'
    cases e; cases e'
    exact ⟨rfl, hR, hr⟩
  · rw [a, ifT, has7 _ (by omega)] at e; rw [b, ifT, has8 _ (by omega)] at e'
    cases hc : hb (nI h) p with
    | false =>
      rw [hc, ifF] at e e'
      cases e; cases e'
      exact ⟨rfl, hR, hr⟩
    | true =>
      rw [hc, ifT] at e e'
      obtain ⟨a1, a2, ha⟩ := ex2 (v_X0_add (nI t * 4096 + nI h) sz mo)
      obtain ⟨b1, b2, b3, hb'⟩ := ex3 (v_X8_keepAct (nI h) (nI t) ac nx row)
      rw [bnd2_eq ha] at e; rw [bnd3_eq hb'] at e'
      have hs : sm (nI h &&& (((1 : Int32) <<< (nI p &&& 31)) ^^^ (-1))) := sm_and ⟨h, hh, rfl⟩
      have hq := cnt_clr hp hc
      cases e; cases e'
      refine ⟨?_, RH_mk hs (by omega) ht, m_keep hr hh h5 ht ha hb'⟩
      rw [sm_bc hs, ones_cnt]
/-! moves -/
def wy (k : Nat) : Int32 := v_X8_how (nI k)
def nc (c k : Nat) : Nat := (v_X8_moved (nI c) (wy k)).toNatClampNeg
theorem nc_tab : ∀ c, c < 12 → ∀ k, k < 3 → v_X7_nextCell (nI c) (wy k) = nI (nc c k) ∧ v_X8_moved (nI c) (wy k) = nI (nc c k) ∧ nc c k < 12 ∧ ¬ nc c k = c := by decide +kernel
theorem sm_ne {x : Int32} (h : sm x) : ¬ x = -9 := by
  obtain ⟨n, hn, rfl⟩ := h
  intro q
  have : ¬ nI n < 0 := nI_pos (by omega)
  rw [q] at this
  exact this (by decide)
theorem am {H : Int32} {c k : Nat} (hs : sm H) (hc : c < 12) (hk : k < 3) : (v_X8_canMove H (nI c) (wy k) = false ∧ v_X7_afterMove H (nI c) (wy k) = -9) ∨ (v_X8_canMove H (nI c) (wy k) = true ∧ v_X7_afterMove H (nI c) (wy k) = v_X8_movedHanging H (nI c) (wy k) ∧ sm (v_X8_movedHanging H (nI c) (wy k)) ∧ cnt (v_X8_movedHanging H (nI c) (wy k)) = cnt H) := by
  obtain ⟨e1, e2, e3, e4⟩ := nc_tab c hc k hk
  have f7 : v_X7_afterMove H (nI c) (wy k) = if bI (v_X7_has H (nI c)) = 0 then -9 else if bI (v_X7_has H (v_X7_nextCell (nI c) (wy k))) = 0 then ((H &&& (((1 : Int32) <<< (nI c &&& 31)) ^^^ (-1))) ||| ((1 : Int32) <<< (v_X7_nextCell (nI c) (wy k) &&& 31))) else -9 := rfl
  have f8 : v_X8_canMove H (nI c) (wy k) = if bI (v_X8_has H (nI c)) = 0 then false else if bI (v_X8_has H (v_X8_moved (nI c) (wy k))) = 0 then true else false := rfl
  have fm : v_X8_movedHanging H (nI c) (wy k) = ((H &&& (((1 : Int32) <<< (nI c &&& 31)) ^^^ (-1))) ||| ((1 : Int32) <<< (v_X8_moved (nI c) (wy k) &&& 31))) := rfl
  rw [f7, f8, fm, e1, e2, has7 _ (by omega), has8 _ (by omega), has7 _ (by omega), has8 _ (by omega)]
  cases h1 : hb H c with
  | false => exact Or.inl ⟨by rw [ifF], by rw [ifF]⟩
  | true =>
    rw [ifT, ifT]
    cases h2 : hb H (nc c k) with
    | true => exact Or.inl ⟨by rw [ifT], by rw [ifT]⟩
    | false =>
      refine Or.inr ⟨by rw [ifF], by rw [ifF], sm_or (sm_and hs) (sm_sh e3), ?_⟩
      have h3 : hb (H &&& (((1 : Int32) <<< (nI c &&& 31)) ^^^ (-1))) (nc c k) = false := by rw [hb_and, h2, Bool.false_and]
      rw [cnt_set e3 h3]
      exact cnt_clr hc h1
theorem in11 (x : Int32) : (v_X8_in x.toInt64 (-1) 1 = false ∧ (x < -1 ∨ (¬ x < -1 ∧ ¬ x ≤ 1))) ∨ (v_X8_in x.toInt64 (-1) 1 = true ∧ ¬ x < -1 ∧ x ≤ 1 ∧ ∃ k : Nat, k < 3 ∧ x = wy k) := by
  have h : v_X8_in x.toInt64 (-1) 1 = true ↔ -1 ≤ x.toInt ∧ x.toInt ≤ 1 := by
    rw [in_iff, Int64.le_iff_toInt_le, Int64.le_iff_toInt_le, Int32.toInt_toInt64]
    exact Iff.rfl
  have a1 : x < -1 ↔ x.toInt < -1 := Int32.lt_iff_toInt_lt
  have a2 : x ≤ 1 ↔ x.toInt ≤ 1 := Int32.le_iff_toInt_le
  cases e : v_X8_in x.toInt64 (-1) 1 with
  | false =>
    refine Or.inl ⟨rfl, ?_⟩
    have : ¬ (-1 ≤ x.toInt ∧ x.toInt ≤ 1) := fun q => by rw [h.mpr q] at e; cases e
    rw [a1, a2]; omega
  | true =>
    have h2 := h.mp e
    refine Or.inr ⟨rfl, by rw [a1]; omega, by rw [a2]; omega, ?_⟩
    have : x.toInt = -1 ∨ x.toInt = 0 ∨ x.toInt = 1 := by omega
    rcases this with q | q | q
    · exact ⟨1, by decide, Int32.toInt_inj.mp (by rw [q]; rfl)⟩
    · exact ⟨2, by decide, Int32.toInt_inj.mp (by rw [q]; rfl)⟩
    · exact ⟨0, by decide, Int32.toInt_inj.mp (by rw [q]; rfl)⟩
theorem m_move {x y nh nr mh mr sz ac nx o1 o2 o3 p1 p2 p3 p4 : Int32} {mo row o4 p5 : Nat → Int32} (h : RH nh nr mh mr) (hr : RA sz mo ac nx row) (e : (o1, o2, o3, o4) = v_X7_move x y nh nr sz mo) (e' : (p1, p2, p3, p4, p5) = v_X8_move x y mh mr ac nx row) : o1 = p1 ∧ RH o2 nr p4 mr ∧ RA o3 o4 p2 p3 p5 := by
  have hR := h
  obtain ⟨h, t, hh, h5, ht, rfl, rfl, rfl, rfl⟩ := h
  have f7 : v_X7_move x y (nI h) (nI t) sz mo = if bI (v_X7_isCell x) = 0 then (-1, nI h, sz, mo) else if y < -1 then (-2, nI h, sz, mo) else if y ≤ 1 then (if v_X7_afterMove (nI h) x y = -9 then (-3, nI h, sz, mo) else bnd2 (v_X0_add (nI t * 4096 + nI h) sz mo) fun a b => (v_X7_nextCell x y, v_X7_afterMove (nI h) x y, a, b)) else (-2, nI h, sz, mo) := rfl
  have f8 : v_X8_move x y (nI h) (nI t) ac nx row = if bI (v_X8_isCell x) = 0 then (-1, ac, nx, nI h, row) else if bI (v_X8_in y.toInt64 (-1) 1) = 0 then (-2, ac, nx, nI h, row) else if bI (v_X8_canMove (nI h) x y) = 0 then (-3, ac, nx, nI h, row) else bnd3 (v_X8_keepAct (nI h) (nI t) ac nx row) fun a b c => (v_X8_moved x y, a, b, v_X8_movedHanging (nI h) x y, c) := rfl
  rw [f7] at e; rw [f8] at e'
  rcases c7 x with ⟨a, b⟩ | ⟨p, hp, rfl, a, b⟩
  · rw [a, ifF] at e; rw [b, ifF] at e'
    cases e; cases e'
    exact ⟨rfl, hR, hr⟩
  · rw [a, ifT] at e; rw [b, ifT] at e'
    rcases in11 y with ⟨q1, q2⟩ | ⟨q1, q2, q3, k, hk, rfl⟩
    · rw [q1, ifF] at e'
      have e : (o1, o2, o3, o4) = (-2, nI h, sz, mo) := by
        rcases q2 with q2 | ⟨q2, q3⟩
        · rw [if_pos q2] at e; exact e
        · rw [if_neg q2, if_neg q3] at e; exact e
      cases e; cases e'
      exact ⟨rfl, hR, hr⟩
    · rw [q1, ifT] at e'
      rw [if_neg q2, if_pos q3] at e
      rcases am (H := nI h) ⟨h, hh, rfl⟩ hp hk with ⟨r1, r2⟩ | ⟨r1, r2, r3, r4⟩
      · rw [r1, ifF] at e'
        rw [r2, if_pos rfl] at e
        cases e; cases e'
        exact ⟨rfl, hR, hr⟩
      · rw [r1, ifT] at e'
        rw [r2, if_neg (sm_ne r3)] at e
        obtain ⟨a1, a2, ha⟩ := ex2 (v_X0_add (nI t * 4096 + nI h) sz mo)
        obtain ⟨b1, b2, b3, hb'⟩ := ex3 (v_X8_keepAct (nI h) (nI t) ac nx row)
        rw [bnd2_eq ha] at e; rw [bnd3_eq hb'] at e'
        obtain ⟨n1, n2, n3, n4⟩ := nc_tab p hp k hk
        cases e; cases e'
        exact ⟨by rw [n1, n2], RH_mk r3 (by omega) ht, m_keep hr hh h5 ht ha hb'⟩
theorem m_hour {nh nr mh mr sz ac nx o1 o2 o3 p1 p2 p3 p4 : Int32} {mo row o4 p5 : Nat → Int32} (h : RH nh nr mh mr) (hr : RA sz mo ac nx row) (e : (o1, o2, o3, o4) = v_X7_hour nh nr sz mo) (e' : (p1, p2, p3, p4, p5) = v_X8_hour mh mr ac nx row) : o1 = p1 ∧ RH nh o2 mh p4 ∧ RA o3 o4 p2 p3 p5 := by
  obtain ⟨h, t, hh, h5, ht, rfl, rfl, rfl, rfl⟩ := h
  have f7 : v_X7_hour (nI h) (nI t) sz mo = bnd2 (v_X0_add (nI t * 4096 + nI h) sz mo) fun a b => ((nI t + 1) - (nI t + 1) / 6 * 6, (nI t + 1) - (nI t + 1) / 6 * 6, a, b) := rfl
  have f8 : v_X8_hour (nI h) (nI t) ac nx row = bnd3 (v_X8_keepAct (nI h) (nI t) ac nx row) fun a b c => ((nI t + 1) - (nI t + 1) / 6 * 6, a, b, (nI t + 1) - (nI t + 1) / 6 * 6, c) := rfl
  have et : (nI t + 1) - (nI t + 1) / 6 * 6 = nI ((t + 1) % 6) := by
    rw [nI_1, show (6 : Int32) = nI 6 from rfl, pk_rem (by omega) (by decide) (by decide)]
  rw [f7, et] at e; rw [f8, et] at e'
  obtain ⟨a1, a2, ha⟩ := ex2 (v_X0_add (nI t * 4096 + nI h) sz mo)
  obtain ⟨b1, b2, b3, hb'⟩ := ex3 (v_X8_keepAct (nI h) (nI t) ac nx row)
  rw [bnd2_eq ha] at e; rw [bnd3_eq hb'] at e'
  cases e; cases e'
  exact ⟨rfl, RH_mk ⟨h, hh, rfl⟩ h5 (by omega), m_keep hr hh h5 ht ha hb'⟩
theorem m_undo {nh nr mh mr sz ac nx o1 o2 o3 o4 p1 p2 p3 p4 p5 : Int32} {mo row : Nat → Int32} (h : RH nh nr mh mr) (hr : RA sz mo ac nx row) (e : (o1, o2, o3, o4) = v_X7_undo nh nr sz mo) (e' : (p1, p2, p3, p4, p5) = v_X8_undo mh mr ac nx row) : o1 = p1 ∧ RH o2 o3 p2 p3 ∧ RA o4 mo p4 p5 row := by
  have hR := hr
  obtain ⟨n, x, hn, hx, rfl, rfl, rfl, hr⟩ := hr
  have f7 : v_X7_undo nh nr (nI n) mo = bnd2 (v_X0_removeLast (nI n) mo) fun a b => if a = -9 then (-3, nh, nr, b) else (b, a - a / 4096 * 4096, a / 4096, b) := rfl
  have fl : v_X0_removeLast (nI n) mo = if nI n = 0 then (-9, nI n) else (v_X4_at (nI n - 1) mo 16, nI n - 1) := rfl
  have f8 : v_X8_undo mh mr (nI n) (nI x) row = if nI n = 0 then (-3, mh, mr, nI n, nI x) else (nI n - 1, row ((nI x + 15) - (nI x + 15) / 16 * 16).toNatClampNeg - row ((nI x + 15) - (nI x + 15) / 16 * 16).toNatClampNeg / 4096 * 4096, row ((nI x + 15) - (nI x + 15) / 16 * 16).toNatClampNeg / 4096, nI n - 1, ((nI x + 15) - (nI x + 15) / 16 * 16)) := rfl
  rw [f7, fl] at e; rw [f8] at e'
  cases n with
  | zero =>
    rw [if_pos (show nI 0 = 0 from rfl)] at e e'
    have e : (o1, o2, o3, o4) = (-3, nh, nr, nI 0) := e
    cases e; cases e'
    exact ⟨rfl, h, hR⟩
  | succ n =>
    have ex : (nI x + 15) - (nI x + 15) / 16 * 16 = nI ((x + 15) % 16) := by
      rw [show (15 : Int32) = nI 15 from rfl, nI_add, show (16 : Int32) = nI 16 from rfl, pk_rem (by omega) (by decide) (by decide)]
    rw [if_neg (nI_ne0 (by omega) (by omega)), nI_pred, at_nI (by omega) (by decide)] at e
    rw [if_neg (nI_ne0 (by omega) (by omega)), nI_pred, ex, nI_clamp (by omega)] at e'
    obtain ⟨g1, g2⟩ := hr n (by omega)
    rw [show (x + 16 - (n + 1) + n) % 16 = (x + 15) % 16 by omega] at g1
    rw [← g1] at e'
    have hne := okm_ne g2
    have e : (o1, o2, o3, o4) = if mo n = -9 then (-3, nh, nr, nI n) else (nI n, mo n - mo n / 4096 * 4096, mo n / 4096, nI n) := e
    rw [if_neg hne] at e
    obtain ⟨h', t', hh', h5', ht', em⟩ := g2
    obtain ⟨b1, b2⟩ := okm_back hh' ht'
    rw [em, b1, b2] at e e'
    cases e; cases e'
    refine ⟨rfl, ⟨h', t', hh', h5', ht', rfl, rfl, rfl, rfl⟩, n, (x + 15) % 16, by omega, by omega, rfl, rfl, rfl, fun j hj => ?_⟩
    have := hr j (by omega)
    rwa [show (x + 16 - (n + 1) + j) % 16 = ((x + 15) % 16 + 16 - n + j) % 16 by omega] at this
