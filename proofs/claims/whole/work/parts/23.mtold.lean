/-! own words, pure: told moves, storms, slots, told darks -/
def SR {σ τ ρ π : Type} (R : σ → τ → Prop) (Q : ρ → π → Prop) (x : σ ⊕ ρ) (y : τ ⊕ π) : Prop := match x, y with
  | .inl s, .inl t => R s t
  | .inr r, .inr q => Q r q
  | _, _ => False
theorem itx_rel {σ τ ρ π : Type} {f : Nat → σ → σ ⊕ ρ} {g : Nat → τ → τ ⊕ π} (N : Nat) (R : σ → τ → Prop) (Q : ρ → π → Prop) (h : ∀ i s t, i < N → R s t → SR R Q (f i s) (g i t)) : ∀ (k i : Nat) (s : σ) (t : τ), i + k ≤ N → R s t → SR R Q (itx f k i s) (itx g k i t)
  | 0, _, _, _, _, hs => hs
  | k + 1, i, s, t, hk, hs => by
    have h1 := h i s t (by omega) hs
    cases hx : f i s with
    | inl s' =>
      cases hy : g i t with
      | inl t' =>
        rw [hx, hy] at h1
        rw [itx_go hx, itx_go hy]
        exact itx_rel N R Q h k (i + 1) s' t' (by omega) h1
      | inr q => rw [hx, hy] at h1; exact h1.elim
    | inr r =>
      cases hy : g i t with
      | inl t' => rw [hx, hy] at h1; exact h1.elim
      | inr q =>
        rw [hx, hy] at h1
        rw [itx_out hx, itx_out hy]
        exact h1
theorem SR_mch {σ τ ρ : Type} {R : σ → τ → Prop} {x : σ ⊕ ρ} {y : τ ⊕ ρ} {f : σ → ρ} {g : τ → ρ} (h : SR R (fun a b => a = b) x y) (hf : ∀ s t, R s t → f s = g t) : mch x f = mch y g := by
  cases x with
  | inl s =>
    cases y with
    | inl t => exact hf s t h
    | inr q => exact h.elim
  | inr r =>
    cases y with
    | inl t => exact h.elim
    | inr q => exact h
theorem atm_def (z x k : Int32) : v_X7_afterToldMove z x k = if bI (v_X7_isCell x) = 0 then -9 else if k < 0 then -9 else if k ≤ 2 then (if k = 0 then v_X7_afterMove z x 1 else if k = 1 then v_X7_afterMove z x (-1) else v_X7_afterMove z x 0) else -9 := rfl
theorem atm {z : Int32} {c k : Nat} (hc : c < 12) (hk : k < 3) : v_X7_afterToldMove z (nI c) (nI k) = v_X7_afterMove z (nI c) (wy k) := by
  rw [atm_def]
  rcases c7 (nI c) with ⟨a, b⟩ | ⟨p, hp, e, a, b⟩
  · have : v_X7_isCell (nI c) = true := by
      unfold v_X7_isCell
      rw [if_neg (nI_pos (by omega))]
      exact if_neg (nI_ge hc (by decide))
    rw [this] at a; cases a
  · rw [a, ifT]
    have hk3 : k = 0 ∨ k = 1 ∨ k = 2 := by omega
    rcases hk3 with rfl | rfl | rfl
    · rw [if_neg (by decide), if_pos (by decide), if_pos (by decide)]; rfl
    · rw [if_neg (by decide), if_pos (by decide), if_neg (by decide), if_pos (by decide)]; rfl
    · rw [if_neg (by decide), if_pos (by decide), if_neg (by decide), if_neg (by decide)]; rfl
def J7 (z : Int32) (i : Nat) (q : Int32) : Int32 ⊕ Int32 := if v_X7_afterToldMove z (q / 10) (q - q / 10 * 10) = -9 then .inr (nI i) else .inl (v_X7_afterToldMove z (q / 10) (q - q / 10 * 10))
def J8 (z : Int32) (i : Nat) (q : Int32) : Int32 ⊕ Int32 := if bI (v_X8_isCell (q / 10)) = 0 then .inr (nI i) else if 2 < (q - q / 10 * 10) then .inr (nI i) else if bI (v_X8_canMove z (q / 10) (v_X8_how (q - q / 10 * 10))) = 0 then .inr (nI i) else .inl (v_X8_movedHanging z (q / 10) (v_X8_how (q - q / 10 * 10)))
def JR (s t : Int32) : Prop := s = t ∧ sm s
theorem J78 {z : Int32} {i w : Nat} (hs : sm z) (hw : w < 1000000) : SR JR (fun a b => a = b) (J7 z i (nI w)) (J8 z i (nI w)) := by
  unfold J7 J8
  rw [show (10 : Int32) = nI 10 from rfl, pk_rem (by omega) (by decide) (by decide), pk_div (by omega) (by decide) (by decide)]
  rcases c7 (nI (w / 10)) with ⟨a, b⟩ | ⟨p, hp, e, a, b⟩
  · rw [atm_def, a, ifF, if_pos rfl, b, ifF]; exact rfl
  · rw [e, ← e, b, ifT]
    by_cases h2 : w % 10 < 3
    · rw [if_neg (show ¬ 2 < nI (w % 10) from nI_nlt (a := 2) (by omega) (by decide)), e, atm hp h2]
      show SR JR (fun a b => a = b) _ (if bI (v_X8_canMove z (nI p) (wy (w % 10))) = 0 then .inr (nI i) else .inl (v_X8_movedHanging z (nI p) (wy (w % 10))))
      rcases am hs hp h2 with ⟨r1, r2⟩ | ⟨r1, r2, r3, r4⟩
      · rw [r1, r2, ifF, if_pos rfl]; exact rfl
      · rw [r1, r2, ifT, if_neg (sm_ne r3)]; exact ⟨rfl, r3⟩
    · rw [if_pos (show 2 < nI (w % 10) from nI_lt (a := 2) (by omega) (by omega)), atm_def, a, ifT]
      rw [if_neg (nI_pos (by omega)), if_neg (show ¬ nI (w % 10) ≤ 2 from nI_ge (b := w % 10) (a := 2) (by omega) (by omega)), if_pos rfl]
      exact rfl
theorem jl {n v : Nat} {H : Int32} (hs : sm H) (hn : 1 ≤ n) (hn2 : n ≤ 2) (hv : v < 1000000) : mch (itx (v_X7_judge_L42 (nI n) (nI v)) (nI n).toNatClampNeg 0 H) (fun _ => (-9 : Int32)) = mch (itx (v_X8_judge_L46 (nI n) (nI v)) (nI n).toNatClampNeg 0 H) (fun _ => (-9 : Int32)) := by
  rw [nI_clamp (by omega)]
  refine SR_mch (R := JR) (itx_rel n JR (fun a b => a = b) (fun i s t hi hst => ?_) n 0 H H (by omega) ⟨rfl, hs⟩) (fun _ _ _ => rfl)
  obtain ⟨rfl, hs⟩ := hst
  have e7 : v_X7_judge_L42 (nI n) (nI v) i s = if (nI n - 1) ≤ nI i then J7 s i (nI v - nI v / 1000 * 1000) else J7 s i (nI v / 1000) := rfl
  have e8 : v_X8_judge_L46 (nI n) (nI v) i s = if nI i = (nI n - 1) then J8 s i (nI v - nI v / 1000 * 1000) else J8 s i (nI v / 1000) := rfl
  have en : nI n - 1 = nI (n - 1) := by
    have := nI_pred (n - 1)
    rwa [show n - 1 + 1 = n by omega] at this
  rw [e7, e8, en, show (1000 : Int32) = nI 1000 from rfl, pk_rem (by omega) (by decide) (by decide), pk_div (by omega) (by decide) (by decide)]
  by_cases h : i = n - 1
  · rw [if_pos (nI_le (by omega) (by omega)), if_pos (by rw [h])]
    exact J78 hs (by omega)
  · rw [if_neg (nI_ge (by omega) (by omega)), if_neg (fun q => h ((nI_eq (by omega) (by omega)).mp q))]
    exact J78 hs (by omega)
theorem nlt_neg {x : Int32} {n : Nat} (hn : n < 2 ^ 31) (h : nI n ≤ x) : ¬ x < 0 := by
  intro q
  have a := Int32.le_iff_toInt_le.mp h
  have b := Int32.lt_iff_toInt_lt.mp q
  rw [nI_toInt hn] at a
  have c : (0 : Int32).toInt = 0 := rfl
  omega
theorem big_gt {x : Int32} {n : Nat} (hn : n + 1 < 2 ^ 31) (h : nI (n + 1) ≤ x) : ¬ x ≤ nI n := by
  intro q
  have a := Int32.le_iff_toInt_le.mp h
  have b := Int32.le_iff_toInt_le.mp q
  rw [nI_toInt hn] at a
  rw [nI_toInt (by omega)] at b
  omega
theorem neg_lt {x : Int32} {n : Nat} (hn : n < 2 ^ 31) (h : x < 0) : x < nI n := by
  have b := Int32.lt_iff_toInt_lt.mp h
  have c : (0 : Int32).toInt = 0 := rfl
  refine Int32.lt_iff_toInt_lt.mpr ?_
  rw [nI_toInt hn]
  omega
theorem m_judge {x y nh nr mh mr : Int32} (h : RH nh nr mh mr) : v_X7_judge x y nh = v_X8_judge x y mh := by
  obtain ⟨h, t, hh, h5, ht, rfl, rfl, rfl, rfl⟩ := h
  have f7 : v_X7_judge x y (nI h) = if x < 1 then -2 else if 2 < x then -2 else if y < 0 then -2 else if x = 1 then (if y ≤ 999 then mch (itx (v_X7_judge_L42 x y) x.toNatClampNeg 0 (nI h)) (fun _ => (-9 : Int32)) else -2) else (if y ≤ 999999 then mch (itx (v_X7_judge_L42 x y) x.toNatClampNeg 0 (nI h)) (fun _ => (-9 : Int32)) else -2) := rfl
  have f8 : v_X8_judge x y (nI h) = if bI (v_X8_in x.toInt64 1 2) = 0 then -2 else if x = 1 then (if bI (v_X8_in y.toInt64 0 999) = 0 then -2 else mch (itx (v_X8_judge_L46 x y) x.toNatClampNeg 0 (nI h)) (fun _ => (-9 : Int32))) else (if bI (v_X8_in y.toInt64 0 999999) = 0 then -2 else mch (itx (v_X8_judge_L46 x y) x.toNatClampNeg 0 (nI h)) (fun _ => (-9 : Int32))) := rfl
  rw [f7, f8]
  rcases pk_ix x (n := 3) (by decide) with hx | hx | ⟨n, hn, rfl⟩
  · rw [if_pos (show x < 1 from neg_lt (n := 1) (by decide) hx), show v_X8_in x.toInt64 1 2 = false from in_neg (a := 1) (b := 2) hx (by decide) (by decide), ifF]
  · have h1 : ¬ x < 1 := by
      intro q
      have a := Int32.le_iff_toInt_le.mp hx
      have b := Int32.lt_iff_toInt_lt.mp q
      rw [nI_toInt (by decide)] at a
      have c : (1 : Int32).toInt = 1 := rfl
      omega
    rw [if_neg h1, if_pos (show 2 < x from (lt_le (n := 2) (by decide)).mp hx), show v_X8_in x.toInt64 1 2 = false from in_big (a := 1) (b := 2) hx (by decide) (by decide) (by decide), ifF]
  · by_cases h0 : n = 0
    · subst h0
      rw [if_pos (show nI 0 < 1 by decide), show v_X8_in (nI 0).toInt64 1 2 = false from in_lo (a := 1) (b := 2) (by decide) (by decide) (by decide), ifF]
    · rw [if_neg (show ¬ nI n < 1 from nI_nlt (b := 1) (by omega) (by omega)), if_neg (show ¬ 2 < nI n from nI_nlt (a := 2) (by omega) (by decide)), show v_X8_in (nI n).toInt64 1 2 = true from in_ok (a := 1) (b := 2) (by omega) (by omega) (by decide), ifT]
      have key : ∀ N : Nat, N + 1 ≤ 1000000 → ∀ M : Int32, M = nI N → ∀ L : Int64, L = lN N → (if y < 0 then -2 else if y ≤ M then mch (itx (v_X7_judge_L42 (nI n) y) (nI n).toNatClampNeg 0 (nI h)) (fun _ => (-9 : Int32)) else -2) = if bI (v_X8_in y.toInt64 0 L) = 0 then -2 else mch (itx (v_X8_judge_L46 (nI n) y) (nI n).toNatClampNeg 0 (nI h)) (fun _ => (-9 : Int32)) := by
        intro N hN M hM L hL
        subst hM hL
        rcases pk_ix y (n := N + 1) (by omega) with hy | hy | ⟨v, hv, rfl⟩
        · rw [if_pos hy, show v_X8_in y.toInt64 0 (lN N) = false from in_neg (a := 0) hy (by omega) (by omega), ifF]
        · rw [if_neg (nlt_neg (by omega) hy), if_neg (big_gt (by omega) hy), show v_X8_in y.toInt64 0 (lN N) = false from in_big (a := 0) hy (by omega) (by omega) (by omega), ifF]
        · rw [if_neg (nI_pos (by omega)), if_pos (nI_le (by omega) (by omega)), show v_X8_in (nI v).toInt64 0 (lN N) = true from in_ok (a := 0) (by omega) (by omega) (by omega), ifT]
          exact jl ⟨h, hh, rfl⟩ (by omega) (by omega) (by omega)
      by_cases h1 : nI n = 1
      · rw [if_pos h1, if_pos h1]
        exact key 999 (by decide) 999 rfl 999 rfl
      · rw [if_neg h1, if_neg h1]
        exact key 999999 (by decide) 999999 rfl 999999 rfl
/-! storms -/
theorem usl (w : Int64) : ∃ n : Nat, n < 2 ^ 31 ∧ uSL w 33 = lN n := by
  refine ⟨w.toUInt64.toNat / 2 ^ 33, ?_, ?_⟩
  · have := w.toUInt64.toNat_lt
    omega
  · apply Int64.toBitVec_inj.mp
    have e : (((33 : Int32).toInt64.toUInt64 &&& Int64.toUInt64 63).toNat % 64) = 33 := by decide +kernel
    apply BitVec.eq_of_toNat_eq
    show (w.toUInt64 >>> ((33 : Int32).toInt64.toUInt64 &&& Int64.toUInt64 63)).toNat = (BitVec.ofNat 64 (w.toUInt64.toNat / 2 ^ 33)).toNat
    rw [UInt64.toNat_shiftRight, e, BitVec.toNat_ofNat, Nat.shiftRight_eq_div_pow]
    have := w.toUInt64.toNat_lt
    omega
def S7 (a : Int32) (w z : Int64) : Int32 × Int64 := if v_X7_afterToldMove a (w.toInt32 - w.toInt32 / 12 * 12) ((w.toInt32 / 12) - (w.toInt32 / 12) / 3 * 3) = -9 then (a, z) else (v_X7_afterToldMove a (w.toInt32 - w.toInt32 / 12 * 12) ((w.toInt32 / 12) - (w.toInt32 / 12) / 3 * 3), z)
def S8 (a : Int32) (w z : Int64) : Int64 × Int32 := if bI (v_X8_canMove a ((w - w / 12 * 12).toInt32) (v_X8_how (((w / 12) - (w / 12) / 3 * 3).toInt32))) = 0 then (z, a) else (z, v_X8_movedHanging a ((w - w / 12 * 12).toInt32) (v_X8_how (((w / 12) - (w / 12) / 3 * 3).toInt32)))
def nxs (a : Int64) : Int64 := (a * 6364136223846793005) + 1442695040888963407
theorem S7_eq (i : Nat) (a : Int32) (b : Int64) : v_X7_storm_L21 i (a, b) = S7 a (uSL (nxs b) 33) (nxs b) := by
  show v_X7_storm_L21c i a b = _
  unfold v_X7_storm_L21c S7 nxs
  rw [bnd_eq rfl, bnd_eq rfl]
theorem S8_eq (i : Nat) (a : Int32) (b : Int64) : v_X8_storm_L22 i (b, a) = S8 a (uSL (nxs b) 33) (nxs b) := by
  show v_X8_storm_L22c i b a = _
  unfold v_X8_storm_L22c S8 nxs
  rw [bnd_eq rfl, bnd_eq rfl, bnd_eq rfl, bnd_eq rfl, bnd_eq rfl]
def SQ (a : Int32 × Int64) (b : Int64 × Int32) : Prop := a.1 = b.2 ∧ a.2 = b.1 ∧ sm a.1
theorem S78 {a : Int32} {u : Nat} {z : Int64} (hs : sm a) (hu : u < 2 ^ 31) : SQ (S7 a (lN u) z) (S8 a (lN u) z) := by
  unfold S7 S8
  rw [show (12 : Int64) = lN 12 from rfl, show (3 : Int64) = lN 3 from rfl, pk_lRem (by omega) (by decide) (by decide), pk_lDiv (by omega) (by decide) (by decide), pk_lRem (by omega) (by decide) (by decide), lN_i, lN_i, lN_i, show (12 : Int32) = nI 12 from rfl, show (3 : Int32) = nI 3 from rfl, pk_rem hu (by decide) (by decide), pk_div hu (by decide) (by decide), pk_rem (by omega) (by decide) (by decide), atm (by omega) (by omega), show v_X8_how (nI (u / 12 % 3)) = wy (u / 12 % 3) from rfl]
  rcases am hs (c := u % 12) (k := u / 12 % 3) (by omega) (by omega) with ⟨q1, q2⟩ | ⟨q1, q2, q3, q4⟩
  · rw [q1, q2, ifF, if_pos rfl]; exact ⟨rfl, rfl, hs⟩
  · rw [q1, q2, ifT, if_neg (sm_ne q3)]; exact ⟨rfl, rfl, q3⟩
theorem S_loop {n : Nat} {H : Int32} {s : Int64} (hs : sm H) : SQ (it v_X7_storm_L21 n 0 (H, s)) (it v_X8_storm_L22 n 0 (s, H)) := by
  refine it_rel n (fun _ a b => SQ a b) (fun i a b hi hab => ?_) n 0 (H, s) (s, H) (by omega) ⟨rfl, rfl, hs⟩
  obtain ⟨a1, a2⟩ := a
  obtain ⟨b1, b2⟩ := b
  obtain ⟨r1, r2, r3⟩ := hab
  replace r1 : a1 = b2 := r1
  replace r2 : a2 = b1 := r2
  replace r3 : sm a1 := r3
  subst r1 r2
  obtain ⟨u, hu, eu⟩ := usl (nxs a2)
  rw [S7_eq, S8_eq, eu]
  exact S78 r3 hu
theorem m_storm {x nh nr mh mr o1 p1 : Int32} {s o2 p2 : Int64} (h : RH nh nr mh mr) (e : (o1, o2) = v_X7_storm x nh s) (e' : (p1, p2) = v_X8_storm x mh s) : o1 = p1 ∧ o2 = p2 := by
  obtain ⟨h, t, hh, h5, ht, rfl, rfl, rfl, rfl⟩ := h
  have f7 : v_X7_storm x (nI h) s = if x < 1 then (-2, s) else if x ≤ 40 then bnd2 (it v_X7_storm_L21 x.toNatClampNeg 0 (nI h, s)) (fun a b => (a, b)) else (-2, s) := rfl
  have f8 : v_X8_storm x (nI h) s = if bI (v_X8_in x.toInt64 1 40) = 0 then (-2, s) else bnd2 (it v_X8_storm_L22 x.toNatClampNeg 0 (s, nI h)) (fun a b => (b, a)) := rfl
  rw [f7] at e; rw [f8] at e'
  rcases pk_ix x (n := 41) (by decide) with hx | hx | ⟨n, hn, rfl⟩
  · rw [if_pos (show x < 1 from neg_lt (n := 1) (by decide) hx)] at e
    rw [show v_X8_in x.toInt64 1 40 = false from in_neg (a := 1) (b := 40) hx (by decide) (by decide), ifF] at e'
    cases e; cases e'
    exact ⟨rfl, rfl⟩
  · have h1 : ¬ x < 1 := by
      intro q
      have a := Int32.le_iff_toInt_le.mp hx
      have b := Int32.lt_iff_toInt_lt.mp q
      rw [nI_toInt (by decide)] at a
      have c : (1 : Int32).toInt = 1 := rfl
      omega
    rw [if_neg h1, if_neg (show ¬ x ≤ 40 from big_gt (n := 40) (by decide) hx)] at e
    rw [show v_X8_in x.toInt64 1 40 = false from in_big (a := 1) (b := 40) hx (by decide) (by decide) (by decide), ifF] at e'
    cases e; cases e'
    exact ⟨rfl, rfl⟩
  · by_cases h0 : n = 0
    · subst h0
      rw [if_pos (show nI 0 < 1 by decide)] at e
      rw [show v_X8_in (nI 0).toInt64 1 40 = false from in_lo (a := 1) (b := 40) (by decide) (by decide) (by decide), ifF] at e'
      cases e; cases e'
      exact ⟨rfl, rfl⟩
    · rw [if_neg (show ¬ nI n < 1 from nI_nlt (b := 1) (by omega) (by omega)), if_pos (show nI n ≤ 40 from nI_le (b := 40) (by omega) (by decide)), nI_clamp (by omega)] at e
      rw [show v_X8_in (nI n).toInt64 1 40 = true from in_ok (a := 1) (b := 40) (by omega) (by omega) (by decide), ifT, nI_clamp (by omega)] at e'
      have key := S_loop (n := n) (s := s) (H := nI h) ⟨h, hh, rfl⟩
      obtain ⟨a1, a2, ha⟩ := ex2 (it v_X7_storm_L21 n 0 (nI h, s))
      obtain ⟨b1, b2, hb'⟩ := ex2 (it v_X8_storm_L22 n 0 (s, nI h))
      rw [bnd2_eq ha] at e; rw [bnd2_eq hb'] at e'
      rw [← ha, ← hb'] at key
      cases e; cases e'
      exact ⟨key.1, key.2.1⟩
/-! slots -/
def RK (sl isK kp : Nat → Int32) : Prop := ∀ s, s < 2 → (isK s = 0 ∧ sl s = -9) ∨ (isK s = 1 ∧ sl s = kp s ∧ okm (kp s))
theorem x2s (x : Int32) : (v_X8_in x.toInt64 0 1 = false ∧ (x < 0 ∨ (¬ x < 0 ∧ ¬ x < 2))) ∨ (∃ s : Nat, s < 2 ∧ x = nI s ∧ v_X8_in x.toInt64 0 1 = true ∧ ¬ x < 0 ∧ x < 2) := by
  rcases pk_ix x (n := 2) (by decide) with hx | hx | ⟨n, hn, rfl⟩
  · exact Or.inl ⟨in_neg (a := 0) (b := 1) hx (by decide) (by decide), Or.inl hx⟩
  · refine Or.inl ⟨in_big (a := 0) (b := 1) hx (by decide) (by decide) (by decide), Or.inr ⟨nlt_neg (by decide) hx, ?_⟩⟩
    intro q
    have a := Int32.le_iff_toInt_le.mp hx
    have b := Int32.lt_iff_toInt_lt.mp q
    rw [nI_toInt (by decide)] at a
    have c : (2 : Int32).toInt = 2 := rfl
    omega
  · exact Or.inr ⟨n, hn, rfl, in_ok (a := 0) (b := 1) (by omega) (by omega) (by decide), nI_pos (by omega), nI_lt (b := 2) hn (by decide)⟩
theorem m_keepS {x nh nr mh mr o1 p1 : Int32} {sl isK kp o2 p2 p3 : Nat → Int32} (h : RH nh nr mh mr) (hk : RK sl isK kp) (e : (o1, o2) = v_X7_keep x nh nr sl) (e' : (p1, p2, p3) = v_X8_keep x mh mr isK kp) : o1 = p1 ∧ RK o2 p2 p3 := by
  obtain ⟨h, t, hh, h5, ht, rfl, rfl, rfl, rfl⟩ := h
  have f7 : v_X7_keep x (nI h) (nI t) sl = if x < 0 then (-1, sl) else if x < 2 then (v_J6_bitCount_0f7a4 (nI h), v_X4_put x (nI t * 4096 + nI h) sl 2) else (-1, sl) := rfl
  have f8 : v_X8_keep x (nI h) (nI t) isK kp = if bI (v_X8_in x.toInt64 0 1) = 0 then (-1, isK, kp) else (v_X8_ones (nI h), upd isK x.toNatClampNeg (vp_nar .boolean 1), upd kp x.toNatClampNeg (nI h + 4096 * nI t)) := rfl
  rw [f7] at e; rw [f8] at e'
  rcases x2s x with ⟨a, b⟩ | ⟨s, hs, rfl, a, b, c⟩
  · rw [a, ifF] at e'
    have e : (o1, o2) = (-1, sl) := by
      rcases b with b | ⟨b, c⟩
      · rw [if_pos b] at e; exact e
      · rw [if_neg b, if_neg c] at e; exact e
    cases e; cases e'
    exact ⟨rfl, hk⟩
  · rw [a, ifT, nI_clamp (by omega), mom8, ones_cnt, show vp_nar .boolean 1 = 1 from rfl] at e'
    rw [if_neg b, if_pos c, put_nI hs (by decide), mom7, bc_ones hh] at e
    cases e; cases e'
    refine ⟨rfl, fun j hj => ?_⟩
    by_cases ej : j = s
    · subst ej
      rw [pk_us, pk_us, pk_us]
      exact Or.inr ⟨rfl, rfl, h, t, hh, h5, ht, rfl⟩
    · rw [pk_un ej, pk_un ej, pk_un ej]
      exact hk j hj
theorem m_again {x nh nr mh mr sz ac nx o1 o2 o3 o4 p1 p2 p3 p4 : Int32} {sl isK kp mo row : Nat → Int32} (h : RH nh nr mh mr) (hk : RK sl isK kp) (hr : RA sz mo ac nx row) (e : (o1, o2, o3, o4) = v_X7_again x nh nr sl sz) (e' : (p1, p2, p3, p4) = v_X8_again x mh mr ac isK kp) : o1 = p1 ∧ RH o2 o3 p2 p3 ∧ RA o4 mo p4 nx row := by
  have f7 : v_X7_again x nh nr sl sz = if x < 0 then (-1, nh, nr, sz) else if x < 2 then (if v_X4_at x sl 2 = -9 then (-3, nh, nr, sz) else (v_J6_bitCount_0f7a4 (v_X4_at x sl 2 - v_X4_at x sl 2 / 4096 * 4096), v_X4_at x sl 2 - v_X4_at x sl 2 / 4096 * 4096, v_X4_at x sl 2 / 4096, 0)) else (-1, nh, nr, sz) := rfl
  have f8 : v_X8_again x mh mr ac isK kp = if bI (v_X8_in x.toInt64 0 1) = 0 then (-1, mh, mr, ac) else if isK x.toNatClampNeg = 0 then (-3, mh, mr, ac) else (v_X8_ones (kp x.toNatClampNeg - kp x.toNatClampNeg / 4096 * 4096), kp x.toNatClampNeg - kp x.toNatClampNeg / 4096 * 4096, kp x.toNatClampNeg / 4096, 0) := rfl
  rw [f7] at e; rw [f8] at e'
  rcases x2s x with ⟨a, b⟩ | ⟨s, hs, rfl, a, b, c⟩
  · rw [a, ifF] at e'
    have e : (o1, o2, o3, o4) = (-1, nh, nr, sz) := by
      rcases b with b | ⟨b, c⟩
      · rw [if_pos b] at e; exact e
      · rw [if_neg b, if_neg c] at e; exact e
    cases e; cases e'
    exact ⟨rfl, h, hr⟩
  · rw [a, ifT, nI_clamp (by omega)] at e'
    rw [if_neg b, if_pos c, at_nI hs (by decide)] at e
    rcases hk s hs with ⟨k1, k2⟩ | ⟨k1, k2, k3⟩
    · rw [k2, if_pos rfl] at e
      rw [k1, if_pos rfl] at e'
      cases e; cases e'
      exact ⟨rfl, h, hr⟩
    · rw [k2, if_neg (okm_ne k3)] at e
      rw [k1, if_neg (show ¬ (1 : Int32) = 0 by decide)] at e'
      obtain ⟨h', t', hh', h5', ht', em⟩ := k3
      obtain ⟨b1, b2⟩ := okm_back hh' ht'
      rw [em, b1, b2] at e e'
      rw [bc_ones hh'] at e
      rw [ones_cnt] at e'
      cases e; cases e'
      obtain ⟨n, xx, hn, hx, _, _, rfl, _⟩ := hr
      exact ⟨rfl, ⟨h', t', hh', h5', ht', rfl, rfl, rfl, rfl⟩, 0, xx, by decide, hx, rfl, rfl, rfl, fun j hj => by omega⟩
