/-! own words, pure: told darks; the lease -/
theorem bit01 {x : Int32} (h : x = 0 ∨ x = 1) : ∃ b : Bool, x = bI b := by
  rcases h with rfl | rfl
  · exact ⟨false, rfl⟩
  · exact ⟨true, rfl⟩
theorem bI_inj {a b : Bool} : bI a = bI b ↔ a = b := by
  cases a <;> cases b <;> simp [bI]
theorem and_sub {x m : Int32} : (x &&& m = m) ↔ ∀ i, i < 32 → hb m i = true → hb x i = true := by
  constructor
  · intro h i hi hm
    have : hb (x &&& m) i = hb m i := by rw [h]
    rw [hb_and, hm, Bool.and_true] at this
    exact this
  · intro h
    apply hb_ext
    intro i hi
    rw [hb_and]
    cases hm : hb m i with
    | false => rw [Bool.and_false]
    | true => rw [h i hi hm]; rfl
theorem and_none {x m : Int32} : (x &&& m = 0) ↔ ∀ i, i < 32 → hb m i = true → hb x i = false := by
  constructor
  · intro h i hi hm
    have : hb (x &&& m) i = hb 0 i := by rw [h]
    rw [hb_and, hm, Bool.and_true, hb_0] at this
    exact this
  · intro h
    apply hb_ext
    intro i hi
    rw [hb_and, hb_0]
    cases hm : hb m i with
    | false => rw [Bool.and_false]
    | true => rw [h i hi hm]; rfl
theorem and_not {x m : Int32} : (m &&& (x ^^^ (-1)) = 0) ↔ ∀ i, i < 32 → hb m i = true → hb x i = true := by
  constructor
  · intro h i hi hm
    have : hb (m &&& (x ^^^ (-1))) i = hb 0 i := by rw [h]
    rw [hb_and, hm, Bool.true_and, hb_0, hb_not x hi] at this
    cases hx : hb x i with
    | true => rfl
    | false => rw [hx] at this; cases this
  · intro h
    apply hb_ext
    intro i hi
    rw [hb_and, hb_0, hb_not x hi]
    cases hm : hb m i with
    | false => rw [Bool.false_and]
    | true => rw [h i hi hm]; rfl
def TQ (tp th td : Nat → Int32) (j : Nat) (b : Int32) (c : Nat) : Prop := ∃ p t : Nat, p < 12 ∧ t < 6 ∧ tp j = nI p ∧ th j = nI t ∧ td j = b ∧ ca p t = c
theorem TQ_un {tp th td : Nat → Int32} {j n c : Nat} {b x y z : Int32} (h : ¬ j = n) : TQ (upd tp n x) (upd th n y) (upd td n z) j b c ↔ TQ tp th td j b c := by
  unfold TQ
  rw [pk_un h, pk_un h, pk_un h]
theorem TQ_us {tp th td : Nat → Int32} {n c p t : Nat} {b z : Int32} (hp : p < 12) (ht : t < 6) : TQ (upd tp n (nI p)) (upd th n (nI t)) (upd td n z) n b c ↔ z = b ∧ ca p t = c := by
  unfold TQ
  rw [pk_us, pk_us, pk_us]
  constructor
  · rintro ⟨p', t', h1, h2, e1, e2, e3, e4⟩
    rw [nI_eq (by omega) (by omega)] at e1 e2
    subst e1 e2
    exact ⟨e3, e4⟩
  · rintro ⟨e3, e4⟩
    exact ⟨p, t, hp, ht, rfl, rfl, e3, e4⟩
def RO (dk lt cn tl : Int32) (tp th td : Nat → Int32) : Prop := ∃ n : Nat, n ≤ 6 ∧ cn = nI n ∧ tl = nI n ∧ sm dk ∧ sm lt ∧ (∀ j, j < n → ∃ c : Nat, TQ tp th td j 0 c ∨ TQ tp th td j 1 c) ∧ (∀ c, c < 12 → (hb dk c = true ↔ ∃ j, j < n ∧ TQ tp th td j 1 c)) ∧ (∀ c, c < 12 → (hb lt c = true ↔ ∃ j, j < n ∧ TQ tp th td j 0 c))
theorem RO.vp {dk lt cn tl : Int32} {tp th td : Nat → Int32} (h : RO dk lt cn tl tp th td) : vp_in tl 7 ∧ tl.toNatClampNeg ≤ 6 := by
  obtain ⟨n, hn, rfl, rfl, _⟩ := h
  exact ⟨vp_in_nI (by omega) (by decide), by rw [nI_clamp (by omega)]; exact hn⟩
theorem nar_bI (b : Bool) : vp_nar .boolean (bI b) = bI b := by cases b <;> rfl
theorem add_told {m : Int32} {tp th td : Nat → Int32} {n p t : Nat} {b z : Int32} (hp : p < 12) (ht : t < 6) (h : ∀ c, c < 12 → (hb m c = true ↔ ∃ j, j < n ∧ TQ tp th td j b c)) : ∀ c, c < 12 → (hb (if z = b then m ||| ((1 : Int32) <<< (nI (ca p t) &&& 31)) else m) c = true ↔ ∃ j, j < n + 1 ∧ TQ (upd tp n (nI p)) (upd th n (nI t)) (upd td n z) j b c) := by
  intro c hc
  have hca := (ca_tab p hp t ht).2.2
  have e : hb (if z = b then m ||| ((1 : Int32) <<< (nI (ca p t) &&& 31)) else m) c = true ↔ hb m c = true ∨ (z = b ∧ ca p t = c) := by
    by_cases hz : z = b
    · rw [if_pos hz, hb_or, hb_sh (ca p t) (by omega) c (by omega), Bool.or_eq_true, decide_eq_true_eq]
      exact ⟨fun q => q.elim Or.inl (fun r => Or.inr ⟨hz, r.symm⟩), fun q => q.elim Or.inl (fun r => Or.inr r.2.symm)⟩
    · rw [if_neg hz]
      exact ⟨Or.inl, fun q => q.elim id (fun r => absurd r.1 hz)⟩
  rw [e, h c hc]
  constructor
  · rintro (⟨j, hj, hq⟩ | hq)
    · exact ⟨j, by omega, (TQ_un (by omega)).mpr hq⟩
    · exact ⟨n, by omega, (TQ_us hp ht).mpr hq⟩
  · rintro ⟨j, hj, hq⟩
    by_cases ej : j = n
    · subst ej; exact Or.inr ((TQ_us hp ht).mp hq)
    · exact Or.inl ⟨j, by omega, (TQ_un ej).mp hq⟩
theorem m_tell {x y dk lt cn tl o1 o2 o3 o4 p1 p2 : Int32} {b : Bool} {tp th td p3 p4 p5 : Nat → Int32} (h : RO dk lt cn tl tp th td) (e : (o1, o2, o3, o4) = v_X7_tell x y b dk lt cn) (e' : (p1, p2, p3, p4, p5) = v_X8_tell x y b tl tp th td) : o1 = p1 ∧ RO o2 o3 o4 p2 p3 p4 p5 := by
  have hR := h
  obtain ⟨n, hn, rfl, rfl, hd, hl, hq, hd1, hl1⟩ := h
  have f7 : v_X7_tell x y b dk lt (nI n) = if bI (v_X7_isCell x) = 0 then (-1, dk, lt, nI n) else if bI (v_X7_isHour y) = 0 then (-2, dk, lt, nI n) else if nI n < 6 then (if bI b = 0 then (nI n + 1, dk, lt ||| ((1 : Int32) <<< (v_X7_cellAbove x y &&& 31)), nI n + 1) else (nI n + 1, dk ||| ((1 : Int32) <<< (v_X7_cellAbove x y &&& 31)), lt, nI n + 1)) else (-4, dk, lt, nI n) := rfl
  have f8 : v_X8_tell x y b (nI n) tp th td = if bI (v_X8_isCell x) = 0 then (-1, nI n, tp, th, td) else if bI (v_X8_in y.toInt64 0 5) = 0 then (-2, nI n, tp, th, td) else if nI n = 6 then (-4, nI n, tp, th, td) else (nI n + 1, nI n + 1, upd tp (nI n).toNatClampNeg x, upd th (nI n).toNatClampNeg y, upd td (nI n).toNatClampNeg (vp_nar .boolean (bI b))) := rfl
  rw [f7] at e; rw [f8] at e'
  rcases c7 x with ⟨a, a'⟩ | ⟨p, hp, rfl, a, a'⟩
  · rw [a, ifF] at e; rw [a', ifF] at e'
    cases e; cases e'
    exact ⟨rfl, hR⟩
  · rw [a, ifT] at e; rw [a', ifT] at e'
    rcases h6 y with ⟨a, a'⟩ | ⟨t, ht, rfl, a, a'⟩
    · rw [a, ifF] at e; rw [a', ifF] at e'
      cases e; cases e'
      exact ⟨rfl, hR⟩
    · rw [a, ifT] at e; rw [a', ifT] at e'
      by_cases h6 : n = 6
      · subst h6
        rw [if_neg (show ¬ nI 6 < 6 by decide)] at e
        rw [if_pos (show nI 6 = 6 from rfl)] at e'
        cases e; cases e'
        exact ⟨rfl, hR⟩
      · obtain ⟨q1, q2, q3⟩ := ca_tab p hp t ht
        rw [if_pos (show nI n < 6 from nI_lt (b := 6) (by omega) (by decide)), q1] at e
        rw [if_neg (show ¬ nI n = 6 from fun q => h6 ((nI_eq (b := 6) (by omega) (by decide)).mp q)), nI_clamp (by omega), nar_bI] at e'
        have A := add_told (z := bI b) hp ht hd1
        have B := add_told (z := bI b) hp ht hl1
        have C : ∀ j, j < n + 1 → ∃ c : Nat, TQ (upd tp n (nI p)) (upd th n (nI t)) (upd td n (bI b)) j 0 c ∨ TQ (upd tp n (nI p)) (upd th n (nI t)) (upd td n (bI b)) j 1 c := by
          intro j hj
          by_cases ej : j = n
          · subst ej
            refine ⟨ca p t, ?_⟩
            rw [TQ_us hp ht, TQ_us hp ht]
            cases b
            · exact Or.inl ⟨rfl, rfl⟩
            · exact Or.inr ⟨rfl, rfl⟩
          · obtain ⟨c, hc⟩ := hq j (by omega)
            refine ⟨c, ?_⟩
            rw [TQ_un ej, TQ_un ej]; exact hc
        cases b with
        | false =>
          rw [ifF] at e
          rw [if_neg (show ¬ bI false = 1 by decide)] at A
          rw [if_pos (show bI false = 0 from rfl)] at B
          cases e; cases e'
          exact ⟨rfl, n + 1, by omega, nI_1 n, nI_1 n, hd, sm_or hl (sm_sh q3), C, A, B⟩
        | true =>
          rw [ifT] at e
          rw [if_pos (show bI true = 1 from rfl)] at A
          rw [if_neg (show ¬ bI true = 0 by decide)] at B
          cases e; cases e'
          exact ⟨rfl, n + 1, by omega, nI_1 n, nI_1 n, sm_or hd (sm_sh q3), hl, C, A, B⟩
theorem m_untell {dk lt cn tl o1 o2 o3 o4 p1 p2 : Int32} {tp th td : Nat → Int32} (h : RO dk lt cn tl tp th td) (e : (o1, o2, o3, o4) = v_X7_untell cn) (e' : (p1, p2) = v_X8_untell tl) : o1 = p1 ∧ RO o2 o3 o4 p2 tp th td := by
  obtain ⟨n, hn, rfl, rfl, hd, hl, hq, hd1, hl1⟩ := h
  cases e; cases e'
  refine ⟨rfl, 0, by decide, rfl, rfl, sm_0, sm_0, fun j hj => by omega, fun c hc => ?_, fun c hc => ?_⟩
  · rw [hb_0]; exact ⟨fun q => (by cases q), fun ⟨j, hj, _⟩ => (by omega)⟩
  · rw [hb_0]; exact ⟨fun q => (by cases q), fun ⟨j, hj, _⟩ => (by omega)⟩
theorem it_all {f : Nat → Bool → Bool} {P : Nat → Prop} {n : Nat} (hf : ∀ i z, i < n → (f i z = true ↔ z = true ∧ P i)) : it f n 0 true = true ↔ ∀ j, j < n → P j := by
  have := it_invN (f := f) n (fun i z => z = true ↔ ∀ j, j < i → P j) (fun i s hi hs => by
    rw [hf i s hi, hs]
    constructor
    · rintro ⟨h1, h2⟩ j hj
      by_cases ej : j = i
      · subst ej; exact h2
      · exact h1 j (by omega)
    · intro h1
      exact ⟨fun j hj => h1 j (by omega), h1 i (by omega)⟩) n 0 true (by omega) ⟨fun _ j hj => by omega, fun _ => rfl⟩
  rwa [Nat.zero_add] at this
theorem told_eq {dk lt cn tl : Int32} {tp th td : Nat → Int32} (h : RO dk lt cn tl tp th td) {H : Int32} : v_X7_agreesWithTold H dk lt = v_X8_isTold H tl tp th td := by
  obtain ⟨n, hn, rfl, rfl, hd, hl, hq, hd1, hl1⟩ := h
  rw [Bool.eq_iff_iff]
  have e7 : v_X7_agreesWithTold H dk lt = true ↔ (∀ c, c < 12 → hb dk c = true → hb H c = true) ∧ (∀ c, c < 12 → hb lt c = true → hb H c = false) := by
    have f7 : v_X7_agreesWithTold H dk lt = if (H &&& dk) = dk then (if (H &&& lt) = 0 then true else false) else false := rfl
    rw [f7]
    have a : (H &&& dk) = dk ↔ ∀ c, c < 12 → hb dk c = true → hb H c = true := by
      rw [and_sub]
      constructor
      · exact fun q c hc => q c (by omega)
      · intro q c hc h1
        by_cases h2 : c < 12
        · exact q c h2 h1
        · rw [sm_hi hd (by omega)] at h1; cases h1
    have b : (H &&& lt) = 0 ↔ ∀ c, c < 12 → hb lt c = true → hb H c = false := by
      rw [and_none]
      constructor
      · exact fun q c hc => q c (by omega)
      · intro q c hc h1
        by_cases h2 : c < 12
        · exact q c h2 h1
        · rw [sm_hi hl (by omega)] at h1; cases h1
    rw [← a, ← b]
    by_cases c1 : (H &&& dk) = dk
    · by_cases c2 : (H &&& lt) = 0
      · simp [c1, c2]
      · simp [c1, c2]
    · simp [c1]
  have e8 : v_X8_isTold H (nI n) tp th td = true ↔ ∀ j, j < n → bI (v_X8_isDark H (tp j) (th j)) = td j := by
    show it (v_X8_isTold_L4 H tp th td) (nI n).toNatClampNeg 0 true = true ↔ _
    rw [nI_clamp (by omega)]
    refine it_all (fun i z hi => ?_)
    show (if bI z = 0 then false else (if bI (v_X8_isDark H (tp (nI i).toNatClampNeg) (th (nI i).toNatClampNeg)) = td (nI i).toNatClampNeg then true else false)) = true ↔ _
    rw [nI_clamp (by omega)]
    cases z with
    | false => rw [ifF]; simp
    | true =>
      rw [ifT]
      by_cases q : bI (v_X8_isDark H (tp i) (th i)) = td i
      · simp [q]
      · simp [q]
  rw [e7, e8]
  constructor
  · rintro ⟨h1, h2⟩ j hj
    obtain ⟨c, hc⟩ := hq j hj
    rcases hc with hc | hc
    · have hc2 := hc
      obtain ⟨p, t, hp, ht, a1, a2, a3, a4⟩ := hc
      have hc12 := (ca_tab p hp t ht).2.2
      rw [a1, a2, a3, isDark_ca _ hp ht, a4]
      rw [a4] at hc12
      rw [h2 c hc12 ((hl1 c hc12).mpr ⟨j, hj, hc2⟩)]; rfl
    · have hc2 := hc
      obtain ⟨p, t, hp, ht, a1, a2, a3, a4⟩ := hc
      have hc12 := (ca_tab p hp t ht).2.2
      rw [a1, a2, a3, isDark_ca _ hp ht, a4]
      rw [a4] at hc12
      rw [h1 c hc12 ((hd1 c hc12).mpr ⟨j, hj, hc2⟩)]; rfl
  · intro h1
    refine ⟨fun c hc q => ?_, fun c hc q => ?_⟩
    · obtain ⟨j, hj, p, t, hp, ht, a1, a2, a3, a4⟩ := (hd1 c hc).mp q
      have := h1 j hj
      rw [a1, a2, a3, isDark_ca _ hp ht, a4] at this
      exact bI_inj.mp (this.trans (show (1 : Int32) = bI true from rfl))
    · obtain ⟨j, hj, p, t, hp, ht, a1, a2, a3, a4⟩ := (hl1 c hc).mp q
      have := h1 j hj
      rw [a1, a2, a3, isDark_ca _ hp ht, a4] at this
      exact bI_inj.mp (this.trans (show (0 : Int32) = bI false from rfl))
theorem sub_tab : ∀ a, a < 64 → ∀ b, b < 64 → 4095 &&& (nI (64 * a + b) ^^^ (-1)) = 4095 - nI (64 * a + b) := by decide +kernel
theorem sub_sm {x : Int32} (h : sm x) : 4095 &&& (x ^^^ (-1)) = 4095 - x := by
  obtain ⟨n, hn, rfl⟩ := h
  have := sub_tab (n / 64) (by omega) (n % 64) (by omega)
  rwa [show 64 * (n / 64) + n % 64 = n by omega] at this
theorem in02 (x : Int32) : (v_X8_in x.toInt64 0 2 = false ∧ (x < 0 ∨ (¬ x < 0 ∧ ¬ x ≤ 2))) ∨ (∃ s : Nat, s < 3 ∧ x = nI s ∧ v_X8_in x.toInt64 0 2 = true ∧ ¬ x < 0 ∧ x ≤ 2) := by
  rcases pk_ix x (n := 3) (by decide) with hx | hx | ⟨n, hn, rfl⟩
  · exact Or.inl ⟨in_neg (a := 0) (b := 2) hx (by decide) (by decide), Or.inl hx⟩
  · exact Or.inl ⟨in_big (a := 0) (b := 2) hx (by decide) (by decide) (by decide), Or.inr ⟨nlt_neg (by decide) hx, big_gt (n := 2) (by decide) hx⟩⟩
  · exact Or.inr ⟨n, hn, rfl, in_ok (a := 0) (b := 2) (by omega) (by omega) (by decide), nI_pos (by omega), nI_le (b := 2) (by omega) (by decide)⟩
theorem m_fits {x y dk lt cn tl : Int32} {tp th td : Nat → Int32} (h : RO dk lt cn tl tp th td) : v_X7_fits x y dk lt = v_X8_fits x y tl tp th td := by
  have f7 : v_X7_fits x y dk lt = if bI (v_X7_isSquares x) = 0 then -2 else if y < 0 then -2 else if y ≤ 2 then bnd3 (it (v_X7_fits_L32 x dk lt) 4096 0 (0, 4095, 0)) (fun a b c => if y = 0 then c else if c = 0 then -9 else if y = 1 then b else (4095 &&& (a ^^^ (-1)))) else -2 := rfl
  have f8 : v_X8_fits x y tl tp th td = if bI (v_X8_in x.toInt64 0 5) = 0 then -2 else if bI (v_X8_in y.toInt64 0 2) = 0 then -2 else bnd3 (it (v_X8_fits_L40 x tl tp th td) 4096 0 (0, 4095, 0)) (fun a b c => if y = 0 then c else if c = 0 then -9 else if y = 1 then b else (4095 - a)) := rfl
  rw [f7, f8]
  rcases q5 x with ⟨a, a'⟩ | ⟨n, hn, rfl, a, a'⟩
  · rw [a, a', ifF, ifF]
  · rw [a, a', ifT, ifT]
    rcases in02 y with ⟨b, c⟩ | ⟨s, hs, rfl, b, c, d⟩
    · rw [b, ifF]
      rcases c with c | ⟨c, d⟩
      · rw [if_pos c]
      · rw [if_neg c, if_neg d]
    · rw [b, ifT, if_neg c, if_pos d]
      have e78 : it (v_X7_fits_L32 (nI n) dk lt) 4096 0 (0, 4095, 0) = it (v_X8_fits_L40 (nI n) tl tp th td) 4096 0 (0, 4095, 0) := by
        refine it_cong 4096 (fun i z hi => ?_) 4096 0 _ (by decide)
        obtain ⟨z1, z2, z3⟩ := z
        show (if v_J6_bitCount_0f7a4 (nI i) = nI n then (if bI (v_X7_agreesWithTold (nI i) dk lt) = 0 then (z1, z2, z3) else (z1 ||| nI i, z2 &&& nI i, z3 + 1)) else (z1, z2, z3)) = (if v_X8_ones (nI i) = nI n then (if bI (v_X8_isTold (nI i) tl tp th td) = 0 then (z1, z2, z3) else (z1 ||| nI i, z2 &&& nI i, z3 + 1)) else (z1, z2, z3))
        rw [bc_ones hi, ones_cnt, told_eq h]
      rw [e78]
      have hsm := it_invN (f := v_X8_fits_L40 (nI n) tl tp th td) 4096 (fun _ (z : Int32 × Int32 × Int32) => sm z.1) (fun i z hi hz => by
        obtain ⟨z1, z2, z3⟩ := z
        show sm (if v_X8_ones (nI i) = nI n then (if bI (v_X8_isTold (nI i) tl tp th td) = 0 then (z1, z2, z3) else (z1 ||| nI i, z2 &&& nI i, z3 + 1)) else (z1, z2, z3)).1
        split
        · split
          · exact hz
          · exact sm_or hz ⟨i, hi, rfl⟩
        · exact hz) 4096 0 (0, 4095, 0) (by decide) sm_0
      obtain ⟨a1, a2, a3, ha⟩ := ex3 (it (v_X8_fits_L40 (nI n) tl tp th td) 4096 0 (0, 4095, 0))
      rw [bnd3_eq ha, bnd3_eq ha]
      rw [← ha] at hsm
      rw [sub_sm hsm]
