/-! own words, pure: ranges; the state's parts side by side; the calls that need no lease -/
theorem ifF {α : Type} (x y : α) : (if bI false = 0 then x else y) = x := if_pos rfl
theorem ifT {α : Type} (x y : α) : (if bI true = 0 then x else y) = y := if_neg (by decide)
theorem in_neg {x : Int32} {a b : Nat} (h : x < 0) (hb : b < 2 ^ 31) (ha : a ≤ b) : v_X8_in x.toInt64 (lN a) (lN b) = false := by
  cases e : v_X8_in x.toInt64 (lN a) (lN b) with
  | false => rfl
  | true =>
    obtain ⟨j, _, hj, rfl⟩ := in32 hb ha e.symm (by decide)
    exact absurd h (nI_pos (by omega))
theorem in_big {x : Int32} {a b n : Nat} (h : nI n ≤ x) (hbn : b < n) (hn : n < 2 ^ 31) (ha : a ≤ b) : v_X8_in x.toInt64 (lN a) (lN b) = false := by
  cases e : v_X8_in x.toInt64 (lN a) (lN b) with
  | false => rfl
  | true =>
    obtain ⟨j, _, hj, rfl⟩ := in32 (by omega) ha e.symm (by decide)
    exact absurd h (nI_ge (by omega) hn)
theorem in_lo {j a b : Nat} (h : j < a) (hab : a ≤ b) (hb : b < 2 ^ 31) : v_X8_in (nI j).toInt64 (lN a) (lN b) = false := by
  cases e : v_X8_in (nI j).toInt64 (lN a) (lN b) with
  | false => rfl
  | true =>
    obtain ⟨k, hk, hj, e2⟩ := in32 hb hab e.symm (by decide)
    rw [nI_eq (by omega) (by omega)] at e2
    omega
theorem in_ok {j a b : Nat} (h1 : a ≤ j) (h2 : j ≤ b) (hb : b < 2 ^ 31) : v_X8_in (nI j).toInt64 (lN a) (lN b) = true := by
  rw [in_iff, nI_l (by omega), pk_lLE (by omega) (by omega), pk_lLE (by omega) (by omega)]
  exact ⟨h1, h2⟩
theorem lt_le {x : Int32} {n : Nat} (hn : n + 1 < 2 ^ 31) : nI (n + 1) ≤ x ↔ nI n < x := by
  rw [Int32.le_iff_toInt_le, Int32.lt_iff_toInt_lt, nI_toInt hn, nI_toInt (by omega)]
  omega
theorem c7 (x : Int32) : (v_X7_isCell x = false ∧ v_X8_isCell x = false) ∨ (∃ p : Nat, p < 12 ∧ x = nI p ∧ v_X7_isCell x = true ∧ v_X8_isCell x = true) := by
  rcases pk_ix x (n := 12) (by decide) with h | h | ⟨p, hp, rfl⟩
  · exact Or.inl ⟨if_pos h, in_neg (a := 0) (b := 11) h (by decide) (by decide)⟩
  · refine Or.inl ⟨?_, in_big (a := 0) (b := 11) h (by decide) (by decide) (by decide)⟩
    unfold v_X7_isCell
    split
    · rfl
    · exact if_pos h
  · refine Or.inr ⟨p, hp, rfl, ?_, in_ok (a := 0) (b := 11) (by omega) (by omega) (by decide)⟩
    unfold v_X7_isCell
    rw [if_neg (nI_pos (by omega))]
    exact if_neg (nI_ge hp (by decide))
theorem h6 (x : Int32) : (v_X7_isHour x = false ∧ v_X8_in x.toInt64 0 5 = false) ∨ (∃ p : Nat, p < 6 ∧ x = nI p ∧ v_X7_isHour x = true ∧ v_X8_in x.toInt64 0 5 = true) := by
  rcases pk_ix x (n := 6) (by decide) with h | h | ⟨p, hp, rfl⟩
  · exact Or.inl ⟨if_pos h, in_neg (a := 0) (b := 5) h (by decide) (by decide)⟩
  · refine Or.inl ⟨?_, in_big (a := 0) (b := 5) h (by decide) (by decide) (by decide)⟩
    unfold v_X7_isHour
    split
    · rfl
    · exact if_pos h
  · refine Or.inr ⟨p, hp, rfl, ?_, in_ok (a := 0) (b := 5) (by omega) (by omega) (by decide)⟩
    unfold v_X7_isHour
    rw [if_neg (nI_pos (by omega))]
    exact if_neg (nI_ge hp (by decide))
theorem q5 (x : Int32) : (v_X7_isSquares x = false ∧ v_X8_in x.toInt64 0 5 = false) ∨ (∃ p : Nat, p < 6 ∧ x = nI p ∧ v_X7_isSquares x = true ∧ v_X8_in x.toInt64 0 5 = true) := by
  rcases pk_ix x (n := 6) (by decide) with h | h | ⟨p, hp, rfl⟩
  · exact Or.inl ⟨if_pos h, in_neg (a := 0) (b := 5) h (by decide) (by decide)⟩
  · refine Or.inl ⟨?_, in_big (a := 0) (b := 5) h (by decide) (by decide) (by decide)⟩
    unfold v_X7_isSquares
    split
    · rfl
    · exact if_pos ((lt_le (by decide)).mp h)
  · refine Or.inr ⟨p, hp, rfl, ?_, in_ok (a := 0) (b := 5) (by omega) (by omega) (by decide)⟩
    unfold v_X7_isSquares
    rw [if_neg (nI_pos (by omega))]
    exact if_neg (nI_nlt (a := 5) (b := p) (by omega) (by decide))
theorem w7 {x wc : Int32} {k : Nat} (hk : k ≤ 5) (hw : wc = nI k) : (v_X7_isWish x wc = false ∧ v_X8_isWish x wc = false) ∨ (∃ p : Nat, p < k ∧ x = nI p ∧ v_X7_isWish x wc = true ∧ v_X8_isWish x wc = true) := by
  subst hw
  have e8 : ∀ y : Int32, v_X8_isWish y (nI k) = v_X8_in y.toInt64 0 (nI k - 1).toInt64 := fun y => rfl
  have e7 : v_X7_isWish x (nI k) = if x < 0 then false else if nI k ≤ x then false else true := rfl
  rw [e8, e7]
  by_cases h0 : k = 0
  · subst h0
    refine Or.inl ⟨?_, ?_⟩
    · split
      · rfl
      · rename_i h
        obtain ⟨j, hj, rfl⟩ := nI_of h
        exact if_pos (nI_le (by omega) hj)
    · cases e : v_X8_in x.toInt64 0 (nI 0 - 1).toInt64 with
      | false => rfl
      | true =>
        rw [in_iff, Int64.le_iff_toInt_le, Int64.le_iff_toInt_le, Int32.toInt_toInt64, show (nI 0 - 1).toInt64.toInt = -1 from by decide +kernel, show (0 : Int64).toInt = 0 from rfl] at e
        omega
  · rw [show nI k - 1 = nI (k - 1) from by rw [← nI_pred (k - 1), show k - 1 + 1 = k by omega], nI_l (by omega)]
    rcases pk_ix x (n := k) (by omega) with h | h | ⟨p, hp, rfl⟩
    · exact Or.inl ⟨if_pos h, in_neg (a := 0) h (by omega) (by omega)⟩
    · refine Or.inl ⟨?_, in_big (a := 0) h (by omega) (by omega) (by omega)⟩
      by_cases h9 : x < 0
      · exact if_pos h9
      · rw [if_neg h9]; exact if_pos h
    · refine Or.inr ⟨p, hp, rfl, ?_, in_ok (a := 0) (by omega) (by omega) (by omega)⟩
      rw [if_neg (nI_pos (by omega))]
      exact if_neg (nI_ge hp (by omega))
theorem g7 (x : Int32) : (v_X7_isHanging x = false ∧ v_X8_isHanging x = false) ∨ (∃ h : Nat, h < 4096 ∧ cnt (nI h) ≤ 5 ∧ x = nI h ∧ v_X7_isHanging x = true ∧ v_X8_isHanging x = true) := by
  have e7 : v_X7_isHanging x = if x < 0 then false else if 4096 ≤ x then false else if 5 < v_J6_bitCount_0f7a4 x then false else true := rfl
  have e8 : v_X8_isHanging x = if bI (v_X8_in x.toInt64 0 4095) = 0 then false else if 5 < v_X8_ones x then false else true := rfl
  rw [e7, e8]
  rcases pk_ix x (n := 4096) (by decide) with h | h | ⟨p, hp, rfl⟩
  · refine Or.inl ⟨if_pos h, ?_⟩
    rw [show v_X8_in x.toInt64 0 4095 = false from in_neg (a := 0) (b := 4095) h (by decide) (by decide)]; rfl
  · refine Or.inl ⟨?_, ?_⟩
    · split
      · rfl
      · exact if_pos h
    · rw [show v_X8_in x.toInt64 0 4095 = false from in_big (a := 0) (b := 4095) h (by decide) (by decide) (by decide)]; rfl
  · rw [show v_X8_in (nI p).toInt64 0 4095 = true from in_ok (a := 0) (b := 4095) (by omega) (by omega) (by decide), if_neg (nI_pos (by omega)), if_neg (show ¬ (4096 : Int32) ≤ nI p from nI_ge hp (by decide)), if_neg (show ¬ bI true = 0 by decide), bc_ones hp, ones_cnt]
    have hc := cnt_le (nI p)
    by_cases h5 : cnt (nI p) ≤ 5
    · have : ¬ (5 : Int32) < nI (cnt (nI p)) := nI_nlt (a := 5) (b := cnt (nI p)) h5 (by decide)
      exact Or.inr ⟨p, hp, h5, rfl, if_neg this, if_neg this⟩
    · have : (5 : Int32) < nI (cnt (nI p)) := nI_lt (a := 5) (by omega) (by omega)
      exact Or.inl ⟨if_pos this, if_pos this⟩
/-! rows -/
theorem at_nI {i n : Nat} {f : Nat → Int32} (h : i < n) (hn : n < 2 ^ 31) : v_X4_at (nI i) f n = f i := by
  unfold v_X4_at
  rw [if_neg (nI_pos (by omega)), if_neg (nI_ge h hn), nI_clamp (by omega)]
theorem put_nI {i n : Nat} {x : Int32} {f : Nat → Int32} (h : i < n) (hn : n < 2 ^ 31) : v_X4_put (nI i) x f n = upd f i x := by
  unfold v_X4_put
  rw [if_neg (nI_pos (by omega)), if_neg (nI_ge h hn), nI_clamp (by omega)]
theorem fill_at {x : Int32} {f : Nat → Int32} {n j : Nat} (hn : n < 2 ^ 31) (h : j < n) : v_X4_fill x f n j = x := by
  have := it_invN (f := v_X4_fill_L2 x) n (fun i z => ∀ k, k < i → z k = x) (fun i s hi hs k hk => by
    show upd s (nI i).toNatClampNeg x k = x
    rw [nI_clamp (by omega)]
    by_cases e : k = i
    · subst e; exact pk_us
    · rw [pk_un e]; exact hs k (by omega)) n 0 f (by omega) (fun k hk => by omega)
  exact this j (by omega)
/-! the text -/
def RT (nl : Int32) (nf : Nat → Int32) (ml : Int32) (mf : Nat → Int32) : Prop := ∃ n : Nat, n ≤ 72 ∧ nl = nI n ∧ ml = nI n ∧ nf = mf
theorem m_write {x nl ml o1 o2 p1 p2 : Int32} {nf mf o3 p3 : Nat → Int32} (h : RT nl nf ml mf) (e : (o1, o2, o3) = v_X7_write x nl nf) (e' : (p1, p2, p3) = v_X8_write x ml mf) : o1 = p1 ∧ RT o2 o3 p2 p3 := by
  obtain ⟨n, hn, rfl, rfl, hk⟩ := h
  have f7 : v_X7_write x (nI n) nf = if x < 0 then (-2, nI n, nf) else if x ≤ 255 then (if nI n < 72 then (nI n + 1, nI n + 1, v_X4_put (nI n) x nf 72) else (-4, nI n, nf)) else (-2, nI n, nf) := rfl
  have f8 : v_X8_write x (nI n) mf = if bI (v_X8_in x.toInt64 0 255) = 0 then (-2, nI n, mf) else if nI n = 72 then (-4, nI n, mf) else (nI n + 1, nI n + 1, upd mf (nI n).toNatClampNeg x) := rfl
  rw [f7] at e; rw [f8] at e'
  rcases pk_ix x (n := 256) (by decide) with h | h | ⟨c, hc, rfl⟩
  · rw [if_pos h] at e
    rw [show v_X8_in x.toInt64 0 255 = false from in_neg (a := 0) (b := 255) h (by decide) (by decide), if_pos (show bI false = 0 from rfl)] at e'
    cases e; cases e'
    exact ⟨rfl, n, hn, rfl, rfl, hk⟩
  · have h1 : ¬ x < 0 := by
      intro q
      have a := Int32.le_iff_toInt_le.mp h
      have b := Int32.lt_iff_toInt_lt.mp q
      rw [nI_toInt (by decide)] at a
      have c : (0 : Int32).toInt = 0 := rfl
      omega
    have h2 : ¬ x ≤ 255 := by
      intro q
      have a := Int32.le_iff_toInt_le.mp h
      have b := Int32.le_iff_toInt_le.mp q
      rw [nI_toInt (by decide)] at a
      have c : (255 : Int32).toInt = 255 := rfl
      omega
    rw [if_neg h1, if_neg h2] at e
    rw [show v_X8_in x.toInt64 0 255 = false from in_big (a := 0) (b := 255) h (by decide) (by decide) (by decide), if_pos (show bI false = 0 from rfl)] at e'
    cases e; cases e'
    exact ⟨rfl, n, hn, rfl, rfl, hk⟩
  · rw [if_neg (nI_pos (by omega)), if_pos (show nI c ≤ 255 from nI_le (b := 255) (by omega) (by decide))] at e
    rw [show v_X8_in (nI c).toInt64 0 255 = true from in_ok (a := 0) (b := 255) (by omega) (by omega) (by decide), if_neg (show ¬ bI true = 0 by decide)] at e'
    by_cases h72 : n = 72
    · subst h72
      rw [if_neg (show ¬ nI 72 < 72 by decide)] at e
      rw [if_pos (show nI 72 = 72 from rfl)] at e'
      cases e; cases e'
      exact ⟨rfl, 72, hn, rfl, rfl, hk⟩
    · rw [if_pos (show nI n < 72 from nI_lt (b := 72) (by omega) (by decide)), put_nI (by omega) (by decide)] at e
      rw [if_neg (show ¬ nI n = 72 from fun q => h72 ((nI_eq (b := 72) (by omega) (by decide)).mp q)), nI_clamp (by omega)] at e'
      cases e; cases e'
      exact ⟨rfl, n + 1, by omega, nI_1 n, nI_1 n, by rw [hk]⟩
theorem m_wipe {nl ml o1 o2 p1 p2 : Int32} {nf mf : Nat → Int32} (h : RT nl nf ml mf) (e : (o1, o2) = v_X7_wipe nl) (e' : (p1, p2) = v_X8_wipe ml) : o1 = p1 ∧ RT o2 nf p2 mf := by
  obtain ⟨n, hn, rfl, rfl, hk⟩ := h
  cases e; cases e'
  exact ⟨rfl, 0, by decide, rfl, rfl, hk⟩
theorem RT.vp {nl ml : Int32} {nf mf : Nat → Int32} (h : RT nl nf ml mf) : vp_in ml 73 := by
  obtain ⟨n, hn, rfl, rfl, hk⟩ := h
  exact vp_in_nI (by omega) (by decide)
/-! the hanging and the hour -/
def RH (nh nr mh mr : Int32) : Prop := ∃ h t : Nat, h < 4096 ∧ cnt (nI h) ≤ 5 ∧ t < 6 ∧ nh = nI h ∧ mh = nI h ∧ nr = nI t ∧ mr = nI t
def ca (p t : Nat) : Nat := p - p % 6 + (p % 6 + 6 - t) % 6
theorem ca_tab : ∀ p, p < 12 → ∀ t, t < 6 → v_X7_cellAbove (nI p) (nI t) = nI (ca p t) ∧ v_X8_above (nI p) (nI t) = nI (ca p t) ∧ ca p t < 12 := by decide +kernel
theorem isDark_ca (H : Int32) {p t : Nat} (hp : p < 12) (ht : t < 6) : v_X8_isDark H (nI p) (nI t) = hb H (ca p t) := by
  have := ca_tab p hp t ht
  show v_X8_has H (v_X8_above (nI p) (nI t)) = _
  rw [this.2.1]; exact has8 H (by omega)
theorem has_ca (H : Int32) {p t : Nat} (hp : p < 12) (ht : t < 6) : v_X7_has H (v_X7_cellAbove (nI p) (nI t)) = hb H (ca p t) := by
  have := ca_tab p hp t ht
  rw [this.1]; exact has7 H (by omega)
theorem m_dark {x1 x2 nh nr mh mr : Int32} (h : RH nh nr mh mr) : v_X7_dark x1 x2 nh = v_X8_dark x1 x2 mh := by
  obtain ⟨h, t, hh, h5, ht, rfl, rfl, rfl, rfl⟩ := h
  have f7 : v_X7_dark x1 x2 (nI h) = if bI (v_X7_isCell x1) = 0 then -1 else if bI (v_X7_isHour x2) = 0 then -2 else if bI (v_X7_has (nI h) (v_X7_cellAbove x1 x2)) = 0 then 0 else 1 := rfl
  have f8 : v_X8_dark x1 x2 (nI h) = if bI (v_X8_isCell x1) = 0 then -1 else if bI (v_X8_in x2.toInt64 0 5) = 0 then -2 else if bI (v_X8_isDark (nI h) x1 x2) = 0 then 0 else 1 := rfl
  rw [f7, f8]
  rcases c7 x1 with ⟨a, b⟩ | ⟨p, hp, rfl, a, b⟩
  · rw [a, b, ifF, ifF]
  · rw [a, b, ifT, ifT]
    rcases h6 x2 with ⟨c, d⟩ | ⟨u, hu, rfl, c, d⟩
    · rw [c, d, ifF, ifF]
    · rw [c, d, isDark_ca _ hp hu, has_ca _ hp hu]
theorem or0 (z : Int32) : z ||| 0 = z := Int32.or_zero
theorem dk_eq (H : Int32) {p : Nat} (hp : p < 12) : v_X7_darkHours (nI p) H = v_X8_darkHours H (nI p) := by
  refine it_cong 6 (fun i z hi => ?_) 6 0 0 (by decide)
  show (if bI (v_X7_has H (v_X7_cellAbove (nI p) (nI i))) = 0 then z else (z ||| ((1 : Int32) <<< (nI i &&& 31)))) = (if bI (v_X8_isDark H (nI p) (nI i)) = 0 then z ||| 0 else (z ||| ((1 : Int32) <<< (nI i &&& 31))))
  rw [isDark_ca _ hp hi, has_ca _ hp hi, or0]
theorem dk_hb (H : Int32) {p t : Nat} (hp : p < 12) (ht : t < 32) : hb (v_X8_darkHours H (nI p)) t = (decide (t < 6) && hb H (ca p t)) := by
  have h := it_hb0 (f := v_X8_darkHours_L4 H (nI p)) (b := t) (p := fun i => decide (t = i) && hb H (ca p i)) (k := 6) (fun i z hi => by
    show hb (if bI (v_X8_isDark H (nI p) (nI i)) = 0 then z ||| 0 else (z ||| ((1 : Int32) <<< (nI i &&& 31)))) t = _
    rw [isDark_ca _ hp hi]
    cases hb H (ca p i)
    · rw [if_pos (show bI false = 0 from rfl), or0, Bool.and_false, Bool.or_false]
    · rw [if_neg (show ¬ bI true = 0 by decide), hb_or, hb_sh i (by omega) t ht, Bool.and_true])
  show hb (it (v_X8_darkHours_L4 H (nI p)) 6 0 0) t = _
  rw [Bool.eq_iff_iff, h]
  constructor
  · rintro ⟨j, hj, e⟩
    rw [Bool.and_eq_true, decide_eq_true_eq] at e
    obtain ⟨rfl, e2⟩ := e
    rw [e2, Bool.and_true]; exact decide_eq_true hj
  · intro e
    rw [Bool.and_eq_true, decide_eq_true_eq] at e
    exact ⟨t, e.1, by rw [e.2, Bool.and_true]; exact decide_eq_true rfl⟩
theorem rd_tab : ∀ c, c < 12 → v_X7_nextCell (nI c) 1 = nI (c / 6 * 6 + (c % 6 + 1) % 6) := by decide +kernel
theorem m_read {x1 nh nr mh mr : Int32} (h : RH nh nr mh mr) : v_X7_read x1 nh nr = v_X8_read x1 mh mr := by
  obtain ⟨h, t, hh, h5, ht, rfl, rfl, rfl, rfl⟩ := h
  have f7 : v_X7_read x1 (nI h) (nI t) = if bI (v_X7_isCell x1) = 0 then -1 else (it (v_X7_read_L23 (nI h)) 6 0 (v_X7_cellAbove x1 (nI t), 0)).2 := rfl
  have f8 : v_X8_read x1 (nI h) (nI t) = if bI (v_X8_isCell x1) = 0 then -1 else it (v_X8_read_L23 (nI h) (v_X8_above x1 (nI t))) 6 0 0 := rfl
  rw [f7, f8]
  rcases c7 x1 with ⟨a, b⟩ | ⟨p, hp, rfl, a, b⟩
  · rw [a, b, ifF, ifF]
  · obtain ⟨e1, e2, e3⟩ := ca_tab p hp t ht
    rw [a, b, e1, e2, ifT, ifT]
    generalize ca p t = c at e3
    have := it_rel (f := v_X7_read_L23 (nI h)) (g := v_X8_read_L23 (nI h) (nI c)) 6 (fun k s w => s.1 = nI (c / 6 * 6 + (c % 6 + k) % 6) ∧ s.2 = w) (fun i s w hi hs => by
      obtain ⟨s1, s2⟩ := s
      obtain ⟨hs1, hs2⟩ := hs
      replace hs1 : s1 = nI (c / 6 * 6 + (c % 6 + i) % 6) := hs1
      replace hs2 : s2 = w := hs2
      subst hs2
      have hc : c / 6 * 6 + (c % 6 + i) % 6 < 12 := by omega
      have en := rd_tab _ hc
      rw [show (c / 6 * 6 + (c % 6 + i) % 6) / 6 * 6 + ((c / 6 * 6 + (c % 6 + i) % 6) % 6 + 1) % 6 = c / 6 * 6 + (c % 6 + (i + 1)) % 6 by omega] at en
      have ew : v_X8_read_L23 (nI h) (nI c) i s2 = (2 * s2) + nI (hb (nI h) (c / 6 * 6 + (c % 6 + i) % 6)).toNat := by
        show (2 * s2) + ((nI h >>> ((((nI c / 6) * 6) + (((nI c - nI c / 6 * 6) + nI i) - ((nI c - nI c / 6 * 6) + nI i) / 6 * 6)) &&& 31)) &&& 1) = _
        rw [show (6 : Int32) = nI 6 from rfl, pk_rem (by omega) (by decide) (by decide), nI_add, pk_rem (by omega) (by decide) (by decide), pk_div (by omega) (by decide) (by decide), pk_mul, nI_add, hb1 _ (by omega)]
      have es : v_X7_read_L23 (nI h) i (s1, s2) = if bI (v_X7_has (nI h) s1) = 0 then (v_X7_nextCell s1 1, (2 * s2) + 0) else (v_X7_nextCell s1 1, (2 * s2) + 1) := rfl
      rw [es, ew, hs1, has7 _ (by omega), en]
      cases hb (nI h) (c / 6 * 6 + (c % 6 + i) % 6)
      · exact ⟨rfl, rfl⟩
      · exact ⟨rfl, rfl⟩) 6 0 (nI c, 0) 0 (by decide) ⟨by rw [show c / 6 * 6 + (c % 6 + 0) % 6 = c by omega], rfl⟩
    exact this.2
