/-! own words, pure: the lease -/
def cl (p f s : Nat) : Int32 := it (v_X1_addWish_L6 (nI p) (nI f)) s 0 0
theorem cl_hb {p f s c : Nat} (hp : p < 12) (hf : f < 6) (hs : s ≤ 6) (hc : c < 32) : hb (cl p f s) c = true ↔ ∃ j, j < s ∧ c = ca p ((f + j) % 6) := by
  have h := it_hb0 (f := v_X1_addWish_L6 (nI p) (nI f)) (b := c) (p := fun i => decide (c = ca p ((f + i) % 6))) (k := s) (fun i z hi => by
    show hb (z ||| ((1 : Int32) <<< (v_X7_cellAbove (nI p) ((nI f + nI i) - (nI f + nI i) / 6 * 6) &&& 31))) c = _
    have hca := ca_tab p hp ((f + i) % 6) (by omega)
    rw [nI_add, show (6 : Int32) = nI 6 from rfl, pk_rem (by omega) (by decide) (by decide), hca.1, hb_or, hb_sh _ (by omega) c hc])
  show hb (it (v_X1_addWish_L6 (nI p) (nI f)) s 0 0) c = true ↔ _
  rw [h]
  constructor
  · rintro ⟨j, hj, e⟩; exact ⟨j, hj, of_decide_eq_true e⟩
  · rintro ⟨j, hj, e⟩; exact ⟨j, hj, decide_eq_true e⟩
def RW (pl fh sp va ce ne told : Nat → Int32) (w : Nat) : Prop := ∃ p f s v : Nat, ∃ d : Bool, p < 12 ∧ f < 6 ∧ 1 ≤ s ∧ s ≤ 6 ∧ 1 ≤ v ∧ v ≤ 9 ∧ pl w = nI p ∧ fh w = nI f ∧ sp w = nI s ∧ va w = nI v ∧ ce w = cl p f s ∧ ne w = (if d = true then cl p f s else 0) ∧ told (5 * w) = nI p ∧ told (5 * w + 1) = nI f ∧ told (5 * w + 2) = nI s ∧ told (5 * w + 3) = nI v ∧ told (5 * w + 4) = bI d
def RD (op : Int32) (ow ro owed : Nat → Int32) : Prop := sm op ∧ (∀ p, p < 12 → ow p = owed p ∧ ∃ n : Nat, n ≤ 6 ∧ owed p = nI n ∧ hb op p = decide (¬ n = 0)) ∧ (∀ r, r < 2 → ∃ m : Nat, m ≤ 6 ∧ ro r = nI m ∧ (∀ p, p < 12 → p / 6 = r → ∀ n : Nat, n ≤ 6 → owed p = nI n → n + m ≤ 6) ∧ (m = 6 ∨ ∃ p, p < 12 ∧ p / 6 = r ∧ owed p = nI (6 - m)))
def RLs (wc op : Int32) (pl fh sp va ce ne ow ro : Nat → Int32) (mw : Int32) (told owed : Nat → Int32) : Prop := (∃ k : Nat, k ≤ 5 ∧ wc = nI k ∧ mw = nI k ∧ ∀ w, w < k → RW pl fh sp va ce ne told w) ∧ RD op ow ro owed
section Lease
variable {wc op mw : Int32} {pl fh sp va ce ne ow ro told owed : Nat → Int32}
theorem RLs.hw (h : RLs wc op pl fh sp va ce ne ow ro mw told owed) : ∃ k : Nat, k ≤ 5 ∧ mw = nI k := by
  obtain ⟨⟨k, hk, _, e, _⟩, _⟩ := h; exact ⟨k, hk, e⟩
theorem RLs.hwn (h : RLs wc op pl fh sp va ce ne ow ro mw told owed) : ∃ k : Nat, k ≤ 5 ∧ wc = nI k := by
  obtain ⟨⟨k, hk, e, _, _⟩, _⟩ := h; exact ⟨k, hk, e⟩
theorem ho_hb {f s t w : Nat} (hw : w < 5) (hf : f < 6) (hs : s ≤ 6) (ht : t < 32) (e1 : told (5 * w + 1) = nI f) (e2 : told (5 * w + 2) = nI s) : hb (v_X8_hoursOf (nI w) told) t = true ↔ ∃ j, j < s ∧ t = (f + j) % 6 := by
  have ix : ∀ c : Nat, c < 5 → (5 * nI w + nI c).toNatClampNeg = 5 * w + c := fun c hc => by
    rw [show (5 : Int32) = nI 5 from rfl, pk_mul, nI_add, nI_clamp (by omega)]
  have h := it_hb0 (f := v_X8_hoursOf_L4 (nI w) told) (b := t) (p := fun i => decide (t = (f + i) % 6)) (k := s) (fun i z hi => by
    show hb (z ||| ((1 : Int32) <<< (((told ((5 * nI w) + nI 1).toNatClampNeg + nI i) - (told ((5 * nI w) + nI 1).toNatClampNeg + nI i) / 6 * 6) &&& 31))) t = _
    rw [ix 1 (by decide), e1, nI_add, show (6 : Int32) = nI 6 from rfl, pk_rem (by omega) (by decide) (by decide), hb_or, hb_sh _ (by omega) t ht])
  show hb (it (v_X8_hoursOf_L4 (nI w) told) (told ((5 * nI w) + nI 2).toNatClampNeg).toNatClampNeg 0 0) t = true ↔ _
  rw [ix 2 (by decide), e2, nI_clamp (by omega), h]
  constructor
  · rintro ⟨j, hj, e⟩; exact ⟨j, hj, of_decide_eq_true e⟩
  · rintro ⟨j, hj, e⟩; exact ⟨j, hj, decide_eq_true e⟩
theorem hours_eq {w : Nat} (hw : w < 5) (h : RW pl fh sp va ce ne told w) : v_X1_hoursOf (nI w) sp fh = v_X8_hoursOf (nI w) told := by
  obtain ⟨p, f, s, v, d, hp, hf, hs1, hs, hv1, hv, e1, e2, e3, e4, e5, e6, g1, g2, g3, g4, g5⟩ := h
  have ix : ∀ c : Nat, c < 5 → (5 * nI w + nI c).toNatClampNeg = 5 * w + c := fun c hc => by
    rw [show (5 : Int32) = nI 5 from rfl, pk_mul, nI_add, nI_clamp (by omega)]
  show it (v_X1_hoursOf_L4 (nI w) sp fh) (v_X4_at (nI w) sp 5).toNatClampNeg 0 0 = it (v_X8_hoursOf_L4 (nI w) told) (told ((5 * nI w) + nI 2).toNatClampNeg).toNatClampNeg 0 0
  rw [ix 2 (by decide), g3, at_nI hw (by decide), e3, nI_clamp (by omega)]
  refine it_cong s (fun i z hi => ?_) s 0 0 (by omega)
  show (z ||| ((1 : Int32) <<< (((v_X4_at (nI w) fh 5 + nI i) - (v_X4_at (nI w) fh 5 + nI i) / 6 * 6) &&& 31))) = (z ||| ((1 : Int32) <<< (((told ((5 * nI w) + nI 1).toNatClampNeg + nI i) - (told ((5 * nI w) + nI 1).toNatClampNeg + nI i) / 6 * 6) &&& 31)))
  rw [ix 1 (by decide), g2, at_nI hw (by decide), e2]
theorem gr_eq {w : Nat} {H : Int32} (hw : w < 5) (h : RW pl fh sp va ce ne told w) : v_X8_grants H (nI w) told = decide ((H &&& ce w) = ne w) := by
  obtain ⟨p, f, s, v, d, hp, hf, hs1, hs, hv1, hv, e1, e2, e3, e4, e5, e6, g1, g2, g3, g4, g5⟩ := h
  have ix : ∀ c : Nat, c < 5 → (5 * nI w + nI c).toNatClampNeg = 5 * w + c := fun c hc => by
    rw [show (5 : Int32) = nI 5 from rfl, pk_mul, nI_add, nI_clamp (by omega)]
  have ix0 : (5 * nI w).toNatClampNeg = 5 * w := by
    rw [show (5 : Int32) = nI 5 from rfl, pk_mul, nI_clamp (by omega)]
  have f8 : v_X8_grants H (nI w) told = if told ((5 * nI w) + nI 4).toNatClampNeg = 1 then (if (v_X8_hoursOf (nI w) told &&& (v_X8_darkHours H (told (5 * nI w).toNatClampNeg) ^^^ (-1))) = 0 then true else false) else (if (v_X8_hoursOf (nI w) told &&& v_X8_darkHours H (told (5 * nI w).toNatClampNeg)) = 0 then true else false) := rfl
  rw [f8, ix 4 (by decide), ix0, g1, g5, e5, e6]
  have hca : ∀ j, (f + j) % 6 < 6 := fun j => by omega
  cases d with
  | true =>
    rw [if_pos (show bI true = 1 from rfl), if_pos rfl]
    have a : (v_X8_hoursOf (nI w) told &&& (v_X8_darkHours H (nI p) ^^^ (-1))) = 0 ↔ ∀ j, j < s → hb H (ca p ((f + j) % 6)) = true := by
      rw [and_not]
      constructor
      · intro q j hj
        have := q ((f + j) % 6) (by omega) ((ho_hb hw hf hs (by omega) g2 g3).mpr ⟨j, hj, rfl⟩)
        rw [dk_hb H hp (by omega), Bool.and_eq_true] at this
        exact this.2
      · intro q t ht h1
        obtain ⟨j, hj, rfl⟩ := (ho_hb hw hf hs ht g2 g3).mp h1
        rw [dk_hb H hp ht, q j hj, decide_eq_true (hca j)]; rfl
    have b : (H &&& cl p f s) = cl p f s ↔ ∀ j, j < s → hb H (ca p ((f + j) % 6)) = true := by
      rw [and_sub]
      constructor
      · intro q j hj
        have := (ca_tab p hp ((f + j) % 6) (hca j)).2.2
        exact q _ (by omega) ((cl_hb hp hf hs (by omega)).mpr ⟨j, hj, rfl⟩)
      · intro q c hc h1
        obtain ⟨j, hj, rfl⟩ := (cl_hb hp hf hs hc).mp h1
        exact q j hj
    by_cases c : ∀ j, j < s → hb H (ca p ((f + j) % 6)) = true
    · rw [if_pos (a.mpr c), decide_eq_true (b.mpr c)]
    · rw [if_neg (fun q => c (a.mp q)), decide_eq_false (fun q => c (b.mp q))]
  | false =>
    rw [if_neg (show ¬ bI false = 1 by decide), if_neg (show ¬ false = true by decide)]
    have a : (v_X8_hoursOf (nI w) told &&& v_X8_darkHours H (nI p)) = 0 ↔ ∀ j, j < s → hb H (ca p ((f + j) % 6)) = false := by
      rw [Int32.and_comm, and_none]
      constructor
      · intro q j hj
        have := q ((f + j) % 6) (by omega) ((ho_hb hw hf hs (by omega) g2 g3).mpr ⟨j, hj, rfl⟩)
        rw [dk_hb H hp (by omega), decide_eq_true (hca j), Bool.true_and] at this
        exact this
      · intro q t ht h1
        obtain ⟨j, hj, rfl⟩ := (ho_hb hw hf hs ht g2 g3).mp h1
        rw [dk_hb H hp ht, q j hj, Bool.and_false]
    have b : (H &&& cl p f s) = 0 ↔ ∀ j, j < s → hb H (ca p ((f + j) % 6)) = false := by
      rw [and_none]
      constructor
      · intro q j hj
        have := (ca_tab p hp ((f + j) % 6) (hca j)).2.2
        exact q _ (by omega) ((cl_hb hp hf hs (by omega)).mpr ⟨j, hj, rfl⟩)
      · intro q c hc h1
        obtain ⟨j, hj, rfl⟩ := (cl_hb hp hf hs hc).mp h1
        exact q j hj
    by_cases c : ∀ j, j < s → hb H (ca p ((f + j) % 6)) = false
    · rw [if_pos (a.mpr c), decide_eq_true (b.mpr c)]
    · rw [if_neg (fun q => c (a.mp q)), decide_eq_false (fun q => c (b.mp q))]
theorem granted_eq (h : RLs wc op pl fh sp va ce ne ow ro mw told owed) (H : Int32) : v_X1_grantedBy H wc ce ne = v_X8_granted H mw told := by
  obtain ⟨⟨k, hk, rfl, rfl, hr⟩, _⟩ := h
  show it (v_X1_grantedBy_L4 H ce ne) (nI k).toNatClampNeg 0 0 = it (v_X8_granted_L4 H told) (nI k).toNatClampNeg 0 0
  rw [nI_clamp (by omega)]
  refine it_cong k (fun i z hi => ?_) k 0 0 (by omega)
  show (if (H &&& v_X4_at (nI i) ce 5) = v_X4_at (nI i) ne 5 then (z ||| ((1 : Int32) <<< (nI i &&& 31))) else z) = (if bI (v_X8_grants H (nI i) told) = 0 then z ||| 0 else (z ||| ((1 : Int32) <<< (nI i &&& 31))))
  rw [gr_eq (by omega) (hr i hi), at_nI (by omega) (by decide), at_nI (by omega) (by decide), or0]
  by_cases c : (H &&& ce i) = ne i
  · rw [if_pos c, decide_eq_true c, ifT]
  · rw [if_neg c, decide_eq_false c, ifF]
theorem granted_hb (h : RLs wc op pl fh sp va ce ne ow ro mw told owed) {H : Int32} {i : Nat} (hi : i < 32) : hb (v_X8_granted H mw told) i = true ↔ mw.toNatClampNeg > i ∧ v_X8_grants H (nI i) told = true := by
  obtain ⟨⟨k, hk, rfl, rfl, hr⟩, _⟩ := h
  have q := it_hb0 (f := v_X8_granted_L4 H told) (b := i) (p := fun j => decide (i = j) && v_X8_grants H (nI j) told) (k := k) (fun j z hj => by
    show hb (if bI (v_X8_grants H (nI j) told) = 0 then z ||| 0 else (z ||| ((1 : Int32) <<< (nI j &&& 31)))) i = _
    cases v_X8_grants H (nI j) told
    · rw [ifF, or0, Bool.and_false, Bool.or_false]
    · rw [ifT, hb_or, hb_sh j (by omega) i hi, Bool.and_true])
  show hb (it (v_X8_granted_L4 H told) (nI k).toNatClampNeg 0 0) i = true ↔ _
  rw [nI_clamp (by omega), q]
  constructor
  · rintro ⟨j, hj, e⟩
    rw [Bool.and_eq_true, decide_eq_true_eq] at e
    obtain ⟨rfl, e2⟩ := e
    exact ⟨hj, e2⟩
  · rintro ⟨h1, h2⟩
    exact ⟨i, h1, by rw [h2, decide_eq_true rfl]; rfl⟩
/-- a set of wishes is a number below 2 to their count -/
theorem granted_lt (h : RLs wc op pl fh sp va ce ne ow ro mw told owed) (H : Int32) : ∃ g : Nat, g < 2 ^ mw.toNatClampNeg ∧ v_X8_granted H mw told = nI g := by
  obtain ⟨n, hn, e⟩ := nI_any (v_X8_granted H mw told)
  refine ⟨n, ?_, e⟩
  apply Nat.lt_pow_two_of_testBit
  intro i hi
  by_cases h32 : i < 32
  · cases q : n.testBit i with
    | false => rfl
    | true =>
      have : hb (v_X8_granted H mw told) i = true := by rw [e, hb_nI, q, decide_eq_true h32]; rfl
      have := ((granted_hb h h32).mp this).1
      omega
  · exact Nat.testBit_lt_two_pow (Nat.lt_of_lt_of_le hn (Nat.pow_le_pow_right (by decide) (by omega)))
theorem granted_32 (h : RLs wc op pl fh sp va ce ne ow ro mw told owed) (H : Int32) : ∃ g : Nat, g < 32 ∧ v_X8_granted H mw told = nI g := by
  obtain ⟨g, hg, e⟩ := granted_lt h H
  obtain ⟨k, hk, rfl⟩ := h.hw
  rw [nI_clamp (by omega)] at hg
  exact ⟨g, Nat.lt_of_lt_of_le hg (Nat.pow_le_pow_right (n := 2) (by decide) hk : 2 ^ k ≤ 2 ^ 5), e⟩
theorem sum_eq (h : RLs wc op pl fh sp va ce ne ow ro mw told owed) (x : Int32) : v_X1_sumOf x wc va = v_X8_worthOf x mw told := by
  obtain ⟨⟨k, hk, rfl, rfl, hr⟩, _⟩ := h
  show it (v_X1_sumOf_L4 x va) (nI k).toNatClampNeg 0 0 = it (v_X8_worthOf_L4 x told) (nI k).toNatClampNeg 0 0
  rw [nI_clamp (by omega)]
  refine it_cong k (fun i z hi => ?_) k 0 0 (by omega)
  show (if bI (v_X7_has x (nI i)) = 0 then z + 0 else z + v_X4_at (nI i) va 5) = z + (((x >>> (nI i &&& 31)) &&& 1) * told ((5 * nI i) + nI 3).toNatClampNeg)
  obtain ⟨p, f, s, v, d, hp, hf, hs1, hs, hv1, hv, e1, e2, e3, e4, e5, e6, g1, g2, g3, g4, g5⟩ := hr i hi
  rw [show (5 : Int32) = nI 5 from rfl, pk_mul, nI_add, nI_clamp (by omega), g4, hb1 x (by omega), has7 x (by omega), at_nI (by omega) (by decide), e4, pk_mul]
  cases hb x i
  · rw [ifF, show false.toNat * v = 0 from Nat.zero_mul v]; rfl
  · rw [ifT, show true.toNat * v = v from Nat.one_mul v]
theorem worth_lt (h : RLs wc op pl fh sp va ce ne ow ro mw told owed) (x : Int32) : ∃ v : Nat, v ≤ 45 ∧ v_X8_worthOf x mw told = nI v := by
  obtain ⟨⟨k, hk, rfl, rfl, hr⟩, _⟩ := h
  have := it_invN (f := v_X8_worthOf_L4 x told) k (fun i z => ∃ v : Nat, v ≤ 9 * i ∧ z = nI v) (fun i z hi hz => by
    obtain ⟨u, hu, rfl⟩ := hz
    show ∃ v : Nat, v ≤ 9 * (i + 1) ∧ nI u + (((x >>> (nI i &&& 31)) &&& 1) * told ((5 * nI i) + nI 3).toNatClampNeg) = nI v
    obtain ⟨p, f, s, v, d, hp, hf, hs1, hs, hv1, hv, e1, e2, e3, e4, e5, e6, g1, g2, g3, g4, g5⟩ := hr i hi
    rw [show (5 : Int32) = nI 5 from rfl, pk_mul, nI_add, nI_clamp (by omega), g4, hb1 x (by omega), pk_mul, nI_add]
    refine ⟨_, ?_, rfl⟩
    cases hb x i
    · rw [show false.toNat * v = 0 from Nat.zero_mul v]; omega
    · rw [show true.toNat * v = v from Nat.one_mul v]; omega) k 0 0 (by omega) ⟨0, by omega, rfl⟩
  obtain ⟨v, hv, e⟩ := this
  refine ⟨v, by omega, ?_⟩
  show it (v_X8_worthOf_L4 x told) (nI k).toNatClampNeg 0 0 = nI v
  rw [nI_clamp (by omega)]; exact e
end Lease
/-! what is lawful -/
theorem dcnt (H : Int32) {p : Nat} (hp : p < 12) : cnt (v_X8_darkHours H (nI p)) = (hb H (p / 6 * 6)).toNat + (hb H (p / 6 * 6 + 1)).toNat + (hb H (p / 6 * 6 + 2)).toNat + (hb H (p / 6 * 6 + 3)).toNat + (hb H (p / 6 * 6 + 4)).toNat + (hb H (p / 6 * 6 + 5)).toNat := by
  unfold cnt
  rw [dk_hb H hp (by decide), dk_hb H hp (by decide), dk_hb H hp (by decide), dk_hb H hp (by decide), dk_hb H hp (by decide), dk_hb H hp (by decide), dk_hb H hp (by decide), dk_hb H hp (by decide), dk_hb H hp (by decide), dk_hb H hp (by decide), dk_hb H hp (by decide), dk_hb H hp (by decide)]
  have hcs : p = 0 ∨ p = 1 ∨ p = 2 ∨ p = 3 ∨ p = 4 ∨ p = 5 ∨ p = 6 ∨ p = 7 ∨ p = 8 ∨ p = 9 ∨ p = 10 ∨ p = 11 := by omega
  rcases hcs with rfl | rfl | rfl | rfl | rfl | rfl | rfl | rfl | rfl | rfl | rfl | rfl <;> simp [ca] <;> omega
theorem cnt_lo {h : Nat} : cnt (nI (h % 64)) = (hb (nI h) 0).toNat + (hb (nI h) 1).toNat + (hb (nI h) 2).toNat + (hb (nI h) 3).toNat + (hb (nI h) 4).toNat + (hb (nI h) 5).toNat := by
  have e : ∀ i, hb (nI (h % 64)) i = (decide (i < 6) && hb (nI h) i) := fun i => by
    rw [hb_nI, hb_nI, show h % 64 = h % 2 ^ 6 from rfl, Nat.testBit_mod_two_pow]
    cases decide (i < 6) <;> cases decide (i < 32) <;> rfl
  unfold cnt
  rw [e 0, e 1, e 2, e 3, e 4, e 5, e 6, e 7, e 8, e 9, e 10, e 11]
  simp
theorem cnt_hi {h : Nat} (hh : h < 4096) : cnt (nI (h / 64)) = (hb (nI h) 6).toNat + (hb (nI h) 7).toNat + (hb (nI h) 8).toNat + (hb (nI h) 9).toNat + (hb (nI h) 10).toNat + (hb (nI h) 11).toNat := by
  have e : ∀ i, i < 12 → hb (nI (h / 64)) i = hb (nI h) (i + 6) := fun i hi => by
    rw [hb_nI, hb_nI, show h / 64 = h / 2 ^ 6 from rfl, Nat.testBit_div_two_pow, decide_eq_true (show i < 32 by omega), decide_eq_true (show i + 6 < 32 by omega), Nat.add_comm]
  have z : ∀ i, 12 ≤ i → hb (nI h) i = false := fun i hi => sm_hi ⟨h, hh, rfl⟩ hi
  unfold cnt
  rw [e 0 (by decide), e 1 (by decide), e 2 (by decide), e 3 (by decide), e 4 (by decide), e 5 (by decide), e 6 (by decide), e 7 (by decide), e 8 (by decide), e 9 (by decide), e 10 (by decide), e 11 (by decide)]
  rw [z (6 + 6) (by decide), z (7 + 6) (by decide), z (8 + 6) (by decide), z (9 + 6) (by decide), z (10 + 6) (by decide), z (11 + 6) (by decide)]
  simp
theorem lawful_eq {op : Int32} {ow ro owed : Nat → Int32} (hd : RD op ow ro owed) {h : Nat} (hh : h < 4096) : v_X1_allows (nI h) ro = v_X8_isLawful (nI h) owed := by
  obtain ⟨_, h1, h2⟩ := hd
  have b63 : nI h &&& 63 = nI (h % 64) := pk_andN (by omega) 6 rfl
  have b6 : nI h >>> ((6 : Int32) &&& 31) = nI (h / 64) := pk_shrN (by omega) _ 6 (by decide)
  have f7 : v_X1_allows (nI h) ro = if v_X4_at 0 ro 2 < v_J6_bitCount_0f7a4 (nI h &&& 63) then false else if v_X4_at 1 ro 2 < v_J6_bitCount_0f7a4 (nI h >>> ((6 : Int32) &&& 31)) then false else true := rfl
  obtain ⟨m0, hm0, e0, l0, g0⟩ := h2 0 (by decide)
  obtain ⟨m1, hm1, e1, l1, g1⟩ := h2 1 (by decide)
  have a0 : v_X4_at 0 ro 2 = nI m0 := by rw [← e0]; exact at_nI (i := 0) (by decide) (by decide)
  have a1 : v_X4_at 1 ro 2 = nI m1 := by rw [← e1]; exact at_nI (i := 1) (by decide) (by decide)
  have k0 := cnt_lo (h := h)
  have k1 := cnt_hi hh
  rw [f7, b63, b6, bc_ones (by omega), bc_ones (by omega), a0, a1]
  have c0 := cnt_le (nI (h % 64))
  have c1 := cnt_le (nI (h / 64))
  have e8 : v_X8_isLawful (nI h) owed = true ↔ ∀ p, p < 12 → ¬ (6 - v_X8_ones (v_X8_darkHours (nI h) (nI p))) < owed p := by
    have f8 : v_X8_isLawful (nI h) owed = it (v_X8_isLawful_L4 (nI h) owed) 12 0 true := by
      unfold v_X8_isLawful
      rw [bnd_eq rfl]
    rw [f8]
    refine it_all (fun i z hi => ?_)
    show (if bI z = 0 then false else (if (6 - v_X8_ones (v_X8_darkHours (nI h) (nI i))) < owed (nI i).toNatClampNeg then false else true)) = true ↔ _
    rw [nI_clamp (by omega)]
    cases z with
    | false => rw [ifF]; simp
    | true =>
      rw [ifT]
      by_cases q : (6 - v_X8_ones (v_X8_darkHours (nI h) (nI i))) < owed i
      · simp [q]
      · simp [q]
  have row : ∀ p, p < 12 → cnt (v_X8_darkHours (nI h) (nI p)) = if p < 6 then cnt (nI (h % 64)) else cnt (nI (h / 64)) := by
    intro p hp
    rw [dcnt _ hp]
    by_cases hp6 : p < 6
    · rw [if_pos hp6, show p / 6 * 6 = 0 by omega, k0]
    · rw [if_neg hp6, show p / 6 * 6 = 6 by omega, k1]
  have row6 : ∀ p, p < 12 → cnt (v_X8_darkHours (nI h) (nI p)) ≤ 6 := by
    intro p hp
    rw [dcnt _ hp]
    have hb1 : ∀ b : Bool, b.toNat ≤ 1 := fun b => by cases b <;> decide
    have h0 := hb1 (hb (nI h) (p / 6 * 6)); have h1 := hb1 (hb (nI h) (p / 6 * 6 + 1)); have h2 := hb1 (hb (nI h) (p / 6 * 6 + 2)); have h3 := hb1 (hb (nI h) (p / 6 * 6 + 3)); have h4 := hb1 (hb (nI h) (p / 6 * 6 + 4)); have h5 := hb1 (hb (nI h) (p / 6 * 6 + 5))
    omega
  have cond : ∀ p, p < 12 → ∀ n : Nat, n ≤ 6 → owed p = nI n → (¬ (6 - v_X8_ones (v_X8_darkHours (nI h) (nI p))) < owed p ↔ n + cnt (v_X8_darkHours (nI h) (nI p)) ≤ 6) := by
    intro p hp n hn en
    have := row6 p hp
    rw [ones_cnt, en, show (6 : Int32) = nI 6 from rfl, pk_sub this, nI_ltI (by omega) (by omega)]
    omega
  rw [Bool.eq_iff_iff, e8]
  have e7 : (if nI m0 < nI (cnt (nI (h % 64))) then false else if nI m1 < nI (cnt (nI (h / 64))) then false else true) = true ↔ cnt (nI (h % 64)) ≤ m0 ∧ cnt (nI (h / 64)) ≤ m1 := by
    by_cases q0 : m0 < cnt (nI (h % 64))
    · rw [if_pos (nI_lt q0 (by omega))]
      exact ⟨fun q => (by cases q), fun q => (by omega)⟩
    · rw [if_neg (nI_nlt (by omega) (by omega))]
      by_cases q1 : m1 < cnt (nI (h / 64))
      · rw [if_pos (nI_lt q1 (by omega))]
        exact ⟨fun q => (by cases q), fun q => (by omega)⟩
      · rw [if_neg (nI_nlt (by omega) (by omega))]
        exact ⟨fun _ => ⟨by omega, by omega⟩, fun _ => rfl⟩
  rw [e7]
  constructor
  · rintro ⟨q0, q1⟩ p hp
    obtain ⟨_, n, hn, en, _⟩ := h1 p hp
    rw [cond p hp n hn en, row p hp]
    by_cases hp6 : p < 6
    · rw [if_pos hp6]
      have := l0 p hp (by omega) n hn en
      omega
    · rw [if_neg hp6]
      have := l1 p hp (by omega) n hn en
      omega
  · intro q
    constructor
    · rcases g0 with g0 | ⟨p, hp, hr, en⟩
      · have := row6 0 (by decide)
        rw [row 0 (by decide), if_pos (by decide)] at this
        omega
      · have := (cond p hp (6 - m0) (by omega) en).mp (q p hp)
        rw [row p hp, if_pos (by omega)] at this
        omega
    · rcases g1 with g1 | ⟨p, hp, hr, en⟩
      · have := row6 6 (by decide)
        rw [row 6 (by decide), if_neg (by decide)] at this
        omega
      · have := (cond p hp (6 - m1) (by omega) en).mp (q p hp)
        rw [row p hp, if_neg (by omega)] at this
        omega
