/-! own words, pure: winds -/
def mb (x : Int32) : Nat → Nat
  | 0 => 0
  | c + 1 => mb x c + (hb x c).toNat
theorem mb_12 (x : Int32) : mb x 12 = cnt x := by
  unfold cnt
  simp only [mb]
  omega
theorem mb_up (x : Int32) (c : Nat) : ∀ d : Nat, mb x c ≤ mb x (c + d)
  | 0 => Nat.le_refl _
  | d + 1 => by
    have := mb_up x c d
    show mb x c ≤ mb x (c + d) + (hb x (c + d)).toNat
    omega
theorem mb_lt {x : Int32} {c c' : Nat} (h : c < c') (hc : hb x c = true) : mb x c < mb x c' := by
  have := mb_up x (c + 1) (c' - (c + 1))
  rw [show c + 1 + (c' - (c + 1)) = c' by omega] at this
  have e : mb x (c + 1) = mb x c + (hb x c).toNat := rfl
  rw [hc] at e
  have e : mb x (c + 1) = mb x c + 1 := e
  omega
theorem mb_inj {x : Int32} {c c' : Nat} (hc : hb x c = true) (hc' : hb x c' = true) (h : mb x c = mb x c') : c = c' := by
  rcases Nat.lt_trichotomy c c' with q | q | q
  · have := mb_lt q hc; omega
  · exact q
  · have := mb_lt q hc'; omega
theorem cr_le (x : Int32) : ∀ r i : Nat, cr x r i ≤ r
  | 0, _ => Nat.le_refl _
  | r + 1, i => by
    have := cr_le x r (i + 1)
    have h1 : ∀ b : Bool, b.toNat ≤ 1 := fun b => by cases b <;> decide
    have := h1 (hb x i)
    show (hb x i).toNat + cr x r (i + 1) ≤ r + 1
    omega
theorem ofs_run (x : Int32) : ∀ (r i q : Nat), i + r = 12 → q < cr x r i → ∃ c : Nat, c < 12 ∧ hb x c = true ∧ mb x c = mb x i + q ∧ itx (v_X8_ofSet_L4 x) r i (nI q) = .inr (nI c)
  | 0, i, q, _, h => by
    have h : q < 0 := h
    omega
  | r + 1, i, q, hi, h => by
    have h : q < (hb x i).toNat + cr x r (i + 1) := h
    have e : mb x (i + 1) = mb x i + (hb x i).toNat := rfl
    cases hc : hb x i with
    | false =>
      rw [hc] at h e
      have h : q < 0 + cr x r (i + 1) := h
      have e : mb x (i + 1) = mb x i + 0 := e
      obtain ⟨c, h1, h2, h3, h4⟩ := ofs_run x r (i + 1) q (by omega) (by omega)
      refine ⟨c, h1, h2, by omega, ?_⟩
      rw [itx_go (s' := nI q) (by rw [ofs_f x _ (by omega), hc, ifF])]
      exact h4
    | true =>
      rw [hc] at h e
      have h : q < 1 + cr x r (i + 1) := h
      have e : mb x (i + 1) = mb x i + 1 := e
      by_cases q0 : q = 0
      · subst q0
        refine ⟨i, by omega, hc, rfl, itx_out ?_⟩
        rw [ofs_f x _ (by omega), hc, ifT, if_pos nI_0]
      · obtain ⟨c, h1, h2, h3, h4⟩ := ofs_run x r (i + 1) (q - 1) (by omega) (by omega)
        refine ⟨c, h1, h2, by omega, ?_⟩
        have q31 : q < 2 ^ 31 := by
          have b1 : cr x r (i + 1) ≤ r := cr_le x r (i + 1)
          omega
        rw [itx_go (s' := nI (q - 1)) (by
          rw [ofs_f x _ (by omega), hc, ifT, if_neg (nI_ne0 (by omega) q31)]
          rw [show q = (q - 1) + 1 by omega, pk_m1, show q - 1 + 1 - 1 = q - 1 by omega])]
        exact h4
theorem ofs_ok {x : Int32} {q : Nat} (h : q < cnt x) : ∃ c : Nat, c < 12 ∧ hb x c = true ∧ mb x c = q ∧ v_X8_ofSet x (nI q) = nI c := by
  obtain ⟨c, h1, h2, h3, h4⟩ := ofs_run x 12 0 q (by decide) (by rw [cr_12]; exact h)
  refine ⟨c, h1, h2, ?_, ?_⟩
  · have e : mb x 0 = 0 := rfl
    omega
  · unfold v_X8_ofSet
    rw [h4]
    rfl
/-- the l-th part of a set of cells -/
def pd (x : Int32) : Nat → Nat → Nat
  | 0, _ => 0
  | r + 1, l => pd x r l + if (hb x r && l.testBit (mb x r)) = true then 2 ^ r else 0
theorem pd_lt (x : Int32) : ∀ r l : Nat, pd x r l < 2 ^ r
  | 0, l => by
    show 0 < 1
    decide
  | r + 1, l => by
    have := pd_lt x r l
    show (pd x r l + if (hb x r && l.testBit (mb x r)) = true then 2 ^ r else 0) < 2 ^ (r + 1)
    rw [Nat.pow_succ]
    split <;> omega
theorem pd_cong (x : Int32) {l l' : Nat} : ∀ r : Nat, (∀ j, j < mb x r → l.testBit j = l'.testBit j) → pd x r l = pd x r l'
  | 0, _ => rfl
  | r + 1, h => by
    have e : mb x (r + 1) = mb x r + (hb x r).toNat := rfl
    have ih := pd_cong x r (fun j hj => h j (by omega))
    show (pd x r l + if (hb x r && l.testBit (mb x r)) = true then 2 ^ r else 0) = (pd x r l' + if (hb x r && l'.testBit (mb x r)) = true then 2 ^ r else 0)
    rw [ih]
    cases hc : hb x r with
    | false => rfl
    | true =>
      rw [hc] at e
      have e : mb x (r + 1) = mb x r + 1 := e
      rw [h (mb x r) (by omega)]
theorem pd_nI (x : Int32) {r l : Nat} (hr : r < 32) : nI (pd x (r + 1) l) = if (hb x r && l.testBit (mb x r)) = true then nI (pd x r l) ||| ((1 : Int32) <<< (nI r &&& 31)) else nI (pd x r l) := by
  have hl := pd_lt x r l
  show nI (pd x r l + if (hb x r && l.testBit (mb x r)) = true then 2 ^ r else 0) = _
  split
  · rw [sh_nI r hr, nI_or]
    have := Nat.two_pow_add_eq_or_of_lt hl 1
    rw [Nat.mul_one] at this
    rw [Nat.add_comm, this, Nat.or_comm]
  · rw [Nat.add_zero]
theorem pd_hb (x : Int32) {l c : Nat} (hc : c < 32) : ∀ r : Nat, r ≤ 12 → (hb (nI (pd x r l)) c = true ↔ c < r ∧ hb x c = true ∧ l.testBit (mb x c) = true)
  | 0, _ => by
    show hb (nI 0) c = true ↔ _
    rw [show nI 0 = 0 from rfl, hb_0]
    exact ⟨fun q => (by cases q), fun q => (by omega)⟩
  | r + 1, h => by
    have ih := pd_hb x (l := l) hc r (by omega)
    rw [pd_nI x (by omega)]
    cases q : (hb x r && l.testBit (mb x r)) with
    | true =>
      rw [if_pos rfl, hb_or, hb_sh r (by omega) c hc, Bool.or_eq_true, ih, decide_eq_true_eq]
      rw [Bool.and_eq_true] at q
      constructor
      · rintro (⟨h1, h2⟩ | rfl)
        · exact ⟨by omega, h2⟩
        · exact ⟨by omega, q⟩
      · rintro ⟨h1, h2⟩
        by_cases w : c = r
        · exact Or.inr w
        · exact Or.inl ⟨by omega, h2⟩
    | false =>
      rw [if_neg (by decide), ih]
      constructor
      · rintro ⟨h1, h2⟩; exact ⟨by omega, h2⟩
      · rintro ⟨h1, h2⟩
        by_cases w : c = r
        · subst w
          rw [h2.1, h2.2] at q; cases q
        · exact ⟨by omega, h2⟩
def pcl (l : Nat) : Nat → Nat
  | 0 => 0
  | m + 1 => pcl l m + (l.testBit m).toNat
theorem pd_cnt (x : Int32) (l : Nat) : ∀ r : Nat, r ≤ 12 → cnt (nI (pd x r l)) = pcl l (mb x r)
  | 0, _ => by
    show cnt (nI 0) = pcl l 0
    rw [show nI 0 = 0 from rfl, cnt_0]; rfl
  | r + 1, h => by
    have ih := pd_cnt x l r (by omega)
    have z : hb (nI (pd x r l)) r = false := by
      rw [hb_nI, Nat.testBit_lt_two_pow (pd_lt x r l), Bool.and_false]
    have e : mb x (r + 1) = mb x r + (hb x r).toNat := rfl
    rw [pd_nI x (by omega), e]
    cases q : hb x r with
    | false =>
      rw [Bool.false_and, if_neg (by decide), ih]; rfl
    | true =>
      rw [Bool.true_and]
      show _ = pcl l (mb x r) + (l.testBit (mb x r)).toNat
      cases w : l.testBit (mb x r) with
      | true => rw [if_pos rfl, cnt_set (by omega) z, ih]; rfl
      | false => rw [if_neg (by decide), ih]; rfl
theorem pcl_tab : ∀ n, n < 6 → ∀ l, l < 32 → l < 2 ^ n → pcl l n = cnt (nI l) := by decide +kernel
/-! sums -/
def nsum (g : Nat → Int32) : Nat → Int32
  | 0 => 0
  | n + 1 => nsum g n + g n
theorem nsum_cong {g h : Nat → Int32} : ∀ n : Nat, (∀ l, l < n → g l = h l) → nsum g n = nsum h n
  | 0, _ => rfl
  | n + 1, e => by
    show nsum g n + g n = nsum h n + h n
    rw [nsum_cong n (fun l hl => e l (by omega)), e n (by omega)]
theorem nsum_0 : ∀ n : Nat, nsum (fun _ => 0) n = 0
  | 0 => rfl
  | n + 1 => by
    show nsum (fun _ => 0) n + 0 = 0
    rw [nsum_0 n]; rfl
theorem nsum_add (g : Nat → Int32) (a : Nat) : ∀ b : Nat, nsum g (a + b) = nsum g a + nsum (fun l => g (a + l)) b
  | 0 => by
    show nsum g a = nsum g a + 0
    rw [Int32.add_zero]
  | b + 1 => by
    show nsum g (a + b) + g (a + b) = nsum g a + (nsum (fun l => g (a + l)) b + g (a + b))
    rw [nsum_add g a b, Int32.add_assoc]
theorem it_nsum {f : Nat → Int32 → Int32} {g : Nat → Int32} (N : Nat) (hf : ∀ i z, i < N → f i z = z + g i) : it f N 0 0 = nsum g N := by
  have := it_invN (f := f) N (fun i z => z = nsum g i) (fun i z hi hz => by
    rw [hf i z hi, hz]; rfl) N 0 0 (by omega) rfl
  rwa [Nat.zero_add] at this
theorem sub_or {x : Int32} {r l : Nat} (hr : r < 12) (hl : l < 2 ^ r) : (nI (2 ^ r + l) &&& (x ^^^ (-1))) = 0 ↔ hb x r = true ∧ (nI l &&& (x ^^^ (-1))) = 0 := by
  have e : nI (2 ^ r + l) = ((1 : Int32) <<< (nI r &&& 31)) ||| nI l := by
    have := Nat.two_pow_add_eq_or_of_lt hl 1
    rw [Nat.mul_one] at this
    rw [this, sh_nI r (by omega), nI_or]
  rw [e, and_not, and_not]
  constructor
  · intro h
    refine ⟨h r (by omega) ?_, fun i hi q => h i hi ?_⟩
    · rw [hb_or, hb_sh r (by omega) r (by omega), decide_eq_true rfl]; rfl
    · rw [hb_or, q, Bool.or_true]
  · rintro ⟨h1, h2⟩ i hi q
    rw [hb_or, hb_sh r (by omega) i hi, Bool.or_eq_true, decide_eq_true_eq] at q
    rcases q with rfl | q
    · exact h1
    · exact h2 i hi q
theorem reindex (x : Int32) : ∀ (r : Nat) (g : Nat → Int32), r ≤ 12 → nsum (fun l => if (nI l &&& (x ^^^ (-1))) = 0 then g l else 0) (2 ^ r) = nsum (fun l => g (pd x r l)) (2 ^ mb x r)
  | 0, g, _ => by
    show (0 : Int32) + (if (nI 0 &&& (x ^^^ (-1))) = 0 then g 0 else 0) = 0 + g 0
    rw [if_pos]
    rw [show nI 0 = 0 from rfl, Int32.and_comm, Int32.and_zero]
  | r + 1, g, h => by
    have e : mb x (r + 1) = mb x r + (hb x r).toNat := rfl
    rw [e, show 2 ^ (r + 1) = 2 ^ r + 2 ^ r by rw [Nat.pow_succ]; omega, nsum_add, reindex x r g (by omega)]
    cases q : hb x r with
    | false =>
      have z : nsum (fun l => if (nI (2 ^ r + l) &&& (x ^^^ (-1))) = 0 then g (2 ^ r + l) else 0) (2 ^ r) = 0 := by
        rw [nsum_cong (2 ^ r) (h := fun _ => 0) (fun l hl => if_neg (fun w => by
          have := ((sub_or (by omega) hl).mp w).1
          rw [q] at this; cases this)), nsum_0]
      rw [z, Int32.add_zero]
      show _ = nsum (fun l => g (pd x (r + 1) l)) (2 ^ mb x r)
      refine nsum_cong _ (fun l hl => ?_)
      show g (pd x r l) = g (pd x r l + if (hb x r && l.testBit (mb x r)) = true then 2 ^ r else 0)
      rw [q, Bool.false_and, if_neg (by decide), Nat.add_zero]
    | true =>
      have z : nsum (fun l => if (nI (2 ^ r + l) &&& (x ^^^ (-1))) = 0 then g (2 ^ r + l) else 0) (2 ^ r) = nsum (fun l => g (2 ^ r + pd x r l)) (2 ^ mb x r) := by
        rw [← reindex x r (fun l => g (2 ^ r + l)) (by omega)]
        refine nsum_cong _ (fun l hl => ?_)
        by_cases w : (nI l &&& (x ^^^ (-1))) = 0
        · rw [if_pos w, if_pos ((sub_or (by omega) hl).mpr ⟨q, w⟩)]
        · rw [if_neg w, if_neg (fun w2 => w ((sub_or (by omega) hl).mp w2).2)]
      rw [z]
      show _ = nsum (fun l => g (pd x (r + 1) l)) (2 ^ (mb x r + 1))
      rw [show 2 ^ (mb x r + 1) = 2 ^ mb x r + 2 ^ mb x r by rw [Nat.pow_succ]; omega, nsum_add]
      congr 1
      · refine nsum_cong _ (fun l hl => ?_)
        show g (pd x r l) = g (pd x r l + if (hb x r && l.testBit (mb x r)) = true then 2 ^ r else 0)
        rw [Nat.testBit_lt_two_pow hl, Bool.and_false, if_neg (by decide), Nat.add_zero]
      · refine nsum_cong _ (fun l hl => ?_)
        show g (2 ^ r + pd x r l) = g (pd x r (2 ^ mb x r + l) + if (hb x r && (2 ^ mb x r + l).testBit (mb x r)) = true then 2 ^ r else 0)
        rw [Nat.testBit_two_pow_add_eq, Nat.testBit_lt_two_pow hl, q, if_pos (by decide), Nat.add_comm, pd_cong x r (fun j hj => (Nat.testBit_two_pow_add_gt hj l).symm)]
section Wind
variable {wc op mw : Int32} {pl fh sp va ce ne ow ro told owed : Nat → Int32}
def wl (x : Int32) (l : Nat) (j : Nat) (y : Int32) : Int32 := if hb (nI l) j = true then y * (10 - x) else y * x
theorem wt_tab : ∀ x, x < 11 → ∀ n, n < 6 → ∀ l, l < 32 → l < 2 ^ n → it (wl (nI x) l) n 0 1 = v_X7_power (10 - nI x) (nI (cnt (nI l))) * v_X7_power (nI x) (nI n - nI (cnt (nI l))) := by decide +kernel
theorem all_tab : ∀ x, x < 11 → ∀ n, n < 6 → nsum (fun l => it (wl (nI x) l) n 0 1) (2 ^ n) = v_X7_power 10 (nI n) := by decide +kernel
theorem pow_tab : ∀ n, n < 6 → ¬ v_X7_power 10 (nI n) < 0 ∧ ¬ v_X7_power 10 (nI n) = 0 := by decide +kernel
theorem hang_ok {H x : Int32} {n l : Nat} (hn : n = cnt H) (h5 : n < 6) (hl : l < 2 ^ n) : it (v_X8_wind_L49 x H l) n 0 (0, 1) = (nI (pd H 12 l), it (wl x l) n 0 1) := by
  have p32 : 2 ^ n ≤ 2 ^ 5 := Nat.pow_le_pow_right (by decide) (by omega)
  have key := it_rel (f := v_X8_wind_L49 x H l) (g := wl x l) n (fun k (z : Int32 × Int32) (y : Int32) => (∀ c, c < 32 → (hb z.1 c = true ↔ ∃ j, j < k ∧ l.testBit j = true ∧ v_X8_ofSet H (nI j) = nI c)) ∧ z.2 = y) (fun k z y hk hz => by
    obtain ⟨z1, z2⟩ := z
    obtain ⟨hz, hy⟩ := hz
    replace hy : z2 = y := hy
    subst hy
    have hz : ∀ c, c < 32 → (hb z1 c = true ↔ ∃ j, j < k ∧ l.testBit j = true ∧ v_X8_ofSet H (nI j) = nI c) := hz
    have f : v_X8_wind_L49 x H l k (z1, z2) = if bI (hb (nI l) k) = 0 then (z1 ||| 0, z2 * x) else (z1 ||| ((1 : Int32) <<< (v_X8_ofSet H (nI k) &&& 31)), z2 * (10 - x)) := by
      show v_X8_wind_L49c x H l k z1 z2 = _
      unfold v_X8_wind_L49c
      rw [bnd_eq (has8 (nI l) (by omega)).symm, bnd_eq (has8 (nI l) (by omega)).symm, bnd_eq rfl, bnd_eq (has8 (nI l) (by omega)).symm, bnd_eq rfl]
      cases hb (nI l) k
      · rw [ifF, ifF, ifF]
      · rw [ifT, ifT, ifT]
    have et : hb (nI l) k = l.testBit k := by
      rw [hb_nI, decide_eq_true (by omega), Bool.true_and]
    rw [f]
    unfold wl
    rw [et]
    cases q : l.testBit k with
    | false =>
      rw [ifF, if_neg (by decide)]
      refine ⟨fun c hc => ?_, rfl⟩
      show hb (z1 ||| 0) c = true ↔ _
      rw [or0, hz c hc]
      constructor
      · rintro ⟨j, h1, h2⟩; exact ⟨j, by omega, h2⟩
      · rintro ⟨j, h1, h2⟩
        by_cases w : j = k
        · subst w
          rw [q] at h2; cases h2.1
        · exact ⟨j, by omega, h2⟩
    | true =>
      rw [ifT, if_pos rfl]
      refine ⟨fun c hc => ?_, rfl⟩
      obtain ⟨c0, h1, h2, h3, h4⟩ := ofs_ok (x := H) (q := k) (by omega)
      show hb (z1 ||| ((1 : Int32) <<< (v_X8_ofSet H (nI k) &&& 31))) c = true ↔ _
      rw [h4, hb_or, hb_sh c0 (by omega) c hc, Bool.or_eq_true, hz c hc, decide_eq_true_eq]
      constructor
      · rintro (⟨j, h1, h2⟩ | rfl)
        · exact ⟨j, by omega, h2⟩
        · exact ⟨k, by omega, q, h4⟩
      · rintro ⟨j, g1, g2, g3⟩
        by_cases w : j = k
        · subst w
          rw [h4, nI_eq (by omega) (by omega)] at g3
          exact Or.inr g3.symm
        · exact Or.inl ⟨j, by omega, g2, g3⟩) n 0 (0, 1) 1 (by omega) ⟨fun c hc => by
      show hb 0 c = true ↔ _
      rw [hb_0]
      exact ⟨fun q => (by cases q), fun ⟨j, hj, _⟩ => (by omega)⟩, rfl⟩
  rw [Nat.zero_add] at key
  obtain ⟨a, b, hab⟩ := ex2 (it (v_X8_wind_L49 x H l) n 0 (0, 1))
  rw [← hab] at key ⊢
  obtain ⟨k1, k2⟩ := key
  have k1 : ∀ c, c < 32 → (hb a c = true ↔ ∃ j, j < n ∧ l.testBit j = true ∧ v_X8_ofSet H (nI j) = nI c) := k1
  have k2 : b = it (wl x l) n 0 1 := k2
  have : a = nI (pd H 12 l) := by
    apply hb_ext
    intro c hc
    rw [Bool.eq_iff_iff, k1 c hc, pd_hb H hc 12 (by decide)]
    constructor
    · rintro ⟨j, h1, h2, h3⟩
      obtain ⟨c0, g1, g2, g3, g4⟩ := ofs_ok (x := H) (q := j) (by omega)
      rw [g4, nI_eq (by omega) (by omega)] at h3
      subst h3
      exact ⟨g1, g2, by rw [g3]; exact h2⟩
    · rintro ⟨h1, h2, h3⟩
      have lt : mb H c < n := by
        have := mb_lt h1 h2
        rw [mb_12] at this
        omega
      obtain ⟨c0, g1, g2, g3, g4⟩ := ofs_ok (x := H) (q := mb H c) (by omega)
      have := mb_inj g2 h2 g3
      subst this
      exact ⟨mb H c0, lt, h3, g4⟩
  rw [this, k2]
theorem wind8 {H : Int32} {x n : Nat} (hn : n = cnt H) (h5 : n < 6) : it (v_X8_wind_L32 (nI x) mw H told (nI n)) (2 ^ n) 0 (0, 0) = (nsum (fun l => it (wl (nI x) l) n 0 1) (2 ^ n), nsum (fun l => it (wl (nI x) l) n 0 1 * v_X8_worthOf (v_X8_granted (nI (pd H 12 l)) mw told) mw told) (2 ^ n)) := by
  have key := it_invN (f := v_X8_wind_L32 (nI x) mw H told (nI n)) (2 ^ n) (fun i (z : Int32 × Int32) => z = (nsum (fun l => it (wl (nI x) l) n 0 1) i, nsum (fun l => it (wl (nI x) l) n 0 1 * v_X8_worthOf (v_X8_granted (nI (pd H 12 l)) mw told) mw told) i)) (fun i z hi hz => by
    obtain ⟨z1, z2⟩ := z
    have f : v_X8_wind_L32 (nI x) mw H told (nI n) i (z1, z2) = (z1 + it (wl (nI x) i) n 0 1, z2 + it (wl (nI x) i) n 0 1 * v_X8_worthOf (v_X8_granted (nI (pd H 12 i)) mw told) mw told) := by
      show v_X8_wind_L32c (nI x) mw H told (nI n) i z1 z2 = _
      unfold v_X8_wind_L32c
      rw [nI_clamp (by omega), bnd2_eq (hang_ok hn h5 hi).symm, bnd_eq rfl, bnd_eq rfl]
    rw [f]
    cases hz
    rfl) (2 ^ n) 0 (0, 0) (by omega) rfl
  rwa [Nat.zero_add] at key
theorem wind7 (hL : RLs wc op pl fh sp va ce ne ow ro mw told owed) {hh x n : Nat} (hh1 : hh < 4096) (hx : x < 11) (hn : n = cnt (nI hh)) (h5 : n < 6) : it (v_X7_wind_L24 (nI x) (nI hh) wc ce ne va (nI n)) 4096 0 0 = nsum (fun l => it (wl (nI x) l) n 0 1 * v_X8_worthOf (v_X8_granted (nI (pd (nI hh) 12 l)) mw told) mw told) (2 ^ n) := by
  have e1 := it_nsum (f := v_X7_wind_L24 (nI x) (nI hh) wc ce ne va (nI n)) (g := fun l => if (nI l &&& (nI hh ^^^ (-1))) = 0 then (v_X7_power (10 - nI x) (nI (cnt (nI l))) * v_X7_power (nI x) (nI n - nI (cnt (nI l)))) * v_X8_worthOf (v_X8_granted (nI l) mw told) mw told else 0) 4096 (fun i z hi => by
    unfold v_X7_wind_L24
    rw [bnd_eq (bc_ones hi).symm, bnd_eq rfl, bnd_eq rfl, bnd_eq (show v_X8_worthOf (v_X8_granted (nI i) mw told) mw told = v_X1_worthOf (nI i) wc ce ne va by rw [← granted_eq hL, ← sum_eq hL]; rfl)]
    show _ = z + (if (nI i &&& (nI hh ^^^ (-1))) = 0 then (v_X7_power (10 - nI x) (nI (cnt (nI i))) * v_X7_power (nI x) (nI n - nI (cnt (nI i)))) * v_X8_worthOf (v_X8_granted (nI i) mw told) mw told else 0)
    by_cases q : (nI i &&& (nI hh ^^^ (-1))) = 0
    · rw [if_pos q, if_pos q]
    · rw [if_neg q, if_neg q, Int32.add_zero])
  have e2 := reindex (nI hh) 12 (fun l => (v_X7_power (10 - nI x) (nI (cnt (nI l))) * v_X7_power (nI x) (nI n - nI (cnt (nI l)))) * v_X8_worthOf (v_X8_granted (nI l) mw told) mw told) (Nat.le_refl _)
  have e3 : mb (nI hh) 12 = n := by rw [mb_12, hn]
  rw [e1, show 4096 = 2 ^ 12 from rfl, e2, e3]
  refine nsum_cong _ (fun l hl => ?_)
  have p32 : 2 ^ n ≤ 2 ^ 5 := Nat.pow_le_pow_right (by decide) (by omega)
  have ec : cnt (nI (pd (nI hh) 12 l)) = cnt (nI l) := by
    rw [pd_cnt _ _ 12 (by decide), e3, pcl_tab n h5 l (by omega) hl]
  show (v_X7_power (10 - nI x) (nI (cnt (nI (pd (nI hh) 12 l)))) * v_X7_power (nI x) (nI n - nI (cnt (nI (pd (nI hh) 12 l))))) * v_X8_worthOf (v_X8_granted (nI (pd (nI hh) 12 l)) mw told) mw told = _
  rw [ec, ← wt_tab x hx n h5 l (by omega) hl]
theorem in010 (x : Int32) : (v_X8_in x.toInt64 0 10 = false ∧ (x < 0 ∨ (¬ x < 0 ∧ ¬ x ≤ 10))) ∨ (∃ s : Nat, s < 11 ∧ x = nI s ∧ v_X8_in x.toInt64 0 10 = true ∧ ¬ x < 0 ∧ x ≤ 10) := by
  rcases pk_ix x (n := 11) (by decide) with hx | hx | ⟨n, hn, rfl⟩
  · exact Or.inl ⟨in_neg (a := 0) (b := 10) hx (by decide) (by decide), Or.inl hx⟩
  · exact Or.inl ⟨in_big (a := 0) (b := 10) hx (by decide) (by decide) (by decide), Or.inr ⟨nlt_neg (by decide) hx, big_gt (n := 10) (by decide) hx⟩⟩
  · exact Or.inr ⟨n, hn, rfl, in_ok (a := 0) (b := 10) (by omega) (by omega) (by decide), nI_pos (by omega), nI_le (b := 10) (by omega) (by decide)⟩
theorem m_wind (hL : RLs wc op pl fh sp va ce ne ow ro mw told owed) {x nh nr mh mr : Int32} {b : Bool} (hr : RH nh nr mh mr) : v_X7_wind x b nh wc ce ne va = v_X8_wind x b mw mh told := by
  obtain ⟨hh, t, hh1, h5, ht, rfl, rfl, rfl, rfl⟩ := hr
  have f7 : v_X7_wind x b (nI hh) wc ce ne va = if x < 0 then -2 else if x ≤ 10 then v_X7_inLeastTerms (it (v_X7_wind_L24 x (nI hh) wc ce ne va (nI (cnt (nI hh)))) 4096 0 0) (v_X7_power 10 (nI (cnt (nI hh)))) b else -2 := by
    unfold v_X7_wind
    rw [bnd_eq (show nI (cnt (nI hh)) = v_X7_squaresNow (nI hh) from (bc_ones hh1).symm), bnd_eq rfl, bnd_eq rfl, bnd_eq rfl]
  have f8 : v_X8_wind x b mw (nI hh) told = if bI (v_X8_in x.toInt64 0 10) = 0 then -2 else bnd2 (it (v_X8_wind_L32 x mw (nI hh) told (nI (cnt (nI hh)))) ((1 : Int32) <<< (nI (cnt (nI hh)) &&& 31)).toNatClampNeg 0 (0, 0)) (fun a s => if bI b = 0 then a / v_X8_common s a else s / v_X8_common s a) := by
    unfold v_X8_wind
    rw [bnd_eq rfl, bnd_eq (ones_cnt (nI hh)).symm]
    rfl
  rw [f7, f8]
  rcases in010 x with ⟨a, c⟩ | ⟨s, hs, rfl, a, c, d⟩
  · rw [a, ifF]
    rcases c with c | ⟨c, d⟩
    · rw [if_pos c]
    · rw [if_neg c, if_neg d]
  · have p32 : 2 ^ cnt (nI hh) ≤ 2 ^ 5 := Nat.pow_le_pow_right (by decide) h5
    rw [a, ifT, if_neg c, if_pos d, sh_nI _ (by omega), nI_clamp (by omega), bnd2_eq (wind8 rfl (by omega)).symm, wind7 hL hh1 hs rfl (by omega), all_tab s hs _ (by omega)]
    obtain ⟨n1, n2⟩ := pow_tab (cnt (nI hh)) (by omega)
    rw [least_eq b n1 n2]
theorem wind_all {x nh nr mh mr : Int32} (hr : RH nh nr mh mr) (hx : v_X8_in x.toInt64 0 10 = true) : ¬ (it (v_X8_wind_L32 x mw mh told (v_X8_ones mh)) ((1 : Int32) <<< (v_X8_ones mh &&& 31)).toNatClampNeg 0 (0, 0)).1 = 0 := by
  obtain ⟨hh, t, hh1, h5, ht, rfl, rfl, rfl, rfl⟩ := hr
  have p32 : 2 ^ cnt (nI hh) ≤ 2 ^ 5 := Nat.pow_le_pow_right (by decide) h5
  rcases in010 x with ⟨a, c⟩ | ⟨s, hs, rfl, a, c, d⟩
  · rw [a] at hx; cases hx
  · rw [ones_cnt, sh_nI _ (by omega), nI_clamp (by omega), wind8 rfl (by omega), all_tab s hs _ (by omega)]
    exact (pow_tab (cnt (nI hh)) (by omega)).2
end Wind
