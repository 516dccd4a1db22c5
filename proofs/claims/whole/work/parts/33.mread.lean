/-! own words, pure: the text read: letters, figures -/
theorem bit_ne {x : Int32} {v : Nat} (hv : v < 32) : (¬ ((x >>> (nI v &&& 31)) &&& 1) = 0) ↔ hb x v = true := by
  rw [hb1 x hv]
  cases hb x v
  · exact ⟨fun q => absurd rfl q, fun q => (by cases q)⟩
  · exact ⟨fun _ => rfl, fun _ => (by decide)⟩
def AL (g al : Int32) : Prop := sm al ∧ ∀ c, c < 12 → hb al c = !hb g c
theorem hb_4095 : ∀ c, c < 12 → hb 4095 c = true := by decide +kernel
theorem hb_1023 : ∀ c, c < 32 → hb 1023 c = decide (c < 10) := by decide +kernel
theorem hb_3072 : ∀ c, c < 32 → hb 3072 c = (decide (c = 10) || decide (c = 11)) := by decide +kernel
theorem AL_not (g : Int32) : AL g (4095 &&& (g ^^^ (-1))) := by
  refine ⟨sm_and ⟨4095, by decide, rfl⟩, fun c hc => ?_⟩
  rw [hb_and, hb_not g (by omega), hb_4095 c hc, Bool.true_and]
theorem AL_0 : AL 0 4095 := by
  refine ⟨⟨4095, by decide, rfl⟩, fun c hc => ?_⟩
  rw [hb_4095 c hc, hb_0]; rfl
theorem AL_own {op : Int32} {ow ro owed : Nat → Int32} (hd : RD op ow ro owed) : AL op (v_X8_notOwed owed) := by
  have e : v_X8_notOwed owed = it (v_X8_notOwed_L4 owed) 12 0 0 := by
    unfold v_X8_notOwed
    rw [bnd_eq rfl]
  have h : ∀ c, c < 32 → (hb (v_X8_notOwed owed) c = true ↔ c < 12 ∧ owed c = 0) := fun c hc => by
    rw [e, it_hb0 (p := fun i => decide (c = i) && decide (owed i = 0)) (fun i z hi => by
      show hb (if owed (nI i).toNatClampNeg = 0 then (z ||| ((1 : Int32) <<< (nI i &&& 31))) else (z ||| 0)) c = _
      rw [nI_clamp (by omega)]
      by_cases q : owed i = 0
      · rw [if_pos q, hb_or, hb_sh i (by omega) c hc, decide_eq_true q, Bool.and_true]
      · rw [if_neg q, or0, decide_eq_false q, Bool.and_false, Bool.or_false])]
    constructor
    · rintro ⟨j, hj, q⟩
      rw [Bool.and_eq_true, decide_eq_true_eq, decide_eq_true_eq] at q
      obtain ⟨rfl, q⟩ := q
      exact ⟨hj, q⟩
    · rintro ⟨h1, h2⟩
      exact ⟨c, h1, by rw [decide_eq_true h2, decide_eq_true rfl]; rfl⟩
  refine ⟨sm_of fun i h1 h2 => ?_, fun c hc => ?_⟩
  · cases q : hb (v_X8_notOwed owed) i with
    | false => rfl
    | true => have := ((h i h2).mp q).1; omega
  · obtain ⟨_, n, hn, en, eb⟩ := hd.2.1 c hc
    rw [Bool.eq_iff_iff, h c (by omega), eb, en]
    by_cases q : n = 0
    · subst q
      exact ⟨fun _ => rfl, fun _ => ⟨hc, rfl⟩⟩
    · rw [decide_eq_true q]
      exact ⟨fun w => absurd w.2 (nI_ne0 (by omega) (by omega)), fun w => (by cases w)⟩
def F1 (g : Int32) (t : Nat) : Prop := (t = 0 ∧ ¬ (1023 &&& (g ^^^ (-1))) = 0) ∨ (t = 1 ∧ ¬ (3072 &&& (g ^^^ (-1))) = 0)
def FP (g x : Int32) : Prop := ∃ t : Nat, x - 48 = nI t ∧ F1 g t
def SP (g : Int32) (t : Nat) (x : Int32) : Prop := ∃ v : Nat, v ≤ 9 ∧ x - 48 = nI v ∧ 10 * t + v < 12 ∧ hb g (10 * t + v) = false
theorem al_lo {g al : Int32} (h : AL g al) : (al &&& 1023) = 0 ↔ (1023 &&& (g ^^^ (-1))) = 0 := by
  have : (al &&& 1023) = (1023 &&& (g ^^^ (-1))) := by
    apply hb_ext
    intro i hi
    rw [hb_and, hb_and, hb_not g hi, hb_1023 i hi]
    by_cases q : i < 10
    · rw [h.2 i (by omega), Bool.and_comm]
    · rw [decide_eq_false q, Bool.and_false, Bool.false_and]
  rw [this]
theorem q4 : ∀ q, q < 4 → (q = 0 ↔ q.testBit 0 = false ∧ q.testBit 1 = false) := by decide +kernel
theorem al_hi {g al : Int32} (h : AL g al) : (al >>> ((10 : Int32) &&& 31)) = 0 ↔ (3072 &&& (g ^^^ (-1))) = 0 := by
  obtain ⟨A, hA, rfl⟩ := h.1
  have e : nI A >>> ((10 : Int32) &&& 31) = nI (A / 1024) := pk_shrN (by omega) _ 10 (by decide)
  have b : ∀ j, j < 2 → (A / 1024).testBit j = !hb g (10 + j) := fun j hj => by
    rw [← h.2 (10 + j) (by omega), hb_nI, decide_eq_true (by omega), Bool.true_and, show A / 1024 = A / 2 ^ 10 from rfl, Nat.testBit_div_two_pow]
    rw [Nat.add_comm]
  have r : (3072 &&& (g ^^^ (-1))) = 0 ↔ hb g 10 = true ∧ hb g 11 = true := by
    rw [and_not]
    constructor
    · exact fun q => ⟨q 10 (by decide) (by decide +kernel), q 11 (by decide) (by decide +kernel)⟩
    · rintro ⟨h1, h2⟩ i hi q
      rw [hb_3072 i hi, Bool.or_eq_true, decide_eq_true_eq, decide_eq_true_eq] at q
      rcases q with rfl | rfl
      · exact h1
      · exact h2
  rw [e, r, show (0 : Int32) = nI 0 from rfl, nI_eq (by omega) (by omega), q4 _ (by omega), b 0 (by decide), b 1 (by decide)]
  cases hb g 10 <;> cases hb g (10 + 1) <;> simp
theorem tw_bit {g al : Int32} (h : AL g al) {d : Nat} (hd : d ≤ 9) : hb (tw_m al) d = true ↔ F1 g d := by
  unfold tw_m F1
  have t0 : ∀ d, d < 10 → (hb (0 ||| 0) d = false) := by decide +kernel
  have t1 : ∀ d, d < 10 → (hb (1 ||| 0) d = decide (d = 0)) := by decide +kernel
  have t2 : ∀ d, d < 10 → (hb (0 ||| 2) d = decide (d = 1)) := by decide +kernel
  have t3 : ∀ d, d < 10 → (hb (1 ||| 2) d = (decide (d = 0) || decide (d = 1))) := by decide +kernel
  by_cases a : (al &&& 1023) = 0
  · have a' := (al_lo h).mp a
    by_cases b : (al >>> ((10 : Int32) &&& 31)) = 0
    · have b' := (al_hi h).mp b
      rw [if_pos a, if_pos b, t0 d (by omega)]
      exact ⟨fun q => (by cases q), fun q => q.elim (fun w => absurd a' w.2) (fun w => absurd b' w.2)⟩
    · have b' : ¬ _ := fun w => b ((al_hi h).mpr w)
      rw [if_pos a, if_neg b, t2 d (by omega), decide_eq_true_eq]
      exact ⟨fun q => Or.inr ⟨q, b'⟩, fun q => q.elim (fun w => absurd a' w.2) (fun w => w.1)⟩
  · have a' : ¬ _ := fun w => a ((al_lo h).mpr w)
    by_cases b : (al >>> ((10 : Int32) &&& 31)) = 0
    · have b' := (al_hi h).mp b
      rw [if_neg a, if_pos b, t1 d (by omega), decide_eq_true_eq]
      exact ⟨fun q => Or.inl ⟨q, a'⟩, fun q => q.elim (fun w => w.1) (fun w => absurd b' w.2)⟩
    · have b' : ¬ _ := fun w => b ((al_hi h).mpr w)
      rw [if_neg a, if_neg b, t3 d (by omega), Bool.or_eq_true, decide_eq_true_eq, decide_eq_true_eq]
      exact ⟨fun q => q.elim (fun w => Or.inl ⟨w, a'⟩) (fun w => Or.inr ⟨w, b'⟩), fun q => q.elim (fun w => Or.inl w.1) (fun w => Or.inr w.1)⟩
theorem sel_bit {g al : Int32} (h : AL g al) {t v : Nat} (ht : t = 0 ∨ t = 1) (hv : v ≤ 9) : hb (if nI t = 0 then (al &&& 1023) else (al >>> ((10 : Int32) &&& 31))) v = true ↔ 10 * t + v < 12 ∧ hb g (10 * t + v) = false := by
  rcases ht with rfl | rfl
  · rw [if_pos nI_0, hb_and, hb_1023 v (by omega), decide_eq_true (by omega), Bool.and_true, h.2 v (by omega), show 10 * 0 + v = v by omega]
    cases hb g v
    · exact ⟨fun _ => ⟨by omega, rfl⟩, fun _ => rfl⟩
    · exact ⟨fun q => (by cases q), fun q => (by cases q.2)⟩
  · rw [if_neg (by decide)]
    obtain ⟨A, hA, rfl⟩ := h.1
    have e : nI A >>> ((10 : Int32) &&& 31) = nI (A / 1024) := pk_shrN (by omega) _ 10 (by decide)
    rw [e, hb_nI, decide_eq_true (by omega), Bool.true_and, show A / 1024 = A / 2 ^ 10 from rfl, Nat.testBit_div_two_pow]
    by_cases q : v < 2
    · have := h.2 (10 + v) (by omega)
      rw [hb_nI, decide_eq_true (by omega), Bool.true_and] at this
      rw [Nat.add_comm v 10] at *
      rw [this, show 10 * 1 + v = 10 + v by omega]
      cases hb g (10 + v)
      · exact ⟨fun _ => ⟨by omega, rfl⟩, fun _ => rfl⟩
      · exact ⟨fun q => (by cases q), fun q => (by cases q.2)⟩
    · have z : A.testBit (v + 10) = false := Nat.testBit_lt_two_pow (Nat.lt_of_lt_of_le hA (Nat.pow_le_pow_right (n := 2) (by decide) (by omega) : 2 ^ 12 ≤ 2 ^ (v + 10)))
      first
        | rw [z]
          exact ⟨fun q => (by cases q), fun q => (by omega)⟩
        | rw [Nat.add_comm, z]
          exact ⟨fun q => (by cases q), fun q => (by omega)⟩
theorem fig_or {m : Int32} {len i : Nat} {f : Nat → Int32} (hl : len ≤ 72) (hi : i ≤ len) : (∃ d : Nat, d ≤ 9 ∧ i < len ∧ f i - 48 = nI d ∧ hb m d = true ∧ v_X8_figure m (nI len) (nI i) (-9) f = (nI d, nI (i + 1), -9)) ∨ ((∀ d : Nat, d ≤ 9 → i < len → f i - 48 = nI d → hb m d = false) ∧ v_X8_figure m (nI len) (nI i) (-9) f = (0, nI i, nI i)) := by
  obtain ⟨r, b, fb, h⟩ := ex3 (v_X8_figure m (nI len) (nI i) (-9) f)
  rw [← h]
  rcases fig_cases h with ⟨_, h2, h3, h4, e1, e2, e3⟩ | ⟨h1, e1, e2, e3⟩
  · rw [nI_clamp (by omega)] at h3 h4 e1
    rw [nI_leI (by omega) (by omega)] at h2
    obtain ⟨j, _, hj, ej⟩ := in32 (a := 0) (b := 9) (by decide) (by decide) h3.symm (by decide)
    rw [ej] at h4 e1
    rw [e1, e2, e3, nI_1]
    exact Or.inl ⟨j, hj, by omega, ej, (bit_ne (by omega)).mp h4, rfl⟩
  · rw [e1, e2, e3]
    refine Or.inr ⟨fun d hd hi2 e => ?_, ?_⟩
    · cases q : hb m d with
      | false => rfl
      | true =>
        refine absurd ⟨rfl, ?_, ?_, ?_⟩ h1
        · rw [nI_leI (by omega) (by omega)]; omega
        · rw [nI_clamp (by omega), e]
          exact in_ok (a := 0) (b := 9) (by omega) hd (by decide)
        · rw [nI_clamp (by omega), e]
          exact (bit_ne (by omega)).mpr q
    · rw [show v_X8_fail (nI i) (-9) = nI i from if_pos rfl]
theorem nI_ne9 {p : Nat} (hp : p < 2 ^ 31) : ¬ nI p = -9 := by
  intro q
  have := nI_pos hp
  rw [q] at this
  exact this (by decide)
theorem fig_dead {m L a : Int32} {p : Nat} {f : Nat → Int32} (hp : p < 2 ^ 31) : v_X8_figure m L a (nI p) f = (0, a, nI p) := by
  obtain ⟨r, b, fb, h⟩ := ex3 (v_X8_figure m L a (nI p) f)
  rw [← h]
  rcases fig_cases h with ⟨h1, _⟩ | ⟨_, e1, e2, e3⟩
  · exact absurd h1 (nI_ne9 hp)
  · rw [e1, e2, e3, show v_X8_fail a (nI p) = nI p from if_neg (nI_ne9 hp)]
theorem two_or {g al : Int32} {len i : Nat} {f : Nat → Int32} (hA : AL g al) (hl : len ≤ 72) (hi : i ≤ len) : (∃ t v : Nat, (t = 0 ∨ t = 1) ∧ v ≤ 9 ∧ i + 1 < len ∧ f i - 48 = nI t ∧ f (i + 1) - 48 = nI v ∧ F1 g t ∧ 10 * t + v < 12 ∧ hb g (10 * t + v) = false ∧ v_X8_two al (nI len) (nI i) (-9) f = (nI (10 * t + v), nI (i + 2), -9)) ∨ ((i < len → ¬ FP g (f i)) ∧ ∃ r, v_X8_two al (nI len) (nI i) (-9) f = (r, nI i, nI i)) ∨ (∃ t : Nat, i < len ∧ (t = 0 ∨ t = 1) ∧ f i - 48 = nI t ∧ F1 g t ∧ (i + 1 < len → ¬ SP g t (f (i + 1))) ∧ ∃ r, v_X8_two al (nI len) (nI i) (-9) f = (r, nI (i + 1), nI (i + 1))) := by
  obtain ⟨r, b, fb, h⟩ := ex3 (v_X8_two al (nI len) (nI i) (-9) f)
  obtain ⟨t, b1, f1, u, e1, e2, e3⟩ := two_ex h
  rw [← h]
  rcases fig_or (m := tw_m al) (f := f) hl hi with ⟨d, hd, hi1, ed, hbd, ef⟩ | ⟨hno, ef⟩
  · rw [ef] at e1
    cases e1
    have hF := (tw_bit hA hd).mp hbd
    have ht : d = 0 ∨ d = 1 := hF.elim (fun w => Or.inl w.1) (fun w => Or.inr w.1)
    rcases fig_or (m := if nI d = 0 then (al &&& 1023) else (al >>> ((10 : Int32) &&& 31))) (f := f) hl (show i + 1 ≤ len by omega) with ⟨v, hv, hi2, ev, hbv, ef2⟩ | ⟨hno, ef2⟩
    · rw [ef2] at e2
      cases e2
      have hS := (sel_bit hA ht hv).mp hbv
      refine Or.inl ⟨d, v, ht, hv, hi2, ed, ev, hF, hS.1, hS.2, ?_⟩
      rw [e3, show (10 : Int32) = nI 10 from rfl, pk_mul, nI_add]
    · rw [ef2] at e2
      cases e2
      refine Or.inr (Or.inr ⟨d, hi1, ht, ed, hF, fun hi2 => ?_, r, rfl⟩)
      rintro ⟨v, hv, ev, h1, h2⟩
      have := hno v hv hi2 ev
      rw [(sel_bit hA ht hv).mpr ⟨h1, h2⟩] at this
      cases this
  · rw [ef] at e1
    cases e1
    rw [fig_dead (by omega)] at e2
    cases e2
    refine Or.inr (Or.inl ⟨fun hi1 => ?_, r, rfl⟩)
    rintro ⟨d, ed, hF⟩
    have hd : d ≤ 9 := by
      rcases hF with w | w
      · omega
      · omega
    have := hno d hd hi1 ed
    rw [(tw_bit hA hd).mpr hF] at this
    cases this
/-! the net's figures -/
theorem tn_f (x g co nu : Int32) : v_X3_takesOfNumber x g co nu = if co = 1 then (if (x - 48) = 0 then (if (1023 &&& (g ^^^ (-1))) = 0 then (false, 10 * (x - 48)) else (true, 10 * (x - 48))) else (if (x - 48) = 1 then (if (3072 &&& (g ^^^ (-1))) = 0 then (false, 10 * (x - 48)) else (true, 10 * (x - 48))) else (if (0 &&& (g ^^^ (-1))) = 0 then (false, 10 * (x - 48)) else (true, 10 * (x - 48))))) else (if (x - 48) < 0 then (false, nu + (x - 48)) else (if 9 < (x - 48) then (false, nu + (x - 48)) else (if 12 ≤ nu + (x - 48) then (false, nu + (x - 48)) else (if bI (v_X7_has g (nu + (x - 48))) = 0 then (true, nu + (x - 48)) else (false, nu + (x - 48)))))) := by
  unfold v_X3_takesOfNumber
  rw [bnd_eq rfl]
theorem tn1_ok {x g nu : Int32} {t : Nat} (e : x - 48 = nI t) (h : F1 g t) : v_X3_takesOfNumber x g 1 nu = (true, nI (10 * t)) := by
  rw [tn_f, if_pos rfl, e, show (10 : Int32) = nI 10 from rfl, pk_mul]
  rcases h with ⟨rfl, h⟩ | ⟨rfl, h⟩
  · rw [if_pos nI_0, if_neg h]
  · rw [if_neg (by decide), if_pos (show nI 1 = 1 from rfl), if_neg h]
theorem tn1_no {x g nu : Int32} (h : ¬ FP g x) : ∃ n', v_X3_takesOfNumber x g 1 nu = (false, n') := by
  rw [tn_f, if_pos rfl]
  refine ⟨10 * (x - 48), ?_⟩
  by_cases a : (x - 48) = 0
  · rw [if_pos a, if_pos]
    by_cases q : (1023 &&& (g ^^^ (-1))) = 0
    · exact q
    · exact absurd ⟨0, a, Or.inl ⟨rfl, q⟩⟩ h
  · rw [if_neg a]
    by_cases b : (x - 48) = 1
    · rw [if_pos b, if_pos]
      by_cases q : (3072 &&& (g ^^^ (-1))) = 0
      · exact q
      · exact absurd ⟨1, b, Or.inr ⟨rfl, q⟩⟩ h
    · rw [if_neg b, if_pos Int32.zero_and]
theorem tn2_ok {x g co : Int32} {t v : Nat} (hc : ¬ co = 1) (ht : t = 0 ∨ t = 1) (hv : v ≤ 9) (e : x - 48 = nI v) (h1 : 10 * t + v < 12) (h2 : hb g (10 * t + v) = false) : v_X3_takesOfNumber x g co (nI (10 * t)) = (true, nI (10 * t + v)) := by
  rw [tn_f, if_neg hc, e, nI_add, has7 _ (by omega), h2, ifF, if_neg (nI_pos (by omega)), if_neg (show ¬ 9 < nI v from nI_nlt (a := 9) (by omega) (by decide)), if_neg (show ¬ 12 ≤ nI (10 * t + v) from nI_ge (b := 12) (by omega) (by decide))]
theorem tn2_no {x g co : Int32} {t : Nat} (hc : ¬ co = 1) (ht : t = 0 ∨ t = 1) (h : ¬ SP g t x) : ∃ n', v_X3_takesOfNumber x g co (nI (10 * t)) = (false, n') := by
  rw [tn_f, if_neg hc]
  refine ⟨nI (10 * t) + (x - 48), ?_⟩
  by_cases a : (x - 48) < 0
  · rw [if_pos a]
  · rw [if_neg a]
    by_cases b : 9 < (x - 48)
    · rw [if_pos b]
    · rw [if_neg b]
      have : ∃ v : Nat, v ≤ 9 ∧ x - 48 = nI v := by
        refine nI_of2 (M := 9) (n := 9) rfl a ?_
        rw [Int32.le_iff_toInt_le]
        rw [Int32.lt_iff_toInt_lt] at b
        omega
      obtain ⟨v, hv, e⟩ := this
      rw [e, nI_add]
      by_cases c : 10 * t + v < 12
      · rw [if_neg (show ¬ 12 ≤ nI (10 * t + v) from nI_ge (b := 12) (by omega) (by decide)), has7 _ (by omega)]
        cases q : hb g (10 * t + v) with
        | true => rw [ifT]
        | false => exact absurd ⟨v, hv, e, c, q⟩ h
      · rw [if_pos (show 12 ≤ nI (10 * t + v) from nI_le (a := 12) (by omega) (by omega))]
