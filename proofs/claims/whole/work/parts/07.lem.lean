theorem it_inv {σ : Type} {f : Nat → σ → σ} (I : Nat → σ → Prop) (h : ∀ i s, I i s → I (i + 1) (f i s)) : ∀ (k i : Nat) (s : σ), I i s → I (i + k) (it f k i s)
  | 0, _, _, hs => hs
  | k + 1, i, s, hs => by
    have := it_inv I h k (i + 1) (f i s) (h i s hs)
    rw [show i + (k + 1) = i + 1 + k by omega, it_s]
    exact this
theorem all_lt {t : Int32} (h : ∃ c : Nat, c ≤ 12 ∧ t = nI c) : (((1 : Int32) <<< (t &&& 31)) - 1).toNatClampNeg + 1 < 2 ^ 31 := by
  obtain ⟨c, hc, rfl⟩ := h
  exact (by decide +kernel : ∀ c, c < 13 → (((1 : Int32) <<< (nI c &&& 31)) - 1).toNatClampNeg + 1 < 2 ^ 31) c (by omega)
theorem fac1 {a : Int32} (ha : ∃ j : Nat, j < 64 ∧ a = nI j) : a.toNatClampNeg + 1 < 2 ^ 31 := by
  obtain ⟨j, hj, rfl⟩ := ha
  rw [nI_clamp (by omega)]; omega
theorem fac2 {w : Int32} (hw : ∃ k : Nat, k ≤ 5 ∧ w = nI k) : w.toNatClampNeg + 1 < 2 ^ 31 := by
  obtain ⟨j, hj, rfl⟩ := hw
  rw [nI_clamp (by omega)]; omega
theorem fac3 {w a : Int32} (hw : ∃ k : Nat, k ≤ 5 ∧ w = nI k) (ha : ∃ j : Nat, j < 64 ∧ a = nI j) : (w - 1 - a).toNatClampNeg + 1 < 2 ^ 31 := by
  obtain ⟨k, hk, rfl⟩ := hw
  obtain ⟨j, hj, rfl⟩ := ha
  exact (by decide +kernel : ∀ k, k < 6 → ∀ j, j < 64 → (nI k - 1 - nI j).toNatClampNeg + 1 < 2 ^ 31) k (by omega) j hj
theorem w5 {w : Int32} (hw : ∃ k : Nat, k ≤ 5 ∧ w = nI k) : w.toNatClampNeg ≤ 5 := by
  obtain ⟨k, hk, rfl⟩ := hw
  rw [nI_clamp (by omega)]; exact hk
theorem vin_ne {x : Int32} {N : Nat} (h : vp_in x (N + 1)) (hne : ¬ x = nI N) : vp_in x N := by
  rw [vp_in_iff] at h ⊢
  refine ⟨h.1, ?_⟩
  by_cases hN : N < 2 ^ 31
  · have h2 : x.toInt ≠ (N : Int) := fun q => hne (Int32.toInt_inj.mp (by rw [nI_toInt hN]; exact q))
    omega
  · have := Int32.toInt_lt x
    omega
theorem vin_lt {x y : Int32} {N M : Nat} (h : vp_in x M) (hy : vp_in y (N + 1)) (hxy : ¬ y ≤ x) : vp_in x N := by
  rw [vp_in_iff] at h hy ⊢
  rw [Int32.le_iff_toInt_le] at hxy
  omega
theorem vin_j {x : Int32} {N : Nat} (h : vp_in x N) (hN : N ≤ 2 ^ 31) : ∃ j : Nat, j < N ∧ x = nI j := by
  have h1 := vp_in_iff.mp h
  have h0 : ¬ x < 0 := by rw [Int32.lt_iff_toInt_lt]; show ¬ x.toInt < 0; omega
  obtain ⟨j, hj, rfl⟩ := nI_of h0
  rw [nI_toInt hj] at h1
  exact ⟨j, by omega, rfl⟩
theorem ix5v {x : Int32} {c : Nat} (h : vp_in x 5) (hc : c < 5) : vp_in ((5 * x) + nI c) 25 := by
  obtain ⟨j, hj, rfl⟩ := vin_j h (by decide)
  exact (by decide +kernel : ∀ j, j < 5 → ∀ c, c < 5 → ¬ (((5 * nI j) + nI c) < 0 ∨ 25 ≤ (((5 * nI j) + nI c)).toNatClampNeg)) j hj c hc
theorem ix5z {x : Int32} (h : vp_in x 5) : vp_in (5 * x) 25 := by
  obtain ⟨j, hj, rfl⟩ := vin_j h (by decide)
  exact (by decide +kernel : ∀ j, j < 5 → ¬ ((5 * nI j) < 0 ∨ 25 ≤ ((5 * nI j)).toNatClampNeg)) j hj
theorem ix5x {x y : Int32} (h : vp_in x 5) {c : Nat} (hy : y = nI c) (hc : c < 5) : vp_in ((5 * x) + y) 25 := by
  rw [hy]; exact ix5v h hc
theorem ix5n {i c : Nat} (h : 5 * i + c < 25) : vp_in ((5 * nI i) + nI c) 25 := by
  by_cases hi : i < 5
  · by_cases hc : c < 5
    · exact ix5v (vp_in_nI hi (by decide)) hc
    · rw [show (5 : Int32) = nI 5 from rfl, pk_mul, nI_add]; exact vp_in_nI h (by decide)
  · omega
theorem next15 {x : Int32} (h : vp_in x 16) : vp_in ((x + 15) - (x + 15) / 16 * 16) 16 := by
  obtain ⟨j, hj, rfl⟩ := vin_j h (by decide)
  exact (by decide +kernel : ∀ j, j < 16 → ¬ (((nI j + 15) - (nI j + 15) / 16 * 16) < 0 ∨ 16 ≤ (((nI j + 15) - (nI j + 15) / 16 * 16)).toNatClampNeg)) j hj
theorem sh5 {w : Int32} (hw : ∃ k : Nat, k ≤ 5 ∧ w = nI k) : ((1 : Int32) <<< (w &&& 31)).toNatClampNeg ≤ 32 := by
  obtain ⟨k, hk, rfl⟩ := hw
  exact (by decide +kernel : ∀ k, k < 6 → ((1 : Int32) <<< (nI k &&& 31)).toNatClampNeg ≤ 32) k (by omega)
theorem shm1 {w : Int32} (hw : ∃ k : Nat, k ≤ 5 ∧ w = nI k) : vp_in (((1 : Int32) <<< (w &&& 31)) - 1) 32 := by
  obtain ⟨k, hk, rfl⟩ := hw
  exact (by decide +kernel : ∀ k, k < 6 → ¬ ((((1 : Int32) <<< (nI k &&& 31)) - 1) < 0 ∨ 32 ≤ ((((1 : Int32) <<< (nI k &&& 31)) - 1)).toNatClampNeg)) k (by omega)
theorem nI_and (a b : Nat) : nI a &&& nI b = nI (a &&& b) := by
  apply Int32.toBitVec_inj.mp
  show BitVec.ofNat 32 a &&& BitVec.ofNat 32 b = BitVec.ofNat 32 _
  apply BitVec.eq_of_toNat_eq
  simp [BitVec.toNat_and, Nat.and_mod_two_pow]
theorem nI_any (y : Int32) : ∃ k : Nat, k < 2 ^ 32 ∧ y = nI k := by
  refine ⟨y.toBitVec.toNat, y.toBitVec.isLt, ?_⟩
  apply Int32.toBitVec_inj.mp
  show y.toBitVec = BitVec.ofNat 32 _
  simp
theorem and_in {a N : Nat} {y : Int32} (h : a < N) (hN : N < 2 ^ 31) : vp_in (nI a &&& y) N := by
  obtain ⟨k, _, rfl⟩ := nI_any y
  rw [nI_and]
  exact vp_in_nI (Nat.lt_of_le_of_lt Nat.and_le_left h) hN
theorem or_in {a : Nat} {x : Int32} (ha : a < 32) (hx : vp_in x 5) : vp_in (nI a ||| ((1 : Int32) <<< (x &&& 31))) 32 := by
  obtain ⟨j, hj, rfl⟩ := vin_j hx (by decide)
  exact (by decide +kernel : ∀ a, a < 32 → ∀ j, j < 5 → ¬ ((nI a ||| ((1 : Int32) <<< (nI j &&& 31))) < 0 ∨ 32 ≤ ((nI a ||| ((1 : Int32) <<< (nI j &&& 31)))).toNatClampNeg)) a ha j hj
theorem rem_lt {x y : Int32} (h : ¬ y = 0) : (x - x / y * y).toInt.natAbs < y.toInt.natAbs := by
  rw [rem_toInt]
  have hy : y.toInt ≠ 0 := fun q => h (Int32.toInt_inj.mp q)
  rw [Int.natAbs_tmod]
  exact Nat.mod_lt _ (by omega)
theorem nI_or (a b : Nat) : nI a ||| nI b = nI (a ||| b) := by
  apply Int32.toBitVec_inj.mp
  show BitVec.ofNat 32 a ||| BitVec.ofNat 32 b = BitVec.ofNat 32 _
  apply BitVec.eq_of_toNat_eq
  simp [BitVec.toNat_or, Nat.or_mod_two_pow]
theorem lg_lt (x y : Int64) : lg_cmp x y < 0 ↔ x.toInt < y.toInt := by
  unfold lg_cmp
  by_cases h : x > y
  · rw [if_pos h]
    have h2 := Int64.lt_iff_toInt_lt.mp h
    exact ⟨fun q => absurd q (by decide), fun q => by omega⟩
  · rw [if_neg h]
    have h' : ¬ y.toInt < x.toInt := fun q => h (Int64.lt_iff_toInt_lt.mpr q)
    by_cases e : x = y
    · rw [if_pos e]; subst e
      exact ⟨fun q => absurd q (by decide), fun q => by omega⟩
    · rw [if_neg e]
      have h3 : x.toInt ≠ y.toInt := fun q => e (Int64.toInt_inj.mp q)
      exact ⟨fun _ => by omega, fun _ => by decide⟩
theorem lg_gt (x y : Int64) : 0 < lg_cmp x y ↔ y.toInt < x.toInt := by
  unfold lg_cmp
  by_cases h : x > y
  · rw [if_pos h]
    have h2 := Int64.lt_iff_toInt_lt.mp h
    exact ⟨fun _ => h2, fun _ => by decide⟩
  · rw [if_neg h]
    have h' : ¬ y.toInt < x.toInt := fun q => h (Int64.lt_iff_toInt_lt.mpr q)
    by_cases e : x = y
    · rw [if_pos e]
      exact ⟨fun q => absurd q (by decide), fun q => absurd q h'⟩
    · rw [if_neg e]
      exact ⟨fun q => absurd q (by decide), fun q => absurd q h'⟩
