/-! own words, pure: the bits of an int, loops side by side -/
def hb (x : Int32) (i : Nat) : Bool := x.toBitVec.getLsbD i
theorem hb_or (x y : Int32) (i : Nat) : hb (x ||| y) i = (hb x i || hb y i) := by
  show (x.toBitVec ||| y.toBitVec).getLsbD i = _
  exact BitVec.getLsbD_or
theorem hb_and (x y : Int32) (i : Nat) : hb (x &&& y) i = (hb x i && hb y i) := by
  show (x.toBitVec &&& y.toBitVec).getLsbD i = _
  exact BitVec.getLsbD_and
theorem hb_not (x : Int32) {i : Nat} (h : i < 32) : hb (x ^^^ (-1)) i = !hb x i := by
  show (x.toBitVec ^^^ (-1 : Int32).toBitVec).getLsbD i = _
  have e : ((-1 : Int32).toBitVec).getLsbD i = true := (by decide +kernel : ∀ i, i < 32 → ((-1 : Int32).toBitVec).getLsbD i = true) i h
  rw [BitVec.getLsbD_xor, e]
  show (hb x i ^^ true) = _
  cases hb x i <;> rfl
theorem hb_nI (n i : Nat) : hb (nI n) i = (decide (i < 32) && n.testBit i) := by
  show (BitVec.ofNat 32 n).getLsbD i = _
  exact BitVec.getLsbD_ofNat ..
theorem hb_lt {x : Int32} {i : Nat} (h : hb x i = true) : i < 32 := BitVec.lt_of_getLsbD h
theorem hb_ext {x y : Int32} (h : ∀ i, i < 32 → hb x i = hb y i) : x = y := by
  apply Int32.toBitVec_inj.mp
  exact BitVec.eq_of_getLsbD_eq (fun i hi => h i hi)
theorem hb_0 (i : Nat) : hb 0 i = false := by
  rw [← nI_0, hb_nI]; simp
theorem sh31 : ∀ i, i < 32 → ((nI i &&& 31).toBitVec.smod 32).toNat = i := by decide +kernel
theorem hb_shr (x : Int32) {i : Nat} (h : i < 32) : hb (x >>> (nI i &&& 31)) 0 = hb x i := by
  show (BitVec.sshiftRight x.toBitVec ((nI i &&& 31).toBitVec.smod 32).toNat).getLsbD 0 = _
  rw [sh31 i h, BitVec.getLsbD_sshiftRight]
  simp [h]; rfl
theorem hb1_0 : ∀ j, j < 32 → ¬ j = 0 → hb 1 j = false := by decide +kernel
theorem hb1 (x : Int32) {i : Nat} (h : i < 32) : ((x >>> (nI i &&& 31)) &&& 1) = nI (hb x i).toNat := by
  apply hb_ext
  intro j hj
  rw [hb_and]
  by_cases h0 : j = 0
  · subst h0
    rw [hb_shr x h]
    cases hb x i <;> rfl
  · rw [hb1_0 j hj h0, Bool.and_false]
    cases hb x i
    · exact (hb_0 j).symm
    · exact (hb1_0 j hj h0).symm
theorem has7 (x : Int32) {i : Nat} (h : i < 32) : v_X7_has x (nI i) = hb x i := by
  unfold v_X7_has
  rw [hb1 x h]
  cases hb x i <;> rfl
theorem has8 (x : Int32) {i : Nat} (h : i < 32) : v_X8_has x (nI i) = hb x i := by
  unfold v_X8_has
  rw [hb1 x h]
  cases hb x i <;> rfl
theorem hb_sh : ∀ j, j < 32 → ∀ i, i < 32 → hb ((1 : Int32) <<< (nI j &&& 31)) i = decide (i = j) := by decide +kernel
theorem sh_nI : ∀ j, j < 32 → (1 : Int32) <<< (nI j &&& 31) = nI (2 ^ j) := by decide +kernel
theorem bI0 (b : Bool) : (bI b = 0) = (b = false) := by cases b <;> simp [bI]
theorem bI_nI (b : Bool) : bI b = nI b.toNat := by cases b <;> rfl
/-! loops -/
theorem it_rel {σ τ : Type} {f : Nat → σ → σ} {g : Nat → τ → τ} (N : Nat) (R : Nat → σ → τ → Prop) (h : ∀ i s t, i < N → R i s t → R (i + 1) (f i s) (g i t)) : ∀ (k i : Nat) (s : σ) (t : τ), i + k ≤ N → R i s t → R (i + k) (it f k i s) (it g k i t)
  | 0, _, _, _, _, hs => hs
  | k + 1, i, s, t, hk, hs => by
    have := it_rel N R h k (i + 1) (f i s) (g i t) (by omega) (h i s t (by omega) hs)
    rw [show i + (k + 1) = i + 1 + k by omega, it_s, it_s]
    exact this
theorem it_invN {σ : Type} {f : Nat → σ → σ} (N : Nat) (I : Nat → σ → Prop) (h : ∀ i s, i < N → I i s → I (i + 1) (f i s)) : ∀ (k i : Nat) (s : σ), i + k ≤ N → I i s → I (i + k) (it f k i s)
  | 0, _, _, _, hs => hs
  | k + 1, i, s, hk, hs => by
    have := it_invN N I h k (i + 1) (f i s) (by omega) (h i s (by omega) hs)
    rw [show i + (k + 1) = i + 1 + k by omega, it_s]
    exact this
theorem it_cong {σ : Type} {f g : Nat → σ → σ} (N : Nat) (h : ∀ i s, i < N → f i s = g i s) (k i : Nat) (s : σ) (hk : i + k ≤ N) : it f k i s = it g k i s :=
  it_rel N (fun _ s t => s = t) (fun i s t hi e => by subst e; exact h i s hi) k i s s hk rfl
theorem it_hb {f : Nat → Int32 → Int32} {b : Nat} {p : Nat → Bool} (N : Nat) (hf : ∀ i z, i < N → hb (f i z) b = (hb z b || p i)) : ∀ (k i : Nat) (z : Int32), i + k ≤ N → (hb (it f k i z) b = true ↔ hb z b = true ∨ ∃ j, i ≤ j ∧ j < i + k ∧ p j = true)
  | 0, i, z, _ => by
    rw [it_z]
    exact ⟨Or.inl, fun h => h.elim id (fun ⟨j, h1, h2, _⟩ => by omega)⟩
  | k + 1, i, z, hk => by
    rw [it_s, it_hb N hf k (i + 1) (f i z) (by omega), hf i z (by omega), Bool.or_eq_true]
    constructor
    · rintro ((h | h) | ⟨j, h1, h2, h3⟩)
      · exact Or.inl h
      · exact Or.inr ⟨i, Nat.le_refl _, by omega, h⟩
      · exact Or.inr ⟨j, by omega, by omega, h3⟩
    · rintro (h | ⟨j, h1, h2, h3⟩)
      · exact Or.inl (Or.inl h)
      · by_cases hj : j = i
        · subst hj; exact Or.inl (Or.inr h3)
        · exact Or.inr ⟨j, by omega, by omega, h3⟩
theorem it_hb0 {f : Nat → Int32 → Int32} {b : Nat} {p : Nat → Bool} {k : Nat} (hf : ∀ i z, i < k → hb (f i z) b = (hb z b || p i)) : hb (it f k 0 0) b = true ↔ ∃ j, j < k ∧ p j = true := by
  rw [it_hb k hf k 0 0 (by omega), hb_0]
  constructor
  · rintro (h | ⟨j, _, h2, h3⟩)
    · exact absurd h (by decide)
    · exact ⟨j, by omega, h3⟩
  · rintro ⟨j, h1, h2⟩
    exact Or.inr ⟨j, by omega, by omega, h2⟩
/-! how many -/
def cnt (x : Int32) : Nat := (hb x 0).toNat + (hb x 1).toNat + (hb x 2).toNat + (hb x 3).toNat + (hb x 4).toNat + (hb x 5).toNat + (hb x 6).toNat + (hb x 7).toNat + (hb x 8).toNat + (hb x 9).toNat + (hb x 10).toNat + (hb x 11).toNat
theorem ones_cnt (x : Int32) : v_X8_ones x = nI (cnt x) := by
  unfold v_X8_ones bnd it
  simp only [itR, v_X8_ones_L4]
  rw [hb1 x (by decide), hb1 x (by decide), hb1 x (by decide), hb1 x (by decide), hb1 x (by decide), hb1 x (by decide), hb1 x (by decide), hb1 x (by decide), hb1 x (by decide), hb1 x (by decide), hb1 x (by decide), hb1 x (by decide)]
  rw [show (0 : Int32) = nI 0 from rfl]
  simp only [nI_add, Nat.zero_add]
  rfl
theorem cnt_le (x : Int32) : cnt x ≤ 12 := by
  unfold cnt
  have h : ∀ b : Bool, b.toNat ≤ 1 := fun b => by cases b <;> decide
  have h0 := h (hb x 0); have h1 := h (hb x 1); have h2 := h (hb x 2); have h3 := h (hb x 3); have h4 := h (hb x 4); have h5 := h (hb x 5)
  have h6 := h (hb x 6); have h7 := h (hb x 7); have h8 := h (hb x 8); have h9 := h (hb x 9); have ha := h (hb x 10); have hc := h (hb x 11)
  omega
theorem bc_tab : ∀ a, a < 64 → ∀ b, b < 64 → v_J6_bitCount_0f7a4 (nI (64 * a + b)) = v_X8_ones (nI (64 * a + b)) := by decide +kernel
theorem bc_ones {h : Nat} (hh : h < 4096) : v_J6_bitCount_0f7a4 (nI h) = nI (cnt (nI h)) := by
  have := bc_tab (h / 64) (by omega) (h % 64) (by omega)
  rw [show 64 * (h / 64) + h % 64 = h by omega] at this
  rw [this, ones_cnt]
/-- a set of cells -/
def sm (x : Int32) : Prop := ∃ h : Nat, h < 4096 ∧ x = nI h
theorem sm_bc {x : Int32} (h : sm x) : v_J6_bitCount_0f7a4 x = nI (cnt x) := by
  obtain ⟨n, hn, rfl⟩ := h; exact bc_ones hn
theorem sm_hi {x : Int32} (h : sm x) {i : Nat} (hi : 12 ≤ i) : hb x i = false := by
  obtain ⟨n, hn, rfl⟩ := h
  rw [hb_nI, Nat.testBit_lt_two_pow (Nat.lt_of_lt_of_le hn (Nat.pow_le_pow_right (n := 2) (by decide) hi : 2 ^ 12 ≤ 2 ^ i)), Bool.and_false]
theorem sm_of {x : Int32} (h : ∀ i, 12 ≤ i → i < 32 → hb x i = false) : sm x := by
  obtain ⟨n, hn, rfl⟩ := nI_any x
  refine ⟨n, ?_, rfl⟩
  have : n < 2 ^ 12 := by
    apply Nat.lt_pow_two_of_testBit
    intro i hi
    by_cases h32 : i < 32
    · have := h i hi h32
      rw [hb_nI] at this
      simpa [h32] using this
    · exact Nat.testBit_lt_two_pow (Nat.lt_of_lt_of_le hn (Nat.pow_le_pow_right (by decide) (by omega)))
  exact this
theorem sm_0 : sm 0 := ⟨0, by decide, rfl⟩
theorem sm_or {x y : Int32} (h : sm x) (k : sm y) : sm (x ||| y) := sm_of fun i h1 _ => by rw [hb_or, sm_hi h h1, sm_hi k h1]; rfl
theorem sm_and {x y : Int32} (h : sm x) : sm (x &&& y) := sm_of fun i h1 _ => by rw [hb_and, sm_hi h h1]; rfl
theorem sm_sh {c : Nat} (h : c < 12) : sm ((1 : Int32) <<< (nI c &&& 31)) := sm_of fun i h1 h2 => by
  rw [hb_sh c (by omega) i h2]
  exact decide_eq_false (by omega)
theorem sm_ext {x y : Int32} (h : sm x) (k : sm y) (e : ∀ i, i < 12 → hb x i = hb y i) : x = y := by
  apply hb_ext
  intro i _
  by_cases h1 : i < 12
  · exact e i h1
  · rw [sm_hi h (by omega), sm_hi k (by omega)]
theorem cnt_0 : cnt 0 = 0 := by decide +kernel
theorem cnt_set {x : Int32} {c : Nat} (h : c < 12) (hc : hb x c = false) : cnt (x ||| ((1 : Int32) <<< (nI c &&& 31))) = cnt x + 1 := by
  have e : ∀ i, i < 12 → hb (x ||| ((1 : Int32) <<< (nI c &&& 31))) i = (hb x i || decide (i = c)) := fun i hi => by
    rw [hb_or, hb_sh c (by omega) i (by omega)]
  unfold cnt
  rw [e 0 (by decide), e 1 (by decide), e 2 (by decide), e 3 (by decide), e 4 (by decide), e 5 (by decide), e 6 (by decide), e 7 (by decide), e 8 (by decide), e 9 (by decide), e 10 (by decide), e 11 (by decide)]
  have hcs : c = 0 ∨ c = 1 ∨ c = 2 ∨ c = 3 ∨ c = 4 ∨ c = 5 ∨ c = 6 ∨ c = 7 ∨ c = 8 ∨ c = 9 ∨ c = 10 ∨ c = 11 := by omega
  rcases hcs with rfl | rfl | rfl | rfl | rfl | rfl | rfl | rfl | rfl | rfl | rfl | rfl <;> simp [hc] <;> omega
theorem cnt_clr {x : Int32} {c : Nat} (h : c < 12) (hc : hb x c = true) : cnt (x &&& (((1 : Int32) <<< (nI c &&& 31)) ^^^ (-1))) + 1 = cnt x := by
  have e : ∀ i, i < 12 → hb (x &&& (((1 : Int32) <<< (nI c &&& 31)) ^^^ (-1))) i = (hb x i && !decide (i = c)) := fun i hi => by
    rw [hb_and, hb_not _ (by omega), hb_sh c (by omega) i (by omega)]
  unfold cnt
  rw [e 0 (by decide), e 1 (by decide), e 2 (by decide), e 3 (by decide), e 4 (by decide), e 5 (by decide), e 6 (by decide), e 7 (by decide), e 8 (by decide), e 9 (by decide), e 10 (by decide), e 11 (by decide)]
  have hcs : c = 0 ∨ c = 1 ∨ c = 2 ∨ c = 3 ∨ c = 4 ∨ c = 5 ∨ c = 6 ∨ c = 7 ∨ c = 8 ∨ c = 9 ∨ c = 10 ∨ c = 11 := by omega
  rcases hcs with rfl | rfl | rfl | rfl | rfl | rfl | rfl | rfl | rfl | rfl | rfl | rfl <;> simp [hc] <;> omega
