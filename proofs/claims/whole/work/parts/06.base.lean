/-! own words: contracts that answer one value; worlds kept in their order -/
def bI (b : Bool) : Int32 := match b with
  | true => 1
  | false => 0
def bnd {α β : Type} (a : α) (f : α → β) : β := f a
def itR {σ : Type} (f : Nat → σ → σ) : Nat → Nat → σ → σ
  | 0, _, s => s
  | k + 1, i, s => itR f k (i + 1) (f i s)
/-- k rounds of f from the count i on -/
def it {σ : Type} (f : Nat → σ → σ) (k i : Nat) (s : σ) : σ := itR f k i s
theorem it_z {σ : Type} {f : Nat → σ → σ} {i : Nat} {s : σ} : it f 0 i s = s := rfl
theorem it_s {σ : Type} {f : Nat → σ → σ} {k i : Nat} {s : σ} : it f (k + 1) i s = it f k (i + 1) (f i s) := rfl
theorem it_0 {σ : Type} {f : Nat → σ → σ} {i : Nat} {s o : σ} (h : it f 0 i s = o) : s = o := h
theorem it_go {σ : Type} {f : Nat → σ → σ} {k i : Nat} {s t o : σ} (e : f i s = t) (h : it f (k + 1) i s = o) : it f k (i + 1) t = o := by
  subst e; exact h
def itxR {σ ρ : Type} (f : Nat → σ → σ ⊕ ρ) : Nat → Nat → σ → σ ⊕ ρ
  | 0, _, s => .inl s
  | k + 1, i, s => match f i s with
    | .inl s' => itxR f k (i + 1) s'
    | .inr r => .inr r
/-- k rounds at the most: a round may end it -/
def itx {σ ρ : Type} (f : Nat → σ → σ ⊕ ρ) (k i : Nat) (s : σ) : σ ⊕ ρ := itxR f k i s
theorem itx_z {σ ρ : Type} {f : Nat → σ → σ ⊕ ρ} {i : Nat} {s : σ} : itx f 0 i s = .inl s := rfl
theorem itx_0 {σ ρ : Type} {f : Nat → σ → σ ⊕ ρ} {i : Nat} {s : σ} {o : σ ⊕ ρ} (h : itx f 0 i s = o) : .inl s = o := h
theorem itx_go {σ ρ : Type} {f : Nat → σ → σ ⊕ ρ} {k i : Nat} {s s' : σ} (h : f i s = .inl s') : itx f (k + 1) i s = itx f k (i + 1) s' := by
  show (match f i s with | .inl s' => itxR f k (i + 1) s' | .inr r => .inr r) = _
  rw [h]; rfl
theorem itx_out {σ ρ : Type} {f : Nat → σ → σ ⊕ ρ} {k i : Nat} {s : σ} {r : ρ} (h : f i s = .inr r) : itx f (k + 1) i s = .inr r := by
  show (match f i s with | .inl s' => itxR f k (i + 1) s' | .inr r => .inr r) = _
  rw [h]
theorem bI_narrow (b : Bool) : narrow .boolean (.int (bI b)) = .int (bI b) := by cases b <;> rfl
theorem bI_fits (b : Bool) : fits .boolean (.int (bI b)) = true := by cases b <;> rfl
/-- a counter below a bound that is any int -/
theorem cb_lt {b : Int32} {i : Nat} (h : i < b.toNatClampNeg) : ¬ b ≤ nI i := by
  have hb : b.toNatClampNeg < 2 ^ 31 := by
    have := Int32.toInt_lt b
    unfold Int32.toNatClampNeg; omega
  have hbi : (b.toNatClampNeg : Int) = b.toInt := by
    unfold Int32.toNatClampNeg at h ⊢; omega
  intro hle
  have h1 := Int32.le_iff_toInt_le.mp hle
  rw [nI_toInt (by omega)] at h1
  omega
theorem cb_ge {b : Int32} {i : Nat} (h : b.toNatClampNeg ≤ i) (hi : i < 2 ^ 31) : b ≤ nI i := by
  refine Int32.le_iff_toInt_le.mpr ?_
  rw [nI_toInt hi]
  unfold Int32.toNatClampNeg at h; omega
theorem cb_lt31 (b : Int32) : b.toNatClampNeg < 2 ^ 31 := by
  have := Int32.toInt_lt b
  unfold Int32.toNatClampNeg; omega
theorem cb_le {b : Int32} {i : Nat} (h : i < b.toNatClampNeg + 1) (h0 : 0 < i) : ¬ b < nI i := by
  have h31 := cb_lt31 b
  intro hlt
  have h1 := Int32.lt_iff_toInt_lt.mp hlt
  rw [nI_toInt (by omega)] at h1
  unfold Int32.toNatClampNeg at h; omega
theorem cb_gt {b : Int32} {i : Nat} (h : b.toNatClampNeg + 1 ≤ i) (hi : i < 2 ^ 31) : b < nI i := by
  refine Int32.lt_iff_toInt_lt.mpr ?_
  rw [nI_toInt hi]
  unfold Int32.toNatClampNeg at h; omega
def uS (x y : Int32) : Int32 := (x.toUInt32 >>> (y.toUInt32 &&& Int32.toUInt32 31)).toInt32
def uSL (x : Int64) (y : Int32) : Int64 := (x.toUInt64 >>> (y.toInt64.toUInt64 &&& Int64.toUInt64 63)).toInt64
def unS {σ : Type} (x : σ ⊕ σ) : σ := match x with
  | .inl s => s
  | .inr s => s
def mch {σ ρ : Type} (x : σ ⊕ ρ) (f : σ → ρ) : ρ := match x with
  | .inl s => f s
  | .inr r => r
theorem bnd_eq {α β : Type} {o a : α} {f : α → β} (h : o = a) : bnd a f = f o := by subst h; rfl
def bnd2 {α0 α1 β : Type} (x : α0 × α1) (f : α0 → α1 → β) : β := f x.1 x.2
theorem bnd2_eq {α0 α1 β : Type} {y0 : α0} {y1 : α1} {x : α0 × α1} {f : α0 → α1 → β} (h : (y0, y1) = x) : bnd2 x f = f y0 y1 := by subst h; rfl
def bnd3 {α0 α1 α2 β : Type} (x : α0 × α1 × α2) (f : α0 → α1 → α2 → β) : β := f x.1 x.2.1 x.2.2
theorem bnd3_eq {α0 α1 α2 β : Type} {y0 : α0} {y1 : α1} {y2 : α2} {x : α0 × α1 × α2} {f : α0 → α1 → α2 → β} (h : (y0, y1, y2) = x) : bnd3 x f = f y0 y1 y2 := by subst h; rfl
def bnd4 {α0 α1 α2 α3 β : Type} (x : α0 × α1 × α2 × α3) (f : α0 → α1 → α2 → α3 → β) : β := f x.1 x.2.1 x.2.2.1 x.2.2.2
theorem bnd4_eq {α0 α1 α2 α3 β : Type} {y0 : α0} {y1 : α1} {y2 : α2} {y3 : α3} {x : α0 × α1 × α2 × α3} {f : α0 → α1 → α2 → α3 → β} (h : (y0, y1, y2, y3) = x) : bnd4 x f = f y0 y1 y2 y3 := by subst h; rfl
def bnd5 {α0 α1 α2 α3 α4 β : Type} (x : α0 × α1 × α2 × α3 × α4) (f : α0 → α1 → α2 → α3 → α4 → β) : β := f x.1 x.2.1 x.2.2.1 x.2.2.2.1 x.2.2.2.2
theorem bnd5_eq {α0 α1 α2 α3 α4 β : Type} {y0 : α0} {y1 : α1} {y2 : α2} {y3 : α3} {y4 : α4} {x : α0 × α1 × α2 × α3 × α4} {f : α0 → α1 → α2 → α3 → α4 → β} (h : (y0, y1, y2, y3, y4) = x) : bnd5 x f = f y0 y1 y2 y3 y4 := by subst h; rfl
def bnd6 {α0 α1 α2 α3 α4 α5 β : Type} (x : α0 × α1 × α2 × α3 × α4 × α5) (f : α0 → α1 → α2 → α3 → α4 → α5 → β) : β := f x.1 x.2.1 x.2.2.1 x.2.2.2.1 x.2.2.2.2.1 x.2.2.2.2.2
theorem bnd6_eq {α0 α1 α2 α3 α4 α5 β : Type} {y0 : α0} {y1 : α1} {y2 : α2} {y3 : α3} {y4 : α4} {y5 : α5} {x : α0 × α1 × α2 × α3 × α4 × α5} {f : α0 → α1 → α2 → α3 → α4 → α5 → β} (h : (y0, y1, y2, y3, y4, y5) = x) : bnd6 x f = f y0 y1 y2 y3 y4 y5 := by subst h; rfl
def bnd7 {α0 α1 α2 α3 α4 α5 α6 β : Type} (x : α0 × α1 × α2 × α3 × α4 × α5 × α6) (f : α0 → α1 → α2 → α3 → α4 → α5 → α6 → β) : β := f x.1 x.2.1 x.2.2.1 x.2.2.2.1 x.2.2.2.2.1 x.2.2.2.2.2.1 x.2.2.2.2.2.2
theorem bnd7_eq {α0 α1 α2 α3 α4 α5 α6 β : Type} {y0 : α0} {y1 : α1} {y2 : α2} {y3 : α3} {y4 : α4} {y5 : α5} {y6 : α6} {x : α0 × α1 × α2 × α3 × α4 × α5 × α6} {f : α0 → α1 → α2 → α3 → α4 → α5 → α6 → β} (h : (y0, y1, y2, y3, y4, y5, y6) = x) : bnd7 x f = f y0 y1 y2 y3 y4 y5 y6 := by subst h; rfl
def bnd8 {α0 α1 α2 α3 α4 α5 α6 α7 β : Type} (x : α0 × α1 × α2 × α3 × α4 × α5 × α6 × α7) (f : α0 → α1 → α2 → α3 → α4 → α5 → α6 → α7 → β) : β := f x.1 x.2.1 x.2.2.1 x.2.2.2.1 x.2.2.2.2.1 x.2.2.2.2.2.1 x.2.2.2.2.2.2.1 x.2.2.2.2.2.2.2
theorem bnd8_eq {α0 α1 α2 α3 α4 α5 α6 α7 β : Type} {y0 : α0} {y1 : α1} {y2 : α2} {y3 : α3} {y4 : α4} {y5 : α5} {y6 : α6} {y7 : α7} {x : α0 × α1 × α2 × α3 × α4 × α5 × α6 × α7} {f : α0 → α1 → α2 → α3 → α4 → α5 → α6 → α7 → β} (h : (y0, y1, y2, y3, y4, y5, y6, y7) = x) : bnd8 x f = f y0 y1 y2 y3 y4 y5 y6 y7 := by subst h; rfl
def bnd9 {α0 α1 α2 α3 α4 α5 α6 α7 α8 β : Type} (x : α0 × α1 × α2 × α3 × α4 × α5 × α6 × α7 × α8) (f : α0 → α1 → α2 → α3 → α4 → α5 → α6 → α7 → α8 → β) : β := f x.1 x.2.1 x.2.2.1 x.2.2.2.1 x.2.2.2.2.1 x.2.2.2.2.2.1 x.2.2.2.2.2.2.1 x.2.2.2.2.2.2.2.1 x.2.2.2.2.2.2.2.2
theorem bnd9_eq {α0 α1 α2 α3 α4 α5 α6 α7 α8 β : Type} {y0 : α0} {y1 : α1} {y2 : α2} {y3 : α3} {y4 : α4} {y5 : α5} {y6 : α6} {y7 : α7} {y8 : α8} {x : α0 × α1 × α2 × α3 × α4 × α5 × α6 × α7 × α8} {f : α0 → α1 → α2 → α3 → α4 → α5 → α6 → α7 → α8 → β} (h : (y0, y1, y2, y3, y4, y5, y6, y7, y8) = x) : bnd9 x f = f y0 y1 y2 y3 y4 y5 y6 y7 y8 := by subst h; rfl
def bnd10 {α0 α1 α2 α3 α4 α5 α6 α7 α8 α9 β : Type} (x : α0 × α1 × α2 × α3 × α4 × α5 × α6 × α7 × α8 × α9) (f : α0 → α1 → α2 → α3 → α4 → α5 → α6 → α7 → α8 → α9 → β) : β := f x.1 x.2.1 x.2.2.1 x.2.2.2.1 x.2.2.2.2.1 x.2.2.2.2.2.1 x.2.2.2.2.2.2.1 x.2.2.2.2.2.2.2.1 x.2.2.2.2.2.2.2.2.1 x.2.2.2.2.2.2.2.2.2
theorem bnd10_eq {α0 α1 α2 α3 α4 α5 α6 α7 α8 α9 β : Type} {y0 : α0} {y1 : α1} {y2 : α2} {y3 : α3} {y4 : α4} {y5 : α5} {y6 : α6} {y7 : α7} {y8 : α8} {y9 : α9} {x : α0 × α1 × α2 × α3 × α4 × α5 × α6 × α7 × α8 × α9} {f : α0 → α1 → α2 → α3 → α4 → α5 → α6 → α7 → α8 → α9 → β} (h : (y0, y1, y2, y3, y4, y5, y6, y7, y8, y9) = x) : bnd10 x f = f y0 y1 y2 y3 y4 y5 y6 y7 y8 y9 := by subst h; rfl
def bnd11 {α0 α1 α2 α3 α4 α5 α6 α7 α8 α9 α10 β : Type} (x : α0 × α1 × α2 × α3 × α4 × α5 × α6 × α7 × α8 × α9 × α10) (f : α0 → α1 → α2 → α3 → α4 → α5 → α6 → α7 → α8 → α9 → α10 → β) : β := f x.1 x.2.1 x.2.2.1 x.2.2.2.1 x.2.2.2.2.1 x.2.2.2.2.2.1 x.2.2.2.2.2.2.1 x.2.2.2.2.2.2.2.1 x.2.2.2.2.2.2.2.2.1 x.2.2.2.2.2.2.2.2.2.1 x.2.2.2.2.2.2.2.2.2.2
theorem bnd11_eq {α0 α1 α2 α3 α4 α5 α6 α7 α8 α9 α10 β : Type} {y0 : α0} {y1 : α1} {y2 : α2} {y3 : α3} {y4 : α4} {y5 : α5} {y6 : α6} {y7 : α7} {y8 : α8} {y9 : α9} {y10 : α10} {x : α0 × α1 × α2 × α3 × α4 × α5 × α6 × α7 × α8 × α9 × α10} {f : α0 → α1 → α2 → α3 → α4 → α5 → α6 → α7 → α8 → α9 → α10 → β} (h : (y0, y1, y2, y3, y4, y5, y6, y7, y8, y9, y10) = x) : bnd11 x f = f y0 y1 y2 y3 y4 y5 y6 y7 y8 y9 y10 := by subst h; rfl
def bnd12 {α0 α1 α2 α3 α4 α5 α6 α7 α8 α9 α10 α11 β : Type} (x : α0 × α1 × α2 × α3 × α4 × α5 × α6 × α7 × α8 × α9 × α10 × α11) (f : α0 → α1 → α2 → α3 → α4 → α5 → α6 → α7 → α8 → α9 → α10 → α11 → β) : β := f x.1 x.2.1 x.2.2.1 x.2.2.2.1 x.2.2.2.2.1 x.2.2.2.2.2.1 x.2.2.2.2.2.2.1 x.2.2.2.2.2.2.2.1 x.2.2.2.2.2.2.2.2.1 x.2.2.2.2.2.2.2.2.2.1 x.2.2.2.2.2.2.2.2.2.2.1 x.2.2.2.2.2.2.2.2.2.2.2
theorem bnd12_eq {α0 α1 α2 α3 α4 α5 α6 α7 α8 α9 α10 α11 β : Type} {y0 : α0} {y1 : α1} {y2 : α2} {y3 : α3} {y4 : α4} {y5 : α5} {y6 : α6} {y7 : α7} {y8 : α8} {y9 : α9} {y10 : α10} {y11 : α11} {x : α0 × α1 × α2 × α3 × α4 × α5 × α6 × α7 × α8 × α9 × α10 × α11} {f : α0 → α1 → α2 → α3 → α4 → α5 → α6 → α7 → α8 → α9 → α10 → α11 → β} (h : (y0, y1, y2, y3, y4, y5, y6, y7, y8, y9, y10, y11) = x) : bnd12 x f = f y0 y1 y2 y3 y4 y5 y6 y7 y8 y9 y10 y11 := by subst h; rfl
def bnd13 {α0 α1 α2 α3 α4 α5 α6 α7 α8 α9 α10 α11 α12 β : Type} (x : α0 × α1 × α2 × α3 × α4 × α5 × α6 × α7 × α8 × α9 × α10 × α11 × α12) (f : α0 → α1 → α2 → α3 → α4 → α5 → α6 → α7 → α8 → α9 → α10 → α11 → α12 → β) : β := f x.1 x.2.1 x.2.2.1 x.2.2.2.1 x.2.2.2.2.1 x.2.2.2.2.2.1 x.2.2.2.2.2.2.1 x.2.2.2.2.2.2.2.1 x.2.2.2.2.2.2.2.2.1 x.2.2.2.2.2.2.2.2.2.1 x.2.2.2.2.2.2.2.2.2.2.1 x.2.2.2.2.2.2.2.2.2.2.2.1 x.2.2.2.2.2.2.2.2.2.2.2.2
theorem bnd13_eq {α0 α1 α2 α3 α4 α5 α6 α7 α8 α9 α10 α11 α12 β : Type} {y0 : α0} {y1 : α1} {y2 : α2} {y3 : α3} {y4 : α4} {y5 : α5} {y6 : α6} {y7 : α7} {y8 : α8} {y9 : α9} {y10 : α10} {y11 : α11} {y12 : α12} {x : α0 × α1 × α2 × α3 × α4 × α5 × α6 × α7 × α8 × α9 × α10 × α11 × α12} {f : α0 → α1 → α2 → α3 → α4 → α5 → α6 → α7 → α8 → α9 → α10 → α11 → α12 → β} (h : (y0, y1, y2, y3, y4, y5, y6, y7, y8, y9, y10, y11, y12) = x) : bnd13 x f = f y0 y1 y2 y3 y4 y5 y6 y7 y8 y9 y10 y11 y12 := by subst h; rfl
def bnd14 {α0 α1 α2 α3 α4 α5 α6 α7 α8 α9 α10 α11 α12 α13 β : Type} (x : α0 × α1 × α2 × α3 × α4 × α5 × α6 × α7 × α8 × α9 × α10 × α11 × α12 × α13) (f : α0 → α1 → α2 → α3 → α4 → α5 → α6 → α7 → α8 → α9 → α10 → α11 → α12 → α13 → β) : β := f x.1 x.2.1 x.2.2.1 x.2.2.2.1 x.2.2.2.2.1 x.2.2.2.2.2.1 x.2.2.2.2.2.2.1 x.2.2.2.2.2.2.2.1 x.2.2.2.2.2.2.2.2.1 x.2.2.2.2.2.2.2.2.2.1 x.2.2.2.2.2.2.2.2.2.2.1 x.2.2.2.2.2.2.2.2.2.2.2.1 x.2.2.2.2.2.2.2.2.2.2.2.2.1 x.2.2.2.2.2.2.2.2.2.2.2.2.2
theorem bnd14_eq {α0 α1 α2 α3 α4 α5 α6 α7 α8 α9 α10 α11 α12 α13 β : Type} {y0 : α0} {y1 : α1} {y2 : α2} {y3 : α3} {y4 : α4} {y5 : α5} {y6 : α6} {y7 : α7} {y8 : α8} {y9 : α9} {y10 : α10} {y11 : α11} {y12 : α12} {y13 : α13} {x : α0 × α1 × α2 × α3 × α4 × α5 × α6 × α7 × α8 × α9 × α10 × α11 × α12 × α13} {f : α0 → α1 → α2 → α3 → α4 → α5 → α6 → α7 → α8 → α9 → α10 → α11 → α12 → α13 → β} (h : (y0, y1, y2, y3, y4, y5, y6, y7, y8, y9, y10, y11, y12, y13) = x) : bnd14 x f = f y0 y1 y2 y3 y4 y5 y6 y7 y8 y9 y10 y11 y12 y13 := by subst h; rfl
def bnd15 {α0 α1 α2 α3 α4 α5 α6 α7 α8 α9 α10 α11 α12 α13 α14 β : Type} (x : α0 × α1 × α2 × α3 × α4 × α5 × α6 × α7 × α8 × α9 × α10 × α11 × α12 × α13 × α14) (f : α0 → α1 → α2 → α3 → α4 → α5 → α6 → α7 → α8 → α9 → α10 → α11 → α12 → α13 → α14 → β) : β := f x.1 x.2.1 x.2.2.1 x.2.2.2.1 x.2.2.2.2.1 x.2.2.2.2.2.1 x.2.2.2.2.2.2.1 x.2.2.2.2.2.2.2.1 x.2.2.2.2.2.2.2.2.1 x.2.2.2.2.2.2.2.2.2.1 x.2.2.2.2.2.2.2.2.2.2.1 x.2.2.2.2.2.2.2.2.2.2.2.1 x.2.2.2.2.2.2.2.2.2.2.2.2.1 x.2.2.2.2.2.2.2.2.2.2.2.2.2.1 x.2.2.2.2.2.2.2.2.2.2.2.2.2.2
theorem bnd15_eq {α0 α1 α2 α3 α4 α5 α6 α7 α8 α9 α10 α11 α12 α13 α14 β : Type} {y0 : α0} {y1 : α1} {y2 : α2} {y3 : α3} {y4 : α4} {y5 : α5} {y6 : α6} {y7 : α7} {y8 : α8} {y9 : α9} {y10 : α10} {y11 : α11} {y12 : α12} {y13 : α13} {y14 : α14} {x : α0 × α1 × α2 × α3 × α4 × α5 × α6 × α7 × α8 × α9 × α10 × α11 × α12 × α13 × α14} {f : α0 → α1 → α2 → α3 → α4 → α5 → α6 → α7 → α8 → α9 → α10 → α11 → α12 → α13 → α14 → β} (h : (y0, y1, y2, y3, y4, y5, y6, y7, y8, y9, y10, y11, y12, y13, y14) = x) : bnd15 x f = f y0 y1 y2 y3 y4 y5 y6 y7 y8 y9 y10 y11 y12 y13 y14 := by subst h; rfl
def bnd16 {α0 α1 α2 α3 α4 α5 α6 α7 α8 α9 α10 α11 α12 α13 α14 α15 β : Type} (x : α0 × α1 × α2 × α3 × α4 × α5 × α6 × α7 × α8 × α9 × α10 × α11 × α12 × α13 × α14 × α15) (f : α0 → α1 → α2 → α3 → α4 → α5 → α6 → α7 → α8 → α9 → α10 → α11 → α12 → α13 → α14 → α15 → β) : β := f x.1 x.2.1 x.2.2.1 x.2.2.2.1 x.2.2.2.2.1 x.2.2.2.2.2.1 x.2.2.2.2.2.2.1 x.2.2.2.2.2.2.2.1 x.2.2.2.2.2.2.2.2.1 x.2.2.2.2.2.2.2.2.2.1 x.2.2.2.2.2.2.2.2.2.2.1 x.2.2.2.2.2.2.2.2.2.2.2.1 x.2.2.2.2.2.2.2.2.2.2.2.2.1 x.2.2.2.2.2.2.2.2.2.2.2.2.2.1 x.2.2.2.2.2.2.2.2.2.2.2.2.2.2.1 x.2.2.2.2.2.2.2.2.2.2.2.2.2.2.2
theorem bnd16_eq {α0 α1 α2 α3 α4 α5 α6 α7 α8 α9 α10 α11 α12 α13 α14 α15 β : Type} {y0 : α0} {y1 : α1} {y2 : α2} {y3 : α3} {y4 : α4} {y5 : α5} {y6 : α6} {y7 : α7} {y8 : α8} {y9 : α9} {y10 : α10} {y11 : α11} {y12 : α12} {y13 : α13} {y14 : α14} {y15 : α15} {x : α0 × α1 × α2 × α3 × α4 × α5 × α6 × α7 × α8 × α9 × α10 × α11 × α12 × α13 × α14 × α15} {f : α0 → α1 → α2 → α3 → α4 → α5 → α6 → α7 → α8 → α9 → α10 → α11 → α12 → α13 → α14 → α15 → β} (h : (y0, y1, y2, y3, y4, y5, y6, y7, y8, y9, y10, y11, y12, y13, y14, y15) = x) : bnd16 x f = f y0 y1 y2 y3 y4 y5 y6 y7 y8 y9 y10 y11 y12 y13 y14 y15 := by subst h; rfl
def bnd17 {α0 α1 α2 α3 α4 α5 α6 α7 α8 α9 α10 α11 α12 α13 α14 α15 α16 β : Type} (x : α0 × α1 × α2 × α3 × α4 × α5 × α6 × α7 × α8 × α9 × α10 × α11 × α12 × α13 × α14 × α15 × α16) (f : α0 → α1 → α2 → α3 → α4 → α5 → α6 → α7 → α8 → α9 → α10 → α11 → α12 → α13 → α14 → α15 → α16 → β) : β := f x.1 x.2.1 x.2.2.1 x.2.2.2.1 x.2.2.2.2.1 x.2.2.2.2.2.1 x.2.2.2.2.2.2.1 x.2.2.2.2.2.2.2.1 x.2.2.2.2.2.2.2.2.1 x.2.2.2.2.2.2.2.2.2.1 x.2.2.2.2.2.2.2.2.2.2.1 x.2.2.2.2.2.2.2.2.2.2.2.1 x.2.2.2.2.2.2.2.2.2.2.2.2.1 x.2.2.2.2.2.2.2.2.2.2.2.2.2.1 x.2.2.2.2.2.2.2.2.2.2.2.2.2.2.1 x.2.2.2.2.2.2.2.2.2.2.2.2.2.2.2.1 x.2.2.2.2.2.2.2.2.2.2.2.2.2.2.2.2
theorem bnd17_eq {α0 α1 α2 α3 α4 α5 α6 α7 α8 α9 α10 α11 α12 α13 α14 α15 α16 β : Type} {y0 : α0} {y1 : α1} {y2 : α2} {y3 : α3} {y4 : α4} {y5 : α5} {y6 : α6} {y7 : α7} {y8 : α8} {y9 : α9} {y10 : α10} {y11 : α11} {y12 : α12} {y13 : α13} {y14 : α14} {y15 : α15} {y16 : α16} {x : α0 × α1 × α2 × α3 × α4 × α5 × α6 × α7 × α8 × α9 × α10 × α11 × α12 × α13 × α14 × α15 × α16} {f : α0 → α1 → α2 → α3 → α4 → α5 → α6 → α7 → α8 → α9 → α10 → α11 → α12 → α13 → α14 → α15 → α16 → β} (h : (y0, y1, y2, y3, y4, y5, y6, y7, y8, y9, y10, y11, y12, y13, y14, y15, y16) = x) : bnd17 x f = f y0 y1 y2 y3 y4 y5 y6 y7 y8 y9 y10 y11 y12 y13 y14 y15 y16 := by subst h; rfl
def bnd18 {α0 α1 α2 α3 α4 α5 α6 α7 α8 α9 α10 α11 α12 α13 α14 α15 α16 α17 β : Type} (x : α0 × α1 × α2 × α3 × α4 × α5 × α6 × α7 × α8 × α9 × α10 × α11 × α12 × α13 × α14 × α15 × α16 × α17) (f : α0 → α1 → α2 → α3 → α4 → α5 → α6 → α7 → α8 → α9 → α10 → α11 → α12 → α13 → α14 → α15 → α16 → α17 → β) : β := f x.1 x.2.1 x.2.2.1 x.2.2.2.1 x.2.2.2.2.1 x.2.2.2.2.2.1 x.2.2.2.2.2.2.1 x.2.2.2.2.2.2.2.1 x.2.2.2.2.2.2.2.2.1 x.2.2.2.2.2.2.2.2.2.1 x.2.2.2.2.2.2.2.2.2.2.1 x.2.2.2.2.2.2.2.2.2.2.2.1 x.2.2.2.2.2.2.2.2.2.2.2.2.1 x.2.2.2.2.2.2.2.2.2.2.2.2.2.1 x.2.2.2.2.2.2.2.2.2.2.2.2.2.2.1 x.2.2.2.2.2.2.2.2.2.2.2.2.2.2.2.1 x.2.2.2.2.2.2.2.2.2.2.2.2.2.2.2.2.1 x.2.2.2.2.2.2.2.2.2.2.2.2.2.2.2.2.2
theorem bnd18_eq {α0 α1 α2 α3 α4 α5 α6 α7 α8 α9 α10 α11 α12 α13 α14 α15 α16 α17 β : Type} {y0 : α0} {y1 : α1} {y2 : α2} {y3 : α3} {y4 : α4} {y5 : α5} {y6 : α6} {y7 : α7} {y8 : α8} {y9 : α9} {y10 : α10} {y11 : α11} {y12 : α12} {y13 : α13} {y14 : α14} {y15 : α15} {y16 : α16} {y17 : α17} {x : α0 × α1 × α2 × α3 × α4 × α5 × α6 × α7 × α8 × α9 × α10 × α11 × α12 × α13 × α14 × α15 × α16 × α17} {f : α0 → α1 → α2 → α3 → α4 → α5 → α6 → α7 → α8 → α9 → α10 → α11 → α12 → α13 → α14 → α15 → α16 → α17 → β} (h : (y0, y1, y2, y3, y4, y5, y6, y7, y8, y9, y10, y11, y12, y13, y14, y15, y16, y17) = x) : bnd18 x f = f y0 y1 y2 y3 y4 y5 y6 y7 y8 y9 y10 y11 y12 y13 y14 y15 y16 y17 := by subst h; rfl
def bnd19 {α0 α1 α2 α3 α4 α5 α6 α7 α8 α9 α10 α11 α12 α13 α14 α15 α16 α17 α18 β : Type} (x : α0 × α1 × α2 × α3 × α4 × α5 × α6 × α7 × α8 × α9 × α10 × α11 × α12 × α13 × α14 × α15 × α16 × α17 × α18) (f : α0 → α1 → α2 → α3 → α4 → α5 → α6 → α7 → α8 → α9 → α10 → α11 → α12 → α13 → α14 → α15 → α16 → α17 → α18 → β) : β := f x.1 x.2.1 x.2.2.1 x.2.2.2.1 x.2.2.2.2.1 x.2.2.2.2.2.1 x.2.2.2.2.2.2.1 x.2.2.2.2.2.2.2.1 x.2.2.2.2.2.2.2.2.1 x.2.2.2.2.2.2.2.2.2.1 x.2.2.2.2.2.2.2.2.2.2.1 x.2.2.2.2.2.2.2.2.2.2.2.1 x.2.2.2.2.2.2.2.2.2.2.2.2.1 x.2.2.2.2.2.2.2.2.2.2.2.2.2.1 x.2.2.2.2.2.2.2.2.2.2.2.2.2.2.1 x.2.2.2.2.2.2.2.2.2.2.2.2.2.2.2.1 x.2.2.2.2.2.2.2.2.2.2.2.2.2.2.2.2.1 x.2.2.2.2.2.2.2.2.2.2.2.2.2.2.2.2.2.1 x.2.2.2.2.2.2.2.2.2.2.2.2.2.2.2.2.2.2
theorem bnd19_eq {α0 α1 α2 α3 α4 α5 α6 α7 α8 α9 α10 α11 α12 α13 α14 α15 α16 α17 α18 β : Type} {y0 : α0} {y1 : α1} {y2 : α2} {y3 : α3} {y4 : α4} {y5 : α5} {y6 : α6} {y7 : α7} {y8 : α8} {y9 : α9} {y10 : α10} {y11 : α11} {y12 : α12} {y13 : α13} {y14 : α14} {y15 : α15} {y16 : α16} {y17 : α17} {y18 : α18} {x : α0 × α1 × α2 × α3 × α4 × α5 × α6 × α7 × α8 × α9 × α10 × α11 × α12 × α13 × α14 × α15 × α16 × α17 × α18} {f : α0 → α1 → α2 → α3 → α4 → α5 → α6 → α7 → α8 → α9 → α10 → α11 → α12 → α13 → α14 → α15 → α16 → α17 → α18 → β} (h : (y0, y1, y2, y3, y4, y5, y6, y7, y8, y9, y10, y11, y12, y13, y14, y15, y16, y17, y18) = x) : bnd19 x f = f y0 y1 y2 y3 y4 y5 y6 y7 y8 y9 y10 y11 y12 y13 y14 y15 y16 y17 y18 := by subst h; rfl
def bnd20 {α0 α1 α2 α3 α4 α5 α6 α7 α8 α9 α10 α11 α12 α13 α14 α15 α16 α17 α18 α19 β : Type} (x : α0 × α1 × α2 × α3 × α4 × α5 × α6 × α7 × α8 × α9 × α10 × α11 × α12 × α13 × α14 × α15 × α16 × α17 × α18 × α19) (f : α0 → α1 → α2 → α3 → α4 → α5 → α6 → α7 → α8 → α9 → α10 → α11 → α12 → α13 → α14 → α15 → α16 → α17 → α18 → α19 → β) : β := f x.1 x.2.1 x.2.2.1 x.2.2.2.1 x.2.2.2.2.1 x.2.2.2.2.2.1 x.2.2.2.2.2.2.1 x.2.2.2.2.2.2.2.1 x.2.2.2.2.2.2.2.2.1 x.2.2.2.2.2.2.2.2.2.1 x.2.2.2.2.2.2.2.2.2.2.1 x.2.2.2.2.2.2.2.2.2.2.2.1 x.2.2.2.2.2.2.2.2.2.2.2.2.1 x.2.2.2.2.2.2.2.2.2.2.2.2.2.1 x.2.2.2.2.2.2.2.2.2.2.2.2.2.2.1 x.2.2.2.2.2.2.2.2.2.2.2.2.2.2.2.1 x.2.2.2.2.2.2.2.2.2.2.2.2.2.2.2.2.1 x.2.2.2.2.2.2.2.2.2.2.2.2.2.2.2.2.2.1 x.2.2.2.2.2.2.2.2.2.2.2.2.2.2.2.2.2.2.1 x.2.2.2.2.2.2.2.2.2.2.2.2.2.2.2.2.2.2.2
theorem bnd20_eq {α0 α1 α2 α3 α4 α5 α6 α7 α8 α9 α10 α11 α12 α13 α14 α15 α16 α17 α18 α19 β : Type} {y0 : α0} {y1 : α1} {y2 : α2} {y3 : α3} {y4 : α4} {y5 : α5} {y6 : α6} {y7 : α7} {y8 : α8} {y9 : α9} {y10 : α10} {y11 : α11} {y12 : α12} {y13 : α13} {y14 : α14} {y15 : α15} {y16 : α16} {y17 : α17} {y18 : α18} {y19 : α19} {x : α0 × α1 × α2 × α3 × α4 × α5 × α6 × α7 × α8 × α9 × α10 × α11 × α12 × α13 × α14 × α15 × α16 × α17 × α18 × α19} {f : α0 → α1 → α2 → α3 → α4 → α5 → α6 → α7 → α8 → α9 → α10 → α11 → α12 → α13 → α14 → α15 → α16 → α17 → α18 → α19 → β} (h : (y0, y1, y2, y3, y4, y5, y6, y7, y8, y9, y10, y11, y12, y13, y14, y15, y16, y17, y18, y19) = x) : bnd20 x f = f y0 y1 y2 y3 y4 y5 y6 y7 y8 y9 y10 y11 y12 y13 y14 y15 y16 y17 y18 y19 := by subst h; rfl
theorem ex2 {α0 α1 : Type} (x : α0 × α1) : ∃ y0 y1, (y0, y1) = x := ⟨x.1, x.2, rfl⟩
theorem ex3 {α0 α1 α2 : Type} (x : α0 × α1 × α2) : ∃ y0 y1 y2, (y0, y1, y2) = x := ⟨x.1, x.2.1, x.2.2, rfl⟩
theorem ex4 {α0 α1 α2 α3 : Type} (x : α0 × α1 × α2 × α3) : ∃ y0 y1 y2 y3, (y0, y1, y2, y3) = x := ⟨x.1, x.2.1, x.2.2.1, x.2.2.2, rfl⟩
theorem ex5 {α0 α1 α2 α3 α4 : Type} (x : α0 × α1 × α2 × α3 × α4) : ∃ y0 y1 y2 y3 y4, (y0, y1, y2, y3, y4) = x := ⟨x.1, x.2.1, x.2.2.1, x.2.2.2.1, x.2.2.2.2, rfl⟩
theorem ex6 {α0 α1 α2 α3 α4 α5 : Type} (x : α0 × α1 × α2 × α3 × α4 × α5) : ∃ y0 y1 y2 y3 y4 y5, (y0, y1, y2, y3, y4, y5) = x := ⟨x.1, x.2.1, x.2.2.1, x.2.2.2.1, x.2.2.2.2.1, x.2.2.2.2.2, rfl⟩
theorem ex7 {α0 α1 α2 α3 α4 α5 α6 : Type} (x : α0 × α1 × α2 × α3 × α4 × α5 × α6) : ∃ y0 y1 y2 y3 y4 y5 y6, (y0, y1, y2, y3, y4, y5, y6) = x := ⟨x.1, x.2.1, x.2.2.1, x.2.2.2.1, x.2.2.2.2.1, x.2.2.2.2.2.1, x.2.2.2.2.2.2, rfl⟩
theorem ex8 {α0 α1 α2 α3 α4 α5 α6 α7 : Type} (x : α0 × α1 × α2 × α3 × α4 × α5 × α6 × α7) : ∃ y0 y1 y2 y3 y4 y5 y6 y7, (y0, y1, y2, y3, y4, y5, y6, y7) = x := ⟨x.1, x.2.1, x.2.2.1, x.2.2.2.1, x.2.2.2.2.1, x.2.2.2.2.2.1, x.2.2.2.2.2.2.1, x.2.2.2.2.2.2.2, rfl⟩
theorem ex9 {α0 α1 α2 α3 α4 α5 α6 α7 α8 : Type} (x : α0 × α1 × α2 × α3 × α4 × α5 × α6 × α7 × α8) : ∃ y0 y1 y2 y3 y4 y5 y6 y7 y8, (y0, y1, y2, y3, y4, y5, y6, y7, y8) = x := ⟨x.1, x.2.1, x.2.2.1, x.2.2.2.1, x.2.2.2.2.1, x.2.2.2.2.2.1, x.2.2.2.2.2.2.1, x.2.2.2.2.2.2.2.1, x.2.2.2.2.2.2.2.2, rfl⟩
theorem ex10 {α0 α1 α2 α3 α4 α5 α6 α7 α8 α9 : Type} (x : α0 × α1 × α2 × α3 × α4 × α5 × α6 × α7 × α8 × α9) : ∃ y0 y1 y2 y3 y4 y5 y6 y7 y8 y9, (y0, y1, y2, y3, y4, y5, y6, y7, y8, y9) = x := ⟨x.1, x.2.1, x.2.2.1, x.2.2.2.1, x.2.2.2.2.1, x.2.2.2.2.2.1, x.2.2.2.2.2.2.1, x.2.2.2.2.2.2.2.1, x.2.2.2.2.2.2.2.2.1, x.2.2.2.2.2.2.2.2.2, rfl⟩
theorem ex11 {α0 α1 α2 α3 α4 α5 α6 α7 α8 α9 α10 : Type} (x : α0 × α1 × α2 × α3 × α4 × α5 × α6 × α7 × α8 × α9 × α10) : ∃ y0 y1 y2 y3 y4 y5 y6 y7 y8 y9 y10, (y0, y1, y2, y3, y4, y5, y6, y7, y8, y9, y10) = x := ⟨x.1, x.2.1, x.2.2.1, x.2.2.2.1, x.2.2.2.2.1, x.2.2.2.2.2.1, x.2.2.2.2.2.2.1, x.2.2.2.2.2.2.2.1, x.2.2.2.2.2.2.2.2.1, x.2.2.2.2.2.2.2.2.2.1, x.2.2.2.2.2.2.2.2.2.2, rfl⟩
theorem ex12 {α0 α1 α2 α3 α4 α5 α6 α7 α8 α9 α10 α11 : Type} (x : α0 × α1 × α2 × α3 × α4 × α5 × α6 × α7 × α8 × α9 × α10 × α11) : ∃ y0 y1 y2 y3 y4 y5 y6 y7 y8 y9 y10 y11, (y0, y1, y2, y3, y4, y5, y6, y7, y8, y9, y10, y11) = x := ⟨x.1, x.2.1, x.2.2.1, x.2.2.2.1, x.2.2.2.2.1, x.2.2.2.2.2.1, x.2.2.2.2.2.2.1, x.2.2.2.2.2.2.2.1, x.2.2.2.2.2.2.2.2.1, x.2.2.2.2.2.2.2.2.2.1, x.2.2.2.2.2.2.2.2.2.2.1, x.2.2.2.2.2.2.2.2.2.2.2, rfl⟩
theorem ex13 {α0 α1 α2 α3 α4 α5 α6 α7 α8 α9 α10 α11 α12 : Type} (x : α0 × α1 × α2 × α3 × α4 × α5 × α6 × α7 × α8 × α9 × α10 × α11 × α12) : ∃ y0 y1 y2 y3 y4 y5 y6 y7 y8 y9 y10 y11 y12, (y0, y1, y2, y3, y4, y5, y6, y7, y8, y9, y10, y11, y12) = x := ⟨x.1, x.2.1, x.2.2.1, x.2.2.2.1, x.2.2.2.2.1, x.2.2.2.2.2.1, x.2.2.2.2.2.2.1, x.2.2.2.2.2.2.2.1, x.2.2.2.2.2.2.2.2.1, x.2.2.2.2.2.2.2.2.2.1, x.2.2.2.2.2.2.2.2.2.2.1, x.2.2.2.2.2.2.2.2.2.2.2.1, x.2.2.2.2.2.2.2.2.2.2.2.2, rfl⟩
theorem ex14 {α0 α1 α2 α3 α4 α5 α6 α7 α8 α9 α10 α11 α12 α13 : Type} (x : α0 × α1 × α2 × α3 × α4 × α5 × α6 × α7 × α8 × α9 × α10 × α11 × α12 × α13) : ∃ y0 y1 y2 y3 y4 y5 y6 y7 y8 y9 y10 y11 y12 y13, (y0, y1, y2, y3, y4, y5, y6, y7, y8, y9, y10, y11, y12, y13) = x := ⟨x.1, x.2.1, x.2.2.1, x.2.2.2.1, x.2.2.2.2.1, x.2.2.2.2.2.1, x.2.2.2.2.2.2.1, x.2.2.2.2.2.2.2.1, x.2.2.2.2.2.2.2.2.1, x.2.2.2.2.2.2.2.2.2.1, x.2.2.2.2.2.2.2.2.2.2.1, x.2.2.2.2.2.2.2.2.2.2.2.1, x.2.2.2.2.2.2.2.2.2.2.2.2.1, x.2.2.2.2.2.2.2.2.2.2.2.2.2, rfl⟩
theorem ex15 {α0 α1 α2 α3 α4 α5 α6 α7 α8 α9 α10 α11 α12 α13 α14 : Type} (x : α0 × α1 × α2 × α3 × α4 × α5 × α6 × α7 × α8 × α9 × α10 × α11 × α12 × α13 × α14) : ∃ y0 y1 y2 y3 y4 y5 y6 y7 y8 y9 y10 y11 y12 y13 y14, (y0, y1, y2, y3, y4, y5, y6, y7, y8, y9, y10, y11, y12, y13, y14) = x := ⟨x.1, x.2.1, x.2.2.1, x.2.2.2.1, x.2.2.2.2.1, x.2.2.2.2.2.1, x.2.2.2.2.2.2.1, x.2.2.2.2.2.2.2.1, x.2.2.2.2.2.2.2.2.1, x.2.2.2.2.2.2.2.2.2.1, x.2.2.2.2.2.2.2.2.2.2.1, x.2.2.2.2.2.2.2.2.2.2.2.1, x.2.2.2.2.2.2.2.2.2.2.2.2.1, x.2.2.2.2.2.2.2.2.2.2.2.2.2.1, x.2.2.2.2.2.2.2.2.2.2.2.2.2.2, rfl⟩
theorem ex16 {α0 α1 α2 α3 α4 α5 α6 α7 α8 α9 α10 α11 α12 α13 α14 α15 : Type} (x : α0 × α1 × α2 × α3 × α4 × α5 × α6 × α7 × α8 × α9 × α10 × α11 × α12 × α13 × α14 × α15) : ∃ y0 y1 y2 y3 y4 y5 y6 y7 y8 y9 y10 y11 y12 y13 y14 y15, (y0, y1, y2, y3, y4, y5, y6, y7, y8, y9, y10, y11, y12, y13, y14, y15) = x := ⟨x.1, x.2.1, x.2.2.1, x.2.2.2.1, x.2.2.2.2.1, x.2.2.2.2.2.1, x.2.2.2.2.2.2.1, x.2.2.2.2.2.2.2.1, x.2.2.2.2.2.2.2.2.1, x.2.2.2.2.2.2.2.2.2.1, x.2.2.2.2.2.2.2.2.2.2.1, x.2.2.2.2.2.2.2.2.2.2.2.1, x.2.2.2.2.2.2.2.2.2.2.2.2.1, x.2.2.2.2.2.2.2.2.2.2.2.2.2.1, x.2.2.2.2.2.2.2.2.2.2.2.2.2.2.1, x.2.2.2.2.2.2.2.2.2.2.2.2.2.2.2, rfl⟩
theorem ex17 {α0 α1 α2 α3 α4 α5 α6 α7 α8 α9 α10 α11 α12 α13 α14 α15 α16 : Type} (x : α0 × α1 × α2 × α3 × α4 × α5 × α6 × α7 × α8 × α9 × α10 × α11 × α12 × α13 × α14 × α15 × α16) : ∃ y0 y1 y2 y3 y4 y5 y6 y7 y8 y9 y10 y11 y12 y13 y14 y15 y16, (y0, y1, y2, y3, y4, y5, y6, y7, y8, y9, y10, y11, y12, y13, y14, y15, y16) = x := ⟨x.1, x.2.1, x.2.2.1, x.2.2.2.1, x.2.2.2.2.1, x.2.2.2.2.2.1, x.2.2.2.2.2.2.1, x.2.2.2.2.2.2.2.1, x.2.2.2.2.2.2.2.2.1, x.2.2.2.2.2.2.2.2.2.1, x.2.2.2.2.2.2.2.2.2.2.1, x.2.2.2.2.2.2.2.2.2.2.2.1, x.2.2.2.2.2.2.2.2.2.2.2.2.1, x.2.2.2.2.2.2.2.2.2.2.2.2.2.1, x.2.2.2.2.2.2.2.2.2.2.2.2.2.2.1, x.2.2.2.2.2.2.2.2.2.2.2.2.2.2.2.1, x.2.2.2.2.2.2.2.2.2.2.2.2.2.2.2.2, rfl⟩
theorem ex18 {α0 α1 α2 α3 α4 α5 α6 α7 α8 α9 α10 α11 α12 α13 α14 α15 α16 α17 : Type} (x : α0 × α1 × α2 × α3 × α4 × α5 × α6 × α7 × α8 × α9 × α10 × α11 × α12 × α13 × α14 × α15 × α16 × α17) : ∃ y0 y1 y2 y3 y4 y5 y6 y7 y8 y9 y10 y11 y12 y13 y14 y15 y16 y17, (y0, y1, y2, y3, y4, y5, y6, y7, y8, y9, y10, y11, y12, y13, y14, y15, y16, y17) = x := ⟨x.1, x.2.1, x.2.2.1, x.2.2.2.1, x.2.2.2.2.1, x.2.2.2.2.2.1, x.2.2.2.2.2.2.1, x.2.2.2.2.2.2.2.1, x.2.2.2.2.2.2.2.2.1, x.2.2.2.2.2.2.2.2.2.1, x.2.2.2.2.2.2.2.2.2.2.1, x.2.2.2.2.2.2.2.2.2.2.2.1, x.2.2.2.2.2.2.2.2.2.2.2.2.1, x.2.2.2.2.2.2.2.2.2.2.2.2.2.1, x.2.2.2.2.2.2.2.2.2.2.2.2.2.2.1, x.2.2.2.2.2.2.2.2.2.2.2.2.2.2.2.1, x.2.2.2.2.2.2.2.2.2.2.2.2.2.2.2.2.1, x.2.2.2.2.2.2.2.2.2.2.2.2.2.2.2.2.2, rfl⟩
theorem ex19 {α0 α1 α2 α3 α4 α5 α6 α7 α8 α9 α10 α11 α12 α13 α14 α15 α16 α17 α18 : Type} (x : α0 × α1 × α2 × α3 × α4 × α5 × α6 × α7 × α8 × α9 × α10 × α11 × α12 × α13 × α14 × α15 × α16 × α17 × α18) : ∃ y0 y1 y2 y3 y4 y5 y6 y7 y8 y9 y10 y11 y12 y13 y14 y15 y16 y17 y18, (y0, y1, y2, y3, y4, y5, y6, y7, y8, y9, y10, y11, y12, y13, y14, y15, y16, y17, y18) = x := ⟨x.1, x.2.1, x.2.2.1, x.2.2.2.1, x.2.2.2.2.1, x.2.2.2.2.2.1, x.2.2.2.2.2.2.1, x.2.2.2.2.2.2.2.1, x.2.2.2.2.2.2.2.2.1, x.2.2.2.2.2.2.2.2.2.1, x.2.2.2.2.2.2.2.2.2.2.1, x.2.2.2.2.2.2.2.2.2.2.2.1, x.2.2.2.2.2.2.2.2.2.2.2.2.1, x.2.2.2.2.2.2.2.2.2.2.2.2.2.1, x.2.2.2.2.2.2.2.2.2.2.2.2.2.2.1, x.2.2.2.2.2.2.2.2.2.2.2.2.2.2.2.1, x.2.2.2.2.2.2.2.2.2.2.2.2.2.2.2.2.1, x.2.2.2.2.2.2.2.2.2.2.2.2.2.2.2.2.2.1, x.2.2.2.2.2.2.2.2.2.2.2.2.2.2.2.2.2.2, rfl⟩
theorem ex20 {α0 α1 α2 α3 α4 α5 α6 α7 α8 α9 α10 α11 α12 α13 α14 α15 α16 α17 α18 α19 : Type} (x : α0 × α1 × α2 × α3 × α4 × α5 × α6 × α7 × α8 × α9 × α10 × α11 × α12 × α13 × α14 × α15 × α16 × α17 × α18 × α19) : ∃ y0 y1 y2 y3 y4 y5 y6 y7 y8 y9 y10 y11 y12 y13 y14 y15 y16 y17 y18 y19, (y0, y1, y2, y3, y4, y5, y6, y7, y8, y9, y10, y11, y12, y13, y14, y15, y16, y17, y18, y19) = x := ⟨x.1, x.2.1, x.2.2.1, x.2.2.2.1, x.2.2.2.2.1, x.2.2.2.2.2.1, x.2.2.2.2.2.2.1, x.2.2.2.2.2.2.2.1, x.2.2.2.2.2.2.2.2.1, x.2.2.2.2.2.2.2.2.2.1, x.2.2.2.2.2.2.2.2.2.2.1, x.2.2.2.2.2.2.2.2.2.2.2.1, x.2.2.2.2.2.2.2.2.2.2.2.2.1, x.2.2.2.2.2.2.2.2.2.2.2.2.2.1, x.2.2.2.2.2.2.2.2.2.2.2.2.2.2.1, x.2.2.2.2.2.2.2.2.2.2.2.2.2.2.2.1, x.2.2.2.2.2.2.2.2.2.2.2.2.2.2.2.2.1, x.2.2.2.2.2.2.2.2.2.2.2.2.2.2.2.2.2.1, x.2.2.2.2.2.2.2.2.2.2.2.2.2.2.2.2.2.2.1, x.2.2.2.2.2.2.2.2.2.2.2.2.2.2.2.2.2.2.2, rfl⟩
theorem mch_eq {σ ρ : Type} {o a : σ ⊕ ρ} {f : σ → ρ} (h : o = a) : mch a f = mch o f := by subst h; rfl
theorem mch_l {σ ρ : Type} {o : σ ⊕ ρ} {s : σ} {f : σ → ρ} (h : o = .inl s) : mch o f = f s := by subst h; rfl
theorem vpg {i : Int32} {n : Nat} (hn : n < 2 ^ 31) (h1 : ¬ i < 0) (h2 : ¬ nI n ≤ i) : vp_in i n := by
  rcases pk_ix i hn with h | h | ⟨j, hj, rfl⟩
  · exact absurd h h1
  · exact absurd h h2
  · exact vp_in_nI hj hn
abbrev TY (cI cZ : ClassId) : List (ClassId × FieldType) := [(cI, .int), (cZ, .boolean)]
/-- the links to a nest mate's private members -/
def NW (U : State) : Prop := va_Nw (.methodLinkNest RX7 11 yX6_init RX7) U ∧ va_Nw (.methodLinkNest RX7 44 yX2_init RX7) U ∧ va_Nw (.methodLinkNest RX7 51 yX0_init RX7) U ∧ va_Nw (.methodLinkNest RX3 101 yX7_has RX7) U ∧ va_Nw (.methodLinkNest RX1 57 yX7_cellAbove RX7) U ∧ va_Nw (.methodLinkNest RX1 79 yX7_has RX7) U ∧ va_Nw (.methodLinkNest RX5 62 yX7_isHanging RX7) U ∧ va_Nw (.methodLinkNest RX5 44 yX7_has RX7) U ∧ va_Nw (.methodLinkNest RX2 47 yX7_has RX7) U
theorem NW.same {u U : State} (h : u.vm = U.vm) (q : NW u) : NW U := ⟨va_Nw.same rfl h q.1, va_Nw.same rfl h q.2.1, va_Nw.same rfl h q.2.2.1, va_Nw.same rfl h q.2.2.2.1, va_Nw.same rfl h q.2.2.2.2.1, va_Nw.same rfl h q.2.2.2.2.2.1, va_Nw.same rfl h q.2.2.2.2.2.2.1, va_Nw.same rfl h q.2.2.2.2.2.2.2.1, va_Nw.same rfl h q.2.2.2.2.2.2.2.2⟩
theorem NW.warm {u U : State} (h : u.WarmedH U.vm) (q : NW u) : NW U := ⟨va_Nw.warmM h q.1, va_Nw.warmM h q.2.1, va_Nw.warmM h q.2.2.1, va_Nw.warmM h q.2.2.2.1, va_Nw.warmM h q.2.2.2.2.1, va_Nw.warmM h q.2.2.2.2.2.1, va_Nw.warmM h q.2.2.2.2.2.2.1, va_Nw.warmM h q.2.2.2.2.2.2.2.1, va_Nw.warmM h q.2.2.2.2.2.2.2.2⟩
/-- a method's world at its start -/
def PreW (D : va_G) (cI cZ : ClassId) (w : va_W) (sz : Nat) : State → Prop := fun U => U.heap.size = sz ∧ va_P D vwCl w U.heap ∧ va_K D vwCl (TY cI cZ) U ∧ NW U ∧ va_D (fun _ => True) w
theorem PreW.blind {D : va_G} {cI cZ : ClassId} {w : va_W} {sz : Nat} {av : List Value} : FrameBlind (va_Pc av (PreW D cI cZ w sz)) := fun a U g mk q => by
  obtain ⟨q0, q1, q2, q3, q4, q5⟩ := q
  exact ⟨q0, q1, q2, va_K.moved (u := U) (U := U.calling g mk a) (Vm.Alike.refl U.vm) q3, NW.same rfl q4, q5⟩
abbrev QI (D : va_G) {ρ : Type} (o : ρ) (v : ρ → Int32) (w' : ρ → va_W) (A : Nat → Prop) := va_Qi (S := Unit) (fun r _ => r = v o) (fun _ t => va_P D vwCl (w' o) t.heap) A
abbrev QL (D : va_G) {ρ : Type} (o : ρ) (v : ρ → Int64) (w' : ρ → va_W) (A : Nat → Prop) := va_Ql (S := Unit) (fun r _ => r = v o) (fun _ t => va_P D vwCl (w' o) t.heap) A
abbrev QV (D : va_G) {ρ : Type} (o : ρ) (w' : ρ → va_W) (A : Nat → Prop) := va_Qv (S := Unit) (fun _ => True) (fun _ t => va_P D vwCl (w' o) t.heap) A
/-- the contract: from the world w the answer is 'v o', the world behind is 'w' o' -/
def KI (l : Launch) (D : va_G) (cI cZ : ClassId) (y : MethodName) (wsy : List Cond) (rm : Room) (av : List Value) (w : va_W) {ρ : Type} (o : ρ) (v : ρ → Int32) (w' : ρ → va_W) : Prop := ∀ sz : Nat, Met l y wsy rm (va_Pc av (PreW D cI cZ w sz)) (QI D o v w' (va_A w sz)) 0 0 (va_A w sz)
def KL (l : Launch) (D : va_G) (cI cZ : ClassId) (y : MethodName) (wsy : List Cond) (rm : Room) (av : List Value) (w : va_W) {ρ : Type} (o : ρ) (v : ρ → Int64) (w' : ρ → va_W) : Prop := ∀ sz : Nat, Met l y wsy rm (va_Pc av (PreW D cI cZ w sz)) (QL D o v w' (va_A w sz)) 0 0 (va_A w sz)
def KV (l : Launch) (D : va_G) (cI cZ : ClassId) (y : MethodName) (wsy : List Cond) (rm : Room) (av : List Value) (w : va_W) {ρ : Type} (o : ρ) (w' : ρ → va_W) : Prop := ∀ sz : Nat, Met l y wsy rm (va_Pc av (PreW D cI cZ w sz)) (QV D o w' (va_A w sz)) 0 0 (va_A w sz)
/-- what a method's body starts from -/
def Body0 (p : Program) (s : State) (m : MethodId) (meth : Method) (c : Code) (D : va_G) (cI cZ : ClassId) (y : MethodName) (wsy : List Cond) (av : List Value) (w : va_W) (ar : Array Value) (cc : ByteArray) (maxL : Nat) (ret : Option FieldType) (A : Nat → Prop) (ls : Array Slot) : Prop :=
  p.tables.exec = Jvm.exec ∧ c.code = cc ∧ meth.sig.returnType = ret ∧ c.maxLocals = maxL ∧ (∀ q ∈ wsy, q.before ar s = true) ∧ s.vm.findClass y.cls = some m.cls ∧ meth.locks = false ∧ va_K D vwCl (TY cI cZ) s ∧ NW s ∧ va_P D vwCl w s.heap ∧ va_D A w ∧ (∀ q : Nat, s.heap.size ≤ q → A q) ∧ va_S A s.heap s.heap [] ∧ lv_has ls maxL (lv_args 0 av)
section Entry
variable {l : Launch} {D : va_G} {cI cZ : ClassId} {y : MethodName} {wsy wst : List Cond} {rm : Room} {av : List Value} {w : va_W} {ρ : Type} {o : ρ} {w' : ρ → va_W}
theorem KI.of {v : ρ → Int32} (cc : ByteArray) (maxL : Nat) (ret : Option FieldType) (hy : plainName y.cls = true) (hw : wsy = Cond.code y cc maxL ret :: wst) (hav : (lg_sl av).length ≤ maxL)
    (body : ∀ p e s m below meth c A ls ar Q, Q = MQ below (QI D o v w' A) ar s 0 0 A → Body0 p s m meth c D cI cZ y wsy av w ar cc maxL ret A ls → W p l e rm s m ar below meth c s.heap [] 0 0 Q (F0 m 0 ls [])) : KI l D cI cZ y wsy rm av w o v w' := by
  intro sz
  refine Met.ofW (cc := cc) (maxL := maxL) (ret := ret) hy hw ?_
  intro p e s m args below meth c s₁ B hml hv
  obtain ⟨rfl, hsz, hP, hK, hN, hD0⟩ := hv
  subst hsz
  rw [lg_entry_eq]
  exact body p e s m below meth c _ _ _ _ rfl ⟨B.exec, B.bytes, B.returns, hml, atoms_spec (ws := wsy) B.pre, findClass_of_methodNamed B.named, B.notSynchronized, hK, hN, hP, hD0.self, fun q h => Or.inr h, va_S.rf, lv_entry av hav⟩
theorem KL.of {v : ρ → Int64} (cc : ByteArray) (maxL : Nat) (ret : Option FieldType) (hy : plainName y.cls = true) (hw : wsy = Cond.code y cc maxL ret :: wst) (hav : (lg_sl av).length ≤ maxL)
    (body : ∀ p e s m below meth c A ls ar Q, Q = MQ below (QL D o v w' A) ar s 0 0 A → Body0 p s m meth c D cI cZ y wsy av w ar cc maxL ret A ls → W p l e rm s m ar below meth c s.heap [] 0 0 Q (F0 m 0 ls [])) : KL l D cI cZ y wsy rm av w o v w' := by
  intro sz
  refine Met.ofW (cc := cc) (maxL := maxL) (ret := ret) hy hw ?_
  intro p e s m args below meth c s₁ B hml hv
  obtain ⟨rfl, hsz, hP, hK, hN, hD0⟩ := hv
  subst hsz
  rw [lg_entry_eq]
  exact body p e s m below meth c _ _ _ _ rfl ⟨B.exec, B.bytes, B.returns, hml, atoms_spec (ws := wsy) B.pre, findClass_of_methodNamed B.named, B.notSynchronized, hK, hN, hP, hD0.self, fun q h => Or.inr h, va_S.rf, lv_entry av hav⟩
theorem KV.of (cc : ByteArray) (maxL : Nat) (ret : Option FieldType) (hy : plainName y.cls = true) (hw : wsy = Cond.code y cc maxL ret :: wst) (hav : (lg_sl av).length ≤ maxL)
    (body : ∀ p e s m below meth c A ls ar Q, Q = MQ below (QV D o w' A) ar s 0 0 A → Body0 p s m meth c D cI cZ y wsy av w ar cc maxL ret A ls → W p l e rm s m ar below meth c s.heap [] 0 0 Q (F0 m 0 ls [])) : KV l D cI cZ y wsy rm av w o w' := by
  intro sz
  refine Met.ofW (cc := cc) (maxL := maxL) (ret := ret) hy hw ?_
  intro p e s m args below meth c s₁ B hml hv
  obtain ⟨rfl, hsz, hP, hK, hN, hD0⟩ := hv
  subst hsz
  rw [lg_entry_eq]
  exact body p e s m below meth c _ _ _ _ rfl ⟨B.exec, B.bytes, B.returns, hml, atoms_spec (ws := wsy) B.pre, findClass_of_methodNamed B.named, B.notSynchronized, hK, hN, hP, hD0.self, fun q h => Or.inr h, va_S.rf, lv_entry av hav⟩
end Entry
section Ends
variable {p : Program} {l : Launch} {e : Env} {R : Room} {s : State} {m : MethodId} {args : Array Value} {below : List Frame} {meth : Method} {c : Code} {H : Heap} {locs : List Loc}
variable {D : va_G} {ρ : Type} {o : ρ} {w' : ρ → va_W} {A : Nat → Prop} {cc : ByteArray} {pc : Nat} {ls : Array Slot}
theorem retI {v : ρ → Int32} {x : Int32} (o' : ρ) (hx : p.tables.exec = Jvm.exec) (hb : c.code = cc) (hr : meth.sig.returnType = some .int) (hlk : meth.locks = false) (e9 : o = o') (hP : va_P D vwCl (w' o') H) (hv : x = v o') (hS : va_S A s.heap H locs) (hdg : decode cc pc = .ok (.ireturn, 1)) :
    W p l e R s m args below meth c H locs 0 0 (MQ below (QI D o v w' A) args s 0 0 A) (F0 m pc ls [.int x]) := by
  subst e9; subst hv
  exact W.iret hx hb hr (fun t ht hW => ⟨⟨v o, (), rfl, rfl, (show va_P D vwCl (w' o) t.heap by rw [ht]; exact hP)⟩, hS.F ht⟩) hS.2.2 hdg hlk
theorem retZ {v : ρ → Bool} {x : Int32} (o' : ρ) (hx : p.tables.exec = Jvm.exec) (hb : c.code = cc) (hr : meth.sig.returnType = some .boolean) (hlk : meth.locks = false) (e9 : o = o') (hP : va_P D vwCl (w' o') H) (hv : x = bI (v o')) (hS : va_S A s.heap H locs) (hdg : decode cc pc = .ok (.ireturn, 1)) :
    W p l e R s m args below meth c H locs 0 0 (MQ below (QI D o (fun z => bI (v z)) w' A) args s 0 0 A) (F0 m pc ls [.int x]) := by
  subst e9; subst hv
  exact W.zret hx hb hr (bI_narrow _) (fun t ht hW => ⟨⟨bI (v o), (), rfl, rfl, (show va_P D vwCl (w' o) t.heap by rw [ht]; exact hP)⟩, hS.F ht⟩) hS.2.2 hdg hlk
theorem retL {v : ρ → Int64} {x : Int64} (o' : ρ) (hx : p.tables.exec = Jvm.exec) (hb : c.code = cc) (hr : meth.sig.returnType = some .long) (hlk : meth.locks = false) (e9 : o = o') (hP : va_P D vwCl (w' o') H) (hv : x = v o') (hS : va_S A s.heap H locs) (hdg : decode cc pc = .ok (.lreturn, 1)) :
    W p l e R s m args below meth c H locs 0 0 (MQ below (QL D o v w' A) args s 0 0 A) (F0 m pc ls [.long x]) := by
  subst e9; subst hv
  exact W.lret hx hb hr (fun t ht hW => ⟨⟨v o, (), rfl, rfl, (show va_P D vwCl (w' o) t.heap by rw [ht]; exact hP)⟩, hS.F ht⟩) hS.2.2 hdg hlk
theorem retV (o' : ρ) (hx : p.tables.exec = Jvm.exec) (hb : c.code = cc) (hr : meth.sig.returnType = none) (hlk : meth.locks = false) (e9 : o = o') (hP : va_P D vwCl (w' o') H) (hS : va_S A s.heap H locs) (hdg : decode cc pc = .ok (.return_, 1)) :
    W p l e R s m args below meth c H locs 0 0 (MQ below (QV D o w' A) args s 0 0 A) (F0 m pc ls []) := by
  subst e9
  exact W.vret hx hb hr (fun t ht hW => ⟨⟨(), rfl, trivial, (show va_P D vwCl (w' o) t.heap by rw [ht]; exact hP)⟩, hS.F ht⟩) hS.2.2 hdg hlk
end Ends
/-- the world behind a call: the callee's cells at their old places, the others as they were -/
def mrg (wn : va_W) : List (Option Nat) → va_W → va_W
  | none :: cs, w :: ws => w :: mrg wn cs ws
  | some j :: cs, w :: ws => (wn[j]?).getD w :: mrg wn cs ws
  | [], _ => []
  | _ :: _, [] => []
def ckc (isC : List Nat) (M : Nat) : List (Option Nat) → Nat → Bool
  | [], _ => true
  | none :: cs, k => !isC.contains k && ckc isC M cs (k + 1)
  | some j :: cs, k => decide (j < M) && ckc isC M cs (k + 1)
theorem mrg_mem {wn : va_W} {isC : List Nat} {M : Nat} (hM : wn.length = M) : ∀ (cs : List (Option Nat)) (ws : va_W) (b k : Nat) (q : Nat × va_E), ckc isC M cs b = true → (mrg wn cs ws)[k]? = some q → (∃ j : Nat, wn[j]? = some q) ∨ (ws[k]? = some q ∧ b + k ∉ isC)
  | [], ws, b, k, q, _, h => by simp [mrg] at h
  | none :: cs, [], b, k, q, _, h => by simp [mrg] at h
  | some j :: cs, [], b, k, q, _, h => by simp [mrg] at h
  | none :: cs, w :: ws, b, 0, q, hc, h => by
    simp only [ckc, Bool.and_eq_true, Bool.not_eq_true'] at hc
    refine Or.inr ⟨h, fun hm => ?_⟩
    have h1 : isC.contains b = true := List.contains_iff_mem.mpr hm
    rw [hc.1] at h1; cases h1
  | some j :: cs, w :: ws, b, 0, q, hc, h => by
    simp only [ckc, Bool.and_eq_true, decide_eq_true_eq] at hc
    have h1 : (wn[j]?).getD w = q := Option.some.inj h
    have h2 : j < wn.length := by rw [hM]; exact hc.1
    rw [List.getElem?_eq_getElem h2] at h1
    exact Or.inl ⟨j, by rw [List.getElem?_eq_getElem h2]; exact congrArg some h1⟩
  | none :: cs, w :: ws, b, k + 1, q, hc, h => by
    simp only [ckc, Bool.and_eq_true] at hc
    rcases mrg_mem hM cs ws (b + 1) k q hc.2 h with h1 | ⟨h1, h2⟩
    · exact Or.inl h1
    · exact Or.inr ⟨h1, by rw [show b + (k + 1) = b + 1 + k by omega]; exact h2⟩
  | some j :: cs, w :: ws, b, k + 1, q, hc, h => by
    simp only [ckc, Bool.and_eq_true] at hc
    rcases mrg_mem hM cs ws (b + 1) k q hc.2 h with h1 | ⟨h1, h2⟩
    · exact Or.inl h1
    · exact Or.inr ⟨h1, by rw [show b + (k + 1) = b + 1 + k by omega]; exact h2⟩
theorem rp_P {D : va_G} {cl : List vw_C} {ws wc wn w1 : va_W} {H H1 : Heap} {A0 : Nat → Prop} (hP : va_P D cl ws H) (hD : va_D A0 ws) (isC : List Nat) (cs : List (Option Nat)) (M : Nat) (hC : isC.map (fun i => ws[i]?) = wc.map some) (hk : ∀ q : Nat, q < H.size → ¬ va_A wc H.size q → H1[q]? = H[q]?) (hP1 : va_P D cl wn H1) (h1 : mrg wn cs ws = w1) (hM : wn.length = M) (hcode : ckc isC M cs 0 = true) : va_P D cl w1 H1 := by
  intro k q hq
  rw [← h1] at hq
  rcases mrg_mem hM cs ws 0 k q hcode hq with ⟨j, hj⟩ | ⟨hqs, hkC⟩
  · exact hP1 j q hj
  · rw [Nat.zero_add] at hkC
    refine (hP k q hqs).kept (hk q.1 (hP k q hqs).lt (fun h => ?_))
    rcases h with ⟨k2, e, h⟩ | h
    · have h3 : (isC.map (fun i => ws[i]?))[k2]? = some (some (q.1, e)) := by rw [hC, List.getElem?_map, h]; rfl
      rw [List.getElem?_map] at h3
      cases hi : isC[k2]? with
      | none => rw [hi] at h3; cases h3
      | some i =>
        rw [hi] at h3
        have h4 := hD.1 k i q (q.1, e) hqs (Option.some.inj h3) rfl
        subst h4
        exact hkC (List.mem_of_getElem? hi)
    · exact absurd (hP k q hqs).lt (Nat.not_lt.mpr h)
theorem rs_P {D : va_G} {cl : List vw_C} {ws wc : va_W} {H H1 : Heap} {A0 : Nat → Prop} (hP : va_P D cl ws H) (hD : va_D A0 ws) (isC : List Nat) (hC : isC.map (fun i => ws[i]?) = wc.map some) (hk : ∀ q : Nat, q < H.size → ¬ va_A wc H.size q → H1[q]? = H[q]?) (hP1 : va_P D cl wc H1) : va_P D cl ws H1 := by
  intro k q hq
  by_cases hw : va_A wc H.size q.1
  · rcases hw with ⟨k2, e, h⟩ | h
    · have h3 : (isC.map (fun i => ws[i]?))[k2]? = some (some (q.1, e)) := by rw [hC, List.getElem?_map, h]; rfl
      rw [List.getElem?_map] at h3
      cases hi : isC[k2]? with
      | none => rw [hi] at h3; cases h3
      | some i =>
        rw [hi] at h3
        have h5 := Option.some.inj h3
        have h4 := hD.1 k i q (q.1, e) hq h5 rfl
        subst h4
        have h5 : ws[k]? = some (q.1, e) := h5
        rw [hq] at h5
        have h6 : q = (q.1, e) := Option.some.inj h5
        rw [h6]
        exact hP1 k2 _ h
    · exact absurd (hP k q hq).lt (Nat.not_lt.mpr h)
  · exact (hP k q hq).kept (hk q.1 (hP k q hq).lt hw)
theorem va_Psub {D : va_G} {cl : List vw_C} {ws wc : va_W} {H : Heap} (hP : va_P D cl ws H) (isC : List Nat) (hC : isC.map (fun i => ws[i]?) = wc.map some) : va_P D cl wc H := by
  intro k q hk
  have h1 : (isC.map (fun i => ws[i]?))[k]? = some (some q) := by rw [hC, List.getElem?_map, hk]; rfl
  rw [List.getElem?_map] at h1
  cases hi : isC[k]? with
  | none => rw [hi] at h1; cases h1
  | some i => rw [hi] at h1; exact hP i q (Option.some.inj h1)
theorem va_Dsame {A : Nat → Prop} {ws ws' : va_W} (h : va_D A ws) (he : ws.map (fun q => q.1) = ws'.map (fun q => q.1)) : va_D A ws' := by
  have key : ∀ (k : Nat) (q : Nat × va_E), ws'[k]? = some q → ∃ q0, ws[k]? = some q0 ∧ q0.1 = q.1 := by
    intro k q hk
    have h1 : (ws.map (fun q => q.1))[k]? = some q.1 := by rw [he, List.getElem?_map, hk]; rfl
    rw [List.getElem?_map] at h1
    cases hi : ws[k]? with
    | none => rw [hi] at h1; cases h1
    | some q0 => rw [hi] at h1; exact ⟨q0, rfl, Option.some.inj h1⟩
  refine ⟨fun i j x y hi hj hxy => ?_, fun k q hk => ?_⟩
  · obtain ⟨x0, h1, h2⟩ := key i x hi
    obtain ⟨y0, h3, h4⟩ := key j y hj
    exact h.1 i j x0 y0 h1 h3 (h2.trans (hxy.trans h4.symm))
  · obtain ⟨q0, h1, h2⟩ := key k q hk
    rw [← h2]
    exact h.2 k q0 h1
section Calls
variable {p : Program} {l : Launch} {e : Env} {R : Room} {s : State} {m : MethodId} {args : Array Value} {below : List Frame} {meth : Method} {c : Code} {H : Heap} {locs : List Loc} {cells slots : Nat} {Q : State → Prop}
variable {D : va_G} {cI cZ : ClassId} {ρ : Type} {o : ρ} {w' : ρ → va_W} {A : Nat → Prop} {cc : ByteArray} {pc : Nat} {ls : Array Slot} {wsy : List Cond} {rm : Room} {y : MethodName} {bytes : ByteArray} {maxL nL n index : Nat} {ret : Option FieldType} {own C : String} {b : Addr} {As rest st0 : List Value} {ws wc : va_W} {H0 : Heap} {Ts : List Cond}
theorem contI {v : ρ → Int32} {a : Array Value} (hr : va_Run p l e R s m args below meth c H locs cells slots 0 0 (F0 m pc ls st0) rest (QI D o v w' (va_A wc H.size) a) (va_A wc H.size)) (hP : va_P D vwCl ws H) (hD : va_D A ws) (hS : va_S A H0 H locs) (hA : ∀ q, H0.size ≤ q → A q) (isC : List Nat) (cs : List (Option Nat)) (N : Nat) (w1 : va_W) (hC : isC.map (fun i => ws[i]?) = wc.map some) (h1 : mrg (w' o) cs ws = w1) (hln : (w' o).length = N) (hcov : ckc isC N cs 0 = true)
    (kk : ∀ (H1 : Heap) (locs1 : List Loc), va_P D vwCl w1 H1 → va_S A H0 H1 locs1 → W p l e R s m args below meth c H1 locs1 cells slots Q (F0 m (pc + 3) ls (.int (v o) :: rest))) : W p l e R s m args below meth c H locs cells slots Q (F0 m pc ls st0) := by
  have hFc := va_free (wc := wc) hD hS hA isC hC
  refine va_calli hr hS (fun q _ h => hFc q h) hFc (fun r u t H1 locs1 ht hvm hw hB hz1 hk1 hS1 => ?_)
  subst hw
  rw [ht] at hB
  exact kk H1 locs1 (rp_P hP hD isC cs N hC hk1 hB h1 hln hcov) hS1
theorem contIs {v : ρ → Int32} {a : Array Value} (hr : va_Run p l e R s m args below meth c H locs cells slots 0 0 (F0 m pc ls st0) rest (QI D o v w' (va_A wc H.size) a) (va_A wc H.size)) (hP : va_P D vwCl ws H) (hD : va_D A ws) (hS : va_S A H0 H locs) (hA : ∀ q, H0.size ≤ q → A q) (isC : List Nat) (hC : isC.map (fun i => ws[i]?) = wc.map some) (hs : w' o = wc)
    (kk : ∀ (H1 : Heap) (locs1 : List Loc), va_P D vwCl ws H1 → va_S A H0 H1 locs1 → W p l e R s m args below meth c H1 locs1 cells slots Q (F0 m (pc + 3) ls (.int (v o) :: rest))) : W p l e R s m args below meth c H locs cells slots Q (F0 m pc ls st0) := by
  have hFc := va_free (wc := wc) hD hS hA isC hC
  refine va_calli hr hS (fun q _ h => hFc q h) hFc (fun r u t H1 locs1 ht hvm hw hB hz1 hk1 hS1 => ?_)
  subst hw
  rw [ht] at hB
  exact kk H1 locs1 (rs_P hP hD isC hC hk1 (by rw [← hs]; exact hB)) hS1
theorem contL {v : ρ → Int64} {a : Array Value} (hr : va_Run p l e R s m args below meth c H locs cells slots 0 0 (F0 m pc ls st0) rest (QL D o v w' (va_A wc H.size) a) (va_A wc H.size)) (hP : va_P D vwCl ws H) (hD : va_D A ws) (hS : va_S A H0 H locs) (hA : ∀ q, H0.size ≤ q → A q) (isC : List Nat) (cs : List (Option Nat)) (N : Nat) (w1 : va_W) (hC : isC.map (fun i => ws[i]?) = wc.map some) (h1 : mrg (w' o) cs ws = w1) (hln : (w' o).length = N) (hcov : ckc isC N cs 0 = true)
    (kk : ∀ (H1 : Heap) (locs1 : List Loc), va_P D vwCl w1 H1 → va_S A H0 H1 locs1 → W p l e R s m args below meth c H1 locs1 cells slots Q (F0 m (pc + 3) ls (.long (v o) :: rest))) : W p l e R s m args below meth c H locs cells slots Q (F0 m pc ls st0) := by
  have hFc := va_free (wc := wc) hD hS hA isC hC
  refine va_calll hr hS (fun q _ h => hFc q h) hFc (fun r u t H1 locs1 ht hvm hw hB hz1 hk1 hS1 => ?_)
  subst hw
  rw [ht] at hB
  exact kk H1 locs1 (rp_P hP hD isC cs N hC hk1 hB h1 hln hcov) hS1
theorem contLs {v : ρ → Int64} {a : Array Value} (hr : va_Run p l e R s m args below meth c H locs cells slots 0 0 (F0 m pc ls st0) rest (QL D o v w' (va_A wc H.size) a) (va_A wc H.size)) (hP : va_P D vwCl ws H) (hD : va_D A ws) (hS : va_S A H0 H locs) (hA : ∀ q, H0.size ≤ q → A q) (isC : List Nat) (hC : isC.map (fun i => ws[i]?) = wc.map some) (hs : w' o = wc)
    (kk : ∀ (H1 : Heap) (locs1 : List Loc), va_P D vwCl ws H1 → va_S A H0 H1 locs1 → W p l e R s m args below meth c H1 locs1 cells slots Q (F0 m (pc + 3) ls (.long (v o) :: rest))) : W p l e R s m args below meth c H locs cells slots Q (F0 m pc ls st0) := by
  have hFc := va_free (wc := wc) hD hS hA isC hC
  refine va_calll hr hS (fun q _ h => hFc q h) hFc (fun r u t H1 locs1 ht hvm hw hB hz1 hk1 hS1 => ?_)
  subst hw
  rw [ht] at hB
  exact kk H1 locs1 (rs_P hP hD isC hC hk1 (by rw [← hs]; exact hB)) hS1
theorem contV {a : Array Value} (hr : va_Run p l e R s m args below meth c H locs cells slots 0 0 (F0 m pc ls st0) rest (QV D o w' (va_A wc H.size) a) (va_A wc H.size)) (hP : va_P D vwCl ws H) (hD : va_D A ws) (hS : va_S A H0 H locs) (hA : ∀ q, H0.size ≤ q → A q) (isC : List Nat) (cs : List (Option Nat)) (N : Nat) (w1 : va_W) (hC : isC.map (fun i => ws[i]?) = wc.map some) (h1 : mrg (w' o) cs ws = w1) (hln : (w' o).length = N) (hcov : ckc isC N cs 0 = true)
    (kk : ∀ (H1 : Heap) (locs1 : List Loc), va_P D vwCl w1 H1 → va_S A H0 H1 locs1 → W p l e R s m args below meth c H1 locs1 cells slots Q (F0 m (pc + 3) ls rest)) : W p l e R s m args below meth c H locs cells slots Q (F0 m pc ls st0) := by
  have hFc := va_free (wc := wc) hD hS hA isC hC
  refine va_callv hr hS (fun q _ h => hFc q h) hFc (fun u t H1 locs1 ht hvm hw hB hz1 hk1 hS1 => ?_)
  rw [ht] at hB
  exact kk H1 locs1 (rp_P hP hD isC cs N hC hk1 hB h1 hln hcov) hS1
theorem contVs {a : Array Value} (hr : va_Run p l e R s m args below meth c H locs cells slots 0 0 (F0 m pc ls st0) rest (QV D o w' (va_A wc H.size) a) (va_A wc H.size)) (hP : va_P D vwCl ws H) (hD : va_D A ws) (hS : va_S A H0 H locs) (hA : ∀ q, H0.size ≤ q → A q) (isC : List Nat) (hC : isC.map (fun i => ws[i]?) = wc.map some) (hs : w' o = wc)
    (kk : ∀ (H1 : Heap) (locs1 : List Loc), va_P D vwCl ws H1 → va_S A H0 H1 locs1 → W p l e R s m args below meth c H1 locs1 cells slots Q (F0 m (pc + 3) ls rest)) : W p l e R s m args below meth c H locs cells slots Q (F0 m pc ls st0) := by
  have hFc := va_free (wc := wc) hD hS hA isC hC
  refine va_callv hr hS (fun q _ h => hFc q h) hFc (fun u t H1 locs1 ht hvm hw hB hz1 hk1 hS1 => ?_)
  rw [ht] at hB
  exact kk H1 locs1 (rs_P hP hD isC hC hk1 (by rw [← hs]; exact hB)) hS1
theorem preS {av : List Value} (hK : va_K D vwCl (TY cI cZ) s) (hN : NW s) (hP : va_P D vwCl ws H) (hD : va_D A ws) (isC : List Nat) (hC : isC.map (fun i => ws[i]?) = wc.map some) (hnd : va_nd isC = true) : PreS s H (va_Pc av (PreW D cI cZ wc H.size)) av :=
  ⟨PreW.blind, fun U hU hW => ⟨rfl, by rw [hU], by rw [hU]; exact va_Psub hP isC hC, va_K.moved hW.alike hK, hN.warm hW, (hD.sub isC hnd hC).weaken (fun _ _ _ _ => trivial)⟩⟩
theorem preV {T : u_T} {N : Nat} {fs : List Value} (hK : va_K D vwCl (TY cI cZ) s) (hN : NW s) (hP : va_P D vwCl ws H) (hD : va_D A ws) (isC : List Nat) (hC : isC.map (fun i => ws[i]?) = wc.map some) (hnd : va_nd isC = true) (k0 ci : Nat) (hc : vwCl[ci]? = some (C, T, N)) (he : ws[k0]? = some (b, .inr (ci, fs))) : PreV s H C b (va_Pc (.ref b :: As) (PreW D cI cZ wc H.size)) As :=
  ⟨PreW.blind, va_recv hK hP hc he, fun U hU hW => ⟨rfl, by rw [hU], by rw [hU]; exact va_Psub hP isC hC, va_K.moved hW.alike hK, hN.warm hW, (hD.sub isC hnd hC).weaken (fun _ _ _ _ => trivial)⟩⟩
theorem callVI {v : ρ → Int32} (o1 : ρ) (ho : o1 = o) (S : CallFix p m c cc nL s args Ts own) (hM : KI l D cI cZ y wsy rm (.ref b :: As) wc o v w') (cw : CallW R s args own C index y bytes maxL ret wsy rm 0 0 n) (hK : va_K D vwCl (TY cI cZ) s) (hN : NW s) (hP : va_P D vwCl ws H) (hD : va_D A ws) (hS : va_S A H0 H locs) (hA : ∀ q, H0.size ≤ q → A q) (isC : List Nat) (hC : isC.map (fun i => ws[i]?) = wc.map some) (hnd : va_nd isC = true) (k0 ci : Nat) {T : u_T} {N : Nat} {fs : List Value} (hc : vwCl[ci]? = some (C, T, N)) (he : ws[k0]? = some (b, .inr (ci, fs))) (hn : As.length = n) (hsize : ls.size = nL) (hst : st0 = As.reverse ++ .ref b :: rest) (hW : (rest.map fun v => v.category).sum ≤ 8) (hdg : decode cc pc = .ok (.invokevirtual index, 3)) (hf : cells ≤ R.cells ∧ slots ≤ R.slots)
    (x1 : Int32) (hx1 : v o1 = x1) (cs : List (Option Nat)) (N : Nat) (w1 : va_W) (h1 : mrg (w' o1) cs ws = w1) (hln : (w' o1).length = N) (hcov : ckc isC N cs 0 = true) (kk : ∀ (H1 : Heap) (locs1 : List Loc), va_P D vwCl w1 H1 → va_S A H0 H1 locs1 → W p l e R s m args below meth c H1 locs1 cells slots Q (F0 m (pc + 3) ls (.int x1 :: rest))) : W p l e R s m args below meth c H locs cells slots Q (F0 m pc ls st0) := by
  subst ho; subst hx1
  exact contI (va_runV (As := As) (rest := rest) S (hM H.size) cw (preV hK hN hP hD isC hC hnd k0 ci hc he) rfl hn hsize hst (lv_room hW) hdg hf) hP hD hS hA isC cs N w1 hC h1 hln hcov kk
theorem callVIs {v : ρ → Int32} (o1 : ρ) (ho : o1 = o) (S : CallFix p m c cc nL s args Ts own) (hM : KI l D cI cZ y wsy rm (.ref b :: As) wc o v w') (cw : CallW R s args own C index y bytes maxL ret wsy rm 0 0 n) (hK : va_K D vwCl (TY cI cZ) s) (hN : NW s) (hP : va_P D vwCl ws H) (hD : va_D A ws) (hS : va_S A H0 H locs) (hA : ∀ q, H0.size ≤ q → A q) (isC : List Nat) (hC : isC.map (fun i => ws[i]?) = wc.map some) (hnd : va_nd isC = true) (k0 ci : Nat) {T : u_T} {N : Nat} {fs : List Value} (hc : vwCl[ci]? = some (C, T, N)) (he : ws[k0]? = some (b, .inr (ci, fs))) (hn : As.length = n) (hsize : ls.size = nL) (hst : st0 = As.reverse ++ .ref b :: rest) (hW : (rest.map fun v => v.category).sum ≤ 8) (hdg : decode cc pc = .ok (.invokevirtual index, 3)) (hf : cells ≤ R.cells ∧ slots ≤ R.slots)
    (x1 : Int32) (hx1 : v o1 = x1) (hs : w' o1 = wc) (kk : ∀ (H1 : Heap) (locs1 : List Loc), va_P D vwCl ws H1 → va_S A H0 H1 locs1 → W p l e R s m args below meth c H1 locs1 cells slots Q (F0 m (pc + 3) ls (.int x1 :: rest))) : W p l e R s m args below meth c H locs cells slots Q (F0 m pc ls st0) := by
  subst ho; subst hx1
  exact contIs (va_runV (As := As) (rest := rest) S (hM H.size) cw (preV hK hN hP hD isC hC hnd k0 ci hc he) rfl hn hsize hst (lv_room hW) hdg hf) hP hD hS hA isC hC hs kk
theorem callVL {v : ρ → Int64} (o1 : ρ) (ho : o1 = o) (S : CallFix p m c cc nL s args Ts own) (hM : KL l D cI cZ y wsy rm (.ref b :: As) wc o v w') (cw : CallW R s args own C index y bytes maxL ret wsy rm 0 0 n) (hK : va_K D vwCl (TY cI cZ) s) (hN : NW s) (hP : va_P D vwCl ws H) (hD : va_D A ws) (hS : va_S A H0 H locs) (hA : ∀ q, H0.size ≤ q → A q) (isC : List Nat) (hC : isC.map (fun i => ws[i]?) = wc.map some) (hnd : va_nd isC = true) (k0 ci : Nat) {T : u_T} {N : Nat} {fs : List Value} (hc : vwCl[ci]? = some (C, T, N)) (he : ws[k0]? = some (b, .inr (ci, fs))) (hn : As.length = n) (hsize : ls.size = nL) (hst : st0 = As.reverse ++ .ref b :: rest) (hW : (rest.map fun v => v.category).sum ≤ 8) (hdg : decode cc pc = .ok (.invokevirtual index, 3)) (hf : cells ≤ R.cells ∧ slots ≤ R.slots)
    (x1 : Int64) (hx1 : v o1 = x1) (cs : List (Option Nat)) (N : Nat) (w1 : va_W) (h1 : mrg (w' o1) cs ws = w1) (hln : (w' o1).length = N) (hcov : ckc isC N cs 0 = true) (kk : ∀ (H1 : Heap) (locs1 : List Loc), va_P D vwCl w1 H1 → va_S A H0 H1 locs1 → W p l e R s m args below meth c H1 locs1 cells slots Q (F0 m (pc + 3) ls (.long x1 :: rest))) : W p l e R s m args below meth c H locs cells slots Q (F0 m pc ls st0) := by
  subst ho; subst hx1
  exact contL (va_runV (As := As) (rest := rest) S (hM H.size) cw (preV hK hN hP hD isC hC hnd k0 ci hc he) rfl hn hsize hst (lv_room hW) hdg hf) hP hD hS hA isC cs N w1 hC h1 hln hcov kk
theorem callVLs {v : ρ → Int64} (o1 : ρ) (ho : o1 = o) (S : CallFix p m c cc nL s args Ts own) (hM : KL l D cI cZ y wsy rm (.ref b :: As) wc o v w') (cw : CallW R s args own C index y bytes maxL ret wsy rm 0 0 n) (hK : va_K D vwCl (TY cI cZ) s) (hN : NW s) (hP : va_P D vwCl ws H) (hD : va_D A ws) (hS : va_S A H0 H locs) (hA : ∀ q, H0.size ≤ q → A q) (isC : List Nat) (hC : isC.map (fun i => ws[i]?) = wc.map some) (hnd : va_nd isC = true) (k0 ci : Nat) {T : u_T} {N : Nat} {fs : List Value} (hc : vwCl[ci]? = some (C, T, N)) (he : ws[k0]? = some (b, .inr (ci, fs))) (hn : As.length = n) (hsize : ls.size = nL) (hst : st0 = As.reverse ++ .ref b :: rest) (hW : (rest.map fun v => v.category).sum ≤ 8) (hdg : decode cc pc = .ok (.invokevirtual index, 3)) (hf : cells ≤ R.cells ∧ slots ≤ R.slots)
    (x1 : Int64) (hx1 : v o1 = x1) (hs : w' o1 = wc) (kk : ∀ (H1 : Heap) (locs1 : List Loc), va_P D vwCl ws H1 → va_S A H0 H1 locs1 → W p l e R s m args below meth c H1 locs1 cells slots Q (F0 m (pc + 3) ls (.long x1 :: rest))) : W p l e R s m args below meth c H locs cells slots Q (F0 m pc ls st0) := by
  subst ho; subst hx1
  exact contLs (va_runV (As := As) (rest := rest) S (hM H.size) cw (preV hK hN hP hD isC hC hnd k0 ci hc he) rfl hn hsize hst (lv_room hW) hdg hf) hP hD hS hA isC hC hs kk
theorem callVV (o1 : ρ) (ho : o1 = o) (S : CallFix p m c cc nL s args Ts own) (hM : KV l D cI cZ y wsy rm (.ref b :: As) wc o w') (cw : CallW R s args own C index y bytes maxL ret wsy rm 0 0 n) (hK : va_K D vwCl (TY cI cZ) s) (hN : NW s) (hP : va_P D vwCl ws H) (hD : va_D A ws) (hS : va_S A H0 H locs) (hA : ∀ q, H0.size ≤ q → A q) (isC : List Nat) (hC : isC.map (fun i => ws[i]?) = wc.map some) (hnd : va_nd isC = true) (k0 ci : Nat) {T : u_T} {N : Nat} {fs : List Value} (hc : vwCl[ci]? = some (C, T, N)) (he : ws[k0]? = some (b, .inr (ci, fs))) (hn : As.length = n) (hsize : ls.size = nL) (hst : st0 = As.reverse ++ .ref b :: rest) (hW : (rest.map fun v => v.category).sum ≤ 8) (hdg : decode cc pc = .ok (.invokevirtual index, 3)) (hf : cells ≤ R.cells ∧ slots ≤ R.slots)
    (cs : List (Option Nat)) (N : Nat) (w1 : va_W) (h1 : mrg (w' o1) cs ws = w1) (hln : (w' o1).length = N) (hcov : ckc isC N cs 0 = true) (kk : ∀ (H1 : Heap) (locs1 : List Loc), va_P D vwCl w1 H1 → va_S A H0 H1 locs1 → W p l e R s m args below meth c H1 locs1 cells slots Q (F0 m (pc + 3) ls rest)) : W p l e R s m args below meth c H locs cells slots Q (F0 m pc ls st0) := by
  subst ho
  exact contV (va_runV (As := As) (rest := rest) S (hM H.size) cw (preV hK hN hP hD isC hC hnd k0 ci hc he) rfl hn hsize hst (lv_room hW) hdg hf) hP hD hS hA isC cs N w1 hC h1 hln hcov kk
theorem callVVs (o1 : ρ) (ho : o1 = o) (S : CallFix p m c cc nL s args Ts own) (hM : KV l D cI cZ y wsy rm (.ref b :: As) wc o w') (cw : CallW R s args own C index y bytes maxL ret wsy rm 0 0 n) (hK : va_K D vwCl (TY cI cZ) s) (hN : NW s) (hP : va_P D vwCl ws H) (hD : va_D A ws) (hS : va_S A H0 H locs) (hA : ∀ q, H0.size ≤ q → A q) (isC : List Nat) (hC : isC.map (fun i => ws[i]?) = wc.map some) (hnd : va_nd isC = true) (k0 ci : Nat) {T : u_T} {N : Nat} {fs : List Value} (hc : vwCl[ci]? = some (C, T, N)) (he : ws[k0]? = some (b, .inr (ci, fs))) (hn : As.length = n) (hsize : ls.size = nL) (hst : st0 = As.reverse ++ .ref b :: rest) (hW : (rest.map fun v => v.category).sum ≤ 8) (hdg : decode cc pc = .ok (.invokevirtual index, 3)) (hf : cells ≤ R.cells ∧ slots ≤ R.slots)
    (hs : w' o1 = wc) (kk : ∀ (H1 : Heap) (locs1 : List Loc), va_P D vwCl ws H1 → va_S A H0 H1 locs1 → W p l e R s m args below meth c H1 locs1 cells slots Q (F0 m (pc + 3) ls rest)) : W p l e R s m args below meth c H locs cells slots Q (F0 m pc ls st0) := by
  subst ho
  exact contVs (va_runV (As := As) (rest := rest) S (hM H.size) cw (preV hK hN hP hD isC hC hnd k0 ci hc he) rfl hn hsize hst (lv_room hW) hdg hf) hP hD hS hA isC hC hs kk
theorem callSI {v : ρ → Int32} (o1 : ρ) (ho : o1 = o) (S : CallFix p m c cc nL s args Ts own) (hM : KI l D cI cZ y wsy rm As wc o v w') (cw : CallB R s args own index y bytes maxL ret wsy rm 0 0 n ∧ (Cond.static y).before args s = true) (hK : va_K D vwCl (TY cI cZ) s) (hN : NW s) (hP : va_P D vwCl ws H) (hD : va_D A ws) (hS : va_S A H0 H locs) (hA : ∀ q, H0.size ≤ q → A q) (isC : List Nat) (hC : isC.map (fun i => ws[i]?) = wc.map some) (hnd : va_nd isC = true) (hn : As.length = n) (hsize : ls.size = nL) (hst : st0 = As.reverse ++ rest) (hW : (rest.map fun v => v.category).sum ≤ 8) (hdg : decode cc pc = .ok (.invokestatic index, 3)) (hf : cells ≤ R.cells ∧ slots ≤ R.slots)
    (x1 : Int32) (hx1 : v o1 = x1) (cs : List (Option Nat)) (N : Nat) (w1 : va_W) (h1 : mrg (w' o1) cs ws = w1) (hln : (w' o1).length = N) (hcov : ckc isC N cs 0 = true) (kk : ∀ (H1 : Heap) (locs1 : List Loc), va_P D vwCl w1 H1 → va_S A H0 H1 locs1 → W p l e R s m args below meth c H1 locs1 cells slots Q (F0 m (pc + 3) ls (.int x1 :: rest))) : W p l e R s m args below meth c H locs cells slots Q (F0 m pc ls st0) := by
  subst ho; subst hx1
  exact contI (va_runS (As := As) (rest := rest) S (hM H.size) cw (preS hK hN hP hD isC hC hnd) rfl hn hsize hst (lv_room hW) hdg hf) hP hD hS hA isC cs N w1 hC h1 hln hcov kk
theorem callSIs {v : ρ → Int32} (o1 : ρ) (ho : o1 = o) (S : CallFix p m c cc nL s args Ts own) (hM : KI l D cI cZ y wsy rm As wc o v w') (cw : CallB R s args own index y bytes maxL ret wsy rm 0 0 n ∧ (Cond.static y).before args s = true) (hK : va_K D vwCl (TY cI cZ) s) (hN : NW s) (hP : va_P D vwCl ws H) (hD : va_D A ws) (hS : va_S A H0 H locs) (hA : ∀ q, H0.size ≤ q → A q) (isC : List Nat) (hC : isC.map (fun i => ws[i]?) = wc.map some) (hnd : va_nd isC = true) (hn : As.length = n) (hsize : ls.size = nL) (hst : st0 = As.reverse ++ rest) (hW : (rest.map fun v => v.category).sum ≤ 8) (hdg : decode cc pc = .ok (.invokestatic index, 3)) (hf : cells ≤ R.cells ∧ slots ≤ R.slots)
    (x1 : Int32) (hx1 : v o1 = x1) (hs : w' o1 = wc) (kk : ∀ (H1 : Heap) (locs1 : List Loc), va_P D vwCl ws H1 → va_S A H0 H1 locs1 → W p l e R s m args below meth c H1 locs1 cells slots Q (F0 m (pc + 3) ls (.int x1 :: rest))) : W p l e R s m args below meth c H locs cells slots Q (F0 m pc ls st0) := by
  subst ho; subst hx1
  exact contIs (va_runS (As := As) (rest := rest) S (hM H.size) cw (preS hK hN hP hD isC hC hnd) rfl hn hsize hst (lv_room hW) hdg hf) hP hD hS hA isC hC hs kk
theorem callNI {host : String} {v : ρ → Int32} (o1 : ρ) (ho : o1 = o) (S : CallFix p m c cc nL s args Ts own) (hM : KI l D cI cZ y wsy rm As wc o v w') (cw : va_CN R s args own index y host bytes maxL ret wsy rm 0 0 n ∧ (Cond.static y).before args s = true ∧ True) (hK : va_K D vwCl (TY cI cZ) s) (hN : NW s) (hP : va_P D vwCl ws H) (hD : va_D A ws) (hS : va_S A H0 H locs) (hA : ∀ q, H0.size ≤ q → A q) (isC : List Nat) (hC : isC.map (fun i => ws[i]?) = wc.map some) (hnd : va_nd isC = true) (hn : As.length = n) (hsize : ls.size = nL) (hst : st0 = As.reverse ++ rest) (hW : (rest.map fun v => v.category).sum ≤ 8) (hdg : decode cc pc = .ok (.invokestatic index, 3)) (hf : cells ≤ R.cells ∧ slots ≤ R.slots)
    (x1 : Int32) (hx1 : v o1 = x1) (cs : List (Option Nat)) (N : Nat) (w1 : va_W) (h1 : mrg (w' o1) cs ws = w1) (hln : (w' o1).length = N) (hcov : ckc isC N cs 0 = true) (kk : ∀ (H1 : Heap) (locs1 : List Loc), va_P D vwCl w1 H1 → va_S A H0 H1 locs1 → W p l e R s m args below meth c H1 locs1 cells slots Q (F0 m (pc + 3) ls (.int x1 :: rest))) : W p l e R s m args below meth c H locs cells slots Q (F0 m pc ls st0) := by
  subst ho; subst hx1
  exact contI (va_runSN (As := As) (rest := rest) S (hM H.size) cw (preS hK hN hP hD isC hC hnd) rfl hn hsize hst (lv_room hW) hdg hf) hP hD hS hA isC cs N w1 hC h1 hln hcov kk
theorem callNIs {host : String} {v : ρ → Int32} (o1 : ρ) (ho : o1 = o) (S : CallFix p m c cc nL s args Ts own) (hM : KI l D cI cZ y wsy rm As wc o v w') (cw : va_CN R s args own index y host bytes maxL ret wsy rm 0 0 n ∧ (Cond.static y).before args s = true ∧ True) (hK : va_K D vwCl (TY cI cZ) s) (hN : NW s) (hP : va_P D vwCl ws H) (hD : va_D A ws) (hS : va_S A H0 H locs) (hA : ∀ q, H0.size ≤ q → A q) (isC : List Nat) (hC : isC.map (fun i => ws[i]?) = wc.map some) (hnd : va_nd isC = true) (hn : As.length = n) (hsize : ls.size = nL) (hst : st0 = As.reverse ++ rest) (hW : (rest.map fun v => v.category).sum ≤ 8) (hdg : decode cc pc = .ok (.invokestatic index, 3)) (hf : cells ≤ R.cells ∧ slots ≤ R.slots)
    (x1 : Int32) (hx1 : v o1 = x1) (hs : w' o1 = wc) (kk : ∀ (H1 : Heap) (locs1 : List Loc), va_P D vwCl ws H1 → va_S A H0 H1 locs1 → W p l e R s m args below meth c H1 locs1 cells slots Q (F0 m (pc + 3) ls (.int x1 :: rest))) : W p l e R s m args below meth c H locs cells slots Q (F0 m pc ls st0) := by
  subst ho; subst hx1
  exact contIs (va_runSN (As := As) (rest := rest) S (hM H.size) cw (preS hK hN hP hD isC hC hnd) rfl hn hsize hst (lv_room hW) hdg hf) hP hD hS hA isC hC hs kk
end Calls
