/-! own words, pure: the survey -/
theorem it_snoc {σ : Type} {f : Nat → σ → σ} : ∀ (k i : Nat) (s : σ), it f (k + 1) i s = f (i + k) (it f k i s)
  | 0, i, s => rfl
  | k + 1, i, s => by
    rw [it_s, it_snoc k (i + 1) (f i s), it_s, show i + 1 + k = i + (k + 1) by omega]
def BEP (v c : Nat → Nat) (e : Int32) (P : Nat → Prop) (b m : Int32) : Prop := (b = -9 ∧ m = e ∧ ∀ h, ¬ P h) ∨ ∃ h, P h ∧ b = nI h ∧ m = nI (v h) ∧ ∀ h', P h' → v h' < v h ∨ (v h' = v h ∧ (c h < c h' ∨ (c h = c h' ∧ h ≤ h')))
section Bep
variable {v c : Nat → Nat} {e : Int32} {P Q : Nat → Prop} {b m : Int32}
theorem BEP.cong (h : BEP v c e P b m) (hpq : ∀ h, P h ↔ Q h) : BEP v c e Q b m := by
  have : P = Q := funext fun h => propext (hpq h)
  subst this; exact h
theorem BEP.uniq {e' b' m' : Int32} (h1 : BEP v c e P b m) (h2 : BEP v c e' P b' m') : b = b' := by
  rcases h1 with ⟨a1, a2, a3⟩ | ⟨h, hp, a1, a2, a3⟩
  · rcases h2 with ⟨b1, b2, b3⟩ | ⟨h', hp', b1, b2, b3⟩
    · rw [a1, b1]
    · exact absurd hp' (a3 h')
  · rcases h2 with ⟨b1, b2, b3⟩ | ⟨h', hp', b1, b2, b3⟩
    · exact absurd hp (b3 h)
    · have q1 := a3 h' hp'
      have q2 := b3 h hp
      have : h = h' := by omega
      rw [a1, b1, this]
theorem BEP.addX {i : Nat} (hV : ∀ h, v h ≤ 45) (h : BEP v c (-1) P b m) (hP : ∀ h, P h → h < i ∧ c h = c i) : (nI (v i) ≤ m → BEP v c (-1) (fun h => P h ∨ h = i) b m) ∧ (¬ nI (v i) ≤ m → BEP v c (-1) (fun h => P h ∨ h = i) (nI i) (nI (v i))) := by
  have hi := hV i
  constructor
  · intro hle
    rcases h with ⟨a1, a2, a3⟩ | ⟨h, hp, a1, a2, a3⟩
    · rw [a2] at hle
      have : ¬ nI (v i) < 0 := nI_pos (by omega)
      have q1 := Int32.le_iff_toInt_le.mp hle
      rw [nI_toInt (by omega), show (-1 : Int32).toInt = -1 from rfl] at q1
      omega
    · refine Or.inr ⟨h, Or.inl hp, a1, a2, fun h' hh => ?_⟩
      rcases hh with hh | rfl
      · exact a3 h' hh
      · have q := hP h hp
        have hv := hV h
        rw [a2, nI_leI (by omega) (by omega)] at hle
        omega
  · intro hnle
    refine Or.inr ⟨i, Or.inr rfl, rfl, rfl, fun h' hh => ?_⟩
    rcases hh with hh | rfl
    · rcases h with ⟨a1, a2, a3⟩ | ⟨h, hp, a1, a2, a3⟩
      · exact absurd hh (a3 h')
      · have q := a3 h' hh
        have q2 := hP h hp
        have q3 := hP h' hh
        have hv := hV h
        rw [a2, nI_leI (by omega) (by omega)] at hnle
        omega
    · omega
theorem BEP.merge {b1 m1 b2 m2 : Int32} (hV : ∀ h, v h ≤ 45) (hQ : BEP v c (-1) Q b1 m1) (hP : BEP v c (-1) P b2 m2) (hc : ∀ h h', Q h → P h' → c h < c h') : (m1 < m2 → BEP v c (-1) (fun h => Q h ∨ P h) b2 m2) ∧ (¬ m1 < m2 → BEP v c (-1) (fun h => Q h ∨ P h) b1 m1) := by
  rcases hQ with ⟨a1, a2, a3⟩ | ⟨h, hp, a1, a2, a3⟩
  · rcases hP with ⟨d1, d2, d3⟩ | ⟨k, hk, d1, d2, d3⟩
    · refine ⟨fun _ => Or.inl ⟨d1, d2, fun h hh => hh.elim (a3 h) (d3 h)⟩, fun _ => Or.inl ⟨a1, a2, fun h hh => hh.elim (a3 h) (d3 h)⟩⟩
    · have hv := hV k
      refine ⟨fun _ => Or.inr ⟨k, Or.inr hk, d1, d2, fun h' hh => hh.elim (fun q => absurd q (a3 h')) (d3 h')⟩, fun q => absurd ?_ q⟩
      rw [a2, d2, Int32.lt_iff_toInt_lt, nI_toInt (by omega), show (-1 : Int32).toInt = -1 from rfl]
      omega
  · have hvh := hV h
    rcases hP with ⟨d1, d2, d3⟩ | ⟨k, hk, d1, d2, d3⟩
    · refine ⟨fun q => absurd q ?_, fun _ => Or.inr ⟨h, Or.inl hp, a1, a2, fun h' hh => hh.elim (a3 h') (fun q => absurd q (d3 h'))⟩⟩
      rw [a2, d2, Int32.lt_iff_toInt_lt, nI_toInt (by omega), show (-1 : Int32).toInt = -1 from rfl]
      omega
    · have hvk := hV k
      rw [a2, d2, nI_ltI (by omega) (by omega)]
      constructor
      · intro q
        refine Or.inr ⟨k, Or.inr hk, d1, rfl, fun h' hh => ?_⟩
        rcases hh with hh | hh
        · have := a3 h' hh
          omega
        · exact d3 h' hh
      · intro q
        refine Or.inr ⟨h, Or.inl hp, a1, rfl, fun h' hh => ?_⟩
        rcases hh with hh | hh
        · exact a3 h' hh
        · have := d3 h' hh
          have := hc h h' hp hh
          omega
end Bep
def cn (h : Nat) : Nat := cnt (nI h)
theorem BEP.addM {v : Nat → Nat} {P : Nat → Prop} {b m : Int32} {i : Nat} (hV : ∀ h, v h ≤ 45) (h : BEP v cn (-9) P b m) (hP : ∀ h, P h → h < i) : BEP v cn (-9) (fun h => P h ∨ h = i) (if m < nI (v i) then nI i else if nI (v i) = m then (if nI (cnt b) ≤ nI (cn i) then b else nI i) else b) (if m < nI (v i) then nI (v i) else if nI (v i) = m then (if nI (cnt b) ≤ nI (cn i) then m else nI (v i)) else m) := by
  have hi := hV i
  rcases h with ⟨a1, a2, a3⟩ | ⟨h, hp, a1, a2, a3⟩
  · have : m < nI (v i) := by
      rw [a2, Int32.lt_iff_toInt_lt, nI_toInt (by omega), show (-9 : Int32).toInt = -9 from rfl]
      omega
    rw [if_pos this, if_pos this]
    refine Or.inr ⟨i, Or.inr rfl, rfl, rfl, fun h' hh => ?_⟩
    rcases hh with hh | rfl
    · exact absurd hh (a3 h')
    · omega
  · have hvh := hV h
    have hlt := hP h hp
    subst a1 a2
    have c1 : cnt (nI h) ≤ 12 := cnt_le _
    have c2 : cn i ≤ 12 := cnt_le _
    by_cases q1 : v h < v i
    · rw [if_pos (nI_lt q1 (by omega)), if_pos (nI_lt q1 (by omega))]
      refine Or.inr ⟨i, Or.inr rfl, rfl, rfl, fun h' hh => ?_⟩
      rcases hh with hh | rfl
      · have := a3 h' hh; omega
      · omega
    · rw [if_neg (nI_nlt (by omega) (by omega)), if_neg (nI_nlt (by omega) (by omega))]
      by_cases q2 : v i = v h
      · rw [if_pos (show nI (v i) = nI (v h) by rw [q2]), if_pos (show nI (v i) = nI (v h) by rw [q2])]
        by_cases q3 : cnt (nI h) ≤ cn i
        · rw [if_pos (show nI (cnt (nI h)) ≤ nI (cn i) from nI_le q3 (by omega)), if_pos (show nI (cnt (nI h)) ≤ nI (cn i) from nI_le q3 (by omega))]
          refine Or.inr ⟨h, Or.inl hp, rfl, rfl, fun h' hh => ?_⟩
          rcases hh with hh | rfl
          · exact a3 h' hh
          · have : cn h = cnt (nI h) := rfl
            omega
        · rw [if_neg (show ¬ nI (cnt (nI h)) ≤ nI (cn i) from nI_ge (by omega) (by omega)), if_neg (show ¬ nI (cnt (nI h)) ≤ nI (cn i) from nI_ge (by omega) (by omega))]
          refine Or.inr ⟨i, Or.inr rfl, rfl, rfl, fun h' hh => ?_⟩
          have : cn h = cnt (nI h) := rfl
          rcases hh with hh | rfl
          · have := a3 h' hh; omega
          · omega
      · rw [if_neg (fun q => q2 ((nI_eq (by omega) (by omega)).mp q)), if_neg (fun q => q2 ((nI_eq (by omega) (by omega)).mp q))]
        refine Or.inr ⟨h, Or.inl hp, rfl, rfl, fun h' hh => ?_⟩
        rcases hh with hh | rfl
        · exact a3 h' hh
        · omega
def Lw (owed : Nat → Int32) (h : Nat) : Prop := v_X8_isLawful (nI h) owed = true
def Gs (mw : Int32) (told : Nat → Int32) (h : Nat) : Nat := (v_X8_granted (nI h) mw told).toNatClampNeg
def vn (mw : Int32) (told : Nat → Int32) (h : Nat) : Nat := (v_X8_worthOf (v_X8_granted (nI h) mw told) mw told).toNatClampNeg
def ok (owed : Nat → Int32) (n h : Nat) : Prop := h < 4096 ∧ cn h ≤ n ∧ Lw owed h
def okx (owed : Nat → Int32) (n i h : Nat) : Prop := h < i ∧ cn h = n ∧ Lw owed h
def SX (lw gr be mo : Nat → Int32) (mw : Int32) (told owed : Nat → Int32) (i n : Nat) : Prop := (∀ g, g < 32 → (hb (gr n) g = true ↔ ∃ h, okx owed n i h ∧ Gs mw told h = g)) ∧ BEP (vn mw told) cn (-1) (okx owed n i) (be n) (mo n)
def SF (gr be mo : Nat → Int32) (mw : Int32) (told owed : Nat → Int32) (n : Nat) : Prop := (∀ g, g < 32 → (hb (gr n) g = true ↔ ∃ h, ok owed n h ∧ Gs mw told h = g)) ∧ BEP (vn mw told) cn (-1) (ok owed n) (be n) (mo n)
def SV (lw gr be mo : Nat → Int32) (mw : Int32) (told owed : Nat → Int32) : Prop := ∀ n, n < 6 → lw n = it (v_X8_many_L19 (nI n) owed) 4096 0 0 ∧ SF gr be mo mw told owed n
section Survey
variable {wc op mw : Int32} {pl fh sp va ce ne ow ro told owed : Nat → Int32}
theorem Gs_eq (h : RLs wc op pl fh sp va ce ne ow ro mw told owed) (i : Nat) : v_X8_granted (nI i) mw told = nI (Gs mw told i) ∧ Gs mw told i < 32 := by
  obtain ⟨g, hg, e⟩ := granted_32 h (nI i)
  unfold Gs
  rw [e, nI_clamp (by omega)]
  exact ⟨rfl, hg⟩
theorem vn_eq (h : RLs wc op pl fh sp va ce ne ow ro mw told owed) (i : Nat) : v_X8_worthOf (nI (Gs mw told i)) mw told = nI (vn mw told i) := by
  obtain ⟨v, hv, e⟩ := worth_lt h (v_X8_granted (nI i) mw told)
  unfold vn
  rw [← (Gs_eq h i).1, e, nI_clamp (by omega)]
theorem vn_45 (h : RLs wc op pl fh sp va ce ne ow ro mw told owed) (i : Nat) : vn mw told i ≤ 45 := by
  obtain ⟨v, hv, e⟩ := worth_lt h (v_X8_granted (nI i) mw told)
  unfold vn
  rw [e, nI_clamp (by omega)]; exact hv
theorem enter_eq (h : RLs wc op pl fh sp va ce ne ow ro mw told owed) {i : Nat} (hi : i < 4096) (hc : cn i < 6) (lw gr mo be : Nat → Int32) : v_X5_enter (nI i) wc ce ne va lw gr mo be = if nI (vn mw told i) ≤ mo (cn i) then (upd gr (cn i) (gr (cn i) ||| ((1 : Int32) <<< (nI (Gs mw told i) &&& 31))), mo, be, upd lw (cn i) (lw (cn i) + 1)) else (upd gr (cn i) (gr (cn i) ||| ((1 : Int32) <<< (nI (Gs mw told i) &&& 31))), upd mo (cn i) (nI (vn mw told i)), upd be (cn i) (nI i), upd lw (cn i) (lw (cn i) + 1)) := by
  have e1 : v_J6_bitCount_0f7a4 (nI i) = nI (cn i) := bc_ones hi
  unfold v_X5_enter
  rw [bnd_eq e1.symm, bnd_eq (granted_eq h (nI i)).symm, (Gs_eq h i).1, bnd_eq (sum_eq h _).symm, vn_eq h, bnd_eq (at_nI hc (by decide)).symm, bnd_eq (put_nI hc (by decide)).symm, bnd_eq (at_nI hc (by decide)).symm, bnd_eq (put_nI hc (by decide)).symm, bnd_eq (at_nI hc (by decide)).symm, bnd_eq (put_nI hc (by decide)).symm, bnd_eq (put_nI hc (by decide)).symm]
theorem SX_skip {lw gr be mo : Nat → Int32} {i n : Nat} (h : SX lw gr be mo mw told owed i n) (hs : ¬ (cn i = n ∧ Lw owed i)) : SX lw gr be mo mw told owed (i + 1) n := by
  have e : ∀ h, okx owed n i h ↔ okx owed n (i + 1) h := fun h => by
    constructor
    · rintro ⟨h1, h2⟩; exact ⟨by omega, h2⟩
    · rintro ⟨h1, h2⟩
      refine ⟨?_, h2⟩
      by_cases q : h = i
      · subst q; exact absurd h2 hs
      · omega
  refine ⟨fun g hg => ?_, h.2.cong e⟩
  rw [h.1 g hg]
  exact ⟨fun ⟨x, hx, hx2⟩ => ⟨x, (e x).mp hx, hx2⟩, fun ⟨x, hx, hx2⟩ => ⟨x, (e x).mpr hx, hx2⟩⟩
theorem SX_add (hL : RLs wc op pl fh sp va ce ne ow ro mw told owed) {lw gr be mo lw' gr' be' mo' : Nat → Int32} {i n : Nat} (h : SX lw gr be mo mw told owed i n) (hs : cn i = n ∧ Lw owed i) (e1 : gr' n = (gr n ||| ((1 : Int32) <<< (nI (Gs mw told i) &&& 31)))) (e2 : (nI (vn mw told i) ≤ mo n ∧ be' n = be n ∧ mo' n = mo n) ∨ (¬ nI (vn mw told i) ≤ mo n ∧ be' n = nI i ∧ mo' n = nI (vn mw told i))) : SX lw' gr' be' mo' mw told owed (i + 1) n := by
  have e : ∀ h, (okx owed n i h ∨ h = i) ↔ okx owed n (i + 1) h := fun h => by
    constructor
    · rintro (⟨h1, h2⟩ | rfl)
      · exact ⟨by omega, h2⟩
      · exact ⟨by omega, hs⟩
    · rintro ⟨h1, h2⟩
      by_cases q : h = i
      · exact Or.inr q
      · exact Or.inl ⟨by omega, h2⟩
  refine ⟨fun g hg => ?_, ?_⟩
  · rw [e1, hb_or, hb_sh _ (Gs_eq hL i).2 g hg, Bool.or_eq_true, h.1 g hg, decide_eq_true_eq]
    constructor
    · rintro (⟨x, hx, hx2⟩ | hx)
      · exact ⟨x, (e x).mp (Or.inl hx), hx2⟩
      · exact ⟨i, (e i).mp (Or.inr rfl), hx.symm⟩
    · rintro ⟨x, hx, hx2⟩
      rcases (e x).mpr hx with q | rfl
      · exact Or.inl ⟨x, q, hx2⟩
      · exact Or.inr hx2.symm
  · have q := BEP.addX (i := i) (vn_45 hL) h.2 (fun x hx => ⟨hx.1, by rw [hx.2.1, hs.1]⟩)
    rcases e2 with ⟨a1, a2, a3⟩ | ⟨a1, a2, a3⟩
    · rw [a2, a3]; exact (q.1 a1).cong e
    · rw [a2, a3]; exact (q.2 a1).cong e
theorem many_step {n i : Nat} {z : Int32} (hn : n < 6) : (cn i = n ∧ Lw owed i → v_X8_many_L19 (nI n) owed i z = z + 1) ∧ (¬ (cn i = n ∧ Lw owed i) → v_X8_many_L19 (nI n) owed i z = z) := by
  have f : v_X8_many_L19 (nI n) owed i z = if v_X8_ones (nI i) = nI n then (if bI (v_X8_isLawful (nI i) owed) = 0 then z + 0 else z + 1) else z + 0 := by
    unfold v_X8_many_L19
    rw [bnd_eq rfl, bnd_eq rfl]
  have hc : cn i ≤ 12 := cnt_le _
  rw [f, ones_cnt, Int32.add_zero]
  unfold Lw
  generalize v_X8_isLawful (nI i) owed = b
  constructor
  · rintro ⟨q, rfl⟩
    rw [if_pos (show nI (cnt (nI i)) = nI n by rw [← q]; rfl), ifT]
  · intro w
    by_cases q : cn i = n
    · rw [if_pos (show nI (cnt (nI i)) = nI n by rw [← q]; rfl)]
      cases b with
      | false => rw [ifF]
      | true => exact absurd ⟨q, rfl⟩ w
    · rw [if_neg (show ¬ nI (cnt (nI i)) = nI n from fun w => q ((nI_eq (a := cn i) (by omega) (by omega)).mp w))]
theorem make_1 (hL : RLs wc op pl fh sp va ce ne ow ro mw told owed) (lw gr be mo : Nat → Int32) (h0 : ∀ n, n < 6 → lw n = 0 ∧ gr n = 0 ∧ be n = -9 ∧ mo n = -1) : ∀ n, n < 6 → (it (v_X5_make_L48 wc ro ce ne va) 4096 0 (lw, gr, be, mo)).1 n = it (v_X8_many_L19 (nI n) owed) 4096 0 0 ∧ SX (it (v_X5_make_L48 wc ro ce ne va) 4096 0 (lw, gr, be, mo)).1 (it (v_X5_make_L48 wc ro ce ne va) 4096 0 (lw, gr, be, mo)).2.1 (it (v_X5_make_L48 wc ro ce ne va) 4096 0 (lw, gr, be, mo)).2.2.1 (it (v_X5_make_L48 wc ro ce ne va) 4096 0 (lw, gr, be, mo)).2.2.2 mw told owed 4096 n := by
  have key := it_invN (f := v_X5_make_L48 wc ro ce ne va) 4096 (fun i (z : (Nat → Int32) × (Nat → Int32) × (Nat → Int32) × (Nat → Int32)) => ∀ n, n < 6 → z.1 n = it (v_X8_many_L19 (nI n) owed) i 0 0 ∧ SX z.1 z.2.1 z.2.2.1 z.2.2.2 mw told owed i n) (fun i z hi hz => by
    obtain ⟨z1, z2, z3, z4⟩ := z
    have hz : ∀ n, n < 6 → z1 n = it (v_X8_many_L19 (nI n) owed) i 0 0 ∧ SX z1 z2 z3 z4 mw told owed i n := hz
    have st : ∀ n, n < 6 → (cn i = n ∧ Lw owed i → it (v_X8_many_L19 (nI n) owed) (i + 1) 0 0 = z1 n + 1) ∧ (¬ (cn i = n ∧ Lw owed i) → it (v_X8_many_L19 (nI n) owed) (i + 1) 0 0 = z1 n) := fun n hn => by
      rw [it_snoc, Nat.zero_add, (hz n hn).1]
      exact many_step hn
    have f : v_X5_make_L48 wc ro ce ne va i (z1, z2, z3, z4) = if bI (v_X7_isHanging (nI i)) = 0 then (z1, z2, z3, z4) else if bI (v_X1_allows (nI i) ro) = 0 then (z1, z2, z3, z4) else bnd4 (v_X5_enter (nI i) wc ce ne va z1 z2 z4 z3) (fun a b c d => (d, a, c, b)) := by
      show v_X5_make_L48c wc ro ce ne va i z1 z2 z3 z4 = _
      unfold v_X5_make_L48c
      rw [bnd_eq rfl, bnd_eq rfl]
    show ∀ n, n < 6 → (v_X5_make_L48 wc ro ce ne va i (z1, z2, z3, z4)).1 n = it (v_X8_many_L19 (nI n) owed) (i + 1) 0 0 ∧ SX (v_X5_make_L48 wc ro ce ne va i (z1, z2, z3, z4)).1 (v_X5_make_L48 wc ro ce ne va i (z1, z2, z3, z4)).2.1 (v_X5_make_L48 wc ro ce ne va i (z1, z2, z3, z4)).2.2.1 (v_X5_make_L48 wc ro ce ne va i (z1, z2, z3, z4)).2.2.2 mw told owed (i + 1) n
    rw [f, lawful_eq hL.2 hi]
    have skip : (¬ (cn i < 6 ∧ Lw owed i)) → ∀ n, n < 6 → z1 n = it (v_X8_many_L19 (nI n) owed) (i + 1) 0 0 ∧ SX z1 z2 z3 z4 mw told owed (i + 1) n := fun hs n hn => by
      have h9 : ¬ (cn i = n ∧ Lw owed i) := fun q => hs ⟨by omega, q.2⟩
      rw [(st n hn).2 h9]
      exact ⟨rfl, SX_skip (hz n hn).2 h9⟩
    rcases g7 (nI i) with ⟨a, b⟩ | ⟨p, hp, h5, e, a, b⟩
    · rw [a, ifF]
      refine skip (fun q => ?_)
      have : v_X7_isHanging (nI i) = true := by
        have e7 : v_X7_isHanging (nI i) = if nI i < 0 then false else if 4096 ≤ nI i then false else if 5 < v_J6_bitCount_0f7a4 (nI i) then false else true := rfl
        rw [e7, if_neg (nI_pos (by omega)), if_neg (show ¬ (4096 : Int32) ≤ nI i from nI_ge hi (by decide)), bc_ones hi]
        have q1 := q.1
        unfold cn at q1
        exact if_neg (show ¬ (5 : Int32) < nI (cnt (nI i)) from nI_nlt (a := 5) (by omega) (by decide))
      rw [this] at a; cases a
    · rw [nI_eq (by omega) (by omega)] at e
      subst e
      rw [a, ifT]
      cases l : v_X8_isLawful (nI i) owed with
      | false =>
        rw [ifF]
        refine skip (fun q => ?_)
        have := q.2
        unfold Lw at this
        rw [l] at this; cases this
      | true =>
        rw [ifT]
        have hc : cn i < 6 := by unfold cn; omega
        rw [enter_eq hL hi hc]
        by_cases q : nI (vn mw told i) ≤ z4 (cn i)
        · rw [if_pos q]
          show ∀ n, n < 6 → upd z1 (cn i) (z1 (cn i) + 1) n = it (v_X8_many_L19 (nI n) owed) (i + 1) 0 0 ∧ SX (upd z1 (cn i) (z1 (cn i) + 1)) (upd z2 (cn i) (z2 (cn i) ||| ((1 : Int32) <<< (nI (Gs mw told i) &&& 31)))) z3 z4 mw told owed (i + 1) n
          intro n hn
          by_cases en : n = cn i
          · subst en
            rw [pk_us, (st _ hn).1 ⟨rfl, l⟩]
            exact ⟨rfl, SX_add hL (hz _ hn).2 ⟨rfl, l⟩ pk_us (Or.inl ⟨q, rfl, rfl⟩)⟩
          · have h9 : ¬ (cn i = n ∧ Lw owed i) := fun w => en w.1.symm
            rw [pk_un en, (st n hn).2 h9]
            refine ⟨rfl, ?_⟩
            have := SX_skip (hz n hn).2 h9
            unfold SX at this ⊢
            rw [pk_un en]; exact this
        · rw [if_neg q]
          show ∀ n, n < 6 → upd z1 (cn i) (z1 (cn i) + 1) n = it (v_X8_many_L19 (nI n) owed) (i + 1) 0 0 ∧ SX (upd z1 (cn i) (z1 (cn i) + 1)) (upd z2 (cn i) (z2 (cn i) ||| ((1 : Int32) <<< (nI (Gs mw told i) &&& 31)))) (upd z3 (cn i) (nI i)) (upd z4 (cn i) (nI (vn mw told i))) mw told owed (i + 1) n
          intro n hn
          by_cases en : n = cn i
          · subst en
            rw [pk_us, (st _ hn).1 ⟨rfl, l⟩]
            exact ⟨rfl, SX_add hL (hz _ hn).2 ⟨rfl, l⟩ pk_us (Or.inr ⟨q, pk_us, pk_us⟩)⟩
          · have h9 : ¬ (cn i = n ∧ Lw owed i) := fun w => en w.1.symm
            rw [pk_un en, (st n hn).2 h9]
            refine ⟨rfl, ?_⟩
            have := SX_skip (hz n hn).2 h9
            unfold SX at this ⊢
            rw [pk_un en, pk_un en, pk_un en]; exact this) 4096 0 (lw, gr, be, mo) (by decide) (fun n hn => by
      obtain ⟨a1, a2, a3, a4⟩ := h0 n hn
      refine ⟨a1, fun g hg => ?_, Or.inl ⟨a3, a4, fun h hh => by have := hh.1; omega⟩⟩
      show hb (gr n) g = true ↔ _
      rw [a2, hb_0]
      exact ⟨fun q => (by cases q), fun ⟨h, hh, _⟩ => (by have := hh.1; omega)⟩)
  exact key
end Survey
