theorem rw_step {many l a fa m2 b fb : Int32} {ft fw fw2 : Nat → Int32} (h : vp_in a 73) (hl : vp_in l 73) (hal : ¬ l ≤ a) (hm : vp_in many 5) (ho : (m2, b, fb, fw2) = v_X8_readWish many l a fa ft fw) : vp_in b 73 ∧ vp_in m2 6 ∧ a.toNatClampNeg + 1 ≤ b.toNatClampNeg := by
  have h1 := vin_s h hl hal
  unfold v_X8_readWish at ho
  obtain ⟨r1, b1, f1, e1⟩ := ex3 (v_X8_two 4095 l (a + 1) fa ft)
  rw [bnd3_eq e1] at ho
  obtain ⟨r2, b2, f2, e2⟩ := ex3 (v_X8_figure 63 l b1 f1 ft)
  rw [bnd3_eq e2] at ho
  obtain ⟨r3, b3, f3, e3⟩ := ex3 (v_X8_figure 126 l b2 f2 ft)
  rw [bnd3_eq e3] at ho
  obtain ⟨r4, b4, f4, e4⟩ := ex3 (v_X8_figure 1022 l b3 f3 ft)
  rw [bnd3_eq e4] at ho
  have q1 := two_at h1 hl e1
  have q2 := fig_at q1 hl e2
  have q3 := fig_at q2 hl e3
  have q4 := fig_at q3 hl e4
  have n1 := two_mono h1 hl e1
  have n2 := fig_mono q1 e2
  have n3 := fig_mono q2 e3
  have n4 := fig_mono q3 e4
  rw [vin_cs h] at n1
  obtain ⟨j, hj, rfl⟩ := vin_j hm (by decide)
  have key1 : ∀ x y, (m2, b, fb, fw2) = (nI j, b4, x, y) → vp_in b 73 ∧ vp_in m2 6 ∧ a.toNatClampNeg + 1 ≤ b.toNatClampNeg := by
    intro x y e
    cases e
    exact ⟨q4, vp_in_nI (by omega) (by decide), by omega⟩
  have key2 : ¬ l ≤ b4 → ∀ x y, (m2, b, fb, fw2) = (nI j + 1, b4 + 1, x, y) → vp_in b 73 ∧ vp_in m2 6 ∧ a.toNatClampNeg + 1 ≤ b.toNatClampNeg := by
    intro hb x y e
    cases e
    refine ⟨vin_s q4 hl hb, by rw [nI_1]; exact vp_in_nI (by omega) (by decide), ?_⟩
    rw [vin_cs q4]; omega
  split at ho
  · split at ho
    · exact key1 _ _ ho
    · rename_i hlb
      split at ho
      · exact key2 hlb _ _ ho
      · split at ho
        · exact key2 hlb _ _ ho
        · exact key1 _ _ ho
  · exact key1 _ _ ho
theorem rp_step9 {c hung many owes l a fa hung2 many2 owes2 b fb : Int32} {fo ft fw fo2 fw2 : Nat → Int32} (h : vp_in a 73) (hl : vp_in l 73) (hal : ¬ l ≤ a) (hm : vp_in many 6) (ho : (hung2, many2, owes2, b, fb, fo2, fw2) = v_X8_readPart c hung many owes l a fa fo ft fw) : vp_in b 73 ∧ vp_in many2 6 ∧ a.toNatClampNeg ≤ b.toNatClampNeg ∧ (fb = -9 → a.toNatClampNeg + 1 ≤ b.toNatClampNeg) := by
  have h1 := vin_s h hl hal
  have keyF : ∀ x1 x2 x3 x4, (hung2, many2, owes2, b, fb, fo2, fw2) = (x1, many, x2, a, v_X8_fail a fa, x3, x4) → vp_in b 73 ∧ vp_in many2 6 ∧ a.toNatClampNeg ≤ b.toNatClampNeg ∧ (fb = -9 → a.toNatClampNeg + 1 ≤ b.toNatClampNeg) := by
    intro x1 x2 x3 x4 e
    cases e
    exact ⟨h, hm, Nat.le_refl _, fun q => absurd q (fail_no h)⟩
  have keyG : ∀ b1 m1, vp_in m1 6 → vp_in b1 73 → a.toNatClampNeg + 1 ≤ b1.toNatClampNeg → ∀ x1 x2 x3 x4 x5, (hung2, many2, owes2, b, fb, fo2, fw2) = (x1, m1, x2, b1, x3, x4, x5) → vp_in b 73 ∧ vp_in many2 6 ∧ a.toNatClampNeg ≤ b.toNatClampNeg ∧ (fb = -9 → a.toNatClampNeg + 1 ≤ b.toNatClampNeg) := by
    intro b1 m1 g1 g2 g3 x1 x2 x3 x4 x5 e
    cases e
    exact ⟨g2, g1, by omega, fun _ => g3⟩
  have keyH : (hung2, many2, owes2, b, fb, fo2, fw2) = (bnd3 (v_X8_two (4095 &&& (hung ^^^ (-1))) l (a + 1) fa ft) fun o_38_1 o_38_2 o_38_3 => (if o_38_3 = (-9) then ((hung ||| ((1 : Int32) <<< (o_38_1 &&& 31))), many, owes, o_38_2, o_38_3, fo, fw) else ((hung ||| 0), many, owes, o_38_2, o_38_3, fo, fw))) → vp_in b 73 ∧ vp_in many2 6 ∧ a.toNatClampNeg ≤ b.toNatClampNeg ∧ (fb = -9 → a.toNatClampNeg + 1 ≤ b.toNatClampNeg) := by
    intro e
    obtain ⟨r1, b1, f1, e1⟩ := ex3 (v_X8_two (4095 &&& (hung ^^^ (-1))) l (a + 1) fa ft)
    rw [bnd3_eq e1] at e
    have n1 := two_mono h1 hl e1
    rw [vin_cs h] at n1
    split at e <;> exact keyG _ _ hm (two_at h1 hl e1) n1 _ _ _ _ _ e
  have keyO : (hung2, many2, owes2, b, fb, fo2, fw2) = (bnd (v_X8_notOwed fo) fun o_117 => (bnd3 (v_X8_two o_117 l (a + 1) fa ft) fun o_120_1 o_120_2 o_120_3 => (bnd3 (v_X8_figure 126 l o_120_2 o_120_3 ft) fun o_127_1 o_127_2 o_127_3 => (if o_127_3 = (-9) then (hung, many, (owes + 1), o_127_2, o_127_3, (upd fo o_120_1.toNatClampNeg o_127_1), fw) else (hung, many, owes, o_127_2, o_127_3, fo, fw))))) → vp_in b 73 ∧ vp_in many2 6 ∧ a.toNatClampNeg ≤ b.toNatClampNeg ∧ (fb = -9 → a.toNatClampNeg + 1 ≤ b.toNatClampNeg) := by
    intro e
    rw [bnd_eq (rfl : v_X8_notOwed fo = v_X8_notOwed fo)] at e
    obtain ⟨r1, b1, f1, e1⟩ := ex3 (v_X8_two (v_X8_notOwed fo) l (a + 1) fa ft)
    rw [bnd3_eq e1] at e
    obtain ⟨r2, b2, f2, e2⟩ := ex3 (v_X8_figure 126 l b1 f1 ft)
    rw [bnd3_eq e2] at e
    have n1 := two_mono h1 hl e1
    rw [vin_cs h] at n1
    have n2 := fig_mono (two_at h1 hl e1) e2
    split at e <;> exact keyG _ _ hm (fig_at (two_at h1 hl e1) hl e2) (by omega) _ _ _ _ _ e
  have keyW : ¬ 5 ≤ many → (hung2, many2, owes2, b, fb, fo2, fw2) = (bnd4 (v_X8_readWish many l a fa ft fw) fun o_85_1 o_85_2 o_85_3 o_85_4 => (hung, o_85_1, owes, o_85_2, o_85_3, fo, o_85_4)) → vp_in b 73 ∧ vp_in many2 6 ∧ a.toNatClampNeg ≤ b.toNatClampNeg ∧ (fb = -9 → a.toNatClampNeg + 1 ≤ b.toNatClampNeg) := by
    intro h5 e
    obtain ⟨m1, b1, f1, w1, e1⟩ := ex4 (v_X8_readWish many l a fa ft fw)
    rw [bnd4_eq e1] at e
    obtain ⟨g1, g2, g3⟩ := rw_step h hl hal (vin_lt (N := 5) hm (vp_in_nI (n := 5) (by decide) (by decide)) h5) e1
    exact keyG _ _ g2 g1 g3 _ _ _ _ _ e
  unfold v_X8_readPart at ho
  rw [bnd_eq (rfl : v_X8_ones hung = v_X8_ones hung)] at ho
  repeat' split at ho
  all_goals first | exact keyF _ _ _ _ ho | exact keyO ho | exact keyH ho | exact keyW (by assumption) ho
