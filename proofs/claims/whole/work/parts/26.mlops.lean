/-! own words, pure: calls that read the lease -/
section Lops
variable {wc op mw : Int32} {pl fh sp va ce ne ow ro told owed : Nat → Int32}
theorem eq_ne {a b : Nat} (ha : a < 2 ^ 31) (hb : b < 2 ^ 31) (h : ¬ a = b) : ¬ nI a = nI b := fun q => h ((nI_eq ha hb).mp q)
theorem m_place {x y nh nr mh mr : Int32} (h : RH nh nr mh mr) (hd : RD op ow ro owed) : v_X7_place x y nh nr ow = v_X8_place x y mh mr owed := by
  obtain ⟨h, t, hh, h5, ht, rfl, rfl, rfl, rfl⟩ := h
  have f7 : v_X7_place x y (nI h) (nI t) ow = if bI (v_X7_isCell x) = 0 then -1 else if y = 0 then (if bI (v_X7_has (nI h) (v_X7_cellAbove x (nI t))) = 0 then 0 else 1) else if y = 1 then v_X7_darkHours x (nI h) else if y = 2 then v_X4_at x ow 12 else if y = 3 then v_X7_cellAbove x (nI t) else -2 := rfl
  have f8 : v_X8_place x y (nI h) (nI t) owed = if bI (v_X8_isCell x) = 0 then -1 else if y = 0 then (if bI (v_X8_isDark (nI h) x (nI t)) = 0 then 0 else 1) else if y = 1 then v_X8_darkHours (nI h) x else if y = 2 then owed x.toNatClampNeg else if y = 3 then v_X8_above x (nI t) else -2 := rfl
  rw [f7, f8]
  rcases c7 x with ⟨a, b⟩ | ⟨p, hp, rfl, a, b⟩
  · rw [a, b, ifF, ifF]
  · obtain ⟨e1, e2, e3⟩ := ca_tab p hp t ht
    rw [a, b, ifT, ifT, isDark_ca _ hp ht, has_ca _ hp ht, dk_eq _ hp, at_nI hp (by decide), nI_clamp (by omega), (hd.2.1 p hp).1, e1, e2]
theorem m_worth {x : Int32} (h : RLs wc op pl fh sp va ce ne ow ro mw told owed) : v_X7_worth x wc ce ne va = v_X8_worth x mw told := by
  have f7 : v_X7_worth x wc ce ne va = if bI (v_X7_isHanging x) = 0 then -2 else v_X1_sumOf (v_X1_grantedBy x wc ce ne) wc va := rfl
  have f8 : v_X8_worth x mw told = if bI (v_X8_isHanging x) = 0 then -2 else v_X8_worthOf (v_X8_granted x mw told) mw told := rfl
  rw [f7, f8, sum_eq h, granted_eq h]
  rcases g7 x with ⟨a, b⟩ | ⟨p, hp, h5, e, a, b⟩
  · rw [a, b]
  · rw [a, b]
theorem m_lawful {x : Int32} (hd : RD op ow ro owed) : v_X7_lawful x ro = v_X8_lawful x owed := by
  have f7 : v_X7_lawful x ro = if bI (v_X7_isHanging x) = 0 then -2 else if bI (v_X1_allows x ro) = 0 then 0 else 1 := rfl
  have f8 : v_X8_lawful x owed = if bI (v_X8_isHanging x) = 0 then -2 else if bI (v_X8_isLawful x owed) = 0 then 0 else 1 := by
    unfold v_X8_lawful
    rw [bnd_eq rfl, bnd_eq rfl]
  rw [f7, f8]
  rcases g7 x with ⟨a, b⟩ | ⟨p, hp, h5, rfl, a, b⟩
  · rw [a, b, ifF, ifF]
  · rw [a, b, lawful_eq hd hp]
theorem m_loss {x nh nr mh mr : Int32} (hr : RH nh nr mh mr) (h : RLs wc op pl fh sp va ce ne ow ro mw told owed) : v_X7_loss x nh wc ce ne va = v_X8_loss x mw mh told := by
  obtain ⟨hh, t, hh1, h5, ht, rfl, rfl, rfl, rfl⟩ := hr
  have f7 : v_X7_loss x (nI hh) wc ce ne va = if bI (v_X7_isCell x) = 0 then -1 else if bI (v_X7_has (nI hh) x) = 0 then -3 else ((1000 + v_X1_sumOf (v_X1_grantedBy (nI hh) wc ce ne) wc va) - v_X1_sumOf (v_X1_grantedBy (nI hh &&& (((1 : Int32) <<< (x &&& 31)) ^^^ (-1))) wc ce ne) wc va) := rfl
  have f8 : v_X8_loss x mw (nI hh) told = if bI (v_X8_isCell x) = 0 then -1 else if bI (v_X8_has (nI hh) x) = 0 then -3 else ((v_X8_worthOf (v_X8_granted (nI hh) mw told) mw told - v_X8_worthOf (v_X8_granted (nI hh &&& (((1 : Int32) <<< (x &&& 31)) ^^^ (-1))) mw told) mw told) + 1000) := rfl
  rw [f7, f8, sum_eq h, granted_eq h, sum_eq h, granted_eq h]
  rcases c7 x with ⟨a, b⟩ | ⟨p, hp, rfl, a, b⟩
  · rw [a, b, ifF, ifF]
  · rw [a, b, ifT, ifT, has7 _ (by omega), has8 _ (by omega)]
    rw [Int32.sub_eq_add_neg, Int32.sub_eq_add_neg, Int32.add_assoc, Int32.add_comm]
theorem cl_ne {p f s : Nat} (hp : p < 12) (hf : f < 6) (h1 : 1 ≤ s) (hs : s ≤ 6) : ¬ cl p f s = 0 := by
  intro q
  have hca := (ca_tab p hp ((f + 0) % 6) (by omega)).2.2
  have := (cl_hb (c := ca p ((f + 0) % 6)) hp hf hs (by omega)).mpr ⟨0, by omega, rfl⟩
  rw [q, hb_0] at this
  cases this
theorem m_wish {x y nh nr mh mr : Int32} (hr : RH nh nr mh mr) (h : RLs wc op pl fh sp va ce ne ow ro mw told owed) : v_X7_wish x y nh wc pl fh sp va ne ce = v_X8_wish x y mw mh told := by
  obtain ⟨hh, t, hh1, h5, ht, rfl, rfl, rfl, rfl⟩ := hr
  have f7 : v_X7_wish x y (nI hh) wc pl fh sp va ne ce = if bI (v_X7_isWish x wc) = 0 then -1 else if y = 0 then v_X4_at x pl 5 else if y = 1 then v_X4_at x fh 5 else if y = 2 then v_X4_at x sp 5 else if y = 3 then v_X4_at x va 5 else if y = 4 then (if bI (if v_X4_at x ne 5 = 0 then false else true) = 0 then 0 else 1) else if y = 5 then (if bI (v_X7_has (v_X1_grantedBy (nI hh) wc ce ne) x) = 0 then 0 else 1) else if y = 6 then v_X1_hoursOf x sp fh else -2 := rfl
  have f8 : v_X8_wish x y mw (nI hh) told = if bI (v_X8_isWish x mw) = 0 then -1 else if y = 0 then told ((5 * x) + y).toNatClampNeg else if y = 1 then told ((5 * x) + y).toNatClampNeg else if y = 2 then told ((5 * x) + y).toNatClampNeg else if y = 3 then told ((5 * x) + y).toNatClampNeg else if y = 4 then told ((5 * x) + y).toNatClampNeg else if y = 5 then (if bI (v_X8_grants (nI hh) x told) = 0 then 0 else 1) else if y = 6 then v_X8_hoursOf x told else -2 := rfl
  have hR := h
  obtain ⟨⟨k, hk, rfl, rfl, hw⟩, hd⟩ := h
  rw [f7, f8, granted_eq hR]
  rcases w7 (x := x) hk rfl with ⟨a, b⟩ | ⟨w, hwk, rfl, a, b⟩
  · rw [a, b, ifF, ifF]
  · rw [a, b, ifT, ifT]
    have hW := hw w hwk
    obtain ⟨p, f, s, v, d, hp, hf, hs1, hs, hv1, hv, e1, e2, e3, e4, e5, e6, g1, g2, g3, g4, g5⟩ := hw w hwk
    have ix : ∀ c : Nat, c < 5 → (5 * nI w + nI c).toNatClampNeg = 5 * w + c := fun c hc => by
      rw [show (5 : Int32) = nI 5 from rfl, pk_mul, nI_add, nI_clamp (by omega)]
    by_cases c0 : y = 0
    · rw [if_pos c0, if_pos c0, c0, show (5 * nI w + (0 : Int32)).toNatClampNeg = 5 * w from ix 0 (by decide), at_nI (by omega) (by decide), e1, g1]
    rw [if_neg c0, if_neg c0]
    by_cases c0 : y = 1
    · rw [if_pos c0, if_pos c0, c0, show (5 * nI w + (1 : Int32)).toNatClampNeg = 5 * w + 1 from ix 1 (by decide), at_nI (by omega) (by decide), e2, g2]
    rw [if_neg c0, if_neg c0]
    by_cases c0 : y = 2
    · rw [if_pos c0, if_pos c0, c0, show (5 * nI w + (2 : Int32)).toNatClampNeg = 5 * w + 2 from ix 2 (by decide), at_nI (by omega) (by decide), e3, g3]
    rw [if_neg c0, if_neg c0]
    by_cases c0 : y = 3
    · rw [if_pos c0, if_pos c0, c0, show (5 * nI w + (3 : Int32)).toNatClampNeg = 5 * w + 3 from ix 3 (by decide), at_nI (by omega) (by decide), e4, g4]
    rw [if_neg c0, if_neg c0]
    by_cases c0 : y = 4
    · rw [if_pos c0, if_pos c0, c0, show (5 * nI w + (4 : Int32)).toNatClampNeg = 5 * w + 4 from ix 4 (by decide), at_nI (by omega) (by decide), e6, g5]
      cases d with
      | true => rw [if_pos rfl, if_neg (cl_ne hp hf hs1 hs), ifT]; rfl
      | false => rw [if_neg (show ¬ false = true by decide), if_pos rfl, ifF]; rfl
    rw [if_neg c0, if_neg c0]
    by_cases c0 : y = 5
    · rw [if_pos c0, if_pos c0, has7 _ (by omega)]
      have : hb (v_X8_granted (nI hh) (nI k) told) w = v_X8_grants (nI hh) (nI w) told := by
        rw [Bool.eq_iff_iff, granted_hb hR (by omega), nI_clamp (by omega)]
        exact ⟨fun q => q.2, fun q => ⟨hwk, q⟩⟩
      rw [this]
    rw [if_neg c0, if_neg c0]
    by_cases c0 : y = 6
    · rw [if_pos c0, if_pos c0]
      exact hours_eq (by omega) hW
    rw [if_neg c0, if_neg c0]
theorem owes_eq (hd : RD op ow ro owed) : it (v_X8_count_L4 owed) 12 0 0 = v_X8_ones op := by
  have e8 : v_X8_ones op = it (v_X8_ones_L4 op) 12 0 0 := by
    unfold v_X8_ones
    rw [bnd_eq rfl]
  rw [e8]
  refine it_cong 12 (fun i z hi => ?_) 12 0 0 (by omega)
  show (if owed (nI i).toNatClampNeg ≤ 0 then z + 0 else z + 1) = z + ((op >>> (nI i &&& 31)) &&& 1)
  obtain ⟨_, n, hn, en, eb⟩ := hd.2.1 i hi
  rw [nI_clamp (by omega), en, hb1 op (by omega), eb]
  by_cases h0 : n = 0
  · subst h0
    rw [if_pos (show nI 0 ≤ 0 by decide), decide_eq_false (by simp)]; rfl
  · rw [if_neg (nI_nle (by omega) (by omega)), decide_eq_true h0]; rfl
theorem m_count {x nh nr mh mr cn tl nl ml sz ac dk lt nx : Int32} {tp th td nf mf mo row : Nat → Int32} (hr : RH nh nr mh mr) (ht : RT nl nf ml mf) (ha : RA sz mo ac nx row) (ho : RO dk lt cn tl tp th td) (h : RLs wc op pl fh sp va ce ne ow ro mw told owed) : v_X7_count x nh nr cn nl wc op sz ce ne = v_X8_count x mw mh mr ml ac tl told owed := by
  have f7 : v_X7_count x nh nr cn nl wc op sz ce ne = if x = 0 then nl else if x = 1 then wc else if x = 2 then v_J6_bitCount_0f7a4 op else if x = 3 then v_J6_bitCount_0f7a4 nh else if x = 4 then nr else if x = 5 then nh else if x = 6 then sz else if x = 7 then cn else if x = 8 then v_X1_grantedBy nh wc ce ne else -2 := rfl
  have f8 : v_X8_count x mw mh mr ml ac tl told owed = if x = 0 then ml else if x = 1 then mw else if x = 2 then it (v_X8_count_L4 owed) 12 0 0 else if x = 3 then v_X8_ones mh else if x = 4 then mr else if x = 5 then mh else if x = 6 then ac else if x = 7 then tl else if x = 8 then v_X8_granted mh mw told else -2 := by
    unfold v_X8_count
    rw [bnd_eq rfl]
    rfl
  have hR := h
  obtain ⟨hh, t, hh1, h5, ht2, rfl, rfl, rfl, rfl⟩ := hr
  obtain ⟨n, hn, rfl, rfl, _⟩ := ht
  obtain ⟨n2, xx, _, _, rfl, rfl, rfl, _⟩ := ha
  obtain ⟨n3, _, rfl, rfl, _⟩ := ho
  obtain ⟨⟨k, hk, rfl, rfl, hw⟩, hd⟩ := h
  rw [f7, f8, owes_eq hd, granted_eq hR, bc_ones hh1, ones_cnt, ones_cnt, sm_bc hd.1]
end Lops
