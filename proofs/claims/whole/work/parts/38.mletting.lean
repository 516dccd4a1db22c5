/-! own words, pure: fault and letting, as calls -/
theorem RW_cong {pl fhs sps vas ce ne t t' : Nat → Int32} {w : Nat} (hw : w < 5) (e : ∀ j, j < 25 → t' j = t j) (h : RW pl fhs sps vas ce ne t w) : RW pl fhs sps vas ce ne t' w := by
  unfold RW at h ⊢
  rw [e (5 * w) (by omega), e (5 * w + 1) (by omega), e (5 * w + 2) (by omega), e (5 * w + 3) (by omega), e (5 * w + 4) (by omega)]
  exact h
theorem RD_cong {op : Int32} {ow ro a b : Nat → Int32} (e : ∀ j, j < 12 → b j = a j) (h : RD op ow ro a) : RD op ow ro b := by
  obtain ⟨h1, h2, h3⟩ := h
  refine ⟨h1, fun p hp => ?_, fun r hr => ?_⟩
  · rw [e p hp]; exact h2 p hp
  · obtain ⟨m, hm, em, ha, hw⟩ := h3 r hr
    refine ⟨m, hm, em, fun p hp hpr x hx ex => ha p hp hpr x hx (by rw [← e p hp]; exact ex), ?_⟩
    rcases hw with hw | ⟨p, hp, hpr, ep⟩
    · exact Or.inl hw
    · exact Or.inr ⟨p, hp, hpr, by rw [e p hp]; exact ep⟩
theorem LQ_RLs {sq wc op H many owes : Int32} {ow ro pl fhs sps vas ce ne rO rW t a : Nat → Int32} (h : LQ sq wc op ow ro pl fhs sps vas ce ne H many owes rO rW) (e1 : ∀ j, j < 25 → t j = rW j) (e2 : ∀ j, j < 12 → a j = rO j) : RLs wc op pl fhs sps vas ce ne ow ro many t a := by
  obtain ⟨_, _, _, ⟨k, hk, h1, h2, h3⟩, hd, _, _⟩ := h
  exact ⟨⟨k, hk, h1, h2, fun w hw => RW_cong (by omega) e1 (h3 w hw)⟩, RD_cong e2 hd⟩
theorem m_fault {nl ml co nu fh sp va o1 p1 : Int32} {nf mf ow ro pl fhs sps vas ce ne rO rW : Nat → Int32} (h : RT nl nf ml mf) (e : o1 = (v_X7_fault co nu fh sp va ow ro nl nf pl fhs sps vas ce ne).1) (e' : p1 = (v_X8_fault ml mf rO rW).1) : o1 = p1 := by
  obtain ⟨n, hn, rfl, rfl, rfl⟩ := h
  have f7 : (v_X7_fault co nu fh sp va ow ro (nI n) nf pl fhs sps vas ce ne).1 = (v_X3_readThrough co nu fh sp va ow ro (nI n) nf pl fhs sps vas ce ne).1 := rfl
  have f8 : (v_X8_fault (nI n) nf rO rW).1 = (v_X8_readText (nI n) nf rO rW).1 := rfl
  rw [e, e', f7, f8]
  rcases read_ok (f := nf) hn co nu fh sp va ow ro pl fhs sps vas ce ne rO rW with ⟨p, _, h1, h2⟩ | ⟨_, _, _, _, _, _, _, _, _, _, _, _, _, _, _, _, _, _, _, _, _, _, h1, h2, _⟩
  · rw [h1, h2]
  · rw [h1, h2]
theorem slots_9 {f : Nat → Int32} {s : Nat} (hs : s < 2) : v_X7_emptySlots f s = -9 := by
  have e : v_X7_emptySlots f = it v_X7_emptySlots_L2 2 0 f := by
    unfold v_X7_emptySlots
    rw [bnd_eq rfl]
  rw [e]
  refine (it_upd (f := v_X7_emptySlots_L2) (F := fun _ _ => -9) 2 (fun i z hi => ?_) f s).1 hs
  unfold v_X7_emptySlots_L2
  rw [bnd_eq (put_nI hi (by decide)).symm]
theorem m_letting {nh nr nl mh mr ml sz ac nx wc op mw im : Int32} {nf mf mo row sl isK kp pl fhs sps vas ce ne ow ro told owed lw gr be ms : Nat → Int32} {pc pn pf ps pv rp rc rn rf rs rv ls : Int32} {pow pro ppl pfh psp pva pce pne rO rW : Nat → Int32}
    {o1 o2 o3 o4 o5 o6 o7 o8 o9 o15 o16 o17 o19 o20 o21 o22 o23 o24 o25 o26 o27 o37 o38 : Int32} {o10 o11 o12 o13 o14 o18 o28 o29 o30 o31 o32 o33 o34 o35 o36 o39 o40 : Nat → Int32} {p1 p2 p3 p4 p5 p6 p7 p8 p9 p10 : Int32} {p11 p12 p13 p14 p15 : Nat → Int32}
    (ht : RT nl nf ml mf) (hh : RH nh nr mh mr) (ha : RA sz mo ac nx row) (hk : RK sl isK kp) (hL : RLs wc op pl fhs sps vas ce ne ow ro mw told owed) (hs : RS im lw gr be ms mw told owed)
    (e : (o1, o2, o3, o4, o5, o6, o7, o8, o9, o10, o11, o12, o13, o14, o15, o16, o17, o18, o19, o20, o21, o22, o23, o24, o25, o26, o27, o28, o29, o30, o31, o32, o33, o34, o35, o36, o37, o38, o39, o40) = v_X7_letting nh nr pc pn pf ps pv pow pro nl nf ppl pfh psp pva pce pne rp rc rn rf rs rv ls wc op ow ro pl fhs sps vas ce ne im sz sl)
    (e' : (p1, p2, p3, p4, p5, p6, p7, p8, p9, p10, p11, p12, p13, p14, p15) = v_X8_letting mw mh mr ml ac mf rO rW isK owed told) :
    o1 = p1 ∧ RH o2 o3 p9 p10 ∧ RA o38 mo p4 nx row ∧ RK o39 p13 kp ∧ RLs o27 o25 o30 o31 o32 o33 o34 o35 o28 o29 p8 p15 p14 ∧ RS o37 lw gr be ms p8 p15 p14 := by
  obtain ⟨n, hn, rfl, rfl, rfl⟩ := ht
  rcases read_ok (f := nf) hn pc pn pf ps pv pow pro ppl pfh psp pva pce pne rO rW with ⟨p, hp, h1, h2⟩ | ⟨co', nu', fh', sp', va', sq', wc', op', H', many', owes', at', ow', ro', pl', fhs', sps', vas', ce', ne', rO', rW', h1, h2, h3⟩
  · obtain ⟨a1, a2, a3, a4, a5, a6, a7, a8, a9, a10, a11, a12, a13, a14, a15, a16, a17, a18, ha7⟩ := ex18 (v_X3_readThrough pc pn pf ps pv pow pro (nI n) nf ppl pfh psp pva pce pne)
    obtain ⟨b1, b2, b3, b4, b5, b6, b7, b8, hb8⟩ := ex8 (v_X8_readText (nI n) nf rO rW)
    rw [← ha7] at h1
    rw [← hb8] at h2
    have h1 : a1 = nI p := h1
    have h2 : b1 = nI p := h2
    unfold v_X7_letting at e
    unfold v_X8_letting at e'
    rw [bnd18_eq ha7, if_neg (by rw [h1]; exact nI_ne9 (by omega))] at e
    rw [bnd8_eq hb8, if_neg (by rw [h2]; exact nI_ne9 (by omega))] at e'
    cases e; cases e'
    exact ⟨rfl, hh, ha, hk, hL, hs⟩
  · rcases read_ok (f := nf) hn rc rn rf rs rv ow ro pl fhs sps vas ce ne rO rW with ⟨p, hp, g1, g2⟩ | ⟨co'', nu'', fh'', sp'', va'', sq'', wc'', op'', H'', many'', owes'', at'', ow'', ro'', pl'', fhs'', sps'', vas'', ce'', ne'', rO'', rW'', g1, g2, g3⟩
    · rw [h2] at g2
      have g2 : (-9 : Int32) = nI p := g2
      exact absurd g2.symm (nI_ne9 (by omega))
    · rw [h2] at g2
      cases g2
      unfold v_X7_letting at e
      unfold v_X8_letting at e'
      rw [bnd18_eq h1.symm, if_pos rfl, bnd18_eq g1.symm, bnd_eq rfl, bnd_eq rfl, bnd_eq rfl, bnd_eq rfl, bnd_eq rfl] at e
      rw [bnd8_eq h2.symm, if_pos rfl, bnd_eq rfl, bnd_eq rfl] at e'
      have t25 : ∀ j, j < 25 → it (v_X8_letting_L35 rW') 25 0 told j = rW' j := fun j hj => (it_upd (f := v_X8_letting_L35 rW') (F := fun i _ => rW' i) 25 (fun i z hi => by
        show upd z (nI i).toNatClampNeg (rW' (nI i).toNatClampNeg) = upd z i (rW' i)
        rw [nI_clamp (by omega)]) told j).1 hj
      have t12 : ∀ j, j < 12 → it (v_X8_letting_L61 rO') 12 0 owed j = rO' j := fun j hj => (it_upd (f := v_X8_letting_L61 rO') (F := fun i _ => rO' i) 12 (fun i z hi => by
        show upd z (nI i).toNatClampNeg (rO' (nI i).toNatClampNeg) = upd z i (rO' i)
        rw [nI_clamp (by omega)]) owed j).1 hj
      have hRL := LQ_RLs g3 t25 t12
      obtain ⟨eH, s1, s2, ⟨k, hk5, k1, k2, _⟩, _⟩ := g3
      have hRH : RH sq'' 0 H' 0 := by
        rw [← eH]
        exact RH_mk (t := 0) s1 s2 (by decide)
      have hw : wc'' = many' := k1.trans k2.symm
      cases e; cases e'
      obtain ⟨nn, xx, _, hx, _, _, rfl, _⟩ := ha
      refine ⟨hw, hRH, ⟨0, xx, by decide, hx, rfl, rfl, rfl, fun j hj => by omega⟩, fun s hs2 => ?_, hRL, fun q => absurd rfl q⟩
      · refine Or.inl ⟨?_, slots_9 hs2⟩
        have : s = 0 ∨ s = 1 := by omega
        rcases this with rfl | rfl
        · rw [show (1 : Int32).toNatClampNeg = 1 from rfl, show (0 : Int32).toNatClampNeg = 0 from rfl, pk_un (by decide), pk_us]; rfl
        · rw [show (1 : Int32).toNatClampNeg = 1 from rfl, pk_us]; rfl
