/-! own words, pure: flow -/
def cr (x : Int32) : Nat → Nat → Nat
  | 0, _ => 0
  | r + 1, i => (hb x i).toNat + cr x r (i + 1)
theorem cr_12 (x : Int32) : cr x 12 0 = cnt x := by
  unfold cnt
  simp only [cr, Nat.reduceAdd]
  omega
theorem ofs_f (x z : Int32) {i : Nat} (hi : i < 32) : v_X8_ofSet_L4 x i z = if bI (hb x i) = 0 then .inl z else if z = 0 then .inr (nI i) else .inl (z + (-1)) := by
  unfold v_X8_ofSet_L4
  rw [bnd_eq (has8 x hi).symm]
theorem lst_f (x : Int32) (m : Nat) (f : Nat → Int32) {i : Nat} (hi : i < 32) : v_X2_list_L4 x 5 i (nI m, f) = if bI (hb x i) = 0 then (nI m, f) else (nI m + 1, v_X4_put (nI m) (nI i) f 5) := by
  show v_X2_list_L4c x 5 i (nI m) f = _
  unfold v_X2_list_L4c
  rw [bnd_eq (has7 x hi).symm, bnd_eq rfl]
theorem list_run (x : Int32) : ∀ (r i m : Nat) (f : Nat → Int32), i + r = 12 → m + cr x r i ≤ 5 → ∃ f' : Nat → Int32, it (v_X2_list_L4 x 5) r i (nI m, f) = (nI (m + cr x r i), f') ∧ (∀ j, j < m → f' j = f j) ∧ ∀ j, m ≤ j → j < m + cr x r i → ∃ c : Nat, c < 12 ∧ f' j = nI c ∧ itx (v_X8_ofSet_L4 x) r i (nI (j - m)) = .inr (nI c)
  | 0, i, m, f, _, _ => ⟨f, rfl, fun _ _ => rfl, fun j h1 h2 => by
      have h2 : j < m + 0 := h2
      omega⟩
  | r + 1, i, m, f, hi, hm => by
    have hm : m + ((hb x i).toNat + cr x r (i + 1)) ≤ 5 := hm
    show ∃ f' : Nat → Int32, it (v_X2_list_L4 x 5) (r + 1) i (nI m, f) = (nI (m + ((hb x i).toNat + cr x r (i + 1))), f') ∧ (∀ j, j < m → f' j = f j) ∧ ∀ j, m ≤ j → j < m + ((hb x i).toNat + cr x r (i + 1)) → ∃ c : Nat, c < 12 ∧ f' j = nI c ∧ itx (v_X8_ofSet_L4 x) (r + 1) i (nI (j - m)) = .inr (nI c)
    rw [it_s, lst_f x m f (by omega)]
    cases hc : hb x i with
    | false =>
      rw [hc] at hm
      have hm : m + (0 + cr x r (i + 1)) ≤ 5 := hm
      rw [ifF, show false.toNat = 0 from rfl, Nat.zero_add]
      rw [Nat.zero_add] at hm
      obtain ⟨f', e1, e2, e3⟩ := list_run x r (i + 1) m f (by omega) hm
      refine ⟨f', e1, e2, fun j h1 h2 => ?_⟩
      obtain ⟨c, h3, h4, h5⟩ := e3 j h1 h2
      refine ⟨c, h3, h4, ?_⟩
      rw [itx_go (s' := nI (j - m)) (by rw [ofs_f x _ (by omega), hc, ifF])]
      exact h5
    | true =>
      rw [hc] at hm
      have hm : m + (1 + cr x r (i + 1)) ≤ 5 := hm
      rw [ifT, show true.toNat = 1 from rfl, nI_1, put_nI (by omega) (by decide), ← Nat.add_assoc]
      rw [← Nat.add_assoc] at hm
      obtain ⟨f', e1, e2, e3⟩ := list_run x r (i + 1) (m + 1) (upd f m (nI i)) (by omega) hm
      refine ⟨f', e1, fun j hj => ?_, fun j h1 h2 => ?_⟩
      · rw [e2 j (by omega), pk_un (by omega)]
      · by_cases q : j = m
        · subst q
          refine ⟨i, by omega, ?_, ?_⟩
          · rw [e2 j (by omega), pk_us]
          · refine itx_out ?_
            rw [ofs_f x _ (by omega), hc, ifT, Nat.sub_self, if_pos nI_0]
        · obtain ⟨c, h3, h4, h5⟩ := e3 j (by omega) h2
          refine ⟨c, h3, h4, ?_⟩
          rw [itx_go (s' := nI (j - (m + 1))) (by
            rw [ofs_f x _ (by omega), hc, ifT, if_neg (nI_ne0 (by omega) (by omega))]
            rw [show j - m = (j - (m + 1)) + 1 by omega, pk_m1])]
          exact h5
theorem list_ok {x : Int32} (h5 : cnt x ≤ 5) (f : Nat → Int32) : ∃ f' : Nat → Int32, v_X2_list x f 5 = (nI (cnt x), f') ∧ ∀ j, j < cnt x → ∃ c : Nat, c < 12 ∧ f' j = nI c ∧ v_X8_ofSet x (nI j) = nI c := by
  obtain ⟨f', e1, e2, e3⟩ := list_run x 12 0 0 f (by decide) (by rw [cr_12]; omega)
  rw [Nat.zero_add, cr_12] at e1 e3
  refine ⟨f', ?_, fun j hj => ?_⟩
  · unfold v_X2_list
    rw [bnd2_eq (show (nI (cnt x), f') = it (v_X2_list_L4 x 5) 12 0 (0, f) from e1.symm)]
  · obtain ⟨c, h3, h4, h6⟩ := e3 j (by omega) hj
    refine ⟨c, h3, h4, ?_⟩
    unfold v_X8_ofSet
    rw [show nI j = nI (j - 0) from rfl, h6]
    rfl
theorem dist_tab : ∀ a, a < 12 → ∀ b, b < 12 → v_X2_distance (nI a) (nI b) = v_X8_far (nI a) (nI b) ∧ v_X8_far (nI a) (nI b) = nI (v_X8_far (nI a) (nI b)).toNatClampNeg ∧ (v_X8_far (nI a) (nI b)).toNatClampNeg ≤ 4 := by decide +kernel
theorem oth_tab : ∀ i, i < 32 → ∀ g, g < 5 → hb (nI i) g = true → nI i &&& (((1 : Int32) <<< (nI g &&& 31)) ^^^ (-1)) = nI (nI i &&& (((1 : Int32) <<< (nI g &&& 31)) ^^^ (-1))).toNatClampNeg ∧ (nI i &&& (((1 : Int32) <<< (nI g &&& 31)) ^^^ (-1))).toNatClampNeg < i := by decide +kernel
theorem cnt_tab1 : ∀ n, n < 6 → ∀ i, i < 32 → (0 < i ∧ i < 2 ^ n) → (1 ≤ cnt (nI i) ∧ cnt (nI i) ≤ n) := by decide +kernel
theorem cnt_tab2 : ∀ n, n < 6 → ∀ i, i < 32 → (0 < i ∧ i < 2 ^ n) → (List.range n).any (fun g => hb (nI i) g) = true := by decide +kernel
theorem cnt_tab (n : Nat) (hn : n < 6) (i : Nat) (hi : i < 32) (h1 : i < 2 ^ n) (h0 : 0 < i) : 1 ≤ cnt (nI i) ∧ cnt (nI i) ≤ n ∧ ¬ ∀ g, g < n → hb (nI i) g = false := by
  obtain ⟨a, b⟩ := cnt_tab1 n hn i hi ⟨h0, h1⟩
  refine ⟨a, b, fun q => ?_⟩
  obtain ⟨g, hg, e⟩ := List.any_eq_true.mp (cnt_tab2 n hn i hi ⟨h0, h1⟩)
  rw [q g (List.mem_range.mp hg)] at e
  cases e
def FR (i : Nat) (zn zm : Nat → Int32) : Prop := ∀ j, j < i → ∃ v : Nat, v ≤ 4 * j ∧ zn j = nI v ∧ zm j = nI v
section Flow
variable {hN hM : Int32} {S G : Nat → Int32}
/-- one set of goals: the net's least moves are the model's -/
theorem flow_in {n i : Nat} (hn : n < 6) (hi : i < 32) (h0 : 0 < i) (hS : ∃ c : Nat, c < 12 ∧ v_X8_ofSet hN (nI (cnt (nI i)) - 1) = nI c) (hG : ∀ j, j < n → ∃ c : Nat, c < 12 ∧ G j = nI c ∧ v_X8_ofSet hM (nI j) = nI c) {zn zm : Nat → Int32} (hz : FR i zn zm) (hne : ¬ ∀ g, g < n → hb (nI i) g = false) : ∃ v : Nat, v ≤ 4 * i ∧ it (v_X2_fewestWith_L8 (v_X8_ofSet hN (nI (cnt (nI i)) - 1)) (nI i) zn G) n 0 1000 = nI v ∧ it (v_X8_flow_L66 hM hN (nI (cnt (nI i))) i) n 0 (upd zm i 999) i = nI v ∧ ∀ j, ¬ j = i → it (v_X8_flow_L66 hM hN (nI (cnt (nI i))) i) n 0 (upd zm i 999) j = zm j := by
  obtain ⟨a, ha, hS⟩ := hS
  have key := it_rel (f := v_X2_fewestWith_L8 (v_X8_ofSet hN (nI (cnt (nI i)) - 1)) (nI i) zn G) (g := v_X8_flow_L66 hM hN (nI (cnt (nI i))) i) n (fun k (s : Int32) (t : Nat → Int32) => (∀ j, ¬ j = i → t j = zm j) ∧ ((s = 1000 ∧ t i = 999 ∧ ∀ g, g < k → hb (nI i) g = false) ∨ ∃ v : Nat, v ≤ 4 * i ∧ s = nI v ∧ t i = nI v)) (fun k s t hk hst => by
    obtain ⟨ht, hst⟩ := hst
    have f7 : v_X2_fewestWith_L8 (v_X8_ofSet hN (nI (cnt (nI i)) - 1)) (nI i) zn G k s = if bI (hb (nI i) k) = 0 then s else if v_X4_at (nI i &&& (((1 : Int32) <<< (nI k &&& 31)) ^^^ (-1))) zn 32 + v_X2_distance (v_X8_ofSet hN (nI (cnt (nI i)) - 1)) (G k) < s then v_X4_at (nI i &&& (((1 : Int32) <<< (nI k &&& 31)) ^^^ (-1))) zn 32 + v_X2_distance (v_X8_ofSet hN (nI (cnt (nI i)) - 1)) (G k) else s := by
      unfold v_X2_fewestWith_L8
      rw [bnd_eq (has7 (nI i) (by omega)).symm, bnd_eq rfl, bnd_eq (at_nI (by omega) (by decide)).symm, bnd_eq rfl, bnd_eq rfl]
    have f8 : v_X8_flow_L66 hM hN (nI (cnt (nI i))) i k t = if bI (hb (nI i) k) = 0 then t else if t i ≤ t (nI i &&& (((1 : Int32) <<< (nI k &&& 31)) ^^^ (-1))).toNatClampNeg + v_X8_far (v_X8_ofSet hN (nI (cnt (nI i)) - 1)) (v_X8_ofSet hM (nI k)) then upd t i (t i) else upd t i (t (nI i &&& (((1 : Int32) <<< (nI k &&& 31)) ^^^ (-1))).toNatClampNeg + v_X8_far (v_X8_ofSet hN (nI (cnt (nI i)) - 1)) (v_X8_ofSet hM (nI k))) := by
      unfold v_X8_flow_L66
      rw [bnd_eq (has8 (nI i) (by omega)).symm, bnd_eq rfl, bnd_eq rfl, bnd_eq rfl, bnd_eq rfl, nI_clamp (by omega)]
    rw [f7, f8]
    cases hc : hb (nI i) k with
    | false =>
      rw [ifF, ifF]
      refine ⟨ht, ?_⟩
      rcases hst with ⟨h1, h2, h3⟩ | h1
      · refine Or.inl ⟨h1, h2, fun g hg => ?_⟩
        by_cases q : g = k
        · subst q; exact hc
        · exact h3 g (by omega)
      · exact Or.inr h1
    | true =>
      rw [ifT, ifT]
      obtain ⟨o1, o2⟩ := oth_tab i hi k (by omega) hc
      obtain ⟨c, hcc, g1, g2⟩ := hG k hk
      obtain ⟨d1, d2, d3⟩ := dist_tab a ha c hcc
      generalize (nI i &&& (((1 : Int32) <<< (nI k &&& 31)) ^^^ (-1))) = u at o1 o2 ⊢
      generalize u.toNatClampNeg = w at o1 o2 ⊢
      subst o1
      obtain ⟨v, hv, z1, z2⟩ := hz w o2
      rw [at_nI (by omega) (by decide), hS, g1, g2, d1, d2, z1, ht w (by omega), z2, nI_add]
      generalize (v_X8_far (nI a) (nI c)).toNatClampNeg = d at d3 ⊢
      refine ⟨?_, Or.inr ?_⟩
      · intro j hj
        split
        · rw [pk_un hj]; exact ht j hj
        · rw [pk_un hj]; exact ht j hj
      · rcases hst with ⟨h1, h2, h3⟩ | ⟨b, hb1, h1, h2⟩
        · rw [h1, h2, if_pos (show nI (v + d) < 1000 from nI_lt (b := 1000) (by omega) (by decide)), if_neg (show ¬ 999 ≤ nI (v + d) from nI_ge (b := 999) (by omega) (by decide)), pk_us]
          exact ⟨v + d, by omega, rfl, rfl⟩
        · rw [h1, h2]
          by_cases q : v + d < b
          · rw [if_pos (nI_lt q (by omega)), if_neg (nI_ge q (by omega)), pk_us]
            exact ⟨v + d, by omega, rfl, rfl⟩
          · rw [if_neg (nI_nlt (by omega) (by omega)), if_pos (nI_le (by omega) (by omega)), pk_us]
            exact ⟨b, hb1, rfl, rfl⟩) n 0 1000 (upd zm i 999) (by omega) ⟨fun j hj => pk_un hj, Or.inl ⟨rfl, pk_us, fun g hg => by omega⟩⟩
  rw [Nat.zero_add] at key
  obtain ⟨k1, k2⟩ := key
  rcases k2 with ⟨_, _, h3⟩ | ⟨v, hv, h1, h2⟩
  · exact absurd h3 hne
  · exact ⟨v, hv, h1, h2, k1⟩
end Flow
theorem few_f {n i : Nat} (hn : n < 6) (hi : i < 32) (h0 : 0 < i) (hin : i < 2 ^ n) (S G z : Nat → Int32) : v_X2_fewestMoves_L37 (nI n) S G i z = upd z i (it (v_X2_fewestWith_L8 (S (cnt (nI i) - 1)) (nI i) z G) n 0 1000) := by
  obtain ⟨c1, c2, c3⟩ := cnt_tab n hn i hi hin h0
  have e : nI (cnt (nI i)) - 1 = nI (cnt (nI i) - 1) := by
    have := nI_pred (cnt (nI i) - 1)
    rwa [show cnt (nI i) - 1 + 1 = cnt (nI i) by omega] at this
  have fw : v_X2_fewestWith (S (cnt (nI i) - 1)) (nI i) (nI n) z G = it (v_X2_fewestWith_L8 (S (cnt (nI i) - 1)) (nI i) z G) n 0 1000 := by
    unfold v_X2_fewestWith
    rw [bnd_eq rfl, nI_clamp (by omega)]
  unfold v_X2_fewestMoves_L37
  rw [bnd_eq (bc_ones (by omega)).symm, e, bnd_eq (at_nI (by omega) (by decide)).symm, bnd_eq fw.symm, bnd_eq (put_nI hi (by decide)).symm]
theorem flo_f {n i : Nat} (h0 : 0 < i) (hi : i < 32) (hn : n < 6) (hM hN : Int32) (z : Nat → Int32) : v_X8_flow_L31 hM hN (nI n) i z = it (v_X8_flow_L66 hM hN (nI (cnt (nI i))) i) n 0 (upd z i 999) := by
  unfold v_X8_flow_L31
  rw [bnd_eq (ones_cnt (nI i)).symm, if_neg (nI_ne0 h0 (by omega)), bnd_eq rfl, nI_clamp (by omega), nI_clamp (by omega)]
theorem flo_0 {n : Nat} (hn : n < 6) (hM hN : Int32) (z : Nat → Int32) : v_X8_flow_L31 hM hN (nI n) 0 z = upd z 0 0 := by
  have h := it_invN (f := v_X8_flow_L66 hM hN (nI (cnt (nI 0))) 0) n (fun _ t => t = upd z 0 0) (fun k t hk ht => by
    have f8 : v_X8_flow_L66 hM hN (nI (cnt (nI 0))) 0 k t = if bI (hb (nI 0) k) = 0 then t else if t (nI 0).toNatClampNeg ≤ t (nI 0 &&& (((1 : Int32) <<< (nI k &&& 31)) ^^^ (-1))).toNatClampNeg + v_X8_far (v_X8_ofSet hN (nI (cnt (nI 0)) - 1)) (v_X8_ofSet hM (nI k)) then upd t (nI 0).toNatClampNeg (t (nI 0).toNatClampNeg) else upd t (nI 0).toNatClampNeg (t (nI 0 &&& (((1 : Int32) <<< (nI k &&& 31)) ^^^ (-1))).toNatClampNeg + v_X8_far (v_X8_ofSet hN (nI (cnt (nI 0)) - 1)) (v_X8_ofSet hM (nI k))) := by
      unfold v_X8_flow_L66
      rw [bnd_eq (has8 (nI 0) (by omega)).symm, bnd_eq rfl, bnd_eq rfl, bnd_eq rfl, bnd_eq rfl]
    show v_X8_flow_L66 hM hN (nI (cnt (nI 0))) 0 k t = upd z 0 0
    rw [f8, show hb (nI 0) k = false from hb_0 k, ifF]
    exact ht) n 0 (upd z 0 0) (by omega) rfl
  unfold v_X8_flow_L31
  rw [bnd_eq (ones_cnt (nI 0)).symm, if_pos (show nI 0 = 0 from rfl), bnd_eq rfl, nI_clamp (by omega), show (nI 0).toNatClampNeg = 0 from nI_clamp (by decide)]
  exact h
theorem m_flow {x nh nr mh mr o1 p1 : Int32} {st go fe le o2 o3 o4 p2 : Nat → Int32} (h : RH nh nr mh mr) (e : (o1, o2, o3, o4) = v_X7_flow x nh st go fe) (e' : (p1, p2) = v_X8_flow x mh le) : o1 = p1 := by
  obtain ⟨hh, t, hh1, h5, ht, rfl, rfl, rfl, rfl⟩ := h
  have f7 : v_X7_flow x (nI hh) st go fe = if bI (v_X7_isHanging x) = 0 then (-2, st, go, fe) else if v_J6_bitCount_0f7a4 x = v_J6_bitCount_0f7a4 (nI hh) then bnd4 (v_X2_fewestMoves (nI hh) x st go fe) (fun a b c d => (a, b, c, d)) else (-3, st, go, fe) := by
    unfold v_X7_flow
    rw [bnd_eq rfl, bnd_eq rfl, bnd_eq rfl]
    rfl
  have f8 : v_X8_flow x (nI hh) le = if bI (v_X8_isHanging x) = 0 then (-2, le) else if v_X8_ones x = v_X8_ones (nI hh) then (it (v_X8_flow_L31 x (nI hh) (v_X8_ones (nI hh))) ((1 : Int32) <<< (v_X8_ones (nI hh) &&& 31)).toNatClampNeg 0 le (((1 : Int32) <<< (v_X8_ones (nI hh) &&& 31)) - 1).toNatClampNeg, it (v_X8_flow_L31 x (nI hh) (v_X8_ones (nI hh))) ((1 : Int32) <<< (v_X8_ones (nI hh) &&& 31)).toNatClampNeg 0 le) else (-3, le) := by
    unfold v_X8_flow
    rw [bnd_eq rfl, bnd_eq rfl, bnd_eq rfl, bnd_eq rfl]
  rw [f7] at e; rw [f8] at e'
  rcases g7 x with ⟨a, b⟩ | ⟨y, hy, hy5, rfl, a, b⟩
  · rw [a, ifF] at e; rw [b, ifF] at e'
    cases e; cases e'; rfl
  · rw [a, ifT, bc_ones hy, bc_ones hh1] at e; rw [b, ifT, ones_cnt, ones_cnt] at e'
    by_cases q : cnt (nI y) = cnt (nI hh)
    · rw [if_pos (by rw [q])] at e; rw [if_pos (by rw [q])] at e'
      obtain ⟨S, s1, s2⟩ := list_ok h5 st
      obtain ⟨G, g1, g2⟩ := list_ok hy5 go
      rw [q] at g1 g2
      generalize cnt (nI hh) = n at *
      have hn : n < 6 := by omega
      have p32 : 2 ^ n ≤ 2 ^ 5 := Nat.pow_le_pow_right (by decide) h5
      have p1' : 1 ≤ 2 ^ n := Nat.one_le_two_pow
      rw [sh_nI n (by omega), nI_clamp (by omega), show nI (2 ^ n) - 1 = nI (2 ^ n - 1) from by rw [← nI_pred (2 ^ n - 1), Nat.sub_add_cancel p1'], nI_clamp (by omega)] at e'
      have fm : v_X2_fewestMoves (nI hh) (nI y) st go fe = (it (v_X2_fewestMoves_L37 (nI n) S G) (2 ^ n - 1) 1 (upd fe 0 0) (2 ^ n - 1), S, G, it (v_X2_fewestMoves_L37 (nI n) S G) (2 ^ n - 1) 1 (upd fe 0 0)) := by
        unfold v_X2_fewestMoves
        rw [bnd2_eq s1.symm, bnd2_eq g1.symm, bnd_eq (show upd fe 0 0 = v_X4_put 0 0 fe 32 from (put_nI (i := 0) (by decide) (by decide)).symm), sh_nI n (by omega), show nI (2 ^ n) - 1 = nI (2 ^ n - 1) from by rw [← nI_pred (2 ^ n - 1), Nat.sub_add_cancel p1'], nI_clamp (by omega), Nat.add_sub_cancel, bnd_eq rfl, bnd_eq (at_nI (by omega) (by decide)).symm]
      rw [bnd4_eq fm.symm] at e
      have key := it_rel (f := v_X2_fewestMoves_L37 (nI n) S G) (g := v_X8_flow_L31 (nI y) (nI hh) (nI n)) (2 ^ n) (fun i zn zm => 1 ≤ i ∧ FR i zn zm) (fun i zn zm hi hz => by
        obtain ⟨h1, hz⟩ := hz
        obtain ⟨c1, c2, c3⟩ := cnt_tab n hn i (by omega) hi (by omega)
        obtain ⟨c, hc, k1, k2⟩ := s2 (cnt (nI i) - 1) (by omega)
        have ek : nI (cnt (nI i)) - 1 = nI (cnt (nI i) - 1) := by
          have := nI_pred (cnt (nI i) - 1)
          rwa [show cnt (nI i) - 1 + 1 = cnt (nI i) by omega] at this
        obtain ⟨v, hv, v1, v2, v3⟩ := flow_in (hN := nI hh) (hM := nI y) (G := G) hn (by omega) (by omega) ⟨c, hc, by rw [ek]; exact k2⟩ g2 hz c3
        rw [few_f hn (by omega) (by omega) hi, flo_f (by omega) (by omega) hn, k1]
        rw [ek, k2] at v1
        rw [v1]
        refine ⟨by omega, fun j hj => ?_⟩
        by_cases ej : j = i
        · subst ej
          exact ⟨v, hv, pk_us, v2⟩
        · obtain ⟨w, hw, w1, w2⟩ := hz j (by omega)
          exact ⟨w, hw, by rw [pk_un ej]; exact w1, by rw [v3 j ej]; exact w2⟩) (2 ^ n - 1) 1 (upd fe 0 0) (upd le 0 0) (by omega) ⟨Nat.le_refl _, fun j hj => by
          have : j = 0 := by omega
          subst this
          exact ⟨0, by omega, pk_us, pk_us⟩⟩
      have e8 : it (v_X8_flow_L31 (nI y) (nI hh) (nI n)) (2 ^ n) 0 le = it (v_X8_flow_L31 (nI y) (nI hh) (nI n)) (2 ^ n - 1) 1 (upd le 0 0) := by
        rw [show 2 ^ n = (2 ^ n - 1) + 1 by omega, it_s, flo_0 hn, show 2 ^ n - 1 + 1 - 1 = 2 ^ n - 1 by omega]
      rw [e8] at e'
      obtain ⟨v, hv, v1, v2⟩ := key.2 (2 ^ n - 1) (by omega)
      cases e; cases e'
      rw [v1, v2]
    · rw [if_neg (fun w => q ((nI_eq (by omega) (by omega)).mp w))] at e
      rw [if_neg (fun w => q ((nI_eq (by omega) (by omega)).mp w))] at e'
      cases e; cases e'; rfl
