def v_X7_judge_L42 (x1 : Int32) (x2 : Int32) (i42 : Nat) (z42 : Int32) : Sum (Int32) (Int32) :=
  if (x1 - 1) ≤ nI i42 then (bnd (v_X7_afterToldMove z42 ((x2 - x2 / 1000 * 1000) / 10) ((x2 - x2 / 1000 * 1000) - (x2 - x2 / 1000 * 1000) / 10 * 10)) fun o_82 =>
    (if o_82 = (-9) then .inr (nI i42)
    else .inl o_82))
  else (bnd (v_X7_afterToldMove z42 ((x2 / 1000) / 10) ((x2 / 1000) - (x2 / 1000) / 10 * 10)) fun o_82 =>
  (if o_82 = (-9) then .inr (nI i42)
  else .inl o_82))
def v_X7_judge (x1 : Int32) (x2 : Int32) (i_hangingNow : Int32) : Int32 :=
  if x1 < 1 then (-2)
  else (if 2 < x1 then (-2)
  else (if x2 < 0 then (-2)
  else (if x1 = 1 then (if x2 ≤ 999 then (mch (itx (v_X7_judge_L42 x1 x2) x1.toNatClampNeg 0 i_hangingNow) fun s42 =>
      (-9))
    else (-2))
  else (if x2 ≤ 999999 then (mch (itx (v_X7_judge_L42 x1 x2) x1.toNatClampNeg 0 i_hangingNow) fun s42 =>
    (-9))
  else (-2)))))
abbrev rm_X7_judge : Room := { frames := 3, cells := 0, slots := 0, locals := 67 }
set_option maxHeartbeats 4000000 in
set_option maxRecDepth 100000 in
theorem k_X7_judge (l : Launch) (D : va_G) (cI cZ : ClassId) (a a_text a_lease a_reader a_prover a_survey a_paths a_acts a_slots : Nat) (x1 : Int32) (x2 : Int32) (i_hangingNow : Int32) (i_hourNow : Int32) (i_toldDark : Int32) (i_toldLight : Int32) (i_toldCount : Int32) (j_seedNow : Int64) : KI l D cI cZ yX7_judge wsX7_judge rm_X7_judge [.ref a, .int x1, .int x2] [(a, .inr (7, [.ref a_text, .ref a_lease, .ref a_reader, .ref a_prover, .ref a_survey, .ref a_paths, .ref a_acts, .ref a_slots, .int i_hangingNow, .int i_hourNow, .int i_toldDark, .int i_toldLight, .int i_toldCount, .long j_seedNow]))] (v_X7_judge x1 x2 i_hangingNow) (fun o : Int32 => o) (fun _ : Int32 => [(a, .inr (7, [.ref a_text, .ref a_lease, .ref a_reader, .ref a_prover, .ref a_survey, .ref a_paths, .ref a_acts, .ref a_slots, .int i_hangingNow, .int i_hourNow, .int i_toldDark, .int i_toldLight, .int i_toldCount, .long j_seedNow]))]) := by
  refine KI.of cX7_judge 6 (some .int) (by decide) rfl (Nat.le_of_ble_eq_true rfl) ?_
  intro p e s m below meth c A ls ar Q hQ B
  obtain ⟨hx, hb, hr, hml, hts, hown, hlk, hK, hN, hP, hD, hA, hS, hl⟩ := B
  have hown : s.vm.findClass RX7 = some m.cls := hown
  have hF : CallFix p m c cX7_judge 6 s ar wsX7_judge RX7 := ⟨hx, hb, hml, hown, hts⟩
  have hl : lv_has ls 6 [(0, .ref a), (1, .int x1), (2, .int x2)] := hl
  refine lv_iload_n hx hb dX7_judge_0 rfl (lv_at hl 1 rfl) ?_
  refine lv_iconst (v := 1) hx hb dX7_judge_1 rfl ?_
  refine lv_icmp_lt (tgt := 31) hx hb dX7_judge_2 (by decide) (fun c_2 => ?_) (fun c_2 => ?_)
  · refine lv_bipush (v := (-2)) hx hb dX7_judge_31 rfl ?_
    have e9 : v_X7_judge x1 x2 i_hangingNow = (-2) := by
      refine (if_pos c_2).trans ?_
      rfl
    rw [hQ]; exact retI (-2) hx hb hr hlk e9 hP rfl hS dX7_judge_33
  · refine lv_iload_n hx hb dX7_judge_5 rfl (lv_at hl 1 rfl) ?_
    refine lv_iconst (v := 2) hx hb dX7_judge_6 rfl ?_
    refine lv_icmp_gt (tgt := 31) hx hb dX7_judge_7 (by decide) (fun c_7 => ?_) (fun c_7 => ?_)
    · refine lv_bipush (v := (-2)) hx hb dX7_judge_31 rfl ?_
      have e9 : v_X7_judge x1 x2 i_hangingNow = (-2) := by
        refine (if_neg c_2).trans ?_
        refine (if_pos c_7).trans ?_
        rfl
      rw [hQ]; exact retI (-2) hx hb hr hlk e9 hP rfl hS dX7_judge_33
    · refine lv_iload_n hx hb dX7_judge_10 rfl (lv_at hl 2 rfl) ?_
      refine lv_if_lt (tgt := 31) hx hb dX7_judge_11 (by decide) (fun c_11 => ?_) (fun c_11 => ?_)
      · refine lv_bipush (v := (-2)) hx hb dX7_judge_31 rfl ?_
        have e9 : v_X7_judge x1 x2 i_hangingNow = (-2) := by
          refine (if_neg c_2).trans ?_
          refine (if_neg c_7).trans ?_
          refine (if_pos c_11).trans ?_
          rfl
        rw [hQ]; exact retI (-2) hx hb hr hlk e9 hP rfl hS dX7_judge_33
      · refine lv_iload_n hx hb dX7_judge_14 rfl (lv_at hl 2 rfl) ?_
        refine lv_iload_n hx hb dX7_judge_15 rfl (lv_at hl 1 rfl) ?_
        refine lv_iconst (v := 1) hx hb dX7_judge_16 rfl ?_
        refine lv_icmp_ne (tgt := 26) hx hb dX7_judge_17 (by decide) (fun c_17 => ?_) (fun c_17 => ?_)
        · refine lv_ldc (v := 999999) hx hb hown (hts _ (List.mem_of_getElem? (i := 1) rfl)) dX7_judge_26 ?_
          refine lv_icmp_le (tgt := 34) hx hb dX7_judge_28 (by decide) (fun c_28 => ?_) (fun c_28 => ?_)
          · refine lv_aload_n hx hb dX7_judge_34 rfl (lv_at hl 0 rfl) ?_
            refine va_get (D := D) (ci := 7) (v := .int i_hangingNow) (C := RX7) (T := TX7) (N := 14) hx hb hts (fun _ h => List.mem_cons_of_mem _ (List.mem_append_right _ (h))) hown hK hP 0 rfl rfl 8 (by decide) (hts _ (List.mem_of_getElem? (i := 2) rfl)) (fun _ h9 => h9) rfl dX7_judge_35 ?_
            refine lv_istore_n (lv' := [(3, .int i_hangingNow), (0, .ref a), (1, .int x1), (2, .int x2)]) hx hb dX7_judge_38 rfl hl (by decide) rfl (fun ls hl => ?_)
            refine lv_iconst (v := 0) hx hb dX7_judge_39 rfl ?_
            refine lv_istore (lv' := [(4, .int 0), (3, .int i_hangingNow), (0, .ref a), (1, .int x1), (2, .int x2)]) hx hb dX7_judge_40 hl (by decide) rfl (fun ls hl => ?_)
            obtain ⟨o_L42, ho_L42⟩ : ∃ z : Sum (Int32) (Int32), z = itx (v_X7_judge_L42 x1 x2) x1.toNatClampNeg 0 i_hangingNow := ⟨_, rfl⟩
            have kE42 : ∀ s42 : Int32, o_L42 = .inl s42 → ∀ (H : Heap) (locs : List Loc) (ls : Array Slot), va_P D vwCl [(a, .inr (7, [.ref a_text, .ref a_lease, .ref a_reader, .ref a_prover, .ref a_survey, .ref a_paths, .ref a_acts, .ref a_slots, .int i_hangingNow, .int i_hourNow, .int i_toldDark, .int i_toldLight, .int i_toldCount, .long j_seedNow]))] H → va_S A s.heap H locs → lv_has ls 6 [] → W p l e rm_X7_judge s m ar below meth c H locs 0 0 Q (F0 m 101 ls []) := by
              intro s42 hs42 H locs ls hP hS hl
              refine lv_bipush (v := (-9)) hx hb dX7_judge_101 rfl ?_
              have e9 : v_X7_judge x1 x2 i_hangingNow = (-9) := by
                refine (if_neg c_2).trans ?_
                refine (if_neg c_7).trans ?_
                refine (if_neg c_11).trans ?_
                refine (if_neg c_17).trans ?_
                refine (if_pos c_28).trans ?_
                refine ((mch_eq ho_L42).trans (mch_l hs42)).trans ?_
                rfl
              rw [hQ]; exact retI (-9) hx hb hr hlk e9 hP rfl hS dX7_judge_103
            have loop42 : ∀ (k i42 : Nat) (z42 : Int32), 0 ≤ i42 → i42 + k = 0 + x1.toNatClampNeg → itx (v_X7_judge_L42 x1 x2) k i42 z42 = o_L42 → ∀ (H : Heap) (locs : List Loc) (ls : Array Slot), va_P D vwCl [(a, .inr (7, [.ref a_text, .ref a_lease, .ref a_reader, .ref a_prover, .ref a_survey, .ref a_paths, .ref a_acts, .ref a_slots, .int i_hangingNow, .int i_hourNow, .int i_toldDark, .int i_toldLight, .int i_toldCount, .long j_seedNow]))] H → va_S A s.heap H locs → lv_has ls 6 [(4, .int (nI i42)), (3, .int z42), (1, .int x1), (2, .int x2)] → W p l e rm_X7_judge s m ar below meth c H locs 0 0 Q (F0 m 42 ls []) := by
              intro k
              induction k with
              | zero =>
                intro i42 z42 hi0 hik hz H locs ls hP hS hl
                have hz : .inl z42 = o_L42 := itx_0 hz
                refine lv_iload hx hb dX7_judge_42 (lv_at hl 0 rfl) ?_
                refine lv_iload_n hx hb dX7_judge_44 rfl (lv_at hl 2 rfl) ?_
                refine lv_icmp_ge (tgt := 101) hx hb dX7_judge_45 (by decide) (fun _ => ?_) (fun c => absurd (cb_ge (by omega) (by have := cb_lt31 x1; omega)) c)
                exact kE42 z42 hz.symm _ _ _ hP hS (lv_sub hl [] rfl)
              | succ k ih =>
                intro i42 z42 hi0 hik hz H locs ls hP hS hl
                refine lv_iload hx hb dX7_judge_42 (lv_at hl 0 rfl) ?_
                refine lv_iload_n hx hb dX7_judge_44 rfl (lv_at hl 2 rfl) ?_
                refine lv_icmp_ge (tgt := 101) hx hb dX7_judge_45 (by decide) (fun c => absurd c (cb_lt (by omega))) (fun _ => ?_)
                refine lv_iload hx hb dX7_judge_48 (lv_at hl 0 rfl) ?_
                refine lv_iload_n hx hb dX7_judge_50 rfl (lv_at hl 2 rfl) ?_
                refine lv_iconst (v := 1) hx hb dX7_judge_51 rfl ?_
                refine lv_isub hx hb dX7_judge_52 ?_
                refine lv_icmp_ge (tgt := 64) hx hb dX7_judge_53 (by decide) (fun c_53 => ?_) (fun c_53 => ?_)
                · refine lv_iload_n hx hb dX7_judge_64 rfl (lv_at hl 3 rfl) ?_
                  refine lv_sipush (v := 1000) hx hb dX7_judge_65 rfl ?_
                  refine lv_irem hx hb dX7_judge_68 (by decide) ?_
                  refine lv_istore (lv' := [(5, .int (x2 - x2 / 1000 * 1000)), (4, .int (nI i42)), (3, .int z42), (1, .int x1), (2, .int x2)]) hx hb dX7_judge_69 hl (by decide) rfl (fun ls hl => ?_)
                  refine lv_iload_n hx hb dX7_judge_71 rfl (lv_at hl 2 rfl) ?_
                  refine lv_iload hx hb dX7_judge_72 (lv_at hl 0 rfl) ?_
                  refine lv_bipush (v := 10) hx hb dX7_judge_74 rfl ?_
                  refine lv_idiv hx hb dX7_judge_76 (by decide) ?_
                  refine lv_iload hx hb dX7_judge_77 (lv_at hl 0 rfl) ?_
                  refine lv_bipush (v := 10) hx hb dX7_judge_79 rfl ?_
                  refine lv_irem hx hb dX7_judge_81 (by decide) ?_
                  obtain ⟨o_82, ho_82⟩ : ∃ z : Int32, z = v_X7_afterToldMove z42 ((x2 - x2 / 1000 * 1000) / 10) ((x2 - x2 / 1000 * 1000) - (x2 - x2 / 1000 * 1000) / 10 * 10) := ⟨_, rfl⟩
                  refine callSIs (As := [.int z42, .int ((x2 - x2 / 1000 * 1000) / 10), .int ((x2 - x2 / 1000 * 1000) - (x2 - x2 / 1000 * 1000) / 10 * 10)]) (rest := []) o_82 ho_82 hF (k_X7_afterToldMove l D cI cZ z42 ((x2 - x2 / 1000 * 1000) / 10) ((x2 - x2 / 1000 * 1000) - (x2 - x2 / 1000 * 1000) / 10 * 10)) (va_cwS 3 hts gX7_judge_X7_afterToldMove rfl rfl rfl (by decide +kernel) ⟨Nat.le_of_ble_eq_true rfl, Nat.le_of_ble_eq_true rfl⟩) hK hN hP (va_Dsame hD rfl) hS hA [] rfl rfl rfl hl.1 rfl (Nat.le_of_ble_eq_true rfl) dX7_judge_82 ⟨Nat.zero_le _, Nat.zero_le _⟩ o_82 rfl rfl (fun H locs hP hS => ?_)
                  refine lv_istore_n (lv' := [(3, .int o_82), (5, .int (x2 - x2 / 1000 * 1000)), (4, .int (nI i42)), (1, .int x1), (2, .int x2)]) hx hb dX7_judge_85 rfl hl (by decide) rfl (fun ls hl => ?_)
                  refine lv_iload_n hx hb dX7_judge_86 rfl (lv_at hl 0 rfl) ?_
                  refine lv_bipush (v := (-9)) hx hb dX7_judge_87 rfl ?_
                  refine lv_icmp_ne (tgt := 95) hx hb dX7_judge_89 (by decide) (fun c_89 => ?_) (fun c_89 => ?_)
                  · refine lv_iinc (v := (nI (i42 + 1))) (lv' := [(4, .int (nI (i42 + 1))), (3, .int o_82), (5, .int (x2 - x2 / 1000 * 1000)), (1, .int x1), (2, .int x2)]) hx hb dX7_judge_95 hl (k := 2) rfl (nI_1 _) (by decide) rfl (fun ls hl => ?_)
                    refine lv_goto (tgt := 42) hx hb dX7_judge_98 (by decide) ?_
                    have e8 : v_X7_judge_L42 x1 x2 i42 z42 = .inl o_82 := by
                      refine (if_pos c_53).trans ?_
                      refine (bnd_eq ho_82).trans ?_
                      refine (if_neg c_89).trans ?_
                      rfl
                    exact ih (i42 + 1) o_82 (by omega) (by omega) ((itx_go e8).symm.trans hz) _ _ _ hP hS (lv_sub hl [0, 1, 3, 4] rfl)
                  · refine lv_iload hx hb dX7_judge_92 (lv_at hl 2 rfl) ?_
                    have e8 : v_X7_judge_L42 x1 x2 i42 z42 = .inr (nI i42) := by
                      refine (if_pos c_53).trans ?_
                      refine (bnd_eq ho_82).trans ?_
                      refine (if_pos c_89).trans ?_
                      rfl
                    have e7 : .inr (nI i42) = o_L42 := (itx_out e8).symm.trans hz
                    have e9 : v_X7_judge x1 x2 i_hangingNow = nI i42 := by
                      refine (if_neg c_2).trans ?_
                      refine (if_neg c_7).trans ?_
                      refine (if_neg c_11).trans ?_
                      refine (if_neg c_17).trans ?_
                      refine (if_pos c_28).trans ?_
                      refine (mch_eq ho_L42).trans ?_
                      rw [← e7]; rfl
                    rw [hQ]; exact retI (nI i42) hx hb hr hlk e9 hP rfl hS dX7_judge_94
                · refine lv_iload_n hx hb dX7_judge_56 rfl (lv_at hl 3 rfl) ?_
                  refine lv_sipush (v := 1000) hx hb dX7_judge_57 rfl ?_
                  refine lv_idiv hx hb dX7_judge_60 (by decide) ?_
                  refine lv_goto (tgt := 69) hx hb dX7_judge_61 (by decide) ?_
                  refine lv_istore (lv' := [(5, .int (x2 / 1000)), (4, .int (nI i42)), (3, .int z42), (1, .int x1), (2, .int x2)]) hx hb dX7_judge_69 hl (by decide) rfl (fun ls hl => ?_)
                  refine lv_iload_n hx hb dX7_judge_71 rfl (lv_at hl 2 rfl) ?_
                  refine lv_iload hx hb dX7_judge_72 (lv_at hl 0 rfl) ?_
                  refine lv_bipush (v := 10) hx hb dX7_judge_74 rfl ?_
                  refine lv_idiv hx hb dX7_judge_76 (by decide) ?_
                  refine lv_iload hx hb dX7_judge_77 (lv_at hl 0 rfl) ?_
                  refine lv_bipush (v := 10) hx hb dX7_judge_79 rfl ?_
                  refine lv_irem hx hb dX7_judge_81 (by decide) ?_
                  obtain ⟨o_82, ho_82⟩ : ∃ z : Int32, z = v_X7_afterToldMove z42 ((x2 / 1000) / 10) ((x2 / 1000) - (x2 / 1000) / 10 * 10) := ⟨_, rfl⟩
                  refine callSIs (As := [.int z42, .int ((x2 / 1000) / 10), .int ((x2 / 1000) - (x2 / 1000) / 10 * 10)]) (rest := []) o_82 ho_82 hF (k_X7_afterToldMove l D cI cZ z42 ((x2 / 1000) / 10) ((x2 / 1000) - (x2 / 1000) / 10 * 10)) (va_cwS 3 hts gX7_judge_X7_afterToldMove rfl rfl rfl (by decide +kernel) ⟨Nat.le_of_ble_eq_true rfl, Nat.le_of_ble_eq_true rfl⟩) hK hN hP (va_Dsame hD rfl) hS hA [] rfl rfl rfl hl.1 rfl (Nat.le_of_ble_eq_true rfl) dX7_judge_82 ⟨Nat.zero_le _, Nat.zero_le _⟩ o_82 rfl rfl (fun H locs hP hS => ?_)
                  refine lv_istore_n (lv' := [(3, .int o_82), (5, .int (x2 / 1000)), (4, .int (nI i42)), (1, .int x1), (2, .int x2)]) hx hb dX7_judge_85 rfl hl (by decide) rfl (fun ls hl => ?_)
                  refine lv_iload_n hx hb dX7_judge_86 rfl (lv_at hl 0 rfl) ?_
                  refine lv_bipush (v := (-9)) hx hb dX7_judge_87 rfl ?_
                  refine lv_icmp_ne (tgt := 95) hx hb dX7_judge_89 (by decide) (fun c_89 => ?_) (fun c_89 => ?_)
                  · refine lv_iinc (v := (nI (i42 + 1))) (lv' := [(4, .int (nI (i42 + 1))), (3, .int o_82), (5, .int (x2 / 1000)), (1, .int x1), (2, .int x2)]) hx hb dX7_judge_95 hl (k := 2) rfl (nI_1 _) (by decide) rfl (fun ls hl => ?_)
                    refine lv_goto (tgt := 42) hx hb dX7_judge_98 (by decide) ?_
                    have e8 : v_X7_judge_L42 x1 x2 i42 z42 = .inl o_82 := by
                      refine (if_neg c_53).trans ?_
                      refine (bnd_eq ho_82).trans ?_
                      refine (if_neg c_89).trans ?_
                      rfl
                    exact ih (i42 + 1) o_82 (by omega) (by omega) ((itx_go e8).symm.trans hz) _ _ _ hP hS (lv_sub hl [0, 1, 3, 4] rfl)
                  · refine lv_iload hx hb dX7_judge_92 (lv_at hl 2 rfl) ?_
                    have e8 : v_X7_judge_L42 x1 x2 i42 z42 = .inr (nI i42) := by
                      refine (if_neg c_53).trans ?_
                      refine (bnd_eq ho_82).trans ?_
                      refine (if_pos c_89).trans ?_
                      rfl
                    have e7 : .inr (nI i42) = o_L42 := (itx_out e8).symm.trans hz
                    have e9 : v_X7_judge x1 x2 i_hangingNow = nI i42 := by
                      refine (if_neg c_2).trans ?_
                      refine (if_neg c_7).trans ?_
                      refine (if_neg c_11).trans ?_
                      refine (if_neg c_17).trans ?_
                      refine (if_pos c_28).trans ?_
                      refine (mch_eq ho_L42).trans ?_
                      rw [← e7]; rfl
                    rw [hQ]; exact retI (nI i42) hx hb hr hlk e9 hP rfl hS dX7_judge_94
            exact loop42 x1.toNatClampNeg 0 i_hangingNow (Nat.le_refl _) rfl ho_L42.symm _ _ _ hP hS (lv_sub hl [0, 1, 3, 4] rfl)
          · refine lv_bipush (v := (-2)) hx hb dX7_judge_31 rfl ?_
            have e9 : v_X7_judge x1 x2 i_hangingNow = (-2) := by
              refine (if_neg c_2).trans ?_
              refine (if_neg c_7).trans ?_
              refine (if_neg c_11).trans ?_
              refine (if_neg c_17).trans ?_
              refine (if_neg c_28).trans ?_
              rfl
            rw [hQ]; exact retI (-2) hx hb hr hlk e9 hP rfl hS dX7_judge_33
        · refine lv_sipush (v := 999) hx hb dX7_judge_20 rfl ?_
          refine lv_goto (tgt := 28) hx hb dX7_judge_23 (by decide) ?_
          refine lv_icmp_le (tgt := 34) hx hb dX7_judge_28 (by decide) (fun c_28 => ?_) (fun c_28 => ?_)
          · refine lv_aload_n hx hb dX7_judge_34 rfl (lv_at hl 0 rfl) ?_
            refine va_get (D := D) (ci := 7) (v := .int i_hangingNow) (C := RX7) (T := TX7) (N := 14) hx hb hts (fun _ h => List.mem_cons_of_mem _ (List.mem_append_right _ (h))) hown hK hP 0 rfl rfl 8 (by decide) (hts _ (List.mem_of_getElem? (i := 2) rfl)) (fun _ h9 => h9) rfl dX7_judge_35 ?_
            refine lv_istore_n (lv' := [(3, .int i_hangingNow), (0, .ref a), (1, .int x1), (2, .int x2)]) hx hb dX7_judge_38 rfl hl (by decide) rfl (fun ls hl => ?_)
            refine lv_iconst (v := 0) hx hb dX7_judge_39 rfl ?_
            refine lv_istore (lv' := [(4, .int 0), (3, .int i_hangingNow), (0, .ref a), (1, .int x1), (2, .int x2)]) hx hb dX7_judge_40 hl (by decide) rfl (fun ls hl => ?_)
            obtain ⟨o_L42, ho_L42⟩ : ∃ z : Sum (Int32) (Int32), z = itx (v_X7_judge_L42 x1 x2) x1.toNatClampNeg 0 i_hangingNow := ⟨_, rfl⟩
            have kE42 : ∀ s42 : Int32, o_L42 = .inl s42 → ∀ (H : Heap) (locs : List Loc) (ls : Array Slot), va_P D vwCl [(a, .inr (7, [.ref a_text, .ref a_lease, .ref a_reader, .ref a_prover, .ref a_survey, .ref a_paths, .ref a_acts, .ref a_slots, .int i_hangingNow, .int i_hourNow, .int i_toldDark, .int i_toldLight, .int i_toldCount, .long j_seedNow]))] H → va_S A s.heap H locs → lv_has ls 6 [] → W p l e rm_X7_judge s m ar below meth c H locs 0 0 Q (F0 m 101 ls []) := by
              intro s42 hs42 H locs ls hP hS hl
              refine lv_bipush (v := (-9)) hx hb dX7_judge_101 rfl ?_
              have e9 : v_X7_judge x1 x2 i_hangingNow = (-9) := by
                refine (if_neg c_2).trans ?_
                refine (if_neg c_7).trans ?_
                refine (if_neg c_11).trans ?_
                refine (if_pos c_17).trans ?_
                refine (if_pos c_28).trans ?_
                refine ((mch_eq ho_L42).trans (mch_l hs42)).trans ?_
                rfl
              rw [hQ]; exact retI (-9) hx hb hr hlk e9 hP rfl hS dX7_judge_103
            have loop42 : ∀ (k i42 : Nat) (z42 : Int32), 0 ≤ i42 → i42 + k = 0 + x1.toNatClampNeg → itx (v_X7_judge_L42 x1 x2) k i42 z42 = o_L42 → ∀ (H : Heap) (locs : List Loc) (ls : Array Slot), va_P D vwCl [(a, .inr (7, [.ref a_text, .ref a_lease, .ref a_reader, .ref a_prover, .ref a_survey, .ref a_paths, .ref a_acts, .ref a_slots, .int i_hangingNow, .int i_hourNow, .int i_toldDark, .int i_toldLight, .int i_toldCount, .long j_seedNow]))] H → va_S A s.heap H locs → lv_has ls 6 [(4, .int (nI i42)), (3, .int z42), (1, .int x1), (2, .int x2)] → W p l e rm_X7_judge s m ar below meth c H locs 0 0 Q (F0 m 42 ls []) := by
              intro k
              induction k with
              | zero =>
                intro i42 z42 hi0 hik hz H locs ls hP hS hl
                have hz : .inl z42 = o_L42 := itx_0 hz
                refine lv_iload hx hb dX7_judge_42 (lv_at hl 0 rfl) ?_
                refine lv_iload_n hx hb dX7_judge_44 rfl (lv_at hl 2 rfl) ?_
                refine lv_icmp_ge (tgt := 101) hx hb dX7_judge_45 (by decide) (fun _ => ?_) (fun c => absurd (cb_ge (by omega) (by have := cb_lt31 x1; omega)) c)
                exact kE42 z42 hz.symm _ _ _ hP hS (lv_sub hl [] rfl)
              | succ k ih =>
                intro i42 z42 hi0 hik hz H locs ls hP hS hl
                refine lv_iload hx hb dX7_judge_42 (lv_at hl 0 rfl) ?_
                refine lv_iload_n hx hb dX7_judge_44 rfl (lv_at hl 2 rfl) ?_
                refine lv_icmp_ge (tgt := 101) hx hb dX7_judge_45 (by decide) (fun c => absurd c (cb_lt (by omega))) (fun _ => ?_)
                refine lv_iload hx hb dX7_judge_48 (lv_at hl 0 rfl) ?_
                refine lv_iload_n hx hb dX7_judge_50 rfl (lv_at hl 2 rfl) ?_
                refine lv_iconst (v := 1) hx hb dX7_judge_51 rfl ?_
                refine lv_isub hx hb dX7_judge_52 ?_
                refine lv_icmp_ge (tgt := 64) hx hb dX7_judge_53 (by decide) (fun c_53 => ?_) (fun c_53 => ?_)
                · refine lv_iload_n hx hb dX7_judge_64 rfl (lv_at hl 3 rfl) ?_
                  refine lv_sipush (v := 1000) hx hb dX7_judge_65 rfl ?_
                  refine lv_irem hx hb dX7_judge_68 (by decide) ?_
                  refine lv_istore (lv' := [(5, .int (x2 - x2 / 1000 * 1000)), (4, .int (nI i42)), (3, .int z42), (1, .int x1), (2, .int x2)]) hx hb dX7_judge_69 hl (by decide) rfl (fun ls hl => ?_)
                  refine lv_iload_n hx hb dX7_judge_71 rfl (lv_at hl 2 rfl) ?_
                  refine lv_iload hx hb dX7_judge_72 (lv_at hl 0 rfl) ?_
                  refine lv_bipush (v := 10) hx hb dX7_judge_74 rfl ?_
                  refine lv_idiv hx hb dX7_judge_76 (by decide) ?_
                  refine lv_iload hx hb dX7_judge_77 (lv_at hl 0 rfl) ?_
                  refine lv_bipush (v := 10) hx hb dX7_judge_79 rfl ?_
                  refine lv_irem hx hb dX7_judge_81 (by decide) ?_
                  obtain ⟨o_82, ho_82⟩ : ∃ z : Int32, z = v_X7_afterToldMove z42 ((x2 - x2 / 1000 * 1000) / 10) ((x2 - x2 / 1000 * 1000) - (x2 - x2 / 1000 * 1000) / 10 * 10) := ⟨_, rfl⟩
                  refine callSIs (As := [.int z42, .int ((x2 - x2 / 1000 * 1000) / 10), .int ((x2 - x2 / 1000 * 1000) - (x2 - x2 / 1000 * 1000) / 10 * 10)]) (rest := []) o_82 ho_82 hF (k_X7_afterToldMove l D cI cZ z42 ((x2 - x2 / 1000 * 1000) / 10) ((x2 - x2 / 1000 * 1000) - (x2 - x2 / 1000 * 1000) / 10 * 10)) (va_cwS 3 hts gX7_judge_X7_afterToldMove rfl rfl rfl (by decide +kernel) ⟨Nat.le_of_ble_eq_true rfl, Nat.le_of_ble_eq_true rfl⟩) hK hN hP (va_Dsame hD rfl) hS hA [] rfl rfl rfl hl.1 rfl (Nat.le_of_ble_eq_true rfl) dX7_judge_82 ⟨Nat.zero_le _, Nat.zero_le _⟩ o_82 rfl rfl (fun H locs hP hS => ?_)
                  refine lv_istore_n (lv' := [(3, .int o_82), (5, .int (x2 - x2 / 1000 * 1000)), (4, .int (nI i42)), (1, .int x1), (2, .int x2)]) hx hb dX7_judge_85 rfl hl (by decide) rfl (fun ls hl => ?_)
                  refine lv_iload_n hx hb dX7_judge_86 rfl (lv_at hl 0 rfl) ?_
                  refine lv_bipush (v := (-9)) hx hb dX7_judge_87 rfl ?_
                  refine lv_icmp_ne (tgt := 95) hx hb dX7_judge_89 (by decide) (fun c_89 => ?_) (fun c_89 => ?_)
                  · refine lv_iinc (v := (nI (i42 + 1))) (lv' := [(4, .int (nI (i42 + 1))), (3, .int o_82), (5, .int (x2 - x2 / 1000 * 1000)), (1, .int x1), (2, .int x2)]) hx hb dX7_judge_95 hl (k := 2) rfl (nI_1 _) (by decide) rfl (fun ls hl => ?_)
                    refine lv_goto (tgt := 42) hx hb dX7_judge_98 (by decide) ?_
                    have e8 : v_X7_judge_L42 x1 x2 i42 z42 = .inl o_82 := by
                      refine (if_pos c_53).trans ?_
                      refine (bnd_eq ho_82).trans ?_
                      refine (if_neg c_89).trans ?_
                      rfl
                    exact ih (i42 + 1) o_82 (by omega) (by omega) ((itx_go e8).symm.trans hz) _ _ _ hP hS (lv_sub hl [0, 1, 3, 4] rfl)
                  · refine lv_iload hx hb dX7_judge_92 (lv_at hl 2 rfl) ?_
                    have e8 : v_X7_judge_L42 x1 x2 i42 z42 = .inr (nI i42) := by
                      refine (if_pos c_53).trans ?_
                      refine (bnd_eq ho_82).trans ?_
                      refine (if_pos c_89).trans ?_
                      rfl
                    have e7 : .inr (nI i42) = o_L42 := (itx_out e8).symm.trans hz
                    have e9 : v_X7_judge x1 x2 i_hangingNow = nI i42 := by
                      refine (if_neg c_2).trans ?_
                      refine (if_neg c_7).trans ?_
                      refine (if_neg c_11).trans ?_
                      refine (if_pos c_17).trans ?_
                      refine (if_pos c_28).trans ?_
                      refine (mch_eq ho_L42).trans ?_
                      rw [← e7]; rfl
                    rw [hQ]; exact retI (nI i42) hx hb hr hlk e9 hP rfl hS dX7_judge_94
                · refine lv_iload_n hx hb dX7_judge_56 rfl (lv_at hl 3 rfl) ?_
                  refine lv_sipush (v := 1000) hx hb dX7_judge_57 rfl ?_
                  refine lv_idiv hx hb dX7_judge_60 (by decide) ?_
                  refine lv_goto (tgt := 69) hx hb dX7_judge_61 (by decide) ?_
                  refine lv_istore (lv' := [(5, .int (x2 / 1000)), (4, .int (nI i42)), (3, .int z42), (1, .int x1), (2, .int x2)]) hx hb dX7_judge_69 hl (by decide) rfl (fun ls hl => ?_)
                  refine lv_iload_n hx hb dX7_judge_71 rfl (lv_at hl 2 rfl) ?_
                  refine lv_iload hx hb dX7_judge_72 (lv_at hl 0 rfl) ?_
                  refine lv_bipush (v := 10) hx hb dX7_judge_74 rfl ?_
                  refine lv_idiv hx hb dX7_judge_76 (by decide) ?_
                  refine lv_iload hx hb dX7_judge_77 (lv_at hl 0 rfl) ?_
                  refine lv_bipush (v := 10) hx hb dX7_judge_79 rfl ?_
                  refine lv_irem hx hb dX7_judge_81 (by decide) ?_
                  obtain ⟨o_82, ho_82⟩ : ∃ z : Int32, z = v_X7_afterToldMove z42 ((x2 / 1000) / 10) ((x2 / 1000) - (x2 / 1000) / 10 * 10) := ⟨_, rfl⟩
                  refine callSIs (As := [.int z42, .int ((x2 / 1000) / 10), .int ((x2 / 1000) - (x2 / 1000) / 10 * 10)]) (rest := []) o_82 ho_82 hF (k_X7_afterToldMove l D cI cZ z42 ((x2 / 1000) / 10) ((x2 / 1000) - (x2 / 1000) / 10 * 10)) (va_cwS 3 hts gX7_judge_X7_afterToldMove rfl rfl rfl (by decide +kernel) ⟨Nat.le_of_ble_eq_true rfl, Nat.le_of_ble_eq_true rfl⟩) hK hN hP (va_Dsame hD rfl) hS hA [] rfl rfl rfl hl.1 rfl (Nat.le_of_ble_eq_true rfl) dX7_judge_82 ⟨Nat.zero_le _, Nat.zero_le _⟩ o_82 rfl rfl (fun H locs hP hS => ?_)
                  refine lv_istore_n (lv' := [(3, .int o_82), (5, .int (x2 / 1000)), (4, .int (nI i42)), (1, .int x1), (2, .int x2)]) hx hb dX7_judge_85 rfl hl (by decide) rfl (fun ls hl => ?_)
                  refine lv_iload_n hx hb dX7_judge_86 rfl (lv_at hl 0 rfl) ?_
                  refine lv_bipush (v := (-9)) hx hb dX7_judge_87 rfl ?_
                  refine lv_icmp_ne (tgt := 95) hx hb dX7_judge_89 (by decide) (fun c_89 => ?_) (fun c_89 => ?_)
                  · refine lv_iinc (v := (nI (i42 + 1))) (lv' := [(4, .int (nI (i42 + 1))), (3, .int o_82), (5, .int (x2 / 1000)), (1, .int x1), (2, .int x2)]) hx hb dX7_judge_95 hl (k := 2) rfl (nI_1 _) (by decide) rfl (fun ls hl => ?_)
                    refine lv_goto (tgt := 42) hx hb dX7_judge_98 (by decide) ?_
                    have e8 : v_X7_judge_L42 x1 x2 i42 z42 = .inl o_82 := by
                      refine (if_neg c_53).trans ?_
                      refine (bnd_eq ho_82).trans ?_
                      refine (if_neg c_89).trans ?_
                      rfl
                    exact ih (i42 + 1) o_82 (by omega) (by omega) ((itx_go e8).symm.trans hz) _ _ _ hP hS (lv_sub hl [0, 1, 3, 4] rfl)
                  · refine lv_iload hx hb dX7_judge_92 (lv_at hl 2 rfl) ?_
                    have e8 : v_X7_judge_L42 x1 x2 i42 z42 = .inr (nI i42) := by
                      refine (if_neg c_53).trans ?_
                      refine (bnd_eq ho_82).trans ?_
                      refine (if_pos c_89).trans ?_
                      rfl
                    have e7 : .inr (nI i42) = o_L42 := (itx_out e8).symm.trans hz
                    have e9 : v_X7_judge x1 x2 i_hangingNow = nI i42 := by
                      refine (if_neg c_2).trans ?_
                      refine (if_neg c_7).trans ?_
                      refine (if_neg c_11).trans ?_
                      refine (if_pos c_17).trans ?_
                      refine (if_pos c_28).trans ?_
                      refine (mch_eq ho_L42).trans ?_
                      rw [← e7]; rfl
                    rw [hQ]; exact retI (nI i42) hx hb hr hlk e9 hP rfl hS dX7_judge_94
            exact loop42 x1.toNatClampNeg 0 i_hangingNow (Nat.le_refl _) rfl ho_L42.symm _ _ _ hP hS (lv_sub hl [0, 1, 3, 4] rfl)
          · refine lv_bipush (v := (-2)) hx hb dX7_judge_31 rfl ?_
            have e9 : v_X7_judge x1 x2 i_hangingNow = (-2) := by
              refine (if_neg c_2).trans ?_
              refine (if_neg c_7).trans ?_
              refine (if_neg c_11).trans ?_
              refine (if_pos c_17).trans ?_
              refine (if_neg c_28).trans ?_
              rfl
            rw [hQ]; exact retI (-2) hx hb hr hlk e9 hP rfl hS dX7_judge_33
def v_X7_worth (x1 : Int32) (i_lease_wishCount : Int32) (f_lease_cells : Nat → Int32) (f_lease_needs : Nat → Int32) (f_lease_values : Nat → Int32) : Int32 :=
  bnd (v_X7_isHanging x1) fun o_1 =>
  (if bI o_1 = 0 then (-2)
  else (bnd (v_X1_worthOf x1 i_lease_wishCount f_lease_cells f_lease_needs f_lease_values) fun o_12 =>
  o_12))
abbrev rm_X7_worth : Room := { frames := 3, cells := 0, slots := 0, locals := 65 }
set_option maxHeartbeats 4000000 in
set_option maxRecDepth 100000 in
theorem k_X7_worth (l : Launch) (D : va_G) (cI cZ : ClassId) (a a_text a_lease a_reader a_prover a_survey a_paths a_acts a_slots a_lease_places a_lease_firstHours a_lease_spans a_lease_values a_lease_cells a_lease_needs a_lease_owed a_lease_room n_lease_cells n_lease_needs n_lease_values : Nat) (x1 : Int32) (i_hangingNow : Int32) (i_hourNow : Int32) (i_toldDark : Int32) (i_toldLight : Int32) (i_toldCount : Int32) (j_seedNow : Int64) (i_lease_squares : Int32) (i_lease_wishCount : Int32) (i_lease_owedPlaces : Int32) (f_lease_cells : Nat → Int32) (f_lease_needs : Nat → Int32) (f_lease_values : Nat → Int32) : KI l D cI cZ yX7_worth wsX7_worth rm_X7_worth [.ref a, .int x1] [(a, .inr (7, [.ref a_text, .ref a_lease, .ref a_reader, .ref a_prover, .ref a_survey, .ref a_paths, .ref a_acts, .ref a_slots, .int i_hangingNow, .int i_hourNow, .int i_toldDark, .int i_toldLight, .int i_toldCount, .long j_seedNow])), (a_lease, .inr (1, [.ref a_lease_places, .ref a_lease_firstHours, .ref a_lease_spans, .ref a_lease_values, .ref a_lease_cells, .ref a_lease_needs, .ref a_lease_owed, .ref a_lease_room, .int i_lease_squares, .int i_lease_wishCount, .int i_lease_owedPlaces])), (a_lease_cells, .inr (4, [.ref n_lease_cells])), (n_lease_cells, .inl (cI, 5, .inl f_lease_cells)), (a_lease_needs, .inr (4, [.ref n_lease_needs])), (n_lease_needs, .inl (cI, 5, .inl f_lease_needs)), (a_lease_values, .inr (4, [.ref n_lease_values])), (n_lease_values, .inl (cI, 5, .inl f_lease_values))] (v_X7_worth x1 i_lease_wishCount f_lease_cells f_lease_needs f_lease_values) (fun o : Int32 => o) (fun _ : Int32 => [(a, .inr (7, [.ref a_text, .ref a_lease, .ref a_reader, .ref a_prover, .ref a_survey, .ref a_paths, .ref a_acts, .ref a_slots, .int i_hangingNow, .int i_hourNow, .int i_toldDark, .int i_toldLight, .int i_toldCount, .long j_seedNow])), (a_lease, .inr (1, [.ref a_lease_places, .ref a_lease_firstHours, .ref a_lease_spans, .ref a_lease_values, .ref a_lease_cells, .ref a_lease_needs, .ref a_lease_owed, .ref a_lease_room, .int i_lease_squares, .int i_lease_wishCount, .int i_lease_owedPlaces])), (a_lease_cells, .inr (4, [.ref n_lease_cells])), (n_lease_cells, .inl (cI, 5, .inl f_lease_cells)), (a_lease_needs, .inr (4, [.ref n_lease_needs])), (n_lease_needs, .inl (cI, 5, .inl f_lease_needs)), (a_lease_values, .inr (4, [.ref n_lease_values])), (n_lease_values, .inl (cI, 5, .inl f_lease_values))]) := by
  refine KI.of cX7_worth 2 (some .int) (by decide) rfl (Nat.le_of_ble_eq_true rfl) ?_
  intro p e s m below meth c A ls ar Q hQ B
  obtain ⟨hx, hb, hr, hml, hts, hown, hlk, hK, hN, hP, hD, hA, hS, hl⟩ := B
  have hown : s.vm.findClass RX7 = some m.cls := hown
  have hF : CallFix p m c cX7_worth 2 s ar wsX7_worth RX7 := ⟨hx, hb, hml, hown, hts⟩
  have hl : lv_has ls 2 [(0, .ref a), (1, .int x1)] := hl
  refine lv_iload_n hx hb dX7_worth_0 rfl (lv_at hl 1 rfl) ?_
  obtain ⟨o_1, ho_1⟩ : ∃ z : Bool, z = v_X7_isHanging x1 := ⟨_, rfl⟩
  refine callSIs (As := [.int x1]) (rest := []) o_1 ho_1 hF (k_X7_isHanging l D cI cZ x1) (va_cwS 1 hts gX7_worth_X7_isHanging rfl rfl rfl (by decide +kernel) ⟨Nat.le_of_ble_eq_true rfl, Nat.le_of_ble_eq_true rfl⟩) hK hN hP (va_Dsame hD rfl) hS hA [] rfl rfl rfl hl.1 rfl (Nat.le_of_ble_eq_true rfl) dX7_worth_1 ⟨Nat.zero_le _, Nat.zero_le _⟩ (bI o_1) rfl rfl (fun H locs hP hS => ?_)
  refine lv_if_eq (tgt := 18) hx hb dX7_worth_4 (by decide) (fun c_4 => ?_) (fun c_4 => ?_)
  · refine lv_bipush (v := (-2)) hx hb dX7_worth_18 rfl ?_
    have e9 : v_X7_worth x1 i_lease_wishCount f_lease_cells f_lease_needs f_lease_values = (-2) := by
      refine (bnd_eq ho_1).trans ?_
      refine (if_pos c_4).trans ?_
      rfl
    rw [hQ]; exact retI (-2) hx hb hr hlk e9 hP rfl hS dX7_worth_20
  · refine lv_aload_n hx hb dX7_worth_7 rfl (lv_at hl 0 rfl) ?_
    refine va_get (D := D) (ci := 7) (v := .ref a_lease) (C := RX7) (T := TX7) (N := 14) hx hb hts (fun _ h => List.mem_cons_of_mem _ (List.mem_append_left _ (List.mem_append_left _ (List.mem_append_right _ (h))))) hown hK hP 0 rfl rfl 1 (by decide) (hts _ (List.mem_of_getElem? (i := 1) rfl)) (fun _ h9 => h9) rfl dX7_worth_8 ?_
    refine lv_iload_n hx hb dX7_worth_11 rfl (lv_at hl 1 rfl) ?_
    obtain ⟨o_12, ho_12⟩ : ∃ z : Int32, z = v_X1_worthOf x1 i_lease_wishCount f_lease_cells f_lease_needs f_lease_values := ⟨_, rfl⟩
    refine callVIs (As := [.int x1]) (rest := []) o_12 ho_12 hF (k_X1_worthOf l D cI cZ a_lease a_lease_places a_lease_firstHours a_lease_spans a_lease_values a_lease_cells a_lease_needs a_lease_owed a_lease_room n_lease_cells n_lease_needs n_lease_values x1 i_lease_squares i_lease_wishCount i_lease_owedPlaces f_lease_cells f_lease_needs f_lease_values) (cwV 1 hts gX7_worth_X1_worthOf rfl rfl rfl (by decide +kernel) ⟨Nat.le_of_ble_eq_true rfl, Nat.le_of_ble_eq_true rfl⟩) hK hN hP (va_Dsame hD rfl) hS hA [1, 2, 3, 4, 5, 6, 7] rfl rfl 1 1 (T := TX1) (N := 11) rfl rfl rfl hl.1 rfl (Nat.le_of_ble_eq_true rfl) dX7_worth_12 ⟨Nat.zero_le _, Nat.zero_le _⟩ o_12 rfl rfl (fun H locs hP hS => ?_)
    refine lv_goto (tgt := 20) hx hb dX7_worth_15 (by decide) ?_
    have e9 : v_X7_worth x1 i_lease_wishCount f_lease_cells f_lease_needs f_lease_values = o_12 := by
      refine (bnd_eq ho_1).trans ?_
      refine (if_neg c_4).trans ?_
      refine (bnd_eq ho_12).trans ?_
      rfl
    rw [hQ]; exact retI o_12 hx hb hr hlk e9 hP rfl hS dX7_worth_20
def v_X7_lawful (x1 : Int32) (f_lease_room : Nat → Int32) : Int32 :=
  bnd (v_X7_isHanging x1) fun o_1 =>
  (if bI o_1 = 0 then (-2)
  else (bnd (v_X1_allows x1 f_lease_room) fun o_15 =>
  (if bI o_15 = 0 then 0
  else 1)))
abbrev rm_X7_lawful : Room := { frames := 2, cells := 0, slots := 0, locals := 42 }
set_option maxHeartbeats 4000000 in
set_option maxRecDepth 100000 in
theorem k_X7_lawful (l : Launch) (D : va_G) (cI cZ : ClassId) (a a_text a_lease a_reader a_prover a_survey a_paths a_acts a_slots a_lease_places a_lease_firstHours a_lease_spans a_lease_values a_lease_cells a_lease_needs a_lease_owed a_lease_room n_lease_room : Nat) (x1 : Int32) (i_hangingNow : Int32) (i_hourNow : Int32) (i_toldDark : Int32) (i_toldLight : Int32) (i_toldCount : Int32) (j_seedNow : Int64) (i_lease_squares : Int32) (i_lease_wishCount : Int32) (i_lease_owedPlaces : Int32) (f_lease_room : Nat → Int32) : KI l D cI cZ yX7_lawful wsX7_lawful rm_X7_lawful [.ref a, .int x1] [(a, .inr (7, [.ref a_text, .ref a_lease, .ref a_reader, .ref a_prover, .ref a_survey, .ref a_paths, .ref a_acts, .ref a_slots, .int i_hangingNow, .int i_hourNow, .int i_toldDark, .int i_toldLight, .int i_toldCount, .long j_seedNow])), (a_lease, .inr (1, [.ref a_lease_places, .ref a_lease_firstHours, .ref a_lease_spans, .ref a_lease_values, .ref a_lease_cells, .ref a_lease_needs, .ref a_lease_owed, .ref a_lease_room, .int i_lease_squares, .int i_lease_wishCount, .int i_lease_owedPlaces])), (a_lease_room, .inr (4, [.ref n_lease_room])), (n_lease_room, .inl (cI, 2, .inl f_lease_room))] (v_X7_lawful x1 f_lease_room) (fun o : Int32 => o) (fun _ : Int32 => [(a, .inr (7, [.ref a_text, .ref a_lease, .ref a_reader, .ref a_prover, .ref a_survey, .ref a_paths, .ref a_acts, .ref a_slots, .int i_hangingNow, .int i_hourNow, .int i_toldDark, .int i_toldLight, .int i_toldCount, .long j_seedNow])), (a_lease, .inr (1, [.ref a_lease_places, .ref a_lease_firstHours, .ref a_lease_spans, .ref a_lease_values, .ref a_lease_cells, .ref a_lease_needs, .ref a_lease_owed, .ref a_lease_room, .int i_lease_squares, .int i_lease_wishCount, .int i_lease_owedPlaces])), (a_lease_room, .inr (4, [.ref n_lease_room])), (n_lease_room, .inl (cI, 2, .inl f_lease_room))]) := by
  refine KI.of cX7_lawful 2 (some .int) (by decide) rfl (Nat.le_of_ble_eq_true rfl) ?_
  intro p e s m below meth c A ls ar Q hQ B
  obtain ⟨hx, hb, hr, hml, hts, hown, hlk, hK, hN, hP, hD, hA, hS, hl⟩ := B
  have hown : s.vm.findClass RX7 = some m.cls := hown
  have hF : CallFix p m c cX7_lawful 2 s ar wsX7_lawful RX7 := ⟨hx, hb, hml, hown, hts⟩
  have hl : lv_has ls 2 [(0, .ref a), (1, .int x1)] := hl
  refine lv_iload_n hx hb dX7_lawful_0 rfl (lv_at hl 1 rfl) ?_
  obtain ⟨o_1, ho_1⟩ : ∃ z : Bool, z = v_X7_isHanging x1 := ⟨_, rfl⟩
  refine callSIs (As := [.int x1]) (rest := []) o_1 ho_1 hF (k_X7_isHanging l D cI cZ x1) (va_cwS 1 hts gX7_lawful_X7_isHanging rfl rfl rfl (by decide +kernel) ⟨Nat.le_of_ble_eq_true rfl, Nat.le_of_ble_eq_true rfl⟩) hK hN hP (va_Dsame hD rfl) hS hA [] rfl rfl rfl hl.1 rfl (Nat.le_of_ble_eq_true rfl) dX7_lawful_1 ⟨Nat.zero_le _, Nat.zero_le _⟩ (bI o_1) rfl rfl (fun H locs hP hS => ?_)
  refine lv_if_ne (tgt := 10) hx hb dX7_lawful_4 (by decide) (fun c_4 => ?_) (fun c_4 => ?_)
  · refine lv_aload_n hx hb dX7_lawful_10 rfl (lv_at hl 0 rfl) ?_
    refine va_get (D := D) (ci := 7) (v := .ref a_lease) (C := RX7) (T := TX7) (N := 14) hx hb hts (fun _ h => List.mem_cons_of_mem _ (List.mem_append_left _ (List.mem_append_left _ (List.mem_append_right _ (h))))) hown hK hP 0 rfl rfl 1 (by decide) (hts _ (List.mem_of_getElem? (i := 1) rfl)) (fun _ h9 => h9) rfl dX7_lawful_11 ?_
    refine lv_iload_n hx hb dX7_lawful_14 rfl (lv_at hl 1 rfl) ?_
    obtain ⟨o_15, ho_15⟩ : ∃ z : Bool, z = v_X1_allows x1 f_lease_room := ⟨_, rfl⟩
    refine callVIs (As := [.int x1]) (rest := []) o_15 ho_15 hF (k_X1_allows l D cI cZ a_lease a_lease_places a_lease_firstHours a_lease_spans a_lease_values a_lease_cells a_lease_needs a_lease_owed a_lease_room n_lease_room x1 i_lease_squares i_lease_wishCount i_lease_owedPlaces f_lease_room) (cwV 1 hts gX7_lawful_X1_allows rfl rfl rfl (by decide +kernel) ⟨Nat.le_of_ble_eq_true rfl, Nat.le_of_ble_eq_true rfl⟩) hK hN hP (va_Dsame hD rfl) hS hA [1, 2, 3] rfl rfl 1 1 (T := TX1) (N := 11) rfl rfl rfl hl.1 rfl (Nat.le_of_ble_eq_true rfl) dX7_lawful_15 ⟨Nat.zero_le _, Nat.zero_le _⟩ (bI o_15) rfl rfl (fun H locs hP hS => ?_)
    refine lv_if_eq (tgt := 25) hx hb dX7_lawful_18 (by decide) (fun c_18 => ?_) (fun c_18 => ?_)
    · refine lv_iconst (v := 0) hx hb dX7_lawful_25 rfl ?_
      have e9 : v_X7_lawful x1 f_lease_room = 0 := by
        refine (bnd_eq ho_1).trans ?_
        refine (if_neg c_4).trans ?_
        refine (bnd_eq ho_15).trans ?_
        refine (if_pos c_18).trans ?_
        rfl
      rw [hQ]; exact retI 0 hx hb hr hlk e9 hP rfl hS dX7_lawful_26
    · refine lv_iconst (v := 1) hx hb dX7_lawful_21 rfl ?_
      refine lv_goto (tgt := 26) hx hb dX7_lawful_22 (by decide) ?_
      have e9 : v_X7_lawful x1 f_lease_room = 1 := by
        refine (bnd_eq ho_1).trans ?_
        refine (if_neg c_4).trans ?_
        refine (bnd_eq ho_15).trans ?_
        refine (if_neg c_18).trans ?_
        rfl
      rw [hQ]; exact retI 1 hx hb hr hlk e9 hP rfl hS dX7_lawful_26
  · refine lv_bipush (v := (-2)) hx hb dX7_lawful_7 rfl ?_
    have e9 : v_X7_lawful x1 f_lease_room = (-2) := by
      refine (bnd_eq ho_1).trans ?_
      refine (if_pos c_4).trans ?_
      rfl
    rw [hQ]; exact retI (-2) hx hb hr hlk e9 hP rfl hS dX7_lawful_9
def v_X7_isSquares (x0 : Int32) : Bool :=
  if x0 < 0 then false
  else (if 5 < x0 then false
  else true)
abbrev rm_X7_isSquares : Room := { frames := 0, cells := 0, slots := 0, locals := 0 }
set_option maxHeartbeats 4000000 in
set_option maxRecDepth 100000 in
theorem k_X7_isSquares (l : Launch) (D : va_G) (cI cZ : ClassId) (x0 : Int32) : KI l D cI cZ yX7_isSquares wsX7_isSquares rm_X7_isSquares [.int x0] [] (v_X7_isSquares x0) (fun o : Bool => bI o) (fun _ : Bool => []) := by
  refine KI.of cX7_isSquares 1 (some .boolean) (by decide) rfl (Nat.le_of_ble_eq_true rfl) ?_
  intro p e s m below meth c A ls ar Q hQ B
  obtain ⟨hx, hb, hr, hml, hts, hown, hlk, hK, hN, hP, hD, hA, hS, hl⟩ := B
  have hown : s.vm.findClass RX7 = some m.cls := hown
  have hF : CallFix p m c cX7_isSquares 1 s ar wsX7_isSquares RX7 := ⟨hx, hb, hml, hown, hts⟩
  have hl : lv_has ls 1 [(0, .int x0)] := hl
  refine lv_iload_n hx hb dX7_isSquares_0 rfl (lv_at hl 0 rfl) ?_
  refine lv_if_lt (tgt := 13) hx hb dX7_isSquares_1 (by decide) (fun c_1 => ?_) (fun c_1 => ?_)
  · refine lv_iconst (v := 0) hx hb dX7_isSquares_13 rfl ?_
    have e9 : v_X7_isSquares x0 = false := by
      refine (if_pos c_1).trans ?_
      rfl
    rw [hQ]; exact retZ (v := fun o : Bool => o) false hx hb hr hlk e9 hP rfl hS dX7_isSquares_14
  · refine lv_iload_n hx hb dX7_isSquares_4 rfl (lv_at hl 0 rfl) ?_
    refine lv_iconst (v := 5) hx hb dX7_isSquares_5 rfl ?_
    refine lv_icmp_gt (tgt := 13) hx hb dX7_isSquares_6 (by decide) (fun c_6 => ?_) (fun c_6 => ?_)
    · refine lv_iconst (v := 0) hx hb dX7_isSquares_13 rfl ?_
      have e9 : v_X7_isSquares x0 = false := by
        refine (if_neg c_1).trans ?_
        refine (if_pos c_6).trans ?_
        rfl
      rw [hQ]; exact retZ (v := fun o : Bool => o) false hx hb hr hlk e9 hP rfl hS dX7_isSquares_14
    · refine lv_iconst (v := 1) hx hb dX7_isSquares_9 rfl ?_
      refine lv_goto (tgt := 14) hx hb dX7_isSquares_10 (by decide) ?_
      have e9 : v_X7_isSquares x0 = true := by
        refine (if_neg c_1).trans ?_
        refine (if_neg c_6).trans ?_
        rfl
      rw [hQ]; exact retZ (v := fun o : Bool => o) true hx hb hr hlk e9 hP rfl hS dX7_isSquares_14
def v_X7_best (x1 : Int32) (x2 : Int32) (i_survey_isMade : Int32) (f_survey_lawful : Nat → Int32) (f_survey_grants : Nat → Int32) (f_survey_bests : Nat → Int32) (f_survey_mosts : Nat → Int32) (i_lease_wishCount : Int32) (f_lease_room : Nat → Int32) (f_lease_cells : Nat → Int32) (f_lease_needs : Nat → Int32) (f_lease_values : Nat → Int32) : Int32 × Int32 × (Nat → Int32) × (Nat → Int32) × (Nat → Int32) × (Nat → Int32) :=
  bnd (v_X7_isSquares x1) fun o_1 =>
  (if bI o_1 = 0 then ((-2), i_survey_isMade, f_survey_lawful, f_survey_grants, f_survey_bests, f_survey_mosts)
  else (if x2 < 0 then ((-2), i_survey_isMade, f_survey_lawful, f_survey_grants, f_survey_bests, f_survey_mosts)
  else (if x2 ≤ 2 then (bnd6 (v_X5_bestOf x1 i_survey_isMade f_survey_lawful f_survey_grants f_survey_bests f_survey_mosts i_lease_wishCount f_lease_room f_lease_cells f_lease_needs f_lease_values) fun o_24_1 o_24_2 o_24_3 o_24_4 o_24_5 o_24_6 =>
    (if o_24_1 = (-9) then ((-9), o_24_2, o_24_3, o_24_4, o_24_5, o_24_6)
    else (if x2 = 1 then (o_24_1, o_24_2, o_24_3, o_24_4, o_24_5, o_24_6)
    else (if x2 = 0 then (bnd (v_X1_worthOf o_24_1 i_lease_wishCount f_lease_cells f_lease_needs f_lease_values) fun o_53 =>
      (o_53, o_24_2, o_24_3, o_24_4, o_24_5, o_24_6))
    else (bnd (v_X1_grantedBy o_24_1 i_lease_wishCount f_lease_cells f_lease_needs) fun o_64 =>
    (o_64, o_24_2, o_24_3, o_24_4, o_24_5, o_24_6))))))
  else ((-2), i_survey_isMade, f_survey_lawful, f_survey_grants, f_survey_bests, f_survey_mosts))))
abbrev rm_X7_best : Room := { frames := 5, cells := 0, slots := 0, locals := 110 }
set_option maxHeartbeats 4000000 in
set_option maxRecDepth 100000 in
theorem k_X7_best (l : Launch) (D : va_G) (cI cZ : ClassId) (a a_text a_lease a_reader a_prover a_survey a_paths a_acts a_slots a_survey_lawful a_survey_grants a_survey_bests a_survey_mosts n_survey_lawful n_survey_grants n_survey_bests n_survey_mosts a_lease_places a_lease_firstHours a_lease_spans a_lease_values a_lease_cells a_lease_needs a_lease_owed a_lease_room n_lease_room n_lease_cells n_lease_needs n_lease_values : Nat) (x1 : Int32) (x2 : Int32) (i_hangingNow : Int32) (i_hourNow : Int32) (i_toldDark : Int32) (i_toldLight : Int32) (i_toldCount : Int32) (j_seedNow : Int64) (i_survey_isMade : Int32) (f_survey_lawful : Nat → Int32) (f_survey_grants : Nat → Int32) (f_survey_bests : Nat → Int32) (f_survey_mosts : Nat → Int32) (i_lease_squares : Int32) (i_lease_wishCount : Int32) (i_lease_owedPlaces : Int32) (f_lease_room : Nat → Int32) (f_lease_cells : Nat → Int32) (f_lease_needs : Nat → Int32) (f_lease_values : Nat → Int32) : KI l D cI cZ yX7_best wsX7_best rm_X7_best [.ref a, .int x1, .int x2] [(a, .inr (7, [.ref a_text, .ref a_lease, .ref a_reader, .ref a_prover, .ref a_survey, .ref a_paths, .ref a_acts, .ref a_slots, .int i_hangingNow, .int i_hourNow, .int i_toldDark, .int i_toldLight, .int i_toldCount, .long j_seedNow])), (a_survey, .inr (5, [.ref a_lease, .ref a_survey_lawful, .ref a_survey_grants, .ref a_survey_bests, .ref a_survey_mosts, .int i_survey_isMade])), (a_survey_lawful, .inr (4, [.ref n_survey_lawful])), (n_survey_lawful, .inl (cI, 6, .inl f_survey_lawful)), (a_survey_grants, .inr (4, [.ref n_survey_grants])), (n_survey_grants, .inl (cI, 6, .inl f_survey_grants)), (a_survey_bests, .inr (4, [.ref n_survey_bests])), (n_survey_bests, .inl (cI, 6, .inl f_survey_bests)), (a_survey_mosts, .inr (4, [.ref n_survey_mosts])), (n_survey_mosts, .inl (cI, 6, .inl f_survey_mosts)), (a_lease, .inr (1, [.ref a_lease_places, .ref a_lease_firstHours, .ref a_lease_spans, .ref a_lease_values, .ref a_lease_cells, .ref a_lease_needs, .ref a_lease_owed, .ref a_lease_room, .int i_lease_squares, .int i_lease_wishCount, .int i_lease_owedPlaces])), (a_lease_room, .inr (4, [.ref n_lease_room])), (n_lease_room, .inl (cI, 2, .inl f_lease_room)), (a_lease_cells, .inr (4, [.ref n_lease_cells])), (n_lease_cells, .inl (cI, 5, .inl f_lease_cells)), (a_lease_needs, .inr (4, [.ref n_lease_needs])), (n_lease_needs, .inl (cI, 5, .inl f_lease_needs)), (a_lease_values, .inr (4, [.ref n_lease_values])), (n_lease_values, .inl (cI, 5, .inl f_lease_values))] (v_X7_best x1 x2 i_survey_isMade f_survey_lawful f_survey_grants f_survey_bests f_survey_mosts i_lease_wishCount f_lease_room f_lease_cells f_lease_needs f_lease_values) (fun o : Int32 × Int32 × (Nat → Int32) × (Nat → Int32) × (Nat → Int32) × (Nat → Int32) => o.1) (fun o : Int32 × Int32 × (Nat → Int32) × (Nat → Int32) × (Nat → Int32) × (Nat → Int32) => [(a, .inr (7, [.ref a_text, .ref a_lease, .ref a_reader, .ref a_prover, .ref a_survey, .ref a_paths, .ref a_acts, .ref a_slots, .int i_hangingNow, .int i_hourNow, .int i_toldDark, .int i_toldLight, .int i_toldCount, .long j_seedNow])), (a_survey, .inr (5, [.ref a_lease, .ref a_survey_lawful, .ref a_survey_grants, .ref a_survey_bests, .ref a_survey_mosts, .int o.2.1])), (a_survey_lawful, .inr (4, [.ref n_survey_lawful])), (n_survey_lawful, .inl (cI, 6, .inl o.2.2.1)), (a_survey_grants, .inr (4, [.ref n_survey_grants])), (n_survey_grants, .inl (cI, 6, .inl o.2.2.2.1)), (a_survey_bests, .inr (4, [.ref n_survey_bests])), (n_survey_bests, .inl (cI, 6, .inl o.2.2.2.2.1)), (a_survey_mosts, .inr (4, [.ref n_survey_mosts])), (n_survey_mosts, .inl (cI, 6, .inl o.2.2.2.2.2)), (a_lease, .inr (1, [.ref a_lease_places, .ref a_lease_firstHours, .ref a_lease_spans, .ref a_lease_values, .ref a_lease_cells, .ref a_lease_needs, .ref a_lease_owed, .ref a_lease_room, .int i_lease_squares, .int i_lease_wishCount, .int i_lease_owedPlaces])), (a_lease_room, .inr (4, [.ref n_lease_room])), (n_lease_room, .inl (cI, 2, .inl f_lease_room)), (a_lease_cells, .inr (4, [.ref n_lease_cells])), (n_lease_cells, .inl (cI, 5, .inl f_lease_cells)), (a_lease_needs, .inr (4, [.ref n_lease_needs])), (n_lease_needs, .inl (cI, 5, .inl f_lease_needs)), (a_lease_values, .inr (4, [.ref n_lease_values])), (n_lease_values, .inl (cI, 5, .inl f_lease_values))]) := by
  refine KI.of cX7_best 4 (some .int) (by decide) rfl (Nat.le_of_ble_eq_true rfl) ?_
  intro p e s m below meth c A ls ar Q hQ B
  obtain ⟨hx, hb, hr, hml, hts, hown, hlk, hK, hN, hP, hD, hA, hS, hl⟩ := B
  have hown : s.vm.findClass RX7 = some m.cls := hown
  have hF : CallFix p m c cX7_best 4 s ar wsX7_best RX7 := ⟨hx, hb, hml, hown, hts⟩
  have hl : lv_has ls 4 [(0, .ref a), (1, .int x1), (2, .int x2)] := hl
  refine lv_iload_n hx hb dX7_best_0 rfl (lv_at hl 1 rfl) ?_
  obtain ⟨o_1, ho_1⟩ : ∃ z : Bool, z = v_X7_isSquares x1 := ⟨_, rfl⟩
  refine callSIs (As := [.int x1]) (rest := []) o_1 ho_1 hF (k_X7_isSquares l D cI cZ x1) (va_cwS 1 hts gX7_best_X7_isSquares rfl rfl rfl (by decide +kernel) ⟨Nat.le_of_ble_eq_true rfl, Nat.le_of_ble_eq_true rfl⟩) hK hN hP (va_Dsame hD rfl) hS hA [] rfl rfl rfl hl.1 rfl (Nat.le_of_ble_eq_true rfl) dX7_best_1 ⟨Nat.zero_le _, Nat.zero_le _⟩ (bI o_1) rfl rfl (fun H locs hP hS => ?_)
  refine lv_if_eq (tgt := 16) hx hb dX7_best_4 (by decide) (fun c_4 => ?_) (fun c_4 => ?_)
  · refine lv_bipush (v := (-2)) hx hb dX7_best_16 rfl ?_
    have e9 : v_X7_best x1 x2 i_survey_isMade f_survey_lawful f_survey_grants f_survey_bests f_survey_mosts i_lease_wishCount f_lease_room f_lease_cells f_lease_needs f_lease_values = ((-2), i_survey_isMade, f_survey_lawful, f_survey_grants, f_survey_bests, f_survey_mosts) := by
      refine (bnd_eq ho_1).trans ?_
      refine (if_pos c_4).trans ?_
      rfl
    rw [hQ]; exact retI ((-2), i_survey_isMade, f_survey_lawful, f_survey_grants, f_survey_bests, f_survey_mosts) hx hb hr hlk e9 hP rfl hS dX7_best_18
  · refine lv_iload_n hx hb dX7_best_7 rfl (lv_at hl 2 rfl) ?_
    refine lv_if_lt (tgt := 16) hx hb dX7_best_8 (by decide) (fun c_8 => ?_) (fun c_8 => ?_)
    · refine lv_bipush (v := (-2)) hx hb dX7_best_16 rfl ?_
      have e9 : v_X7_best x1 x2 i_survey_isMade f_survey_lawful f_survey_grants f_survey_bests f_survey_mosts i_lease_wishCount f_lease_room f_lease_cells f_lease_needs f_lease_values = ((-2), i_survey_isMade, f_survey_lawful, f_survey_grants, f_survey_bests, f_survey_mosts) := by
        refine (bnd_eq ho_1).trans ?_
        refine (if_neg c_4).trans ?_
        refine (if_pos c_8).trans ?_
        rfl
      rw [hQ]; exact retI ((-2), i_survey_isMade, f_survey_lawful, f_survey_grants, f_survey_bests, f_survey_mosts) hx hb hr hlk e9 hP rfl hS dX7_best_18
    · refine lv_iload_n hx hb dX7_best_11 rfl (lv_at hl 2 rfl) ?_
      refine lv_iconst (v := 2) hx hb dX7_best_12 rfl ?_
      refine lv_icmp_le (tgt := 19) hx hb dX7_best_13 (by decide) (fun c_13 => ?_) (fun c_13 => ?_)
      · refine lv_aload_n hx hb dX7_best_19 rfl (lv_at hl 0 rfl) ?_
        refine va_get (D := D) (ci := 7) (v := .ref a_survey) (C := RX7) (T := TX7) (N := 14) hx hb hts (fun _ h => List.mem_cons_of_mem _ (List.mem_append_left _ (List.mem_append_left _ (List.mem_append_left _ (List.mem_append_right _ (h)))))) hown hK hP 0 rfl rfl 4 (by decide) (hts _ (List.mem_of_getElem? (i := 1) rfl)) (fun _ h9 => h9) rfl dX7_best_20 ?_
        refine lv_iload_n hx hb dX7_best_23 rfl (lv_at hl 1 rfl) ?_
        obtain ⟨o_24_1, o_24_2, o_24_3, o_24_4, o_24_5, o_24_6, ho_24⟩ := ex6 (v_X5_bestOf x1 i_survey_isMade f_survey_lawful f_survey_grants f_survey_bests f_survey_mosts i_lease_wishCount f_lease_room f_lease_cells f_lease_needs f_lease_values)
        refine callVI (As := [.int x1]) (rest := []) (o_24_1, o_24_2, o_24_3, o_24_4, o_24_5, o_24_6) ho_24 hF (k_X5_bestOf l D cI cZ a_survey a_lease a_survey_lawful a_survey_grants a_survey_bests a_survey_mosts n_survey_lawful n_survey_grants n_survey_bests n_survey_mosts a_lease_places a_lease_firstHours a_lease_spans a_lease_values a_lease_cells a_lease_needs a_lease_owed a_lease_room n_lease_room n_lease_cells n_lease_needs n_lease_values x1 i_survey_isMade f_survey_lawful f_survey_grants f_survey_bests f_survey_mosts i_lease_squares i_lease_wishCount i_lease_owedPlaces f_lease_room f_lease_cells f_lease_needs f_lease_values) (cwV 1 hts gX7_best_X5_bestOf rfl rfl rfl (by decide +kernel) ⟨Nat.le_of_ble_eq_true rfl, Nat.le_of_ble_eq_true rfl⟩) hK hN hP (va_Dsame hD rfl) hS hA [1, 2, 3, 4, 5, 6, 7, 8, 9, 10, 11, 12, 13, 14, 15, 16, 17, 18] rfl rfl 1 5 (T := TX5) (N := 6) rfl rfl rfl hl.1 rfl (Nat.le_of_ble_eq_true rfl) dX7_best_24 ⟨Nat.zero_le _, Nat.zero_le _⟩ o_24_1 rfl [none, some 0, some 1, some 2, some 3, some 4, some 5, some 6, some 7, some 8, some 9, some 10, some 11, some 12, some 13, some 14, some 15, some 16, some 17] 18 [(a, .inr (7, [.ref a_text, .ref a_lease, .ref a_reader, .ref a_prover, .ref a_survey, .ref a_paths, .ref a_acts, .ref a_slots, .int i_hangingNow, .int i_hourNow, .int i_toldDark, .int i_toldLight, .int i_toldCount, .long j_seedNow])), (a_survey, .inr (5, [.ref a_lease, .ref a_survey_lawful, .ref a_survey_grants, .ref a_survey_bests, .ref a_survey_mosts, .int o_24_2])), (a_survey_lawful, .inr (4, [.ref n_survey_lawful])), (n_survey_lawful, .inl (cI, 6, .inl o_24_3)), (a_survey_grants, .inr (4, [.ref n_survey_grants])), (n_survey_grants, .inl (cI, 6, .inl o_24_4)), (a_survey_bests, .inr (4, [.ref n_survey_bests])), (n_survey_bests, .inl (cI, 6, .inl o_24_5)), (a_survey_mosts, .inr (4, [.ref n_survey_mosts])), (n_survey_mosts, .inl (cI, 6, .inl o_24_6)), (a_lease, .inr (1, [.ref a_lease_places, .ref a_lease_firstHours, .ref a_lease_spans, .ref a_lease_values, .ref a_lease_cells, .ref a_lease_needs, .ref a_lease_owed, .ref a_lease_room, .int i_lease_squares, .int i_lease_wishCount, .int i_lease_owedPlaces])), (a_lease_room, .inr (4, [.ref n_lease_room])), (n_lease_room, .inl (cI, 2, .inl f_lease_room)), (a_lease_cells, .inr (4, [.ref n_lease_cells])), (n_lease_cells, .inl (cI, 5, .inl f_lease_cells)), (a_lease_needs, .inr (4, [.ref n_lease_needs])), (n_lease_needs, .inl (cI, 5, .inl f_lease_needs)), (a_lease_values, .inr (4, [.ref n_lease_values])), (n_lease_values, .inl (cI, 5, .inl f_lease_values))] rfl rfl (by decide) (fun H locs hP hS => ?_)
        refine lv_istore_n (lv' := [(3, .int o_24_1), (0, .ref a), (1, .int x1), (2, .int x2)]) hx hb dX7_best_27 rfl hl (by decide) rfl (fun ls hl => ?_)
        refine lv_iload_n hx hb dX7_best_28 rfl (lv_at hl 0 rfl) ?_
        refine lv_bipush (v := (-9)) hx hb dX7_best_29 rfl ?_
        refine lv_icmp_ne (tgt := 37) hx hb dX7_best_31 (by decide) (fun c_31 => ?_) (fun c_31 => ?_)
        · refine lv_iload_n hx hb dX7_best_37 rfl (lv_at hl 3 rfl) ?_
          refine lv_iconst (v := 1) hx hb dX7_best_38 rfl ?_
          refine lv_icmp_ne (tgt := 44) hx hb dX7_best_39 (by decide) (fun c_39 => ?_) (fun c_39 => ?_)
          · refine lv_iload_n hx hb dX7_best_44 rfl (lv_at hl 3 rfl) ?_
            refine lv_if_ne (tgt := 59) hx hb dX7_best_45 (by decide) (fun c_45 => ?_) (fun c_45 => ?_)
            · refine lv_aload_n hx hb dX7_best_59 rfl (lv_at hl 1 rfl) ?_
              refine va_get (D := D) (ci := 7) (v := .ref a_lease) (C := RX7) (T := TX7) (N := 14) hx hb hts (fun _ h => List.mem_cons_of_mem _ (List.mem_append_left _ (List.mem_append_left _ (List.mem_append_left _ (List.mem_append_right _ (h)))))) hown hK hP 0 rfl rfl 1 (by decide) (hts _ (List.mem_of_getElem? (i := 2) rfl)) (fun _ h9 => h9) rfl dX7_best_60 ?_
              refine lv_iload_n hx hb dX7_best_63 rfl (lv_at hl 0 rfl) ?_
              obtain ⟨o_64, ho_64⟩ : ∃ z : Int32, z = v_X1_grantedBy o_24_1 i_lease_wishCount f_lease_cells f_lease_needs := ⟨_, rfl⟩
              refine callVIs (As := [.int o_24_1]) (rest := []) o_64 ho_64 hF (k_X1_grantedBy l D cI cZ a_lease a_lease_places a_lease_firstHours a_lease_spans a_lease_values a_lease_cells a_lease_needs a_lease_owed a_lease_room n_lease_cells n_lease_needs o_24_1 i_lease_squares i_lease_wishCount i_lease_owedPlaces f_lease_cells f_lease_needs) (cwV 1 hts gX7_best_X1_grantedBy rfl rfl rfl (by decide +kernel) ⟨Nat.le_of_ble_eq_true rfl, Nat.le_of_ble_eq_true rfl⟩) hK hN hP (va_Dsame hD rfl) hS hA [10, 13, 14, 15, 16] rfl rfl 10 1 (T := TX1) (N := 11) rfl rfl rfl hl.1 rfl (Nat.le_of_ble_eq_true rfl) dX7_best_64 ⟨Nat.zero_le _, Nat.zero_le _⟩ o_64 rfl rfl (fun H locs hP hS => ?_)
              have e9 : v_X7_best x1 x2 i_survey_isMade f_survey_lawful f_survey_grants f_survey_bests f_survey_mosts i_lease_wishCount f_lease_room f_lease_cells f_lease_needs f_lease_values = (o_64, o_24_2, o_24_3, o_24_4, o_24_5, o_24_6) := by
                refine (bnd_eq ho_1).trans ?_
                refine (if_neg c_4).trans ?_
                refine (if_neg c_8).trans ?_
                refine (if_pos c_13).trans ?_
                refine (bnd6_eq ho_24).trans ?_
                refine (if_neg c_31).trans ?_
                refine (if_neg c_39).trans ?_
                refine (if_neg c_45).trans ?_
                refine (bnd_eq ho_64).trans ?_
                rfl
              rw [hQ]; exact retI (o_64, o_24_2, o_24_3, o_24_4, o_24_5, o_24_6) hx hb hr hlk e9 hP rfl hS dX7_best_67
            · refine lv_aload_n hx hb dX7_best_48 rfl (lv_at hl 1 rfl) ?_
              refine va_get (D := D) (ci := 7) (v := .ref a_lease) (C := RX7) (T := TX7) (N := 14) hx hb hts (fun _ h => List.mem_cons_of_mem _ (List.mem_append_left _ (List.mem_append_left _ (List.mem_append_left _ (List.mem_append_right _ (h)))))) hown hK hP 0 rfl rfl 1 (by decide) (hts _ (List.mem_of_getElem? (i := 2) rfl)) (fun _ h9 => h9) rfl dX7_best_49 ?_
              refine lv_iload_n hx hb dX7_best_52 rfl (lv_at hl 0 rfl) ?_
              obtain ⟨o_53, ho_53⟩ : ∃ z : Int32, z = v_X1_worthOf o_24_1 i_lease_wishCount f_lease_cells f_lease_needs f_lease_values := ⟨_, rfl⟩
              refine callVIs (As := [.int o_24_1]) (rest := []) o_53 ho_53 hF (k_X1_worthOf l D cI cZ a_lease a_lease_places a_lease_firstHours a_lease_spans a_lease_values a_lease_cells a_lease_needs a_lease_owed a_lease_room n_lease_cells n_lease_needs n_lease_values o_24_1 i_lease_squares i_lease_wishCount i_lease_owedPlaces f_lease_cells f_lease_needs f_lease_values) (cwV 1 hts gX7_best_X1_worthOf rfl rfl rfl (by decide +kernel) ⟨Nat.le_of_ble_eq_true rfl, Nat.le_of_ble_eq_true rfl⟩) hK hN hP (va_Dsame hD rfl) hS hA [10, 13, 14, 15, 16, 17, 18] rfl rfl 10 1 (T := TX1) (N := 11) rfl rfl rfl hl.1 rfl (Nat.le_of_ble_eq_true rfl) dX7_best_53 ⟨Nat.zero_le _, Nat.zero_le _⟩ o_53 rfl rfl (fun H locs hP hS => ?_)
              refine lv_goto (tgt := 67) hx hb dX7_best_56 (by decide) ?_
              have e9 : v_X7_best x1 x2 i_survey_isMade f_survey_lawful f_survey_grants f_survey_bests f_survey_mosts i_lease_wishCount f_lease_room f_lease_cells f_lease_needs f_lease_values = (o_53, o_24_2, o_24_3, o_24_4, o_24_5, o_24_6) := by
                refine (bnd_eq ho_1).trans ?_
                refine (if_neg c_4).trans ?_
                refine (if_neg c_8).trans ?_
                refine (if_pos c_13).trans ?_
                refine (bnd6_eq ho_24).trans ?_
                refine (if_neg c_31).trans ?_
                refine (if_neg c_39).trans ?_
                refine (if_pos c_45).trans ?_
                refine (bnd_eq ho_53).trans ?_
                rfl
              rw [hQ]; exact retI (o_53, o_24_2, o_24_3, o_24_4, o_24_5, o_24_6) hx hb hr hlk e9 hP rfl hS dX7_best_67
          · refine lv_iload_n hx hb dX7_best_42 rfl (lv_at hl 0 rfl) ?_
            have e9 : v_X7_best x1 x2 i_survey_isMade f_survey_lawful f_survey_grants f_survey_bests f_survey_mosts i_lease_wishCount f_lease_room f_lease_cells f_lease_needs f_lease_values = (o_24_1, o_24_2, o_24_3, o_24_4, o_24_5, o_24_6) := by
              refine (bnd_eq ho_1).trans ?_
              refine (if_neg c_4).trans ?_
              refine (if_neg c_8).trans ?_
              refine (if_pos c_13).trans ?_
              refine (bnd6_eq ho_24).trans ?_
              refine (if_neg c_31).trans ?_
              refine (if_pos c_39).trans ?_
              rfl
            rw [hQ]; exact retI (o_24_1, o_24_2, o_24_3, o_24_4, o_24_5, o_24_6) hx hb hr hlk e9 hP rfl hS dX7_best_43
        · refine lv_bipush (v := (-9)) hx hb dX7_best_34 rfl ?_
          have e9 : v_X7_best x1 x2 i_survey_isMade f_survey_lawful f_survey_grants f_survey_bests f_survey_mosts i_lease_wishCount f_lease_room f_lease_cells f_lease_needs f_lease_values = ((-9), o_24_2, o_24_3, o_24_4, o_24_5, o_24_6) := by
            refine (bnd_eq ho_1).trans ?_
            refine (if_neg c_4).trans ?_
            refine (if_neg c_8).trans ?_
            refine (if_pos c_13).trans ?_
            refine (bnd6_eq ho_24).trans ?_
            refine (if_pos c_31).trans ?_
            rfl
          rw [hQ]; exact retI ((-9), o_24_2, o_24_3, o_24_4, o_24_5, o_24_6) hx hb hr hlk e9 hP rfl hS dX7_best_36
      · refine lv_bipush (v := (-2)) hx hb dX7_best_16 rfl ?_
        have e9 : v_X7_best x1 x2 i_survey_isMade f_survey_lawful f_survey_grants f_survey_bests f_survey_mosts i_lease_wishCount f_lease_room f_lease_cells f_lease_needs f_lease_values = ((-2), i_survey_isMade, f_survey_lawful, f_survey_grants, f_survey_bests, f_survey_mosts) := by
          refine (bnd_eq ho_1).trans ?_
          refine (if_neg c_4).trans ?_
          refine (if_neg c_8).trans ?_
          refine (if_neg c_13).trans ?_
          rfl
        rw [hQ]; exact retI ((-2), i_survey_isMade, f_survey_lawful, f_survey_grants, f_survey_bests, f_survey_mosts) hx hb hr hlk e9 hP rfl hS dX7_best_18
def v_X7_many (x1 : Int32) (i_survey_isMade : Int32) (f_survey_lawful : Nat → Int32) (f_survey_grants : Nat → Int32) (f_survey_bests : Nat → Int32) (f_survey_mosts : Nat → Int32) (i_lease_wishCount : Int32) (f_lease_room : Nat → Int32) (f_lease_cells : Nat → Int32) (f_lease_needs : Nat → Int32) (f_lease_values : Nat → Int32) : Int32 × Int32 × (Nat → Int32) × (Nat → Int32) × (Nat → Int32) × (Nat → Int32) :=
  bnd (v_X7_isSquares x1) fun o_1 =>
  (if bI o_1 = 0 then ((-2), i_survey_isMade, f_survey_lawful, f_survey_grants, f_survey_bests, f_survey_mosts)
  else (bnd6 (v_X5_lawfulOf x1 i_survey_isMade f_survey_lawful f_survey_grants f_survey_bests f_survey_mosts i_lease_wishCount f_lease_room f_lease_cells f_lease_needs f_lease_values) fun o_12_1 o_12_2 o_12_3 o_12_4 o_12_5 o_12_6 =>
  (o_12_1, o_12_2, o_12_3, o_12_4, o_12_5, o_12_6)))
abbrev rm_X7_many : Room := { frames := 5, cells := 0, slots := 0, locals := 110 }
set_option maxHeartbeats 4000000 in
set_option maxRecDepth 100000 in
theorem k_X7_many (l : Launch) (D : va_G) (cI cZ : ClassId) (a a_text a_lease a_reader a_prover a_survey a_paths a_acts a_slots a_survey_lawful a_survey_grants a_survey_bests a_survey_mosts n_survey_lawful n_survey_grants n_survey_bests n_survey_mosts a_lease_places a_lease_firstHours a_lease_spans a_lease_values a_lease_cells a_lease_needs a_lease_owed a_lease_room n_lease_room n_lease_cells n_lease_needs n_lease_values : Nat) (x1 : Int32) (i_hangingNow : Int32) (i_hourNow : Int32) (i_toldDark : Int32) (i_toldLight : Int32) (i_toldCount : Int32) (j_seedNow : Int64) (i_survey_isMade : Int32) (f_survey_lawful : Nat → Int32) (f_survey_grants : Nat → Int32) (f_survey_bests : Nat → Int32) (f_survey_mosts : Nat → Int32) (i_lease_squares : Int32) (i_lease_wishCount : Int32) (i_lease_owedPlaces : Int32) (f_lease_room : Nat → Int32) (f_lease_cells : Nat → Int32) (f_lease_needs : Nat → Int32) (f_lease_values : Nat → Int32) : KI l D cI cZ yX7_many wsX7_many rm_X7_many [.ref a, .int x1] [(a, .inr (7, [.ref a_text, .ref a_lease, .ref a_reader, .ref a_prover, .ref a_survey, .ref a_paths, .ref a_acts, .ref a_slots, .int i_hangingNow, .int i_hourNow, .int i_toldDark, .int i_toldLight, .int i_toldCount, .long j_seedNow])), (a_survey, .inr (5, [.ref a_lease, .ref a_survey_lawful, .ref a_survey_grants, .ref a_survey_bests, .ref a_survey_mosts, .int i_survey_isMade])), (a_survey_lawful, .inr (4, [.ref n_survey_lawful])), (n_survey_lawful, .inl (cI, 6, .inl f_survey_lawful)), (a_survey_grants, .inr (4, [.ref n_survey_grants])), (n_survey_grants, .inl (cI, 6, .inl f_survey_grants)), (a_survey_bests, .inr (4, [.ref n_survey_bests])), (n_survey_bests, .inl (cI, 6, .inl f_survey_bests)), (a_survey_mosts, .inr (4, [.ref n_survey_mosts])), (n_survey_mosts, .inl (cI, 6, .inl f_survey_mosts)), (a_lease, .inr (1, [.ref a_lease_places, .ref a_lease_firstHours, .ref a_lease_spans, .ref a_lease_values, .ref a_lease_cells, .ref a_lease_needs, .ref a_lease_owed, .ref a_lease_room, .int i_lease_squares, .int i_lease_wishCount, .int i_lease_owedPlaces])), (a_lease_room, .inr (4, [.ref n_lease_room])), (n_lease_room, .inl (cI, 2, .inl f_lease_room)), (a_lease_cells, .inr (4, [.ref n_lease_cells])), (n_lease_cells, .inl (cI, 5, .inl f_lease_cells)), (a_lease_needs, .inr (4, [.ref n_lease_needs])), (n_lease_needs, .inl (cI, 5, .inl f_lease_needs)), (a_lease_values, .inr (4, [.ref n_lease_values])), (n_lease_values, .inl (cI, 5, .inl f_lease_values))] (v_X7_many x1 i_survey_isMade f_survey_lawful f_survey_grants f_survey_bests f_survey_mosts i_lease_wishCount f_lease_room f_lease_cells f_lease_needs f_lease_values) (fun o : Int32 × Int32 × (Nat → Int32) × (Nat → Int32) × (Nat → Int32) × (Nat → Int32) => o.1) (fun o : Int32 × Int32 × (Nat → Int32) × (Nat → Int32) × (Nat → Int32) × (Nat → Int32) => [(a, .inr (7, [.ref a_text, .ref a_lease, .ref a_reader, .ref a_prover, .ref a_survey, .ref a_paths, .ref a_acts, .ref a_slots, .int i_hangingNow, .int i_hourNow, .int i_toldDark, .int i_toldLight, .int i_toldCount, .long j_seedNow])), (a_survey, .inr (5, [.ref a_lease, .ref a_survey_lawful, .ref a_survey_grants, .ref a_survey_bests, .ref a_survey_mosts, .int o.2.1])), (a_survey_lawful, .inr (4, [.ref n_survey_lawful])), (n_survey_lawful, .inl (cI, 6, .inl o.2.2.1)), (a_survey_grants, .inr (4, [.ref n_survey_grants])), (n_survey_grants, .inl (cI, 6, .inl o.2.2.2.1)), (a_survey_bests, .inr (4, [.ref n_survey_bests])), (n_survey_bests, .inl (cI, 6, .inl o.2.2.2.2.1)), (a_survey_mosts, .inr (4, [.ref n_survey_mosts])), (n_survey_mosts, .inl (cI, 6, .inl o.2.2.2.2.2)), (a_lease, .inr (1, [.ref a_lease_places, .ref a_lease_firstHours, .ref a_lease_spans, .ref a_lease_values, .ref a_lease_cells, .ref a_lease_needs, .ref a_lease_owed, .ref a_lease_room, .int i_lease_squares, .int i_lease_wishCount, .int i_lease_owedPlaces])), (a_lease_room, .inr (4, [.ref n_lease_room])), (n_lease_room, .inl (cI, 2, .inl f_lease_room)), (a_lease_cells, .inr (4, [.ref n_lease_cells])), (n_lease_cells, .inl (cI, 5, .inl f_lease_cells)), (a_lease_needs, .inr (4, [.ref n_lease_needs])), (n_lease_needs, .inl (cI, 5, .inl f_lease_needs)), (a_lease_values, .inr (4, [.ref n_lease_values])), (n_lease_values, .inl (cI, 5, .inl f_lease_values))]) := by
  refine KI.of cX7_many 2 (some .int) (by decide) rfl (Nat.le_of_ble_eq_true rfl) ?_
  intro p e s m below meth c A ls ar Q hQ B
  obtain ⟨hx, hb, hr, hml, hts, hown, hlk, hK, hN, hP, hD, hA, hS, hl⟩ := B
  have hown : s.vm.findClass RX7 = some m.cls := hown
  have hF : CallFix p m c cX7_many 2 s ar wsX7_many RX7 := ⟨hx, hb, hml, hown, hts⟩
  have hl : lv_has ls 2 [(0, .ref a), (1, .int x1)] := hl
  refine lv_iload_n hx hb dX7_many_0 rfl (lv_at hl 1 rfl) ?_
  obtain ⟨o_1, ho_1⟩ : ∃ z : Bool, z = v_X7_isSquares x1 := ⟨_, rfl⟩
  refine callSIs (As := [.int x1]) (rest := []) o_1 ho_1 hF (k_X7_isSquares l D cI cZ x1) (va_cwS 1 hts gX7_many_X7_isSquares rfl rfl rfl (by decide +kernel) ⟨Nat.le_of_ble_eq_true rfl, Nat.le_of_ble_eq_true rfl⟩) hK hN hP (va_Dsame hD rfl) hS hA [] rfl rfl rfl hl.1 rfl (Nat.le_of_ble_eq_true rfl) dX7_many_1 ⟨Nat.zero_le _, Nat.zero_le _⟩ (bI o_1) rfl rfl (fun H locs hP hS => ?_)
  refine lv_if_eq (tgt := 18) hx hb dX7_many_4 (by decide) (fun c_4 => ?_) (fun c_4 => ?_)
  · refine lv_bipush (v := (-2)) hx hb dX7_many_18 rfl ?_
    have e9 : v_X7_many x1 i_survey_isMade f_survey_lawful f_survey_grants f_survey_bests f_survey_mosts i_lease_wishCount f_lease_room f_lease_cells f_lease_needs f_lease_values = ((-2), i_survey_isMade, f_survey_lawful, f_survey_grants, f_survey_bests, f_survey_mosts) := by
      refine (bnd_eq ho_1).trans ?_
      refine (if_pos c_4).trans ?_
      rfl
    rw [hQ]; exact retI ((-2), i_survey_isMade, f_survey_lawful, f_survey_grants, f_survey_bests, f_survey_mosts) hx hb hr hlk e9 hP rfl hS dX7_many_20
  · refine lv_aload_n hx hb dX7_many_7 rfl (lv_at hl 0 rfl) ?_
    refine va_get (D := D) (ci := 7) (v := .ref a_survey) (C := RX7) (T := TX7) (N := 14) hx hb hts (fun _ h => List.mem_cons_of_mem _ (List.mem_append_left _ (List.mem_append_left _ (List.mem_append_left _ (List.mem_append_right _ (h)))))) hown hK hP 0 rfl rfl 4 (by decide) (hts _ (List.mem_of_getElem? (i := 1) rfl)) (fun _ h9 => h9) rfl dX7_many_8 ?_
    refine lv_iload_n hx hb dX7_many_11 rfl (lv_at hl 1 rfl) ?_
    obtain ⟨o_12_1, o_12_2, o_12_3, o_12_4, o_12_5, o_12_6, ho_12⟩ := ex6 (v_X5_lawfulOf x1 i_survey_isMade f_survey_lawful f_survey_grants f_survey_bests f_survey_mosts i_lease_wishCount f_lease_room f_lease_cells f_lease_needs f_lease_values)
    refine callVI (As := [.int x1]) (rest := []) (o_12_1, o_12_2, o_12_3, o_12_4, o_12_5, o_12_6) ho_12 hF (k_X5_lawfulOf l D cI cZ a_survey a_lease a_survey_lawful a_survey_grants a_survey_bests a_survey_mosts n_survey_lawful n_survey_grants n_survey_bests n_survey_mosts a_lease_places a_lease_firstHours a_lease_spans a_lease_values a_lease_cells a_lease_needs a_lease_owed a_lease_room n_lease_room n_lease_cells n_lease_needs n_lease_values x1 i_survey_isMade f_survey_lawful f_survey_grants f_survey_bests f_survey_mosts i_lease_squares i_lease_wishCount i_lease_owedPlaces f_lease_room f_lease_cells f_lease_needs f_lease_values) (cwV 1 hts gX7_many_X5_lawfulOf rfl rfl rfl (by decide +kernel) ⟨Nat.le_of_ble_eq_true rfl, Nat.le_of_ble_eq_true rfl⟩) hK hN hP (va_Dsame hD rfl) hS hA [1, 2, 3, 4, 5, 6, 7, 8, 9, 10, 11, 12, 13, 14, 15, 16, 17, 18] rfl rfl 1 5 (T := TX5) (N := 6) rfl rfl rfl hl.1 rfl (Nat.le_of_ble_eq_true rfl) dX7_many_12 ⟨Nat.zero_le _, Nat.zero_le _⟩ o_12_1 rfl [none, some 0, some 1, some 2, some 3, some 4, some 5, some 6, some 7, some 8, some 9, some 10, some 11, some 12, some 13, some 14, some 15, some 16, some 17] 18 [(a, .inr (7, [.ref a_text, .ref a_lease, .ref a_reader, .ref a_prover, .ref a_survey, .ref a_paths, .ref a_acts, .ref a_slots, .int i_hangingNow, .int i_hourNow, .int i_toldDark, .int i_toldLight, .int i_toldCount, .long j_seedNow])), (a_survey, .inr (5, [.ref a_lease, .ref a_survey_lawful, .ref a_survey_grants, .ref a_survey_bests, .ref a_survey_mosts, .int o_12_2])), (a_survey_lawful, .inr (4, [.ref n_survey_lawful])), (n_survey_lawful, .inl (cI, 6, .inl o_12_3)), (a_survey_grants, .inr (4, [.ref n_survey_grants])), (n_survey_grants, .inl (cI, 6, .inl o_12_4)), (a_survey_bests, .inr (4, [.ref n_survey_bests])), (n_survey_bests, .inl (cI, 6, .inl o_12_5)), (a_survey_mosts, .inr (4, [.ref n_survey_mosts])), (n_survey_mosts, .inl (cI, 6, .inl o_12_6)), (a_lease, .inr (1, [.ref a_lease_places, .ref a_lease_firstHours, .ref a_lease_spans, .ref a_lease_values, .ref a_lease_cells, .ref a_lease_needs, .ref a_lease_owed, .ref a_lease_room, .int i_lease_squares, .int i_lease_wishCount, .int i_lease_owedPlaces])), (a_lease_room, .inr (4, [.ref n_lease_room])), (n_lease_room, .inl (cI, 2, .inl f_lease_room)), (a_lease_cells, .inr (4, [.ref n_lease_cells])), (n_lease_cells, .inl (cI, 5, .inl f_lease_cells)), (a_lease_needs, .inr (4, [.ref n_lease_needs])), (n_lease_needs, .inl (cI, 5, .inl f_lease_needs)), (a_lease_values, .inr (4, [.ref n_lease_values])), (n_lease_values, .inl (cI, 5, .inl f_lease_values))] rfl rfl (by decide) (fun H locs hP hS => ?_)
    refine lv_goto (tgt := 20) hx hb dX7_many_15 (by decide) ?_
    have e9 : v_X7_many x1 i_survey_isMade f_survey_lawful f_survey_grants f_survey_bests f_survey_mosts i_lease_wishCount f_lease_room f_lease_cells f_lease_needs f_lease_values = (o_12_1, o_12_2, o_12_3, o_12_4, o_12_5, o_12_6) := by
      refine (bnd_eq ho_1).trans ?_
      refine (if_neg c_4).trans ?_
      refine (bnd6_eq ho_12).trans ?_
      rfl
    rw [hQ]; exact retI (o_12_1, o_12_2, o_12_3, o_12_4, o_12_5, o_12_6) hx hb hr hlk e9 hP rfl hS dX7_many_20
def v_X7_areBarred (x1 : Int32) (x2 : Int32) (x3 : Int32) (i_survey_isMade : Int32) (f_survey_lawful : Nat → Int32) (f_survey_grants : Nat → Int32) (f_survey_bests : Nat → Int32) (f_survey_mosts : Nat → Int32) (i_lease_wishCount : Int32) (f_lease_room : Nat → Int32) (f_lease_cells : Nat → Int32) (f_lease_needs : Nat → Int32) (f_lease_values : Nat → Int32) : Bool × Int32 × (Nat → Int32) × (Nat → Int32) × (Nat → Int32) × (Nat → Int32) :=
  bnd6 (v_X5_canGrant x3 ((1 : Int32) <<< (x1 &&& 31)) i_survey_isMade f_survey_lawful f_survey_grants f_survey_bests f_survey_mosts i_lease_wishCount f_lease_room f_lease_cells f_lease_needs f_lease_values) fun o_8_1 o_8_2 o_8_3 o_8_4 o_8_5 o_8_6 =>
  (if bI o_8_1 = 0 then (false, o_8_2, o_8_3, o_8_4, o_8_5, o_8_6)
  else (bnd6 (v_X5_canGrant x3 ((1 : Int32) <<< (x2 &&& 31)) o_8_2 o_8_3 o_8_4 o_8_5 o_8_6 i_lease_wishCount f_lease_room f_lease_cells f_lease_needs f_lease_values) fun o_22_1 o_22_2 o_22_3 o_22_4 o_22_5 o_22_6 =>
  (if bI o_22_1 = 0 then (false, o_22_2, o_22_3, o_22_4, o_22_5, o_22_6)
  else (bnd6 (v_X5_canGrant x3 (((1 : Int32) <<< (x1 &&& 31)) ||| ((1 : Int32) <<< (x2 &&& 31))) o_22_2 o_22_3 o_22_4 o_22_5 o_22_6 i_lease_wishCount f_lease_room f_lease_cells f_lease_needs f_lease_values) fun o_40_1 o_40_2 o_40_3 o_40_4 o_40_5 o_40_6 =>
  (if bI o_40_1 = 0 then (true, o_40_2, o_40_3, o_40_4, o_40_5, o_40_6)
  else (false, o_40_2, o_40_3, o_40_4, o_40_5, o_40_6))))))
abbrev rm_X7_areBarred : Room := { frames := 5, cells := 0, slots := 0, locals := 112 }
set_option maxHeartbeats 4000000 in
set_option maxRecDepth 100000 in
theorem k_X7_areBarred (l : Launch) (D : va_G) (cI cZ : ClassId) (a a_text a_lease a_reader a_prover a_survey a_paths a_acts a_slots a_survey_lawful a_survey_grants a_survey_bests a_survey_mosts n_survey_lawful n_survey_grants n_survey_bests n_survey_mosts a_lease_places a_lease_firstHours a_lease_spans a_lease_values a_lease_cells a_lease_needs a_lease_owed a_lease_room n_lease_room n_lease_cells n_lease_needs n_lease_values : Nat) (x1 : Int32) (x2 : Int32) (x3 : Int32) (i_hangingNow : Int32) (i_hourNow : Int32) (i_toldDark : Int32) (i_toldLight : Int32) (i_toldCount : Int32) (j_seedNow : Int64) (i_survey_isMade : Int32) (f_survey_lawful : Nat → Int32) (f_survey_grants : Nat → Int32) (f_survey_bests : Nat → Int32) (f_survey_mosts : Nat → Int32) (i_lease_squares : Int32) (i_lease_wishCount : Int32) (i_lease_owedPlaces : Int32) (f_lease_room : Nat → Int32) (f_lease_cells : Nat → Int32) (f_lease_needs : Nat → Int32) (f_lease_values : Nat → Int32) : KI l D cI cZ yX7_areBarred wsX7_areBarred rm_X7_areBarred [.ref a, .int x1, .int x2, .int x3] [(a, .inr (7, [.ref a_text, .ref a_lease, .ref a_reader, .ref a_prover, .ref a_survey, .ref a_paths, .ref a_acts, .ref a_slots, .int i_hangingNow, .int i_hourNow, .int i_toldDark, .int i_toldLight, .int i_toldCount, .long j_seedNow])), (a_survey, .inr (5, [.ref a_lease, .ref a_survey_lawful, .ref a_survey_grants, .ref a_survey_bests, .ref a_survey_mosts, .int i_survey_isMade])), (a_survey_lawful, .inr (4, [.ref n_survey_lawful])), (n_survey_lawful, .inl (cI, 6, .inl f_survey_lawful)), (a_survey_grants, .inr (4, [.ref n_survey_grants])), (n_survey_grants, .inl (cI, 6, .inl f_survey_grants)), (a_survey_bests, .inr (4, [.ref n_survey_bests])), (n_survey_bests, .inl (cI, 6, .inl f_survey_bests)), (a_survey_mosts, .inr (4, [.ref n_survey_mosts])), (n_survey_mosts, .inl (cI, 6, .inl f_survey_mosts)), (a_lease, .inr (1, [.ref a_lease_places, .ref a_lease_firstHours, .ref a_lease_spans, .ref a_lease_values, .ref a_lease_cells, .ref a_lease_needs, .ref a_lease_owed, .ref a_lease_room, .int i_lease_squares, .int i_lease_wishCount, .int i_lease_owedPlaces])), (a_lease_room, .inr (4, [.ref n_lease_room])), (n_lease_room, .inl (cI, 2, .inl f_lease_room)), (a_lease_cells, .inr (4, [.ref n_lease_cells])), (n_lease_cells, .inl (cI, 5, .inl f_lease_cells)), (a_lease_needs, .inr (4, [.ref n_lease_needs])), (n_lease_needs, .inl (cI, 5, .inl f_lease_needs)), (a_lease_values, .inr (4, [.ref n_lease_values])), (n_lease_values, .inl (cI, 5, .inl f_lease_values))] (v_X7_areBarred x1 x2 x3 i_survey_isMade f_survey_lawful f_survey_grants f_survey_bests f_survey_mosts i_lease_wishCount f_lease_room f_lease_cells f_lease_needs f_lease_values) (fun o : Bool × Int32 × (Nat → Int32) × (Nat → Int32) × (Nat → Int32) × (Nat → Int32) => bI o.1) (fun o : Bool × Int32 × (Nat → Int32) × (Nat → Int32) × (Nat → Int32) × (Nat → Int32) => [(a, .inr (7, [.ref a_text, .ref a_lease, .ref a_reader, .ref a_prover, .ref a_survey, .ref a_paths, .ref a_acts, .ref a_slots, .int i_hangingNow, .int i_hourNow, .int i_toldDark, .int i_toldLight, .int i_toldCount, .long j_seedNow])), (a_survey, .inr (5, [.ref a_lease, .ref a_survey_lawful, .ref a_survey_grants, .ref a_survey_bests, .ref a_survey_mosts, .int o.2.1])), (a_survey_lawful, .inr (4, [.ref n_survey_lawful])), (n_survey_lawful, .inl (cI, 6, .inl o.2.2.1)), (a_survey_grants, .inr (4, [.ref n_survey_grants])), (n_survey_grants, .inl (cI, 6, .inl o.2.2.2.1)), (a_survey_bests, .inr (4, [.ref n_survey_bests])), (n_survey_bests, .inl (cI, 6, .inl o.2.2.2.2.1)), (a_survey_mosts, .inr (4, [.ref n_survey_mosts])), (n_survey_mosts, .inl (cI, 6, .inl o.2.2.2.2.2)), (a_lease, .inr (1, [.ref a_lease_places, .ref a_lease_firstHours, .ref a_lease_spans, .ref a_lease_values, .ref a_lease_cells, .ref a_lease_needs, .ref a_lease_owed, .ref a_lease_room, .int i_lease_squares, .int i_lease_wishCount, .int i_lease_owedPlaces])), (a_lease_room, .inr (4, [.ref n_lease_room])), (n_lease_room, .inl (cI, 2, .inl f_lease_room)), (a_lease_cells, .inr (4, [.ref n_lease_cells])), (n_lease_cells, .inl (cI, 5, .inl f_lease_cells)), (a_lease_needs, .inr (4, [.ref n_lease_needs])), (n_lease_needs, .inl (cI, 5, .inl f_lease_needs)), (a_lease_values, .inr (4, [.ref n_lease_values])), (n_lease_values, .inl (cI, 5, .inl f_lease_values))]) := by
  refine KI.of cX7_areBarred 4 (some .boolean) (by decide) rfl (Nat.le_of_ble_eq_true rfl) ?_
  intro p e s m below meth c A ls ar Q hQ B
  obtain ⟨hx, hb, hr, hml, hts, hown, hlk, hK, hN, hP, hD, hA, hS, hl⟩ := B
  have hown : s.vm.findClass RX7 = some m.cls := hown
  have hF : CallFix p m c cX7_areBarred 4 s ar wsX7_areBarred RX7 := ⟨hx, hb, hml, hown, hts⟩
  have hl : lv_has ls 4 [(0, .ref a), (1, .int x1), (2, .int x2), (3, .int x3)] := hl
  refine lv_aload_n hx hb dX7_areBarred_0 rfl (lv_at hl 0 rfl) ?_
  refine va_get (D := D) (ci := 7) (v := .ref a_survey) (C := RX7) (T := TX7) (N := 14) hx hb hts (fun _ h => List.mem_cons_of_mem _ (List.mem_append_left _ (List.mem_append_left _ (List.mem_append_left _ (List.mem_append_right _ (h)))))) hown hK hP 0 rfl rfl 4 (by decide) (hts _ (List.mem_of_getElem? (i := 1) rfl)) (fun _ h9 => h9) rfl dX7_areBarred_1 ?_
  refine lv_iload_n hx hb dX7_areBarred_4 rfl (lv_at hl 3 rfl) ?_
  refine lv_iconst (v := 1) hx hb dX7_areBarred_5 rfl ?_
  refine lv_iload_n hx hb dX7_areBarred_6 rfl (lv_at hl 1 rfl) ?_
  refine lv_ishl hx hb dX7_areBarred_7 ?_
  obtain ⟨o_8_1, o_8_2, o_8_3, o_8_4, o_8_5, o_8_6, ho_8⟩ := ex6 (v_X5_canGrant x3 ((1 : Int32) <<< (x1 &&& 31)) i_survey_isMade f_survey_lawful f_survey_grants f_survey_bests f_survey_mosts i_lease_wishCount f_lease_room f_lease_cells f_lease_needs f_lease_values)
  refine callVI (As := [.int x3, .int ((1 : Int32) <<< (x1 &&& 31))]) (rest := []) (o_8_1, o_8_2, o_8_3, o_8_4, o_8_5, o_8_6) ho_8 hF (k_X5_canGrant l D cI cZ a_survey a_lease a_survey_lawful a_survey_grants a_survey_bests a_survey_mosts n_survey_lawful n_survey_grants n_survey_bests n_survey_mosts a_lease_places a_lease_firstHours a_lease_spans a_lease_values a_lease_cells a_lease_needs a_lease_owed a_lease_room n_lease_room n_lease_cells n_lease_needs n_lease_values x3 ((1 : Int32) <<< (x1 &&& 31)) i_survey_isMade f_survey_lawful f_survey_grants f_survey_bests f_survey_mosts i_lease_squares i_lease_wishCount i_lease_owedPlaces f_lease_room f_lease_cells f_lease_needs f_lease_values) (cwV 2 hts gX7_areBarred_X5_canGrant rfl rfl rfl (by decide +kernel) ⟨Nat.le_of_ble_eq_true rfl, Nat.le_of_ble_eq_true rfl⟩) hK hN hP (va_Dsame hD rfl) hS hA [1, 2, 3, 4, 5, 6, 7, 8, 9, 10, 11, 12, 13, 14, 15, 16, 17, 18] rfl rfl 1 5 (T := TX5) (N := 6) rfl rfl rfl hl.1 rfl (Nat.le_of_ble_eq_true rfl) dX7_areBarred_8 ⟨Nat.zero_le _, Nat.zero_le _⟩ (bI o_8_1) rfl [none, some 0, some 1, some 2, some 3, some 4, some 5, some 6, some 7, some 8, some 9, some 10, some 11, some 12, some 13, some 14, some 15, some 16, some 17] 18 [(a, .inr (7, [.ref a_text, .ref a_lease, .ref a_reader, .ref a_prover, .ref a_survey, .ref a_paths, .ref a_acts, .ref a_slots, .int i_hangingNow, .int i_hourNow, .int i_toldDark, .int i_toldLight, .int i_toldCount, .long j_seedNow])), (a_survey, .inr (5, [.ref a_lease, .ref a_survey_lawful, .ref a_survey_grants, .ref a_survey_bests, .ref a_survey_mosts, .int o_8_2])), (a_survey_lawful, .inr (4, [.ref n_survey_lawful])), (n_survey_lawful, .inl (cI, 6, .inl o_8_3)), (a_survey_grants, .inr (4, [.ref n_survey_grants])), (n_survey_grants, .inl (cI, 6, .inl o_8_4)), (a_survey_bests, .inr (4, [.ref n_survey_bests])), (n_survey_bests, .inl (cI, 6, .inl o_8_5)), (a_survey_mosts, .inr (4, [.ref n_survey_mosts])), (n_survey_mosts, .inl (cI, 6, .inl o_8_6)), (a_lease, .inr (1, [.ref a_lease_places, .ref a_lease_firstHours, .ref a_lease_spans, .ref a_lease_values, .ref a_lease_cells, .ref a_lease_needs, .ref a_lease_owed, .ref a_lease_room, .int i_lease_squares, .int i_lease_wishCount, .int i_lease_owedPlaces])), (a_lease_room, .inr (4, [.ref n_lease_room])), (n_lease_room, .inl (cI, 2, .inl f_lease_room)), (a_lease_cells, .inr (4, [.ref n_lease_cells])), (n_lease_cells, .inl (cI, 5, .inl f_lease_cells)), (a_lease_needs, .inr (4, [.ref n_lease_needs])), (n_lease_needs, .inl (cI, 5, .inl f_lease_needs)), (a_lease_values, .inr (4, [.ref n_lease_values])), (n_lease_values, .inl (cI, 5, .inl f_lease_values))] rfl rfl (by decide) (fun H locs hP hS => ?_)
  refine lv_if_eq (tgt := 50) hx hb dX7_areBarred_11 (by decide) (fun c_11 => ?_) (fun c_11 => ?_)
  · refine lv_iconst (v := 0) hx hb dX7_areBarred_50 rfl ?_
    have e9 : v_X7_areBarred x1 x2 x3 i_survey_isMade f_survey_lawful f_survey_grants f_survey_bests f_survey_mosts i_lease_wishCount f_lease_room f_lease_cells f_lease_needs f_lease_values = (false, o_8_2, o_8_3, o_8_4, o_8_5, o_8_6) := by
      refine (bnd6_eq ho_8).trans ?_
      refine (if_pos c_11).trans ?_
      rfl
    rw [hQ]; exact retZ (v := fun o : Bool × Int32 × (Nat → Int32) × (Nat → Int32) × (Nat → Int32) × (Nat → Int32) => o.1) (false, o_8_2, o_8_3, o_8_4, o_8_5, o_8_6) hx hb hr hlk e9 hP rfl hS dX7_areBarred_51
  · refine lv_aload_n hx hb dX7_areBarred_14 rfl (lv_at hl 0 rfl) ?_
    refine va_get (D := D) (ci := 7) (v := .ref a_survey) (C := RX7) (T := TX7) (N := 14) hx hb hts (fun _ h => List.mem_cons_of_mem _ (List.mem_append_left _ (List.mem_append_left _ (List.mem_append_left _ (List.mem_append_right _ (h)))))) hown hK hP 0 rfl rfl 4 (by decide) (hts _ (List.mem_of_getElem? (i := 1) rfl)) (fun _ h9 => h9) rfl dX7_areBarred_15 ?_
    refine lv_iload_n hx hb dX7_areBarred_18 rfl (lv_at hl 3 rfl) ?_
    refine lv_iconst (v := 1) hx hb dX7_areBarred_19 rfl ?_
    refine lv_iload_n hx hb dX7_areBarred_20 rfl (lv_at hl 2 rfl) ?_
    refine lv_ishl hx hb dX7_areBarred_21 ?_
    obtain ⟨o_22_1, o_22_2, o_22_3, o_22_4, o_22_5, o_22_6, ho_22⟩ := ex6 (v_X5_canGrant x3 ((1 : Int32) <<< (x2 &&& 31)) o_8_2 o_8_3 o_8_4 o_8_5 o_8_6 i_lease_wishCount f_lease_room f_lease_cells f_lease_needs f_lease_values)
    refine callVI (As := [.int x3, .int ((1 : Int32) <<< (x2 &&& 31))]) (rest := []) (o_22_1, o_22_2, o_22_3, o_22_4, o_22_5, o_22_6) ho_22 hF (k_X5_canGrant l D cI cZ a_survey a_lease a_survey_lawful a_survey_grants a_survey_bests a_survey_mosts n_survey_lawful n_survey_grants n_survey_bests n_survey_mosts a_lease_places a_lease_firstHours a_lease_spans a_lease_values a_lease_cells a_lease_needs a_lease_owed a_lease_room n_lease_room n_lease_cells n_lease_needs n_lease_values x3 ((1 : Int32) <<< (x2 &&& 31)) o_8_2 o_8_3 o_8_4 o_8_5 o_8_6 i_lease_squares i_lease_wishCount i_lease_owedPlaces f_lease_room f_lease_cells f_lease_needs f_lease_values) (cwV 2 hts gX7_areBarred_X5_canGrant rfl rfl rfl (by decide +kernel) ⟨Nat.le_of_ble_eq_true rfl, Nat.le_of_ble_eq_true rfl⟩) hK hN hP (va_Dsame hD rfl) hS hA [1, 2, 3, 4, 5, 6, 7, 8, 9, 10, 11, 12, 13, 14, 15, 16, 17, 18] rfl rfl 1 5 (T := TX5) (N := 6) rfl rfl rfl hl.1 rfl (Nat.le_of_ble_eq_true rfl) dX7_areBarred_22 ⟨Nat.zero_le _, Nat.zero_le _⟩ (bI o_22_1) rfl [none, some 0, some 1, some 2, some 3, some 4, some 5, some 6, some 7, some 8, some 9, some 10, some 11, some 12, some 13, some 14, some 15, some 16, some 17] 18 [(a, .inr (7, [.ref a_text, .ref a_lease, .ref a_reader, .ref a_prover, .ref a_survey, .ref a_paths, .ref a_acts, .ref a_slots, .int i_hangingNow, .int i_hourNow, .int i_toldDark, .int i_toldLight, .int i_toldCount, .long j_seedNow])), (a_survey, .inr (5, [.ref a_lease, .ref a_survey_lawful, .ref a_survey_grants, .ref a_survey_bests, .ref a_survey_mosts, .int o_22_2])), (a_survey_lawful, .inr (4, [.ref n_survey_lawful])), (n_survey_lawful, .inl (cI, 6, .inl o_22_3)), (a_survey_grants, .inr (4, [.ref n_survey_grants])), (n_survey_grants, .inl (cI, 6, .inl o_22_4)), (a_survey_bests, .inr (4, [.ref n_survey_bests])), (n_survey_bests, .inl (cI, 6, .inl o_22_5)), (a_survey_mosts, .inr (4, [.ref n_survey_mosts])), (n_survey_mosts, .inl (cI, 6, .inl o_22_6)), (a_lease, .inr (1, [.ref a_lease_places, .ref a_lease_firstHours, .ref a_lease_spans, .ref a_lease_values, .ref a_lease_cells, .ref a_lease_needs, .ref a_lease_owed, .ref a_lease_room, .int i_lease_squares, .int i_lease_wishCount, .int i_lease_owedPlaces])), (a_lease_room, .inr (4, [.ref n_lease_room])), (n_lease_room, .inl (cI, 2, .inl f_lease_room)), (a_lease_cells, .inr (4, [.ref n_lease_cells])), (n_lease_cells, .inl (cI, 5, .inl f_lease_cells)), (a_lease_needs, .inr (4, [.ref n_lease_needs])), (n_lease_needs, .inl (cI, 5, .inl f_lease_needs)), (a_lease_values, .inr (4, [.ref n_lease_values])), (n_lease_values, .inl (cI, 5, .inl f_lease_values))] rfl rfl (by decide) (fun H locs hP hS => ?_)
    refine lv_if_eq (tgt := 50) hx hb dX7_areBarred_25 (by decide) (fun c_25 => ?_) (fun c_25 => ?_)
    · refine lv_iconst (v := 0) hx hb dX7_areBarred_50 rfl ?_
      have e9 : v_X7_areBarred x1 x2 x3 i_survey_isMade f_survey_lawful f_survey_grants f_survey_bests f_survey_mosts i_lease_wishCount f_lease_room f_lease_cells f_lease_needs f_lease_values = (false, o_22_2, o_22_3, o_22_4, o_22_5, o_22_6) := by
        refine (bnd6_eq ho_8).trans ?_
        refine (if_neg c_11).trans ?_
        refine (bnd6_eq ho_22).trans ?_
        refine (if_pos c_25).trans ?_
        rfl
      rw [hQ]; exact retZ (v := fun o : Bool × Int32 × (Nat → Int32) × (Nat → Int32) × (Nat → Int32) × (Nat → Int32) => o.1) (false, o_22_2, o_22_3, o_22_4, o_22_5, o_22_6) hx hb hr hlk e9 hP rfl hS dX7_areBarred_51
    · refine lv_aload_n hx hb dX7_areBarred_28 rfl (lv_at hl 0 rfl) ?_
      refine va_get (D := D) (ci := 7) (v := .ref a_survey) (C := RX7) (T := TX7) (N := 14) hx hb hts (fun _ h => List.mem_cons_of_mem _ (List.mem_append_left _ (List.mem_append_left _ (List.mem_append_left _ (List.mem_append_right _ (h)))))) hown hK hP 0 rfl rfl 4 (by decide) (hts _ (List.mem_of_getElem? (i := 1) rfl)) (fun _ h9 => h9) rfl dX7_areBarred_29 ?_
      refine lv_iload_n hx hb dX7_areBarred_32 rfl (lv_at hl 3 rfl) ?_
      refine lv_iconst (v := 1) hx hb dX7_areBarred_33 rfl ?_
      refine lv_iload_n hx hb dX7_areBarred_34 rfl (lv_at hl 1 rfl) ?_
      refine lv_ishl hx hb dX7_areBarred_35 ?_
      refine lv_iconst (v := 1) hx hb dX7_areBarred_36 rfl ?_
      refine lv_iload_n hx hb dX7_areBarred_37 rfl (lv_at hl 2 rfl) ?_
      refine lv_ishl hx hb dX7_areBarred_38 ?_
      refine lv_ior hx hb dX7_areBarred_39 ?_
      obtain ⟨o_40_1, o_40_2, o_40_3, o_40_4, o_40_5, o_40_6, ho_40⟩ := ex6 (v_X5_canGrant x3 (((1 : Int32) <<< (x1 &&& 31)) ||| ((1 : Int32) <<< (x2 &&& 31))) o_22_2 o_22_3 o_22_4 o_22_5 o_22_6 i_lease_wishCount f_lease_room f_lease_cells f_lease_needs f_lease_values)
      refine callVI (As := [.int x3, .int (((1 : Int32) <<< (x1 &&& 31)) ||| ((1 : Int32) <<< (x2 &&& 31)))]) (rest := []) (o_40_1, o_40_2, o_40_3, o_40_4, o_40_5, o_40_6) ho_40 hF (k_X5_canGrant l D cI cZ a_survey a_lease a_survey_lawful a_survey_grants a_survey_bests a_survey_mosts n_survey_lawful n_survey_grants n_survey_bests n_survey_mosts a_lease_places a_lease_firstHours a_lease_spans a_lease_values a_lease_cells a_lease_needs a_lease_owed a_lease_room n_lease_room n_lease_cells n_lease_needs n_lease_values x3 (((1 : Int32) <<< (x1 &&& 31)) ||| ((1 : Int32) <<< (x2 &&& 31))) o_22_2 o_22_3 o_22_4 o_22_5 o_22_6 i_lease_squares i_lease_wishCount i_lease_owedPlaces f_lease_room f_lease_cells f_lease_needs f_lease_values) (cwV 2 hts gX7_areBarred_X5_canGrant rfl rfl rfl (by decide +kernel) ⟨Nat.le_of_ble_eq_true rfl, Nat.le_of_ble_eq_true rfl⟩) hK hN hP (va_Dsame hD rfl) hS hA [1, 2, 3, 4, 5, 6, 7, 8, 9, 10, 11, 12, 13, 14, 15, 16, 17, 18] rfl rfl 1 5 (T := TX5) (N := 6) rfl rfl rfl hl.1 rfl (Nat.le_of_ble_eq_true rfl) dX7_areBarred_40 ⟨Nat.zero_le _, Nat.zero_le _⟩ (bI o_40_1) rfl [none, some 0, some 1, some 2, some 3, some 4, some 5, some 6, some 7, some 8, some 9, some 10, some 11, some 12, some 13, some 14, some 15, some 16, some 17] 18 [(a, .inr (7, [.ref a_text, .ref a_lease, .ref a_reader, .ref a_prover, .ref a_survey, .ref a_paths, .ref a_acts, .ref a_slots, .int i_hangingNow, .int i_hourNow, .int i_toldDark, .int i_toldLight, .int i_toldCount, .long j_seedNow])), (a_survey, .inr (5, [.ref a_lease, .ref a_survey_lawful, .ref a_survey_grants, .ref a_survey_bests, .ref a_survey_mosts, .int o_40_2])), (a_survey_lawful, .inr (4, [.ref n_survey_lawful])), (n_survey_lawful, .inl (cI, 6, .inl o_40_3)), (a_survey_grants, .inr (4, [.ref n_survey_grants])), (n_survey_grants, .inl (cI, 6, .inl o_40_4)), (a_survey_bests, .inr (4, [.ref n_survey_bests])), (n_survey_bests, .inl (cI, 6, .inl o_40_5)), (a_survey_mosts, .inr (4, [.ref n_survey_mosts])), (n_survey_mosts, .inl (cI, 6, .inl o_40_6)), (a_lease, .inr (1, [.ref a_lease_places, .ref a_lease_firstHours, .ref a_lease_spans, .ref a_lease_values, .ref a_lease_cells, .ref a_lease_needs, .ref a_lease_owed, .ref a_lease_room, .int i_lease_squares, .int i_lease_wishCount, .int i_lease_owedPlaces])), (a_lease_room, .inr (4, [.ref n_lease_room])), (n_lease_room, .inl (cI, 2, .inl f_lease_room)), (a_lease_cells, .inr (4, [.ref n_lease_cells])), (n_lease_cells, .inl (cI, 5, .inl f_lease_cells)), (a_lease_needs, .inr (4, [.ref n_lease_needs])), (n_lease_needs, .inl (cI, 5, .inl f_lease_needs)), (a_lease_values, .inr (4, [.ref n_lease_values])), (n_lease_values, .inl (cI, 5, .inl f_lease_values))] rfl rfl (by decide) (fun H locs hP hS => ?_)
      refine lv_if_ne (tgt := 50) hx hb dX7_areBarred_43 (by decide) (fun c_43 => ?_) (fun c_43 => ?_)
      · refine lv_iconst (v := 0) hx hb dX7_areBarred_50 rfl ?_
        have e9 : v_X7_areBarred x1 x2 x3 i_survey_isMade f_survey_lawful f_survey_grants f_survey_bests f_survey_mosts i_lease_wishCount f_lease_room f_lease_cells f_lease_needs f_lease_values = (false, o_40_2, o_40_3, o_40_4, o_40_5, o_40_6) := by
          refine (bnd6_eq ho_8).trans ?_
          refine (if_neg c_11).trans ?_
          refine (bnd6_eq ho_22).trans ?_
          refine (if_neg c_25).trans ?_
          refine (bnd6_eq ho_40).trans ?_
          refine (if_neg c_43).trans ?_
          rfl
        rw [hQ]; exact retZ (v := fun o : Bool × Int32 × (Nat → Int32) × (Nat → Int32) × (Nat → Int32) × (Nat → Int32) => o.1) (false, o_40_2, o_40_3, o_40_4, o_40_5, o_40_6) hx hb hr hlk e9 hP rfl hS dX7_areBarred_51
      · refine lv_iconst (v := 1) hx hb dX7_areBarred_46 rfl ?_
        refine lv_goto (tgt := 51) hx hb dX7_areBarred_47 (by decide) ?_
        have e9 : v_X7_areBarred x1 x2 x3 i_survey_isMade f_survey_lawful f_survey_grants f_survey_bests f_survey_mosts i_lease_wishCount f_lease_room f_lease_cells f_lease_needs f_lease_values = (true, o_40_2, o_40_3, o_40_4, o_40_5, o_40_6) := by
          refine (bnd6_eq ho_8).trans ?_
          refine (if_neg c_11).trans ?_
          refine (bnd6_eq ho_22).trans ?_
          refine (if_neg c_25).trans ?_
          refine (bnd6_eq ho_40).trans ?_
          refine (if_pos c_43).trans ?_
          rfl
        rw [hQ]; exact retZ (v := fun o : Bool × Int32 × (Nat → Int32) × (Nat → Int32) × (Nat → Int32) × (Nat → Int32) => o.1) (true, o_40_2, o_40_3, o_40_4, o_40_5, o_40_6) hx hb hr hlk e9 hP rfl hS dX7_areBarred_51
def v_X7_bars_L25c (x1 : Int32) (x2 : Int32) (i_lease_wishCount : Int32) (f_lease_room : Nat → Int32) (f_lease_cells : Nat → Int32) (f_lease_needs : Nat → Int32) (f_lease_values : Nat → Int32) (i25 : Nat) (z25_1 : Int32) (z25_2 : Nat → Int32) (z25_3 : Nat → Int32) (z25_4 : Nat → Int32) (z25_5 : Nat → Int32) (z25_6 : Int32) : Int32 × (Nat → Int32) × (Nat → Int32) × (Nat → Int32) × (Nat → Int32) × Int32 :=
  bnd (v_X1_wishCount i_lease_wishCount) fun o_31 =>
  (if nI i25 = x1 then (z25_1, z25_2, z25_3, z25_4, z25_5, z25_6)
  else (bnd6 (v_X7_areBarred x1 (nI i25) x2 z25_1 z25_2 z25_3 z25_4 z25_5 i_lease_wishCount f_lease_room f_lease_cells f_lease_needs f_lease_values) fun o_48_1 o_48_2 o_48_3 o_48_4 o_48_5 o_48_6 =>
  (if bI o_48_1 = 0 then (o_48_2, o_48_3, o_48_4, o_48_5, o_48_6, z25_6)
  else (bnd ((z25_6 ||| ((1 : Int32) <<< (nI i25 &&& 31)))) fun w_60 =>
  (o_48_2, o_48_3, o_48_4, o_48_5, o_48_6, w_60)))))
def v_X7_bars_L25 (x1 : Int32) (x2 : Int32) (i_lease_wishCount : Int32) (f_lease_room : Nat → Int32) (f_lease_cells : Nat → Int32) (f_lease_needs : Nat → Int32) (f_lease_values : Nat → Int32) (i25 : Nat) (z25 : Int32 × (Nat → Int32) × (Nat → Int32) × (Nat → Int32) × (Nat → Int32) × Int32) : Int32 × (Nat → Int32) × (Nat → Int32) × (Nat → Int32) × (Nat → Int32) × Int32 := v_X7_bars_L25c x1 x2 i_lease_wishCount f_lease_room f_lease_cells f_lease_needs f_lease_values i25 z25.1 z25.2.1 z25.2.2.1 z25.2.2.2.1 z25.2.2.2.2.1 z25.2.2.2.2.2
def v_X7_bars (x1 : Int32) (x2 : Int32) (i_lease_wishCount : Int32) (i_survey_isMade : Int32) (f_survey_lawful : Nat → Int32) (f_survey_grants : Nat → Int32) (f_survey_bests : Nat → Int32) (f_survey_mosts : Nat → Int32) (f_lease_room : Nat → Int32) (f_lease_cells : Nat → Int32) (f_lease_needs : Nat → Int32) (f_lease_values : Nat → Int32) : Int32 × (Nat → Int32) × Int32 × (Nat → Int32) × (Nat → Int32) × (Nat → Int32) :=
  bnd (v_X7_isWish x1 i_lease_wishCount) fun o_2 =>
  (if bI o_2 = 0 then ((-1), f_survey_mosts, i_survey_isMade, f_survey_lawful, f_survey_grants, f_survey_bests)
  else (bnd (v_X7_isSquares x2) fun o_11 =>
  (if bI o_11 = 0 then ((-2), f_survey_mosts, i_survey_isMade, f_survey_lawful, f_survey_grants, f_survey_bests)
  else (bnd6 (it (v_X7_bars_L25 x1 x2 i_lease_wishCount f_lease_room f_lease_cells f_lease_needs f_lease_values) (v_X1_wishCount i_lease_wishCount).toNatClampNeg 0 (i_survey_isMade, f_survey_lawful, f_survey_grants, f_survey_bests, f_survey_mosts, 0)) fun o_L25_1 o_L25_2 o_L25_3 o_L25_4 o_L25_5 o_L25_6 =>
  (o_L25_6, o_L25_5, o_L25_1, o_L25_2, o_L25_3, o_L25_4)))))
abbrev rm_X7_bars : Room := { frames := 6, cells := 0, slots := 0, locals := 135 }
set_option maxHeartbeats 4000000 in
set_option maxRecDepth 100000 in
theorem k_X7_bars (l : Launch) (D : va_G) (cI cZ : ClassId) (a a_text a_lease a_reader a_prover a_survey a_paths a_acts a_slots a_lease_places a_lease_firstHours a_lease_spans a_lease_values a_lease_cells a_lease_needs a_lease_owed a_lease_room a_survey_lawful a_survey_grants a_survey_bests a_survey_mosts n_survey_lawful n_survey_grants n_survey_bests n_survey_mosts n_lease_room n_lease_cells n_lease_needs n_lease_values : Nat) (x1 : Int32) (x2 : Int32) (i_hangingNow : Int32) (i_hourNow : Int32) (i_toldDark : Int32) (i_toldLight : Int32) (i_toldCount : Int32) (j_seedNow : Int64) (i_lease_squares : Int32) (i_lease_wishCount : Int32) (i_lease_owedPlaces : Int32) (i_survey_isMade : Int32) (f_survey_lawful : Nat → Int32) (f_survey_grants : Nat → Int32) (f_survey_bests : Nat → Int32) (f_survey_mosts : Nat → Int32) (f_lease_room : Nat → Int32) (f_lease_cells : Nat → Int32) (f_lease_needs : Nat → Int32) (f_lease_values : Nat → Int32) : KI l D cI cZ yX7_bars wsX7_bars rm_X7_bars [.ref a, .int x1, .int x2] [(a, .inr (7, [.ref a_text, .ref a_lease, .ref a_reader, .ref a_prover, .ref a_survey, .ref a_paths, .ref a_acts, .ref a_slots, .int i_hangingNow, .int i_hourNow, .int i_toldDark, .int i_toldLight, .int i_toldCount, .long j_seedNow])), (a_lease, .inr (1, [.ref a_lease_places, .ref a_lease_firstHours, .ref a_lease_spans, .ref a_lease_values, .ref a_lease_cells, .ref a_lease_needs, .ref a_lease_owed, .ref a_lease_room, .int i_lease_squares, .int i_lease_wishCount, .int i_lease_owedPlaces])), (a_survey, .inr (5, [.ref a_lease, .ref a_survey_lawful, .ref a_survey_grants, .ref a_survey_bests, .ref a_survey_mosts, .int i_survey_isMade])), (a_survey_lawful, .inr (4, [.ref n_survey_lawful])), (n_survey_lawful, .inl (cI, 6, .inl f_survey_lawful)), (a_survey_grants, .inr (4, [.ref n_survey_grants])), (n_survey_grants, .inl (cI, 6, .inl f_survey_grants)), (a_survey_bests, .inr (4, [.ref n_survey_bests])), (n_survey_bests, .inl (cI, 6, .inl f_survey_bests)), (a_survey_mosts, .inr (4, [.ref n_survey_mosts])), (n_survey_mosts, .inl (cI, 6, .inl f_survey_mosts)), (a_lease_room, .inr (4, [.ref n_lease_room])), (n_lease_room, .inl (cI, 2, .inl f_lease_room)), (a_lease_cells, .inr (4, [.ref n_lease_cells])), (n_lease_cells, .inl (cI, 5, .inl f_lease_cells)), (a_lease_needs, .inr (4, [.ref n_lease_needs])), (n_lease_needs, .inl (cI, 5, .inl f_lease_needs)), (a_lease_values, .inr (4, [.ref n_lease_values])), (n_lease_values, .inl (cI, 5, .inl f_lease_values))] (v_X7_bars x1 x2 i_lease_wishCount i_survey_isMade f_survey_lawful f_survey_grants f_survey_bests f_survey_mosts f_lease_room f_lease_cells f_lease_needs f_lease_values) (fun o : Int32 × (Nat → Int32) × Int32 × (Nat → Int32) × (Nat → Int32) × (Nat → Int32) => o.1) (fun o : Int32 × (Nat → Int32) × Int32 × (Nat → Int32) × (Nat → Int32) × (Nat → Int32) => [(a, .inr (7, [.ref a_text, .ref a_lease, .ref a_reader, .ref a_prover, .ref a_survey, .ref a_paths, .ref a_acts, .ref a_slots, .int i_hangingNow, .int i_hourNow, .int i_toldDark, .int i_toldLight, .int i_toldCount, .long j_seedNow])), (a_lease, .inr (1, [.ref a_lease_places, .ref a_lease_firstHours, .ref a_lease_spans, .ref a_lease_values, .ref a_lease_cells, .ref a_lease_needs, .ref a_lease_owed, .ref a_lease_room, .int i_lease_squares, .int i_lease_wishCount, .int i_lease_owedPlaces])), (a_survey, .inr (5, [.ref a_lease, .ref a_survey_lawful, .ref a_survey_grants, .ref a_survey_bests, .ref a_survey_mosts, .int o.2.2.1])), (a_survey_lawful, .inr (4, [.ref n_survey_lawful])), (n_survey_lawful, .inl (cI, 6, .inl o.2.2.2.1)), (a_survey_grants, .inr (4, [.ref n_survey_grants])), (n_survey_grants, .inl (cI, 6, .inl o.2.2.2.2.1)), (a_survey_bests, .inr (4, [.ref n_survey_bests])), (n_survey_bests, .inl (cI, 6, .inl o.2.2.2.2.2)), (a_survey_mosts, .inr (4, [.ref n_survey_mosts])), (n_survey_mosts, .inl (cI, 6, .inl o.2.1)), (a_lease_room, .inr (4, [.ref n_lease_room])), (n_lease_room, .inl (cI, 2, .inl f_lease_room)), (a_lease_cells, .inr (4, [.ref n_lease_cells])), (n_lease_cells, .inl (cI, 5, .inl f_lease_cells)), (a_lease_needs, .inr (4, [.ref n_lease_needs])), (n_lease_needs, .inl (cI, 5, .inl f_lease_needs)), (a_lease_values, .inr (4, [.ref n_lease_values])), (n_lease_values, .inl (cI, 5, .inl f_lease_values))]) := by
  refine KI.of cX7_bars 5 (some .int) (by decide) rfl (Nat.le_of_ble_eq_true rfl) ?_
  intro p e s m below meth c A ls ar Q hQ B
  obtain ⟨hx, hb, hr, hml, hts, hown, hlk, hK, hN, hP, hD, hA, hS, hl⟩ := B
  have hown : s.vm.findClass RX7 = some m.cls := hown
  have hF : CallFix p m c cX7_bars 5 s ar wsX7_bars RX7 := ⟨hx, hb, hml, hown, hts⟩
  have hl : lv_has ls 5 [(0, .ref a), (1, .int x1), (2, .int x2)] := hl
  refine lv_aload_n hx hb dX7_bars_0 rfl (lv_at hl 0 rfl) ?_
  refine lv_iload_n hx hb dX7_bars_1 rfl (lv_at hl 1 rfl) ?_
  obtain ⟨o_2, ho_2⟩ : ∃ z : Bool, z = v_X7_isWish x1 i_lease_wishCount := ⟨_, rfl⟩
  refine callVIs (As := [.int x1]) (rest := []) o_2 ho_2 hF (k_X7_isWish l D cI cZ a a_text a_lease a_reader a_prover a_survey a_paths a_acts a_slots a_lease_places a_lease_firstHours a_lease_spans a_lease_values a_lease_cells a_lease_needs a_lease_owed a_lease_room x1 i_hangingNow i_hourNow i_toldDark i_toldLight i_toldCount j_seedNow i_lease_squares i_lease_wishCount i_lease_owedPlaces) (cwV 1 hts gX7_bars_X7_isWish rfl rfl rfl (by decide +kernel) ⟨Nat.le_of_ble_eq_true rfl, Nat.le_of_ble_eq_true rfl⟩) hK hN hP (va_Dsame hD rfl) hS hA [0, 1] rfl rfl 0 7 (T := TX7) (N := 14) rfl rfl rfl hl.1 rfl (Nat.le_of_ble_eq_true rfl) dX7_bars_2 ⟨Nat.zero_le _, Nat.zero_le _⟩ (bI o_2) rfl rfl (fun H locs hP hS => ?_)
  refine lv_if_ne (tgt := 10) hx hb dX7_bars_5 (by decide) (fun c_5 => ?_) (fun c_5 => ?_)
  · refine lv_iload_n hx hb dX7_bars_10 rfl (lv_at hl 2 rfl) ?_
    obtain ⟨o_11, ho_11⟩ : ∃ z : Bool, z = v_X7_isSquares x2 := ⟨_, rfl⟩
    refine callSIs (As := [.int x2]) (rest := []) o_11 ho_11 hF (k_X7_isSquares l D cI cZ x2) (va_cwS 1 hts gX7_bars_X7_isSquares rfl rfl rfl (by decide +kernel) ⟨Nat.le_of_ble_eq_true rfl, Nat.le_of_ble_eq_true rfl⟩) hK hN hP (va_Dsame hD rfl) hS hA [] rfl rfl rfl hl.1 rfl (Nat.le_of_ble_eq_true rfl) dX7_bars_11 ⟨Nat.zero_le _, Nat.zero_le _⟩ (bI o_11) rfl rfl (fun H locs hP hS => ?_)
    refine lv_if_ne (tgt := 20) hx hb dX7_bars_14 (by decide) (fun c_14 => ?_) (fun c_14 => ?_)
    · refine lv_iconst (v := 0) hx hb dX7_bars_20 rfl ?_
      refine lv_istore_n (lv' := [(3, .int 0), (0, .ref a), (1, .int x1), (2, .int x2)]) hx hb dX7_bars_21 rfl hl (by decide) rfl (fun ls hl => ?_)
      refine lv_iconst (v := 0) hx hb dX7_bars_22 rfl ?_
      refine lv_istore (lv' := [(4, .int 0), (3, .int 0), (0, .ref a), (1, .int x1), (2, .int x2)]) hx hb dX7_bars_23 hl (by decide) rfl (fun ls hl => ?_)
      obtain ⟨o_L25_1, o_L25_2, o_L25_3, o_L25_4, o_L25_5, o_L25_6, ho_L25⟩ := ex6 (it (v_X7_bars_L25 x1 x2 i_lease_wishCount f_lease_room f_lease_cells f_lease_needs f_lease_values) (v_X1_wishCount i_lease_wishCount).toNatClampNeg 0 (i_survey_isMade, f_survey_lawful, f_survey_grants, f_survey_bests, f_survey_mosts, 0))
      have kE25 : ∀ (H : Heap) (locs : List Loc) (ls : Array Slot), va_P D vwCl [(a, .inr (7, [.ref a_text, .ref a_lease, .ref a_reader, .ref a_prover, .ref a_survey, .ref a_paths, .ref a_acts, .ref a_slots, .int i_hangingNow, .int i_hourNow, .int i_toldDark, .int i_toldLight, .int i_toldCount, .long j_seedNow])), (a_lease, .inr (1, [.ref a_lease_places, .ref a_lease_firstHours, .ref a_lease_spans, .ref a_lease_values, .ref a_lease_cells, .ref a_lease_needs, .ref a_lease_owed, .ref a_lease_room, .int i_lease_squares, .int i_lease_wishCount, .int i_lease_owedPlaces])), (a_survey, .inr (5, [.ref a_lease, .ref a_survey_lawful, .ref a_survey_grants, .ref a_survey_bests, .ref a_survey_mosts, .int o_L25_1])), (a_survey_lawful, .inr (4, [.ref n_survey_lawful])), (n_survey_lawful, .inl (cI, 6, .inl o_L25_2)), (a_survey_grants, .inr (4, [.ref n_survey_grants])), (n_survey_grants, .inl (cI, 6, .inl o_L25_3)), (a_survey_bests, .inr (4, [.ref n_survey_bests])), (n_survey_bests, .inl (cI, 6, .inl o_L25_4)), (a_survey_mosts, .inr (4, [.ref n_survey_mosts])), (n_survey_mosts, .inl (cI, 6, .inl o_L25_5)), (a_lease_room, .inr (4, [.ref n_lease_room])), (n_lease_room, .inl (cI, 2, .inl f_lease_room)), (a_lease_cells, .inr (4, [.ref n_lease_cells])), (n_lease_cells, .inl (cI, 5, .inl f_lease_cells)), (a_lease_needs, .inr (4, [.ref n_lease_needs])), (n_lease_needs, .inl (cI, 5, .inl f_lease_needs)), (a_lease_values, .inr (4, [.ref n_lease_values])), (n_lease_values, .inl (cI, 5, .inl f_lease_values))] H → va_S A s.heap H locs → lv_has ls 5 [(3, .int o_L25_6)] → W p l e rm_X7_bars s m ar below meth c H locs 0 0 Q (F0 m 67 ls []) := by
        intro H locs ls hP hS hl
        refine lv_iload_n hx hb dX7_bars_67 rfl (lv_at hl 0 rfl) ?_
        have e9 : v_X7_bars x1 x2 i_lease_wishCount i_survey_isMade f_survey_lawful f_survey_grants f_survey_bests f_survey_mosts f_lease_room f_lease_cells f_lease_needs f_lease_values = (o_L25_6, o_L25_5, o_L25_1, o_L25_2, o_L25_3, o_L25_4) := by
          refine (bnd_eq ho_2).trans ?_
          refine (if_neg c_5).trans ?_
          refine (bnd_eq ho_11).trans ?_
          refine (if_neg c_14).trans ?_
          refine (bnd6_eq ho_L25).trans ?_
          rfl
        rw [hQ]; exact retI (o_L25_6, o_L25_5, o_L25_1, o_L25_2, o_L25_3, o_L25_4) hx hb hr hlk e9 hP rfl hS dX7_bars_68
      have loop25 : ∀ (k i25 : Nat) (z25 : Int32 × (Nat → Int32) × (Nat → Int32) × (Nat → Int32) × (Nat → Int32) × Int32), 0 ≤ i25 → i25 + k = 0 + (v_X1_wishCount i_lease_wishCount).toNatClampNeg → it (v_X7_bars_L25 x1 x2 i_lease_wishCount f_lease_room f_lease_cells f_lease_needs f_lease_values) k i25 z25 = (o_L25_1, o_L25_2, o_L25_3, o_L25_4, o_L25_5, o_L25_6) → ∀ (H : Heap) (locs : List Loc) (ls : Array Slot), va_P D vwCl [(a, .inr (7, [.ref a_text, .ref a_lease, .ref a_reader, .ref a_prover, .ref a_survey, .ref a_paths, .ref a_acts, .ref a_slots, .int i_hangingNow, .int i_hourNow, .int i_toldDark, .int i_toldLight, .int i_toldCount, .long j_seedNow])), (a_lease, .inr (1, [.ref a_lease_places, .ref a_lease_firstHours, .ref a_lease_spans, .ref a_lease_values, .ref a_lease_cells, .ref a_lease_needs, .ref a_lease_owed, .ref a_lease_room, .int i_lease_squares, .int i_lease_wishCount, .int i_lease_owedPlaces])), (a_survey, .inr (5, [.ref a_lease, .ref a_survey_lawful, .ref a_survey_grants, .ref a_survey_bests, .ref a_survey_mosts, .int z25.1])), (a_survey_lawful, .inr (4, [.ref n_survey_lawful])), (n_survey_lawful, .inl (cI, 6, .inl z25.2.1)), (a_survey_grants, .inr (4, [.ref n_survey_grants])), (n_survey_grants, .inl (cI, 6, .inl z25.2.2.1)), (a_survey_bests, .inr (4, [.ref n_survey_bests])), (n_survey_bests, .inl (cI, 6, .inl z25.2.2.2.1)), (a_survey_mosts, .inr (4, [.ref n_survey_mosts])), (n_survey_mosts, .inl (cI, 6, .inl z25.2.2.2.2.1)), (a_lease_room, .inr (4, [.ref n_lease_room])), (n_lease_room, .inl (cI, 2, .inl f_lease_room)), (a_lease_cells, .inr (4, [.ref n_lease_cells])), (n_lease_cells, .inl (cI, 5, .inl f_lease_cells)), (a_lease_needs, .inr (4, [.ref n_lease_needs])), (n_lease_needs, .inl (cI, 5, .inl f_lease_needs)), (a_lease_values, .inr (4, [.ref n_lease_values])), (n_lease_values, .inl (cI, 5, .inl f_lease_values))] H → va_S A s.heap H locs → lv_has ls 5 [(4, .int (nI i25)), (3, .int z25.2.2.2.2.2), (0, .ref a), (1, .int x1), (2, .int x2)] → W p l e rm_X7_bars s m ar below meth c H locs 0 0 Q (F0 m 25 ls []) := by
        intro k
        induction k with
        | zero =>
          intro i25 z25 hi0 hik hz H locs ls hP hS hl
          have hz : z25 = (o_L25_1, o_L25_2, o_L25_3, o_L25_4, o_L25_5, o_L25_6) := it_0 hz
          subst z25
          have hP : va_P D vwCl [(a, .inr (7, [.ref a_text, .ref a_lease, .ref a_reader, .ref a_prover, .ref a_survey, .ref a_paths, .ref a_acts, .ref a_slots, .int i_hangingNow, .int i_hourNow, .int i_toldDark, .int i_toldLight, .int i_toldCount, .long j_seedNow])), (a_lease, .inr (1, [.ref a_lease_places, .ref a_lease_firstHours, .ref a_lease_spans, .ref a_lease_values, .ref a_lease_cells, .ref a_lease_needs, .ref a_lease_owed, .ref a_lease_room, .int i_lease_squares, .int i_lease_wishCount, .int i_lease_owedPlaces])), (a_survey, .inr (5, [.ref a_lease, .ref a_survey_lawful, .ref a_survey_grants, .ref a_survey_bests, .ref a_survey_mosts, .int o_L25_1])), (a_survey_lawful, .inr (4, [.ref n_survey_lawful])), (n_survey_lawful, .inl (cI, 6, .inl o_L25_2)), (a_survey_grants, .inr (4, [.ref n_survey_grants])), (n_survey_grants, .inl (cI, 6, .inl o_L25_3)), (a_survey_bests, .inr (4, [.ref n_survey_bests])), (n_survey_bests, .inl (cI, 6, .inl o_L25_4)), (a_survey_mosts, .inr (4, [.ref n_survey_mosts])), (n_survey_mosts, .inl (cI, 6, .inl o_L25_5)), (a_lease_room, .inr (4, [.ref n_lease_room])), (n_lease_room, .inl (cI, 2, .inl f_lease_room)), (a_lease_cells, .inr (4, [.ref n_lease_cells])), (n_lease_cells, .inl (cI, 5, .inl f_lease_cells)), (a_lease_needs, .inr (4, [.ref n_lease_needs])), (n_lease_needs, .inl (cI, 5, .inl f_lease_needs)), (a_lease_values, .inr (4, [.ref n_lease_values])), (n_lease_values, .inl (cI, 5, .inl f_lease_values))] H := hP
          have hl : lv_has ls 5 [(4, .int (nI i25)), (3, .int o_L25_6), (0, .ref a), (1, .int x1), (2, .int x2)] := hl
          refine lv_iload hx hb dX7_bars_25 (lv_at hl 0 rfl) ?_
          refine lv_aload_n hx hb dX7_bars_27 rfl (lv_at hl 2 rfl) ?_
          refine va_get (D := D) (ci := 7) (v := .ref a_lease) (C := RX7) (T := TX7) (N := 14) hx hb hts (fun _ h => List.mem_cons_of_mem _ (List.mem_append_left _ (List.mem_append_left _ (List.mem_append_left _ (List.mem_append_right _ (h)))))) hown hK hP 0 rfl rfl 1 (by decide) (hts _ (List.mem_of_getElem? (i := 1) rfl)) (fun _ h9 => h9) rfl dX7_bars_28 ?_
          obtain ⟨o_31, ho_31⟩ : ∃ z : Int32, z = v_X1_wishCount i_lease_wishCount := ⟨_, rfl⟩
          refine callVIs (As := []) (rest := [.int (nI i25)]) o_31 ho_31 hF (k_X1_wishCount l D cI cZ a_lease a_lease_places a_lease_firstHours a_lease_spans a_lease_values a_lease_cells a_lease_needs a_lease_owed a_lease_room i_lease_squares i_lease_wishCount i_lease_owedPlaces) (cwV 0 hts gX7_bars_X1_wishCount rfl rfl rfl (by decide +kernel) ⟨Nat.le_of_ble_eq_true rfl, Nat.le_of_ble_eq_true rfl⟩) hK hN hP (va_Dsame hD rfl) hS hA [1] rfl rfl 1 1 (T := TX1) (N := 11) rfl rfl rfl hl.1 rfl (Nat.le_of_ble_eq_true rfl) dX7_bars_31 ⟨Nat.zero_le _, Nat.zero_le _⟩ o_31 rfl rfl (fun H locs hP hS => ?_)
          refine lv_icmp_ge (tgt := 67) hx hb dX7_bars_34 (by decide) (fun _ => ?_) (fun c => absurd (by rw [ho_31]; exact (cb_ge (by omega) (by have := cb_lt31 (v_X1_wishCount i_lease_wishCount); omega))) c)
          exact kE25 _ _ _ hP hS (lv_sub hl [1] rfl)
        | succ k ih =>
          intro i25 z25 hi0 hik hz H locs ls hP hS hl
          obtain ⟨z25_1, z25_2, z25_3, z25_4, z25_5, z25_6⟩ := z25
          have hP : va_P D vwCl [(a, .inr (7, [.ref a_text, .ref a_lease, .ref a_reader, .ref a_prover, .ref a_survey, .ref a_paths, .ref a_acts, .ref a_slots, .int i_hangingNow, .int i_hourNow, .int i_toldDark, .int i_toldLight, .int i_toldCount, .long j_seedNow])), (a_lease, .inr (1, [.ref a_lease_places, .ref a_lease_firstHours, .ref a_lease_spans, .ref a_lease_values, .ref a_lease_cells, .ref a_lease_needs, .ref a_lease_owed, .ref a_lease_room, .int i_lease_squares, .int i_lease_wishCount, .int i_lease_owedPlaces])), (a_survey, .inr (5, [.ref a_lease, .ref a_survey_lawful, .ref a_survey_grants, .ref a_survey_bests, .ref a_survey_mosts, .int z25_1])), (a_survey_lawful, .inr (4, [.ref n_survey_lawful])), (n_survey_lawful, .inl (cI, 6, .inl z25_2)), (a_survey_grants, .inr (4, [.ref n_survey_grants])), (n_survey_grants, .inl (cI, 6, .inl z25_3)), (a_survey_bests, .inr (4, [.ref n_survey_bests])), (n_survey_bests, .inl (cI, 6, .inl z25_4)), (a_survey_mosts, .inr (4, [.ref n_survey_mosts])), (n_survey_mosts, .inl (cI, 6, .inl z25_5)), (a_lease_room, .inr (4, [.ref n_lease_room])), (n_lease_room, .inl (cI, 2, .inl f_lease_room)), (a_lease_cells, .inr (4, [.ref n_lease_cells])), (n_lease_cells, .inl (cI, 5, .inl f_lease_cells)), (a_lease_needs, .inr (4, [.ref n_lease_needs])), (n_lease_needs, .inl (cI, 5, .inl f_lease_needs)), (a_lease_values, .inr (4, [.ref n_lease_values])), (n_lease_values, .inl (cI, 5, .inl f_lease_values))] H := hP
          have hl : lv_has ls 5 [(4, .int (nI i25)), (3, .int z25_6), (0, .ref a), (1, .int x1), (2, .int x2)] := hl
          refine lv_iload hx hb dX7_bars_25 (lv_at hl 0 rfl) ?_
          refine lv_aload_n hx hb dX7_bars_27 rfl (lv_at hl 2 rfl) ?_
          refine va_get (D := D) (ci := 7) (v := .ref a_lease) (C := RX7) (T := TX7) (N := 14) hx hb hts (fun _ h => List.mem_cons_of_mem _ (List.mem_append_left _ (List.mem_append_left _ (List.mem_append_left _ (List.mem_append_right _ (h)))))) hown hK hP 0 rfl rfl 1 (by decide) (hts _ (List.mem_of_getElem? (i := 1) rfl)) (fun _ h9 => h9) rfl dX7_bars_28 ?_
          obtain ⟨o_31, ho_31⟩ : ∃ z : Int32, z = v_X1_wishCount i_lease_wishCount := ⟨_, rfl⟩
          refine callVIs (As := []) (rest := [.int (nI i25)]) o_31 ho_31 hF (k_X1_wishCount l D cI cZ a_lease a_lease_places a_lease_firstHours a_lease_spans a_lease_values a_lease_cells a_lease_needs a_lease_owed a_lease_room i_lease_squares i_lease_wishCount i_lease_owedPlaces) (cwV 0 hts gX7_bars_X1_wishCount rfl rfl rfl (by decide +kernel) ⟨Nat.le_of_ble_eq_true rfl, Nat.le_of_ble_eq_true rfl⟩) hK hN hP (va_Dsame hD rfl) hS hA [1] rfl rfl 1 1 (T := TX1) (N := 11) rfl rfl rfl hl.1 rfl (Nat.le_of_ble_eq_true rfl) dX7_bars_31 ⟨Nat.zero_le _, Nat.zero_le _⟩ o_31 rfl rfl (fun H locs hP hS => ?_)
          refine lv_icmp_ge (tgt := 67) hx hb dX7_bars_34 (by decide) (fun c => absurd c (by rw [ho_31]; exact (cb_lt (by omega)))) (fun _ => ?_)
          refine lv_iload hx hb dX7_bars_37 (lv_at hl 0 rfl) ?_
          refine lv_iload_n hx hb dX7_bars_39 rfl (lv_at hl 3 rfl) ?_
          refine lv_icmp_eq (tgt := 61) hx hb dX7_bars_40 (by decide) (fun c_40 => ?_) (fun c_40 => ?_)
          · refine lv_iinc (v := (nI (i25 + 1))) (lv' := [(4, .int (nI (i25 + 1))), (3, .int z25_6), (0, .ref a), (1, .int x1), (2, .int x2)]) hx hb dX7_bars_61 hl (k := 0) rfl (nI_1 _) (by decide) rfl (fun ls hl => ?_)
            refine lv_goto (tgt := 25) hx hb dX7_bars_64 (by decide) ?_
            have e8 : v_X7_bars_L25 x1 x2 i_lease_wishCount f_lease_room f_lease_cells f_lease_needs f_lease_values i25 (z25_1, z25_2, z25_3, z25_4, z25_5, z25_6) = (z25_1, z25_2, z25_3, z25_4, z25_5, z25_6) := by
              show v_X7_bars_L25c x1 x2 i_lease_wishCount f_lease_room f_lease_cells f_lease_needs f_lease_values i25 z25_1 z25_2 z25_3 z25_4 z25_5 z25_6 = (z25_1, z25_2, z25_3, z25_4, z25_5, z25_6)
              refine (bnd_eq ho_31).trans ?_
              refine (if_pos c_40).trans ?_
              rfl
            exact ih (i25 + 1) (z25_1, z25_2, z25_3, z25_4, z25_5, z25_6) (by omega) (by omega) (it_go e8 hz) _ _ _ hP hS (lv_sub hl [0, 1, 2, 3, 4] rfl)
          · refine lv_aload_n hx hb dX7_bars_43 rfl (lv_at hl 2 rfl) ?_
            refine lv_iload_n hx hb dX7_bars_44 rfl (lv_at hl 3 rfl) ?_
            refine lv_iload hx hb dX7_bars_45 (lv_at hl 0 rfl) ?_
            refine lv_iload_n hx hb dX7_bars_47 rfl (lv_at hl 4 rfl) ?_
            obtain ⟨o_48_1, o_48_2, o_48_3, o_48_4, o_48_5, o_48_6, ho_48⟩ := ex6 (v_X7_areBarred x1 (nI i25) x2 z25_1 z25_2 z25_3 z25_4 z25_5 i_lease_wishCount f_lease_room f_lease_cells f_lease_needs f_lease_values)
            refine callVI (As := [.int x1, .int (nI i25), .int x2]) (rest := []) (o_48_1, o_48_2, o_48_3, o_48_4, o_48_5, o_48_6) ho_48 hF (k_X7_areBarred l D cI cZ a a_text a_lease a_reader a_prover a_survey a_paths a_acts a_slots a_survey_lawful a_survey_grants a_survey_bests a_survey_mosts n_survey_lawful n_survey_grants n_survey_bests n_survey_mosts a_lease_places a_lease_firstHours a_lease_spans a_lease_values a_lease_cells a_lease_needs a_lease_owed a_lease_room n_lease_room n_lease_cells n_lease_needs n_lease_values x1 (nI i25) x2 i_hangingNow i_hourNow i_toldDark i_toldLight i_toldCount j_seedNow z25_1 z25_2 z25_3 z25_4 z25_5 i_lease_squares i_lease_wishCount i_lease_owedPlaces f_lease_room f_lease_cells f_lease_needs f_lease_values) (cwV 3 hts gX7_bars_X7_areBarred rfl rfl rfl (by decide +kernel) ⟨Nat.le_of_ble_eq_true rfl, Nat.le_of_ble_eq_true rfl⟩) hK hN hP (va_Dsame hD rfl) hS hA [0, 2, 3, 4, 5, 6, 7, 8, 9, 10, 1, 11, 12, 13, 14, 15, 16, 17, 18] rfl rfl 0 7 (T := TX7) (N := 14) rfl rfl rfl hl.1 rfl (Nat.le_of_ble_eq_true rfl) dX7_bars_48 ⟨Nat.zero_le _, Nat.zero_le _⟩ (bI o_48_1) rfl [some 0, some 10, some 1, some 2, some 3, some 4, some 5, some 6, some 7, some 8, some 9, some 11, some 12, some 13, some 14, some 15, some 16, some 17, some 18] 19 [(a, .inr (7, [.ref a_text, .ref a_lease, .ref a_reader, .ref a_prover, .ref a_survey, .ref a_paths, .ref a_acts, .ref a_slots, .int i_hangingNow, .int i_hourNow, .int i_toldDark, .int i_toldLight, .int i_toldCount, .long j_seedNow])), (a_lease, .inr (1, [.ref a_lease_places, .ref a_lease_firstHours, .ref a_lease_spans, .ref a_lease_values, .ref a_lease_cells, .ref a_lease_needs, .ref a_lease_owed, .ref a_lease_room, .int i_lease_squares, .int i_lease_wishCount, .int i_lease_owedPlaces])), (a_survey, .inr (5, [.ref a_lease, .ref a_survey_lawful, .ref a_survey_grants, .ref a_survey_bests, .ref a_survey_mosts, .int o_48_2])), (a_survey_lawful, .inr (4, [.ref n_survey_lawful])), (n_survey_lawful, .inl (cI, 6, .inl o_48_3)), (a_survey_grants, .inr (4, [.ref n_survey_grants])), (n_survey_grants, .inl (cI, 6, .inl o_48_4)), (a_survey_bests, .inr (4, [.ref n_survey_bests])), (n_survey_bests, .inl (cI, 6, .inl o_48_5)), (a_survey_mosts, .inr (4, [.ref n_survey_mosts])), (n_survey_mosts, .inl (cI, 6, .inl o_48_6)), (a_lease_room, .inr (4, [.ref n_lease_room])), (n_lease_room, .inl (cI, 2, .inl f_lease_room)), (a_lease_cells, .inr (4, [.ref n_lease_cells])), (n_lease_cells, .inl (cI, 5, .inl f_lease_cells)), (a_lease_needs, .inr (4, [.ref n_lease_needs])), (n_lease_needs, .inl (cI, 5, .inl f_lease_needs)), (a_lease_values, .inr (4, [.ref n_lease_values])), (n_lease_values, .inl (cI, 5, .inl f_lease_values))] rfl rfl (by decide) (fun H locs hP hS => ?_)
            refine lv_if_eq (tgt := 61) hx hb dX7_bars_51 (by decide) (fun c_51 => ?_) (fun c_51 => ?_)
            · refine lv_iinc (v := (nI (i25 + 1))) (lv' := [(4, .int (nI (i25 + 1))), (3, .int z25_6), (0, .ref a), (1, .int x1), (2, .int x2)]) hx hb dX7_bars_61 hl (k := 0) rfl (nI_1 _) (by decide) rfl (fun ls hl => ?_)
              refine lv_goto (tgt := 25) hx hb dX7_bars_64 (by decide) ?_
              have e8 : v_X7_bars_L25 x1 x2 i_lease_wishCount f_lease_room f_lease_cells f_lease_needs f_lease_values i25 (z25_1, z25_2, z25_3, z25_4, z25_5, z25_6) = (o_48_2, o_48_3, o_48_4, o_48_5, o_48_6, z25_6) := by
                show v_X7_bars_L25c x1 x2 i_lease_wishCount f_lease_room f_lease_cells f_lease_needs f_lease_values i25 z25_1 z25_2 z25_3 z25_4 z25_5 z25_6 = (o_48_2, o_48_3, o_48_4, o_48_5, o_48_6, z25_6)
                refine (bnd_eq ho_31).trans ?_
                refine (if_neg c_40).trans ?_
                refine (bnd6_eq ho_48).trans ?_
                refine (if_pos c_51).trans ?_
                rfl
              exact ih (i25 + 1) (o_48_2, o_48_3, o_48_4, o_48_5, o_48_6, z25_6) (by omega) (by omega) (it_go e8 hz) _ _ _ hP hS (lv_sub hl [0, 1, 2, 3, 4] rfl)
            · refine lv_iload_n hx hb dX7_bars_54 rfl (lv_at hl 1 rfl) ?_
              refine lv_iconst (v := 1) hx hb dX7_bars_55 rfl ?_
              refine lv_iload hx hb dX7_bars_56 (lv_at hl 0 rfl) ?_
              refine lv_ishl hx hb dX7_bars_58 ?_
              refine lv_ior hx hb dX7_bars_59 ?_
              refine lv_topi (fun w_60 hw_60 => ?_)
              refine lv_istore_n (lv' := [(3, .int w_60), (4, .int (nI i25)), (0, .ref a), (1, .int x1), (2, .int x2)]) hx hb dX7_bars_60 rfl hl (by decide) rfl (fun ls hl => ?_)
              refine lv_iinc (v := (nI (i25 + 1))) (lv' := [(4, .int (nI (i25 + 1))), (3, .int w_60), (0, .ref a), (1, .int x1), (2, .int x2)]) hx hb dX7_bars_61 hl (k := 1) rfl (nI_1 _) (by decide) rfl (fun ls hl => ?_)
              refine lv_goto (tgt := 25) hx hb dX7_bars_64 (by decide) ?_
              have e8 : v_X7_bars_L25 x1 x2 i_lease_wishCount f_lease_room f_lease_cells f_lease_needs f_lease_values i25 (z25_1, z25_2, z25_3, z25_4, z25_5, z25_6) = (o_48_2, o_48_3, o_48_4, o_48_5, o_48_6, w_60) := by
                show v_X7_bars_L25c x1 x2 i_lease_wishCount f_lease_room f_lease_cells f_lease_needs f_lease_values i25 z25_1 z25_2 z25_3 z25_4 z25_5 z25_6 = (o_48_2, o_48_3, o_48_4, o_48_5, o_48_6, w_60)
                refine (bnd_eq ho_31).trans ?_
                refine (if_neg c_40).trans ?_
                refine (bnd6_eq ho_48).trans ?_
                refine (if_neg c_51).trans ?_
                refine (bnd_eq hw_60).trans ?_
                rfl
              exact ih (i25 + 1) (o_48_2, o_48_3, o_48_4, o_48_5, o_48_6, w_60) (by omega) (by omega) (it_go e8 hz) _ _ _ hP hS (lv_sub hl [0, 1, 2, 3, 4] rfl)
      exact loop25 (v_X1_wishCount i_lease_wishCount).toNatClampNeg 0 (i_survey_isMade, f_survey_lawful, f_survey_grants, f_survey_bests, f_survey_mosts, 0) (Nat.le_refl _) rfl ho_L25.symm _ _ _ hP hS (lv_sub hl [0, 1, 2, 3, 4] rfl)
    · refine lv_bipush (v := (-2)) hx hb dX7_bars_17 rfl ?_
      have e9 : v_X7_bars x1 x2 i_lease_wishCount i_survey_isMade f_survey_lawful f_survey_grants f_survey_bests f_survey_mosts f_lease_room f_lease_cells f_lease_needs f_lease_values = ((-2), f_survey_mosts, i_survey_isMade, f_survey_lawful, f_survey_grants, f_survey_bests) := by
        refine (bnd_eq ho_2).trans ?_
        refine (if_neg c_5).trans ?_
        refine (bnd_eq ho_11).trans ?_
        refine (if_pos c_14).trans ?_
        rfl
      rw [hQ]; exact retI ((-2), f_survey_mosts, i_survey_isMade, f_survey_lawful, f_survey_grants, f_survey_bests) hx hb hr hlk e9 hP rfl hS dX7_bars_19
  · refine lv_iconst (v := (-1)) hx hb dX7_bars_8 rfl ?_
    have e9 : v_X7_bars x1 x2 i_lease_wishCount i_survey_isMade f_survey_lawful f_survey_grants f_survey_bests f_survey_mosts f_lease_room f_lease_cells f_lease_needs f_lease_values = ((-1), f_survey_mosts, i_survey_isMade, f_survey_lawful, f_survey_grants, f_survey_bests) := by
      refine (bnd_eq ho_2).trans ?_
      refine (if_pos c_5).trans ?_
      rfl
    rw [hQ]; exact retI ((-1), f_survey_mosts, i_survey_isMade, f_survey_lawful, f_survey_grants, f_survey_bests) hx hb hr hlk e9 hP rfl hS dX7_bars_9
def v_X7_loss (x1 : Int32) (i_hangingNow : Int32) (i_lease_wishCount : Int32) (f_lease_cells : Nat → Int32) (f_lease_needs : Nat → Int32) (f_lease_values : Nat → Int32) : Int32 :=
  bnd (v_X7_isCell x1) fun o_1 =>
  (if bI o_1 = 0 then (-1)
  else (bnd (v_X7_has i_hangingNow x1) fun o_14 =>
  (if bI o_14 = 0 then (-3)
  else (bnd (v_X1_worthOf i_hangingNow i_lease_wishCount f_lease_cells f_lease_needs f_lease_values) fun o_34 =>
  (bnd (v_X1_worthOf (i_hangingNow &&& (((1 : Int32) <<< (x1 &&& 31)) ^^^ (-1))) i_lease_wishCount f_lease_cells f_lease_needs f_lease_values) fun o_52 =>
  ((1000 + o_34) - o_52))))))
abbrev rm_X7_loss : Room := { frames := 3, cells := 0, slots := 0, locals := 65 }
set_option maxHeartbeats 4000000 in
set_option maxRecDepth 100000 in
theorem k_X7_loss (l : Launch) (D : va_G) (cI cZ : ClassId) (a a_text a_lease a_reader a_prover a_survey a_paths a_acts a_slots a_lease_places a_lease_firstHours a_lease_spans a_lease_values a_lease_cells a_lease_needs a_lease_owed a_lease_room n_lease_cells n_lease_needs n_lease_values : Nat) (x1 : Int32) (i_hangingNow : Int32) (i_hourNow : Int32) (i_toldDark : Int32) (i_toldLight : Int32) (i_toldCount : Int32) (j_seedNow : Int64) (i_lease_squares : Int32) (i_lease_wishCount : Int32) (i_lease_owedPlaces : Int32) (f_lease_cells : Nat → Int32) (f_lease_needs : Nat → Int32) (f_lease_values : Nat → Int32) : KI l D cI cZ yX7_loss wsX7_loss rm_X7_loss [.ref a, .int x1] [(a, .inr (7, [.ref a_text, .ref a_lease, .ref a_reader, .ref a_prover, .ref a_survey, .ref a_paths, .ref a_acts, .ref a_slots, .int i_hangingNow, .int i_hourNow, .int i_toldDark, .int i_toldLight, .int i_toldCount, .long j_seedNow])), (a_lease, .inr (1, [.ref a_lease_places, .ref a_lease_firstHours, .ref a_lease_spans, .ref a_lease_values, .ref a_lease_cells, .ref a_lease_needs, .ref a_lease_owed, .ref a_lease_room, .int i_lease_squares, .int i_lease_wishCount, .int i_lease_owedPlaces])), (a_lease_cells, .inr (4, [.ref n_lease_cells])), (n_lease_cells, .inl (cI, 5, .inl f_lease_cells)), (a_lease_needs, .inr (4, [.ref n_lease_needs])), (n_lease_needs, .inl (cI, 5, .inl f_lease_needs)), (a_lease_values, .inr (4, [.ref n_lease_values])), (n_lease_values, .inl (cI, 5, .inl f_lease_values))] (v_X7_loss x1 i_hangingNow i_lease_wishCount f_lease_cells f_lease_needs f_lease_values) (fun o : Int32 => o) (fun _ : Int32 => [(a, .inr (7, [.ref a_text, .ref a_lease, .ref a_reader, .ref a_prover, .ref a_survey, .ref a_paths, .ref a_acts, .ref a_slots, .int i_hangingNow, .int i_hourNow, .int i_toldDark, .int i_toldLight, .int i_toldCount, .long j_seedNow])), (a_lease, .inr (1, [.ref a_lease_places, .ref a_lease_firstHours, .ref a_lease_spans, .ref a_lease_values, .ref a_lease_cells, .ref a_lease_needs, .ref a_lease_owed, .ref a_lease_room, .int i_lease_squares, .int i_lease_wishCount, .int i_lease_owedPlaces])), (a_lease_cells, .inr (4, [.ref n_lease_cells])), (n_lease_cells, .inl (cI, 5, .inl f_lease_cells)), (a_lease_needs, .inr (4, [.ref n_lease_needs])), (n_lease_needs, .inl (cI, 5, .inl f_lease_needs)), (a_lease_values, .inr (4, [.ref n_lease_values])), (n_lease_values, .inl (cI, 5, .inl f_lease_values))]) := by
  refine KI.of cX7_loss 2 (some .int) (by decide) rfl (Nat.le_of_ble_eq_true rfl) ?_
  intro p e s m below meth c A ls ar Q hQ B
  obtain ⟨hx, hb, hr, hml, hts, hown, hlk, hK, hN, hP, hD, hA, hS, hl⟩ := B
  have hown : s.vm.findClass RX7 = some m.cls := hown
  have hF : CallFix p m c cX7_loss 2 s ar wsX7_loss RX7 := ⟨hx, hb, hml, hown, hts⟩
  have hl : lv_has ls 2 [(0, .ref a), (1, .int x1)] := hl
  refine lv_iload_n hx hb dX7_loss_0 rfl (lv_at hl 1 rfl) ?_
  obtain ⟨o_1, ho_1⟩ : ∃ z : Bool, z = v_X7_isCell x1 := ⟨_, rfl⟩
  refine callSIs (As := [.int x1]) (rest := []) o_1 ho_1 hF (k_X7_isCell l D cI cZ x1) (va_cwS 1 hts gX7_loss_X7_isCell rfl rfl rfl (by decide +kernel) ⟨Nat.le_of_ble_eq_true rfl, Nat.le_of_ble_eq_true rfl⟩) hK hN hP (va_Dsame hD rfl) hS hA [] rfl rfl rfl hl.1 rfl (Nat.le_of_ble_eq_true rfl) dX7_loss_1 ⟨Nat.zero_le _, Nat.zero_le _⟩ (bI o_1) rfl rfl (fun H locs hP hS => ?_)
  refine lv_if_ne (tgt := 9) hx hb dX7_loss_4 (by decide) (fun c_4 => ?_) (fun c_4 => ?_)
  · refine lv_aload_n hx hb dX7_loss_9 rfl (lv_at hl 0 rfl) ?_
    refine va_get (D := D) (ci := 7) (v := .int i_hangingNow) (C := RX7) (T := TX7) (N := 14) hx hb hts (fun _ h => List.mem_cons_of_mem _ (List.mem_append_left _ (List.mem_append_left _ (List.mem_append_right _ (h))))) hown hK hP 0 rfl rfl 8 (by decide) (hts _ (List.mem_of_getElem? (i := 1) rfl)) (fun _ h9 => h9) rfl dX7_loss_10 ?_
    refine lv_iload_n hx hb dX7_loss_13 rfl (lv_at hl 1 rfl) ?_
    obtain ⟨o_14, ho_14⟩ : ∃ z : Bool, z = v_X7_has i_hangingNow x1 := ⟨_, rfl⟩
    refine callSIs (As := [.int i_hangingNow, .int x1]) (rest := []) o_14 ho_14 hF (k_X7_has l D cI cZ i_hangingNow x1) (va_cwS 2 hts gX7_loss_X7_has rfl rfl rfl (by decide +kernel) ⟨Nat.le_of_ble_eq_true rfl, Nat.le_of_ble_eq_true rfl⟩) hK hN hP (va_Dsame hD rfl) hS hA [] rfl rfl rfl hl.1 rfl (Nat.le_of_ble_eq_true rfl) dX7_loss_14 ⟨Nat.zero_le _, Nat.zero_le _⟩ (bI o_14) rfl rfl (fun H locs hP hS => ?_)
    refine lv_if_ne (tgt := 23) hx hb dX7_loss_17 (by decide) (fun c_17 => ?_) (fun c_17 => ?_)
    · refine lv_sipush (v := 1000) hx hb dX7_loss_23 rfl ?_
      refine lv_aload_n hx hb dX7_loss_26 rfl (lv_at hl 0 rfl) ?_
      refine va_get (D := D) (ci := 7) (v := .ref a_lease) (C := RX7) (T := TX7) (N := 14) hx hb hts (fun _ h => List.mem_cons_of_mem _ (List.mem_append_left _ (List.mem_append_left _ (List.mem_append_right _ (h))))) hown hK hP 0 rfl rfl 1 (by decide) (hts _ (List.mem_of_getElem? (i := 2) rfl)) (fun _ h9 => h9) rfl dX7_loss_27 ?_
      refine lv_aload_n hx hb dX7_loss_30 rfl (lv_at hl 0 rfl) ?_
      refine va_get (D := D) (ci := 7) (v := .int i_hangingNow) (C := RX7) (T := TX7) (N := 14) hx hb hts (fun _ h => List.mem_cons_of_mem _ (List.mem_append_left _ (List.mem_append_left _ (List.mem_append_right _ (h))))) hown hK hP 0 rfl rfl 8 (by decide) (hts _ (List.mem_of_getElem? (i := 1) rfl)) (fun _ h9 => h9) rfl dX7_loss_31 ?_
      obtain ⟨o_34, ho_34⟩ : ∃ z : Int32, z = v_X1_worthOf i_hangingNow i_lease_wishCount f_lease_cells f_lease_needs f_lease_values := ⟨_, rfl⟩
      refine callVIs (As := [.int i_hangingNow]) (rest := [.int 1000]) o_34 ho_34 hF (k_X1_worthOf l D cI cZ a_lease a_lease_places a_lease_firstHours a_lease_spans a_lease_values a_lease_cells a_lease_needs a_lease_owed a_lease_room n_lease_cells n_lease_needs n_lease_values i_hangingNow i_lease_squares i_lease_wishCount i_lease_owedPlaces f_lease_cells f_lease_needs f_lease_values) (cwV 1 hts gX7_loss_X1_worthOf rfl rfl rfl (by decide +kernel) ⟨Nat.le_of_ble_eq_true rfl, Nat.le_of_ble_eq_true rfl⟩) hK hN hP (va_Dsame hD rfl) hS hA [1, 2, 3, 4, 5, 6, 7] rfl rfl 1 1 (T := TX1) (N := 11) rfl rfl rfl hl.1 rfl (Nat.le_of_ble_eq_true rfl) dX7_loss_34 ⟨Nat.zero_le _, Nat.zero_le _⟩ o_34 rfl rfl (fun H locs hP hS => ?_)
      refine lv_iadd hx hb dX7_loss_37 ?_
      refine lv_aload_n hx hb dX7_loss_38 rfl (lv_at hl 0 rfl) ?_
      refine va_get (D := D) (ci := 7) (v := .ref a_lease) (C := RX7) (T := TX7) (N := 14) hx hb hts (fun _ h => List.mem_cons_of_mem _ (List.mem_append_left _ (List.mem_append_left _ (List.mem_append_right _ (h))))) hown hK hP 0 rfl rfl 1 (by decide) (hts _ (List.mem_of_getElem? (i := 2) rfl)) (fun _ h9 => h9) rfl dX7_loss_39 ?_
      refine lv_aload_n hx hb dX7_loss_42 rfl (lv_at hl 0 rfl) ?_
      refine va_get (D := D) (ci := 7) (v := .int i_hangingNow) (C := RX7) (T := TX7) (N := 14) hx hb hts (fun _ h => List.mem_cons_of_mem _ (List.mem_append_left _ (List.mem_append_left _ (List.mem_append_right _ (h))))) hown hK hP 0 rfl rfl 8 (by decide) (hts _ (List.mem_of_getElem? (i := 1) rfl)) (fun _ h9 => h9) rfl dX7_loss_43 ?_
      refine lv_iconst (v := 1) hx hb dX7_loss_46 rfl ?_
      refine lv_iload_n hx hb dX7_loss_47 rfl (lv_at hl 1 rfl) ?_
      refine lv_ishl hx hb dX7_loss_48 ?_
      refine lv_iconst (v := (-1)) hx hb dX7_loss_49 rfl ?_
      refine lv_ixor hx hb dX7_loss_50 ?_
      refine lv_iand hx hb dX7_loss_51 ?_
      obtain ⟨o_52, ho_52⟩ : ∃ z : Int32, z = v_X1_worthOf (i_hangingNow &&& (((1 : Int32) <<< (x1 &&& 31)) ^^^ (-1))) i_lease_wishCount f_lease_cells f_lease_needs f_lease_values := ⟨_, rfl⟩
      refine callVIs (As := [.int (i_hangingNow &&& (((1 : Int32) <<< (x1 &&& 31)) ^^^ (-1)))]) (rest := [.int (1000 + o_34)]) o_52 ho_52 hF (k_X1_worthOf l D cI cZ a_lease a_lease_places a_lease_firstHours a_lease_spans a_lease_values a_lease_cells a_lease_needs a_lease_owed a_lease_room n_lease_cells n_lease_needs n_lease_values (i_hangingNow &&& (((1 : Int32) <<< (x1 &&& 31)) ^^^ (-1))) i_lease_squares i_lease_wishCount i_lease_owedPlaces f_lease_cells f_lease_needs f_lease_values) (cwV 1 hts gX7_loss_X1_worthOf rfl rfl rfl (by decide +kernel) ⟨Nat.le_of_ble_eq_true rfl, Nat.le_of_ble_eq_true rfl⟩) hK hN hP (va_Dsame hD rfl) hS hA [1, 2, 3, 4, 5, 6, 7] rfl rfl 1 1 (T := TX1) (N := 11) rfl rfl rfl hl.1 rfl (Nat.le_of_ble_eq_true rfl) dX7_loss_52 ⟨Nat.zero_le _, Nat.zero_le _⟩ o_52 rfl rfl (fun H locs hP hS => ?_)
      refine lv_isub hx hb dX7_loss_55 ?_
      have e9 : v_X7_loss x1 i_hangingNow i_lease_wishCount f_lease_cells f_lease_needs f_lease_values = ((1000 + o_34) - o_52) := by
        refine (bnd_eq ho_1).trans ?_
        refine (if_neg c_4).trans ?_
        refine (bnd_eq ho_14).trans ?_
        refine (if_neg c_17).trans ?_
        refine (bnd_eq ho_34).trans ?_
        refine (bnd_eq ho_52).trans ?_
        rfl
      rw [hQ]; exact retI ((1000 + o_34) - o_52) hx hb hr hlk e9 hP rfl hS dX7_loss_56
    · refine lv_bipush (v := (-3)) hx hb dX7_loss_20 rfl ?_
      have e9 : v_X7_loss x1 i_hangingNow i_lease_wishCount f_lease_cells f_lease_needs f_lease_values = (-3) := by
        refine (bnd_eq ho_1).trans ?_
        refine (if_neg c_4).trans ?_
        refine (bnd_eq ho_14).trans ?_
        refine (if_pos c_17).trans ?_
        rfl
      rw [hQ]; exact retI (-3) hx hb hr hlk e9 hP rfl hS dX7_loss_22
  · refine lv_iconst (v := (-1)) hx hb dX7_loss_7 rfl ?_
    have e9 : v_X7_loss x1 i_hangingNow i_lease_wishCount f_lease_cells f_lease_needs f_lease_values = (-1) := by
      refine (bnd_eq ho_1).trans ?_
      refine (if_pos c_4).trans ?_
      rfl
    rw [hQ]; exact retI (-1) hx hb hr hlk e9 hP rfl hS dX7_loss_8
def v_X7_flow (x1 : Int32) (i_hangingNow : Int32) (f_paths_starts : Nat → Int32) (f_paths_goals : Nat → Int32) (f_paths_fewest : Nat → Int32) : Int32 × (Nat → Int32) × (Nat → Int32) × (Nat → Int32) :=
  bnd (v_X7_isHanging x1) fun o_1 =>
  (if bI o_1 = 0 then ((-2), f_paths_starts, f_paths_goals, f_paths_fewest)
  else (bnd (v_J6_bitCount_0f7a4 x1) fun o_11 =>
  (bnd (v_X7_squaresNow i_hangingNow) fun o_15 =>
  (if o_11 = o_15 then (bnd4 (v_X2_fewestMoves i_hangingNow x1 f_paths_starts f_paths_goals f_paths_fewest) fun o_33_1 o_33_2 o_33_3 o_33_4 =>
    (o_33_1, o_33_2, o_33_3, o_33_4))
  else ((-3), f_paths_starts, f_paths_goals, f_paths_fewest)))))
abbrev rm_X7_flow : Room := { frames := 4, cells := 0, slots := 0, locals := 96 }
set_option maxHeartbeats 4000000 in
set_option maxRecDepth 100000 in
theorem k_X7_flow (l : Launch) (D : va_G) (cI cZ : ClassId) (a a_text a_lease a_reader a_prover a_survey a_paths a_acts a_slots a_paths_starts a_paths_goals a_paths_fewest n_paths_starts n_paths_goals n_paths_fewest : Nat) (x1 : Int32) (i_hangingNow : Int32) (i_hourNow : Int32) (i_toldDark : Int32) (i_toldLight : Int32) (i_toldCount : Int32) (j_seedNow : Int64) (f_paths_starts : Nat → Int32) (f_paths_goals : Nat → Int32) (f_paths_fewest : Nat → Int32) : KI l D cI cZ yX7_flow wsX7_flow rm_X7_flow [.ref a, .int x1] [(a, .inr (7, [.ref a_text, .ref a_lease, .ref a_reader, .ref a_prover, .ref a_survey, .ref a_paths, .ref a_acts, .ref a_slots, .int i_hangingNow, .int i_hourNow, .int i_toldDark, .int i_toldLight, .int i_toldCount, .long j_seedNow])), (a_paths, .inr (2, [.ref a_paths_starts, .ref a_paths_goals, .ref a_paths_fewest])), (a_paths_starts, .inr (4, [.ref n_paths_starts])), (n_paths_starts, .inl (cI, 5, .inl f_paths_starts)), (a_paths_goals, .inr (4, [.ref n_paths_goals])), (n_paths_goals, .inl (cI, 5, .inl f_paths_goals)), (a_paths_fewest, .inr (4, [.ref n_paths_fewest])), (n_paths_fewest, .inl (cI, 32, .inl f_paths_fewest))] (v_X7_flow x1 i_hangingNow f_paths_starts f_paths_goals f_paths_fewest) (fun o : Int32 × (Nat → Int32) × (Nat → Int32) × (Nat → Int32) => o.1) (fun o : Int32 × (Nat → Int32) × (Nat → Int32) × (Nat → Int32) => [(a, .inr (7, [.ref a_text, .ref a_lease, .ref a_reader, .ref a_prover, .ref a_survey, .ref a_paths, .ref a_acts, .ref a_slots, .int i_hangingNow, .int i_hourNow, .int i_toldDark, .int i_toldLight, .int i_toldCount, .long j_seedNow])), (a_paths, .inr (2, [.ref a_paths_starts, .ref a_paths_goals, .ref a_paths_fewest])), (a_paths_starts, .inr (4, [.ref n_paths_starts])), (n_paths_starts, .inl (cI, 5, .inl o.2.1)), (a_paths_goals, .inr (4, [.ref n_paths_goals])), (n_paths_goals, .inl (cI, 5, .inl o.2.2.1)), (a_paths_fewest, .inr (4, [.ref n_paths_fewest])), (n_paths_fewest, .inl (cI, 32, .inl o.2.2.2))]) := by
  refine KI.of cX7_flow 2 (some .int) (by decide) rfl (Nat.le_of_ble_eq_true rfl) ?_
  intro p e s m below meth c A ls ar Q hQ B
  obtain ⟨hx, hb, hr, hml, hts, hown, hlk, hK, hN, hP, hD, hA, hS, hl⟩ := B
  have hown : s.vm.findClass RX7 = some m.cls := hown
  have hF : CallFix p m c cX7_flow 2 s ar wsX7_flow RX7 := ⟨hx, hb, hml, hown, hts⟩
  have hl : lv_has ls 2 [(0, .ref a), (1, .int x1)] := hl
  refine lv_iload_n hx hb dX7_flow_0 rfl (lv_at hl 1 rfl) ?_
  obtain ⟨o_1, ho_1⟩ : ∃ z : Bool, z = v_X7_isHanging x1 := ⟨_, rfl⟩
  refine callSIs (As := [.int x1]) (rest := []) o_1 ho_1 hF (k_X7_isHanging l D cI cZ x1) (va_cwS 1 hts gX7_flow_X7_isHanging rfl rfl rfl (by decide +kernel) ⟨Nat.le_of_ble_eq_true rfl, Nat.le_of_ble_eq_true rfl⟩) hK hN hP (va_Dsame hD rfl) hS hA [] rfl rfl rfl hl.1 rfl (Nat.le_of_ble_eq_true rfl) dX7_flow_1 ⟨Nat.zero_le _, Nat.zero_le _⟩ (bI o_1) rfl rfl (fun H locs hP hS => ?_)
  refine lv_if_ne (tgt := 10) hx hb dX7_flow_4 (by decide) (fun c_4 => ?_) (fun c_4 => ?_)
  · refine lv_iload_n hx hb dX7_flow_10 rfl (lv_at hl 1 rfl) ?_
    obtain ⟨o_11, ho_11⟩ : ∃ z : Int32, z = v_J6_bitCount_0f7a4 x1 := ⟨_, rfl⟩
    refine callSIs (As := [.int x1]) (rest := []) o_11 ho_11 hF (k_J6_bitCount_0f7a4 l D cI cZ x1) (va_cwS 1 hts gX7_flow_J6_bitCount_0f7a4 rfl rfl rfl (by decide +kernel) ⟨Nat.le_of_ble_eq_true rfl, Nat.le_of_ble_eq_true rfl⟩) hK hN hP (va_Dsame hD rfl) hS hA [] rfl rfl rfl hl.1 rfl (Nat.le_of_ble_eq_true rfl) dX7_flow_11 ⟨Nat.zero_le _, Nat.zero_le _⟩ o_11 rfl rfl (fun H locs hP hS => ?_)
    refine lv_aload_n hx hb dX7_flow_14 rfl (lv_at hl 0 rfl) ?_
    obtain ⟨o_15, ho_15⟩ : ∃ z : Int32, z = v_X7_squaresNow i_hangingNow := ⟨_, rfl⟩
    refine callVIs (As := []) (rest := [.int o_11]) o_15 ho_15 hF (k_X7_squaresNow l D cI cZ a a_text a_lease a_reader a_prover a_survey a_paths a_acts a_slots i_hangingNow i_hourNow i_toldDark i_toldLight i_toldCount j_seedNow) (cwV 0 hts gX7_flow_X7_squaresNow rfl rfl rfl (by decide +kernel) ⟨Nat.le_of_ble_eq_true rfl, Nat.le_of_ble_eq_true rfl⟩) hK hN hP (va_Dsame hD rfl) hS hA [0] rfl rfl 0 7 (T := TX7) (N := 14) rfl rfl rfl hl.1 rfl (Nat.le_of_ble_eq_true rfl) dX7_flow_15 ⟨Nat.zero_le _, Nat.zero_le _⟩ o_15 rfl rfl (fun H locs hP hS => ?_)
    refine lv_icmp_eq (tgt := 24) hx hb dX7_flow_18 (by decide) (fun c_18 => ?_) (fun c_18 => ?_)
    · refine lv_aload_n hx hb dX7_flow_24 rfl (lv_at hl 0 rfl) ?_
      refine va_get (D := D) (ci := 7) (v := .ref a_paths) (C := RX7) (T := TX7) (N := 14) hx hb hts (fun _ h => List.mem_cons_of_mem _ (List.mem_append_left _ (List.mem_append_left _ (List.mem_append_right _ (h))))) hown hK hP 0 rfl rfl 5 (by decide) (hts _ (List.mem_of_getElem? (i := 1) rfl)) (fun _ h9 => h9) rfl dX7_flow_25 ?_
      refine lv_aload_n hx hb dX7_flow_28 rfl (lv_at hl 0 rfl) ?_
      refine va_get (D := D) (ci := 7) (v := .int i_hangingNow) (C := RX7) (T := TX7) (N := 14) hx hb hts (fun _ h => List.mem_cons_of_mem _ (List.mem_append_left _ (List.mem_append_left _ (List.mem_append_right _ (h))))) hown hK hP 0 rfl rfl 8 (by decide) (hts _ (List.mem_of_getElem? (i := 2) rfl)) (fun _ h9 => h9) rfl dX7_flow_29 ?_
      refine lv_iload_n hx hb dX7_flow_32 rfl (lv_at hl 1 rfl) ?_
      obtain ⟨o_33_1, o_33_2, o_33_3, o_33_4, ho_33⟩ := ex4 (v_X2_fewestMoves i_hangingNow x1 f_paths_starts f_paths_goals f_paths_fewest)
      refine callVI (As := [.int i_hangingNow, .int x1]) (rest := []) (o_33_1, o_33_2, o_33_3, o_33_4) ho_33 hF (k_X2_fewestMoves l D cI cZ a_paths a_paths_starts a_paths_goals a_paths_fewest n_paths_starts n_paths_goals n_paths_fewest i_hangingNow x1 f_paths_starts f_paths_goals f_paths_fewest) (cwV 2 hts gX7_flow_X2_fewestMoves rfl rfl rfl (by decide +kernel) ⟨Nat.le_of_ble_eq_true rfl, Nat.le_of_ble_eq_true rfl⟩) hK hN hP (va_Dsame hD rfl) hS hA [1, 2, 3, 4, 5, 6, 7] rfl rfl 1 2 (T := TX2) (N := 3) rfl rfl rfl hl.1 rfl (Nat.le_of_ble_eq_true rfl) dX7_flow_33 ⟨Nat.zero_le _, Nat.zero_le _⟩ o_33_1 rfl [none, some 0, some 1, some 2, some 3, some 4, some 5, some 6] 7 [(a, .inr (7, [.ref a_text, .ref a_lease, .ref a_reader, .ref a_prover, .ref a_survey, .ref a_paths, .ref a_acts, .ref a_slots, .int i_hangingNow, .int i_hourNow, .int i_toldDark, .int i_toldLight, .int i_toldCount, .long j_seedNow])), (a_paths, .inr (2, [.ref a_paths_starts, .ref a_paths_goals, .ref a_paths_fewest])), (a_paths_starts, .inr (4, [.ref n_paths_starts])), (n_paths_starts, .inl (cI, 5, .inl o_33_2)), (a_paths_goals, .inr (4, [.ref n_paths_goals])), (n_paths_goals, .inl (cI, 5, .inl o_33_3)), (a_paths_fewest, .inr (4, [.ref n_paths_fewest])), (n_paths_fewest, .inl (cI, 32, .inl o_33_4))] rfl rfl (by decide) (fun H locs hP hS => ?_)
      have e9 : v_X7_flow x1 i_hangingNow f_paths_starts f_paths_goals f_paths_fewest = (o_33_1, o_33_2, o_33_3, o_33_4) := by
        refine (bnd_eq ho_1).trans ?_
        refine (if_neg c_4).trans ?_
        refine (bnd_eq ho_11).trans ?_
        refine (bnd_eq ho_15).trans ?_
        refine (if_pos c_18).trans ?_
        refine (bnd4_eq ho_33).trans ?_
        rfl
      rw [hQ]; exact retI (o_33_1, o_33_2, o_33_3, o_33_4) hx hb hr hlk e9 hP rfl hS dX7_flow_36
    · refine lv_bipush (v := (-3)) hx hb dX7_flow_21 rfl ?_
      have e9 : v_X7_flow x1 i_hangingNow f_paths_starts f_paths_goals f_paths_fewest = ((-3), f_paths_starts, f_paths_goals, f_paths_fewest) := by
        refine (bnd_eq ho_1).trans ?_
        refine (if_neg c_4).trans ?_
        refine (bnd_eq ho_11).trans ?_
        refine (bnd_eq ho_15).trans ?_
        refine (if_neg c_18).trans ?_
        rfl
      rw [hQ]; exact retI ((-3), f_paths_starts, f_paths_goals, f_paths_fewest) hx hb hr hlk e9 hP rfl hS dX7_flow_23
  · refine lv_bipush (v := (-2)) hx hb dX7_flow_7 rfl ?_
    have e9 : v_X7_flow x1 i_hangingNow f_paths_starts f_paths_goals f_paths_fewest = ((-2), f_paths_starts, f_paths_goals, f_paths_fewest) := by
      refine (bnd_eq ho_1).trans ?_
      refine (if_pos c_4).trans ?_
      rfl
    rw [hQ]; exact retI ((-2), f_paths_starts, f_paths_goals, f_paths_fewest) hx hb hr hlk e9 hP rfl hS dX7_flow_9
def v_X7_due (x1 : Int32) (x2 : Int32) (i_lease_wishCount : Int32) (i_survey_isMade : Int32) (f_survey_lawful : Nat → Int32) (f_survey_grants : Nat → Int32) (f_survey_bests : Nat → Int32) (f_survey_mosts : Nat → Int32) (f_lease_room : Nat → Int32) (f_lease_cells : Nat → Int32) (f_lease_needs : Nat → Int32) (f_lease_values : Nat → Int32) : Int32 × (Nat → Int32) × Int32 × (Nat → Int32) × (Nat → Int32) × (Nat → Int32) :=
  bnd (v_X7_isWish x1 i_lease_wishCount) fun o_2 =>
  (if bI o_2 = 0 then ((-1), f_survey_mosts, i_survey_isMade, f_survey_lawful, f_survey_grants, f_survey_bests)
  else (bnd (v_X7_isSquares x2) fun o_11 =>
  (if bI o_11 = 0 then ((-2), f_survey_mosts, i_survey_isMade, f_survey_lawful, f_survey_grants, f_survey_bests)
  else (bnd6 (v_X5_bestOf x2 i_survey_isMade f_survey_lawful f_survey_grants f_survey_bests f_survey_mosts i_lease_wishCount f_lease_room f_lease_cells f_lease_needs f_lease_values) fun o_25_1 o_25_2 o_25_3 o_25_4 o_25_5 o_25_6 =>
  (if o_25_1 = (-9) then ((-9), o_25_6, o_25_2, o_25_3, o_25_4, o_25_5)
  else (bnd (v_X1_grantedBy o_25_1 i_lease_wishCount f_lease_cells f_lease_needs) fun o_43 =>
  (bnd (v_X7_has o_43 x1) fun o_51 =>
  (if bI o_51 = 0 then (0, o_25_6, o_25_2, o_25_3, o_25_4, o_25_5)
  else (bnd (v_X1_allWishes i_lease_wishCount) fun o_63 =>
  (bnd ((o_63 &&& (((1 : Int32) <<< (x1 &&& 31)) ^^^ (-1)))) fun w_72 =>
  (bnd6 (v_X5_mostWorth x2 w_72 o_25_2 o_25_3 o_25_4 o_25_5 o_25_6 i_lease_wishCount f_lease_room f_lease_cells f_lease_needs f_lease_values) fun o_81_1 o_81_2 o_81_3 o_81_4 o_81_5 o_81_6 =>
  (bnd (v_X1_sumOf (o_43 &&& w_72) i_lease_wishCount f_lease_values) fun o_93 =>
  ((o_81_1 - o_93), o_81_6, o_81_2, o_81_3, o_81_4, o_81_5)))))))))))))
abbrev rm_X7_due : Room := { frames := 5, cells := 0, slots := 0, locals := 113 }
set_option maxHeartbeats 4000000 in
set_option maxRecDepth 100000 in
theorem k_X7_due (l : Launch) (D : va_G) (cI cZ : ClassId) (a a_text a_lease a_reader a_prover a_survey a_paths a_acts a_slots a_lease_places a_lease_firstHours a_lease_spans a_lease_values a_lease_cells a_lease_needs a_lease_owed a_lease_room a_survey_lawful a_survey_grants a_survey_bests a_survey_mosts n_survey_lawful n_survey_grants n_survey_bests n_survey_mosts n_lease_room n_lease_cells n_lease_needs n_lease_values : Nat) (x1 : Int32) (x2 : Int32) (i_hangingNow : Int32) (i_hourNow : Int32) (i_toldDark : Int32) (i_toldLight : Int32) (i_toldCount : Int32) (j_seedNow : Int64) (i_lease_squares : Int32) (i_lease_wishCount : Int32) (i_lease_owedPlaces : Int32) (i_survey_isMade : Int32) (f_survey_lawful : Nat → Int32) (f_survey_grants : Nat → Int32) (f_survey_bests : Nat → Int32) (f_survey_mosts : Nat → Int32) (f_lease_room : Nat → Int32) (f_lease_cells : Nat → Int32) (f_lease_needs : Nat → Int32) (f_lease_values : Nat → Int32) : KI l D cI cZ yX7_due wsX7_due rm_X7_due [.ref a, .int x1, .int x2] [(a, .inr (7, [.ref a_text, .ref a_lease, .ref a_reader, .ref a_prover, .ref a_survey, .ref a_paths, .ref a_acts, .ref a_slots, .int i_hangingNow, .int i_hourNow, .int i_toldDark, .int i_toldLight, .int i_toldCount, .long j_seedNow])), (a_lease, .inr (1, [.ref a_lease_places, .ref a_lease_firstHours, .ref a_lease_spans, .ref a_lease_values, .ref a_lease_cells, .ref a_lease_needs, .ref a_lease_owed, .ref a_lease_room, .int i_lease_squares, .int i_lease_wishCount, .int i_lease_owedPlaces])), (a_survey, .inr (5, [.ref a_lease, .ref a_survey_lawful, .ref a_survey_grants, .ref a_survey_bests, .ref a_survey_mosts, .int i_survey_isMade])), (a_survey_lawful, .inr (4, [.ref n_survey_lawful])), (n_survey_lawful, .inl (cI, 6, .inl f_survey_lawful)), (a_survey_grants, .inr (4, [.ref n_survey_grants])), (n_survey_grants, .inl (cI, 6, .inl f_survey_grants)), (a_survey_bests, .inr (4, [.ref n_survey_bests])), (n_survey_bests, .inl (cI, 6, .inl f_survey_bests)), (a_survey_mosts, .inr (4, [.ref n_survey_mosts])), (n_survey_mosts, .inl (cI, 6, .inl f_survey_mosts)), (a_lease_room, .inr (4, [.ref n_lease_room])), (n_lease_room, .inl (cI, 2, .inl f_lease_room)), (a_lease_cells, .inr (4, [.ref n_lease_cells])), (n_lease_cells, .inl (cI, 5, .inl f_lease_cells)), (a_lease_needs, .inr (4, [.ref n_lease_needs])), (n_lease_needs, .inl (cI, 5, .inl f_lease_needs)), (a_lease_values, .inr (4, [.ref n_lease_values])), (n_lease_values, .inl (cI, 5, .inl f_lease_values))] (v_X7_due x1 x2 i_lease_wishCount i_survey_isMade f_survey_lawful f_survey_grants f_survey_bests f_survey_mosts f_lease_room f_lease_cells f_lease_needs f_lease_values) (fun o : Int32 × (Nat → Int32) × Int32 × (Nat → Int32) × (Nat → Int32) × (Nat → Int32) => o.1) (fun o : Int32 × (Nat → Int32) × Int32 × (Nat → Int32) × (Nat → Int32) × (Nat → Int32) => [(a, .inr (7, [.ref a_text, .ref a_lease, .ref a_reader, .ref a_prover, .ref a_survey, .ref a_paths, .ref a_acts, .ref a_slots, .int i_hangingNow, .int i_hourNow, .int i_toldDark, .int i_toldLight, .int i_toldCount, .long j_seedNow])), (a_lease, .inr (1, [.ref a_lease_places, .ref a_lease_firstHours, .ref a_lease_spans, .ref a_lease_values, .ref a_lease_cells, .ref a_lease_needs, .ref a_lease_owed, .ref a_lease_room, .int i_lease_squares, .int i_lease_wishCount, .int i_lease_owedPlaces])), (a_survey, .inr (5, [.ref a_lease, .ref a_survey_lawful, .ref a_survey_grants, .ref a_survey_bests, .ref a_survey_mosts, .int o.2.2.1])), (a_survey_lawful, .inr (4, [.ref n_survey_lawful])), (n_survey_lawful, .inl (cI, 6, .inl o.2.2.2.1)), (a_survey_grants, .inr (4, [.ref n_survey_grants])), (n_survey_grants, .inl (cI, 6, .inl o.2.2.2.2.1)), (a_survey_bests, .inr (4, [.ref n_survey_bests])), (n_survey_bests, .inl (cI, 6, .inl o.2.2.2.2.2)), (a_survey_mosts, .inr (4, [.ref n_survey_mosts])), (n_survey_mosts, .inl (cI, 6, .inl o.2.1)), (a_lease_room, .inr (4, [.ref n_lease_room])), (n_lease_room, .inl (cI, 2, .inl f_lease_room)), (a_lease_cells, .inr (4, [.ref n_lease_cells])), (n_lease_cells, .inl (cI, 5, .inl f_lease_cells)), (a_lease_needs, .inr (4, [.ref n_lease_needs])), (n_lease_needs, .inl (cI, 5, .inl f_lease_needs)), (a_lease_values, .inr (4, [.ref n_lease_values])), (n_lease_values, .inl (cI, 5, .inl f_lease_values))]) := by
  refine KI.of cX7_due 6 (some .int) (by decide) rfl (Nat.le_of_ble_eq_true rfl) ?_
  intro p e s m below meth c A ls ar Q hQ B
  obtain ⟨hx, hb, hr, hml, hts, hown, hlk, hK, hN, hP, hD, hA, hS, hl⟩ := B
  have hown : s.vm.findClass RX7 = some m.cls := hown
  have hF : CallFix p m c cX7_due 6 s ar wsX7_due RX7 := ⟨hx, hb, hml, hown, hts⟩
  have hl : lv_has ls 6 [(0, .ref a), (1, .int x1), (2, .int x2)] := hl
  refine lv_aload_n hx hb dX7_due_0 rfl (lv_at hl 0 rfl) ?_
  refine lv_iload_n hx hb dX7_due_1 rfl (lv_at hl 1 rfl) ?_
  obtain ⟨o_2, ho_2⟩ : ∃ z : Bool, z = v_X7_isWish x1 i_lease_wishCount := ⟨_, rfl⟩
  refine callVIs (As := [.int x1]) (rest := []) o_2 ho_2 hF (k_X7_isWish l D cI cZ a a_text a_lease a_reader a_prover a_survey a_paths a_acts a_slots a_lease_places a_lease_firstHours a_lease_spans a_lease_values a_lease_cells a_lease_needs a_lease_owed a_lease_room x1 i_hangingNow i_hourNow i_toldDark i_toldLight i_toldCount j_seedNow i_lease_squares i_lease_wishCount i_lease_owedPlaces) (cwV 1 hts gX7_due_X7_isWish rfl rfl rfl (by decide +kernel) ⟨Nat.le_of_ble_eq_true rfl, Nat.le_of_ble_eq_true rfl⟩) hK hN hP (va_Dsame hD rfl) hS hA [0, 1] rfl rfl 0 7 (T := TX7) (N := 14) rfl rfl rfl hl.1 rfl (Nat.le_of_ble_eq_true rfl) dX7_due_2 ⟨Nat.zero_le _, Nat.zero_le _⟩ (bI o_2) rfl rfl (fun H locs hP hS => ?_)
  refine lv_if_ne (tgt := 10) hx hb dX7_due_5 (by decide) (fun c_5 => ?_) (fun c_5 => ?_)
  · refine lv_iload_n hx hb dX7_due_10 rfl (lv_at hl 2 rfl) ?_
    obtain ⟨o_11, ho_11⟩ : ∃ z : Bool, z = v_X7_isSquares x2 := ⟨_, rfl⟩
    refine callSIs (As := [.int x2]) (rest := []) o_11 ho_11 hF (k_X7_isSquares l D cI cZ x2) (va_cwS 1 hts gX7_due_X7_isSquares rfl rfl rfl (by decide +kernel) ⟨Nat.le_of_ble_eq_true rfl, Nat.le_of_ble_eq_true rfl⟩) hK hN hP (va_Dsame hD rfl) hS hA [] rfl rfl rfl hl.1 rfl (Nat.le_of_ble_eq_true rfl) dX7_due_11 ⟨Nat.zero_le _, Nat.zero_le _⟩ (bI o_11) rfl rfl (fun H locs hP hS => ?_)
    refine lv_if_ne (tgt := 20) hx hb dX7_due_14 (by decide) (fun c_14 => ?_) (fun c_14 => ?_)
    · refine lv_aload_n hx hb dX7_due_20 rfl (lv_at hl 0 rfl) ?_
      refine va_get (D := D) (ci := 7) (v := .ref a_survey) (C := RX7) (T := TX7) (N := 14) hx hb hts (fun _ h => List.mem_cons_of_mem _ (List.mem_append_left _ (List.mem_append_left _ (List.mem_append_left _ (List.mem_append_right _ (h)))))) hown hK hP 0 rfl rfl 4 (by decide) (hts _ (List.mem_of_getElem? (i := 1) rfl)) (fun _ h9 => h9) rfl dX7_due_21 ?_
      refine lv_iload_n hx hb dX7_due_24 rfl (lv_at hl 2 rfl) ?_
      obtain ⟨o_25_1, o_25_2, o_25_3, o_25_4, o_25_5, o_25_6, ho_25⟩ := ex6 (v_X5_bestOf x2 i_survey_isMade f_survey_lawful f_survey_grants f_survey_bests f_survey_mosts i_lease_wishCount f_lease_room f_lease_cells f_lease_needs f_lease_values)
      refine callVI (As := [.int x2]) (rest := []) (o_25_1, o_25_2, o_25_3, o_25_4, o_25_5, o_25_6) ho_25 hF (k_X5_bestOf l D cI cZ a_survey a_lease a_survey_lawful a_survey_grants a_survey_bests a_survey_mosts n_survey_lawful n_survey_grants n_survey_bests n_survey_mosts a_lease_places a_lease_firstHours a_lease_spans a_lease_values a_lease_cells a_lease_needs a_lease_owed a_lease_room n_lease_room n_lease_cells n_lease_needs n_lease_values x2 i_survey_isMade f_survey_lawful f_survey_grants f_survey_bests f_survey_mosts i_lease_squares i_lease_wishCount i_lease_owedPlaces f_lease_room f_lease_cells f_lease_needs f_lease_values) (cwV 1 hts gX7_due_X5_bestOf rfl rfl rfl (by decide +kernel) ⟨Nat.le_of_ble_eq_true rfl, Nat.le_of_ble_eq_true rfl⟩) hK hN hP (va_Dsame hD rfl) hS hA [2, 3, 4, 5, 6, 7, 8, 9, 10, 1, 11, 12, 13, 14, 15, 16, 17, 18] rfl rfl 2 5 (T := TX5) (N := 6) rfl rfl rfl hl.1 rfl (Nat.le_of_ble_eq_true rfl) dX7_due_25 ⟨Nat.zero_le _, Nat.zero_le _⟩ o_25_1 rfl [none, some 9, some 0, some 1, some 2, some 3, some 4, some 5, some 6, some 7, some 8, some 10, some 11, some 12, some 13, some 14, some 15, some 16, some 17] 18 [(a, .inr (7, [.ref a_text, .ref a_lease, .ref a_reader, .ref a_prover, .ref a_survey, .ref a_paths, .ref a_acts, .ref a_slots, .int i_hangingNow, .int i_hourNow, .int i_toldDark, .int i_toldLight, .int i_toldCount, .long j_seedNow])), (a_lease, .inr (1, [.ref a_lease_places, .ref a_lease_firstHours, .ref a_lease_spans, .ref a_lease_values, .ref a_lease_cells, .ref a_lease_needs, .ref a_lease_owed, .ref a_lease_room, .int i_lease_squares, .int i_lease_wishCount, .int i_lease_owedPlaces])), (a_survey, .inr (5, [.ref a_lease, .ref a_survey_lawful, .ref a_survey_grants, .ref a_survey_bests, .ref a_survey_mosts, .int o_25_2])), (a_survey_lawful, .inr (4, [.ref n_survey_lawful])), (n_survey_lawful, .inl (cI, 6, .inl o_25_3)), (a_survey_grants, .inr (4, [.ref n_survey_grants])), (n_survey_grants, .inl (cI, 6, .inl o_25_4)), (a_survey_bests, .inr (4, [.ref n_survey_bests])), (n_survey_bests, .inl (cI, 6, .inl o_25_5)), (a_survey_mosts, .inr (4, [.ref n_survey_mosts])), (n_survey_mosts, .inl (cI, 6, .inl o_25_6)), (a_lease_room, .inr (4, [.ref n_lease_room])), (n_lease_room, .inl (cI, 2, .inl f_lease_room)), (a_lease_cells, .inr (4, [.ref n_lease_cells])), (n_lease_cells, .inl (cI, 5, .inl f_lease_cells)), (a_lease_needs, .inr (4, [.ref n_lease_needs])), (n_lease_needs, .inl (cI, 5, .inl f_lease_needs)), (a_lease_values, .inr (4, [.ref n_lease_values])), (n_lease_values, .inl (cI, 5, .inl f_lease_values))] rfl rfl (by decide) (fun H locs hP hS => ?_)
      refine lv_istore_n (lv' := [(3, .int o_25_1), (0, .ref a), (1, .int x1), (2, .int x2)]) hx hb dX7_due_28 rfl hl (by decide) rfl (fun ls hl => ?_)
      refine lv_iload_n hx hb dX7_due_29 rfl (lv_at hl 0 rfl) ?_
      refine lv_bipush (v := (-9)) hx hb dX7_due_30 rfl ?_
      refine lv_icmp_ne (tgt := 38) hx hb dX7_due_32 (by decide) (fun c_32 => ?_) (fun c_32 => ?_)
      · refine lv_aload_n hx hb dX7_due_38 rfl (lv_at hl 1 rfl) ?_
        refine va_get (D := D) (ci := 7) (v := .ref a_lease) (C := RX7) (T := TX7) (N := 14) hx hb hts (fun _ h => List.mem_cons_of_mem _ (List.mem_append_left _ (List.mem_append_left _ (List.mem_append_left _ (List.mem_append_right _ (h)))))) hown hK hP 0 rfl rfl 1 (by decide) (hts _ (List.mem_of_getElem? (i := 2) rfl)) (fun _ h9 => h9) rfl dX7_due_39 ?_
        refine lv_iload_n hx hb dX7_due_42 rfl (lv_at hl 0 rfl) ?_
        obtain ⟨o_43, ho_43⟩ : ∃ z : Int32, z = v_X1_grantedBy o_25_1 i_lease_wishCount f_lease_cells f_lease_needs := ⟨_, rfl⟩
        refine callVIs (As := [.int o_25_1]) (rest := []) o_43 ho_43 hF (k_X1_grantedBy l D cI cZ a_lease a_lease_places a_lease_firstHours a_lease_spans a_lease_values a_lease_cells a_lease_needs a_lease_owed a_lease_room n_lease_cells n_lease_needs o_25_1 i_lease_squares i_lease_wishCount i_lease_owedPlaces f_lease_cells f_lease_needs) (cwV 1 hts gX7_due_X1_grantedBy rfl rfl rfl (by decide +kernel) ⟨Nat.le_of_ble_eq_true rfl, Nat.le_of_ble_eq_true rfl⟩) hK hN hP (va_Dsame hD rfl) hS hA [1, 13, 14, 15, 16] rfl rfl 1 1 (T := TX1) (N := 11) rfl rfl rfl hl.1 rfl (Nat.le_of_ble_eq_true rfl) dX7_due_43 ⟨Nat.zero_le _, Nat.zero_le _⟩ o_43 rfl rfl (fun H locs hP hS => ?_)
        refine lv_istore (lv' := [(4, .int o_43), (3, .int o_25_1), (0, .ref a), (1, .int x1), (2, .int x2)]) hx hb dX7_due_46 hl (by decide) rfl (fun ls hl => ?_)
        refine lv_iload hx hb dX7_due_48 (lv_at hl 0 rfl) ?_
        refine lv_iload_n hx hb dX7_due_50 rfl (lv_at hl 3 rfl) ?_
        obtain ⟨o_51, ho_51⟩ : ∃ z : Bool, z = v_X7_has o_43 x1 := ⟨_, rfl⟩
        refine callSIs (As := [.int o_43, .int x1]) (rest := []) o_51 ho_51 hF (k_X7_has l D cI cZ o_43 x1) (va_cwS 2 hts gX7_due_X7_has rfl rfl rfl (by decide +kernel) ⟨Nat.le_of_ble_eq_true rfl, Nat.le_of_ble_eq_true rfl⟩) hK hN hP (va_Dsame hD rfl) hS hA [] rfl rfl rfl hl.1 rfl (Nat.le_of_ble_eq_true rfl) dX7_due_51 ⟨Nat.zero_le _, Nat.zero_le _⟩ (bI o_51) rfl rfl (fun H locs hP hS => ?_)
        refine lv_if_ne (tgt := 59) hx hb dX7_due_54 (by decide) (fun c_54 => ?_) (fun c_54 => ?_)
        · refine lv_aload_n hx hb dX7_due_59 rfl (lv_at hl 2 rfl) ?_
          refine va_get (D := D) (ci := 7) (v := .ref a_lease) (C := RX7) (T := TX7) (N := 14) hx hb hts (fun _ h => List.mem_cons_of_mem _ (List.mem_append_left _ (List.mem_append_left _ (List.mem_append_left _ (List.mem_append_right _ (h)))))) hown hK hP 0 rfl rfl 1 (by decide) (hts _ (List.mem_of_getElem? (i := 2) rfl)) (fun _ h9 => h9) rfl dX7_due_60 ?_
          obtain ⟨o_63, ho_63⟩ : ∃ z : Int32, z = v_X1_allWishes i_lease_wishCount := ⟨_, rfl⟩
          refine callVIs (As := []) (rest := []) o_63 ho_63 hF (k_X1_allWishes l D cI cZ a_lease a_lease_places a_lease_firstHours a_lease_spans a_lease_values a_lease_cells a_lease_needs a_lease_owed a_lease_room i_lease_squares i_lease_wishCount i_lease_owedPlaces) (cwV 0 hts gX7_due_X1_allWishes rfl rfl rfl (by decide +kernel) ⟨Nat.le_of_ble_eq_true rfl, Nat.le_of_ble_eq_true rfl⟩) hK hN hP (va_Dsame hD rfl) hS hA [1] rfl rfl 1 1 (T := TX1) (N := 11) rfl rfl rfl hl.1 rfl (Nat.le_of_ble_eq_true rfl) dX7_due_63 ⟨Nat.zero_le _, Nat.zero_le _⟩ o_63 rfl rfl (fun H locs hP hS => ?_)
          refine lv_iconst (v := 1) hx hb dX7_due_66 rfl ?_
          refine lv_iload_n hx hb dX7_due_67 rfl (lv_at hl 3 rfl) ?_
          refine lv_ishl hx hb dX7_due_68 ?_
          refine lv_iconst (v := (-1)) hx hb dX7_due_69 rfl ?_
          refine lv_ixor hx hb dX7_due_70 ?_
          refine lv_iand hx hb dX7_due_71 ?_
          refine lv_topi (fun w_72 hw_72 => ?_)
          refine lv_istore (lv' := [(5, .int w_72), (4, .int o_43), (3, .int o_25_1), (0, .ref a), (1, .int x1), (2, .int x2)]) hx hb dX7_due_72 hl (by decide) rfl (fun ls hl => ?_)
          refine lv_aload_n hx hb dX7_due_74 rfl (lv_at hl 3 rfl) ?_
          refine va_get (D := D) (ci := 7) (v := .ref a_survey) (C := RX7) (T := TX7) (N := 14) hx hb hts (fun _ h => List.mem_cons_of_mem _ (List.mem_append_left _ (List.mem_append_left _ (List.mem_append_left _ (List.mem_append_right _ (h)))))) hown hK hP 0 rfl rfl 4 (by decide) (hts _ (List.mem_of_getElem? (i := 1) rfl)) (fun _ h9 => h9) rfl dX7_due_75 ?_
          refine lv_iload_n hx hb dX7_due_78 rfl (lv_at hl 5 rfl) ?_
          refine lv_iload hx hb dX7_due_79 (lv_at hl 0 rfl) ?_
          obtain ⟨o_81_1, o_81_2, o_81_3, o_81_4, o_81_5, o_81_6, ho_81⟩ := ex6 (v_X5_mostWorth x2 w_72 o_25_2 o_25_3 o_25_4 o_25_5 o_25_6 i_lease_wishCount f_lease_room f_lease_cells f_lease_needs f_lease_values)
          refine callVI (As := [.int x2, .int w_72]) (rest := []) (o_81_1, o_81_2, o_81_3, o_81_4, o_81_5, o_81_6) ho_81 hF (k_X5_mostWorth l D cI cZ a_survey a_lease a_survey_lawful a_survey_grants a_survey_bests a_survey_mosts n_survey_lawful n_survey_grants n_survey_bests n_survey_mosts a_lease_places a_lease_firstHours a_lease_spans a_lease_values a_lease_cells a_lease_needs a_lease_owed a_lease_room n_lease_room n_lease_cells n_lease_needs n_lease_values x2 w_72 o_25_2 o_25_3 o_25_4 o_25_5 o_25_6 i_lease_squares i_lease_wishCount i_lease_owedPlaces f_lease_room f_lease_cells f_lease_needs f_lease_values) (cwV 2 hts gX7_due_X5_mostWorth rfl rfl rfl (by decide +kernel) ⟨Nat.le_of_ble_eq_true rfl, Nat.le_of_ble_eq_true rfl⟩) hK hN hP (va_Dsame hD rfl) hS hA [2, 3, 4, 5, 6, 7, 8, 9, 10, 1, 11, 12, 13, 14, 15, 16, 17, 18] rfl rfl 2 5 (T := TX5) (N := 6) rfl rfl rfl hl.1 rfl (Nat.le_of_ble_eq_true rfl) dX7_due_81 ⟨Nat.zero_le _, Nat.zero_le _⟩ o_81_1 rfl [none, some 9, some 0, some 1, some 2, some 3, some 4, some 5, some 6, some 7, some 8, some 10, some 11, some 12, some 13, some 14, some 15, some 16, some 17] 18 [(a, .inr (7, [.ref a_text, .ref a_lease, .ref a_reader, .ref a_prover, .ref a_survey, .ref a_paths, .ref a_acts, .ref a_slots, .int i_hangingNow, .int i_hourNow, .int i_toldDark, .int i_toldLight, .int i_toldCount, .long j_seedNow])), (a_lease, .inr (1, [.ref a_lease_places, .ref a_lease_firstHours, .ref a_lease_spans, .ref a_lease_values, .ref a_lease_cells, .ref a_lease_needs, .ref a_lease_owed, .ref a_lease_room, .int i_lease_squares, .int i_lease_wishCount, .int i_lease_owedPlaces])), (a_survey, .inr (5, [.ref a_lease, .ref a_survey_lawful, .ref a_survey_grants, .ref a_survey_bests, .ref a_survey_mosts, .int o_81_2])), (a_survey_lawful, .inr (4, [.ref n_survey_lawful])), (n_survey_lawful, .inl (cI, 6, .inl o_81_3)), (a_survey_grants, .inr (4, [.ref n_survey_grants])), (n_survey_grants, .inl (cI, 6, .inl o_81_4)), (a_survey_bests, .inr (4, [.ref n_survey_bests])), (n_survey_bests, .inl (cI, 6, .inl o_81_5)), (a_survey_mosts, .inr (4, [.ref n_survey_mosts])), (n_survey_mosts, .inl (cI, 6, .inl o_81_6)), (a_lease_room, .inr (4, [.ref n_lease_room])), (n_lease_room, .inl (cI, 2, .inl f_lease_room)), (a_lease_cells, .inr (4, [.ref n_lease_cells])), (n_lease_cells, .inl (cI, 5, .inl f_lease_cells)), (a_lease_needs, .inr (4, [.ref n_lease_needs])), (n_lease_needs, .inl (cI, 5, .inl f_lease_needs)), (a_lease_values, .inr (4, [.ref n_lease_values])), (n_lease_values, .inl (cI, 5, .inl f_lease_values))] rfl rfl (by decide) (fun H locs hP hS => ?_)
          refine lv_aload_n hx hb dX7_due_84 rfl (lv_at hl 3 rfl) ?_
          refine va_get (D := D) (ci := 7) (v := .ref a_lease) (C := RX7) (T := TX7) (N := 14) hx hb hts (fun _ h => List.mem_cons_of_mem _ (List.mem_append_left _ (List.mem_append_left _ (List.mem_append_left _ (List.mem_append_right _ (h)))))) hown hK hP 0 rfl rfl 1 (by decide) (hts _ (List.mem_of_getElem? (i := 2) rfl)) (fun _ h9 => h9) rfl dX7_due_85 ?_
          refine lv_iload hx hb dX7_due_88 (lv_at hl 1 rfl) ?_
          refine lv_iload hx hb dX7_due_90 (lv_at hl 0 rfl) ?_
          refine lv_iand hx hb dX7_due_92 ?_
          obtain ⟨o_93, ho_93⟩ : ∃ z : Int32, z = v_X1_sumOf (o_43 &&& w_72) i_lease_wishCount f_lease_values := ⟨_, rfl⟩
          refine callVIs (As := [.int (o_43 &&& w_72)]) (rest := [.int o_81_1]) o_93 ho_93 hF (k_X1_sumOf l D cI cZ a_lease a_lease_places a_lease_firstHours a_lease_spans a_lease_values a_lease_cells a_lease_needs a_lease_owed a_lease_room n_lease_values (o_43 &&& w_72) i_lease_squares i_lease_wishCount i_lease_owedPlaces f_lease_values) (cwV 1 hts gX7_due_X1_sumOf rfl rfl rfl (by decide +kernel) ⟨Nat.le_of_ble_eq_true rfl, Nat.le_of_ble_eq_true rfl⟩) hK hN hP (va_Dsame hD rfl) hS hA [1, 17, 18] rfl rfl 1 1 (T := TX1) (N := 11) rfl rfl rfl hl.1 rfl (Nat.le_of_ble_eq_true rfl) dX7_due_93 ⟨Nat.zero_le _, Nat.zero_le _⟩ o_93 rfl rfl (fun H locs hP hS => ?_)
          refine lv_isub hx hb dX7_due_96 ?_
          have e9 : v_X7_due x1 x2 i_lease_wishCount i_survey_isMade f_survey_lawful f_survey_grants f_survey_bests f_survey_mosts f_lease_room f_lease_cells f_lease_needs f_lease_values = ((o_81_1 - o_93), o_81_6, o_81_2, o_81_3, o_81_4, o_81_5) := by
            refine (bnd_eq ho_2).trans ?_
            refine (if_neg c_5).trans ?_
            refine (bnd_eq ho_11).trans ?_
            refine (if_neg c_14).trans ?_
            refine (bnd6_eq ho_25).trans ?_
            refine (if_neg c_32).trans ?_
            refine (bnd_eq ho_43).trans ?_
            refine (bnd_eq ho_51).trans ?_
            refine (if_neg c_54).trans ?_
            refine (bnd_eq ho_63).trans ?_
            refine (bnd_eq hw_72).trans ?_
            refine (bnd6_eq ho_81).trans ?_
            refine (bnd_eq ho_93).trans ?_
            rfl
          rw [hQ]; exact retI ((o_81_1 - o_93), o_81_6, o_81_2, o_81_3, o_81_4, o_81_5) hx hb hr hlk e9 hP rfl hS dX7_due_97
        · refine lv_iconst (v := 0) hx hb dX7_due_57 rfl ?_
          have e9 : v_X7_due x1 x2 i_lease_wishCount i_survey_isMade f_survey_lawful f_survey_grants f_survey_bests f_survey_mosts f_lease_room f_lease_cells f_lease_needs f_lease_values = (0, o_25_6, o_25_2, o_25_3, o_25_4, o_25_5) := by
            refine (bnd_eq ho_2).trans ?_
            refine (if_neg c_5).trans ?_
            refine (bnd_eq ho_11).trans ?_
            refine (if_neg c_14).trans ?_
            refine (bnd6_eq ho_25).trans ?_
            refine (if_neg c_32).trans ?_
            refine (bnd_eq ho_43).trans ?_
            refine (bnd_eq ho_51).trans ?_
            refine (if_pos c_54).trans ?_
            rfl
          rw [hQ]; exact retI (0, o_25_6, o_25_2, o_25_3, o_25_4, o_25_5) hx hb hr hlk e9 hP rfl hS dX7_due_58
      · refine lv_bipush (v := (-9)) hx hb dX7_due_35 rfl ?_
        have e9 : v_X7_due x1 x2 i_lease_wishCount i_survey_isMade f_survey_lawful f_survey_grants f_survey_bests f_survey_mosts f_lease_room f_lease_cells f_lease_needs f_lease_values = ((-9), o_25_6, o_25_2, o_25_3, o_25_4, o_25_5) := by
          refine (bnd_eq ho_2).trans ?_
          refine (if_neg c_5).trans ?_
          refine (bnd_eq ho_11).trans ?_
          refine (if_neg c_14).trans ?_
          refine (bnd6_eq ho_25).trans ?_
          refine (if_pos c_32).trans ?_
          rfl
        rw [hQ]; exact retI ((-9), o_25_6, o_25_2, o_25_3, o_25_4, o_25_5) hx hb hr hlk e9 hP rfl hS dX7_due_37
    · refine lv_bipush (v := (-2)) hx hb dX7_due_17 rfl ?_
      have e9 : v_X7_due x1 x2 i_lease_wishCount i_survey_isMade f_survey_lawful f_survey_grants f_survey_bests f_survey_mosts f_lease_room f_lease_cells f_lease_needs f_lease_values = ((-2), f_survey_mosts, i_survey_isMade, f_survey_lawful, f_survey_grants, f_survey_bests) := by
        refine (bnd_eq ho_2).trans ?_
        refine (if_neg c_5).trans ?_
        refine (bnd_eq ho_11).trans ?_
        refine (if_pos c_14).trans ?_
        rfl
      rw [hQ]; exact retI ((-2), f_survey_mosts, i_survey_isMade, f_survey_lawful, f_survey_grants, f_survey_bests) hx hb hr hlk e9 hP rfl hS dX7_due_19
  · refine lv_iconst (v := (-1)) hx hb dX7_due_8 rfl ?_
    have e9 : v_X7_due x1 x2 i_lease_wishCount i_survey_isMade f_survey_lawful f_survey_grants f_survey_bests f_survey_mosts f_lease_room f_lease_cells f_lease_needs f_lease_values = ((-1), f_survey_mosts, i_survey_isMade, f_survey_lawful, f_survey_grants, f_survey_bests) := by
      refine (bnd_eq ho_2).trans ?_
      refine (if_pos c_5).trans ?_
      rfl
    rw [hQ]; exact retI ((-1), f_survey_mosts, i_survey_isMade, f_survey_lawful, f_survey_grants, f_survey_bests) hx hb hr hlk e9 hP rfl hS dX7_due_9
def v_X7_factorial_L4 (i4 : Nat) (z4 : Int32) : Int32 :=
  (z4 * nI i4)
def v_X7_factorial (x0 : Int32) : Int32 :=
  bnd (it (v_X7_factorial_L4) ((x0.toNatClampNeg + 1) - 2) 2 1) fun o_L4 =>
  o_L4
abbrev rm_X7_factorial : Room := { frames := 0, cells := 0, slots := 0, locals := 0 }
set_option maxHeartbeats 4000000 in
set_option maxRecDepth 100000 in
theorem k_X7_factorial (l : Launch) (D : va_G) (cI cZ : ClassId) (x0 : Int32) (hn0 : x0.toNatClampNeg + 1 < 2 ^ 31) : KI l D cI cZ yX7_factorial wsX7_factorial rm_X7_factorial [.int x0] [] (v_X7_factorial x0) (fun o : Int32 => o) (fun _ : Int32 => []) := by
  refine KI.of cX7_factorial 3 (some .int) (by decide) rfl (Nat.le_of_ble_eq_true rfl) ?_
  intro p e s m below meth c A ls ar Q hQ B
  obtain ⟨hx, hb, hr, hml, hts, hown, hlk, hK, hN, hP, hD, hA, hS, hl⟩ := B
  have hown : s.vm.findClass RX7 = some m.cls := hown
  have hF : CallFix p m c cX7_factorial 3 s ar wsX7_factorial RX7 := ⟨hx, hb, hml, hown, hts⟩
  have hl : lv_has ls 3 [(0, .int x0)] := hl
  refine lv_iconst (v := 1) hx hb dX7_factorial_0 rfl ?_
  refine lv_istore_n (lv' := [(1, .int 1), (0, .int x0)]) hx hb dX7_factorial_1 rfl hl (by decide) rfl (fun ls hl => ?_)
  refine lv_iconst (v := 2) hx hb dX7_factorial_2 rfl ?_
  refine lv_istore_n (lv' := [(2, .int 2), (1, .int 1), (0, .int x0)]) hx hb dX7_factorial_3 rfl hl (by decide) rfl (fun ls hl => ?_)
  have hNlt : x0.toNatClampNeg + 1 < 2 ^ 31 := hn0
  obtain ⟨o_L4, ho_L4⟩ : ∃ z : Int32, z = it (v_X7_factorial_L4) ((x0.toNatClampNeg + 1) - 2) 2 1 := ⟨_, rfl⟩
  have kE4 : ∀ (H : Heap) (locs : List Loc) (ls : Array Slot), va_P D vwCl [] H → va_S A s.heap H locs → lv_has ls 3 [(1, .int o_L4)] → W p l e rm_X7_factorial s m ar below meth c H locs 0 0 Q (F0 m 19 ls []) := by
    intro H locs ls hP hS hl
    refine lv_iload_n hx hb dX7_factorial_19 rfl (lv_at hl 0 rfl) ?_
    have e9 : v_X7_factorial x0 = o_L4 := by
      refine (bnd_eq ho_L4).trans ?_
      rfl
    rw [hQ]; exact retI o_L4 hx hb hr hlk e9 hP rfl hS dX7_factorial_20
  have loop4 : ∀ (k i4 : Nat) (z4 : Int32), 2 ≤ i4 → i4 + k = 2 + ((x0.toNatClampNeg + 1) - 2) → it (v_X7_factorial_L4) k i4 z4 = o_L4 → ∀ (H : Heap) (locs : List Loc) (ls : Array Slot), va_P D vwCl [] H → va_S A s.heap H locs → lv_has ls 3 [(2, .int (nI i4)), (1, .int z4), (0, .int x0)] → W p l e rm_X7_factorial s m ar below meth c H locs 0 0 Q (F0 m 4 ls []) := by
    intro k
    induction k with
    | zero =>
      intro i4 z4 hi0 hik hz H locs ls hP hS hl
      have hz : z4 = o_L4 := it_0 hz
      subst z4
      refine lv_iload_n hx hb dX7_factorial_4 rfl (lv_at hl 0 rfl) ?_
      refine lv_iload_n hx hb dX7_factorial_5 rfl (lv_at hl 2 rfl) ?_
      refine lv_icmp_gt (tgt := 19) hx hb dX7_factorial_6 (by decide) (fun _ => ?_) (fun c => absurd (cb_gt (by omega) (by omega)) c)
      exact kE4 _ _ _ hP hS (lv_sub hl [1] rfl)
    | succ k ih =>
      intro i4 z4 hi0 hik hz H locs ls hP hS hl
      refine lv_iload_n hx hb dX7_factorial_4 rfl (lv_at hl 0 rfl) ?_
      refine lv_iload_n hx hb dX7_factorial_5 rfl (lv_at hl 2 rfl) ?_
      refine lv_icmp_gt (tgt := 19) hx hb dX7_factorial_6 (by decide) (fun c => absurd c (cb_le (by omega) (by omega))) (fun _ => ?_)
      refine lv_iload_n hx hb dX7_factorial_9 rfl (lv_at hl 1 rfl) ?_
      refine lv_iload_n hx hb dX7_factorial_10 rfl (lv_at hl 0 rfl) ?_
      refine lv_imul hx hb dX7_factorial_11 ?_
      refine lv_istore_n (lv' := [(1, .int (z4 * nI i4)), (2, .int (nI i4)), (0, .int x0)]) hx hb dX7_factorial_12 rfl hl (by decide) rfl (fun ls hl => ?_)
      refine lv_iinc (v := (nI (i4 + 1))) (lv' := [(2, .int (nI (i4 + 1))), (1, .int (z4 * nI i4)), (0, .int x0)]) hx hb dX7_factorial_13 hl (k := 1) rfl (nI_1 _) (by decide) rfl (fun ls hl => ?_)
      refine lv_goto (tgt := 4) hx hb dX7_factorial_16 (by decide) ?_
      have e8 : v_X7_factorial_L4 i4 z4 = (z4 * nI i4) := by
        rfl
      exact ih (i4 + 1) (z4 * nI i4) (by omega) (by omega) (it_go e8 hz) _ _ _ hP hS (lv_sub hl [0, 1, 2] rfl)
  exact loop4 ((x0.toNatClampNeg + 1) - 2) 2 1 (Nat.le_refl _) rfl ho_L4.symm _ _ _ hP hS (lv_sub hl [0, 1, 2] rfl)
def v_X7_commonDivisor_L7c (i7 : Nat) (z7_1 : Int32) (z7_2 : Int32) : Sum (Int32 × Int32) (Int32 × Int32) :=
  if z7_1 = 0 then .inr (z7_1, z7_2)
  else .inl ((z7_2 - z7_2 / z7_1 * z7_1), z7_1)
def v_X7_commonDivisor_L7 (i7 : Nat) (z7 : Int32 × Int32) : Sum (Int32 × Int32) (Int32 × Int32) := v_X7_commonDivisor_L7c i7 z7.1 z7.2
def v_X7_commonDivisor (x0 : Int32) (x1 : Int32) : Int32 :=
  bnd (itx (v_X7_commonDivisor_L7) 64 0 (x1, x0)) fun o_L7 =>
  (bnd2 (unS o_L7) fun s7_1 s7_2 =>
  s7_2)
abbrev rm_X7_commonDivisor : Room := { frames := 0, cells := 0, slots := 0, locals := 0 }
set_option maxHeartbeats 4000000 in
set_option maxRecDepth 100000 in
theorem k_X7_commonDivisor (l : Launch) (D : va_G) (cI cZ : ClassId) (x0 : Int32) (x1 : Int32) : KI l D cI cZ yX7_commonDivisor wsX7_commonDivisor rm_X7_commonDivisor [.int x0, .int x1] [] (v_X7_commonDivisor x0 x1) (fun o : Int32 => o) (fun _ : Int32 => []) := by
  refine KI.of cX7_commonDivisor 6 (some .int) (by decide) rfl (Nat.le_of_ble_eq_true rfl) ?_
  intro p e s m below meth c A ls ar Q hQ B
  obtain ⟨hx, hb, hr, hml, hts, hown, hlk, hK, hN, hP, hD, hA, hS, hl⟩ := B
  have hown : s.vm.findClass RX7 = some m.cls := hown
  have hF : CallFix p m c cX7_commonDivisor 6 s ar wsX7_commonDivisor RX7 := ⟨hx, hb, hml, hown, hts⟩
  have hl : lv_has ls 6 [(0, .int x0), (1, .int x1)] := hl
  refine lv_iload_n hx hb dX7_commonDivisor_0 rfl (lv_at hl 0 rfl) ?_
  refine lv_istore_n (lv' := [(2, .int x0), (0, .int x0), (1, .int x1)]) hx hb dX7_commonDivisor_1 rfl hl (by decide) rfl (fun ls hl => ?_)
  refine lv_iload_n hx hb dX7_commonDivisor_2 rfl (lv_at hl 2 rfl) ?_
  refine lv_istore_n (lv' := [(3, .int x1), (2, .int x0), (0, .int x0), (1, .int x1)]) hx hb dX7_commonDivisor_3 rfl hl (by decide) rfl (fun ls hl => ?_)
  refine lv_iconst (v := 0) hx hb dX7_commonDivisor_4 rfl ?_
  refine lv_istore (lv' := [(4, .int 0), (3, .int x1), (2, .int x0), (0, .int x0), (1, .int x1)]) hx hb dX7_commonDivisor_5 hl (by decide) rfl (fun ls hl => ?_)
  obtain ⟨o_L7, ho_L7⟩ : ∃ z : Sum (Int32 × Int32) (Int32 × Int32), z = itx (v_X7_commonDivisor_L7) 64 0 (x1, x0) := ⟨_, rfl⟩
  have kE7 : ∀ s7 : Int32 × Int32, unS o_L7 = s7 → ∀ (H : Heap) (locs : List Loc) (ls : Array Slot), va_P D vwCl [] H → va_S A s.heap H locs → lv_has ls 6 [(2, .int s7.2)] → W p l e rm_X7_commonDivisor s m ar below meth c H locs 0 0 Q (F0 m 34 ls []) := by
    intro s7 hs7 H locs ls hP hS hl
    obtain ⟨s7_1, s7_2⟩ := s7
    have hP : va_P D vwCl [] H := hP
    have hl : lv_has ls 6 [(2, .int s7_2)] := hl
    refine lv_iload_n hx hb dX7_commonDivisor_34 rfl (lv_at hl 0 rfl) ?_
    have e9 : v_X7_commonDivisor x0 x1 = s7_2 := by
      refine (bnd_eq ho_L7).trans ?_
      refine (bnd2_eq hs7.symm).trans ?_
      rfl
    rw [hQ]; exact retI s7_2 hx hb hr hlk e9 hP rfl hS dX7_commonDivisor_35
  have loop7 : ∀ (k i7 : Nat) (z7 : Int32 × Int32), 0 ≤ i7 → i7 + k = 0 + 64 → itx (v_X7_commonDivisor_L7) k i7 z7 = o_L7 → ∀ (H : Heap) (locs : List Loc) (ls : Array Slot), va_P D vwCl [] H → va_S A s.heap H locs → lv_has ls 6 [(4, .int (nI i7)), (3, .int z7.1), (2, .int z7.2)] → W p l e rm_X7_commonDivisor s m ar below meth c H locs 0 0 Q (F0 m 7 ls []) := by
    intro k
    induction k with
    | zero =>
      intro i7 z7 hi0 hik hz H locs ls hP hS hl
      have hz : .inl z7 = o_L7 := itx_0 hz
      obtain ⟨z7_1, z7_2⟩ := z7
      have hP : va_P D vwCl [] H := hP
      have hl : lv_has ls 6 [(4, .int (nI i7)), (3, .int z7_1), (2, .int z7_2)] := hl
      refine lv_iload hx hb dX7_commonDivisor_7 (lv_at hl 0 rfl) ?_
      refine lv_bipush (v := 64) hx hb dX7_commonDivisor_9 rfl ?_
      refine lv_icmp_ge (tgt := 34) hx hb dX7_commonDivisor_11 (by decide) (fun _ => ?_) (fun c => absurd (nI_le (a := 64) (by omega) (by omega)) c)
      exact kE7 (z7_1, z7_2) (by rw [← hz]; rfl) _ _ _ hP hS (lv_sub hl [2] rfl)
    | succ k ih =>
      intro i7 z7 hi0 hik hz H locs ls hP hS hl
      obtain ⟨z7_1, z7_2⟩ := z7
      have hP : va_P D vwCl [] H := hP
      have hl : lv_has ls 6 [(4, .int (nI i7)), (3, .int z7_1), (2, .int z7_2)] := hl
      refine lv_iload hx hb dX7_commonDivisor_7 (lv_at hl 0 rfl) ?_
      refine lv_bipush (v := 64) hx hb dX7_commonDivisor_9 rfl ?_
      refine lv_icmp_ge (tgt := 34) hx hb dX7_commonDivisor_11 (by decide) (fun c => absurd c (nI_ge (b := 64) (by omega) (by decide))) (fun _ => ?_)
      refine lv_iload_n hx hb dX7_commonDivisor_14 rfl (lv_at hl 1 rfl) ?_
      refine lv_if_eq (tgt := 34) hx hb dX7_commonDivisor_15 (by decide) (fun c_15 => ?_) (fun c_15 => ?_)
      · have e8 : v_X7_commonDivisor_L7 i7 (z7_1, z7_2) = .inr (z7_1, z7_2) := by
          show v_X7_commonDivisor_L7c i7 z7_1 z7_2 = .inr (z7_1, z7_2)
          refine (if_pos c_15).trans ?_
          rfl
        exact kE7 (z7_1, z7_2) (by rw [← hz, itx_out e8]; rfl) _ _ _ hP hS (lv_sub hl [2] rfl)
      · refine lv_iload_n hx hb dX7_commonDivisor_18 rfl (lv_at hl 2 rfl) ?_
        refine lv_iload_n hx hb dX7_commonDivisor_19 rfl (lv_at hl 1 rfl) ?_
        refine lv_irem hx hb dX7_commonDivisor_20 (c_15) ?_
        refine lv_istore (lv' := [(5, .int (z7_2 - z7_2 / z7_1 * z7_1)), (4, .int (nI i7)), (3, .int z7_1), (2, .int z7_2)]) hx hb dX7_commonDivisor_21 hl (by decide) rfl (fun ls hl => ?_)
        refine lv_iload_n hx hb dX7_commonDivisor_23 rfl (lv_at hl 2 rfl) ?_
        refine lv_istore_n (lv' := [(2, .int z7_1), (5, .int (z7_2 - z7_2 / z7_1 * z7_1)), (4, .int (nI i7)), (3, .int z7_1)]) hx hb dX7_commonDivisor_24 rfl hl (by decide) rfl (fun ls hl => ?_)
        refine lv_iload hx hb dX7_commonDivisor_25 (lv_at hl 1 rfl) ?_
        refine lv_istore_n (lv' := [(3, .int (z7_2 - z7_2 / z7_1 * z7_1)), (2, .int z7_1), (5, .int (z7_2 - z7_2 / z7_1 * z7_1)), (4, .int (nI i7))]) hx hb dX7_commonDivisor_27 rfl hl (by decide) rfl (fun ls hl => ?_)
        refine lv_iinc (v := (nI (i7 + 1))) (lv' := [(4, .int (nI (i7 + 1))), (3, .int (z7_2 - z7_2 / z7_1 * z7_1)), (2, .int z7_1), (5, .int (z7_2 - z7_2 / z7_1 * z7_1))]) hx hb dX7_commonDivisor_28 hl (k := 3) rfl (nI_1 _) (by decide) rfl (fun ls hl => ?_)
        refine lv_goto (tgt := 7) hx hb dX7_commonDivisor_31 (by decide) ?_
        have e8 : v_X7_commonDivisor_L7 i7 (z7_1, z7_2) = .inl ((z7_2 - z7_2 / z7_1 * z7_1), z7_1) := by
          show v_X7_commonDivisor_L7c i7 z7_1 z7_2 = .inl ((z7_2 - z7_2 / z7_1 * z7_1), z7_1)
          refine (if_neg c_15).trans ?_
          rfl
        exact ih (i7 + 1) ((z7_2 - z7_2 / z7_1 * z7_1), z7_1) (by omega) (by omega) ((itx_go e8).symm.trans hz) _ _ _ hP hS (lv_sub hl [0, 1, 2] rfl)
  exact loop7 64 0 (x1, x0) (Nat.le_refl _) rfl ho_L7.symm _ _ _ hP hS (lv_sub hl [0, 1, 2] rfl)
def v_X7_inLeastTerms (x0 : Int32) (x1 : Int32) (b2 : Bool) : Int32 :=
  bnd (v_X7_commonDivisor x0 x1) fun o_2 =>
  (if bI b2 = 0 then (if o_2 = 0 then x1
    else (x1 / o_2))
  else (if o_2 = 0 then x0
  else (x0 / o_2)))
abbrev rm_X7_inLeastTerms : Room := { frames := 1, cells := 0, slots := 0, locals := 25 }
set_option maxHeartbeats 4000000 in
set_option maxRecDepth 100000 in
theorem k_X7_inLeastTerms (l : Launch) (D : va_G) (cI cZ : ClassId) (x0 : Int32) (x1 : Int32) (b2 : Bool) : KI l D cI cZ yX7_inLeastTerms wsX7_inLeastTerms rm_X7_inLeastTerms [.int x0, .int x1, .int (bI b2)] [] (v_X7_inLeastTerms x0 x1 b2) (fun o : Int32 => o) (fun _ : Int32 => []) := by
  refine KI.of cX7_inLeastTerms 5 (some .int) (by decide) rfl (Nat.le_of_ble_eq_true rfl) ?_
  intro p e s m below meth c A ls ar Q hQ B
  obtain ⟨hx, hb, hr, hml, hts, hown, hlk, hK, hN, hP, hD, hA, hS, hl⟩ := B
  have hown : s.vm.findClass RX7 = some m.cls := hown
  have hF : CallFix p m c cX7_inLeastTerms 5 s ar wsX7_inLeastTerms RX7 := ⟨hx, hb, hml, hown, hts⟩
  have hl : lv_has ls 5 [(0, .int x0), (1, .int x1), (2, .int (bI b2))] := hl
  refine lv_iload_n hx hb dX7_inLeastTerms_0 rfl (lv_at hl 0 rfl) ?_
  refine lv_iload_n hx hb dX7_inLeastTerms_1 rfl (lv_at hl 1 rfl) ?_
  obtain ⟨o_2, ho_2⟩ : ∃ z : Int32, z = v_X7_commonDivisor x0 x1 := ⟨_, rfl⟩
  refine callSIs (As := [.int x0, .int x1]) (rest := []) o_2 ho_2 hF (k_X7_commonDivisor l D cI cZ x0 x1) (va_cwS 2 hts gX7_inLeastTerms_X7_commonDivisor rfl rfl rfl (by decide +kernel) ⟨Nat.le_of_ble_eq_true rfl, Nat.le_of_ble_eq_true rfl⟩) hK hN hP (va_Dsame hD rfl) hS hA [] rfl rfl rfl hl.1 rfl (Nat.le_of_ble_eq_true rfl) dX7_inLeastTerms_2 ⟨Nat.zero_le _, Nat.zero_le _⟩ o_2 rfl rfl (fun H locs hP hS => ?_)
  refine lv_istore_n (lv' := [(3, .int o_2), (0, .int x0), (1, .int x1), (2, .int (bI b2))]) hx hb dX7_inLeastTerms_5 rfl hl (by decide) rfl (fun ls hl => ?_)
  refine lv_iload_n hx hb dX7_inLeastTerms_6 rfl (lv_at hl 3 rfl) ?_
  refine lv_if_eq (tgt := 14) hx hb dX7_inLeastTerms_7 (by decide) (fun c_7 => ?_) (fun c_7 => ?_)
  · refine lv_iload_n hx hb dX7_inLeastTerms_14 rfl (lv_at hl 2 rfl) ?_
    refine lv_istore (lv' := [(4, .int x1), (3, .int o_2), (0, .int x0), (1, .int x1), (2, .int (bI b2))]) hx hb dX7_inLeastTerms_15 hl (by decide) rfl (fun ls hl => ?_)
    refine lv_iload_n hx hb dX7_inLeastTerms_17 rfl (lv_at hl 1 rfl) ?_
    refine lv_if_ne (tgt := 26) hx hb dX7_inLeastTerms_18 (by decide) (fun c_18 => ?_) (fun c_18 => ?_)
    · refine lv_iload hx hb dX7_inLeastTerms_26 (lv_at hl 0 rfl) ?_
      refine lv_iload_n hx hb dX7_inLeastTerms_28 rfl (lv_at hl 1 rfl) ?_
      refine lv_idiv hx hb dX7_inLeastTerms_29 (c_18) ?_
      have e9 : v_X7_inLeastTerms x0 x1 b2 = (x1 / o_2) := by
        refine (bnd_eq ho_2).trans ?_
        refine (if_pos c_7).trans ?_
        refine (if_neg c_18).trans ?_
        rfl
      rw [hQ]; exact retI (x1 / o_2) hx hb hr hlk e9 hP rfl hS dX7_inLeastTerms_30
    · refine lv_iload hx hb dX7_inLeastTerms_21 (lv_at hl 0 rfl) ?_
      refine lv_goto (tgt := 30) hx hb dX7_inLeastTerms_23 (by decide) ?_
      have e9 : v_X7_inLeastTerms x0 x1 b2 = x1 := by
        refine (bnd_eq ho_2).trans ?_
        refine (if_pos c_7).trans ?_
        refine (if_pos c_18).trans ?_
        rfl
      rw [hQ]; exact retI x1 hx hb hr hlk e9 hP rfl hS dX7_inLeastTerms_30
  · refine lv_iload_n hx hb dX7_inLeastTerms_10 rfl (lv_at hl 1 rfl) ?_
    refine lv_goto (tgt := 15) hx hb dX7_inLeastTerms_11 (by decide) ?_
    refine lv_istore (lv' := [(4, .int x0), (3, .int o_2), (0, .int x0), (1, .int x1), (2, .int (bI b2))]) hx hb dX7_inLeastTerms_15 hl (by decide) rfl (fun ls hl => ?_)
    refine lv_iload_n hx hb dX7_inLeastTerms_17 rfl (lv_at hl 1 rfl) ?_
    refine lv_if_ne (tgt := 26) hx hb dX7_inLeastTerms_18 (by decide) (fun c_18 => ?_) (fun c_18 => ?_)
    · refine lv_iload hx hb dX7_inLeastTerms_26 (lv_at hl 0 rfl) ?_
      refine lv_iload_n hx hb dX7_inLeastTerms_28 rfl (lv_at hl 1 rfl) ?_
      refine lv_idiv hx hb dX7_inLeastTerms_29 (c_18) ?_
      have e9 : v_X7_inLeastTerms x0 x1 b2 = (x0 / o_2) := by
        refine (bnd_eq ho_2).trans ?_
        refine (if_neg c_7).trans ?_
        refine (if_neg c_18).trans ?_
        rfl
      rw [hQ]; exact retI (x0 / o_2) hx hb hr hlk e9 hP rfl hS dX7_inLeastTerms_30
    · refine lv_iload hx hb dX7_inLeastTerms_21 (lv_at hl 0 rfl) ?_
      refine lv_goto (tgt := 30) hx hb dX7_inLeastTerms_23 (by decide) ?_
      have e9 : v_X7_inLeastTerms x0 x1 b2 = x0 := by
        refine (bnd_eq ho_2).trans ?_
        refine (if_neg c_7).trans ?_
        refine (if_pos c_18).trans ?_
        rfl
      rw [hQ]; exact retI x0 hx hb hr hlk e9 hP rfl hS dX7_inLeastTerms_30
def v_X7_share_L35c (x1 : Int32) (x2 : Int32) (i_lease_wishCount : Int32) (f_lease_room : Nat → Int32) (f_lease_cells : Nat → Int32) (f_lease_needs : Nat → Int32) (f_lease_values : Nat → Int32) (o_24 : Int32) (i35 : Nat) (z35_1 : Int32) (z35_2 : Int32) (z35_3 : Nat → Int32) (z35_4 : Nat → Int32) (z35_5 : Nat → Int32) (z35_6 : Nat → Int32) : Int32 × Int32 × (Nat → Int32) × (Nat → Int32) × (Nat → Int32) × (Nat → Int32) :=
  bnd (v_X7_has (nI i35) x1) fun o_47 =>
  (if bI o_47 = 0 then (bnd (v_J6_bitCount_0f7a4 (nI i35)) fun o_55 =>
    (bnd (v_X7_factorial o_55) fun o_62 =>
    (bnd (v_X7_factorial ((o_24 - 1) - o_55)) fun o_72 =>
    (bnd6 (v_X5_mostWorth x2 (nI i35 ||| ((1 : Int32) <<< (x1 &&& 31))) z35_2 z35_3 z35_4 z35_5 z35_6 i_lease_wishCount f_lease_room f_lease_cells f_lease_needs f_lease_values) fun o_93_1 o_93_2 o_93_3 o_93_4 o_93_5 o_93_6 =>
    (bnd6 (v_X5_mostWorth x2 (nI i35) o_93_2 o_93_3 o_93_4 o_93_5 o_93_6 i_lease_wishCount f_lease_room f_lease_cells f_lease_needs f_lease_values) fun o_103_1 o_103_2 o_103_3 o_103_4 o_103_5 o_103_6 =>
    (bnd ((z35_1 + ((o_62 * o_72) * (o_93_1 - o_103_1)))) fun w_109 =>
    (w_109, o_103_2, o_103_3, o_103_4, o_103_5, o_103_6)))))))
  else (z35_1, z35_2, z35_3, z35_4, z35_5, z35_6))
def v_X7_share_L35 (x1 : Int32) (x2 : Int32) (i_lease_wishCount : Int32) (f_lease_room : Nat → Int32) (f_lease_cells : Nat → Int32) (f_lease_needs : Nat → Int32) (f_lease_values : Nat → Int32) (o_24 : Int32) (i35 : Nat) (z35 : Int32 × Int32 × (Nat → Int32) × (Nat → Int32) × (Nat → Int32) × (Nat → Int32)) : Int32 × Int32 × (Nat → Int32) × (Nat → Int32) × (Nat → Int32) × (Nat → Int32) := v_X7_share_L35c x1 x2 i_lease_wishCount f_lease_room f_lease_cells f_lease_needs f_lease_values o_24 i35 z35.1 z35.2.1 z35.2.2.1 z35.2.2.2.1 z35.2.2.2.2.1 z35.2.2.2.2.2
def v_X7_share (x1 : Int32) (x2 : Int32) (b3 : Bool) (i_lease_wishCount : Int32) (i_survey_isMade : Int32) (f_survey_lawful : Nat → Int32) (f_survey_grants : Nat → Int32) (f_survey_bests : Nat → Int32) (f_survey_mosts : Nat → Int32) (f_lease_room : Nat → Int32) (f_lease_cells : Nat → Int32) (f_lease_needs : Nat → Int32) (f_lease_values : Nat → Int32) : Int32 × (Nat → Int32) × Int32 × (Nat → Int32) × (Nat → Int32) × (Nat → Int32) :=
  bnd (v_X7_isWish x1 i_lease_wishCount) fun o_2 =>
  (if bI o_2 = 0 then ((-1), f_survey_mosts, i_survey_isMade, f_survey_lawful, f_survey_grants, f_survey_bests)
  else (bnd (v_X7_isSquares x2) fun o_11 =>
  (if bI o_11 = 0 then ((-2), f_survey_mosts, i_survey_isMade, f_survey_lawful, f_survey_grants, f_survey_bests)
  else (bnd (v_X1_wishCount i_lease_wishCount) fun o_24 =>
  (bnd6 (it (v_X7_share_L35 x1 x2 i_lease_wishCount f_lease_room f_lease_cells f_lease_needs f_lease_values o_24) ((1 : Int32) <<< (o_24 &&& 31)).toNatClampNeg 0 (0, i_survey_isMade, f_survey_lawful, f_survey_grants, f_survey_bests, f_survey_mosts)) fun o_L35_1 o_L35_2 o_L35_3 o_L35_4 o_L35_5 o_L35_6 =>
  (bnd (v_X7_factorial o_24) fun o_121 =>
  (bnd (v_X7_inLeastTerms o_L35_1 o_121 b3) fun o_125 =>
  (o_125, o_L35_6, o_L35_2, o_L35_3, o_L35_4, o_L35_5))))))))
abbrev rm_X7_share : Room := { frames := 5, cells := 0, slots := 0, locals := 113 }
set_option maxHeartbeats 4000000 in
set_option maxRecDepth 100000 in
theorem k_X7_share (l : Launch) (D : va_G) (cI cZ : ClassId) (a a_text a_lease a_reader a_prover a_survey a_paths a_acts a_slots a_lease_places a_lease_firstHours a_lease_spans a_lease_values a_lease_cells a_lease_needs a_lease_owed a_lease_room a_survey_lawful a_survey_grants a_survey_bests a_survey_mosts n_survey_lawful n_survey_grants n_survey_bests n_survey_mosts n_lease_room n_lease_cells n_lease_needs n_lease_values : Nat) (x1 : Int32) (x2 : Int32) (b3 : Bool) (i_hangingNow : Int32) (i_hourNow : Int32) (i_toldDark : Int32) (i_toldLight : Int32) (i_toldCount : Int32) (j_seedNow : Int64) (i_lease_squares : Int32) (i_lease_wishCount : Int32) (i_lease_owedPlaces : Int32) (i_survey_isMade : Int32) (f_survey_lawful : Nat → Int32) (f_survey_grants : Nat → Int32) (f_survey_bests : Nat → Int32) (f_survey_mosts : Nat → Int32) (f_lease_room : Nat → Int32) (f_lease_cells : Nat → Int32) (f_lease_needs : Nat → Int32) (f_lease_values : Nat → Int32) (hw : ∃ w : Nat, w ≤ 5 ∧ i_lease_wishCount = nI w) : KI l D cI cZ yX7_share wsX7_share rm_X7_share [.ref a, .int x1, .int x2, .int (bI b3)] [(a, .inr (7, [.ref a_text, .ref a_lease, .ref a_reader, .ref a_prover, .ref a_survey, .ref a_paths, .ref a_acts, .ref a_slots, .int i_hangingNow, .int i_hourNow, .int i_toldDark, .int i_toldLight, .int i_toldCount, .long j_seedNow])), (a_lease, .inr (1, [.ref a_lease_places, .ref a_lease_firstHours, .ref a_lease_spans, .ref a_lease_values, .ref a_lease_cells, .ref a_lease_needs, .ref a_lease_owed, .ref a_lease_room, .int i_lease_squares, .int i_lease_wishCount, .int i_lease_owedPlaces])), (a_survey, .inr (5, [.ref a_lease, .ref a_survey_lawful, .ref a_survey_grants, .ref a_survey_bests, .ref a_survey_mosts, .int i_survey_isMade])), (a_survey_lawful, .inr (4, [.ref n_survey_lawful])), (n_survey_lawful, .inl (cI, 6, .inl f_survey_lawful)), (a_survey_grants, .inr (4, [.ref n_survey_grants])), (n_survey_grants, .inl (cI, 6, .inl f_survey_grants)), (a_survey_bests, .inr (4, [.ref n_survey_bests])), (n_survey_bests, .inl (cI, 6, .inl f_survey_bests)), (a_survey_mosts, .inr (4, [.ref n_survey_mosts])), (n_survey_mosts, .inl (cI, 6, .inl f_survey_mosts)), (a_lease_room, .inr (4, [.ref n_lease_room])), (n_lease_room, .inl (cI, 2, .inl f_lease_room)), (a_lease_cells, .inr (4, [.ref n_lease_cells])), (n_lease_cells, .inl (cI, 5, .inl f_lease_cells)), (a_lease_needs, .inr (4, [.ref n_lease_needs])), (n_lease_needs, .inl (cI, 5, .inl f_lease_needs)), (a_lease_values, .inr (4, [.ref n_lease_values])), (n_lease_values, .inl (cI, 5, .inl f_lease_values))] (v_X7_share x1 x2 b3 i_lease_wishCount i_survey_isMade f_survey_lawful f_survey_grants f_survey_bests f_survey_mosts f_lease_room f_lease_cells f_lease_needs f_lease_values) (fun o : Int32 × (Nat → Int32) × Int32 × (Nat → Int32) × (Nat → Int32) × (Nat → Int32) => o.1) (fun o : Int32 × (Nat → Int32) × Int32 × (Nat → Int32) × (Nat → Int32) × (Nat → Int32) => [(a, .inr (7, [.ref a_text, .ref a_lease, .ref a_reader, .ref a_prover, .ref a_survey, .ref a_paths, .ref a_acts, .ref a_slots, .int i_hangingNow, .int i_hourNow, .int i_toldDark, .int i_toldLight, .int i_toldCount, .long j_seedNow])), (a_lease, .inr (1, [.ref a_lease_places, .ref a_lease_firstHours, .ref a_lease_spans, .ref a_lease_values, .ref a_lease_cells, .ref a_lease_needs, .ref a_lease_owed, .ref a_lease_room, .int i_lease_squares, .int i_lease_wishCount, .int i_lease_owedPlaces])), (a_survey, .inr (5, [.ref a_lease, .ref a_survey_lawful, .ref a_survey_grants, .ref a_survey_bests, .ref a_survey_mosts, .int o.2.2.1])), (a_survey_lawful, .inr (4, [.ref n_survey_lawful])), (n_survey_lawful, .inl (cI, 6, .inl o.2.2.2.1)), (a_survey_grants, .inr (4, [.ref n_survey_grants])), (n_survey_grants, .inl (cI, 6, .inl o.2.2.2.2.1)), (a_survey_bests, .inr (4, [.ref n_survey_bests])), (n_survey_bests, .inl (cI, 6, .inl o.2.2.2.2.2)), (a_survey_mosts, .inr (4, [.ref n_survey_mosts])), (n_survey_mosts, .inl (cI, 6, .inl o.2.1)), (a_lease_room, .inr (4, [.ref n_lease_room])), (n_lease_room, .inl (cI, 2, .inl f_lease_room)), (a_lease_cells, .inr (4, [.ref n_lease_cells])), (n_lease_cells, .inl (cI, 5, .inl f_lease_cells)), (a_lease_needs, .inr (4, [.ref n_lease_needs])), (n_lease_needs, .inl (cI, 5, .inl f_lease_needs)), (a_lease_values, .inr (4, [.ref n_lease_values])), (n_lease_values, .inl (cI, 5, .inl f_lease_values))]) := by
  refine KI.of cX7_share 9 (some .int) (by decide) rfl (Nat.le_of_ble_eq_true rfl) ?_
  intro p e s m below meth c A ls ar Q hQ B
  obtain ⟨hx, hb, hr, hml, hts, hown, hlk, hK, hN, hP, hD, hA, hS, hl⟩ := B
  have hown : s.vm.findClass RX7 = some m.cls := hown
  have hF : CallFix p m c cX7_share 9 s ar wsX7_share RX7 := ⟨hx, hb, hml, hown, hts⟩
  have hl : lv_has ls 9 [(0, .ref a), (1, .int x1), (2, .int x2), (3, .int (bI b3))] := hl
  refine lv_aload_n hx hb dX7_share_0 rfl (lv_at hl 0 rfl) ?_
  refine lv_iload_n hx hb dX7_share_1 rfl (lv_at hl 1 rfl) ?_
  obtain ⟨o_2, ho_2⟩ : ∃ z : Bool, z = v_X7_isWish x1 i_lease_wishCount := ⟨_, rfl⟩
  refine callVIs (As := [.int x1]) (rest := []) o_2 ho_2 hF (k_X7_isWish l D cI cZ a a_text a_lease a_reader a_prover a_survey a_paths a_acts a_slots a_lease_places a_lease_firstHours a_lease_spans a_lease_values a_lease_cells a_lease_needs a_lease_owed a_lease_room x1 i_hangingNow i_hourNow i_toldDark i_toldLight i_toldCount j_seedNow i_lease_squares i_lease_wishCount i_lease_owedPlaces) (cwV 1 hts gX7_share_X7_isWish rfl rfl rfl (by decide +kernel) ⟨Nat.le_of_ble_eq_true rfl, Nat.le_of_ble_eq_true rfl⟩) hK hN hP (va_Dsame hD rfl) hS hA [0, 1] rfl rfl 0 7 (T := TX7) (N := 14) rfl rfl rfl hl.1 rfl (Nat.le_of_ble_eq_true rfl) dX7_share_2 ⟨Nat.zero_le _, Nat.zero_le _⟩ (bI o_2) rfl rfl (fun H locs hP hS => ?_)
  refine lv_if_ne (tgt := 10) hx hb dX7_share_5 (by decide) (fun c_5 => ?_) (fun c_5 => ?_)
  · refine lv_iload_n hx hb dX7_share_10 rfl (lv_at hl 2 rfl) ?_
    obtain ⟨o_11, ho_11⟩ : ∃ z : Bool, z = v_X7_isSquares x2 := ⟨_, rfl⟩
    refine callSIs (As := [.int x2]) (rest := []) o_11 ho_11 hF (k_X7_isSquares l D cI cZ x2) (va_cwS 1 hts gX7_share_X7_isSquares rfl rfl rfl (by decide +kernel) ⟨Nat.le_of_ble_eq_true rfl, Nat.le_of_ble_eq_true rfl⟩) hK hN hP (va_Dsame hD rfl) hS hA [] rfl rfl rfl hl.1 rfl (Nat.le_of_ble_eq_true rfl) dX7_share_11 ⟨Nat.zero_le _, Nat.zero_le _⟩ (bI o_11) rfl rfl (fun H locs hP hS => ?_)
    refine lv_if_ne (tgt := 20) hx hb dX7_share_14 (by decide) (fun c_14 => ?_) (fun c_14 => ?_)
    · refine lv_aload_n hx hb dX7_share_20 rfl (lv_at hl 0 rfl) ?_
      refine va_get (D := D) (ci := 7) (v := .ref a_lease) (C := RX7) (T := TX7) (N := 14) hx hb hts (fun _ h => List.mem_cons_of_mem _ (List.mem_append_left _ (List.mem_append_left _ (List.mem_append_left _ (List.mem_append_right _ (h)))))) hown hK hP 0 rfl rfl 1 (by decide) (hts _ (List.mem_of_getElem? (i := 1) rfl)) (fun _ h9 => h9) rfl dX7_share_21 ?_
      obtain ⟨o_24, ho_24⟩ : ∃ z : Int32, z = v_X1_wishCount i_lease_wishCount := ⟨_, rfl⟩
      refine callVIs (As := []) (rest := []) o_24 ho_24 hF (k_X1_wishCount l D cI cZ a_lease a_lease_places a_lease_firstHours a_lease_spans a_lease_values a_lease_cells a_lease_needs a_lease_owed a_lease_room i_lease_squares i_lease_wishCount i_lease_owedPlaces) (cwV 0 hts gX7_share_X1_wishCount rfl rfl rfl (by decide +kernel) ⟨Nat.le_of_ble_eq_true rfl, Nat.le_of_ble_eq_true rfl⟩) hK hN hP (va_Dsame hD rfl) hS hA [1] rfl rfl 1 1 (T := TX1) (N := 11) rfl rfl rfl hl.1 rfl (Nat.le_of_ble_eq_true rfl) dX7_share_24 ⟨Nat.zero_le _, Nat.zero_le _⟩ o_24 rfl rfl (fun H locs hP hS => ?_)
      refine lv_istore (lv' := [(4, .int o_24), (0, .ref a), (1, .int x1), (2, .int x2), (3, .int (bI b3))]) hx hb dX7_share_27 hl (by decide) rfl (fun ls hl => ?_)
      refine lv_iconst (v := 0) hx hb dX7_share_29 rfl ?_
      refine lv_istore (lv' := [(5, .int 0), (4, .int o_24), (0, .ref a), (1, .int x1), (2, .int x2), (3, .int (bI b3))]) hx hb dX7_share_30 hl (by decide) rfl (fun ls hl => ?_)
      refine lv_iconst (v := 0) hx hb dX7_share_32 rfl ?_
      refine lv_istore (lv' := [(6, .int 0), (5, .int 0), (4, .int o_24), (0, .ref a), (1, .int x1), (2, .int x2), (3, .int (bI b3))]) hx hb dX7_share_33 hl (by decide) rfl (fun ls hl => ?_)
      obtain ⟨o_L35_1, o_L35_2, o_L35_3, o_L35_4, o_L35_5, o_L35_6, ho_L35⟩ := ex6 (it (v_X7_share_L35 x1 x2 i_lease_wishCount f_lease_room f_lease_cells f_lease_needs f_lease_values o_24) ((1 : Int32) <<< (o_24 &&& 31)).toNatClampNeg 0 (0, i_survey_isMade, f_survey_lawful, f_survey_grants, f_survey_bests, f_survey_mosts))
      have kE35 : ∀ (H : Heap) (locs : List Loc) (ls : Array Slot), va_P D vwCl [(a, .inr (7, [.ref a_text, .ref a_lease, .ref a_reader, .ref a_prover, .ref a_survey, .ref a_paths, .ref a_acts, .ref a_slots, .int i_hangingNow, .int i_hourNow, .int i_toldDark, .int i_toldLight, .int i_toldCount, .long j_seedNow])), (a_lease, .inr (1, [.ref a_lease_places, .ref a_lease_firstHours, .ref a_lease_spans, .ref a_lease_values, .ref a_lease_cells, .ref a_lease_needs, .ref a_lease_owed, .ref a_lease_room, .int i_lease_squares, .int i_lease_wishCount, .int i_lease_owedPlaces])), (a_survey, .inr (5, [.ref a_lease, .ref a_survey_lawful, .ref a_survey_grants, .ref a_survey_bests, .ref a_survey_mosts, .int o_L35_2])), (a_survey_lawful, .inr (4, [.ref n_survey_lawful])), (n_survey_lawful, .inl (cI, 6, .inl o_L35_3)), (a_survey_grants, .inr (4, [.ref n_survey_grants])), (n_survey_grants, .inl (cI, 6, .inl o_L35_4)), (a_survey_bests, .inr (4, [.ref n_survey_bests])), (n_survey_bests, .inl (cI, 6, .inl o_L35_5)), (a_survey_mosts, .inr (4, [.ref n_survey_mosts])), (n_survey_mosts, .inl (cI, 6, .inl o_L35_6)), (a_lease_room, .inr (4, [.ref n_lease_room])), (n_lease_room, .inl (cI, 2, .inl f_lease_room)), (a_lease_cells, .inr (4, [.ref n_lease_cells])), (n_lease_cells, .inl (cI, 5, .inl f_lease_cells)), (a_lease_needs, .inr (4, [.ref n_lease_needs])), (n_lease_needs, .inl (cI, 5, .inl f_lease_needs)), (a_lease_values, .inr (4, [.ref n_lease_values])), (n_lease_values, .inl (cI, 5, .inl f_lease_values))] H → va_S A s.heap H locs → lv_has ls 9 [(5, .int o_L35_1), (4, .int o_24), (3, .int (bI b3))] → W p l e rm_X7_share s m ar below meth c H locs 0 0 Q (F0 m 117 ls []) := by
        intro H locs ls hP hS hl
        refine lv_iload hx hb dX7_share_117 (lv_at hl 0 rfl) ?_
        refine lv_iload hx hb dX7_share_119 (lv_at hl 1 rfl) ?_
        obtain ⟨o_121, ho_121⟩ : ∃ z : Int32, z = v_X7_factorial o_24 := ⟨_, rfl⟩
        refine callSIs (As := [.int o_24]) (rest := [.int o_L35_1]) o_121 ho_121 hF (k_X7_factorial l D cI cZ o_24 (fac2 (by rw [ho_24]; exact hw))) (va_cwS 1 hts gX7_share_X7_factorial rfl rfl rfl (by decide +kernel) ⟨Nat.le_of_ble_eq_true rfl, Nat.le_of_ble_eq_true rfl⟩) hK hN hP (va_Dsame hD rfl) hS hA [] rfl rfl rfl hl.1 rfl (Nat.le_of_ble_eq_true rfl) dX7_share_121 ⟨Nat.zero_le _, Nat.zero_le _⟩ o_121 rfl rfl (fun H locs hP hS => ?_)
        refine lv_iload_n hx hb dX7_share_124 rfl (lv_at hl 2 rfl) ?_
        obtain ⟨o_125, ho_125⟩ : ∃ z : Int32, z = v_X7_inLeastTerms o_L35_1 o_121 b3 := ⟨_, rfl⟩
        refine callSIs (As := [.int o_L35_1, .int o_121, .int (bI b3)]) (rest := []) o_125 ho_125 hF (k_X7_inLeastTerms l D cI cZ o_L35_1 o_121 b3) (va_cwS 3 hts gX7_share_X7_inLeastTerms rfl rfl rfl (by decide +kernel) ⟨Nat.le_of_ble_eq_true rfl, Nat.le_of_ble_eq_true rfl⟩) hK hN hP (va_Dsame hD rfl) hS hA [] rfl rfl rfl hl.1 rfl (Nat.le_of_ble_eq_true rfl) dX7_share_125 ⟨Nat.zero_le _, Nat.zero_le _⟩ o_125 rfl rfl (fun H locs hP hS => ?_)
        have e9 : v_X7_share x1 x2 b3 i_lease_wishCount i_survey_isMade f_survey_lawful f_survey_grants f_survey_bests f_survey_mosts f_lease_room f_lease_cells f_lease_needs f_lease_values = (o_125, o_L35_6, o_L35_2, o_L35_3, o_L35_4, o_L35_5) := by
          refine (bnd_eq ho_2).trans ?_
          refine (if_neg c_5).trans ?_
          refine (bnd_eq ho_11).trans ?_
          refine (if_neg c_14).trans ?_
          refine (bnd_eq ho_24).trans ?_
          refine (bnd6_eq ho_L35).trans ?_
          refine (bnd_eq ho_121).trans ?_
          refine (bnd_eq ho_125).trans ?_
          rfl
        rw [hQ]; exact retI (o_125, o_L35_6, o_L35_2, o_L35_3, o_L35_4, o_L35_5) hx hb hr hlk e9 hP rfl hS dX7_share_128
      have loop35 : ∀ (k i35 : Nat) (z35 : Int32 × Int32 × (Nat → Int32) × (Nat → Int32) × (Nat → Int32) × (Nat → Int32)), 0 ≤ i35 → i35 + k = 0 + ((1 : Int32) <<< (o_24 &&& 31)).toNatClampNeg → it (v_X7_share_L35 x1 x2 i_lease_wishCount f_lease_room f_lease_cells f_lease_needs f_lease_values o_24) k i35 z35 = (o_L35_1, o_L35_2, o_L35_3, o_L35_4, o_L35_5, o_L35_6) → ∀ (H : Heap) (locs : List Loc) (ls : Array Slot), va_P D vwCl [(a, .inr (7, [.ref a_text, .ref a_lease, .ref a_reader, .ref a_prover, .ref a_survey, .ref a_paths, .ref a_acts, .ref a_slots, .int i_hangingNow, .int i_hourNow, .int i_toldDark, .int i_toldLight, .int i_toldCount, .long j_seedNow])), (a_lease, .inr (1, [.ref a_lease_places, .ref a_lease_firstHours, .ref a_lease_spans, .ref a_lease_values, .ref a_lease_cells, .ref a_lease_needs, .ref a_lease_owed, .ref a_lease_room, .int i_lease_squares, .int i_lease_wishCount, .int i_lease_owedPlaces])), (a_survey, .inr (5, [.ref a_lease, .ref a_survey_lawful, .ref a_survey_grants, .ref a_survey_bests, .ref a_survey_mosts, .int z35.2.1])), (a_survey_lawful, .inr (4, [.ref n_survey_lawful])), (n_survey_lawful, .inl (cI, 6, .inl z35.2.2.1)), (a_survey_grants, .inr (4, [.ref n_survey_grants])), (n_survey_grants, .inl (cI, 6, .inl z35.2.2.2.1)), (a_survey_bests, .inr (4, [.ref n_survey_bests])), (n_survey_bests, .inl (cI, 6, .inl z35.2.2.2.2.1)), (a_survey_mosts, .inr (4, [.ref n_survey_mosts])), (n_survey_mosts, .inl (cI, 6, .inl z35.2.2.2.2.2)), (a_lease_room, .inr (4, [.ref n_lease_room])), (n_lease_room, .inl (cI, 2, .inl f_lease_room)), (a_lease_cells, .inr (4, [.ref n_lease_cells])), (n_lease_cells, .inl (cI, 5, .inl f_lease_cells)), (a_lease_needs, .inr (4, [.ref n_lease_needs])), (n_lease_needs, .inl (cI, 5, .inl f_lease_needs)), (a_lease_values, .inr (4, [.ref n_lease_values])), (n_lease_values, .inl (cI, 5, .inl f_lease_values))] H → va_S A s.heap H locs → lv_has ls 9 [(6, .int (nI i35)), (5, .int z35.1), (4, .int o_24), (0, .ref a), (1, .int x1), (2, .int x2), (3, .int (bI b3))] → W p l e rm_X7_share s m ar below meth c H locs 0 0 Q (F0 m 35 ls []) := by
        intro k
        induction k with
        | zero =>
          intro i35 z35 hi0 hik hz H locs ls hP hS hl
          have hz : z35 = (o_L35_1, o_L35_2, o_L35_3, o_L35_4, o_L35_5, o_L35_6) := it_0 hz
          subst z35
          have hP : va_P D vwCl [(a, .inr (7, [.ref a_text, .ref a_lease, .ref a_reader, .ref a_prover, .ref a_survey, .ref a_paths, .ref a_acts, .ref a_slots, .int i_hangingNow, .int i_hourNow, .int i_toldDark, .int i_toldLight, .int i_toldCount, .long j_seedNow])), (a_lease, .inr (1, [.ref a_lease_places, .ref a_lease_firstHours, .ref a_lease_spans, .ref a_lease_values, .ref a_lease_cells, .ref a_lease_needs, .ref a_lease_owed, .ref a_lease_room, .int i_lease_squares, .int i_lease_wishCount, .int i_lease_owedPlaces])), (a_survey, .inr (5, [.ref a_lease, .ref a_survey_lawful, .ref a_survey_grants, .ref a_survey_bests, .ref a_survey_mosts, .int o_L35_2])), (a_survey_lawful, .inr (4, [.ref n_survey_lawful])), (n_survey_lawful, .inl (cI, 6, .inl o_L35_3)), (a_survey_grants, .inr (4, [.ref n_survey_grants])), (n_survey_grants, .inl (cI, 6, .inl o_L35_4)), (a_survey_bests, .inr (4, [.ref n_survey_bests])), (n_survey_bests, .inl (cI, 6, .inl o_L35_5)), (a_survey_mosts, .inr (4, [.ref n_survey_mosts])), (n_survey_mosts, .inl (cI, 6, .inl o_L35_6)), (a_lease_room, .inr (4, [.ref n_lease_room])), (n_lease_room, .inl (cI, 2, .inl f_lease_room)), (a_lease_cells, .inr (4, [.ref n_lease_cells])), (n_lease_cells, .inl (cI, 5, .inl f_lease_cells)), (a_lease_needs, .inr (4, [.ref n_lease_needs])), (n_lease_needs, .inl (cI, 5, .inl f_lease_needs)), (a_lease_values, .inr (4, [.ref n_lease_values])), (n_lease_values, .inl (cI, 5, .inl f_lease_values))] H := hP
          have hl : lv_has ls 9 [(6, .int (nI i35)), (5, .int o_L35_1), (4, .int o_24), (0, .ref a), (1, .int x1), (2, .int x2), (3, .int (bI b3))] := hl
          refine lv_iload hx hb dX7_share_35 (lv_at hl 0 rfl) ?_
          refine lv_iconst (v := 1) hx hb dX7_share_37 rfl ?_
          refine lv_iload hx hb dX7_share_38 (lv_at hl 2 rfl) ?_
          refine lv_ishl hx hb dX7_share_40 ?_
          refine lv_icmp_ge (tgt := 117) hx hb dX7_share_41 (by decide) (fun _ => ?_) (fun c => absurd (cb_ge (by omega) (by have := cb_lt31 ((1 : Int32) <<< (o_24 &&& 31)); omega)) c)
          exact kE35 _ _ _ hP hS (lv_sub hl [1, 2, 6] rfl)
        | succ k ih =>
          intro i35 z35 hi0 hik hz H locs ls hP hS hl
          obtain ⟨z35_1, z35_2, z35_3, z35_4, z35_5, z35_6⟩ := z35
          have hP : va_P D vwCl [(a, .inr (7, [.ref a_text, .ref a_lease, .ref a_reader, .ref a_prover, .ref a_survey, .ref a_paths, .ref a_acts, .ref a_slots, .int i_hangingNow, .int i_hourNow, .int i_toldDark, .int i_toldLight, .int i_toldCount, .long j_seedNow])), (a_lease, .inr (1, [.ref a_lease_places, .ref a_lease_firstHours, .ref a_lease_spans, .ref a_lease_values, .ref a_lease_cells, .ref a_lease_needs, .ref a_lease_owed, .ref a_lease_room, .int i_lease_squares, .int i_lease_wishCount, .int i_lease_owedPlaces])), (a_survey, .inr (5, [.ref a_lease, .ref a_survey_lawful, .ref a_survey_grants, .ref a_survey_bests, .ref a_survey_mosts, .int z35_2])), (a_survey_lawful, .inr (4, [.ref n_survey_lawful])), (n_survey_lawful, .inl (cI, 6, .inl z35_3)), (a_survey_grants, .inr (4, [.ref n_survey_grants])), (n_survey_grants, .inl (cI, 6, .inl z35_4)), (a_survey_bests, .inr (4, [.ref n_survey_bests])), (n_survey_bests, .inl (cI, 6, .inl z35_5)), (a_survey_mosts, .inr (4, [.ref n_survey_mosts])), (n_survey_mosts, .inl (cI, 6, .inl z35_6)), (a_lease_room, .inr (4, [.ref n_lease_room])), (n_lease_room, .inl (cI, 2, .inl f_lease_room)), (a_lease_cells, .inr (4, [.ref n_lease_cells])), (n_lease_cells, .inl (cI, 5, .inl f_lease_cells)), (a_lease_needs, .inr (4, [.ref n_lease_needs])), (n_lease_needs, .inl (cI, 5, .inl f_lease_needs)), (a_lease_values, .inr (4, [.ref n_lease_values])), (n_lease_values, .inl (cI, 5, .inl f_lease_values))] H := hP
          have hl : lv_has ls 9 [(6, .int (nI i35)), (5, .int z35_1), (4, .int o_24), (0, .ref a), (1, .int x1), (2, .int x2), (3, .int (bI b3))] := hl
          refine lv_iload hx hb dX7_share_35 (lv_at hl 0 rfl) ?_
          refine lv_iconst (v := 1) hx hb dX7_share_37 rfl ?_
          refine lv_iload hx hb dX7_share_38 (lv_at hl 2 rfl) ?_
          refine lv_ishl hx hb dX7_share_40 ?_
          refine lv_icmp_ge (tgt := 117) hx hb dX7_share_41 (by decide) (fun c => absurd c (cb_lt (by omega))) (fun _ => ?_)
          refine lv_iload hx hb dX7_share_44 (lv_at hl 0 rfl) ?_
          refine lv_iload_n hx hb dX7_share_46 rfl (lv_at hl 4 rfl) ?_
          obtain ⟨o_47, ho_47⟩ : ∃ z : Bool, z = v_X7_has (nI i35) x1 := ⟨_, rfl⟩
          refine callSIs (As := [.int (nI i35), .int x1]) (rest := []) o_47 ho_47 hF (k_X7_has l D cI cZ (nI i35) x1) (va_cwS 2 hts gX7_share_X7_has rfl rfl rfl (by decide +kernel) ⟨Nat.le_of_ble_eq_true rfl, Nat.le_of_ble_eq_true rfl⟩) hK hN hP (va_Dsame hD rfl) hS hA [] rfl rfl rfl hl.1 rfl (Nat.le_of_ble_eq_true rfl) dX7_share_47 ⟨Nat.zero_le _, Nat.zero_le _⟩ (bI o_47) rfl rfl (fun H locs hP hS => ?_)
          refine lv_if_ne (tgt := 111) hx hb dX7_share_50 (by decide) (fun c_50 => ?_) (fun c_50 => ?_)
          · refine lv_iinc (v := (nI (i35 + 1))) (lv' := [(6, .int (nI (i35 + 1))), (5, .int z35_1), (4, .int o_24), (0, .ref a), (1, .int x1), (2, .int x2), (3, .int (bI b3))]) hx hb dX7_share_111 hl (k := 0) rfl (nI_1 _) (by decide) rfl (fun ls hl => ?_)
            refine lv_goto (tgt := 35) hx hb dX7_share_114 (by decide) ?_
            have e8 : v_X7_share_L35 x1 x2 i_lease_wishCount f_lease_room f_lease_cells f_lease_needs f_lease_values o_24 i35 (z35_1, z35_2, z35_3, z35_4, z35_5, z35_6) = (z35_1, z35_2, z35_3, z35_4, z35_5, z35_6) := by
              show v_X7_share_L35c x1 x2 i_lease_wishCount f_lease_room f_lease_cells f_lease_needs f_lease_values o_24 i35 z35_1 z35_2 z35_3 z35_4 z35_5 z35_6 = (z35_1, z35_2, z35_3, z35_4, z35_5, z35_6)
              refine (bnd_eq ho_47).trans ?_
              refine (if_neg c_50).trans ?_
              rfl
            exact ih (i35 + 1) (z35_1, z35_2, z35_3, z35_4, z35_5, z35_6) (by omega) (by omega) (it_go e8 hz) _ _ _ hP hS (lv_sub hl [0, 1, 2, 3, 4, 5, 6] rfl)
          · refine lv_iload hx hb dX7_share_53 (lv_at hl 0 rfl) ?_
            obtain ⟨o_55, ho_55⟩ : ∃ z : Int32, z = v_J6_bitCount_0f7a4 (nI i35) := ⟨_, rfl⟩
            refine callSIs (As := [.int (nI i35)]) (rest := []) o_55 ho_55 hF (k_J6_bitCount_0f7a4 l D cI cZ (nI i35)) (va_cwS 1 hts gX7_share_J6_bitCount_0f7a4 rfl rfl rfl (by decide +kernel) ⟨Nat.le_of_ble_eq_true rfl, Nat.le_of_ble_eq_true rfl⟩) hK hN hP (va_Dsame hD rfl) hS hA [] rfl rfl rfl hl.1 rfl (Nat.le_of_ble_eq_true rfl) dX7_share_55 ⟨Nat.zero_le _, Nat.zero_le _⟩ o_55 rfl rfl (fun H locs hP hS => ?_)
            refine lv_istore (lv' := [(7, .int o_55), (6, .int (nI i35)), (5, .int z35_1), (4, .int o_24), (0, .ref a), (1, .int x1), (2, .int x2), (3, .int (bI b3))]) hx hb dX7_share_58 hl (by decide) rfl (fun ls hl => ?_)
            refine lv_iload hx hb dX7_share_60 (lv_at hl 0 rfl) ?_
            obtain ⟨o_62, ho_62⟩ : ∃ z : Int32, z = v_X7_factorial o_55 := ⟨_, rfl⟩
            refine callSIs (As := [.int o_55]) (rest := []) o_62 ho_62 hF (k_X7_factorial l D cI cZ o_55 (fac1 (by rw [ho_55]; exact bc_63 _))) (va_cwS 1 hts gX7_share_X7_factorial rfl rfl rfl (by decide +kernel) ⟨Nat.le_of_ble_eq_true rfl, Nat.le_of_ble_eq_true rfl⟩) hK hN hP (va_Dsame hD rfl) hS hA [] rfl rfl rfl hl.1 rfl (Nat.le_of_ble_eq_true rfl) dX7_share_62 ⟨Nat.zero_le _, Nat.zero_le _⟩ o_62 rfl rfl (fun H locs hP hS => ?_)
            refine lv_iload hx hb dX7_share_65 (lv_at hl 3 rfl) ?_
            refine lv_iconst (v := 1) hx hb dX7_share_67 rfl ?_
            refine lv_isub hx hb dX7_share_68 ?_
            refine lv_iload hx hb dX7_share_69 (lv_at hl 0 rfl) ?_
            refine lv_isub hx hb dX7_share_71 ?_
            obtain ⟨o_72, ho_72⟩ : ∃ z : Int32, z = v_X7_factorial ((o_24 - 1) - o_55) := ⟨_, rfl⟩
            refine callSIs (As := [.int ((o_24 - 1) - o_55)]) (rest := [.int o_62]) o_72 ho_72 hF (k_X7_factorial l D cI cZ ((o_24 - 1) - o_55) (fac3 (by rw [ho_24]; exact hw) (by rw [ho_55]; exact bc_63 _))) (va_cwS 1 hts gX7_share_X7_factorial rfl rfl rfl (by decide +kernel) ⟨Nat.le_of_ble_eq_true rfl, Nat.le_of_ble_eq_true rfl⟩) hK hN hP (va_Dsame hD rfl) hS hA [] rfl rfl rfl hl.1 rfl (Nat.le_of_ble_eq_true rfl) dX7_share_72 ⟨Nat.zero_le _, Nat.zero_le _⟩ o_72 rfl rfl (fun H locs hP hS => ?_)
            refine lv_imul hx hb dX7_share_75 ?_
            refine lv_istore (lv' := [(8, .int (o_62 * o_72)), (7, .int o_55), (6, .int (nI i35)), (5, .int z35_1), (4, .int o_24), (0, .ref a), (1, .int x1), (2, .int x2), (3, .int (bI b3))]) hx hb dX7_share_76 hl (by decide) rfl (fun ls hl => ?_)
            refine lv_iload hx hb dX7_share_78 (lv_at hl 3 rfl) ?_
            refine lv_iload hx hb dX7_share_80 (lv_at hl 0 rfl) ?_
            refine lv_aload_n hx hb dX7_share_82 rfl (lv_at hl 5 rfl) ?_
            refine va_get (D := D) (ci := 7) (v := .ref a_survey) (C := RX7) (T := TX7) (N := 14) hx hb hts (fun _ h => List.mem_cons_of_mem _ (List.mem_append_left _ (List.mem_append_left _ (List.mem_append_left _ (List.mem_append_right _ (h)))))) hown hK hP 0 rfl rfl 4 (by decide) (hts _ (List.mem_of_getElem? (i := 2) rfl)) (fun _ h9 => h9) rfl dX7_share_83 ?_
            refine lv_iload_n hx hb dX7_share_86 rfl (lv_at hl 7 rfl) ?_
            refine lv_iload hx hb dX7_share_87 (lv_at hl 2 rfl) ?_
            refine lv_iconst (v := 1) hx hb dX7_share_89 rfl ?_
            refine lv_iload_n hx hb dX7_share_90 rfl (lv_at hl 6 rfl) ?_
            refine lv_ishl hx hb dX7_share_91 ?_
            refine lv_ior hx hb dX7_share_92 ?_
            obtain ⟨o_93_1, o_93_2, o_93_3, o_93_4, o_93_5, o_93_6, ho_93⟩ := ex6 (v_X5_mostWorth x2 (nI i35 ||| ((1 : Int32) <<< (x1 &&& 31))) z35_2 z35_3 z35_4 z35_5 z35_6 i_lease_wishCount f_lease_room f_lease_cells f_lease_needs f_lease_values)
            refine callVI (As := [.int x2, .int (nI i35 ||| ((1 : Int32) <<< (x1 &&& 31)))]) (rest := [.int (o_62 * o_72), .int z35_1]) (o_93_1, o_93_2, o_93_3, o_93_4, o_93_5, o_93_6) ho_93 hF (k_X5_mostWorth l D cI cZ a_survey a_lease a_survey_lawful a_survey_grants a_survey_bests a_survey_mosts n_survey_lawful n_survey_grants n_survey_bests n_survey_mosts a_lease_places a_lease_firstHours a_lease_spans a_lease_values a_lease_cells a_lease_needs a_lease_owed a_lease_room n_lease_room n_lease_cells n_lease_needs n_lease_values x2 (nI i35 ||| ((1 : Int32) <<< (x1 &&& 31))) z35_2 z35_3 z35_4 z35_5 z35_6 i_lease_squares i_lease_wishCount i_lease_owedPlaces f_lease_room f_lease_cells f_lease_needs f_lease_values) (cwV 2 hts gX7_share_X5_mostWorth rfl rfl rfl (by decide +kernel) ⟨Nat.le_of_ble_eq_true rfl, Nat.le_of_ble_eq_true rfl⟩) hK hN hP (va_Dsame hD rfl) hS hA [2, 3, 4, 5, 6, 7, 8, 9, 10, 1, 11, 12, 13, 14, 15, 16, 17, 18] rfl rfl 2 5 (T := TX5) (N := 6) rfl rfl rfl hl.1 rfl (Nat.le_of_ble_eq_true rfl) dX7_share_93 ⟨Nat.zero_le _, Nat.zero_le _⟩ o_93_1 rfl [none, some 9, some 0, some 1, some 2, some 3, some 4, some 5, some 6, some 7, some 8, some 10, some 11, some 12, some 13, some 14, some 15, some 16, some 17] 18 [(a, .inr (7, [.ref a_text, .ref a_lease, .ref a_reader, .ref a_prover, .ref a_survey, .ref a_paths, .ref a_acts, .ref a_slots, .int i_hangingNow, .int i_hourNow, .int i_toldDark, .int i_toldLight, .int i_toldCount, .long j_seedNow])), (a_lease, .inr (1, [.ref a_lease_places, .ref a_lease_firstHours, .ref a_lease_spans, .ref a_lease_values, .ref a_lease_cells, .ref a_lease_needs, .ref a_lease_owed, .ref a_lease_room, .int i_lease_squares, .int i_lease_wishCount, .int i_lease_owedPlaces])), (a_survey, .inr (5, [.ref a_lease, .ref a_survey_lawful, .ref a_survey_grants, .ref a_survey_bests, .ref a_survey_mosts, .int o_93_2])), (a_survey_lawful, .inr (4, [.ref n_survey_lawful])), (n_survey_lawful, .inl (cI, 6, .inl o_93_3)), (a_survey_grants, .inr (4, [.ref n_survey_grants])), (n_survey_grants, .inl (cI, 6, .inl o_93_4)), (a_survey_bests, .inr (4, [.ref n_survey_bests])), (n_survey_bests, .inl (cI, 6, .inl o_93_5)), (a_survey_mosts, .inr (4, [.ref n_survey_mosts])), (n_survey_mosts, .inl (cI, 6, .inl o_93_6)), (a_lease_room, .inr (4, [.ref n_lease_room])), (n_lease_room, .inl (cI, 2, .inl f_lease_room)), (a_lease_cells, .inr (4, [.ref n_lease_cells])), (n_lease_cells, .inl (cI, 5, .inl f_lease_cells)), (a_lease_needs, .inr (4, [.ref n_lease_needs])), (n_lease_needs, .inl (cI, 5, .inl f_lease_needs)), (a_lease_values, .inr (4, [.ref n_lease_values])), (n_lease_values, .inl (cI, 5, .inl f_lease_values))] rfl rfl (by decide) (fun H locs hP hS => ?_)
            refine lv_aload_n hx hb dX7_share_96 rfl (lv_at hl 5 rfl) ?_
            refine va_get (D := D) (ci := 7) (v := .ref a_survey) (C := RX7) (T := TX7) (N := 14) hx hb hts (fun _ h => List.mem_cons_of_mem _ (List.mem_append_left _ (List.mem_append_left _ (List.mem_append_left _ (List.mem_append_right _ (h)))))) hown hK hP 0 rfl rfl 4 (by decide) (hts _ (List.mem_of_getElem? (i := 2) rfl)) (fun _ h9 => h9) rfl dX7_share_97 ?_
            refine lv_iload_n hx hb dX7_share_100 rfl (lv_at hl 7 rfl) ?_
            refine lv_iload hx hb dX7_share_101 (lv_at hl 2 rfl) ?_
            obtain ⟨o_103_1, o_103_2, o_103_3, o_103_4, o_103_5, o_103_6, ho_103⟩ := ex6 (v_X5_mostWorth x2 (nI i35) o_93_2 o_93_3 o_93_4 o_93_5 o_93_6 i_lease_wishCount f_lease_room f_lease_cells f_lease_needs f_lease_values)
            refine callVI (As := [.int x2, .int (nI i35)]) (rest := [.int o_93_1, .int (o_62 * o_72), .int z35_1]) (o_103_1, o_103_2, o_103_3, o_103_4, o_103_5, o_103_6) ho_103 hF (k_X5_mostWorth l D cI cZ a_survey a_lease a_survey_lawful a_survey_grants a_survey_bests a_survey_mosts n_survey_lawful n_survey_grants n_survey_bests n_survey_mosts a_lease_places a_lease_firstHours a_lease_spans a_lease_values a_lease_cells a_lease_needs a_lease_owed a_lease_room n_lease_room n_lease_cells n_lease_needs n_lease_values x2 (nI i35) o_93_2 o_93_3 o_93_4 o_93_5 o_93_6 i_lease_squares i_lease_wishCount i_lease_owedPlaces f_lease_room f_lease_cells f_lease_needs f_lease_values) (cwV 2 hts gX7_share_X5_mostWorth rfl rfl rfl (by decide +kernel) ⟨Nat.le_of_ble_eq_true rfl, Nat.le_of_ble_eq_true rfl⟩) hK hN hP (va_Dsame hD rfl) hS hA [2, 3, 4, 5, 6, 7, 8, 9, 10, 1, 11, 12, 13, 14, 15, 16, 17, 18] rfl rfl 2 5 (T := TX5) (N := 6) rfl rfl rfl hl.1 rfl (Nat.le_of_ble_eq_true rfl) dX7_share_103 ⟨Nat.zero_le _, Nat.zero_le _⟩ o_103_1 rfl [none, some 9, some 0, some 1, some 2, some 3, some 4, some 5, some 6, some 7, some 8, some 10, some 11, some 12, some 13, some 14, some 15, some 16, some 17] 18 [(a, .inr (7, [.ref a_text, .ref a_lease, .ref a_reader, .ref a_prover, .ref a_survey, .ref a_paths, .ref a_acts, .ref a_slots, .int i_hangingNow, .int i_hourNow, .int i_toldDark, .int i_toldLight, .int i_toldCount, .long j_seedNow])), (a_lease, .inr (1, [.ref a_lease_places, .ref a_lease_firstHours, .ref a_lease_spans, .ref a_lease_values, .ref a_lease_cells, .ref a_lease_needs, .ref a_lease_owed, .ref a_lease_room, .int i_lease_squares, .int i_lease_wishCount, .int i_lease_owedPlaces])), (a_survey, .inr (5, [.ref a_lease, .ref a_survey_lawful, .ref a_survey_grants, .ref a_survey_bests, .ref a_survey_mosts, .int o_103_2])), (a_survey_lawful, .inr (4, [.ref n_survey_lawful])), (n_survey_lawful, .inl (cI, 6, .inl o_103_3)), (a_survey_grants, .inr (4, [.ref n_survey_grants])), (n_survey_grants, .inl (cI, 6, .inl o_103_4)), (a_survey_bests, .inr (4, [.ref n_survey_bests])), (n_survey_bests, .inl (cI, 6, .inl o_103_5)), (a_survey_mosts, .inr (4, [.ref n_survey_mosts])), (n_survey_mosts, .inl (cI, 6, .inl o_103_6)), (a_lease_room, .inr (4, [.ref n_lease_room])), (n_lease_room, .inl (cI, 2, .inl f_lease_room)), (a_lease_cells, .inr (4, [.ref n_lease_cells])), (n_lease_cells, .inl (cI, 5, .inl f_lease_cells)), (a_lease_needs, .inr (4, [.ref n_lease_needs])), (n_lease_needs, .inl (cI, 5, .inl f_lease_needs)), (a_lease_values, .inr (4, [.ref n_lease_values])), (n_lease_values, .inl (cI, 5, .inl f_lease_values))] rfl rfl (by decide) (fun H locs hP hS => ?_)
            refine lv_isub hx hb dX7_share_106 ?_
            refine lv_imul hx hb dX7_share_107 ?_
            refine lv_iadd hx hb dX7_share_108 ?_
            refine lv_topi (fun w_109 hw_109 => ?_)
            refine lv_istore (lv' := [(5, .int w_109), (8, .int (o_62 * o_72)), (7, .int o_55), (6, .int (nI i35)), (4, .int o_24), (0, .ref a), (1, .int x1), (2, .int x2), (3, .int (bI b3))]) hx hb dX7_share_109 hl (by decide) rfl (fun ls hl => ?_)
            refine lv_iinc (v := (nI (i35 + 1))) (lv' := [(6, .int (nI (i35 + 1))), (5, .int w_109), (8, .int (o_62 * o_72)), (7, .int o_55), (4, .int o_24), (0, .ref a), (1, .int x1), (2, .int x2), (3, .int (bI b3))]) hx hb dX7_share_111 hl (k := 3) rfl (nI_1 _) (by decide) rfl (fun ls hl => ?_)
            refine lv_goto (tgt := 35) hx hb dX7_share_114 (by decide) ?_
            have e8 : v_X7_share_L35 x1 x2 i_lease_wishCount f_lease_room f_lease_cells f_lease_needs f_lease_values o_24 i35 (z35_1, z35_2, z35_3, z35_4, z35_5, z35_6) = (w_109, o_103_2, o_103_3, o_103_4, o_103_5, o_103_6) := by
              show v_X7_share_L35c x1 x2 i_lease_wishCount f_lease_room f_lease_cells f_lease_needs f_lease_values o_24 i35 z35_1 z35_2 z35_3 z35_4 z35_5 z35_6 = (w_109, o_103_2, o_103_3, o_103_4, o_103_5, o_103_6)
              refine (bnd_eq ho_47).trans ?_
              refine (if_pos c_50).trans ?_
              refine (bnd_eq ho_55).trans ?_
              refine (bnd_eq ho_62).trans ?_
              refine (bnd_eq ho_72).trans ?_
              refine (bnd6_eq ho_93).trans ?_
              refine (bnd6_eq ho_103).trans ?_
              refine (bnd_eq hw_109).trans ?_
              rfl
            exact ih (i35 + 1) (w_109, o_103_2, o_103_3, o_103_4, o_103_5, o_103_6) (by omega) (by omega) (it_go e8 hz) _ _ _ hP hS (lv_sub hl [0, 1, 4, 5, 6, 7, 8] rfl)
      exact loop35 ((1 : Int32) <<< (o_24 &&& 31)).toNatClampNeg 0 (0, i_survey_isMade, f_survey_lawful, f_survey_grants, f_survey_bests, f_survey_mosts) (Nat.le_refl _) rfl ho_L35.symm _ _ _ hP hS (lv_sub hl [0, 1, 2, 3, 4, 5, 6] rfl)
    · refine lv_bipush (v := (-2)) hx hb dX7_share_17 rfl ?_
      have e9 : v_X7_share x1 x2 b3 i_lease_wishCount i_survey_isMade f_survey_lawful f_survey_grants f_survey_bests f_survey_mosts f_lease_room f_lease_cells f_lease_needs f_lease_values = ((-2), f_survey_mosts, i_survey_isMade, f_survey_lawful, f_survey_grants, f_survey_bests) := by
        refine (bnd_eq ho_2).trans ?_
        refine (if_neg c_5).trans ?_
        refine (bnd_eq ho_11).trans ?_
        refine (if_pos c_14).trans ?_
        rfl
      rw [hQ]; exact retI ((-2), f_survey_mosts, i_survey_isMade, f_survey_lawful, f_survey_grants, f_survey_bests) hx hb hr hlk e9 hP rfl hS dX7_share_19
  · refine lv_iconst (v := (-1)) hx hb dX7_share_8 rfl ?_
    have e9 : v_X7_share x1 x2 b3 i_lease_wishCount i_survey_isMade f_survey_lawful f_survey_grants f_survey_bests f_survey_mosts f_lease_room f_lease_cells f_lease_needs f_lease_values = ((-1), f_survey_mosts, i_survey_isMade, f_survey_lawful, f_survey_grants, f_survey_bests) := by
      refine (bnd_eq ho_2).trans ?_
      refine (if_pos c_5).trans ?_
      rfl
    rw [hQ]; exact retI ((-1), f_survey_mosts, i_survey_isMade, f_survey_lawful, f_survey_grants, f_survey_bests) hx hb hr hlk e9 hP rfl hS dX7_share_9
def v_X7_tell (x1 : Int32) (x2 : Int32) (b3 : Bool) (i_toldDark : Int32) (i_toldLight : Int32) (i_toldCount : Int32) : Int32 × Int32 × Int32 × Int32 :=
  bnd (v_X7_isCell x1) fun o_1 =>
  (if bI o_1 = 0 then ((-1), i_toldDark, i_toldLight, i_toldCount)
  else (bnd (v_X7_isHour x2) fun o_10 =>
  (if bI o_10 = 0 then ((-2), i_toldDark, i_toldLight, i_toldCount)
  else (if i_toldCount < 6 then (bnd (v_X7_cellAbove x1 x2) fun o_34 =>
    (if bI b3 = 0 then (bnd ((i_toldLight ||| ((1 : Int32) <<< (o_34 &&& 31)))) fun w_66 =>
      ((i_toldCount + 1), i_toldDark, w_66, (i_toldCount + 1)))
    else (bnd ((i_toldDark ||| ((1 : Int32) <<< (o_34 &&& 31)))) fun w_52 =>
    ((i_toldCount + 1), w_52, i_toldLight, (i_toldCount + 1)))))
  else ((-4), i_toldDark, i_toldLight, i_toldCount)))))
abbrev rm_X7_tell : Room := { frames := 1, cells := 0, slots := 0, locals := 22 }
set_option maxHeartbeats 4000000 in
set_option maxRecDepth 100000 in
theorem k_X7_tell (l : Launch) (D : va_G) (cI cZ : ClassId) (a a_text a_lease a_reader a_prover a_survey a_paths a_acts a_slots : Nat) (x1 : Int32) (x2 : Int32) (b3 : Bool) (i_hangingNow : Int32) (i_hourNow : Int32) (i_toldDark : Int32) (i_toldLight : Int32) (i_toldCount : Int32) (j_seedNow : Int64) : KI l D cI cZ yX7_tell wsX7_tell rm_X7_tell [.ref a, .int x1, .int x2, .int (bI b3)] [(a, .inr (7, [.ref a_text, .ref a_lease, .ref a_reader, .ref a_prover, .ref a_survey, .ref a_paths, .ref a_acts, .ref a_slots, .int i_hangingNow, .int i_hourNow, .int i_toldDark, .int i_toldLight, .int i_toldCount, .long j_seedNow]))] (v_X7_tell x1 x2 b3 i_toldDark i_toldLight i_toldCount) (fun o : Int32 × Int32 × Int32 × Int32 => o.1) (fun o : Int32 × Int32 × Int32 × Int32 => [(a, .inr (7, [.ref a_text, .ref a_lease, .ref a_reader, .ref a_prover, .ref a_survey, .ref a_paths, .ref a_acts, .ref a_slots, .int i_hangingNow, .int i_hourNow, .int o.2.1, .int o.2.2.1, .int o.2.2.2, .long j_seedNow]))]) := by
  refine KI.of cX7_tell 5 (some .int) (by decide) rfl (Nat.le_of_ble_eq_true rfl) ?_
  intro p e s m below meth c A ls ar Q hQ B
  obtain ⟨hx, hb, hr, hml, hts, hown, hlk, hK, hN, hP, hD, hA, hS, hl⟩ := B
  have hown : s.vm.findClass RX7 = some m.cls := hown
  have hF : CallFix p m c cX7_tell 5 s ar wsX7_tell RX7 := ⟨hx, hb, hml, hown, hts⟩
  have hl : lv_has ls 5 [(0, .ref a), (1, .int x1), (2, .int x2), (3, .int (bI b3))] := hl
  refine lv_iload_n hx hb dX7_tell_0 rfl (lv_at hl 1 rfl) ?_
  obtain ⟨o_1, ho_1⟩ : ∃ z : Bool, z = v_X7_isCell x1 := ⟨_, rfl⟩
  refine callSIs (As := [.int x1]) (rest := []) o_1 ho_1 hF (k_X7_isCell l D cI cZ x1) (va_cwS 1 hts gX7_tell_X7_isCell rfl rfl rfl (by decide +kernel) ⟨Nat.le_of_ble_eq_true rfl, Nat.le_of_ble_eq_true rfl⟩) hK hN hP (va_Dsame hD rfl) hS hA [] rfl rfl rfl hl.1 rfl (Nat.le_of_ble_eq_true rfl) dX7_tell_1 ⟨Nat.zero_le _, Nat.zero_le _⟩ (bI o_1) rfl rfl (fun H locs hP hS => ?_)
  refine lv_if_ne (tgt := 9) hx hb dX7_tell_4 (by decide) (fun c_4 => ?_) (fun c_4 => ?_)
  · refine lv_iload_n hx hb dX7_tell_9 rfl (lv_at hl 2 rfl) ?_
    obtain ⟨o_10, ho_10⟩ : ∃ z : Bool, z = v_X7_isHour x2 := ⟨_, rfl⟩
    refine callSIs (As := [.int x2]) (rest := []) o_10 ho_10 hF (k_X7_isHour l D cI cZ x2) (va_cwS 1 hts gX7_tell_X7_isHour rfl rfl rfl (by decide +kernel) ⟨Nat.le_of_ble_eq_true rfl, Nat.le_of_ble_eq_true rfl⟩) hK hN hP (va_Dsame hD rfl) hS hA [] rfl rfl rfl hl.1 rfl (Nat.le_of_ble_eq_true rfl) dX7_tell_10 ⟨Nat.zero_le _, Nat.zero_le _⟩ (bI o_10) rfl rfl (fun H locs hP hS => ?_)
    refine lv_if_ne (tgt := 19) hx hb dX7_tell_13 (by decide) (fun c_13 => ?_) (fun c_13 => ?_)
    · refine lv_aload_n hx hb dX7_tell_19 rfl (lv_at hl 0 rfl) ?_
      refine va_get (D := D) (ci := 7) (v := .int i_toldCount) (C := RX7) (T := TX7) (N := 14) hx hb hts (fun _ h => List.mem_cons_of_mem _ (List.mem_append_right _ (h))) hown hK hP 0 rfl rfl 12 (by decide) (hts _ (List.mem_of_getElem? (i := 1) rfl)) (fun _ h9 => h9) rfl dX7_tell_20 ?_
      refine lv_bipush (v := 6) hx hb dX7_tell_23 rfl ?_
      refine lv_icmp_lt (tgt := 31) hx hb dX7_tell_25 (by decide) (fun c_25 => ?_) (fun c_25 => ?_)
      · refine lv_iconst (v := 1) hx hb dX7_tell_31 rfl ?_
        refine lv_iload_n hx hb dX7_tell_32 rfl (lv_at hl 1 rfl) ?_
        refine lv_iload_n hx hb dX7_tell_33 rfl (lv_at hl 2 rfl) ?_
        obtain ⟨o_34, ho_34⟩ : ∃ z : Int32, z = v_X7_cellAbove x1 x2 := ⟨_, rfl⟩
        refine callSIs (As := [.int x1, .int x2]) (rest := [.int 1]) o_34 ho_34 hF (k_X7_cellAbove l D cI cZ x1 x2) (va_cwS 2 hts gX7_tell_X7_cellAbove rfl rfl rfl (by decide +kernel) ⟨Nat.le_of_ble_eq_true rfl, Nat.le_of_ble_eq_true rfl⟩) hK hN hP (va_Dsame hD rfl) hS hA [] rfl rfl rfl hl.1 rfl (Nat.le_of_ble_eq_true rfl) dX7_tell_34 ⟨Nat.zero_le _, Nat.zero_le _⟩ o_34 rfl rfl (fun H locs hP hS => ?_)
        refine lv_ishl hx hb dX7_tell_37 ?_
        refine lv_istore (lv' := [(4, .int ((1 : Int32) <<< (o_34 &&& 31))), (0, .ref a), (1, .int x1), (2, .int x2), (3, .int (bI b3))]) hx hb dX7_tell_38 hl (by decide) rfl (fun ls hl => ?_)
        refine lv_iload_n hx hb dX7_tell_40 rfl (lv_at hl 4 rfl) ?_
        refine lv_if_eq (tgt := 58) hx hb dX7_tell_41 (by decide) (fun c_41 => ?_) (fun c_41 => ?_)
        · refine lv_aload_n hx hb dX7_tell_58 rfl (lv_at hl 1 rfl) ?_
          refine lv_dup hx hb dX7_tell_59 rfl ?_
          refine va_get (D := D) (ci := 7) (v := .int i_toldLight) (C := RX7) (T := TX7) (N := 14) hx hb hts (fun _ h => List.mem_cons_of_mem _ (List.mem_append_right _ (h))) hown hK hP 0 rfl rfl 11 (by decide) (hts _ (List.mem_of_getElem? (i := 3) rfl)) (fun _ h9 => h9) rfl dX7_tell_60 ?_
          refine lv_iload hx hb dX7_tell_63 (lv_at hl 0 rfl) ?_
          refine lv_ior hx hb dX7_tell_65 ?_
          refine lv_topi (fun w_66 hw_66 => ?_)
          refine va_put (D := D) (ci := 7) (v := .int w_66) (ty := .int) (C := RX7) (T := TX7) (N := 14) hx hb hts (fun _ h => List.mem_cons_of_mem _ (List.mem_append_right _ (h))) tyX7 tyX7_ok nmX7 hown hK hP (va_Dsame hD rfl) hS 0 rfl rfl 11 (by decide) (hts _ (List.mem_of_getElem? (i := 3) rfl)) (fun _ h9 => h9) rfl (tyX7_ok 11 (by decide)) rfl rfl (Nat.le_of_ble_eq_true rfl) dX7_tell_66 (fun H locs hP _ hS => ?_)
          have hP : va_P D vwCl [(a, .inr (7, [.ref a_text, .ref a_lease, .ref a_reader, .ref a_prover, .ref a_survey, .ref a_paths, .ref a_acts, .ref a_slots, .int i_hangingNow, .int i_hourNow, .int i_toldDark, .int w_66, .int i_toldCount, .long j_seedNow]))] H := hP
          refine lv_aload_n hx hb dX7_tell_69 rfl (lv_at hl 1 rfl) ?_
          refine lv_dup hx hb dX7_tell_70 rfl ?_
          refine va_get (D := D) (ci := 7) (v := .int i_toldCount) (C := RX7) (T := TX7) (N := 14) hx hb hts (fun _ h => List.mem_cons_of_mem _ (List.mem_append_right _ (h))) hown hK hP 0 rfl rfl 12 (by decide) (hts _ (List.mem_of_getElem? (i := 1) rfl)) (fun _ h9 => h9) rfl dX7_tell_71 ?_
          refine lv_iconst (v := 1) hx hb dX7_tell_74 rfl ?_
          refine lv_iadd hx hb dX7_tell_75 ?_
          refine va_put (D := D) (ci := 7) (v := .int (i_toldCount + 1)) (ty := .int) (C := RX7) (T := TX7) (N := 14) hx hb hts (fun _ h => List.mem_cons_of_mem _ (List.mem_append_right _ (h))) tyX7 tyX7_ok nmX7 hown hK hP (va_Dsame hD rfl) hS 0 rfl rfl 12 (by decide) (hts _ (List.mem_of_getElem? (i := 1) rfl)) (fun _ h9 => h9) rfl (tyX7_ok 12 (by decide)) rfl rfl (Nat.le_of_ble_eq_true rfl) dX7_tell_76 (fun H locs hP _ hS => ?_)
          have hP : va_P D vwCl [(a, .inr (7, [.ref a_text, .ref a_lease, .ref a_reader, .ref a_prover, .ref a_survey, .ref a_paths, .ref a_acts, .ref a_slots, .int i_hangingNow, .int i_hourNow, .int i_toldDark, .int w_66, .int (i_toldCount + 1), .long j_seedNow]))] H := hP
          refine lv_aload_n hx hb dX7_tell_79 rfl (lv_at hl 1 rfl) ?_
          refine va_get (D := D) (ci := 7) (v := .int (i_toldCount + 1)) (C := RX7) (T := TX7) (N := 14) hx hb hts (fun _ h => List.mem_cons_of_mem _ (List.mem_append_right _ (h))) hown hK hP 0 rfl rfl 12 (by decide) (hts _ (List.mem_of_getElem? (i := 1) rfl)) (fun _ h9 => h9) rfl dX7_tell_80 ?_
          have e9 : v_X7_tell x1 x2 b3 i_toldDark i_toldLight i_toldCount = ((i_toldCount + 1), i_toldDark, w_66, (i_toldCount + 1)) := by
            refine (bnd_eq ho_1).trans ?_
            refine (if_neg c_4).trans ?_
            refine (bnd_eq ho_10).trans ?_
            refine (if_neg c_13).trans ?_
            refine (if_pos c_25).trans ?_
            refine (bnd_eq ho_34).trans ?_
            refine (if_pos c_41).trans ?_
            refine (bnd_eq hw_66).trans ?_
            rfl
          rw [hQ]; exact retI ((i_toldCount + 1), i_toldDark, w_66, (i_toldCount + 1)) hx hb hr hlk e9 hP rfl hS dX7_tell_83
        · refine lv_aload_n hx hb dX7_tell_44 rfl (lv_at hl 1 rfl) ?_
          refine lv_dup hx hb dX7_tell_45 rfl ?_
          refine va_get (D := D) (ci := 7) (v := .int i_toldDark) (C := RX7) (T := TX7) (N := 14) hx hb hts (fun _ h => List.mem_cons_of_mem _ (List.mem_append_right _ (h))) hown hK hP 0 rfl rfl 10 (by decide) (hts _ (List.mem_of_getElem? (i := 2) rfl)) (fun _ h9 => h9) rfl dX7_tell_46 ?_
          refine lv_iload hx hb dX7_tell_49 (lv_at hl 0 rfl) ?_
          refine lv_ior hx hb dX7_tell_51 ?_
          refine lv_topi (fun w_52 hw_52 => ?_)
          refine va_put (D := D) (ci := 7) (v := .int w_52) (ty := .int) (C := RX7) (T := TX7) (N := 14) hx hb hts (fun _ h => List.mem_cons_of_mem _ (List.mem_append_right _ (h))) tyX7 tyX7_ok nmX7 hown hK hP (va_Dsame hD rfl) hS 0 rfl rfl 10 (by decide) (hts _ (List.mem_of_getElem? (i := 2) rfl)) (fun _ h9 => h9) rfl (tyX7_ok 10 (by decide)) rfl rfl (Nat.le_of_ble_eq_true rfl) dX7_tell_52 (fun H locs hP _ hS => ?_)
          have hP : va_P D vwCl [(a, .inr (7, [.ref a_text, .ref a_lease, .ref a_reader, .ref a_prover, .ref a_survey, .ref a_paths, .ref a_acts, .ref a_slots, .int i_hangingNow, .int i_hourNow, .int w_52, .int i_toldLight, .int i_toldCount, .long j_seedNow]))] H := hP
          refine lv_goto (tgt := 69) hx hb dX7_tell_55 (by decide) ?_
          refine lv_aload_n hx hb dX7_tell_69 rfl (lv_at hl 1 rfl) ?_
          refine lv_dup hx hb dX7_tell_70 rfl ?_
          refine va_get (D := D) (ci := 7) (v := .int i_toldCount) (C := RX7) (T := TX7) (N := 14) hx hb hts (fun _ h => List.mem_cons_of_mem _ (List.mem_append_right _ (h))) hown hK hP 0 rfl rfl 12 (by decide) (hts _ (List.mem_of_getElem? (i := 1) rfl)) (fun _ h9 => h9) rfl dX7_tell_71 ?_
          refine lv_iconst (v := 1) hx hb dX7_tell_74 rfl ?_
          refine lv_iadd hx hb dX7_tell_75 ?_
          refine va_put (D := D) (ci := 7) (v := .int (i_toldCount + 1)) (ty := .int) (C := RX7) (T := TX7) (N := 14) hx hb hts (fun _ h => List.mem_cons_of_mem _ (List.mem_append_right _ (h))) tyX7 tyX7_ok nmX7 hown hK hP (va_Dsame hD rfl) hS 0 rfl rfl 12 (by decide) (hts _ (List.mem_of_getElem? (i := 1) rfl)) (fun _ h9 => h9) rfl (tyX7_ok 12 (by decide)) rfl rfl (Nat.le_of_ble_eq_true rfl) dX7_tell_76 (fun H locs hP _ hS => ?_)
          have hP : va_P D vwCl [(a, .inr (7, [.ref a_text, .ref a_lease, .ref a_reader, .ref a_prover, .ref a_survey, .ref a_paths, .ref a_acts, .ref a_slots, .int i_hangingNow, .int i_hourNow, .int w_52, .int i_toldLight, .int (i_toldCount + 1), .long j_seedNow]))] H := hP
          refine lv_aload_n hx hb dX7_tell_79 rfl (lv_at hl 1 rfl) ?_
          refine va_get (D := D) (ci := 7) (v := .int (i_toldCount + 1)) (C := RX7) (T := TX7) (N := 14) hx hb hts (fun _ h => List.mem_cons_of_mem _ (List.mem_append_right _ (h))) hown hK hP 0 rfl rfl 12 (by decide) (hts _ (List.mem_of_getElem? (i := 1) rfl)) (fun _ h9 => h9) rfl dX7_tell_80 ?_
          have e9 : v_X7_tell x1 x2 b3 i_toldDark i_toldLight i_toldCount = ((i_toldCount + 1), w_52, i_toldLight, (i_toldCount + 1)) := by
            refine (bnd_eq ho_1).trans ?_
            refine (if_neg c_4).trans ?_
            refine (bnd_eq ho_10).trans ?_
            refine (if_neg c_13).trans ?_
            refine (if_pos c_25).trans ?_
            refine (bnd_eq ho_34).trans ?_
            refine (if_neg c_41).trans ?_
            refine (bnd_eq hw_52).trans ?_
            rfl
          rw [hQ]; exact retI ((i_toldCount + 1), w_52, i_toldLight, (i_toldCount + 1)) hx hb hr hlk e9 hP rfl hS dX7_tell_83
      · refine lv_bipush (v := (-4)) hx hb dX7_tell_28 rfl ?_
        have e9 : v_X7_tell x1 x2 b3 i_toldDark i_toldLight i_toldCount = ((-4), i_toldDark, i_toldLight, i_toldCount) := by
          refine (bnd_eq ho_1).trans ?_
          refine (if_neg c_4).trans ?_
          refine (bnd_eq ho_10).trans ?_
          refine (if_neg c_13).trans ?_
          refine (if_neg c_25).trans ?_
          rfl
        rw [hQ]; exact retI ((-4), i_toldDark, i_toldLight, i_toldCount) hx hb hr hlk e9 hP rfl hS dX7_tell_30
    · refine lv_bipush (v := (-2)) hx hb dX7_tell_16 rfl ?_
      have e9 : v_X7_tell x1 x2 b3 i_toldDark i_toldLight i_toldCount = ((-2), i_toldDark, i_toldLight, i_toldCount) := by
        refine (bnd_eq ho_1).trans ?_
        refine (if_neg c_4).trans ?_
        refine (bnd_eq ho_10).trans ?_
        refine (if_pos c_13).trans ?_
        rfl
      rw [hQ]; exact retI ((-2), i_toldDark, i_toldLight, i_toldCount) hx hb hr hlk e9 hP rfl hS dX7_tell_18
  · refine lv_iconst (v := (-1)) hx hb dX7_tell_7 rfl ?_
    have e9 : v_X7_tell x1 x2 b3 i_toldDark i_toldLight i_toldCount = ((-1), i_toldDark, i_toldLight, i_toldCount) := by
      refine (bnd_eq ho_1).trans ?_
      refine (if_pos c_4).trans ?_
      rfl
    rw [hQ]; exact retI ((-1), i_toldDark, i_toldLight, i_toldCount) hx hb hr hlk e9 hP rfl hS dX7_tell_8
def v_X7_untell (i_toldCount : Int32) : Int32 × Int32 × Int32 × Int32 :=
  (i_toldCount, 0, 0, 0)
abbrev rm_X7_untell : Room := { frames := 0, cells := 0, slots := 0, locals := 0 }
set_option maxHeartbeats 4000000 in
set_option maxRecDepth 100000 in
theorem k_X7_untell (l : Launch) (D : va_G) (cI cZ : ClassId) (a a_text a_lease a_reader a_prover a_survey a_paths a_acts a_slots : Nat) (i_hangingNow : Int32) (i_hourNow : Int32) (i_toldDark : Int32) (i_toldLight : Int32) (i_toldCount : Int32) (j_seedNow : Int64) : KI l D cI cZ yX7_untell wsX7_untell rm_X7_untell [.ref a] [(a, .inr (7, [.ref a_text, .ref a_lease, .ref a_reader, .ref a_prover, .ref a_survey, .ref a_paths, .ref a_acts, .ref a_slots, .int i_hangingNow, .int i_hourNow, .int i_toldDark, .int i_toldLight, .int i_toldCount, .long j_seedNow]))] (v_X7_untell i_toldCount) (fun o : Int32 × Int32 × Int32 × Int32 => o.1) (fun o : Int32 × Int32 × Int32 × Int32 => [(a, .inr (7, [.ref a_text, .ref a_lease, .ref a_reader, .ref a_prover, .ref a_survey, .ref a_paths, .ref a_acts, .ref a_slots, .int i_hangingNow, .int i_hourNow, .int o.2.1, .int o.2.2.1, .int o.2.2.2, .long j_seedNow]))]) := by
  refine KI.of cX7_untell 2 (some .int) (by decide) rfl (Nat.le_of_ble_eq_true rfl) ?_
  intro p e s m below meth c A ls ar Q hQ B
  obtain ⟨hx, hb, hr, hml, hts, hown, hlk, hK, hN, hP, hD, hA, hS, hl⟩ := B
  have hown : s.vm.findClass RX7 = some m.cls := hown
  have hF : CallFix p m c cX7_untell 2 s ar wsX7_untell RX7 := ⟨hx, hb, hml, hown, hts⟩
  have hl : lv_has ls 2 [(0, .ref a)] := hl
  refine lv_aload_n hx hb dX7_untell_0 rfl (lv_at hl 0 rfl) ?_
  refine va_get (D := D) (ci := 7) (v := .int i_toldCount) (C := RX7) (T := TX7) (N := 14) hx hb hts (fun _ h => List.mem_cons_of_mem _ (List.mem_append_right _ (h))) hown hK hP 0 rfl rfl 12 (by decide) (hts _ (List.mem_of_getElem? (i := 1) rfl)) (fun _ h9 => h9) rfl dX7_untell_1 ?_
  refine lv_istore_n (lv' := [(1, .int i_toldCount), (0, .ref a)]) hx hb dX7_untell_4 rfl hl (by decide) rfl (fun ls hl => ?_)
  refine lv_aload_n hx hb dX7_untell_5 rfl (lv_at hl 1 rfl) ?_
  refine lv_iconst (v := 0) hx hb dX7_untell_6 rfl ?_
  refine va_put (D := D) (ci := 7) (v := .int 0) (ty := .int) (C := RX7) (T := TX7) (N := 14) hx hb hts (fun _ h => List.mem_cons_of_mem _ (List.mem_append_right _ (h))) tyX7 tyX7_ok nmX7 hown hK hP (va_Dsame hD rfl) hS 0 rfl rfl 10 (by decide) (hts _ (List.mem_of_getElem? (i := 2) rfl)) (fun _ h9 => h9) rfl (tyX7_ok 10 (by decide)) rfl rfl (Nat.le_of_ble_eq_true rfl) dX7_untell_7 (fun H locs hP _ hS => ?_)
  have hP : va_P D vwCl [(a, .inr (7, [.ref a_text, .ref a_lease, .ref a_reader, .ref a_prover, .ref a_survey, .ref a_paths, .ref a_acts, .ref a_slots, .int i_hangingNow, .int i_hourNow, .int 0, .int i_toldLight, .int i_toldCount, .long j_seedNow]))] H := hP
  refine lv_aload_n hx hb dX7_untell_10 rfl (lv_at hl 1 rfl) ?_
  refine lv_iconst (v := 0) hx hb dX7_untell_11 rfl ?_
  refine va_put (D := D) (ci := 7) (v := .int 0) (ty := .int) (C := RX7) (T := TX7) (N := 14) hx hb hts (fun _ h => List.mem_cons_of_mem _ (List.mem_append_right _ (h))) tyX7 tyX7_ok nmX7 hown hK hP (va_Dsame hD rfl) hS 0 rfl rfl 11 (by decide) (hts _ (List.mem_of_getElem? (i := 3) rfl)) (fun _ h9 => h9) rfl (tyX7_ok 11 (by decide)) rfl rfl (Nat.le_of_ble_eq_true rfl) dX7_untell_12 (fun H locs hP _ hS => ?_)
  have hP : va_P D vwCl [(a, .inr (7, [.ref a_text, .ref a_lease, .ref a_reader, .ref a_prover, .ref a_survey, .ref a_paths, .ref a_acts, .ref a_slots, .int i_hangingNow, .int i_hourNow, .int 0, .int 0, .int i_toldCount, .long j_seedNow]))] H := hP
  refine lv_aload_n hx hb dX7_untell_15 rfl (lv_at hl 1 rfl) ?_
  refine lv_iconst (v := 0) hx hb dX7_untell_16 rfl ?_
  refine va_put (D := D) (ci := 7) (v := .int 0) (ty := .int) (C := RX7) (T := TX7) (N := 14) hx hb hts (fun _ h => List.mem_cons_of_mem _ (List.mem_append_right _ (h))) tyX7 tyX7_ok nmX7 hown hK hP (va_Dsame hD rfl) hS 0 rfl rfl 12 (by decide) (hts _ (List.mem_of_getElem? (i := 1) rfl)) (fun _ h9 => h9) rfl (tyX7_ok 12 (by decide)) rfl rfl (Nat.le_of_ble_eq_true rfl) dX7_untell_17 (fun H locs hP _ hS => ?_)
  have hP : va_P D vwCl [(a, .inr (7, [.ref a_text, .ref a_lease, .ref a_reader, .ref a_prover, .ref a_survey, .ref a_paths, .ref a_acts, .ref a_slots, .int i_hangingNow, .int i_hourNow, .int 0, .int 0, .int 0, .long j_seedNow]))] H := hP
  refine lv_iload_n hx hb dX7_untell_20 rfl (lv_at hl 0 rfl) ?_
  have e9 : v_X7_untell i_toldCount = (i_toldCount, 0, 0, 0) := by
    rfl
  rw [hQ]; exact retI (i_toldCount, 0, 0, 0) hx hb hr hlk e9 hP rfl hS dX7_untell_21
def v_X7_agreesWithTold (x1 : Int32) (i_toldDark : Int32) (i_toldLight : Int32) : Bool :=
  if (x1 &&& i_toldDark) = i_toldDark then (if (x1 &&& i_toldLight) = 0 then true
    else false)
  else false
abbrev rm_X7_agreesWithTold : Room := { frames := 0, cells := 0, slots := 0, locals := 0 }
set_option maxHeartbeats 4000000 in
set_option maxRecDepth 100000 in
theorem k_X7_agreesWithTold (l : Launch) (D : va_G) (cI cZ : ClassId) (a a_text a_lease a_reader a_prover a_survey a_paths a_acts a_slots : Nat) (x1 : Int32) (i_hangingNow : Int32) (i_hourNow : Int32) (i_toldDark : Int32) (i_toldLight : Int32) (i_toldCount : Int32) (j_seedNow : Int64) : KI l D cI cZ yX7_agreesWithTold wsX7_agreesWithTold rm_X7_agreesWithTold [.ref a, .int x1] [(a, .inr (7, [.ref a_text, .ref a_lease, .ref a_reader, .ref a_prover, .ref a_survey, .ref a_paths, .ref a_acts, .ref a_slots, .int i_hangingNow, .int i_hourNow, .int i_toldDark, .int i_toldLight, .int i_toldCount, .long j_seedNow]))] (v_X7_agreesWithTold x1 i_toldDark i_toldLight) (fun o : Bool => bI o) (fun _ : Bool => [(a, .inr (7, [.ref a_text, .ref a_lease, .ref a_reader, .ref a_prover, .ref a_survey, .ref a_paths, .ref a_acts, .ref a_slots, .int i_hangingNow, .int i_hourNow, .int i_toldDark, .int i_toldLight, .int i_toldCount, .long j_seedNow]))]) := by
  refine KI.of cX7_agreesWithTold 2 (some .boolean) (by decide) rfl (Nat.le_of_ble_eq_true rfl) ?_
  intro p e s m below meth c A ls ar Q hQ B
  obtain ⟨hx, hb, hr, hml, hts, hown, hlk, hK, hN, hP, hD, hA, hS, hl⟩ := B
  have hown : s.vm.findClass RX7 = some m.cls := hown
  have hF : CallFix p m c cX7_agreesWithTold 2 s ar wsX7_agreesWithTold RX7 := ⟨hx, hb, hml, hown, hts⟩
  have hl : lv_has ls 2 [(0, .ref a), (1, .int x1)] := hl
  refine lv_iload_n hx hb dX7_agreesWithTold_0 rfl (lv_at hl 1 rfl) ?_
  refine lv_aload_n hx hb dX7_agreesWithTold_1 rfl (lv_at hl 0 rfl) ?_
  refine va_get (D := D) (ci := 7) (v := .int i_toldDark) (C := RX7) (T := TX7) (N := 14) hx hb hts (fun _ h => List.mem_cons_of_mem _ (List.mem_append_right _ (h))) hown hK hP 0 rfl rfl 10 (by decide) (hts _ (List.mem_of_getElem? (i := 1) rfl)) (fun _ h9 => h9) rfl dX7_agreesWithTold_2 ?_
  refine lv_iand hx hb dX7_agreesWithTold_5 ?_
  refine lv_aload_n hx hb dX7_agreesWithTold_6 rfl (lv_at hl 0 rfl) ?_
  refine va_get (D := D) (ci := 7) (v := .int i_toldDark) (C := RX7) (T := TX7) (N := 14) hx hb hts (fun _ h => List.mem_cons_of_mem _ (List.mem_append_right _ (h))) hown hK hP 0 rfl rfl 10 (by decide) (hts _ (List.mem_of_getElem? (i := 1) rfl)) (fun _ h9 => h9) rfl dX7_agreesWithTold_7 ?_
  refine lv_icmp_ne (tgt := 26) hx hb dX7_agreesWithTold_10 (by decide) (fun c_10 => ?_) (fun c_10 => ?_)
  · refine lv_iconst (v := 0) hx hb dX7_agreesWithTold_26 rfl ?_
    have e9 : v_X7_agreesWithTold x1 i_toldDark i_toldLight = false := by
      refine (if_neg c_10).trans ?_
      rfl
    rw [hQ]; exact retZ (v := fun o : Bool => o) false hx hb hr hlk e9 hP rfl hS dX7_agreesWithTold_27
  · refine lv_iload_n hx hb dX7_agreesWithTold_13 rfl (lv_at hl 1 rfl) ?_
    refine lv_aload_n hx hb dX7_agreesWithTold_14 rfl (lv_at hl 0 rfl) ?_
    refine va_get (D := D) (ci := 7) (v := .int i_toldLight) (C := RX7) (T := TX7) (N := 14) hx hb hts (fun _ h => List.mem_cons_of_mem _ (List.mem_append_right _ (h))) hown hK hP 0 rfl rfl 11 (by decide) (hts _ (List.mem_of_getElem? (i := 2) rfl)) (fun _ h9 => h9) rfl dX7_agreesWithTold_15 ?_
    refine lv_iand hx hb dX7_agreesWithTold_18 ?_
    refine lv_if_ne (tgt := 26) hx hb dX7_agreesWithTold_19 (by decide) (fun c_19 => ?_) (fun c_19 => ?_)
    · refine lv_iconst (v := 0) hx hb dX7_agreesWithTold_26 rfl ?_
      have e9 : v_X7_agreesWithTold x1 i_toldDark i_toldLight = false := by
        refine (if_pos c_10).trans ?_
        refine (if_neg c_19).trans ?_
        rfl
      rw [hQ]; exact retZ (v := fun o : Bool => o) false hx hb hr hlk e9 hP rfl hS dX7_agreesWithTold_27
    · refine lv_iconst (v := 1) hx hb dX7_agreesWithTold_22 rfl ?_
      refine lv_goto (tgt := 27) hx hb dX7_agreesWithTold_23 (by decide) ?_
      have e9 : v_X7_agreesWithTold x1 i_toldDark i_toldLight = true := by
        refine (if_pos c_10).trans ?_
        refine (if_pos c_19).trans ?_
        rfl
      rw [hQ]; exact retZ (v := fun o : Bool => o) true hx hb hr hlk e9 hP rfl hS dX7_agreesWithTold_27
def v_X7_fits_L32c (x1 : Int32) (i_toldDark : Int32) (i_toldLight : Int32) (i32 : Nat) (z32_1 : Int32) (z32_2 : Int32) (z32_3 : Int32) : Int32 × Int32 × Int32 :=
  bnd (v_J6_bitCount_0f7a4 (nI i32)) fun o_42 =>
  (if o_42 = x1 then (bnd (v_X7_agreesWithTold (nI i32) i_toldDark i_toldLight) fun o_52 =>
    (if bI o_52 = 0 then (z32_1, z32_2, z32_3)
    else ((z32_1 ||| nI i32), (z32_2 &&& nI i32), (z32_3 + 1))))
  else (z32_1, z32_2, z32_3))
def v_X7_fits_L32 (x1 : Int32) (i_toldDark : Int32) (i_toldLight : Int32) (i32 : Nat) (z32 : Int32 × Int32 × Int32) : Int32 × Int32 × Int32 := v_X7_fits_L32c x1 i_toldDark i_toldLight i32 z32.1 z32.2.1 z32.2.2
def v_X7_fits (x1 : Int32) (x2 : Int32) (i_toldDark : Int32) (i_toldLight : Int32) : Int32 :=
  bnd (v_X7_isSquares x1) fun o_1 =>
  (if bI o_1 = 0 then (-2)
  else (if x2 < 0 then (-2)
  else (if x2 ≤ 2 then (bnd3 (it (v_X7_fits_L32 x1 i_toldDark i_toldLight) 4096 0 (0, 4095, 0)) fun o_L32_1 o_L32_2 o_L32_3 =>
    (if x2 = 0 then o_L32_3
    else (if o_L32_3 = 0 then (-9)
    else (if x2 = 1 then o_L32_2
    else (4095 &&& (o_L32_1 ^^^ (-1)))))))
  else (-2))))
abbrev rm_X7_fits : Room := { frames := 1, cells := 0, slots := 0, locals := 21 }
set_option maxHeartbeats 4000000 in
set_option maxRecDepth 100000 in
theorem k_X7_fits (l : Launch) (D : va_G) (cI cZ : ClassId) (a a_text a_lease a_reader a_prover a_survey a_paths a_acts a_slots : Nat) (x1 : Int32) (x2 : Int32) (i_hangingNow : Int32) (i_hourNow : Int32) (i_toldDark : Int32) (i_toldLight : Int32) (i_toldCount : Int32) (j_seedNow : Int64) : KI l D cI cZ yX7_fits wsX7_fits rm_X7_fits [.ref a, .int x1, .int x2] [(a, .inr (7, [.ref a_text, .ref a_lease, .ref a_reader, .ref a_prover, .ref a_survey, .ref a_paths, .ref a_acts, .ref a_slots, .int i_hangingNow, .int i_hourNow, .int i_toldDark, .int i_toldLight, .int i_toldCount, .long j_seedNow]))] (v_X7_fits x1 x2 i_toldDark i_toldLight) (fun o : Int32 => o) (fun _ : Int32 => [(a, .inr (7, [.ref a_text, .ref a_lease, .ref a_reader, .ref a_prover, .ref a_survey, .ref a_paths, .ref a_acts, .ref a_slots, .int i_hangingNow, .int i_hourNow, .int i_toldDark, .int i_toldLight, .int i_toldCount, .long j_seedNow]))]) := by
  refine KI.of cX7_fits 7 (some .int) (by decide) rfl (Nat.le_of_ble_eq_true rfl) ?_
  intro p e s m below meth c A ls ar Q hQ B
  obtain ⟨hx, hb, hr, hml, hts, hown, hlk, hK, hN, hP, hD, hA, hS, hl⟩ := B
  have hown : s.vm.findClass RX7 = some m.cls := hown
  have hF : CallFix p m c cX7_fits 7 s ar wsX7_fits RX7 := ⟨hx, hb, hml, hown, hts⟩
  have hl : lv_has ls 7 [(0, .ref a), (1, .int x1), (2, .int x2)] := hl
  refine lv_iload_n hx hb dX7_fits_0 rfl (lv_at hl 1 rfl) ?_
  obtain ⟨o_1, ho_1⟩ : ∃ z : Bool, z = v_X7_isSquares x1 := ⟨_, rfl⟩
  refine callSIs (As := [.int x1]) (rest := []) o_1 ho_1 hF (k_X7_isSquares l D cI cZ x1) (va_cwS 1 hts gX7_fits_X7_isSquares rfl rfl rfl (by decide +kernel) ⟨Nat.le_of_ble_eq_true rfl, Nat.le_of_ble_eq_true rfl⟩) hK hN hP (va_Dsame hD rfl) hS hA [] rfl rfl rfl hl.1 rfl (Nat.le_of_ble_eq_true rfl) dX7_fits_1 ⟨Nat.zero_le _, Nat.zero_le _⟩ (bI o_1) rfl rfl (fun H locs hP hS => ?_)
  refine lv_if_eq (tgt := 16) hx hb dX7_fits_4 (by decide) (fun c_4 => ?_) (fun c_4 => ?_)
  · refine lv_bipush (v := (-2)) hx hb dX7_fits_16 rfl ?_
    have e9 : v_X7_fits x1 x2 i_toldDark i_toldLight = (-2) := by
      refine (bnd_eq ho_1).trans ?_
      refine (if_pos c_4).trans ?_
      rfl
    rw [hQ]; exact retI (-2) hx hb hr hlk e9 hP rfl hS dX7_fits_18
  · refine lv_iload_n hx hb dX7_fits_7 rfl (lv_at hl 2 rfl) ?_
    refine lv_if_lt (tgt := 16) hx hb dX7_fits_8 (by decide) (fun c_8 => ?_) (fun c_8 => ?_)
    · refine lv_bipush (v := (-2)) hx hb dX7_fits_16 rfl ?_
      have e9 : v_X7_fits x1 x2 i_toldDark i_toldLight = (-2) := by
        refine (bnd_eq ho_1).trans ?_
        refine (if_neg c_4).trans ?_
        refine (if_pos c_8).trans ?_
        rfl
      rw [hQ]; exact retI (-2) hx hb hr hlk e9 hP rfl hS dX7_fits_18
    · refine lv_iload_n hx hb dX7_fits_11 rfl (lv_at hl 2 rfl) ?_
      refine lv_iconst (v := 2) hx hb dX7_fits_12 rfl ?_
      refine lv_icmp_le (tgt := 19) hx hb dX7_fits_13 (by decide) (fun c_13 => ?_) (fun c_13 => ?_)
      · refine lv_iconst (v := 0) hx hb dX7_fits_19 rfl ?_
        refine lv_istore_n (lv' := [(3, .int 0), (0, .ref a), (1, .int x1), (2, .int x2)]) hx hb dX7_fits_20 rfl hl (by decide) rfl (fun ls hl => ?_)
        refine lv_sipush (v := 4095) hx hb dX7_fits_21 rfl ?_
        refine lv_istore (lv' := [(4, .int 4095), (3, .int 0), (0, .ref a), (1, .int x1), (2, .int x2)]) hx hb dX7_fits_24 hl (by decide) rfl (fun ls hl => ?_)
        refine lv_iconst (v := 0) hx hb dX7_fits_26 rfl ?_
        refine lv_istore (lv' := [(5, .int 0), (4, .int 4095), (3, .int 0), (0, .ref a), (1, .int x1), (2, .int x2)]) hx hb dX7_fits_27 hl (by decide) rfl (fun ls hl => ?_)
        refine lv_iconst (v := 0) hx hb dX7_fits_29 rfl ?_
        refine lv_istore (lv' := [(6, .int 0), (5, .int 0), (4, .int 4095), (3, .int 0), (0, .ref a), (1, .int x1), (2, .int x2)]) hx hb dX7_fits_30 hl (by decide) rfl (fun ls hl => ?_)
        obtain ⟨o_L32_1, o_L32_2, o_L32_3, ho_L32⟩ := ex3 (it (v_X7_fits_L32 x1 i_toldDark i_toldLight) 4096 0 (0, 4095, 0))
        have kE32 : ∀ (H : Heap) (locs : List Loc) (ls : Array Slot), va_P D vwCl [(a, .inr (7, [.ref a_text, .ref a_lease, .ref a_reader, .ref a_prover, .ref a_survey, .ref a_paths, .ref a_acts, .ref a_slots, .int i_hangingNow, .int i_hourNow, .int i_toldDark, .int i_toldLight, .int i_toldCount, .long j_seedNow]))] H → va_S A s.heap H locs → lv_has ls 7 [(5, .int o_L32_1), (4, .int o_L32_2), (3, .int o_L32_3), (2, .int x2)] → W p l e rm_X7_fits s m ar below meth c H locs 0 0 Q (F0 m 81 ls []) := by
          intro H locs ls hP hS hl
          refine lv_iload_n hx hb dX7_fits_81 rfl (lv_at hl 3 rfl) ?_
          refine lv_if_ne (tgt := 87) hx hb dX7_fits_82 (by decide) (fun c_82 => ?_) (fun c_82 => ?_)
          · refine lv_iload_n hx hb dX7_fits_87 rfl (lv_at hl 2 rfl) ?_
            refine lv_if_ne (tgt := 94) hx hb dX7_fits_88 (by decide) (fun c_88 => ?_) (fun c_88 => ?_)
            · refine lv_iload_n hx hb dX7_fits_94 rfl (lv_at hl 3 rfl) ?_
              refine lv_iconst (v := 1) hx hb dX7_fits_95 rfl ?_
              refine lv_icmp_ne (tgt := 104) hx hb dX7_fits_96 (by decide) (fun c_96 => ?_) (fun c_96 => ?_)
              · refine lv_sipush (v := 4095) hx hb dX7_fits_104 rfl ?_
                refine lv_iload hx hb dX7_fits_107 (lv_at hl 0 rfl) ?_
                refine lv_iconst (v := (-1)) hx hb dX7_fits_109 rfl ?_
                refine lv_ixor hx hb dX7_fits_110 ?_
                refine lv_iand hx hb dX7_fits_111 ?_
                have e9 : v_X7_fits x1 x2 i_toldDark i_toldLight = (4095 &&& (o_L32_1 ^^^ (-1))) := by
                  refine (bnd_eq ho_1).trans ?_
                  refine (if_neg c_4).trans ?_
                  refine (if_neg c_8).trans ?_
                  refine (if_pos c_13).trans ?_
                  refine (bnd3_eq ho_L32).trans ?_
                  refine (if_neg c_82).trans ?_
                  refine (if_neg c_88).trans ?_
                  refine (if_neg c_96).trans ?_
                  rfl
                rw [hQ]; exact retI (4095 &&& (o_L32_1 ^^^ (-1))) hx hb hr hlk e9 hP rfl hS dX7_fits_112
              · refine lv_iload hx hb dX7_fits_99 (lv_at hl 1 rfl) ?_
                refine lv_goto (tgt := 112) hx hb dX7_fits_101 (by decide) ?_
                have e9 : v_X7_fits x1 x2 i_toldDark i_toldLight = o_L32_2 := by
                  refine (bnd_eq ho_1).trans ?_
                  refine (if_neg c_4).trans ?_
                  refine (if_neg c_8).trans ?_
                  refine (if_pos c_13).trans ?_
                  refine (bnd3_eq ho_L32).trans ?_
                  refine (if_neg c_82).trans ?_
                  refine (if_neg c_88).trans ?_
                  refine (if_pos c_96).trans ?_
                  rfl
                rw [hQ]; exact retI o_L32_2 hx hb hr hlk e9 hP rfl hS dX7_fits_112
            · refine lv_bipush (v := (-9)) hx hb dX7_fits_91 rfl ?_
              have e9 : v_X7_fits x1 x2 i_toldDark i_toldLight = (-9) := by
                refine (bnd_eq ho_1).trans ?_
                refine (if_neg c_4).trans ?_
                refine (if_neg c_8).trans ?_
                refine (if_pos c_13).trans ?_
                refine (bnd3_eq ho_L32).trans ?_
                refine (if_neg c_82).trans ?_
                refine (if_pos c_88).trans ?_
                rfl
              rw [hQ]; exact retI (-9) hx hb hr hlk e9 hP rfl hS dX7_fits_93
          · refine lv_iload_n hx hb dX7_fits_85 rfl (lv_at hl 2 rfl) ?_
            have e9 : v_X7_fits x1 x2 i_toldDark i_toldLight = o_L32_3 := by
              refine (bnd_eq ho_1).trans ?_
              refine (if_neg c_4).trans ?_
              refine (if_neg c_8).trans ?_
              refine (if_pos c_13).trans ?_
              refine (bnd3_eq ho_L32).trans ?_
              refine (if_pos c_82).trans ?_
              rfl
            rw [hQ]; exact retI o_L32_3 hx hb hr hlk e9 hP rfl hS dX7_fits_86
        have loop32 : ∀ (k i32 : Nat) (z32 : Int32 × Int32 × Int32), 0 ≤ i32 → i32 + k = 0 + 4096 → it (v_X7_fits_L32 x1 i_toldDark i_toldLight) k i32 z32 = (o_L32_1, o_L32_2, o_L32_3) → ∀ (H : Heap) (locs : List Loc) (ls : Array Slot), va_P D vwCl [(a, .inr (7, [.ref a_text, .ref a_lease, .ref a_reader, .ref a_prover, .ref a_survey, .ref a_paths, .ref a_acts, .ref a_slots, .int i_hangingNow, .int i_hourNow, .int i_toldDark, .int i_toldLight, .int i_toldCount, .long j_seedNow]))] H → va_S A s.heap H locs → lv_has ls 7 [(6, .int (nI i32)), (5, .int z32.1), (4, .int z32.2.1), (3, .int z32.2.2), (0, .ref a), (1, .int x1), (2, .int x2)] → W p l e rm_X7_fits s m ar below meth c H locs 0 0 Q (F0 m 32 ls []) := by
          intro k
          induction k with
          | zero =>
            intro i32 z32 hi0 hik hz H locs ls hP hS hl
            have hz : z32 = (o_L32_1, o_L32_2, o_L32_3) := it_0 hz
            subst z32
            have hP : va_P D vwCl [(a, .inr (7, [.ref a_text, .ref a_lease, .ref a_reader, .ref a_prover, .ref a_survey, .ref a_paths, .ref a_acts, .ref a_slots, .int i_hangingNow, .int i_hourNow, .int i_toldDark, .int i_toldLight, .int i_toldCount, .long j_seedNow]))] H := hP
            have hl : lv_has ls 7 [(6, .int (nI i32)), (5, .int o_L32_1), (4, .int o_L32_2), (3, .int o_L32_3), (0, .ref a), (1, .int x1), (2, .int x2)] := hl
            refine lv_iload hx hb dX7_fits_32 (lv_at hl 0 rfl) ?_
            refine lv_sipush (v := 4096) hx hb dX7_fits_34 rfl ?_
            refine lv_icmp_ge (tgt := 81) hx hb dX7_fits_37 (by decide) (fun _ => ?_) (fun c => absurd (nI_le (a := 4096) (by omega) (by omega)) c)
            exact kE32 _ _ _ hP hS (lv_sub hl [1, 2, 3, 6] rfl)
          | succ k ih =>
            intro i32 z32 hi0 hik hz H locs ls hP hS hl
            obtain ⟨z32_1, z32_2, z32_3⟩ := z32
            have hP : va_P D vwCl [(a, .inr (7, [.ref a_text, .ref a_lease, .ref a_reader, .ref a_prover, .ref a_survey, .ref a_paths, .ref a_acts, .ref a_slots, .int i_hangingNow, .int i_hourNow, .int i_toldDark, .int i_toldLight, .int i_toldCount, .long j_seedNow]))] H := hP
            have hl : lv_has ls 7 [(6, .int (nI i32)), (5, .int z32_1), (4, .int z32_2), (3, .int z32_3), (0, .ref a), (1, .int x1), (2, .int x2)] := hl
            refine lv_iload hx hb dX7_fits_32 (lv_at hl 0 rfl) ?_
            refine lv_sipush (v := 4096) hx hb dX7_fits_34 rfl ?_
            refine lv_icmp_ge (tgt := 81) hx hb dX7_fits_37 (by decide) (fun c => absurd c (nI_ge (b := 4096) (by omega) (by decide))) (fun _ => ?_)
            refine lv_iload hx hb dX7_fits_40 (lv_at hl 0 rfl) ?_
            obtain ⟨o_42, ho_42⟩ : ∃ z : Int32, z = v_J6_bitCount_0f7a4 (nI i32) := ⟨_, rfl⟩
            refine callSIs (As := [.int (nI i32)]) (rest := []) o_42 ho_42 hF (k_J6_bitCount_0f7a4 l D cI cZ (nI i32)) (va_cwS 1 hts gX7_fits_J6_bitCount_0f7a4 rfl rfl rfl (by decide +kernel) ⟨Nat.le_of_ble_eq_true rfl, Nat.le_of_ble_eq_true rfl⟩) hK hN hP (va_Dsame hD rfl) hS hA [] rfl rfl rfl hl.1 rfl (Nat.le_of_ble_eq_true rfl) dX7_fits_42 ⟨Nat.zero_le _, Nat.zero_le _⟩ o_42 rfl rfl (fun H locs hP hS => ?_)
            refine lv_iload_n hx hb dX7_fits_45 rfl (lv_at hl 5 rfl) ?_
            refine lv_icmp_ne (tgt := 75) hx hb dX7_fits_46 (by decide) (fun c_46 => ?_) (fun c_46 => ?_)
            · refine lv_iinc (v := (nI (i32 + 1))) (lv' := [(6, .int (nI (i32 + 1))), (5, .int z32_1), (4, .int z32_2), (3, .int z32_3), (0, .ref a), (1, .int x1), (2, .int x2)]) hx hb dX7_fits_75 hl (k := 0) rfl (nI_1 _) (by decide) rfl (fun ls hl => ?_)
              refine lv_goto (tgt := 32) hx hb dX7_fits_78 (by decide) ?_
              have e8 : v_X7_fits_L32 x1 i_toldDark i_toldLight i32 (z32_1, z32_2, z32_3) = (z32_1, z32_2, z32_3) := by
                show v_X7_fits_L32c x1 i_toldDark i_toldLight i32 z32_1 z32_2 z32_3 = (z32_1, z32_2, z32_3)
                refine (bnd_eq ho_42).trans ?_
                refine (if_neg c_46).trans ?_
                rfl
              exact ih (i32 + 1) (z32_1, z32_2, z32_3) (by omega) (by omega) (it_go e8 hz) _ _ _ hP hS (lv_sub hl [0, 1, 2, 3, 4, 5, 6] rfl)
            · refine lv_aload_n hx hb dX7_fits_49 rfl (lv_at hl 4 rfl) ?_
              refine lv_iload hx hb dX7_fits_50 (lv_at hl 0 rfl) ?_
              obtain ⟨o_52, ho_52⟩ : ∃ z : Bool, z = v_X7_agreesWithTold (nI i32) i_toldDark i_toldLight := ⟨_, rfl⟩
              refine callVIs (As := [.int (nI i32)]) (rest := []) o_52 ho_52 hF (k_X7_agreesWithTold l D cI cZ a a_text a_lease a_reader a_prover a_survey a_paths a_acts a_slots (nI i32) i_hangingNow i_hourNow i_toldDark i_toldLight i_toldCount j_seedNow) (cwV 1 hts gX7_fits_X7_agreesWithTold rfl rfl rfl (by decide +kernel) ⟨Nat.le_of_ble_eq_true rfl, Nat.le_of_ble_eq_true rfl⟩) hK hN hP (va_Dsame hD rfl) hS hA [0] rfl rfl 0 7 (T := TX7) (N := 14) rfl rfl rfl hl.1 rfl (Nat.le_of_ble_eq_true rfl) dX7_fits_52 ⟨Nat.zero_le _, Nat.zero_le _⟩ (bI o_52) rfl rfl (fun H locs hP hS => ?_)
              refine lv_if_eq (tgt := 75) hx hb dX7_fits_55 (by decide) (fun c_55 => ?_) (fun c_55 => ?_)
              · refine lv_iinc (v := (nI (i32 + 1))) (lv' := [(6, .int (nI (i32 + 1))), (5, .int z32_1), (4, .int z32_2), (3, .int z32_3), (0, .ref a), (1, .int x1), (2, .int x2)]) hx hb dX7_fits_75 hl (k := 0) rfl (nI_1 _) (by decide) rfl (fun ls hl => ?_)
                refine lv_goto (tgt := 32) hx hb dX7_fits_78 (by decide) ?_
                have e8 : v_X7_fits_L32 x1 i_toldDark i_toldLight i32 (z32_1, z32_2, z32_3) = (z32_1, z32_2, z32_3) := by
                  show v_X7_fits_L32c x1 i_toldDark i_toldLight i32 z32_1 z32_2 z32_3 = (z32_1, z32_2, z32_3)
                  refine (bnd_eq ho_42).trans ?_
                  refine (if_pos c_46).trans ?_
                  refine (bnd_eq ho_52).trans ?_
                  refine (if_pos c_55).trans ?_
                  rfl
                exact ih (i32 + 1) (z32_1, z32_2, z32_3) (by omega) (by omega) (it_go e8 hz) _ _ _ hP hS (lv_sub hl [0, 1, 2, 3, 4, 5, 6] rfl)
              · refine lv_iinc (v := (z32_3 + 1)) (lv' := [(3, .int (z32_3 + 1)), (6, .int (nI i32)), (5, .int z32_1), (4, .int z32_2), (0, .ref a), (1, .int x1), (2, .int x2)]) hx hb dX7_fits_58 hl (k := 3) rfl rfl (by decide) rfl (fun ls hl => ?_)
                refine lv_iload hx hb dX7_fits_61 (lv_at hl 3 rfl) ?_
                refine lv_iload hx hb dX7_fits_63 (lv_at hl 1 rfl) ?_
                refine lv_iand hx hb dX7_fits_65 ?_
                refine lv_istore (lv' := [(4, .int (z32_2 &&& nI i32)), (3, .int (z32_3 + 1)), (6, .int (nI i32)), (5, .int z32_1), (0, .ref a), (1, .int x1), (2, .int x2)]) hx hb dX7_fits_66 hl (by decide) rfl (fun ls hl => ?_)
                refine lv_iload hx hb dX7_fits_68 (lv_at hl 3 rfl) ?_
                refine lv_iload hx hb dX7_fits_70 (lv_at hl 2 rfl) ?_
                refine lv_ior hx hb dX7_fits_72 ?_
                refine lv_istore (lv' := [(5, .int (z32_1 ||| nI i32)), (4, .int (z32_2 &&& nI i32)), (3, .int (z32_3 + 1)), (6, .int (nI i32)), (0, .ref a), (1, .int x1), (2, .int x2)]) hx hb dX7_fits_73 hl (by decide) rfl (fun ls hl => ?_)
                refine lv_iinc (v := (nI (i32 + 1))) (lv' := [(6, .int (nI (i32 + 1))), (5, .int (z32_1 ||| nI i32)), (4, .int (z32_2 &&& nI i32)), (3, .int (z32_3 + 1)), (0, .ref a), (1, .int x1), (2, .int x2)]) hx hb dX7_fits_75 hl (k := 3) rfl (nI_1 _) (by decide) rfl (fun ls hl => ?_)
                refine lv_goto (tgt := 32) hx hb dX7_fits_78 (by decide) ?_
                have e8 : v_X7_fits_L32 x1 i_toldDark i_toldLight i32 (z32_1, z32_2, z32_3) = ((z32_1 ||| nI i32), (z32_2 &&& nI i32), (z32_3 + 1)) := by
                  show v_X7_fits_L32c x1 i_toldDark i_toldLight i32 z32_1 z32_2 z32_3 = ((z32_1 ||| nI i32), (z32_2 &&& nI i32), (z32_3 + 1))
                  refine (bnd_eq ho_42).trans ?_
                  refine (if_pos c_46).trans ?_
                  refine (bnd_eq ho_52).trans ?_
                  refine (if_neg c_55).trans ?_
                  rfl
                exact ih (i32 + 1) ((z32_1 ||| nI i32), (z32_2 &&& nI i32), (z32_3 + 1)) (by omega) (by omega) (it_go e8 hz) _ _ _ hP hS (lv_sub hl [0, 1, 2, 3, 4, 5, 6] rfl)
        exact loop32 4096 0 (0, 4095, 0) (Nat.le_refl _) rfl ho_L32.symm _ _ _ hP hS (lv_sub hl [0, 1, 2, 3, 4, 5, 6] rfl)
      · refine lv_bipush (v := (-2)) hx hb dX7_fits_16 rfl ?_
        have e9 : v_X7_fits x1 x2 i_toldDark i_toldLight = (-2) := by
          refine (bnd_eq ho_1).trans ?_
          refine (if_neg c_4).trans ?_
          refine (if_neg c_8).trans ?_
          refine (if_neg c_13).trans ?_
          rfl
        rw [hQ]; exact retI (-2) hx hb hr hlk e9 hP rfl hS dX7_fits_18
def v_X7_power_L4 (x0 : Int32) (i4 : Nat) (z4 : Int32) : Int32 :=
  (z4 * x0)
def v_X7_power (x0 : Int32) (x1 : Int32) : Int32 :=
  bnd (it (v_X7_power_L4 x0) x1.toNatClampNeg 0 1) fun o_L4 =>
  o_L4
abbrev rm_X7_power : Room := { frames := 0, cells := 0, slots := 0, locals := 0 }
set_option maxHeartbeats 4000000 in
set_option maxRecDepth 100000 in
theorem k_X7_power (l : Launch) (D : va_G) (cI cZ : ClassId) (x0 : Int32) (x1 : Int32) : KI l D cI cZ yX7_power wsX7_power rm_X7_power [.int x0, .int x1] [] (v_X7_power x0 x1) (fun o : Int32 => o) (fun _ : Int32 => []) := by
  refine KI.of cX7_power 4 (some .int) (by decide) rfl (Nat.le_of_ble_eq_true rfl) ?_
  intro p e s m below meth c A ls ar Q hQ B
  obtain ⟨hx, hb, hr, hml, hts, hown, hlk, hK, hN, hP, hD, hA, hS, hl⟩ := B
  have hown : s.vm.findClass RX7 = some m.cls := hown
  have hF : CallFix p m c cX7_power 4 s ar wsX7_power RX7 := ⟨hx, hb, hml, hown, hts⟩
  have hl : lv_has ls 4 [(0, .int x0), (1, .int x1)] := hl
  refine lv_iconst (v := 1) hx hb dX7_power_0 rfl ?_
  refine lv_istore_n (lv' := [(2, .int 1), (0, .int x0), (1, .int x1)]) hx hb dX7_power_1 rfl hl (by decide) rfl (fun ls hl => ?_)
  refine lv_iconst (v := 0) hx hb dX7_power_2 rfl ?_
  refine lv_istore_n (lv' := [(3, .int 0), (2, .int 1), (0, .int x0), (1, .int x1)]) hx hb dX7_power_3 rfl hl (by decide) rfl (fun ls hl => ?_)
  obtain ⟨o_L4, ho_L4⟩ : ∃ z : Int32, z = it (v_X7_power_L4 x0) x1.toNatClampNeg 0 1 := ⟨_, rfl⟩
  have kE4 : ∀ (H : Heap) (locs : List Loc) (ls : Array Slot), va_P D vwCl [] H → va_S A s.heap H locs → lv_has ls 4 [(2, .int o_L4)] → W p l e rm_X7_power s m ar below meth c H locs 0 0 Q (F0 m 19 ls []) := by
    intro H locs ls hP hS hl
    refine lv_iload_n hx hb dX7_power_19 rfl (lv_at hl 0 rfl) ?_
    have e9 : v_X7_power x0 x1 = o_L4 := by
      refine (bnd_eq ho_L4).trans ?_
      rfl
    rw [hQ]; exact retI o_L4 hx hb hr hlk e9 hP rfl hS dX7_power_20
  have loop4 : ∀ (k i4 : Nat) (z4 : Int32), 0 ≤ i4 → i4 + k = 0 + x1.toNatClampNeg → it (v_X7_power_L4 x0) k i4 z4 = o_L4 → ∀ (H : Heap) (locs : List Loc) (ls : Array Slot), va_P D vwCl [] H → va_S A s.heap H locs → lv_has ls 4 [(3, .int (nI i4)), (2, .int z4), (0, .int x0), (1, .int x1)] → W p l e rm_X7_power s m ar below meth c H locs 0 0 Q (F0 m 4 ls []) := by
    intro k
    induction k with
    | zero =>
      intro i4 z4 hi0 hik hz H locs ls hP hS hl
      have hz : z4 = o_L4 := it_0 hz
      subst z4
      refine lv_iload_n hx hb dX7_power_4 rfl (lv_at hl 0 rfl) ?_
      refine lv_iload_n hx hb dX7_power_5 rfl (lv_at hl 3 rfl) ?_
      refine lv_icmp_ge (tgt := 19) hx hb dX7_power_6 (by decide) (fun _ => ?_) (fun c => absurd (cb_ge (by omega) (by have := cb_lt31 x1; omega)) c)
      exact kE4 _ _ _ hP hS (lv_sub hl [1] rfl)
    | succ k ih =>
      intro i4 z4 hi0 hik hz H locs ls hP hS hl
      refine lv_iload_n hx hb dX7_power_4 rfl (lv_at hl 0 rfl) ?_
      refine lv_iload_n hx hb dX7_power_5 rfl (lv_at hl 3 rfl) ?_
      refine lv_icmp_ge (tgt := 19) hx hb dX7_power_6 (by decide) (fun c => absurd c (cb_lt (by omega))) (fun _ => ?_)
      refine lv_iload_n hx hb dX7_power_9 rfl (lv_at hl 1 rfl) ?_
      refine lv_iload_n hx hb dX7_power_10 rfl (lv_at hl 2 rfl) ?_
      refine lv_imul hx hb dX7_power_11 ?_
      refine lv_istore_n (lv' := [(2, .int (z4 * x0)), (3, .int (nI i4)), (0, .int x0), (1, .int x1)]) hx hb dX7_power_12 rfl hl (by decide) rfl (fun ls hl => ?_)
      refine lv_iinc (v := (nI (i4 + 1))) (lv' := [(3, .int (nI (i4 + 1))), (2, .int (z4 * x0)), (0, .int x0), (1, .int x1)]) hx hb dX7_power_13 hl (k := 1) rfl (nI_1 _) (by decide) rfl (fun ls hl => ?_)
      refine lv_goto (tgt := 4) hx hb dX7_power_16 (by decide) ?_
      have e8 : v_X7_power_L4 x0 i4 z4 = (z4 * x0) := by
        rfl
      exact ih (i4 + 1) (z4 * x0) (by omega) (by omega) (it_go e8 hz) _ _ _ hP hS (lv_sub hl [0, 1, 2, 3] rfl)
  exact loop4 x1.toNatClampNeg 0 1 (Nat.le_refl _) rfl ho_L4.symm _ _ _ hP hS (lv_sub hl [0, 1, 2, 3] rfl)
def v_X7_wind_L24 (x1 : Int32) (i_hangingNow : Int32) (i_lease_wishCount : Int32) (f_lease_cells : Nat → Int32) (f_lease_needs : Nat → Int32) (f_lease_values : Nat → Int32) (o_14 : Int32) (i24 : Nat) (z24 : Int32) : Int32 :=
  if (nI i24 &&& (i_hangingNow ^^^ (-1))) = 0 then (bnd (v_J6_bitCount_0f7a4 (nI i24)) fun o_46 =>
    (bnd (v_X7_power (10 - x1) o_46) fun o_59 =>
    (bnd (v_X7_power x1 (o_14 - o_46)) fun o_67 =>
    (bnd (v_X1_worthOf (nI i24) i_lease_wishCount f_lease_cells f_lease_needs f_lease_values) fun o_77 =>
    (z24 + ((o_59 * o_67) * o_77))))))
  else z24
def v_X7_wind (x1 : Int32) (b2 : Bool) (i_hangingNow : Int32) (i_lease_wishCount : Int32) (f_lease_cells : Nat → Int32) (f_lease_needs : Nat → Int32) (f_lease_values : Nat → Int32) : Int32 :=
  if x1 < 0 then (-2)
  else (if x1 ≤ 10 then (bnd (v_X7_squaresNow i_hangingNow) fun o_14 =>
    (bnd (it (v_X7_wind_L24 x1 i_hangingNow i_lease_wishCount f_lease_cells f_lease_needs f_lease_values o_14) 4096 0 0) fun o_L24 =>
    (bnd (v_X7_power 10 o_14) fun o_95 =>
    (bnd (v_X7_inLeastTerms o_L24 o_95 b2) fun o_99 =>
    o_99))))
  else (-2))
abbrev rm_X7_wind : Room := { frames := 3, cells := 0, slots := 0, locals := 65 }
set_option maxHeartbeats 4000000 in
set_option maxRecDepth 100000 in
theorem k_X7_wind (l : Launch) (D : va_G) (cI cZ : ClassId) (a a_text a_lease a_reader a_prover a_survey a_paths a_acts a_slots a_lease_places a_lease_firstHours a_lease_spans a_lease_values a_lease_cells a_lease_needs a_lease_owed a_lease_room n_lease_cells n_lease_needs n_lease_values : Nat) (x1 : Int32) (b2 : Bool) (i_hangingNow : Int32) (i_hourNow : Int32) (i_toldDark : Int32) (i_toldLight : Int32) (i_toldCount : Int32) (j_seedNow : Int64) (i_lease_squares : Int32) (i_lease_wishCount : Int32) (i_lease_owedPlaces : Int32) (f_lease_cells : Nat → Int32) (f_lease_needs : Nat → Int32) (f_lease_values : Nat → Int32) : KI l D cI cZ yX7_wind wsX7_wind rm_X7_wind [.ref a, .int x1, .int (bI b2)] [(a, .inr (7, [.ref a_text, .ref a_lease, .ref a_reader, .ref a_prover, .ref a_survey, .ref a_paths, .ref a_acts, .ref a_slots, .int i_hangingNow, .int i_hourNow, .int i_toldDark, .int i_toldLight, .int i_toldCount, .long j_seedNow])), (a_lease, .inr (1, [.ref a_lease_places, .ref a_lease_firstHours, .ref a_lease_spans, .ref a_lease_values, .ref a_lease_cells, .ref a_lease_needs, .ref a_lease_owed, .ref a_lease_room, .int i_lease_squares, .int i_lease_wishCount, .int i_lease_owedPlaces])), (a_lease_cells, .inr (4, [.ref n_lease_cells])), (n_lease_cells, .inl (cI, 5, .inl f_lease_cells)), (a_lease_needs, .inr (4, [.ref n_lease_needs])), (n_lease_needs, .inl (cI, 5, .inl f_lease_needs)), (a_lease_values, .inr (4, [.ref n_lease_values])), (n_lease_values, .inl (cI, 5, .inl f_lease_values))] (v_X7_wind x1 b2 i_hangingNow i_lease_wishCount f_lease_cells f_lease_needs f_lease_values) (fun o : Int32 => o) (fun _ : Int32 => [(a, .inr (7, [.ref a_text, .ref a_lease, .ref a_reader, .ref a_prover, .ref a_survey, .ref a_paths, .ref a_acts, .ref a_slots, .int i_hangingNow, .int i_hourNow, .int i_toldDark, .int i_toldLight, .int i_toldCount, .long j_seedNow])), (a_lease, .inr (1, [.ref a_lease_places, .ref a_lease_firstHours, .ref a_lease_spans, .ref a_lease_values, .ref a_lease_cells, .ref a_lease_needs, .ref a_lease_owed, .ref a_lease_room, .int i_lease_squares, .int i_lease_wishCount, .int i_lease_owedPlaces])), (a_lease_cells, .inr (4, [.ref n_lease_cells])), (n_lease_cells, .inl (cI, 5, .inl f_lease_cells)), (a_lease_needs, .inr (4, [.ref n_lease_needs])), (n_lease_needs, .inl (cI, 5, .inl f_lease_needs)), (a_lease_values, .inr (4, [.ref n_lease_values])), (n_lease_values, .inl (cI, 5, .inl f_lease_values))]) := by
  refine KI.of cX7_wind 7 (some .int) (by decide) rfl (Nat.le_of_ble_eq_true rfl) ?_
  intro p e s m below meth c A ls ar Q hQ B
  obtain ⟨hx, hb, hr, hml, hts, hown, hlk, hK, hN, hP, hD, hA, hS, hl⟩ := B
  have hown : s.vm.findClass RX7 = some m.cls := hown
  have hF : CallFix p m c cX7_wind 7 s ar wsX7_wind RX7 := ⟨hx, hb, hml, hown, hts⟩
  have hl : lv_has ls 7 [(0, .ref a), (1, .int x1), (2, .int (bI b2))] := hl
  refine lv_iload_n hx hb dX7_wind_0 rfl (lv_at hl 1 rfl) ?_
  refine lv_if_lt (tgt := 10) hx hb dX7_wind_1 (by decide) (fun c_1 => ?_) (fun c_1 => ?_)
  · refine lv_bipush (v := (-2)) hx hb dX7_wind_10 rfl ?_
    have e9 : v_X7_wind x1 b2 i_hangingNow i_lease_wishCount f_lease_cells f_lease_needs f_lease_values = (-2) := by
      refine (if_pos c_1).trans ?_
      rfl
    rw [hQ]; exact retI (-2) hx hb hr hlk e9 hP rfl hS dX7_wind_12
  · refine lv_iload_n hx hb dX7_wind_4 rfl (lv_at hl 1 rfl) ?_
    refine lv_bipush (v := 10) hx hb dX7_wind_5 rfl ?_
    refine lv_icmp_le (tgt := 13) hx hb dX7_wind_7 (by decide) (fun c_7 => ?_) (fun c_7 => ?_)
    · refine lv_aload_n hx hb dX7_wind_13 rfl (lv_at hl 0 rfl) ?_
      obtain ⟨o_14, ho_14⟩ : ∃ z : Int32, z = v_X7_squaresNow i_hangingNow := ⟨_, rfl⟩
      refine callVIs (As := []) (rest := []) o_14 ho_14 hF (k_X7_squaresNow l D cI cZ a a_text a_lease a_reader a_prover a_survey a_paths a_acts a_slots i_hangingNow i_hourNow i_toldDark i_toldLight i_toldCount j_seedNow) (cwV 0 hts gX7_wind_X7_squaresNow rfl rfl rfl (by decide +kernel) ⟨Nat.le_of_ble_eq_true rfl, Nat.le_of_ble_eq_true rfl⟩) hK hN hP (va_Dsame hD rfl) hS hA [0] rfl rfl 0 7 (T := TX7) (N := 14) rfl rfl rfl hl.1 rfl (Nat.le_of_ble_eq_true rfl) dX7_wind_14 ⟨Nat.zero_le _, Nat.zero_le _⟩ o_14 rfl rfl (fun H locs hP hS => ?_)
      refine lv_istore_n (lv' := [(3, .int o_14), (0, .ref a), (1, .int x1), (2, .int (bI b2))]) hx hb dX7_wind_17 rfl hl (by decide) rfl (fun ls hl => ?_)
      refine lv_iconst (v := 0) hx hb dX7_wind_18 rfl ?_
      refine lv_istore (lv' := [(4, .int 0), (3, .int o_14), (0, .ref a), (1, .int x1), (2, .int (bI b2))]) hx hb dX7_wind_19 hl (by decide) rfl (fun ls hl => ?_)
      refine lv_iconst (v := 0) hx hb dX7_wind_21 rfl ?_
      refine lv_istore (lv' := [(5, .int 0), (4, .int 0), (3, .int o_14), (0, .ref a), (1, .int x1), (2, .int (bI b2))]) hx hb dX7_wind_22 hl (by decide) rfl (fun ls hl => ?_)
      obtain ⟨o_L24, ho_L24⟩ : ∃ z : Int32, z = it (v_X7_wind_L24 x1 i_hangingNow i_lease_wishCount f_lease_cells f_lease_needs f_lease_values o_14) 4096 0 0 := ⟨_, rfl⟩
      have kE24 : ∀ (H : Heap) (locs : List Loc) (ls : Array Slot), va_P D vwCl [(a, .inr (7, [.ref a_text, .ref a_lease, .ref a_reader, .ref a_prover, .ref a_survey, .ref a_paths, .ref a_acts, .ref a_slots, .int i_hangingNow, .int i_hourNow, .int i_toldDark, .int i_toldLight, .int i_toldCount, .long j_seedNow])), (a_lease, .inr (1, [.ref a_lease_places, .ref a_lease_firstHours, .ref a_lease_spans, .ref a_lease_values, .ref a_lease_cells, .ref a_lease_needs, .ref a_lease_owed, .ref a_lease_room, .int i_lease_squares, .int i_lease_wishCount, .int i_lease_owedPlaces])), (a_lease_cells, .inr (4, [.ref n_lease_cells])), (n_lease_cells, .inl (cI, 5, .inl f_lease_cells)), (a_lease_needs, .inr (4, [.ref n_lease_needs])), (n_lease_needs, .inl (cI, 5, .inl f_lease_needs)), (a_lease_values, .inr (4, [.ref n_lease_values])), (n_lease_values, .inl (cI, 5, .inl f_lease_values))] H → va_S A s.heap H locs → lv_has ls 7 [(4, .int o_L24), (3, .int o_14), (2, .int (bI b2))] → W p l e rm_X7_wind s m ar below meth c H locs 0 0 Q (F0 m 90 ls []) := by
        intro H locs ls hP hS hl
        refine lv_iload hx hb dX7_wind_90 (lv_at hl 0 rfl) ?_
        refine lv_bipush (v := 10) hx hb dX7_wind_92 rfl ?_
        refine lv_iload_n hx hb dX7_wind_94 rfl (lv_at hl 1 rfl) ?_
        obtain ⟨o_95, ho_95⟩ : ∃ z : Int32, z = v_X7_power 10 o_14 := ⟨_, rfl⟩
        refine callSIs (As := [.int 10, .int o_14]) (rest := [.int o_L24]) o_95 ho_95 hF (k_X7_power l D cI cZ 10 o_14) (va_cwS 2 hts gX7_wind_X7_power rfl rfl rfl (by decide +kernel) ⟨Nat.le_of_ble_eq_true rfl, Nat.le_of_ble_eq_true rfl⟩) hK hN hP (va_Dsame hD rfl) hS hA [] rfl rfl rfl hl.1 rfl (Nat.le_of_ble_eq_true rfl) dX7_wind_95 ⟨Nat.zero_le _, Nat.zero_le _⟩ o_95 rfl rfl (fun H locs hP hS => ?_)
        refine lv_iload_n hx hb dX7_wind_98 rfl (lv_at hl 2 rfl) ?_
        obtain ⟨o_99, ho_99⟩ : ∃ z : Int32, z = v_X7_inLeastTerms o_L24 o_95 b2 := ⟨_, rfl⟩
        refine callSIs (As := [.int o_L24, .int o_95, .int (bI b2)]) (rest := []) o_99 ho_99 hF (k_X7_inLeastTerms l D cI cZ o_L24 o_95 b2) (va_cwS 3 hts gX7_wind_X7_inLeastTerms rfl rfl rfl (by decide +kernel) ⟨Nat.le_of_ble_eq_true rfl, Nat.le_of_ble_eq_true rfl⟩) hK hN hP (va_Dsame hD rfl) hS hA [] rfl rfl rfl hl.1 rfl (Nat.le_of_ble_eq_true rfl) dX7_wind_99 ⟨Nat.zero_le _, Nat.zero_le _⟩ o_99 rfl rfl (fun H locs hP hS => ?_)
        have e9 : v_X7_wind x1 b2 i_hangingNow i_lease_wishCount f_lease_cells f_lease_needs f_lease_values = o_99 := by
          refine (if_neg c_1).trans ?_
          refine (if_pos c_7).trans ?_
          refine (bnd_eq ho_14).trans ?_
          refine (bnd_eq ho_L24).trans ?_
          refine (bnd_eq ho_95).trans ?_
          refine (bnd_eq ho_99).trans ?_
          rfl
        rw [hQ]; exact retI o_99 hx hb hr hlk e9 hP rfl hS dX7_wind_102
      have loop24 : ∀ (k i24 : Nat) (z24 : Int32), 0 ≤ i24 → i24 + k = 0 + 4096 → it (v_X7_wind_L24 x1 i_hangingNow i_lease_wishCount f_lease_cells f_lease_needs f_lease_values o_14) k i24 z24 = o_L24 → ∀ (H : Heap) (locs : List Loc) (ls : Array Slot), va_P D vwCl [(a, .inr (7, [.ref a_text, .ref a_lease, .ref a_reader, .ref a_prover, .ref a_survey, .ref a_paths, .ref a_acts, .ref a_slots, .int i_hangingNow, .int i_hourNow, .int i_toldDark, .int i_toldLight, .int i_toldCount, .long j_seedNow])), (a_lease, .inr (1, [.ref a_lease_places, .ref a_lease_firstHours, .ref a_lease_spans, .ref a_lease_values, .ref a_lease_cells, .ref a_lease_needs, .ref a_lease_owed, .ref a_lease_room, .int i_lease_squares, .int i_lease_wishCount, .int i_lease_owedPlaces])), (a_lease_cells, .inr (4, [.ref n_lease_cells])), (n_lease_cells, .inl (cI, 5, .inl f_lease_cells)), (a_lease_needs, .inr (4, [.ref n_lease_needs])), (n_lease_needs, .inl (cI, 5, .inl f_lease_needs)), (a_lease_values, .inr (4, [.ref n_lease_values])), (n_lease_values, .inl (cI, 5, .inl f_lease_values))] H → va_S A s.heap H locs → lv_has ls 7 [(5, .int (nI i24)), (4, .int z24), (3, .int o_14), (0, .ref a), (1, .int x1), (2, .int (bI b2))] → W p l e rm_X7_wind s m ar below meth c H locs 0 0 Q (F0 m 24 ls []) := by
        intro k
        induction k with
        | zero =>
          intro i24 z24 hi0 hik hz H locs ls hP hS hl
          have hz : z24 = o_L24 := it_0 hz
          subst z24
          refine lv_iload hx hb dX7_wind_24 (lv_at hl 0 rfl) ?_
          refine lv_sipush (v := 4096) hx hb dX7_wind_26 rfl ?_
          refine lv_icmp_ge (tgt := 90) hx hb dX7_wind_29 (by decide) (fun _ => ?_) (fun c => absurd (nI_le (a := 4096) (by omega) (by omega)) c)
          exact kE24 _ _ _ hP hS (lv_sub hl [1, 2, 5] rfl)
        | succ k ih =>
          intro i24 z24 hi0 hik hz H locs ls hP hS hl
          refine lv_iload hx hb dX7_wind_24 (lv_at hl 0 rfl) ?_
          refine lv_sipush (v := 4096) hx hb dX7_wind_26 rfl ?_
          refine lv_icmp_ge (tgt := 90) hx hb dX7_wind_29 (by decide) (fun c => absurd c (nI_ge (b := 4096) (by omega) (by decide))) (fun _ => ?_)
          refine lv_iload hx hb dX7_wind_32 (lv_at hl 0 rfl) ?_
          refine lv_aload_n hx hb dX7_wind_34 rfl (lv_at hl 3 rfl) ?_
          refine va_get (D := D) (ci := 7) (v := .int i_hangingNow) (C := RX7) (T := TX7) (N := 14) hx hb hts (fun _ h => List.mem_cons_of_mem _ (List.mem_append_left _ (List.mem_append_left _ (List.mem_append_right _ (h))))) hown hK hP 0 rfl rfl 8 (by decide) (hts _ (List.mem_of_getElem? (i := 1) rfl)) (fun _ h9 => h9) rfl dX7_wind_35 ?_
          refine lv_iconst (v := (-1)) hx hb dX7_wind_38 rfl ?_
          refine lv_ixor hx hb dX7_wind_39 ?_
          refine lv_iand hx hb dX7_wind_40 ?_
          refine lv_if_ne (tgt := 84) hx hb dX7_wind_41 (by decide) (fun c_41 => ?_) (fun c_41 => ?_)
          · refine lv_iinc (v := (nI (i24 + 1))) (lv' := [(5, .int (nI (i24 + 1))), (4, .int z24), (3, .int o_14), (0, .ref a), (1, .int x1), (2, .int (bI b2))]) hx hb dX7_wind_84 hl (k := 0) rfl (nI_1 _) (by decide) rfl (fun ls hl => ?_)
            refine lv_goto (tgt := 24) hx hb dX7_wind_87 (by decide) ?_
            have e8 : v_X7_wind_L24 x1 i_hangingNow i_lease_wishCount f_lease_cells f_lease_needs f_lease_values o_14 i24 z24 = z24 := by
              refine (if_neg c_41).trans ?_
              rfl
            exact ih (i24 + 1) z24 (by omega) (by omega) (it_go e8 hz) _ _ _ hP hS (lv_sub hl [0, 1, 2, 3, 4, 5] rfl)
          · refine lv_iload hx hb dX7_wind_44 (lv_at hl 0 rfl) ?_
            obtain ⟨o_46, ho_46⟩ : ∃ z : Int32, z = v_J6_bitCount_0f7a4 (nI i24) := ⟨_, rfl⟩
            refine callSIs (As := [.int (nI i24)]) (rest := []) o_46 ho_46 hF (k_J6_bitCount_0f7a4 l D cI cZ (nI i24)) (va_cwS 1 hts gX7_wind_J6_bitCount_0f7a4 rfl rfl rfl (by decide +kernel) ⟨Nat.le_of_ble_eq_true rfl, Nat.le_of_ble_eq_true rfl⟩) hK hN hP (va_Dsame hD rfl) hS hA [] rfl rfl rfl hl.1 rfl (Nat.le_of_ble_eq_true rfl) dX7_wind_46 ⟨Nat.zero_le _, Nat.zero_le _⟩ o_46 rfl rfl (fun H locs hP hS => ?_)
            refine lv_istore (lv' := [(6, .int o_46), (5, .int (nI i24)), (4, .int z24), (3, .int o_14), (0, .ref a), (1, .int x1), (2, .int (bI b2))]) hx hb dX7_wind_49 hl (by decide) rfl (fun ls hl => ?_)
            refine lv_iload hx hb dX7_wind_51 (lv_at hl 2 rfl) ?_
            refine lv_bipush (v := 10) hx hb dX7_wind_53 rfl ?_
            refine lv_iload_n hx hb dX7_wind_55 rfl (lv_at hl 5 rfl) ?_
            refine lv_isub hx hb dX7_wind_56 ?_
            refine lv_iload hx hb dX7_wind_57 (lv_at hl 0 rfl) ?_
            obtain ⟨o_59, ho_59⟩ : ∃ z : Int32, z = v_X7_power (10 - x1) o_46 := ⟨_, rfl⟩
            refine callSIs (As := [.int (10 - x1), .int o_46]) (rest := [.int z24]) o_59 ho_59 hF (k_X7_power l D cI cZ (10 - x1) o_46) (va_cwS 2 hts gX7_wind_X7_power rfl rfl rfl (by decide +kernel) ⟨Nat.le_of_ble_eq_true rfl, Nat.le_of_ble_eq_true rfl⟩) hK hN hP (va_Dsame hD rfl) hS hA [] rfl rfl rfl hl.1 rfl (Nat.le_of_ble_eq_true rfl) dX7_wind_59 ⟨Nat.zero_le _, Nat.zero_le _⟩ o_59 rfl rfl (fun H locs hP hS => ?_)
            refine lv_iload_n hx hb dX7_wind_62 rfl (lv_at hl 5 rfl) ?_
            refine lv_iload_n hx hb dX7_wind_63 rfl (lv_at hl 3 rfl) ?_
            refine lv_iload hx hb dX7_wind_64 (lv_at hl 0 rfl) ?_
            refine lv_isub hx hb dX7_wind_66 ?_
            obtain ⟨o_67, ho_67⟩ : ∃ z : Int32, z = v_X7_power x1 (o_14 - o_46) := ⟨_, rfl⟩
            refine callSIs (As := [.int x1, .int (o_14 - o_46)]) (rest := [.int o_59, .int z24]) o_67 ho_67 hF (k_X7_power l D cI cZ x1 (o_14 - o_46)) (va_cwS 2 hts gX7_wind_X7_power rfl rfl rfl (by decide +kernel) ⟨Nat.le_of_ble_eq_true rfl, Nat.le_of_ble_eq_true rfl⟩) hK hN hP (va_Dsame hD rfl) hS hA [] rfl rfl rfl hl.1 rfl (Nat.le_of_ble_eq_true rfl) dX7_wind_67 ⟨Nat.zero_le _, Nat.zero_le _⟩ o_67 rfl rfl (fun H locs hP hS => ?_)
            refine lv_imul hx hb dX7_wind_70 ?_
            refine lv_aload_n hx hb dX7_wind_71 rfl (lv_at hl 4 rfl) ?_
            refine va_get (D := D) (ci := 7) (v := .ref a_lease) (C := RX7) (T := TX7) (N := 14) hx hb hts (fun _ h => List.mem_cons_of_mem _ (List.mem_append_left _ (List.mem_append_left _ (List.mem_append_right _ (h))))) hown hK hP 0 rfl rfl 1 (by decide) (hts _ (List.mem_of_getElem? (i := 2) rfl)) (fun _ h9 => h9) rfl dX7_wind_72 ?_
            refine lv_iload hx hb dX7_wind_75 (lv_at hl 1 rfl) ?_
            obtain ⟨o_77, ho_77⟩ : ∃ z : Int32, z = v_X1_worthOf (nI i24) i_lease_wishCount f_lease_cells f_lease_needs f_lease_values := ⟨_, rfl⟩
            refine callVIs (As := [.int (nI i24)]) (rest := [.int (o_59 * o_67), .int z24]) o_77 ho_77 hF (k_X1_worthOf l D cI cZ a_lease a_lease_places a_lease_firstHours a_lease_spans a_lease_values a_lease_cells a_lease_needs a_lease_owed a_lease_room n_lease_cells n_lease_needs n_lease_values (nI i24) i_lease_squares i_lease_wishCount i_lease_owedPlaces f_lease_cells f_lease_needs f_lease_values) (cwV 1 hts gX7_wind_X1_worthOf rfl rfl rfl (by decide +kernel) ⟨Nat.le_of_ble_eq_true rfl, Nat.le_of_ble_eq_true rfl⟩) hK hN hP (va_Dsame hD rfl) hS hA [1, 2, 3, 4, 5, 6, 7] rfl rfl 1 1 (T := TX1) (N := 11) rfl rfl rfl hl.1 rfl (Nat.le_of_ble_eq_true rfl) dX7_wind_77 ⟨Nat.zero_le _, Nat.zero_le _⟩ o_77 rfl rfl (fun H locs hP hS => ?_)
            refine lv_imul hx hb dX7_wind_80 ?_
            refine lv_iadd hx hb dX7_wind_81 ?_
            refine lv_istore (lv' := [(4, .int (z24 + ((o_59 * o_67) * o_77))), (6, .int o_46), (5, .int (nI i24)), (3, .int o_14), (0, .ref a), (1, .int x1), (2, .int (bI b2))]) hx hb dX7_wind_82 hl (by decide) rfl (fun ls hl => ?_)
            refine lv_iinc (v := (nI (i24 + 1))) (lv' := [(5, .int (nI (i24 + 1))), (4, .int (z24 + ((o_59 * o_67) * o_77))), (6, .int o_46), (3, .int o_14), (0, .ref a), (1, .int x1), (2, .int (bI b2))]) hx hb dX7_wind_84 hl (k := 2) rfl (nI_1 _) (by decide) rfl (fun ls hl => ?_)
            refine lv_goto (tgt := 24) hx hb dX7_wind_87 (by decide) ?_
            have e8 : v_X7_wind_L24 x1 i_hangingNow i_lease_wishCount f_lease_cells f_lease_needs f_lease_values o_14 i24 z24 = (z24 + ((o_59 * o_67) * o_77)) := by
              refine (if_pos c_41).trans ?_
              refine (bnd_eq ho_46).trans ?_
              refine (bnd_eq ho_59).trans ?_
              refine (bnd_eq ho_67).trans ?_
              refine (bnd_eq ho_77).trans ?_
              rfl
            exact ih (i24 + 1) (z24 + ((o_59 * o_67) * o_77)) (by omega) (by omega) (it_go e8 hz) _ _ _ hP hS (lv_sub hl [0, 1, 3, 4, 5, 6] rfl)
      exact loop24 4096 0 0 (Nat.le_refl _) rfl ho_L24.symm _ _ _ hP hS (lv_sub hl [0, 1, 2, 3, 4, 5] rfl)
    · refine lv_bipush (v := (-2)) hx hb dX7_wind_10 rfl ?_
      have e9 : v_X7_wind x1 b2 i_hangingNow i_lease_wishCount f_lease_cells f_lease_needs f_lease_values = (-2) := by
        refine (if_neg c_1).trans ?_
        refine (if_neg c_7).trans ?_
        rfl
      rw [hQ]; exact retI (-2) hx hb hr hlk e9 hP rfl hS dX7_wind_12
def v_X7_seed (x1 : Int64) (j_seedNow : Int64) : Int64 × Int64 :=
  (j_seedNow, x1)
abbrev rm_X7_seed : Room := { frames := 0, cells := 0, slots := 0, locals := 0 }
set_option maxHeartbeats 4000000 in
set_option maxRecDepth 100000 in
theorem k_X7_seed (l : Launch) (D : va_G) (cI cZ : ClassId) (a a_text a_lease a_reader a_prover a_survey a_paths a_acts a_slots : Nat) (x1 : Int64) (i_hangingNow : Int32) (i_hourNow : Int32) (i_toldDark : Int32) (i_toldLight : Int32) (i_toldCount : Int32) (j_seedNow : Int64) : KL l D cI cZ yX7_seed wsX7_seed rm_X7_seed [.ref a, .long x1] [(a, .inr (7, [.ref a_text, .ref a_lease, .ref a_reader, .ref a_prover, .ref a_survey, .ref a_paths, .ref a_acts, .ref a_slots, .int i_hangingNow, .int i_hourNow, .int i_toldDark, .int i_toldLight, .int i_toldCount, .long j_seedNow]))] (v_X7_seed x1 j_seedNow) (fun o : Int64 × Int64 => o.1) (fun o : Int64 × Int64 => [(a, .inr (7, [.ref a_text, .ref a_lease, .ref a_reader, .ref a_prover, .ref a_survey, .ref a_paths, .ref a_acts, .ref a_slots, .int i_hangingNow, .int i_hourNow, .int i_toldDark, .int i_toldLight, .int i_toldCount, .long o.2]))]) := by
  refine KL.of cX7_seed 5 (some .long) (by decide) rfl (Nat.le_of_ble_eq_true rfl) ?_
  intro p e s m below meth c A ls ar Q hQ B
  obtain ⟨hx, hb, hr, hml, hts, hown, hlk, hK, hN, hP, hD, hA, hS, hl⟩ := B
  have hown : s.vm.findClass RX7 = some m.cls := hown
  have hF : CallFix p m c cX7_seed 5 s ar wsX7_seed RX7 := ⟨hx, hb, hml, hown, hts⟩
  have hl : lv_has ls 5 [(0, .ref a), (1, .long x1)] := hl
  refine lv_aload_n hx hb dX7_seed_0 rfl (lv_at hl 0 rfl) ?_
  refine va_get (D := D) (ci := 7) (v := .long j_seedNow) (C := RX7) (T := TX7) (N := 14) hx hb hts (fun _ h => List.mem_cons_of_mem _ (List.mem_append_right _ (h))) hown hK hP 0 rfl rfl 13 (by decide) (hts _ (List.mem_of_getElem? (i := 1) rfl)) (fun _ h9 => h9) rfl dX7_seed_1 ?_
  refine lv_lstore_n (lv' := [(3, .long j_seedNow), (0, .ref a), (1, .long x1)]) hx hb dX7_seed_4 rfl hl (by decide) rfl (fun ls hl => ?_)
  refine lv_aload_n hx hb dX7_seed_5 rfl (lv_at hl 1 rfl) ?_
  refine lv_lload_n hx hb dX7_seed_6 rfl (lv_at hl 2 rfl) ?_
  refine va_put (D := D) (ci := 7) (v := .long x1) (ty := .long) (C := RX7) (T := TX7) (N := 14) hx hb hts (fun _ h => List.mem_cons_of_mem _ (List.mem_append_right _ (h))) tyX7 tyX7_ok nmX7 hown hK hP (va_Dsame hD rfl) hS 0 rfl rfl 13 (by decide) (hts _ (List.mem_of_getElem? (i := 1) rfl)) (fun _ h9 => h9) rfl (tyX7_ok 13 (by decide)) rfl rfl (Nat.le_of_ble_eq_true rfl) dX7_seed_7 (fun H locs hP _ hS => ?_)
  have hP : va_P D vwCl [(a, .inr (7, [.ref a_text, .ref a_lease, .ref a_reader, .ref a_prover, .ref a_survey, .ref a_paths, .ref a_acts, .ref a_slots, .int i_hangingNow, .int i_hourNow, .int i_toldDark, .int i_toldLight, .int i_toldCount, .long x1]))] H := hP
  refine lv_lload_n hx hb dX7_seed_10 rfl (lv_at hl 0 rfl) ?_
  have e9 : v_X7_seed x1 j_seedNow = (j_seedNow, x1) := by
    rfl
  rw [hQ]; exact retL (j_seedNow, x1) hx hb hr hlk e9 hP rfl hS dX7_seed_11
def v_X7_storm_L21c (i21 : Nat) (z21_1 : Int32) (z21_2 : Int64) : Int32 × Int64 :=
  bnd (((z21_2 * 6364136223846793005) + 1442695040888963407)) fun w_39 =>
  (bnd (v_X7_afterToldMove z21_1 ((uSL w_39 33).toInt32 - (uSL w_39 33).toInt32 / 12 * 12) (((uSL w_39 33).toInt32 / 12) - ((uSL w_39 33).toInt32 / 12) / 3 * 3)) fun o_65 =>
  (if o_65 = (-9) then (z21_1, w_39)
  else (o_65, w_39)))
def v_X7_storm_L21 (i21 : Nat) (z21 : Int32 × Int64) : Int32 × Int64 := v_X7_storm_L21c i21 z21.1 z21.2
def v_X7_storm (x1 : Int32) (i_hangingNow : Int32) (j_seedNow : Int64) : Int32 × Int64 :=
  if x1 < 1 then ((-2), j_seedNow)
  else (if x1 ≤ 40 then (bnd2 (it (v_X7_storm_L21) x1.toNatClampNeg 0 (i_hangingNow, j_seedNow)) fun o_L21_1 o_L21_2 =>
    (o_L21_1, o_L21_2))
  else ((-2), j_seedNow))
abbrev rm_X7_storm : Room := { frames := 3, cells := 0, slots := 0, locals := 67 }
set_option maxHeartbeats 4000000 in
set_option maxRecDepth 100000 in
theorem k_X7_storm (l : Launch) (D : va_G) (cI cZ : ClassId) (a a_text a_lease a_reader a_prover a_survey a_paths a_acts a_slots : Nat) (x1 : Int32) (i_hangingNow : Int32) (i_hourNow : Int32) (i_toldDark : Int32) (i_toldLight : Int32) (i_toldCount : Int32) (j_seedNow : Int64) : KI l D cI cZ yX7_storm wsX7_storm rm_X7_storm [.ref a, .int x1] [(a, .inr (7, [.ref a_text, .ref a_lease, .ref a_reader, .ref a_prover, .ref a_survey, .ref a_paths, .ref a_acts, .ref a_slots, .int i_hangingNow, .int i_hourNow, .int i_toldDark, .int i_toldLight, .int i_toldCount, .long j_seedNow]))] (v_X7_storm x1 i_hangingNow j_seedNow) (fun o : Int32 × Int64 => o.1) (fun o : Int32 × Int64 => [(a, .inr (7, [.ref a_text, .ref a_lease, .ref a_reader, .ref a_prover, .ref a_survey, .ref a_paths, .ref a_acts, .ref a_slots, .int i_hangingNow, .int i_hourNow, .int i_toldDark, .int i_toldLight, .int i_toldCount, .long o.2]))]) := by
  refine KI.of cX7_storm 6 (some .int) (by decide) rfl (Nat.le_of_ble_eq_true rfl) ?_
  intro p e s m below meth c A ls ar Q hQ B
  obtain ⟨hx, hb, hr, hml, hts, hown, hlk, hK, hN, hP, hD, hA, hS, hl⟩ := B
  have hown : s.vm.findClass RX7 = some m.cls := hown
  have hF : CallFix p m c cX7_storm 6 s ar wsX7_storm RX7 := ⟨hx, hb, hml, hown, hts⟩
  have hl : lv_has ls 6 [(0, .ref a), (1, .int x1)] := hl
  refine lv_iload_n hx hb dX7_storm_0 rfl (lv_at hl 1 rfl) ?_
  refine lv_iconst (v := 1) hx hb dX7_storm_1 rfl ?_
  refine lv_icmp_lt (tgt := 11) hx hb dX7_storm_2 (by decide) (fun c_2 => ?_) (fun c_2 => ?_)
  · refine lv_bipush (v := (-2)) hx hb dX7_storm_11 rfl ?_
    have e9 : v_X7_storm x1 i_hangingNow j_seedNow = ((-2), j_seedNow) := by
      refine (if_pos c_2).trans ?_
      rfl
    rw [hQ]; exact retI ((-2), j_seedNow) hx hb hr hlk e9 hP rfl hS dX7_storm_13
  · refine lv_iload_n hx hb dX7_storm_5 rfl (lv_at hl 1 rfl) ?_
    refine lv_bipush (v := 40) hx hb dX7_storm_6 rfl ?_
    refine lv_icmp_le (tgt := 14) hx hb dX7_storm_8 (by decide) (fun c_8 => ?_) (fun c_8 => ?_)
    · refine lv_aload_n hx hb dX7_storm_14 rfl (lv_at hl 0 rfl) ?_
      refine va_get (D := D) (ci := 7) (v := .int i_hangingNow) (C := RX7) (T := TX7) (N := 14) hx hb hts (fun _ h => List.mem_cons_of_mem _ (List.mem_append_right _ (h))) hown hK hP 0 rfl rfl 8 (by decide) (hts _ (List.mem_of_getElem? (i := 1) rfl)) (fun _ h9 => h9) rfl dX7_storm_15 ?_
      refine lv_istore_n (lv' := [(2, .int i_hangingNow), (0, .ref a), (1, .int x1)]) hx hb dX7_storm_18 rfl hl (by decide) rfl (fun ls hl => ?_)
      refine lv_iconst (v := 0) hx hb dX7_storm_19 rfl ?_
      refine lv_istore_n (lv' := [(3, .int 0), (2, .int i_hangingNow), (0, .ref a), (1, .int x1)]) hx hb dX7_storm_20 rfl hl (by decide) rfl (fun ls hl => ?_)
      obtain ⟨o_L21_1, o_L21_2, ho_L21⟩ := ex2 (it (v_X7_storm_L21) x1.toNatClampNeg 0 (i_hangingNow, j_seedNow))
      have kE21 : ∀ (H : Heap) (locs : List Loc) (ls : Array Slot), va_P D vwCl [(a, .inr (7, [.ref a_text, .ref a_lease, .ref a_reader, .ref a_prover, .ref a_survey, .ref a_paths, .ref a_acts, .ref a_slots, .int i_hangingNow, .int i_hourNow, .int i_toldDark, .int i_toldLight, .int i_toldCount, .long o_L21_2]))] H → va_S A s.heap H locs → lv_has ls 6 [(2, .int o_L21_1)] → W p l e rm_X7_storm s m ar below meth c H locs 0 0 Q (F0 m 90 ls []) := by
        intro H locs ls hP hS hl
        refine lv_iload_n hx hb dX7_storm_90 rfl (lv_at hl 0 rfl) ?_
        have e9 : v_X7_storm x1 i_hangingNow j_seedNow = (o_L21_1, o_L21_2) := by
          refine (if_neg c_2).trans ?_
          refine (if_pos c_8).trans ?_
          refine (bnd2_eq ho_L21).trans ?_
          rfl
        rw [hQ]; exact retI (o_L21_1, o_L21_2) hx hb hr hlk e9 hP rfl hS dX7_storm_91
      have loop21 : ∀ (k i21 : Nat) (z21 : Int32 × Int64), 0 ≤ i21 → i21 + k = 0 + x1.toNatClampNeg → it (v_X7_storm_L21) k i21 z21 = (o_L21_1, o_L21_2) → ∀ (H : Heap) (locs : List Loc) (ls : Array Slot), va_P D vwCl [(a, .inr (7, [.ref a_text, .ref a_lease, .ref a_reader, .ref a_prover, .ref a_survey, .ref a_paths, .ref a_acts, .ref a_slots, .int i_hangingNow, .int i_hourNow, .int i_toldDark, .int i_toldLight, .int i_toldCount, .long z21.2]))] H → va_S A s.heap H locs → lv_has ls 6 [(3, .int (nI i21)), (2, .int z21.1), (0, .ref a), (1, .int x1)] → W p l e rm_X7_storm s m ar below meth c H locs 0 0 Q (F0 m 21 ls []) := by
        intro k
        induction k with
        | zero =>
          intro i21 z21 hi0 hik hz H locs ls hP hS hl
          have hz : z21 = (o_L21_1, o_L21_2) := it_0 hz
          subst z21
          have hP : va_P D vwCl [(a, .inr (7, [.ref a_text, .ref a_lease, .ref a_reader, .ref a_prover, .ref a_survey, .ref a_paths, .ref a_acts, .ref a_slots, .int i_hangingNow, .int i_hourNow, .int i_toldDark, .int i_toldLight, .int i_toldCount, .long o_L21_2]))] H := hP
          have hl : lv_has ls 6 [(3, .int (nI i21)), (2, .int o_L21_1), (0, .ref a), (1, .int x1)] := hl
          refine lv_iload_n hx hb dX7_storm_21 rfl (lv_at hl 0 rfl) ?_
          refine lv_iload_n hx hb dX7_storm_22 rfl (lv_at hl 3 rfl) ?_
          refine lv_icmp_ge (tgt := 90) hx hb dX7_storm_23 (by decide) (fun _ => ?_) (fun c => absurd (cb_ge (by omega) (by have := cb_lt31 x1; omega)) c)
          exact kE21 _ _ _ hP hS (lv_sub hl [1] rfl)
        | succ k ih =>
          intro i21 z21 hi0 hik hz H locs ls hP hS hl
          obtain ⟨z21_1, z21_2⟩ := z21
          have hP : va_P D vwCl [(a, .inr (7, [.ref a_text, .ref a_lease, .ref a_reader, .ref a_prover, .ref a_survey, .ref a_paths, .ref a_acts, .ref a_slots, .int i_hangingNow, .int i_hourNow, .int i_toldDark, .int i_toldLight, .int i_toldCount, .long z21_2]))] H := hP
          have hl : lv_has ls 6 [(3, .int (nI i21)), (2, .int z21_1), (0, .ref a), (1, .int x1)] := hl
          refine lv_iload_n hx hb dX7_storm_21 rfl (lv_at hl 0 rfl) ?_
          refine lv_iload_n hx hb dX7_storm_22 rfl (lv_at hl 3 rfl) ?_
          refine lv_icmp_ge (tgt := 90) hx hb dX7_storm_23 (by decide) (fun c => absurd c (cb_lt (by omega))) (fun _ => ?_)
          refine lv_aload_n hx hb dX7_storm_26 rfl (lv_at hl 2 rfl) ?_
          refine lv_aload_n hx hb dX7_storm_27 rfl (lv_at hl 2 rfl) ?_
          refine va_get (D := D) (ci := 7) (v := .long z21_2) (C := RX7) (T := TX7) (N := 14) hx hb hts (fun _ h => List.mem_cons_of_mem _ (List.mem_append_right _ (h))) hown hK hP 0 rfl rfl 13 (by decide) (hts _ (List.mem_of_getElem? (i := 2) rfl)) (fun _ h9 => h9) rfl dX7_storm_28 ?_
          refine lv_ldc2 (v := 6364136223846793005) hx hb hown (hts _ (List.mem_of_getElem? (i := 3) rfl)) dX7_storm_31 ?_
          refine lv_lmul hx hb dX7_storm_34 ?_
          refine lv_ldc2 (v := 1442695040888963407) hx hb hown (hts _ (List.mem_of_getElem? (i := 4) rfl)) dX7_storm_35 ?_
          refine lv_ladd hx hb dX7_storm_38 ?_
          refine lv_topl (fun w_39 hw_39 => ?_)
          refine va_put (D := D) (ci := 7) (v := .long w_39) (ty := .long) (C := RX7) (T := TX7) (N := 14) hx hb hts (fun _ h => List.mem_cons_of_mem _ (List.mem_append_right _ (h))) tyX7 tyX7_ok nmX7 hown hK hP (va_Dsame hD rfl) hS 0 rfl rfl 13 (by decide) (hts _ (List.mem_of_getElem? (i := 2) rfl)) (fun _ h9 => h9) rfl (tyX7_ok 13 (by decide)) rfl rfl (Nat.le_of_ble_eq_true rfl) dX7_storm_39 (fun H locs hP _ hS => ?_)
          have hP : va_P D vwCl [(a, .inr (7, [.ref a_text, .ref a_lease, .ref a_reader, .ref a_prover, .ref a_survey, .ref a_paths, .ref a_acts, .ref a_slots, .int i_hangingNow, .int i_hourNow, .int i_toldDark, .int i_toldLight, .int i_toldCount, .long w_39]))] H := hP
          refine lv_aload_n hx hb dX7_storm_42 rfl (lv_at hl 2 rfl) ?_
          refine va_get (D := D) (ci := 7) (v := .long w_39) (C := RX7) (T := TX7) (N := 14) hx hb hts (fun _ h => List.mem_cons_of_mem _ (List.mem_append_right _ (h))) hown hK hP 0 rfl rfl 13 (by decide) (hts _ (List.mem_of_getElem? (i := 2) rfl)) (fun _ h9 => h9) rfl dX7_storm_43 ?_
          refine lv_bipush (v := 33) hx hb dX7_storm_46 rfl ?_
          refine lv_lushr (v := (uSL w_39 33)) hx hb dX7_storm_48 rfl ?_
          refine lv_l2i (v := (uSL w_39 33).toInt32) hx hb dX7_storm_49 rfl ?_
          refine lv_istore (lv' := [(4, .int ((uSL w_39 33).toInt32)), (3, .int (nI i21)), (2, .int z21_1), (0, .ref a), (1, .int x1)]) hx hb dX7_storm_50 hl (by decide) rfl (fun ls hl => ?_)
          refine lv_iload_n hx hb dX7_storm_52 rfl (lv_at hl 2 rfl) ?_
          refine lv_iload hx hb dX7_storm_53 (lv_at hl 0 rfl) ?_
          refine lv_bipush (v := 12) hx hb dX7_storm_55 rfl ?_
          refine lv_irem hx hb dX7_storm_57 (by decide) ?_
          refine lv_iload hx hb dX7_storm_58 (lv_at hl 0 rfl) ?_
          refine lv_bipush (v := 12) hx hb dX7_storm_60 rfl ?_
          refine lv_idiv hx hb dX7_storm_62 (by decide) ?_
          refine lv_iconst (v := 3) hx hb dX7_storm_63 rfl ?_
          refine lv_irem hx hb dX7_storm_64 (by decide) ?_
          obtain ⟨o_65, ho_65⟩ : ∃ z : Int32, z = v_X7_afterToldMove z21_1 ((uSL w_39 33).toInt32 - (uSL w_39 33).toInt32 / 12 * 12) (((uSL w_39 33).toInt32 / 12) - ((uSL w_39 33).toInt32 / 12) / 3 * 3) := ⟨_, rfl⟩
          refine callSIs (As := [.int z21_1, .int ((uSL w_39 33).toInt32 - (uSL w_39 33).toInt32 / 12 * 12), .int (((uSL w_39 33).toInt32 / 12) - ((uSL w_39 33).toInt32 / 12) / 3 * 3)]) (rest := []) o_65 ho_65 hF (k_X7_afterToldMove l D cI cZ z21_1 ((uSL w_39 33).toInt32 - (uSL w_39 33).toInt32 / 12 * 12) (((uSL w_39 33).toInt32 / 12) - ((uSL w_39 33).toInt32 / 12) / 3 * 3)) (va_cwS 3 hts gX7_storm_X7_afterToldMove rfl rfl rfl (by decide +kernel) ⟨Nat.le_of_ble_eq_true rfl, Nat.le_of_ble_eq_true rfl⟩) hK hN hP (va_Dsame hD rfl) hS hA [] rfl rfl rfl hl.1 rfl (Nat.le_of_ble_eq_true rfl) dX7_storm_65 ⟨Nat.zero_le _, Nat.zero_le _⟩ o_65 rfl rfl (fun H locs hP hS => ?_)
          refine lv_istore (lv' := [(5, .int o_65), (4, .int ((uSL w_39 33).toInt32)), (3, .int (nI i21)), (2, .int z21_1), (0, .ref a), (1, .int x1)]) hx hb dX7_storm_68 hl (by decide) rfl (fun ls hl => ?_)
          refine lv_iload hx hb dX7_storm_70 (lv_at hl 0 rfl) ?_
          refine lv_bipush (v := (-9)) hx hb dX7_storm_72 rfl ?_
          refine lv_icmp_ne (tgt := 81) hx hb dX7_storm_74 (by decide) (fun c_74 => ?_) (fun c_74 => ?_)
          · refine lv_iload hx hb dX7_storm_81 (lv_at hl 0 rfl) ?_
            refine lv_istore_n (lv' := [(2, .int o_65), (5, .int o_65), (4, .int ((uSL w_39 33).toInt32)), (3, .int (nI i21)), (0, .ref a), (1, .int x1)]) hx hb dX7_storm_83 rfl hl (by decide) rfl (fun ls hl => ?_)
            refine lv_iinc (v := (nI (i21 + 1))) (lv' := [(3, .int (nI (i21 + 1))), (2, .int o_65), (5, .int o_65), (4, .int ((uSL w_39 33).toInt32)), (0, .ref a), (1, .int x1)]) hx hb dX7_storm_84 hl (k := 3) rfl (nI_1 _) (by decide) rfl (fun ls hl => ?_)
            refine lv_goto (tgt := 21) hx hb dX7_storm_87 (by decide) ?_
            have e8 : v_X7_storm_L21 i21 (z21_1, z21_2) = (o_65, w_39) := by
              show v_X7_storm_L21c i21 z21_1 z21_2 = (o_65, w_39)
              refine (bnd_eq hw_39).trans ?_
              refine (bnd_eq ho_65).trans ?_
              refine (if_neg c_74).trans ?_
              rfl
            exact ih (i21 + 1) (o_65, w_39) (by omega) (by omega) (it_go e8 hz) _ _ _ hP hS (lv_sub hl [0, 1, 4, 5] rfl)
          · refine lv_iload_n hx hb dX7_storm_77 rfl (lv_at hl 3 rfl) ?_
            refine lv_goto (tgt := 83) hx hb dX7_storm_78 (by decide) ?_
            refine lv_istore_n (lv' := [(2, .int z21_1), (5, .int o_65), (4, .int ((uSL w_39 33).toInt32)), (3, .int (nI i21)), (0, .ref a), (1, .int x1)]) hx hb dX7_storm_83 rfl hl (by decide) rfl (fun ls hl => ?_)
            refine lv_iinc (v := (nI (i21 + 1))) (lv' := [(3, .int (nI (i21 + 1))), (2, .int z21_1), (5, .int o_65), (4, .int ((uSL w_39 33).toInt32)), (0, .ref a), (1, .int x1)]) hx hb dX7_storm_84 hl (k := 3) rfl (nI_1 _) (by decide) rfl (fun ls hl => ?_)
            refine lv_goto (tgt := 21) hx hb dX7_storm_87 (by decide) ?_
            have e8 : v_X7_storm_L21 i21 (z21_1, z21_2) = (z21_1, w_39) := by
              show v_X7_storm_L21c i21 z21_1 z21_2 = (z21_1, w_39)
              refine (bnd_eq hw_39).trans ?_
              refine (bnd_eq ho_65).trans ?_
              refine (if_pos c_74).trans ?_
              rfl
            exact ih (i21 + 1) (z21_1, w_39) (by omega) (by omega) (it_go e8 hz) _ _ _ hP hS (lv_sub hl [0, 1, 4, 5] rfl)
      exact loop21 x1.toNatClampNeg 0 (i_hangingNow, j_seedNow) (Nat.le_refl _) rfl ho_L21.symm _ _ _ hP hS (lv_sub hl [0, 1, 2, 3] rfl)
    · refine lv_bipush (v := (-2)) hx hb dX7_storm_11 rfl ?_
      have e9 : v_X7_storm x1 i_hangingNow j_seedNow = ((-2), j_seedNow) := by
        refine (if_neg c_2).trans ?_
        refine (if_neg c_8).trans ?_
        rfl
      rw [hQ]; exact retI ((-2), j_seedNow) hx hb hr hlk e9 hP rfl hS dX7_storm_13
def v_X7_keep (x1 : Int32) (i_hangingNow : Int32) (i_hourNow : Int32) (f_slots : Nat → Int32) : Int32 × (Nat → Int32) :=
  if x1 < 0 then ((-1), f_slots)
  else (if x1 < 2 then (bnd (v_X7_momentNow i_hangingNow i_hourNow) fun o_17 =>
    (bnd (v_X4_put x1 o_17 f_slots 2) fun o_20 =>
    (bnd (v_X7_squaresNow i_hangingNow) fun o_24 =>
    (o_24, o_20))))
  else ((-1), f_slots))
abbrev rm_X7_keep : Room := { frames := 2, cells := 0, slots := 0, locals := 40 }
set_option maxHeartbeats 4000000 in
set_option maxRecDepth 100000 in
theorem k_X7_keep (l : Launch) (D : va_G) (cI cZ : ClassId) (a a_text a_lease a_reader a_prover a_survey a_paths a_acts a_slots n_slots : Nat) (x1 : Int32) (i_hangingNow : Int32) (i_hourNow : Int32) (i_toldDark : Int32) (i_toldLight : Int32) (i_toldCount : Int32) (j_seedNow : Int64) (f_slots : Nat → Int32) : KI l D cI cZ yX7_keep wsX7_keep rm_X7_keep [.ref a, .int x1] [(a, .inr (7, [.ref a_text, .ref a_lease, .ref a_reader, .ref a_prover, .ref a_survey, .ref a_paths, .ref a_acts, .ref a_slots, .int i_hangingNow, .int i_hourNow, .int i_toldDark, .int i_toldLight, .int i_toldCount, .long j_seedNow])), (a_slots, .inr (4, [.ref n_slots])), (n_slots, .inl (cI, 2, .inl f_slots))] (v_X7_keep x1 i_hangingNow i_hourNow f_slots) (fun o : Int32 × (Nat → Int32) => o.1) (fun o : Int32 × (Nat → Int32) => [(a, .inr (7, [.ref a_text, .ref a_lease, .ref a_reader, .ref a_prover, .ref a_survey, .ref a_paths, .ref a_acts, .ref a_slots, .int i_hangingNow, .int i_hourNow, .int i_toldDark, .int i_toldLight, .int i_toldCount, .long j_seedNow])), (a_slots, .inr (4, [.ref n_slots])), (n_slots, .inl (cI, 2, .inl o.2))]) := by
  refine KI.of cX7_keep 2 (some .int) (by decide) rfl (Nat.le_of_ble_eq_true rfl) ?_
  intro p e s m below meth c A ls ar Q hQ B
  obtain ⟨hx, hb, hr, hml, hts, hown, hlk, hK, hN, hP, hD, hA, hS, hl⟩ := B
  have hown : s.vm.findClass RX7 = some m.cls := hown
  have hF : CallFix p m c cX7_keep 2 s ar wsX7_keep RX7 := ⟨hx, hb, hml, hown, hts⟩
  have hl : lv_has ls 2 [(0, .ref a), (1, .int x1)] := hl
  refine lv_iload_n hx hb dX7_keep_0 rfl (lv_at hl 1 rfl) ?_
  refine lv_if_lt (tgt := 9) hx hb dX7_keep_1 (by decide) (fun c_1 => ?_) (fun c_1 => ?_)
  · refine lv_iconst (v := (-1)) hx hb dX7_keep_9 rfl ?_
    have e9 : v_X7_keep x1 i_hangingNow i_hourNow f_slots = ((-1), f_slots) := by
      refine (if_pos c_1).trans ?_
      rfl
    rw [hQ]; exact retI ((-1), f_slots) hx hb hr hlk e9 hP rfl hS dX7_keep_10
  · refine lv_iload_n hx hb dX7_keep_4 rfl (lv_at hl 1 rfl) ?_
    refine lv_iconst (v := 2) hx hb dX7_keep_5 rfl ?_
    refine lv_icmp_lt (tgt := 11) hx hb dX7_keep_6 (by decide) (fun c_6 => ?_) (fun c_6 => ?_)
    · refine lv_aload_n hx hb dX7_keep_11 rfl (lv_at hl 0 rfl) ?_
      refine va_get (D := D) (ci := 7) (v := .ref a_slots) (C := RX7) (T := TX7) (N := 14) hx hb hts (fun _ h => List.mem_cons_of_mem _ (List.mem_append_left _ (List.mem_append_right _ (h)))) hown hK hP 0 rfl rfl 7 (by decide) (hts _ (List.mem_of_getElem? (i := 1) rfl)) (fun _ h9 => h9) rfl dX7_keep_12 ?_
      refine lv_iload_n hx hb dX7_keep_15 rfl (lv_at hl 1 rfl) ?_
      refine lv_aload_n hx hb dX7_keep_16 rfl (lv_at hl 0 rfl) ?_
      obtain ⟨o_17, ho_17⟩ : ∃ z : Int32, z = v_X7_momentNow i_hangingNow i_hourNow := ⟨_, rfl⟩
      refine callVIs (As := []) (rest := [.int x1, .ref a_slots]) o_17 ho_17 hF (k_X7_momentNow l D cI cZ a a_text a_lease a_reader a_prover a_survey a_paths a_acts a_slots i_hangingNow i_hourNow i_toldDark i_toldLight i_toldCount j_seedNow) (cwV 0 hts gX7_keep_X7_momentNow rfl rfl rfl (by decide +kernel) ⟨Nat.le_of_ble_eq_true rfl, Nat.le_of_ble_eq_true rfl⟩) hK hN hP (va_Dsame hD rfl) hS hA [0] rfl rfl 0 7 (T := TX7) (N := 14) rfl rfl rfl hl.1 rfl (Nat.le_of_ble_eq_true rfl) dX7_keep_17 ⟨Nat.zero_le _, Nat.zero_le _⟩ o_17 rfl rfl (fun H locs hP hS => ?_)
      obtain ⟨o_20, ho_20⟩ : ∃ z : Nat → Int32, z = v_X4_put x1 o_17 f_slots 2 := ⟨_, rfl⟩
      refine callVV (As := [.int x1, .int o_17]) (rest := []) o_20 ho_20 hF (k_X4_put l D cI cZ a_slots n_slots x1 o_17 f_slots 2 (by decide)) (cwV 2 hts gX7_keep_X4_put rfl rfl rfl (by decide +kernel) ⟨Nat.le_of_ble_eq_true rfl, Nat.le_of_ble_eq_true rfl⟩) hK hN hP (va_Dsame hD rfl) hS hA [1, 2] rfl rfl 1 4 (T := TX4) (N := 1) rfl rfl rfl hl.1 rfl (Nat.le_of_ble_eq_true rfl) dX7_keep_20 ⟨Nat.zero_le _, Nat.zero_le _⟩ [none, some 0, some 1] 2 [(a, .inr (7, [.ref a_text, .ref a_lease, .ref a_reader, .ref a_prover, .ref a_survey, .ref a_paths, .ref a_acts, .ref a_slots, .int i_hangingNow, .int i_hourNow, .int i_toldDark, .int i_toldLight, .int i_toldCount, .long j_seedNow])), (a_slots, .inr (4, [.ref n_slots])), (n_slots, .inl (cI, 2, .inl o_20))] rfl rfl (by decide) (fun H locs hP hS => ?_)
      refine lv_aload_n hx hb dX7_keep_23 rfl (lv_at hl 0 rfl) ?_
      obtain ⟨o_24, ho_24⟩ : ∃ z : Int32, z = v_X7_squaresNow i_hangingNow := ⟨_, rfl⟩
      refine callVIs (As := []) (rest := []) o_24 ho_24 hF (k_X7_squaresNow l D cI cZ a a_text a_lease a_reader a_prover a_survey a_paths a_acts a_slots i_hangingNow i_hourNow i_toldDark i_toldLight i_toldCount j_seedNow) (cwV 0 hts gX7_keep_X7_squaresNow rfl rfl rfl (by decide +kernel) ⟨Nat.le_of_ble_eq_true rfl, Nat.le_of_ble_eq_true rfl⟩) hK hN hP (va_Dsame hD rfl) hS hA [0] rfl rfl 0 7 (T := TX7) (N := 14) rfl rfl rfl hl.1 rfl (Nat.le_of_ble_eq_true rfl) dX7_keep_24 ⟨Nat.zero_le _, Nat.zero_le _⟩ o_24 rfl rfl (fun H locs hP hS => ?_)
      have e9 : v_X7_keep x1 i_hangingNow i_hourNow f_slots = (o_24, o_20) := by
        refine (if_neg c_1).trans ?_
        refine (if_pos c_6).trans ?_
        refine (bnd_eq ho_17).trans ?_
        refine (bnd_eq ho_20).trans ?_
        refine (bnd_eq ho_24).trans ?_
        rfl
      rw [hQ]; exact retI (o_24, o_20) hx hb hr hlk e9 hP rfl hS dX7_keep_27
    · refine lv_iconst (v := (-1)) hx hb dX7_keep_9 rfl ?_
      have e9 : v_X7_keep x1 i_hangingNow i_hourNow f_slots = ((-1), f_slots) := by
        refine (if_neg c_1).trans ?_
        refine (if_neg c_6).trans ?_
        rfl
      rw [hQ]; exact retI ((-1), f_slots) hx hb hr hlk e9 hP rfl hS dX7_keep_10
def v_X7_again (x1 : Int32) (i_hangingNow : Int32) (i_hourNow : Int32) (f_slots : Nat → Int32) (i_acts_size : Int32) : Int32 × Int32 × Int32 × Int32 :=
  if x1 < 0 then ((-1), i_hangingNow, i_hourNow, i_acts_size)
  else (if x1 < 2 then (bnd (v_X4_at x1 f_slots 2) fun o_16 =>
    (if o_16 = (-9) then ((-3), i_hangingNow, i_hourNow, i_acts_size)
    else (bnd2 (v_X7_goBackTo o_16) fun o_31_1 o_31_2 =>
    (bnd (v_X0_clear) fun o_38 =>
    (bnd (v_X7_squaresNow o_31_1) fun o_42 =>
    (o_42, o_31_1, o_31_2, o_38))))))
  else ((-1), i_hangingNow, i_hourNow, i_acts_size))
abbrev rm_X7_again : Room := { frames := 2, cells := 0, slots := 0, locals := 40 }
set_option maxHeartbeats 4000000 in
set_option maxRecDepth 100000 in
theorem k_X7_again (l : Launch) (D : va_G) (cI cZ : ClassId) (a a_text a_lease a_reader a_prover a_survey a_paths a_acts a_slots n_slots a_acts_moments : Nat) (x1 : Int32) (i_hangingNow : Int32) (i_hourNow : Int32) (i_toldDark : Int32) (i_toldLight : Int32) (i_toldCount : Int32) (j_seedNow : Int64) (f_slots : Nat → Int32) (i_acts_size : Int32) : KI l D cI cZ yX7_again wsX7_again rm_X7_again [.ref a, .int x1] [(a, .inr (7, [.ref a_text, .ref a_lease, .ref a_reader, .ref a_prover, .ref a_survey, .ref a_paths, .ref a_acts, .ref a_slots, .int i_hangingNow, .int i_hourNow, .int i_toldDark, .int i_toldLight, .int i_toldCount, .long j_seedNow])), (a_slots, .inr (4, [.ref n_slots])), (n_slots, .inl (cI, 2, .inl f_slots)), (a_acts, .inr (0, [.ref a_acts_moments, .int i_acts_size]))] (v_X7_again x1 i_hangingNow i_hourNow f_slots i_acts_size) (fun o : Int32 × Int32 × Int32 × Int32 => o.1) (fun o : Int32 × Int32 × Int32 × Int32 => [(a, .inr (7, [.ref a_text, .ref a_lease, .ref a_reader, .ref a_prover, .ref a_survey, .ref a_paths, .ref a_acts, .ref a_slots, .int o.2.1, .int o.2.2.1, .int i_toldDark, .int i_toldLight, .int i_toldCount, .long j_seedNow])), (a_slots, .inr (4, [.ref n_slots])), (n_slots, .inl (cI, 2, .inl f_slots)), (a_acts, .inr (0, [.ref a_acts_moments, .int o.2.2.2]))]) := by
  refine KI.of cX7_again 3 (some .int) (by decide) rfl (Nat.le_of_ble_eq_true rfl) ?_
  intro p e s m below meth c A ls ar Q hQ B
  obtain ⟨hx, hb, hr, hml, hts, hown, hlk, hK, hN, hP, hD, hA, hS, hl⟩ := B
  have hown : s.vm.findClass RX7 = some m.cls := hown
  have hF : CallFix p m c cX7_again 3 s ar wsX7_again RX7 := ⟨hx, hb, hml, hown, hts⟩
  have hl : lv_has ls 3 [(0, .ref a), (1, .int x1)] := hl
  refine lv_iload_n hx hb dX7_again_0 rfl (lv_at hl 1 rfl) ?_
  refine lv_if_lt (tgt := 9) hx hb dX7_again_1 (by decide) (fun c_1 => ?_) (fun c_1 => ?_)
  · refine lv_iconst (v := (-1)) hx hb dX7_again_9 rfl ?_
    have e9 : v_X7_again x1 i_hangingNow i_hourNow f_slots i_acts_size = ((-1), i_hangingNow, i_hourNow, i_acts_size) := by
      refine (if_pos c_1).trans ?_
      rfl
    rw [hQ]; exact retI ((-1), i_hangingNow, i_hourNow, i_acts_size) hx hb hr hlk e9 hP rfl hS dX7_again_10
  · refine lv_iload_n hx hb dX7_again_4 rfl (lv_at hl 1 rfl) ?_
    refine lv_iconst (v := 2) hx hb dX7_again_5 rfl ?_
    refine lv_icmp_lt (tgt := 11) hx hb dX7_again_6 (by decide) (fun c_6 => ?_) (fun c_6 => ?_)
    · refine lv_aload_n hx hb dX7_again_11 rfl (lv_at hl 0 rfl) ?_
      refine va_get (D := D) (ci := 7) (v := .ref a_slots) (C := RX7) (T := TX7) (N := 14) hx hb hts (fun _ h => List.mem_cons_of_mem _ (List.mem_append_left _ (List.mem_append_left _ (List.mem_append_right _ (h))))) hown hK hP 0 rfl rfl 7 (by decide) (hts _ (List.mem_of_getElem? (i := 1) rfl)) (fun _ h9 => h9) rfl dX7_again_12 ?_
      refine lv_iload_n hx hb dX7_again_15 rfl (lv_at hl 1 rfl) ?_
      obtain ⟨o_16, ho_16⟩ : ∃ z : Int32, z = v_X4_at x1 f_slots 2 := ⟨_, rfl⟩
      refine callVIs (As := [.int x1]) (rest := []) o_16 ho_16 hF (k_X4_at l D cI cZ a_slots n_slots x1 f_slots 2 (by decide)) (cwV 1 hts gX7_again_X4_at rfl rfl rfl (by decide +kernel) ⟨Nat.le_of_ble_eq_true rfl, Nat.le_of_ble_eq_true rfl⟩) hK hN hP (va_Dsame hD rfl) hS hA [1, 2] rfl rfl 1 4 (T := TX4) (N := 1) rfl rfl rfl hl.1 rfl (Nat.le_of_ble_eq_true rfl) dX7_again_16 ⟨Nat.zero_le _, Nat.zero_le _⟩ o_16 rfl rfl (fun H locs hP hS => ?_)
      refine lv_istore_n (lv' := [(2, .int o_16), (0, .ref a), (1, .int x1)]) hx hb dX7_again_19 rfl hl (by decide) rfl (fun ls hl => ?_)
      refine lv_iload_n hx hb dX7_again_20 rfl (lv_at hl 0 rfl) ?_
      refine lv_bipush (v := (-9)) hx hb dX7_again_21 rfl ?_
      refine lv_icmp_ne (tgt := 29) hx hb dX7_again_23 (by decide) (fun c_23 => ?_) (fun c_23 => ?_)
      · refine lv_aload_n hx hb dX7_again_29 rfl (lv_at hl 1 rfl) ?_
        refine lv_iload_n hx hb dX7_again_30 rfl (lv_at hl 0 rfl) ?_
        obtain ⟨o_31_1, o_31_2, ho_31⟩ := ex2 (v_X7_goBackTo o_16)
        refine callVV (As := [.int o_16]) (rest := []) (o_31_1, o_31_2) ho_31 hF (k_X7_goBackTo l D cI cZ a a_text a_lease a_reader a_prover a_survey a_paths a_acts a_slots o_16 i_hangingNow i_hourNow i_toldDark i_toldLight i_toldCount j_seedNow) (cwV 1 hts gX7_again_X7_goBackTo rfl rfl rfl (by decide +kernel) ⟨Nat.le_of_ble_eq_true rfl, Nat.le_of_ble_eq_true rfl⟩) hK hN hP (va_Dsame hD rfl) hS hA [0] rfl rfl 0 7 (T := TX7) (N := 14) rfl rfl rfl hl.1 rfl (Nat.le_of_ble_eq_true rfl) dX7_again_31 ⟨Nat.zero_le _, Nat.zero_le _⟩ [some 0, none, none, none] 1 [(a, .inr (7, [.ref a_text, .ref a_lease, .ref a_reader, .ref a_prover, .ref a_survey, .ref a_paths, .ref a_acts, .ref a_slots, .int o_31_1, .int o_31_2, .int i_toldDark, .int i_toldLight, .int i_toldCount, .long j_seedNow])), (a_slots, .inr (4, [.ref n_slots])), (n_slots, .inl (cI, 2, .inl f_slots)), (a_acts, .inr (0, [.ref a_acts_moments, .int i_acts_size]))] rfl rfl (by decide) (fun H locs hP hS => ?_)
        refine lv_aload_n hx hb dX7_again_34 rfl (lv_at hl 1 rfl) ?_
        refine va_get (D := D) (ci := 7) (v := .ref a_acts) (C := RX7) (T := TX7) (N := 14) hx hb hts (fun _ h => List.mem_cons_of_mem _ (List.mem_append_left _ (List.mem_append_left _ (List.mem_append_right _ (h))))) hown hK hP 0 rfl rfl 6 (by decide) (hts _ (List.mem_of_getElem? (i := 2) rfl)) (fun _ h9 => h9) rfl dX7_again_35 ?_
        obtain ⟨o_38, ho_38⟩ : ∃ z : Int32, z = v_X0_clear := ⟨_, rfl⟩
        refine callVV (As := []) (rest := []) o_38 ho_38 hF (k_X0_clear l D cI cZ a_acts a_acts_moments i_acts_size) (cwV 0 hts gX7_again_X0_clear rfl rfl rfl (by decide +kernel) ⟨Nat.le_of_ble_eq_true rfl, Nat.le_of_ble_eq_true rfl⟩) hK hN hP (va_Dsame hD rfl) hS hA [3] rfl rfl 3 0 (T := TX0) (N := 2) rfl rfl rfl hl.1 rfl (Nat.le_of_ble_eq_true rfl) dX7_again_38 ⟨Nat.zero_le _, Nat.zero_le _⟩ [none, none, none, some 0] 1 [(a, .inr (7, [.ref a_text, .ref a_lease, .ref a_reader, .ref a_prover, .ref a_survey, .ref a_paths, .ref a_acts, .ref a_slots, .int o_31_1, .int o_31_2, .int i_toldDark, .int i_toldLight, .int i_toldCount, .long j_seedNow])), (a_slots, .inr (4, [.ref n_slots])), (n_slots, .inl (cI, 2, .inl f_slots)), (a_acts, .inr (0, [.ref a_acts_moments, .int o_38]))] rfl rfl (by decide) (fun H locs hP hS => ?_)
        refine lv_aload_n hx hb dX7_again_41 rfl (lv_at hl 1 rfl) ?_
        obtain ⟨o_42, ho_42⟩ : ∃ z : Int32, z = v_X7_squaresNow o_31_1 := ⟨_, rfl⟩
        refine callVIs (As := []) (rest := []) o_42 ho_42 hF (k_X7_squaresNow l D cI cZ a a_text a_lease a_reader a_prover a_survey a_paths a_acts a_slots o_31_1 o_31_2 i_toldDark i_toldLight i_toldCount j_seedNow) (cwV 0 hts gX7_again_X7_squaresNow rfl rfl rfl (by decide +kernel) ⟨Nat.le_of_ble_eq_true rfl, Nat.le_of_ble_eq_true rfl⟩) hK hN hP (va_Dsame hD rfl) hS hA [0] rfl rfl 0 7 (T := TX7) (N := 14) rfl rfl rfl hl.1 rfl (Nat.le_of_ble_eq_true rfl) dX7_again_42 ⟨Nat.zero_le _, Nat.zero_le _⟩ o_42 rfl rfl (fun H locs hP hS => ?_)
        have e9 : v_X7_again x1 i_hangingNow i_hourNow f_slots i_acts_size = (o_42, o_31_1, o_31_2, o_38) := by
          refine (if_neg c_1).trans ?_
          refine (if_pos c_6).trans ?_
          refine (bnd_eq ho_16).trans ?_
          refine (if_neg c_23).trans ?_
          refine (bnd2_eq ho_31).trans ?_
          refine (bnd_eq ho_38).trans ?_
          refine (bnd_eq ho_42).trans ?_
          rfl
        rw [hQ]; exact retI (o_42, o_31_1, o_31_2, o_38) hx hb hr hlk e9 hP rfl hS dX7_again_45
      · refine lv_bipush (v := (-3)) hx hb dX7_again_26 rfl ?_
        have e9 : v_X7_again x1 i_hangingNow i_hourNow f_slots i_acts_size = ((-3), i_hangingNow, i_hourNow, i_acts_size) := by
          refine (if_neg c_1).trans ?_
          refine (if_pos c_6).trans ?_
          refine (bnd_eq ho_16).trans ?_
          refine (if_pos c_23).trans ?_
          rfl
        rw [hQ]; exact retI ((-3), i_hangingNow, i_hourNow, i_acts_size) hx hb hr hlk e9 hP rfl hS dX7_again_28
    · refine lv_iconst (v := (-1)) hx hb dX7_again_9 rfl ?_
      have e9 : v_X7_again x1 i_hangingNow i_hourNow f_slots i_acts_size = ((-1), i_hangingNow, i_hourNow, i_acts_size) := by
        refine (if_neg c_1).trans ?_
        refine (if_neg c_6).trans ?_
        rfl
      rw [hQ]; exact retI ((-1), i_hangingNow, i_hourNow, i_acts_size) hx hb hr hlk e9 hP rfl hS dX7_again_10
def v_X7_count (x1 : Int32) (i_hangingNow : Int32) (i_hourNow : Int32) (i_toldCount : Int32) (i_text_length : Int32) (i_lease_wishCount : Int32) (i_lease_owedPlaces : Int32) (i_acts_size : Int32) (f_lease_cells : Nat → Int32) (f_lease_needs : Nat → Int32) : Int32 :=
  if x1 = 0 then (bnd (v_X6_length i_text_length) fun o_56 =>
    o_56)
  else (if x1 = 1 then (bnd (v_X1_wishCount i_lease_wishCount) fun o_64 =>
    o_64)
  else (if x1 = 2 then (bnd (v_X1_owedCount i_lease_owedPlaces) fun o_72 =>
    o_72)
  else (if x1 = 3 then (bnd (v_X7_squaresNow i_hangingNow) fun o_77 =>
    o_77)
  else (if x1 = 4 then i_hourNow
  else (if x1 = 5 then i_hangingNow
  else (if x1 = 6 then (bnd (v_X0_size i_acts_size) fun o_95 =>
    o_95)
  else (if x1 = 7 then i_toldCount
  else (if x1 = 8 then (bnd (v_X1_grantedBy i_hangingNow i_lease_wishCount f_lease_cells f_lease_needs) fun o_112 =>
    o_112)
  else (-2)))))))))
abbrev rm_X7_count : Room := { frames := 2, cells := 0, slots := 0, locals := 44 }
set_option maxHeartbeats 4000000 in
set_option maxRecDepth 100000 in
theorem k_X7_count (l : Launch) (D : va_G) (cI cZ : ClassId) (a a_text a_lease a_reader a_prover a_survey a_paths a_acts a_slots a_text_letters a_lease_places a_lease_firstHours a_lease_spans a_lease_values a_lease_cells a_lease_needs a_lease_owed a_lease_room a_acts_moments n_lease_cells n_lease_needs : Nat) (x1 : Int32) (i_hangingNow : Int32) (i_hourNow : Int32) (i_toldDark : Int32) (i_toldLight : Int32) (i_toldCount : Int32) (j_seedNow : Int64) (i_text_length : Int32) (i_lease_squares : Int32) (i_lease_wishCount : Int32) (i_lease_owedPlaces : Int32) (i_acts_size : Int32) (f_lease_cells : Nat → Int32) (f_lease_needs : Nat → Int32) : KI l D cI cZ yX7_count wsX7_count rm_X7_count [.ref a, .int x1] [(a, .inr (7, [.ref a_text, .ref a_lease, .ref a_reader, .ref a_prover, .ref a_survey, .ref a_paths, .ref a_acts, .ref a_slots, .int i_hangingNow, .int i_hourNow, .int i_toldDark, .int i_toldLight, .int i_toldCount, .long j_seedNow])), (a_text, .inr (6, [.ref a_text_letters, .int i_text_length])), (a_lease, .inr (1, [.ref a_lease_places, .ref a_lease_firstHours, .ref a_lease_spans, .ref a_lease_values, .ref a_lease_cells, .ref a_lease_needs, .ref a_lease_owed, .ref a_lease_room, .int i_lease_squares, .int i_lease_wishCount, .int i_lease_owedPlaces])), (a_acts, .inr (0, [.ref a_acts_moments, .int i_acts_size])), (a_lease_cells, .inr (4, [.ref n_lease_cells])), (n_lease_cells, .inl (cI, 5, .inl f_lease_cells)), (a_lease_needs, .inr (4, [.ref n_lease_needs])), (n_lease_needs, .inl (cI, 5, .inl f_lease_needs))] (v_X7_count x1 i_hangingNow i_hourNow i_toldCount i_text_length i_lease_wishCount i_lease_owedPlaces i_acts_size f_lease_cells f_lease_needs) (fun o : Int32 => o) (fun _ : Int32 => [(a, .inr (7, [.ref a_text, .ref a_lease, .ref a_reader, .ref a_prover, .ref a_survey, .ref a_paths, .ref a_acts, .ref a_slots, .int i_hangingNow, .int i_hourNow, .int i_toldDark, .int i_toldLight, .int i_toldCount, .long j_seedNow])), (a_text, .inr (6, [.ref a_text_letters, .int i_text_length])), (a_lease, .inr (1, [.ref a_lease_places, .ref a_lease_firstHours, .ref a_lease_spans, .ref a_lease_values, .ref a_lease_cells, .ref a_lease_needs, .ref a_lease_owed, .ref a_lease_room, .int i_lease_squares, .int i_lease_wishCount, .int i_lease_owedPlaces])), (a_acts, .inr (0, [.ref a_acts_moments, .int i_acts_size])), (a_lease_cells, .inr (4, [.ref n_lease_cells])), (n_lease_cells, .inl (cI, 5, .inl f_lease_cells)), (a_lease_needs, .inr (4, [.ref n_lease_needs])), (n_lease_needs, .inl (cI, 5, .inl f_lease_needs))]) := by
  refine KI.of cX7_count 2 (some .int) (by decide) rfl (Nat.le_of_ble_eq_true rfl) ?_
  intro p e s m below meth c A ls ar Q hQ B
  obtain ⟨hx, hb, hr, hml, hts, hown, hlk, hK, hN, hP, hD, hA, hS, hl⟩ := B
  have hown : s.vm.findClass RX7 = some m.cls := hown
  have hF : CallFix p m c cX7_count 2 s ar wsX7_count RX7 := ⟨hx, hb, hml, hown, hts⟩
  have hl : lv_has ls 2 [(0, .ref a), (1, .int x1)] := hl
  refine lv_iload_n hx hb dX7_count_0 rfl (lv_at hl 1 rfl) ?_
  by_cases c_1_0 : x1 = 0
  · have hxI : (x1).toInt = 0 := by rw [c_1_0]; rfl
    refine lv_tableIn (off := 51) (tgt := 52) hx hb dX7_count_1 (by rw [hxI]; decide) (by rw [hxI]; decide) (by rw [hxI]; rfl) (by decide) ?_
    refine lv_aload_n hx hb dX7_count_52 rfl (lv_at hl 0 rfl) ?_
    refine va_get (D := D) (ci := 7) (v := .ref a_text) (C := RX7) (T := TX7) (N := 14) hx hb hts (fun _ h => List.mem_cons_of_mem _ (List.mem_append_left _ (List.mem_append_left _ (List.mem_append_left _ (List.mem_append_left _ (List.mem_append_right _ (h))))))) hown hK hP 0 rfl rfl 0 (by decide) (hts _ (List.mem_of_getElem? (i := 1) rfl)) (fun _ h9 => h9) rfl dX7_count_53 ?_
    obtain ⟨o_56, ho_56⟩ : ∃ z : Int32, z = v_X6_length i_text_length := ⟨_, rfl⟩
    refine callVIs (As := []) (rest := []) o_56 ho_56 hF (k_X6_length l D cI cZ a_text a_text_letters i_text_length) (cwV 0 hts gX7_count_X6_length rfl rfl rfl (by decide +kernel) ⟨Nat.le_of_ble_eq_true rfl, Nat.le_of_ble_eq_true rfl⟩) hK hN hP (va_Dsame hD rfl) hS hA [1] rfl rfl 1 6 (T := TX6) (N := 2) rfl rfl rfl hl.1 rfl (Nat.le_of_ble_eq_true rfl) dX7_count_56 ⟨Nat.zero_le _, Nat.zero_le _⟩ o_56 rfl rfl (fun H locs hP hS => ?_)
    have e9 : v_X7_count x1 i_hangingNow i_hourNow i_toldCount i_text_length i_lease_wishCount i_lease_owedPlaces i_acts_size f_lease_cells f_lease_needs = o_56 := by
      refine (if_pos c_1_0).trans ?_
      refine (bnd_eq ho_56).trans ?_
      rfl
    rw [hQ]; exact retI o_56 hx hb hr hlk e9 hP rfl hS dX7_count_59
  by_cases c_1_1 : x1 = 1
  · have hxI : (x1).toInt = 1 := by rw [c_1_1]; rfl
    refine lv_tableIn (off := 59) (tgt := 60) hx hb dX7_count_1 (by rw [hxI]; decide) (by rw [hxI]; decide) (by rw [hxI]; rfl) (by decide) ?_
    refine lv_aload_n hx hb dX7_count_60 rfl (lv_at hl 0 rfl) ?_
    refine va_get (D := D) (ci := 7) (v := .ref a_lease) (C := RX7) (T := TX7) (N := 14) hx hb hts (fun _ h => List.mem_cons_of_mem _ (List.mem_append_left _ (List.mem_append_left _ (List.mem_append_left _ (List.mem_append_left _ (List.mem_append_right _ (h))))))) hown hK hP 0 rfl rfl 1 (by decide) (hts _ (List.mem_of_getElem? (i := 2) rfl)) (fun _ h9 => h9) rfl dX7_count_61 ?_
    obtain ⟨o_64, ho_64⟩ : ∃ z : Int32, z = v_X1_wishCount i_lease_wishCount := ⟨_, rfl⟩
    refine callVIs (As := []) (rest := []) o_64 ho_64 hF (k_X1_wishCount l D cI cZ a_lease a_lease_places a_lease_firstHours a_lease_spans a_lease_values a_lease_cells a_lease_needs a_lease_owed a_lease_room i_lease_squares i_lease_wishCount i_lease_owedPlaces) (cwV 0 hts gX7_count_X1_wishCount rfl rfl rfl (by decide +kernel) ⟨Nat.le_of_ble_eq_true rfl, Nat.le_of_ble_eq_true rfl⟩) hK hN hP (va_Dsame hD rfl) hS hA [2] rfl rfl 2 1 (T := TX1) (N := 11) rfl rfl rfl hl.1 rfl (Nat.le_of_ble_eq_true rfl) dX7_count_64 ⟨Nat.zero_le _, Nat.zero_le _⟩ o_64 rfl rfl (fun H locs hP hS => ?_)
    have e9 : v_X7_count x1 i_hangingNow i_hourNow i_toldCount i_text_length i_lease_wishCount i_lease_owedPlaces i_acts_size f_lease_cells f_lease_needs = o_64 := by
      refine (if_neg c_1_0).trans ?_
      refine (if_pos c_1_1).trans ?_
      refine (bnd_eq ho_64).trans ?_
      rfl
    rw [hQ]; exact retI o_64 hx hb hr hlk e9 hP rfl hS dX7_count_67
  by_cases c_1_2 : x1 = 2
  · have hxI : (x1).toInt = 2 := by rw [c_1_2]; rfl
    refine lv_tableIn (off := 67) (tgt := 68) hx hb dX7_count_1 (by rw [hxI]; decide) (by rw [hxI]; decide) (by rw [hxI]; rfl) (by decide) ?_
    refine lv_aload_n hx hb dX7_count_68 rfl (lv_at hl 0 rfl) ?_
    refine va_get (D := D) (ci := 7) (v := .ref a_lease) (C := RX7) (T := TX7) (N := 14) hx hb hts (fun _ h => List.mem_cons_of_mem _ (List.mem_append_left _ (List.mem_append_left _ (List.mem_append_left _ (List.mem_append_left _ (List.mem_append_right _ (h))))))) hown hK hP 0 rfl rfl 1 (by decide) (hts _ (List.mem_of_getElem? (i := 2) rfl)) (fun _ h9 => h9) rfl dX7_count_69 ?_
    obtain ⟨o_72, ho_72⟩ : ∃ z : Int32, z = v_X1_owedCount i_lease_owedPlaces := ⟨_, rfl⟩
    refine callVIs (As := []) (rest := []) o_72 ho_72 hF (k_X1_owedCount l D cI cZ a_lease a_lease_places a_lease_firstHours a_lease_spans a_lease_values a_lease_cells a_lease_needs a_lease_owed a_lease_room i_lease_squares i_lease_wishCount i_lease_owedPlaces) (cwV 0 hts gX7_count_X1_owedCount rfl rfl rfl (by decide +kernel) ⟨Nat.le_of_ble_eq_true rfl, Nat.le_of_ble_eq_true rfl⟩) hK hN hP (va_Dsame hD rfl) hS hA [2] rfl rfl 2 1 (T := TX1) (N := 11) rfl rfl rfl hl.1 rfl (Nat.le_of_ble_eq_true rfl) dX7_count_72 ⟨Nat.zero_le _, Nat.zero_le _⟩ o_72 rfl rfl (fun H locs hP hS => ?_)
    have e9 : v_X7_count x1 i_hangingNow i_hourNow i_toldCount i_text_length i_lease_wishCount i_lease_owedPlaces i_acts_size f_lease_cells f_lease_needs = o_72 := by
      refine (if_neg c_1_0).trans ?_
      refine (if_neg c_1_1).trans ?_
      refine (if_pos c_1_2).trans ?_
      refine (bnd_eq ho_72).trans ?_
      rfl
    rw [hQ]; exact retI o_72 hx hb hr hlk e9 hP rfl hS dX7_count_75
  by_cases c_1_3 : x1 = 3
  · have hxI : (x1).toInt = 3 := by rw [c_1_3]; rfl
    refine lv_tableIn (off := 75) (tgt := 76) hx hb dX7_count_1 (by rw [hxI]; decide) (by rw [hxI]; decide) (by rw [hxI]; rfl) (by decide) ?_
    refine lv_aload_n hx hb dX7_count_76 rfl (lv_at hl 0 rfl) ?_
    obtain ⟨o_77, ho_77⟩ : ∃ z : Int32, z = v_X7_squaresNow i_hangingNow := ⟨_, rfl⟩
    refine callVIs (As := []) (rest := []) o_77 ho_77 hF (k_X7_squaresNow l D cI cZ a a_text a_lease a_reader a_prover a_survey a_paths a_acts a_slots i_hangingNow i_hourNow i_toldDark i_toldLight i_toldCount j_seedNow) (cwV 0 hts gX7_count_X7_squaresNow rfl rfl rfl (by decide +kernel) ⟨Nat.le_of_ble_eq_true rfl, Nat.le_of_ble_eq_true rfl⟩) hK hN hP (va_Dsame hD rfl) hS hA [0] rfl rfl 0 7 (T := TX7) (N := 14) rfl rfl rfl hl.1 rfl (Nat.le_of_ble_eq_true rfl) dX7_count_77 ⟨Nat.zero_le _, Nat.zero_le _⟩ o_77 rfl rfl (fun H locs hP hS => ?_)
    have e9 : v_X7_count x1 i_hangingNow i_hourNow i_toldCount i_text_length i_lease_wishCount i_lease_owedPlaces i_acts_size f_lease_cells f_lease_needs = o_77 := by
      refine (if_neg c_1_0).trans ?_
      refine (if_neg c_1_1).trans ?_
      refine (if_neg c_1_2).trans ?_
      refine (if_pos c_1_3).trans ?_
      refine (bnd_eq ho_77).trans ?_
      rfl
    rw [hQ]; exact retI o_77 hx hb hr hlk e9 hP rfl hS dX7_count_80
  by_cases c_1_4 : x1 = 4
  · have hxI : (x1).toInt = 4 := by rw [c_1_4]; rfl
    refine lv_tableIn (off := 80) (tgt := 81) hx hb dX7_count_1 (by rw [hxI]; decide) (by rw [hxI]; decide) (by rw [hxI]; rfl) (by decide) ?_
    refine lv_aload_n hx hb dX7_count_81 rfl (lv_at hl 0 rfl) ?_
    refine va_get (D := D) (ci := 7) (v := .int i_hourNow) (C := RX7) (T := TX7) (N := 14) hx hb hts (fun _ h => List.mem_cons_of_mem _ (List.mem_append_left _ (List.mem_append_left _ (List.mem_append_left _ (List.mem_append_left _ (List.mem_append_right _ (h))))))) hown hK hP 0 rfl rfl 9 (by decide) (hts _ (List.mem_of_getElem? (i := 3) rfl)) (fun _ h9 => h9) rfl dX7_count_82 ?_
    have e9 : v_X7_count x1 i_hangingNow i_hourNow i_toldCount i_text_length i_lease_wishCount i_lease_owedPlaces i_acts_size f_lease_cells f_lease_needs = i_hourNow := by
      refine (if_neg c_1_0).trans ?_
      refine (if_neg c_1_1).trans ?_
      refine (if_neg c_1_2).trans ?_
      refine (if_neg c_1_3).trans ?_
      refine (if_pos c_1_4).trans ?_
      rfl
    rw [hQ]; exact retI i_hourNow hx hb hr hlk e9 hP rfl hS dX7_count_85
  by_cases c_1_5 : x1 = 5
  · have hxI : (x1).toInt = 5 := by rw [c_1_5]; rfl
    refine lv_tableIn (off := 85) (tgt := 86) hx hb dX7_count_1 (by rw [hxI]; decide) (by rw [hxI]; decide) (by rw [hxI]; rfl) (by decide) ?_
    refine lv_aload_n hx hb dX7_count_86 rfl (lv_at hl 0 rfl) ?_
    refine va_get (D := D) (ci := 7) (v := .int i_hangingNow) (C := RX7) (T := TX7) (N := 14) hx hb hts (fun _ h => List.mem_cons_of_mem _ (List.mem_append_left _ (List.mem_append_left _ (List.mem_append_left _ (List.mem_append_left _ (List.mem_append_right _ (h))))))) hown hK hP 0 rfl rfl 8 (by decide) (hts _ (List.mem_of_getElem? (i := 4) rfl)) (fun _ h9 => h9) rfl dX7_count_87 ?_
    have e9 : v_X7_count x1 i_hangingNow i_hourNow i_toldCount i_text_length i_lease_wishCount i_lease_owedPlaces i_acts_size f_lease_cells f_lease_needs = i_hangingNow := by
      refine (if_neg c_1_0).trans ?_
      refine (if_neg c_1_1).trans ?_
      refine (if_neg c_1_2).trans ?_
      refine (if_neg c_1_3).trans ?_
      refine (if_neg c_1_4).trans ?_
      refine (if_pos c_1_5).trans ?_
      rfl
    rw [hQ]; exact retI i_hangingNow hx hb hr hlk e9 hP rfl hS dX7_count_90
  by_cases c_1_6 : x1 = 6
  · have hxI : (x1).toInt = 6 := by rw [c_1_6]; rfl
    refine lv_tableIn (off := 90) (tgt := 91) hx hb dX7_count_1 (by rw [hxI]; decide) (by rw [hxI]; decide) (by rw [hxI]; rfl) (by decide) ?_
    refine lv_aload_n hx hb dX7_count_91 rfl (lv_at hl 0 rfl) ?_
    refine va_get (D := D) (ci := 7) (v := .ref a_acts) (C := RX7) (T := TX7) (N := 14) hx hb hts (fun _ h => List.mem_cons_of_mem _ (List.mem_append_left _ (List.mem_append_left _ (List.mem_append_left _ (List.mem_append_left _ (List.mem_append_right _ (h))))))) hown hK hP 0 rfl rfl 6 (by decide) (hts _ (List.mem_of_getElem? (i := 5) rfl)) (fun _ h9 => h9) rfl dX7_count_92 ?_
    obtain ⟨o_95, ho_95⟩ : ∃ z : Int32, z = v_X0_size i_acts_size := ⟨_, rfl⟩
    refine callVIs (As := []) (rest := []) o_95 ho_95 hF (k_X0_size l D cI cZ a_acts a_acts_moments i_acts_size) (cwV 0 hts gX7_count_X0_size rfl rfl rfl (by decide +kernel) ⟨Nat.le_of_ble_eq_true rfl, Nat.le_of_ble_eq_true rfl⟩) hK hN hP (va_Dsame hD rfl) hS hA [3] rfl rfl 3 0 (T := TX0) (N := 2) rfl rfl rfl hl.1 rfl (Nat.le_of_ble_eq_true rfl) dX7_count_95 ⟨Nat.zero_le _, Nat.zero_le _⟩ o_95 rfl rfl (fun H locs hP hS => ?_)
    have e9 : v_X7_count x1 i_hangingNow i_hourNow i_toldCount i_text_length i_lease_wishCount i_lease_owedPlaces i_acts_size f_lease_cells f_lease_needs = o_95 := by
      refine (if_neg c_1_0).trans ?_
      refine (if_neg c_1_1).trans ?_
      refine (if_neg c_1_2).trans ?_
      refine (if_neg c_1_3).trans ?_
      refine (if_neg c_1_4).trans ?_
      refine (if_neg c_1_5).trans ?_
      refine (if_pos c_1_6).trans ?_
      refine (bnd_eq ho_95).trans ?_
      rfl
    rw [hQ]; exact retI o_95 hx hb hr hlk e9 hP rfl hS dX7_count_98
  by_cases c_1_7 : x1 = 7
  · have hxI : (x1).toInt = 7 := by rw [c_1_7]; rfl
    refine lv_tableIn (off := 98) (tgt := 99) hx hb dX7_count_1 (by rw [hxI]; decide) (by rw [hxI]; decide) (by rw [hxI]; rfl) (by decide) ?_
    refine lv_aload_n hx hb dX7_count_99 rfl (lv_at hl 0 rfl) ?_
    refine va_get (D := D) (ci := 7) (v := .int i_toldCount) (C := RX7) (T := TX7) (N := 14) hx hb hts (fun _ h => List.mem_cons_of_mem _ (List.mem_append_left _ (List.mem_append_left _ (List.mem_append_left _ (List.mem_append_left _ (List.mem_append_right _ (h))))))) hown hK hP 0 rfl rfl 12 (by decide) (hts _ (List.mem_of_getElem? (i := 6) rfl)) (fun _ h9 => h9) rfl dX7_count_100 ?_
    have e9 : v_X7_count x1 i_hangingNow i_hourNow i_toldCount i_text_length i_lease_wishCount i_lease_owedPlaces i_acts_size f_lease_cells f_lease_needs = i_toldCount := by
      refine (if_neg c_1_0).trans ?_
      refine (if_neg c_1_1).trans ?_
      refine (if_neg c_1_2).trans ?_
      refine (if_neg c_1_3).trans ?_
      refine (if_neg c_1_4).trans ?_
      refine (if_neg c_1_5).trans ?_
      refine (if_neg c_1_6).trans ?_
      refine (if_pos c_1_7).trans ?_
      rfl
    rw [hQ]; exact retI i_toldCount hx hb hr hlk e9 hP rfl hS dX7_count_103
  by_cases c_1_8 : x1 = 8
  · have hxI : (x1).toInt = 8 := by rw [c_1_8]; rfl
    refine lv_tableIn (off := 103) (tgt := 104) hx hb dX7_count_1 (by rw [hxI]; decide) (by rw [hxI]; decide) (by rw [hxI]; rfl) (by decide) ?_
    refine lv_aload_n hx hb dX7_count_104 rfl (lv_at hl 0 rfl) ?_
    refine va_get (D := D) (ci := 7) (v := .ref a_lease) (C := RX7) (T := TX7) (N := 14) hx hb hts (fun _ h => List.mem_cons_of_mem _ (List.mem_append_left _ (List.mem_append_left _ (List.mem_append_left _ (List.mem_append_left _ (List.mem_append_right _ (h))))))) hown hK hP 0 rfl rfl 1 (by decide) (hts _ (List.mem_of_getElem? (i := 2) rfl)) (fun _ h9 => h9) rfl dX7_count_105 ?_
    refine lv_aload_n hx hb dX7_count_108 rfl (lv_at hl 0 rfl) ?_
    refine va_get (D := D) (ci := 7) (v := .int i_hangingNow) (C := RX7) (T := TX7) (N := 14) hx hb hts (fun _ h => List.mem_cons_of_mem _ (List.mem_append_left _ (List.mem_append_left _ (List.mem_append_left _ (List.mem_append_left _ (List.mem_append_right _ (h))))))) hown hK hP 0 rfl rfl 8 (by decide) (hts _ (List.mem_of_getElem? (i := 4) rfl)) (fun _ h9 => h9) rfl dX7_count_109 ?_
    obtain ⟨o_112, ho_112⟩ : ∃ z : Int32, z = v_X1_grantedBy i_hangingNow i_lease_wishCount f_lease_cells f_lease_needs := ⟨_, rfl⟩
    refine callVIs (As := [.int i_hangingNow]) (rest := []) o_112 ho_112 hF (k_X1_grantedBy l D cI cZ a_lease a_lease_places a_lease_firstHours a_lease_spans a_lease_values a_lease_cells a_lease_needs a_lease_owed a_lease_room n_lease_cells n_lease_needs i_hangingNow i_lease_squares i_lease_wishCount i_lease_owedPlaces f_lease_cells f_lease_needs) (cwV 1 hts gX7_count_X1_grantedBy rfl rfl rfl (by decide +kernel) ⟨Nat.le_of_ble_eq_true rfl, Nat.le_of_ble_eq_true rfl⟩) hK hN hP (va_Dsame hD rfl) hS hA [2, 4, 5, 6, 7] rfl rfl 2 1 (T := TX1) (N := 11) rfl rfl rfl hl.1 rfl (Nat.le_of_ble_eq_true rfl) dX7_count_112 ⟨Nat.zero_le _, Nat.zero_le _⟩ o_112 rfl rfl (fun H locs hP hS => ?_)
    have e9 : v_X7_count x1 i_hangingNow i_hourNow i_toldCount i_text_length i_lease_wishCount i_lease_owedPlaces i_acts_size f_lease_cells f_lease_needs = o_112 := by
      refine (if_neg c_1_0).trans ?_
      refine (if_neg c_1_1).trans ?_
      refine (if_neg c_1_2).trans ?_
      refine (if_neg c_1_3).trans ?_
      refine (if_neg c_1_4).trans ?_
      refine (if_neg c_1_5).trans ?_
      refine (if_neg c_1_6).trans ?_
      refine (if_neg c_1_7).trans ?_
      refine (if_pos c_1_8).trans ?_
      refine (bnd_eq ho_112).trans ?_
      rfl
    rw [hQ]; exact retI o_112 hx hb hr hlk e9 hP rfl hS dX7_count_115
  have nc_1_0 := lv_neT c_1_0 (show (0 : Int32).toInt = 0 from rfl)
  have nc_1_1 := lv_neT c_1_1 (show (1 : Int32).toInt = 1 from rfl)
  have nc_1_2 := lv_neT c_1_2 (show (2 : Int32).toInt = 2 from rfl)
  have nc_1_3 := lv_neT c_1_3 (show (3 : Int32).toInt = 3 from rfl)
  have nc_1_4 := lv_neT c_1_4 (show (4 : Int32).toInt = 4 from rfl)
  have nc_1_5 := lv_neT c_1_5 (show (5 : Int32).toInt = 5 from rfl)
  have nc_1_6 := lv_neT c_1_6 (show (6 : Int32).toInt = 6 from rfl)
  have nc_1_7 := lv_neT c_1_7 (show (7 : Int32).toInt = 7 from rfl)
  have nc_1_8 := lv_neT c_1_8 (show (8 : Int32).toInt = 8 from rfl)
  refine lv_tableOut (tgt := 116) hx hb dX7_count_1 (by omega) (by decide) ?_
  refine lv_bipush (v := (-2)) hx hb dX7_count_116 rfl ?_
  have e9 : v_X7_count x1 i_hangingNow i_hourNow i_toldCount i_text_length i_lease_wishCount i_lease_owedPlaces i_acts_size f_lease_cells f_lease_needs = (-2) := by
    refine (if_neg c_1_0).trans ?_
    refine (if_neg c_1_1).trans ?_
    refine (if_neg c_1_2).trans ?_
    refine (if_neg c_1_3).trans ?_
    refine (if_neg c_1_4).trans ?_
    refine (if_neg c_1_5).trans ?_
    refine (if_neg c_1_6).trans ?_
    refine (if_neg c_1_7).trans ?_
    refine (if_neg c_1_8).trans ?_
    rfl
  rw [hQ]; exact retI (-2) hx hb hr hlk e9 hP rfl hS dX7_count_118
def v_X8_in (x0 : Int64) (x2 : Int64) (x4 : Int64) : Bool :=
  if (lg_cmp x0 x2) < 0 then false
  else (if 0 < (lg_cmp x0 x4) then false
  else true)
abbrev rm_X8_in : Room := { frames := 0, cells := 0, slots := 0, locals := 0 }
set_option maxHeartbeats 4000000 in
set_option maxRecDepth 100000 in
theorem k_X8_in (l : Launch) (D : va_G) (cI cZ : ClassId) (x0 : Int64) (x2 : Int64) (x4 : Int64) : KI l D cI cZ yX8_in wsX8_in rm_X8_in [.long x0, .long x2, .long x4] [] (v_X8_in x0 x2 x4) (fun o : Bool => bI o) (fun _ : Bool => []) := by
  refine KI.of cX8_in 6 (some .boolean) (by decide) rfl (Nat.le_of_ble_eq_true rfl) ?_
  intro p e s m below meth c A ls ar Q hQ B
  obtain ⟨hx, hb, hr, hml, hts, hown, hlk, hK, hN, hP, hD, hA, hS, hl⟩ := B
  have hown : s.vm.findClass RX8 = some m.cls := hown
  have hF : CallFix p m c cX8_in 6 s ar wsX8_in RX8 := ⟨hx, hb, hml, hown, hts⟩
  have hl : lv_has ls 6 [(0, .long x0), (2, .long x2), (4, .long x4)] := hl
  refine lv_lload_n hx hb dX8_in_0 rfl (lv_at hl 0 rfl) ?_
  refine lv_lload_n hx hb dX8_in_1 rfl (lv_at hl 1 rfl) ?_
  refine W.lcmp hx hb dX8_in_2 ?_
  refine lv_if_lt (tgt := 17) hx hb dX8_in_3 (by decide) (fun c_3 => ?_) (fun c_3 => ?_)
  · refine lv_iconst (v := 0) hx hb dX8_in_17 rfl ?_
    have e9 : v_X8_in x0 x2 x4 = false := by
      refine (if_pos c_3).trans ?_
      rfl
    rw [hQ]; exact retZ (v := fun o : Bool => o) false hx hb hr hlk e9 hP rfl hS dX8_in_18
  · refine lv_lload_n hx hb dX8_in_6 rfl (lv_at hl 0 rfl) ?_
    refine lv_lload hx hb dX8_in_7 (lv_at hl 2 rfl) ?_
    refine W.lcmp hx hb dX8_in_9 ?_
    refine lv_if_gt (tgt := 17) hx hb dX8_in_10 (by decide) (fun c_10 => ?_) (fun c_10 => ?_)
    · refine lv_iconst (v := 0) hx hb dX8_in_17 rfl ?_
      have e9 : v_X8_in x0 x2 x4 = false := by
        refine (if_neg c_3).trans ?_
        refine (if_pos c_10).trans ?_
        rfl
      rw [hQ]; exact retZ (v := fun o : Bool => o) false hx hb hr hlk e9 hP rfl hS dX8_in_18
    · refine lv_iconst (v := 1) hx hb dX8_in_13 rfl ?_
      refine lv_goto (tgt := 18) hx hb dX8_in_14 (by decide) ?_
      have e9 : v_X8_in x0 x2 x4 = true := by
        refine (if_neg c_3).trans ?_
        refine (if_neg c_10).trans ?_
        rfl
      rw [hQ]; exact retZ (v := fun o : Bool => o) true hx hb hr hlk e9 hP rfl hS dX8_in_18
theorem in_iff {a b c : Int64} : v_X8_in a b c = true ↔ b ≤ a ∧ a ≤ c := by
  rw [Int64.le_iff_toInt_le, Int64.le_iff_toInt_le]
  unfold v_X8_in
  by_cases h1 : lg_cmp a b < 0
  · rw [if_pos h1]
    have := (lg_lt a b).mp h1
    exact ⟨fun h => (by cases h), fun h => (by omega)⟩
  · rw [if_neg h1]
    have h1 : ¬ a.toInt < b.toInt := fun q => h1 ((lg_lt a b).mpr q)
    by_cases h2 : 0 < lg_cmp a c
    · rw [if_pos h2]
      have := (lg_gt a c).mp h2
      exact ⟨fun h => (by cases h), fun h => (by omega)⟩
    · rw [if_neg h2]
      have h2 : ¬ c.toInt < a.toInt := fun q => h2 ((lg_gt a c).mpr q)
      exact ⟨fun _ => ⟨by omega, by omega⟩, fun _ => rfl⟩
theorem in32 {x : Int32} {o : Bool} {a b : Nat} (hb : b < 2 ^ 31) (hab : a ≤ b) (ho : o = v_X8_in x.toInt64 (lN a) (lN b)) (h : ¬ bI o = 0) : ∃ j : Nat, a ≤ j ∧ j ≤ b ∧ x = nI j := by
  cases o with
  | false => exact absurd rfl h
  | true =>
    have h1 := in_iff.mp ho.symm
    rw [Int64.le_iff_toInt_le, Int64.le_iff_toInt_le, Int32.toInt_toInt64, lN_toInt (by omega), lN_toInt hb] at h1
    have h0 : ¬ x < 0 := by rw [Int32.lt_iff_toInt_lt]; show ¬ x.toInt < 0; omega
    obtain ⟨j, hj, rfl⟩ := nI_of h0
    rw [nI_toInt hj] at h1
    exact ⟨j, by omega, by omega, rfl⟩
theorem in01 {x : Int32} {o : Bool} (ho : o = v_X8_in x.toInt64 0 1) (h : ¬ bI o = 0) : vp_in x 2 := by
  obtain ⟨j, _, hj, rfl⟩ := in32 (a := 0) (b := 1) (by decide) (by decide) ho h
  exact vp_in_nI (by omega) (by decide)
