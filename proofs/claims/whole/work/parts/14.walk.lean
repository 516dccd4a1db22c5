def v_X8_isLawful_L4 (x1 : Int32) (f_owed : Nat → Int32) (i4 : Nat) (z4 : Bool) : Bool :=
  if bI z4 = 0 then false
  else (bnd (v_X8_darkHours x1 (nI i4)) fun o_18 =>
  (bnd (v_X8_ones o_18) fun o_21 =>
  (if (6 - o_21) < (f_owed (nI i4).toNatClampNeg) then false
  else true)))
def v_X8_isLawful (x1 : Int32) (f_owed : Nat → Int32) : Bool :=
  bnd (it (v_X8_isLawful_L4 x1 f_owed) 12 0 true) fun o_L4 =>
  o_L4
abbrev rm_X8_isLawful : Room := { frames := 3, cells := 0, slots := 0, locals := 66 }
set_option maxHeartbeats 4000000 in
set_option maxRecDepth 100000 in
theorem k_X8_isLawful (l : Launch) (D : va_G) (cI cZ : ClassId) (a a_readWishes a_readOwed a_told a_owed a_text a_row a_least a_values a_tellPlace a_tellHour a_tellDark a_isKept a_kept : Nat) (x1 : Int32) (i_readHung : Int32) (i_readMany : Int32) (i_readOwes : Int32) (i_wishes : Int32) (i_hung : Int32) (i_hour : Int32) (i_length : Int32) (i_at : Int32) (i_faultAt : Int32) (i_acts : Int32) (i_next : Int32) (i_tells : Int32) (j_seed : Int64) (f_owed : Nat → Int32) : KI l D cI cZ yX8_isLawful wsX8_isLawful rm_X8_isLawful [.ref a, .int x1] [(a, .inr (8, [.ref a_readWishes, .ref a_readOwed, .int i_readHung, .int i_readMany, .int i_readOwes, .ref a_told, .ref a_owed, .int i_wishes, .int i_hung, .int i_hour, .ref a_text, .int i_length, .int i_at, .int i_faultAt, .int i_acts, .int i_next, .ref a_row, .ref a_least, .ref a_values, .int i_tells, .ref a_tellPlace, .ref a_tellHour, .ref a_tellDark, .long j_seed, .ref a_isKept, .ref a_kept])), (a_owed, .inl (cI, 12, .inl f_owed))] (v_X8_isLawful x1 f_owed) (fun o : Bool => bI o) (fun _ : Bool => [(a, .inr (8, [.ref a_readWishes, .ref a_readOwed, .int i_readHung, .int i_readMany, .int i_readOwes, .ref a_told, .ref a_owed, .int i_wishes, .int i_hung, .int i_hour, .ref a_text, .int i_length, .int i_at, .int i_faultAt, .int i_acts, .int i_next, .ref a_row, .ref a_least, .ref a_values, .int i_tells, .ref a_tellPlace, .ref a_tellHour, .ref a_tellDark, .long j_seed, .ref a_isKept, .ref a_kept])), (a_owed, .inl (cI, 12, .inl f_owed))]) := by
  refine KI.of cX8_isLawful 4 (some .boolean) (by decide) rfl (Nat.le_of_ble_eq_true rfl) ?_
  intro p e s m below meth c A ls ar Q hQ B
  obtain ⟨hx, hb, hr, hml, hts, hown, hlk, hK, hN, hP, hD, hA, hS, hl⟩ := B
  have hown : s.vm.findClass RX8 = some m.cls := hown
  have hF : CallFix p m c cX8_isLawful 4 s ar wsX8_isLawful RX8 := ⟨hx, hb, hml, hown, hts⟩
  have hl : lv_has ls 4 [(0, .ref a), (1, .int x1)] := hl
  refine lv_iconst (v := 1) hx hb dX8_isLawful_0 rfl ?_
  refine lv_istore_n (lv' := [(2, .int 1), (0, .ref a), (1, .int x1)]) hx hb dX8_isLawful_1 rfl hl (by decide) rfl (fun ls hl => ?_)
  refine lv_iconst (v := 0) hx hb dX8_isLawful_2 rfl ?_
  refine lv_istore_n (lv' := [(3, .int 0), (2, .int 1), (0, .ref a), (1, .int x1)]) hx hb dX8_isLawful_3 rfl hl (by decide) rfl (fun ls hl => ?_)
  obtain ⟨o_L4, ho_L4⟩ : ∃ z : Bool, z = it (v_X8_isLawful_L4 x1 f_owed) 12 0 true := ⟨_, rfl⟩
  have kE4 : ∀ (H : Heap) (locs : List Loc) (ls : Array Slot), va_P D vwCl [(a, .inr (8, [.ref a_readWishes, .ref a_readOwed, .int i_readHung, .int i_readMany, .int i_readOwes, .ref a_told, .ref a_owed, .int i_wishes, .int i_hung, .int i_hour, .ref a_text, .int i_length, .int i_at, .int i_faultAt, .int i_acts, .int i_next, .ref a_row, .ref a_least, .ref a_values, .int i_tells, .ref a_tellPlace, .ref a_tellHour, .ref a_tellDark, .long j_seed, .ref a_isKept, .ref a_kept])), (a_owed, .inl (cI, 12, .inl f_owed))] H → va_S A s.heap H locs → lv_has ls 4 [(2, .int (bI o_L4))] → W p l e rm_X8_isLawful s m ar below meth c H locs 0 0 Q (F0 m 46 ls []) := by
    intro H locs ls hP hS hl
    refine lv_iload_n hx hb dX8_isLawful_46 rfl (lv_at hl 0 rfl) ?_
    have e9 : v_X8_isLawful x1 f_owed = o_L4 := by
      refine (bnd_eq ho_L4).trans ?_
      rfl
    rw [hQ]; exact retZ (v := fun o : Bool => o) o_L4 hx hb hr hlk e9 hP rfl hS dX8_isLawful_47
  have loop4 : ∀ (k i4 : Nat) (z4 : Bool), 0 ≤ i4 → i4 + k = 0 + 12 → it (v_X8_isLawful_L4 x1 f_owed) k i4 z4 = o_L4 → ∀ (H : Heap) (locs : List Loc) (ls : Array Slot), va_P D vwCl [(a, .inr (8, [.ref a_readWishes, .ref a_readOwed, .int i_readHung, .int i_readMany, .int i_readOwes, .ref a_told, .ref a_owed, .int i_wishes, .int i_hung, .int i_hour, .ref a_text, .int i_length, .int i_at, .int i_faultAt, .int i_acts, .int i_next, .ref a_row, .ref a_least, .ref a_values, .int i_tells, .ref a_tellPlace, .ref a_tellHour, .ref a_tellDark, .long j_seed, .ref a_isKept, .ref a_kept])), (a_owed, .inl (cI, 12, .inl f_owed))] H → va_S A s.heap H locs → lv_has ls 4 [(3, .int (nI i4)), (2, .int (bI z4)), (0, .ref a), (1, .int x1)] → W p l e rm_X8_isLawful s m ar below meth c H locs 0 0 Q (F0 m 4 ls []) := by
    intro k
    induction k with
    | zero =>
      intro i4 z4 hi0 hik hz H locs ls hP hS hl
      have hz : z4 = o_L4 := it_0 hz
      subst z4
      refine lv_iload_n hx hb dX8_isLawful_4 rfl (lv_at hl 0 rfl) ?_
      refine lv_bipush (v := 12) hx hb dX8_isLawful_5 rfl ?_
      refine lv_icmp_ge (tgt := 46) hx hb dX8_isLawful_7 (by decide) (fun _ => ?_) (fun c => absurd (nI_le (a := 12) (by omega) (by omega)) c)
      exact kE4 _ _ _ hP hS (lv_sub hl [1] rfl)
    | succ k ih =>
      intro i4 z4 hi0 hik hz H locs ls hP hS hl
      refine lv_iload_n hx hb dX8_isLawful_4 rfl (lv_at hl 0 rfl) ?_
      refine lv_bipush (v := 12) hx hb dX8_isLawful_5 rfl ?_
      refine lv_icmp_ge (tgt := 46) hx hb dX8_isLawful_7 (by decide) (fun c => absurd c (nI_ge (b := 12) (by omega) (by decide))) (fun _ => ?_)
      refine lv_iload_n hx hb dX8_isLawful_10 rfl (lv_at hl 1 rfl) ?_
      refine lv_if_eq (tgt := 38) hx hb dX8_isLawful_11 (by decide) (fun c_11 => ?_) (fun c_11 => ?_)
      · refine lv_iconst (v := 0) hx hb dX8_isLawful_38 rfl ?_
        refine lv_istore_n (lv' := [(2, .int 0), (3, .int (nI i4)), (0, .ref a), (1, .int x1)]) hx hb dX8_isLawful_39 rfl hl (by decide) rfl (fun ls hl => ?_)
        refine lv_iinc (v := (nI (i4 + 1))) (lv' := [(3, .int (nI (i4 + 1))), (2, .int 0), (0, .ref a), (1, .int x1)]) hx hb dX8_isLawful_40 hl (k := 1) rfl (nI_1 _) (by decide) rfl (fun ls hl => ?_)
        refine lv_goto (tgt := 4) hx hb dX8_isLawful_43 (by decide) ?_
        have e8 : v_X8_isLawful_L4 x1 f_owed i4 z4 = false := by
          refine (if_pos c_11).trans ?_
          rfl
        exact ih (i4 + 1) false (by omega) (by omega) (it_go e8 hz) _ _ _ hP hS (lv_sub hl [0, 1, 2, 3] rfl)
      · refine lv_bipush (v := 6) hx hb dX8_isLawful_14 rfl ?_
        refine lv_iload_n hx hb dX8_isLawful_16 rfl (lv_at hl 3 rfl) ?_
        refine lv_iload_n hx hb dX8_isLawful_17 rfl (lv_at hl 0 rfl) ?_
        obtain ⟨o_18, ho_18⟩ : ∃ z : Int32, z = v_X8_darkHours x1 (nI i4) := ⟨_, rfl⟩
        refine callSIs (As := [.int x1, .int (nI i4)]) (rest := [.int 6]) o_18 ho_18 hF (k_X8_darkHours l D cI cZ x1 (nI i4)) (va_cwS 2 hts gX8_isLawful_X8_darkHours rfl rfl rfl (by decide +kernel) ⟨Nat.le_of_ble_eq_true rfl, Nat.le_of_ble_eq_true rfl⟩) hK hN hP (va_Dsame hD rfl) hS hA [] rfl rfl rfl hl.1 rfl (Nat.le_of_ble_eq_true rfl) dX8_isLawful_18 ⟨Nat.zero_le _, Nat.zero_le _⟩ o_18 rfl rfl (fun H locs hP hS => ?_)
        obtain ⟨o_21, ho_21⟩ : ∃ z : Int32, z = v_X8_ones o_18 := ⟨_, rfl⟩
        refine callSIs (As := [.int o_18]) (rest := [.int 6]) o_21 ho_21 hF (k_X8_ones l D cI cZ o_18) (va_cwS 1 hts gX8_isLawful_X8_ones rfl rfl rfl (by decide +kernel) ⟨Nat.le_of_ble_eq_true rfl, Nat.le_of_ble_eq_true rfl⟩) hK hN hP (va_Dsame hD rfl) hS hA [] rfl rfl rfl hl.1 rfl (Nat.le_of_ble_eq_true rfl) dX8_isLawful_21 ⟨Nat.zero_le _, Nat.zero_le _⟩ o_21 rfl rfl (fun H locs hP hS => ?_)
        refine lv_isub hx hb dX8_isLawful_24 ?_
        refine lv_aload_n hx hb dX8_isLawful_25 rfl (lv_at hl 2 rfl) ?_
        refine va_get (D := D) (ci := 8) (v := .ref a_owed) (C := RX8) (T := TX8) (N := 26) hx hb hts (fun _ h => List.mem_cons_of_mem _ (List.mem_append_right _ (h))) hown hK hP 0 rfl rfl 6 (by decide) (hts _ (List.mem_of_getElem? (i := 1) rfl)) (fun _ h9 => h9) rfl dX8_isLawful_26 ?_
        refine lv_iload_n hx hb dX8_isLawful_29 rfl (lv_at hl 0 rfl) ?_
        refine va_iald hx hb hK hP 1 0 rfl rfl (vp_in_nI (by omega) (by decide)) dX8_isLawful_30 ?_
        refine lv_icmp_lt (tgt := 38) hx hb dX8_isLawful_31 (by decide) (fun c_31 => ?_) (fun c_31 => ?_)
        · refine lv_iconst (v := 0) hx hb dX8_isLawful_38 rfl ?_
          refine lv_istore_n (lv' := [(2, .int 0), (3, .int (nI i4)), (0, .ref a), (1, .int x1)]) hx hb dX8_isLawful_39 rfl hl (by decide) rfl (fun ls hl => ?_)
          refine lv_iinc (v := (nI (i4 + 1))) (lv' := [(3, .int (nI (i4 + 1))), (2, .int 0), (0, .ref a), (1, .int x1)]) hx hb dX8_isLawful_40 hl (k := 1) rfl (nI_1 _) (by decide) rfl (fun ls hl => ?_)
          refine lv_goto (tgt := 4) hx hb dX8_isLawful_43 (by decide) ?_
          have e8 : v_X8_isLawful_L4 x1 f_owed i4 z4 = false := by
            refine (if_neg c_11).trans ?_
            refine (bnd_eq ho_18).trans ?_
            refine (bnd_eq ho_21).trans ?_
            refine (if_pos c_31).trans ?_
            rfl
          exact ih (i4 + 1) false (by omega) (by omega) (it_go e8 hz) _ _ _ hP hS (lv_sub hl [0, 1, 2, 3] rfl)
        · refine lv_iconst (v := 1) hx hb dX8_isLawful_34 rfl ?_
          refine lv_goto (tgt := 39) hx hb dX8_isLawful_35 (by decide) ?_
          refine lv_istore_n (lv' := [(2, .int 1), (3, .int (nI i4)), (0, .ref a), (1, .int x1)]) hx hb dX8_isLawful_39 rfl hl (by decide) rfl (fun ls hl => ?_)
          refine lv_iinc (v := (nI (i4 + 1))) (lv' := [(3, .int (nI (i4 + 1))), (2, .int 1), (0, .ref a), (1, .int x1)]) hx hb dX8_isLawful_40 hl (k := 1) rfl (nI_1 _) (by decide) rfl (fun ls hl => ?_)
          refine lv_goto (tgt := 4) hx hb dX8_isLawful_43 (by decide) ?_
          have e8 : v_X8_isLawful_L4 x1 f_owed i4 z4 = true := by
            refine (if_neg c_11).trans ?_
            refine (bnd_eq ho_18).trans ?_
            refine (bnd_eq ho_21).trans ?_
            refine (if_neg c_31).trans ?_
            rfl
          exact ih (i4 + 1) true (by omega) (by omega) (it_go e8 hz) _ _ _ hP hS (lv_sub hl [0, 1, 2, 3] rfl)
  exact loop4 12 0 true (Nat.le_refl _) rfl ho_L4.symm _ _ _ hP hS (lv_sub hl [0, 1, 2, 3] rfl)
def v_X8_wish (x1 : Int32) (x2 : Int32) (i_wishes : Int32) (i_hung : Int32) (f_told : Nat → Int32) : Int32 :=
  bnd (v_X8_isWish x1 i_wishes) fun o_2 =>
  (if bI o_2 = 0 then (-1)
  else (if x2 = 0 then (f_told ((5 * x1) + x2).toNatClampNeg)
  else (if x2 = 1 then (f_told ((5 * x1) + x2).toNatClampNeg)
  else (if x2 = 2 then (f_told ((5 * x1) + x2).toNatClampNeg)
  else (if x2 = 3 then (f_told ((5 * x1) + x2).toNatClampNeg)
  else (if x2 = 4 then (f_told ((5 * x1) + x2).toNatClampNeg)
  else (if x2 = 5 then (bnd (v_X8_grants i_hung x1 f_told) fun o_69 =>
    (if bI o_69 = 0 then 0
    else 1))
  else (if x2 = 6 then (bnd (v_X8_hoursOf x1 f_told) fun o_83 =>
    o_83)
  else (-2)))))))))
abbrev rm_X8_wish : Room := { frames := 4, cells := 0, slots := 0, locals := 90 }
set_option maxHeartbeats 4000000 in
set_option maxRecDepth 100000 in
theorem k_X8_wish (l : Launch) (D : va_G) (cI cZ : ClassId) (a a_readWishes a_readOwed a_told a_owed a_text a_row a_least a_values a_tellPlace a_tellHour a_tellDark a_isKept a_kept : Nat) (x1 : Int32) (x2 : Int32) (i_readHung : Int32) (i_readMany : Int32) (i_readOwes : Int32) (i_wishes : Int32) (i_hung : Int32) (i_hour : Int32) (i_length : Int32) (i_at : Int32) (i_faultAt : Int32) (i_acts : Int32) (i_next : Int32) (i_tells : Int32) (j_seed : Int64) (f_told : Nat → Int32) (hw : ∃ k : Nat, k ≤ 5 ∧ i_wishes = nI k) : KI l D cI cZ yX8_wish wsX8_wish rm_X8_wish [.ref a, .int x1, .int x2] [(a, .inr (8, [.ref a_readWishes, .ref a_readOwed, .int i_readHung, .int i_readMany, .int i_readOwes, .ref a_told, .ref a_owed, .int i_wishes, .int i_hung, .int i_hour, .ref a_text, .int i_length, .int i_at, .int i_faultAt, .int i_acts, .int i_next, .ref a_row, .ref a_least, .ref a_values, .int i_tells, .ref a_tellPlace, .ref a_tellHour, .ref a_tellDark, .long j_seed, .ref a_isKept, .ref a_kept])), (a_told, .inl (cI, 25, .inl f_told))] (v_X8_wish x1 x2 i_wishes i_hung f_told) (fun o : Int32 => o) (fun _ : Int32 => [(a, .inr (8, [.ref a_readWishes, .ref a_readOwed, .int i_readHung, .int i_readMany, .int i_readOwes, .ref a_told, .ref a_owed, .int i_wishes, .int i_hung, .int i_hour, .ref a_text, .int i_length, .int i_at, .int i_faultAt, .int i_acts, .int i_next, .ref a_row, .ref a_least, .ref a_values, .int i_tells, .ref a_tellPlace, .ref a_tellHour, .ref a_tellDark, .long j_seed, .ref a_isKept, .ref a_kept])), (a_told, .inl (cI, 25, .inl f_told))]) := by
  refine KI.of cX8_wish 3 (some .int) (by decide) rfl (Nat.le_of_ble_eq_true rfl) ?_
  intro p e s m below meth c A ls ar Q hQ B
  obtain ⟨hx, hb, hr, hml, hts, hown, hlk, hK, hN, hP, hD, hA, hS, hl⟩ := B
  have hown : s.vm.findClass RX8 = some m.cls := hown
  have hF : CallFix p m c cX8_wish 3 s ar wsX8_wish RX8 := ⟨hx, hb, hml, hown, hts⟩
  have hl : lv_has ls 3 [(0, .ref a), (1, .int x1), (2, .int x2)] := hl
  refine lv_aload_n hx hb dX8_wish_0 rfl (lv_at hl 0 rfl) ?_
  refine lv_iload_n hx hb dX8_wish_1 rfl (lv_at hl 1 rfl) ?_
  obtain ⟨o_2, ho_2⟩ : ∃ z : Bool, z = v_X8_isWish x1 i_wishes := ⟨_, rfl⟩
  refine callVIs (As := [.int x1]) (rest := []) o_2 ho_2 hF (k_X8_isWish l D cI cZ a a_readWishes a_readOwed a_told a_owed a_text a_row a_least a_values a_tellPlace a_tellHour a_tellDark a_isKept a_kept x1 i_readHung i_readMany i_readOwes i_wishes i_hung i_hour i_length i_at i_faultAt i_acts i_next i_tells j_seed) (cwV 1 hts gX8_wish_X8_isWish rfl rfl rfl (by decide +kernel) ⟨Nat.le_of_ble_eq_true rfl, Nat.le_of_ble_eq_true rfl⟩) hK hN hP (va_Dsame hD rfl) hS hA [0] rfl rfl 0 8 (T := TX8) (N := 26) rfl rfl rfl hl.1 rfl (Nat.le_of_ble_eq_true rfl) dX8_wish_2 ⟨Nat.zero_le _, Nat.zero_le _⟩ (bI o_2) rfl rfl (fun H locs hP hS => ?_)
  refine lv_if_ne (tgt := 10) hx hb dX8_wish_5 (by decide) (fun c_5 => ?_) (fun c_5 => ?_)
  · refine lv_iload_n hx hb dX8_wish_10 rfl (lv_at hl 2 rfl) ?_
    by_cases c_11_0 : x2 = 0
    · have hxI : (x2).toInt = 0 := by rw [c_11_0]; rfl
      refine lv_tableIn (off := 41) (tgt := 52) hx hb dX8_wish_11 (by rw [hxI]; decide) (by rw [hxI]; decide) (by rw [hxI]; rfl) (by decide) ?_
      refine lv_aload_n hx hb dX8_wish_52 rfl (lv_at hl 0 rfl) ?_
      refine va_get (D := D) (ci := 8) (v := .ref a_told) (C := RX8) (T := TX8) (N := 26) hx hb hts (fun _ h => List.mem_cons_of_mem _ (List.mem_append_right _ (h))) hown hK hP 0 rfl rfl 5 (by decide) (hts _ (List.mem_of_getElem? (i := 1) rfl)) (fun _ h9 => h9) rfl dX8_wish_53 ?_
      refine lv_iconst (v := 5) hx hb dX8_wish_56 rfl ?_
      refine lv_iload_n hx hb dX8_wish_57 rfl (lv_at hl 1 rfl) ?_
      refine lv_imul hx hb dX8_wish_58 ?_
      refine lv_iload_n hx hb dX8_wish_59 rfl (lv_at hl 2 rfl) ?_
      refine lv_iadd hx hb dX8_wish_60 ?_
      refine va_iald hx hb hK hP 1 0 rfl rfl (by first | exact ix5x (isWish_in hw ho_2 c_5) (c := 0) c_11_0 (by decide) | exact ix5x (isWish_in hw ho_2 c_5) (c := 1) c_11_1 (by decide) | exact ix5x (isWish_in hw ho_2 c_5) (c := 2) c_11_2 (by decide) | exact ix5x (isWish_in hw ho_2 c_5) (c := 3) c_11_3 (by decide) | exact ix5x (isWish_in hw ho_2 c_5) (c := 4) c_11_4 (by decide)) dX8_wish_61 ?_
      have e9 : v_X8_wish x1 x2 i_wishes i_hung f_told = (f_told ((5 * x1) + x2).toNatClampNeg) := by
        refine (bnd_eq ho_2).trans ?_
        refine (if_neg c_5).trans ?_
        refine (if_pos c_11_0).trans ?_
        rfl
      rw [hQ]; exact retI (f_told ((5 * x1) + x2).toNatClampNeg) hx hb hr hlk e9 hP rfl hS dX8_wish_62
    by_cases c_11_1 : x2 = 1
    · have hxI : (x2).toInt = 1 := by rw [c_11_1]; rfl
      refine lv_tableIn (off := 41) (tgt := 52) hx hb dX8_wish_11 (by rw [hxI]; decide) (by rw [hxI]; decide) (by rw [hxI]; rfl) (by decide) ?_
      refine lv_aload_n hx hb dX8_wish_52 rfl (lv_at hl 0 rfl) ?_
      refine va_get (D := D) (ci := 8) (v := .ref a_told) (C := RX8) (T := TX8) (N := 26) hx hb hts (fun _ h => List.mem_cons_of_mem _ (List.mem_append_right _ (h))) hown hK hP 0 rfl rfl 5 (by decide) (hts _ (List.mem_of_getElem? (i := 1) rfl)) (fun _ h9 => h9) rfl dX8_wish_53 ?_
      refine lv_iconst (v := 5) hx hb dX8_wish_56 rfl ?_
      refine lv_iload_n hx hb dX8_wish_57 rfl (lv_at hl 1 rfl) ?_
      refine lv_imul hx hb dX8_wish_58 ?_
      refine lv_iload_n hx hb dX8_wish_59 rfl (lv_at hl 2 rfl) ?_
      refine lv_iadd hx hb dX8_wish_60 ?_
      refine va_iald hx hb hK hP 1 0 rfl rfl (by first | exact ix5x (isWish_in hw ho_2 c_5) (c := 0) c_11_0 (by decide) | exact ix5x (isWish_in hw ho_2 c_5) (c := 1) c_11_1 (by decide) | exact ix5x (isWish_in hw ho_2 c_5) (c := 2) c_11_2 (by decide) | exact ix5x (isWish_in hw ho_2 c_5) (c := 3) c_11_3 (by decide) | exact ix5x (isWish_in hw ho_2 c_5) (c := 4) c_11_4 (by decide)) dX8_wish_61 ?_
      have e9 : v_X8_wish x1 x2 i_wishes i_hung f_told = (f_told ((5 * x1) + x2).toNatClampNeg) := by
        refine (bnd_eq ho_2).trans ?_
        refine (if_neg c_5).trans ?_
        refine (if_neg c_11_0).trans ?_
        refine (if_pos c_11_1).trans ?_
        rfl
      rw [hQ]; exact retI (f_told ((5 * x1) + x2).toNatClampNeg) hx hb hr hlk e9 hP rfl hS dX8_wish_62
    by_cases c_11_2 : x2 = 2
    · have hxI : (x2).toInt = 2 := by rw [c_11_2]; rfl
      refine lv_tableIn (off := 41) (tgt := 52) hx hb dX8_wish_11 (by rw [hxI]; decide) (by rw [hxI]; decide) (by rw [hxI]; rfl) (by decide) ?_
      refine lv_aload_n hx hb dX8_wish_52 rfl (lv_at hl 0 rfl) ?_
      refine va_get (D := D) (ci := 8) (v := .ref a_told) (C := RX8) (T := TX8) (N := 26) hx hb hts (fun _ h => List.mem_cons_of_mem _ (List.mem_append_right _ (h))) hown hK hP 0 rfl rfl 5 (by decide) (hts _ (List.mem_of_getElem? (i := 1) rfl)) (fun _ h9 => h9) rfl dX8_wish_53 ?_
      refine lv_iconst (v := 5) hx hb dX8_wish_56 rfl ?_
      refine lv_iload_n hx hb dX8_wish_57 rfl (lv_at hl 1 rfl) ?_
      refine lv_imul hx hb dX8_wish_58 ?_
      refine lv_iload_n hx hb dX8_wish_59 rfl (lv_at hl 2 rfl) ?_
      refine lv_iadd hx hb dX8_wish_60 ?_
      refine va_iald hx hb hK hP 1 0 rfl rfl (by first | exact ix5x (isWish_in hw ho_2 c_5) (c := 0) c_11_0 (by decide) | exact ix5x (isWish_in hw ho_2 c_5) (c := 1) c_11_1 (by decide) | exact ix5x (isWish_in hw ho_2 c_5) (c := 2) c_11_2 (by decide) | exact ix5x (isWish_in hw ho_2 c_5) (c := 3) c_11_3 (by decide) | exact ix5x (isWish_in hw ho_2 c_5) (c := 4) c_11_4 (by decide)) dX8_wish_61 ?_
      have e9 : v_X8_wish x1 x2 i_wishes i_hung f_told = (f_told ((5 * x1) + x2).toNatClampNeg) := by
        refine (bnd_eq ho_2).trans ?_
        refine (if_neg c_5).trans ?_
        refine (if_neg c_11_0).trans ?_
        refine (if_neg c_11_1).trans ?_
        refine (if_pos c_11_2).trans ?_
        rfl
      rw [hQ]; exact retI (f_told ((5 * x1) + x2).toNatClampNeg) hx hb hr hlk e9 hP rfl hS dX8_wish_62
    by_cases c_11_3 : x2 = 3
    · have hxI : (x2).toInt = 3 := by rw [c_11_3]; rfl
      refine lv_tableIn (off := 41) (tgt := 52) hx hb dX8_wish_11 (by rw [hxI]; decide) (by rw [hxI]; decide) (by rw [hxI]; rfl) (by decide) ?_
      refine lv_aload_n hx hb dX8_wish_52 rfl (lv_at hl 0 rfl) ?_
      refine va_get (D := D) (ci := 8) (v := .ref a_told) (C := RX8) (T := TX8) (N := 26) hx hb hts (fun _ h => List.mem_cons_of_mem _ (List.mem_append_right _ (h))) hown hK hP 0 rfl rfl 5 (by decide) (hts _ (List.mem_of_getElem? (i := 1) rfl)) (fun _ h9 => h9) rfl dX8_wish_53 ?_
      refine lv_iconst (v := 5) hx hb dX8_wish_56 rfl ?_
      refine lv_iload_n hx hb dX8_wish_57 rfl (lv_at hl 1 rfl) ?_
      refine lv_imul hx hb dX8_wish_58 ?_
      refine lv_iload_n hx hb dX8_wish_59 rfl (lv_at hl 2 rfl) ?_
      refine lv_iadd hx hb dX8_wish_60 ?_
      refine va_iald hx hb hK hP 1 0 rfl rfl (by first | exact ix5x (isWish_in hw ho_2 c_5) (c := 0) c_11_0 (by decide) | exact ix5x (isWish_in hw ho_2 c_5) (c := 1) c_11_1 (by decide) | exact ix5x (isWish_in hw ho_2 c_5) (c := 2) c_11_2 (by decide) | exact ix5x (isWish_in hw ho_2 c_5) (c := 3) c_11_3 (by decide) | exact ix5x (isWish_in hw ho_2 c_5) (c := 4) c_11_4 (by decide)) dX8_wish_61 ?_
      have e9 : v_X8_wish x1 x2 i_wishes i_hung f_told = (f_told ((5 * x1) + x2).toNatClampNeg) := by
        refine (bnd_eq ho_2).trans ?_
        refine (if_neg c_5).trans ?_
        refine (if_neg c_11_0).trans ?_
        refine (if_neg c_11_1).trans ?_
        refine (if_neg c_11_2).trans ?_
        refine (if_pos c_11_3).trans ?_
        rfl
      rw [hQ]; exact retI (f_told ((5 * x1) + x2).toNatClampNeg) hx hb hr hlk e9 hP rfl hS dX8_wish_62
    by_cases c_11_4 : x2 = 4
    · have hxI : (x2).toInt = 4 := by rw [c_11_4]; rfl
      refine lv_tableIn (off := 41) (tgt := 52) hx hb dX8_wish_11 (by rw [hxI]; decide) (by rw [hxI]; decide) (by rw [hxI]; rfl) (by decide) ?_
      refine lv_aload_n hx hb dX8_wish_52 rfl (lv_at hl 0 rfl) ?_
      refine va_get (D := D) (ci := 8) (v := .ref a_told) (C := RX8) (T := TX8) (N := 26) hx hb hts (fun _ h => List.mem_cons_of_mem _ (List.mem_append_right _ (h))) hown hK hP 0 rfl rfl 5 (by decide) (hts _ (List.mem_of_getElem? (i := 1) rfl)) (fun _ h9 => h9) rfl dX8_wish_53 ?_
      refine lv_iconst (v := 5) hx hb dX8_wish_56 rfl ?_
      refine lv_iload_n hx hb dX8_wish_57 rfl (lv_at hl 1 rfl) ?_
      refine lv_imul hx hb dX8_wish_58 ?_
      refine lv_iload_n hx hb dX8_wish_59 rfl (lv_at hl 2 rfl) ?_
      refine lv_iadd hx hb dX8_wish_60 ?_
      refine va_iald hx hb hK hP 1 0 rfl rfl (by first | exact ix5x (isWish_in hw ho_2 c_5) (c := 0) c_11_0 (by decide) | exact ix5x (isWish_in hw ho_2 c_5) (c := 1) c_11_1 (by decide) | exact ix5x (isWish_in hw ho_2 c_5) (c := 2) c_11_2 (by decide) | exact ix5x (isWish_in hw ho_2 c_5) (c := 3) c_11_3 (by decide) | exact ix5x (isWish_in hw ho_2 c_5) (c := 4) c_11_4 (by decide)) dX8_wish_61 ?_
      have e9 : v_X8_wish x1 x2 i_wishes i_hung f_told = (f_told ((5 * x1) + x2).toNatClampNeg) := by
        refine (bnd_eq ho_2).trans ?_
        refine (if_neg c_5).trans ?_
        refine (if_neg c_11_0).trans ?_
        refine (if_neg c_11_1).trans ?_
        refine (if_neg c_11_2).trans ?_
        refine (if_neg c_11_3).trans ?_
        refine (if_pos c_11_4).trans ?_
        rfl
      rw [hQ]; exact retI (f_told ((5 * x1) + x2).toNatClampNeg) hx hb hr hlk e9 hP rfl hS dX8_wish_62
    by_cases c_11_5 : x2 = 5
    · have hxI : (x2).toInt = 5 := by rw [c_11_5]; rfl
      refine lv_tableIn (off := 52) (tgt := 63) hx hb dX8_wish_11 (by rw [hxI]; decide) (by rw [hxI]; decide) (by rw [hxI]; rfl) (by decide) ?_
      refine lv_aload_n hx hb dX8_wish_63 rfl (lv_at hl 0 rfl) ?_
      refine lv_aload_n hx hb dX8_wish_64 rfl (lv_at hl 0 rfl) ?_
      refine va_get (D := D) (ci := 8) (v := .int i_hung) (C := RX8) (T := TX8) (N := 26) hx hb hts (fun _ h => List.mem_cons_of_mem _ (List.mem_append_right _ (h))) hown hK hP 0 rfl rfl 8 (by decide) (hts _ (List.mem_of_getElem? (i := 2) rfl)) (fun _ h9 => h9) rfl dX8_wish_65 ?_
      refine lv_iload_n hx hb dX8_wish_68 rfl (lv_at hl 1 rfl) ?_
      obtain ⟨o_69, ho_69⟩ : ∃ z : Bool, z = v_X8_grants i_hung x1 f_told := ⟨_, rfl⟩
      refine callVIs (As := [.int i_hung, .int x1]) (rest := []) o_69 ho_69 hF (k_X8_grants l D cI cZ a a_readWishes a_readOwed a_told a_owed a_text a_row a_least a_values a_tellPlace a_tellHour a_tellDark a_isKept a_kept i_hung x1 i_readHung i_readMany i_readOwes i_wishes i_hung i_hour i_length i_at i_faultAt i_acts i_next i_tells j_seed f_told (isWish_in hw ho_2 c_5)) (cwV 2 hts gX8_wish_X8_grants rfl rfl rfl (by decide +kernel) ⟨Nat.le_of_ble_eq_true rfl, Nat.le_of_ble_eq_true rfl⟩) hK hN hP (va_Dsame hD rfl) hS hA [0, 1] rfl rfl 0 8 (T := TX8) (N := 26) rfl rfl rfl hl.1 rfl (Nat.le_of_ble_eq_true rfl) dX8_wish_69 ⟨Nat.zero_le _, Nat.zero_le _⟩ (bI o_69) rfl rfl (fun H locs hP hS => ?_)
      refine lv_if_eq (tgt := 79) hx hb dX8_wish_72 (by decide) (fun c_72 => ?_) (fun c_72 => ?_)
      · refine lv_iconst (v := 0) hx hb dX8_wish_79 rfl ?_
        have e9 : v_X8_wish x1 x2 i_wishes i_hung f_told = 0 := by
          refine (bnd_eq ho_2).trans ?_
          refine (if_neg c_5).trans ?_
          refine (if_neg c_11_0).trans ?_
          refine (if_neg c_11_1).trans ?_
          refine (if_neg c_11_2).trans ?_
          refine (if_neg c_11_3).trans ?_
          refine (if_neg c_11_4).trans ?_
          refine (if_pos c_11_5).trans ?_
          refine (bnd_eq ho_69).trans ?_
          refine (if_pos c_72).trans ?_
          rfl
        rw [hQ]; exact retI 0 hx hb hr hlk e9 hP rfl hS dX8_wish_80
      · refine lv_iconst (v := 1) hx hb dX8_wish_75 rfl ?_
        refine lv_goto (tgt := 80) hx hb dX8_wish_76 (by decide) ?_
        have e9 : v_X8_wish x1 x2 i_wishes i_hung f_told = 1 := by
          refine (bnd_eq ho_2).trans ?_
          refine (if_neg c_5).trans ?_
          refine (if_neg c_11_0).trans ?_
          refine (if_neg c_11_1).trans ?_
          refine (if_neg c_11_2).trans ?_
          refine (if_neg c_11_3).trans ?_
          refine (if_neg c_11_4).trans ?_
          refine (if_pos c_11_5).trans ?_
          refine (bnd_eq ho_69).trans ?_
          refine (if_neg c_72).trans ?_
          rfl
        rw [hQ]; exact retI 1 hx hb hr hlk e9 hP rfl hS dX8_wish_80
    by_cases c_11_6 : x2 = 6
    · have hxI : (x2).toInt = 6 := by rw [c_11_6]; rfl
      refine lv_tableIn (off := 70) (tgt := 81) hx hb dX8_wish_11 (by rw [hxI]; decide) (by rw [hxI]; decide) (by rw [hxI]; rfl) (by decide) ?_
      refine lv_aload_n hx hb dX8_wish_81 rfl (lv_at hl 0 rfl) ?_
      refine lv_iload_n hx hb dX8_wish_82 rfl (lv_at hl 1 rfl) ?_
      obtain ⟨o_83, ho_83⟩ : ∃ z : Int32, z = v_X8_hoursOf x1 f_told := ⟨_, rfl⟩
      refine callVIs (As := [.int x1]) (rest := []) o_83 ho_83 hF (k_X8_hoursOf l D cI cZ a a_readWishes a_readOwed a_told a_owed a_text a_row a_least a_values a_tellPlace a_tellHour a_tellDark a_isKept a_kept x1 i_readHung i_readMany i_readOwes i_wishes i_hung i_hour i_length i_at i_faultAt i_acts i_next i_tells j_seed f_told (isWish_in hw ho_2 c_5)) (cwV 1 hts gX8_wish_X8_hoursOf rfl rfl rfl (by decide +kernel) ⟨Nat.le_of_ble_eq_true rfl, Nat.le_of_ble_eq_true rfl⟩) hK hN hP (va_Dsame hD rfl) hS hA [0, 1] rfl rfl 0 8 (T := TX8) (N := 26) rfl rfl rfl hl.1 rfl (Nat.le_of_ble_eq_true rfl) dX8_wish_83 ⟨Nat.zero_le _, Nat.zero_le _⟩ o_83 rfl rfl (fun H locs hP hS => ?_)
      have e9 : v_X8_wish x1 x2 i_wishes i_hung f_told = o_83 := by
        refine (bnd_eq ho_2).trans ?_
        refine (if_neg c_5).trans ?_
        refine (if_neg c_11_0).trans ?_
        refine (if_neg c_11_1).trans ?_
        refine (if_neg c_11_2).trans ?_
        refine (if_neg c_11_3).trans ?_
        refine (if_neg c_11_4).trans ?_
        refine (if_neg c_11_5).trans ?_
        refine (if_pos c_11_6).trans ?_
        refine (bnd_eq ho_83).trans ?_
        rfl
      rw [hQ]; exact retI o_83 hx hb hr hlk e9 hP rfl hS dX8_wish_86
    have nc_11_0 := lv_neT c_11_0 (show (0 : Int32).toInt = 0 from rfl)
    have nc_11_1 := lv_neT c_11_1 (show (1 : Int32).toInt = 1 from rfl)
    have nc_11_2 := lv_neT c_11_2 (show (2 : Int32).toInt = 2 from rfl)
    have nc_11_3 := lv_neT c_11_3 (show (3 : Int32).toInt = 3 from rfl)
    have nc_11_4 := lv_neT c_11_4 (show (4 : Int32).toInt = 4 from rfl)
    have nc_11_5 := lv_neT c_11_5 (show (5 : Int32).toInt = 5 from rfl)
    have nc_11_6 := lv_neT c_11_6 (show (6 : Int32).toInt = 6 from rfl)
    refine lv_tableOut (tgt := 87) hx hb dX8_wish_11 (by omega) (by decide) ?_
    refine lv_bipush (v := (-2)) hx hb dX8_wish_87 rfl ?_
    have e9 : v_X8_wish x1 x2 i_wishes i_hung f_told = (-2) := by
      refine (bnd_eq ho_2).trans ?_
      refine (if_neg c_5).trans ?_
      refine (if_neg c_11_0).trans ?_
      refine (if_neg c_11_1).trans ?_
      refine (if_neg c_11_2).trans ?_
      refine (if_neg c_11_3).trans ?_
      refine (if_neg c_11_4).trans ?_
      refine (if_neg c_11_5).trans ?_
      refine (if_neg c_11_6).trans ?_
      rfl
    rw [hQ]; exact retI (-2) hx hb hr hlk e9 hP rfl hS dX8_wish_89
  · refine lv_iconst (v := (-1)) hx hb dX8_wish_8 rfl ?_
    have e9 : v_X8_wish x1 x2 i_wishes i_hung f_told = (-1) := by
      refine (bnd_eq ho_2).trans ?_
      refine (if_pos c_5).trans ?_
      rfl
    rw [hQ]; exact retI (-1) hx hb hr hlk e9 hP rfl hS dX8_wish_9
def v_X8_place (x1 : Int32) (x2 : Int32) (i_hung : Int32) (i_hour : Int32) (f_owed : Nat → Int32) : Int32 :=
  bnd (v_X8_isCell x1) fun o_1 =>
  (if bI o_1 = 0 then (-1)
  else (if x2 = 0 then (bnd (v_X8_isDark i_hung x1 i_hour) fun o_49 =>
    (if bI o_49 = 0 then 0
    else 1))
  else (if x2 = 1 then (bnd (v_X8_darkHours i_hung x1) fun o_66 =>
    o_66)
  else (if x2 = 2 then (f_owed x1.toNatClampNeg)
  else (if x2 = 3 then (bnd (v_X8_above x1 i_hour) fun o_82 =>
    o_82)
  else (-2))))))
abbrev rm_X8_place : Room := { frames := 3, cells := 0, slots := 0, locals := 66 }
set_option maxHeartbeats 4000000 in
set_option maxRecDepth 100000 in
theorem k_X8_place (l : Launch) (D : va_G) (cI cZ : ClassId) (a a_readWishes a_readOwed a_told a_owed a_text a_row a_least a_values a_tellPlace a_tellHour a_tellDark a_isKept a_kept : Nat) (x1 : Int32) (x2 : Int32) (i_readHung : Int32) (i_readMany : Int32) (i_readOwes : Int32) (i_wishes : Int32) (i_hung : Int32) (i_hour : Int32) (i_length : Int32) (i_at : Int32) (i_faultAt : Int32) (i_acts : Int32) (i_next : Int32) (i_tells : Int32) (j_seed : Int64) (f_owed : Nat → Int32) : KI l D cI cZ yX8_place wsX8_place rm_X8_place [.ref a, .int x1, .int x2] [(a, .inr (8, [.ref a_readWishes, .ref a_readOwed, .int i_readHung, .int i_readMany, .int i_readOwes, .ref a_told, .ref a_owed, .int i_wishes, .int i_hung, .int i_hour, .ref a_text, .int i_length, .int i_at, .int i_faultAt, .int i_acts, .int i_next, .ref a_row, .ref a_least, .ref a_values, .int i_tells, .ref a_tellPlace, .ref a_tellHour, .ref a_tellDark, .long j_seed, .ref a_isKept, .ref a_kept])), (a_owed, .inl (cI, 12, .inl f_owed))] (v_X8_place x1 x2 i_hung i_hour f_owed) (fun o : Int32 => o) (fun _ : Int32 => [(a, .inr (8, [.ref a_readWishes, .ref a_readOwed, .int i_readHung, .int i_readMany, .int i_readOwes, .ref a_told, .ref a_owed, .int i_wishes, .int i_hung, .int i_hour, .ref a_text, .int i_length, .int i_at, .int i_faultAt, .int i_acts, .int i_next, .ref a_row, .ref a_least, .ref a_values, .int i_tells, .ref a_tellPlace, .ref a_tellHour, .ref a_tellDark, .long j_seed, .ref a_isKept, .ref a_kept])), (a_owed, .inl (cI, 12, .inl f_owed))]) := by
  refine KI.of cX8_place 3 (some .int) (by decide) rfl (Nat.le_of_ble_eq_true rfl) ?_
  intro p e s m below meth c A ls ar Q hQ B
  obtain ⟨hx, hb, hr, hml, hts, hown, hlk, hK, hN, hP, hD, hA, hS, hl⟩ := B
  have hown : s.vm.findClass RX8 = some m.cls := hown
  have hF : CallFix p m c cX8_place 3 s ar wsX8_place RX8 := ⟨hx, hb, hml, hown, hts⟩
  have hl : lv_has ls 3 [(0, .ref a), (1, .int x1), (2, .int x2)] := hl
  refine lv_iload_n hx hb dX8_place_0 rfl (lv_at hl 1 rfl) ?_
  obtain ⟨o_1, ho_1⟩ : ∃ z : Bool, z = v_X8_isCell x1 := ⟨_, rfl⟩
  refine callSIs (As := [.int x1]) (rest := []) o_1 ho_1 hF (k_X8_isCell l D cI cZ x1) (va_cwS 1 hts gX8_place_X8_isCell rfl rfl rfl (by decide +kernel) ⟨Nat.le_of_ble_eq_true rfl, Nat.le_of_ble_eq_true rfl⟩) hK hN hP (va_Dsame hD rfl) hS hA [] rfl rfl rfl hl.1 rfl (Nat.le_of_ble_eq_true rfl) dX8_place_1 ⟨Nat.zero_le _, Nat.zero_le _⟩ (bI o_1) rfl rfl (fun H locs hP hS => ?_)
  refine lv_if_ne (tgt := 9) hx hb dX8_place_4 (by decide) (fun c_4 => ?_) (fun c_4 => ?_)
  · refine lv_iload_n hx hb dX8_place_9 rfl (lv_at hl 2 rfl) ?_
    by_cases c_10_0 : x2 = 0
    · have hxI : (x2).toInt = 0 := by rw [c_10_0]; rfl
      refine lv_tableIn (off := 30) (tgt := 40) hx hb dX8_place_10 (by rw [hxI]; decide) (by rw [hxI]; decide) (by rw [hxI]; rfl) (by decide) ?_
      refine lv_aload_n hx hb dX8_place_40 rfl (lv_at hl 0 rfl) ?_
      refine va_get (D := D) (ci := 8) (v := .int i_hung) (C := RX8) (T := TX8) (N := 26) hx hb hts (fun _ h => List.mem_cons_of_mem _ (List.mem_append_right _ (h))) hown hK hP 0 rfl rfl 8 (by decide) (hts _ (List.mem_of_getElem? (i := 1) rfl)) (fun _ h9 => h9) rfl dX8_place_41 ?_
      refine lv_iload_n hx hb dX8_place_44 rfl (lv_at hl 1 rfl) ?_
      refine lv_aload_n hx hb dX8_place_45 rfl (lv_at hl 0 rfl) ?_
      refine va_get (D := D) (ci := 8) (v := .int i_hour) (C := RX8) (T := TX8) (N := 26) hx hb hts (fun _ h => List.mem_cons_of_mem _ (List.mem_append_right _ (h))) hown hK hP 0 rfl rfl 9 (by decide) (hts _ (List.mem_of_getElem? (i := 2) rfl)) (fun _ h9 => h9) rfl dX8_place_46 ?_
      obtain ⟨o_49, ho_49⟩ : ∃ z : Bool, z = v_X8_isDark i_hung x1 i_hour := ⟨_, rfl⟩
      refine callSIs (As := [.int i_hung, .int x1, .int i_hour]) (rest := []) o_49 ho_49 hF (k_X8_isDark l D cI cZ i_hung x1 i_hour) (va_cwS 3 hts gX8_place_X8_isDark rfl rfl rfl (by decide +kernel) ⟨Nat.le_of_ble_eq_true rfl, Nat.le_of_ble_eq_true rfl⟩) hK hN hP (va_Dsame hD rfl) hS hA [] rfl rfl rfl hl.1 rfl (Nat.le_of_ble_eq_true rfl) dX8_place_49 ⟨Nat.zero_le _, Nat.zero_le _⟩ (bI o_49) rfl rfl (fun H locs hP hS => ?_)
      refine lv_if_eq (tgt := 59) hx hb dX8_place_52 (by decide) (fun c_52 => ?_) (fun c_52 => ?_)
      · refine lv_iconst (v := 0) hx hb dX8_place_59 rfl ?_
        have e9 : v_X8_place x1 x2 i_hung i_hour f_owed = 0 := by
          refine (bnd_eq ho_1).trans ?_
          refine (if_neg c_4).trans ?_
          refine (if_pos c_10_0).trans ?_
          refine (bnd_eq ho_49).trans ?_
          refine (if_pos c_52).trans ?_
          rfl
        rw [hQ]; exact retI 0 hx hb hr hlk e9 hP rfl hS dX8_place_60
      · refine lv_iconst (v := 1) hx hb dX8_place_55 rfl ?_
        refine lv_goto (tgt := 60) hx hb dX8_place_56 (by decide) ?_
        have e9 : v_X8_place x1 x2 i_hung i_hour f_owed = 1 := by
          refine (bnd_eq ho_1).trans ?_
          refine (if_neg c_4).trans ?_
          refine (if_pos c_10_0).trans ?_
          refine (bnd_eq ho_49).trans ?_
          refine (if_neg c_52).trans ?_
          rfl
        rw [hQ]; exact retI 1 hx hb hr hlk e9 hP rfl hS dX8_place_60
    by_cases c_10_1 : x2 = 1
    · have hxI : (x2).toInt = 1 := by rw [c_10_1]; rfl
      refine lv_tableIn (off := 51) (tgt := 61) hx hb dX8_place_10 (by rw [hxI]; decide) (by rw [hxI]; decide) (by rw [hxI]; rfl) (by decide) ?_
      refine lv_aload_n hx hb dX8_place_61 rfl (lv_at hl 0 rfl) ?_
      refine va_get (D := D) (ci := 8) (v := .int i_hung) (C := RX8) (T := TX8) (N := 26) hx hb hts (fun _ h => List.mem_cons_of_mem _ (List.mem_append_right _ (h))) hown hK hP 0 rfl rfl 8 (by decide) (hts _ (List.mem_of_getElem? (i := 1) rfl)) (fun _ h9 => h9) rfl dX8_place_62 ?_
      refine lv_iload_n hx hb dX8_place_65 rfl (lv_at hl 1 rfl) ?_
      obtain ⟨o_66, ho_66⟩ : ∃ z : Int32, z = v_X8_darkHours i_hung x1 := ⟨_, rfl⟩
      refine callSIs (As := [.int i_hung, .int x1]) (rest := []) o_66 ho_66 hF (k_X8_darkHours l D cI cZ i_hung x1) (va_cwS 2 hts gX8_place_X8_darkHours rfl rfl rfl (by decide +kernel) ⟨Nat.le_of_ble_eq_true rfl, Nat.le_of_ble_eq_true rfl⟩) hK hN hP (va_Dsame hD rfl) hS hA [] rfl rfl rfl hl.1 rfl (Nat.le_of_ble_eq_true rfl) dX8_place_66 ⟨Nat.zero_le _, Nat.zero_le _⟩ o_66 rfl rfl (fun H locs hP hS => ?_)
      have e9 : v_X8_place x1 x2 i_hung i_hour f_owed = o_66 := by
        refine (bnd_eq ho_1).trans ?_
        refine (if_neg c_4).trans ?_
        refine (if_neg c_10_0).trans ?_
        refine (if_pos c_10_1).trans ?_
        refine (bnd_eq ho_66).trans ?_
        rfl
      rw [hQ]; exact retI o_66 hx hb hr hlk e9 hP rfl hS dX8_place_69
    by_cases c_10_2 : x2 = 2
    · have hxI : (x2).toInt = 2 := by rw [c_10_2]; rfl
      refine lv_tableIn (off := 60) (tgt := 70) hx hb dX8_place_10 (by rw [hxI]; decide) (by rw [hxI]; decide) (by rw [hxI]; rfl) (by decide) ?_
      refine lv_aload_n hx hb dX8_place_70 rfl (lv_at hl 0 rfl) ?_
      refine va_get (D := D) (ci := 8) (v := .ref a_owed) (C := RX8) (T := TX8) (N := 26) hx hb hts (fun _ h => List.mem_cons_of_mem _ (List.mem_append_right _ (h))) hown hK hP 0 rfl rfl 6 (by decide) (hts _ (List.mem_of_getElem? (i := 3) rfl)) (fun _ h9 => h9) rfl dX8_place_71 ?_
      refine lv_iload_n hx hb dX8_place_74 rfl (lv_at hl 1 rfl) ?_
      refine va_iald hx hb hK hP 1 0 rfl rfl (isCell_in ho_1 c_4) dX8_place_75 ?_
      have e9 : v_X8_place x1 x2 i_hung i_hour f_owed = (f_owed x1.toNatClampNeg) := by
        refine (bnd_eq ho_1).trans ?_
        refine (if_neg c_4).trans ?_
        refine (if_neg c_10_0).trans ?_
        refine (if_neg c_10_1).trans ?_
        refine (if_pos c_10_2).trans ?_
        rfl
      rw [hQ]; exact retI (f_owed x1.toNatClampNeg) hx hb hr hlk e9 hP rfl hS dX8_place_76
    by_cases c_10_3 : x2 = 3
    · have hxI : (x2).toInt = 3 := by rw [c_10_3]; rfl
      refine lv_tableIn (off := 67) (tgt := 77) hx hb dX8_place_10 (by rw [hxI]; decide) (by rw [hxI]; decide) (by rw [hxI]; rfl) (by decide) ?_
      refine lv_iload_n hx hb dX8_place_77 rfl (lv_at hl 1 rfl) ?_
      refine lv_aload_n hx hb dX8_place_78 rfl (lv_at hl 0 rfl) ?_
      refine va_get (D := D) (ci := 8) (v := .int i_hour) (C := RX8) (T := TX8) (N := 26) hx hb hts (fun _ h => List.mem_cons_of_mem _ (List.mem_append_right _ (h))) hown hK hP 0 rfl rfl 9 (by decide) (hts _ (List.mem_of_getElem? (i := 2) rfl)) (fun _ h9 => h9) rfl dX8_place_79 ?_
      obtain ⟨o_82, ho_82⟩ : ∃ z : Int32, z = v_X8_above x1 i_hour := ⟨_, rfl⟩
      refine callSIs (As := [.int x1, .int i_hour]) (rest := []) o_82 ho_82 hF (k_X8_above l D cI cZ x1 i_hour) (va_cwS 2 hts gX8_place_X8_above rfl rfl rfl (by decide +kernel) ⟨Nat.le_of_ble_eq_true rfl, Nat.le_of_ble_eq_true rfl⟩) hK hN hP (va_Dsame hD rfl) hS hA [] rfl rfl rfl hl.1 rfl (Nat.le_of_ble_eq_true rfl) dX8_place_82 ⟨Nat.zero_le _, Nat.zero_le _⟩ o_82 rfl rfl (fun H locs hP hS => ?_)
      have e9 : v_X8_place x1 x2 i_hung i_hour f_owed = o_82 := by
        refine (bnd_eq ho_1).trans ?_
        refine (if_neg c_4).trans ?_
        refine (if_neg c_10_0).trans ?_
        refine (if_neg c_10_1).trans ?_
        refine (if_neg c_10_2).trans ?_
        refine (if_pos c_10_3).trans ?_
        refine (bnd_eq ho_82).trans ?_
        rfl
      rw [hQ]; exact retI o_82 hx hb hr hlk e9 hP rfl hS dX8_place_85
    have nc_10_0 := lv_neT c_10_0 (show (0 : Int32).toInt = 0 from rfl)
    have nc_10_1 := lv_neT c_10_1 (show (1 : Int32).toInt = 1 from rfl)
    have nc_10_2 := lv_neT c_10_2 (show (2 : Int32).toInt = 2 from rfl)
    have nc_10_3 := lv_neT c_10_3 (show (3 : Int32).toInt = 3 from rfl)
    refine lv_tableOut (tgt := 86) hx hb dX8_place_10 (by omega) (by decide) ?_
    refine lv_bipush (v := (-2)) hx hb dX8_place_86 rfl ?_
    have e9 : v_X8_place x1 x2 i_hung i_hour f_owed = (-2) := by
      refine (bnd_eq ho_1).trans ?_
      refine (if_neg c_4).trans ?_
      refine (if_neg c_10_0).trans ?_
      refine (if_neg c_10_1).trans ?_
      refine (if_neg c_10_2).trans ?_
      refine (if_neg c_10_3).trans ?_
      rfl
    rw [hQ]; exact retI (-2) hx hb hr hlk e9 hP rfl hS dX8_place_88
  · refine lv_iconst (v := (-1)) hx hb dX8_place_7 rfl ?_
    have e9 : v_X8_place x1 x2 i_hung i_hour f_owed = (-1) := by
      refine (bnd_eq ho_1).trans ?_
      refine (if_pos c_4).trans ?_
      rfl
    rw [hQ]; exact retI (-1) hx hb hr hlk e9 hP rfl hS dX8_place_8
def v_X8_dark (x1 : Int32) (x2 : Int32) (i_hung : Int32) : Int32 :=
  bnd (v_X8_isCell x1) fun o_1 =>
  (if bI o_1 = 0 then (-1)
  else (bnd (v_X8_in x2.toInt64 0 5) fun o_15 =>
  (if bI o_15 = 0 then (-2)
  else (bnd (v_X8_isDark i_hung x1 x2) fun o_32 =>
  (if bI o_32 = 0 then 0
  else 1)))))
abbrev rm_X8_dark : Room := { frames := 2, cells := 0, slots := 0, locals := 45 }
set_option maxHeartbeats 4000000 in
set_option maxRecDepth 100000 in
theorem k_X8_dark (l : Launch) (D : va_G) (cI cZ : ClassId) (a a_readWishes a_readOwed a_told a_owed a_text a_row a_least a_values a_tellPlace a_tellHour a_tellDark a_isKept a_kept : Nat) (x1 : Int32) (x2 : Int32) (i_readHung : Int32) (i_readMany : Int32) (i_readOwes : Int32) (i_wishes : Int32) (i_hung : Int32) (i_hour : Int32) (i_length : Int32) (i_at : Int32) (i_faultAt : Int32) (i_acts : Int32) (i_next : Int32) (i_tells : Int32) (j_seed : Int64) : KI l D cI cZ yX8_dark wsX8_dark rm_X8_dark [.ref a, .int x1, .int x2] [(a, .inr (8, [.ref a_readWishes, .ref a_readOwed, .int i_readHung, .int i_readMany, .int i_readOwes, .ref a_told, .ref a_owed, .int i_wishes, .int i_hung, .int i_hour, .ref a_text, .int i_length, .int i_at, .int i_faultAt, .int i_acts, .int i_next, .ref a_row, .ref a_least, .ref a_values, .int i_tells, .ref a_tellPlace, .ref a_tellHour, .ref a_tellDark, .long j_seed, .ref a_isKept, .ref a_kept]))] (v_X8_dark x1 x2 i_hung) (fun o : Int32 => o) (fun _ : Int32 => [(a, .inr (8, [.ref a_readWishes, .ref a_readOwed, .int i_readHung, .int i_readMany, .int i_readOwes, .ref a_told, .ref a_owed, .int i_wishes, .int i_hung, .int i_hour, .ref a_text, .int i_length, .int i_at, .int i_faultAt, .int i_acts, .int i_next, .ref a_row, .ref a_least, .ref a_values, .int i_tells, .ref a_tellPlace, .ref a_tellHour, .ref a_tellDark, .long j_seed, .ref a_isKept, .ref a_kept]))]) := by
  refine KI.of cX8_dark 3 (some .int) (by decide) rfl (Nat.le_of_ble_eq_true rfl) ?_
  intro p e s m below meth c A ls ar Q hQ B
  obtain ⟨hx, hb, hr, hml, hts, hown, hlk, hK, hN, hP, hD, hA, hS, hl⟩ := B
  have hown : s.vm.findClass RX8 = some m.cls := hown
  have hF : CallFix p m c cX8_dark 3 s ar wsX8_dark RX8 := ⟨hx, hb, hml, hown, hts⟩
  have hl : lv_has ls 3 [(0, .ref a), (1, .int x1), (2, .int x2)] := hl
  refine lv_iload_n hx hb dX8_dark_0 rfl (lv_at hl 1 rfl) ?_
  obtain ⟨o_1, ho_1⟩ : ∃ z : Bool, z = v_X8_isCell x1 := ⟨_, rfl⟩
  refine callSIs (As := [.int x1]) (rest := []) o_1 ho_1 hF (k_X8_isCell l D cI cZ x1) (va_cwS 1 hts gX8_dark_X8_isCell rfl rfl rfl (by decide +kernel) ⟨Nat.le_of_ble_eq_true rfl, Nat.le_of_ble_eq_true rfl⟩) hK hN hP (va_Dsame hD rfl) hS hA [] rfl rfl rfl hl.1 rfl (Nat.le_of_ble_eq_true rfl) dX8_dark_1 ⟨Nat.zero_le _, Nat.zero_le _⟩ (bI o_1) rfl rfl (fun H locs hP hS => ?_)
  refine lv_if_ne (tgt := 9) hx hb dX8_dark_4 (by decide) (fun c_4 => ?_) (fun c_4 => ?_)
  · refine lv_iload_n hx hb dX8_dark_9 rfl (lv_at hl 2 rfl) ?_
    refine lv_i2l (v := x2.toInt64) hx hb dX8_dark_10 rfl ?_
    refine lv_lconst (v := 0) hx hb dX8_dark_11 rfl ?_
    refine lv_ldc2 (v := 5) hx hb hown (hts _ (List.mem_of_getElem? (i := 1) rfl)) dX8_dark_12 ?_
    obtain ⟨o_15, ho_15⟩ : ∃ z : Bool, z = v_X8_in x2.toInt64 0 5 := ⟨_, rfl⟩
    refine callSIs (As := [.long x2.toInt64, .long 0, .long 5]) (rest := []) o_15 ho_15 hF (k_X8_in l D cI cZ x2.toInt64 0 5) (va_cwS 3 hts gX8_dark_X8_in rfl rfl rfl (by decide +kernel) ⟨Nat.le_of_ble_eq_true rfl, Nat.le_of_ble_eq_true rfl⟩) hK hN hP (va_Dsame hD rfl) hS hA [] rfl rfl rfl hl.1 rfl (Nat.le_of_ble_eq_true rfl) dX8_dark_15 ⟨Nat.zero_le _, Nat.zero_le _⟩ (bI o_15) rfl rfl (fun H locs hP hS => ?_)
    refine lv_if_ne (tgt := 26) hx hb dX8_dark_18 (by decide) (fun c_18 => ?_) (fun c_18 => ?_)
    · refine lv_aload_n hx hb dX8_dark_26 rfl (lv_at hl 0 rfl) ?_
      refine va_get (D := D) (ci := 8) (v := .int i_hung) (C := RX8) (T := TX8) (N := 26) hx hb hts (fun _ h => List.mem_cons_of_mem _ (List.mem_append_right _ (h))) hown hK hP 0 rfl rfl 8 (by decide) (hts _ (List.mem_of_getElem? (i := 2) rfl)) (fun _ h9 => h9) rfl dX8_dark_27 ?_
      refine lv_iload_n hx hb dX8_dark_30 rfl (lv_at hl 1 rfl) ?_
      refine lv_iload_n hx hb dX8_dark_31 rfl (lv_at hl 2 rfl) ?_
      obtain ⟨o_32, ho_32⟩ : ∃ z : Bool, z = v_X8_isDark i_hung x1 x2 := ⟨_, rfl⟩
      refine callSIs (As := [.int i_hung, .int x1, .int x2]) (rest := []) o_32 ho_32 hF (k_X8_isDark l D cI cZ i_hung x1 x2) (va_cwS 3 hts gX8_dark_X8_isDark rfl rfl rfl (by decide +kernel) ⟨Nat.le_of_ble_eq_true rfl, Nat.le_of_ble_eq_true rfl⟩) hK hN hP (va_Dsame hD rfl) hS hA [] rfl rfl rfl hl.1 rfl (Nat.le_of_ble_eq_true rfl) dX8_dark_32 ⟨Nat.zero_le _, Nat.zero_le _⟩ (bI o_32) rfl rfl (fun H locs hP hS => ?_)
      refine lv_if_eq (tgt := 42) hx hb dX8_dark_35 (by decide) (fun c_35 => ?_) (fun c_35 => ?_)
      · refine lv_iconst (v := 0) hx hb dX8_dark_42 rfl ?_
        have e9 : v_X8_dark x1 x2 i_hung = 0 := by
          refine (bnd_eq ho_1).trans ?_
          refine (if_neg c_4).trans ?_
          refine (bnd_eq ho_15).trans ?_
          refine (if_neg c_18).trans ?_
          refine (bnd_eq ho_32).trans ?_
          refine (if_pos c_35).trans ?_
          rfl
        rw [hQ]; exact retI 0 hx hb hr hlk e9 hP rfl hS dX8_dark_43
      · refine lv_iconst (v := 1) hx hb dX8_dark_38 rfl ?_
        refine lv_goto (tgt := 43) hx hb dX8_dark_39 (by decide) ?_
        have e9 : v_X8_dark x1 x2 i_hung = 1 := by
          refine (bnd_eq ho_1).trans ?_
          refine (if_neg c_4).trans ?_
          refine (bnd_eq ho_15).trans ?_
          refine (if_neg c_18).trans ?_
          refine (bnd_eq ho_32).trans ?_
          refine (if_neg c_35).trans ?_
          rfl
        rw [hQ]; exact retI 1 hx hb hr hlk e9 hP rfl hS dX8_dark_43
    · refine lv_bipush (v := (-2)) hx hb dX8_dark_21 rfl ?_
      refine lv_goto (tgt := 43) hx hb dX8_dark_23 (by decide) ?_
      have e9 : v_X8_dark x1 x2 i_hung = (-2) := by
        refine (bnd_eq ho_1).trans ?_
        refine (if_neg c_4).trans ?_
        refine (bnd_eq ho_15).trans ?_
        refine (if_pos c_18).trans ?_
        rfl
      rw [hQ]; exact retI (-2) hx hb hr hlk e9 hP rfl hS dX8_dark_43
  · refine lv_iconst (v := (-1)) hx hb dX8_dark_7 rfl ?_
    have e9 : v_X8_dark x1 x2 i_hung = (-1) := by
      refine (bnd_eq ho_1).trans ?_
      refine (if_pos c_4).trans ?_
      rfl
    rw [hQ]; exact retI (-1) hx hb hr hlk e9 hP rfl hS dX8_dark_8
def v_X8_read_L23 (i_hung : Int32) (o_16 : Int32) (i23 : Nat) (z23 : Int32) : Int32 :=
  bnd (((2 * z23) + ((i_hung >>> ((((o_16 / 6) * 6) + (((o_16 - o_16 / 6 * 6) + nI i23) - ((o_16 - o_16 / 6 * 6) + nI i23) / 6 * 6)) &&& 31)) &&& 1))) fun w_59 =>
  w_59
def v_X8_read (x1 : Int32) (i_hung : Int32) (i_hour : Int32) : Int32 :=
  bnd (v_X8_isCell x1) fun o_1 =>
  (if bI o_1 = 0 then (-1)
  else (bnd (v_X8_above x1 i_hour) fun o_16 =>
  (bnd (it (v_X8_read_L23 i_hung o_16) 6 0 0) fun o_L23 =>
  o_L23)))
abbrev rm_X8_read : Room := { frames := 2, cells := 0, slots := 0, locals := 45 }
set_option maxHeartbeats 4000000 in
set_option maxRecDepth 100000 in
theorem k_X8_read (l : Launch) (D : va_G) (cI cZ : ClassId) (a a_readWishes a_readOwed a_told a_owed a_text a_row a_least a_values a_tellPlace a_tellHour a_tellDark a_isKept a_kept : Nat) (x1 : Int32) (i_readHung : Int32) (i_readMany : Int32) (i_readOwes : Int32) (i_wishes : Int32) (i_hung : Int32) (i_hour : Int32) (i_length : Int32) (i_at : Int32) (i_faultAt : Int32) (i_acts : Int32) (i_next : Int32) (i_tells : Int32) (j_seed : Int64) : KI l D cI cZ yX8_read wsX8_read rm_X8_read [.ref a, .int x1] [(a, .inr (8, [.ref a_readWishes, .ref a_readOwed, .int i_readHung, .int i_readMany, .int i_readOwes, .ref a_told, .ref a_owed, .int i_wishes, .int i_hung, .int i_hour, .ref a_text, .int i_length, .int i_at, .int i_faultAt, .int i_acts, .int i_next, .ref a_row, .ref a_least, .ref a_values, .int i_tells, .ref a_tellPlace, .ref a_tellHour, .ref a_tellDark, .long j_seed, .ref a_isKept, .ref a_kept]))] (v_X8_read x1 i_hung i_hour) (fun o : Int32 => o) (fun _ : Int32 => [(a, .inr (8, [.ref a_readWishes, .ref a_readOwed, .int i_readHung, .int i_readMany, .int i_readOwes, .ref a_told, .ref a_owed, .int i_wishes, .int i_hung, .int i_hour, .ref a_text, .int i_length, .int i_at, .int i_faultAt, .int i_acts, .int i_next, .ref a_row, .ref a_least, .ref a_values, .int i_tells, .ref a_tellPlace, .ref a_tellHour, .ref a_tellDark, .long j_seed, .ref a_isKept, .ref a_kept]))]) := by
  refine KI.of cX8_read 5 (some .int) (by decide) rfl (Nat.le_of_ble_eq_true rfl) ?_
  intro p e s m below meth c A ls ar Q hQ B
  obtain ⟨hx, hb, hr, hml, hts, hown, hlk, hK, hN, hP, hD, hA, hS, hl⟩ := B
  have hown : s.vm.findClass RX8 = some m.cls := hown
  have hF : CallFix p m c cX8_read 5 s ar wsX8_read RX8 := ⟨hx, hb, hml, hown, hts⟩
  have hl : lv_has ls 5 [(0, .ref a), (1, .int x1)] := hl
  refine lv_iload_n hx hb dX8_read_0 rfl (lv_at hl 1 rfl) ?_
  obtain ⟨o_1, ho_1⟩ : ∃ z : Bool, z = v_X8_isCell x1 := ⟨_, rfl⟩
  refine callSIs (As := [.int x1]) (rest := []) o_1 ho_1 hF (k_X8_isCell l D cI cZ x1) (va_cwS 1 hts gX8_read_X8_isCell rfl rfl rfl (by decide +kernel) ⟨Nat.le_of_ble_eq_true rfl, Nat.le_of_ble_eq_true rfl⟩) hK hN hP (va_Dsame hD rfl) hS hA [] rfl rfl rfl hl.1 rfl (Nat.le_of_ble_eq_true rfl) dX8_read_1 ⟨Nat.zero_le _, Nat.zero_le _⟩ (bI o_1) rfl rfl (fun H locs hP hS => ?_)
  refine lv_if_ne (tgt := 9) hx hb dX8_read_4 (by decide) (fun c_4 => ?_) (fun c_4 => ?_)
  · refine lv_iconst (v := 0) hx hb dX8_read_9 rfl ?_
    refine lv_istore_n (lv' := [(2, .int 0), (0, .ref a), (1, .int x1)]) hx hb dX8_read_10 rfl hl (by decide) rfl (fun ls hl => ?_)
    refine lv_iload_n hx hb dX8_read_11 rfl (lv_at hl 2 rfl) ?_
    refine lv_aload_n hx hb dX8_read_12 rfl (lv_at hl 1 rfl) ?_
    refine va_get (D := D) (ci := 8) (v := .int i_hour) (C := RX8) (T := TX8) (N := 26) hx hb hts (fun _ h => List.mem_cons_of_mem _ (List.mem_append_right _ (h))) hown hK hP 0 rfl rfl 9 (by decide) (hts _ (List.mem_of_getElem? (i := 1) rfl)) (fun _ h9 => h9) rfl dX8_read_13 ?_
    obtain ⟨o_16, ho_16⟩ : ∃ z : Int32, z = v_X8_above x1 i_hour := ⟨_, rfl⟩
    refine callSIs (As := [.int x1, .int i_hour]) (rest := []) o_16 ho_16 hF (k_X8_above l D cI cZ x1 i_hour) (va_cwS 2 hts gX8_read_X8_above rfl rfl rfl (by decide +kernel) ⟨Nat.le_of_ble_eq_true rfl, Nat.le_of_ble_eq_true rfl⟩) hK hN hP (va_Dsame hD rfl) hS hA [] rfl rfl rfl hl.1 rfl (Nat.le_of_ble_eq_true rfl) dX8_read_16 ⟨Nat.zero_le _, Nat.zero_le _⟩ o_16 rfl rfl (fun H locs hP hS => ?_)
    refine lv_istore_n (lv' := [(3, .int o_16), (2, .int 0), (0, .ref a), (1, .int x1)]) hx hb dX8_read_19 rfl hl (by decide) rfl (fun ls hl => ?_)
    refine lv_iconst (v := 0) hx hb dX8_read_20 rfl ?_
    refine lv_istore (lv' := [(4, .int 0), (3, .int o_16), (2, .int 0), (0, .ref a), (1, .int x1)]) hx hb dX8_read_21 hl (by decide) rfl (fun ls hl => ?_)
    obtain ⟨o_L23, ho_L23⟩ : ∃ z : Int32, z = it (v_X8_read_L23 i_hung o_16) 6 0 0 := ⟨_, rfl⟩
    have kE23 : ∀ (H : Heap) (locs : List Loc) (ls : Array Slot), va_P D vwCl [(a, .inr (8, [.ref a_readWishes, .ref a_readOwed, .int i_readHung, .int i_readMany, .int i_readOwes, .ref a_told, .ref a_owed, .int i_wishes, .int i_hung, .int i_hour, .ref a_text, .int i_length, .int i_at, .int i_faultAt, .int i_acts, .int i_next, .ref a_row, .ref a_least, .ref a_values, .int i_tells, .ref a_tellPlace, .ref a_tellHour, .ref a_tellDark, .long j_seed, .ref a_isKept, .ref a_kept]))] H → va_S A s.heap H locs → lv_has ls 5 [(2, .int o_L23)] → W p l e rm_X8_read s m ar below meth c H locs 0 0 Q (F0 m 66 ls []) := by
      intro H locs ls hP hS hl
      refine lv_iload_n hx hb dX8_read_66 rfl (lv_at hl 0 rfl) ?_
      have e9 : v_X8_read x1 i_hung i_hour = o_L23 := by
        refine (bnd_eq ho_1).trans ?_
        refine (if_neg c_4).trans ?_
        refine (bnd_eq ho_16).trans ?_
        refine (bnd_eq ho_L23).trans ?_
        rfl
      rw [hQ]; exact retI o_L23 hx hb hr hlk e9 hP rfl hS dX8_read_67
    have loop23 : ∀ (k i23 : Nat) (z23 : Int32), 0 ≤ i23 → i23 + k = 0 + 6 → it (v_X8_read_L23 i_hung o_16) k i23 z23 = o_L23 → ∀ (H : Heap) (locs : List Loc) (ls : Array Slot), va_P D vwCl [(a, .inr (8, [.ref a_readWishes, .ref a_readOwed, .int i_readHung, .int i_readMany, .int i_readOwes, .ref a_told, .ref a_owed, .int i_wishes, .int i_hung, .int i_hour, .ref a_text, .int i_length, .int i_at, .int i_faultAt, .int i_acts, .int i_next, .ref a_row, .ref a_least, .ref a_values, .int i_tells, .ref a_tellPlace, .ref a_tellHour, .ref a_tellDark, .long j_seed, .ref a_isKept, .ref a_kept]))] H → va_S A s.heap H locs → lv_has ls 5 [(4, .int (nI i23)), (3, .int o_16), (2, .int z23), (0, .ref a)] → W p l e rm_X8_read s m ar below meth c H locs 0 0 Q (F0 m 23 ls []) := by
      intro k
      induction k with
      | zero =>
        intro i23 z23 hi0 hik hz H locs ls hP hS hl
        have hz : z23 = o_L23 := it_0 hz
        subst z23
        refine lv_iload hx hb dX8_read_23 (lv_at hl 0 rfl) ?_
        refine lv_bipush (v := 6) hx hb dX8_read_25 rfl ?_
        refine lv_icmp_ge (tgt := 66) hx hb dX8_read_27 (by decide) (fun _ => ?_) (fun c => absurd (nI_le (a := 6) (by omega) (by omega)) c)
        exact kE23 _ _ _ hP hS (lv_sub hl [2] rfl)
      | succ k ih =>
        intro i23 z23 hi0 hik hz H locs ls hP hS hl
        refine lv_iload hx hb dX8_read_23 (lv_at hl 0 rfl) ?_
        refine lv_bipush (v := 6) hx hb dX8_read_25 rfl ?_
        refine lv_icmp_ge (tgt := 66) hx hb dX8_read_27 (by decide) (fun c => absurd c (nI_ge (b := 6) (by omega) (by decide))) (fun _ => ?_)
        refine lv_iconst (v := 2) hx hb dX8_read_30 rfl ?_
        refine lv_iload_n hx hb dX8_read_31 rfl (lv_at hl 2 rfl) ?_
        refine lv_imul hx hb dX8_read_32 ?_
        refine lv_aload_n hx hb dX8_read_33 rfl (lv_at hl 3 rfl) ?_
        refine va_get (D := D) (ci := 8) (v := .int i_hung) (C := RX8) (T := TX8) (N := 26) hx hb hts (fun _ h => List.mem_cons_of_mem _ (List.mem_append_right _ (h))) hown hK hP 0 rfl rfl 8 (by decide) (hts _ (List.mem_of_getElem? (i := 2) rfl)) (fun _ h9 => h9) rfl dX8_read_34 ?_
        refine lv_iload_n hx hb dX8_read_37 rfl (lv_at hl 1 rfl) ?_
        refine lv_bipush (v := 6) hx hb dX8_read_38 rfl ?_
        refine lv_idiv hx hb dX8_read_40 (by decide) ?_
        refine lv_bipush (v := 6) hx hb dX8_read_41 rfl ?_
        refine lv_imul hx hb dX8_read_43 ?_
        refine lv_iload_n hx hb dX8_read_44 rfl (lv_at hl 1 rfl) ?_
        refine lv_bipush (v := 6) hx hb dX8_read_45 rfl ?_
        refine lv_irem hx hb dX8_read_47 (by decide) ?_
        refine lv_iload hx hb dX8_read_48 (lv_at hl 0 rfl) ?_
        refine lv_iadd hx hb dX8_read_50 ?_
        refine lv_bipush (v := 6) hx hb dX8_read_51 rfl ?_
        refine lv_irem hx hb dX8_read_53 (by decide) ?_
        refine lv_iadd hx hb dX8_read_54 ?_
        refine lv_ishr hx hb dX8_read_55 ?_
        refine lv_iconst (v := 1) hx hb dX8_read_56 rfl ?_
        refine lv_iand hx hb dX8_read_57 ?_
        refine lv_iadd hx hb dX8_read_58 ?_
        refine lv_topi (fun w_59 hw_59 => ?_)
        refine lv_istore_n (lv' := [(2, .int w_59), (4, .int (nI i23)), (3, .int o_16), (0, .ref a)]) hx hb dX8_read_59 rfl hl (by decide) rfl (fun ls hl => ?_)
        refine lv_iinc (v := (nI (i23 + 1))) (lv' := [(4, .int (nI (i23 + 1))), (2, .int w_59), (3, .int o_16), (0, .ref a)]) hx hb dX8_read_60 hl (k := 1) rfl (nI_1 _) (by decide) rfl (fun ls hl => ?_)
        refine lv_goto (tgt := 23) hx hb dX8_read_63 (by decide) ?_
        have e8 : v_X8_read_L23 i_hung o_16 i23 z23 = w_59 := by
          refine (bnd_eq hw_59).trans ?_
          rfl
        exact ih (i23 + 1) w_59 (by omega) (by omega) (it_go e8 hz) _ _ _ hP hS (lv_sub hl [0, 2, 1, 3] rfl)
    exact loop23 6 0 0 (Nat.le_refl _) rfl ho_L23.symm _ _ _ hP hS (lv_sub hl [0, 1, 2, 3] rfl)
  · refine lv_iconst (v := (-1)) hx hb dX8_read_7 rfl ?_
    have e9 : v_X8_read x1 i_hung i_hour = (-1) := by
      refine (bnd_eq ho_1).trans ?_
      refine (if_pos c_4).trans ?_
      rfl
    rw [hQ]; exact retI (-1) hx hb hr hlk e9 hP rfl hS dX8_read_8
def v_X8_keepAct (i_hung : Int32) (i_hour : Int32) (i_acts : Int32) (i_next : Int32) (f_row : Nat → Int32) : Int32 × Int32 × (Nat → Int32) :=
  if 16 ≤ i_acts then (16, ((i_next + 1) - (i_next + 1) / 16 * 16), (upd f_row i_next.toNatClampNeg (i_hung + (4096 * i_hour))))
  else ((i_acts + 1), ((i_next + 1) - (i_next + 1) / 16 * 16), (upd f_row i_next.toNatClampNeg (i_hung + (4096 * i_hour))))
abbrev rm_X8_keepAct : Room := { frames := 0, cells := 0, slots := 0, locals := 0 }
set_option maxHeartbeats 4000000 in
set_option maxRecDepth 100000 in
theorem k_X8_keepAct (l : Launch) (D : va_G) (cI cZ : ClassId) (a a_readWishes a_readOwed a_told a_owed a_text a_row a_least a_values a_tellPlace a_tellHour a_tellDark a_isKept a_kept : Nat) (i_readHung : Int32) (i_readMany : Int32) (i_readOwes : Int32) (i_wishes : Int32) (i_hung : Int32) (i_hour : Int32) (i_length : Int32) (i_at : Int32) (i_faultAt : Int32) (i_acts : Int32) (i_next : Int32) (i_tells : Int32) (j_seed : Int64) (f_row : Nat → Int32) (hn16 : vp_in i_next 16) : KV l D cI cZ yX8_keepAct wsX8_keepAct rm_X8_keepAct [.ref a] [(a, .inr (8, [.ref a_readWishes, .ref a_readOwed, .int i_readHung, .int i_readMany, .int i_readOwes, .ref a_told, .ref a_owed, .int i_wishes, .int i_hung, .int i_hour, .ref a_text, .int i_length, .int i_at, .int i_faultAt, .int i_acts, .int i_next, .ref a_row, .ref a_least, .ref a_values, .int i_tells, .ref a_tellPlace, .ref a_tellHour, .ref a_tellDark, .long j_seed, .ref a_isKept, .ref a_kept])), (a_row, .inl (cI, 16, .inl f_row))] (v_X8_keepAct i_hung i_hour i_acts i_next f_row) (fun o : Int32 × Int32 × (Nat → Int32) => [(a, .inr (8, [.ref a_readWishes, .ref a_readOwed, .int i_readHung, .int i_readMany, .int i_readOwes, .ref a_told, .ref a_owed, .int i_wishes, .int i_hung, .int i_hour, .ref a_text, .int i_length, .int i_at, .int i_faultAt, .int o.1, .int o.2.1, .ref a_row, .ref a_least, .ref a_values, .int i_tells, .ref a_tellPlace, .ref a_tellHour, .ref a_tellDark, .long j_seed, .ref a_isKept, .ref a_kept])), (a_row, .inl (cI, 16, .inl o.2.2))]) := by
  refine KV.of cX8_keepAct 1 none (by decide) rfl (Nat.le_of_ble_eq_true rfl) ?_
  intro p e s m below meth c A ls ar Q hQ B
  obtain ⟨hx, hb, hr, hml, hts, hown, hlk, hK, hN, hP, hD, hA, hS, hl⟩ := B
  have hown : s.vm.findClass RX8 = some m.cls := hown
  have hF : CallFix p m c cX8_keepAct 1 s ar wsX8_keepAct RX8 := ⟨hx, hb, hml, hown, hts⟩
  have hl : lv_has ls 1 [(0, .ref a)] := hl
  refine lv_aload_n hx hb dX8_keepAct_0 rfl (lv_at hl 0 rfl) ?_
  refine va_get (D := D) (ci := 8) (v := .ref a_row) (C := RX8) (T := TX8) (N := 26) hx hb hts (fun _ h => List.mem_cons_of_mem _ (List.mem_append_right _ (h))) hown hK hP 0 rfl rfl 16 (by decide) (hts _ (List.mem_of_getElem? (i := 1) rfl)) (fun _ h9 => h9) rfl dX8_keepAct_1 ?_
  refine lv_aload_n hx hb dX8_keepAct_4 rfl (lv_at hl 0 rfl) ?_
  refine va_get (D := D) (ci := 8) (v := .int i_next) (C := RX8) (T := TX8) (N := 26) hx hb hts (fun _ h => List.mem_cons_of_mem _ (List.mem_append_right _ (h))) hown hK hP 0 rfl rfl 15 (by decide) (hts _ (List.mem_of_getElem? (i := 2) rfl)) (fun _ h9 => h9) rfl dX8_keepAct_5 ?_
  refine lv_aload_n hx hb dX8_keepAct_8 rfl (lv_at hl 0 rfl) ?_
  refine va_get (D := D) (ci := 8) (v := .int i_hung) (C := RX8) (T := TX8) (N := 26) hx hb hts (fun _ h => List.mem_cons_of_mem _ (List.mem_append_right _ (h))) hown hK hP 0 rfl rfl 8 (by decide) (hts _ (List.mem_of_getElem? (i := 3) rfl)) (fun _ h9 => h9) rfl dX8_keepAct_9 ?_
  refine lv_sipush (v := 4096) hx hb dX8_keepAct_12 rfl ?_
  refine lv_aload_n hx hb dX8_keepAct_15 rfl (lv_at hl 0 rfl) ?_
  refine va_get (D := D) (ci := 8) (v := .int i_hour) (C := RX8) (T := TX8) (N := 26) hx hb hts (fun _ h => List.mem_cons_of_mem _ (List.mem_append_right _ (h))) hown hK hP 0 rfl rfl 9 (by decide) (hts _ (List.mem_of_getElem? (i := 4) rfl)) (fun _ h9 => h9) rfl dX8_keepAct_16 ?_
  refine lv_imul hx hb dX8_keepAct_19 ?_
  refine lv_iadd hx hb dX8_keepAct_20 ?_
  refine va_iast hx hb hK hP (va_Dsame hD rfl) hS 1 0 rfl rfl (hn16) dX8_keepAct_21 (fun H locs hP _ hS => ?_)
  have hP : va_P D vwCl [(a, .inr (8, [.ref a_readWishes, .ref a_readOwed, .int i_readHung, .int i_readMany, .int i_readOwes, .ref a_told, .ref a_owed, .int i_wishes, .int i_hung, .int i_hour, .ref a_text, .int i_length, .int i_at, .int i_faultAt, .int i_acts, .int i_next, .ref a_row, .ref a_least, .ref a_values, .int i_tells, .ref a_tellPlace, .ref a_tellHour, .ref a_tellDark, .long j_seed, .ref a_isKept, .ref a_kept])), (a_row, .inl (cI, 16, .inl (upd f_row i_next.toNatClampNeg (i_hung + (4096 * i_hour)))))] H := hP
  refine lv_aload_n hx hb dX8_keepAct_22 rfl (lv_at hl 0 rfl) ?_
  refine lv_aload_n hx hb dX8_keepAct_23 rfl (lv_at hl 0 rfl) ?_
  refine va_get (D := D) (ci := 8) (v := .int i_next) (C := RX8) (T := TX8) (N := 26) hx hb hts (fun _ h => List.mem_cons_of_mem _ (List.mem_append_right _ (h))) hown hK hP 0 rfl rfl 15 (by decide) (hts _ (List.mem_of_getElem? (i := 2) rfl)) (fun _ h9 => h9) rfl dX8_keepAct_24 ?_
  refine lv_iconst (v := 1) hx hb dX8_keepAct_27 rfl ?_
  refine lv_iadd hx hb dX8_keepAct_28 ?_
  refine lv_bipush (v := 16) hx hb dX8_keepAct_29 rfl ?_
  refine lv_irem hx hb dX8_keepAct_31 (by decide) ?_
  refine va_put (D := D) (ci := 8) (v := .int ((i_next + 1) - (i_next + 1) / 16 * 16)) (ty := .int) (C := RX8) (T := TX8) (N := 26) hx hb hts (fun _ h => List.mem_cons_of_mem _ (List.mem_append_right _ (h))) tyX8 tyX8_ok nmX8 hown hK hP (va_Dsame hD rfl) hS 0 rfl rfl 15 (by decide) (hts _ (List.mem_of_getElem? (i := 2) rfl)) (fun _ h9 => h9) rfl (tyX8_ok 15 (by decide)) rfl rfl (Nat.le_of_ble_eq_true rfl) dX8_keepAct_32 (fun H locs hP _ hS => ?_)
  have hP : va_P D vwCl [(a, .inr (8, [.ref a_readWishes, .ref a_readOwed, .int i_readHung, .int i_readMany, .int i_readOwes, .ref a_told, .ref a_owed, .int i_wishes, .int i_hung, .int i_hour, .ref a_text, .int i_length, .int i_at, .int i_faultAt, .int i_acts, .int ((i_next + 1) - (i_next + 1) / 16 * 16), .ref a_row, .ref a_least, .ref a_values, .int i_tells, .ref a_tellPlace, .ref a_tellHour, .ref a_tellDark, .long j_seed, .ref a_isKept, .ref a_kept])), (a_row, .inl (cI, 16, .inl (upd f_row i_next.toNatClampNeg (i_hung + (4096 * i_hour)))))] H := hP
  refine lv_aload_n hx hb dX8_keepAct_35 rfl (lv_at hl 0 rfl) ?_
  refine lv_aload_n hx hb dX8_keepAct_36 rfl (lv_at hl 0 rfl) ?_
  refine va_get (D := D) (ci := 8) (v := .int i_acts) (C := RX8) (T := TX8) (N := 26) hx hb hts (fun _ h => List.mem_cons_of_mem _ (List.mem_append_right _ (h))) hown hK hP 0 rfl rfl 14 (by decide) (hts _ (List.mem_of_getElem? (i := 5) rfl)) (fun _ h9 => h9) rfl dX8_keepAct_37 ?_
  refine lv_bipush (v := 16) hx hb dX8_keepAct_40 rfl ?_
  refine lv_icmp_ge (tgt := 54) hx hb dX8_keepAct_42 (by decide) (fun c_42 => ?_) (fun c_42 => ?_)
  · refine lv_bipush (v := 16) hx hb dX8_keepAct_54 rfl ?_
    refine va_put (D := D) (ci := 8) (v := .int 16) (ty := .int) (C := RX8) (T := TX8) (N := 26) hx hb hts (fun _ h => List.mem_cons_of_mem _ (List.mem_append_right _ (h))) tyX8 tyX8_ok nmX8 hown hK hP (va_Dsame hD rfl) hS 0 rfl rfl 14 (by decide) (hts _ (List.mem_of_getElem? (i := 5) rfl)) (fun _ h9 => h9) rfl (tyX8_ok 14 (by decide)) rfl rfl (Nat.le_of_ble_eq_true rfl) dX8_keepAct_56 (fun H locs hP _ hS => ?_)
    have hP : va_P D vwCl [(a, .inr (8, [.ref a_readWishes, .ref a_readOwed, .int i_readHung, .int i_readMany, .int i_readOwes, .ref a_told, .ref a_owed, .int i_wishes, .int i_hung, .int i_hour, .ref a_text, .int i_length, .int i_at, .int i_faultAt, .int 16, .int ((i_next + 1) - (i_next + 1) / 16 * 16), .ref a_row, .ref a_least, .ref a_values, .int i_tells, .ref a_tellPlace, .ref a_tellHour, .ref a_tellDark, .long j_seed, .ref a_isKept, .ref a_kept])), (a_row, .inl (cI, 16, .inl (upd f_row i_next.toNatClampNeg (i_hung + (4096 * i_hour)))))] H := hP
    have e9 : v_X8_keepAct i_hung i_hour i_acts i_next f_row = (16, ((i_next + 1) - (i_next + 1) / 16 * 16), (upd f_row i_next.toNatClampNeg (i_hung + (4096 * i_hour)))) := by
      refine (if_pos c_42).trans ?_
      rfl
    rw [hQ]; exact retV (16, ((i_next + 1) - (i_next + 1) / 16 * 16), (upd f_row i_next.toNatClampNeg (i_hung + (4096 * i_hour)))) hx hb hr hlk e9 hP hS dX8_keepAct_59
  · refine lv_aload_n hx hb dX8_keepAct_45 rfl (lv_at hl 0 rfl) ?_
    refine va_get (D := D) (ci := 8) (v := .int i_acts) (C := RX8) (T := TX8) (N := 26) hx hb hts (fun _ h => List.mem_cons_of_mem _ (List.mem_append_right _ (h))) hown hK hP 0 rfl rfl 14 (by decide) (hts _ (List.mem_of_getElem? (i := 5) rfl)) (fun _ h9 => h9) rfl dX8_keepAct_46 ?_
    refine lv_iconst (v := 1) hx hb dX8_keepAct_49 rfl ?_
    refine lv_iadd hx hb dX8_keepAct_50 ?_
    refine lv_goto (tgt := 56) hx hb dX8_keepAct_51 (by decide) ?_
    refine va_put (D := D) (ci := 8) (v := .int (i_acts + 1)) (ty := .int) (C := RX8) (T := TX8) (N := 26) hx hb hts (fun _ h => List.mem_cons_of_mem _ (List.mem_append_right _ (h))) tyX8 tyX8_ok nmX8 hown hK hP (va_Dsame hD rfl) hS 0 rfl rfl 14 (by decide) (hts _ (List.mem_of_getElem? (i := 5) rfl)) (fun _ h9 => h9) rfl (tyX8_ok 14 (by decide)) rfl rfl (Nat.le_of_ble_eq_true rfl) dX8_keepAct_56 (fun H locs hP _ hS => ?_)
    have hP : va_P D vwCl [(a, .inr (8, [.ref a_readWishes, .ref a_readOwed, .int i_readHung, .int i_readMany, .int i_readOwes, .ref a_told, .ref a_owed, .int i_wishes, .int i_hung, .int i_hour, .ref a_text, .int i_length, .int i_at, .int i_faultAt, .int (i_acts + 1), .int ((i_next + 1) - (i_next + 1) / 16 * 16), .ref a_row, .ref a_least, .ref a_values, .int i_tells, .ref a_tellPlace, .ref a_tellHour, .ref a_tellDark, .long j_seed, .ref a_isKept, .ref a_kept])), (a_row, .inl (cI, 16, .inl (upd f_row i_next.toNatClampNeg (i_hung + (4096 * i_hour)))))] H := hP
    have e9 : v_X8_keepAct i_hung i_hour i_acts i_next f_row = ((i_acts + 1), ((i_next + 1) - (i_next + 1) / 16 * 16), (upd f_row i_next.toNatClampNeg (i_hung + (4096 * i_hour)))) := by
      refine (if_neg c_42).trans ?_
      rfl
    rw [hQ]; exact retV ((i_acts + 1), ((i_next + 1) - (i_next + 1) / 16 * 16), (upd f_row i_next.toNatClampNeg (i_hung + (4096 * i_hour)))) hx hb hr hlk e9 hP hS dX8_keepAct_59
def v_X8_has (x0 : Int32) (x1 : Int32) : Bool :=
  if ((x0 >>> (x1 &&& 31)) &&& 1) = 1 then true
  else false
abbrev rm_X8_has : Room := { frames := 0, cells := 0, slots := 0, locals := 0 }
set_option maxHeartbeats 4000000 in
set_option maxRecDepth 100000 in
theorem k_X8_has (l : Launch) (D : va_G) (cI cZ : ClassId) (x0 : Int32) (x1 : Int32) : KI l D cI cZ yX8_has wsX8_has rm_X8_has [.int x0, .int x1] [] (v_X8_has x0 x1) (fun o : Bool => bI o) (fun _ : Bool => []) := by
  refine KI.of cX8_has 2 (some .boolean) (by decide) rfl (Nat.le_of_ble_eq_true rfl) ?_
  intro p e s m below meth c A ls ar Q hQ B
  obtain ⟨hx, hb, hr, hml, hts, hown, hlk, hK, hN, hP, hD, hA, hS, hl⟩ := B
  have hown : s.vm.findClass RX8 = some m.cls := hown
  have hF : CallFix p m c cX8_has 2 s ar wsX8_has RX8 := ⟨hx, hb, hml, hown, hts⟩
  have hl : lv_has ls 2 [(0, .int x0), (1, .int x1)] := hl
  refine lv_iload_n hx hb dX8_has_0 rfl (lv_at hl 0 rfl) ?_
  refine lv_iload_n hx hb dX8_has_1 rfl (lv_at hl 1 rfl) ?_
  refine lv_ishr hx hb dX8_has_2 ?_
  refine lv_iconst (v := 1) hx hb dX8_has_3 rfl ?_
  refine lv_iand hx hb dX8_has_4 ?_
  refine lv_iconst (v := 1) hx hb dX8_has_5 rfl ?_
  refine lv_icmp_ne (tgt := 13) hx hb dX8_has_6 (by decide) (fun c_6 => ?_) (fun c_6 => ?_)
  · refine lv_iconst (v := 0) hx hb dX8_has_13 rfl ?_
    have e9 : v_X8_has x0 x1 = false := by
      refine (if_neg c_6).trans ?_
      rfl
    rw [hQ]; exact retZ (v := fun o : Bool => o) false hx hb hr hlk e9 hP rfl hS dX8_has_14
  · refine lv_iconst (v := 1) hx hb dX8_has_9 rfl ?_
    refine lv_goto (tgt := 14) hx hb dX8_has_10 (by decide) ?_
    have e9 : v_X8_has x0 x1 = true := by
      refine (if_pos c_6).trans ?_
      rfl
    rw [hQ]; exact retZ (v := fun o : Bool => o) true hx hb hr hlk e9 hP rfl hS dX8_has_14
def v_X8_hang (x1 : Int32) (i_hung : Int32) (i_hour : Int32) (i_acts : Int32) (i_next : Int32) (f_row : Nat → Int32) : Int32 × Int32 × Int32 × Int32 × (Nat → Int32) :=
  bnd (v_X8_isCell x1) fun o_1 =>
  (if bI o_1 = 0 then ((-1), i_acts, i_next, i_hung, f_row)
  else (bnd (v_X8_has i_hung x1) fun o_14 =>
  (if bI o_14 = 0 then (bnd (v_X8_ones i_hung) fun o_27 =>
    (if o_27 = 5 then ((-4), i_acts, i_next, i_hung, f_row)
    else (bnd3 (v_X8_keepAct i_hung i_hour i_acts i_next f_row) fun o_38_1 o_38_2 o_38_3 =>
    (bnd (v_X8_ones (i_hung ||| ((1 : Int32) <<< (x1 &&& 31)))) fun o_57 =>
    (o_57, o_38_1, o_38_2, (i_hung ||| ((1 : Int32) <<< (x1 &&& 31))), o_38_3)))))
  else ((-3), i_acts, i_next, i_hung, f_row))))
abbrev rm_X8_hang : Room := { frames := 2, cells := 0, slots := 0, locals := 45 }
set_option maxHeartbeats 4000000 in
set_option maxRecDepth 100000 in
theorem k_X8_hang (l : Launch) (D : va_G) (cI cZ : ClassId) (a a_readWishes a_readOwed a_told a_owed a_text a_row a_least a_values a_tellPlace a_tellHour a_tellDark a_isKept a_kept : Nat) (x1 : Int32) (i_readHung : Int32) (i_readMany : Int32) (i_readOwes : Int32) (i_wishes : Int32) (i_hung : Int32) (i_hour : Int32) (i_length : Int32) (i_at : Int32) (i_faultAt : Int32) (i_acts : Int32) (i_next : Int32) (i_tells : Int32) (j_seed : Int64) (f_row : Nat → Int32) (hn16 : vp_in i_next 16) : KI l D cI cZ yX8_hang wsX8_hang rm_X8_hang [.ref a, .int x1] [(a, .inr (8, [.ref a_readWishes, .ref a_readOwed, .int i_readHung, .int i_readMany, .int i_readOwes, .ref a_told, .ref a_owed, .int i_wishes, .int i_hung, .int i_hour, .ref a_text, .int i_length, .int i_at, .int i_faultAt, .int i_acts, .int i_next, .ref a_row, .ref a_least, .ref a_values, .int i_tells, .ref a_tellPlace, .ref a_tellHour, .ref a_tellDark, .long j_seed, .ref a_isKept, .ref a_kept])), (a_row, .inl (cI, 16, .inl f_row))] (v_X8_hang x1 i_hung i_hour i_acts i_next f_row) (fun o : Int32 × Int32 × Int32 × Int32 × (Nat → Int32) => o.1) (fun o : Int32 × Int32 × Int32 × Int32 × (Nat → Int32) => [(a, .inr (8, [.ref a_readWishes, .ref a_readOwed, .int i_readHung, .int i_readMany, .int i_readOwes, .ref a_told, .ref a_owed, .int i_wishes, .int o.2.2.2.1, .int i_hour, .ref a_text, .int i_length, .int i_at, .int i_faultAt, .int o.2.1, .int o.2.2.1, .ref a_row, .ref a_least, .ref a_values, .int i_tells, .ref a_tellPlace, .ref a_tellHour, .ref a_tellDark, .long j_seed, .ref a_isKept, .ref a_kept])), (a_row, .inl (cI, 16, .inl o.2.2.2.2))]) := by
  refine KI.of cX8_hang 2 (some .int) (by decide) rfl (Nat.le_of_ble_eq_true rfl) ?_
  intro p e s m below meth c A ls ar Q hQ B
  obtain ⟨hx, hb, hr, hml, hts, hown, hlk, hK, hN, hP, hD, hA, hS, hl⟩ := B
  have hown : s.vm.findClass RX8 = some m.cls := hown
  have hF : CallFix p m c cX8_hang 2 s ar wsX8_hang RX8 := ⟨hx, hb, hml, hown, hts⟩
  have hl : lv_has ls 2 [(0, .ref a), (1, .int x1)] := hl
  refine lv_iload_n hx hb dX8_hang_0 rfl (lv_at hl 1 rfl) ?_
  obtain ⟨o_1, ho_1⟩ : ∃ z : Bool, z = v_X8_isCell x1 := ⟨_, rfl⟩
  refine callSIs (As := [.int x1]) (rest := []) o_1 ho_1 hF (k_X8_isCell l D cI cZ x1) (va_cwS 1 hts gX8_hang_X8_isCell rfl rfl rfl (by decide +kernel) ⟨Nat.le_of_ble_eq_true rfl, Nat.le_of_ble_eq_true rfl⟩) hK hN hP (va_Dsame hD rfl) hS hA [] rfl rfl rfl hl.1 rfl (Nat.le_of_ble_eq_true rfl) dX8_hang_1 ⟨Nat.zero_le _, Nat.zero_le _⟩ (bI o_1) rfl rfl (fun H locs hP hS => ?_)
  refine lv_if_ne (tgt := 9) hx hb dX8_hang_4 (by decide) (fun c_4 => ?_) (fun c_4 => ?_)
  · refine lv_aload_n hx hb dX8_hang_9 rfl (lv_at hl 0 rfl) ?_
    refine va_get (D := D) (ci := 8) (v := .int i_hung) (C := RX8) (T := TX8) (N := 26) hx hb hts (fun _ h => List.mem_cons_of_mem _ (List.mem_append_right _ (h))) hown hK hP 0 rfl rfl 8 (by decide) (hts _ (List.mem_of_getElem? (i := 1) rfl)) (fun _ h9 => h9) rfl dX8_hang_10 ?_
    refine lv_iload_n hx hb dX8_hang_13 rfl (lv_at hl 1 rfl) ?_
    obtain ⟨o_14, ho_14⟩ : ∃ z : Bool, z = v_X8_has i_hung x1 := ⟨_, rfl⟩
    refine callSIs (As := [.int i_hung, .int x1]) (rest := []) o_14 ho_14 hF (k_X8_has l D cI cZ i_hung x1) (va_cwS 2 hts gX8_hang_X8_has rfl rfl rfl (by decide +kernel) ⟨Nat.le_of_ble_eq_true rfl, Nat.le_of_ble_eq_true rfl⟩) hK hN hP (va_Dsame hD rfl) hS hA [] rfl rfl rfl hl.1 rfl (Nat.le_of_ble_eq_true rfl) dX8_hang_14 ⟨Nat.zero_le _, Nat.zero_le _⟩ (bI o_14) rfl rfl (fun H locs hP hS => ?_)
    refine lv_if_eq (tgt := 23) hx hb dX8_hang_17 (by decide) (fun c_17 => ?_) (fun c_17 => ?_)
    · refine lv_aload_n hx hb dX8_hang_23 rfl (lv_at hl 0 rfl) ?_
      refine va_get (D := D) (ci := 8) (v := .int i_hung) (C := RX8) (T := TX8) (N := 26) hx hb hts (fun _ h => List.mem_cons_of_mem _ (List.mem_append_right _ (h))) hown hK hP 0 rfl rfl 8 (by decide) (hts _ (List.mem_of_getElem? (i := 1) rfl)) (fun _ h9 => h9) rfl dX8_hang_24 ?_
      obtain ⟨o_27, ho_27⟩ : ∃ z : Int32, z = v_X8_ones i_hung := ⟨_, rfl⟩
      refine callSIs (As := [.int i_hung]) (rest := []) o_27 ho_27 hF (k_X8_ones l D cI cZ i_hung) (va_cwS 1 hts gX8_hang_X8_ones rfl rfl rfl (by decide +kernel) ⟨Nat.le_of_ble_eq_true rfl, Nat.le_of_ble_eq_true rfl⟩) hK hN hP (va_Dsame hD rfl) hS hA [] rfl rfl rfl hl.1 rfl (Nat.le_of_ble_eq_true rfl) dX8_hang_27 ⟨Nat.zero_le _, Nat.zero_le _⟩ o_27 rfl rfl (fun H locs hP hS => ?_)
      refine lv_iconst (v := 5) hx hb dX8_hang_30 rfl ?_
      refine lv_icmp_ne (tgt := 37) hx hb dX8_hang_31 (by decide) (fun c_31 => ?_) (fun c_31 => ?_)
      · refine lv_aload_n hx hb dX8_hang_37 rfl (lv_at hl 0 rfl) ?_
        obtain ⟨o_38_1, o_38_2, o_38_3, ho_38⟩ := ex3 (v_X8_keepAct i_hung i_hour i_acts i_next f_row)
        refine callVV (As := []) (rest := []) (o_38_1, o_38_2, o_38_3) ho_38 hF (k_X8_keepAct l D cI cZ a a_readWishes a_readOwed a_told a_owed a_text a_row a_least a_values a_tellPlace a_tellHour a_tellDark a_isKept a_kept i_readHung i_readMany i_readOwes i_wishes i_hung i_hour i_length i_at i_faultAt i_acts i_next i_tells j_seed f_row (hn16)) (cwV 0 hts gX8_hang_X8_keepAct rfl rfl rfl (by decide +kernel) ⟨Nat.le_of_ble_eq_true rfl, Nat.le_of_ble_eq_true rfl⟩) hK hN hP (va_Dsame hD rfl) hS hA [0, 1] rfl rfl 0 8 (T := TX8) (N := 26) rfl rfl rfl hl.1 rfl (Nat.le_of_ble_eq_true rfl) dX8_hang_38 ⟨Nat.zero_le _, Nat.zero_le _⟩ [some 0, some 1] 2 [(a, .inr (8, [.ref a_readWishes, .ref a_readOwed, .int i_readHung, .int i_readMany, .int i_readOwes, .ref a_told, .ref a_owed, .int i_wishes, .int i_hung, .int i_hour, .ref a_text, .int i_length, .int i_at, .int i_faultAt, .int o_38_1, .int o_38_2, .ref a_row, .ref a_least, .ref a_values, .int i_tells, .ref a_tellPlace, .ref a_tellHour, .ref a_tellDark, .long j_seed, .ref a_isKept, .ref a_kept])), (a_row, .inl (cI, 16, .inl o_38_3))] rfl rfl (by decide) (fun H locs hP hS => ?_)
        refine lv_aload_n hx hb dX8_hang_41 rfl (lv_at hl 0 rfl) ?_
        refine lv_dup hx hb dX8_hang_42 rfl ?_
        refine va_get (D := D) (ci := 8) (v := .int i_hung) (C := RX8) (T := TX8) (N := 26) hx hb hts (fun _ h => List.mem_cons_of_mem _ (List.mem_append_right _ (h))) hown hK hP 0 rfl rfl 8 (by decide) (hts _ (List.mem_of_getElem? (i := 1) rfl)) (fun _ h9 => h9) rfl dX8_hang_43 ?_
        refine lv_iconst (v := 1) hx hb dX8_hang_46 rfl ?_
        refine lv_iload_n hx hb dX8_hang_47 rfl (lv_at hl 1 rfl) ?_
        refine lv_ishl hx hb dX8_hang_48 ?_
        refine lv_ior hx hb dX8_hang_49 ?_
        refine va_put (D := D) (ci := 8) (v := .int (i_hung ||| ((1 : Int32) <<< (x1 &&& 31)))) (ty := .int) (C := RX8) (T := TX8) (N := 26) hx hb hts (fun _ h => List.mem_cons_of_mem _ (List.mem_append_right _ (h))) tyX8 tyX8_ok nmX8 hown hK hP (va_Dsame hD rfl) hS 0 rfl rfl 8 (by decide) (hts _ (List.mem_of_getElem? (i := 1) rfl)) (fun _ h9 => h9) rfl (tyX8_ok 8 (by decide)) rfl rfl (Nat.le_of_ble_eq_true rfl) dX8_hang_50 (fun H locs hP _ hS => ?_)
        have hP : va_P D vwCl [(a, .inr (8, [.ref a_readWishes, .ref a_readOwed, .int i_readHung, .int i_readMany, .int i_readOwes, .ref a_told, .ref a_owed, .int i_wishes, .int (i_hung ||| ((1 : Int32) <<< (x1 &&& 31))), .int i_hour, .ref a_text, .int i_length, .int i_at, .int i_faultAt, .int o_38_1, .int o_38_2, .ref a_row, .ref a_least, .ref a_values, .int i_tells, .ref a_tellPlace, .ref a_tellHour, .ref a_tellDark, .long j_seed, .ref a_isKept, .ref a_kept])), (a_row, .inl (cI, 16, .inl o_38_3))] H := hP
        refine lv_aload_n hx hb dX8_hang_53 rfl (lv_at hl 0 rfl) ?_
        refine va_get (D := D) (ci := 8) (v := .int (i_hung ||| ((1 : Int32) <<< (x1 &&& 31)))) (C := RX8) (T := TX8) (N := 26) hx hb hts (fun _ h => List.mem_cons_of_mem _ (List.mem_append_right _ (h))) hown hK hP 0 rfl rfl 8 (by decide) (hts _ (List.mem_of_getElem? (i := 1) rfl)) (fun _ h9 => h9) rfl dX8_hang_54 ?_
        obtain ⟨o_57, ho_57⟩ : ∃ z : Int32, z = v_X8_ones (i_hung ||| ((1 : Int32) <<< (x1 &&& 31))) := ⟨_, rfl⟩
        refine callSIs (As := [.int (i_hung ||| ((1 : Int32) <<< (x1 &&& 31)))]) (rest := []) o_57 ho_57 hF (k_X8_ones l D cI cZ (i_hung ||| ((1 : Int32) <<< (x1 &&& 31)))) (va_cwS 1 hts gX8_hang_X8_ones rfl rfl rfl (by decide +kernel) ⟨Nat.le_of_ble_eq_true rfl, Nat.le_of_ble_eq_true rfl⟩) hK hN hP (va_Dsame hD rfl) hS hA [] rfl rfl rfl hl.1 rfl (Nat.le_of_ble_eq_true rfl) dX8_hang_57 ⟨Nat.zero_le _, Nat.zero_le _⟩ o_57 rfl rfl (fun H locs hP hS => ?_)
        have e9 : v_X8_hang x1 i_hung i_hour i_acts i_next f_row = (o_57, o_38_1, o_38_2, (i_hung ||| ((1 : Int32) <<< (x1 &&& 31))), o_38_3) := by
          refine (bnd_eq ho_1).trans ?_
          refine (if_neg c_4).trans ?_
          refine (bnd_eq ho_14).trans ?_
          refine (if_pos c_17).trans ?_
          refine (bnd_eq ho_27).trans ?_
          refine (if_neg c_31).trans ?_
          refine (bnd3_eq ho_38).trans ?_
          refine (bnd_eq ho_57).trans ?_
          rfl
        rw [hQ]; exact retI (o_57, o_38_1, o_38_2, (i_hung ||| ((1 : Int32) <<< (x1 &&& 31))), o_38_3) hx hb hr hlk e9 hP rfl hS dX8_hang_60
      · refine lv_bipush (v := (-4)) hx hb dX8_hang_34 rfl ?_
        have e9 : v_X8_hang x1 i_hung i_hour i_acts i_next f_row = ((-4), i_acts, i_next, i_hung, f_row) := by
          refine (bnd_eq ho_1).trans ?_
          refine (if_neg c_4).trans ?_
          refine (bnd_eq ho_14).trans ?_
          refine (if_pos c_17).trans ?_
          refine (bnd_eq ho_27).trans ?_
          refine (if_pos c_31).trans ?_
          rfl
        rw [hQ]; exact retI ((-4), i_acts, i_next, i_hung, f_row) hx hb hr hlk e9 hP rfl hS dX8_hang_36
    · refine lv_bipush (v := (-3)) hx hb dX8_hang_20 rfl ?_
      have e9 : v_X8_hang x1 i_hung i_hour i_acts i_next f_row = ((-3), i_acts, i_next, i_hung, f_row) := by
        refine (bnd_eq ho_1).trans ?_
        refine (if_neg c_4).trans ?_
        refine (bnd_eq ho_14).trans ?_
        refine (if_neg c_17).trans ?_
        rfl
      rw [hQ]; exact retI ((-3), i_acts, i_next, i_hung, f_row) hx hb hr hlk e9 hP rfl hS dX8_hang_22
  · refine lv_iconst (v := (-1)) hx hb dX8_hang_7 rfl ?_
    have e9 : v_X8_hang x1 i_hung i_hour i_acts i_next f_row = ((-1), i_acts, i_next, i_hung, f_row) := by
      refine (bnd_eq ho_1).trans ?_
      refine (if_pos c_4).trans ?_
      rfl
    rw [hQ]; exact retI ((-1), i_acts, i_next, i_hung, f_row) hx hb hr hlk e9 hP rfl hS dX8_hang_8
def v_X8_take (x1 : Int32) (i_hung : Int32) (i_hour : Int32) (i_acts : Int32) (i_next : Int32) (f_row : Nat → Int32) : Int32 × Int32 × Int32 × Int32 × (Nat → Int32) :=
  bnd (v_X8_isCell x1) fun o_1 =>
  (if bI o_1 = 0 then ((-1), i_acts, i_next, i_hung, f_row)
  else (bnd (v_X8_has i_hung x1) fun o_14 =>
  (if bI o_14 = 0 then ((-3), i_acts, i_next, i_hung, f_row)
  else (bnd3 (v_X8_keepAct i_hung i_hour i_acts i_next f_row) fun o_24_1 o_24_2 o_24_3 =>
  (bnd ((i_hung &&& (((1 : Int32) <<< (x1 &&& 31)) ^^^ (-1)))) fun w_38 =>
  (bnd (v_X8_ones w_38) fun o_45 =>
  (o_45, o_24_1, o_24_2, w_38, o_24_3)))))))
abbrev rm_X8_take : Room := { frames := 2, cells := 0, slots := 0, locals := 45 }
set_option maxHeartbeats 4000000 in
set_option maxRecDepth 100000 in
theorem k_X8_take (l : Launch) (D : va_G) (cI cZ : ClassId) (a a_readWishes a_readOwed a_told a_owed a_text a_row a_least a_values a_tellPlace a_tellHour a_tellDark a_isKept a_kept : Nat) (x1 : Int32) (i_readHung : Int32) (i_readMany : Int32) (i_readOwes : Int32) (i_wishes : Int32) (i_hung : Int32) (i_hour : Int32) (i_length : Int32) (i_at : Int32) (i_faultAt : Int32) (i_acts : Int32) (i_next : Int32) (i_tells : Int32) (j_seed : Int64) (f_row : Nat → Int32) (hn16 : vp_in i_next 16) : KI l D cI cZ yX8_take wsX8_take rm_X8_take [.ref a, .int x1] [(a, .inr (8, [.ref a_readWishes, .ref a_readOwed, .int i_readHung, .int i_readMany, .int i_readOwes, .ref a_told, .ref a_owed, .int i_wishes, .int i_hung, .int i_hour, .ref a_text, .int i_length, .int i_at, .int i_faultAt, .int i_acts, .int i_next, .ref a_row, .ref a_least, .ref a_values, .int i_tells, .ref a_tellPlace, .ref a_tellHour, .ref a_tellDark, .long j_seed, .ref a_isKept, .ref a_kept])), (a_row, .inl (cI, 16, .inl f_row))] (v_X8_take x1 i_hung i_hour i_acts i_next f_row) (fun o : Int32 × Int32 × Int32 × Int32 × (Nat → Int32) => o.1) (fun o : Int32 × Int32 × Int32 × Int32 × (Nat → Int32) => [(a, .inr (8, [.ref a_readWishes, .ref a_readOwed, .int i_readHung, .int i_readMany, .int i_readOwes, .ref a_told, .ref a_owed, .int i_wishes, .int o.2.2.2.1, .int i_hour, .ref a_text, .int i_length, .int i_at, .int i_faultAt, .int o.2.1, .int o.2.2.1, .ref a_row, .ref a_least, .ref a_values, .int i_tells, .ref a_tellPlace, .ref a_tellHour, .ref a_tellDark, .long j_seed, .ref a_isKept, .ref a_kept])), (a_row, .inl (cI, 16, .inl o.2.2.2.2))]) := by
  refine KI.of cX8_take 2 (some .int) (by decide) rfl (Nat.le_of_ble_eq_true rfl) ?_
  intro p e s m below meth c A ls ar Q hQ B
  obtain ⟨hx, hb, hr, hml, hts, hown, hlk, hK, hN, hP, hD, hA, hS, hl⟩ := B
  have hown : s.vm.findClass RX8 = some m.cls := hown
  have hF : CallFix p m c cX8_take 2 s ar wsX8_take RX8 := ⟨hx, hb, hml, hown, hts⟩
  have hl : lv_has ls 2 [(0, .ref a), (1, .int x1)] := hl
  refine lv_iload_n hx hb dX8_take_0 rfl (lv_at hl 1 rfl) ?_
  obtain ⟨o_1, ho_1⟩ : ∃ z : Bool, z = v_X8_isCell x1 := ⟨_, rfl⟩
  refine callSIs (As := [.int x1]) (rest := []) o_1 ho_1 hF (k_X8_isCell l D cI cZ x1) (va_cwS 1 hts gX8_take_X8_isCell rfl rfl rfl (by decide +kernel) ⟨Nat.le_of_ble_eq_true rfl, Nat.le_of_ble_eq_true rfl⟩) hK hN hP (va_Dsame hD rfl) hS hA [] rfl rfl rfl hl.1 rfl (Nat.le_of_ble_eq_true rfl) dX8_take_1 ⟨Nat.zero_le _, Nat.zero_le _⟩ (bI o_1) rfl rfl (fun H locs hP hS => ?_)
  refine lv_if_ne (tgt := 9) hx hb dX8_take_4 (by decide) (fun c_4 => ?_) (fun c_4 => ?_)
  · refine lv_aload_n hx hb dX8_take_9 rfl (lv_at hl 0 rfl) ?_
    refine va_get (D := D) (ci := 8) (v := .int i_hung) (C := RX8) (T := TX8) (N := 26) hx hb hts (fun _ h => List.mem_cons_of_mem _ (List.mem_append_right _ (h))) hown hK hP 0 rfl rfl 8 (by decide) (hts _ (List.mem_of_getElem? (i := 1) rfl)) (fun _ h9 => h9) rfl dX8_take_10 ?_
    refine lv_iload_n hx hb dX8_take_13 rfl (lv_at hl 1 rfl) ?_
    obtain ⟨o_14, ho_14⟩ : ∃ z : Bool, z = v_X8_has i_hung x1 := ⟨_, rfl⟩
    refine callSIs (As := [.int i_hung, .int x1]) (rest := []) o_14 ho_14 hF (k_X8_has l D cI cZ i_hung x1) (va_cwS 2 hts gX8_take_X8_has rfl rfl rfl (by decide +kernel) ⟨Nat.le_of_ble_eq_true rfl, Nat.le_of_ble_eq_true rfl⟩) hK hN hP (va_Dsame hD rfl) hS hA [] rfl rfl rfl hl.1 rfl (Nat.le_of_ble_eq_true rfl) dX8_take_14 ⟨Nat.zero_le _, Nat.zero_le _⟩ (bI o_14) rfl rfl (fun H locs hP hS => ?_)
    refine lv_if_ne (tgt := 23) hx hb dX8_take_17 (by decide) (fun c_17 => ?_) (fun c_17 => ?_)
    · refine lv_aload_n hx hb dX8_take_23 rfl (lv_at hl 0 rfl) ?_
      obtain ⟨o_24_1, o_24_2, o_24_3, ho_24⟩ := ex3 (v_X8_keepAct i_hung i_hour i_acts i_next f_row)
      refine callVV (As := []) (rest := []) (o_24_1, o_24_2, o_24_3) ho_24 hF (k_X8_keepAct l D cI cZ a a_readWishes a_readOwed a_told a_owed a_text a_row a_least a_values a_tellPlace a_tellHour a_tellDark a_isKept a_kept i_readHung i_readMany i_readOwes i_wishes i_hung i_hour i_length i_at i_faultAt i_acts i_next i_tells j_seed f_row (hn16)) (cwV 0 hts gX8_take_X8_keepAct rfl rfl rfl (by decide +kernel) ⟨Nat.le_of_ble_eq_true rfl, Nat.le_of_ble_eq_true rfl⟩) hK hN hP (va_Dsame hD rfl) hS hA [0, 1] rfl rfl 0 8 (T := TX8) (N := 26) rfl rfl rfl hl.1 rfl (Nat.le_of_ble_eq_true rfl) dX8_take_24 ⟨Nat.zero_le _, Nat.zero_le _⟩ [some 0, some 1] 2 [(a, .inr (8, [.ref a_readWishes, .ref a_readOwed, .int i_readHung, .int i_readMany, .int i_readOwes, .ref a_told, .ref a_owed, .int i_wishes, .int i_hung, .int i_hour, .ref a_text, .int i_length, .int i_at, .int i_faultAt, .int o_24_1, .int o_24_2, .ref a_row, .ref a_least, .ref a_values, .int i_tells, .ref a_tellPlace, .ref a_tellHour, .ref a_tellDark, .long j_seed, .ref a_isKept, .ref a_kept])), (a_row, .inl (cI, 16, .inl o_24_3))] rfl rfl (by decide) (fun H locs hP hS => ?_)
      refine lv_aload_n hx hb dX8_take_27 rfl (lv_at hl 0 rfl) ?_
      refine lv_dup hx hb dX8_take_28 rfl ?_
      refine va_get (D := D) (ci := 8) (v := .int i_hung) (C := RX8) (T := TX8) (N := 26) hx hb hts (fun _ h => List.mem_cons_of_mem _ (List.mem_append_right _ (h))) hown hK hP 0 rfl rfl 8 (by decide) (hts _ (List.mem_of_getElem? (i := 1) rfl)) (fun _ h9 => h9) rfl dX8_take_29 ?_
      refine lv_iconst (v := 1) hx hb dX8_take_32 rfl ?_
      refine lv_iload_n hx hb dX8_take_33 rfl (lv_at hl 1 rfl) ?_
      refine lv_ishl hx hb dX8_take_34 ?_
      refine lv_iconst (v := (-1)) hx hb dX8_take_35 rfl ?_
      refine lv_ixor hx hb dX8_take_36 ?_
      refine lv_iand hx hb dX8_take_37 ?_
      refine lv_topi (fun w_38 hw_38 => ?_)
      refine va_put (D := D) (ci := 8) (v := .int w_38) (ty := .int) (C := RX8) (T := TX8) (N := 26) hx hb hts (fun _ h => List.mem_cons_of_mem _ (List.mem_append_right _ (h))) tyX8 tyX8_ok nmX8 hown hK hP (va_Dsame hD rfl) hS 0 rfl rfl 8 (by decide) (hts _ (List.mem_of_getElem? (i := 1) rfl)) (fun _ h9 => h9) rfl (tyX8_ok 8 (by decide)) rfl rfl (Nat.le_of_ble_eq_true rfl) dX8_take_38 (fun H locs hP _ hS => ?_)
      have hP : va_P D vwCl [(a, .inr (8, [.ref a_readWishes, .ref a_readOwed, .int i_readHung, .int i_readMany, .int i_readOwes, .ref a_told, .ref a_owed, .int i_wishes, .int w_38, .int i_hour, .ref a_text, .int i_length, .int i_at, .int i_faultAt, .int o_24_1, .int o_24_2, .ref a_row, .ref a_least, .ref a_values, .int i_tells, .ref a_tellPlace, .ref a_tellHour, .ref a_tellDark, .long j_seed, .ref a_isKept, .ref a_kept])), (a_row, .inl (cI, 16, .inl o_24_3))] H := hP
      refine lv_aload_n hx hb dX8_take_41 rfl (lv_at hl 0 rfl) ?_
      refine va_get (D := D) (ci := 8) (v := .int w_38) (C := RX8) (T := TX8) (N := 26) hx hb hts (fun _ h => List.mem_cons_of_mem _ (List.mem_append_right _ (h))) hown hK hP 0 rfl rfl 8 (by decide) (hts _ (List.mem_of_getElem? (i := 1) rfl)) (fun _ h9 => h9) rfl dX8_take_42 ?_
      obtain ⟨o_45, ho_45⟩ : ∃ z : Int32, z = v_X8_ones w_38 := ⟨_, rfl⟩
      refine callSIs (As := [.int w_38]) (rest := []) o_45 ho_45 hF (k_X8_ones l D cI cZ w_38) (va_cwS 1 hts gX8_take_X8_ones rfl rfl rfl (by decide +kernel) ⟨Nat.le_of_ble_eq_true rfl, Nat.le_of_ble_eq_true rfl⟩) hK hN hP (va_Dsame hD rfl) hS hA [] rfl rfl rfl hl.1 rfl (Nat.le_of_ble_eq_true rfl) dX8_take_45 ⟨Nat.zero_le _, Nat.zero_le _⟩ o_45 rfl rfl (fun H locs hP hS => ?_)
      have e9 : v_X8_take x1 i_hung i_hour i_acts i_next f_row = (o_45, o_24_1, o_24_2, w_38, o_24_3) := by
        refine (bnd_eq ho_1).trans ?_
        refine (if_neg c_4).trans ?_
        refine (bnd_eq ho_14).trans ?_
        refine (if_neg c_17).trans ?_
        refine (bnd3_eq ho_24).trans ?_
        refine (bnd_eq hw_38).trans ?_
        refine (bnd_eq ho_45).trans ?_
        rfl
      rw [hQ]; exact retI (o_45, o_24_1, o_24_2, w_38, o_24_3) hx hb hr hlk e9 hP rfl hS dX8_take_48
    · refine lv_bipush (v := (-3)) hx hb dX8_take_20 rfl ?_
      have e9 : v_X8_take x1 i_hung i_hour i_acts i_next f_row = ((-3), i_acts, i_next, i_hung, f_row) := by
        refine (bnd_eq ho_1).trans ?_
        refine (if_neg c_4).trans ?_
        refine (bnd_eq ho_14).trans ?_
        refine (if_pos c_17).trans ?_
        rfl
      rw [hQ]; exact retI ((-3), i_acts, i_next, i_hung, f_row) hx hb hr hlk e9 hP rfl hS dX8_take_22
  · refine lv_iconst (v := (-1)) hx hb dX8_take_7 rfl ?_
    have e9 : v_X8_take x1 i_hung i_hour i_acts i_next f_row = ((-1), i_acts, i_next, i_hung, f_row) := by
      refine (bnd_eq ho_1).trans ?_
      refine (if_pos c_4).trans ?_
      rfl
    rw [hQ]; exact retI ((-1), i_acts, i_next, i_hung, f_row) hx hb hr hlk e9 hP rfl hS dX8_take_8
def v_X8_moved (x0 : Int32) (x1 : Int32) : Int32 :=
  if x1 = 0 then ((x0 + 6) - (x0 + 6) / 12 * 12)
  else (((x0 / 6) * 6) + ((((x0 - x0 / 6 * 6) + 6) + x1) - (((x0 - x0 / 6 * 6) + 6) + x1) / 6 * 6))
abbrev rm_X8_moved : Room := { frames := 0, cells := 0, slots := 0, locals := 0 }
set_option maxHeartbeats 4000000 in
set_option maxRecDepth 100000 in
theorem k_X8_moved (l : Launch) (D : va_G) (cI cZ : ClassId) (x0 : Int32) (x1 : Int32) : KI l D cI cZ yX8_moved wsX8_moved rm_X8_moved [.int x0, .int x1] [] (v_X8_moved x0 x1) (fun o : Int32 => o) (fun _ : Int32 => []) := by
  refine KI.of cX8_moved 2 (some .int) (by decide) rfl (Nat.le_of_ble_eq_true rfl) ?_
  intro p e s m below meth c A ls ar Q hQ B
  obtain ⟨hx, hb, hr, hml, hts, hown, hlk, hK, hN, hP, hD, hA, hS, hl⟩ := B
  have hown : s.vm.findClass RX8 = some m.cls := hown
  have hF : CallFix p m c cX8_moved 2 s ar wsX8_moved RX8 := ⟨hx, hb, hml, hown, hts⟩
  have hl : lv_has ls 2 [(0, .int x0), (1, .int x1)] := hl
  refine lv_iload_n hx hb dX8_moved_0 rfl (lv_at hl 1 rfl) ?_
  refine lv_if_ne (tgt := 14) hx hb dX8_moved_1 (by decide) (fun c_1 => ?_) (fun c_1 => ?_)
  · refine lv_iload_n hx hb dX8_moved_14 rfl (lv_at hl 0 rfl) ?_
    refine lv_bipush (v := 6) hx hb dX8_moved_15 rfl ?_
    refine lv_idiv hx hb dX8_moved_17 (by decide) ?_
    refine lv_bipush (v := 6) hx hb dX8_moved_18 rfl ?_
    refine lv_imul hx hb dX8_moved_20 ?_
    refine lv_iload_n hx hb dX8_moved_21 rfl (lv_at hl 0 rfl) ?_
    refine lv_bipush (v := 6) hx hb dX8_moved_22 rfl ?_
    refine lv_irem hx hb dX8_moved_24 (by decide) ?_
    refine lv_bipush (v := 6) hx hb dX8_moved_25 rfl ?_
    refine lv_iadd hx hb dX8_moved_27 ?_
    refine lv_iload_n hx hb dX8_moved_28 rfl (lv_at hl 1 rfl) ?_
    refine lv_iadd hx hb dX8_moved_29 ?_
    refine lv_bipush (v := 6) hx hb dX8_moved_30 rfl ?_
    refine lv_irem hx hb dX8_moved_32 (by decide) ?_
    refine lv_iadd hx hb dX8_moved_33 ?_
    have e9 : v_X8_moved x0 x1 = (((x0 / 6) * 6) + ((((x0 - x0 / 6 * 6) + 6) + x1) - (((x0 - x0 / 6 * 6) + 6) + x1) / 6 * 6)) := by
      refine (if_neg c_1).trans ?_
      rfl
    rw [hQ]; exact retI (((x0 / 6) * 6) + ((((x0 - x0 / 6 * 6) + 6) + x1) - (((x0 - x0 / 6 * 6) + 6) + x1) / 6 * 6)) hx hb hr hlk e9 hP rfl hS dX8_moved_34
  · refine lv_iload_n hx hb dX8_moved_4 rfl (lv_at hl 0 rfl) ?_
    refine lv_bipush (v := 6) hx hb dX8_moved_5 rfl ?_
    refine lv_iadd hx hb dX8_moved_7 ?_
    refine lv_bipush (v := 12) hx hb dX8_moved_8 rfl ?_
    refine lv_irem hx hb dX8_moved_10 (by decide) ?_
    refine lv_goto (tgt := 34) hx hb dX8_moved_11 (by decide) ?_
    have e9 : v_X8_moved x0 x1 = ((x0 + 6) - (x0 + 6) / 12 * 12) := by
      refine (if_pos c_1).trans ?_
      rfl
    rw [hQ]; exact retI ((x0 + 6) - (x0 + 6) / 12 * 12) hx hb hr hlk e9 hP rfl hS dX8_moved_34
def v_X8_canMove (x0 : Int32) (x1 : Int32) (x2 : Int32) : Bool :=
  bnd (v_X8_has x0 x1) fun o_2 =>
  (if bI o_2 = 0 then false
  else (bnd (v_X8_moved x1 x2) fun o_11 =>
  (bnd (v_X8_has x0 o_11) fun o_14 =>
  (if bI o_14 = 0 then true
  else false))))
abbrev rm_X8_canMove : Room := { frames := 1, cells := 0, slots := 0, locals := 21 }
set_option maxHeartbeats 4000000 in
set_option maxRecDepth 100000 in
theorem k_X8_canMove (l : Launch) (D : va_G) (cI cZ : ClassId) (x0 : Int32) (x1 : Int32) (x2 : Int32) : KI l D cI cZ yX8_canMove wsX8_canMove rm_X8_canMove [.int x0, .int x1, .int x2] [] (v_X8_canMove x0 x1 x2) (fun o : Bool => bI o) (fun _ : Bool => []) := by
  refine KI.of cX8_canMove 3 (some .boolean) (by decide) rfl (Nat.le_of_ble_eq_true rfl) ?_
  intro p e s m below meth c A ls ar Q hQ B
  obtain ⟨hx, hb, hr, hml, hts, hown, hlk, hK, hN, hP, hD, hA, hS, hl⟩ := B
  have hown : s.vm.findClass RX8 = some m.cls := hown
  have hF : CallFix p m c cX8_canMove 3 s ar wsX8_canMove RX8 := ⟨hx, hb, hml, hown, hts⟩
  have hl : lv_has ls 3 [(0, .int x0), (1, .int x1), (2, .int x2)] := hl
  refine lv_iload_n hx hb dX8_canMove_0 rfl (lv_at hl 0 rfl) ?_
  refine lv_iload_n hx hb dX8_canMove_1 rfl (lv_at hl 1 rfl) ?_
  obtain ⟨o_2, ho_2⟩ : ∃ z : Bool, z = v_X8_has x0 x1 := ⟨_, rfl⟩
  refine callSIs (As := [.int x0, .int x1]) (rest := []) o_2 ho_2 hF (k_X8_has l D cI cZ x0 x1) (va_cwS 2 hts gX8_canMove_X8_has rfl rfl rfl (by decide +kernel) ⟨Nat.le_of_ble_eq_true rfl, Nat.le_of_ble_eq_true rfl⟩) hK hN hP (va_Dsame hD rfl) hS hA [] rfl rfl rfl hl.1 rfl (Nat.le_of_ble_eq_true rfl) dX8_canMove_2 ⟨Nat.zero_le _, Nat.zero_le _⟩ (bI o_2) rfl rfl (fun H locs hP hS => ?_)
  refine lv_if_eq (tgt := 24) hx hb dX8_canMove_5 (by decide) (fun c_5 => ?_) (fun c_5 => ?_)
  · refine lv_iconst (v := 0) hx hb dX8_canMove_24 rfl ?_
    have e9 : v_X8_canMove x0 x1 x2 = false := by
      refine (bnd_eq ho_2).trans ?_
      refine (if_pos c_5).trans ?_
      rfl
    rw [hQ]; exact retZ (v := fun o : Bool => o) false hx hb hr hlk e9 hP rfl hS dX8_canMove_25
  · refine lv_iload_n hx hb dX8_canMove_8 rfl (lv_at hl 0 rfl) ?_
    refine lv_iload_n hx hb dX8_canMove_9 rfl (lv_at hl 1 rfl) ?_
    refine lv_iload_n hx hb dX8_canMove_10 rfl (lv_at hl 2 rfl) ?_
    obtain ⟨o_11, ho_11⟩ : ∃ z : Int32, z = v_X8_moved x1 x2 := ⟨_, rfl⟩
    refine callSIs (As := [.int x1, .int x2]) (rest := [.int x0]) o_11 ho_11 hF (k_X8_moved l D cI cZ x1 x2) (va_cwS 2 hts gX8_canMove_X8_moved rfl rfl rfl (by decide +kernel) ⟨Nat.le_of_ble_eq_true rfl, Nat.le_of_ble_eq_true rfl⟩) hK hN hP (va_Dsame hD rfl) hS hA [] rfl rfl rfl hl.1 rfl (Nat.le_of_ble_eq_true rfl) dX8_canMove_11 ⟨Nat.zero_le _, Nat.zero_le _⟩ o_11 rfl rfl (fun H locs hP hS => ?_)
    obtain ⟨o_14, ho_14⟩ : ∃ z : Bool, z = v_X8_has x0 o_11 := ⟨_, rfl⟩
    refine callSIs (As := [.int x0, .int o_11]) (rest := []) o_14 ho_14 hF (k_X8_has l D cI cZ x0 o_11) (va_cwS 2 hts gX8_canMove_X8_has rfl rfl rfl (by decide +kernel) ⟨Nat.le_of_ble_eq_true rfl, Nat.le_of_ble_eq_true rfl⟩) hK hN hP (va_Dsame hD rfl) hS hA [] rfl rfl rfl hl.1 rfl (Nat.le_of_ble_eq_true rfl) dX8_canMove_14 ⟨Nat.zero_le _, Nat.zero_le _⟩ (bI o_14) rfl rfl (fun H locs hP hS => ?_)
    refine lv_if_ne (tgt := 24) hx hb dX8_canMove_17 (by decide) (fun c_17 => ?_) (fun c_17 => ?_)
    · refine lv_iconst (v := 0) hx hb dX8_canMove_24 rfl ?_
      have e9 : v_X8_canMove x0 x1 x2 = false := by
        refine (bnd_eq ho_2).trans ?_
        refine (if_neg c_5).trans ?_
        refine (bnd_eq ho_11).trans ?_
        refine (bnd_eq ho_14).trans ?_
        refine (if_neg c_17).trans ?_
        rfl
      rw [hQ]; exact retZ (v := fun o : Bool => o) false hx hb hr hlk e9 hP rfl hS dX8_canMove_25
    · refine lv_iconst (v := 1) hx hb dX8_canMove_20 rfl ?_
      refine lv_goto (tgt := 25) hx hb dX8_canMove_21 (by decide) ?_
      have e9 : v_X8_canMove x0 x1 x2 = true := by
        refine (bnd_eq ho_2).trans ?_
        refine (if_neg c_5).trans ?_
        refine (bnd_eq ho_11).trans ?_
        refine (bnd_eq ho_14).trans ?_
        refine (if_pos c_17).trans ?_
        rfl
      rw [hQ]; exact retZ (v := fun o : Bool => o) true hx hb hr hlk e9 hP rfl hS dX8_canMove_25
def v_X8_movedHanging (x0 : Int32) (x1 : Int32) (x2 : Int32) : Int32 :=
  bnd (v_X8_moved x1 x2) fun o_10 =>
  ((x0 &&& (((1 : Int32) <<< (x1 &&& 31)) ^^^ (-1))) ||| ((1 : Int32) <<< (o_10 &&& 31)))
abbrev rm_X8_movedHanging : Room := { frames := 1, cells := 0, slots := 0, locals := 21 }
set_option maxHeartbeats 4000000 in
set_option maxRecDepth 100000 in
theorem k_X8_movedHanging (l : Launch) (D : va_G) (cI cZ : ClassId) (x0 : Int32) (x1 : Int32) (x2 : Int32) : KI l D cI cZ yX8_movedHanging wsX8_movedHanging rm_X8_movedHanging [.int x0, .int x1, .int x2] [] (v_X8_movedHanging x0 x1 x2) (fun o : Int32 => o) (fun _ : Int32 => []) := by
  refine KI.of cX8_movedHanging 3 (some .int) (by decide) rfl (Nat.le_of_ble_eq_true rfl) ?_
  intro p e s m below meth c A ls ar Q hQ B
  obtain ⟨hx, hb, hr, hml, hts, hown, hlk, hK, hN, hP, hD, hA, hS, hl⟩ := B
  have hown : s.vm.findClass RX8 = some m.cls := hown
  have hF : CallFix p m c cX8_movedHanging 3 s ar wsX8_movedHanging RX8 := ⟨hx, hb, hml, hown, hts⟩
  have hl : lv_has ls 3 [(0, .int x0), (1, .int x1), (2, .int x2)] := hl
  refine lv_iload_n hx hb dX8_movedHanging_0 rfl (lv_at hl 0 rfl) ?_
  refine lv_iconst (v := 1) hx hb dX8_movedHanging_1 rfl ?_
  refine lv_iload_n hx hb dX8_movedHanging_2 rfl (lv_at hl 1 rfl) ?_
  refine lv_ishl hx hb dX8_movedHanging_3 ?_
  refine lv_iconst (v := (-1)) hx hb dX8_movedHanging_4 rfl ?_
  refine lv_ixor hx hb dX8_movedHanging_5 ?_
  refine lv_iand hx hb dX8_movedHanging_6 ?_
  refine lv_iconst (v := 1) hx hb dX8_movedHanging_7 rfl ?_
  refine lv_iload_n hx hb dX8_movedHanging_8 rfl (lv_at hl 1 rfl) ?_
  refine lv_iload_n hx hb dX8_movedHanging_9 rfl (lv_at hl 2 rfl) ?_
  obtain ⟨o_10, ho_10⟩ : ∃ z : Int32, z = v_X8_moved x1 x2 := ⟨_, rfl⟩
  refine callSIs (As := [.int x1, .int x2]) (rest := [.int 1, .int (x0 &&& (((1 : Int32) <<< (x1 &&& 31)) ^^^ (-1)))]) o_10 ho_10 hF (k_X8_moved l D cI cZ x1 x2) (va_cwS 2 hts gX8_movedHanging_X8_moved rfl rfl rfl (by decide +kernel) ⟨Nat.le_of_ble_eq_true rfl, Nat.le_of_ble_eq_true rfl⟩) hK hN hP (va_Dsame hD rfl) hS hA [] rfl rfl rfl hl.1 rfl (Nat.le_of_ble_eq_true rfl) dX8_movedHanging_10 ⟨Nat.zero_le _, Nat.zero_le _⟩ o_10 rfl rfl (fun H locs hP hS => ?_)
  refine lv_ishl hx hb dX8_movedHanging_13 ?_
  refine lv_ior hx hb dX8_movedHanging_14 ?_
  have e9 : v_X8_movedHanging x0 x1 x2 = ((x0 &&& (((1 : Int32) <<< (x1 &&& 31)) ^^^ (-1))) ||| ((1 : Int32) <<< (o_10 &&& 31))) := by
    refine (bnd_eq ho_10).trans ?_
    rfl
  rw [hQ]; exact retI ((x0 &&& (((1 : Int32) <<< (x1 &&& 31)) ^^^ (-1))) ||| ((1 : Int32) <<< (o_10 &&& 31))) hx hb hr hlk e9 hP rfl hS dX8_movedHanging_15
def v_X8_move (x1 : Int32) (x2 : Int32) (i_hung : Int32) (i_hour : Int32) (i_acts : Int32) (i_next : Int32) (f_row : Nat → Int32) : Int32 × Int32 × Int32 × Int32 × (Nat → Int32) :=
  bnd (v_X8_isCell x1) fun o_1 =>
  (if bI o_1 = 0 then ((-1), i_acts, i_next, i_hung, f_row)
  else (bnd (v_X8_in x2.toInt64 (-1) 1) fun o_15 =>
  (if bI o_15 = 0 then ((-2), i_acts, i_next, i_hung, f_row)
  else (bnd (v_X8_canMove i_hung x1 x2) fun o_30 =>
  (if bI o_30 = 0 then ((-3), i_acts, i_next, i_hung, f_row)
  else (bnd3 (v_X8_keepAct i_hung i_hour i_acts i_next f_row) fun o_40_1 o_40_2 o_40_3 =>
  (bnd (v_X8_movedHanging i_hung x1 x2) fun o_50 =>
  (bnd (v_X8_moved x1 x2) fun o_58 =>
  (o_58, o_40_1, o_40_2, o_50, o_40_3)))))))))
abbrev rm_X8_move : Room := { frames := 2, cells := 0, slots := 0, locals := 45 }
set_option maxHeartbeats 4000000 in
set_option maxRecDepth 100000 in
theorem k_X8_move (l : Launch) (D : va_G) (cI cZ : ClassId) (a a_readWishes a_readOwed a_told a_owed a_text a_row a_least a_values a_tellPlace a_tellHour a_tellDark a_isKept a_kept : Nat) (x1 : Int32) (x2 : Int32) (i_readHung : Int32) (i_readMany : Int32) (i_readOwes : Int32) (i_wishes : Int32) (i_hung : Int32) (i_hour : Int32) (i_length : Int32) (i_at : Int32) (i_faultAt : Int32) (i_acts : Int32) (i_next : Int32) (i_tells : Int32) (j_seed : Int64) (f_row : Nat → Int32) (hn16 : vp_in i_next 16) : KI l D cI cZ yX8_move wsX8_move rm_X8_move [.ref a, .int x1, .int x2] [(a, .inr (8, [.ref a_readWishes, .ref a_readOwed, .int i_readHung, .int i_readMany, .int i_readOwes, .ref a_told, .ref a_owed, .int i_wishes, .int i_hung, .int i_hour, .ref a_text, .int i_length, .int i_at, .int i_faultAt, .int i_acts, .int i_next, .ref a_row, .ref a_least, .ref a_values, .int i_tells, .ref a_tellPlace, .ref a_tellHour, .ref a_tellDark, .long j_seed, .ref a_isKept, .ref a_kept])), (a_row, .inl (cI, 16, .inl f_row))] (v_X8_move x1 x2 i_hung i_hour i_acts i_next f_row) (fun o : Int32 × Int32 × Int32 × Int32 × (Nat → Int32) => o.1) (fun o : Int32 × Int32 × Int32 × Int32 × (Nat → Int32) => [(a, .inr (8, [.ref a_readWishes, .ref a_readOwed, .int i_readHung, .int i_readMany, .int i_readOwes, .ref a_told, .ref a_owed, .int i_wishes, .int o.2.2.2.1, .int i_hour, .ref a_text, .int i_length, .int i_at, .int i_faultAt, .int o.2.1, .int o.2.2.1, .ref a_row, .ref a_least, .ref a_values, .int i_tells, .ref a_tellPlace, .ref a_tellHour, .ref a_tellDark, .long j_seed, .ref a_isKept, .ref a_kept])), (a_row, .inl (cI, 16, .inl o.2.2.2.2))]) := by
  refine KI.of cX8_move 3 (some .int) (by decide) rfl (Nat.le_of_ble_eq_true rfl) ?_
  intro p e s m below meth c A ls ar Q hQ B
  obtain ⟨hx, hb, hr, hml, hts, hown, hlk, hK, hN, hP, hD, hA, hS, hl⟩ := B
  have hown : s.vm.findClass RX8 = some m.cls := hown
  have hF : CallFix p m c cX8_move 3 s ar wsX8_move RX8 := ⟨hx, hb, hml, hown, hts⟩
  have hl : lv_has ls 3 [(0, .ref a), (1, .int x1), (2, .int x2)] := hl
  refine lv_iload_n hx hb dX8_move_0 rfl (lv_at hl 1 rfl) ?_
  obtain ⟨o_1, ho_1⟩ : ∃ z : Bool, z = v_X8_isCell x1 := ⟨_, rfl⟩
  refine callSIs (As := [.int x1]) (rest := []) o_1 ho_1 hF (k_X8_isCell l D cI cZ x1) (va_cwS 1 hts gX8_move_X8_isCell rfl rfl rfl (by decide +kernel) ⟨Nat.le_of_ble_eq_true rfl, Nat.le_of_ble_eq_true rfl⟩) hK hN hP (va_Dsame hD rfl) hS hA [] rfl rfl rfl hl.1 rfl (Nat.le_of_ble_eq_true rfl) dX8_move_1 ⟨Nat.zero_le _, Nat.zero_le _⟩ (bI o_1) rfl rfl (fun H locs hP hS => ?_)
  refine lv_if_ne (tgt := 9) hx hb dX8_move_4 (by decide) (fun c_4 => ?_) (fun c_4 => ?_)
  · refine lv_iload_n hx hb dX8_move_9 rfl (lv_at hl 2 rfl) ?_
    refine lv_i2l (v := x2.toInt64) hx hb dX8_move_10 rfl ?_
    refine lv_ldc2 (v := (-1)) hx hb hown (hts _ (List.mem_of_getElem? (i := 1) rfl)) dX8_move_11 ?_
    refine lv_lconst (v := 1) hx hb dX8_move_14 rfl ?_
    obtain ⟨o_15, ho_15⟩ : ∃ z : Bool, z = v_X8_in x2.toInt64 (-1) 1 := ⟨_, rfl⟩
    refine callSIs (As := [.long x2.toInt64, .long (-1), .long 1]) (rest := []) o_15 ho_15 hF (k_X8_in l D cI cZ x2.toInt64 (-1) 1) (va_cwS 3 hts gX8_move_X8_in rfl rfl rfl (by decide +kernel) ⟨Nat.le_of_ble_eq_true rfl, Nat.le_of_ble_eq_true rfl⟩) hK hN hP (va_Dsame hD rfl) hS hA [] rfl rfl rfl hl.1 rfl (Nat.le_of_ble_eq_true rfl) dX8_move_15 ⟨Nat.zero_le _, Nat.zero_le _⟩ (bI o_15) rfl rfl (fun H locs hP hS => ?_)
    refine lv_if_ne (tgt := 24) hx hb dX8_move_18 (by decide) (fun c_18 => ?_) (fun c_18 => ?_)
    · refine lv_aload_n hx hb dX8_move_24 rfl (lv_at hl 0 rfl) ?_
      refine va_get (D := D) (ci := 8) (v := .int i_hung) (C := RX8) (T := TX8) (N := 26) hx hb hts (fun _ h => List.mem_cons_of_mem _ (List.mem_append_right _ (h))) hown hK hP 0 rfl rfl 8 (by decide) (hts _ (List.mem_of_getElem? (i := 2) rfl)) (fun _ h9 => h9) rfl dX8_move_25 ?_
      refine lv_iload_n hx hb dX8_move_28 rfl (lv_at hl 1 rfl) ?_
      refine lv_iload_n hx hb dX8_move_29 rfl (lv_at hl 2 rfl) ?_
      obtain ⟨o_30, ho_30⟩ : ∃ z : Bool, z = v_X8_canMove i_hung x1 x2 := ⟨_, rfl⟩
      refine callSIs (As := [.int i_hung, .int x1, .int x2]) (rest := []) o_30 ho_30 hF (k_X8_canMove l D cI cZ i_hung x1 x2) (va_cwS 3 hts gX8_move_X8_canMove rfl rfl rfl (by decide +kernel) ⟨Nat.le_of_ble_eq_true rfl, Nat.le_of_ble_eq_true rfl⟩) hK hN hP (va_Dsame hD rfl) hS hA [] rfl rfl rfl hl.1 rfl (Nat.le_of_ble_eq_true rfl) dX8_move_30 ⟨Nat.zero_le _, Nat.zero_le _⟩ (bI o_30) rfl rfl (fun H locs hP hS => ?_)
      refine lv_if_ne (tgt := 39) hx hb dX8_move_33 (by decide) (fun c_33 => ?_) (fun c_33 => ?_)
      · refine lv_aload_n hx hb dX8_move_39 rfl (lv_at hl 0 rfl) ?_
        obtain ⟨o_40_1, o_40_2, o_40_3, ho_40⟩ := ex3 (v_X8_keepAct i_hung i_hour i_acts i_next f_row)
        refine callVV (As := []) (rest := []) (o_40_1, o_40_2, o_40_3) ho_40 hF (k_X8_keepAct l D cI cZ a a_readWishes a_readOwed a_told a_owed a_text a_row a_least a_values a_tellPlace a_tellHour a_tellDark a_isKept a_kept i_readHung i_readMany i_readOwes i_wishes i_hung i_hour i_length i_at i_faultAt i_acts i_next i_tells j_seed f_row (hn16)) (cwV 0 hts gX8_move_X8_keepAct rfl rfl rfl (by decide +kernel) ⟨Nat.le_of_ble_eq_true rfl, Nat.le_of_ble_eq_true rfl⟩) hK hN hP (va_Dsame hD rfl) hS hA [0, 1] rfl rfl 0 8 (T := TX8) (N := 26) rfl rfl rfl hl.1 rfl (Nat.le_of_ble_eq_true rfl) dX8_move_40 ⟨Nat.zero_le _, Nat.zero_le _⟩ [some 0, some 1] 2 [(a, .inr (8, [.ref a_readWishes, .ref a_readOwed, .int i_readHung, .int i_readMany, .int i_readOwes, .ref a_told, .ref a_owed, .int i_wishes, .int i_hung, .int i_hour, .ref a_text, .int i_length, .int i_at, .int i_faultAt, .int o_40_1, .int o_40_2, .ref a_row, .ref a_least, .ref a_values, .int i_tells, .ref a_tellPlace, .ref a_tellHour, .ref a_tellDark, .long j_seed, .ref a_isKept, .ref a_kept])), (a_row, .inl (cI, 16, .inl o_40_3))] rfl rfl (by decide) (fun H locs hP hS => ?_)
        refine lv_aload_n hx hb dX8_move_43 rfl (lv_at hl 0 rfl) ?_
        refine lv_aload_n hx hb dX8_move_44 rfl (lv_at hl 0 rfl) ?_
        refine va_get (D := D) (ci := 8) (v := .int i_hung) (C := RX8) (T := TX8) (N := 26) hx hb hts (fun _ h => List.mem_cons_of_mem _ (List.mem_append_right _ (h))) hown hK hP 0 rfl rfl 8 (by decide) (hts _ (List.mem_of_getElem? (i := 2) rfl)) (fun _ h9 => h9) rfl dX8_move_45 ?_
        refine lv_iload_n hx hb dX8_move_48 rfl (lv_at hl 1 rfl) ?_
        refine lv_iload_n hx hb dX8_move_49 rfl (lv_at hl 2 rfl) ?_
        obtain ⟨o_50, ho_50⟩ : ∃ z : Int32, z = v_X8_movedHanging i_hung x1 x2 := ⟨_, rfl⟩
        refine callSIs (As := [.int i_hung, .int x1, .int x2]) (rest := [.ref a]) o_50 ho_50 hF (k_X8_movedHanging l D cI cZ i_hung x1 x2) (va_cwS 3 hts gX8_move_X8_movedHanging rfl rfl rfl (by decide +kernel) ⟨Nat.le_of_ble_eq_true rfl, Nat.le_of_ble_eq_true rfl⟩) hK hN hP (va_Dsame hD rfl) hS hA [] rfl rfl rfl hl.1 rfl (Nat.le_of_ble_eq_true rfl) dX8_move_50 ⟨Nat.zero_le _, Nat.zero_le _⟩ o_50 rfl rfl (fun H locs hP hS => ?_)
        refine va_put (D := D) (ci := 8) (v := .int o_50) (ty := .int) (C := RX8) (T := TX8) (N := 26) hx hb hts (fun _ h => List.mem_cons_of_mem _ (List.mem_append_right _ (h))) tyX8 tyX8_ok nmX8 hown hK hP (va_Dsame hD rfl) hS 0 rfl rfl 8 (by decide) (hts _ (List.mem_of_getElem? (i := 2) rfl)) (fun _ h9 => h9) rfl (tyX8_ok 8 (by decide)) rfl rfl (Nat.le_of_ble_eq_true rfl) dX8_move_53 (fun H locs hP _ hS => ?_)
        have hP : va_P D vwCl [(a, .inr (8, [.ref a_readWishes, .ref a_readOwed, .int i_readHung, .int i_readMany, .int i_readOwes, .ref a_told, .ref a_owed, .int i_wishes, .int o_50, .int i_hour, .ref a_text, .int i_length, .int i_at, .int i_faultAt, .int o_40_1, .int o_40_2, .ref a_row, .ref a_least, .ref a_values, .int i_tells, .ref a_tellPlace, .ref a_tellHour, .ref a_tellDark, .long j_seed, .ref a_isKept, .ref a_kept])), (a_row, .inl (cI, 16, .inl o_40_3))] H := hP
        refine lv_iload_n hx hb dX8_move_56 rfl (lv_at hl 1 rfl) ?_
        refine lv_iload_n hx hb dX8_move_57 rfl (lv_at hl 2 rfl) ?_
        obtain ⟨o_58, ho_58⟩ : ∃ z : Int32, z = v_X8_moved x1 x2 := ⟨_, rfl⟩
        refine callSIs (As := [.int x1, .int x2]) (rest := []) o_58 ho_58 hF (k_X8_moved l D cI cZ x1 x2) (va_cwS 2 hts gX8_move_X8_moved rfl rfl rfl (by decide +kernel) ⟨Nat.le_of_ble_eq_true rfl, Nat.le_of_ble_eq_true rfl⟩) hK hN hP (va_Dsame hD rfl) hS hA [] rfl rfl rfl hl.1 rfl (Nat.le_of_ble_eq_true rfl) dX8_move_58 ⟨Nat.zero_le _, Nat.zero_le _⟩ o_58 rfl rfl (fun H locs hP hS => ?_)
        have e9 : v_X8_move x1 x2 i_hung i_hour i_acts i_next f_row = (o_58, o_40_1, o_40_2, o_50, o_40_3) := by
          refine (bnd_eq ho_1).trans ?_
          refine (if_neg c_4).trans ?_
          refine (bnd_eq ho_15).trans ?_
          refine (if_neg c_18).trans ?_
          refine (bnd_eq ho_30).trans ?_
          refine (if_neg c_33).trans ?_
          refine (bnd3_eq ho_40).trans ?_
          refine (bnd_eq ho_50).trans ?_
          refine (bnd_eq ho_58).trans ?_
          rfl
        rw [hQ]; exact retI (o_58, o_40_1, o_40_2, o_50, o_40_3) hx hb hr hlk e9 hP rfl hS dX8_move_61
      · refine lv_bipush (v := (-3)) hx hb dX8_move_36 rfl ?_
        have e9 : v_X8_move x1 x2 i_hung i_hour i_acts i_next f_row = ((-3), i_acts, i_next, i_hung, f_row) := by
          refine (bnd_eq ho_1).trans ?_
          refine (if_neg c_4).trans ?_
          refine (bnd_eq ho_15).trans ?_
          refine (if_neg c_18).trans ?_
          refine (bnd_eq ho_30).trans ?_
          refine (if_pos c_33).trans ?_
          rfl
        rw [hQ]; exact retI ((-3), i_acts, i_next, i_hung, f_row) hx hb hr hlk e9 hP rfl hS dX8_move_38
    · refine lv_bipush (v := (-2)) hx hb dX8_move_21 rfl ?_
      have e9 : v_X8_move x1 x2 i_hung i_hour i_acts i_next f_row = ((-2), i_acts, i_next, i_hung, f_row) := by
        refine (bnd_eq ho_1).trans ?_
        refine (if_neg c_4).trans ?_
        refine (bnd_eq ho_15).trans ?_
        refine (if_pos c_18).trans ?_
        rfl
      rw [hQ]; exact retI ((-2), i_acts, i_next, i_hung, f_row) hx hb hr hlk e9 hP rfl hS dX8_move_23
  · refine lv_iconst (v := (-1)) hx hb dX8_move_7 rfl ?_
    have e9 : v_X8_move x1 x2 i_hung i_hour i_acts i_next f_row = ((-1), i_acts, i_next, i_hung, f_row) := by
      refine (bnd_eq ho_1).trans ?_
      refine (if_pos c_4).trans ?_
      rfl
    rw [hQ]; exact retI ((-1), i_acts, i_next, i_hung, f_row) hx hb hr hlk e9 hP rfl hS dX8_move_8
def v_X8_hour (i_hung : Int32) (i_hour : Int32) (i_acts : Int32) (i_next : Int32) (f_row : Nat → Int32) : Int32 × Int32 × Int32 × Int32 × (Nat → Int32) :=
  bnd3 (v_X8_keepAct i_hung i_hour i_acts i_next f_row) fun o_1_1 o_1_2 o_1_3 =>
  (((i_hour + 1) - (i_hour + 1) / 6 * 6), o_1_1, o_1_2, ((i_hour + 1) - (i_hour + 1) / 6 * 6), o_1_3)
abbrev rm_X8_hour : Room := { frames := 1, cells := 0, slots := 0, locals := 20 }
set_option maxHeartbeats 4000000 in
set_option maxRecDepth 100000 in
theorem k_X8_hour (l : Launch) (D : va_G) (cI cZ : ClassId) (a a_readWishes a_readOwed a_told a_owed a_text a_row a_least a_values a_tellPlace a_tellHour a_tellDark a_isKept a_kept : Nat) (i_readHung : Int32) (i_readMany : Int32) (i_readOwes : Int32) (i_wishes : Int32) (i_hung : Int32) (i_hour : Int32) (i_length : Int32) (i_at : Int32) (i_faultAt : Int32) (i_acts : Int32) (i_next : Int32) (i_tells : Int32) (j_seed : Int64) (f_row : Nat → Int32) (hn16 : vp_in i_next 16) : KI l D cI cZ yX8_hour wsX8_hour rm_X8_hour [.ref a] [(a, .inr (8, [.ref a_readWishes, .ref a_readOwed, .int i_readHung, .int i_readMany, .int i_readOwes, .ref a_told, .ref a_owed, .int i_wishes, .int i_hung, .int i_hour, .ref a_text, .int i_length, .int i_at, .int i_faultAt, .int i_acts, .int i_next, .ref a_row, .ref a_least, .ref a_values, .int i_tells, .ref a_tellPlace, .ref a_tellHour, .ref a_tellDark, .long j_seed, .ref a_isKept, .ref a_kept])), (a_row, .inl (cI, 16, .inl f_row))] (v_X8_hour i_hung i_hour i_acts i_next f_row) (fun o : Int32 × Int32 × Int32 × Int32 × (Nat → Int32) => o.1) (fun o : Int32 × Int32 × Int32 × Int32 × (Nat → Int32) => [(a, .inr (8, [.ref a_readWishes, .ref a_readOwed, .int i_readHung, .int i_readMany, .int i_readOwes, .ref a_told, .ref a_owed, .int i_wishes, .int i_hung, .int o.2.2.2.1, .ref a_text, .int i_length, .int i_at, .int i_faultAt, .int o.2.1, .int o.2.2.1, .ref a_row, .ref a_least, .ref a_values, .int i_tells, .ref a_tellPlace, .ref a_tellHour, .ref a_tellDark, .long j_seed, .ref a_isKept, .ref a_kept])), (a_row, .inl (cI, 16, .inl o.2.2.2.2))]) := by
  refine KI.of cX8_hour 1 (some .int) (by decide) rfl (Nat.le_of_ble_eq_true rfl) ?_
  intro p e s m below meth c A ls ar Q hQ B
  obtain ⟨hx, hb, hr, hml, hts, hown, hlk, hK, hN, hP, hD, hA, hS, hl⟩ := B
  have hown : s.vm.findClass RX8 = some m.cls := hown
  have hF : CallFix p m c cX8_hour 1 s ar wsX8_hour RX8 := ⟨hx, hb, hml, hown, hts⟩
  have hl : lv_has ls 1 [(0, .ref a)] := hl
  refine lv_aload_n hx hb dX8_hour_0 rfl (lv_at hl 0 rfl) ?_
  obtain ⟨o_1_1, o_1_2, o_1_3, ho_1⟩ := ex3 (v_X8_keepAct i_hung i_hour i_acts i_next f_row)
  refine callVV (As := []) (rest := []) (o_1_1, o_1_2, o_1_3) ho_1 hF (k_X8_keepAct l D cI cZ a a_readWishes a_readOwed a_told a_owed a_text a_row a_least a_values a_tellPlace a_tellHour a_tellDark a_isKept a_kept i_readHung i_readMany i_readOwes i_wishes i_hung i_hour i_length i_at i_faultAt i_acts i_next i_tells j_seed f_row (hn16)) (cwV 0 hts gX8_hour_X8_keepAct rfl rfl rfl (by decide +kernel) ⟨Nat.le_of_ble_eq_true rfl, Nat.le_of_ble_eq_true rfl⟩) hK hN hP (va_Dsame hD rfl) hS hA [0, 1] rfl rfl 0 8 (T := TX8) (N := 26) rfl rfl rfl hl.1 rfl (Nat.le_of_ble_eq_true rfl) dX8_hour_1 ⟨Nat.zero_le _, Nat.zero_le _⟩ [some 0, some 1] 2 [(a, .inr (8, [.ref a_readWishes, .ref a_readOwed, .int i_readHung, .int i_readMany, .int i_readOwes, .ref a_told, .ref a_owed, .int i_wishes, .int i_hung, .int i_hour, .ref a_text, .int i_length, .int i_at, .int i_faultAt, .int o_1_1, .int o_1_2, .ref a_row, .ref a_least, .ref a_values, .int i_tells, .ref a_tellPlace, .ref a_tellHour, .ref a_tellDark, .long j_seed, .ref a_isKept, .ref a_kept])), (a_row, .inl (cI, 16, .inl o_1_3))] rfl rfl (by decide) (fun H locs hP hS => ?_)
  refine lv_aload_n hx hb dX8_hour_4 rfl (lv_at hl 0 rfl) ?_
  refine lv_aload_n hx hb dX8_hour_5 rfl (lv_at hl 0 rfl) ?_
  refine va_get (D := D) (ci := 8) (v := .int i_hour) (C := RX8) (T := TX8) (N := 26) hx hb hts (fun _ h => List.mem_cons_of_mem _ (List.mem_append_right _ (h))) hown hK hP 0 rfl rfl 9 (by decide) (hts _ (List.mem_of_getElem? (i := 1) rfl)) (fun _ h9 => h9) rfl dX8_hour_6 ?_
  refine lv_iconst (v := 1) hx hb dX8_hour_9 rfl ?_
  refine lv_iadd hx hb dX8_hour_10 ?_
  refine lv_bipush (v := 6) hx hb dX8_hour_11 rfl ?_
  refine lv_irem hx hb dX8_hour_13 (by decide) ?_
  refine va_put (D := D) (ci := 8) (v := .int ((i_hour + 1) - (i_hour + 1) / 6 * 6)) (ty := .int) (C := RX8) (T := TX8) (N := 26) hx hb hts (fun _ h => List.mem_cons_of_mem _ (List.mem_append_right _ (h))) tyX8 tyX8_ok nmX8 hown hK hP (va_Dsame hD rfl) hS 0 rfl rfl 9 (by decide) (hts _ (List.mem_of_getElem? (i := 1) rfl)) (fun _ h9 => h9) rfl (tyX8_ok 9 (by decide)) rfl rfl (Nat.le_of_ble_eq_true rfl) dX8_hour_14 (fun H locs hP _ hS => ?_)
  have hP : va_P D vwCl [(a, .inr (8, [.ref a_readWishes, .ref a_readOwed, .int i_readHung, .int i_readMany, .int i_readOwes, .ref a_told, .ref a_owed, .int i_wishes, .int i_hung, .int ((i_hour + 1) - (i_hour + 1) / 6 * 6), .ref a_text, .int i_length, .int i_at, .int i_faultAt, .int o_1_1, .int o_1_2, .ref a_row, .ref a_least, .ref a_values, .int i_tells, .ref a_tellPlace, .ref a_tellHour, .ref a_tellDark, .long j_seed, .ref a_isKept, .ref a_kept])), (a_row, .inl (cI, 16, .inl o_1_3))] H := hP
  refine lv_aload_n hx hb dX8_hour_17 rfl (lv_at hl 0 rfl) ?_
  refine va_get (D := D) (ci := 8) (v := .int ((i_hour + 1) - (i_hour + 1) / 6 * 6)) (C := RX8) (T := TX8) (N := 26) hx hb hts (fun _ h => List.mem_cons_of_mem _ (List.mem_append_right _ (h))) hown hK hP 0 rfl rfl 9 (by decide) (hts _ (List.mem_of_getElem? (i := 1) rfl)) (fun _ h9 => h9) rfl dX8_hour_18 ?_
  have e9 : v_X8_hour i_hung i_hour i_acts i_next f_row = (((i_hour + 1) - (i_hour + 1) / 6 * 6), o_1_1, o_1_2, ((i_hour + 1) - (i_hour + 1) / 6 * 6), o_1_3) := by
    refine (bnd3_eq ho_1).trans ?_
    rfl
  rw [hQ]; exact retI (((i_hour + 1) - (i_hour + 1) / 6 * 6), o_1_1, o_1_2, ((i_hour + 1) - (i_hour + 1) / 6 * 6), o_1_3) hx hb hr hlk e9 hP rfl hS dX8_hour_21
def v_X8_undo (i_hung : Int32) (i_hour : Int32) (i_acts : Int32) (i_next : Int32) (f_row : Nat → Int32) : Int32 × Int32 × Int32 × Int32 × Int32 :=
  if i_acts = 0 then ((-3), i_hung, i_hour, i_acts, i_next)
  else (bnd (((f_row ((i_next + 15) - (i_next + 15) / 16 * 16).toNatClampNeg) - (f_row ((i_next + 15) - (i_next + 15) / 16 * 16).toNatClampNeg) / 4096 * 4096)) fun w_48 =>
  (bnd (((f_row ((i_next + 15) - (i_next + 15) / 16 * 16).toNatClampNeg) / 4096)) fun w_65 =>
  ((i_acts - 1), w_48, w_65, (i_acts - 1), ((i_next + 15) - (i_next + 15) / 16 * 16))))
abbrev rm_X8_undo : Room := { frames := 0, cells := 0, slots := 0, locals := 0 }
set_option maxHeartbeats 4000000 in
set_option maxRecDepth 100000 in
theorem k_X8_undo (l : Launch) (D : va_G) (cI cZ : ClassId) (a a_readWishes a_readOwed a_told a_owed a_text a_row a_least a_values a_tellPlace a_tellHour a_tellDark a_isKept a_kept : Nat) (i_readHung : Int32) (i_readMany : Int32) (i_readOwes : Int32) (i_wishes : Int32) (i_hung : Int32) (i_hour : Int32) (i_length : Int32) (i_at : Int32) (i_faultAt : Int32) (i_acts : Int32) (i_next : Int32) (i_tells : Int32) (j_seed : Int64) (f_row : Nat → Int32) (hn16 : vp_in i_next 16) : KI l D cI cZ yX8_undo wsX8_undo rm_X8_undo [.ref a] [(a, .inr (8, [.ref a_readWishes, .ref a_readOwed, .int i_readHung, .int i_readMany, .int i_readOwes, .ref a_told, .ref a_owed, .int i_wishes, .int i_hung, .int i_hour, .ref a_text, .int i_length, .int i_at, .int i_faultAt, .int i_acts, .int i_next, .ref a_row, .ref a_least, .ref a_values, .int i_tells, .ref a_tellPlace, .ref a_tellHour, .ref a_tellDark, .long j_seed, .ref a_isKept, .ref a_kept])), (a_row, .inl (cI, 16, .inl f_row))] (v_X8_undo i_hung i_hour i_acts i_next f_row) (fun o : Int32 × Int32 × Int32 × Int32 × Int32 => o.1) (fun o : Int32 × Int32 × Int32 × Int32 × Int32 => [(a, .inr (8, [.ref a_readWishes, .ref a_readOwed, .int i_readHung, .int i_readMany, .int i_readOwes, .ref a_told, .ref a_owed, .int i_wishes, .int o.2.1, .int o.2.2.1, .ref a_text, .int i_length, .int i_at, .int i_faultAt, .int o.2.2.2.1, .int o.2.2.2.2, .ref a_row, .ref a_least, .ref a_values, .int i_tells, .ref a_tellPlace, .ref a_tellHour, .ref a_tellDark, .long j_seed, .ref a_isKept, .ref a_kept])), (a_row, .inl (cI, 16, .inl f_row))]) := by
  refine KI.of cX8_undo 1 (some .int) (by decide) rfl (Nat.le_of_ble_eq_true rfl) ?_
  intro p e s m below meth c A ls ar Q hQ B
  obtain ⟨hx, hb, hr, hml, hts, hown, hlk, hK, hN, hP, hD, hA, hS, hl⟩ := B
  have hown : s.vm.findClass RX8 = some m.cls := hown
  have hF : CallFix p m c cX8_undo 1 s ar wsX8_undo RX8 := ⟨hx, hb, hml, hown, hts⟩
  have hl : lv_has ls 1 [(0, .ref a)] := hl
  refine lv_aload_n hx hb dX8_undo_0 rfl (lv_at hl 0 rfl) ?_
  refine va_get (D := D) (ci := 8) (v := .int i_acts) (C := RX8) (T := TX8) (N := 26) hx hb hts (fun _ h => List.mem_cons_of_mem _ (List.mem_append_right _ (h))) hown hK hP 0 rfl rfl 14 (by decide) (hts _ (List.mem_of_getElem? (i := 1) rfl)) (fun _ h9 => h9) rfl dX8_undo_1 ?_
  refine lv_if_ne (tgt := 10) hx hb dX8_undo_4 (by decide) (fun c_4 => ?_) (fun c_4 => ?_)
  · refine lv_aload_n hx hb dX8_undo_10 rfl (lv_at hl 0 rfl) ?_
    refine lv_dup hx hb dX8_undo_11 rfl ?_
    refine va_get (D := D) (ci := 8) (v := .int i_acts) (C := RX8) (T := TX8) (N := 26) hx hb hts (fun _ h => List.mem_cons_of_mem _ (List.mem_append_right _ (h))) hown hK hP 0 rfl rfl 14 (by decide) (hts _ (List.mem_of_getElem? (i := 1) rfl)) (fun _ h9 => h9) rfl dX8_undo_12 ?_
    refine lv_iconst (v := 1) hx hb dX8_undo_15 rfl ?_
    refine lv_isub hx hb dX8_undo_16 ?_
    refine va_put (D := D) (ci := 8) (v := .int (i_acts - 1)) (ty := .int) (C := RX8) (T := TX8) (N := 26) hx hb hts (fun _ h => List.mem_cons_of_mem _ (List.mem_append_right _ (h))) tyX8 tyX8_ok nmX8 hown hK hP (va_Dsame hD rfl) hS 0 rfl rfl 14 (by decide) (hts _ (List.mem_of_getElem? (i := 1) rfl)) (fun _ h9 => h9) rfl (tyX8_ok 14 (by decide)) rfl rfl (Nat.le_of_ble_eq_true rfl) dX8_undo_17 (fun H locs hP _ hS => ?_)
    have hP : va_P D vwCl [(a, .inr (8, [.ref a_readWishes, .ref a_readOwed, .int i_readHung, .int i_readMany, .int i_readOwes, .ref a_told, .ref a_owed, .int i_wishes, .int i_hung, .int i_hour, .ref a_text, .int i_length, .int i_at, .int i_faultAt, .int (i_acts - 1), .int i_next, .ref a_row, .ref a_least, .ref a_values, .int i_tells, .ref a_tellPlace, .ref a_tellHour, .ref a_tellDark, .long j_seed, .ref a_isKept, .ref a_kept])), (a_row, .inl (cI, 16, .inl f_row))] H := hP
    refine lv_aload_n hx hb dX8_undo_20 rfl (lv_at hl 0 rfl) ?_
    refine lv_aload_n hx hb dX8_undo_21 rfl (lv_at hl 0 rfl) ?_
    refine va_get (D := D) (ci := 8) (v := .int i_next) (C := RX8) (T := TX8) (N := 26) hx hb hts (fun _ h => List.mem_cons_of_mem _ (List.mem_append_right _ (h))) hown hK hP 0 rfl rfl 15 (by decide) (hts _ (List.mem_of_getElem? (i := 2) rfl)) (fun _ h9 => h9) rfl dX8_undo_22 ?_
    refine lv_bipush (v := 15) hx hb dX8_undo_25 rfl ?_
    refine lv_iadd hx hb dX8_undo_27 ?_
    refine lv_bipush (v := 16) hx hb dX8_undo_28 rfl ?_
    refine lv_irem hx hb dX8_undo_30 (by decide) ?_
    refine va_put (D := D) (ci := 8) (v := .int ((i_next + 15) - (i_next + 15) / 16 * 16)) (ty := .int) (C := RX8) (T := TX8) (N := 26) hx hb hts (fun _ h => List.mem_cons_of_mem _ (List.mem_append_right _ (h))) tyX8 tyX8_ok nmX8 hown hK hP (va_Dsame hD rfl) hS 0 rfl rfl 15 (by decide) (hts _ (List.mem_of_getElem? (i := 2) rfl)) (fun _ h9 => h9) rfl (tyX8_ok 15 (by decide)) rfl rfl (Nat.le_of_ble_eq_true rfl) dX8_undo_31 (fun H locs hP _ hS => ?_)
    have hP : va_P D vwCl [(a, .inr (8, [.ref a_readWishes, .ref a_readOwed, .int i_readHung, .int i_readMany, .int i_readOwes, .ref a_told, .ref a_owed, .int i_wishes, .int i_hung, .int i_hour, .ref a_text, .int i_length, .int i_at, .int i_faultAt, .int (i_acts - 1), .int ((i_next + 15) - (i_next + 15) / 16 * 16), .ref a_row, .ref a_least, .ref a_values, .int i_tells, .ref a_tellPlace, .ref a_tellHour, .ref a_tellDark, .long j_seed, .ref a_isKept, .ref a_kept])), (a_row, .inl (cI, 16, .inl f_row))] H := hP
    refine lv_aload_n hx hb dX8_undo_34 rfl (lv_at hl 0 rfl) ?_
    refine lv_aload_n hx hb dX8_undo_35 rfl (lv_at hl 0 rfl) ?_
    refine va_get (D := D) (ci := 8) (v := .ref a_row) (C := RX8) (T := TX8) (N := 26) hx hb hts (fun _ h => List.mem_cons_of_mem _ (List.mem_append_right _ (h))) hown hK hP 0 rfl rfl 16 (by decide) (hts _ (List.mem_of_getElem? (i := 3) rfl)) (fun _ h9 => h9) rfl dX8_undo_36 ?_
    refine lv_aload_n hx hb dX8_undo_39 rfl (lv_at hl 0 rfl) ?_
    refine va_get (D := D) (ci := 8) (v := .int ((i_next + 15) - (i_next + 15) / 16 * 16)) (C := RX8) (T := TX8) (N := 26) hx hb hts (fun _ h => List.mem_cons_of_mem _ (List.mem_append_right _ (h))) hown hK hP 0 rfl rfl 15 (by decide) (hts _ (List.mem_of_getElem? (i := 2) rfl)) (fun _ h9 => h9) rfl dX8_undo_40 ?_
    refine va_iald hx hb hK hP 1 0 rfl rfl (next15 hn16) dX8_undo_43 ?_
    refine lv_sipush (v := 4096) hx hb dX8_undo_44 rfl ?_
    refine lv_irem hx hb dX8_undo_47 (by decide) ?_
    refine lv_topi (fun w_48 hw_48 => ?_)
    refine va_put (D := D) (ci := 8) (v := .int w_48) (ty := .int) (C := RX8) (T := TX8) (N := 26) hx hb hts (fun _ h => List.mem_cons_of_mem _ (List.mem_append_right _ (h))) tyX8 tyX8_ok nmX8 hown hK hP (va_Dsame hD rfl) hS 0 rfl rfl 8 (by decide) (hts _ (List.mem_of_getElem? (i := 4) rfl)) (fun _ h9 => h9) rfl (tyX8_ok 8 (by decide)) rfl rfl (Nat.le_of_ble_eq_true rfl) dX8_undo_48 (fun H locs hP _ hS => ?_)
    have hP : va_P D vwCl [(a, .inr (8, [.ref a_readWishes, .ref a_readOwed, .int i_readHung, .int i_readMany, .int i_readOwes, .ref a_told, .ref a_owed, .int i_wishes, .int w_48, .int i_hour, .ref a_text, .int i_length, .int i_at, .int i_faultAt, .int (i_acts - 1), .int ((i_next + 15) - (i_next + 15) / 16 * 16), .ref a_row, .ref a_least, .ref a_values, .int i_tells, .ref a_tellPlace, .ref a_tellHour, .ref a_tellDark, .long j_seed, .ref a_isKept, .ref a_kept])), (a_row, .inl (cI, 16, .inl f_row))] H := hP
    refine lv_aload_n hx hb dX8_undo_51 rfl (lv_at hl 0 rfl) ?_
    refine lv_aload_n hx hb dX8_undo_52 rfl (lv_at hl 0 rfl) ?_
    refine va_get (D := D) (ci := 8) (v := .ref a_row) (C := RX8) (T := TX8) (N := 26) hx hb hts (fun _ h => List.mem_cons_of_mem _ (List.mem_append_right _ (h))) hown hK hP 0 rfl rfl 16 (by decide) (hts _ (List.mem_of_getElem? (i := 3) rfl)) (fun _ h9 => h9) rfl dX8_undo_53 ?_
    refine lv_aload_n hx hb dX8_undo_56 rfl (lv_at hl 0 rfl) ?_
    refine va_get (D := D) (ci := 8) (v := .int ((i_next + 15) - (i_next + 15) / 16 * 16)) (C := RX8) (T := TX8) (N := 26) hx hb hts (fun _ h => List.mem_cons_of_mem _ (List.mem_append_right _ (h))) hown hK hP 0 rfl rfl 15 (by decide) (hts _ (List.mem_of_getElem? (i := 2) rfl)) (fun _ h9 => h9) rfl dX8_undo_57 ?_
    refine va_iald hx hb hK hP 1 0 rfl rfl (next15 hn16) dX8_undo_60 ?_
    refine lv_sipush (v := 4096) hx hb dX8_undo_61 rfl ?_
    refine lv_idiv hx hb dX8_undo_64 (by decide) ?_
    refine lv_topi (fun w_65 hw_65 => ?_)
    refine va_put (D := D) (ci := 8) (v := .int w_65) (ty := .int) (C := RX8) (T := TX8) (N := 26) hx hb hts (fun _ h => List.mem_cons_of_mem _ (List.mem_append_right _ (h))) tyX8 tyX8_ok nmX8 hown hK hP (va_Dsame hD rfl) hS 0 rfl rfl 9 (by decide) (hts _ (List.mem_of_getElem? (i := 5) rfl)) (fun _ h9 => h9) rfl (tyX8_ok 9 (by decide)) rfl rfl (Nat.le_of_ble_eq_true rfl) dX8_undo_65 (fun H locs hP _ hS => ?_)
    have hP : va_P D vwCl [(a, .inr (8, [.ref a_readWishes, .ref a_readOwed, .int i_readHung, .int i_readMany, .int i_readOwes, .ref a_told, .ref a_owed, .int i_wishes, .int w_48, .int w_65, .ref a_text, .int i_length, .int i_at, .int i_faultAt, .int (i_acts - 1), .int ((i_next + 15) - (i_next + 15) / 16 * 16), .ref a_row, .ref a_least, .ref a_values, .int i_tells, .ref a_tellPlace, .ref a_tellHour, .ref a_tellDark, .long j_seed, .ref a_isKept, .ref a_kept])), (a_row, .inl (cI, 16, .inl f_row))] H := hP
    refine lv_aload_n hx hb dX8_undo_68 rfl (lv_at hl 0 rfl) ?_
    refine va_get (D := D) (ci := 8) (v := .int (i_acts - 1)) (C := RX8) (T := TX8) (N := 26) hx hb hts (fun _ h => List.mem_cons_of_mem _ (List.mem_append_right _ (h))) hown hK hP 0 rfl rfl 14 (by decide) (hts _ (List.mem_of_getElem? (i := 1) rfl)) (fun _ h9 => h9) rfl dX8_undo_69 ?_
    have e9 : v_X8_undo i_hung i_hour i_acts i_next f_row = ((i_acts - 1), w_48, w_65, (i_acts - 1), ((i_next + 15) - (i_next + 15) / 16 * 16)) := by
      refine (if_neg c_4).trans ?_
      refine (bnd_eq hw_48).trans ?_
      refine (bnd_eq hw_65).trans ?_
      rfl
    rw [hQ]; exact retI ((i_acts - 1), w_48, w_65, (i_acts - 1), ((i_next + 15) - (i_next + 15) / 16 * 16)) hx hb hr hlk e9 hP rfl hS dX8_undo_72
  · refine lv_bipush (v := (-3)) hx hb dX8_undo_7 rfl ?_
    have e9 : v_X8_undo i_hung i_hour i_acts i_next f_row = ((-3), i_hung, i_hour, i_acts, i_next) := by
      refine (if_pos c_4).trans ?_
      rfl
    rw [hQ]; exact retI ((-3), i_hung, i_hour, i_acts, i_next) hx hb hr hlk e9 hP rfl hS dX8_undo_9
def v_X8_how (x0 : Int32) : Int32 :=
  if x0 = 0 then 1
  else (if x0 = 1 then (-1)
  else 0)
abbrev rm_X8_how : Room := { frames := 0, cells := 0, slots := 0, locals := 0 }
set_option maxHeartbeats 4000000 in
set_option maxRecDepth 100000 in
theorem k_X8_how (l : Launch) (D : va_G) (cI cZ : ClassId) (x0 : Int32) : KI l D cI cZ yX8_how wsX8_how rm_X8_how [.int x0] [] (v_X8_how x0) (fun o : Int32 => o) (fun _ : Int32 => []) := by
  refine KI.of cX8_how 1 (some .int) (by decide) rfl (Nat.le_of_ble_eq_true rfl) ?_
  intro p e s m below meth c A ls ar Q hQ B
  obtain ⟨hx, hb, hr, hml, hts, hown, hlk, hK, hN, hP, hD, hA, hS, hl⟩ := B
  have hown : s.vm.findClass RX8 = some m.cls := hown
  have hF : CallFix p m c cX8_how 1 s ar wsX8_how RX8 := ⟨hx, hb, hml, hown, hts⟩
  have hl : lv_has ls 1 [(0, .int x0)] := hl
  refine lv_iload_n hx hb dX8_how_0 rfl (lv_at hl 0 rfl) ?_
  refine lv_if_ne (tgt := 8) hx hb dX8_how_1 (by decide) (fun c_1 => ?_) (fun c_1 => ?_)
  · refine lv_iload_n hx hb dX8_how_8 rfl (lv_at hl 0 rfl) ?_
    refine lv_iconst (v := 1) hx hb dX8_how_9 rfl ?_
    refine lv_icmp_ne (tgt := 17) hx hb dX8_how_10 (by decide) (fun c_10 => ?_) (fun c_10 => ?_)
    · refine lv_iconst (v := 0) hx hb dX8_how_17 rfl ?_
      have e9 : v_X8_how x0 = 0 := by
        refine (if_neg c_1).trans ?_
        refine (if_neg c_10).trans ?_
        rfl
      rw [hQ]; exact retI 0 hx hb hr hlk e9 hP rfl hS dX8_how_18
    · refine lv_iconst (v := (-1)) hx hb dX8_how_13 rfl ?_
      refine lv_goto (tgt := 18) hx hb dX8_how_14 (by decide) ?_
      have e9 : v_X8_how x0 = (-1) := by
        refine (if_neg c_1).trans ?_
        refine (if_pos c_10).trans ?_
        rfl
      rw [hQ]; exact retI (-1) hx hb hr hlk e9 hP rfl hS dX8_how_18
  · refine lv_iconst (v := 1) hx hb dX8_how_4 rfl ?_
    refine lv_goto (tgt := 18) hx hb dX8_how_5 (by decide) ?_
    have e9 : v_X8_how x0 = 1 := by
      refine (if_pos c_1).trans ?_
      rfl
    rw [hQ]; exact retI 1 hx hb hr hlk e9 hP rfl hS dX8_how_18
def v_X8_judge_L46 (x1 : Int32) (x2 : Int32) (i46 : Nat) (z46 : Int32) : Sum (Int32) (Int32) :=
  if nI i46 = (x1 - 1) then (bnd (v_X8_isCell ((x2 - x2 / 1000 * 1000) / 10)) fun o_84 =>
    (if bI o_84 = 0 then .inr (nI i46)
    else (if 2 < ((x2 - x2 / 1000 * 1000) - (x2 - x2 / 1000 * 1000) / 10 * 10) then .inr (nI i46)
    else (bnd (v_X8_how ((x2 - x2 / 1000 * 1000) - (x2 - x2 / 1000 * 1000) / 10 * 10)) fun o_107 =>
    (bnd (v_X8_canMove z46 ((x2 - x2 / 1000 * 1000) / 10) o_107) fun o_110 =>
    (if bI o_110 = 0 then .inr (nI i46)
    else (bnd (v_X8_how ((x2 - x2 / 1000 * 1000) - (x2 - x2 / 1000 * 1000) / 10 * 10)) fun o_127 =>
    (bnd (v_X8_movedHanging z46 ((x2 - x2 / 1000 * 1000) / 10) o_127) fun o_130 =>
    .inl o_130))))))))
  else (bnd (v_X8_isCell ((x2 / 1000) / 10)) fun o_84 =>
  (if bI o_84 = 0 then .inr (nI i46)
  else (if 2 < ((x2 / 1000) - (x2 / 1000) / 10 * 10) then .inr (nI i46)
  else (bnd (v_X8_how ((x2 / 1000) - (x2 / 1000) / 10 * 10)) fun o_107 =>
  (bnd (v_X8_canMove z46 ((x2 / 1000) / 10) o_107) fun o_110 =>
  (if bI o_110 = 0 then .inr (nI i46)
  else (bnd (v_X8_how ((x2 / 1000) - (x2 / 1000) / 10 * 10)) fun o_127 =>
  (bnd (v_X8_movedHanging z46 ((x2 / 1000) / 10) o_127) fun o_130 =>
  .inl o_130))))))))
def v_X8_judge (x1 : Int32) (x2 : Int32) (i_hung : Int32) : Int32 :=
  bnd (v_X8_in x1.toInt64 1 2) fun o_6 =>
  (if bI o_6 = 0 then (-2)
  else (if x1 = 1 then (bnd (v_X8_in x2.toInt64 0 999) fun o_29 =>
    (if bI o_29 = 0 then (-2)
    else (mch (itx (v_X8_judge_L46 x1 x2) x1.toNatClampNeg 0 i_hung) fun s46 =>
    (-9))))
  else (bnd (v_X8_in x2.toInt64 0 999999) fun o_29 =>
  (if bI o_29 = 0 then (-2)
  else (mch (itx (v_X8_judge_L46 x1 x2) x1.toNatClampNeg 0 i_hung) fun s46 =>
  (-9))))))
abbrev rm_X8_judge : Room := { frames := 2, cells := 0, slots := 0, locals := 45 }
set_option maxHeartbeats 4000000 in
set_option maxRecDepth 100000 in
theorem k_X8_judge (l : Launch) (D : va_G) (cI cZ : ClassId) (a a_readWishes a_readOwed a_told a_owed a_text a_row a_least a_values a_tellPlace a_tellHour a_tellDark a_isKept a_kept : Nat) (x1 : Int32) (x2 : Int32) (i_readHung : Int32) (i_readMany : Int32) (i_readOwes : Int32) (i_wishes : Int32) (i_hung : Int32) (i_hour : Int32) (i_length : Int32) (i_at : Int32) (i_faultAt : Int32) (i_acts : Int32) (i_next : Int32) (i_tells : Int32) (j_seed : Int64) : KI l D cI cZ yX8_judge wsX8_judge rm_X8_judge [.ref a, .int x1, .int x2] [(a, .inr (8, [.ref a_readWishes, .ref a_readOwed, .int i_readHung, .int i_readMany, .int i_readOwes, .ref a_told, .ref a_owed, .int i_wishes, .int i_hung, .int i_hour, .ref a_text, .int i_length, .int i_at, .int i_faultAt, .int i_acts, .int i_next, .ref a_row, .ref a_least, .ref a_values, .int i_tells, .ref a_tellPlace, .ref a_tellHour, .ref a_tellDark, .long j_seed, .ref a_isKept, .ref a_kept]))] (v_X8_judge x1 x2 i_hung) (fun o : Int32 => o) (fun _ : Int32 => [(a, .inr (8, [.ref a_readWishes, .ref a_readOwed, .int i_readHung, .int i_readMany, .int i_readOwes, .ref a_told, .ref a_owed, .int i_wishes, .int i_hung, .int i_hour, .ref a_text, .int i_length, .int i_at, .int i_faultAt, .int i_acts, .int i_next, .ref a_row, .ref a_least, .ref a_values, .int i_tells, .ref a_tellPlace, .ref a_tellHour, .ref a_tellDark, .long j_seed, .ref a_isKept, .ref a_kept]))]) := by
  refine KI.of cX8_judge 7 (some .int) (by decide) rfl (Nat.le_of_ble_eq_true rfl) ?_
  intro p e s m below meth c A ls ar Q hQ B
  obtain ⟨hx, hb, hr, hml, hts, hown, hlk, hK, hN, hP, hD, hA, hS, hl⟩ := B
  have hown : s.vm.findClass RX8 = some m.cls := hown
  have hF : CallFix p m c cX8_judge 7 s ar wsX8_judge RX8 := ⟨hx, hb, hml, hown, hts⟩
  have hl : lv_has ls 7 [(0, .ref a), (1, .int x1), (2, .int x2)] := hl
  refine lv_iload_n hx hb dX8_judge_0 rfl (lv_at hl 1 rfl) ?_
  refine lv_i2l (v := x1.toInt64) hx hb dX8_judge_1 rfl ?_
  refine lv_lconst (v := 1) hx hb dX8_judge_2 rfl ?_
  refine lv_ldc2 (v := 2) hx hb hown (hts _ (List.mem_of_getElem? (i := 1) rfl)) dX8_judge_3 ?_
  obtain ⟨o_6, ho_6⟩ : ∃ z : Bool, z = v_X8_in x1.toInt64 1 2 := ⟨_, rfl⟩
  refine callSIs (As := [.long x1.toInt64, .long 1, .long 2]) (rest := []) o_6 ho_6 hF (k_X8_in l D cI cZ x1.toInt64 1 2) (va_cwS 3 hts gX8_judge_X8_in rfl rfl rfl (by decide +kernel) ⟨Nat.le_of_ble_eq_true rfl, Nat.le_of_ble_eq_true rfl⟩) hK hN hP (va_Dsame hD rfl) hS hA [] rfl rfl rfl hl.1 rfl (Nat.le_of_ble_eq_true rfl) dX8_judge_6 ⟨Nat.zero_le _, Nat.zero_le _⟩ (bI o_6) rfl rfl (fun H locs hP hS => ?_)
  refine lv_if_eq (tgt := 35) hx hb dX8_judge_9 (by decide) (fun c_9 => ?_) (fun c_9 => ?_)
  · refine lv_bipush (v := (-2)) hx hb dX8_judge_35 rfl ?_
    have e9 : v_X8_judge x1 x2 i_hung = (-2) := by
      refine (bnd_eq ho_6).trans ?_
      refine (if_pos c_9).trans ?_
      rfl
    rw [hQ]; exact retI (-2) hx hb hr hlk e9 hP rfl hS dX8_judge_37
  · refine lv_iload_n hx hb dX8_judge_12 rfl (lv_at hl 2 rfl) ?_
    refine lv_i2l (v := x2.toInt64) hx hb dX8_judge_13 rfl ?_
    refine lv_lconst (v := 0) hx hb dX8_judge_14 rfl ?_
    refine lv_iload_n hx hb dX8_judge_15 rfl (lv_at hl 1 rfl) ?_
    refine lv_iconst (v := 1) hx hb dX8_judge_16 rfl ?_
    refine lv_icmp_ne (tgt := 26) hx hb dX8_judge_17 (by decide) (fun c_17 => ?_) (fun c_17 => ?_)
    · refine lv_ldc2 (v := 999999) hx hb hown (hts _ (List.mem_of_getElem? (i := 3) rfl)) dX8_judge_26 ?_
      obtain ⟨o_29, ho_29⟩ : ∃ z : Bool, z = v_X8_in x2.toInt64 0 999999 := ⟨_, rfl⟩
      refine callSIs (As := [.long x2.toInt64, .long 0, .long 999999]) (rest := []) o_29 ho_29 hF (k_X8_in l D cI cZ x2.toInt64 0 999999) (va_cwS 3 hts gX8_judge_X8_in rfl rfl rfl (by decide +kernel) ⟨Nat.le_of_ble_eq_true rfl, Nat.le_of_ble_eq_true rfl⟩) hK hN hP (va_Dsame hD rfl) hS hA [] rfl rfl rfl hl.1 rfl (Nat.le_of_ble_eq_true rfl) dX8_judge_29 ⟨Nat.zero_le _, Nat.zero_le _⟩ (bI o_29) rfl rfl (fun H locs hP hS => ?_)
      refine lv_if_ne (tgt := 38) hx hb dX8_judge_32 (by decide) (fun c_32 => ?_) (fun c_32 => ?_)
      · refine lv_aload_n hx hb dX8_judge_38 rfl (lv_at hl 0 rfl) ?_
        refine va_get (D := D) (ci := 8) (v := .int i_hung) (C := RX8) (T := TX8) (N := 26) hx hb hts (fun _ h => List.mem_cons_of_mem _ (List.mem_append_right _ (h))) hown hK hP 0 rfl rfl 8 (by decide) (hts _ (List.mem_of_getElem? (i := 4) rfl)) (fun _ h9 => h9) rfl dX8_judge_39 ?_
        refine lv_istore_n (lv' := [(3, .int i_hung), (0, .ref a), (1, .int x1), (2, .int x2)]) hx hb dX8_judge_42 rfl hl (by decide) rfl (fun ls hl => ?_)
        refine lv_iconst (v := 0) hx hb dX8_judge_43 rfl ?_
        refine lv_istore (lv' := [(4, .int 0), (3, .int i_hung), (0, .ref a), (1, .int x1), (2, .int x2)]) hx hb dX8_judge_44 hl (by decide) rfl (fun ls hl => ?_)
        obtain ⟨o_L46, ho_L46⟩ : ∃ z : Sum (Int32) (Int32), z = itx (v_X8_judge_L46 x1 x2) x1.toNatClampNeg 0 i_hung := ⟨_, rfl⟩
        have kE46 : ∀ s46 : Int32, o_L46 = .inl s46 → ∀ (H : Heap) (locs : List Loc) (ls : Array Slot), va_P D vwCl [(a, .inr (8, [.ref a_readWishes, .ref a_readOwed, .int i_readHung, .int i_readMany, .int i_readOwes, .ref a_told, .ref a_owed, .int i_wishes, .int i_hung, .int i_hour, .ref a_text, .int i_length, .int i_at, .int i_faultAt, .int i_acts, .int i_next, .ref a_row, .ref a_least, .ref a_values, .int i_tells, .ref a_tellPlace, .ref a_tellHour, .ref a_tellDark, .long j_seed, .ref a_isKept, .ref a_kept]))] H → va_S A s.heap H locs → lv_has ls 7 [] → W p l e rm_X8_judge s m ar below meth c H locs 0 0 Q (F0 m 140 ls []) := by
          intro s46 hs46 H locs ls hP hS hl
          refine lv_bipush (v := (-9)) hx hb dX8_judge_140 rfl ?_
          have e9 : v_X8_judge x1 x2 i_hung = (-9) := by
            refine (bnd_eq ho_6).trans ?_
            refine (if_neg c_9).trans ?_
            refine (if_neg c_17).trans ?_
            refine (bnd_eq ho_29).trans ?_
            refine (if_neg c_32).trans ?_
            refine ((mch_eq ho_L46).trans (mch_l hs46)).trans ?_
            rfl
          rw [hQ]; exact retI (-9) hx hb hr hlk e9 hP rfl hS dX8_judge_142
        have loop46 : ∀ (k i46 : Nat) (z46 : Int32), 0 ≤ i46 → i46 + k = 0 + x1.toNatClampNeg → itx (v_X8_judge_L46 x1 x2) k i46 z46 = o_L46 → ∀ (H : Heap) (locs : List Loc) (ls : Array Slot), va_P D vwCl [(a, .inr (8, [.ref a_readWishes, .ref a_readOwed, .int i_readHung, .int i_readMany, .int i_readOwes, .ref a_told, .ref a_owed, .int i_wishes, .int i_hung, .int i_hour, .ref a_text, .int i_length, .int i_at, .int i_faultAt, .int i_acts, .int i_next, .ref a_row, .ref a_least, .ref a_values, .int i_tells, .ref a_tellPlace, .ref a_tellHour, .ref a_tellDark, .long j_seed, .ref a_isKept, .ref a_kept]))] H → va_S A s.heap H locs → lv_has ls 7 [(4, .int (nI i46)), (3, .int z46), (1, .int x1), (2, .int x2)] → W p l e rm_X8_judge s m ar below meth c H locs 0 0 Q (F0 m 46 ls []) := by
          intro k
          induction k with
          | zero =>
            intro i46 z46 hi0 hik hz H locs ls hP hS hl
            have hz : .inl z46 = o_L46 := itx_0 hz
            refine lv_iload hx hb dX8_judge_46 (lv_at hl 0 rfl) ?_
            refine lv_iload_n hx hb dX8_judge_48 rfl (lv_at hl 2 rfl) ?_
            refine lv_icmp_ge (tgt := 140) hx hb dX8_judge_49 (by decide) (fun _ => ?_) (fun c => absurd (cb_ge (by omega) (by have := cb_lt31 x1; omega)) c)
            exact kE46 z46 hz.symm _ _ _ hP hS (lv_sub hl [] rfl)
          | succ k ih =>
            intro i46 z46 hi0 hik hz H locs ls hP hS hl
            refine lv_iload hx hb dX8_judge_46 (lv_at hl 0 rfl) ?_
            refine lv_iload_n hx hb dX8_judge_48 rfl (lv_at hl 2 rfl) ?_
            refine lv_icmp_ge (tgt := 140) hx hb dX8_judge_49 (by decide) (fun c => absurd c (cb_lt (by omega))) (fun _ => ?_)
            refine lv_iload hx hb dX8_judge_52 (lv_at hl 0 rfl) ?_
            refine lv_iload_n hx hb dX8_judge_54 rfl (lv_at hl 2 rfl) ?_
            refine lv_iconst (v := 1) hx hb dX8_judge_55 rfl ?_
            refine lv_isub hx hb dX8_judge_56 ?_
            refine lv_icmp_ne (tgt := 68) hx hb dX8_judge_57 (by decide) (fun c_57 => ?_) (fun c_57 => ?_)
            · refine lv_iload_n hx hb dX8_judge_68 rfl (lv_at hl 3 rfl) ?_
              refine lv_sipush (v := 1000) hx hb dX8_judge_69 rfl ?_
              refine lv_idiv hx hb dX8_judge_72 (by decide) ?_
              refine lv_istore (lv' := [(5, .int (x2 / 1000)), (4, .int (nI i46)), (3, .int z46), (1, .int x1), (2, .int x2)]) hx hb dX8_judge_73 hl (by decide) rfl (fun ls hl => ?_)
              refine lv_iload hx hb dX8_judge_75 (lv_at hl 0 rfl) ?_
              refine lv_bipush (v := 10) hx hb dX8_judge_77 rfl ?_
              refine lv_idiv hx hb dX8_judge_79 (by decide) ?_
              refine lv_istore (lv' := [(6, .int ((x2 / 1000) / 10)), (5, .int (x2 / 1000)), (4, .int (nI i46)), (3, .int z46), (1, .int x1), (2, .int x2)]) hx hb dX8_judge_80 hl (by decide) rfl (fun ls hl => ?_)
              refine lv_iload hx hb dX8_judge_82 (lv_at hl 0 rfl) ?_
              obtain ⟨o_84, ho_84⟩ : ∃ z : Bool, z = v_X8_isCell ((x2 / 1000) / 10) := ⟨_, rfl⟩
              refine callSIs (As := [.int ((x2 / 1000) / 10)]) (rest := []) o_84 ho_84 hF (k_X8_isCell l D cI cZ ((x2 / 1000) / 10)) (va_cwS 1 hts gX8_judge_X8_isCell rfl rfl rfl (by decide +kernel) ⟨Nat.le_of_ble_eq_true rfl, Nat.le_of_ble_eq_true rfl⟩) hK hN hP (va_Dsame hD rfl) hS hA [] rfl rfl rfl hl.1 rfl (Nat.le_of_ble_eq_true rfl) dX8_judge_84 ⟨Nat.zero_le _, Nat.zero_le _⟩ (bI o_84) rfl rfl (fun H locs hP hS => ?_)
              refine lv_if_eq (tgt := 116) hx hb dX8_judge_87 (by decide) (fun c_87 => ?_) (fun c_87 => ?_)
              · refine lv_iload hx hb dX8_judge_116 (lv_at hl 2 rfl) ?_
                have e8 : v_X8_judge_L46 x1 x2 i46 z46 = .inr (nI i46) := by
                  refine (if_neg c_57).trans ?_
                  refine (bnd_eq ho_84).trans ?_
                  refine (if_pos c_87).trans ?_
                  rfl
                have e7 : .inr (nI i46) = o_L46 := (itx_out e8).symm.trans hz
                have e9 : v_X8_judge x1 x2 i_hung = nI i46 := by
                  refine (bnd_eq ho_6).trans ?_
                  refine (if_neg c_9).trans ?_
                  refine (if_neg c_17).trans ?_
                  refine (bnd_eq ho_29).trans ?_
                  refine (if_neg c_32).trans ?_
                  refine (mch_eq ho_L46).trans ?_
                  rw [← e7]; rfl
                rw [hQ]; exact retI (nI i46) hx hb hr hlk e9 hP rfl hS dX8_judge_118
              · refine lv_iload hx hb dX8_judge_90 (lv_at hl 1 rfl) ?_
                refine lv_bipush (v := 10) hx hb dX8_judge_92 rfl ?_
                refine lv_irem hx hb dX8_judge_94 (by decide) ?_
                refine lv_iconst (v := 2) hx hb dX8_judge_95 rfl ?_
                refine lv_icmp_gt (tgt := 116) hx hb dX8_judge_96 (by decide) (fun c_96 => ?_) (fun c_96 => ?_)
                · refine lv_iload hx hb dX8_judge_116 (lv_at hl 2 rfl) ?_
                  have e8 : v_X8_judge_L46 x1 x2 i46 z46 = .inr (nI i46) := by
                    refine (if_neg c_57).trans ?_
                    refine (bnd_eq ho_84).trans ?_
                    refine (if_neg c_87).trans ?_
                    refine (if_pos c_96).trans ?_
                    rfl
                  have e7 : .inr (nI i46) = o_L46 := (itx_out e8).symm.trans hz
                  have e9 : v_X8_judge x1 x2 i_hung = nI i46 := by
                    refine (bnd_eq ho_6).trans ?_
                    refine (if_neg c_9).trans ?_
                    refine (if_neg c_17).trans ?_
                    refine (bnd_eq ho_29).trans ?_
                    refine (if_neg c_32).trans ?_
                    refine (mch_eq ho_L46).trans ?_
                    rw [← e7]; rfl
                  rw [hQ]; exact retI (nI i46) hx hb hr hlk e9 hP rfl hS dX8_judge_118
                · refine lv_iload_n hx hb dX8_judge_99 rfl (lv_at hl 3 rfl) ?_
                  refine lv_iload hx hb dX8_judge_100 (lv_at hl 0 rfl) ?_
                  refine lv_iload hx hb dX8_judge_102 (lv_at hl 1 rfl) ?_
                  refine lv_bipush (v := 10) hx hb dX8_judge_104 rfl ?_
                  refine lv_irem hx hb dX8_judge_106 (by decide) ?_
                  obtain ⟨o_107, ho_107⟩ : ∃ z : Int32, z = v_X8_how ((x2 / 1000) - (x2 / 1000) / 10 * 10) := ⟨_, rfl⟩
                  refine callSIs (As := [.int ((x2 / 1000) - (x2 / 1000) / 10 * 10)]) (rest := [.int ((x2 / 1000) / 10), .int z46]) o_107 ho_107 hF (k_X8_how l D cI cZ ((x2 / 1000) - (x2 / 1000) / 10 * 10)) (va_cwS 1 hts gX8_judge_X8_how rfl rfl rfl (by decide +kernel) ⟨Nat.le_of_ble_eq_true rfl, Nat.le_of_ble_eq_true rfl⟩) hK hN hP (va_Dsame hD rfl) hS hA [] rfl rfl rfl hl.1 rfl (Nat.le_of_ble_eq_true rfl) dX8_judge_107 ⟨Nat.zero_le _, Nat.zero_le _⟩ o_107 rfl rfl (fun H locs hP hS => ?_)
                  obtain ⟨o_110, ho_110⟩ : ∃ z : Bool, z = v_X8_canMove z46 ((x2 / 1000) / 10) o_107 := ⟨_, rfl⟩
                  refine callSIs (As := [.int z46, .int ((x2 / 1000) / 10), .int o_107]) (rest := []) o_110 ho_110 hF (k_X8_canMove l D cI cZ z46 ((x2 / 1000) / 10) o_107) (va_cwS 3 hts gX8_judge_X8_canMove rfl rfl rfl (by decide +kernel) ⟨Nat.le_of_ble_eq_true rfl, Nat.le_of_ble_eq_true rfl⟩) hK hN hP (va_Dsame hD rfl) hS hA [] rfl rfl rfl hl.1 rfl (Nat.le_of_ble_eq_true rfl) dX8_judge_110 ⟨Nat.zero_le _, Nat.zero_le _⟩ (bI o_110) rfl rfl (fun H locs hP hS => ?_)
                  refine lv_if_ne (tgt := 119) hx hb dX8_judge_113 (by decide) (fun c_113 => ?_) (fun c_113 => ?_)
                  · refine lv_iload_n hx hb dX8_judge_119 rfl (lv_at hl 3 rfl) ?_
                    refine lv_iload hx hb dX8_judge_120 (lv_at hl 0 rfl) ?_
                    refine lv_iload hx hb dX8_judge_122 (lv_at hl 1 rfl) ?_
                    refine lv_bipush (v := 10) hx hb dX8_judge_124 rfl ?_
                    refine lv_irem hx hb dX8_judge_126 (by decide) ?_
                    obtain ⟨o_127, ho_127⟩ : ∃ z : Int32, z = v_X8_how ((x2 / 1000) - (x2 / 1000) / 10 * 10) := ⟨_, rfl⟩
                    refine callSIs (As := [.int ((x2 / 1000) - (x2 / 1000) / 10 * 10)]) (rest := [.int ((x2 / 1000) / 10), .int z46]) o_127 ho_127 hF (k_X8_how l D cI cZ ((x2 / 1000) - (x2 / 1000) / 10 * 10)) (va_cwS 1 hts gX8_judge_X8_how rfl rfl rfl (by decide +kernel) ⟨Nat.le_of_ble_eq_true rfl, Nat.le_of_ble_eq_true rfl⟩) hK hN hP (va_Dsame hD rfl) hS hA [] rfl rfl rfl hl.1 rfl (Nat.le_of_ble_eq_true rfl) dX8_judge_127 ⟨Nat.zero_le _, Nat.zero_le _⟩ o_127 rfl rfl (fun H locs hP hS => ?_)
                    obtain ⟨o_130, ho_130⟩ : ∃ z : Int32, z = v_X8_movedHanging z46 ((x2 / 1000) / 10) o_127 := ⟨_, rfl⟩
                    refine callSIs (As := [.int z46, .int ((x2 / 1000) / 10), .int o_127]) (rest := []) o_130 ho_130 hF (k_X8_movedHanging l D cI cZ z46 ((x2 / 1000) / 10) o_127) (va_cwS 3 hts gX8_judge_X8_movedHanging rfl rfl rfl (by decide +kernel) ⟨Nat.le_of_ble_eq_true rfl, Nat.le_of_ble_eq_true rfl⟩) hK hN hP (va_Dsame hD rfl) hS hA [] rfl rfl rfl hl.1 rfl (Nat.le_of_ble_eq_true rfl) dX8_judge_130 ⟨Nat.zero_le _, Nat.zero_le _⟩ o_130 rfl rfl (fun H locs hP hS => ?_)
                    refine lv_istore_n (lv' := [(3, .int o_130), (6, .int ((x2 / 1000) / 10)), (5, .int (x2 / 1000)), (4, .int (nI i46)), (1, .int x1), (2, .int x2)]) hx hb dX8_judge_133 rfl hl (by decide) rfl (fun ls hl => ?_)
                    refine lv_iinc (v := (nI (i46 + 1))) (lv' := [(4, .int (nI (i46 + 1))), (3, .int o_130), (6, .int ((x2 / 1000) / 10)), (5, .int (x2 / 1000)), (1, .int x1), (2, .int x2)]) hx hb dX8_judge_134 hl (k := 3) rfl (nI_1 _) (by decide) rfl (fun ls hl => ?_)
                    refine lv_goto (tgt := 46) hx hb dX8_judge_137 (by decide) ?_
                    have e8 : v_X8_judge_L46 x1 x2 i46 z46 = .inl o_130 := by
                      refine (if_neg c_57).trans ?_
                      refine (bnd_eq ho_84).trans ?_
                      refine (if_neg c_87).trans ?_
                      refine (if_neg c_96).trans ?_
                      refine (bnd_eq ho_107).trans ?_
                      refine (bnd_eq ho_110).trans ?_
                      refine (if_neg c_113).trans ?_
                      refine (bnd_eq ho_127).trans ?_
                      refine (bnd_eq ho_130).trans ?_
                      rfl
                    exact ih (i46 + 1) o_130 (by omega) (by omega) ((itx_go e8).symm.trans hz) _ _ _ hP hS (lv_sub hl [0, 1, 4, 5] rfl)
                  · refine lv_iload hx hb dX8_judge_116 (lv_at hl 2 rfl) ?_
                    have e8 : v_X8_judge_L46 x1 x2 i46 z46 = .inr (nI i46) := by
                      refine (if_neg c_57).trans ?_
                      refine (bnd_eq ho_84).trans ?_
                      refine (if_neg c_87).trans ?_
                      refine (if_neg c_96).trans ?_
                      refine (bnd_eq ho_107).trans ?_
                      refine (bnd_eq ho_110).trans ?_
                      refine (if_pos c_113).trans ?_
                      rfl
                    have e7 : .inr (nI i46) = o_L46 := (itx_out e8).symm.trans hz
                    have e9 : v_X8_judge x1 x2 i_hung = nI i46 := by
                      refine (bnd_eq ho_6).trans ?_
                      refine (if_neg c_9).trans ?_
                      refine (if_neg c_17).trans ?_
                      refine (bnd_eq ho_29).trans ?_
                      refine (if_neg c_32).trans ?_
                      refine (mch_eq ho_L46).trans ?_
                      rw [← e7]; rfl
                    rw [hQ]; exact retI (nI i46) hx hb hr hlk e9 hP rfl hS dX8_judge_118
            · refine lv_iload_n hx hb dX8_judge_60 rfl (lv_at hl 3 rfl) ?_
              refine lv_sipush (v := 1000) hx hb dX8_judge_61 rfl ?_
              refine lv_irem hx hb dX8_judge_64 (by decide) ?_
              refine lv_goto (tgt := 73) hx hb dX8_judge_65 (by decide) ?_
              refine lv_istore (lv' := [(5, .int (x2 - x2 / 1000 * 1000)), (4, .int (nI i46)), (3, .int z46), (1, .int x1), (2, .int x2)]) hx hb dX8_judge_73 hl (by decide) rfl (fun ls hl => ?_)
              refine lv_iload hx hb dX8_judge_75 (lv_at hl 0 rfl) ?_
              refine lv_bipush (v := 10) hx hb dX8_judge_77 rfl ?_
              refine lv_idiv hx hb dX8_judge_79 (by decide) ?_
              refine lv_istore (lv' := [(6, .int ((x2 - x2 / 1000 * 1000) / 10)), (5, .int (x2 - x2 / 1000 * 1000)), (4, .int (nI i46)), (3, .int z46), (1, .int x1), (2, .int x2)]) hx hb dX8_judge_80 hl (by decide) rfl (fun ls hl => ?_)
              refine lv_iload hx hb dX8_judge_82 (lv_at hl 0 rfl) ?_
              obtain ⟨o_84, ho_84⟩ : ∃ z : Bool, z = v_X8_isCell ((x2 - x2 / 1000 * 1000) / 10) := ⟨_, rfl⟩
              refine callSIs (As := [.int ((x2 - x2 / 1000 * 1000) / 10)]) (rest := []) o_84 ho_84 hF (k_X8_isCell l D cI cZ ((x2 - x2 / 1000 * 1000) / 10)) (va_cwS 1 hts gX8_judge_X8_isCell rfl rfl rfl (by decide +kernel) ⟨Nat.le_of_ble_eq_true rfl, Nat.le_of_ble_eq_true rfl⟩) hK hN hP (va_Dsame hD rfl) hS hA [] rfl rfl rfl hl.1 rfl (Nat.le_of_ble_eq_true rfl) dX8_judge_84 ⟨Nat.zero_le _, Nat.zero_le _⟩ (bI o_84) rfl rfl (fun H locs hP hS => ?_)
              refine lv_if_eq (tgt := 116) hx hb dX8_judge_87 (by decide) (fun c_87 => ?_) (fun c_87 => ?_)
              · refine lv_iload hx hb dX8_judge_116 (lv_at hl 2 rfl) ?_
                have e8 : v_X8_judge_L46 x1 x2 i46 z46 = .inr (nI i46) := by
                  refine (if_pos c_57).trans ?_
                  refine (bnd_eq ho_84).trans ?_
                  refine (if_pos c_87).trans ?_
                  rfl
                have e7 : .inr (nI i46) = o_L46 := (itx_out e8).symm.trans hz
                have e9 : v_X8_judge x1 x2 i_hung = nI i46 := by
                  refine (bnd_eq ho_6).trans ?_
                  refine (if_neg c_9).trans ?_
                  refine (if_neg c_17).trans ?_
                  refine (bnd_eq ho_29).trans ?_
                  refine (if_neg c_32).trans ?_
                  refine (mch_eq ho_L46).trans ?_
                  rw [← e7]; rfl
                rw [hQ]; exact retI (nI i46) hx hb hr hlk e9 hP rfl hS dX8_judge_118
              · refine lv_iload hx hb dX8_judge_90 (lv_at hl 1 rfl) ?_
                refine lv_bipush (v := 10) hx hb dX8_judge_92 rfl ?_
                refine lv_irem hx hb dX8_judge_94 (by decide) ?_
                refine lv_iconst (v := 2) hx hb dX8_judge_95 rfl ?_
                refine lv_icmp_gt (tgt := 116) hx hb dX8_judge_96 (by decide) (fun c_96 => ?_) (fun c_96 => ?_)
                · refine lv_iload hx hb dX8_judge_116 (lv_at hl 2 rfl) ?_
                  have e8 : v_X8_judge_L46 x1 x2 i46 z46 = .inr (nI i46) := by
                    refine (if_pos c_57).trans ?_
                    refine (bnd_eq ho_84).trans ?_
                    refine (if_neg c_87).trans ?_
                    refine (if_pos c_96).trans ?_
                    rfl
                  have e7 : .inr (nI i46) = o_L46 := (itx_out e8).symm.trans hz
                  have e9 : v_X8_judge x1 x2 i_hung = nI i46 := by
                    refine (bnd_eq ho_6).trans ?_
                    refine (if_neg c_9).trans ?_
                    refine (if_neg c_17).trans ?_
                    refine (bnd_eq ho_29).trans ?_
                    refine (if_neg c_32).trans ?_
                    refine (mch_eq ho_L46).trans ?_
                    rw [← e7]; rfl
                  rw [hQ]; exact retI (nI i46) hx hb hr hlk e9 hP rfl hS dX8_judge_118
                · refine lv_iload_n hx hb dX8_judge_99 rfl (lv_at hl 3 rfl) ?_
                  refine lv_iload hx hb dX8_judge_100 (lv_at hl 0 rfl) ?_
                  refine lv_iload hx hb dX8_judge_102 (lv_at hl 1 rfl) ?_
                  refine lv_bipush (v := 10) hx hb dX8_judge_104 rfl ?_
                  refine lv_irem hx hb dX8_judge_106 (by decide) ?_
                  obtain ⟨o_107, ho_107⟩ : ∃ z : Int32, z = v_X8_how ((x2 - x2 / 1000 * 1000) - (x2 - x2 / 1000 * 1000) / 10 * 10) := ⟨_, rfl⟩
                  refine callSIs (As := [.int ((x2 - x2 / 1000 * 1000) - (x2 - x2 / 1000 * 1000) / 10 * 10)]) (rest := [.int ((x2 - x2 / 1000 * 1000) / 10), .int z46]) o_107 ho_107 hF (k_X8_how l D cI cZ ((x2 - x2 / 1000 * 1000) - (x2 - x2 / 1000 * 1000) / 10 * 10)) (va_cwS 1 hts gX8_judge_X8_how rfl rfl rfl (by decide +kernel) ⟨Nat.le_of_ble_eq_true rfl, Nat.le_of_ble_eq_true rfl⟩) hK hN hP (va_Dsame hD rfl) hS hA [] rfl rfl rfl hl.1 rfl (Nat.le_of_ble_eq_true rfl) dX8_judge_107 ⟨Nat.zero_le _, Nat.zero_le _⟩ o_107 rfl rfl (fun H locs hP hS => ?_)
                  obtain ⟨o_110, ho_110⟩ : ∃ z : Bool, z = v_X8_canMove z46 ((x2 - x2 / 1000 * 1000) / 10) o_107 := ⟨_, rfl⟩
                  refine callSIs (As := [.int z46, .int ((x2 - x2 / 1000 * 1000) / 10), .int o_107]) (rest := []) o_110 ho_110 hF (k_X8_canMove l D cI cZ z46 ((x2 - x2 / 1000 * 1000) / 10) o_107) (va_cwS 3 hts gX8_judge_X8_canMove rfl rfl rfl (by decide +kernel) ⟨Nat.le_of_ble_eq_true rfl, Nat.le_of_ble_eq_true rfl⟩) hK hN hP (va_Dsame hD rfl) hS hA [] rfl rfl rfl hl.1 rfl (Nat.le_of_ble_eq_true rfl) dX8_judge_110 ⟨Nat.zero_le _, Nat.zero_le _⟩ (bI o_110) rfl rfl (fun H locs hP hS => ?_)
                  refine lv_if_ne (tgt := 119) hx hb dX8_judge_113 (by decide) (fun c_113 => ?_) (fun c_113 => ?_)
                  · refine lv_iload_n hx hb dX8_judge_119 rfl (lv_at hl 3 rfl) ?_
                    refine lv_iload hx hb dX8_judge_120 (lv_at hl 0 rfl) ?_
                    refine lv_iload hx hb dX8_judge_122 (lv_at hl 1 rfl) ?_
                    refine lv_bipush (v := 10) hx hb dX8_judge_124 rfl ?_
                    refine lv_irem hx hb dX8_judge_126 (by decide) ?_
                    obtain ⟨o_127, ho_127⟩ : ∃ z : Int32, z = v_X8_how ((x2 - x2 / 1000 * 1000) - (x2 - x2 / 1000 * 1000) / 10 * 10) := ⟨_, rfl⟩
                    refine callSIs (As := [.int ((x2 - x2 / 1000 * 1000) - (x2 - x2 / 1000 * 1000) / 10 * 10)]) (rest := [.int ((x2 - x2 / 1000 * 1000) / 10), .int z46]) o_127 ho_127 hF (k_X8_how l D cI cZ ((x2 - x2 / 1000 * 1000) - (x2 - x2 / 1000 * 1000) / 10 * 10)) (va_cwS 1 hts gX8_judge_X8_how rfl rfl rfl (by decide +kernel) ⟨Nat.le_of_ble_eq_true rfl, Nat.le_of_ble_eq_true rfl⟩) hK hN hP (va_Dsame hD rfl) hS hA [] rfl rfl rfl hl.1 rfl (Nat.le_of_ble_eq_true rfl) dX8_judge_127 ⟨Nat.zero_le _, Nat.zero_le _⟩ o_127 rfl rfl (fun H locs hP hS => ?_)
                    obtain ⟨o_130, ho_130⟩ : ∃ z : Int32, z = v_X8_movedHanging z46 ((x2 - x2 / 1000 * 1000) / 10) o_127 := ⟨_, rfl⟩
                    refine callSIs (As := [.int z46, .int ((x2 - x2 / 1000 * 1000) / 10), .int o_127]) (rest := []) o_130 ho_130 hF (k_X8_movedHanging l D cI cZ z46 ((x2 - x2 / 1000 * 1000) / 10) o_127) (va_cwS 3 hts gX8_judge_X8_movedHanging rfl rfl rfl (by decide +kernel) ⟨Nat.le_of_ble_eq_true rfl, Nat.le_of_ble_eq_true rfl⟩) hK hN hP (va_Dsame hD rfl) hS hA [] rfl rfl rfl hl.1 rfl (Nat.le_of_ble_eq_true rfl) dX8_judge_130 ⟨Nat.zero_le _, Nat.zero_le _⟩ o_130 rfl rfl (fun H locs hP hS => ?_)
                    refine lv_istore_n (lv' := [(3, .int o_130), (6, .int ((x2 - x2 / 1000 * 1000) / 10)), (5, .int (x2 - x2 / 1000 * 1000)), (4, .int (nI i46)), (1, .int x1), (2, .int x2)]) hx hb dX8_judge_133 rfl hl (by decide) rfl (fun ls hl => ?_)
                    refine lv_iinc (v := (nI (i46 + 1))) (lv' := [(4, .int (nI (i46 + 1))), (3, .int o_130), (6, .int ((x2 - x2 / 1000 * 1000) / 10)), (5, .int (x2 - x2 / 1000 * 1000)), (1, .int x1), (2, .int x2)]) hx hb dX8_judge_134 hl (k := 3) rfl (nI_1 _) (by decide) rfl (fun ls hl => ?_)
                    refine lv_goto (tgt := 46) hx hb dX8_judge_137 (by decide) ?_
                    have e8 : v_X8_judge_L46 x1 x2 i46 z46 = .inl o_130 := by
                      refine (if_pos c_57).trans ?_
                      refine (bnd_eq ho_84).trans ?_
                      refine (if_neg c_87).trans ?_
                      refine (if_neg c_96).trans ?_
                      refine (bnd_eq ho_107).trans ?_
                      refine (bnd_eq ho_110).trans ?_
                      refine (if_neg c_113).trans ?_
                      refine (bnd_eq ho_127).trans ?_
                      refine (bnd_eq ho_130).trans ?_
                      rfl
                    exact ih (i46 + 1) o_130 (by omega) (by omega) ((itx_go e8).symm.trans hz) _ _ _ hP hS (lv_sub hl [0, 1, 4, 5] rfl)
                  · refine lv_iload hx hb dX8_judge_116 (lv_at hl 2 rfl) ?_
                    have e8 : v_X8_judge_L46 x1 x2 i46 z46 = .inr (nI i46) := by
                      refine (if_pos c_57).trans ?_
                      refine (bnd_eq ho_84).trans ?_
                      refine (if_neg c_87).trans ?_
                      refine (if_neg c_96).trans ?_
                      refine (bnd_eq ho_107).trans ?_
                      refine (bnd_eq ho_110).trans ?_
                      refine (if_pos c_113).trans ?_
                      rfl
                    have e7 : .inr (nI i46) = o_L46 := (itx_out e8).symm.trans hz
                    have e9 : v_X8_judge x1 x2 i_hung = nI i46 := by
                      refine (bnd_eq ho_6).trans ?_
                      refine (if_neg c_9).trans ?_
                      refine (if_neg c_17).trans ?_
                      refine (bnd_eq ho_29).trans ?_
                      refine (if_neg c_32).trans ?_
                      refine (mch_eq ho_L46).trans ?_
                      rw [← e7]; rfl
                    rw [hQ]; exact retI (nI i46) hx hb hr hlk e9 hP rfl hS dX8_judge_118
        exact loop46 x1.toNatClampNeg 0 i_hung (Nat.le_refl _) rfl ho_L46.symm _ _ _ hP hS (lv_sub hl [0, 1, 3, 4] rfl)
      · refine lv_bipush (v := (-2)) hx hb dX8_judge_35 rfl ?_
        have e9 : v_X8_judge x1 x2 i_hung = (-2) := by
          refine (bnd_eq ho_6).trans ?_
          refine (if_neg c_9).trans ?_
          refine (if_neg c_17).trans ?_
          refine (bnd_eq ho_29).trans ?_
          refine (if_pos c_32).trans ?_
          rfl
        rw [hQ]; exact retI (-2) hx hb hr hlk e9 hP rfl hS dX8_judge_37
    · refine lv_ldc2 (v := 999) hx hb hown (hts _ (List.mem_of_getElem? (i := 2) rfl)) dX8_judge_20 ?_
      refine lv_goto (tgt := 29) hx hb dX8_judge_23 (by decide) ?_
      obtain ⟨o_29, ho_29⟩ : ∃ z : Bool, z = v_X8_in x2.toInt64 0 999 := ⟨_, rfl⟩
      refine callSIs (As := [.long x2.toInt64, .long 0, .long 999]) (rest := []) o_29 ho_29 hF (k_X8_in l D cI cZ x2.toInt64 0 999) (va_cwS 3 hts gX8_judge_X8_in rfl rfl rfl (by decide +kernel) ⟨Nat.le_of_ble_eq_true rfl, Nat.le_of_ble_eq_true rfl⟩) hK hN hP (va_Dsame hD rfl) hS hA [] rfl rfl rfl hl.1 rfl (Nat.le_of_ble_eq_true rfl) dX8_judge_29 ⟨Nat.zero_le _, Nat.zero_le _⟩ (bI o_29) rfl rfl (fun H locs hP hS => ?_)
      refine lv_if_ne (tgt := 38) hx hb dX8_judge_32 (by decide) (fun c_32 => ?_) (fun c_32 => ?_)
      · refine lv_aload_n hx hb dX8_judge_38 rfl (lv_at hl 0 rfl) ?_
        refine va_get (D := D) (ci := 8) (v := .int i_hung) (C := RX8) (T := TX8) (N := 26) hx hb hts (fun _ h => List.mem_cons_of_mem _ (List.mem_append_right _ (h))) hown hK hP 0 rfl rfl 8 (by decide) (hts _ (List.mem_of_getElem? (i := 4) rfl)) (fun _ h9 => h9) rfl dX8_judge_39 ?_
        refine lv_istore_n (lv' := [(3, .int i_hung), (0, .ref a), (1, .int x1), (2, .int x2)]) hx hb dX8_judge_42 rfl hl (by decide) rfl (fun ls hl => ?_)
        refine lv_iconst (v := 0) hx hb dX8_judge_43 rfl ?_
        refine lv_istore (lv' := [(4, .int 0), (3, .int i_hung), (0, .ref a), (1, .int x1), (2, .int x2)]) hx hb dX8_judge_44 hl (by decide) rfl (fun ls hl => ?_)
        obtain ⟨o_L46, ho_L46⟩ : ∃ z : Sum (Int32) (Int32), z = itx (v_X8_judge_L46 x1 x2) x1.toNatClampNeg 0 i_hung := ⟨_, rfl⟩
        have kE46 : ∀ s46 : Int32, o_L46 = .inl s46 → ∀ (H : Heap) (locs : List Loc) (ls : Array Slot), va_P D vwCl [(a, .inr (8, [.ref a_readWishes, .ref a_readOwed, .int i_readHung, .int i_readMany, .int i_readOwes, .ref a_told, .ref a_owed, .int i_wishes, .int i_hung, .int i_hour, .ref a_text, .int i_length, .int i_at, .int i_faultAt, .int i_acts, .int i_next, .ref a_row, .ref a_least, .ref a_values, .int i_tells, .ref a_tellPlace, .ref a_tellHour, .ref a_tellDark, .long j_seed, .ref a_isKept, .ref a_kept]))] H → va_S A s.heap H locs → lv_has ls 7 [] → W p l e rm_X8_judge s m ar below meth c H locs 0 0 Q (F0 m 140 ls []) := by
          intro s46 hs46 H locs ls hP hS hl
          refine lv_bipush (v := (-9)) hx hb dX8_judge_140 rfl ?_
          have e9 : v_X8_judge x1 x2 i_hung = (-9) := by
            refine (bnd_eq ho_6).trans ?_
            refine (if_neg c_9).trans ?_
            refine (if_pos c_17).trans ?_
            refine (bnd_eq ho_29).trans ?_
            refine (if_neg c_32).trans ?_
            refine ((mch_eq ho_L46).trans (mch_l hs46)).trans ?_
            rfl
          rw [hQ]; exact retI (-9) hx hb hr hlk e9 hP rfl hS dX8_judge_142
        have loop46 : ∀ (k i46 : Nat) (z46 : Int32), 0 ≤ i46 → i46 + k = 0 + x1.toNatClampNeg → itx (v_X8_judge_L46 x1 x2) k i46 z46 = o_L46 → ∀ (H : Heap) (locs : List Loc) (ls : Array Slot), va_P D vwCl [(a, .inr (8, [.ref a_readWishes, .ref a_readOwed, .int i_readHung, .int i_readMany, .int i_readOwes, .ref a_told, .ref a_owed, .int i_wishes, .int i_hung, .int i_hour, .ref a_text, .int i_length, .int i_at, .int i_faultAt, .int i_acts, .int i_next, .ref a_row, .ref a_least, .ref a_values, .int i_tells, .ref a_tellPlace, .ref a_tellHour, .ref a_tellDark, .long j_seed, .ref a_isKept, .ref a_kept]))] H → va_S A s.heap H locs → lv_has ls 7 [(4, .int (nI i46)), (3, .int z46), (1, .int x1), (2, .int x2)] → W p l e rm_X8_judge s m ar below meth c H locs 0 0 Q (F0 m 46 ls []) := by
          intro k
          induction k with
          | zero =>
            intro i46 z46 hi0 hik hz H locs ls hP hS hl
            have hz : .inl z46 = o_L46 := itx_0 hz
            refine lv_iload hx hb dX8_judge_46 (lv_at hl 0 rfl) ?_
            refine lv_iload_n hx hb dX8_judge_48 rfl (lv_at hl 2 rfl) ?_
            refine lv_icmp_ge (tgt := 140) hx hb dX8_judge_49 (by decide) (fun _ => ?_) (fun c => absurd (cb_ge (by omega) (by have := cb_lt31 x1; omega)) c)
            exact kE46 z46 hz.symm _ _ _ hP hS (lv_sub hl [] rfl)
          | succ k ih =>
            intro i46 z46 hi0 hik hz H locs ls hP hS hl
            refine lv_iload hx hb dX8_judge_46 (lv_at hl 0 rfl) ?_
            refine lv_iload_n hx hb dX8_judge_48 rfl (lv_at hl 2 rfl) ?_
            refine lv_icmp_ge (tgt := 140) hx hb dX8_judge_49 (by decide) (fun c => absurd c (cb_lt (by omega))) (fun _ => ?_)
            refine lv_iload hx hb dX8_judge_52 (lv_at hl 0 rfl) ?_
            refine lv_iload_n hx hb dX8_judge_54 rfl (lv_at hl 2 rfl) ?_
            refine lv_iconst (v := 1) hx hb dX8_judge_55 rfl ?_
            refine lv_isub hx hb dX8_judge_56 ?_
            refine lv_icmp_ne (tgt := 68) hx hb dX8_judge_57 (by decide) (fun c_57 => ?_) (fun c_57 => ?_)
            · refine lv_iload_n hx hb dX8_judge_68 rfl (lv_at hl 3 rfl) ?_
              refine lv_sipush (v := 1000) hx hb dX8_judge_69 rfl ?_
              refine lv_idiv hx hb dX8_judge_72 (by decide) ?_
              refine lv_istore (lv' := [(5, .int (x2 / 1000)), (4, .int (nI i46)), (3, .int z46), (1, .int x1), (2, .int x2)]) hx hb dX8_judge_73 hl (by decide) rfl (fun ls hl => ?_)
              refine lv_iload hx hb dX8_judge_75 (lv_at hl 0 rfl) ?_
              refine lv_bipush (v := 10) hx hb dX8_judge_77 rfl ?_
              refine lv_idiv hx hb dX8_judge_79 (by decide) ?_
              refine lv_istore (lv' := [(6, .int ((x2 / 1000) / 10)), (5, .int (x2 / 1000)), (4, .int (nI i46)), (3, .int z46), (1, .int x1), (2, .int x2)]) hx hb dX8_judge_80 hl (by decide) rfl (fun ls hl => ?_)
              refine lv_iload hx hb dX8_judge_82 (lv_at hl 0 rfl) ?_
              obtain ⟨o_84, ho_84⟩ : ∃ z : Bool, z = v_X8_isCell ((x2 / 1000) / 10) := ⟨_, rfl⟩
              refine callSIs (As := [.int ((x2 / 1000) / 10)]) (rest := []) o_84 ho_84 hF (k_X8_isCell l D cI cZ ((x2 / 1000) / 10)) (va_cwS 1 hts gX8_judge_X8_isCell rfl rfl rfl (by decide +kernel) ⟨Nat.le_of_ble_eq_true rfl, Nat.le_of_ble_eq_true rfl⟩) hK hN hP (va_Dsame hD rfl) hS hA [] rfl rfl rfl hl.1 rfl (Nat.le_of_ble_eq_true rfl) dX8_judge_84 ⟨Nat.zero_le _, Nat.zero_le _⟩ (bI o_84) rfl rfl (fun H locs hP hS => ?_)
              refine lv_if_eq (tgt := 116) hx hb dX8_judge_87 (by decide) (fun c_87 => ?_) (fun c_87 => ?_)
              · refine lv_iload hx hb dX8_judge_116 (lv_at hl 2 rfl) ?_
                have e8 : v_X8_judge_L46 x1 x2 i46 z46 = .inr (nI i46) := by
                  refine (if_neg c_57).trans ?_
                  refine (bnd_eq ho_84).trans ?_
                  refine (if_pos c_87).trans ?_
                  rfl
                have e7 : .inr (nI i46) = o_L46 := (itx_out e8).symm.trans hz
                have e9 : v_X8_judge x1 x2 i_hung = nI i46 := by
                  refine (bnd_eq ho_6).trans ?_
                  refine (if_neg c_9).trans ?_
                  refine (if_pos c_17).trans ?_
                  refine (bnd_eq ho_29).trans ?_
                  refine (if_neg c_32).trans ?_
                  refine (mch_eq ho_L46).trans ?_
                  rw [← e7]; rfl
                rw [hQ]; exact retI (nI i46) hx hb hr hlk e9 hP rfl hS dX8_judge_118
              · refine lv_iload hx hb dX8_judge_90 (lv_at hl 1 rfl) ?_
                refine lv_bipush (v := 10) hx hb dX8_judge_92 rfl ?_
                refine lv_irem hx hb dX8_judge_94 (by decide) ?_
                refine lv_iconst (v := 2) hx hb dX8_judge_95 rfl ?_
                refine lv_icmp_gt (tgt := 116) hx hb dX8_judge_96 (by decide) (fun c_96 => ?_) (fun c_96 => ?_)
                · refine lv_iload hx hb dX8_judge_116 (lv_at hl 2 rfl) ?_
                  have e8 : v_X8_judge_L46 x1 x2 i46 z46 = .inr (nI i46) := by
                    refine (if_neg c_57).trans ?_
                    refine (bnd_eq ho_84).trans ?_
                    refine (if_neg c_87).trans ?_
                    refine (if_pos c_96).trans ?_
                    rfl
                  have e7 : .inr (nI i46) = o_L46 := (itx_out e8).symm.trans hz
                  have e9 : v_X8_judge x1 x2 i_hung = nI i46 := by
                    refine (bnd_eq ho_6).trans ?_
                    refine (if_neg c_9).trans ?_
                    refine (if_pos c_17).trans ?_
                    refine (bnd_eq ho_29).trans ?_
                    refine (if_neg c_32).trans ?_
                    refine (mch_eq ho_L46).trans ?_
                    rw [← e7]; rfl
                  rw [hQ]; exact retI (nI i46) hx hb hr hlk e9 hP rfl hS dX8_judge_118
                · refine lv_iload_n hx hb dX8_judge_99 rfl (lv_at hl 3 rfl) ?_
                  refine lv_iload hx hb dX8_judge_100 (lv_at hl 0 rfl) ?_
                  refine lv_iload hx hb dX8_judge_102 (lv_at hl 1 rfl) ?_
                  refine lv_bipush (v := 10) hx hb dX8_judge_104 rfl ?_
                  refine lv_irem hx hb dX8_judge_106 (by decide) ?_
                  obtain ⟨o_107, ho_107⟩ : ∃ z : Int32, z = v_X8_how ((x2 / 1000) - (x2 / 1000) / 10 * 10) := ⟨_, rfl⟩
                  refine callSIs (As := [.int ((x2 / 1000) - (x2 / 1000) / 10 * 10)]) (rest := [.int ((x2 / 1000) / 10), .int z46]) o_107 ho_107 hF (k_X8_how l D cI cZ ((x2 / 1000) - (x2 / 1000) / 10 * 10)) (va_cwS 1 hts gX8_judge_X8_how rfl rfl rfl (by decide +kernel) ⟨Nat.le_of_ble_eq_true rfl, Nat.le_of_ble_eq_true rfl⟩) hK hN hP (va_Dsame hD rfl) hS hA [] rfl rfl rfl hl.1 rfl (Nat.le_of_ble_eq_true rfl) dX8_judge_107 ⟨Nat.zero_le _, Nat.zero_le _⟩ o_107 rfl rfl (fun H locs hP hS => ?_)
                  obtain ⟨o_110, ho_110⟩ : ∃ z : Bool, z = v_X8_canMove z46 ((x2 / 1000) / 10) o_107 := ⟨_, rfl⟩
                  refine callSIs (As := [.int z46, .int ((x2 / 1000) / 10), .int o_107]) (rest := []) o_110 ho_110 hF (k_X8_canMove l D cI cZ z46 ((x2 / 1000) / 10) o_107) (va_cwS 3 hts gX8_judge_X8_canMove rfl rfl rfl (by decide +kernel) ⟨Nat.le_of_ble_eq_true rfl, Nat.le_of_ble_eq_true rfl⟩) hK hN hP (va_Dsame hD rfl) hS hA [] rfl rfl rfl hl.1 rfl (Nat.le_of_ble_eq_true rfl) dX8_judge_110 ⟨Nat.zero_le _, Nat.zero_le _⟩ (bI o_110) rfl rfl (fun H locs hP hS => ?_)
                  refine lv_if_ne (tgt := 119) hx hb dX8_judge_113 (by decide) (fun c_113 => ?_) (fun c_113 => ?_)
                  · refine lv_iload_n hx hb dX8_judge_119 rfl (lv_at hl 3 rfl) ?_
                    refine lv_iload hx hb dX8_judge_120 (lv_at hl 0 rfl) ?_
                    refine lv_iload hx hb dX8_judge_122 (lv_at hl 1 rfl) ?_
                    refine lv_bipush (v := 10) hx hb dX8_judge_124 rfl ?_
                    refine lv_irem hx hb dX8_judge_126 (by decide) ?_
                    obtain ⟨o_127, ho_127⟩ : ∃ z : Int32, z = v_X8_how ((x2 / 1000) - (x2 / 1000) / 10 * 10) := ⟨_, rfl⟩
                    refine callSIs (As := [.int ((x2 / 1000) - (x2 / 1000) / 10 * 10)]) (rest := [.int ((x2 / 1000) / 10), .int z46]) o_127 ho_127 hF (k_X8_how l D cI cZ ((x2 / 1000) - (x2 / 1000) / 10 * 10)) (va_cwS 1 hts gX8_judge_X8_how rfl rfl rfl (by decide +kernel) ⟨Nat.le_of_ble_eq_true rfl, Nat.le_of_ble_eq_true rfl⟩) hK hN hP (va_Dsame hD rfl) hS hA [] rfl rfl rfl hl.1 rfl (Nat.le_of_ble_eq_true rfl) dX8_judge_127 ⟨Nat.zero_le _, Nat.zero_le _⟩ o_127 rfl rfl (fun H locs hP hS => ?_)
                    obtain ⟨o_130, ho_130⟩ : ∃ z : Int32, z = v_X8_movedHanging z46 ((x2 / 1000) / 10) o_127 := ⟨_, rfl⟩
                    refine callSIs (As := [.int z46, .int ((x2 / 1000) / 10), .int o_127]) (rest := []) o_130 ho_130 hF (k_X8_movedHanging l D cI cZ z46 ((x2 / 1000) / 10) o_127) (va_cwS 3 hts gX8_judge_X8_movedHanging rfl rfl rfl (by decide +kernel) ⟨Nat.le_of_ble_eq_true rfl, Nat.le_of_ble_eq_true rfl⟩) hK hN hP (va_Dsame hD rfl) hS hA [] rfl rfl rfl hl.1 rfl (Nat.le_of_ble_eq_true rfl) dX8_judge_130 ⟨Nat.zero_le _, Nat.zero_le _⟩ o_130 rfl rfl (fun H locs hP hS => ?_)
                    refine lv_istore_n (lv' := [(3, .int o_130), (6, .int ((x2 / 1000) / 10)), (5, .int (x2 / 1000)), (4, .int (nI i46)), (1, .int x1), (2, .int x2)]) hx hb dX8_judge_133 rfl hl (by decide) rfl (fun ls hl => ?_)
                    refine lv_iinc (v := (nI (i46 + 1))) (lv' := [(4, .int (nI (i46 + 1))), (3, .int o_130), (6, .int ((x2 / 1000) / 10)), (5, .int (x2 / 1000)), (1, .int x1), (2, .int x2)]) hx hb dX8_judge_134 hl (k := 3) rfl (nI_1 _) (by decide) rfl (fun ls hl => ?_)
                    refine lv_goto (tgt := 46) hx hb dX8_judge_137 (by decide) ?_
                    have e8 : v_X8_judge_L46 x1 x2 i46 z46 = .inl o_130 := by
                      refine (if_neg c_57).trans ?_
                      refine (bnd_eq ho_84).trans ?_
                      refine (if_neg c_87).trans ?_
                      refine (if_neg c_96).trans ?_
                      refine (bnd_eq ho_107).trans ?_
                      refine (bnd_eq ho_110).trans ?_
                      refine (if_neg c_113).trans ?_
                      refine (bnd_eq ho_127).trans ?_
                      refine (bnd_eq ho_130).trans ?_
                      rfl
                    exact ih (i46 + 1) o_130 (by omega) (by omega) ((itx_go e8).symm.trans hz) _ _ _ hP hS (lv_sub hl [0, 1, 4, 5] rfl)
                  · refine lv_iload hx hb dX8_judge_116 (lv_at hl 2 rfl) ?_
                    have e8 : v_X8_judge_L46 x1 x2 i46 z46 = .inr (nI i46) := by
                      refine (if_neg c_57).trans ?_
                      refine (bnd_eq ho_84).trans ?_
                      refine (if_neg c_87).trans ?_
                      refine (if_neg c_96).trans ?_
                      refine (bnd_eq ho_107).trans ?_
                      refine (bnd_eq ho_110).trans ?_
                      refine (if_pos c_113).trans ?_
                      rfl
                    have e7 : .inr (nI i46) = o_L46 := (itx_out e8).symm.trans hz
                    have e9 : v_X8_judge x1 x2 i_hung = nI i46 := by
                      refine (bnd_eq ho_6).trans ?_
                      refine (if_neg c_9).trans ?_
                      refine (if_pos c_17).trans ?_
                      refine (bnd_eq ho_29).trans ?_
                      refine (if_neg c_32).trans ?_
                      refine (mch_eq ho_L46).trans ?_
                      rw [← e7]; rfl
                    rw [hQ]; exact retI (nI i46) hx hb hr hlk e9 hP rfl hS dX8_judge_118
            · refine lv_iload_n hx hb dX8_judge_60 rfl (lv_at hl 3 rfl) ?_
              refine lv_sipush (v := 1000) hx hb dX8_judge_61 rfl ?_
              refine lv_irem hx hb dX8_judge_64 (by decide) ?_
              refine lv_goto (tgt := 73) hx hb dX8_judge_65 (by decide) ?_
              refine lv_istore (lv' := [(5, .int (x2 - x2 / 1000 * 1000)), (4, .int (nI i46)), (3, .int z46), (1, .int x1), (2, .int x2)]) hx hb dX8_judge_73 hl (by decide) rfl (fun ls hl => ?_)
              refine lv_iload hx hb dX8_judge_75 (lv_at hl 0 rfl) ?_
              refine lv_bipush (v := 10) hx hb dX8_judge_77 rfl ?_
              refine lv_idiv hx hb dX8_judge_79 (by decide) ?_
              refine lv_istore (lv' := [(6, .int ((x2 - x2 / 1000 * 1000) / 10)), (5, .int (x2 - x2 / 1000 * 1000)), (4, .int (nI i46)), (3, .int z46), (1, .int x1), (2, .int x2)]) hx hb dX8_judge_80 hl (by decide) rfl (fun ls hl => ?_)
              refine lv_iload hx hb dX8_judge_82 (lv_at hl 0 rfl) ?_
              obtain ⟨o_84, ho_84⟩ : ∃ z : Bool, z = v_X8_isCell ((x2 - x2 / 1000 * 1000) / 10) := ⟨_, rfl⟩
              refine callSIs (As := [.int ((x2 - x2 / 1000 * 1000) / 10)]) (rest := []) o_84 ho_84 hF (k_X8_isCell l D cI cZ ((x2 - x2 / 1000 * 1000) / 10)) (va_cwS 1 hts gX8_judge_X8_isCell rfl rfl rfl (by decide +kernel) ⟨Nat.le_of_ble_eq_true rfl, Nat.le_of_ble_eq_true rfl⟩) hK hN hP (va_Dsame hD rfl) hS hA [] rfl rfl rfl hl.1 rfl (Nat.le_of_ble_eq_true rfl) dX8_judge_84 ⟨Nat.zero_le _, Nat.zero_le _⟩ (bI o_84) rfl rfl (fun H locs hP hS => ?_)
              refine lv_if_eq (tgt := 116) hx hb dX8_judge_87 (by decide) (fun c_87 => ?_) (fun c_87 => ?_)
              · refine lv_iload hx hb dX8_judge_116 (lv_at hl 2 rfl) ?_
                have e8 : v_X8_judge_L46 x1 x2 i46 z46 = .inr (nI i46) := by
                  refine (if_pos c_57).trans ?_
                  refine (bnd_eq ho_84).trans ?_
                  refine (if_pos c_87).trans ?_
                  rfl
                have e7 : .inr (nI i46) = o_L46 := (itx_out e8).symm.trans hz
                have e9 : v_X8_judge x1 x2 i_hung = nI i46 := by
                  refine (bnd_eq ho_6).trans ?_
                  refine (if_neg c_9).trans ?_
                  refine (if_pos c_17).trans ?_
                  refine (bnd_eq ho_29).trans ?_
                  refine (if_neg c_32).trans ?_
                  refine (mch_eq ho_L46).trans ?_
                  rw [← e7]; rfl
                rw [hQ]; exact retI (nI i46) hx hb hr hlk e9 hP rfl hS dX8_judge_118
              · refine lv_iload hx hb dX8_judge_90 (lv_at hl 1 rfl) ?_
                refine lv_bipush (v := 10) hx hb dX8_judge_92 rfl ?_
                refine lv_irem hx hb dX8_judge_94 (by decide) ?_
                refine lv_iconst (v := 2) hx hb dX8_judge_95 rfl ?_
                refine lv_icmp_gt (tgt := 116) hx hb dX8_judge_96 (by decide) (fun c_96 => ?_) (fun c_96 => ?_)
                · refine lv_iload hx hb dX8_judge_116 (lv_at hl 2 rfl) ?_
                  have e8 : v_X8_judge_L46 x1 x2 i46 z46 = .inr (nI i46) := by
                    refine (if_pos c_57).trans ?_
                    refine (bnd_eq ho_84).trans ?_
                    refine (if_neg c_87).trans ?_
                    refine (if_pos c_96).trans ?_
                    rfl
                  have e7 : .inr (nI i46) = o_L46 := (itx_out e8).symm.trans hz
                  have e9 : v_X8_judge x1 x2 i_hung = nI i46 := by
                    refine (bnd_eq ho_6).trans ?_
                    refine (if_neg c_9).trans ?_
                    refine (if_pos c_17).trans ?_
                    refine (bnd_eq ho_29).trans ?_
                    refine (if_neg c_32).trans ?_
                    refine (mch_eq ho_L46).trans ?_
                    rw [← e7]; rfl
                  rw [hQ]; exact retI (nI i46) hx hb hr hlk e9 hP rfl hS dX8_judge_118
                · refine lv_iload_n hx hb dX8_judge_99 rfl (lv_at hl 3 rfl) ?_
                  refine lv_iload hx hb dX8_judge_100 (lv_at hl 0 rfl) ?_
                  refine lv_iload hx hb dX8_judge_102 (lv_at hl 1 rfl) ?_
                  refine lv_bipush (v := 10) hx hb dX8_judge_104 rfl ?_
                  refine lv_irem hx hb dX8_judge_106 (by decide) ?_
                  obtain ⟨o_107, ho_107⟩ : ∃ z : Int32, z = v_X8_how ((x2 - x2 / 1000 * 1000) - (x2 - x2 / 1000 * 1000) / 10 * 10) := ⟨_, rfl⟩
                  refine callSIs (As := [.int ((x2 - x2 / 1000 * 1000) - (x2 - x2 / 1000 * 1000) / 10 * 10)]) (rest := [.int ((x2 - x2 / 1000 * 1000) / 10), .int z46]) o_107 ho_107 hF (k_X8_how l D cI cZ ((x2 - x2 / 1000 * 1000) - (x2 - x2 / 1000 * 1000) / 10 * 10)) (va_cwS 1 hts gX8_judge_X8_how rfl rfl rfl (by decide +kernel) ⟨Nat.le_of_ble_eq_true rfl, Nat.le_of_ble_eq_true rfl⟩) hK hN hP (va_Dsame hD rfl) hS hA [] rfl rfl rfl hl.1 rfl (Nat.le_of_ble_eq_true rfl) dX8_judge_107 ⟨Nat.zero_le _, Nat.zero_le _⟩ o_107 rfl rfl (fun H locs hP hS => ?_)
                  obtain ⟨o_110, ho_110⟩ : ∃ z : Bool, z = v_X8_canMove z46 ((x2 - x2 / 1000 * 1000) / 10) o_107 := ⟨_, rfl⟩
                  refine callSIs (As := [.int z46, .int ((x2 - x2 / 1000 * 1000) / 10), .int o_107]) (rest := []) o_110 ho_110 hF (k_X8_canMove l D cI cZ z46 ((x2 - x2 / 1000 * 1000) / 10) o_107) (va_cwS 3 hts gX8_judge_X8_canMove rfl rfl rfl (by decide +kernel) ⟨Nat.le_of_ble_eq_true rfl, Nat.le_of_ble_eq_true rfl⟩) hK hN hP (va_Dsame hD rfl) hS hA [] rfl rfl rfl hl.1 rfl (Nat.le_of_ble_eq_true rfl) dX8_judge_110 ⟨Nat.zero_le _, Nat.zero_le _⟩ (bI o_110) rfl rfl (fun H locs hP hS => ?_)
                  refine lv_if_ne (tgt := 119) hx hb dX8_judge_113 (by decide) (fun c_113 => ?_) (fun c_113 => ?_)
                  · refine lv_iload_n hx hb dX8_judge_119 rfl (lv_at hl 3 rfl) ?_
                    refine lv_iload hx hb dX8_judge_120 (lv_at hl 0 rfl) ?_
                    refine lv_iload hx hb dX8_judge_122 (lv_at hl 1 rfl) ?_
                    refine lv_bipush (v := 10) hx hb dX8_judge_124 rfl ?_
                    refine lv_irem hx hb dX8_judge_126 (by decide) ?_
                    obtain ⟨o_127, ho_127⟩ : ∃ z : Int32, z = v_X8_how ((x2 - x2 / 1000 * 1000) - (x2 - x2 / 1000 * 1000) / 10 * 10) := ⟨_, rfl⟩
                    refine callSIs (As := [.int ((x2 - x2 / 1000 * 1000) - (x2 - x2 / 1000 * 1000) / 10 * 10)]) (rest := [.int ((x2 - x2 / 1000 * 1000) / 10), .int z46]) o_127 ho_127 hF (k_X8_how l D cI cZ ((x2 - x2 / 1000 * 1000) - (x2 - x2 / 1000 * 1000) / 10 * 10)) (va_cwS 1 hts gX8_judge_X8_how rfl rfl rfl (by decide +kernel) ⟨Nat.le_of_ble_eq_true rfl, Nat.le_of_ble_eq_true rfl⟩) hK hN hP (va_Dsame hD rfl) hS hA [] rfl rfl rfl hl.1 rfl (Nat.le_of_ble_eq_true rfl) dX8_judge_127 ⟨Nat.zero_le _, Nat.zero_le _⟩ o_127 rfl rfl (fun H locs hP hS => ?_)
                    obtain ⟨o_130, ho_130⟩ : ∃ z : Int32, z = v_X8_movedHanging z46 ((x2 - x2 / 1000 * 1000) / 10) o_127 := ⟨_, rfl⟩
                    refine callSIs (As := [.int z46, .int ((x2 - x2 / 1000 * 1000) / 10), .int o_127]) (rest := []) o_130 ho_130 hF (k_X8_movedHanging l D cI cZ z46 ((x2 - x2 / 1000 * 1000) / 10) o_127) (va_cwS 3 hts gX8_judge_X8_movedHanging rfl rfl rfl (by decide +kernel) ⟨Nat.le_of_ble_eq_true rfl, Nat.le_of_ble_eq_true rfl⟩) hK hN hP (va_Dsame hD rfl) hS hA [] rfl rfl rfl hl.1 rfl (Nat.le_of_ble_eq_true rfl) dX8_judge_130 ⟨Nat.zero_le _, Nat.zero_le _⟩ o_130 rfl rfl (fun H locs hP hS => ?_)
                    refine lv_istore_n (lv' := [(3, .int o_130), (6, .int ((x2 - x2 / 1000 * 1000) / 10)), (5, .int (x2 - x2 / 1000 * 1000)), (4, .int (nI i46)), (1, .int x1), (2, .int x2)]) hx hb dX8_judge_133 rfl hl (by decide) rfl (fun ls hl => ?_)
                    refine lv_iinc (v := (nI (i46 + 1))) (lv' := [(4, .int (nI (i46 + 1))), (3, .int o_130), (6, .int ((x2 - x2 / 1000 * 1000) / 10)), (5, .int (x2 - x2 / 1000 * 1000)), (1, .int x1), (2, .int x2)]) hx hb dX8_judge_134 hl (k := 3) rfl (nI_1 _) (by decide) rfl (fun ls hl => ?_)
                    refine lv_goto (tgt := 46) hx hb dX8_judge_137 (by decide) ?_
                    have e8 : v_X8_judge_L46 x1 x2 i46 z46 = .inl o_130 := by
                      refine (if_pos c_57).trans ?_
                      refine (bnd_eq ho_84).trans ?_
                      refine (if_neg c_87).trans ?_
                      refine (if_neg c_96).trans ?_
                      refine (bnd_eq ho_107).trans ?_
                      refine (bnd_eq ho_110).trans ?_
                      refine (if_neg c_113).trans ?_
                      refine (bnd_eq ho_127).trans ?_
                      refine (bnd_eq ho_130).trans ?_
                      rfl
                    exact ih (i46 + 1) o_130 (by omega) (by omega) ((itx_go e8).symm.trans hz) _ _ _ hP hS (lv_sub hl [0, 1, 4, 5] rfl)
                  · refine lv_iload hx hb dX8_judge_116 (lv_at hl 2 rfl) ?_
                    have e8 : v_X8_judge_L46 x1 x2 i46 z46 = .inr (nI i46) := by
                      refine (if_pos c_57).trans ?_
                      refine (bnd_eq ho_84).trans ?_
                      refine (if_neg c_87).trans ?_
                      refine (if_neg c_96).trans ?_
                      refine (bnd_eq ho_107).trans ?_
                      refine (bnd_eq ho_110).trans ?_
                      refine (if_pos c_113).trans ?_
                      rfl
                    have e7 : .inr (nI i46) = o_L46 := (itx_out e8).symm.trans hz
                    have e9 : v_X8_judge x1 x2 i_hung = nI i46 := by
                      refine (bnd_eq ho_6).trans ?_
                      refine (if_neg c_9).trans ?_
                      refine (if_pos c_17).trans ?_
                      refine (bnd_eq ho_29).trans ?_
                      refine (if_neg c_32).trans ?_
                      refine (mch_eq ho_L46).trans ?_
                      rw [← e7]; rfl
                    rw [hQ]; exact retI (nI i46) hx hb hr hlk e9 hP rfl hS dX8_judge_118
        exact loop46 x1.toNatClampNeg 0 i_hung (Nat.le_refl _) rfl ho_L46.symm _ _ _ hP hS (lv_sub hl [0, 1, 3, 4] rfl)
      · refine lv_bipush (v := (-2)) hx hb dX8_judge_35 rfl ?_
        have e9 : v_X8_judge x1 x2 i_hung = (-2) := by
          refine (bnd_eq ho_6).trans ?_
          refine (if_neg c_9).trans ?_
          refine (if_pos c_17).trans ?_
          refine (bnd_eq ho_29).trans ?_
          refine (if_pos c_32).trans ?_
          rfl
        rw [hQ]; exact retI (-2) hx hb hr hlk e9 hP rfl hS dX8_judge_37
def v_X8_isHanging (x0 : Int32) : Bool :=
  bnd (v_X8_in x0.toInt64 0 4095) fun o_6 =>
  (if bI o_6 = 0 then false
  else (bnd (v_X8_ones x0) fun o_13 =>
  (if 5 < o_13 then false
  else true)))
abbrev rm_X8_isHanging : Room := { frames := 1, cells := 0, slots := 0, locals := 25 }
set_option maxHeartbeats 4000000 in
set_option maxRecDepth 100000 in
theorem k_X8_isHanging (l : Launch) (D : va_G) (cI cZ : ClassId) (x0 : Int32) : KI l D cI cZ yX8_isHanging wsX8_isHanging rm_X8_isHanging [.int x0] [] (v_X8_isHanging x0) (fun o : Bool => bI o) (fun _ : Bool => []) := by
  refine KI.of cX8_isHanging 1 (some .boolean) (by decide) rfl (Nat.le_of_ble_eq_true rfl) ?_
  intro p e s m below meth c A ls ar Q hQ B
  obtain ⟨hx, hb, hr, hml, hts, hown, hlk, hK, hN, hP, hD, hA, hS, hl⟩ := B
  have hown : s.vm.findClass RX8 = some m.cls := hown
  have hF : CallFix p m c cX8_isHanging 1 s ar wsX8_isHanging RX8 := ⟨hx, hb, hml, hown, hts⟩
  have hl : lv_has ls 1 [(0, .int x0)] := hl
  refine lv_iload_n hx hb dX8_isHanging_0 rfl (lv_at hl 0 rfl) ?_
  refine lv_i2l (v := x0.toInt64) hx hb dX8_isHanging_1 rfl ?_
  refine lv_lconst (v := 0) hx hb dX8_isHanging_2 rfl ?_
  refine lv_ldc2 (v := 4095) hx hb hown (hts _ (List.mem_of_getElem? (i := 1) rfl)) dX8_isHanging_3 ?_
  obtain ⟨o_6, ho_6⟩ : ∃ z : Bool, z = v_X8_in x0.toInt64 0 4095 := ⟨_, rfl⟩
  refine callSIs (As := [.long x0.toInt64, .long 0, .long 4095]) (rest := []) o_6 ho_6 hF (k_X8_in l D cI cZ x0.toInt64 0 4095) (va_cwS 3 hts gX8_isHanging_X8_in rfl rfl rfl (by decide +kernel) ⟨Nat.le_of_ble_eq_true rfl, Nat.le_of_ble_eq_true rfl⟩) hK hN hP (va_Dsame hD rfl) hS hA [] rfl rfl rfl hl.1 rfl (Nat.le_of_ble_eq_true rfl) dX8_isHanging_6 ⟨Nat.zero_le _, Nat.zero_le _⟩ (bI o_6) rfl rfl (fun H locs hP hS => ?_)
  refine lv_if_eq (tgt := 24) hx hb dX8_isHanging_9 (by decide) (fun c_9 => ?_) (fun c_9 => ?_)
  · refine lv_iconst (v := 0) hx hb dX8_isHanging_24 rfl ?_
    have e9 : v_X8_isHanging x0 = false := by
      refine (bnd_eq ho_6).trans ?_
      refine (if_pos c_9).trans ?_
      rfl
    rw [hQ]; exact retZ (v := fun o : Bool => o) false hx hb hr hlk e9 hP rfl hS dX8_isHanging_25
  · refine lv_iload_n hx hb dX8_isHanging_12 rfl (lv_at hl 0 rfl) ?_
    obtain ⟨o_13, ho_13⟩ : ∃ z : Int32, z = v_X8_ones x0 := ⟨_, rfl⟩
    refine callSIs (As := [.int x0]) (rest := []) o_13 ho_13 hF (k_X8_ones l D cI cZ x0) (va_cwS 1 hts gX8_isHanging_X8_ones rfl rfl rfl (by decide +kernel) ⟨Nat.le_of_ble_eq_true rfl, Nat.le_of_ble_eq_true rfl⟩) hK hN hP (va_Dsame hD rfl) hS hA [] rfl rfl rfl hl.1 rfl (Nat.le_of_ble_eq_true rfl) dX8_isHanging_13 ⟨Nat.zero_le _, Nat.zero_le _⟩ o_13 rfl rfl (fun H locs hP hS => ?_)
    refine lv_iconst (v := 5) hx hb dX8_isHanging_16 rfl ?_
    refine lv_icmp_gt (tgt := 24) hx hb dX8_isHanging_17 (by decide) (fun c_17 => ?_) (fun c_17 => ?_)
    · refine lv_iconst (v := 0) hx hb dX8_isHanging_24 rfl ?_
      have e9 : v_X8_isHanging x0 = false := by
        refine (bnd_eq ho_6).trans ?_
        refine (if_neg c_9).trans ?_
        refine (bnd_eq ho_13).trans ?_
        refine (if_pos c_17).trans ?_
        rfl
      rw [hQ]; exact retZ (v := fun o : Bool => o) false hx hb hr hlk e9 hP rfl hS dX8_isHanging_25
    · refine lv_iconst (v := 1) hx hb dX8_isHanging_20 rfl ?_
      refine lv_goto (tgt := 25) hx hb dX8_isHanging_21 (by decide) ?_
      have e9 : v_X8_isHanging x0 = true := by
        refine (bnd_eq ho_6).trans ?_
        refine (if_neg c_9).trans ?_
        refine (bnd_eq ho_13).trans ?_
        refine (if_neg c_17).trans ?_
        rfl
      rw [hQ]; exact retZ (v := fun o : Bool => o) true hx hb hr hlk e9 hP rfl hS dX8_isHanging_25
theorem isHanging_le {x : Int32} {o : Bool} (ho : o = v_X8_isHanging x) (h : ¬ bI o = 0) : ∃ j : Nat, j ≤ 5 ∧ v_X8_ones x = nI j := by
  cases o with
  | false => exact absurd rfl h
  | true =>
    obtain ⟨j, hj, e⟩ := ones_12 x
    unfold v_X8_isHanging at ho
    simp only [bnd] at ho
    split at ho
    · cases ho
    · split at ho
      · cases ho
      · rename_i h2
        rw [e] at h2
        exact ⟨j, by
          by_cases q : j ≤ 5
          · exact q
          · exact absurd (nI_lt (a := 5) (b := j) (by omega) (by omega)) h2, e⟩
theorem fl5 {x a n : Int32} {o : Bool} (ho : o = v_X8_isHanging x) (h : ¬ bI o = 0) (ha : a = v_X8_ones x) (hn : a = n) : ∃ j : Nat, j ≤ 5 ∧ n = nI j := by
  rw [← hn, ha]; exact isHanging_le ho h
def v_X8_worth (x1 : Int32) (i_wishes : Int32) (f_told : Nat → Int32) : Int32 :=
  bnd (v_X8_isHanging x1) fun o_1 =>
  (if bI o_1 = 0 then (-2)
  else (bnd (v_X8_granted x1 i_wishes f_told) fun o_10 =>
  (bnd (v_X8_worthOf o_10 i_wishes f_told) fun o_13 =>
  o_13)))
abbrev rm_X8_worth : Room := { frames := 5, cells := 0, slots := 0, locals := 113 }
set_option maxHeartbeats 4000000 in
set_option maxRecDepth 100000 in
theorem k_X8_worth (l : Launch) (D : va_G) (cI cZ : ClassId) (a a_readWishes a_readOwed a_told a_owed a_text a_row a_least a_values a_tellPlace a_tellHour a_tellDark a_isKept a_kept : Nat) (x1 : Int32) (i_readHung : Int32) (i_readMany : Int32) (i_readOwes : Int32) (i_wishes : Int32) (i_hung : Int32) (i_hour : Int32) (i_length : Int32) (i_at : Int32) (i_faultAt : Int32) (i_acts : Int32) (i_next : Int32) (i_tells : Int32) (j_seed : Int64) (f_told : Nat → Int32) (hw : ∃ k : Nat, k ≤ 5 ∧ i_wishes = nI k) : KI l D cI cZ yX8_worth wsX8_worth rm_X8_worth [.ref a, .int x1] [(a, .inr (8, [.ref a_readWishes, .ref a_readOwed, .int i_readHung, .int i_readMany, .int i_readOwes, .ref a_told, .ref a_owed, .int i_wishes, .int i_hung, .int i_hour, .ref a_text, .int i_length, .int i_at, .int i_faultAt, .int i_acts, .int i_next, .ref a_row, .ref a_least, .ref a_values, .int i_tells, .ref a_tellPlace, .ref a_tellHour, .ref a_tellDark, .long j_seed, .ref a_isKept, .ref a_kept])), (a_told, .inl (cI, 25, .inl f_told))] (v_X8_worth x1 i_wishes f_told) (fun o : Int32 => o) (fun _ : Int32 => [(a, .inr (8, [.ref a_readWishes, .ref a_readOwed, .int i_readHung, .int i_readMany, .int i_readOwes, .ref a_told, .ref a_owed, .int i_wishes, .int i_hung, .int i_hour, .ref a_text, .int i_length, .int i_at, .int i_faultAt, .int i_acts, .int i_next, .ref a_row, .ref a_least, .ref a_values, .int i_tells, .ref a_tellPlace, .ref a_tellHour, .ref a_tellDark, .long j_seed, .ref a_isKept, .ref a_kept])), (a_told, .inl (cI, 25, .inl f_told))]) := by
  refine KI.of cX8_worth 2 (some .int) (by decide) rfl (Nat.le_of_ble_eq_true rfl) ?_
  intro p e s m below meth c A ls ar Q hQ B
  obtain ⟨hx, hb, hr, hml, hts, hown, hlk, hK, hN, hP, hD, hA, hS, hl⟩ := B
  have hown : s.vm.findClass RX8 = some m.cls := hown
  have hF : CallFix p m c cX8_worth 2 s ar wsX8_worth RX8 := ⟨hx, hb, hml, hown, hts⟩
  have hl : lv_has ls 2 [(0, .ref a), (1, .int x1)] := hl
  refine lv_iload_n hx hb dX8_worth_0 rfl (lv_at hl 1 rfl) ?_
  obtain ⟨o_1, ho_1⟩ : ∃ z : Bool, z = v_X8_isHanging x1 := ⟨_, rfl⟩
  refine callSIs (As := [.int x1]) (rest := []) o_1 ho_1 hF (k_X8_isHanging l D cI cZ x1) (va_cwS 1 hts gX8_worth_X8_isHanging rfl rfl rfl (by decide +kernel) ⟨Nat.le_of_ble_eq_true rfl, Nat.le_of_ble_eq_true rfl⟩) hK hN hP (va_Dsame hD rfl) hS hA [] rfl rfl rfl hl.1 rfl (Nat.le_of_ble_eq_true rfl) dX8_worth_1 ⟨Nat.zero_le _, Nat.zero_le _⟩ (bI o_1) rfl rfl (fun H locs hP hS => ?_)
  refine lv_if_eq (tgt := 19) hx hb dX8_worth_4 (by decide) (fun c_4 => ?_) (fun c_4 => ?_)
  · refine lv_bipush (v := (-2)) hx hb dX8_worth_19 rfl ?_
    have e9 : v_X8_worth x1 i_wishes f_told = (-2) := by
      refine (bnd_eq ho_1).trans ?_
      refine (if_pos c_4).trans ?_
      rfl
    rw [hQ]; exact retI (-2) hx hb hr hlk e9 hP rfl hS dX8_worth_21
  · refine lv_aload_n hx hb dX8_worth_7 rfl (lv_at hl 0 rfl) ?_
    refine lv_aload_n hx hb dX8_worth_8 rfl (lv_at hl 0 rfl) ?_
    refine lv_iload_n hx hb dX8_worth_9 rfl (lv_at hl 1 rfl) ?_
    obtain ⟨o_10, ho_10⟩ : ∃ z : Int32, z = v_X8_granted x1 i_wishes f_told := ⟨_, rfl⟩
    refine callVIs (As := [.int x1]) (rest := [.ref a]) o_10 ho_10 hF (k_X8_granted l D cI cZ a a_readWishes a_readOwed a_told a_owed a_text a_row a_least a_values a_tellPlace a_tellHour a_tellDark a_isKept a_kept x1 i_readHung i_readMany i_readOwes i_wishes i_hung i_hour i_length i_at i_faultAt i_acts i_next i_tells j_seed f_told (hw)) (cwV 1 hts gX8_worth_X8_granted rfl rfl rfl (by decide +kernel) ⟨Nat.le_of_ble_eq_true rfl, Nat.le_of_ble_eq_true rfl⟩) hK hN hP (va_Dsame hD rfl) hS hA [0, 1] rfl rfl 0 8 (T := TX8) (N := 26) rfl rfl rfl hl.1 rfl (Nat.le_of_ble_eq_true rfl) dX8_worth_10 ⟨Nat.zero_le _, Nat.zero_le _⟩ o_10 rfl rfl (fun H locs hP hS => ?_)
    obtain ⟨o_13, ho_13⟩ : ∃ z : Int32, z = v_X8_worthOf o_10 i_wishes f_told := ⟨_, rfl⟩
    refine callVIs (As := [.int o_10]) (rest := []) o_13 ho_13 hF (k_X8_worthOf l D cI cZ a a_readWishes a_readOwed a_told a_owed a_text a_row a_least a_values a_tellPlace a_tellHour a_tellDark a_isKept a_kept o_10 i_readHung i_readMany i_readOwes i_wishes i_hung i_hour i_length i_at i_faultAt i_acts i_next i_tells j_seed f_told (hw)) (cwV 1 hts gX8_worth_X8_worthOf rfl rfl rfl (by decide +kernel) ⟨Nat.le_of_ble_eq_true rfl, Nat.le_of_ble_eq_true rfl⟩) hK hN hP (va_Dsame hD rfl) hS hA [0, 1] rfl rfl 0 8 (T := TX8) (N := 26) rfl rfl rfl hl.1 rfl (Nat.le_of_ble_eq_true rfl) dX8_worth_13 ⟨Nat.zero_le _, Nat.zero_le _⟩ o_13 rfl rfl (fun H locs hP hS => ?_)
    refine lv_goto (tgt := 21) hx hb dX8_worth_16 (by decide) ?_
    have e9 : v_X8_worth x1 i_wishes f_told = o_13 := by
      refine (bnd_eq ho_1).trans ?_
      refine (if_neg c_4).trans ?_
      refine (bnd_eq ho_10).trans ?_
      refine (bnd_eq ho_13).trans ?_
      rfl
    rw [hQ]; exact retI o_13 hx hb hr hlk e9 hP rfl hS dX8_worth_21
def v_X8_lawful (x1 : Int32) (f_owed : Nat → Int32) : Int32 :=
  bnd (v_X8_isHanging x1) fun o_1 =>
  (if bI o_1 = 0 then (-2)
  else (bnd (v_X8_isLawful x1 f_owed) fun o_14 =>
  (if bI o_14 = 0 then 0
  else 1)))
abbrev rm_X8_lawful : Room := { frames := 4, cells := 0, slots := 0, locals := 89 }
set_option maxHeartbeats 4000000 in
set_option maxRecDepth 100000 in
theorem k_X8_lawful (l : Launch) (D : va_G) (cI cZ : ClassId) (a a_readWishes a_readOwed a_told a_owed a_text a_row a_least a_values a_tellPlace a_tellHour a_tellDark a_isKept a_kept : Nat) (x1 : Int32) (i_readHung : Int32) (i_readMany : Int32) (i_readOwes : Int32) (i_wishes : Int32) (i_hung : Int32) (i_hour : Int32) (i_length : Int32) (i_at : Int32) (i_faultAt : Int32) (i_acts : Int32) (i_next : Int32) (i_tells : Int32) (j_seed : Int64) (f_owed : Nat → Int32) : KI l D cI cZ yX8_lawful wsX8_lawful rm_X8_lawful [.ref a, .int x1] [(a, .inr (8, [.ref a_readWishes, .ref a_readOwed, .int i_readHung, .int i_readMany, .int i_readOwes, .ref a_told, .ref a_owed, .int i_wishes, .int i_hung, .int i_hour, .ref a_text, .int i_length, .int i_at, .int i_faultAt, .int i_acts, .int i_next, .ref a_row, .ref a_least, .ref a_values, .int i_tells, .ref a_tellPlace, .ref a_tellHour, .ref a_tellDark, .long j_seed, .ref a_isKept, .ref a_kept])), (a_owed, .inl (cI, 12, .inl f_owed))] (v_X8_lawful x1 f_owed) (fun o : Int32 => o) (fun _ : Int32 => [(a, .inr (8, [.ref a_readWishes, .ref a_readOwed, .int i_readHung, .int i_readMany, .int i_readOwes, .ref a_told, .ref a_owed, .int i_wishes, .int i_hung, .int i_hour, .ref a_text, .int i_length, .int i_at, .int i_faultAt, .int i_acts, .int i_next, .ref a_row, .ref a_least, .ref a_values, .int i_tells, .ref a_tellPlace, .ref a_tellHour, .ref a_tellDark, .long j_seed, .ref a_isKept, .ref a_kept])), (a_owed, .inl (cI, 12, .inl f_owed))]) := by
  refine KI.of cX8_lawful 2 (some .int) (by decide) rfl (Nat.le_of_ble_eq_true rfl) ?_
  intro p e s m below meth c A ls ar Q hQ B
  obtain ⟨hx, hb, hr, hml, hts, hown, hlk, hK, hN, hP, hD, hA, hS, hl⟩ := B
  have hown : s.vm.findClass RX8 = some m.cls := hown
  have hF : CallFix p m c cX8_lawful 2 s ar wsX8_lawful RX8 := ⟨hx, hb, hml, hown, hts⟩
  have hl : lv_has ls 2 [(0, .ref a), (1, .int x1)] := hl
  refine lv_iload_n hx hb dX8_lawful_0 rfl (lv_at hl 1 rfl) ?_
  obtain ⟨o_1, ho_1⟩ : ∃ z : Bool, z = v_X8_isHanging x1 := ⟨_, rfl⟩
  refine callSIs (As := [.int x1]) (rest := []) o_1 ho_1 hF (k_X8_isHanging l D cI cZ x1) (va_cwS 1 hts gX8_lawful_X8_isHanging rfl rfl rfl (by decide +kernel) ⟨Nat.le_of_ble_eq_true rfl, Nat.le_of_ble_eq_true rfl⟩) hK hN hP (va_Dsame hD rfl) hS hA [] rfl rfl rfl hl.1 rfl (Nat.le_of_ble_eq_true rfl) dX8_lawful_1 ⟨Nat.zero_le _, Nat.zero_le _⟩ (bI o_1) rfl rfl (fun H locs hP hS => ?_)
  refine lv_if_ne (tgt := 12) hx hb dX8_lawful_4 (by decide) (fun c_4 => ?_) (fun c_4 => ?_)
  · refine lv_aload_n hx hb dX8_lawful_12 rfl (lv_at hl 0 rfl) ?_
    refine lv_iload_n hx hb dX8_lawful_13 rfl (lv_at hl 1 rfl) ?_
    obtain ⟨o_14, ho_14⟩ : ∃ z : Bool, z = v_X8_isLawful x1 f_owed := ⟨_, rfl⟩
    refine callVIs (As := [.int x1]) (rest := []) o_14 ho_14 hF (k_X8_isLawful l D cI cZ a a_readWishes a_readOwed a_told a_owed a_text a_row a_least a_values a_tellPlace a_tellHour a_tellDark a_isKept a_kept x1 i_readHung i_readMany i_readOwes i_wishes i_hung i_hour i_length i_at i_faultAt i_acts i_next i_tells j_seed f_owed) (cwV 1 hts gX8_lawful_X8_isLawful rfl rfl rfl (by decide +kernel) ⟨Nat.le_of_ble_eq_true rfl, Nat.le_of_ble_eq_true rfl⟩) hK hN hP (va_Dsame hD rfl) hS hA [0, 1] rfl rfl 0 8 (T := TX8) (N := 26) rfl rfl rfl hl.1 rfl (Nat.le_of_ble_eq_true rfl) dX8_lawful_14 ⟨Nat.zero_le _, Nat.zero_le _⟩ (bI o_14) rfl rfl (fun H locs hP hS => ?_)
    refine lv_if_eq (tgt := 24) hx hb dX8_lawful_17 (by decide) (fun c_17 => ?_) (fun c_17 => ?_)
    · refine lv_iconst (v := 0) hx hb dX8_lawful_24 rfl ?_
      have e9 : v_X8_lawful x1 f_owed = 0 := by
        refine (bnd_eq ho_1).trans ?_
        refine (if_neg c_4).trans ?_
        refine (bnd_eq ho_14).trans ?_
        refine (if_pos c_17).trans ?_
        rfl
      rw [hQ]; exact retI 0 hx hb hr hlk e9 hP rfl hS dX8_lawful_25
    · refine lv_iconst (v := 1) hx hb dX8_lawful_20 rfl ?_
      refine lv_goto (tgt := 25) hx hb dX8_lawful_21 (by decide) ?_
      have e9 : v_X8_lawful x1 f_owed = 1 := by
        refine (bnd_eq ho_1).trans ?_
        refine (if_neg c_4).trans ?_
        refine (bnd_eq ho_14).trans ?_
        refine (if_neg c_17).trans ?_
        rfl
      rw [hQ]; exact retI 1 hx hb hr hlk e9 hP rfl hS dX8_lawful_25
  · refine lv_bipush (v := (-2)) hx hb dX8_lawful_7 rfl ?_
    refine lv_goto (tgt := 25) hx hb dX8_lawful_9 (by decide) ?_
    have e9 : v_X8_lawful x1 f_owed = (-2) := by
      refine (bnd_eq ho_1).trans ?_
      refine (if_pos c_4).trans ?_
      rfl
    rw [hQ]; exact retI (-2) hx hb hr hlk e9 hP rfl hS dX8_lawful_25
def v_X8_bestHanging_L9c (x1 : Int32) (i_wishes : Int32) (f_owed : Nat → Int32) (f_told : Nat → Int32) (i9 : Nat) (z9_1 : Int32) (z9_2 : Int32) : Int32 × Int32 :=
  bnd (v_X8_ones (nI i9)) fun o_19 =>
  (if x1 < o_19 then (z9_1, z9_2)
  else (bnd (v_X8_isLawful (nI i9) f_owed) fun o_33 =>
  (if bI o_33 = 0 then (z9_1, z9_2)
  else (bnd (v_X8_granted (nI i9) i_wishes f_told) fun o_43 =>
  (bnd (v_X8_worthOf o_43 i_wishes f_told) fun o_46 =>
  (if z9_1 < o_46 then (o_46, nI i9)
  else (if o_46 = z9_1 then (bnd (v_X8_ones z9_2) fun o_66 =>
    (if o_66 ≤ o_19 then (z9_1, z9_2)
    else (o_46, nI i9)))
  else (z9_1, z9_2))))))))
def v_X8_bestHanging_L9 (x1 : Int32) (i_wishes : Int32) (f_owed : Nat → Int32) (f_told : Nat → Int32) (i9 : Nat) (z9 : Int32 × Int32) : Int32 × Int32 := v_X8_bestHanging_L9c x1 i_wishes f_owed f_told i9 z9.1 z9.2
def v_X8_bestHanging (x1 : Int32) (i_wishes : Int32) (f_owed : Nat → Int32) (f_told : Nat → Int32) : Int32 :=
  bnd2 (it (v_X8_bestHanging_L9 x1 i_wishes f_owed f_told) 4096 0 ((-9), (-9))) fun o_L9_1 o_L9_2 =>
  o_L9_2
abbrev rm_X8_bestHanging : Room := { frames := 5, cells := 0, slots := 0, locals := 113 }
set_option maxHeartbeats 4000000 in
set_option maxRecDepth 100000 in
theorem k_X8_bestHanging (l : Launch) (D : va_G) (cI cZ : ClassId) (a a_readWishes a_readOwed a_told a_owed a_text a_row a_least a_values a_tellPlace a_tellHour a_tellDark a_isKept a_kept : Nat) (x1 : Int32) (i_readHung : Int32) (i_readMany : Int32) (i_readOwes : Int32) (i_wishes : Int32) (i_hung : Int32) (i_hour : Int32) (i_length : Int32) (i_at : Int32) (i_faultAt : Int32) (i_acts : Int32) (i_next : Int32) (i_tells : Int32) (j_seed : Int64) (f_owed : Nat → Int32) (f_told : Nat → Int32) (hw : ∃ k : Nat, k ≤ 5 ∧ i_wishes = nI k) : KI l D cI cZ yX8_bestHanging wsX8_bestHanging rm_X8_bestHanging [.ref a, .int x1] [(a, .inr (8, [.ref a_readWishes, .ref a_readOwed, .int i_readHung, .int i_readMany, .int i_readOwes, .ref a_told, .ref a_owed, .int i_wishes, .int i_hung, .int i_hour, .ref a_text, .int i_length, .int i_at, .int i_faultAt, .int i_acts, .int i_next, .ref a_row, .ref a_least, .ref a_values, .int i_tells, .ref a_tellPlace, .ref a_tellHour, .ref a_tellDark, .long j_seed, .ref a_isKept, .ref a_kept])), (a_owed, .inl (cI, 12, .inl f_owed)), (a_told, .inl (cI, 25, .inl f_told))] (v_X8_bestHanging x1 i_wishes f_owed f_told) (fun o : Int32 => o) (fun _ : Int32 => [(a, .inr (8, [.ref a_readWishes, .ref a_readOwed, .int i_readHung, .int i_readMany, .int i_readOwes, .ref a_told, .ref a_owed, .int i_wishes, .int i_hung, .int i_hour, .ref a_text, .int i_length, .int i_at, .int i_faultAt, .int i_acts, .int i_next, .ref a_row, .ref a_least, .ref a_values, .int i_tells, .ref a_tellPlace, .ref a_tellHour, .ref a_tellDark, .long j_seed, .ref a_isKept, .ref a_kept])), (a_owed, .inl (cI, 12, .inl f_owed)), (a_told, .inl (cI, 25, .inl f_told))]) := by
  refine KI.of cX8_bestHanging 8 (some .int) (by decide) rfl (Nat.le_of_ble_eq_true rfl) ?_
  intro p e s m below meth c A ls ar Q hQ B
  obtain ⟨hx, hb, hr, hml, hts, hown, hlk, hK, hN, hP, hD, hA, hS, hl⟩ := B
  have hown : s.vm.findClass RX8 = some m.cls := hown
  have hF : CallFix p m c cX8_bestHanging 8 s ar wsX8_bestHanging RX8 := ⟨hx, hb, hml, hown, hts⟩
  have hl : lv_has ls 8 [(0, .ref a), (1, .int x1)] := hl
  refine lv_bipush (v := (-9)) hx hb dX8_bestHanging_0 rfl ?_
  refine lv_istore_n (lv' := [(2, .int (-9)), (0, .ref a), (1, .int x1)]) hx hb dX8_bestHanging_2 rfl hl (by decide) rfl (fun ls hl => ?_)
  refine lv_bipush (v := (-9)) hx hb dX8_bestHanging_3 rfl ?_
  refine lv_istore_n (lv' := [(3, .int (-9)), (2, .int (-9)), (0, .ref a), (1, .int x1)]) hx hb dX8_bestHanging_5 rfl hl (by decide) rfl (fun ls hl => ?_)
  refine lv_iconst (v := 0) hx hb dX8_bestHanging_6 rfl ?_
  refine lv_istore (lv' := [(4, .int 0), (3, .int (-9)), (2, .int (-9)), (0, .ref a), (1, .int x1)]) hx hb dX8_bestHanging_7 hl (by decide) rfl (fun ls hl => ?_)
  obtain ⟨o_L9_1, o_L9_2, ho_L9⟩ := ex2 (it (v_X8_bestHanging_L9 x1 i_wishes f_owed f_told) 4096 0 ((-9), (-9)))
  have kE9 : ∀ (H : Heap) (locs : List Loc) (ls : Array Slot), va_P D vwCl [(a, .inr (8, [.ref a_readWishes, .ref a_readOwed, .int i_readHung, .int i_readMany, .int i_readOwes, .ref a_told, .ref a_owed, .int i_wishes, .int i_hung, .int i_hour, .ref a_text, .int i_length, .int i_at, .int i_faultAt, .int i_acts, .int i_next, .ref a_row, .ref a_least, .ref a_values, .int i_tells, .ref a_tellPlace, .ref a_tellHour, .ref a_tellDark, .long j_seed, .ref a_isKept, .ref a_kept])), (a_owed, .inl (cI, 12, .inl f_owed)), (a_told, .inl (cI, 25, .inl f_told))] H → va_S A s.heap H locs → lv_has ls 8 [(2, .int o_L9_2)] → W p l e rm_X8_bestHanging s m ar below meth c H locs 0 0 Q (F0 m 109 ls []) := by
    intro H locs ls hP hS hl
    refine lv_iload_n hx hb dX8_bestHanging_109 rfl (lv_at hl 0 rfl) ?_
    have e9 : v_X8_bestHanging x1 i_wishes f_owed f_told = o_L9_2 := by
      refine (bnd2_eq ho_L9).trans ?_
      rfl
    rw [hQ]; exact retI o_L9_2 hx hb hr hlk e9 hP rfl hS dX8_bestHanging_110
  have loop9 : ∀ (k i9 : Nat) (z9 : Int32 × Int32), 0 ≤ i9 → i9 + k = 0 + 4096 → it (v_X8_bestHanging_L9 x1 i_wishes f_owed f_told) k i9 z9 = (o_L9_1, o_L9_2) → ∀ (H : Heap) (locs : List Loc) (ls : Array Slot), va_P D vwCl [(a, .inr (8, [.ref a_readWishes, .ref a_readOwed, .int i_readHung, .int i_readMany, .int i_readOwes, .ref a_told, .ref a_owed, .int i_wishes, .int i_hung, .int i_hour, .ref a_text, .int i_length, .int i_at, .int i_faultAt, .int i_acts, .int i_next, .ref a_row, .ref a_least, .ref a_values, .int i_tells, .ref a_tellPlace, .ref a_tellHour, .ref a_tellDark, .long j_seed, .ref a_isKept, .ref a_kept])), (a_owed, .inl (cI, 12, .inl f_owed)), (a_told, .inl (cI, 25, .inl f_told))] H → va_S A s.heap H locs → lv_has ls 8 [(4, .int (nI i9)), (3, .int z9.1), (2, .int z9.2), (0, .ref a), (1, .int x1)] → W p l e rm_X8_bestHanging s m ar below meth c H locs 0 0 Q (F0 m 9 ls []) := by
    intro k
    induction k with
    | zero =>
      intro i9 z9 hi0 hik hz H locs ls hP hS hl
      have hz : z9 = (o_L9_1, o_L9_2) := it_0 hz
      subst z9
      have hP : va_P D vwCl [(a, .inr (8, [.ref a_readWishes, .ref a_readOwed, .int i_readHung, .int i_readMany, .int i_readOwes, .ref a_told, .ref a_owed, .int i_wishes, .int i_hung, .int i_hour, .ref a_text, .int i_length, .int i_at, .int i_faultAt, .int i_acts, .int i_next, .ref a_row, .ref a_least, .ref a_values, .int i_tells, .ref a_tellPlace, .ref a_tellHour, .ref a_tellDark, .long j_seed, .ref a_isKept, .ref a_kept])), (a_owed, .inl (cI, 12, .inl f_owed)), (a_told, .inl (cI, 25, .inl f_told))] H := hP
      have hl : lv_has ls 8 [(4, .int (nI i9)), (3, .int o_L9_1), (2, .int o_L9_2), (0, .ref a), (1, .int x1)] := hl
      refine lv_iload hx hb dX8_bestHanging_9 (lv_at hl 0 rfl) ?_
      refine lv_sipush (v := 4096) hx hb dX8_bestHanging_11 rfl ?_
      refine lv_icmp_ge (tgt := 109) hx hb dX8_bestHanging_14 (by decide) (fun _ => ?_) (fun c => absurd (nI_le (a := 4096) (by omega) (by omega)) c)
      exact kE9 _ _ _ hP hS (lv_sub hl [2] rfl)
    | succ k ih =>
      intro i9 z9 hi0 hik hz H locs ls hP hS hl
      obtain ⟨z9_1, z9_2⟩ := z9
      have hP : va_P D vwCl [(a, .inr (8, [.ref a_readWishes, .ref a_readOwed, .int i_readHung, .int i_readMany, .int i_readOwes, .ref a_told, .ref a_owed, .int i_wishes, .int i_hung, .int i_hour, .ref a_text, .int i_length, .int i_at, .int i_faultAt, .int i_acts, .int i_next, .ref a_row, .ref a_least, .ref a_values, .int i_tells, .ref a_tellPlace, .ref a_tellHour, .ref a_tellDark, .long j_seed, .ref a_isKept, .ref a_kept])), (a_owed, .inl (cI, 12, .inl f_owed)), (a_told, .inl (cI, 25, .inl f_told))] H := hP
      have hl : lv_has ls 8 [(4, .int (nI i9)), (3, .int z9_1), (2, .int z9_2), (0, .ref a), (1, .int x1)] := hl
      refine lv_iload hx hb dX8_bestHanging_9 (lv_at hl 0 rfl) ?_
      refine lv_sipush (v := 4096) hx hb dX8_bestHanging_11 rfl ?_
      refine lv_icmp_ge (tgt := 109) hx hb dX8_bestHanging_14 (by decide) (fun c => absurd c (nI_ge (b := 4096) (by omega) (by decide))) (fun _ => ?_)
      refine lv_iload hx hb dX8_bestHanging_17 (lv_at hl 0 rfl) ?_
      obtain ⟨o_19, ho_19⟩ : ∃ z : Int32, z = v_X8_ones (nI i9) := ⟨_, rfl⟩
      refine callSIs (As := [.int (nI i9)]) (rest := []) o_19 ho_19 hF (k_X8_ones l D cI cZ (nI i9)) (va_cwS 1 hts gX8_bestHanging_X8_ones rfl rfl rfl (by decide +kernel) ⟨Nat.le_of_ble_eq_true rfl, Nat.le_of_ble_eq_true rfl⟩) hK hN hP (va_Dsame hD rfl) hS hA [] rfl rfl rfl hl.1 rfl (Nat.le_of_ble_eq_true rfl) dX8_bestHanging_19 ⟨Nat.zero_le _, Nat.zero_le _⟩ o_19 rfl rfl (fun H locs hP hS => ?_)
      refine lv_istore (lv' := [(5, .int o_19), (4, .int (nI i9)), (3, .int z9_1), (2, .int z9_2), (0, .ref a), (1, .int x1)]) hx hb dX8_bestHanging_22 hl (by decide) rfl (fun ls hl => ?_)
      refine lv_iload hx hb dX8_bestHanging_24 (lv_at hl 0 rfl) ?_
      refine lv_iload_n hx hb dX8_bestHanging_26 rfl (lv_at hl 5 rfl) ?_
      refine lv_icmp_gt (tgt := 103) hx hb dX8_bestHanging_27 (by decide) (fun c_27 => ?_) (fun c_27 => ?_)
      · refine lv_iinc (v := (nI (i9 + 1))) (lv' := [(4, .int (nI (i9 + 1))), (5, .int o_19), (3, .int z9_1), (2, .int z9_2), (0, .ref a), (1, .int x1)]) hx hb dX8_bestHanging_103 hl (k := 1) rfl (nI_1 _) (by decide) rfl (fun ls hl => ?_)
        refine lv_goto (tgt := 9) hx hb dX8_bestHanging_106 (by decide) ?_
        have e8 : v_X8_bestHanging_L9 x1 i_wishes f_owed f_told i9 (z9_1, z9_2) = (z9_1, z9_2) := by
          show v_X8_bestHanging_L9c x1 i_wishes f_owed f_told i9 z9_1 z9_2 = (z9_1, z9_2)
          refine (bnd_eq ho_19).trans ?_
          refine (if_pos c_27).trans ?_
          rfl
        exact ih (i9 + 1) (z9_1, z9_2) (by omega) (by omega) (it_go e8 hz) _ _ _ hP hS (lv_sub hl [0, 2, 3, 4, 5] rfl)
      · refine lv_aload_n hx hb dX8_bestHanging_30 rfl (lv_at hl 4 rfl) ?_
        refine lv_iload hx hb dX8_bestHanging_31 (lv_at hl 1 rfl) ?_
        obtain ⟨o_33, ho_33⟩ : ∃ z : Bool, z = v_X8_isLawful (nI i9) f_owed := ⟨_, rfl⟩
        refine callVIs (As := [.int (nI i9)]) (rest := []) o_33 ho_33 hF (k_X8_isLawful l D cI cZ a a_readWishes a_readOwed a_told a_owed a_text a_row a_least a_values a_tellPlace a_tellHour a_tellDark a_isKept a_kept (nI i9) i_readHung i_readMany i_readOwes i_wishes i_hung i_hour i_length i_at i_faultAt i_acts i_next i_tells j_seed f_owed) (cwV 1 hts gX8_bestHanging_X8_isLawful rfl rfl rfl (by decide +kernel) ⟨Nat.le_of_ble_eq_true rfl, Nat.le_of_ble_eq_true rfl⟩) hK hN hP (va_Dsame hD rfl) hS hA [0, 1] rfl rfl 0 8 (T := TX8) (N := 26) rfl rfl rfl hl.1 rfl (Nat.le_of_ble_eq_true rfl) dX8_bestHanging_33 ⟨Nat.zero_le _, Nat.zero_le _⟩ (bI o_33) rfl rfl (fun H locs hP hS => ?_)
        refine lv_if_eq (tgt := 103) hx hb dX8_bestHanging_36 (by decide) (fun c_36 => ?_) (fun c_36 => ?_)
        · refine lv_iinc (v := (nI (i9 + 1))) (lv' := [(4, .int (nI (i9 + 1))), (5, .int o_19), (3, .int z9_1), (2, .int z9_2), (0, .ref a), (1, .int x1)]) hx hb dX8_bestHanging_103 hl (k := 1) rfl (nI_1 _) (by decide) rfl (fun ls hl => ?_)
          refine lv_goto (tgt := 9) hx hb dX8_bestHanging_106 (by decide) ?_
          have e8 : v_X8_bestHanging_L9 x1 i_wishes f_owed f_told i9 (z9_1, z9_2) = (z9_1, z9_2) := by
            show v_X8_bestHanging_L9c x1 i_wishes f_owed f_told i9 z9_1 z9_2 = (z9_1, z9_2)
            refine (bnd_eq ho_19).trans ?_
            refine (if_neg c_27).trans ?_
            refine (bnd_eq ho_33).trans ?_
            refine (if_pos c_36).trans ?_
            rfl
          exact ih (i9 + 1) (z9_1, z9_2) (by omega) (by omega) (it_go e8 hz) _ _ _ hP hS (lv_sub hl [0, 2, 3, 4, 5] rfl)
        · refine lv_aload_n hx hb dX8_bestHanging_39 rfl (lv_at hl 4 rfl) ?_
          refine lv_aload_n hx hb dX8_bestHanging_40 rfl (lv_at hl 4 rfl) ?_
          refine lv_iload hx hb dX8_bestHanging_41 (lv_at hl 1 rfl) ?_
          obtain ⟨o_43, ho_43⟩ : ∃ z : Int32, z = v_X8_granted (nI i9) i_wishes f_told := ⟨_, rfl⟩
          refine callVIs (As := [.int (nI i9)]) (rest := [.ref a]) o_43 ho_43 hF (k_X8_granted l D cI cZ a a_readWishes a_readOwed a_told a_owed a_text a_row a_least a_values a_tellPlace a_tellHour a_tellDark a_isKept a_kept (nI i9) i_readHung i_readMany i_readOwes i_wishes i_hung i_hour i_length i_at i_faultAt i_acts i_next i_tells j_seed f_told (hw)) (cwV 1 hts gX8_bestHanging_X8_granted rfl rfl rfl (by decide +kernel) ⟨Nat.le_of_ble_eq_true rfl, Nat.le_of_ble_eq_true rfl⟩) hK hN hP (va_Dsame hD rfl) hS hA [0, 2] rfl rfl 0 8 (T := TX8) (N := 26) rfl rfl rfl hl.1 rfl (Nat.le_of_ble_eq_true rfl) dX8_bestHanging_43 ⟨Nat.zero_le _, Nat.zero_le _⟩ o_43 rfl rfl (fun H locs hP hS => ?_)
          obtain ⟨o_46, ho_46⟩ : ∃ z : Int32, z = v_X8_worthOf o_43 i_wishes f_told := ⟨_, rfl⟩
          refine callVIs (As := [.int o_43]) (rest := []) o_46 ho_46 hF (k_X8_worthOf l D cI cZ a a_readWishes a_readOwed a_told a_owed a_text a_row a_least a_values a_tellPlace a_tellHour a_tellDark a_isKept a_kept o_43 i_readHung i_readMany i_readOwes i_wishes i_hung i_hour i_length i_at i_faultAt i_acts i_next i_tells j_seed f_told (hw)) (cwV 1 hts gX8_bestHanging_X8_worthOf rfl rfl rfl (by decide +kernel) ⟨Nat.le_of_ble_eq_true rfl, Nat.le_of_ble_eq_true rfl⟩) hK hN hP (va_Dsame hD rfl) hS hA [0, 2] rfl rfl 0 8 (T := TX8) (N := 26) rfl rfl rfl hl.1 rfl (Nat.le_of_ble_eq_true rfl) dX8_bestHanging_46 ⟨Nat.zero_le _, Nat.zero_le _⟩ o_46 rfl rfl (fun H locs hP hS => ?_)
          refine lv_istore (lv' := [(6, .int o_46), (5, .int o_19), (4, .int (nI i9)), (3, .int z9_1), (2, .int z9_2), (0, .ref a), (1, .int x1)]) hx hb dX8_bestHanging_49 hl (by decide) rfl (fun ls hl => ?_)
          refine lv_iload hx hb dX8_bestHanging_51 (lv_at hl 0 rfl) ?_
          refine lv_iload_n hx hb dX8_bestHanging_53 rfl (lv_at hl 3 rfl) ?_
          refine lv_icmp_gt (tgt := 72) hx hb dX8_bestHanging_54 (by decide) (fun c_54 => ?_) (fun c_54 => ?_)
          · refine lv_iconst (v := 1) hx hb dX8_bestHanging_72 rfl ?_
            refine lv_goto (tgt := 77) hx hb dX8_bestHanging_73 (by decide) ?_
            refine lv_istore (lv' := [(7, .int 1), (6, .int o_46), (5, .int o_19), (4, .int (nI i9)), (3, .int z9_1), (2, .int z9_2), (0, .ref a), (1, .int x1)]) hx hb dX8_bestHanging_77 hl (by decide) rfl (fun ls hl => ?_)
            refine lv_iload hx hb dX8_bestHanging_79 (lv_at hl 0 rfl) ?_
            refine lv_if_eq (tgt := 89) hx hb dX8_bestHanging_81 (by decide) (fun c => absurd c (by decide)) (fun _ => ?_)
            refine lv_iload hx hb dX8_bestHanging_84 (lv_at hl 3 rfl) ?_
            refine lv_goto (tgt := 90) hx hb dX8_bestHanging_86 (by decide) ?_
            refine lv_istore_n (lv' := [(2, .int (nI i9)), (7, .int 1), (6, .int o_46), (5, .int o_19), (4, .int (nI i9)), (3, .int z9_1), (0, .ref a), (1, .int x1)]) hx hb dX8_bestHanging_90 rfl hl (by decide) rfl (fun ls hl => ?_)
            refine lv_iload hx hb dX8_bestHanging_91 (lv_at hl 1 rfl) ?_
            refine lv_if_eq (tgt := 101) hx hb dX8_bestHanging_93 (by decide) (fun c => absurd c (by decide)) (fun _ => ?_)
            refine lv_iload hx hb dX8_bestHanging_96 (lv_at hl 2 rfl) ?_
            refine lv_goto (tgt := 102) hx hb dX8_bestHanging_98 (by decide) ?_
            refine lv_istore_n (lv' := [(3, .int o_46), (2, .int (nI i9)), (7, .int 1), (6, .int o_46), (5, .int o_19), (4, .int (nI i9)), (0, .ref a), (1, .int x1)]) hx hb dX8_bestHanging_102 rfl hl (by decide) rfl (fun ls hl => ?_)
            refine lv_iinc (v := (nI (i9 + 1))) (lv' := [(4, .int (nI (i9 + 1))), (3, .int o_46), (2, .int (nI i9)), (7, .int 1), (6, .int o_46), (5, .int o_19), (0, .ref a), (1, .int x1)]) hx hb dX8_bestHanging_103 hl (k := 5) rfl (nI_1 _) (by decide) rfl (fun ls hl => ?_)
            refine lv_goto (tgt := 9) hx hb dX8_bestHanging_106 (by decide) ?_
            have e8 : v_X8_bestHanging_L9 x1 i_wishes f_owed f_told i9 (z9_1, z9_2) = (o_46, nI i9) := by
              show v_X8_bestHanging_L9c x1 i_wishes f_owed f_told i9 z9_1 z9_2 = (o_46, nI i9)
              refine (bnd_eq ho_19).trans ?_
              refine (if_neg c_27).trans ?_
              refine (bnd_eq ho_33).trans ?_
              refine (if_neg c_36).trans ?_
              refine (bnd_eq ho_43).trans ?_
              refine (bnd_eq ho_46).trans ?_
              refine (if_pos c_54).trans ?_
              rfl
            exact ih (i9 + 1) (o_46, nI i9) (by omega) (by omega) (it_go e8 hz) _ _ _ hP hS (lv_sub hl [0, 1, 2, 6, 7] rfl)
          · refine lv_iload hx hb dX8_bestHanging_57 (lv_at hl 0 rfl) ?_
            refine lv_iload_n hx hb dX8_bestHanging_59 rfl (lv_at hl 3 rfl) ?_
            refine lv_icmp_ne (tgt := 76) hx hb dX8_bestHanging_60 (by decide) (fun c_60 => ?_) (fun c_60 => ?_)
            · refine lv_iconst (v := 0) hx hb dX8_bestHanging_76 rfl ?_
              refine lv_istore (lv' := [(7, .int 0), (6, .int o_46), (5, .int o_19), (4, .int (nI i9)), (3, .int z9_1), (2, .int z9_2), (0, .ref a), (1, .int x1)]) hx hb dX8_bestHanging_77 hl (by decide) rfl (fun ls hl => ?_)
              refine lv_iload hx hb dX8_bestHanging_79 (lv_at hl 0 rfl) ?_
              refine lv_if_eq (tgt := 89) hx hb dX8_bestHanging_81 (by decide) (fun _ => ?_) (fun c => absurd c (by decide))
              refine lv_iload_n hx hb dX8_bestHanging_89 rfl (lv_at hl 5 rfl) ?_
              refine lv_istore_n (lv' := [(2, .int z9_2), (7, .int 0), (6, .int o_46), (5, .int o_19), (4, .int (nI i9)), (3, .int z9_1), (0, .ref a), (1, .int x1)]) hx hb dX8_bestHanging_90 rfl hl (by decide) rfl (fun ls hl => ?_)
              refine lv_iload hx hb dX8_bestHanging_91 (lv_at hl 1 rfl) ?_
              refine lv_if_eq (tgt := 101) hx hb dX8_bestHanging_93 (by decide) (fun _ => ?_) (fun c => absurd c (by decide))
              refine lv_iload_n hx hb dX8_bestHanging_101 rfl (lv_at hl 5 rfl) ?_
              refine lv_istore_n (lv' := [(3, .int z9_1), (2, .int z9_2), (7, .int 0), (6, .int o_46), (5, .int o_19), (4, .int (nI i9)), (0, .ref a), (1, .int x1)]) hx hb dX8_bestHanging_102 rfl hl (by decide) rfl (fun ls hl => ?_)
              refine lv_iinc (v := (nI (i9 + 1))) (lv' := [(4, .int (nI (i9 + 1))), (3, .int z9_1), (2, .int z9_2), (7, .int 0), (6, .int o_46), (5, .int o_19), (0, .ref a), (1, .int x1)]) hx hb dX8_bestHanging_103 hl (k := 5) rfl (nI_1 _) (by decide) rfl (fun ls hl => ?_)
              refine lv_goto (tgt := 9) hx hb dX8_bestHanging_106 (by decide) ?_
              have e8 : v_X8_bestHanging_L9 x1 i_wishes f_owed f_told i9 (z9_1, z9_2) = (z9_1, z9_2) := by
                show v_X8_bestHanging_L9c x1 i_wishes f_owed f_told i9 z9_1 z9_2 = (z9_1, z9_2)
                refine (bnd_eq ho_19).trans ?_
                refine (if_neg c_27).trans ?_
                refine (bnd_eq ho_33).trans ?_
                refine (if_neg c_36).trans ?_
                refine (bnd_eq ho_43).trans ?_
                refine (bnd_eq ho_46).trans ?_
                refine (if_neg c_54).trans ?_
                refine (if_neg c_60).trans ?_
                rfl
              exact ih (i9 + 1) (z9_1, z9_2) (by omega) (by omega) (it_go e8 hz) _ _ _ hP hS (lv_sub hl [0, 1, 2, 6, 7] rfl)
            · refine lv_iload hx hb dX8_bestHanging_63 (lv_at hl 1 rfl) ?_
              refine lv_iload_n hx hb dX8_bestHanging_65 rfl (lv_at hl 4 rfl) ?_
              obtain ⟨o_66, ho_66⟩ : ∃ z : Int32, z = v_X8_ones z9_2 := ⟨_, rfl⟩
              refine callSIs (As := [.int z9_2]) (rest := [.int o_19]) o_66 ho_66 hF (k_X8_ones l D cI cZ z9_2) (va_cwS 1 hts gX8_bestHanging_X8_ones rfl rfl rfl (by decide +kernel) ⟨Nat.le_of_ble_eq_true rfl, Nat.le_of_ble_eq_true rfl⟩) hK hN hP (va_Dsame hD rfl) hS hA [] rfl rfl rfl hl.1 rfl (Nat.le_of_ble_eq_true rfl) dX8_bestHanging_66 ⟨Nat.zero_le _, Nat.zero_le _⟩ o_66 rfl rfl (fun H locs hP hS => ?_)
              refine lv_icmp_ge (tgt := 76) hx hb dX8_bestHanging_69 (by decide) (fun c_69 => ?_) (fun c_69 => ?_)
              · refine lv_iconst (v := 0) hx hb dX8_bestHanging_76 rfl ?_
                refine lv_istore (lv' := [(7, .int 0), (6, .int o_46), (5, .int o_19), (4, .int (nI i9)), (3, .int z9_1), (2, .int z9_2), (0, .ref a), (1, .int x1)]) hx hb dX8_bestHanging_77 hl (by decide) rfl (fun ls hl => ?_)
                refine lv_iload hx hb dX8_bestHanging_79 (lv_at hl 0 rfl) ?_
                refine lv_if_eq (tgt := 89) hx hb dX8_bestHanging_81 (by decide) (fun _ => ?_) (fun c => absurd c (by decide))
                refine lv_iload_n hx hb dX8_bestHanging_89 rfl (lv_at hl 5 rfl) ?_
                refine lv_istore_n (lv' := [(2, .int z9_2), (7, .int 0), (6, .int o_46), (5, .int o_19), (4, .int (nI i9)), (3, .int z9_1), (0, .ref a), (1, .int x1)]) hx hb dX8_bestHanging_90 rfl hl (by decide) rfl (fun ls hl => ?_)
                refine lv_iload hx hb dX8_bestHanging_91 (lv_at hl 1 rfl) ?_
                refine lv_if_eq (tgt := 101) hx hb dX8_bestHanging_93 (by decide) (fun _ => ?_) (fun c => absurd c (by decide))
                refine lv_iload_n hx hb dX8_bestHanging_101 rfl (lv_at hl 5 rfl) ?_
                refine lv_istore_n (lv' := [(3, .int z9_1), (2, .int z9_2), (7, .int 0), (6, .int o_46), (5, .int o_19), (4, .int (nI i9)), (0, .ref a), (1, .int x1)]) hx hb dX8_bestHanging_102 rfl hl (by decide) rfl (fun ls hl => ?_)
                refine lv_iinc (v := (nI (i9 + 1))) (lv' := [(4, .int (nI (i9 + 1))), (3, .int z9_1), (2, .int z9_2), (7, .int 0), (6, .int o_46), (5, .int o_19), (0, .ref a), (1, .int x1)]) hx hb dX8_bestHanging_103 hl (k := 5) rfl (nI_1 _) (by decide) rfl (fun ls hl => ?_)
                refine lv_goto (tgt := 9) hx hb dX8_bestHanging_106 (by decide) ?_
                have e8 : v_X8_bestHanging_L9 x1 i_wishes f_owed f_told i9 (z9_1, z9_2) = (z9_1, z9_2) := by
                  show v_X8_bestHanging_L9c x1 i_wishes f_owed f_told i9 z9_1 z9_2 = (z9_1, z9_2)
                  refine (bnd_eq ho_19).trans ?_
                  refine (if_neg c_27).trans ?_
                  refine (bnd_eq ho_33).trans ?_
                  refine (if_neg c_36).trans ?_
                  refine (bnd_eq ho_43).trans ?_
                  refine (bnd_eq ho_46).trans ?_
                  refine (if_neg c_54).trans ?_
                  refine (if_pos c_60).trans ?_
                  refine (bnd_eq ho_66).trans ?_
                  refine (if_pos c_69).trans ?_
                  rfl
                exact ih (i9 + 1) (z9_1, z9_2) (by omega) (by omega) (it_go e8 hz) _ _ _ hP hS (lv_sub hl [0, 1, 2, 6, 7] rfl)
              · refine lv_iconst (v := 1) hx hb dX8_bestHanging_72 rfl ?_
                refine lv_goto (tgt := 77) hx hb dX8_bestHanging_73 (by decide) ?_
                refine lv_istore (lv' := [(7, .int 1), (6, .int o_46), (5, .int o_19), (4, .int (nI i9)), (3, .int z9_1), (2, .int z9_2), (0, .ref a), (1, .int x1)]) hx hb dX8_bestHanging_77 hl (by decide) rfl (fun ls hl => ?_)
                refine lv_iload hx hb dX8_bestHanging_79 (lv_at hl 0 rfl) ?_
                refine lv_if_eq (tgt := 89) hx hb dX8_bestHanging_81 (by decide) (fun c => absurd c (by decide)) (fun _ => ?_)
                refine lv_iload hx hb dX8_bestHanging_84 (lv_at hl 3 rfl) ?_
                refine lv_goto (tgt := 90) hx hb dX8_bestHanging_86 (by decide) ?_
                refine lv_istore_n (lv' := [(2, .int (nI i9)), (7, .int 1), (6, .int o_46), (5, .int o_19), (4, .int (nI i9)), (3, .int z9_1), (0, .ref a), (1, .int x1)]) hx hb dX8_bestHanging_90 rfl hl (by decide) rfl (fun ls hl => ?_)
                refine lv_iload hx hb dX8_bestHanging_91 (lv_at hl 1 rfl) ?_
                refine lv_if_eq (tgt := 101) hx hb dX8_bestHanging_93 (by decide) (fun c => absurd c (by decide)) (fun _ => ?_)
                refine lv_iload hx hb dX8_bestHanging_96 (lv_at hl 2 rfl) ?_
                refine lv_goto (tgt := 102) hx hb dX8_bestHanging_98 (by decide) ?_
                refine lv_istore_n (lv' := [(3, .int o_46), (2, .int (nI i9)), (7, .int 1), (6, .int o_46), (5, .int o_19), (4, .int (nI i9)), (0, .ref a), (1, .int x1)]) hx hb dX8_bestHanging_102 rfl hl (by decide) rfl (fun ls hl => ?_)
                refine lv_iinc (v := (nI (i9 + 1))) (lv' := [(4, .int (nI (i9 + 1))), (3, .int o_46), (2, .int (nI i9)), (7, .int 1), (6, .int o_46), (5, .int o_19), (0, .ref a), (1, .int x1)]) hx hb dX8_bestHanging_103 hl (k := 5) rfl (nI_1 _) (by decide) rfl (fun ls hl => ?_)
                refine lv_goto (tgt := 9) hx hb dX8_bestHanging_106 (by decide) ?_
                have e8 : v_X8_bestHanging_L9 x1 i_wishes f_owed f_told i9 (z9_1, z9_2) = (o_46, nI i9) := by
                  show v_X8_bestHanging_L9c x1 i_wishes f_owed f_told i9 z9_1 z9_2 = (o_46, nI i9)
                  refine (bnd_eq ho_19).trans ?_
                  refine (if_neg c_27).trans ?_
                  refine (bnd_eq ho_33).trans ?_
                  refine (if_neg c_36).trans ?_
                  refine (bnd_eq ho_43).trans ?_
                  refine (bnd_eq ho_46).trans ?_
                  refine (if_neg c_54).trans ?_
                  refine (if_pos c_60).trans ?_
                  refine (bnd_eq ho_66).trans ?_
                  refine (if_neg c_69).trans ?_
                  rfl
                exact ih (i9 + 1) (o_46, nI i9) (by omega) (by omega) (it_go e8 hz) _ _ _ hP hS (lv_sub hl [0, 1, 2, 6, 7] rfl)
  exact loop9 4096 0 ((-9), (-9)) (Nat.le_refl _) rfl ho_L9.symm _ _ _ hP hS (lv_sub hl [0, 1, 2, 3, 4] rfl)
def v_X8_best (x1 : Int32) (x2 : Int32) (i_wishes : Int32) (f_owed : Nat → Int32) (f_told : Nat → Int32) : Int32 :=
  bnd (v_X8_in x1.toInt64 0 5) fun o_6 =>
  (if bI o_6 = 0 then (-2)
  else (bnd (v_X8_in x2.toInt64 0 2) fun o_18 =>
  (if bI o_18 = 0 then (-2)
  else (bnd (v_X8_bestHanging x1 i_wishes f_owed f_told) fun o_29 =>
  (if o_29 = (-9) then (-9)
  else (if x2 = 0 then (bnd (v_X8_granted o_29 i_wishes f_told) fun o_49 =>
    (bnd (v_X8_worthOf o_49 i_wishes f_told) fun o_52 =>
    o_52))
  else (if x2 = 1 then o_29
  else (bnd (v_X8_granted o_29 i_wishes f_told) fun o_69 =>
  o_69))))))))
abbrev rm_X8_best : Room := { frames := 6, cells := 0, slots := 0, locals := 140 }
set_option maxHeartbeats 4000000 in
set_option maxRecDepth 100000 in
theorem k_X8_best (l : Launch) (D : va_G) (cI cZ : ClassId) (a a_readWishes a_readOwed a_told a_owed a_text a_row a_least a_values a_tellPlace a_tellHour a_tellDark a_isKept a_kept : Nat) (x1 : Int32) (x2 : Int32) (i_readHung : Int32) (i_readMany : Int32) (i_readOwes : Int32) (i_wishes : Int32) (i_hung : Int32) (i_hour : Int32) (i_length : Int32) (i_at : Int32) (i_faultAt : Int32) (i_acts : Int32) (i_next : Int32) (i_tells : Int32) (j_seed : Int64) (f_owed : Nat → Int32) (f_told : Nat → Int32) (hw : ∃ k : Nat, k ≤ 5 ∧ i_wishes = nI k) : KI l D cI cZ yX8_best wsX8_best rm_X8_best [.ref a, .int x1, .int x2] [(a, .inr (8, [.ref a_readWishes, .ref a_readOwed, .int i_readHung, .int i_readMany, .int i_readOwes, .ref a_told, .ref a_owed, .int i_wishes, .int i_hung, .int i_hour, .ref a_text, .int i_length, .int i_at, .int i_faultAt, .int i_acts, .int i_next, .ref a_row, .ref a_least, .ref a_values, .int i_tells, .ref a_tellPlace, .ref a_tellHour, .ref a_tellDark, .long j_seed, .ref a_isKept, .ref a_kept])), (a_owed, .inl (cI, 12, .inl f_owed)), (a_told, .inl (cI, 25, .inl f_told))] (v_X8_best x1 x2 i_wishes f_owed f_told) (fun o : Int32 => o) (fun _ : Int32 => [(a, .inr (8, [.ref a_readWishes, .ref a_readOwed, .int i_readHung, .int i_readMany, .int i_readOwes, .ref a_told, .ref a_owed, .int i_wishes, .int i_hung, .int i_hour, .ref a_text, .int i_length, .int i_at, .int i_faultAt, .int i_acts, .int i_next, .ref a_row, .ref a_least, .ref a_values, .int i_tells, .ref a_tellPlace, .ref a_tellHour, .ref a_tellDark, .long j_seed, .ref a_isKept, .ref a_kept])), (a_owed, .inl (cI, 12, .inl f_owed)), (a_told, .inl (cI, 25, .inl f_told))]) := by
  refine KI.of cX8_best 4 (some .int) (by decide) rfl (Nat.le_of_ble_eq_true rfl) ?_
  intro p e s m below meth c A ls ar Q hQ B
  obtain ⟨hx, hb, hr, hml, hts, hown, hlk, hK, hN, hP, hD, hA, hS, hl⟩ := B
  have hown : s.vm.findClass RX8 = some m.cls := hown
  have hF : CallFix p m c cX8_best 4 s ar wsX8_best RX8 := ⟨hx, hb, hml, hown, hts⟩
  have hl : lv_has ls 4 [(0, .ref a), (1, .int x1), (2, .int x2)] := hl
  refine lv_iload_n hx hb dX8_best_0 rfl (lv_at hl 1 rfl) ?_
  refine lv_i2l (v := x1.toInt64) hx hb dX8_best_1 rfl ?_
  refine lv_lconst (v := 0) hx hb dX8_best_2 rfl ?_
  refine lv_ldc2 (v := 5) hx hb hown (hts _ (List.mem_of_getElem? (i := 1) rfl)) dX8_best_3 ?_
  obtain ⟨o_6, ho_6⟩ : ∃ z : Bool, z = v_X8_in x1.toInt64 0 5 := ⟨_, rfl⟩
  refine callSIs (As := [.long x1.toInt64, .long 0, .long 5]) (rest := []) o_6 ho_6 hF (k_X8_in l D cI cZ x1.toInt64 0 5) (va_cwS 3 hts gX8_best_X8_in rfl rfl rfl (by decide +kernel) ⟨Nat.le_of_ble_eq_true rfl, Nat.le_of_ble_eq_true rfl⟩) hK hN hP (va_Dsame hD rfl) hS hA [] rfl rfl rfl hl.1 rfl (Nat.le_of_ble_eq_true rfl) dX8_best_6 ⟨Nat.zero_le _, Nat.zero_le _⟩ (bI o_6) rfl rfl (fun H locs hP hS => ?_)
  refine lv_if_eq (tgt := 24) hx hb dX8_best_9 (by decide) (fun c_9 => ?_) (fun c_9 => ?_)
  · refine lv_bipush (v := (-2)) hx hb dX8_best_24 rfl ?_
    have e9 : v_X8_best x1 x2 i_wishes f_owed f_told = (-2) := by
      refine (bnd_eq ho_6).trans ?_
      refine (if_pos c_9).trans ?_
      rfl
    rw [hQ]; exact retI (-2) hx hb hr hlk e9 hP rfl hS dX8_best_26
  · refine lv_iload_n hx hb dX8_best_12 rfl (lv_at hl 2 rfl) ?_
    refine lv_i2l (v := x2.toInt64) hx hb dX8_best_13 rfl ?_
    refine lv_lconst (v := 0) hx hb dX8_best_14 rfl ?_
    refine lv_ldc2 (v := 2) hx hb hown (hts _ (List.mem_of_getElem? (i := 2) rfl)) dX8_best_15 ?_
    obtain ⟨o_18, ho_18⟩ : ∃ z : Bool, z = v_X8_in x2.toInt64 0 2 := ⟨_, rfl⟩
    refine callSIs (As := [.long x2.toInt64, .long 0, .long 2]) (rest := []) o_18 ho_18 hF (k_X8_in l D cI cZ x2.toInt64 0 2) (va_cwS 3 hts gX8_best_X8_in rfl rfl rfl (by decide +kernel) ⟨Nat.le_of_ble_eq_true rfl, Nat.le_of_ble_eq_true rfl⟩) hK hN hP (va_Dsame hD rfl) hS hA [] rfl rfl rfl hl.1 rfl (Nat.le_of_ble_eq_true rfl) dX8_best_18 ⟨Nat.zero_le _, Nat.zero_le _⟩ (bI o_18) rfl rfl (fun H locs hP hS => ?_)
    refine lv_if_ne (tgt := 27) hx hb dX8_best_21 (by decide) (fun c_21 => ?_) (fun c_21 => ?_)
    · refine lv_aload_n hx hb dX8_best_27 rfl (lv_at hl 0 rfl) ?_
      refine lv_iload_n hx hb dX8_best_28 rfl (lv_at hl 1 rfl) ?_
      obtain ⟨o_29, ho_29⟩ : ∃ z : Int32, z = v_X8_bestHanging x1 i_wishes f_owed f_told := ⟨_, rfl⟩
      refine callVIs (As := [.int x1]) (rest := []) o_29 ho_29 hF (k_X8_bestHanging l D cI cZ a a_readWishes a_readOwed a_told a_owed a_text a_row a_least a_values a_tellPlace a_tellHour a_tellDark a_isKept a_kept x1 i_readHung i_readMany i_readOwes i_wishes i_hung i_hour i_length i_at i_faultAt i_acts i_next i_tells j_seed f_owed f_told (hw)) (cwV 1 hts gX8_best_X8_bestHanging rfl rfl rfl (by decide +kernel) ⟨Nat.le_of_ble_eq_true rfl, Nat.le_of_ble_eq_true rfl⟩) hK hN hP (va_Dsame hD rfl) hS hA [0, 1, 2] rfl rfl 0 8 (T := TX8) (N := 26) rfl rfl rfl hl.1 rfl (Nat.le_of_ble_eq_true rfl) dX8_best_29 ⟨Nat.zero_le _, Nat.zero_le _⟩ o_29 rfl rfl (fun H locs hP hS => ?_)
      refine lv_istore_n (lv' := [(3, .int o_29), (0, .ref a), (1, .int x1), (2, .int x2)]) hx hb dX8_best_32 rfl hl (by decide) rfl (fun ls hl => ?_)
      refine lv_iload_n hx hb dX8_best_33 rfl (lv_at hl 0 rfl) ?_
      refine lv_bipush (v := (-9)) hx hb dX8_best_34 rfl ?_
      refine lv_icmp_ne (tgt := 42) hx hb dX8_best_36 (by decide) (fun c_36 => ?_) (fun c_36 => ?_)
      · refine lv_iload_n hx hb dX8_best_42 rfl (lv_at hl 3 rfl) ?_
        refine lv_if_ne (tgt := 58) hx hb dX8_best_43 (by decide) (fun c_43 => ?_) (fun c_43 => ?_)
        · refine lv_iload_n hx hb dX8_best_58 rfl (lv_at hl 3 rfl) ?_
          refine lv_iconst (v := 1) hx hb dX8_best_59 rfl ?_
          refine lv_icmp_ne (tgt := 67) hx hb dX8_best_60 (by decide) (fun c_60 => ?_) (fun c_60 => ?_)
          · refine lv_aload_n hx hb dX8_best_67 rfl (lv_at hl 1 rfl) ?_
            refine lv_iload_n hx hb dX8_best_68 rfl (lv_at hl 0 rfl) ?_
            obtain ⟨o_69, ho_69⟩ : ∃ z : Int32, z = v_X8_granted o_29 i_wishes f_told := ⟨_, rfl⟩
            refine callVIs (As := [.int o_29]) (rest := []) o_69 ho_69 hF (k_X8_granted l D cI cZ a a_readWishes a_readOwed a_told a_owed a_text a_row a_least a_values a_tellPlace a_tellHour a_tellDark a_isKept a_kept o_29 i_readHung i_readMany i_readOwes i_wishes i_hung i_hour i_length i_at i_faultAt i_acts i_next i_tells j_seed f_told (hw)) (cwV 1 hts gX8_best_X8_granted rfl rfl rfl (by decide +kernel) ⟨Nat.le_of_ble_eq_true rfl, Nat.le_of_ble_eq_true rfl⟩) hK hN hP (va_Dsame hD rfl) hS hA [0, 2] rfl rfl 0 8 (T := TX8) (N := 26) rfl rfl rfl hl.1 rfl (Nat.le_of_ble_eq_true rfl) dX8_best_69 ⟨Nat.zero_le _, Nat.zero_le _⟩ o_69 rfl rfl (fun H locs hP hS => ?_)
            have e9 : v_X8_best x1 x2 i_wishes f_owed f_told = o_69 := by
              refine (bnd_eq ho_6).trans ?_
              refine (if_neg c_9).trans ?_
              refine (bnd_eq ho_18).trans ?_
              refine (if_neg c_21).trans ?_
              refine (bnd_eq ho_29).trans ?_
              refine (if_neg c_36).trans ?_
              refine (if_neg c_43).trans ?_
              refine (if_neg c_60).trans ?_
              refine (bnd_eq ho_69).trans ?_
              rfl
            rw [hQ]; exact retI o_69 hx hb hr hlk e9 hP rfl hS dX8_best_72
          · refine lv_iload_n hx hb dX8_best_63 rfl (lv_at hl 0 rfl) ?_
            refine lv_goto (tgt := 72) hx hb dX8_best_64 (by decide) ?_
            have e9 : v_X8_best x1 x2 i_wishes f_owed f_told = o_29 := by
              refine (bnd_eq ho_6).trans ?_
              refine (if_neg c_9).trans ?_
              refine (bnd_eq ho_18).trans ?_
              refine (if_neg c_21).trans ?_
              refine (bnd_eq ho_29).trans ?_
              refine (if_neg c_36).trans ?_
              refine (if_neg c_43).trans ?_
              refine (if_pos c_60).trans ?_
              rfl
            rw [hQ]; exact retI o_29 hx hb hr hlk e9 hP rfl hS dX8_best_72
        · refine lv_aload_n hx hb dX8_best_46 rfl (lv_at hl 1 rfl) ?_
          refine lv_aload_n hx hb dX8_best_47 rfl (lv_at hl 1 rfl) ?_
          refine lv_iload_n hx hb dX8_best_48 rfl (lv_at hl 0 rfl) ?_
          obtain ⟨o_49, ho_49⟩ : ∃ z : Int32, z = v_X8_granted o_29 i_wishes f_told := ⟨_, rfl⟩
          refine callVIs (As := [.int o_29]) (rest := [.ref a]) o_49 ho_49 hF (k_X8_granted l D cI cZ a a_readWishes a_readOwed a_told a_owed a_text a_row a_least a_values a_tellPlace a_tellHour a_tellDark a_isKept a_kept o_29 i_readHung i_readMany i_readOwes i_wishes i_hung i_hour i_length i_at i_faultAt i_acts i_next i_tells j_seed f_told (hw)) (cwV 1 hts gX8_best_X8_granted rfl rfl rfl (by decide +kernel) ⟨Nat.le_of_ble_eq_true rfl, Nat.le_of_ble_eq_true rfl⟩) hK hN hP (va_Dsame hD rfl) hS hA [0, 2] rfl rfl 0 8 (T := TX8) (N := 26) rfl rfl rfl hl.1 rfl (Nat.le_of_ble_eq_true rfl) dX8_best_49 ⟨Nat.zero_le _, Nat.zero_le _⟩ o_49 rfl rfl (fun H locs hP hS => ?_)
          obtain ⟨o_52, ho_52⟩ : ∃ z : Int32, z = v_X8_worthOf o_49 i_wishes f_told := ⟨_, rfl⟩
          refine callVIs (As := [.int o_49]) (rest := []) o_52 ho_52 hF (k_X8_worthOf l D cI cZ a a_readWishes a_readOwed a_told a_owed a_text a_row a_least a_values a_tellPlace a_tellHour a_tellDark a_isKept a_kept o_49 i_readHung i_readMany i_readOwes i_wishes i_hung i_hour i_length i_at i_faultAt i_acts i_next i_tells j_seed f_told (hw)) (cwV 1 hts gX8_best_X8_worthOf rfl rfl rfl (by decide +kernel) ⟨Nat.le_of_ble_eq_true rfl, Nat.le_of_ble_eq_true rfl⟩) hK hN hP (va_Dsame hD rfl) hS hA [0, 2] rfl rfl 0 8 (T := TX8) (N := 26) rfl rfl rfl hl.1 rfl (Nat.le_of_ble_eq_true rfl) dX8_best_52 ⟨Nat.zero_le _, Nat.zero_le _⟩ o_52 rfl rfl (fun H locs hP hS => ?_)
          refine lv_goto (tgt := 72) hx hb dX8_best_55 (by decide) ?_
          have e9 : v_X8_best x1 x2 i_wishes f_owed f_told = o_52 := by
            refine (bnd_eq ho_6).trans ?_
            refine (if_neg c_9).trans ?_
            refine (bnd_eq ho_18).trans ?_
            refine (if_neg c_21).trans ?_
            refine (bnd_eq ho_29).trans ?_
            refine (if_neg c_36).trans ?_
            refine (if_pos c_43).trans ?_
            refine (bnd_eq ho_49).trans ?_
            refine (bnd_eq ho_52).trans ?_
            rfl
          rw [hQ]; exact retI o_52 hx hb hr hlk e9 hP rfl hS dX8_best_72
      · refine lv_bipush (v := (-9)) hx hb dX8_best_39 rfl ?_
        have e9 : v_X8_best x1 x2 i_wishes f_owed f_told = (-9) := by
          refine (bnd_eq ho_6).trans ?_
          refine (if_neg c_9).trans ?_
          refine (bnd_eq ho_18).trans ?_
          refine (if_neg c_21).trans ?_
          refine (bnd_eq ho_29).trans ?_
          refine (if_pos c_36).trans ?_
          rfl
        rw [hQ]; exact retI (-9) hx hb hr hlk e9 hP rfl hS dX8_best_41
    · refine lv_bipush (v := (-2)) hx hb dX8_best_24 rfl ?_
      have e9 : v_X8_best x1 x2 i_wishes f_owed f_told = (-2) := by
        refine (bnd_eq ho_6).trans ?_
        refine (if_neg c_9).trans ?_
        refine (bnd_eq ho_18).trans ?_
        refine (if_pos c_21).trans ?_
        rfl
      rw [hQ]; exact retI (-2) hx hb hr hlk e9 hP rfl hS dX8_best_26
def v_X8_many_L19 (x1 : Int32) (f_owed : Nat → Int32) (i19 : Nat) (z19 : Int32) : Int32 :=
  bnd (v_X8_ones (nI i19)) fun o_28 =>
  (if o_28 = x1 then (bnd (v_X8_isLawful (nI i19) f_owed) fun o_37 =>
    (if bI o_37 = 0 then (z19 + 0)
    else (z19 + 1)))
  else (z19 + 0))
def v_X8_many (x1 : Int32) (f_owed : Nat → Int32) : Int32 :=
  bnd (v_X8_in x1.toInt64 0 5) fun o_6 =>
  (if bI o_6 = 0 then (-2)
  else (bnd (it (v_X8_many_L19 x1 f_owed) 4096 0 0) fun o_L19 =>
  o_L19))
abbrev rm_X8_many : Room := { frames := 4, cells := 0, slots := 0, locals := 89 }
set_option maxHeartbeats 4000000 in
set_option maxRecDepth 100000 in
theorem k_X8_many (l : Launch) (D : va_G) (cI cZ : ClassId) (a a_readWishes a_readOwed a_told a_owed a_text a_row a_least a_values a_tellPlace a_tellHour a_tellDark a_isKept a_kept : Nat) (x1 : Int32) (i_readHung : Int32) (i_readMany : Int32) (i_readOwes : Int32) (i_wishes : Int32) (i_hung : Int32) (i_hour : Int32) (i_length : Int32) (i_at : Int32) (i_faultAt : Int32) (i_acts : Int32) (i_next : Int32) (i_tells : Int32) (j_seed : Int64) (f_owed : Nat → Int32) : KI l D cI cZ yX8_many wsX8_many rm_X8_many [.ref a, .int x1] [(a, .inr (8, [.ref a_readWishes, .ref a_readOwed, .int i_readHung, .int i_readMany, .int i_readOwes, .ref a_told, .ref a_owed, .int i_wishes, .int i_hung, .int i_hour, .ref a_text, .int i_length, .int i_at, .int i_faultAt, .int i_acts, .int i_next, .ref a_row, .ref a_least, .ref a_values, .int i_tells, .ref a_tellPlace, .ref a_tellHour, .ref a_tellDark, .long j_seed, .ref a_isKept, .ref a_kept])), (a_owed, .inl (cI, 12, .inl f_owed))] (v_X8_many x1 f_owed) (fun o : Int32 => o) (fun _ : Int32 => [(a, .inr (8, [.ref a_readWishes, .ref a_readOwed, .int i_readHung, .int i_readMany, .int i_readOwes, .ref a_told, .ref a_owed, .int i_wishes, .int i_hung, .int i_hour, .ref a_text, .int i_length, .int i_at, .int i_faultAt, .int i_acts, .int i_next, .ref a_row, .ref a_least, .ref a_values, .int i_tells, .ref a_tellPlace, .ref a_tellHour, .ref a_tellDark, .long j_seed, .ref a_isKept, .ref a_kept])), (a_owed, .inl (cI, 12, .inl f_owed))]) := by
  refine KI.of cX8_many 4 (some .int) (by decide) rfl (Nat.le_of_ble_eq_true rfl) ?_
  intro p e s m below meth c A ls ar Q hQ B
  obtain ⟨hx, hb, hr, hml, hts, hown, hlk, hK, hN, hP, hD, hA, hS, hl⟩ := B
  have hown : s.vm.findClass RX8 = some m.cls := hown
  have hF : CallFix p m c cX8_many 4 s ar wsX8_many RX8 := ⟨hx, hb, hml, hown, hts⟩
  have hl : lv_has ls 4 [(0, .ref a), (1, .int x1)] := hl
  refine lv_iload_n hx hb dX8_many_0 rfl (lv_at hl 1 rfl) ?_
  refine lv_i2l (v := x1.toInt64) hx hb dX8_many_1 rfl ?_
  refine lv_lconst (v := 0) hx hb dX8_many_2 rfl ?_
  refine lv_ldc2 (v := 5) hx hb hown (hts _ (List.mem_of_getElem? (i := 1) rfl)) dX8_many_3 ?_
  obtain ⟨o_6, ho_6⟩ : ∃ z : Bool, z = v_X8_in x1.toInt64 0 5 := ⟨_, rfl⟩
  refine callSIs (As := [.long x1.toInt64, .long 0, .long 5]) (rest := []) o_6 ho_6 hF (k_X8_in l D cI cZ x1.toInt64 0 5) (va_cwS 3 hts gX8_many_X8_in rfl rfl rfl (by decide +kernel) ⟨Nat.le_of_ble_eq_true rfl, Nat.le_of_ble_eq_true rfl⟩) hK hN hP (va_Dsame hD rfl) hS hA [] rfl rfl rfl hl.1 rfl (Nat.le_of_ble_eq_true rfl) dX8_many_6 ⟨Nat.zero_le _, Nat.zero_le _⟩ (bI o_6) rfl rfl (fun H locs hP hS => ?_)
  refine lv_if_ne (tgt := 15) hx hb dX8_many_9 (by decide) (fun c_9 => ?_) (fun c_9 => ?_)
  · refine lv_iconst (v := 0) hx hb dX8_many_15 rfl ?_
    refine lv_istore_n (lv' := [(2, .int 0), (0, .ref a), (1, .int x1)]) hx hb dX8_many_16 rfl hl (by decide) rfl (fun ls hl => ?_)
    refine lv_iconst (v := 0) hx hb dX8_many_17 rfl ?_
    refine lv_istore_n (lv' := [(3, .int 0), (2, .int 0), (0, .ref a), (1, .int x1)]) hx hb dX8_many_18 rfl hl (by decide) rfl (fun ls hl => ?_)
    obtain ⟨o_L19, ho_L19⟩ : ∃ z : Int32, z = it (v_X8_many_L19 x1 f_owed) 4096 0 0 := ⟨_, rfl⟩
    have kE19 : ∀ (H : Heap) (locs : List Loc) (ls : Array Slot), va_P D vwCl [(a, .inr (8, [.ref a_readWishes, .ref a_readOwed, .int i_readHung, .int i_readMany, .int i_readOwes, .ref a_told, .ref a_owed, .int i_wishes, .int i_hung, .int i_hour, .ref a_text, .int i_length, .int i_at, .int i_faultAt, .int i_acts, .int i_next, .ref a_row, .ref a_least, .ref a_values, .int i_tells, .ref a_tellPlace, .ref a_tellHour, .ref a_tellDark, .long j_seed, .ref a_isKept, .ref a_kept])), (a_owed, .inl (cI, 12, .inl f_owed))] H → va_S A s.heap H locs → lv_has ls 4 [(2, .int o_L19)] → W p l e rm_X8_many s m ar below meth c H locs 0 0 Q (F0 m 56 ls []) := by
      intro H locs ls hP hS hl
      refine lv_iload_n hx hb dX8_many_56 rfl (lv_at hl 0 rfl) ?_
      have e9 : v_X8_many x1 f_owed = o_L19 := by
        refine (bnd_eq ho_6).trans ?_
        refine (if_neg c_9).trans ?_
        refine (bnd_eq ho_L19).trans ?_
        rfl
      rw [hQ]; exact retI o_L19 hx hb hr hlk e9 hP rfl hS dX8_many_57
    have loop19 : ∀ (k i19 : Nat) (z19 : Int32), 0 ≤ i19 → i19 + k = 0 + 4096 → it (v_X8_many_L19 x1 f_owed) k i19 z19 = o_L19 → ∀ (H : Heap) (locs : List Loc) (ls : Array Slot), va_P D vwCl [(a, .inr (8, [.ref a_readWishes, .ref a_readOwed, .int i_readHung, .int i_readMany, .int i_readOwes, .ref a_told, .ref a_owed, .int i_wishes, .int i_hung, .int i_hour, .ref a_text, .int i_length, .int i_at, .int i_faultAt, .int i_acts, .int i_next, .ref a_row, .ref a_least, .ref a_values, .int i_tells, .ref a_tellPlace, .ref a_tellHour, .ref a_tellDark, .long j_seed, .ref a_isKept, .ref a_kept])), (a_owed, .inl (cI, 12, .inl f_owed))] H → va_S A s.heap H locs → lv_has ls 4 [(3, .int (nI i19)), (2, .int z19), (0, .ref a), (1, .int x1)] → W p l e rm_X8_many s m ar below meth c H locs 0 0 Q (F0 m 19 ls []) := by
      intro k
      induction k with
      | zero =>
        intro i19 z19 hi0 hik hz H locs ls hP hS hl
        have hz : z19 = o_L19 := it_0 hz
        subst z19
        refine lv_iload_n hx hb dX8_many_19 rfl (lv_at hl 0 rfl) ?_
        refine lv_sipush (v := 4096) hx hb dX8_many_20 rfl ?_
        refine lv_icmp_ge (tgt := 56) hx hb dX8_many_23 (by decide) (fun _ => ?_) (fun c => absurd (nI_le (a := 4096) (by omega) (by omega)) c)
        exact kE19 _ _ _ hP hS (lv_sub hl [1] rfl)
      | succ k ih =>
        intro i19 z19 hi0 hik hz H locs ls hP hS hl
        refine lv_iload_n hx hb dX8_many_19 rfl (lv_at hl 0 rfl) ?_
        refine lv_sipush (v := 4096) hx hb dX8_many_20 rfl ?_
        refine lv_icmp_ge (tgt := 56) hx hb dX8_many_23 (by decide) (fun c => absurd c (nI_ge (b := 4096) (by omega) (by decide))) (fun _ => ?_)
        refine lv_iload_n hx hb dX8_many_26 rfl (lv_at hl 1 rfl) ?_
        refine lv_iload_n hx hb dX8_many_27 rfl (lv_at hl 0 rfl) ?_
        obtain ⟨o_28, ho_28⟩ : ∃ z : Int32, z = v_X8_ones (nI i19) := ⟨_, rfl⟩
        refine callSIs (As := [.int (nI i19)]) (rest := [.int z19]) o_28 ho_28 hF (k_X8_ones l D cI cZ (nI i19)) (va_cwS 1 hts gX8_many_X8_ones rfl rfl rfl (by decide +kernel) ⟨Nat.le_of_ble_eq_true rfl, Nat.le_of_ble_eq_true rfl⟩) hK hN hP (va_Dsame hD rfl) hS hA [] rfl rfl rfl hl.1 rfl (Nat.le_of_ble_eq_true rfl) dX8_many_28 ⟨Nat.zero_le _, Nat.zero_le _⟩ o_28 rfl rfl (fun H locs hP hS => ?_)
        refine lv_iload_n hx hb dX8_many_31 rfl (lv_at hl 3 rfl) ?_
        refine lv_icmp_ne (tgt := 47) hx hb dX8_many_32 (by decide) (fun c_32 => ?_) (fun c_32 => ?_)
        · refine lv_iconst (v := 0) hx hb dX8_many_47 rfl ?_
          refine lv_iadd hx hb dX8_many_48 ?_
          refine lv_istore_n (lv' := [(2, .int (z19 + 0)), (3, .int (nI i19)), (0, .ref a), (1, .int x1)]) hx hb dX8_many_49 rfl hl (by decide) rfl (fun ls hl => ?_)
          refine lv_iinc (v := (nI (i19 + 1))) (lv' := [(3, .int (nI (i19 + 1))), (2, .int (z19 + 0)), (0, .ref a), (1, .int x1)]) hx hb dX8_many_50 hl (k := 1) rfl (nI_1 _) (by decide) rfl (fun ls hl => ?_)
          refine lv_goto (tgt := 19) hx hb dX8_many_53 (by decide) ?_
          have e8 : v_X8_many_L19 x1 f_owed i19 z19 = (z19 + 0) := by
            refine (bnd_eq ho_28).trans ?_
            refine (if_neg c_32).trans ?_
            rfl
          exact ih (i19 + 1) (z19 + 0) (by omega) (by omega) (it_go e8 hz) _ _ _ hP hS (lv_sub hl [0, 1, 2, 3] rfl)
        · refine lv_aload_n hx hb dX8_many_35 rfl (lv_at hl 2 rfl) ?_
          refine lv_iload_n hx hb dX8_many_36 rfl (lv_at hl 0 rfl) ?_
          obtain ⟨o_37, ho_37⟩ : ∃ z : Bool, z = v_X8_isLawful (nI i19) f_owed := ⟨_, rfl⟩
          refine callVIs (As := [.int (nI i19)]) (rest := [.int z19]) o_37 ho_37 hF (k_X8_isLawful l D cI cZ a a_readWishes a_readOwed a_told a_owed a_text a_row a_least a_values a_tellPlace a_tellHour a_tellDark a_isKept a_kept (nI i19) i_readHung i_readMany i_readOwes i_wishes i_hung i_hour i_length i_at i_faultAt i_acts i_next i_tells j_seed f_owed) (cwV 1 hts gX8_many_X8_isLawful rfl rfl rfl (by decide +kernel) ⟨Nat.le_of_ble_eq_true rfl, Nat.le_of_ble_eq_true rfl⟩) hK hN hP (va_Dsame hD rfl) hS hA [0, 1] rfl rfl 0 8 (T := TX8) (N := 26) rfl rfl rfl hl.1 rfl (Nat.le_of_ble_eq_true rfl) dX8_many_37 ⟨Nat.zero_le _, Nat.zero_le _⟩ (bI o_37) rfl rfl (fun H locs hP hS => ?_)
          refine lv_if_eq (tgt := 47) hx hb dX8_many_40 (by decide) (fun c_40 => ?_) (fun c_40 => ?_)
          · refine lv_iconst (v := 0) hx hb dX8_many_47 rfl ?_
            refine lv_iadd hx hb dX8_many_48 ?_
            refine lv_istore_n (lv' := [(2, .int (z19 + 0)), (3, .int (nI i19)), (0, .ref a), (1, .int x1)]) hx hb dX8_many_49 rfl hl (by decide) rfl (fun ls hl => ?_)
            refine lv_iinc (v := (nI (i19 + 1))) (lv' := [(3, .int (nI (i19 + 1))), (2, .int (z19 + 0)), (0, .ref a), (1, .int x1)]) hx hb dX8_many_50 hl (k := 1) rfl (nI_1 _) (by decide) rfl (fun ls hl => ?_)
            refine lv_goto (tgt := 19) hx hb dX8_many_53 (by decide) ?_
            have e8 : v_X8_many_L19 x1 f_owed i19 z19 = (z19 + 0) := by
              refine (bnd_eq ho_28).trans ?_
              refine (if_pos c_32).trans ?_
              refine (bnd_eq ho_37).trans ?_
              refine (if_pos c_40).trans ?_
              rfl
            exact ih (i19 + 1) (z19 + 0) (by omega) (by omega) (it_go e8 hz) _ _ _ hP hS (lv_sub hl [0, 1, 2, 3] rfl)
          · refine lv_iconst (v := 1) hx hb dX8_many_43 rfl ?_
            refine lv_goto (tgt := 48) hx hb dX8_many_44 (by decide) ?_
            refine lv_iadd hx hb dX8_many_48 ?_
            refine lv_istore_n (lv' := [(2, .int (z19 + 1)), (3, .int (nI i19)), (0, .ref a), (1, .int x1)]) hx hb dX8_many_49 rfl hl (by decide) rfl (fun ls hl => ?_)
            refine lv_iinc (v := (nI (i19 + 1))) (lv' := [(3, .int (nI (i19 + 1))), (2, .int (z19 + 1)), (0, .ref a), (1, .int x1)]) hx hb dX8_many_50 hl (k := 1) rfl (nI_1 _) (by decide) rfl (fun ls hl => ?_)
            refine lv_goto (tgt := 19) hx hb dX8_many_53 (by decide) ?_
            have e8 : v_X8_many_L19 x1 f_owed i19 z19 = (z19 + 1) := by
              refine (bnd_eq ho_28).trans ?_
              refine (if_pos c_32).trans ?_
              refine (bnd_eq ho_37).trans ?_
              refine (if_neg c_40).trans ?_
              rfl
            exact ih (i19 + 1) (z19 + 1) (by omega) (by omega) (it_go e8 hz) _ _ _ hP hS (lv_sub hl [0, 1, 2, 3] rfl)
    exact loop19 4096 0 0 (Nat.le_refl _) rfl ho_L19.symm _ _ _ hP hS (lv_sub hl [0, 1, 2, 3] rfl)
  · refine lv_bipush (v := (-2)) hx hb dX8_many_12 rfl ?_
    have e9 : v_X8_many x1 f_owed = (-2) := by
      refine (bnd_eq ho_6).trans ?_
      refine (if_pos c_9).trans ?_
      rfl
    rw [hQ]; exact retI (-2) hx hb hr hlk e9 hP rfl hS dX8_many_14
def v_X8_bars_L33c (x1 : Int32) (x2 : Int32) (i_wishes : Int32) (f_owed : Nat → Int32) (f_told : Nat → Int32) (i33 : Nat) (z33_1 : Int32) (z33_2 : Int32) : Int32 × Int32 :=
  bnd (v_X8_ones (nI i33)) fun o_43 =>
  (if x2 < o_43 then (z33_1, z33_2)
  else (bnd (v_X8_isLawful (nI i33) f_owed) fun o_53 =>
  (if bI o_53 = 0 then (z33_1, z33_2)
  else (bnd (v_X8_granted (nI i33) i_wishes f_told) fun o_62 =>
  (if ((o_62 >>> (x1 &&& 31)) &&& 1) = 1 then ((z33_1 ||| o_62), (z33_2 ||| o_62))
  else ((z33_1 ||| 0), (z33_2 ||| o_62)))))))
def v_X8_bars_L33 (x1 : Int32) (x2 : Int32) (i_wishes : Int32) (f_owed : Nat → Int32) (f_told : Nat → Int32) (i33 : Nat) (z33 : Int32 × Int32) : Int32 × Int32 := v_X8_bars_L33c x1 x2 i_wishes f_owed f_told i33 z33.1 z33.2
def v_X8_bars (x1 : Int32) (x2 : Int32) (i_wishes : Int32) (f_owed : Nat → Int32) (f_told : Nat → Int32) : Int32 :=
  bnd (v_X8_isWish x1 i_wishes) fun o_2 =>
  (if bI o_2 = 0 then (-1)
  else (bnd (v_X8_in x2.toInt64 0 5) fun o_16 =>
  (if bI o_16 = 0 then (-2)
  else (bnd2 (it (v_X8_bars_L33 x1 x2 i_wishes f_owed f_told) 4096 0 (0, 0)) fun o_L33_1 o_L33_2 =>
  (if ((o_L33_2 >>> (x1 &&& 31)) &&& 1) = 1 then (o_L33_2 &&& (o_L33_1 ^^^ (-1)))
  else 0)))))
abbrev rm_X8_bars : Room := { frames := 5, cells := 0, slots := 0, locals := 113 }
set_option maxHeartbeats 4000000 in
set_option maxRecDepth 100000 in
theorem k_X8_bars (l : Launch) (D : va_G) (cI cZ : ClassId) (a a_readWishes a_readOwed a_told a_owed a_text a_row a_least a_values a_tellPlace a_tellHour a_tellDark a_isKept a_kept : Nat) (x1 : Int32) (x2 : Int32) (i_readHung : Int32) (i_readMany : Int32) (i_readOwes : Int32) (i_wishes : Int32) (i_hung : Int32) (i_hour : Int32) (i_length : Int32) (i_at : Int32) (i_faultAt : Int32) (i_acts : Int32) (i_next : Int32) (i_tells : Int32) (j_seed : Int64) (f_owed : Nat → Int32) (f_told : Nat → Int32) (hw : ∃ k : Nat, k ≤ 5 ∧ i_wishes = nI k) : KI l D cI cZ yX8_bars wsX8_bars rm_X8_bars [.ref a, .int x1, .int x2] [(a, .inr (8, [.ref a_readWishes, .ref a_readOwed, .int i_readHung, .int i_readMany, .int i_readOwes, .ref a_told, .ref a_owed, .int i_wishes, .int i_hung, .int i_hour, .ref a_text, .int i_length, .int i_at, .int i_faultAt, .int i_acts, .int i_next, .ref a_row, .ref a_least, .ref a_values, .int i_tells, .ref a_tellPlace, .ref a_tellHour, .ref a_tellDark, .long j_seed, .ref a_isKept, .ref a_kept])), (a_owed, .inl (cI, 12, .inl f_owed)), (a_told, .inl (cI, 25, .inl f_told))] (v_X8_bars x1 x2 i_wishes f_owed f_told) (fun o : Int32 => o) (fun _ : Int32 => [(a, .inr (8, [.ref a_readWishes, .ref a_readOwed, .int i_readHung, .int i_readMany, .int i_readOwes, .ref a_told, .ref a_owed, .int i_wishes, .int i_hung, .int i_hour, .ref a_text, .int i_length, .int i_at, .int i_faultAt, .int i_acts, .int i_next, .ref a_row, .ref a_least, .ref a_values, .int i_tells, .ref a_tellPlace, .ref a_tellHour, .ref a_tellDark, .long j_seed, .ref a_isKept, .ref a_kept])), (a_owed, .inl (cI, 12, .inl f_owed)), (a_told, .inl (cI, 25, .inl f_told))]) := by
  refine KI.of cX8_bars 7 (some .int) (by decide) rfl (Nat.le_of_ble_eq_true rfl) ?_
  intro p e s m below meth c A ls ar Q hQ B
  obtain ⟨hx, hb, hr, hml, hts, hown, hlk, hK, hN, hP, hD, hA, hS, hl⟩ := B
  have hown : s.vm.findClass RX8 = some m.cls := hown
  have hF : CallFix p m c cX8_bars 7 s ar wsX8_bars RX8 := ⟨hx, hb, hml, hown, hts⟩
  have hl : lv_has ls 7 [(0, .ref a), (1, .int x1), (2, .int x2)] := hl
  refine lv_aload_n hx hb dX8_bars_0 rfl (lv_at hl 0 rfl) ?_
  refine lv_iload_n hx hb dX8_bars_1 rfl (lv_at hl 1 rfl) ?_
  obtain ⟨o_2, ho_2⟩ : ∃ z : Bool, z = v_X8_isWish x1 i_wishes := ⟨_, rfl⟩
  refine callVIs (As := [.int x1]) (rest := []) o_2 ho_2 hF (k_X8_isWish l D cI cZ a a_readWishes a_readOwed a_told a_owed a_text a_row a_least a_values a_tellPlace a_tellHour a_tellDark a_isKept a_kept x1 i_readHung i_readMany i_readOwes i_wishes i_hung i_hour i_length i_at i_faultAt i_acts i_next i_tells j_seed) (cwV 1 hts gX8_bars_X8_isWish rfl rfl rfl (by decide +kernel) ⟨Nat.le_of_ble_eq_true rfl, Nat.le_of_ble_eq_true rfl⟩) hK hN hP (va_Dsame hD rfl) hS hA [0] rfl rfl 0 8 (T := TX8) (N := 26) rfl rfl rfl hl.1 rfl (Nat.le_of_ble_eq_true rfl) dX8_bars_2 ⟨Nat.zero_le _, Nat.zero_le _⟩ (bI o_2) rfl rfl (fun H locs hP hS => ?_)
  refine lv_if_ne (tgt := 10) hx hb dX8_bars_5 (by decide) (fun c_5 => ?_) (fun c_5 => ?_)
  · refine lv_iload_n hx hb dX8_bars_10 rfl (lv_at hl 2 rfl) ?_
    refine lv_i2l (v := x2.toInt64) hx hb dX8_bars_11 rfl ?_
    refine lv_lconst (v := 0) hx hb dX8_bars_12 rfl ?_
    refine lv_ldc2 (v := 5) hx hb hown (hts _ (List.mem_of_getElem? (i := 1) rfl)) dX8_bars_13 ?_
    obtain ⟨o_16, ho_16⟩ : ∃ z : Bool, z = v_X8_in x2.toInt64 0 5 := ⟨_, rfl⟩
    refine callSIs (As := [.long x2.toInt64, .long 0, .long 5]) (rest := []) o_16 ho_16 hF (k_X8_in l D cI cZ x2.toInt64 0 5) (va_cwS 3 hts gX8_bars_X8_in rfl rfl rfl (by decide +kernel) ⟨Nat.le_of_ble_eq_true rfl, Nat.le_of_ble_eq_true rfl⟩) hK hN hP (va_Dsame hD rfl) hS hA [] rfl rfl rfl hl.1 rfl (Nat.le_of_ble_eq_true rfl) dX8_bars_16 ⟨Nat.zero_le _, Nat.zero_le _⟩ (bI o_16) rfl rfl (fun H locs hP hS => ?_)
    refine lv_if_ne (tgt := 25) hx hb dX8_bars_19 (by decide) (fun c_19 => ?_) (fun c_19 => ?_)
    · refine lv_iconst (v := 0) hx hb dX8_bars_25 rfl ?_
      refine lv_istore_n (lv' := [(3, .int 0), (0, .ref a), (1, .int x1), (2, .int x2)]) hx hb dX8_bars_26 rfl hl (by decide) rfl (fun ls hl => ?_)
      refine lv_iconst (v := 0) hx hb dX8_bars_27 rfl ?_
      refine lv_istore (lv' := [(4, .int 0), (3, .int 0), (0, .ref a), (1, .int x1), (2, .int x2)]) hx hb dX8_bars_28 hl (by decide) rfl (fun ls hl => ?_)
      refine lv_iconst (v := 0) hx hb dX8_bars_30 rfl ?_
      refine lv_istore (lv' := [(5, .int 0), (4, .int 0), (3, .int 0), (0, .ref a), (1, .int x1), (2, .int x2)]) hx hb dX8_bars_31 hl (by decide) rfl (fun ls hl => ?_)
      obtain ⟨o_L33_1, o_L33_2, ho_L33⟩ := ex2 (it (v_X8_bars_L33 x1 x2 i_wishes f_owed f_told) 4096 0 (0, 0))
      have kE33 : ∀ (H : Heap) (locs : List Loc) (ls : Array Slot), va_P D vwCl [(a, .inr (8, [.ref a_readWishes, .ref a_readOwed, .int i_readHung, .int i_readMany, .int i_readOwes, .ref a_told, .ref a_owed, .int i_wishes, .int i_hung, .int i_hour, .ref a_text, .int i_length, .int i_at, .int i_faultAt, .int i_acts, .int i_next, .ref a_row, .ref a_least, .ref a_values, .int i_tells, .ref a_tellPlace, .ref a_tellHour, .ref a_tellDark, .long j_seed, .ref a_isKept, .ref a_kept])), (a_owed, .inl (cI, 12, .inl f_owed)), (a_told, .inl (cI, 25, .inl f_told))] H → va_S A s.heap H locs → lv_has ls 7 [(4, .int o_L33_1), (3, .int o_L33_2), (1, .int x1)] → W p l e rm_X8_bars s m ar below meth c H locs 0 0 Q (F0 m 99 ls []) := by
        intro H locs ls hP hS hl
        refine lv_iload_n hx hb dX8_bars_99 rfl (lv_at hl 1 rfl) ?_
        refine lv_iload_n hx hb dX8_bars_100 rfl (lv_at hl 2 rfl) ?_
        refine lv_ishr hx hb dX8_bars_101 ?_
        refine lv_iconst (v := 1) hx hb dX8_bars_102 rfl ?_
        refine lv_iand hx hb dX8_bars_103 ?_
        refine lv_iconst (v := 1) hx hb dX8_bars_104 rfl ?_
        refine lv_icmp_ne (tgt := 117) hx hb dX8_bars_105 (by decide) (fun c_105 => ?_) (fun c_105 => ?_)
        · refine lv_iconst (v := 0) hx hb dX8_bars_117 rfl ?_
          have e9 : v_X8_bars x1 x2 i_wishes f_owed f_told = 0 := by
            refine (bnd_eq ho_2).trans ?_
            refine (if_neg c_5).trans ?_
            refine (bnd_eq ho_16).trans ?_
            refine (if_neg c_19).trans ?_
            refine (bnd2_eq ho_L33).trans ?_
            refine (if_neg c_105).trans ?_
            rfl
          rw [hQ]; exact retI 0 hx hb hr hlk e9 hP rfl hS dX8_bars_118
        · refine lv_iload_n hx hb dX8_bars_108 rfl (lv_at hl 1 rfl) ?_
          refine lv_iload hx hb dX8_bars_109 (lv_at hl 0 rfl) ?_
          refine lv_iconst (v := (-1)) hx hb dX8_bars_111 rfl ?_
          refine lv_ixor hx hb dX8_bars_112 ?_
          refine lv_iand hx hb dX8_bars_113 ?_
          refine lv_goto (tgt := 118) hx hb dX8_bars_114 (by decide) ?_
          have e9 : v_X8_bars x1 x2 i_wishes f_owed f_told = (o_L33_2 &&& (o_L33_1 ^^^ (-1))) := by
            refine (bnd_eq ho_2).trans ?_
            refine (if_neg c_5).trans ?_
            refine (bnd_eq ho_16).trans ?_
            refine (if_neg c_19).trans ?_
            refine (bnd2_eq ho_L33).trans ?_
            refine (if_pos c_105).trans ?_
            rfl
          rw [hQ]; exact retI (o_L33_2 &&& (o_L33_1 ^^^ (-1))) hx hb hr hlk e9 hP rfl hS dX8_bars_118
      have loop33 : ∀ (k i33 : Nat) (z33 : Int32 × Int32), 0 ≤ i33 → i33 + k = 0 + 4096 → it (v_X8_bars_L33 x1 x2 i_wishes f_owed f_told) k i33 z33 = (o_L33_1, o_L33_2) → ∀ (H : Heap) (locs : List Loc) (ls : Array Slot), va_P D vwCl [(a, .inr (8, [.ref a_readWishes, .ref a_readOwed, .int i_readHung, .int i_readMany, .int i_readOwes, .ref a_told, .ref a_owed, .int i_wishes, .int i_hung, .int i_hour, .ref a_text, .int i_length, .int i_at, .int i_faultAt, .int i_acts, .int i_next, .ref a_row, .ref a_least, .ref a_values, .int i_tells, .ref a_tellPlace, .ref a_tellHour, .ref a_tellDark, .long j_seed, .ref a_isKept, .ref a_kept])), (a_owed, .inl (cI, 12, .inl f_owed)), (a_told, .inl (cI, 25, .inl f_told))] H → va_S A s.heap H locs → lv_has ls 7 [(5, .int (nI i33)), (4, .int z33.1), (3, .int z33.2), (0, .ref a), (1, .int x1), (2, .int x2)] → W p l e rm_X8_bars s m ar below meth c H locs 0 0 Q (F0 m 33 ls []) := by
        intro k
        induction k with
        | zero =>
          intro i33 z33 hi0 hik hz H locs ls hP hS hl
          have hz : z33 = (o_L33_1, o_L33_2) := it_0 hz
          subst z33
          have hP : va_P D vwCl [(a, .inr (8, [.ref a_readWishes, .ref a_readOwed, .int i_readHung, .int i_readMany, .int i_readOwes, .ref a_told, .ref a_owed, .int i_wishes, .int i_hung, .int i_hour, .ref a_text, .int i_length, .int i_at, .int i_faultAt, .int i_acts, .int i_next, .ref a_row, .ref a_least, .ref a_values, .int i_tells, .ref a_tellPlace, .ref a_tellHour, .ref a_tellDark, .long j_seed, .ref a_isKept, .ref a_kept])), (a_owed, .inl (cI, 12, .inl f_owed)), (a_told, .inl (cI, 25, .inl f_told))] H := hP
          have hl : lv_has ls 7 [(5, .int (nI i33)), (4, .int o_L33_1), (3, .int o_L33_2), (0, .ref a), (1, .int x1), (2, .int x2)] := hl
          refine lv_iload hx hb dX8_bars_33 (lv_at hl 0 rfl) ?_
          refine lv_sipush (v := 4096) hx hb dX8_bars_35 rfl ?_
          refine lv_icmp_ge (tgt := 99) hx hb dX8_bars_38 (by decide) (fun _ => ?_) (fun c => absurd (nI_le (a := 4096) (by omega) (by omega)) c)
          exact kE33 _ _ _ hP hS (lv_sub hl [1, 2, 4] rfl)
        | succ k ih =>
          intro i33 z33 hi0 hik hz H locs ls hP hS hl
          obtain ⟨z33_1, z33_2⟩ := z33
          have hP : va_P D vwCl [(a, .inr (8, [.ref a_readWishes, .ref a_readOwed, .int i_readHung, .int i_readMany, .int i_readOwes, .ref a_told, .ref a_owed, .int i_wishes, .int i_hung, .int i_hour, .ref a_text, .int i_length, .int i_at, .int i_faultAt, .int i_acts, .int i_next, .ref a_row, .ref a_least, .ref a_values, .int i_tells, .ref a_tellPlace, .ref a_tellHour, .ref a_tellDark, .long j_seed, .ref a_isKept, .ref a_kept])), (a_owed, .inl (cI, 12, .inl f_owed)), (a_told, .inl (cI, 25, .inl f_told))] H := hP
          have hl : lv_has ls 7 [(5, .int (nI i33)), (4, .int z33_1), (3, .int z33_2), (0, .ref a), (1, .int x1), (2, .int x2)] := hl
          refine lv_iload hx hb dX8_bars_33 (lv_at hl 0 rfl) ?_
          refine lv_sipush (v := 4096) hx hb dX8_bars_35 rfl ?_
          refine lv_icmp_ge (tgt := 99) hx hb dX8_bars_38 (by decide) (fun c => absurd c (nI_ge (b := 4096) (by omega) (by decide))) (fun _ => ?_)
          refine lv_iload hx hb dX8_bars_41 (lv_at hl 0 rfl) ?_
          obtain ⟨o_43, ho_43⟩ : ∃ z : Int32, z = v_X8_ones (nI i33) := ⟨_, rfl⟩
          refine callSIs (As := [.int (nI i33)]) (rest := []) o_43 ho_43 hF (k_X8_ones l D cI cZ (nI i33)) (va_cwS 1 hts gX8_bars_X8_ones rfl rfl rfl (by decide +kernel) ⟨Nat.le_of_ble_eq_true rfl, Nat.le_of_ble_eq_true rfl⟩) hK hN hP (va_Dsame hD rfl) hS hA [] rfl rfl rfl hl.1 rfl (Nat.le_of_ble_eq_true rfl) dX8_bars_43 ⟨Nat.zero_le _, Nat.zero_le _⟩ o_43 rfl rfl (fun H locs hP hS => ?_)
          refine lv_iload_n hx hb dX8_bars_46 rfl (lv_at hl 5 rfl) ?_
          refine lv_icmp_gt (tgt := 93) hx hb dX8_bars_47 (by decide) (fun c_47 => ?_) (fun c_47 => ?_)
          · refine lv_iinc (v := (nI (i33 + 1))) (lv' := [(5, .int (nI (i33 + 1))), (4, .int z33_1), (3, .int z33_2), (0, .ref a), (1, .int x1), (2, .int x2)]) hx hb dX8_bars_93 hl (k := 0) rfl (nI_1 _) (by decide) rfl (fun ls hl => ?_)
            refine lv_goto (tgt := 33) hx hb dX8_bars_96 (by decide) ?_
            have e8 : v_X8_bars_L33 x1 x2 i_wishes f_owed f_told i33 (z33_1, z33_2) = (z33_1, z33_2) := by
              show v_X8_bars_L33c x1 x2 i_wishes f_owed f_told i33 z33_1 z33_2 = (z33_1, z33_2)
              refine (bnd_eq ho_43).trans ?_
              refine (if_pos c_47).trans ?_
              rfl
            exact ih (i33 + 1) (z33_1, z33_2) (by omega) (by omega) (it_go e8 hz) _ _ _ hP hS (lv_sub hl [0, 1, 2, 3, 4, 5] rfl)
          · refine lv_aload_n hx hb dX8_bars_50 rfl (lv_at hl 3 rfl) ?_
            refine lv_iload hx hb dX8_bars_51 (lv_at hl 0 rfl) ?_
            obtain ⟨o_53, ho_53⟩ : ∃ z : Bool, z = v_X8_isLawful (nI i33) f_owed := ⟨_, rfl⟩
            refine callVIs (As := [.int (nI i33)]) (rest := []) o_53 ho_53 hF (k_X8_isLawful l D cI cZ a a_readWishes a_readOwed a_told a_owed a_text a_row a_least a_values a_tellPlace a_tellHour a_tellDark a_isKept a_kept (nI i33) i_readHung i_readMany i_readOwes i_wishes i_hung i_hour i_length i_at i_faultAt i_acts i_next i_tells j_seed f_owed) (cwV 1 hts gX8_bars_X8_isLawful rfl rfl rfl (by decide +kernel) ⟨Nat.le_of_ble_eq_true rfl, Nat.le_of_ble_eq_true rfl⟩) hK hN hP (va_Dsame hD rfl) hS hA [0, 1] rfl rfl 0 8 (T := TX8) (N := 26) rfl rfl rfl hl.1 rfl (Nat.le_of_ble_eq_true rfl) dX8_bars_53 ⟨Nat.zero_le _, Nat.zero_le _⟩ (bI o_53) rfl rfl (fun H locs hP hS => ?_)
            refine lv_if_eq (tgt := 93) hx hb dX8_bars_56 (by decide) (fun c_56 => ?_) (fun c_56 => ?_)
            · refine lv_iinc (v := (nI (i33 + 1))) (lv' := [(5, .int (nI (i33 + 1))), (4, .int z33_1), (3, .int z33_2), (0, .ref a), (1, .int x1), (2, .int x2)]) hx hb dX8_bars_93 hl (k := 0) rfl (nI_1 _) (by decide) rfl (fun ls hl => ?_)
              refine lv_goto (tgt := 33) hx hb dX8_bars_96 (by decide) ?_
              have e8 : v_X8_bars_L33 x1 x2 i_wishes f_owed f_told i33 (z33_1, z33_2) = (z33_1, z33_2) := by
                show v_X8_bars_L33c x1 x2 i_wishes f_owed f_told i33 z33_1 z33_2 = (z33_1, z33_2)
                refine (bnd_eq ho_43).trans ?_
                refine (if_neg c_47).trans ?_
                refine (bnd_eq ho_53).trans ?_
                refine (if_pos c_56).trans ?_
                rfl
              exact ih (i33 + 1) (z33_1, z33_2) (by omega) (by omega) (it_go e8 hz) _ _ _ hP hS (lv_sub hl [0, 1, 2, 3, 4, 5] rfl)
            · refine lv_aload_n hx hb dX8_bars_59 rfl (lv_at hl 3 rfl) ?_
              refine lv_iload hx hb dX8_bars_60 (lv_at hl 0 rfl) ?_
              obtain ⟨o_62, ho_62⟩ : ∃ z : Int32, z = v_X8_granted (nI i33) i_wishes f_told := ⟨_, rfl⟩
              refine callVIs (As := [.int (nI i33)]) (rest := []) o_62 ho_62 hF (k_X8_granted l D cI cZ a a_readWishes a_readOwed a_told a_owed a_text a_row a_least a_values a_tellPlace a_tellHour a_tellDark a_isKept a_kept (nI i33) i_readHung i_readMany i_readOwes i_wishes i_hung i_hour i_length i_at i_faultAt i_acts i_next i_tells j_seed f_told (hw)) (cwV 1 hts gX8_bars_X8_granted rfl rfl rfl (by decide +kernel) ⟨Nat.le_of_ble_eq_true rfl, Nat.le_of_ble_eq_true rfl⟩) hK hN hP (va_Dsame hD rfl) hS hA [0, 2] rfl rfl 0 8 (T := TX8) (N := 26) rfl rfl rfl hl.1 rfl (Nat.le_of_ble_eq_true rfl) dX8_bars_62 ⟨Nat.zero_le _, Nat.zero_le _⟩ o_62 rfl rfl (fun H locs hP hS => ?_)
              refine lv_istore (lv' := [(6, .int o_62), (5, .int (nI i33)), (4, .int z33_1), (3, .int z33_2), (0, .ref a), (1, .int x1), (2, .int x2)]) hx hb dX8_bars_65 hl (by decide) rfl (fun ls hl => ?_)
              refine lv_iload_n hx hb dX8_bars_67 rfl (lv_at hl 3 rfl) ?_
              refine lv_iload hx hb dX8_bars_68 (lv_at hl 0 rfl) ?_
              refine lv_ior hx hb dX8_bars_70 ?_
              refine lv_istore_n (lv' := [(3, .int (z33_2 ||| o_62)), (6, .int o_62), (5, .int (nI i33)), (4, .int z33_1), (0, .ref a), (1, .int x1), (2, .int x2)]) hx hb dX8_bars_71 rfl hl (by decide) rfl (fun ls hl => ?_)
              refine lv_iload hx hb dX8_bars_72 (lv_at hl 3 rfl) ?_
              refine lv_iload hx hb dX8_bars_74 (lv_at hl 1 rfl) ?_
              refine lv_iload_n hx hb dX8_bars_76 rfl (lv_at hl 5 rfl) ?_
              refine lv_ishr hx hb dX8_bars_77 ?_
              refine lv_iconst (v := 1) hx hb dX8_bars_78 rfl ?_
              refine lv_iand hx hb dX8_bars_79 ?_
              refine lv_iconst (v := 1) hx hb dX8_bars_80 rfl ?_
              refine lv_icmp_ne (tgt := 89) hx hb dX8_bars_81 (by decide) (fun c_81 => ?_) (fun c_81 => ?_)
              · refine lv_iconst (v := 0) hx hb dX8_bars_89 rfl ?_
                refine lv_ior hx hb dX8_bars_90 ?_
                refine lv_istore (lv' := [(4, .int (z33_1 ||| 0)), (3, .int (z33_2 ||| o_62)), (6, .int o_62), (5, .int (nI i33)), (0, .ref a), (1, .int x1), (2, .int x2)]) hx hb dX8_bars_91 hl (by decide) rfl (fun ls hl => ?_)
                refine lv_iinc (v := (nI (i33 + 1))) (lv' := [(5, .int (nI (i33 + 1))), (4, .int (z33_1 ||| 0)), (3, .int (z33_2 ||| o_62)), (6, .int o_62), (0, .ref a), (1, .int x1), (2, .int x2)]) hx hb dX8_bars_93 hl (k := 3) rfl (nI_1 _) (by decide) rfl (fun ls hl => ?_)
                refine lv_goto (tgt := 33) hx hb dX8_bars_96 (by decide) ?_
                have e8 : v_X8_bars_L33 x1 x2 i_wishes f_owed f_told i33 (z33_1, z33_2) = ((z33_1 ||| 0), (z33_2 ||| o_62)) := by
                  show v_X8_bars_L33c x1 x2 i_wishes f_owed f_told i33 z33_1 z33_2 = ((z33_1 ||| 0), (z33_2 ||| o_62))
                  refine (bnd_eq ho_43).trans ?_
                  refine (if_neg c_47).trans ?_
                  refine (bnd_eq ho_53).trans ?_
                  refine (if_neg c_56).trans ?_
                  refine (bnd_eq ho_62).trans ?_
                  refine (if_neg c_81).trans ?_
                  rfl
                exact ih (i33 + 1) ((z33_1 ||| 0), (z33_2 ||| o_62)) (by omega) (by omega) (it_go e8 hz) _ _ _ hP hS (lv_sub hl [0, 1, 2, 4, 5, 6] rfl)
              · refine lv_iload hx hb dX8_bars_84 (lv_at hl 1 rfl) ?_
                refine lv_goto (tgt := 90) hx hb dX8_bars_86 (by decide) ?_
                refine lv_ior hx hb dX8_bars_90 ?_
                refine lv_istore (lv' := [(4, .int (z33_1 ||| o_62)), (3, .int (z33_2 ||| o_62)), (6, .int o_62), (5, .int (nI i33)), (0, .ref a), (1, .int x1), (2, .int x2)]) hx hb dX8_bars_91 hl (by decide) rfl (fun ls hl => ?_)
                refine lv_iinc (v := (nI (i33 + 1))) (lv' := [(5, .int (nI (i33 + 1))), (4, .int (z33_1 ||| o_62)), (3, .int (z33_2 ||| o_62)), (6, .int o_62), (0, .ref a), (1, .int x1), (2, .int x2)]) hx hb dX8_bars_93 hl (k := 3) rfl (nI_1 _) (by decide) rfl (fun ls hl => ?_)
                refine lv_goto (tgt := 33) hx hb dX8_bars_96 (by decide) ?_
                have e8 : v_X8_bars_L33 x1 x2 i_wishes f_owed f_told i33 (z33_1, z33_2) = ((z33_1 ||| o_62), (z33_2 ||| o_62)) := by
                  show v_X8_bars_L33c x1 x2 i_wishes f_owed f_told i33 z33_1 z33_2 = ((z33_1 ||| o_62), (z33_2 ||| o_62))
                  refine (bnd_eq ho_43).trans ?_
                  refine (if_neg c_47).trans ?_
                  refine (bnd_eq ho_53).trans ?_
                  refine (if_neg c_56).trans ?_
                  refine (bnd_eq ho_62).trans ?_
                  refine (if_pos c_81).trans ?_
                  rfl
                exact ih (i33 + 1) ((z33_1 ||| o_62), (z33_2 ||| o_62)) (by omega) (by omega) (it_go e8 hz) _ _ _ hP hS (lv_sub hl [0, 1, 2, 4, 5, 6] rfl)
      exact loop33 4096 0 (0, 0) (Nat.le_refl _) rfl ho_L33.symm _ _ _ hP hS (lv_sub hl [0, 1, 2, 3, 4, 5] rfl)
    · refine lv_bipush (v := (-2)) hx hb dX8_bars_22 rfl ?_
      have e9 : v_X8_bars x1 x2 i_wishes f_owed f_told = (-2) := by
        refine (bnd_eq ho_2).trans ?_
        refine (if_neg c_5).trans ?_
        refine (bnd_eq ho_16).trans ?_
        refine (if_pos c_19).trans ?_
        rfl
      rw [hQ]; exact retI (-2) hx hb hr hlk e9 hP rfl hS dX8_bars_24
  · refine lv_iconst (v := (-1)) hx hb dX8_bars_8 rfl ?_
    have e9 : v_X8_bars x1 x2 i_wishes f_owed f_told = (-1) := by
      refine (bnd_eq ho_2).trans ?_
      refine (if_pos c_5).trans ?_
      rfl
    rw [hQ]; exact retI (-1) hx hb hr hlk e9 hP rfl hS dX8_bars_9
