def v_X8_loss (x1 : Int32) (i_wishes : Int32) (i_hung : Int32) (f_told : Nat → Int32) : Int32 :=
  bnd (v_X8_isCell x1) fun o_1 =>
  (if bI o_1 = 0 then (-1)
  else (bnd (v_X8_has i_hung x1) fun o_14 =>
  (if bI o_14 = 0 then (-3)
  else (bnd (v_X8_granted i_hung i_wishes f_told) fun o_29 =>
  (bnd (v_X8_worthOf o_29 i_wishes f_told) fun o_32 =>
  (bnd (v_X8_granted (i_hung &&& (((1 : Int32) <<< (x1 &&& 31)) ^^^ (-1))) i_wishes f_told) fun o_47 =>
  (bnd (v_X8_worthOf o_47 i_wishes f_told) fun o_50 =>
  ((o_32 - o_50) + 1000))))))))
abbrev rm_X8_loss : Room := { frames := 5, cells := 0, slots := 0, locals := 113 }
set_option maxHeartbeats 4000000 in
set_option maxRecDepth 100000 in
theorem k_X8_loss (l : Launch) (D : va_G) (cI cZ : ClassId) (a a_readWishes a_readOwed a_told a_owed a_text a_row a_least a_values a_tellPlace a_tellHour a_tellDark a_isKept a_kept : Nat) (x1 : Int32) (i_readHung : Int32) (i_readMany : Int32) (i_readOwes : Int32) (i_wishes : Int32) (i_hung : Int32) (i_hour : Int32) (i_length : Int32) (i_at : Int32) (i_faultAt : Int32) (i_acts : Int32) (i_next : Int32) (i_tells : Int32) (j_seed : Int64) (f_told : Nat → Int32) (hw : ∃ k : Nat, k ≤ 5 ∧ i_wishes = nI k) : KI l D cI cZ yX8_loss wsX8_loss rm_X8_loss [.ref a, .int x1] [(a, .inr (8, [.ref a_readWishes, .ref a_readOwed, .int i_readHung, .int i_readMany, .int i_readOwes, .ref a_told, .ref a_owed, .int i_wishes, .int i_hung, .int i_hour, .ref a_text, .int i_length, .int i_at, .int i_faultAt, .int i_acts, .int i_next, .ref a_row, .ref a_least, .ref a_values, .int i_tells, .ref a_tellPlace, .ref a_tellHour, .ref a_tellDark, .long j_seed, .ref a_isKept, .ref a_kept])), (a_told, .inl (cI, 25, .inl f_told))] (v_X8_loss x1 i_wishes i_hung f_told) (fun o : Int32 => o) (fun _ : Int32 => [(a, .inr (8, [.ref a_readWishes, .ref a_readOwed, .int i_readHung, .int i_readMany, .int i_readOwes, .ref a_told, .ref a_owed, .int i_wishes, .int i_hung, .int i_hour, .ref a_text, .int i_length, .int i_at, .int i_faultAt, .int i_acts, .int i_next, .ref a_row, .ref a_least, .ref a_values, .int i_tells, .ref a_tellPlace, .ref a_tellHour, .ref a_tellDark, .long j_seed, .ref a_isKept, .ref a_kept])), (a_told, .inl (cI, 25, .inl f_told))]) := by
  refine KI.of cX8_loss 2 (some .int) (by decide) rfl (Nat.le_of_ble_eq_true rfl) ?_
  intro p e s m below meth c A ls ar Q hQ B
  obtain ⟨hx, hb, hr, hml, hts, hown, hlk, hK, hN, hP, hD, hA, hS, hl⟩ := B
  have hown : s.vm.findClass RX8 = some m.cls := hown
  have hF : CallFix p m c cX8_loss 2 s ar wsX8_loss RX8 := ⟨hx, hb, hml, hown, hts⟩
  have hl : lv_has ls 2 [(0, .ref a), (1, .int x1)] := hl
  refine lv_iload_n hx hb dX8_loss_0 rfl (lv_at hl 1 rfl) ?_
  obtain ⟨o_1, ho_1⟩ : ∃ z : Bool, z = v_X8_isCell x1 := ⟨_, rfl⟩
  refine callSIs (As := [.int x1]) (rest := []) o_1 ho_1 hF (k_X8_isCell l D cI cZ x1) (va_cwS 1 hts gX8_loss_X8_isCell rfl rfl rfl (by decide +kernel) ⟨Nat.le_of_ble_eq_true rfl, Nat.le_of_ble_eq_true rfl⟩) hK hN hP (va_Dsame hD rfl) hS hA [] rfl rfl rfl hl.1 rfl (Nat.le_of_ble_eq_true rfl) dX8_loss_1 ⟨Nat.zero_le _, Nat.zero_le _⟩ (bI o_1) rfl rfl (fun H locs hP hS => ?_)
  refine lv_if_ne (tgt := 9) hx hb dX8_loss_4 (by decide) (fun c_4 => ?_) (fun c_4 => ?_)
  · refine lv_aload_n hx hb dX8_loss_9 rfl (lv_at hl 0 rfl) ?_
    refine va_get (D := D) (ci := 8) (v := .int i_hung) (C := RX8) (T := TX8) (N := 26) hx hb hts (fun _ h => List.mem_cons_of_mem _ (List.mem_append_right _ (h))) hown hK hP 0 rfl rfl 8 (by decide) (hts _ (List.mem_of_getElem? (i := 1) rfl)) (fun _ h9 => h9) rfl dX8_loss_10 ?_
    refine lv_iload_n hx hb dX8_loss_13 rfl (lv_at hl 1 rfl) ?_
    obtain ⟨o_14, ho_14⟩ : ∃ z : Bool, z = v_X8_has i_hung x1 := ⟨_, rfl⟩
    refine callSIs (As := [.int i_hung, .int x1]) (rest := []) o_14 ho_14 hF (k_X8_has l D cI cZ i_hung x1) (va_cwS 2 hts gX8_loss_X8_has rfl rfl rfl (by decide +kernel) ⟨Nat.le_of_ble_eq_true rfl, Nat.le_of_ble_eq_true rfl⟩) hK hN hP (va_Dsame hD rfl) hS hA [] rfl rfl rfl hl.1 rfl (Nat.le_of_ble_eq_true rfl) dX8_loss_14 ⟨Nat.zero_le _, Nat.zero_le _⟩ (bI o_14) rfl rfl (fun H locs hP hS => ?_)
    refine lv_if_ne (tgt := 23) hx hb dX8_loss_17 (by decide) (fun c_17 => ?_) (fun c_17 => ?_)
    · refine lv_aload_n hx hb dX8_loss_23 rfl (lv_at hl 0 rfl) ?_
      refine lv_aload_n hx hb dX8_loss_24 rfl (lv_at hl 0 rfl) ?_
      refine lv_aload_n hx hb dX8_loss_25 rfl (lv_at hl 0 rfl) ?_
      refine va_get (D := D) (ci := 8) (v := .int i_hung) (C := RX8) (T := TX8) (N := 26) hx hb hts (fun _ h => List.mem_cons_of_mem _ (List.mem_append_right _ (h))) hown hK hP 0 rfl rfl 8 (by decide) (hts _ (List.mem_of_getElem? (i := 1) rfl)) (fun _ h9 => h9) rfl dX8_loss_26 ?_
      obtain ⟨o_29, ho_29⟩ : ∃ z : Int32, z = v_X8_granted i_hung i_wishes f_told := ⟨_, rfl⟩
      refine callVIs (As := [.int i_hung]) (rest := [.ref a]) o_29 ho_29 hF (k_X8_granted l D cI cZ a a_readWishes a_readOwed a_told a_owed a_text a_row a_least a_values a_tellPlace a_tellHour a_tellDark a_isKept a_kept i_hung i_readHung i_readMany i_readOwes i_wishes i_hung i_hour i_length i_at i_faultAt i_acts i_next i_tells j_seed f_told (hw)) (cwV 1 hts gX8_loss_X8_granted rfl rfl rfl (by decide +kernel) ⟨Nat.le_of_ble_eq_true rfl, Nat.le_of_ble_eq_true rfl⟩) hK hN hP (va_Dsame hD rfl) hS hA [0, 1] rfl rfl 0 8 (T := TX8) (N := 26) rfl rfl rfl hl.1 rfl (Nat.le_of_ble_eq_true rfl) dX8_loss_29 ⟨Nat.zero_le _, Nat.zero_le _⟩ o_29 rfl rfl (fun H locs hP hS => ?_)
      obtain ⟨o_32, ho_32⟩ : ∃ z : Int32, z = v_X8_worthOf o_29 i_wishes f_told := ⟨_, rfl⟩
      refine callVIs (As := [.int o_29]) (rest := []) o_32 ho_32 hF (k_X8_worthOf l D cI cZ a a_readWishes a_readOwed a_told a_owed a_text a_row a_least a_values a_tellPlace a_tellHour a_tellDark a_isKept a_kept o_29 i_readHung i_readMany i_readOwes i_wishes i_hung i_hour i_length i_at i_faultAt i_acts i_next i_tells j_seed f_told (hw)) (cwV 1 hts gX8_loss_X8_worthOf rfl rfl rfl (by decide +kernel) ⟨Nat.le_of_ble_eq_true rfl, Nat.le_of_ble_eq_true rfl⟩) hK hN hP (va_Dsame hD rfl) hS hA [0, 1] rfl rfl 0 8 (T := TX8) (N := 26) rfl rfl rfl hl.1 rfl (Nat.le_of_ble_eq_true rfl) dX8_loss_32 ⟨Nat.zero_le _, Nat.zero_le _⟩ o_32 rfl rfl (fun H locs hP hS => ?_)
      refine lv_aload_n hx hb dX8_loss_35 rfl (lv_at hl 0 rfl) ?_
      refine lv_aload_n hx hb dX8_loss_36 rfl (lv_at hl 0 rfl) ?_
      refine lv_aload_n hx hb dX8_loss_37 rfl (lv_at hl 0 rfl) ?_
      refine va_get (D := D) (ci := 8) (v := .int i_hung) (C := RX8) (T := TX8) (N := 26) hx hb hts (fun _ h => List.mem_cons_of_mem _ (List.mem_append_right _ (h))) hown hK hP 0 rfl rfl 8 (by decide) (hts _ (List.mem_of_getElem? (i := 1) rfl)) (fun _ h9 => h9) rfl dX8_loss_38 ?_
      refine lv_iconst (v := 1) hx hb dX8_loss_41 rfl ?_
      refine lv_iload_n hx hb dX8_loss_42 rfl (lv_at hl 1 rfl) ?_
      refine lv_ishl hx hb dX8_loss_43 ?_
      refine lv_iconst (v := (-1)) hx hb dX8_loss_44 rfl ?_
      refine lv_ixor hx hb dX8_loss_45 ?_
      refine lv_iand hx hb dX8_loss_46 ?_
      obtain ⟨o_47, ho_47⟩ : ∃ z : Int32, z = v_X8_granted (i_hung &&& (((1 : Int32) <<< (x1 &&& 31)) ^^^ (-1))) i_wishes f_told := ⟨_, rfl⟩
      refine callVIs (As := [.int (i_hung &&& (((1 : Int32) <<< (x1 &&& 31)) ^^^ (-1)))]) (rest := [.ref a, .int o_32]) o_47 ho_47 hF (k_X8_granted l D cI cZ a a_readWishes a_readOwed a_told a_owed a_text a_row a_least a_values a_tellPlace a_tellHour a_tellDark a_isKept a_kept (i_hung &&& (((1 : Int32) <<< (x1 &&& 31)) ^^^ (-1))) i_readHung i_readMany i_readOwes i_wishes i_hung i_hour i_length i_at i_faultAt i_acts i_next i_tells j_seed f_told (hw)) (cwV 1 hts gX8_loss_X8_granted rfl rfl rfl (by decide +kernel) ⟨Nat.le_of_ble_eq_true rfl, Nat.le_of_ble_eq_true rfl⟩) hK hN hP (va_Dsame hD rfl) hS hA [0, 1] rfl rfl 0 8 (T := TX8) (N := 26) rfl rfl rfl hl.1 rfl (Nat.le_of_ble_eq_true rfl) dX8_loss_47 ⟨Nat.zero_le _, Nat.zero_le _⟩ o_47 rfl rfl (fun H locs hP hS => ?_)
      obtain ⟨o_50, ho_50⟩ : ∃ z : Int32, z = v_X8_worthOf o_47 i_wishes f_told := ⟨_, rfl⟩
      refine callVIs (As := [.int o_47]) (rest := [.int o_32]) o_50 ho_50 hF (k_X8_worthOf l D cI cZ a a_readWishes a_readOwed a_told a_owed a_text a_row a_least a_values a_tellPlace a_tellHour a_tellDark a_isKept a_kept o_47 i_readHung i_readMany i_readOwes i_wishes i_hung i_hour i_length i_at i_faultAt i_acts i_next i_tells j_seed f_told (hw)) (cwV 1 hts gX8_loss_X8_worthOf rfl rfl rfl (by decide +kernel) ⟨Nat.le_of_ble_eq_true rfl, Nat.le_of_ble_eq_true rfl⟩) hK hN hP (va_Dsame hD rfl) hS hA [0, 1] rfl rfl 0 8 (T := TX8) (N := 26) rfl rfl rfl hl.1 rfl (Nat.le_of_ble_eq_true rfl) dX8_loss_50 ⟨Nat.zero_le _, Nat.zero_le _⟩ o_50 rfl rfl (fun H locs hP hS => ?_)
      refine lv_isub hx hb dX8_loss_53 ?_
      refine lv_sipush (v := 1000) hx hb dX8_loss_54 rfl ?_
      refine lv_iadd hx hb dX8_loss_57 ?_
      have e9 : v_X8_loss x1 i_wishes i_hung f_told = ((o_32 - o_50) + 1000) := by
        refine (bnd_eq ho_1).trans ?_
        refine (if_neg c_4).trans ?_
        refine (bnd_eq ho_14).trans ?_
        refine (if_neg c_17).trans ?_
        refine (bnd_eq ho_29).trans ?_
        refine (bnd_eq ho_32).trans ?_
        refine (bnd_eq ho_47).trans ?_
        refine (bnd_eq ho_50).trans ?_
        rfl
      rw [hQ]; exact retI ((o_32 - o_50) + 1000) hx hb hr hlk e9 hP rfl hS dX8_loss_58
    · refine lv_bipush (v := (-3)) hx hb dX8_loss_20 rfl ?_
      have e9 : v_X8_loss x1 i_wishes i_hung f_told = (-3) := by
        refine (bnd_eq ho_1).trans ?_
        refine (if_neg c_4).trans ?_
        refine (bnd_eq ho_14).trans ?_
        refine (if_pos c_17).trans ?_
        rfl
      rw [hQ]; exact retI (-3) hx hb hr hlk e9 hP rfl hS dX8_loss_22
  · refine lv_iconst (v := (-1)) hx hb dX8_loss_7 rfl ?_
    have e9 : v_X8_loss x1 i_wishes i_hung f_told = (-1) := by
      refine (bnd_eq ho_1).trans ?_
      refine (if_pos c_4).trans ?_
      rfl
    rw [hQ]; exact retI (-1) hx hb hr hlk e9 hP rfl hS dX8_loss_8
def v_X8_far (x0 : Int32) (x1 : Int32) : Int32 :=
  if 0 ≤ ((x0 - x0 / 6 * 6) - (x1 - x1 / 6 * 6)) then (if ((x0 - x0 / 6 * 6) - (x1 - x1 / 6 * 6)) ≤ 3 then (if (x0 / 6) = (x1 / 6) then (((x0 - x0 / 6 * 6) - (x1 - x1 / 6 * 6)) + 0)
      else (((x0 - x0 / 6 * 6) - (x1 - x1 / 6 * 6)) + 1))
    else (if (x0 / 6) = (x1 / 6) then ((6 - ((x0 - x0 / 6 * 6) - (x1 - x1 / 6 * 6))) + 0)
    else ((6 - ((x0 - x0 / 6 * 6) - (x1 - x1 / 6 * 6))) + 1)))
  else (bnd ((((x0 - x0 / 6 * 6) - (x1 - x1 / 6 * 6)) + 6)) fun w_22 =>
  (if w_22 ≤ 3 then (if (x0 / 6) = (x1 / 6) then (w_22 + 0)
    else (w_22 + 1))
  else (if (x0 / 6) = (x1 / 6) then ((6 - w_22) + 0)
  else ((6 - w_22) + 1))))
abbrev rm_X8_far : Room := { frames := 0, cells := 0, slots := 0, locals := 0 }
set_option maxHeartbeats 4000000 in
set_option maxRecDepth 100000 in
theorem k_X8_far (l : Launch) (D : va_G) (cI cZ : ClassId) (x0 : Int32) (x1 : Int32) : KI l D cI cZ yX8_far wsX8_far rm_X8_far [.int x0, .int x1] [] (v_X8_far x0 x1) (fun o : Int32 => o) (fun _ : Int32 => []) := by
  refine KI.of cX8_far 3 (some .int) (by decide) rfl (Nat.le_of_ble_eq_true rfl) ?_
  intro p e s m below meth c A ls ar Q hQ B
  obtain ⟨hx, hb, hr, hml, hts, hown, hlk, hK, hN, hP, hD, hA, hS, hl⟩ := B
  have hown : s.vm.findClass RX8 = some m.cls := hown
  have hF : CallFix p m c cX8_far 3 s ar wsX8_far RX8 := ⟨hx, hb, hml, hown, hts⟩
  have hl : lv_has ls 3 [(0, .int x0), (1, .int x1)] := hl
  refine lv_iload_n hx hb dX8_far_0 rfl (lv_at hl 0 rfl) ?_
  refine lv_bipush (v := 6) hx hb dX8_far_1 rfl ?_
  refine lv_irem hx hb dX8_far_3 (by decide) ?_
  refine lv_iload_n hx hb dX8_far_4 rfl (lv_at hl 1 rfl) ?_
  refine lv_bipush (v := 6) hx hb dX8_far_5 rfl ?_
  refine lv_irem hx hb dX8_far_7 (by decide) ?_
  refine lv_isub hx hb dX8_far_8 ?_
  refine lv_istore_n (lv' := [(2, .int ((x0 - x0 / 6 * 6) - (x1 - x1 / 6 * 6))), (0, .int x0), (1, .int x1)]) hx hb dX8_far_9 rfl hl (by decide) rfl (fun ls hl => ?_)
  refine lv_iload_n hx hb dX8_far_10 rfl (lv_at hl 0 rfl) ?_
  refine lv_if_ge (tgt := 21) hx hb dX8_far_11 (by decide) (fun c_11 => ?_) (fun c_11 => ?_)
  · refine lv_iload_n hx hb dX8_far_21 rfl (lv_at hl 0 rfl) ?_
    refine lv_istore_n (lv' := [(2, .int ((x0 - x0 / 6 * 6) - (x1 - x1 / 6 * 6))), (0, .int x0), (1, .int x1)]) hx hb dX8_far_22 rfl hl (by decide) rfl (fun ls hl => ?_)
    refine lv_iload_n hx hb dX8_far_23 rfl (lv_at hl 0 rfl) ?_
    refine lv_iconst (v := 3) hx hb dX8_far_24 rfl ?_
    refine lv_icmp_le (tgt := 35) hx hb dX8_far_25 (by decide) (fun c_25 => ?_) (fun c_25 => ?_)
    · refine lv_iload_n hx hb dX8_far_35 rfl (lv_at hl 0 rfl) ?_
      refine lv_iload_n hx hb dX8_far_36 rfl (lv_at hl 1 rfl) ?_
      refine lv_bipush (v := 6) hx hb dX8_far_37 rfl ?_
      refine lv_idiv hx hb dX8_far_39 (by decide) ?_
      refine lv_iload_n hx hb dX8_far_40 rfl (lv_at hl 2 rfl) ?_
      refine lv_bipush (v := 6) hx hb dX8_far_41 rfl ?_
      refine lv_idiv hx hb dX8_far_43 (by decide) ?_
      refine lv_icmp_ne (tgt := 51) hx hb dX8_far_44 (by decide) (fun c_44 => ?_) (fun c_44 => ?_)
      · refine lv_iconst (v := 1) hx hb dX8_far_51 rfl ?_
        refine lv_iadd hx hb dX8_far_52 ?_
        have e9 : v_X8_far x0 x1 = (((x0 - x0 / 6 * 6) - (x1 - x1 / 6 * 6)) + 1) := by
          refine (if_pos c_11).trans ?_
          refine (if_pos c_25).trans ?_
          refine (if_neg c_44).trans ?_
          rfl
        rw [hQ]; exact retI (((x0 - x0 / 6 * 6) - (x1 - x1 / 6 * 6)) + 1) hx hb hr hlk e9 hP rfl hS dX8_far_53
      · refine lv_iconst (v := 0) hx hb dX8_far_47 rfl ?_
        refine lv_goto (tgt := 52) hx hb dX8_far_48 (by decide) ?_
        refine lv_iadd hx hb dX8_far_52 ?_
        have e9 : v_X8_far x0 x1 = (((x0 - x0 / 6 * 6) - (x1 - x1 / 6 * 6)) + 0) := by
          refine (if_pos c_11).trans ?_
          refine (if_pos c_25).trans ?_
          refine (if_pos c_44).trans ?_
          rfl
        rw [hQ]; exact retI (((x0 - x0 / 6 * 6) - (x1 - x1 / 6 * 6)) + 0) hx hb hr hlk e9 hP rfl hS dX8_far_53
    · refine lv_bipush (v := 6) hx hb dX8_far_28 rfl ?_
      refine lv_iload_n hx hb dX8_far_30 rfl (lv_at hl 0 rfl) ?_
      refine lv_isub hx hb dX8_far_31 ?_
      refine lv_goto (tgt := 36) hx hb dX8_far_32 (by decide) ?_
      refine lv_iload_n hx hb dX8_far_36 rfl (lv_at hl 1 rfl) ?_
      refine lv_bipush (v := 6) hx hb dX8_far_37 rfl ?_
      refine lv_idiv hx hb dX8_far_39 (by decide) ?_
      refine lv_iload_n hx hb dX8_far_40 rfl (lv_at hl 2 rfl) ?_
      refine lv_bipush (v := 6) hx hb dX8_far_41 rfl ?_
      refine lv_idiv hx hb dX8_far_43 (by decide) ?_
      refine lv_icmp_ne (tgt := 51) hx hb dX8_far_44 (by decide) (fun c_44 => ?_) (fun c_44 => ?_)
      · refine lv_iconst (v := 1) hx hb dX8_far_51 rfl ?_
        refine lv_iadd hx hb dX8_far_52 ?_
        have e9 : v_X8_far x0 x1 = ((6 - ((x0 - x0 / 6 * 6) - (x1 - x1 / 6 * 6))) + 1) := by
          refine (if_pos c_11).trans ?_
          refine (if_neg c_25).trans ?_
          refine (if_neg c_44).trans ?_
          rfl
        rw [hQ]; exact retI ((6 - ((x0 - x0 / 6 * 6) - (x1 - x1 / 6 * 6))) + 1) hx hb hr hlk e9 hP rfl hS dX8_far_53
      · refine lv_iconst (v := 0) hx hb dX8_far_47 rfl ?_
        refine lv_goto (tgt := 52) hx hb dX8_far_48 (by decide) ?_
        refine lv_iadd hx hb dX8_far_52 ?_
        have e9 : v_X8_far x0 x1 = ((6 - ((x0 - x0 / 6 * 6) - (x1 - x1 / 6 * 6))) + 0) := by
          refine (if_pos c_11).trans ?_
          refine (if_neg c_25).trans ?_
          refine (if_pos c_44).trans ?_
          rfl
        rw [hQ]; exact retI ((6 - ((x0 - x0 / 6 * 6) - (x1 - x1 / 6 * 6))) + 0) hx hb hr hlk e9 hP rfl hS dX8_far_53
  · refine lv_iload_n hx hb dX8_far_14 rfl (lv_at hl 0 rfl) ?_
    refine lv_bipush (v := 6) hx hb dX8_far_15 rfl ?_
    refine lv_iadd hx hb dX8_far_17 ?_
    refine lv_goto (tgt := 22) hx hb dX8_far_18 (by decide) ?_
    refine lv_topi (fun w_22 hw_22 => ?_)
    refine lv_istore_n (lv' := [(2, .int w_22), (0, .int x0), (1, .int x1)]) hx hb dX8_far_22 rfl hl (by decide) rfl (fun ls hl => ?_)
    refine lv_iload_n hx hb dX8_far_23 rfl (lv_at hl 0 rfl) ?_
    refine lv_iconst (v := 3) hx hb dX8_far_24 rfl ?_
    refine lv_icmp_le (tgt := 35) hx hb dX8_far_25 (by decide) (fun c_25 => ?_) (fun c_25 => ?_)
    · refine lv_iload_n hx hb dX8_far_35 rfl (lv_at hl 0 rfl) ?_
      refine lv_iload_n hx hb dX8_far_36 rfl (lv_at hl 1 rfl) ?_
      refine lv_bipush (v := 6) hx hb dX8_far_37 rfl ?_
      refine lv_idiv hx hb dX8_far_39 (by decide) ?_
      refine lv_iload_n hx hb dX8_far_40 rfl (lv_at hl 2 rfl) ?_
      refine lv_bipush (v := 6) hx hb dX8_far_41 rfl ?_
      refine lv_idiv hx hb dX8_far_43 (by decide) ?_
      refine lv_icmp_ne (tgt := 51) hx hb dX8_far_44 (by decide) (fun c_44 => ?_) (fun c_44 => ?_)
      · refine lv_iconst (v := 1) hx hb dX8_far_51 rfl ?_
        refine lv_iadd hx hb dX8_far_52 ?_
        have e9 : v_X8_far x0 x1 = (w_22 + 1) := by
          refine (if_neg c_11).trans ?_
          refine (bnd_eq hw_22).trans ?_
          refine (if_pos c_25).trans ?_
          refine (if_neg c_44).trans ?_
          rfl
        rw [hQ]; exact retI (w_22 + 1) hx hb hr hlk e9 hP rfl hS dX8_far_53
      · refine lv_iconst (v := 0) hx hb dX8_far_47 rfl ?_
        refine lv_goto (tgt := 52) hx hb dX8_far_48 (by decide) ?_
        refine lv_iadd hx hb dX8_far_52 ?_
        have e9 : v_X8_far x0 x1 = (w_22 + 0) := by
          refine (if_neg c_11).trans ?_
          refine (bnd_eq hw_22).trans ?_
          refine (if_pos c_25).trans ?_
          refine (if_pos c_44).trans ?_
          rfl
        rw [hQ]; exact retI (w_22 + 0) hx hb hr hlk e9 hP rfl hS dX8_far_53
    · refine lv_bipush (v := 6) hx hb dX8_far_28 rfl ?_
      refine lv_iload_n hx hb dX8_far_30 rfl (lv_at hl 0 rfl) ?_
      refine lv_isub hx hb dX8_far_31 ?_
      refine lv_goto (tgt := 36) hx hb dX8_far_32 (by decide) ?_
      refine lv_iload_n hx hb dX8_far_36 rfl (lv_at hl 1 rfl) ?_
      refine lv_bipush (v := 6) hx hb dX8_far_37 rfl ?_
      refine lv_idiv hx hb dX8_far_39 (by decide) ?_
      refine lv_iload_n hx hb dX8_far_40 rfl (lv_at hl 2 rfl) ?_
      refine lv_bipush (v := 6) hx hb dX8_far_41 rfl ?_
      refine lv_idiv hx hb dX8_far_43 (by decide) ?_
      refine lv_icmp_ne (tgt := 51) hx hb dX8_far_44 (by decide) (fun c_44 => ?_) (fun c_44 => ?_)
      · refine lv_iconst (v := 1) hx hb dX8_far_51 rfl ?_
        refine lv_iadd hx hb dX8_far_52 ?_
        have e9 : v_X8_far x0 x1 = ((6 - w_22) + 1) := by
          refine (if_neg c_11).trans ?_
          refine (bnd_eq hw_22).trans ?_
          refine (if_neg c_25).trans ?_
          refine (if_neg c_44).trans ?_
          rfl
        rw [hQ]; exact retI ((6 - w_22) + 1) hx hb hr hlk e9 hP rfl hS dX8_far_53
      · refine lv_iconst (v := 0) hx hb dX8_far_47 rfl ?_
        refine lv_goto (tgt := 52) hx hb dX8_far_48 (by decide) ?_
        refine lv_iadd hx hb dX8_far_52 ?_
        have e9 : v_X8_far x0 x1 = ((6 - w_22) + 0) := by
          refine (if_neg c_11).trans ?_
          refine (bnd_eq hw_22).trans ?_
          refine (if_neg c_25).trans ?_
          refine (if_pos c_44).trans ?_
          rfl
        rw [hQ]; exact retI ((6 - w_22) + 0) hx hb hr hlk e9 hP rfl hS dX8_far_53
def v_X8_ofSet_L4 (x0 : Int32) (i4 : Nat) (z4 : Int32) : Sum (Int32) (Int32) :=
  bnd (v_X8_has x0 (nI i4)) fun o_12 =>
  (if bI o_12 = 0 then .inl z4
  else (if z4 = 0 then .inr (nI i4)
  else .inl (z4 + (-1))))
def v_X8_ofSet (x0 : Int32) (x1 : Int32) : Int32 :=
  mch (itx (v_X8_ofSet_L4 x0) 12 0 x1) fun s4 =>
  (-9)
abbrev rm_X8_ofSet : Room := { frames := 1, cells := 0, slots := 0, locals := 21 }
set_option maxHeartbeats 4000000 in
set_option maxRecDepth 100000 in
theorem k_X8_ofSet (l : Launch) (D : va_G) (cI cZ : ClassId) (x0 : Int32) (x1 : Int32) : KI l D cI cZ yX8_ofSet wsX8_ofSet rm_X8_ofSet [.int x0, .int x1] [] (v_X8_ofSet x0 x1) (fun o : Int32 => o) (fun _ : Int32 => []) := by
  refine KI.of cX8_ofSet 4 (some .int) (by decide) rfl (Nat.le_of_ble_eq_true rfl) ?_
  intro p e s m below meth c A ls ar Q hQ B
  obtain ⟨hx, hb, hr, hml, hts, hown, hlk, hK, hN, hP, hD, hA, hS, hl⟩ := B
  have hown : s.vm.findClass RX8 = some m.cls := hown
  have hF : CallFix p m c cX8_ofSet 4 s ar wsX8_ofSet RX8 := ⟨hx, hb, hml, hown, hts⟩
  have hl : lv_has ls 4 [(0, .int x0), (1, .int x1)] := hl
  refine lv_iload_n hx hb dX8_ofSet_0 rfl (lv_at hl 1 rfl) ?_
  refine lv_istore_n (lv' := [(2, .int x1), (0, .int x0), (1, .int x1)]) hx hb dX8_ofSet_1 rfl hl (by decide) rfl (fun ls hl => ?_)
  refine lv_iconst (v := 0) hx hb dX8_ofSet_2 rfl ?_
  refine lv_istore_n (lv' := [(3, .int 0), (2, .int x1), (0, .int x0), (1, .int x1)]) hx hb dX8_ofSet_3 rfl hl (by decide) rfl (fun ls hl => ?_)
  obtain ⟨o_L4, ho_L4⟩ : ∃ z : Sum (Int32) (Int32), z = itx (v_X8_ofSet_L4 x0) 12 0 x1 := ⟨_, rfl⟩
  have kE4 : ∀ s4 : Int32, o_L4 = .inl s4 → ∀ (H : Heap) (locs : List Loc) (ls : Array Slot), va_P D vwCl [] H → va_S A s.heap H locs → lv_has ls 4 [] → W p l e rm_X8_ofSet s m ar below meth c H locs 0 0 Q (F0 m 33 ls []) := by
    intro s4 hs4 H locs ls hP hS hl
    refine lv_bipush (v := (-9)) hx hb dX8_ofSet_33 rfl ?_
    have e9 : v_X8_ofSet x0 x1 = (-9) := by
      refine ((mch_eq ho_L4).trans (mch_l hs4)).trans ?_
      rfl
    rw [hQ]; exact retI (-9) hx hb hr hlk e9 hP rfl hS dX8_ofSet_35
  have loop4 : ∀ (k i4 : Nat) (z4 : Int32), 0 ≤ i4 → i4 + k = 0 + 12 → itx (v_X8_ofSet_L4 x0) k i4 z4 = o_L4 → ∀ (H : Heap) (locs : List Loc) (ls : Array Slot), va_P D vwCl [] H → va_S A s.heap H locs → lv_has ls 4 [(3, .int (nI i4)), (2, .int z4), (0, .int x0)] → W p l e rm_X8_ofSet s m ar below meth c H locs 0 0 Q (F0 m 4 ls []) := by
    intro k
    induction k with
    | zero =>
      intro i4 z4 hi0 hik hz H locs ls hP hS hl
      have hz : .inl z4 = o_L4 := itx_0 hz
      refine lv_iload_n hx hb dX8_ofSet_4 rfl (lv_at hl 0 rfl) ?_
      refine lv_bipush (v := 12) hx hb dX8_ofSet_5 rfl ?_
      refine lv_icmp_ge (tgt := 33) hx hb dX8_ofSet_7 (by decide) (fun _ => ?_) (fun c => absurd (nI_le (a := 12) (by omega) (by omega)) c)
      exact kE4 z4 hz.symm _ _ _ hP hS (lv_sub hl [] rfl)
    | succ k ih =>
      intro i4 z4 hi0 hik hz H locs ls hP hS hl
      refine lv_iload_n hx hb dX8_ofSet_4 rfl (lv_at hl 0 rfl) ?_
      refine lv_bipush (v := 12) hx hb dX8_ofSet_5 rfl ?_
      refine lv_icmp_ge (tgt := 33) hx hb dX8_ofSet_7 (by decide) (fun c => absurd c (nI_ge (b := 12) (by omega) (by decide))) (fun _ => ?_)
      refine lv_iload_n hx hb dX8_ofSet_10 rfl (lv_at hl 2 rfl) ?_
      refine lv_iload_n hx hb dX8_ofSet_11 rfl (lv_at hl 0 rfl) ?_
      obtain ⟨o_12, ho_12⟩ : ∃ z : Bool, z = v_X8_has x0 (nI i4) := ⟨_, rfl⟩
      refine callSIs (As := [.int x0, .int (nI i4)]) (rest := []) o_12 ho_12 hF (k_X8_has l D cI cZ x0 (nI i4)) (va_cwS 2 hts gX8_ofSet_X8_has rfl rfl rfl (by decide +kernel) ⟨Nat.le_of_ble_eq_true rfl, Nat.le_of_ble_eq_true rfl⟩) hK hN hP (va_Dsame hD rfl) hS hA [] rfl rfl rfl hl.1 rfl (Nat.le_of_ble_eq_true rfl) dX8_ofSet_12 ⟨Nat.zero_le _, Nat.zero_le _⟩ (bI o_12) rfl rfl (fun H locs hP hS => ?_)
      refine lv_if_eq (tgt := 27) hx hb dX8_ofSet_15 (by decide) (fun c_15 => ?_) (fun c_15 => ?_)
      · refine lv_iinc (v := (nI (i4 + 1))) (lv' := [(3, .int (nI (i4 + 1))), (2, .int z4), (0, .int x0)]) hx hb dX8_ofSet_27 hl (k := 0) rfl (nI_1 _) (by decide) rfl (fun ls hl => ?_)
        refine lv_goto (tgt := 4) hx hb dX8_ofSet_30 (by decide) ?_
        have e8 : v_X8_ofSet_L4 x0 i4 z4 = .inl z4 := by
          refine (bnd_eq ho_12).trans ?_
          refine (if_pos c_15).trans ?_
          rfl
        exact ih (i4 + 1) z4 (by omega) (by omega) ((itx_go e8).symm.trans hz) _ _ _ hP hS (lv_sub hl [0, 1, 2] rfl)
      · refine lv_iload_n hx hb dX8_ofSet_18 rfl (lv_at hl 1 rfl) ?_
        refine lv_if_ne (tgt := 24) hx hb dX8_ofSet_19 (by decide) (fun c_19 => ?_) (fun c_19 => ?_)
        · refine lv_iinc (v := (z4 + (-1))) (lv' := [(2, .int (z4 + (-1))), (3, .int (nI i4)), (0, .int x0)]) hx hb dX8_ofSet_24 hl (k := 1) rfl rfl (by decide) rfl (fun ls hl => ?_)
          refine lv_iinc (v := (nI (i4 + 1))) (lv' := [(3, .int (nI (i4 + 1))), (2, .int (z4 + (-1))), (0, .int x0)]) hx hb dX8_ofSet_27 hl (k := 1) rfl (nI_1 _) (by decide) rfl (fun ls hl => ?_)
          refine lv_goto (tgt := 4) hx hb dX8_ofSet_30 (by decide) ?_
          have e8 : v_X8_ofSet_L4 x0 i4 z4 = .inl (z4 + (-1)) := by
            refine (bnd_eq ho_12).trans ?_
            refine (if_neg c_15).trans ?_
            refine (if_neg c_19).trans ?_
            rfl
          exact ih (i4 + 1) (z4 + (-1)) (by omega) (by omega) ((itx_go e8).symm.trans hz) _ _ _ hP hS (lv_sub hl [0, 1, 2] rfl)
        · refine lv_iload_n hx hb dX8_ofSet_22 rfl (lv_at hl 0 rfl) ?_
          have e8 : v_X8_ofSet_L4 x0 i4 z4 = .inr (nI i4) := by
            refine (bnd_eq ho_12).trans ?_
            refine (if_neg c_15).trans ?_
            refine (if_pos c_19).trans ?_
            rfl
          have e7 : .inr (nI i4) = o_L4 := (itx_out e8).symm.trans hz
          have e9 : v_X8_ofSet x0 x1 = nI i4 := by
            refine (mch_eq ho_L4).trans ?_
            rw [← e7]; rfl
          rw [hQ]; exact retI (nI i4) hx hb hr hlk e9 hP rfl hS dX8_ofSet_23
  exact loop4 12 0 x1 (Nat.le_refl _) rfl ho_L4.symm _ _ _ hP hS (lv_sub hl [0, 1, 2] rfl)
def v_X8_flow_L66 (x1 : Int32) (i_hung : Int32) (o_39 : Int32) (i31 : Nat) (i66 : Nat) (z66 : Nat → Int32) : Nat → Int32 :=
  bnd (v_X8_has (nI i31) (nI i66)) fun o_75 =>
  (if bI o_75 = 0 then z66
  else (bnd (v_X8_ofSet i_hung (o_39 - 1)) fun o_100 =>
  (bnd (v_X8_ofSet x1 (nI i66)) fun o_106 =>
  (bnd (v_X8_far o_100 o_106) fun o_109 =>
  (bnd (((z66 (nI i31 &&& (((1 : Int32) <<< (nI i66 &&& 31)) ^^^ (-1))).toNatClampNeg) + o_109)) fun w_113 =>
  (if (z66 (nI i31).toNatClampNeg) ≤ w_113 then (upd z66 (nI i31).toNatClampNeg (z66 (nI i31).toNatClampNeg))
  else (upd z66 (nI i31).toNatClampNeg w_113)))))))
def v_X8_flow_L31 (x1 : Int32) (i_hung : Int32) (o_14 : Int32) (i31 : Nat) (z31 : Nat → Int32) : Nat → Int32 :=
  bnd (v_X8_ones (nI i31)) fun o_39 =>
  (if nI i31 = 0 then (bnd (it (v_X8_flow_L66 x1 i_hung o_39 i31) o_14.toNatClampNeg 0 (upd z31 (nI i31).toNatClampNeg 0)) fun o_L66 =>
    o_L66)
  else (bnd (it (v_X8_flow_L66 x1 i_hung o_39 i31) o_14.toNatClampNeg 0 (upd z31 (nI i31).toNatClampNeg 999)) fun o_L66 =>
  o_L66))
def v_X8_flow (x1 : Int32) (i_hung : Int32) (f_least : Nat → Int32) : Int32 × (Nat → Int32) :=
  bnd (v_X8_isHanging x1) fun o_1 =>
  (if bI o_1 = 0 then ((-2), f_least)
  else (bnd (v_X8_ones i_hung) fun o_14 =>
  (bnd (v_X8_ones x1) fun o_19 =>
  (if o_19 = o_14 then (bnd (it (v_X8_flow_L31 x1 i_hung o_14) ((1 : Int32) <<< (o_14 &&& 31)).toNatClampNeg 0 f_least) fun o_L31 =>
    ((o_L31 (((1 : Int32) <<< (o_14 &&& 31)) - 1).toNatClampNeg), o_L31))
  else ((-3), f_least)))))
abbrev rm_X8_flow : Room := { frames := 2, cells := 0, slots := 0, locals := 45 }
set_option maxHeartbeats 4000000 in
set_option maxRecDepth 100000 in
theorem k_X8_flow (l : Launch) (D : va_G) (cI cZ : ClassId) (a a_readWishes a_readOwed a_told a_owed a_text a_row a_least a_values a_tellPlace a_tellHour a_tellDark a_isKept a_kept : Nat) (x1 : Int32) (i_readHung : Int32) (i_readMany : Int32) (i_readOwes : Int32) (i_wishes : Int32) (i_hung : Int32) (i_hour : Int32) (i_length : Int32) (i_at : Int32) (i_faultAt : Int32) (i_acts : Int32) (i_next : Int32) (i_tells : Int32) (j_seed : Int64) (f_least : Nat → Int32) : KI l D cI cZ yX8_flow wsX8_flow rm_X8_flow [.ref a, .int x1] [(a, .inr (8, [.ref a_readWishes, .ref a_readOwed, .int i_readHung, .int i_readMany, .int i_readOwes, .ref a_told, .ref a_owed, .int i_wishes, .int i_hung, .int i_hour, .ref a_text, .int i_length, .int i_at, .int i_faultAt, .int i_acts, .int i_next, .ref a_row, .ref a_least, .ref a_values, .int i_tells, .ref a_tellPlace, .ref a_tellHour, .ref a_tellDark, .long j_seed, .ref a_isKept, .ref a_kept])), (a_least, .inl (cI, 32, .inl f_least))] (v_X8_flow x1 i_hung f_least) (fun o : Int32 × (Nat → Int32) => o.1) (fun o : Int32 × (Nat → Int32) => [(a, .inr (8, [.ref a_readWishes, .ref a_readOwed, .int i_readHung, .int i_readMany, .int i_readOwes, .ref a_told, .ref a_owed, .int i_wishes, .int i_hung, .int i_hour, .ref a_text, .int i_length, .int i_at, .int i_faultAt, .int i_acts, .int i_next, .ref a_row, .ref a_least, .ref a_values, .int i_tells, .ref a_tellPlace, .ref a_tellHour, .ref a_tellDark, .long j_seed, .ref a_isKept, .ref a_kept])), (a_least, .inl (cI, 32, .inl o.2))]) := by
  refine KI.of cX8_flow 7 (some .int) (by decide) rfl (Nat.le_of_ble_eq_true rfl) ?_
  intro p e s m below meth c A ls ar Q hQ B
  obtain ⟨hx, hb, hr, hml, hts, hown, hlk, hK, hN, hP, hD, hA, hS, hl⟩ := B
  have hown : s.vm.findClass RX8 = some m.cls := hown
  have hF : CallFix p m c cX8_flow 7 s ar wsX8_flow RX8 := ⟨hx, hb, hml, hown, hts⟩
  have hl : lv_has ls 7 [(0, .ref a), (1, .int x1)] := hl
  refine lv_iload_n hx hb dX8_flow_0 rfl (lv_at hl 1 rfl) ?_
  obtain ⟨o_1, ho_1⟩ : ∃ z : Bool, z = v_X8_isHanging x1 := ⟨_, rfl⟩
  refine callSIs (As := [.int x1]) (rest := []) o_1 ho_1 hF (k_X8_isHanging l D cI cZ x1) (va_cwS 1 hts gX8_flow_X8_isHanging rfl rfl rfl (by decide +kernel) ⟨Nat.le_of_ble_eq_true rfl, Nat.le_of_ble_eq_true rfl⟩) hK hN hP (va_Dsame hD rfl) hS hA [] rfl rfl rfl hl.1 rfl (Nat.le_of_ble_eq_true rfl) dX8_flow_1 ⟨Nat.zero_le _, Nat.zero_le _⟩ (bI o_1) rfl rfl (fun H locs hP hS => ?_)
  refine lv_if_ne (tgt := 10) hx hb dX8_flow_4 (by decide) (fun c_4 => ?_) (fun c_4 => ?_)
  · refine lv_aload_n hx hb dX8_flow_10 rfl (lv_at hl 0 rfl) ?_
    refine va_get (D := D) (ci := 8) (v := .int i_hung) (C := RX8) (T := TX8) (N := 26) hx hb hts (fun _ h => List.mem_cons_of_mem _ (List.mem_append_right _ (h))) hown hK hP 0 rfl rfl 8 (by decide) (hts _ (List.mem_of_getElem? (i := 1) rfl)) (fun _ h9 => h9) rfl dX8_flow_11 ?_
    obtain ⟨o_14, ho_14⟩ : ∃ z : Int32, z = v_X8_ones i_hung := ⟨_, rfl⟩
    refine callSIs (As := [.int i_hung]) (rest := []) o_14 ho_14 hF (k_X8_ones l D cI cZ i_hung) (va_cwS 1 hts gX8_flow_X8_ones rfl rfl rfl (by decide +kernel) ⟨Nat.le_of_ble_eq_true rfl, Nat.le_of_ble_eq_true rfl⟩) hK hN hP (va_Dsame hD rfl) hS hA [] rfl rfl rfl hl.1 rfl (Nat.le_of_ble_eq_true rfl) dX8_flow_14 ⟨Nat.zero_le _, Nat.zero_le _⟩ o_14 rfl rfl (fun H locs hP hS => ?_)
    refine lv_istore_n (lv' := [(2, .int o_14), (0, .ref a), (1, .int x1)]) hx hb dX8_flow_17 rfl hl (by decide) rfl (fun ls hl => ?_)
    refine lv_iload_n hx hb dX8_flow_18 rfl (lv_at hl 2 rfl) ?_
    obtain ⟨o_19, ho_19⟩ : ∃ z : Int32, z = v_X8_ones x1 := ⟨_, rfl⟩
    refine callSIs (As := [.int x1]) (rest := []) o_19 ho_19 hF (k_X8_ones l D cI cZ x1) (va_cwS 1 hts gX8_flow_X8_ones rfl rfl rfl (by decide +kernel) ⟨Nat.le_of_ble_eq_true rfl, Nat.le_of_ble_eq_true rfl⟩) hK hN hP (va_Dsame hD rfl) hS hA [] rfl rfl rfl hl.1 rfl (Nat.le_of_ble_eq_true rfl) dX8_flow_19 ⟨Nat.zero_le _, Nat.zero_le _⟩ o_19 rfl rfl (fun H locs hP hS => ?_)
    refine lv_iload_n hx hb dX8_flow_22 rfl (lv_at hl 0 rfl) ?_
    refine lv_icmp_eq (tgt := 29) hx hb dX8_flow_23 (by decide) (fun c_23 => ?_) (fun c_23 => ?_)
    · refine lv_iconst (v := 0) hx hb dX8_flow_29 rfl ?_
      refine lv_istore_n (lv' := [(3, .int 0), (2, .int o_14), (0, .ref a), (1, .int x1)]) hx hb dX8_flow_30 rfl hl (by decide) rfl (fun ls hl => ?_)
      obtain ⟨o_L31, ho_L31⟩ : ∃ z : Nat → Int32, z = it (v_X8_flow_L31 x1 i_hung o_14) ((1 : Int32) <<< (o_14 &&& 31)).toNatClampNeg 0 f_least := ⟨_, rfl⟩
      have kE31 : ∀ (H : Heap) (locs : List Loc) (ls : Array Slot), va_P D vwCl [(a, .inr (8, [.ref a_readWishes, .ref a_readOwed, .int i_readHung, .int i_readMany, .int i_readOwes, .ref a_told, .ref a_owed, .int i_wishes, .int i_hung, .int i_hour, .ref a_text, .int i_length, .int i_at, .int i_faultAt, .int i_acts, .int i_next, .ref a_row, .ref a_least, .ref a_values, .int i_tells, .ref a_tellPlace, .ref a_tellHour, .ref a_tellDark, .long j_seed, .ref a_isKept, .ref a_kept])), (a_least, .inl (cI, 32, .inl o_L31))] H → va_S A s.heap H locs → lv_has ls 7 [(2, .int o_14), (0, .ref a)] → W p l e rm_X8_flow s m ar below meth c H locs 0 0 Q (F0 m 155 ls []) := by
        intro H locs ls hP hS hl
        refine lv_aload_n hx hb dX8_flow_155 rfl (lv_at hl 1 rfl) ?_
        refine va_get (D := D) (ci := 8) (v := .ref a_least) (C := RX8) (T := TX8) (N := 26) hx hb hts (fun _ h => List.mem_cons_of_mem _ (List.mem_append_right _ (h))) hown hK hP 0 rfl rfl 17 (by decide) (hts _ (List.mem_of_getElem? (i := 2) rfl)) (fun _ h9 => h9) rfl dX8_flow_156 ?_
        refine lv_iconst (v := 1) hx hb dX8_flow_159 rfl ?_
        refine lv_iload_n hx hb dX8_flow_160 rfl (lv_at hl 0 rfl) ?_
        refine lv_ishl hx hb dX8_flow_161 ?_
        refine lv_iconst (v := 1) hx hb dX8_flow_162 rfl ?_
        refine lv_isub hx hb dX8_flow_163 ?_
        refine va_iald hx hb hK hP 1 0 rfl rfl (shm1 (fl5 ho_1 c_4 ho_19 c_23)) dX8_flow_164 ?_
        have e9 : v_X8_flow x1 i_hung f_least = ((o_L31 (((1 : Int32) <<< (o_14 &&& 31)) - 1).toNatClampNeg), o_L31) := by
          refine (bnd_eq ho_1).trans ?_
          refine (if_neg c_4).trans ?_
          refine (bnd_eq ho_14).trans ?_
          refine (bnd_eq ho_19).trans ?_
          refine (if_pos c_23).trans ?_
          refine (bnd_eq ho_L31).trans ?_
          rfl
        rw [hQ]; exact retI ((o_L31 (((1 : Int32) <<< (o_14 &&& 31)) - 1).toNatClampNeg), o_L31) hx hb hr hlk e9 hP rfl hS dX8_flow_165
      have loop31 : ∀ (k i31 : Nat) (z31 : Nat → Int32), 0 ≤ i31 → i31 + k = 0 + ((1 : Int32) <<< (o_14 &&& 31)).toNatClampNeg → it (v_X8_flow_L31 x1 i_hung o_14) k i31 z31 = o_L31 → ∀ (H : Heap) (locs : List Loc) (ls : Array Slot), va_P D vwCl [(a, .inr (8, [.ref a_readWishes, .ref a_readOwed, .int i_readHung, .int i_readMany, .int i_readOwes, .ref a_told, .ref a_owed, .int i_wishes, .int i_hung, .int i_hour, .ref a_text, .int i_length, .int i_at, .int i_faultAt, .int i_acts, .int i_next, .ref a_row, .ref a_least, .ref a_values, .int i_tells, .ref a_tellPlace, .ref a_tellHour, .ref a_tellDark, .long j_seed, .ref a_isKept, .ref a_kept])), (a_least, .inl (cI, 32, .inl z31))] H → va_S A s.heap H locs → lv_has ls 7 [(3, .int (nI i31)), (2, .int o_14), (0, .ref a), (1, .int x1)] → W p l e rm_X8_flow s m ar below meth c H locs 0 0 Q (F0 m 31 ls []) := by
        intro k
        induction k with
        | zero =>
          intro i31 z31 hi0 hik hz H locs ls hP hS hl
          have hz : z31 = o_L31 := it_0 hz
          subst z31
          refine lv_iload_n hx hb dX8_flow_31 rfl (lv_at hl 0 rfl) ?_
          refine lv_iconst (v := 1) hx hb dX8_flow_32 rfl ?_
          refine lv_iload_n hx hb dX8_flow_33 rfl (lv_at hl 1 rfl) ?_
          refine lv_ishl hx hb dX8_flow_34 ?_
          refine lv_icmp_ge (tgt := 155) hx hb dX8_flow_35 (by decide) (fun _ => ?_) (fun c => absurd (cb_ge (by omega) (by have := cb_lt31 ((1 : Int32) <<< (o_14 &&& 31)); omega)) c)
          exact kE31 _ _ _ hP hS (lv_sub hl [1, 2] rfl)
        | succ k ih =>
          intro i31 z31 hi0 hik hz H locs ls hP hS hl
          have hsh := sh5 (fl5 ho_1 c_4 ho_19 c_23)
          refine lv_iload_n hx hb dX8_flow_31 rfl (lv_at hl 0 rfl) ?_
          refine lv_iconst (v := 1) hx hb dX8_flow_32 rfl ?_
          refine lv_iload_n hx hb dX8_flow_33 rfl (lv_at hl 1 rfl) ?_
          refine lv_ishl hx hb dX8_flow_34 ?_
          refine lv_icmp_ge (tgt := 155) hx hb dX8_flow_35 (by decide) (fun c => absurd c (cb_lt (by omega))) (fun _ => ?_)
          refine lv_iload_n hx hb dX8_flow_38 rfl (lv_at hl 0 rfl) ?_
          obtain ⟨o_39, ho_39⟩ : ∃ z : Int32, z = v_X8_ones (nI i31) := ⟨_, rfl⟩
          refine callSIs (As := [.int (nI i31)]) (rest := []) o_39 ho_39 hF (k_X8_ones l D cI cZ (nI i31)) (va_cwS 1 hts gX8_flow_X8_ones rfl rfl rfl (by decide +kernel) ⟨Nat.le_of_ble_eq_true rfl, Nat.le_of_ble_eq_true rfl⟩) hK hN hP (va_Dsame hD rfl) hS hA [] rfl rfl rfl hl.1 rfl (Nat.le_of_ble_eq_true rfl) dX8_flow_39 ⟨Nat.zero_le _, Nat.zero_le _⟩ o_39 rfl rfl (fun H locs hP hS => ?_)
          refine lv_iconst (v := 1) hx hb dX8_flow_42 rfl ?_
          refine lv_isub hx hb dX8_flow_43 ?_
          refine lv_istore (lv' := [(4, .int (o_39 - 1)), (3, .int (nI i31)), (2, .int o_14), (0, .ref a), (1, .int x1)]) hx hb dX8_flow_44 hl (by decide) rfl (fun ls hl => ?_)
          refine lv_aload_n hx hb dX8_flow_46 rfl (lv_at hl 3 rfl) ?_
          refine va_get (D := D) (ci := 8) (v := .ref a_least) (C := RX8) (T := TX8) (N := 26) hx hb hts (fun _ h => List.mem_cons_of_mem _ (List.mem_append_right _ (h))) hown hK hP 0 rfl rfl 17 (by decide) (hts _ (List.mem_of_getElem? (i := 2) rfl)) (fun _ h9 => h9) rfl dX8_flow_47 ?_
          refine lv_iload_n hx hb dX8_flow_50 rfl (lv_at hl 1 rfl) ?_
          refine lv_iload_n hx hb dX8_flow_51 rfl (lv_at hl 1 rfl) ?_
          refine lv_if_ne (tgt := 59) hx hb dX8_flow_52 (by decide) (fun c_52 => ?_) (fun c_52 => ?_)
          · refine lv_sipush (v := 999) hx hb dX8_flow_59 rfl ?_
            refine va_iast hx hb hK hP (va_Dsame hD rfl) hS 1 0 rfl rfl (vp_in_nI (by omega) (by decide)) dX8_flow_62 (fun H locs hP _ hS => ?_)
            have hP : va_P D vwCl [(a, .inr (8, [.ref a_readWishes, .ref a_readOwed, .int i_readHung, .int i_readMany, .int i_readOwes, .ref a_told, .ref a_owed, .int i_wishes, .int i_hung, .int i_hour, .ref a_text, .int i_length, .int i_at, .int i_faultAt, .int i_acts, .int i_next, .ref a_row, .ref a_least, .ref a_values, .int i_tells, .ref a_tellPlace, .ref a_tellHour, .ref a_tellDark, .long j_seed, .ref a_isKept, .ref a_kept])), (a_least, .inl (cI, 32, .inl (upd z31 (nI i31).toNatClampNeg 999)))] H := hP
            refine lv_iconst (v := 0) hx hb dX8_flow_63 rfl ?_
            refine lv_istore (lv' := [(5, .int 0), (4, .int (o_39 - 1)), (3, .int (nI i31)), (2, .int o_14), (0, .ref a), (1, .int x1)]) hx hb dX8_flow_64 hl (by decide) rfl (fun ls hl => ?_)
            obtain ⟨o_L66, ho_L66⟩ : ∃ z : Nat → Int32, z = it (v_X8_flow_L66 x1 i_hung o_39 i31) o_14.toNatClampNeg 0 (upd z31 (nI i31).toNatClampNeg 999) := ⟨_, rfl⟩
            have kE66 : ∀ (H : Heap) (locs : List Loc) (ls : Array Slot), va_P D vwCl [(a, .inr (8, [.ref a_readWishes, .ref a_readOwed, .int i_readHung, .int i_readMany, .int i_readOwes, .ref a_told, .ref a_owed, .int i_wishes, .int i_hung, .int i_hour, .ref a_text, .int i_length, .int i_at, .int i_faultAt, .int i_acts, .int i_next, .ref a_row, .ref a_least, .ref a_values, .int i_tells, .ref a_tellPlace, .ref a_tellHour, .ref a_tellDark, .long j_seed, .ref a_isKept, .ref a_kept])), (a_least, .inl (cI, 32, .inl o_L66))] H → va_S A s.heap H locs → lv_has ls 7 [(3, .int (nI i31)), (2, .int o_14), (0, .ref a), (1, .int x1)] → W p l e rm_X8_flow s m ar below meth c H locs 0 0 Q (F0 m 149 ls []) := by
              intro H locs ls hP hS hl
              refine lv_iinc (v := (nI (i31 + 1))) (lv' := [(3, .int (nI (i31 + 1))), (2, .int o_14), (0, .ref a), (1, .int x1)]) hx hb dX8_flow_149 hl (k := 0) rfl (nI_1 _) (by decide) rfl (fun ls hl => ?_)
              refine lv_goto (tgt := 31) hx hb dX8_flow_152 (by decide) ?_
              have e8 : v_X8_flow_L31 x1 i_hung o_14 i31 z31 = o_L66 := by
                refine (bnd_eq ho_39).trans ?_
                refine (if_neg c_52).trans ?_
                refine (bnd_eq ho_L66).trans ?_
                rfl
              exact ih (i31 + 1) o_L66 (by omega) (by omega) (it_go e8 hz) _ _ _ hP hS (lv_sub hl [0, 1, 2, 3] rfl)
            have loop66 : ∀ (k i66 : Nat) (z66 : Nat → Int32), 0 ≤ i66 → i66 + k = 0 + o_14.toNatClampNeg → it (v_X8_flow_L66 x1 i_hung o_39 i31) k i66 z66 = o_L66 → ∀ (H : Heap) (locs : List Loc) (ls : Array Slot), va_P D vwCl [(a, .inr (8, [.ref a_readWishes, .ref a_readOwed, .int i_readHung, .int i_readMany, .int i_readOwes, .ref a_told, .ref a_owed, .int i_wishes, .int i_hung, .int i_hour, .ref a_text, .int i_length, .int i_at, .int i_faultAt, .int i_acts, .int i_next, .ref a_row, .ref a_least, .ref a_values, .int i_tells, .ref a_tellPlace, .ref a_tellHour, .ref a_tellDark, .long j_seed, .ref a_isKept, .ref a_kept])), (a_least, .inl (cI, 32, .inl z66))] H → va_S A s.heap H locs → lv_has ls 7 [(5, .int (nI i66)), (4, .int (o_39 - 1)), (3, .int (nI i31)), (2, .int o_14), (0, .ref a), (1, .int x1)] → W p l e rm_X8_flow s m ar below meth c H locs 0 0 Q (F0 m 66 ls []) := by
              intro k
              induction k with
              | zero =>
                intro i66 z66 hi0 hik hz H locs ls hP hS hl
                have hz : z66 = o_L66 := it_0 hz
                subst z66
                refine lv_iload hx hb dX8_flow_66 (lv_at hl 0 rfl) ?_
                refine lv_iload_n hx hb dX8_flow_68 rfl (lv_at hl 3 rfl) ?_
                refine lv_icmp_ge (tgt := 149) hx hb dX8_flow_69 (by decide) (fun _ => ?_) (fun c => absurd (cb_ge (by omega) (by have := cb_lt31 o_14; omega)) c)
                exact kE66 _ _ _ hP hS (lv_sub hl [2, 3, 4, 5] rfl)
              | succ k ih =>
                intro i66 z66 hi0 hik hz H locs ls hP hS hl
                refine lv_iload hx hb dX8_flow_66 (lv_at hl 0 rfl) ?_
                refine lv_iload_n hx hb dX8_flow_68 rfl (lv_at hl 3 rfl) ?_
                refine lv_icmp_ge (tgt := 149) hx hb dX8_flow_69 (by decide) (fun c => absurd c (cb_lt (by omega))) (fun _ => ?_)
                refine lv_iload_n hx hb dX8_flow_72 rfl (lv_at hl 2 rfl) ?_
                refine lv_iload hx hb dX8_flow_73 (lv_at hl 0 rfl) ?_
                obtain ⟨o_75, ho_75⟩ : ∃ z : Bool, z = v_X8_has (nI i31) (nI i66) := ⟨_, rfl⟩
                refine callSIs (As := [.int (nI i31), .int (nI i66)]) (rest := []) o_75 ho_75 hF (k_X8_has l D cI cZ (nI i31) (nI i66)) (va_cwS 2 hts gX8_flow_X8_has rfl rfl rfl (by decide +kernel) ⟨Nat.le_of_ble_eq_true rfl, Nat.le_of_ble_eq_true rfl⟩) hK hN hP (va_Dsame hD rfl) hS hA [] rfl rfl rfl hl.1 rfl (Nat.le_of_ble_eq_true rfl) dX8_flow_75 ⟨Nat.zero_le _, Nat.zero_le _⟩ (bI o_75) rfl rfl (fun H locs hP hS => ?_)
                refine lv_if_eq (tgt := 143) hx hb dX8_flow_78 (by decide) (fun c_78 => ?_) (fun c_78 => ?_)
                · refine lv_iinc (v := (nI (i66 + 1))) (lv' := [(5, .int (nI (i66 + 1))), (4, .int (o_39 - 1)), (3, .int (nI i31)), (2, .int o_14), (0, .ref a), (1, .int x1)]) hx hb dX8_flow_143 hl (k := 0) rfl (nI_1 _) (by decide) rfl (fun ls hl => ?_)
                  refine lv_goto (tgt := 66) hx hb dX8_flow_146 (by decide) ?_
                  have e8 : v_X8_flow_L66 x1 i_hung o_39 i31 i66 z66 = z66 := by
                    refine (bnd_eq ho_75).trans ?_
                    refine (if_pos c_78).trans ?_
                    rfl
                  exact ih (i66 + 1) z66 (by omega) (by omega) (it_go e8 hz) _ _ _ hP hS (lv_sub hl [0, 1, 2, 3, 4, 5] rfl)
                · refine lv_aload_n hx hb dX8_flow_81 rfl (lv_at hl 4 rfl) ?_
                  refine va_get (D := D) (ci := 8) (v := .ref a_least) (C := RX8) (T := TX8) (N := 26) hx hb hts (fun _ h => List.mem_cons_of_mem _ (List.mem_append_right _ (h))) hown hK hP 0 rfl rfl 17 (by decide) (hts _ (List.mem_of_getElem? (i := 2) rfl)) (fun _ h9 => h9) rfl dX8_flow_82 ?_
                  refine lv_iload_n hx hb dX8_flow_85 rfl (lv_at hl 2 rfl) ?_
                  refine lv_iconst (v := 1) hx hb dX8_flow_86 rfl ?_
                  refine lv_iload hx hb dX8_flow_87 (lv_at hl 0 rfl) ?_
                  refine lv_ishl hx hb dX8_flow_89 ?_
                  refine lv_iconst (v := (-1)) hx hb dX8_flow_90 rfl ?_
                  refine lv_ixor hx hb dX8_flow_91 ?_
                  refine lv_iand hx hb dX8_flow_92 ?_
                  refine va_iald hx hb hK hP 1 0 rfl rfl (and_in (by omega) (by decide)) dX8_flow_93 ?_
                  refine lv_aload_n hx hb dX8_flow_94 rfl (lv_at hl 4 rfl) ?_
                  refine va_get (D := D) (ci := 8) (v := .int i_hung) (C := RX8) (T := TX8) (N := 26) hx hb hts (fun _ h => List.mem_cons_of_mem _ (List.mem_append_right _ (h))) hown hK hP 0 rfl rfl 8 (by decide) (hts _ (List.mem_of_getElem? (i := 1) rfl)) (fun _ h9 => h9) rfl dX8_flow_95 ?_
                  refine lv_iload hx hb dX8_flow_98 (lv_at hl 1 rfl) ?_
                  obtain ⟨o_100, ho_100⟩ : ∃ z : Int32, z = v_X8_ofSet i_hung (o_39 - 1) := ⟨_, rfl⟩
                  refine callSIs (As := [.int i_hung, .int (o_39 - 1)]) (rest := [.int (z66 (nI i31 &&& (((1 : Int32) <<< (nI i66 &&& 31)) ^^^ (-1))).toNatClampNeg)]) o_100 ho_100 hF (k_X8_ofSet l D cI cZ i_hung (o_39 - 1)) (va_cwS 2 hts gX8_flow_X8_ofSet rfl rfl rfl (by decide +kernel) ⟨Nat.le_of_ble_eq_true rfl, Nat.le_of_ble_eq_true rfl⟩) hK hN hP (va_Dsame hD rfl) hS hA [] rfl rfl rfl hl.1 rfl (Nat.le_of_ble_eq_true rfl) dX8_flow_100 ⟨Nat.zero_le _, Nat.zero_le _⟩ o_100 rfl rfl (fun H locs hP hS => ?_)
                  refine lv_iload_n hx hb dX8_flow_103 rfl (lv_at hl 5 rfl) ?_
                  refine lv_iload hx hb dX8_flow_104 (lv_at hl 0 rfl) ?_
                  obtain ⟨o_106, ho_106⟩ : ∃ z : Int32, z = v_X8_ofSet x1 (nI i66) := ⟨_, rfl⟩
                  refine callSIs (As := [.int x1, .int (nI i66)]) (rest := [.int o_100, .int (z66 (nI i31 &&& (((1 : Int32) <<< (nI i66 &&& 31)) ^^^ (-1))).toNatClampNeg)]) o_106 ho_106 hF (k_X8_ofSet l D cI cZ x1 (nI i66)) (va_cwS 2 hts gX8_flow_X8_ofSet rfl rfl rfl (by decide +kernel) ⟨Nat.le_of_ble_eq_true rfl, Nat.le_of_ble_eq_true rfl⟩) hK hN hP (va_Dsame hD rfl) hS hA [] rfl rfl rfl hl.1 rfl (Nat.le_of_ble_eq_true rfl) dX8_flow_106 ⟨Nat.zero_le _, Nat.zero_le _⟩ o_106 rfl rfl (fun H locs hP hS => ?_)
                  obtain ⟨o_109, ho_109⟩ : ∃ z : Int32, z = v_X8_far o_100 o_106 := ⟨_, rfl⟩
                  refine callSIs (As := [.int o_100, .int o_106]) (rest := [.int (z66 (nI i31 &&& (((1 : Int32) <<< (nI i66 &&& 31)) ^^^ (-1))).toNatClampNeg)]) o_109 ho_109 hF (k_X8_far l D cI cZ o_100 o_106) (va_cwS 2 hts gX8_flow_X8_far rfl rfl rfl (by decide +kernel) ⟨Nat.le_of_ble_eq_true rfl, Nat.le_of_ble_eq_true rfl⟩) hK hN hP (va_Dsame hD rfl) hS hA [] rfl rfl rfl hl.1 rfl (Nat.le_of_ble_eq_true rfl) dX8_flow_109 ⟨Nat.zero_le _, Nat.zero_le _⟩ o_109 rfl rfl (fun H locs hP hS => ?_)
                  refine lv_iadd hx hb dX8_flow_112 ?_
                  refine lv_topi (fun w_113 hw_113 => ?_)
                  refine lv_istore (lv' := [(6, .int w_113), (5, .int (nI i66)), (4, .int (o_39 - 1)), (3, .int (nI i31)), (2, .int o_14), (0, .ref a), (1, .int x1)]) hx hb dX8_flow_113 hl (by decide) rfl (fun ls hl => ?_)
                  refine lv_aload_n hx hb dX8_flow_115 rfl (lv_at hl 5 rfl) ?_
                  refine va_get (D := D) (ci := 8) (v := .ref a_least) (C := RX8) (T := TX8) (N := 26) hx hb hts (fun _ h => List.mem_cons_of_mem _ (List.mem_append_right _ (h))) hown hK hP 0 rfl rfl 17 (by decide) (hts _ (List.mem_of_getElem? (i := 2) rfl)) (fun _ h9 => h9) rfl dX8_flow_116 ?_
                  refine lv_iload_n hx hb dX8_flow_119 rfl (lv_at hl 3 rfl) ?_
                  refine lv_iload hx hb dX8_flow_120 (lv_at hl 0 rfl) ?_
                  refine lv_aload_n hx hb dX8_flow_122 rfl (lv_at hl 5 rfl) ?_
                  refine va_get (D := D) (ci := 8) (v := .ref a_least) (C := RX8) (T := TX8) (N := 26) hx hb hts (fun _ h => List.mem_cons_of_mem _ (List.mem_append_right _ (h))) hown hK hP 0 rfl rfl 17 (by decide) (hts _ (List.mem_of_getElem? (i := 2) rfl)) (fun _ h9 => h9) rfl dX8_flow_123 ?_
                  refine lv_iload_n hx hb dX8_flow_126 rfl (lv_at hl 3 rfl) ?_
                  refine va_iald hx hb hK hP 1 0 rfl rfl (vp_in_nI (by omega) (by decide)) dX8_flow_127 ?_
                  refine lv_icmp_ge (tgt := 136) hx hb dX8_flow_128 (by decide) (fun c_128 => ?_) (fun c_128 => ?_)
                  · refine lv_aload_n hx hb dX8_flow_136 rfl (lv_at hl 5 rfl) ?_
                    refine va_get (D := D) (ci := 8) (v := .ref a_least) (C := RX8) (T := TX8) (N := 26) hx hb hts (fun _ h => List.mem_cons_of_mem _ (List.mem_append_right _ (h))) hown hK hP 0 rfl rfl 17 (by decide) (hts _ (List.mem_of_getElem? (i := 2) rfl)) (fun _ h9 => h9) rfl dX8_flow_137 ?_
                    refine lv_iload_n hx hb dX8_flow_140 rfl (lv_at hl 3 rfl) ?_
                    refine va_iald hx hb hK hP 1 0 rfl rfl (vp_in_nI (by omega) (by decide)) dX8_flow_141 ?_
                    refine va_iast hx hb hK hP (va_Dsame hD rfl) hS 1 0 rfl rfl (vp_in_nI (by omega) (by decide)) dX8_flow_142 (fun H locs hP _ hS => ?_)
                    have hP : va_P D vwCl [(a, .inr (8, [.ref a_readWishes, .ref a_readOwed, .int i_readHung, .int i_readMany, .int i_readOwes, .ref a_told, .ref a_owed, .int i_wishes, .int i_hung, .int i_hour, .ref a_text, .int i_length, .int i_at, .int i_faultAt, .int i_acts, .int i_next, .ref a_row, .ref a_least, .ref a_values, .int i_tells, .ref a_tellPlace, .ref a_tellHour, .ref a_tellDark, .long j_seed, .ref a_isKept, .ref a_kept])), (a_least, .inl (cI, 32, .inl (upd z66 (nI i31).toNatClampNeg (z66 (nI i31).toNatClampNeg))))] H := hP
                    refine lv_iinc (v := (nI (i66 + 1))) (lv' := [(5, .int (nI (i66 + 1))), (6, .int w_113), (4, .int (o_39 - 1)), (3, .int (nI i31)), (2, .int o_14), (0, .ref a), (1, .int x1)]) hx hb dX8_flow_143 hl (k := 1) rfl (nI_1 _) (by decide) rfl (fun ls hl => ?_)
                    refine lv_goto (tgt := 66) hx hb dX8_flow_146 (by decide) ?_
                    have e8 : v_X8_flow_L66 x1 i_hung o_39 i31 i66 z66 = (upd z66 (nI i31).toNatClampNeg (z66 (nI i31).toNatClampNeg)) := by
                      refine (bnd_eq ho_75).trans ?_
                      refine (if_neg c_78).trans ?_
                      refine (bnd_eq ho_100).trans ?_
                      refine (bnd_eq ho_106).trans ?_
                      refine (bnd_eq ho_109).trans ?_
                      refine (bnd_eq hw_113).trans ?_
                      refine (if_pos c_128).trans ?_
                      rfl
                    exact ih (i66 + 1) (upd z66 (nI i31).toNatClampNeg (z66 (nI i31).toNatClampNeg)) (by omega) (by omega) (it_go e8 hz) _ _ _ hP hS (lv_sub hl [0, 2, 3, 4, 5, 6] rfl)
                  · refine lv_iload hx hb dX8_flow_131 (lv_at hl 0 rfl) ?_
                    refine lv_goto (tgt := 142) hx hb dX8_flow_133 (by decide) ?_
                    refine va_iast hx hb hK hP (va_Dsame hD rfl) hS 1 0 rfl rfl (vp_in_nI (by omega) (by decide)) dX8_flow_142 (fun H locs hP _ hS => ?_)
                    have hP : va_P D vwCl [(a, .inr (8, [.ref a_readWishes, .ref a_readOwed, .int i_readHung, .int i_readMany, .int i_readOwes, .ref a_told, .ref a_owed, .int i_wishes, .int i_hung, .int i_hour, .ref a_text, .int i_length, .int i_at, .int i_faultAt, .int i_acts, .int i_next, .ref a_row, .ref a_least, .ref a_values, .int i_tells, .ref a_tellPlace, .ref a_tellHour, .ref a_tellDark, .long j_seed, .ref a_isKept, .ref a_kept])), (a_least, .inl (cI, 32, .inl (upd z66 (nI i31).toNatClampNeg w_113)))] H := hP
                    refine lv_iinc (v := (nI (i66 + 1))) (lv' := [(5, .int (nI (i66 + 1))), (6, .int w_113), (4, .int (o_39 - 1)), (3, .int (nI i31)), (2, .int o_14), (0, .ref a), (1, .int x1)]) hx hb dX8_flow_143 hl (k := 1) rfl (nI_1 _) (by decide) rfl (fun ls hl => ?_)
                    refine lv_goto (tgt := 66) hx hb dX8_flow_146 (by decide) ?_
                    have e8 : v_X8_flow_L66 x1 i_hung o_39 i31 i66 z66 = (upd z66 (nI i31).toNatClampNeg w_113) := by
                      refine (bnd_eq ho_75).trans ?_
                      refine (if_neg c_78).trans ?_
                      refine (bnd_eq ho_100).trans ?_
                      refine (bnd_eq ho_106).trans ?_
                      refine (bnd_eq ho_109).trans ?_
                      refine (bnd_eq hw_113).trans ?_
                      refine (if_neg c_128).trans ?_
                      rfl
                    exact ih (i66 + 1) (upd z66 (nI i31).toNatClampNeg w_113) (by omega) (by omega) (it_go e8 hz) _ _ _ hP hS (lv_sub hl [0, 2, 3, 4, 5, 6] rfl)
            exact loop66 o_14.toNatClampNeg 0 (upd z31 (nI i31).toNatClampNeg 999) (Nat.le_refl _) rfl ho_L66.symm _ _ _ hP hS (lv_sub hl [0, 1, 2, 3, 4, 5] rfl)
          · refine lv_iconst (v := 0) hx hb dX8_flow_55 rfl ?_
            refine lv_goto (tgt := 62) hx hb dX8_flow_56 (by decide) ?_
            refine va_iast hx hb hK hP (va_Dsame hD rfl) hS 1 0 rfl rfl (vp_in_nI (by omega) (by decide)) dX8_flow_62 (fun H locs hP _ hS => ?_)
            have hP : va_P D vwCl [(a, .inr (8, [.ref a_readWishes, .ref a_readOwed, .int i_readHung, .int i_readMany, .int i_readOwes, .ref a_told, .ref a_owed, .int i_wishes, .int i_hung, .int i_hour, .ref a_text, .int i_length, .int i_at, .int i_faultAt, .int i_acts, .int i_next, .ref a_row, .ref a_least, .ref a_values, .int i_tells, .ref a_tellPlace, .ref a_tellHour, .ref a_tellDark, .long j_seed, .ref a_isKept, .ref a_kept])), (a_least, .inl (cI, 32, .inl (upd z31 (nI i31).toNatClampNeg 0)))] H := hP
            refine lv_iconst (v := 0) hx hb dX8_flow_63 rfl ?_
            refine lv_istore (lv' := [(5, .int 0), (4, .int (o_39 - 1)), (3, .int (nI i31)), (2, .int o_14), (0, .ref a), (1, .int x1)]) hx hb dX8_flow_64 hl (by decide) rfl (fun ls hl => ?_)
            obtain ⟨o_L66, ho_L66⟩ : ∃ z : Nat → Int32, z = it (v_X8_flow_L66 x1 i_hung o_39 i31) o_14.toNatClampNeg 0 (upd z31 (nI i31).toNatClampNeg 0) := ⟨_, rfl⟩
            have kE66 : ∀ (H : Heap) (locs : List Loc) (ls : Array Slot), va_P D vwCl [(a, .inr (8, [.ref a_readWishes, .ref a_readOwed, .int i_readHung, .int i_readMany, .int i_readOwes, .ref a_told, .ref a_owed, .int i_wishes, .int i_hung, .int i_hour, .ref a_text, .int i_length, .int i_at, .int i_faultAt, .int i_acts, .int i_next, .ref a_row, .ref a_least, .ref a_values, .int i_tells, .ref a_tellPlace, .ref a_tellHour, .ref a_tellDark, .long j_seed, .ref a_isKept, .ref a_kept])), (a_least, .inl (cI, 32, .inl o_L66))] H → va_S A s.heap H locs → lv_has ls 7 [(3, .int (nI i31)), (2, .int o_14), (0, .ref a), (1, .int x1)] → W p l e rm_X8_flow s m ar below meth c H locs 0 0 Q (F0 m 149 ls []) := by
              intro H locs ls hP hS hl
              refine lv_iinc (v := (nI (i31 + 1))) (lv' := [(3, .int (nI (i31 + 1))), (2, .int o_14), (0, .ref a), (1, .int x1)]) hx hb dX8_flow_149 hl (k := 0) rfl (nI_1 _) (by decide) rfl (fun ls hl => ?_)
              refine lv_goto (tgt := 31) hx hb dX8_flow_152 (by decide) ?_
              have e8 : v_X8_flow_L31 x1 i_hung o_14 i31 z31 = o_L66 := by
                refine (bnd_eq ho_39).trans ?_
                refine (if_pos c_52).trans ?_
                refine (bnd_eq ho_L66).trans ?_
                rfl
              exact ih (i31 + 1) o_L66 (by omega) (by omega) (it_go e8 hz) _ _ _ hP hS (lv_sub hl [0, 1, 2, 3] rfl)
            have loop66 : ∀ (k i66 : Nat) (z66 : Nat → Int32), 0 ≤ i66 → i66 + k = 0 + o_14.toNatClampNeg → it (v_X8_flow_L66 x1 i_hung o_39 i31) k i66 z66 = o_L66 → ∀ (H : Heap) (locs : List Loc) (ls : Array Slot), va_P D vwCl [(a, .inr (8, [.ref a_readWishes, .ref a_readOwed, .int i_readHung, .int i_readMany, .int i_readOwes, .ref a_told, .ref a_owed, .int i_wishes, .int i_hung, .int i_hour, .ref a_text, .int i_length, .int i_at, .int i_faultAt, .int i_acts, .int i_next, .ref a_row, .ref a_least, .ref a_values, .int i_tells, .ref a_tellPlace, .ref a_tellHour, .ref a_tellDark, .long j_seed, .ref a_isKept, .ref a_kept])), (a_least, .inl (cI, 32, .inl z66))] H → va_S A s.heap H locs → lv_has ls 7 [(5, .int (nI i66)), (4, .int (o_39 - 1)), (3, .int (nI i31)), (2, .int o_14), (0, .ref a), (1, .int x1)] → W p l e rm_X8_flow s m ar below meth c H locs 0 0 Q (F0 m 66 ls []) := by
              intro k
              induction k with
              | zero =>
                intro i66 z66 hi0 hik hz H locs ls hP hS hl
                have hz : z66 = o_L66 := it_0 hz
                subst z66
                refine lv_iload hx hb dX8_flow_66 (lv_at hl 0 rfl) ?_
                refine lv_iload_n hx hb dX8_flow_68 rfl (lv_at hl 3 rfl) ?_
                refine lv_icmp_ge (tgt := 149) hx hb dX8_flow_69 (by decide) (fun _ => ?_) (fun c => absurd (cb_ge (by omega) (by have := cb_lt31 o_14; omega)) c)
                exact kE66 _ _ _ hP hS (lv_sub hl [2, 3, 4, 5] rfl)
              | succ k ih =>
                intro i66 z66 hi0 hik hz H locs ls hP hS hl
                refine lv_iload hx hb dX8_flow_66 (lv_at hl 0 rfl) ?_
                refine lv_iload_n hx hb dX8_flow_68 rfl (lv_at hl 3 rfl) ?_
                refine lv_icmp_ge (tgt := 149) hx hb dX8_flow_69 (by decide) (fun c => absurd c (cb_lt (by omega))) (fun _ => ?_)
                refine lv_iload_n hx hb dX8_flow_72 rfl (lv_at hl 2 rfl) ?_
                refine lv_iload hx hb dX8_flow_73 (lv_at hl 0 rfl) ?_
                obtain ⟨o_75, ho_75⟩ : ∃ z : Bool, z = v_X8_has (nI i31) (nI i66) := ⟨_, rfl⟩
                refine callSIs (As := [.int (nI i31), .int (nI i66)]) (rest := []) o_75 ho_75 hF (k_X8_has l D cI cZ (nI i31) (nI i66)) (va_cwS 2 hts gX8_flow_X8_has rfl rfl rfl (by decide +kernel) ⟨Nat.le_of_ble_eq_true rfl, Nat.le_of_ble_eq_true rfl⟩) hK hN hP (va_Dsame hD rfl) hS hA [] rfl rfl rfl hl.1 rfl (Nat.le_of_ble_eq_true rfl) dX8_flow_75 ⟨Nat.zero_le _, Nat.zero_le _⟩ (bI o_75) rfl rfl (fun H locs hP hS => ?_)
                refine lv_if_eq (tgt := 143) hx hb dX8_flow_78 (by decide) (fun c_78 => ?_) (fun c_78 => ?_)
                · refine lv_iinc (v := (nI (i66 + 1))) (lv' := [(5, .int (nI (i66 + 1))), (4, .int (o_39 - 1)), (3, .int (nI i31)), (2, .int o_14), (0, .ref a), (1, .int x1)]) hx hb dX8_flow_143 hl (k := 0) rfl (nI_1 _) (by decide) rfl (fun ls hl => ?_)
                  refine lv_goto (tgt := 66) hx hb dX8_flow_146 (by decide) ?_
                  have e8 : v_X8_flow_L66 x1 i_hung o_39 i31 i66 z66 = z66 := by
                    refine (bnd_eq ho_75).trans ?_
                    refine (if_pos c_78).trans ?_
                    rfl
                  exact ih (i66 + 1) z66 (by omega) (by omega) (it_go e8 hz) _ _ _ hP hS (lv_sub hl [0, 1, 2, 3, 4, 5] rfl)
                · refine lv_aload_n hx hb dX8_flow_81 rfl (lv_at hl 4 rfl) ?_
                  refine va_get (D := D) (ci := 8) (v := .ref a_least) (C := RX8) (T := TX8) (N := 26) hx hb hts (fun _ h => List.mem_cons_of_mem _ (List.mem_append_right _ (h))) hown hK hP 0 rfl rfl 17 (by decide) (hts _ (List.mem_of_getElem? (i := 2) rfl)) (fun _ h9 => h9) rfl dX8_flow_82 ?_
                  refine lv_iload_n hx hb dX8_flow_85 rfl (lv_at hl 2 rfl) ?_
                  refine lv_iconst (v := 1) hx hb dX8_flow_86 rfl ?_
                  refine lv_iload hx hb dX8_flow_87 (lv_at hl 0 rfl) ?_
                  refine lv_ishl hx hb dX8_flow_89 ?_
                  refine lv_iconst (v := (-1)) hx hb dX8_flow_90 rfl ?_
                  refine lv_ixor hx hb dX8_flow_91 ?_
                  refine lv_iand hx hb dX8_flow_92 ?_
                  refine va_iald hx hb hK hP 1 0 rfl rfl (and_in (by omega) (by decide)) dX8_flow_93 ?_
                  refine lv_aload_n hx hb dX8_flow_94 rfl (lv_at hl 4 rfl) ?_
                  refine va_get (D := D) (ci := 8) (v := .int i_hung) (C := RX8) (T := TX8) (N := 26) hx hb hts (fun _ h => List.mem_cons_of_mem _ (List.mem_append_right _ (h))) hown hK hP 0 rfl rfl 8 (by decide) (hts _ (List.mem_of_getElem? (i := 1) rfl)) (fun _ h9 => h9) rfl dX8_flow_95 ?_
                  refine lv_iload hx hb dX8_flow_98 (lv_at hl 1 rfl) ?_
                  obtain ⟨o_100, ho_100⟩ : ∃ z : Int32, z = v_X8_ofSet i_hung (o_39 - 1) := ⟨_, rfl⟩
                  refine callSIs (As := [.int i_hung, .int (o_39 - 1)]) (rest := [.int (z66 (nI i31 &&& (((1 : Int32) <<< (nI i66 &&& 31)) ^^^ (-1))).toNatClampNeg)]) o_100 ho_100 hF (k_X8_ofSet l D cI cZ i_hung (o_39 - 1)) (va_cwS 2 hts gX8_flow_X8_ofSet rfl rfl rfl (by decide +kernel) ⟨Nat.le_of_ble_eq_true rfl, Nat.le_of_ble_eq_true rfl⟩) hK hN hP (va_Dsame hD rfl) hS hA [] rfl rfl rfl hl.1 rfl (Nat.le_of_ble_eq_true rfl) dX8_flow_100 ⟨Nat.zero_le _, Nat.zero_le _⟩ o_100 rfl rfl (fun H locs hP hS => ?_)
                  refine lv_iload_n hx hb dX8_flow_103 rfl (lv_at hl 5 rfl) ?_
                  refine lv_iload hx hb dX8_flow_104 (lv_at hl 0 rfl) ?_
                  obtain ⟨o_106, ho_106⟩ : ∃ z : Int32, z = v_X8_ofSet x1 (nI i66) := ⟨_, rfl⟩
                  refine callSIs (As := [.int x1, .int (nI i66)]) (rest := [.int o_100, .int (z66 (nI i31 &&& (((1 : Int32) <<< (nI i66 &&& 31)) ^^^ (-1))).toNatClampNeg)]) o_106 ho_106 hF (k_X8_ofSet l D cI cZ x1 (nI i66)) (va_cwS 2 hts gX8_flow_X8_ofSet rfl rfl rfl (by decide +kernel) ⟨Nat.le_of_ble_eq_true rfl, Nat.le_of_ble_eq_true rfl⟩) hK hN hP (va_Dsame hD rfl) hS hA [] rfl rfl rfl hl.1 rfl (Nat.le_of_ble_eq_true rfl) dX8_flow_106 ⟨Nat.zero_le _, Nat.zero_le _⟩ o_106 rfl rfl (fun H locs hP hS => ?_)
                  obtain ⟨o_109, ho_109⟩ : ∃ z : Int32, z = v_X8_far o_100 o_106 := ⟨_, rfl⟩
                  refine callSIs (As := [.int o_100, .int o_106]) (rest := [.int (z66 (nI i31 &&& (((1 : Int32) <<< (nI i66 &&& 31)) ^^^ (-1))).toNatClampNeg)]) o_109 ho_109 hF (k_X8_far l D cI cZ o_100 o_106) (va_cwS 2 hts gX8_flow_X8_far rfl rfl rfl (by decide +kernel) ⟨Nat.le_of_ble_eq_true rfl, Nat.le_of_ble_eq_true rfl⟩) hK hN hP (va_Dsame hD rfl) hS hA [] rfl rfl rfl hl.1 rfl (Nat.le_of_ble_eq_true rfl) dX8_flow_109 ⟨Nat.zero_le _, Nat.zero_le _⟩ o_109 rfl rfl (fun H locs hP hS => ?_)
                  refine lv_iadd hx hb dX8_flow_112 ?_
                  refine lv_topi (fun w_113 hw_113 => ?_)
                  refine lv_istore (lv' := [(6, .int w_113), (5, .int (nI i66)), (4, .int (o_39 - 1)), (3, .int (nI i31)), (2, .int o_14), (0, .ref a), (1, .int x1)]) hx hb dX8_flow_113 hl (by decide) rfl (fun ls hl => ?_)
                  refine lv_aload_n hx hb dX8_flow_115 rfl (lv_at hl 5 rfl) ?_
                  refine va_get (D := D) (ci := 8) (v := .ref a_least) (C := RX8) (T := TX8) (N := 26) hx hb hts (fun _ h => List.mem_cons_of_mem _ (List.mem_append_right _ (h))) hown hK hP 0 rfl rfl 17 (by decide) (hts _ (List.mem_of_getElem? (i := 2) rfl)) (fun _ h9 => h9) rfl dX8_flow_116 ?_
                  refine lv_iload_n hx hb dX8_flow_119 rfl (lv_at hl 3 rfl) ?_
                  refine lv_iload hx hb dX8_flow_120 (lv_at hl 0 rfl) ?_
                  refine lv_aload_n hx hb dX8_flow_122 rfl (lv_at hl 5 rfl) ?_
                  refine va_get (D := D) (ci := 8) (v := .ref a_least) (C := RX8) (T := TX8) (N := 26) hx hb hts (fun _ h => List.mem_cons_of_mem _ (List.mem_append_right _ (h))) hown hK hP 0 rfl rfl 17 (by decide) (hts _ (List.mem_of_getElem? (i := 2) rfl)) (fun _ h9 => h9) rfl dX8_flow_123 ?_
                  refine lv_iload_n hx hb dX8_flow_126 rfl (lv_at hl 3 rfl) ?_
                  refine va_iald hx hb hK hP 1 0 rfl rfl (vp_in_nI (by omega) (by decide)) dX8_flow_127 ?_
                  refine lv_icmp_ge (tgt := 136) hx hb dX8_flow_128 (by decide) (fun c_128 => ?_) (fun c_128 => ?_)
                  · refine lv_aload_n hx hb dX8_flow_136 rfl (lv_at hl 5 rfl) ?_
                    refine va_get (D := D) (ci := 8) (v := .ref a_least) (C := RX8) (T := TX8) (N := 26) hx hb hts (fun _ h => List.mem_cons_of_mem _ (List.mem_append_right _ (h))) hown hK hP 0 rfl rfl 17 (by decide) (hts _ (List.mem_of_getElem? (i := 2) rfl)) (fun _ h9 => h9) rfl dX8_flow_137 ?_
                    refine lv_iload_n hx hb dX8_flow_140 rfl (lv_at hl 3 rfl) ?_
                    refine va_iald hx hb hK hP 1 0 rfl rfl (vp_in_nI (by omega) (by decide)) dX8_flow_141 ?_
                    refine va_iast hx hb hK hP (va_Dsame hD rfl) hS 1 0 rfl rfl (vp_in_nI (by omega) (by decide)) dX8_flow_142 (fun H locs hP _ hS => ?_)
                    have hP : va_P D vwCl [(a, .inr (8, [.ref a_readWishes, .ref a_readOwed, .int i_readHung, .int i_readMany, .int i_readOwes, .ref a_told, .ref a_owed, .int i_wishes, .int i_hung, .int i_hour, .ref a_text, .int i_length, .int i_at, .int i_faultAt, .int i_acts, .int i_next, .ref a_row, .ref a_least, .ref a_values, .int i_tells, .ref a_tellPlace, .ref a_tellHour, .ref a_tellDark, .long j_seed, .ref a_isKept, .ref a_kept])), (a_least, .inl (cI, 32, .inl (upd z66 (nI i31).toNatClampNeg (z66 (nI i31).toNatClampNeg))))] H := hP
                    refine lv_iinc (v := (nI (i66 + 1))) (lv' := [(5, .int (nI (i66 + 1))), (6, .int w_113), (4, .int (o_39 - 1)), (3, .int (nI i31)), (2, .int o_14), (0, .ref a), (1, .int x1)]) hx hb dX8_flow_143 hl (k := 1) rfl (nI_1 _) (by decide) rfl (fun ls hl => ?_)
                    refine lv_goto (tgt := 66) hx hb dX8_flow_146 (by decide) ?_
                    have e8 : v_X8_flow_L66 x1 i_hung o_39 i31 i66 z66 = (upd z66 (nI i31).toNatClampNeg (z66 (nI i31).toNatClampNeg)) := by
                      refine (bnd_eq ho_75).trans ?_
                      refine (if_neg c_78).trans ?_
                      refine (bnd_eq ho_100).trans ?_
                      refine (bnd_eq ho_106).trans ?_
                      refine (bnd_eq ho_109).trans ?_
                      refine (bnd_eq hw_113).trans ?_
                      refine (if_pos c_128).trans ?_
                      rfl
                    exact ih (i66 + 1) (upd z66 (nI i31).toNatClampNeg (z66 (nI i31).toNatClampNeg)) (by omega) (by omega) (it_go e8 hz) _ _ _ hP hS (lv_sub hl [0, 2, 3, 4, 5, 6] rfl)
                  · refine lv_iload hx hb dX8_flow_131 (lv_at hl 0 rfl) ?_
                    refine lv_goto (tgt := 142) hx hb dX8_flow_133 (by decide) ?_
                    refine va_iast hx hb hK hP (va_Dsame hD rfl) hS 1 0 rfl rfl (vp_in_nI (by omega) (by decide)) dX8_flow_142 (fun H locs hP _ hS => ?_)
                    have hP : va_P D vwCl [(a, .inr (8, [.ref a_readWishes, .ref a_readOwed, .int i_readHung, .int i_readMany, .int i_readOwes, .ref a_told, .ref a_owed, .int i_wishes, .int i_hung, .int i_hour, .ref a_text, .int i_length, .int i_at, .int i_faultAt, .int i_acts, .int i_next, .ref a_row, .ref a_least, .ref a_values, .int i_tells, .ref a_tellPlace, .ref a_tellHour, .ref a_tellDark, .long j_seed, .ref a_isKept, .ref a_kept])), (a_least, .inl (cI, 32, .inl (upd z66 (nI i31).toNatClampNeg w_113)))] H := hP
                    refine lv_iinc (v := (nI (i66 + 1))) (lv' := [(5, .int (nI (i66 + 1))), (6, .int w_113), (4, .int (o_39 - 1)), (3, .int (nI i31)), (2, .int o_14), (0, .ref a), (1, .int x1)]) hx hb dX8_flow_143 hl (k := 1) rfl (nI_1 _) (by decide) rfl (fun ls hl => ?_)
                    refine lv_goto (tgt := 66) hx hb dX8_flow_146 (by decide) ?_
                    have e8 : v_X8_flow_L66 x1 i_hung o_39 i31 i66 z66 = (upd z66 (nI i31).toNatClampNeg w_113) := by
                      refine (bnd_eq ho_75).trans ?_
                      refine (if_neg c_78).trans ?_
                      refine (bnd_eq ho_100).trans ?_
                      refine (bnd_eq ho_106).trans ?_
                      refine (bnd_eq ho_109).trans ?_
                      refine (bnd_eq hw_113).trans ?_
                      refine (if_neg c_128).trans ?_
                      rfl
                    exact ih (i66 + 1) (upd z66 (nI i31).toNatClampNeg w_113) (by omega) (by omega) (it_go e8 hz) _ _ _ hP hS (lv_sub hl [0, 2, 3, 4, 5, 6] rfl)
            exact loop66 o_14.toNatClampNeg 0 (upd z31 (nI i31).toNatClampNeg 0) (Nat.le_refl _) rfl ho_L66.symm _ _ _ hP hS (lv_sub hl [0, 1, 2, 3, 4, 5] rfl)
      exact loop31 ((1 : Int32) <<< (o_14 &&& 31)).toNatClampNeg 0 f_least (Nat.le_refl _) rfl ho_L31.symm _ _ _ hP hS (lv_sub hl [0, 1, 2, 3] rfl)
    · refine lv_bipush (v := (-3)) hx hb dX8_flow_26 rfl ?_
      have e9 : v_X8_flow x1 i_hung f_least = ((-3), f_least) := by
        refine (bnd_eq ho_1).trans ?_
        refine (if_neg c_4).trans ?_
        refine (bnd_eq ho_14).trans ?_
        refine (bnd_eq ho_19).trans ?_
        refine (if_neg c_23).trans ?_
        rfl
      rw [hQ]; exact retI ((-3), f_least) hx hb hr hlk e9 hP rfl hS dX8_flow_28
  · refine lv_bipush (v := (-2)) hx hb dX8_flow_7 rfl ?_
    have e9 : v_X8_flow x1 i_hung f_least = ((-2), f_least) := by
      refine (bnd_eq ho_1).trans ?_
      refine (if_pos c_4).trans ?_
      rfl
    rw [hQ]; exact retI ((-2), f_least) hx hb hr hlk e9 hP rfl hS dX8_flow_9
def v_X8_mostOf_L6 (x1 : Int32) (x2 : Int32) (i_wishes : Int32) (f_owed : Nat → Int32) (f_told : Nat → Int32) (i6 : Nat) (z6 : Int32) : Int32 :=
  bnd (v_X8_ones (nI i6)) fun o_16 =>
  (if x2 < o_16 then z6
  else (bnd (v_X8_isLawful (nI i6) f_owed) fun o_26 =>
  (if bI o_26 = 0 then z6
  else (bnd (v_X8_granted (nI i6) i_wishes f_told) fun o_36 =>
  (bnd (v_X8_worthOf (o_36 &&& x1) i_wishes f_told) fun o_41 =>
  (if o_41 ≤ z6 then z6
  else o_41))))))
def v_X8_mostOf (x1 : Int32) (x2 : Int32) (i_wishes : Int32) (f_owed : Nat → Int32) (f_told : Nat → Int32) : Int32 :=
  bnd (it (v_X8_mostOf_L6 x1 x2 i_wishes f_owed f_told) 4096 0 (-9)) fun o_L6 =>
  o_L6
abbrev rm_X8_mostOf : Room := { frames := 5, cells := 0, slots := 0, locals := 113 }
set_option maxHeartbeats 4000000 in
set_option maxRecDepth 100000 in
theorem k_X8_mostOf (l : Launch) (D : va_G) (cI cZ : ClassId) (a a_readWishes a_readOwed a_told a_owed a_text a_row a_least a_values a_tellPlace a_tellHour a_tellDark a_isKept a_kept : Nat) (x1 : Int32) (x2 : Int32) (i_readHung : Int32) (i_readMany : Int32) (i_readOwes : Int32) (i_wishes : Int32) (i_hung : Int32) (i_hour : Int32) (i_length : Int32) (i_at : Int32) (i_faultAt : Int32) (i_acts : Int32) (i_next : Int32) (i_tells : Int32) (j_seed : Int64) (f_owed : Nat → Int32) (f_told : Nat → Int32) (hw : ∃ k : Nat, k ≤ 5 ∧ i_wishes = nI k) : KI l D cI cZ yX8_mostOf wsX8_mostOf rm_X8_mostOf [.ref a, .int x1, .int x2] [(a, .inr (8, [.ref a_readWishes, .ref a_readOwed, .int i_readHung, .int i_readMany, .int i_readOwes, .ref a_told, .ref a_owed, .int i_wishes, .int i_hung, .int i_hour, .ref a_text, .int i_length, .int i_at, .int i_faultAt, .int i_acts, .int i_next, .ref a_row, .ref a_least, .ref a_values, .int i_tells, .ref a_tellPlace, .ref a_tellHour, .ref a_tellDark, .long j_seed, .ref a_isKept, .ref a_kept])), (a_owed, .inl (cI, 12, .inl f_owed)), (a_told, .inl (cI, 25, .inl f_told))] (v_X8_mostOf x1 x2 i_wishes f_owed f_told) (fun o : Int32 => o) (fun _ : Int32 => [(a, .inr (8, [.ref a_readWishes, .ref a_readOwed, .int i_readHung, .int i_readMany, .int i_readOwes, .ref a_told, .ref a_owed, .int i_wishes, .int i_hung, .int i_hour, .ref a_text, .int i_length, .int i_at, .int i_faultAt, .int i_acts, .int i_next, .ref a_row, .ref a_least, .ref a_values, .int i_tells, .ref a_tellPlace, .ref a_tellHour, .ref a_tellDark, .long j_seed, .ref a_isKept, .ref a_kept])), (a_owed, .inl (cI, 12, .inl f_owed)), (a_told, .inl (cI, 25, .inl f_told))]) := by
  refine KI.of cX8_mostOf 6 (some .int) (by decide) rfl (Nat.le_of_ble_eq_true rfl) ?_
  intro p e s m below meth c A ls ar Q hQ B
  obtain ⟨hx, hb, hr, hml, hts, hown, hlk, hK, hN, hP, hD, hA, hS, hl⟩ := B
  have hown : s.vm.findClass RX8 = some m.cls := hown
  have hF : CallFix p m c cX8_mostOf 6 s ar wsX8_mostOf RX8 := ⟨hx, hb, hml, hown, hts⟩
  have hl : lv_has ls 6 [(0, .ref a), (1, .int x1), (2, .int x2)] := hl
  refine lv_bipush (v := (-9)) hx hb dX8_mostOf_0 rfl ?_
  refine lv_istore_n (lv' := [(3, .int (-9)), (0, .ref a), (1, .int x1), (2, .int x2)]) hx hb dX8_mostOf_2 rfl hl (by decide) rfl (fun ls hl => ?_)
  refine lv_iconst (v := 0) hx hb dX8_mostOf_3 rfl ?_
  refine lv_istore (lv' := [(4, .int 0), (3, .int (-9)), (0, .ref a), (1, .int x1), (2, .int x2)]) hx hb dX8_mostOf_4 hl (by decide) rfl (fun ls hl => ?_)
  obtain ⟨o_L6, ho_L6⟩ : ∃ z : Int32, z = it (v_X8_mostOf_L6 x1 x2 i_wishes f_owed f_told) 4096 0 (-9) := ⟨_, rfl⟩
  have kE6 : ∀ (H : Heap) (locs : List Loc) (ls : Array Slot), va_P D vwCl [(a, .inr (8, [.ref a_readWishes, .ref a_readOwed, .int i_readHung, .int i_readMany, .int i_readOwes, .ref a_told, .ref a_owed, .int i_wishes, .int i_hung, .int i_hour, .ref a_text, .int i_length, .int i_at, .int i_faultAt, .int i_acts, .int i_next, .ref a_row, .ref a_least, .ref a_values, .int i_tells, .ref a_tellPlace, .ref a_tellHour, .ref a_tellDark, .long j_seed, .ref a_isKept, .ref a_kept])), (a_owed, .inl (cI, 12, .inl f_owed)), (a_told, .inl (cI, 25, .inl f_told))] H → va_S A s.heap H locs → lv_has ls 6 [(3, .int o_L6)] → W p l e rm_X8_mostOf s m ar below meth c H locs 0 0 Q (F0 m 65 ls []) := by
    intro H locs ls hP hS hl
    refine lv_iload_n hx hb dX8_mostOf_65 rfl (lv_at hl 0 rfl) ?_
    have e9 : v_X8_mostOf x1 x2 i_wishes f_owed f_told = o_L6 := by
      refine (bnd_eq ho_L6).trans ?_
      rfl
    rw [hQ]; exact retI o_L6 hx hb hr hlk e9 hP rfl hS dX8_mostOf_66
  have loop6 : ∀ (k i6 : Nat) (z6 : Int32), 0 ≤ i6 → i6 + k = 0 + 4096 → it (v_X8_mostOf_L6 x1 x2 i_wishes f_owed f_told) k i6 z6 = o_L6 → ∀ (H : Heap) (locs : List Loc) (ls : Array Slot), va_P D vwCl [(a, .inr (8, [.ref a_readWishes, .ref a_readOwed, .int i_readHung, .int i_readMany, .int i_readOwes, .ref a_told, .ref a_owed, .int i_wishes, .int i_hung, .int i_hour, .ref a_text, .int i_length, .int i_at, .int i_faultAt, .int i_acts, .int i_next, .ref a_row, .ref a_least, .ref a_values, .int i_tells, .ref a_tellPlace, .ref a_tellHour, .ref a_tellDark, .long j_seed, .ref a_isKept, .ref a_kept])), (a_owed, .inl (cI, 12, .inl f_owed)), (a_told, .inl (cI, 25, .inl f_told))] H → va_S A s.heap H locs → lv_has ls 6 [(4, .int (nI i6)), (3, .int z6), (0, .ref a), (1, .int x1), (2, .int x2)] → W p l e rm_X8_mostOf s m ar below meth c H locs 0 0 Q (F0 m 6 ls []) := by
    intro k
    induction k with
    | zero =>
      intro i6 z6 hi0 hik hz H locs ls hP hS hl
      have hz : z6 = o_L6 := it_0 hz
      subst z6
      refine lv_iload hx hb dX8_mostOf_6 (lv_at hl 0 rfl) ?_
      refine lv_sipush (v := 4096) hx hb dX8_mostOf_8 rfl ?_
      refine lv_icmp_ge (tgt := 65) hx hb dX8_mostOf_11 (by decide) (fun _ => ?_) (fun c => absurd (nI_le (a := 4096) (by omega) (by omega)) c)
      exact kE6 _ _ _ hP hS (lv_sub hl [1] rfl)
    | succ k ih =>
      intro i6 z6 hi0 hik hz H locs ls hP hS hl
      refine lv_iload hx hb dX8_mostOf_6 (lv_at hl 0 rfl) ?_
      refine lv_sipush (v := 4096) hx hb dX8_mostOf_8 rfl ?_
      refine lv_icmp_ge (tgt := 65) hx hb dX8_mostOf_11 (by decide) (fun c => absurd c (nI_ge (b := 4096) (by omega) (by decide))) (fun _ => ?_)
      refine lv_iload hx hb dX8_mostOf_14 (lv_at hl 0 rfl) ?_
      obtain ⟨o_16, ho_16⟩ : ∃ z : Int32, z = v_X8_ones (nI i6) := ⟨_, rfl⟩
      refine callSIs (As := [.int (nI i6)]) (rest := []) o_16 ho_16 hF (k_X8_ones l D cI cZ (nI i6)) (va_cwS 1 hts gX8_mostOf_X8_ones rfl rfl rfl (by decide +kernel) ⟨Nat.le_of_ble_eq_true rfl, Nat.le_of_ble_eq_true rfl⟩) hK hN hP (va_Dsame hD rfl) hS hA [] rfl rfl rfl hl.1 rfl (Nat.le_of_ble_eq_true rfl) dX8_mostOf_16 ⟨Nat.zero_le _, Nat.zero_le _⟩ o_16 rfl rfl (fun H locs hP hS => ?_)
      refine lv_iload_n hx hb dX8_mostOf_19 rfl (lv_at hl 4 rfl) ?_
      refine lv_icmp_gt (tgt := 59) hx hb dX8_mostOf_20 (by decide) (fun c_20 => ?_) (fun c_20 => ?_)
      · refine lv_iinc (v := (nI (i6 + 1))) (lv' := [(4, .int (nI (i6 + 1))), (3, .int z6), (0, .ref a), (1, .int x1), (2, .int x2)]) hx hb dX8_mostOf_59 hl (k := 0) rfl (nI_1 _) (by decide) rfl (fun ls hl => ?_)
        refine lv_goto (tgt := 6) hx hb dX8_mostOf_62 (by decide) ?_
        have e8 : v_X8_mostOf_L6 x1 x2 i_wishes f_owed f_told i6 z6 = z6 := by
          refine (bnd_eq ho_16).trans ?_
          refine (if_pos c_20).trans ?_
          rfl
        exact ih (i6 + 1) z6 (by omega) (by omega) (it_go e8 hz) _ _ _ hP hS (lv_sub hl [0, 1, 2, 3, 4] rfl)
      · refine lv_aload_n hx hb dX8_mostOf_23 rfl (lv_at hl 2 rfl) ?_
        refine lv_iload hx hb dX8_mostOf_24 (lv_at hl 0 rfl) ?_
        obtain ⟨o_26, ho_26⟩ : ∃ z : Bool, z = v_X8_isLawful (nI i6) f_owed := ⟨_, rfl⟩
        refine callVIs (As := [.int (nI i6)]) (rest := []) o_26 ho_26 hF (k_X8_isLawful l D cI cZ a a_readWishes a_readOwed a_told a_owed a_text a_row a_least a_values a_tellPlace a_tellHour a_tellDark a_isKept a_kept (nI i6) i_readHung i_readMany i_readOwes i_wishes i_hung i_hour i_length i_at i_faultAt i_acts i_next i_tells j_seed f_owed) (cwV 1 hts gX8_mostOf_X8_isLawful rfl rfl rfl (by decide +kernel) ⟨Nat.le_of_ble_eq_true rfl, Nat.le_of_ble_eq_true rfl⟩) hK hN hP (va_Dsame hD rfl) hS hA [0, 1] rfl rfl 0 8 (T := TX8) (N := 26) rfl rfl rfl hl.1 rfl (Nat.le_of_ble_eq_true rfl) dX8_mostOf_26 ⟨Nat.zero_le _, Nat.zero_le _⟩ (bI o_26) rfl rfl (fun H locs hP hS => ?_)
        refine lv_if_eq (tgt := 59) hx hb dX8_mostOf_29 (by decide) (fun c_29 => ?_) (fun c_29 => ?_)
        · refine lv_iinc (v := (nI (i6 + 1))) (lv' := [(4, .int (nI (i6 + 1))), (3, .int z6), (0, .ref a), (1, .int x1), (2, .int x2)]) hx hb dX8_mostOf_59 hl (k := 0) rfl (nI_1 _) (by decide) rfl (fun ls hl => ?_)
          refine lv_goto (tgt := 6) hx hb dX8_mostOf_62 (by decide) ?_
          have e8 : v_X8_mostOf_L6 x1 x2 i_wishes f_owed f_told i6 z6 = z6 := by
            refine (bnd_eq ho_16).trans ?_
            refine (if_neg c_20).trans ?_
            refine (bnd_eq ho_26).trans ?_
            refine (if_pos c_29).trans ?_
            rfl
          exact ih (i6 + 1) z6 (by omega) (by omega) (it_go e8 hz) _ _ _ hP hS (lv_sub hl [0, 1, 2, 3, 4] rfl)
        · refine lv_aload_n hx hb dX8_mostOf_32 rfl (lv_at hl 2 rfl) ?_
          refine lv_aload_n hx hb dX8_mostOf_33 rfl (lv_at hl 2 rfl) ?_
          refine lv_iload hx hb dX8_mostOf_34 (lv_at hl 0 rfl) ?_
          obtain ⟨o_36, ho_36⟩ : ∃ z : Int32, z = v_X8_granted (nI i6) i_wishes f_told := ⟨_, rfl⟩
          refine callVIs (As := [.int (nI i6)]) (rest := [.ref a]) o_36 ho_36 hF (k_X8_granted l D cI cZ a a_readWishes a_readOwed a_told a_owed a_text a_row a_least a_values a_tellPlace a_tellHour a_tellDark a_isKept a_kept (nI i6) i_readHung i_readMany i_readOwes i_wishes i_hung i_hour i_length i_at i_faultAt i_acts i_next i_tells j_seed f_told (hw)) (cwV 1 hts gX8_mostOf_X8_granted rfl rfl rfl (by decide +kernel) ⟨Nat.le_of_ble_eq_true rfl, Nat.le_of_ble_eq_true rfl⟩) hK hN hP (va_Dsame hD rfl) hS hA [0, 2] rfl rfl 0 8 (T := TX8) (N := 26) rfl rfl rfl hl.1 rfl (Nat.le_of_ble_eq_true rfl) dX8_mostOf_36 ⟨Nat.zero_le _, Nat.zero_le _⟩ o_36 rfl rfl (fun H locs hP hS => ?_)
          refine lv_iload_n hx hb dX8_mostOf_39 rfl (lv_at hl 3 rfl) ?_
          refine lv_iand hx hb dX8_mostOf_40 ?_
          obtain ⟨o_41, ho_41⟩ : ∃ z : Int32, z = v_X8_worthOf (o_36 &&& x1) i_wishes f_told := ⟨_, rfl⟩
          refine callVIs (As := [.int (o_36 &&& x1)]) (rest := []) o_41 ho_41 hF (k_X8_worthOf l D cI cZ a a_readWishes a_readOwed a_told a_owed a_text a_row a_least a_values a_tellPlace a_tellHour a_tellDark a_isKept a_kept (o_36 &&& x1) i_readHung i_readMany i_readOwes i_wishes i_hung i_hour i_length i_at i_faultAt i_acts i_next i_tells j_seed f_told (hw)) (cwV 1 hts gX8_mostOf_X8_worthOf rfl rfl rfl (by decide +kernel) ⟨Nat.le_of_ble_eq_true rfl, Nat.le_of_ble_eq_true rfl⟩) hK hN hP (va_Dsame hD rfl) hS hA [0, 2] rfl rfl 0 8 (T := TX8) (N := 26) rfl rfl rfl hl.1 rfl (Nat.le_of_ble_eq_true rfl) dX8_mostOf_41 ⟨Nat.zero_le _, Nat.zero_le _⟩ o_41 rfl rfl (fun H locs hP hS => ?_)
          refine lv_istore (lv' := [(5, .int o_41), (4, .int (nI i6)), (3, .int z6), (0, .ref a), (1, .int x1), (2, .int x2)]) hx hb dX8_mostOf_44 hl (by decide) rfl (fun ls hl => ?_)
          refine lv_iload hx hb dX8_mostOf_46 (lv_at hl 0 rfl) ?_
          refine lv_iload_n hx hb dX8_mostOf_48 rfl (lv_at hl 2 rfl) ?_
          refine lv_icmp_le (tgt := 57) hx hb dX8_mostOf_49 (by decide) (fun c_49 => ?_) (fun c_49 => ?_)
          · refine lv_iload_n hx hb dX8_mostOf_57 rfl (lv_at hl 2 rfl) ?_
            refine lv_istore_n (lv' := [(3, .int z6), (5, .int o_41), (4, .int (nI i6)), (0, .ref a), (1, .int x1), (2, .int x2)]) hx hb dX8_mostOf_58 rfl hl (by decide) rfl (fun ls hl => ?_)
            refine lv_iinc (v := (nI (i6 + 1))) (lv' := [(4, .int (nI (i6 + 1))), (3, .int z6), (5, .int o_41), (0, .ref a), (1, .int x1), (2, .int x2)]) hx hb dX8_mostOf_59 hl (k := 2) rfl (nI_1 _) (by decide) rfl (fun ls hl => ?_)
            refine lv_goto (tgt := 6) hx hb dX8_mostOf_62 (by decide) ?_
            have e8 : v_X8_mostOf_L6 x1 x2 i_wishes f_owed f_told i6 z6 = z6 := by
              refine (bnd_eq ho_16).trans ?_
              refine (if_neg c_20).trans ?_
              refine (bnd_eq ho_26).trans ?_
              refine (if_neg c_29).trans ?_
              refine (bnd_eq ho_36).trans ?_
              refine (bnd_eq ho_41).trans ?_
              refine (if_pos c_49).trans ?_
              rfl
            exact ih (i6 + 1) z6 (by omega) (by omega) (it_go e8 hz) _ _ _ hP hS (lv_sub hl [0, 1, 3, 4, 5] rfl)
          · refine lv_iload hx hb dX8_mostOf_52 (lv_at hl 0 rfl) ?_
            refine lv_goto (tgt := 58) hx hb dX8_mostOf_54 (by decide) ?_
            refine lv_istore_n (lv' := [(3, .int o_41), (5, .int o_41), (4, .int (nI i6)), (0, .ref a), (1, .int x1), (2, .int x2)]) hx hb dX8_mostOf_58 rfl hl (by decide) rfl (fun ls hl => ?_)
            refine lv_iinc (v := (nI (i6 + 1))) (lv' := [(4, .int (nI (i6 + 1))), (3, .int o_41), (5, .int o_41), (0, .ref a), (1, .int x1), (2, .int x2)]) hx hb dX8_mostOf_59 hl (k := 2) rfl (nI_1 _) (by decide) rfl (fun ls hl => ?_)
            refine lv_goto (tgt := 6) hx hb dX8_mostOf_62 (by decide) ?_
            have e8 : v_X8_mostOf_L6 x1 x2 i_wishes f_owed f_told i6 z6 = o_41 := by
              refine (bnd_eq ho_16).trans ?_
              refine (if_neg c_20).trans ?_
              refine (bnd_eq ho_26).trans ?_
              refine (if_neg c_29).trans ?_
              refine (bnd_eq ho_36).trans ?_
              refine (bnd_eq ho_41).trans ?_
              refine (if_neg c_49).trans ?_
              rfl
            exact ih (i6 + 1) o_41 (by omega) (by omega) (it_go e8 hz) _ _ _ hP hS (lv_sub hl [0, 1, 3, 4, 5] rfl)
  exact loop6 4096 0 (-9) (Nat.le_refl _) rfl ho_L6.symm _ _ _ hP hS (lv_sub hl [0, 1, 2, 3, 4] rfl)
def v_X8_due (x1 : Int32) (x2 : Int32) (i_wishes : Int32) (f_owed : Nat → Int32) (f_told : Nat → Int32) : Int32 :=
  bnd (v_X8_isWish x1 i_wishes) fun o_2 =>
  (if bI o_2 = 0 then (-1)
  else (bnd (v_X8_in x2.toInt64 0 5) fun o_16 =>
  (if bI o_16 = 0 then (-2)
  else (bnd (v_X8_bestHanging x2 i_wishes f_owed f_told) fun o_27 =>
  (if o_27 = (-9) then (-9)
  else (bnd (((((1 : Int32) <<< (i_wishes &&& 31)) - 1) &&& (((1 : Int32) <<< (x1 &&& 31)) ^^^ (-1)))) fun w_54 =>
  (bnd (v_X8_granted o_27 i_wishes f_told) fun o_58 =>
  (bnd (v_X8_has o_58 x1) fun o_62 =>
  (if bI o_62 = 0 then 0
  else (bnd (v_X8_mostOf w_54 x2 i_wishes f_owed f_told) fun o_72 =>
  (bnd (v_X8_granted o_27 i_wishes f_told) fun o_78 =>
  (bnd (v_X8_worthOf (o_78 &&& w_54) i_wishes f_told) fun o_84 =>
  (o_72 - o_84)))))))))))))
abbrev rm_X8_due : Room := { frames := 6, cells := 0, slots := 0, locals := 140 }
set_option maxHeartbeats 4000000 in
set_option maxRecDepth 100000 in
theorem k_X8_due (l : Launch) (D : va_G) (cI cZ : ClassId) (a a_readWishes a_readOwed a_told a_owed a_text a_row a_least a_values a_tellPlace a_tellHour a_tellDark a_isKept a_kept : Nat) (x1 : Int32) (x2 : Int32) (i_readHung : Int32) (i_readMany : Int32) (i_readOwes : Int32) (i_wishes : Int32) (i_hung : Int32) (i_hour : Int32) (i_length : Int32) (i_at : Int32) (i_faultAt : Int32) (i_acts : Int32) (i_next : Int32) (i_tells : Int32) (j_seed : Int64) (f_owed : Nat → Int32) (f_told : Nat → Int32) (hw : ∃ k : Nat, k ≤ 5 ∧ i_wishes = nI k) : KI l D cI cZ yX8_due wsX8_due rm_X8_due [.ref a, .int x1, .int x2] [(a, .inr (8, [.ref a_readWishes, .ref a_readOwed, .int i_readHung, .int i_readMany, .int i_readOwes, .ref a_told, .ref a_owed, .int i_wishes, .int i_hung, .int i_hour, .ref a_text, .int i_length, .int i_at, .int i_faultAt, .int i_acts, .int i_next, .ref a_row, .ref a_least, .ref a_values, .int i_tells, .ref a_tellPlace, .ref a_tellHour, .ref a_tellDark, .long j_seed, .ref a_isKept, .ref a_kept])), (a_owed, .inl (cI, 12, .inl f_owed)), (a_told, .inl (cI, 25, .inl f_told))] (v_X8_due x1 x2 i_wishes f_owed f_told) (fun o : Int32 => o) (fun _ : Int32 => [(a, .inr (8, [.ref a_readWishes, .ref a_readOwed, .int i_readHung, .int i_readMany, .int i_readOwes, .ref a_told, .ref a_owed, .int i_wishes, .int i_hung, .int i_hour, .ref a_text, .int i_length, .int i_at, .int i_faultAt, .int i_acts, .int i_next, .ref a_row, .ref a_least, .ref a_values, .int i_tells, .ref a_tellPlace, .ref a_tellHour, .ref a_tellDark, .long j_seed, .ref a_isKept, .ref a_kept])), (a_owed, .inl (cI, 12, .inl f_owed)), (a_told, .inl (cI, 25, .inl f_told))]) := by
  refine KI.of cX8_due 5 (some .int) (by decide) rfl (Nat.le_of_ble_eq_true rfl) ?_
  intro p e s m below meth c A ls ar Q hQ B
  obtain ⟨hx, hb, hr, hml, hts, hown, hlk, hK, hN, hP, hD, hA, hS, hl⟩ := B
  have hown : s.vm.findClass RX8 = some m.cls := hown
  have hF : CallFix p m c cX8_due 5 s ar wsX8_due RX8 := ⟨hx, hb, hml, hown, hts⟩
  have hl : lv_has ls 5 [(0, .ref a), (1, .int x1), (2, .int x2)] := hl
  refine lv_aload_n hx hb dX8_due_0 rfl (lv_at hl 0 rfl) ?_
  refine lv_iload_n hx hb dX8_due_1 rfl (lv_at hl 1 rfl) ?_
  obtain ⟨o_2, ho_2⟩ : ∃ z : Bool, z = v_X8_isWish x1 i_wishes := ⟨_, rfl⟩
  refine callVIs (As := [.int x1]) (rest := []) o_2 ho_2 hF (k_X8_isWish l D cI cZ a a_readWishes a_readOwed a_told a_owed a_text a_row a_least a_values a_tellPlace a_tellHour a_tellDark a_isKept a_kept x1 i_readHung i_readMany i_readOwes i_wishes i_hung i_hour i_length i_at i_faultAt i_acts i_next i_tells j_seed) (cwV 1 hts gX8_due_X8_isWish rfl rfl rfl (by decide +kernel) ⟨Nat.le_of_ble_eq_true rfl, Nat.le_of_ble_eq_true rfl⟩) hK hN hP (va_Dsame hD rfl) hS hA [0] rfl rfl 0 8 (T := TX8) (N := 26) rfl rfl rfl hl.1 rfl (Nat.le_of_ble_eq_true rfl) dX8_due_2 ⟨Nat.zero_le _, Nat.zero_le _⟩ (bI o_2) rfl rfl (fun H locs hP hS => ?_)
  refine lv_if_ne (tgt := 10) hx hb dX8_due_5 (by decide) (fun c_5 => ?_) (fun c_5 => ?_)
  · refine lv_iload_n hx hb dX8_due_10 rfl (lv_at hl 2 rfl) ?_
    refine lv_i2l (v := x2.toInt64) hx hb dX8_due_11 rfl ?_
    refine lv_lconst (v := 0) hx hb dX8_due_12 rfl ?_
    refine lv_ldc2 (v := 5) hx hb hown (hts _ (List.mem_of_getElem? (i := 1) rfl)) dX8_due_13 ?_
    obtain ⟨o_16, ho_16⟩ : ∃ z : Bool, z = v_X8_in x2.toInt64 0 5 := ⟨_, rfl⟩
    refine callSIs (As := [.long x2.toInt64, .long 0, .long 5]) (rest := []) o_16 ho_16 hF (k_X8_in l D cI cZ x2.toInt64 0 5) (va_cwS 3 hts gX8_due_X8_in rfl rfl rfl (by decide +kernel) ⟨Nat.le_of_ble_eq_true rfl, Nat.le_of_ble_eq_true rfl⟩) hK hN hP (va_Dsame hD rfl) hS hA [] rfl rfl rfl hl.1 rfl (Nat.le_of_ble_eq_true rfl) dX8_due_16 ⟨Nat.zero_le _, Nat.zero_le _⟩ (bI o_16) rfl rfl (fun H locs hP hS => ?_)
    refine lv_if_ne (tgt := 25) hx hb dX8_due_19 (by decide) (fun c_19 => ?_) (fun c_19 => ?_)
    · refine lv_aload_n hx hb dX8_due_25 rfl (lv_at hl 0 rfl) ?_
      refine lv_iload_n hx hb dX8_due_26 rfl (lv_at hl 2 rfl) ?_
      obtain ⟨o_27, ho_27⟩ : ∃ z : Int32, z = v_X8_bestHanging x2 i_wishes f_owed f_told := ⟨_, rfl⟩
      refine callVIs (As := [.int x2]) (rest := []) o_27 ho_27 hF (k_X8_bestHanging l D cI cZ a a_readWishes a_readOwed a_told a_owed a_text a_row a_least a_values a_tellPlace a_tellHour a_tellDark a_isKept a_kept x2 i_readHung i_readMany i_readOwes i_wishes i_hung i_hour i_length i_at i_faultAt i_acts i_next i_tells j_seed f_owed f_told (hw)) (cwV 1 hts gX8_due_X8_bestHanging rfl rfl rfl (by decide +kernel) ⟨Nat.le_of_ble_eq_true rfl, Nat.le_of_ble_eq_true rfl⟩) hK hN hP (va_Dsame hD rfl) hS hA [0, 1, 2] rfl rfl 0 8 (T := TX8) (N := 26) rfl rfl rfl hl.1 rfl (Nat.le_of_ble_eq_true rfl) dX8_due_27 ⟨Nat.zero_le _, Nat.zero_le _⟩ o_27 rfl rfl (fun H locs hP hS => ?_)
      refine lv_istore_n (lv' := [(3, .int o_27), (0, .ref a), (1, .int x1), (2, .int x2)]) hx hb dX8_due_30 rfl hl (by decide) rfl (fun ls hl => ?_)
      refine lv_iload_n hx hb dX8_due_31 rfl (lv_at hl 0 rfl) ?_
      refine lv_bipush (v := (-9)) hx hb dX8_due_32 rfl ?_
      refine lv_icmp_ne (tgt := 40) hx hb dX8_due_34 (by decide) (fun c_34 => ?_) (fun c_34 => ?_)
      · refine lv_iconst (v := 1) hx hb dX8_due_40 rfl ?_
        refine lv_aload_n hx hb dX8_due_41 rfl (lv_at hl 1 rfl) ?_
        refine va_get (D := D) (ci := 8) (v := .int i_wishes) (C := RX8) (T := TX8) (N := 26) hx hb hts (fun _ h => List.mem_cons_of_mem _ (List.mem_append_right _ (h))) hown hK hP 0 rfl rfl 7 (by decide) (hts _ (List.mem_of_getElem? (i := 2) rfl)) (fun _ h9 => h9) rfl dX8_due_42 ?_
        refine lv_ishl hx hb dX8_due_45 ?_
        refine lv_iconst (v := 1) hx hb dX8_due_46 rfl ?_
        refine lv_isub hx hb dX8_due_47 ?_
        refine lv_iconst (v := 1) hx hb dX8_due_48 rfl ?_
        refine lv_iload_n hx hb dX8_due_49 rfl (lv_at hl 2 rfl) ?_
        refine lv_ishl hx hb dX8_due_50 ?_
        refine lv_iconst (v := (-1)) hx hb dX8_due_51 rfl ?_
        refine lv_ixor hx hb dX8_due_52 ?_
        refine lv_iand hx hb dX8_due_53 ?_
        refine lv_topi (fun w_54 hw_54 => ?_)
        refine lv_istore (lv' := [(4, .int w_54), (3, .int o_27), (0, .ref a), (1, .int x1), (2, .int x2)]) hx hb dX8_due_54 hl (by decide) rfl (fun ls hl => ?_)
        refine lv_aload_n hx hb dX8_due_56 rfl (lv_at hl 2 rfl) ?_
        refine lv_iload_n hx hb dX8_due_57 rfl (lv_at hl 1 rfl) ?_
        obtain ⟨o_58, ho_58⟩ : ∃ z : Int32, z = v_X8_granted o_27 i_wishes f_told := ⟨_, rfl⟩
        refine callVIs (As := [.int o_27]) (rest := []) o_58 ho_58 hF (k_X8_granted l D cI cZ a a_readWishes a_readOwed a_told a_owed a_text a_row a_least a_values a_tellPlace a_tellHour a_tellDark a_isKept a_kept o_27 i_readHung i_readMany i_readOwes i_wishes i_hung i_hour i_length i_at i_faultAt i_acts i_next i_tells j_seed f_told (hw)) (cwV 1 hts gX8_due_X8_granted rfl rfl rfl (by decide +kernel) ⟨Nat.le_of_ble_eq_true rfl, Nat.le_of_ble_eq_true rfl⟩) hK hN hP (va_Dsame hD rfl) hS hA [0, 2] rfl rfl 0 8 (T := TX8) (N := 26) rfl rfl rfl hl.1 rfl (Nat.le_of_ble_eq_true rfl) dX8_due_58 ⟨Nat.zero_le _, Nat.zero_le _⟩ o_58 rfl rfl (fun H locs hP hS => ?_)
        refine lv_iload_n hx hb dX8_due_61 rfl (lv_at hl 3 rfl) ?_
        obtain ⟨o_62, ho_62⟩ : ∃ z : Bool, z = v_X8_has o_58 x1 := ⟨_, rfl⟩
        refine callSIs (As := [.int o_58, .int x1]) (rest := []) o_62 ho_62 hF (k_X8_has l D cI cZ o_58 x1) (va_cwS 2 hts gX8_due_X8_has rfl rfl rfl (by decide +kernel) ⟨Nat.le_of_ble_eq_true rfl, Nat.le_of_ble_eq_true rfl⟩) hK hN hP (va_Dsame hD rfl) hS hA [] rfl rfl rfl hl.1 rfl (Nat.le_of_ble_eq_true rfl) dX8_due_62 ⟨Nat.zero_le _, Nat.zero_le _⟩ (bI o_62) rfl rfl (fun H locs hP hS => ?_)
        refine lv_if_eq (tgt := 91) hx hb dX8_due_65 (by decide) (fun c_65 => ?_) (fun c_65 => ?_)
        · refine lv_iconst (v := 0) hx hb dX8_due_91 rfl ?_
          have e9 : v_X8_due x1 x2 i_wishes f_owed f_told = 0 := by
            refine (bnd_eq ho_2).trans ?_
            refine (if_neg c_5).trans ?_
            refine (bnd_eq ho_16).trans ?_
            refine (if_neg c_19).trans ?_
            refine (bnd_eq ho_27).trans ?_
            refine (if_neg c_34).trans ?_
            refine (bnd_eq hw_54).trans ?_
            refine (bnd_eq ho_58).trans ?_
            refine (bnd_eq ho_62).trans ?_
            refine (if_pos c_65).trans ?_
            rfl
          rw [hQ]; exact retI 0 hx hb hr hlk e9 hP rfl hS dX8_due_92
        · refine lv_aload_n hx hb dX8_due_68 rfl (lv_at hl 2 rfl) ?_
          refine lv_iload hx hb dX8_due_69 (lv_at hl 0 rfl) ?_
          refine lv_iload_n hx hb dX8_due_71 rfl (lv_at hl 4 rfl) ?_
          obtain ⟨o_72, ho_72⟩ : ∃ z : Int32, z = v_X8_mostOf w_54 x2 i_wishes f_owed f_told := ⟨_, rfl⟩
          refine callVIs (As := [.int w_54, .int x2]) (rest := []) o_72 ho_72 hF (k_X8_mostOf l D cI cZ a a_readWishes a_readOwed a_told a_owed a_text a_row a_least a_values a_tellPlace a_tellHour a_tellDark a_isKept a_kept w_54 x2 i_readHung i_readMany i_readOwes i_wishes i_hung i_hour i_length i_at i_faultAt i_acts i_next i_tells j_seed f_owed f_told (hw)) (cwV 2 hts gX8_due_X8_mostOf rfl rfl rfl (by decide +kernel) ⟨Nat.le_of_ble_eq_true rfl, Nat.le_of_ble_eq_true rfl⟩) hK hN hP (va_Dsame hD rfl) hS hA [0, 1, 2] rfl rfl 0 8 (T := TX8) (N := 26) rfl rfl rfl hl.1 rfl (Nat.le_of_ble_eq_true rfl) dX8_due_72 ⟨Nat.zero_le _, Nat.zero_le _⟩ o_72 rfl rfl (fun H locs hP hS => ?_)
          refine lv_aload_n hx hb dX8_due_75 rfl (lv_at hl 2 rfl) ?_
          refine lv_aload_n hx hb dX8_due_76 rfl (lv_at hl 2 rfl) ?_
          refine lv_iload_n hx hb dX8_due_77 rfl (lv_at hl 1 rfl) ?_
          obtain ⟨o_78, ho_78⟩ : ∃ z : Int32, z = v_X8_granted o_27 i_wishes f_told := ⟨_, rfl⟩
          refine callVIs (As := [.int o_27]) (rest := [.ref a, .int o_72]) o_78 ho_78 hF (k_X8_granted l D cI cZ a a_readWishes a_readOwed a_told a_owed a_text a_row a_least a_values a_tellPlace a_tellHour a_tellDark a_isKept a_kept o_27 i_readHung i_readMany i_readOwes i_wishes i_hung i_hour i_length i_at i_faultAt i_acts i_next i_tells j_seed f_told (hw)) (cwV 1 hts gX8_due_X8_granted rfl rfl rfl (by decide +kernel) ⟨Nat.le_of_ble_eq_true rfl, Nat.le_of_ble_eq_true rfl⟩) hK hN hP (va_Dsame hD rfl) hS hA [0, 2] rfl rfl 0 8 (T := TX8) (N := 26) rfl rfl rfl hl.1 rfl (Nat.le_of_ble_eq_true rfl) dX8_due_78 ⟨Nat.zero_le _, Nat.zero_le _⟩ o_78 rfl rfl (fun H locs hP hS => ?_)
          refine lv_iload hx hb dX8_due_81 (lv_at hl 0 rfl) ?_
          refine lv_iand hx hb dX8_due_83 ?_
          obtain ⟨o_84, ho_84⟩ : ∃ z : Int32, z = v_X8_worthOf (o_78 &&& w_54) i_wishes f_told := ⟨_, rfl⟩
          refine callVIs (As := [.int (o_78 &&& w_54)]) (rest := [.int o_72]) o_84 ho_84 hF (k_X8_worthOf l D cI cZ a a_readWishes a_readOwed a_told a_owed a_text a_row a_least a_values a_tellPlace a_tellHour a_tellDark a_isKept a_kept (o_78 &&& w_54) i_readHung i_readMany i_readOwes i_wishes i_hung i_hour i_length i_at i_faultAt i_acts i_next i_tells j_seed f_told (hw)) (cwV 1 hts gX8_due_X8_worthOf rfl rfl rfl (by decide +kernel) ⟨Nat.le_of_ble_eq_true rfl, Nat.le_of_ble_eq_true rfl⟩) hK hN hP (va_Dsame hD rfl) hS hA [0, 2] rfl rfl 0 8 (T := TX8) (N := 26) rfl rfl rfl hl.1 rfl (Nat.le_of_ble_eq_true rfl) dX8_due_84 ⟨Nat.zero_le _, Nat.zero_le _⟩ o_84 rfl rfl (fun H locs hP hS => ?_)
          refine lv_isub hx hb dX8_due_87 ?_
          refine lv_goto (tgt := 92) hx hb dX8_due_88 (by decide) ?_
          have e9 : v_X8_due x1 x2 i_wishes f_owed f_told = (o_72 - o_84) := by
            refine (bnd_eq ho_2).trans ?_
            refine (if_neg c_5).trans ?_
            refine (bnd_eq ho_16).trans ?_
            refine (if_neg c_19).trans ?_
            refine (bnd_eq ho_27).trans ?_
            refine (if_neg c_34).trans ?_
            refine (bnd_eq hw_54).trans ?_
            refine (bnd_eq ho_58).trans ?_
            refine (bnd_eq ho_62).trans ?_
            refine (if_neg c_65).trans ?_
            refine (bnd_eq ho_72).trans ?_
            refine (bnd_eq ho_78).trans ?_
            refine (bnd_eq ho_84).trans ?_
            rfl
          rw [hQ]; exact retI (o_72 - o_84) hx hb hr hlk e9 hP rfl hS dX8_due_92
      · refine lv_bipush (v := (-9)) hx hb dX8_due_37 rfl ?_
        have e9 : v_X8_due x1 x2 i_wishes f_owed f_told = (-9) := by
          refine (bnd_eq ho_2).trans ?_
          refine (if_neg c_5).trans ?_
          refine (bnd_eq ho_16).trans ?_
          refine (if_neg c_19).trans ?_
          refine (bnd_eq ho_27).trans ?_
          refine (if_pos c_34).trans ?_
          rfl
        rw [hQ]; exact retI (-9) hx hb hr hlk e9 hP rfl hS dX8_due_39
    · refine lv_bipush (v := (-2)) hx hb dX8_due_22 rfl ?_
      have e9 : v_X8_due x1 x2 i_wishes f_owed f_told = (-2) := by
        refine (bnd_eq ho_2).trans ?_
        refine (if_neg c_5).trans ?_
        refine (bnd_eq ho_16).trans ?_
        refine (if_pos c_19).trans ?_
        rfl
      rw [hQ]; exact retI (-2) hx hb hr hlk e9 hP rfl hS dX8_due_24
  · refine lv_iconst (v := (-1)) hx hb dX8_due_8 rfl ?_
    have e9 : v_X8_due x1 x2 i_wishes f_owed f_told = (-1) := by
      refine (bnd_eq ho_2).trans ?_
      refine (if_pos c_5).trans ?_
      rfl
    rw [hQ]; exact retI (-1) hx hb hr hlk e9 hP rfl hS dX8_due_9
def v_X8_factorial_L4 (i4 : Nat) (z4 : Int32) : Int32 :=
  (z4 * nI i4)
def v_X8_factorial (x0 : Int32) : Int32 :=
  bnd (it (v_X8_factorial_L4) ((x0.toNatClampNeg + 1) - 2) 2 1) fun o_L4 =>
  o_L4
abbrev rm_X8_factorial : Room := { frames := 0, cells := 0, slots := 0, locals := 0 }
set_option maxHeartbeats 4000000 in
set_option maxRecDepth 100000 in
theorem k_X8_factorial (l : Launch) (D : va_G) (cI cZ : ClassId) (x0 : Int32) (hn0 : x0.toNatClampNeg + 1 < 2 ^ 31) : KI l D cI cZ yX8_factorial wsX8_factorial rm_X8_factorial [.int x0] [] (v_X8_factorial x0) (fun o : Int32 => o) (fun _ : Int32 => []) := by
  refine KI.of cX8_factorial 3 (some .int) (by decide) rfl (Nat.le_of_ble_eq_true rfl) ?_
  intro p e s m below meth c A ls ar Q hQ B
  obtain ⟨hx, hb, hr, hml, hts, hown, hlk, hK, hN, hP, hD, hA, hS, hl⟩ := B
  have hown : s.vm.findClass RX8 = some m.cls := hown
  have hF : CallFix p m c cX8_factorial 3 s ar wsX8_factorial RX8 := ⟨hx, hb, hml, hown, hts⟩
  have hl : lv_has ls 3 [(0, .int x0)] := hl
  refine lv_iconst (v := 1) hx hb dX8_factorial_0 rfl ?_
  refine lv_istore_n (lv' := [(1, .int 1), (0, .int x0)]) hx hb dX8_factorial_1 rfl hl (by decide) rfl (fun ls hl => ?_)
  refine lv_iconst (v := 2) hx hb dX8_factorial_2 rfl ?_
  refine lv_istore_n (lv' := [(2, .int 2), (1, .int 1), (0, .int x0)]) hx hb dX8_factorial_3 rfl hl (by decide) rfl (fun ls hl => ?_)
  have hNlt : x0.toNatClampNeg + 1 < 2 ^ 31 := hn0
  obtain ⟨o_L4, ho_L4⟩ : ∃ z : Int32, z = it (v_X8_factorial_L4) ((x0.toNatClampNeg + 1) - 2) 2 1 := ⟨_, rfl⟩
  have kE4 : ∀ (H : Heap) (locs : List Loc) (ls : Array Slot), va_P D vwCl [] H → va_S A s.heap H locs → lv_has ls 3 [(1, .int o_L4)] → W p l e rm_X8_factorial s m ar below meth c H locs 0 0 Q (F0 m 19 ls []) := by
    intro H locs ls hP hS hl
    refine lv_iload_n hx hb dX8_factorial_19 rfl (lv_at hl 0 rfl) ?_
    have e9 : v_X8_factorial x0 = o_L4 := by
      refine (bnd_eq ho_L4).trans ?_
      rfl
    rw [hQ]; exact retI o_L4 hx hb hr hlk e9 hP rfl hS dX8_factorial_20
  have loop4 : ∀ (k i4 : Nat) (z4 : Int32), 2 ≤ i4 → i4 + k = 2 + ((x0.toNatClampNeg + 1) - 2) → it (v_X8_factorial_L4) k i4 z4 = o_L4 → ∀ (H : Heap) (locs : List Loc) (ls : Array Slot), va_P D vwCl [] H → va_S A s.heap H locs → lv_has ls 3 [(2, .int (nI i4)), (1, .int z4), (0, .int x0)] → W p l e rm_X8_factorial s m ar below meth c H locs 0 0 Q (F0 m 4 ls []) := by
    intro k
    induction k with
    | zero =>
      intro i4 z4 hi0 hik hz H locs ls hP hS hl
      have hz : z4 = o_L4 := it_0 hz
      subst z4
      refine lv_iload_n hx hb dX8_factorial_4 rfl (lv_at hl 0 rfl) ?_
      refine lv_iload_n hx hb dX8_factorial_5 rfl (lv_at hl 2 rfl) ?_
      refine lv_icmp_gt (tgt := 19) hx hb dX8_factorial_6 (by decide) (fun _ => ?_) (fun c => absurd (cb_gt (by omega) (by omega)) c)
      exact kE4 _ _ _ hP hS (lv_sub hl [1] rfl)
    | succ k ih =>
      intro i4 z4 hi0 hik hz H locs ls hP hS hl
      refine lv_iload_n hx hb dX8_factorial_4 rfl (lv_at hl 0 rfl) ?_
      refine lv_iload_n hx hb dX8_factorial_5 rfl (lv_at hl 2 rfl) ?_
      refine lv_icmp_gt (tgt := 19) hx hb dX8_factorial_6 (by decide) (fun c => absurd c (cb_le (by omega) (by omega))) (fun _ => ?_)
      refine lv_iload_n hx hb dX8_factorial_9 rfl (lv_at hl 1 rfl) ?_
      refine lv_iload_n hx hb dX8_factorial_10 rfl (lv_at hl 0 rfl) ?_
      refine lv_imul hx hb dX8_factorial_11 ?_
      refine lv_istore_n (lv' := [(1, .int (z4 * nI i4)), (2, .int (nI i4)), (0, .int x0)]) hx hb dX8_factorial_12 rfl hl (by decide) rfl (fun ls hl => ?_)
      refine lv_iinc (v := (nI (i4 + 1))) (lv' := [(2, .int (nI (i4 + 1))), (1, .int (z4 * nI i4)), (0, .int x0)]) hx hb dX8_factorial_13 hl (k := 1) rfl (nI_1 _) (by decide) rfl (fun ls hl => ?_)
      refine lv_goto (tgt := 4) hx hb dX8_factorial_16 (by decide) ?_
      have e8 : v_X8_factorial_L4 i4 z4 = (z4 * nI i4) := by
        rfl
      exact ih (i4 + 1) (z4 * nI i4) (by omega) (by omega) (it_go e8 hz) _ _ _ hP hS (lv_sub hl [0, 1, 2] rfl)
  exact loop4 ((x0.toNatClampNeg + 1) - 2) 2 1 (Nat.le_refl _) rfl ho_L4.symm _ _ _ hP hS (lv_sub hl [0, 1, 2] rfl)
theorem fact_ne {w : Int32} (hw : ∃ k : Nat, k ≤ 5 ∧ w = nI k) : ¬ v_X8_factorial w = 0 := by
  obtain ⟨k, hk, rfl⟩ := hw
  exact (by decide +kernel : ∀ k, k < 6 → ¬ v_X8_factorial (nI k) = 0) k (by omega)
def v_X8_common_L4c (i4 : Nat) (z4_1 : Int32) (z4_2 : Int32) : Sum (Int32 × Int32) (Int32 × Int32) :=
  if z4_1 = 0 then .inr (z4_1, z4_2)
  else .inl ((z4_2 - z4_2 / z4_1 * z4_1), z4_1)
def v_X8_common_L4 (i4 : Nat) (z4 : Int32 × Int32) : Sum (Int32 × Int32) (Int32 × Int32) := v_X8_common_L4c i4 z4.1 z4.2
def v_X8_common (x0 : Int32) (x1 : Int32) : Int32 :=
  bnd (itx (v_X8_common_L4) (x1.toInt.natAbs + 1) 0 (x1, x0)) fun o_L4 =>
  (bnd2 (unS o_L4) fun s4_1 s4_2 =>
  s4_2)
abbrev rm_X8_common : Room := { frames := 0, cells := 0, slots := 0, locals := 0 }
set_option maxHeartbeats 4000000 in
set_option maxRecDepth 100000 in
theorem k_X8_common (l : Launch) (D : va_G) (cI cZ : ClassId) (x0 : Int32) (x1 : Int32) : KI l D cI cZ yX8_common wsX8_common rm_X8_common [.int x0, .int x1] [] (v_X8_common x0 x1) (fun o : Int32 => o) (fun _ : Int32 => []) := by
  refine KI.of cX8_common 5 (some .int) (by decide) rfl (Nat.le_of_ble_eq_true rfl) ?_
  intro p e s m below meth c A ls ar Q hQ B
  obtain ⟨hx, hb, hr, hml, hts, hown, hlk, hK, hN, hP, hD, hA, hS, hl⟩ := B
  have hown : s.vm.findClass RX8 = some m.cls := hown
  have hF : CallFix p m c cX8_common 5 s ar wsX8_common RX8 := ⟨hx, hb, hml, hown, hts⟩
  have hl : lv_has ls 5 [(0, .int x0), (1, .int x1)] := hl
  refine lv_iload_n hx hb dX8_common_0 rfl (lv_at hl 0 rfl) ?_
  refine lv_istore_n (lv' := [(2, .int x0), (0, .int x0), (1, .int x1)]) hx hb dX8_common_1 rfl hl (by decide) rfl (fun ls hl => ?_)
  refine lv_iload_n hx hb dX8_common_2 rfl (lv_at hl 2 rfl) ?_
  refine lv_istore_n (lv' := [(3, .int x1), (2, .int x0), (0, .int x0), (1, .int x1)]) hx hb dX8_common_3 rfl hl (by decide) rfl (fun ls hl => ?_)
  obtain ⟨o_L4, ho_L4⟩ : ∃ z : Sum (Int32 × Int32) (Int32 × Int32), z = itx (v_X8_common_L4) (x1.toInt.natAbs + 1) 0 (x1, x0) := ⟨_, rfl⟩
  have kE4 : ∀ s4 : Int32 × Int32, unS o_L4 = s4 → ∀ (H : Heap) (locs : List Loc) (ls : Array Slot), va_P D vwCl [] H → va_S A s.heap H locs → lv_has ls 5 [(2, .int s4.2)] → W p l e rm_X8_common s m ar below meth c H locs 0 0 Q (F0 m 21 ls []) := by
    intro s4 hs4 H locs ls hP hS hl
    obtain ⟨s4_1, s4_2⟩ := s4
    have hP : va_P D vwCl [] H := hP
    have hl : lv_has ls 5 [(2, .int s4_2)] := hl
    refine lv_iload_n hx hb dX8_common_21 rfl (lv_at hl 0 rfl) ?_
    have e9 : v_X8_common x0 x1 = s4_2 := by
      refine (bnd_eq ho_L4).trans ?_
      refine (bnd2_eq hs4.symm).trans ?_
      rfl
    rw [hQ]; exact retI s4_2 hx hb hr hlk e9 hP rfl hS dX8_common_22
  have loop4 : ∀ (k i4 : Nat) (z4 : Int32 × Int32), 0 ≤ i4 → i4 + k = 0 + (x1.toInt.natAbs + 1) → itx (v_X8_common_L4) k i4 z4 = o_L4 → i4 + z4.1.toInt.natAbs ≤ x1.toInt.natAbs → ∀ (H : Heap) (locs : List Loc) (ls : Array Slot), va_P D vwCl [] H → va_S A s.heap H locs → lv_has ls 5 [(3, .int z4.1), (2, .int z4.2)] → W p l e rm_X8_common s m ar below meth c H locs 0 0 Q (F0 m 4 ls []) := by
    intro k
    induction k with
    | zero =>
      intro i4 z4 hi0 hik hz hinv H locs ls hP hS hl
      have hz : .inl z4 = o_L4 := itx_0 hz
      obtain ⟨z4_1, z4_2⟩ := z4
      have hinv : i4 + z4_1.toInt.natAbs ≤ x1.toInt.natAbs := hinv
      exact absurd hinv (by omega)
    | succ k ih =>
      intro i4 z4 hi0 hik hz hinv H locs ls hP hS hl
      obtain ⟨z4_1, z4_2⟩ := z4
      have hP : va_P D vwCl [] H := hP
      have hl : lv_has ls 5 [(3, .int z4_1), (2, .int z4_2)] := hl
      have hinv : i4 + z4_1.toInt.natAbs ≤ x1.toInt.natAbs := hinv
      refine lv_iload_n hx hb dX8_common_4 rfl (lv_at hl 0 rfl) ?_
      refine lv_if_eq (tgt := 21) hx hb dX8_common_5 (by decide) (fun c_5 => ?_) (fun c_5 => ?_)
      · have e8 : v_X8_common_L4 i4 (z4_1, z4_2) = .inr (z4_1, z4_2) := by
          show v_X8_common_L4c i4 z4_1 z4_2 = .inr (z4_1, z4_2)
          refine (if_pos c_5).trans ?_
          rfl
        exact kE4 (z4_1, z4_2) (by rw [← hz, itx_out e8]; rfl) _ _ _ hP hS (lv_sub hl [1] rfl)
      · refine lv_iload_n hx hb dX8_common_8 rfl (lv_at hl 1 rfl) ?_
        refine lv_iload_n hx hb dX8_common_9 rfl (lv_at hl 0 rfl) ?_
        refine lv_irem hx hb dX8_common_10 (c_5) ?_
        refine lv_istore (lv' := [(4, .int (z4_2 - z4_2 / z4_1 * z4_1)), (3, .int z4_1), (2, .int z4_2)]) hx hb dX8_common_11 hl (by decide) rfl (fun ls hl => ?_)
        refine lv_iload_n hx hb dX8_common_13 rfl (lv_at hl 1 rfl) ?_
        refine lv_istore_n (lv' := [(2, .int z4_1), (4, .int (z4_2 - z4_2 / z4_1 * z4_1)), (3, .int z4_1)]) hx hb dX8_common_14 rfl hl (by decide) rfl (fun ls hl => ?_)
        refine lv_iload hx hb dX8_common_15 (lv_at hl 1 rfl) ?_
        refine lv_istore_n (lv' := [(3, .int (z4_2 - z4_2 / z4_1 * z4_1)), (2, .int z4_1), (4, .int (z4_2 - z4_2 / z4_1 * z4_1))]) hx hb dX8_common_17 rfl hl (by decide) rfl (fun ls hl => ?_)
        refine lv_goto (tgt := 4) hx hb dX8_common_18 (by decide) ?_
        have e8 : v_X8_common_L4 i4 (z4_1, z4_2) = .inl ((z4_2 - z4_2 / z4_1 * z4_1), z4_1) := by
          show v_X8_common_L4c i4 z4_1 z4_2 = .inl ((z4_2 - z4_2 / z4_1 * z4_1), z4_1)
          refine (if_neg c_5).trans ?_
          rfl
        exact ih (i4 + 1) ((z4_2 - z4_2 / z4_1 * z4_1), z4_1) (by omega) (by omega) ((itx_go e8).symm.trans hz) (by have h9 := rem_lt (x := z4_2) c_5; show i4 + 1 + (z4_2 - z4_2 / z4_1 * z4_1).toInt.natAbs ≤ _; omega) _ _ _ hP hS (lv_sub hl [0, 1] rfl)
  exact loop4 (x1.toInt.natAbs + 1) 0 (x1, x0) (Nat.le_refl _) rfl ho_L4.symm (by show 0 + x1.toInt.natAbs ≤ _; omega) _ _ _ hP hS (lv_sub hl [0, 1] rfl)
theorem common_go : ∀ (k i : Nat) (z : Int32 × Int32), ¬ z.2 = 0 → ¬ (unS (itx v_X8_common_L4 k i z)).2 = 0
  | 0, _, _, h => h
  | k + 1, i, z, h => by
    by_cases hz : z.1 = 0
    · rw [itx_out (show v_X8_common_L4 i z = .inr (z.1, z.2) from if_pos hz)]; exact h
    · rw [itx_go (show v_X8_common_L4 i z = .inl ((z.2 - z.2 / z.1 * z.1), z.1) from if_neg hz)]; exact common_go k (i + 1) _ hz
theorem common_ne {x y : Int32} (h : ¬ y = 0) : ¬ v_X8_common x y = 0 := by
  show ¬ (unS (itx v_X8_common_L4 (y.toInt.natAbs + 1) 0 (y, x))).2 = 0
  rw [itx_go (show v_X8_common_L4 0 (y, x) = .inl ((x - x / y * y), y) from if_neg h)]
  exact common_go _ _ _ h
def v_X8_layValues_L55 (i_wishes : Int32) (f_told : Nat → Int32) (o_48 : Int32) (i55 : Nat) (z55 : Nat → Int32) : Nat → Int32 :=
  bnd (v_X8_worthOf (o_48 &&& nI i55) i_wishes f_told) fun o_71 =>
  (if o_71 ≤ (z55 (nI i55).toNatClampNeg) then (upd z55 (nI i55).toNatClampNeg (z55 (nI i55).toNatClampNeg))
  else (upd z55 (nI i55).toNatClampNeg o_71))
def v_X8_layValues_L23 (x1 : Int32) (i_wishes : Int32) (f_owed : Nat → Int32) (f_told : Nat → Int32) (i23 : Nat) (z23 : Nat → Int32) : Nat → Int32 :=
  bnd (v_X8_ones (nI i23)) fun o_31 =>
  (if x1 < o_31 then z23
  else (bnd (v_X8_isLawful (nI i23) f_owed) fun o_40 =>
  (if bI o_40 = 0 then z23
  else (bnd (v_X8_granted (nI i23) i_wishes f_told) fun o_48 =>
  (bnd (it (v_X8_layValues_L55 i_wishes f_told o_48) ((1 : Int32) <<< (i_wishes &&& 31)).toNatClampNeg 0 z23) fun o_L55 =>
  o_L55)))))
def v_X8_layValues_L2 (i2 : Nat) (z2 : Nat → Int32) : Nat → Int32 :=
  (upd z2 (nI i2).toNatClampNeg 0)
def v_X8_layValues (x1 : Int32) (i_wishes : Int32) (f_owed : Nat → Int32) (f_told : Nat → Int32) (f_values : Nat → Int32) : Nat → Int32 :=
  bnd (it (v_X8_layValues_L2) 32 0 f_values) fun o_L2 =>
  (bnd (it (v_X8_layValues_L23 x1 i_wishes f_owed f_told) 4096 0 o_L2) fun o_L23 =>
  o_L23)
abbrev rm_X8_layValues : Room := { frames := 5, cells := 0, slots := 0, locals := 113 }
set_option maxHeartbeats 4000000 in
set_option maxRecDepth 100000 in
theorem k_X8_layValues (l : Launch) (D : va_G) (cI cZ : ClassId) (a a_readWishes a_readOwed a_told a_owed a_text a_row a_least a_values a_tellPlace a_tellHour a_tellDark a_isKept a_kept : Nat) (x1 : Int32) (i_readHung : Int32) (i_readMany : Int32) (i_readOwes : Int32) (i_wishes : Int32) (i_hung : Int32) (i_hour : Int32) (i_length : Int32) (i_at : Int32) (i_faultAt : Int32) (i_acts : Int32) (i_next : Int32) (i_tells : Int32) (j_seed : Int64) (f_owed : Nat → Int32) (f_told : Nat → Int32) (f_values : Nat → Int32) (hw : ∃ k : Nat, k ≤ 5 ∧ i_wishes = nI k) : KV l D cI cZ yX8_layValues wsX8_layValues rm_X8_layValues [.ref a, .int x1] [(a, .inr (8, [.ref a_readWishes, .ref a_readOwed, .int i_readHung, .int i_readMany, .int i_readOwes, .ref a_told, .ref a_owed, .int i_wishes, .int i_hung, .int i_hour, .ref a_text, .int i_length, .int i_at, .int i_faultAt, .int i_acts, .int i_next, .ref a_row, .ref a_least, .ref a_values, .int i_tells, .ref a_tellPlace, .ref a_tellHour, .ref a_tellDark, .long j_seed, .ref a_isKept, .ref a_kept])), (a_owed, .inl (cI, 12, .inl f_owed)), (a_told, .inl (cI, 25, .inl f_told)), (a_values, .inl (cI, 32, .inl f_values))] (v_X8_layValues x1 i_wishes f_owed f_told f_values) (fun o : Nat → Int32 => [(a, .inr (8, [.ref a_readWishes, .ref a_readOwed, .int i_readHung, .int i_readMany, .int i_readOwes, .ref a_told, .ref a_owed, .int i_wishes, .int i_hung, .int i_hour, .ref a_text, .int i_length, .int i_at, .int i_faultAt, .int i_acts, .int i_next, .ref a_row, .ref a_least, .ref a_values, .int i_tells, .ref a_tellPlace, .ref a_tellHour, .ref a_tellDark, .long j_seed, .ref a_isKept, .ref a_kept])), (a_owed, .inl (cI, 12, .inl f_owed)), (a_told, .inl (cI, 25, .inl f_told)), (a_values, .inl (cI, 32, .inl o))]) := by
  refine KV.of cX8_layValues 6 none (by decide) rfl (Nat.le_of_ble_eq_true rfl) ?_
  intro p e s m below meth c A ls ar Q hQ B
  obtain ⟨hx, hb, hr, hml, hts, hown, hlk, hK, hN, hP, hD, hA, hS, hl⟩ := B
  have hown : s.vm.findClass RX8 = some m.cls := hown
  have hF : CallFix p m c cX8_layValues 6 s ar wsX8_layValues RX8 := ⟨hx, hb, hml, hown, hts⟩
  have hl : lv_has ls 6 [(0, .ref a), (1, .int x1)] := hl
  have hsh := sh5 hw
  refine lv_iconst (v := 0) hx hb dX8_layValues_0 rfl ?_
  refine lv_istore_n (lv' := [(2, .int 0), (0, .ref a), (1, .int x1)]) hx hb dX8_layValues_1 rfl hl (by decide) rfl (fun ls hl => ?_)
  obtain ⟨o_L2, ho_L2⟩ : ∃ z : Nat → Int32, z = it (v_X8_layValues_L2) 32 0 f_values := ⟨_, rfl⟩
  have kE2 : ∀ (H : Heap) (locs : List Loc) (ls : Array Slot), va_P D vwCl [(a, .inr (8, [.ref a_readWishes, .ref a_readOwed, .int i_readHung, .int i_readMany, .int i_readOwes, .ref a_told, .ref a_owed, .int i_wishes, .int i_hung, .int i_hour, .ref a_text, .int i_length, .int i_at, .int i_faultAt, .int i_acts, .int i_next, .ref a_row, .ref a_least, .ref a_values, .int i_tells, .ref a_tellPlace, .ref a_tellHour, .ref a_tellDark, .long j_seed, .ref a_isKept, .ref a_kept])), (a_owed, .inl (cI, 12, .inl f_owed)), (a_told, .inl (cI, 25, .inl f_told)), (a_values, .inl (cI, 32, .inl o_L2))] H → va_S A s.heap H locs → lv_has ls 6 [(0, .ref a), (1, .int x1)] → W p l e rm_X8_layValues s m ar below meth c H locs 0 0 Q (F0 m 21 ls []) := by
    intro H locs ls hP hS hl
    refine lv_iconst (v := 0) hx hb dX8_layValues_21 rfl ?_
    refine lv_istore_n (lv' := [(2, .int 0), (0, .ref a), (1, .int x1)]) hx hb dX8_layValues_22 rfl hl (by decide) rfl (fun ls hl => ?_)
    obtain ⟨o_L23, ho_L23⟩ : ∃ z : Nat → Int32, z = it (v_X8_layValues_L23 x1 i_wishes f_owed f_told) 4096 0 o_L2 := ⟨_, rfl⟩
    have kE23 : ∀ (H : Heap) (locs : List Loc) (ls : Array Slot), va_P D vwCl [(a, .inr (8, [.ref a_readWishes, .ref a_readOwed, .int i_readHung, .int i_readMany, .int i_readOwes, .ref a_told, .ref a_owed, .int i_wishes, .int i_hung, .int i_hour, .ref a_text, .int i_length, .int i_at, .int i_faultAt, .int i_acts, .int i_next, .ref a_row, .ref a_least, .ref a_values, .int i_tells, .ref a_tellPlace, .ref a_tellHour, .ref a_tellDark, .long j_seed, .ref a_isKept, .ref a_kept])), (a_owed, .inl (cI, 12, .inl f_owed)), (a_told, .inl (cI, 25, .inl f_told)), (a_values, .inl (cI, 32, .inl o_L23))] H → va_S A s.heap H locs → lv_has ls 6 [] → W p l e rm_X8_layValues s m ar below meth c H locs 0 0 Q (F0 m 119 ls []) := by
      intro H locs ls hP hS hl
      have e9 : v_X8_layValues x1 i_wishes f_owed f_told f_values = o_L23 := by
        refine (bnd_eq ho_L2).trans ?_
        refine (bnd_eq ho_L23).trans ?_
        rfl
      rw [hQ]; exact retV o_L23 hx hb hr hlk e9 hP hS dX8_layValues_119
    have loop23 : ∀ (k i23 : Nat) (z23 : Nat → Int32), 0 ≤ i23 → i23 + k = 0 + 4096 → it (v_X8_layValues_L23 x1 i_wishes f_owed f_told) k i23 z23 = o_L23 → ∀ (H : Heap) (locs : List Loc) (ls : Array Slot), va_P D vwCl [(a, .inr (8, [.ref a_readWishes, .ref a_readOwed, .int i_readHung, .int i_readMany, .int i_readOwes, .ref a_told, .ref a_owed, .int i_wishes, .int i_hung, .int i_hour, .ref a_text, .int i_length, .int i_at, .int i_faultAt, .int i_acts, .int i_next, .ref a_row, .ref a_least, .ref a_values, .int i_tells, .ref a_tellPlace, .ref a_tellHour, .ref a_tellDark, .long j_seed, .ref a_isKept, .ref a_kept])), (a_owed, .inl (cI, 12, .inl f_owed)), (a_told, .inl (cI, 25, .inl f_told)), (a_values, .inl (cI, 32, .inl z23))] H → va_S A s.heap H locs → lv_has ls 6 [(2, .int (nI i23)), (0, .ref a), (1, .int x1)] → W p l e rm_X8_layValues s m ar below meth c H locs 0 0 Q (F0 m 23 ls []) := by
      intro k
      induction k with
      | zero =>
        intro i23 z23 hi0 hik hz H locs ls hP hS hl
        have hz : z23 = o_L23 := it_0 hz
        subst z23
        refine lv_iload_n hx hb dX8_layValues_23 rfl (lv_at hl 0 rfl) ?_
        refine lv_sipush (v := 4096) hx hb dX8_layValues_24 rfl ?_
        refine lv_icmp_ge (tgt := 119) hx hb dX8_layValues_27 (by decide) (fun _ => ?_) (fun c => absurd (nI_le (a := 4096) (by omega) (by omega)) c)
        exact kE23 _ _ _ hP hS (lv_sub hl [] rfl)
      | succ k ih =>
        intro i23 z23 hi0 hik hz H locs ls hP hS hl
        refine lv_iload_n hx hb dX8_layValues_23 rfl (lv_at hl 0 rfl) ?_
        refine lv_sipush (v := 4096) hx hb dX8_layValues_24 rfl ?_
        refine lv_icmp_ge (tgt := 119) hx hb dX8_layValues_27 (by decide) (fun c => absurd c (nI_ge (b := 4096) (by omega) (by decide))) (fun _ => ?_)
        refine lv_iload_n hx hb dX8_layValues_30 rfl (lv_at hl 0 rfl) ?_
        obtain ⟨o_31, ho_31⟩ : ∃ z : Int32, z = v_X8_ones (nI i23) := ⟨_, rfl⟩
        refine callSIs (As := [.int (nI i23)]) (rest := []) o_31 ho_31 hF (k_X8_ones l D cI cZ (nI i23)) (va_cwS 1 hts gX8_layValues_X8_ones rfl rfl rfl (by decide +kernel) ⟨Nat.le_of_ble_eq_true rfl, Nat.le_of_ble_eq_true rfl⟩) hK hN hP (va_Dsame hD rfl) hS hA [] rfl rfl rfl hl.1 rfl (Nat.le_of_ble_eq_true rfl) dX8_layValues_31 ⟨Nat.zero_le _, Nat.zero_le _⟩ o_31 rfl rfl (fun H locs hP hS => ?_)
        refine lv_iload_n hx hb dX8_layValues_34 rfl (lv_at hl 2 rfl) ?_
        refine lv_icmp_gt (tgt := 113) hx hb dX8_layValues_35 (by decide) (fun c_35 => ?_) (fun c_35 => ?_)
        · refine lv_iinc (v := (nI (i23 + 1))) (lv' := [(2, .int (nI (i23 + 1))), (0, .ref a), (1, .int x1)]) hx hb dX8_layValues_113 hl (k := 0) rfl (nI_1 _) (by decide) rfl (fun ls hl => ?_)
          refine lv_goto (tgt := 23) hx hb dX8_layValues_116 (by decide) ?_
          have e8 : v_X8_layValues_L23 x1 i_wishes f_owed f_told i23 z23 = z23 := by
            refine (bnd_eq ho_31).trans ?_
            refine (if_pos c_35).trans ?_
            rfl
          exact ih (i23 + 1) z23 (by omega) (by omega) (it_go e8 hz) _ _ _ hP hS (lv_sub hl [0, 1, 2] rfl)
        · refine lv_aload_n hx hb dX8_layValues_38 rfl (lv_at hl 1 rfl) ?_
          refine lv_iload_n hx hb dX8_layValues_39 rfl (lv_at hl 0 rfl) ?_
          obtain ⟨o_40, ho_40⟩ : ∃ z : Bool, z = v_X8_isLawful (nI i23) f_owed := ⟨_, rfl⟩
          refine callVIs (As := [.int (nI i23)]) (rest := []) o_40 ho_40 hF (k_X8_isLawful l D cI cZ a a_readWishes a_readOwed a_told a_owed a_text a_row a_least a_values a_tellPlace a_tellHour a_tellDark a_isKept a_kept (nI i23) i_readHung i_readMany i_readOwes i_wishes i_hung i_hour i_length i_at i_faultAt i_acts i_next i_tells j_seed f_owed) (cwV 1 hts gX8_layValues_X8_isLawful rfl rfl rfl (by decide +kernel) ⟨Nat.le_of_ble_eq_true rfl, Nat.le_of_ble_eq_true rfl⟩) hK hN hP (va_Dsame hD rfl) hS hA [0, 1] rfl rfl 0 8 (T := TX8) (N := 26) rfl rfl rfl hl.1 rfl (Nat.le_of_ble_eq_true rfl) dX8_layValues_40 ⟨Nat.zero_le _, Nat.zero_le _⟩ (bI o_40) rfl rfl (fun H locs hP hS => ?_)
          refine lv_if_eq (tgt := 113) hx hb dX8_layValues_43 (by decide) (fun c_43 => ?_) (fun c_43 => ?_)
          · refine lv_iinc (v := (nI (i23 + 1))) (lv' := [(2, .int (nI (i23 + 1))), (0, .ref a), (1, .int x1)]) hx hb dX8_layValues_113 hl (k := 0) rfl (nI_1 _) (by decide) rfl (fun ls hl => ?_)
            refine lv_goto (tgt := 23) hx hb dX8_layValues_116 (by decide) ?_
            have e8 : v_X8_layValues_L23 x1 i_wishes f_owed f_told i23 z23 = z23 := by
              refine (bnd_eq ho_31).trans ?_
              refine (if_neg c_35).trans ?_
              refine (bnd_eq ho_40).trans ?_
              refine (if_pos c_43).trans ?_
              rfl
            exact ih (i23 + 1) z23 (by omega) (by omega) (it_go e8 hz) _ _ _ hP hS (lv_sub hl [0, 1, 2] rfl)
          · refine lv_aload_n hx hb dX8_layValues_46 rfl (lv_at hl 1 rfl) ?_
            refine lv_iload_n hx hb dX8_layValues_47 rfl (lv_at hl 0 rfl) ?_
            obtain ⟨o_48, ho_48⟩ : ∃ z : Int32, z = v_X8_granted (nI i23) i_wishes f_told := ⟨_, rfl⟩
            refine callVIs (As := [.int (nI i23)]) (rest := []) o_48 ho_48 hF (k_X8_granted l D cI cZ a a_readWishes a_readOwed a_told a_owed a_text a_row a_least a_values a_tellPlace a_tellHour a_tellDark a_isKept a_kept (nI i23) i_readHung i_readMany i_readOwes i_wishes i_hung i_hour i_length i_at i_faultAt i_acts i_next i_tells j_seed f_told (hw)) (cwV 1 hts gX8_layValues_X8_granted rfl rfl rfl (by decide +kernel) ⟨Nat.le_of_ble_eq_true rfl, Nat.le_of_ble_eq_true rfl⟩) hK hN hP (va_Dsame hD rfl) hS hA [0, 2] rfl rfl 0 8 (T := TX8) (N := 26) rfl rfl rfl hl.1 rfl (Nat.le_of_ble_eq_true rfl) dX8_layValues_48 ⟨Nat.zero_le _, Nat.zero_le _⟩ o_48 rfl rfl (fun H locs hP hS => ?_)
            refine lv_istore_n (lv' := [(3, .int o_48), (2, .int (nI i23)), (0, .ref a), (1, .int x1)]) hx hb dX8_layValues_51 rfl hl (by decide) rfl (fun ls hl => ?_)
            refine lv_iconst (v := 0) hx hb dX8_layValues_52 rfl ?_
            refine lv_istore (lv' := [(4, .int 0), (3, .int o_48), (2, .int (nI i23)), (0, .ref a), (1, .int x1)]) hx hb dX8_layValues_53 hl (by decide) rfl (fun ls hl => ?_)
            obtain ⟨o_L55, ho_L55⟩ : ∃ z : Nat → Int32, z = it (v_X8_layValues_L55 i_wishes f_told o_48) ((1 : Int32) <<< (i_wishes &&& 31)).toNatClampNeg 0 z23 := ⟨_, rfl⟩
            have kE55 : ∀ (H : Heap) (locs : List Loc) (ls : Array Slot), va_P D vwCl [(a, .inr (8, [.ref a_readWishes, .ref a_readOwed, .int i_readHung, .int i_readMany, .int i_readOwes, .ref a_told, .ref a_owed, .int i_wishes, .int i_hung, .int i_hour, .ref a_text, .int i_length, .int i_at, .int i_faultAt, .int i_acts, .int i_next, .ref a_row, .ref a_least, .ref a_values, .int i_tells, .ref a_tellPlace, .ref a_tellHour, .ref a_tellDark, .long j_seed, .ref a_isKept, .ref a_kept])), (a_owed, .inl (cI, 12, .inl f_owed)), (a_told, .inl (cI, 25, .inl f_told)), (a_values, .inl (cI, 32, .inl o_L55))] H → va_S A s.heap H locs → lv_has ls 6 [(2, .int (nI i23)), (0, .ref a), (1, .int x1)] → W p l e rm_X8_layValues s m ar below meth c H locs 0 0 Q (F0 m 113 ls []) := by
              intro H locs ls hP hS hl
              refine lv_iinc (v := (nI (i23 + 1))) (lv' := [(2, .int (nI (i23 + 1))), (0, .ref a), (1, .int x1)]) hx hb dX8_layValues_113 hl (k := 0) rfl (nI_1 _) (by decide) rfl (fun ls hl => ?_)
              refine lv_goto (tgt := 23) hx hb dX8_layValues_116 (by decide) ?_
              have e8 : v_X8_layValues_L23 x1 i_wishes f_owed f_told i23 z23 = o_L55 := by
                refine (bnd_eq ho_31).trans ?_
                refine (if_neg c_35).trans ?_
                refine (bnd_eq ho_40).trans ?_
                refine (if_neg c_43).trans ?_
                refine (bnd_eq ho_48).trans ?_
                refine (bnd_eq ho_L55).trans ?_
                rfl
              exact ih (i23 + 1) o_L55 (by omega) (by omega) (it_go e8 hz) _ _ _ hP hS (lv_sub hl [0, 1, 2] rfl)
            have loop55 : ∀ (k i55 : Nat) (z55 : Nat → Int32), 0 ≤ i55 → i55 + k = 0 + ((1 : Int32) <<< (i_wishes &&& 31)).toNatClampNeg → it (v_X8_layValues_L55 i_wishes f_told o_48) k i55 z55 = o_L55 → ∀ (H : Heap) (locs : List Loc) (ls : Array Slot), va_P D vwCl [(a, .inr (8, [.ref a_readWishes, .ref a_readOwed, .int i_readHung, .int i_readMany, .int i_readOwes, .ref a_told, .ref a_owed, .int i_wishes, .int i_hung, .int i_hour, .ref a_text, .int i_length, .int i_at, .int i_faultAt, .int i_acts, .int i_next, .ref a_row, .ref a_least, .ref a_values, .int i_tells, .ref a_tellPlace, .ref a_tellHour, .ref a_tellDark, .long j_seed, .ref a_isKept, .ref a_kept])), (a_owed, .inl (cI, 12, .inl f_owed)), (a_told, .inl (cI, 25, .inl f_told)), (a_values, .inl (cI, 32, .inl z55))] H → va_S A s.heap H locs → lv_has ls 6 [(4, .int (nI i55)), (3, .int o_48), (2, .int (nI i23)), (0, .ref a), (1, .int x1)] → W p l e rm_X8_layValues s m ar below meth c H locs 0 0 Q (F0 m 55 ls []) := by
              intro k
              induction k with
              | zero =>
                intro i55 z55 hi0 hik hz H locs ls hP hS hl
                have hz : z55 = o_L55 := it_0 hz
                subst z55
                refine lv_iload hx hb dX8_layValues_55 (lv_at hl 0 rfl) ?_
                refine lv_iconst (v := 1) hx hb dX8_layValues_57 rfl ?_
                refine lv_aload_n hx hb dX8_layValues_58 rfl (lv_at hl 3 rfl) ?_
                refine va_get (D := D) (ci := 8) (v := .int i_wishes) (C := RX8) (T := TX8) (N := 26) hx hb hts (fun _ h => List.mem_cons_of_mem _ (List.mem_append_right _ (h))) hown hK hP 0 rfl rfl 7 (by decide) (hts _ (List.mem_of_getElem? (i := 2) rfl)) (fun _ h9 => h9) rfl dX8_layValues_59 ?_
                refine lv_ishl hx hb dX8_layValues_62 ?_
                refine lv_icmp_ge (tgt := 113) hx hb dX8_layValues_63 (by decide) (fun _ => ?_) (fun c => absurd (cb_ge (by omega) (by have := cb_lt31 ((1 : Int32) <<< (i_wishes &&& 31)); omega)) c)
                exact kE55 _ _ _ hP hS (lv_sub hl [2, 3, 4] rfl)
              | succ k ih =>
                intro i55 z55 hi0 hik hz H locs ls hP hS hl
                refine lv_iload hx hb dX8_layValues_55 (lv_at hl 0 rfl) ?_
                refine lv_iconst (v := 1) hx hb dX8_layValues_57 rfl ?_
                refine lv_aload_n hx hb dX8_layValues_58 rfl (lv_at hl 3 rfl) ?_
                refine va_get (D := D) (ci := 8) (v := .int i_wishes) (C := RX8) (T := TX8) (N := 26) hx hb hts (fun _ h => List.mem_cons_of_mem _ (List.mem_append_right _ (h))) hown hK hP 0 rfl rfl 7 (by decide) (hts _ (List.mem_of_getElem? (i := 2) rfl)) (fun _ h9 => h9) rfl dX8_layValues_59 ?_
                refine lv_ishl hx hb dX8_layValues_62 ?_
                refine lv_icmp_ge (tgt := 113) hx hb dX8_layValues_63 (by decide) (fun c => absurd c (cb_lt (by omega))) (fun _ => ?_)
                refine lv_aload_n hx hb dX8_layValues_66 rfl (lv_at hl 3 rfl) ?_
                refine lv_iload_n hx hb dX8_layValues_67 rfl (lv_at hl 1 rfl) ?_
                refine lv_iload hx hb dX8_layValues_68 (lv_at hl 0 rfl) ?_
                refine lv_iand hx hb dX8_layValues_70 ?_
                obtain ⟨o_71, ho_71⟩ : ∃ z : Int32, z = v_X8_worthOf (o_48 &&& nI i55) i_wishes f_told := ⟨_, rfl⟩
                refine callVIs (As := [.int (o_48 &&& nI i55)]) (rest := []) o_71 ho_71 hF (k_X8_worthOf l D cI cZ a a_readWishes a_readOwed a_told a_owed a_text a_row a_least a_values a_tellPlace a_tellHour a_tellDark a_isKept a_kept (o_48 &&& nI i55) i_readHung i_readMany i_readOwes i_wishes i_hung i_hour i_length i_at i_faultAt i_acts i_next i_tells j_seed f_told (hw)) (cwV 1 hts gX8_layValues_X8_worthOf rfl rfl rfl (by decide +kernel) ⟨Nat.le_of_ble_eq_true rfl, Nat.le_of_ble_eq_true rfl⟩) hK hN hP (va_Dsame hD rfl) hS hA [0, 2] rfl rfl 0 8 (T := TX8) (N := 26) rfl rfl rfl hl.1 rfl (Nat.le_of_ble_eq_true rfl) dX8_layValues_71 ⟨Nat.zero_le _, Nat.zero_le _⟩ o_71 rfl rfl (fun H locs hP hS => ?_)
                refine lv_istore (lv' := [(5, .int o_71), (4, .int (nI i55)), (3, .int o_48), (2, .int (nI i23)), (0, .ref a), (1, .int x1)]) hx hb dX8_layValues_74 hl (by decide) rfl (fun ls hl => ?_)
                refine lv_aload_n hx hb dX8_layValues_76 rfl (lv_at hl 4 rfl) ?_
                refine va_get (D := D) (ci := 8) (v := .ref a_values) (C := RX8) (T := TX8) (N := 26) hx hb hts (fun _ h => List.mem_cons_of_mem _ (List.mem_append_right _ (h))) hown hK hP 0 rfl rfl 18 (by decide) (hts _ (List.mem_of_getElem? (i := 1) rfl)) (fun _ h9 => h9) rfl dX8_layValues_77 ?_
                refine lv_iload hx hb dX8_layValues_80 (lv_at hl 1 rfl) ?_
                refine lv_iload hx hb dX8_layValues_82 (lv_at hl 0 rfl) ?_
                refine lv_aload_n hx hb dX8_layValues_84 rfl (lv_at hl 4 rfl) ?_
                refine va_get (D := D) (ci := 8) (v := .ref a_values) (C := RX8) (T := TX8) (N := 26) hx hb hts (fun _ h => List.mem_cons_of_mem _ (List.mem_append_right _ (h))) hown hK hP 0 rfl rfl 18 (by decide) (hts _ (List.mem_of_getElem? (i := 1) rfl)) (fun _ h9 => h9) rfl dX8_layValues_85 ?_
                refine lv_iload hx hb dX8_layValues_88 (lv_at hl 1 rfl) ?_
                refine va_iald hx hb hK hP 3 0 rfl rfl (vp_in_nI (by omega) (by decide)) dX8_layValues_90 ?_
                refine lv_icmp_le (tgt := 99) hx hb dX8_layValues_91 (by decide) (fun c_91 => ?_) (fun c_91 => ?_)
                · refine lv_aload_n hx hb dX8_layValues_99 rfl (lv_at hl 4 rfl) ?_
                  refine va_get (D := D) (ci := 8) (v := .ref a_values) (C := RX8) (T := TX8) (N := 26) hx hb hts (fun _ h => List.mem_cons_of_mem _ (List.mem_append_right _ (h))) hown hK hP 0 rfl rfl 18 (by decide) (hts _ (List.mem_of_getElem? (i := 1) rfl)) (fun _ h9 => h9) rfl dX8_layValues_100 ?_
                  refine lv_iload hx hb dX8_layValues_103 (lv_at hl 1 rfl) ?_
                  refine va_iald hx hb hK hP 3 0 rfl rfl (vp_in_nI (by omega) (by decide)) dX8_layValues_105 ?_
                  refine va_iast hx hb hK hP (va_Dsame hD rfl) hS 3 0 rfl rfl (vp_in_nI (by omega) (by decide)) dX8_layValues_106 (fun H locs hP _ hS => ?_)
                  have hP : va_P D vwCl [(a, .inr (8, [.ref a_readWishes, .ref a_readOwed, .int i_readHung, .int i_readMany, .int i_readOwes, .ref a_told, .ref a_owed, .int i_wishes, .int i_hung, .int i_hour, .ref a_text, .int i_length, .int i_at, .int i_faultAt, .int i_acts, .int i_next, .ref a_row, .ref a_least, .ref a_values, .int i_tells, .ref a_tellPlace, .ref a_tellHour, .ref a_tellDark, .long j_seed, .ref a_isKept, .ref a_kept])), (a_owed, .inl (cI, 12, .inl f_owed)), (a_told, .inl (cI, 25, .inl f_told)), (a_values, .inl (cI, 32, .inl (upd z55 (nI i55).toNatClampNeg (z55 (nI i55).toNatClampNeg))))] H := hP
                  refine lv_iinc (v := (nI (i55 + 1))) (lv' := [(4, .int (nI (i55 + 1))), (5, .int o_71), (3, .int o_48), (2, .int (nI i23)), (0, .ref a), (1, .int x1)]) hx hb dX8_layValues_107 hl (k := 1) rfl (nI_1 _) (by decide) rfl (fun ls hl => ?_)
                  refine lv_goto (tgt := 55) hx hb dX8_layValues_110 (by decide) ?_
                  have e8 : v_X8_layValues_L55 i_wishes f_told o_48 i55 z55 = (upd z55 (nI i55).toNatClampNeg (z55 (nI i55).toNatClampNeg)) := by
                    refine (bnd_eq ho_71).trans ?_
                    refine (if_pos c_91).trans ?_
                    rfl
                  exact ih (i55 + 1) (upd z55 (nI i55).toNatClampNeg (z55 (nI i55).toNatClampNeg)) (by omega) (by omega) (it_go e8 hz) _ _ _ hP hS (lv_sub hl [0, 2, 3, 4, 5] rfl)
                · refine lv_iload hx hb dX8_layValues_94 (lv_at hl 0 rfl) ?_
                  refine lv_goto (tgt := 106) hx hb dX8_layValues_96 (by decide) ?_
                  refine va_iast hx hb hK hP (va_Dsame hD rfl) hS 3 0 rfl rfl (vp_in_nI (by omega) (by decide)) dX8_layValues_106 (fun H locs hP _ hS => ?_)
                  have hP : va_P D vwCl [(a, .inr (8, [.ref a_readWishes, .ref a_readOwed, .int i_readHung, .int i_readMany, .int i_readOwes, .ref a_told, .ref a_owed, .int i_wishes, .int i_hung, .int i_hour, .ref a_text, .int i_length, .int i_at, .int i_faultAt, .int i_acts, .int i_next, .ref a_row, .ref a_least, .ref a_values, .int i_tells, .ref a_tellPlace, .ref a_tellHour, .ref a_tellDark, .long j_seed, .ref a_isKept, .ref a_kept])), (a_owed, .inl (cI, 12, .inl f_owed)), (a_told, .inl (cI, 25, .inl f_told)), (a_values, .inl (cI, 32, .inl (upd z55 (nI i55).toNatClampNeg o_71)))] H := hP
                  refine lv_iinc (v := (nI (i55 + 1))) (lv' := [(4, .int (nI (i55 + 1))), (5, .int o_71), (3, .int o_48), (2, .int (nI i23)), (0, .ref a), (1, .int x1)]) hx hb dX8_layValues_107 hl (k := 1) rfl (nI_1 _) (by decide) rfl (fun ls hl => ?_)
                  refine lv_goto (tgt := 55) hx hb dX8_layValues_110 (by decide) ?_
                  have e8 : v_X8_layValues_L55 i_wishes f_told o_48 i55 z55 = (upd z55 (nI i55).toNatClampNeg o_71) := by
                    refine (bnd_eq ho_71).trans ?_
                    refine (if_neg c_91).trans ?_
                    rfl
                  exact ih (i55 + 1) (upd z55 (nI i55).toNatClampNeg o_71) (by omega) (by omega) (it_go e8 hz) _ _ _ hP hS (lv_sub hl [0, 2, 3, 4, 5] rfl)
            exact loop55 ((1 : Int32) <<< (i_wishes &&& 31)).toNatClampNeg 0 z23 (Nat.le_refl _) rfl ho_L55.symm _ _ _ hP hS (lv_sub hl [0, 1, 2, 3, 4] rfl)
    exact loop23 4096 0 o_L2 (Nat.le_refl _) rfl ho_L23.symm _ _ _ hP hS (lv_sub hl [0, 1, 2] rfl)
  have loop2 : ∀ (k i2 : Nat) (z2 : Nat → Int32), 0 ≤ i2 → i2 + k = 0 + 32 → it (v_X8_layValues_L2) k i2 z2 = o_L2 → ∀ (H : Heap) (locs : List Loc) (ls : Array Slot), va_P D vwCl [(a, .inr (8, [.ref a_readWishes, .ref a_readOwed, .int i_readHung, .int i_readMany, .int i_readOwes, .ref a_told, .ref a_owed, .int i_wishes, .int i_hung, .int i_hour, .ref a_text, .int i_length, .int i_at, .int i_faultAt, .int i_acts, .int i_next, .ref a_row, .ref a_least, .ref a_values, .int i_tells, .ref a_tellPlace, .ref a_tellHour, .ref a_tellDark, .long j_seed, .ref a_isKept, .ref a_kept])), (a_owed, .inl (cI, 12, .inl f_owed)), (a_told, .inl (cI, 25, .inl f_told)), (a_values, .inl (cI, 32, .inl z2))] H → va_S A s.heap H locs → lv_has ls 6 [(2, .int (nI i2)), (0, .ref a), (1, .int x1)] → W p l e rm_X8_layValues s m ar below meth c H locs 0 0 Q (F0 m 2 ls []) := by
    intro k
    induction k with
    | zero =>
      intro i2 z2 hi0 hik hz H locs ls hP hS hl
      have hz : z2 = o_L2 := it_0 hz
      subst z2
      refine lv_iload_n hx hb dX8_layValues_2 rfl (lv_at hl 0 rfl) ?_
      refine lv_bipush (v := 32) hx hb dX8_layValues_3 rfl ?_
      refine lv_icmp_ge (tgt := 21) hx hb dX8_layValues_5 (by decide) (fun _ => ?_) (fun c => absurd (nI_le (a := 32) (by omega) (by omega)) c)
      exact kE2 _ _ _ hP hS (lv_sub hl [1, 2] rfl)
    | succ k ih =>
      intro i2 z2 hi0 hik hz H locs ls hP hS hl
      refine lv_iload_n hx hb dX8_layValues_2 rfl (lv_at hl 0 rfl) ?_
      refine lv_bipush (v := 32) hx hb dX8_layValues_3 rfl ?_
      refine lv_icmp_ge (tgt := 21) hx hb dX8_layValues_5 (by decide) (fun c => absurd c (nI_ge (b := 32) (by omega) (by decide))) (fun _ => ?_)
      refine lv_aload_n hx hb dX8_layValues_8 rfl (lv_at hl 1 rfl) ?_
      refine va_get (D := D) (ci := 8) (v := .ref a_values) (C := RX8) (T := TX8) (N := 26) hx hb hts (fun _ h => List.mem_cons_of_mem _ (List.mem_append_right _ (h))) hown hK hP 0 rfl rfl 18 (by decide) (hts _ (List.mem_of_getElem? (i := 1) rfl)) (fun _ h9 => h9) rfl dX8_layValues_9 ?_
      refine lv_iload_n hx hb dX8_layValues_12 rfl (lv_at hl 0 rfl) ?_
      refine lv_iconst (v := 0) hx hb dX8_layValues_13 rfl ?_
      refine va_iast hx hb hK hP (va_Dsame hD rfl) hS 3 0 rfl rfl (vp_in_nI (by omega) (by decide)) dX8_layValues_14 (fun H locs hP _ hS => ?_)
      have hP : va_P D vwCl [(a, .inr (8, [.ref a_readWishes, .ref a_readOwed, .int i_readHung, .int i_readMany, .int i_readOwes, .ref a_told, .ref a_owed, .int i_wishes, .int i_hung, .int i_hour, .ref a_text, .int i_length, .int i_at, .int i_faultAt, .int i_acts, .int i_next, .ref a_row, .ref a_least, .ref a_values, .int i_tells, .ref a_tellPlace, .ref a_tellHour, .ref a_tellDark, .long j_seed, .ref a_isKept, .ref a_kept])), (a_owed, .inl (cI, 12, .inl f_owed)), (a_told, .inl (cI, 25, .inl f_told)), (a_values, .inl (cI, 32, .inl (upd z2 (nI i2).toNatClampNeg 0)))] H := hP
      refine lv_iinc (v := (nI (i2 + 1))) (lv' := [(2, .int (nI (i2 + 1))), (0, .ref a), (1, .int x1)]) hx hb dX8_layValues_15 hl (k := 0) rfl (nI_1 _) (by decide) rfl (fun ls hl => ?_)
      refine lv_goto (tgt := 2) hx hb dX8_layValues_18 (by decide) ?_
      have e8 : v_X8_layValues_L2 i2 z2 = (upd z2 (nI i2).toNatClampNeg 0) := by
        rfl
      exact ih (i2 + 1) (upd z2 (nI i2).toNatClampNeg 0) (by omega) (by omega) (it_go e8 hz) _ _ _ hP hS (lv_sub hl [0, 1, 2] rfl)
  exact loop2 32 0 f_values (Nat.le_refl _) rfl ho_L2.symm _ _ _ hP hS (lv_sub hl [0, 1, 2] rfl)
def v_X8_share_L36 (x1 : Int32) (i_wishes : Int32) (o_27 : Nat → Int32) (i36 : Nat) (z36 : Int32) : Int32 :=
  bnd (v_X8_has (nI i36) x1) fun o_50 =>
  (if bI o_50 = 0 then (bnd (v_X8_ones (nI i36)) fun o_58 =>
    (bnd (v_X8_factorial o_58) fun o_61 =>
    (bnd (v_X8_ones (nI i36)) fun o_72 =>
    (bnd (v_X8_factorial ((i_wishes - 1) - o_72)) fun o_76 =>
    (bnd ((z36 + ((o_61 * o_76) * ((o_27 (nI i36 ||| ((1 : Int32) <<< (x1 &&& 31))).toNatClampNeg) - (o_27 (nI i36).toNatClampNeg))))) fun w_107 =>
    w_107)))))
  else z36)
def v_X8_share (x1 : Int32) (x2 : Int32) (b3 : Bool) (i_wishes : Int32) (f_owed : Nat → Int32) (f_told : Nat → Int32) (f_values : Nat → Int32) : Int32 × (Nat → Int32) :=
  bnd (v_X8_isWish x1 i_wishes) fun o_2 =>
  (if bI o_2 = 0 then ((-1), f_values)
  else (bnd (v_X8_in x2.toInt64 0 5) fun o_16 =>
  (if bI o_16 = 0 then ((-2), f_values)
  else (bnd (v_X8_layValues x2 i_wishes f_owed f_told f_values) fun o_27 =>
  (bnd (it (v_X8_share_L36 x1 i_wishes o_27) ((1 : Int32) <<< (i_wishes &&& 31)).toNatClampNeg 0 0) fun o_L36 =>
  (bnd (v_X8_factorial i_wishes) fun o_119 =>
  (if bI b3 = 0 then (bnd (v_X8_common o_L36 o_119) fun o_147 =>
    ((o_119 / o_147), o_27))
  else (bnd (v_X8_common o_L36 o_119) fun o_134 =>
  ((o_L36 / o_134), o_27)))))))))
abbrev rm_X8_share : Room := { frames := 6, cells := 0, slots := 0, locals := 138 }
set_option maxHeartbeats 4000000 in
set_option maxRecDepth 100000 in
theorem k_X8_share (l : Launch) (D : va_G) (cI cZ : ClassId) (a a_readWishes a_readOwed a_told a_owed a_text a_row a_least a_values a_tellPlace a_tellHour a_tellDark a_isKept a_kept : Nat) (x1 : Int32) (x2 : Int32) (b3 : Bool) (i_readHung : Int32) (i_readMany : Int32) (i_readOwes : Int32) (i_wishes : Int32) (i_hung : Int32) (i_hour : Int32) (i_length : Int32) (i_at : Int32) (i_faultAt : Int32) (i_acts : Int32) (i_next : Int32) (i_tells : Int32) (j_seed : Int64) (f_owed : Nat → Int32) (f_told : Nat → Int32) (f_values : Nat → Int32) (hw : ∃ k : Nat, k ≤ 5 ∧ i_wishes = nI k) : KI l D cI cZ yX8_share wsX8_share rm_X8_share [.ref a, .int x1, .int x2, .int (bI b3)] [(a, .inr (8, [.ref a_readWishes, .ref a_readOwed, .int i_readHung, .int i_readMany, .int i_readOwes, .ref a_told, .ref a_owed, .int i_wishes, .int i_hung, .int i_hour, .ref a_text, .int i_length, .int i_at, .int i_faultAt, .int i_acts, .int i_next, .ref a_row, .ref a_least, .ref a_values, .int i_tells, .ref a_tellPlace, .ref a_tellHour, .ref a_tellDark, .long j_seed, .ref a_isKept, .ref a_kept])), (a_owed, .inl (cI, 12, .inl f_owed)), (a_told, .inl (cI, 25, .inl f_told)), (a_values, .inl (cI, 32, .inl f_values))] (v_X8_share x1 x2 b3 i_wishes f_owed f_told f_values) (fun o : Int32 × (Nat → Int32) => o.1) (fun o : Int32 × (Nat → Int32) => [(a, .inr (8, [.ref a_readWishes, .ref a_readOwed, .int i_readHung, .int i_readMany, .int i_readOwes, .ref a_told, .ref a_owed, .int i_wishes, .int i_hung, .int i_hour, .ref a_text, .int i_length, .int i_at, .int i_faultAt, .int i_acts, .int i_next, .ref a_row, .ref a_least, .ref a_values, .int i_tells, .ref a_tellPlace, .ref a_tellHour, .ref a_tellDark, .long j_seed, .ref a_isKept, .ref a_kept])), (a_owed, .inl (cI, 12, .inl f_owed)), (a_told, .inl (cI, 25, .inl f_told)), (a_values, .inl (cI, 32, .inl o.2))]) := by
  refine KI.of cX8_share 7 (some .int) (by decide) rfl (Nat.le_of_ble_eq_true rfl) ?_
  intro p e s m below meth c A ls ar Q hQ B
  obtain ⟨hx, hb, hr, hml, hts, hown, hlk, hK, hN, hP, hD, hA, hS, hl⟩ := B
  have hown : s.vm.findClass RX8 = some m.cls := hown
  have hF : CallFix p m c cX8_share 7 s ar wsX8_share RX8 := ⟨hx, hb, hml, hown, hts⟩
  have hl : lv_has ls 7 [(0, .ref a), (1, .int x1), (2, .int x2), (3, .int (bI b3))] := hl
  have hsh := sh5 hw
  refine lv_aload_n hx hb dX8_share_0 rfl (lv_at hl 0 rfl) ?_
  refine lv_iload_n hx hb dX8_share_1 rfl (lv_at hl 1 rfl) ?_
  obtain ⟨o_2, ho_2⟩ : ∃ z : Bool, z = v_X8_isWish x1 i_wishes := ⟨_, rfl⟩
  refine callVIs (As := [.int x1]) (rest := []) o_2 ho_2 hF (k_X8_isWish l D cI cZ a a_readWishes a_readOwed a_told a_owed a_text a_row a_least a_values a_tellPlace a_tellHour a_tellDark a_isKept a_kept x1 i_readHung i_readMany i_readOwes i_wishes i_hung i_hour i_length i_at i_faultAt i_acts i_next i_tells j_seed) (cwV 1 hts gX8_share_X8_isWish rfl rfl rfl (by decide +kernel) ⟨Nat.le_of_ble_eq_true rfl, Nat.le_of_ble_eq_true rfl⟩) hK hN hP (va_Dsame hD rfl) hS hA [0] rfl rfl 0 8 (T := TX8) (N := 26) rfl rfl rfl hl.1 rfl (Nat.le_of_ble_eq_true rfl) dX8_share_2 ⟨Nat.zero_le _, Nat.zero_le _⟩ (bI o_2) rfl rfl (fun H locs hP hS => ?_)
  refine lv_if_ne (tgt := 10) hx hb dX8_share_5 (by decide) (fun c_5 => ?_) (fun c_5 => ?_)
  · refine lv_iload_n hx hb dX8_share_10 rfl (lv_at hl 2 rfl) ?_
    refine lv_i2l (v := x2.toInt64) hx hb dX8_share_11 rfl ?_
    refine lv_lconst (v := 0) hx hb dX8_share_12 rfl ?_
    refine lv_ldc2 (v := 5) hx hb hown (hts _ (List.mem_of_getElem? (i := 1) rfl)) dX8_share_13 ?_
    obtain ⟨o_16, ho_16⟩ : ∃ z : Bool, z = v_X8_in x2.toInt64 0 5 := ⟨_, rfl⟩
    refine callSIs (As := [.long x2.toInt64, .long 0, .long 5]) (rest := []) o_16 ho_16 hF (k_X8_in l D cI cZ x2.toInt64 0 5) (va_cwS 3 hts gX8_share_X8_in rfl rfl rfl (by decide +kernel) ⟨Nat.le_of_ble_eq_true rfl, Nat.le_of_ble_eq_true rfl⟩) hK hN hP (va_Dsame hD rfl) hS hA [] rfl rfl rfl hl.1 rfl (Nat.le_of_ble_eq_true rfl) dX8_share_16 ⟨Nat.zero_le _, Nat.zero_le _⟩ (bI o_16) rfl rfl (fun H locs hP hS => ?_)
    refine lv_if_ne (tgt := 25) hx hb dX8_share_19 (by decide) (fun c_19 => ?_) (fun c_19 => ?_)
    · refine lv_aload_n hx hb dX8_share_25 rfl (lv_at hl 0 rfl) ?_
      refine lv_iload_n hx hb dX8_share_26 rfl (lv_at hl 2 rfl) ?_
      obtain ⟨o_27, ho_27⟩ : ∃ z : Nat → Int32, z = v_X8_layValues x2 i_wishes f_owed f_told f_values := ⟨_, rfl⟩
      refine callVV (As := [.int x2]) (rest := []) o_27 ho_27 hF (k_X8_layValues l D cI cZ a a_readWishes a_readOwed a_told a_owed a_text a_row a_least a_values a_tellPlace a_tellHour a_tellDark a_isKept a_kept x2 i_readHung i_readMany i_readOwes i_wishes i_hung i_hour i_length i_at i_faultAt i_acts i_next i_tells j_seed f_owed f_told f_values (hw)) (cwV 1 hts gX8_share_X8_layValues rfl rfl rfl (by decide +kernel) ⟨Nat.le_of_ble_eq_true rfl, Nat.le_of_ble_eq_true rfl⟩) hK hN hP (va_Dsame hD rfl) hS hA [0, 1, 2, 3] rfl rfl 0 8 (T := TX8) (N := 26) rfl rfl rfl hl.1 rfl (Nat.le_of_ble_eq_true rfl) dX8_share_27 ⟨Nat.zero_le _, Nat.zero_le _⟩ [some 0, some 1, some 2, some 3] 4 [(a, .inr (8, [.ref a_readWishes, .ref a_readOwed, .int i_readHung, .int i_readMany, .int i_readOwes, .ref a_told, .ref a_owed, .int i_wishes, .int i_hung, .int i_hour, .ref a_text, .int i_length, .int i_at, .int i_faultAt, .int i_acts, .int i_next, .ref a_row, .ref a_least, .ref a_values, .int i_tells, .ref a_tellPlace, .ref a_tellHour, .ref a_tellDark, .long j_seed, .ref a_isKept, .ref a_kept])), (a_owed, .inl (cI, 12, .inl f_owed)), (a_told, .inl (cI, 25, .inl f_told)), (a_values, .inl (cI, 32, .inl o_27))] rfl rfl (by decide) (fun H locs hP hS => ?_)
      refine lv_iconst (v := 0) hx hb dX8_share_30 rfl ?_
      refine lv_istore (lv' := [(4, .int 0), (0, .ref a), (1, .int x1), (2, .int x2), (3, .int (bI b3))]) hx hb dX8_share_31 hl (by decide) rfl (fun ls hl => ?_)
      refine lv_iconst (v := 0) hx hb dX8_share_33 rfl ?_
      refine lv_istore (lv' := [(5, .int 0), (4, .int 0), (0, .ref a), (1, .int x1), (2, .int x2), (3, .int (bI b3))]) hx hb dX8_share_34 hl (by decide) rfl (fun ls hl => ?_)
      obtain ⟨o_L36, ho_L36⟩ : ∃ z : Int32, z = it (v_X8_share_L36 x1 i_wishes o_27) ((1 : Int32) <<< (i_wishes &&& 31)).toNatClampNeg 0 0 := ⟨_, rfl⟩
      have kE36 : ∀ (H : Heap) (locs : List Loc) (ls : Array Slot), va_P D vwCl [(a, .inr (8, [.ref a_readWishes, .ref a_readOwed, .int i_readHung, .int i_readMany, .int i_readOwes, .ref a_told, .ref a_owed, .int i_wishes, .int i_hung, .int i_hour, .ref a_text, .int i_length, .int i_at, .int i_faultAt, .int i_acts, .int i_next, .ref a_row, .ref a_least, .ref a_values, .int i_tells, .ref a_tellPlace, .ref a_tellHour, .ref a_tellDark, .long j_seed, .ref a_isKept, .ref a_kept])), (a_owed, .inl (cI, 12, .inl f_owed)), (a_told, .inl (cI, 25, .inl f_told)), (a_values, .inl (cI, 32, .inl o_27))] H → va_S A s.heap H locs → lv_has ls 7 [(4, .int o_L36), (0, .ref a), (3, .int (bI b3))] → W p l e rm_X8_share s m ar below meth c H locs 0 0 Q (F0 m 115 ls []) := by
        intro H locs ls hP hS hl
        refine lv_aload_n hx hb dX8_share_115 rfl (lv_at hl 1 rfl) ?_
        refine va_get (D := D) (ci := 8) (v := .int i_wishes) (C := RX8) (T := TX8) (N := 26) hx hb hts (fun _ h => List.mem_cons_of_mem _ (List.mem_append_right _ (h))) hown hK hP 0 rfl rfl 7 (by decide) (hts _ (List.mem_of_getElem? (i := 2) rfl)) (fun _ h9 => h9) rfl dX8_share_116 ?_
        obtain ⟨o_119, ho_119⟩ : ∃ z : Int32, z = v_X8_factorial i_wishes := ⟨_, rfl⟩
        refine callSIs (As := [.int i_wishes]) (rest := []) o_119 ho_119 hF (k_X8_factorial l D cI cZ i_wishes (fac2 hw)) (va_cwS 1 hts gX8_share_X8_factorial rfl rfl rfl (by decide +kernel) ⟨Nat.le_of_ble_eq_true rfl, Nat.le_of_ble_eq_true rfl⟩) hK hN hP (va_Dsame hD rfl) hS hA [] rfl rfl rfl hl.1 rfl (Nat.le_of_ble_eq_true rfl) dX8_share_119 ⟨Nat.zero_le _, Nat.zero_le _⟩ o_119 rfl rfl (fun H locs hP hS => ?_)
        refine lv_istore (lv' := [(5, .int o_119), (4, .int o_L36), (0, .ref a), (3, .int (bI b3))]) hx hb dX8_share_122 hl (by decide) rfl (fun ls hl => ?_)
        refine lv_iload_n hx hb dX8_share_124 rfl (lv_at hl 3 rfl) ?_
        refine lv_if_eq (tgt := 141) hx hb dX8_share_125 (by decide) (fun c_125 => ?_) (fun c_125 => ?_)
        · refine lv_iload hx hb dX8_share_141 (lv_at hl 0 rfl) ?_
          refine lv_iload hx hb dX8_share_143 (lv_at hl 1 rfl) ?_
          refine lv_iload hx hb dX8_share_145 (lv_at hl 0 rfl) ?_
          obtain ⟨o_147, ho_147⟩ : ∃ z : Int32, z = v_X8_common o_L36 o_119 := ⟨_, rfl⟩
          refine callSIs (As := [.int o_L36, .int o_119]) (rest := [.int o_119]) o_147 ho_147 hF (k_X8_common l D cI cZ o_L36 o_119) (va_cwS 2 hts gX8_share_X8_common rfl rfl rfl (by decide +kernel) ⟨Nat.le_of_ble_eq_true rfl, Nat.le_of_ble_eq_true rfl⟩) hK hN hP (va_Dsame hD rfl) hS hA [] rfl rfl rfl hl.1 rfl (Nat.le_of_ble_eq_true rfl) dX8_share_147 ⟨Nat.zero_le _, Nat.zero_le _⟩ o_147 rfl rfl (fun H locs hP hS => ?_)
          refine lv_idiv hx hb dX8_share_150 (by rw [ho_147]; exact common_ne (by rw [ho_119]; exact fact_ne hw)) ?_
          have e9 : v_X8_share x1 x2 b3 i_wishes f_owed f_told f_values = ((o_119 / o_147), o_27) := by
            refine (bnd_eq ho_2).trans ?_
            refine (if_neg c_5).trans ?_
            refine (bnd_eq ho_16).trans ?_
            refine (if_neg c_19).trans ?_
            refine (bnd_eq ho_27).trans ?_
            refine (bnd_eq ho_L36).trans ?_
            refine (bnd_eq ho_119).trans ?_
            refine (if_pos c_125).trans ?_
            refine (bnd_eq ho_147).trans ?_
            rfl
          rw [hQ]; exact retI ((o_119 / o_147), o_27) hx hb hr hlk e9 hP rfl hS dX8_share_151
        · refine lv_iload hx hb dX8_share_128 (lv_at hl 1 rfl) ?_
          refine lv_iload hx hb dX8_share_130 (lv_at hl 1 rfl) ?_
          refine lv_iload hx hb dX8_share_132 (lv_at hl 0 rfl) ?_
          obtain ⟨o_134, ho_134⟩ : ∃ z : Int32, z = v_X8_common o_L36 o_119 := ⟨_, rfl⟩
          refine callSIs (As := [.int o_L36, .int o_119]) (rest := [.int o_L36]) o_134 ho_134 hF (k_X8_common l D cI cZ o_L36 o_119) (va_cwS 2 hts gX8_share_X8_common rfl rfl rfl (by decide +kernel) ⟨Nat.le_of_ble_eq_true rfl, Nat.le_of_ble_eq_true rfl⟩) hK hN hP (va_Dsame hD rfl) hS hA [] rfl rfl rfl hl.1 rfl (Nat.le_of_ble_eq_true rfl) dX8_share_134 ⟨Nat.zero_le _, Nat.zero_le _⟩ o_134 rfl rfl (fun H locs hP hS => ?_)
          refine lv_idiv hx hb dX8_share_137 (by rw [ho_134]; exact common_ne (by rw [ho_119]; exact fact_ne hw)) ?_
          refine lv_goto (tgt := 151) hx hb dX8_share_138 (by decide) ?_
          have e9 : v_X8_share x1 x2 b3 i_wishes f_owed f_told f_values = ((o_L36 / o_134), o_27) := by
            refine (bnd_eq ho_2).trans ?_
            refine (if_neg c_5).trans ?_
            refine (bnd_eq ho_16).trans ?_
            refine (if_neg c_19).trans ?_
            refine (bnd_eq ho_27).trans ?_
            refine (bnd_eq ho_L36).trans ?_
            refine (bnd_eq ho_119).trans ?_
            refine (if_neg c_125).trans ?_
            refine (bnd_eq ho_134).trans ?_
            rfl
          rw [hQ]; exact retI ((o_L36 / o_134), o_27) hx hb hr hlk e9 hP rfl hS dX8_share_151
      have loop36 : ∀ (k i36 : Nat) (z36 : Int32), 0 ≤ i36 → i36 + k = 0 + ((1 : Int32) <<< (i_wishes &&& 31)).toNatClampNeg → it (v_X8_share_L36 x1 i_wishes o_27) k i36 z36 = o_L36 → ∀ (H : Heap) (locs : List Loc) (ls : Array Slot), va_P D vwCl [(a, .inr (8, [.ref a_readWishes, .ref a_readOwed, .int i_readHung, .int i_readMany, .int i_readOwes, .ref a_told, .ref a_owed, .int i_wishes, .int i_hung, .int i_hour, .ref a_text, .int i_length, .int i_at, .int i_faultAt, .int i_acts, .int i_next, .ref a_row, .ref a_least, .ref a_values, .int i_tells, .ref a_tellPlace, .ref a_tellHour, .ref a_tellDark, .long j_seed, .ref a_isKept, .ref a_kept])), (a_owed, .inl (cI, 12, .inl f_owed)), (a_told, .inl (cI, 25, .inl f_told)), (a_values, .inl (cI, 32, .inl o_27))] H → va_S A s.heap H locs → lv_has ls 7 [(5, .int (nI i36)), (4, .int z36), (0, .ref a), (1, .int x1), (3, .int (bI b3))] → W p l e rm_X8_share s m ar below meth c H locs 0 0 Q (F0 m 36 ls []) := by
        intro k
        induction k with
        | zero =>
          intro i36 z36 hi0 hik hz H locs ls hP hS hl
          have hz : z36 = o_L36 := it_0 hz
          subst z36
          refine lv_iload hx hb dX8_share_36 (lv_at hl 0 rfl) ?_
          refine lv_iconst (v := 1) hx hb dX8_share_38 rfl ?_
          refine lv_aload_n hx hb dX8_share_39 rfl (lv_at hl 2 rfl) ?_
          refine va_get (D := D) (ci := 8) (v := .int i_wishes) (C := RX8) (T := TX8) (N := 26) hx hb hts (fun _ h => List.mem_cons_of_mem _ (List.mem_append_right _ (h))) hown hK hP 0 rfl rfl 7 (by decide) (hts _ (List.mem_of_getElem? (i := 2) rfl)) (fun _ h9 => h9) rfl dX8_share_40 ?_
          refine lv_ishl hx hb dX8_share_43 ?_
          refine lv_icmp_ge (tgt := 115) hx hb dX8_share_44 (by decide) (fun _ => ?_) (fun c => absurd (cb_ge (by omega) (by have := cb_lt31 ((1 : Int32) <<< (i_wishes &&& 31)); omega)) c)
          exact kE36 _ _ _ hP hS (lv_sub hl [1, 2, 4] rfl)
        | succ k ih =>
          intro i36 z36 hi0 hik hz H locs ls hP hS hl
          refine lv_iload hx hb dX8_share_36 (lv_at hl 0 rfl) ?_
          refine lv_iconst (v := 1) hx hb dX8_share_38 rfl ?_
          refine lv_aload_n hx hb dX8_share_39 rfl (lv_at hl 2 rfl) ?_
          refine va_get (D := D) (ci := 8) (v := .int i_wishes) (C := RX8) (T := TX8) (N := 26) hx hb hts (fun _ h => List.mem_cons_of_mem _ (List.mem_append_right _ (h))) hown hK hP 0 rfl rfl 7 (by decide) (hts _ (List.mem_of_getElem? (i := 2) rfl)) (fun _ h9 => h9) rfl dX8_share_40 ?_
          refine lv_ishl hx hb dX8_share_43 ?_
          refine lv_icmp_ge (tgt := 115) hx hb dX8_share_44 (by decide) (fun c => absurd c (cb_lt (by omega))) (fun _ => ?_)
          refine lv_iload hx hb dX8_share_47 (lv_at hl 0 rfl) ?_
          refine lv_iload_n hx hb dX8_share_49 rfl (lv_at hl 3 rfl) ?_
          obtain ⟨o_50, ho_50⟩ : ∃ z : Bool, z = v_X8_has (nI i36) x1 := ⟨_, rfl⟩
          refine callSIs (As := [.int (nI i36), .int x1]) (rest := []) o_50 ho_50 hF (k_X8_has l D cI cZ (nI i36) x1) (va_cwS 2 hts gX8_share_X8_has rfl rfl rfl (by decide +kernel) ⟨Nat.le_of_ble_eq_true rfl, Nat.le_of_ble_eq_true rfl⟩) hK hN hP (va_Dsame hD rfl) hS hA [] rfl rfl rfl hl.1 rfl (Nat.le_of_ble_eq_true rfl) dX8_share_50 ⟨Nat.zero_le _, Nat.zero_le _⟩ (bI o_50) rfl rfl (fun H locs hP hS => ?_)
          refine lv_if_ne (tgt := 109) hx hb dX8_share_53 (by decide) (fun c_53 => ?_) (fun c_53 => ?_)
          · refine lv_iinc (v := (nI (i36 + 1))) (lv' := [(5, .int (nI (i36 + 1))), (4, .int z36), (0, .ref a), (1, .int x1), (3, .int (bI b3))]) hx hb dX8_share_109 hl (k := 0) rfl (nI_1 _) (by decide) rfl (fun ls hl => ?_)
            refine lv_goto (tgt := 36) hx hb dX8_share_112 (by decide) ?_
            have e8 : v_X8_share_L36 x1 i_wishes o_27 i36 z36 = z36 := by
              refine (bnd_eq ho_50).trans ?_
              refine (if_neg c_53).trans ?_
              rfl
            exact ih (i36 + 1) z36 (by omega) (by omega) (it_go e8 hz) _ _ _ hP hS (lv_sub hl [0, 1, 2, 3, 4] rfl)
          · refine lv_iload hx hb dX8_share_56 (lv_at hl 0 rfl) ?_
            obtain ⟨o_58, ho_58⟩ : ∃ z : Int32, z = v_X8_ones (nI i36) := ⟨_, rfl⟩
            refine callSIs (As := [.int (nI i36)]) (rest := []) o_58 ho_58 hF (k_X8_ones l D cI cZ (nI i36)) (va_cwS 1 hts gX8_share_X8_ones rfl rfl rfl (by decide +kernel) ⟨Nat.le_of_ble_eq_true rfl, Nat.le_of_ble_eq_true rfl⟩) hK hN hP (va_Dsame hD rfl) hS hA [] rfl rfl rfl hl.1 rfl (Nat.le_of_ble_eq_true rfl) dX8_share_58 ⟨Nat.zero_le _, Nat.zero_le _⟩ o_58 rfl rfl (fun H locs hP hS => ?_)
            obtain ⟨o_61, ho_61⟩ : ∃ z : Int32, z = v_X8_factorial o_58 := ⟨_, rfl⟩
            refine callSIs (As := [.int o_58]) (rest := []) o_61 ho_61 hF (k_X8_factorial l D cI cZ o_58 (fac1 (by rw [ho_58]; exact ones_64 _))) (va_cwS 1 hts gX8_share_X8_factorial rfl rfl rfl (by decide +kernel) ⟨Nat.le_of_ble_eq_true rfl, Nat.le_of_ble_eq_true rfl⟩) hK hN hP (va_Dsame hD rfl) hS hA [] rfl rfl rfl hl.1 rfl (Nat.le_of_ble_eq_true rfl) dX8_share_61 ⟨Nat.zero_le _, Nat.zero_le _⟩ o_61 rfl rfl (fun H locs hP hS => ?_)
            refine lv_aload_n hx hb dX8_share_64 rfl (lv_at hl 2 rfl) ?_
            refine va_get (D := D) (ci := 8) (v := .int i_wishes) (C := RX8) (T := TX8) (N := 26) hx hb hts (fun _ h => List.mem_cons_of_mem _ (List.mem_append_right _ (h))) hown hK hP 0 rfl rfl 7 (by decide) (hts _ (List.mem_of_getElem? (i := 2) rfl)) (fun _ h9 => h9) rfl dX8_share_65 ?_
            refine lv_iconst (v := 1) hx hb dX8_share_68 rfl ?_
            refine lv_isub hx hb dX8_share_69 ?_
            refine lv_iload hx hb dX8_share_70 (lv_at hl 0 rfl) ?_
            obtain ⟨o_72, ho_72⟩ : ∃ z : Int32, z = v_X8_ones (nI i36) := ⟨_, rfl⟩
            refine callSIs (As := [.int (nI i36)]) (rest := [.int (i_wishes - 1), .int o_61]) o_72 ho_72 hF (k_X8_ones l D cI cZ (nI i36)) (va_cwS 1 hts gX8_share_X8_ones rfl rfl rfl (by decide +kernel) ⟨Nat.le_of_ble_eq_true rfl, Nat.le_of_ble_eq_true rfl⟩) hK hN hP (va_Dsame hD rfl) hS hA [] rfl rfl rfl hl.1 rfl (Nat.le_of_ble_eq_true rfl) dX8_share_72 ⟨Nat.zero_le _, Nat.zero_le _⟩ o_72 rfl rfl (fun H locs hP hS => ?_)
            refine lv_isub hx hb dX8_share_75 ?_
            obtain ⟨o_76, ho_76⟩ : ∃ z : Int32, z = v_X8_factorial ((i_wishes - 1) - o_72) := ⟨_, rfl⟩
            refine callSIs (As := [.int ((i_wishes - 1) - o_72)]) (rest := [.int o_61]) o_76 ho_76 hF (k_X8_factorial l D cI cZ ((i_wishes - 1) - o_72) (fac3 hw (by rw [ho_72]; exact ones_64 _))) (va_cwS 1 hts gX8_share_X8_factorial rfl rfl rfl (by decide +kernel) ⟨Nat.le_of_ble_eq_true rfl, Nat.le_of_ble_eq_true rfl⟩) hK hN hP (va_Dsame hD rfl) hS hA [] rfl rfl rfl hl.1 rfl (Nat.le_of_ble_eq_true rfl) dX8_share_76 ⟨Nat.zero_le _, Nat.zero_le _⟩ o_76 rfl rfl (fun H locs hP hS => ?_)
            refine lv_imul hx hb dX8_share_79 ?_
            refine lv_istore (lv' := [(6, .int (o_61 * o_76)), (5, .int (nI i36)), (4, .int z36), (0, .ref a), (1, .int x1), (3, .int (bI b3))]) hx hb dX8_share_80 hl (by decide) rfl (fun ls hl => ?_)
            refine lv_iload hx hb dX8_share_82 (lv_at hl 2 rfl) ?_
            refine lv_iload hx hb dX8_share_84 (lv_at hl 0 rfl) ?_
            refine lv_aload_n hx hb dX8_share_86 rfl (lv_at hl 3 rfl) ?_
            refine va_get (D := D) (ci := 8) (v := .ref a_values) (C := RX8) (T := TX8) (N := 26) hx hb hts (fun _ h => List.mem_cons_of_mem _ (List.mem_append_right _ (h))) hown hK hP 0 rfl rfl 18 (by decide) (hts _ (List.mem_of_getElem? (i := 3) rfl)) (fun _ h9 => h9) rfl dX8_share_87 ?_
            refine lv_iload hx hb dX8_share_90 (lv_at hl 1 rfl) ?_
            refine lv_iconst (v := 1) hx hb dX8_share_92 rfl ?_
            refine lv_iload_n hx hb dX8_share_93 rfl (lv_at hl 4 rfl) ?_
            refine lv_ishl hx hb dX8_share_94 ?_
            refine lv_ior hx hb dX8_share_95 ?_
            refine va_iald hx hb hK hP 3 0 rfl rfl (or_in (by omega) (isWish_in hw ho_2 c_5)) dX8_share_96 ?_
            refine lv_aload_n hx hb dX8_share_97 rfl (lv_at hl 3 rfl) ?_
            refine va_get (D := D) (ci := 8) (v := .ref a_values) (C := RX8) (T := TX8) (N := 26) hx hb hts (fun _ h => List.mem_cons_of_mem _ (List.mem_append_right _ (h))) hown hK hP 0 rfl rfl 18 (by decide) (hts _ (List.mem_of_getElem? (i := 3) rfl)) (fun _ h9 => h9) rfl dX8_share_98 ?_
            refine lv_iload hx hb dX8_share_101 (lv_at hl 1 rfl) ?_
            refine va_iald hx hb hK hP 3 0 rfl rfl (vp_in_nI (by omega) (by decide)) dX8_share_103 ?_
            refine lv_isub hx hb dX8_share_104 ?_
            refine lv_imul hx hb dX8_share_105 ?_
            refine lv_iadd hx hb dX8_share_106 ?_
            refine lv_topi (fun w_107 hw_107 => ?_)
            refine lv_istore (lv' := [(4, .int w_107), (6, .int (o_61 * o_76)), (5, .int (nI i36)), (0, .ref a), (1, .int x1), (3, .int (bI b3))]) hx hb dX8_share_107 hl (by decide) rfl (fun ls hl => ?_)
            refine lv_iinc (v := (nI (i36 + 1))) (lv' := [(5, .int (nI (i36 + 1))), (4, .int w_107), (6, .int (o_61 * o_76)), (0, .ref a), (1, .int x1), (3, .int (bI b3))]) hx hb dX8_share_109 hl (k := 2) rfl (nI_1 _) (by decide) rfl (fun ls hl => ?_)
            refine lv_goto (tgt := 36) hx hb dX8_share_112 (by decide) ?_
            have e8 : v_X8_share_L36 x1 i_wishes o_27 i36 z36 = w_107 := by
              refine (bnd_eq ho_50).trans ?_
              refine (if_pos c_53).trans ?_
              refine (bnd_eq ho_58).trans ?_
              refine (bnd_eq ho_61).trans ?_
              refine (bnd_eq ho_72).trans ?_
              refine (bnd_eq ho_76).trans ?_
              refine (bnd_eq hw_107).trans ?_
              rfl
            exact ih (i36 + 1) w_107 (by omega) (by omega) (it_go e8 hz) _ _ _ hP hS (lv_sub hl [0, 1, 3, 4, 5] rfl)
      exact loop36 ((1 : Int32) <<< (i_wishes &&& 31)).toNatClampNeg 0 0 (Nat.le_refl _) rfl ho_L36.symm _ _ _ hP hS (lv_sub hl [0, 1, 2, 3, 5] rfl)
    · refine lv_bipush (v := (-2)) hx hb dX8_share_22 rfl ?_
      have e9 : v_X8_share x1 x2 b3 i_wishes f_owed f_told f_values = ((-2), f_values) := by
        refine (bnd_eq ho_2).trans ?_
        refine (if_neg c_5).trans ?_
        refine (bnd_eq ho_16).trans ?_
        refine (if_pos c_19).trans ?_
        rfl
      rw [hQ]; exact retI ((-2), f_values) hx hb hr hlk e9 hP rfl hS dX8_share_24
  · refine lv_iconst (v := (-1)) hx hb dX8_share_8 rfl ?_
    have e9 : v_X8_share x1 x2 b3 i_wishes f_owed f_told f_values = ((-1), f_values) := by
      refine (bnd_eq ho_2).trans ?_
      refine (if_pos c_5).trans ?_
      rfl
    rw [hQ]; exact retI ((-1), f_values) hx hb hr hlk e9 hP rfl hS dX8_share_9
def v_X8_tell (x1 : Int32) (x2 : Int32) (b3 : Bool) (i_tells : Int32) (f_tellPlace : Nat → Int32) (f_tellHour : Nat → Int32) (f_tellDark : Nat → Int32) : Int32 × Int32 × (Nat → Int32) × (Nat → Int32) × (Nat → Int32) :=
  bnd (v_X8_isCell x1) fun o_1 =>
  (if bI o_1 = 0 then ((-1), i_tells, f_tellPlace, f_tellHour, f_tellDark)
  else (bnd (v_X8_in x2.toInt64 0 5) fun o_15 =>
  (if bI o_15 = 0 then ((-2), i_tells, f_tellPlace, f_tellHour, f_tellDark)
  else (if i_tells = 6 then ((-4), i_tells, f_tellPlace, f_tellHour, f_tellDark)
  else ((i_tells + 1), (i_tells + 1), (upd f_tellPlace i_tells.toNatClampNeg x1), (upd f_tellHour i_tells.toNatClampNeg x2), (upd f_tellDark i_tells.toNatClampNeg (vp_nar .boolean (bI b3))))))))
abbrev rm_X8_tell : Room := { frames := 2, cells := 0, slots := 0, locals := 45 }
set_option maxHeartbeats 4000000 in
set_option maxRecDepth 100000 in
theorem k_X8_tell (l : Launch) (D : va_G) (cI cZ : ClassId) (a a_readWishes a_readOwed a_told a_owed a_text a_row a_least a_values a_tellPlace a_tellHour a_tellDark a_isKept a_kept : Nat) (x1 : Int32) (x2 : Int32) (b3 : Bool) (i_readHung : Int32) (i_readMany : Int32) (i_readOwes : Int32) (i_wishes : Int32) (i_hung : Int32) (i_hour : Int32) (i_length : Int32) (i_at : Int32) (i_faultAt : Int32) (i_acts : Int32) (i_next : Int32) (i_tells : Int32) (j_seed : Int64) (f_tellPlace : Nat → Int32) (f_tellHour : Nat → Int32) (f_tellDark : Nat → Int32) (ht7 : vp_in i_tells 7) : KI l D cI cZ yX8_tell wsX8_tell rm_X8_tell [.ref a, .int x1, .int x2, .int (bI b3)] [(a, .inr (8, [.ref a_readWishes, .ref a_readOwed, .int i_readHung, .int i_readMany, .int i_readOwes, .ref a_told, .ref a_owed, .int i_wishes, .int i_hung, .int i_hour, .ref a_text, .int i_length, .int i_at, .int i_faultAt, .int i_acts, .int i_next, .ref a_row, .ref a_least, .ref a_values, .int i_tells, .ref a_tellPlace, .ref a_tellHour, .ref a_tellDark, .long j_seed, .ref a_isKept, .ref a_kept])), (a_tellPlace, .inl (cI, 6, .inl f_tellPlace)), (a_tellHour, .inl (cI, 6, .inl f_tellHour)), (a_tellDark, .inl (cZ, 6, .inl f_tellDark))] (v_X8_tell x1 x2 b3 i_tells f_tellPlace f_tellHour f_tellDark) (fun o : Int32 × Int32 × (Nat → Int32) × (Nat → Int32) × (Nat → Int32) => o.1) (fun o : Int32 × Int32 × (Nat → Int32) × (Nat → Int32) × (Nat → Int32) => [(a, .inr (8, [.ref a_readWishes, .ref a_readOwed, .int i_readHung, .int i_readMany, .int i_readOwes, .ref a_told, .ref a_owed, .int i_wishes, .int i_hung, .int i_hour, .ref a_text, .int i_length, .int i_at, .int i_faultAt, .int i_acts, .int i_next, .ref a_row, .ref a_least, .ref a_values, .int o.2.1, .ref a_tellPlace, .ref a_tellHour, .ref a_tellDark, .long j_seed, .ref a_isKept, .ref a_kept])), (a_tellPlace, .inl (cI, 6, .inl o.2.2.1)), (a_tellHour, .inl (cI, 6, .inl o.2.2.2.1)), (a_tellDark, .inl (cZ, 6, .inl o.2.2.2.2))]) := by
  refine KI.of cX8_tell 4 (some .int) (by decide) rfl (Nat.le_of_ble_eq_true rfl) ?_
  intro p e s m below meth c A ls ar Q hQ B
  obtain ⟨hx, hb, hr, hml, hts, hown, hlk, hK, hN, hP, hD, hA, hS, hl⟩ := B
  have hown : s.vm.findClass RX8 = some m.cls := hown
  have hF : CallFix p m c cX8_tell 4 s ar wsX8_tell RX8 := ⟨hx, hb, hml, hown, hts⟩
  have hl : lv_has ls 4 [(0, .ref a), (1, .int x1), (2, .int x2), (3, .int (bI b3))] := hl
  refine lv_iload_n hx hb dX8_tell_0 rfl (lv_at hl 1 rfl) ?_
  obtain ⟨o_1, ho_1⟩ : ∃ z : Bool, z = v_X8_isCell x1 := ⟨_, rfl⟩
  refine callSIs (As := [.int x1]) (rest := []) o_1 ho_1 hF (k_X8_isCell l D cI cZ x1) (va_cwS 1 hts gX8_tell_X8_isCell rfl rfl rfl (by decide +kernel) ⟨Nat.le_of_ble_eq_true rfl, Nat.le_of_ble_eq_true rfl⟩) hK hN hP (va_Dsame hD rfl) hS hA [] rfl rfl rfl hl.1 rfl (Nat.le_of_ble_eq_true rfl) dX8_tell_1 ⟨Nat.zero_le _, Nat.zero_le _⟩ (bI o_1) rfl rfl (fun H locs hP hS => ?_)
  refine lv_if_ne (tgt := 9) hx hb dX8_tell_4 (by decide) (fun c_4 => ?_) (fun c_4 => ?_)
  · refine lv_iload_n hx hb dX8_tell_9 rfl (lv_at hl 2 rfl) ?_
    refine lv_i2l (v := x2.toInt64) hx hb dX8_tell_10 rfl ?_
    refine lv_lconst (v := 0) hx hb dX8_tell_11 rfl ?_
    refine lv_ldc2 (v := 5) hx hb hown (hts _ (List.mem_of_getElem? (i := 1) rfl)) dX8_tell_12 ?_
    obtain ⟨o_15, ho_15⟩ : ∃ z : Bool, z = v_X8_in x2.toInt64 0 5 := ⟨_, rfl⟩
    refine callSIs (As := [.long x2.toInt64, .long 0, .long 5]) (rest := []) o_15 ho_15 hF (k_X8_in l D cI cZ x2.toInt64 0 5) (va_cwS 3 hts gX8_tell_X8_in rfl rfl rfl (by decide +kernel) ⟨Nat.le_of_ble_eq_true rfl, Nat.le_of_ble_eq_true rfl⟩) hK hN hP (va_Dsame hD rfl) hS hA [] rfl rfl rfl hl.1 rfl (Nat.le_of_ble_eq_true rfl) dX8_tell_15 ⟨Nat.zero_le _, Nat.zero_le _⟩ (bI o_15) rfl rfl (fun H locs hP hS => ?_)
    refine lv_if_ne (tgt := 24) hx hb dX8_tell_18 (by decide) (fun c_18 => ?_) (fun c_18 => ?_)
    · refine lv_aload_n hx hb dX8_tell_24 rfl (lv_at hl 0 rfl) ?_
      refine va_get (D := D) (ci := 8) (v := .int i_tells) (C := RX8) (T := TX8) (N := 26) hx hb hts (fun _ h => List.mem_cons_of_mem _ (List.mem_append_right _ (h))) hown hK hP 0 rfl rfl 19 (by decide) (hts _ (List.mem_of_getElem? (i := 2) rfl)) (fun _ h9 => h9) rfl dX8_tell_25 ?_
      refine lv_bipush (v := 6) hx hb dX8_tell_28 rfl ?_
      refine lv_icmp_ne (tgt := 36) hx hb dX8_tell_30 (by decide) (fun c_30 => ?_) (fun c_30 => ?_)
      · refine lv_aload_n hx hb dX8_tell_36 rfl (lv_at hl 0 rfl) ?_
        refine va_get (D := D) (ci := 8) (v := .ref a_tellPlace) (C := RX8) (T := TX8) (N := 26) hx hb hts (fun _ h => List.mem_cons_of_mem _ (List.mem_append_right _ (h))) hown hK hP 0 rfl rfl 20 (by decide) (hts _ (List.mem_of_getElem? (i := 3) rfl)) (fun _ h9 => h9) rfl dX8_tell_37 ?_
        refine lv_aload_n hx hb dX8_tell_40 rfl (lv_at hl 0 rfl) ?_
        refine va_get (D := D) (ci := 8) (v := .int i_tells) (C := RX8) (T := TX8) (N := 26) hx hb hts (fun _ h => List.mem_cons_of_mem _ (List.mem_append_right _ (h))) hown hK hP 0 rfl rfl 19 (by decide) (hts _ (List.mem_of_getElem? (i := 2) rfl)) (fun _ h9 => h9) rfl dX8_tell_41 ?_
        refine lv_iload_n hx hb dX8_tell_44 rfl (lv_at hl 1 rfl) ?_
        refine va_iast hx hb hK hP (va_Dsame hD rfl) hS 1 0 rfl rfl (vin_ne ht7 c_30) dX8_tell_45 (fun H locs hP _ hS => ?_)
        have hP : va_P D vwCl [(a, .inr (8, [.ref a_readWishes, .ref a_readOwed, .int i_readHung, .int i_readMany, .int i_readOwes, .ref a_told, .ref a_owed, .int i_wishes, .int i_hung, .int i_hour, .ref a_text, .int i_length, .int i_at, .int i_faultAt, .int i_acts, .int i_next, .ref a_row, .ref a_least, .ref a_values, .int i_tells, .ref a_tellPlace, .ref a_tellHour, .ref a_tellDark, .long j_seed, .ref a_isKept, .ref a_kept])), (a_tellPlace, .inl (cI, 6, .inl (upd f_tellPlace i_tells.toNatClampNeg x1))), (a_tellHour, .inl (cI, 6, .inl f_tellHour)), (a_tellDark, .inl (cZ, 6, .inl f_tellDark))] H := hP
        refine lv_aload_n hx hb dX8_tell_46 rfl (lv_at hl 0 rfl) ?_
        refine va_get (D := D) (ci := 8) (v := .ref a_tellHour) (C := RX8) (T := TX8) (N := 26) hx hb hts (fun _ h => List.mem_cons_of_mem _ (List.mem_append_right _ (h))) hown hK hP 0 rfl rfl 21 (by decide) (hts _ (List.mem_of_getElem? (i := 4) rfl)) (fun _ h9 => h9) rfl dX8_tell_47 ?_
        refine lv_aload_n hx hb dX8_tell_50 rfl (lv_at hl 0 rfl) ?_
        refine va_get (D := D) (ci := 8) (v := .int i_tells) (C := RX8) (T := TX8) (N := 26) hx hb hts (fun _ h => List.mem_cons_of_mem _ (List.mem_append_right _ (h))) hown hK hP 0 rfl rfl 19 (by decide) (hts _ (List.mem_of_getElem? (i := 2) rfl)) (fun _ h9 => h9) rfl dX8_tell_51 ?_
        refine lv_iload_n hx hb dX8_tell_54 rfl (lv_at hl 2 rfl) ?_
        refine va_iast hx hb hK hP (va_Dsame hD rfl) hS 2 0 rfl rfl (vin_ne ht7 c_30) dX8_tell_55 (fun H locs hP _ hS => ?_)
        have hP : va_P D vwCl [(a, .inr (8, [.ref a_readWishes, .ref a_readOwed, .int i_readHung, .int i_readMany, .int i_readOwes, .ref a_told, .ref a_owed, .int i_wishes, .int i_hung, .int i_hour, .ref a_text, .int i_length, .int i_at, .int i_faultAt, .int i_acts, .int i_next, .ref a_row, .ref a_least, .ref a_values, .int i_tells, .ref a_tellPlace, .ref a_tellHour, .ref a_tellDark, .long j_seed, .ref a_isKept, .ref a_kept])), (a_tellPlace, .inl (cI, 6, .inl (upd f_tellPlace i_tells.toNatClampNeg x1))), (a_tellHour, .inl (cI, 6, .inl (upd f_tellHour i_tells.toNatClampNeg x2))), (a_tellDark, .inl (cZ, 6, .inl f_tellDark))] H := hP
        refine lv_aload_n hx hb dX8_tell_56 rfl (lv_at hl 0 rfl) ?_
        refine va_get (D := D) (ci := 8) (v := .ref a_tellDark) (C := RX8) (T := TX8) (N := 26) hx hb hts (fun _ h => List.mem_cons_of_mem _ (List.mem_append_right _ (h))) hown hK hP 0 rfl rfl 22 (by decide) (hts _ (List.mem_of_getElem? (i := 5) rfl)) (fun _ h9 => h9) rfl dX8_tell_57 ?_
        refine lv_aload_n hx hb dX8_tell_60 rfl (lv_at hl 0 rfl) ?_
        refine va_get (D := D) (ci := 8) (v := .int i_tells) (C := RX8) (T := TX8) (N := 26) hx hb hts (fun _ h => List.mem_cons_of_mem _ (List.mem_append_right _ (h))) hown hK hP 0 rfl rfl 19 (by decide) (hts _ (List.mem_of_getElem? (i := 2) rfl)) (fun _ h9 => h9) rfl dX8_tell_61 ?_
        refine lv_iload_n hx hb dX8_tell_64 rfl (lv_at hl 3 rfl) ?_
        refine va_zast hx hb hK hP (va_Dsame hD rfl) hS 3 1 rfl rfl (vin_ne ht7 c_30) dX8_tell_65 (fun H locs hP _ hS => ?_)
        have hP : va_P D vwCl [(a, .inr (8, [.ref a_readWishes, .ref a_readOwed, .int i_readHung, .int i_readMany, .int i_readOwes, .ref a_told, .ref a_owed, .int i_wishes, .int i_hung, .int i_hour, .ref a_text, .int i_length, .int i_at, .int i_faultAt, .int i_acts, .int i_next, .ref a_row, .ref a_least, .ref a_values, .int i_tells, .ref a_tellPlace, .ref a_tellHour, .ref a_tellDark, .long j_seed, .ref a_isKept, .ref a_kept])), (a_tellPlace, .inl (cI, 6, .inl (upd f_tellPlace i_tells.toNatClampNeg x1))), (a_tellHour, .inl (cI, 6, .inl (upd f_tellHour i_tells.toNatClampNeg x2))), (a_tellDark, .inl (cZ, 6, .inl (upd f_tellDark i_tells.toNatClampNeg (vp_nar .boolean (bI b3)))))] H := hP
        refine lv_aload_n hx hb dX8_tell_66 rfl (lv_at hl 0 rfl) ?_
        refine lv_dup hx hb dX8_tell_67 rfl ?_
        refine va_get (D := D) (ci := 8) (v := .int i_tells) (C := RX8) (T := TX8) (N := 26) hx hb hts (fun _ h => List.mem_cons_of_mem _ (List.mem_append_right _ (h))) hown hK hP 0 rfl rfl 19 (by decide) (hts _ (List.mem_of_getElem? (i := 2) rfl)) (fun _ h9 => h9) rfl dX8_tell_68 ?_
        refine lv_iconst (v := 1) hx hb dX8_tell_71 rfl ?_
        refine lv_iadd hx hb dX8_tell_72 ?_
        refine va_put (D := D) (ci := 8) (v := .int (i_tells + 1)) (ty := .int) (C := RX8) (T := TX8) (N := 26) hx hb hts (fun _ h => List.mem_cons_of_mem _ (List.mem_append_right _ (h))) tyX8 tyX8_ok nmX8 hown hK hP (va_Dsame hD rfl) hS 0 rfl rfl 19 (by decide) (hts _ (List.mem_of_getElem? (i := 2) rfl)) (fun _ h9 => h9) rfl (tyX8_ok 19 (by decide)) rfl rfl (Nat.le_of_ble_eq_true rfl) dX8_tell_73 (fun H locs hP _ hS => ?_)
        have hP : va_P D vwCl [(a, .inr (8, [.ref a_readWishes, .ref a_readOwed, .int i_readHung, .int i_readMany, .int i_readOwes, .ref a_told, .ref a_owed, .int i_wishes, .int i_hung, .int i_hour, .ref a_text, .int i_length, .int i_at, .int i_faultAt, .int i_acts, .int i_next, .ref a_row, .ref a_least, .ref a_values, .int (i_tells + 1), .ref a_tellPlace, .ref a_tellHour, .ref a_tellDark, .long j_seed, .ref a_isKept, .ref a_kept])), (a_tellPlace, .inl (cI, 6, .inl (upd f_tellPlace i_tells.toNatClampNeg x1))), (a_tellHour, .inl (cI, 6, .inl (upd f_tellHour i_tells.toNatClampNeg x2))), (a_tellDark, .inl (cZ, 6, .inl (upd f_tellDark i_tells.toNatClampNeg (vp_nar .boolean (bI b3)))))] H := hP
        refine lv_aload_n hx hb dX8_tell_76 rfl (lv_at hl 0 rfl) ?_
        refine va_get (D := D) (ci := 8) (v := .int (i_tells + 1)) (C := RX8) (T := TX8) (N := 26) hx hb hts (fun _ h => List.mem_cons_of_mem _ (List.mem_append_right _ (h))) hown hK hP 0 rfl rfl 19 (by decide) (hts _ (List.mem_of_getElem? (i := 2) rfl)) (fun _ h9 => h9) rfl dX8_tell_77 ?_
        have e9 : v_X8_tell x1 x2 b3 i_tells f_tellPlace f_tellHour f_tellDark = ((i_tells + 1), (i_tells + 1), (upd f_tellPlace i_tells.toNatClampNeg x1), (upd f_tellHour i_tells.toNatClampNeg x2), (upd f_tellDark i_tells.toNatClampNeg (vp_nar .boolean (bI b3)))) := by
          refine (bnd_eq ho_1).trans ?_
          refine (if_neg c_4).trans ?_
          refine (bnd_eq ho_15).trans ?_
          refine (if_neg c_18).trans ?_
          refine (if_neg c_30).trans ?_
          rfl
        rw [hQ]; exact retI ((i_tells + 1), (i_tells + 1), (upd f_tellPlace i_tells.toNatClampNeg x1), (upd f_tellHour i_tells.toNatClampNeg x2), (upd f_tellDark i_tells.toNatClampNeg (vp_nar .boolean (bI b3)))) hx hb hr hlk e9 hP rfl hS dX8_tell_80
      · refine lv_bipush (v := (-4)) hx hb dX8_tell_33 rfl ?_
        have e9 : v_X8_tell x1 x2 b3 i_tells f_tellPlace f_tellHour f_tellDark = ((-4), i_tells, f_tellPlace, f_tellHour, f_tellDark) := by
          refine (bnd_eq ho_1).trans ?_
          refine (if_neg c_4).trans ?_
          refine (bnd_eq ho_15).trans ?_
          refine (if_neg c_18).trans ?_
          refine (if_pos c_30).trans ?_
          rfl
        rw [hQ]; exact retI ((-4), i_tells, f_tellPlace, f_tellHour, f_tellDark) hx hb hr hlk e9 hP rfl hS dX8_tell_35
    · refine lv_bipush (v := (-2)) hx hb dX8_tell_21 rfl ?_
      have e9 : v_X8_tell x1 x2 b3 i_tells f_tellPlace f_tellHour f_tellDark = ((-2), i_tells, f_tellPlace, f_tellHour, f_tellDark) := by
        refine (bnd_eq ho_1).trans ?_
        refine (if_neg c_4).trans ?_
        refine (bnd_eq ho_15).trans ?_
        refine (if_pos c_18).trans ?_
        rfl
      rw [hQ]; exact retI ((-2), i_tells, f_tellPlace, f_tellHour, f_tellDark) hx hb hr hlk e9 hP rfl hS dX8_tell_23
  · refine lv_iconst (v := (-1)) hx hb dX8_tell_7 rfl ?_
    have e9 : v_X8_tell x1 x2 b3 i_tells f_tellPlace f_tellHour f_tellDark = ((-1), i_tells, f_tellPlace, f_tellHour, f_tellDark) := by
      refine (bnd_eq ho_1).trans ?_
      refine (if_pos c_4).trans ?_
      rfl
    rw [hQ]; exact retI ((-1), i_tells, f_tellPlace, f_tellHour, f_tellDark) hx hb hr hlk e9 hP rfl hS dX8_tell_8
def v_X8_untell (i_tells : Int32) : Int32 × Int32 :=
  (i_tells, 0)
abbrev rm_X8_untell : Room := { frames := 0, cells := 0, slots := 0, locals := 0 }
set_option maxHeartbeats 4000000 in
set_option maxRecDepth 100000 in
theorem k_X8_untell (l : Launch) (D : va_G) (cI cZ : ClassId) (a a_readWishes a_readOwed a_told a_owed a_text a_row a_least a_values a_tellPlace a_tellHour a_tellDark a_isKept a_kept : Nat) (i_readHung : Int32) (i_readMany : Int32) (i_readOwes : Int32) (i_wishes : Int32) (i_hung : Int32) (i_hour : Int32) (i_length : Int32) (i_at : Int32) (i_faultAt : Int32) (i_acts : Int32) (i_next : Int32) (i_tells : Int32) (j_seed : Int64) : KI l D cI cZ yX8_untell wsX8_untell rm_X8_untell [.ref a] [(a, .inr (8, [.ref a_readWishes, .ref a_readOwed, .int i_readHung, .int i_readMany, .int i_readOwes, .ref a_told, .ref a_owed, .int i_wishes, .int i_hung, .int i_hour, .ref a_text, .int i_length, .int i_at, .int i_faultAt, .int i_acts, .int i_next, .ref a_row, .ref a_least, .ref a_values, .int i_tells, .ref a_tellPlace, .ref a_tellHour, .ref a_tellDark, .long j_seed, .ref a_isKept, .ref a_kept]))] (v_X8_untell i_tells) (fun o : Int32 × Int32 => o.1) (fun o : Int32 × Int32 => [(a, .inr (8, [.ref a_readWishes, .ref a_readOwed, .int i_readHung, .int i_readMany, .int i_readOwes, .ref a_told, .ref a_owed, .int i_wishes, .int i_hung, .int i_hour, .ref a_text, .int i_length, .int i_at, .int i_faultAt, .int i_acts, .int i_next, .ref a_row, .ref a_least, .ref a_values, .int o.2, .ref a_tellPlace, .ref a_tellHour, .ref a_tellDark, .long j_seed, .ref a_isKept, .ref a_kept]))]) := by
  refine KI.of cX8_untell 2 (some .int) (by decide) rfl (Nat.le_of_ble_eq_true rfl) ?_
  intro p e s m below meth c A ls ar Q hQ B
  obtain ⟨hx, hb, hr, hml, hts, hown, hlk, hK, hN, hP, hD, hA, hS, hl⟩ := B
  have hown : s.vm.findClass RX8 = some m.cls := hown
  have hF : CallFix p m c cX8_untell 2 s ar wsX8_untell RX8 := ⟨hx, hb, hml, hown, hts⟩
  have hl : lv_has ls 2 [(0, .ref a)] := hl
  refine lv_aload_n hx hb dX8_untell_0 rfl (lv_at hl 0 rfl) ?_
  refine va_get (D := D) (ci := 8) (v := .int i_tells) (C := RX8) (T := TX8) (N := 26) hx hb hts (fun _ h => List.mem_cons_of_mem _ (List.mem_append_right _ (h))) hown hK hP 0 rfl rfl 19 (by decide) (hts _ (List.mem_of_getElem? (i := 1) rfl)) (fun _ h9 => h9) rfl dX8_untell_1 ?_
  refine lv_istore_n (lv' := [(1, .int i_tells), (0, .ref a)]) hx hb dX8_untell_4 rfl hl (by decide) rfl (fun ls hl => ?_)
  refine lv_aload_n hx hb dX8_untell_5 rfl (lv_at hl 1 rfl) ?_
  refine lv_iconst (v := 0) hx hb dX8_untell_6 rfl ?_
  refine va_put (D := D) (ci := 8) (v := .int 0) (ty := .int) (C := RX8) (T := TX8) (N := 26) hx hb hts (fun _ h => List.mem_cons_of_mem _ (List.mem_append_right _ (h))) tyX8 tyX8_ok nmX8 hown hK hP (va_Dsame hD rfl) hS 0 rfl rfl 19 (by decide) (hts _ (List.mem_of_getElem? (i := 1) rfl)) (fun _ h9 => h9) rfl (tyX8_ok 19 (by decide)) rfl rfl (Nat.le_of_ble_eq_true rfl) dX8_untell_7 (fun H locs hP _ hS => ?_)
  have hP : va_P D vwCl [(a, .inr (8, [.ref a_readWishes, .ref a_readOwed, .int i_readHung, .int i_readMany, .int i_readOwes, .ref a_told, .ref a_owed, .int i_wishes, .int i_hung, .int i_hour, .ref a_text, .int i_length, .int i_at, .int i_faultAt, .int i_acts, .int i_next, .ref a_row, .ref a_least, .ref a_values, .int 0, .ref a_tellPlace, .ref a_tellHour, .ref a_tellDark, .long j_seed, .ref a_isKept, .ref a_kept]))] H := hP
  refine lv_iload_n hx hb dX8_untell_10 rfl (lv_at hl 0 rfl) ?_
  have e9 : v_X8_untell i_tells = (i_tells, 0) := by
    rfl
  rw [hQ]; exact retI (i_tells, 0) hx hb hr hlk e9 hP rfl hS dX8_untell_11
def v_X8_isTold_L4 (x1 : Int32) (f_tellPlace : Nat → Int32) (f_tellHour : Nat → Int32) (f_tellDark : Nat → Int32) (i4 : Nat) (z4 : Bool) : Bool :=
  if bI z4 = 0 then false
  else (bnd (v_X8_isDark x1 (f_tellPlace (nI i4).toNatClampNeg) (f_tellHour (nI i4).toNatClampNeg)) fun o_29 =>
  (if bI o_29 = (f_tellDark (nI i4).toNatClampNeg) then true
  else false))
def v_X8_isTold (x1 : Int32) (i_tells : Int32) (f_tellPlace : Nat → Int32) (f_tellHour : Nat → Int32) (f_tellDark : Nat → Int32) : Bool :=
  bnd (it (v_X8_isTold_L4 x1 f_tellPlace f_tellHour f_tellDark) i_tells.toNatClampNeg 0 true) fun o_L4 =>
  o_L4
abbrev rm_X8_isTold : Room := { frames := 2, cells := 0, slots := 0, locals := 43 }
set_option maxHeartbeats 4000000 in
set_option maxRecDepth 100000 in
theorem k_X8_isTold (l : Launch) (D : va_G) (cI cZ : ClassId) (a a_readWishes a_readOwed a_told a_owed a_text a_row a_least a_values a_tellPlace a_tellHour a_tellDark a_isKept a_kept : Nat) (x1 : Int32) (i_readHung : Int32) (i_readMany : Int32) (i_readOwes : Int32) (i_wishes : Int32) (i_hung : Int32) (i_hour : Int32) (i_length : Int32) (i_at : Int32) (i_faultAt : Int32) (i_acts : Int32) (i_next : Int32) (i_tells : Int32) (j_seed : Int64) (f_tellPlace : Nat → Int32) (f_tellHour : Nat → Int32) (f_tellDark : Nat → Int32) (ht6 : i_tells.toNatClampNeg ≤ 6) : KI l D cI cZ yX8_isTold wsX8_isTold rm_X8_isTold [.ref a, .int x1] [(a, .inr (8, [.ref a_readWishes, .ref a_readOwed, .int i_readHung, .int i_readMany, .int i_readOwes, .ref a_told, .ref a_owed, .int i_wishes, .int i_hung, .int i_hour, .ref a_text, .int i_length, .int i_at, .int i_faultAt, .int i_acts, .int i_next, .ref a_row, .ref a_least, .ref a_values, .int i_tells, .ref a_tellPlace, .ref a_tellHour, .ref a_tellDark, .long j_seed, .ref a_isKept, .ref a_kept])), (a_tellPlace, .inl (cI, 6, .inl f_tellPlace)), (a_tellHour, .inl (cI, 6, .inl f_tellHour)), (a_tellDark, .inl (cZ, 6, .inl f_tellDark))] (v_X8_isTold x1 i_tells f_tellPlace f_tellHour f_tellDark) (fun o : Bool => bI o) (fun _ : Bool => [(a, .inr (8, [.ref a_readWishes, .ref a_readOwed, .int i_readHung, .int i_readMany, .int i_readOwes, .ref a_told, .ref a_owed, .int i_wishes, .int i_hung, .int i_hour, .ref a_text, .int i_length, .int i_at, .int i_faultAt, .int i_acts, .int i_next, .ref a_row, .ref a_least, .ref a_values, .int i_tells, .ref a_tellPlace, .ref a_tellHour, .ref a_tellDark, .long j_seed, .ref a_isKept, .ref a_kept])), (a_tellPlace, .inl (cI, 6, .inl f_tellPlace)), (a_tellHour, .inl (cI, 6, .inl f_tellHour)), (a_tellDark, .inl (cZ, 6, .inl f_tellDark))]) := by
  refine KI.of cX8_isTold 4 (some .boolean) (by decide) rfl (Nat.le_of_ble_eq_true rfl) ?_
  intro p e s m below meth c A ls ar Q hQ B
  obtain ⟨hx, hb, hr, hml, hts, hown, hlk, hK, hN, hP, hD, hA, hS, hl⟩ := B
  have hown : s.vm.findClass RX8 = some m.cls := hown
  have hF : CallFix p m c cX8_isTold 4 s ar wsX8_isTold RX8 := ⟨hx, hb, hml, hown, hts⟩
  have hl : lv_has ls 4 [(0, .ref a), (1, .int x1)] := hl
  refine lv_iconst (v := 1) hx hb dX8_isTold_0 rfl ?_
  refine lv_istore_n (lv' := [(2, .int 1), (0, .ref a), (1, .int x1)]) hx hb dX8_isTold_1 rfl hl (by decide) rfl (fun ls hl => ?_)
  refine lv_iconst (v := 0) hx hb dX8_isTold_2 rfl ?_
  refine lv_istore_n (lv' := [(3, .int 0), (2, .int 1), (0, .ref a), (1, .int x1)]) hx hb dX8_isTold_3 rfl hl (by decide) rfl (fun ls hl => ?_)
  obtain ⟨o_L4, ho_L4⟩ : ∃ z : Bool, z = it (v_X8_isTold_L4 x1 f_tellPlace f_tellHour f_tellDark) i_tells.toNatClampNeg 0 true := ⟨_, rfl⟩
  have kE4 : ∀ (H : Heap) (locs : List Loc) (ls : Array Slot), va_P D vwCl [(a, .inr (8, [.ref a_readWishes, .ref a_readOwed, .int i_readHung, .int i_readMany, .int i_readOwes, .ref a_told, .ref a_owed, .int i_wishes, .int i_hung, .int i_hour, .ref a_text, .int i_length, .int i_at, .int i_faultAt, .int i_acts, .int i_next, .ref a_row, .ref a_least, .ref a_values, .int i_tells, .ref a_tellPlace, .ref a_tellHour, .ref a_tellDark, .long j_seed, .ref a_isKept, .ref a_kept])), (a_tellPlace, .inl (cI, 6, .inl f_tellPlace)), (a_tellHour, .inl (cI, 6, .inl f_tellHour)), (a_tellDark, .inl (cZ, 6, .inl f_tellDark))] H → va_S A s.heap H locs → lv_has ls 4 [(2, .int (bI o_L4))] → W p l e rm_X8_isTold s m ar below meth c H locs 0 0 Q (F0 m 53 ls []) := by
    intro H locs ls hP hS hl
    refine lv_iload_n hx hb dX8_isTold_53 rfl (lv_at hl 0 rfl) ?_
    have e9 : v_X8_isTold x1 i_tells f_tellPlace f_tellHour f_tellDark = o_L4 := by
      refine (bnd_eq ho_L4).trans ?_
      rfl
    rw [hQ]; exact retZ (v := fun o : Bool => o) o_L4 hx hb hr hlk e9 hP rfl hS dX8_isTold_54
  have loop4 : ∀ (k i4 : Nat) (z4 : Bool), 0 ≤ i4 → i4 + k = 0 + i_tells.toNatClampNeg → it (v_X8_isTold_L4 x1 f_tellPlace f_tellHour f_tellDark) k i4 z4 = o_L4 → ∀ (H : Heap) (locs : List Loc) (ls : Array Slot), va_P D vwCl [(a, .inr (8, [.ref a_readWishes, .ref a_readOwed, .int i_readHung, .int i_readMany, .int i_readOwes, .ref a_told, .ref a_owed, .int i_wishes, .int i_hung, .int i_hour, .ref a_text, .int i_length, .int i_at, .int i_faultAt, .int i_acts, .int i_next, .ref a_row, .ref a_least, .ref a_values, .int i_tells, .ref a_tellPlace, .ref a_tellHour, .ref a_tellDark, .long j_seed, .ref a_isKept, .ref a_kept])), (a_tellPlace, .inl (cI, 6, .inl f_tellPlace)), (a_tellHour, .inl (cI, 6, .inl f_tellHour)), (a_tellDark, .inl (cZ, 6, .inl f_tellDark))] H → va_S A s.heap H locs → lv_has ls 4 [(3, .int (nI i4)), (2, .int (bI z4)), (0, .ref a), (1, .int x1)] → W p l e rm_X8_isTold s m ar below meth c H locs 0 0 Q (F0 m 4 ls []) := by
    intro k
    induction k with
    | zero =>
      intro i4 z4 hi0 hik hz H locs ls hP hS hl
      have hz : z4 = o_L4 := it_0 hz
      subst z4
      refine lv_iload_n hx hb dX8_isTold_4 rfl (lv_at hl 0 rfl) ?_
      refine lv_aload_n hx hb dX8_isTold_5 rfl (lv_at hl 2 rfl) ?_
      refine va_get (D := D) (ci := 8) (v := .int i_tells) (C := RX8) (T := TX8) (N := 26) hx hb hts (fun _ h => List.mem_cons_of_mem _ (List.mem_append_right _ (h))) hown hK hP 0 rfl rfl 19 (by decide) (hts _ (List.mem_of_getElem? (i := 1) rfl)) (fun _ h9 => h9) rfl dX8_isTold_6 ?_
      refine lv_icmp_ge (tgt := 53) hx hb dX8_isTold_9 (by decide) (fun _ => ?_) (fun c => absurd (cb_ge (by omega) (by have := cb_lt31 i_tells; omega)) c)
      exact kE4 _ _ _ hP hS (lv_sub hl [1] rfl)
    | succ k ih =>
      intro i4 z4 hi0 hik hz H locs ls hP hS hl
      refine lv_iload_n hx hb dX8_isTold_4 rfl (lv_at hl 0 rfl) ?_
      refine lv_aload_n hx hb dX8_isTold_5 rfl (lv_at hl 2 rfl) ?_
      refine va_get (D := D) (ci := 8) (v := .int i_tells) (C := RX8) (T := TX8) (N := 26) hx hb hts (fun _ h => List.mem_cons_of_mem _ (List.mem_append_right _ (h))) hown hK hP 0 rfl rfl 19 (by decide) (hts _ (List.mem_of_getElem? (i := 1) rfl)) (fun _ h9 => h9) rfl dX8_isTold_6 ?_
      refine lv_icmp_ge (tgt := 53) hx hb dX8_isTold_9 (by decide) (fun c => absurd c (cb_lt (by omega))) (fun _ => ?_)
      refine lv_iload_n hx hb dX8_isTold_12 rfl (lv_at hl 1 rfl) ?_
      refine lv_if_eq (tgt := 45) hx hb dX8_isTold_13 (by decide) (fun c_13 => ?_) (fun c_13 => ?_)
      · refine lv_iconst (v := 0) hx hb dX8_isTold_45 rfl ?_
        refine lv_istore_n (lv' := [(2, .int 0), (3, .int (nI i4)), (0, .ref a), (1, .int x1)]) hx hb dX8_isTold_46 rfl hl (by decide) rfl (fun ls hl => ?_)
        refine lv_iinc (v := (nI (i4 + 1))) (lv' := [(3, .int (nI (i4 + 1))), (2, .int 0), (0, .ref a), (1, .int x1)]) hx hb dX8_isTold_47 hl (k := 1) rfl (nI_1 _) (by decide) rfl (fun ls hl => ?_)
        refine lv_goto (tgt := 4) hx hb dX8_isTold_50 (by decide) ?_
        have e8 : v_X8_isTold_L4 x1 f_tellPlace f_tellHour f_tellDark i4 z4 = false := by
          refine (if_pos c_13).trans ?_
          rfl
        exact ih (i4 + 1) false (by omega) (by omega) (it_go e8 hz) _ _ _ hP hS (lv_sub hl [0, 1, 2, 3] rfl)
      · refine lv_iload_n hx hb dX8_isTold_16 rfl (lv_at hl 3 rfl) ?_
        refine lv_aload_n hx hb dX8_isTold_17 rfl (lv_at hl 2 rfl) ?_
        refine va_get (D := D) (ci := 8) (v := .ref a_tellPlace) (C := RX8) (T := TX8) (N := 26) hx hb hts (fun _ h => List.mem_cons_of_mem _ (List.mem_append_right _ (h))) hown hK hP 0 rfl rfl 20 (by decide) (hts _ (List.mem_of_getElem? (i := 2) rfl)) (fun _ h9 => h9) rfl dX8_isTold_18 ?_
        refine lv_iload_n hx hb dX8_isTold_21 rfl (lv_at hl 0 rfl) ?_
        refine va_iald hx hb hK hP 1 0 rfl rfl (vp_in_nI (by omega) (by decide)) dX8_isTold_22 ?_
        refine lv_aload_n hx hb dX8_isTold_23 rfl (lv_at hl 2 rfl) ?_
        refine va_get (D := D) (ci := 8) (v := .ref a_tellHour) (C := RX8) (T := TX8) (N := 26) hx hb hts (fun _ h => List.mem_cons_of_mem _ (List.mem_append_right _ (h))) hown hK hP 0 rfl rfl 21 (by decide) (hts _ (List.mem_of_getElem? (i := 3) rfl)) (fun _ h9 => h9) rfl dX8_isTold_24 ?_
        refine lv_iload_n hx hb dX8_isTold_27 rfl (lv_at hl 0 rfl) ?_
        refine va_iald hx hb hK hP 2 0 rfl rfl (vp_in_nI (by omega) (by decide)) dX8_isTold_28 ?_
        obtain ⟨o_29, ho_29⟩ : ∃ z : Bool, z = v_X8_isDark x1 (f_tellPlace (nI i4).toNatClampNeg) (f_tellHour (nI i4).toNatClampNeg) := ⟨_, rfl⟩
        refine callSIs (As := [.int x1, .int (f_tellPlace (nI i4).toNatClampNeg), .int (f_tellHour (nI i4).toNatClampNeg)]) (rest := []) o_29 ho_29 hF (k_X8_isDark l D cI cZ x1 (f_tellPlace (nI i4).toNatClampNeg) (f_tellHour (nI i4).toNatClampNeg)) (va_cwS 3 hts gX8_isTold_X8_isDark rfl rfl rfl (by decide +kernel) ⟨Nat.le_of_ble_eq_true rfl, Nat.le_of_ble_eq_true rfl⟩) hK hN hP (va_Dsame hD rfl) hS hA [] rfl rfl rfl hl.1 rfl (Nat.le_of_ble_eq_true rfl) dX8_isTold_29 ⟨Nat.zero_le _, Nat.zero_le _⟩ (bI o_29) rfl rfl (fun H locs hP hS => ?_)
        refine lv_aload_n hx hb dX8_isTold_32 rfl (lv_at hl 2 rfl) ?_
        refine va_get (D := D) (ci := 8) (v := .ref a_tellDark) (C := RX8) (T := TX8) (N := 26) hx hb hts (fun _ h => List.mem_cons_of_mem _ (List.mem_append_right _ (h))) hown hK hP 0 rfl rfl 22 (by decide) (hts _ (List.mem_of_getElem? (i := 4) rfl)) (fun _ h9 => h9) rfl dX8_isTold_33 ?_
        refine lv_iload_n hx hb dX8_isTold_36 rfl (lv_at hl 0 rfl) ?_
        refine va_zald hx hb hK hP 3 1 rfl rfl (vp_in_nI (by omega) (by decide)) dX8_isTold_37 ?_
        refine lv_icmp_ne (tgt := 45) hx hb dX8_isTold_38 (by decide) (fun c_38 => ?_) (fun c_38 => ?_)
        · refine lv_iconst (v := 0) hx hb dX8_isTold_45 rfl ?_
          refine lv_istore_n (lv' := [(2, .int 0), (3, .int (nI i4)), (0, .ref a), (1, .int x1)]) hx hb dX8_isTold_46 rfl hl (by decide) rfl (fun ls hl => ?_)
          refine lv_iinc (v := (nI (i4 + 1))) (lv' := [(3, .int (nI (i4 + 1))), (2, .int 0), (0, .ref a), (1, .int x1)]) hx hb dX8_isTold_47 hl (k := 1) rfl (nI_1 _) (by decide) rfl (fun ls hl => ?_)
          refine lv_goto (tgt := 4) hx hb dX8_isTold_50 (by decide) ?_
          have e8 : v_X8_isTold_L4 x1 f_tellPlace f_tellHour f_tellDark i4 z4 = false := by
            refine (if_neg c_13).trans ?_
            refine (bnd_eq ho_29).trans ?_
            refine (if_neg c_38).trans ?_
            rfl
          exact ih (i4 + 1) false (by omega) (by omega) (it_go e8 hz) _ _ _ hP hS (lv_sub hl [0, 1, 2, 3] rfl)
        · refine lv_iconst (v := 1) hx hb dX8_isTold_41 rfl ?_
          refine lv_goto (tgt := 46) hx hb dX8_isTold_42 (by decide) ?_
          refine lv_istore_n (lv' := [(2, .int 1), (3, .int (nI i4)), (0, .ref a), (1, .int x1)]) hx hb dX8_isTold_46 rfl hl (by decide) rfl (fun ls hl => ?_)
          refine lv_iinc (v := (nI (i4 + 1))) (lv' := [(3, .int (nI (i4 + 1))), (2, .int 1), (0, .ref a), (1, .int x1)]) hx hb dX8_isTold_47 hl (k := 1) rfl (nI_1 _) (by decide) rfl (fun ls hl => ?_)
          refine lv_goto (tgt := 4) hx hb dX8_isTold_50 (by decide) ?_
          have e8 : v_X8_isTold_L4 x1 f_tellPlace f_tellHour f_tellDark i4 z4 = true := by
            refine (if_neg c_13).trans ?_
            refine (bnd_eq ho_29).trans ?_
            refine (if_pos c_38).trans ?_
            rfl
          exact ih (i4 + 1) true (by omega) (by omega) (it_go e8 hz) _ _ _ hP hS (lv_sub hl [0, 1, 2, 3] rfl)
  exact loop4 i_tells.toNatClampNeg 0 true (Nat.le_refl _) rfl ho_L4.symm _ _ _ hP hS (lv_sub hl [0, 1, 2, 3] rfl)
def v_X8_fits_L40c (x1 : Int32) (i_tells : Int32) (f_tellPlace : Nat → Int32) (f_tellHour : Nat → Int32) (f_tellDark : Nat → Int32) (i40 : Nat) (z40_1 : Int32) (z40_2 : Int32) (z40_3 : Int32) : Int32 × Int32 × Int32 :=
  bnd (v_X8_ones (nI i40)) fun o_50 =>
  (if o_50 = x1 then (bnd (v_X8_isTold (nI i40) i_tells f_tellPlace f_tellHour f_tellDark) fun o_60 =>
    (if bI o_60 = 0 then (z40_1, z40_2, z40_3)
    else ((z40_1 ||| nI i40), (z40_2 &&& nI i40), (z40_3 + 1))))
  else (z40_1, z40_2, z40_3))
def v_X8_fits_L40 (x1 : Int32) (i_tells : Int32) (f_tellPlace : Nat → Int32) (f_tellHour : Nat → Int32) (f_tellDark : Nat → Int32) (i40 : Nat) (z40 : Int32 × Int32 × Int32) : Int32 × Int32 × Int32 := v_X8_fits_L40c x1 i_tells f_tellPlace f_tellHour f_tellDark i40 z40.1 z40.2.1 z40.2.2
def v_X8_fits (x1 : Int32) (x2 : Int32) (i_tells : Int32) (f_tellPlace : Nat → Int32) (f_tellHour : Nat → Int32) (f_tellDark : Nat → Int32) : Int32 :=
  bnd (v_X8_in x1.toInt64 0 5) fun o_6 =>
  (if bI o_6 = 0 then (-2)
  else (bnd (v_X8_in x2.toInt64 0 2) fun o_18 =>
  (if bI o_18 = 0 then (-2)
  else (bnd3 (it (v_X8_fits_L40 x1 i_tells f_tellPlace f_tellHour f_tellDark) 4096 0 (0, 4095, 0)) fun o_L40_1 o_L40_2 o_L40_3 =>
  (if x2 = 0 then o_L40_3
  else (if o_L40_3 = 0 then (-9)
  else (if x2 = 1 then o_L40_2
  else (4095 - o_L40_1))))))))
abbrev rm_X8_fits : Room := { frames := 3, cells := 0, slots := 0, locals := 66 }
set_option maxHeartbeats 4000000 in
set_option maxRecDepth 100000 in
theorem k_X8_fits (l : Launch) (D : va_G) (cI cZ : ClassId) (a a_readWishes a_readOwed a_told a_owed a_text a_row a_least a_values a_tellPlace a_tellHour a_tellDark a_isKept a_kept : Nat) (x1 : Int32) (x2 : Int32) (i_readHung : Int32) (i_readMany : Int32) (i_readOwes : Int32) (i_wishes : Int32) (i_hung : Int32) (i_hour : Int32) (i_length : Int32) (i_at : Int32) (i_faultAt : Int32) (i_acts : Int32) (i_next : Int32) (i_tells : Int32) (j_seed : Int64) (f_tellPlace : Nat → Int32) (f_tellHour : Nat → Int32) (f_tellDark : Nat → Int32) (ht6 : i_tells.toNatClampNeg ≤ 6) : KI l D cI cZ yX8_fits wsX8_fits rm_X8_fits [.ref a, .int x1, .int x2] [(a, .inr (8, [.ref a_readWishes, .ref a_readOwed, .int i_readHung, .int i_readMany, .int i_readOwes, .ref a_told, .ref a_owed, .int i_wishes, .int i_hung, .int i_hour, .ref a_text, .int i_length, .int i_at, .int i_faultAt, .int i_acts, .int i_next, .ref a_row, .ref a_least, .ref a_values, .int i_tells, .ref a_tellPlace, .ref a_tellHour, .ref a_tellDark, .long j_seed, .ref a_isKept, .ref a_kept])), (a_tellPlace, .inl (cI, 6, .inl f_tellPlace)), (a_tellHour, .inl (cI, 6, .inl f_tellHour)), (a_tellDark, .inl (cZ, 6, .inl f_tellDark))] (v_X8_fits x1 x2 i_tells f_tellPlace f_tellHour f_tellDark) (fun o : Int32 => o) (fun _ : Int32 => [(a, .inr (8, [.ref a_readWishes, .ref a_readOwed, .int i_readHung, .int i_readMany, .int i_readOwes, .ref a_told, .ref a_owed, .int i_wishes, .int i_hung, .int i_hour, .ref a_text, .int i_length, .int i_at, .int i_faultAt, .int i_acts, .int i_next, .ref a_row, .ref a_least, .ref a_values, .int i_tells, .ref a_tellPlace, .ref a_tellHour, .ref a_tellDark, .long j_seed, .ref a_isKept, .ref a_kept])), (a_tellPlace, .inl (cI, 6, .inl f_tellPlace)), (a_tellHour, .inl (cI, 6, .inl f_tellHour)), (a_tellDark, .inl (cZ, 6, .inl f_tellDark))]) := by
  refine KI.of cX8_fits 7 (some .int) (by decide) rfl (Nat.le_of_ble_eq_true rfl) ?_
  intro p e s m below meth c A ls ar Q hQ B
  obtain ⟨hx, hb, hr, hml, hts, hown, hlk, hK, hN, hP, hD, hA, hS, hl⟩ := B
  have hown : s.vm.findClass RX8 = some m.cls := hown
  have hF : CallFix p m c cX8_fits 7 s ar wsX8_fits RX8 := ⟨hx, hb, hml, hown, hts⟩
  have hl : lv_has ls 7 [(0, .ref a), (1, .int x1), (2, .int x2)] := hl
  refine lv_iload_n hx hb dX8_fits_0 rfl (lv_at hl 1 rfl) ?_
  refine lv_i2l (v := x1.toInt64) hx hb dX8_fits_1 rfl ?_
  refine lv_lconst (v := 0) hx hb dX8_fits_2 rfl ?_
  refine lv_ldc2 (v := 5) hx hb hown (hts _ (List.mem_of_getElem? (i := 1) rfl)) dX8_fits_3 ?_
  obtain ⟨o_6, ho_6⟩ : ∃ z : Bool, z = v_X8_in x1.toInt64 0 5 := ⟨_, rfl⟩
  refine callSIs (As := [.long x1.toInt64, .long 0, .long 5]) (rest := []) o_6 ho_6 hF (k_X8_in l D cI cZ x1.toInt64 0 5) (va_cwS 3 hts gX8_fits_X8_in rfl rfl rfl (by decide +kernel) ⟨Nat.le_of_ble_eq_true rfl, Nat.le_of_ble_eq_true rfl⟩) hK hN hP (va_Dsame hD rfl) hS hA [] rfl rfl rfl hl.1 rfl (Nat.le_of_ble_eq_true rfl) dX8_fits_6 ⟨Nat.zero_le _, Nat.zero_le _⟩ (bI o_6) rfl rfl (fun H locs hP hS => ?_)
  refine lv_if_eq (tgt := 24) hx hb dX8_fits_9 (by decide) (fun c_9 => ?_) (fun c_9 => ?_)
  · refine lv_bipush (v := (-2)) hx hb dX8_fits_24 rfl ?_
    have e9 : v_X8_fits x1 x2 i_tells f_tellPlace f_tellHour f_tellDark = (-2) := by
      refine (bnd_eq ho_6).trans ?_
      refine (if_pos c_9).trans ?_
      rfl
    rw [hQ]; exact retI (-2) hx hb hr hlk e9 hP rfl hS dX8_fits_26
  · refine lv_iload_n hx hb dX8_fits_12 rfl (lv_at hl 2 rfl) ?_
    refine lv_i2l (v := x2.toInt64) hx hb dX8_fits_13 rfl ?_
    refine lv_lconst (v := 0) hx hb dX8_fits_14 rfl ?_
    refine lv_ldc2 (v := 2) hx hb hown (hts _ (List.mem_of_getElem? (i := 2) rfl)) dX8_fits_15 ?_
    obtain ⟨o_18, ho_18⟩ : ∃ z : Bool, z = v_X8_in x2.toInt64 0 2 := ⟨_, rfl⟩
    refine callSIs (As := [.long x2.toInt64, .long 0, .long 2]) (rest := []) o_18 ho_18 hF (k_X8_in l D cI cZ x2.toInt64 0 2) (va_cwS 3 hts gX8_fits_X8_in rfl rfl rfl (by decide +kernel) ⟨Nat.le_of_ble_eq_true rfl, Nat.le_of_ble_eq_true rfl⟩) hK hN hP (va_Dsame hD rfl) hS hA [] rfl rfl rfl hl.1 rfl (Nat.le_of_ble_eq_true rfl) dX8_fits_18 ⟨Nat.zero_le _, Nat.zero_le _⟩ (bI o_18) rfl rfl (fun H locs hP hS => ?_)
    refine lv_if_ne (tgt := 27) hx hb dX8_fits_21 (by decide) (fun c_21 => ?_) (fun c_21 => ?_)
    · refine lv_iconst (v := 0) hx hb dX8_fits_27 rfl ?_
      refine lv_istore_n (lv' := [(3, .int 0), (0, .ref a), (1, .int x1), (2, .int x2)]) hx hb dX8_fits_28 rfl hl (by decide) rfl (fun ls hl => ?_)
      refine lv_sipush (v := 4095) hx hb dX8_fits_29 rfl ?_
      refine lv_istore (lv' := [(4, .int 4095), (3, .int 0), (0, .ref a), (1, .int x1), (2, .int x2)]) hx hb dX8_fits_32 hl (by decide) rfl (fun ls hl => ?_)
      refine lv_iconst (v := 0) hx hb dX8_fits_34 rfl ?_
      refine lv_istore (lv' := [(5, .int 0), (4, .int 4095), (3, .int 0), (0, .ref a), (1, .int x1), (2, .int x2)]) hx hb dX8_fits_35 hl (by decide) rfl (fun ls hl => ?_)
      refine lv_iconst (v := 0) hx hb dX8_fits_37 rfl ?_
      refine lv_istore (lv' := [(6, .int 0), (5, .int 0), (4, .int 4095), (3, .int 0), (0, .ref a), (1, .int x1), (2, .int x2)]) hx hb dX8_fits_38 hl (by decide) rfl (fun ls hl => ?_)
      obtain ⟨o_L40_1, o_L40_2, o_L40_3, ho_L40⟩ := ex3 (it (v_X8_fits_L40 x1 i_tells f_tellPlace f_tellHour f_tellDark) 4096 0 (0, 4095, 0))
      have kE40 : ∀ (H : Heap) (locs : List Loc) (ls : Array Slot), va_P D vwCl [(a, .inr (8, [.ref a_readWishes, .ref a_readOwed, .int i_readHung, .int i_readMany, .int i_readOwes, .ref a_told, .ref a_owed, .int i_wishes, .int i_hung, .int i_hour, .ref a_text, .int i_length, .int i_at, .int i_faultAt, .int i_acts, .int i_next, .ref a_row, .ref a_least, .ref a_values, .int i_tells, .ref a_tellPlace, .ref a_tellHour, .ref a_tellDark, .long j_seed, .ref a_isKept, .ref a_kept])), (a_tellPlace, .inl (cI, 6, .inl f_tellPlace)), (a_tellHour, .inl (cI, 6, .inl f_tellHour)), (a_tellDark, .inl (cZ, 6, .inl f_tellDark))] H → va_S A s.heap H locs → lv_has ls 7 [(5, .int o_L40_1), (4, .int o_L40_2), (3, .int o_L40_3), (2, .int x2)] → W p l e rm_X8_fits s m ar below meth c H locs 0 0 Q (F0 m 89 ls []) := by
        intro H locs ls hP hS hl
        refine lv_iload_n hx hb dX8_fits_89 rfl (lv_at hl 3 rfl) ?_
        refine lv_if_ne (tgt := 97) hx hb dX8_fits_90 (by decide) (fun c_90 => ?_) (fun c_90 => ?_)
        · refine lv_iload_n hx hb dX8_fits_97 rfl (lv_at hl 2 rfl) ?_
          refine lv_if_ne (tgt := 106) hx hb dX8_fits_98 (by decide) (fun c_98 => ?_) (fun c_98 => ?_)
          · refine lv_iload_n hx hb dX8_fits_106 rfl (lv_at hl 3 rfl) ?_
            refine lv_iconst (v := 1) hx hb dX8_fits_107 rfl ?_
            refine lv_icmp_ne (tgt := 116) hx hb dX8_fits_108 (by decide) (fun c_108 => ?_) (fun c_108 => ?_)
            · refine lv_sipush (v := 4095) hx hb dX8_fits_116 rfl ?_
              refine lv_iload hx hb dX8_fits_119 (lv_at hl 0 rfl) ?_
              refine lv_isub hx hb dX8_fits_121 ?_
              have e9 : v_X8_fits x1 x2 i_tells f_tellPlace f_tellHour f_tellDark = (4095 - o_L40_1) := by
                refine (bnd_eq ho_6).trans ?_
                refine (if_neg c_9).trans ?_
                refine (bnd_eq ho_18).trans ?_
                refine (if_neg c_21).trans ?_
                refine (bnd3_eq ho_L40).trans ?_
                refine (if_neg c_90).trans ?_
                refine (if_neg c_98).trans ?_
                refine (if_neg c_108).trans ?_
                rfl
              rw [hQ]; exact retI (4095 - o_L40_1) hx hb hr hlk e9 hP rfl hS dX8_fits_122
            · refine lv_iload hx hb dX8_fits_111 (lv_at hl 1 rfl) ?_
              refine lv_goto (tgt := 122) hx hb dX8_fits_113 (by decide) ?_
              have e9 : v_X8_fits x1 x2 i_tells f_tellPlace f_tellHour f_tellDark = o_L40_2 := by
                refine (bnd_eq ho_6).trans ?_
                refine (if_neg c_9).trans ?_
                refine (bnd_eq ho_18).trans ?_
                refine (if_neg c_21).trans ?_
                refine (bnd3_eq ho_L40).trans ?_
                refine (if_neg c_90).trans ?_
                refine (if_neg c_98).trans ?_
                refine (if_pos c_108).trans ?_
                rfl
              rw [hQ]; exact retI o_L40_2 hx hb hr hlk e9 hP rfl hS dX8_fits_122
          · refine lv_bipush (v := (-9)) hx hb dX8_fits_101 rfl ?_
            refine lv_goto (tgt := 122) hx hb dX8_fits_103 (by decide) ?_
            have e9 : v_X8_fits x1 x2 i_tells f_tellPlace f_tellHour f_tellDark = (-9) := by
              refine (bnd_eq ho_6).trans ?_
              refine (if_neg c_9).trans ?_
              refine (bnd_eq ho_18).trans ?_
              refine (if_neg c_21).trans ?_
              refine (bnd3_eq ho_L40).trans ?_
              refine (if_neg c_90).trans ?_
              refine (if_pos c_98).trans ?_
              rfl
            rw [hQ]; exact retI (-9) hx hb hr hlk e9 hP rfl hS dX8_fits_122
        · refine lv_iload_n hx hb dX8_fits_93 rfl (lv_at hl 2 rfl) ?_
          refine lv_goto (tgt := 122) hx hb dX8_fits_94 (by decide) ?_
          have e9 : v_X8_fits x1 x2 i_tells f_tellPlace f_tellHour f_tellDark = o_L40_3 := by
            refine (bnd_eq ho_6).trans ?_
            refine (if_neg c_9).trans ?_
            refine (bnd_eq ho_18).trans ?_
            refine (if_neg c_21).trans ?_
            refine (bnd3_eq ho_L40).trans ?_
            refine (if_pos c_90).trans ?_
            rfl
          rw [hQ]; exact retI o_L40_3 hx hb hr hlk e9 hP rfl hS dX8_fits_122
      have loop40 : ∀ (k i40 : Nat) (z40 : Int32 × Int32 × Int32), 0 ≤ i40 → i40 + k = 0 + 4096 → it (v_X8_fits_L40 x1 i_tells f_tellPlace f_tellHour f_tellDark) k i40 z40 = (o_L40_1, o_L40_2, o_L40_3) → ∀ (H : Heap) (locs : List Loc) (ls : Array Slot), va_P D vwCl [(a, .inr (8, [.ref a_readWishes, .ref a_readOwed, .int i_readHung, .int i_readMany, .int i_readOwes, .ref a_told, .ref a_owed, .int i_wishes, .int i_hung, .int i_hour, .ref a_text, .int i_length, .int i_at, .int i_faultAt, .int i_acts, .int i_next, .ref a_row, .ref a_least, .ref a_values, .int i_tells, .ref a_tellPlace, .ref a_tellHour, .ref a_tellDark, .long j_seed, .ref a_isKept, .ref a_kept])), (a_tellPlace, .inl (cI, 6, .inl f_tellPlace)), (a_tellHour, .inl (cI, 6, .inl f_tellHour)), (a_tellDark, .inl (cZ, 6, .inl f_tellDark))] H → va_S A s.heap H locs → lv_has ls 7 [(6, .int (nI i40)), (5, .int z40.1), (4, .int z40.2.1), (3, .int z40.2.2), (0, .ref a), (1, .int x1), (2, .int x2)] → W p l e rm_X8_fits s m ar below meth c H locs 0 0 Q (F0 m 40 ls []) := by
        intro k
        induction k with
        | zero =>
          intro i40 z40 hi0 hik hz H locs ls hP hS hl
          have hz : z40 = (o_L40_1, o_L40_2, o_L40_3) := it_0 hz
          subst z40
          have hP : va_P D vwCl [(a, .inr (8, [.ref a_readWishes, .ref a_readOwed, .int i_readHung, .int i_readMany, .int i_readOwes, .ref a_told, .ref a_owed, .int i_wishes, .int i_hung, .int i_hour, .ref a_text, .int i_length, .int i_at, .int i_faultAt, .int i_acts, .int i_next, .ref a_row, .ref a_least, .ref a_values, .int i_tells, .ref a_tellPlace, .ref a_tellHour, .ref a_tellDark, .long j_seed, .ref a_isKept, .ref a_kept])), (a_tellPlace, .inl (cI, 6, .inl f_tellPlace)), (a_tellHour, .inl (cI, 6, .inl f_tellHour)), (a_tellDark, .inl (cZ, 6, .inl f_tellDark))] H := hP
          have hl : lv_has ls 7 [(6, .int (nI i40)), (5, .int o_L40_1), (4, .int o_L40_2), (3, .int o_L40_3), (0, .ref a), (1, .int x1), (2, .int x2)] := hl
          refine lv_iload hx hb dX8_fits_40 (lv_at hl 0 rfl) ?_
          refine lv_sipush (v := 4096) hx hb dX8_fits_42 rfl ?_
          refine lv_icmp_ge (tgt := 89) hx hb dX8_fits_45 (by decide) (fun _ => ?_) (fun c => absurd (nI_le (a := 4096) (by omega) (by omega)) c)
          exact kE40 _ _ _ hP hS (lv_sub hl [1, 2, 3, 6] rfl)
        | succ k ih =>
          intro i40 z40 hi0 hik hz H locs ls hP hS hl
          obtain ⟨z40_1, z40_2, z40_3⟩ := z40
          have hP : va_P D vwCl [(a, .inr (8, [.ref a_readWishes, .ref a_readOwed, .int i_readHung, .int i_readMany, .int i_readOwes, .ref a_told, .ref a_owed, .int i_wishes, .int i_hung, .int i_hour, .ref a_text, .int i_length, .int i_at, .int i_faultAt, .int i_acts, .int i_next, .ref a_row, .ref a_least, .ref a_values, .int i_tells, .ref a_tellPlace, .ref a_tellHour, .ref a_tellDark, .long j_seed, .ref a_isKept, .ref a_kept])), (a_tellPlace, .inl (cI, 6, .inl f_tellPlace)), (a_tellHour, .inl (cI, 6, .inl f_tellHour)), (a_tellDark, .inl (cZ, 6, .inl f_tellDark))] H := hP
          have hl : lv_has ls 7 [(6, .int (nI i40)), (5, .int z40_1), (4, .int z40_2), (3, .int z40_3), (0, .ref a), (1, .int x1), (2, .int x2)] := hl
          refine lv_iload hx hb dX8_fits_40 (lv_at hl 0 rfl) ?_
          refine lv_sipush (v := 4096) hx hb dX8_fits_42 rfl ?_
          refine lv_icmp_ge (tgt := 89) hx hb dX8_fits_45 (by decide) (fun c => absurd c (nI_ge (b := 4096) (by omega) (by decide))) (fun _ => ?_)
          refine lv_iload hx hb dX8_fits_48 (lv_at hl 0 rfl) ?_
          obtain ⟨o_50, ho_50⟩ : ∃ z : Int32, z = v_X8_ones (nI i40) := ⟨_, rfl⟩
          refine callSIs (As := [.int (nI i40)]) (rest := []) o_50 ho_50 hF (k_X8_ones l D cI cZ (nI i40)) (va_cwS 1 hts gX8_fits_X8_ones rfl rfl rfl (by decide +kernel) ⟨Nat.le_of_ble_eq_true rfl, Nat.le_of_ble_eq_true rfl⟩) hK hN hP (va_Dsame hD rfl) hS hA [] rfl rfl rfl hl.1 rfl (Nat.le_of_ble_eq_true rfl) dX8_fits_50 ⟨Nat.zero_le _, Nat.zero_le _⟩ o_50 rfl rfl (fun H locs hP hS => ?_)
          refine lv_iload_n hx hb dX8_fits_53 rfl (lv_at hl 5 rfl) ?_
          refine lv_icmp_ne (tgt := 83) hx hb dX8_fits_54 (by decide) (fun c_54 => ?_) (fun c_54 => ?_)
          · refine lv_iinc (v := (nI (i40 + 1))) (lv' := [(6, .int (nI (i40 + 1))), (5, .int z40_1), (4, .int z40_2), (3, .int z40_3), (0, .ref a), (1, .int x1), (2, .int x2)]) hx hb dX8_fits_83 hl (k := 0) rfl (nI_1 _) (by decide) rfl (fun ls hl => ?_)
            refine lv_goto (tgt := 40) hx hb dX8_fits_86 (by decide) ?_
            have e8 : v_X8_fits_L40 x1 i_tells f_tellPlace f_tellHour f_tellDark i40 (z40_1, z40_2, z40_3) = (z40_1, z40_2, z40_3) := by
              show v_X8_fits_L40c x1 i_tells f_tellPlace f_tellHour f_tellDark i40 z40_1 z40_2 z40_3 = (z40_1, z40_2, z40_3)
              refine (bnd_eq ho_50).trans ?_
              refine (if_neg c_54).trans ?_
              rfl
            exact ih (i40 + 1) (z40_1, z40_2, z40_3) (by omega) (by omega) (it_go e8 hz) _ _ _ hP hS (lv_sub hl [0, 1, 2, 3, 4, 5, 6] rfl)
          · refine lv_aload_n hx hb dX8_fits_57 rfl (lv_at hl 4 rfl) ?_
            refine lv_iload hx hb dX8_fits_58 (lv_at hl 0 rfl) ?_
            obtain ⟨o_60, ho_60⟩ : ∃ z : Bool, z = v_X8_isTold (nI i40) i_tells f_tellPlace f_tellHour f_tellDark := ⟨_, rfl⟩
            refine callVIs (As := [.int (nI i40)]) (rest := []) o_60 ho_60 hF (k_X8_isTold l D cI cZ a a_readWishes a_readOwed a_told a_owed a_text a_row a_least a_values a_tellPlace a_tellHour a_tellDark a_isKept a_kept (nI i40) i_readHung i_readMany i_readOwes i_wishes i_hung i_hour i_length i_at i_faultAt i_acts i_next i_tells j_seed f_tellPlace f_tellHour f_tellDark (ht6)) (cwV 1 hts gX8_fits_X8_isTold rfl rfl rfl (by decide +kernel) ⟨Nat.le_of_ble_eq_true rfl, Nat.le_of_ble_eq_true rfl⟩) hK hN hP (va_Dsame hD rfl) hS hA [0, 1, 2, 3] rfl rfl 0 8 (T := TX8) (N := 26) rfl rfl rfl hl.1 rfl (Nat.le_of_ble_eq_true rfl) dX8_fits_60 ⟨Nat.zero_le _, Nat.zero_le _⟩ (bI o_60) rfl rfl (fun H locs hP hS => ?_)
            refine lv_if_eq (tgt := 83) hx hb dX8_fits_63 (by decide) (fun c_63 => ?_) (fun c_63 => ?_)
            · refine lv_iinc (v := (nI (i40 + 1))) (lv' := [(6, .int (nI (i40 + 1))), (5, .int z40_1), (4, .int z40_2), (3, .int z40_3), (0, .ref a), (1, .int x1), (2, .int x2)]) hx hb dX8_fits_83 hl (k := 0) rfl (nI_1 _) (by decide) rfl (fun ls hl => ?_)
              refine lv_goto (tgt := 40) hx hb dX8_fits_86 (by decide) ?_
              have e8 : v_X8_fits_L40 x1 i_tells f_tellPlace f_tellHour f_tellDark i40 (z40_1, z40_2, z40_3) = (z40_1, z40_2, z40_3) := by
                show v_X8_fits_L40c x1 i_tells f_tellPlace f_tellHour f_tellDark i40 z40_1 z40_2 z40_3 = (z40_1, z40_2, z40_3)
                refine (bnd_eq ho_50).trans ?_
                refine (if_pos c_54).trans ?_
                refine (bnd_eq ho_60).trans ?_
                refine (if_pos c_63).trans ?_
                rfl
              exact ih (i40 + 1) (z40_1, z40_2, z40_3) (by omega) (by omega) (it_go e8 hz) _ _ _ hP hS (lv_sub hl [0, 1, 2, 3, 4, 5, 6] rfl)
            · refine lv_iinc (v := (z40_3 + 1)) (lv' := [(3, .int (z40_3 + 1)), (6, .int (nI i40)), (5, .int z40_1), (4, .int z40_2), (0, .ref a), (1, .int x1), (2, .int x2)]) hx hb dX8_fits_66 hl (k := 3) rfl rfl (by decide) rfl (fun ls hl => ?_)
              refine lv_iload hx hb dX8_fits_69 (lv_at hl 3 rfl) ?_
              refine lv_iload hx hb dX8_fits_71 (lv_at hl 1 rfl) ?_
              refine lv_iand hx hb dX8_fits_73 ?_
              refine lv_istore (lv' := [(4, .int (z40_2 &&& nI i40)), (3, .int (z40_3 + 1)), (6, .int (nI i40)), (5, .int z40_1), (0, .ref a), (1, .int x1), (2, .int x2)]) hx hb dX8_fits_74 hl (by decide) rfl (fun ls hl => ?_)
              refine lv_iload hx hb dX8_fits_76 (lv_at hl 3 rfl) ?_
              refine lv_iload hx hb dX8_fits_78 (lv_at hl 2 rfl) ?_
              refine lv_ior hx hb dX8_fits_80 ?_
              refine lv_istore (lv' := [(5, .int (z40_1 ||| nI i40)), (4, .int (z40_2 &&& nI i40)), (3, .int (z40_3 + 1)), (6, .int (nI i40)), (0, .ref a), (1, .int x1), (2, .int x2)]) hx hb dX8_fits_81 hl (by decide) rfl (fun ls hl => ?_)
              refine lv_iinc (v := (nI (i40 + 1))) (lv' := [(6, .int (nI (i40 + 1))), (5, .int (z40_1 ||| nI i40)), (4, .int (z40_2 &&& nI i40)), (3, .int (z40_3 + 1)), (0, .ref a), (1, .int x1), (2, .int x2)]) hx hb dX8_fits_83 hl (k := 3) rfl (nI_1 _) (by decide) rfl (fun ls hl => ?_)
              refine lv_goto (tgt := 40) hx hb dX8_fits_86 (by decide) ?_
              have e8 : v_X8_fits_L40 x1 i_tells f_tellPlace f_tellHour f_tellDark i40 (z40_1, z40_2, z40_3) = ((z40_1 ||| nI i40), (z40_2 &&& nI i40), (z40_3 + 1)) := by
                show v_X8_fits_L40c x1 i_tells f_tellPlace f_tellHour f_tellDark i40 z40_1 z40_2 z40_3 = ((z40_1 ||| nI i40), (z40_2 &&& nI i40), (z40_3 + 1))
                refine (bnd_eq ho_50).trans ?_
                refine (if_pos c_54).trans ?_
                refine (bnd_eq ho_60).trans ?_
                refine (if_neg c_63).trans ?_
                rfl
              exact ih (i40 + 1) ((z40_1 ||| nI i40), (z40_2 &&& nI i40), (z40_3 + 1)) (by omega) (by omega) (it_go e8 hz) _ _ _ hP hS (lv_sub hl [0, 1, 2, 3, 4, 5, 6] rfl)
      exact loop40 4096 0 (0, 4095, 0) (Nat.le_refl _) rfl ho_L40.symm _ _ _ hP hS (lv_sub hl [0, 1, 2, 3, 4, 5, 6] rfl)
    · refine lv_bipush (v := (-2)) hx hb dX8_fits_24 rfl ?_
      have e9 : v_X8_fits x1 x2 i_tells f_tellPlace f_tellHour f_tellDark = (-2) := by
        refine (bnd_eq ho_6).trans ?_
        refine (if_neg c_9).trans ?_
        refine (bnd_eq ho_18).trans ?_
        refine (if_pos c_21).trans ?_
        rfl
      rw [hQ]; exact retI (-2) hx hb hr hlk e9 hP rfl hS dX8_fits_26
def v_X8_wind_L49c (x1 : Int32) (i_hung : Int32) (i32 : Nat) (i49 : Nat) (z49_1 : Int32) (z49_2 : Int32) : Int32 × Int32 :=
  bnd (v_X8_has (nI i32) (nI i49)) fun o_61 =>
  (if bI o_61 = 0 then (bnd (v_X8_has (nI i32) (nI i49)) fun o_84 =>
    (if bI o_84 = 0 then ((z49_1 ||| 0), (z49_2 * x1))
    else (bnd (v_X8_ofSet i_hung (nI i49)) fun o_97 =>
    ((z49_1 ||| ((1 : Int32) <<< (o_97 &&& 31))), (z49_2 * x1)))))
  else (bnd (v_X8_has (nI i32) (nI i49)) fun o_84 =>
  (if bI o_84 = 0 then ((z49_1 ||| 0), (z49_2 * (10 - x1)))
  else (bnd (v_X8_ofSet i_hung (nI i49)) fun o_97 =>
  ((z49_1 ||| ((1 : Int32) <<< (o_97 &&& 31))), (z49_2 * (10 - x1)))))))
def v_X8_wind_L49 (x1 : Int32) (i_hung : Int32) (i32 : Nat) (i49 : Nat) (z49 : Int32 × Int32) : Int32 × Int32 := v_X8_wind_L49c x1 i_hung i32 i49 z49.1 z49.2
def v_X8_wind_L32c (x1 : Int32) (i_wishes : Int32) (i_hung : Int32) (f_told : Nat → Int32) (o_19 : Int32) (i32 : Nat) (z32_1 : Int32) (z32_2 : Int32) : Int32 × Int32 :=
  bnd2 (it (v_X8_wind_L49 x1 i_hung i32) o_19.toNatClampNeg 0 (0, 1)) fun o_L49_1 o_L49_2 =>
  (bnd (v_X8_granted o_L49_1 i_wishes f_told) fun o_129 =>
  (bnd (v_X8_worthOf o_129 i_wishes f_told) fun o_132 =>
  ((z32_1 + o_L49_2), (z32_2 + (o_L49_2 * o_132)))))
def v_X8_wind_L32 (x1 : Int32) (i_wishes : Int32) (i_hung : Int32) (f_told : Nat → Int32) (o_19 : Int32) (i32 : Nat) (z32 : Int32 × Int32) : Int32 × Int32 := v_X8_wind_L32c x1 i_wishes i_hung f_told o_19 i32 z32.1 z32.2
def v_X8_wind (x1 : Int32) (b2 : Bool) (i_wishes : Int32) (i_hung : Int32) (f_told : Nat → Int32) : Int32 :=
  bnd (v_X8_in x1.toInt64 0 10) fun o_6 =>
  (if bI o_6 = 0 then (-2)
  else (bnd (v_X8_ones i_hung) fun o_19 =>
  (bnd2 (it (v_X8_wind_L32 x1 i_wishes i_hung f_told o_19) ((1 : Int32) <<< (o_19 &&& 31)).toNatClampNeg 0 (0, 0)) fun o_L32_1 o_L32_2 =>
  (if bI b2 = 0 then (bnd (v_X8_common o_L32_2 o_L32_1) fun o_168 =>
    (o_L32_1 / o_168))
  else (bnd (v_X8_common o_L32_2 o_L32_1) fun o_155 =>
  (o_L32_2 / o_155))))))
abbrev rm_X8_wind : Room := { frames := 5, cells := 0, slots := 0, locals := 113 }
set_option maxHeartbeats 4000000 in
set_option maxRecDepth 100000 in
theorem k_X8_wind (l : Launch) (D : va_G) (cI cZ : ClassId) (a a_readWishes a_readOwed a_told a_owed a_text a_row a_least a_values a_tellPlace a_tellHour a_tellDark a_isKept a_kept : Nat) (x1 : Int32) (b2 : Bool) (i_readHung : Int32) (i_readMany : Int32) (i_readOwes : Int32) (i_wishes : Int32) (i_hung : Int32) (i_hour : Int32) (i_length : Int32) (i_at : Int32) (i_faultAt : Int32) (i_acts : Int32) (i_next : Int32) (i_tells : Int32) (j_seed : Int64) (f_told : Nat → Int32) (hw : ∃ k : Nat, k ≤ 5 ∧ i_wishes = nI k) (hd : ∀ o_6 : Bool, o_6 = v_X8_in x1.toInt64 0 10 → ¬ bI o_6 = 0 → ∀ o_19 : Int32, o_19 = v_X8_ones i_hung → ¬ (it (v_X8_wind_L32 x1 i_wishes i_hung f_told o_19) ((1 : Int32) <<< (o_19 &&& 31)).toNatClampNeg 0 (0, 0)).1 = 0) : KI l D cI cZ yX8_wind wsX8_wind rm_X8_wind [.ref a, .int x1, .int (bI b2)] [(a, .inr (8, [.ref a_readWishes, .ref a_readOwed, .int i_readHung, .int i_readMany, .int i_readOwes, .ref a_told, .ref a_owed, .int i_wishes, .int i_hung, .int i_hour, .ref a_text, .int i_length, .int i_at, .int i_faultAt, .int i_acts, .int i_next, .ref a_row, .ref a_least, .ref a_values, .int i_tells, .ref a_tellPlace, .ref a_tellHour, .ref a_tellDark, .long j_seed, .ref a_isKept, .ref a_kept])), (a_told, .inl (cI, 25, .inl f_told))] (v_X8_wind x1 b2 i_wishes i_hung f_told) (fun o : Int32 => o) (fun _ : Int32 => [(a, .inr (8, [.ref a_readWishes, .ref a_readOwed, .int i_readHung, .int i_readMany, .int i_readOwes, .ref a_told, .ref a_owed, .int i_wishes, .int i_hung, .int i_hour, .ref a_text, .int i_length, .int i_at, .int i_faultAt, .int i_acts, .int i_next, .ref a_row, .ref a_least, .ref a_values, .int i_tells, .ref a_tellPlace, .ref a_tellHour, .ref a_tellDark, .long j_seed, .ref a_isKept, .ref a_kept])), (a_told, .inl (cI, 25, .inl f_told))]) := by
  refine KI.of cX8_wind 10 (some .int) (by decide) rfl (Nat.le_of_ble_eq_true rfl) ?_
  intro p e s m below meth c A ls ar Q hQ B
  obtain ⟨hx, hb, hr, hml, hts, hown, hlk, hK, hN, hP, hD, hA, hS, hl⟩ := B
  have hown : s.vm.findClass RX8 = some m.cls := hown
  have hF : CallFix p m c cX8_wind 10 s ar wsX8_wind RX8 := ⟨hx, hb, hml, hown, hts⟩
  have hl : lv_has ls 10 [(0, .ref a), (1, .int x1), (2, .int (bI b2))] := hl
  refine lv_iload_n hx hb dX8_wind_0 rfl (lv_at hl 1 rfl) ?_
  refine lv_i2l (v := x1.toInt64) hx hb dX8_wind_1 rfl ?_
  refine lv_lconst (v := 0) hx hb dX8_wind_2 rfl ?_
  refine lv_ldc2 (v := 10) hx hb hown (hts _ (List.mem_of_getElem? (i := 1) rfl)) dX8_wind_3 ?_
  obtain ⟨o_6, ho_6⟩ : ∃ z : Bool, z = v_X8_in x1.toInt64 0 10 := ⟨_, rfl⟩
  refine callSIs (As := [.long x1.toInt64, .long 0, .long 10]) (rest := []) o_6 ho_6 hF (k_X8_in l D cI cZ x1.toInt64 0 10) (va_cwS 3 hts gX8_wind_X8_in rfl rfl rfl (by decide +kernel) ⟨Nat.le_of_ble_eq_true rfl, Nat.le_of_ble_eq_true rfl⟩) hK hN hP (va_Dsame hD rfl) hS hA [] rfl rfl rfl hl.1 rfl (Nat.le_of_ble_eq_true rfl) dX8_wind_6 ⟨Nat.zero_le _, Nat.zero_le _⟩ (bI o_6) rfl rfl (fun H locs hP hS => ?_)
  refine lv_if_ne (tgt := 15) hx hb dX8_wind_9 (by decide) (fun c_9 => ?_) (fun c_9 => ?_)
  · refine lv_aload_n hx hb dX8_wind_15 rfl (lv_at hl 0 rfl) ?_
    refine va_get (D := D) (ci := 8) (v := .int i_hung) (C := RX8) (T := TX8) (N := 26) hx hb hts (fun _ h => List.mem_cons_of_mem _ (List.mem_append_right _ (h))) hown hK hP 0 rfl rfl 8 (by decide) (hts _ (List.mem_of_getElem? (i := 2) rfl)) (fun _ h9 => h9) rfl dX8_wind_16 ?_
    obtain ⟨o_19, ho_19⟩ : ∃ z : Int32, z = v_X8_ones i_hung := ⟨_, rfl⟩
    refine callSIs (As := [.int i_hung]) (rest := []) o_19 ho_19 hF (k_X8_ones l D cI cZ i_hung) (va_cwS 1 hts gX8_wind_X8_ones rfl rfl rfl (by decide +kernel) ⟨Nat.le_of_ble_eq_true rfl, Nat.le_of_ble_eq_true rfl⟩) hK hN hP (va_Dsame hD rfl) hS hA [] rfl rfl rfl hl.1 rfl (Nat.le_of_ble_eq_true rfl) dX8_wind_19 ⟨Nat.zero_le _, Nat.zero_le _⟩ o_19 rfl rfl (fun H locs hP hS => ?_)
    refine lv_istore_n (lv' := [(3, .int o_19), (0, .ref a), (1, .int x1), (2, .int (bI b2))]) hx hb dX8_wind_22 rfl hl (by decide) rfl (fun ls hl => ?_)
    refine lv_iconst (v := 0) hx hb dX8_wind_23 rfl ?_
    refine lv_istore (lv' := [(4, .int 0), (3, .int o_19), (0, .ref a), (1, .int x1), (2, .int (bI b2))]) hx hb dX8_wind_24 hl (by decide) rfl (fun ls hl => ?_)
    refine lv_iconst (v := 0) hx hb dX8_wind_26 rfl ?_
    refine lv_istore (lv' := [(5, .int 0), (4, .int 0), (3, .int o_19), (0, .ref a), (1, .int x1), (2, .int (bI b2))]) hx hb dX8_wind_27 hl (by decide) rfl (fun ls hl => ?_)
    refine lv_iconst (v := 0) hx hb dX8_wind_29 rfl ?_
    refine lv_istore (lv' := [(6, .int 0), (5, .int 0), (4, .int 0), (3, .int o_19), (0, .ref a), (1, .int x1), (2, .int (bI b2))]) hx hb dX8_wind_30 hl (by decide) rfl (fun ls hl => ?_)
    obtain ⟨o_L32_1, o_L32_2, ho_L32⟩ := ex2 (it (v_X8_wind_L32 x1 i_wishes i_hung f_told o_19) ((1 : Int32) <<< (o_19 &&& 31)).toNatClampNeg 0 (0, 0))
    have kE32 : ∀ (H : Heap) (locs : List Loc) (ls : Array Slot), va_P D vwCl [(a, .inr (8, [.ref a_readWishes, .ref a_readOwed, .int i_readHung, .int i_readMany, .int i_readOwes, .ref a_told, .ref a_owed, .int i_wishes, .int i_hung, .int i_hour, .ref a_text, .int i_length, .int i_at, .int i_faultAt, .int i_acts, .int i_next, .ref a_row, .ref a_least, .ref a_values, .int i_tells, .ref a_tellPlace, .ref a_tellHour, .ref a_tellDark, .long j_seed, .ref a_isKept, .ref a_kept])), (a_told, .inl (cI, 25, .inl f_told))] H → va_S A s.heap H locs → lv_has ls 10 [(5, .int o_L32_1), (4, .int o_L32_2), (2, .int (bI b2))] → W p l e rm_X8_wind s m ar below meth c H locs 0 0 Q (F0 m 145 ls []) := by
      intro H locs ls hP hS hl
      refine lv_iload_n hx hb dX8_wind_145 rfl (lv_at hl 2 rfl) ?_
      refine lv_if_eq (tgt := 162) hx hb dX8_wind_146 (by decide) (fun c_146 => ?_) (fun c_146 => ?_)
      · refine lv_iload hx hb dX8_wind_162 (lv_at hl 0 rfl) ?_
        refine lv_iload hx hb dX8_wind_164 (lv_at hl 1 rfl) ?_
        refine lv_iload hx hb dX8_wind_166 (lv_at hl 0 rfl) ?_
        obtain ⟨o_168, ho_168⟩ : ∃ z : Int32, z = v_X8_common o_L32_2 o_L32_1 := ⟨_, rfl⟩
        refine callSIs (As := [.int o_L32_2, .int o_L32_1]) (rest := [.int o_L32_1]) o_168 ho_168 hF (k_X8_common l D cI cZ o_L32_2 o_L32_1) (va_cwS 2 hts gX8_wind_X8_common rfl rfl rfl (by decide +kernel) ⟨Nat.le_of_ble_eq_true rfl, Nat.le_of_ble_eq_true rfl⟩) hK hN hP (va_Dsame hD rfl) hS hA [] rfl rfl rfl hl.1 rfl (Nat.le_of_ble_eq_true rfl) dX8_wind_168 ⟨Nat.zero_le _, Nat.zero_le _⟩ o_168 rfl rfl (fun H locs hP hS => ?_)
        refine lv_idiv hx hb dX8_wind_171 (by rw [ho_168]; exact common_ne (by have h9 := hd o_6 ho_6 c_9 o_19 ho_19; rw [← ho_L32] at h9; exact h9)) ?_
        have e9 : v_X8_wind x1 b2 i_wishes i_hung f_told = (o_L32_1 / o_168) := by
          refine (bnd_eq ho_6).trans ?_
          refine (if_neg c_9).trans ?_
          refine (bnd_eq ho_19).trans ?_
          refine (bnd2_eq ho_L32).trans ?_
          refine (if_pos c_146).trans ?_
          refine (bnd_eq ho_168).trans ?_
          rfl
        rw [hQ]; exact retI (o_L32_1 / o_168) hx hb hr hlk e9 hP rfl hS dX8_wind_172
      · refine lv_iload hx hb dX8_wind_149 (lv_at hl 1 rfl) ?_
        refine lv_iload hx hb dX8_wind_151 (lv_at hl 1 rfl) ?_
        refine lv_iload hx hb dX8_wind_153 (lv_at hl 0 rfl) ?_
        obtain ⟨o_155, ho_155⟩ : ∃ z : Int32, z = v_X8_common o_L32_2 o_L32_1 := ⟨_, rfl⟩
        refine callSIs (As := [.int o_L32_2, .int o_L32_1]) (rest := [.int o_L32_2]) o_155 ho_155 hF (k_X8_common l D cI cZ o_L32_2 o_L32_1) (va_cwS 2 hts gX8_wind_X8_common rfl rfl rfl (by decide +kernel) ⟨Nat.le_of_ble_eq_true rfl, Nat.le_of_ble_eq_true rfl⟩) hK hN hP (va_Dsame hD rfl) hS hA [] rfl rfl rfl hl.1 rfl (Nat.le_of_ble_eq_true rfl) dX8_wind_155 ⟨Nat.zero_le _, Nat.zero_le _⟩ o_155 rfl rfl (fun H locs hP hS => ?_)
        refine lv_idiv hx hb dX8_wind_158 (by rw [ho_155]; exact common_ne (by have h9 := hd o_6 ho_6 c_9 o_19 ho_19; rw [← ho_L32] at h9; exact h9)) ?_
        refine lv_goto (tgt := 172) hx hb dX8_wind_159 (by decide) ?_
        have e9 : v_X8_wind x1 b2 i_wishes i_hung f_told = (o_L32_2 / o_155) := by
          refine (bnd_eq ho_6).trans ?_
          refine (if_neg c_9).trans ?_
          refine (bnd_eq ho_19).trans ?_
          refine (bnd2_eq ho_L32).trans ?_
          refine (if_neg c_146).trans ?_
          refine (bnd_eq ho_155).trans ?_
          rfl
        rw [hQ]; exact retI (o_L32_2 / o_155) hx hb hr hlk e9 hP rfl hS dX8_wind_172
    have loop32 : ∀ (k i32 : Nat) (z32 : Int32 × Int32), 0 ≤ i32 → i32 + k = 0 + ((1 : Int32) <<< (o_19 &&& 31)).toNatClampNeg → it (v_X8_wind_L32 x1 i_wishes i_hung f_told o_19) k i32 z32 = (o_L32_1, o_L32_2) → ∀ (H : Heap) (locs : List Loc) (ls : Array Slot), va_P D vwCl [(a, .inr (8, [.ref a_readWishes, .ref a_readOwed, .int i_readHung, .int i_readMany, .int i_readOwes, .ref a_told, .ref a_owed, .int i_wishes, .int i_hung, .int i_hour, .ref a_text, .int i_length, .int i_at, .int i_faultAt, .int i_acts, .int i_next, .ref a_row, .ref a_least, .ref a_values, .int i_tells, .ref a_tellPlace, .ref a_tellHour, .ref a_tellDark, .long j_seed, .ref a_isKept, .ref a_kept])), (a_told, .inl (cI, 25, .inl f_told))] H → va_S A s.heap H locs → lv_has ls 10 [(6, .int (nI i32)), (5, .int z32.1), (4, .int z32.2), (3, .int o_19), (0, .ref a), (1, .int x1), (2, .int (bI b2))] → W p l e rm_X8_wind s m ar below meth c H locs 0 0 Q (F0 m 32 ls []) := by
      intro k
      induction k with
      | zero =>
        intro i32 z32 hi0 hik hz H locs ls hP hS hl
        have hz : z32 = (o_L32_1, o_L32_2) := it_0 hz
        subst z32
        have hP : va_P D vwCl [(a, .inr (8, [.ref a_readWishes, .ref a_readOwed, .int i_readHung, .int i_readMany, .int i_readOwes, .ref a_told, .ref a_owed, .int i_wishes, .int i_hung, .int i_hour, .ref a_text, .int i_length, .int i_at, .int i_faultAt, .int i_acts, .int i_next, .ref a_row, .ref a_least, .ref a_values, .int i_tells, .ref a_tellPlace, .ref a_tellHour, .ref a_tellDark, .long j_seed, .ref a_isKept, .ref a_kept])), (a_told, .inl (cI, 25, .inl f_told))] H := hP
        have hl : lv_has ls 10 [(6, .int (nI i32)), (5, .int o_L32_1), (4, .int o_L32_2), (3, .int o_19), (0, .ref a), (1, .int x1), (2, .int (bI b2))] := hl
        refine lv_iload hx hb dX8_wind_32 (lv_at hl 0 rfl) ?_
        refine lv_iconst (v := 1) hx hb dX8_wind_34 rfl ?_
        refine lv_iload_n hx hb dX8_wind_35 rfl (lv_at hl 3 rfl) ?_
        refine lv_ishl hx hb dX8_wind_36 ?_
        refine lv_icmp_ge (tgt := 145) hx hb dX8_wind_37 (by decide) (fun _ => ?_) (fun c => absurd (cb_ge (by omega) (by have := cb_lt31 ((1 : Int32) <<< (o_19 &&& 31)); omega)) c)
        exact kE32 _ _ _ hP hS (lv_sub hl [1, 2, 6] rfl)
      | succ k ih =>
        intro i32 z32 hi0 hik hz H locs ls hP hS hl
        obtain ⟨z32_1, z32_2⟩ := z32
        have hP : va_P D vwCl [(a, .inr (8, [.ref a_readWishes, .ref a_readOwed, .int i_readHung, .int i_readMany, .int i_readOwes, .ref a_told, .ref a_owed, .int i_wishes, .int i_hung, .int i_hour, .ref a_text, .int i_length, .int i_at, .int i_faultAt, .int i_acts, .int i_next, .ref a_row, .ref a_least, .ref a_values, .int i_tells, .ref a_tellPlace, .ref a_tellHour, .ref a_tellDark, .long j_seed, .ref a_isKept, .ref a_kept])), (a_told, .inl (cI, 25, .inl f_told))] H := hP
        have hl : lv_has ls 10 [(6, .int (nI i32)), (5, .int z32_1), (4, .int z32_2), (3, .int o_19), (0, .ref a), (1, .int x1), (2, .int (bI b2))] := hl
        refine lv_iload hx hb dX8_wind_32 (lv_at hl 0 rfl) ?_
        refine lv_iconst (v := 1) hx hb dX8_wind_34 rfl ?_
        refine lv_iload_n hx hb dX8_wind_35 rfl (lv_at hl 3 rfl) ?_
        refine lv_ishl hx hb dX8_wind_36 ?_
        refine lv_icmp_ge (tgt := 145) hx hb dX8_wind_37 (by decide) (fun c => absurd c (cb_lt (by omega))) (fun _ => ?_)
        refine lv_iconst (v := 1) hx hb dX8_wind_40 rfl ?_
        refine lv_istore (lv' := [(7, .int 1), (6, .int (nI i32)), (5, .int z32_1), (4, .int z32_2), (3, .int o_19), (0, .ref a), (1, .int x1), (2, .int (bI b2))]) hx hb dX8_wind_41 hl (by decide) rfl (fun ls hl => ?_)
        refine lv_iconst (v := 0) hx hb dX8_wind_43 rfl ?_
        refine lv_istore (lv' := [(8, .int 0), (7, .int 1), (6, .int (nI i32)), (5, .int z32_1), (4, .int z32_2), (3, .int o_19), (0, .ref a), (1, .int x1), (2, .int (bI b2))]) hx hb dX8_wind_44 hl (by decide) rfl (fun ls hl => ?_)
        refine lv_iconst (v := 0) hx hb dX8_wind_46 rfl ?_
        refine lv_istore (lv' := [(9, .int 0), (8, .int 0), (7, .int 1), (6, .int (nI i32)), (5, .int z32_1), (4, .int z32_2), (3, .int o_19), (0, .ref a), (1, .int x1), (2, .int (bI b2))]) hx hb dX8_wind_47 hl (by decide) rfl (fun ls hl => ?_)
        obtain ⟨o_L49_1, o_L49_2, ho_L49⟩ := ex2 (it (v_X8_wind_L49 x1 i_hung i32) o_19.toNatClampNeg 0 (0, 1))
        have kE49 : ∀ (H : Heap) (locs : List Loc) (ls : Array Slot), va_P D vwCl [(a, .inr (8, [.ref a_readWishes, .ref a_readOwed, .int i_readHung, .int i_readMany, .int i_readOwes, .ref a_told, .ref a_owed, .int i_wishes, .int i_hung, .int i_hour, .ref a_text, .int i_length, .int i_at, .int i_faultAt, .int i_acts, .int i_next, .ref a_row, .ref a_least, .ref a_values, .int i_tells, .ref a_tellPlace, .ref a_tellHour, .ref a_tellDark, .long j_seed, .ref a_isKept, .ref a_kept])), (a_told, .inl (cI, 25, .inl f_told))] H → va_S A s.heap H locs → lv_has ls 10 [(8, .int o_L49_1), (7, .int o_L49_2), (6, .int (nI i32)), (5, .int z32_1), (4, .int z32_2), (3, .int o_19), (0, .ref a), (1, .int x1), (2, .int (bI b2))] → W p l e rm_X8_wind s m ar below meth c H locs 0 0 Q (F0 m 114 ls []) := by
          intro H locs ls hP hS hl
          refine lv_iload hx hb dX8_wind_114 (lv_at hl 3 rfl) ?_
          refine lv_iload hx hb dX8_wind_116 (lv_at hl 1 rfl) ?_
          refine lv_iadd hx hb dX8_wind_118 ?_
          refine lv_istore (lv' := [(5, .int (z32_1 + o_L49_2)), (8, .int o_L49_1), (7, .int o_L49_2), (6, .int (nI i32)), (4, .int z32_2), (3, .int o_19), (0, .ref a), (1, .int x1), (2, .int (bI b2))]) hx hb dX8_wind_119 hl (by decide) rfl (fun ls hl => ?_)
          refine lv_iload hx hb dX8_wind_121 (lv_at hl 4 rfl) ?_
          refine lv_iload hx hb dX8_wind_123 (lv_at hl 2 rfl) ?_
          refine lv_aload_n hx hb dX8_wind_125 rfl (lv_at hl 6 rfl) ?_
          refine lv_aload_n hx hb dX8_wind_126 rfl (lv_at hl 6 rfl) ?_
          refine lv_iload hx hb dX8_wind_127 (lv_at hl 1 rfl) ?_
          obtain ⟨o_129, ho_129⟩ : ∃ z : Int32, z = v_X8_granted o_L49_1 i_wishes f_told := ⟨_, rfl⟩
          refine callVIs (As := [.int o_L49_1]) (rest := [.ref a, .int o_L49_2, .int z32_2]) o_129 ho_129 hF (k_X8_granted l D cI cZ a a_readWishes a_readOwed a_told a_owed a_text a_row a_least a_values a_tellPlace a_tellHour a_tellDark a_isKept a_kept o_L49_1 i_readHung i_readMany i_readOwes i_wishes i_hung i_hour i_length i_at i_faultAt i_acts i_next i_tells j_seed f_told (hw)) (cwV 1 hts gX8_wind_X8_granted rfl rfl rfl (by decide +kernel) ⟨Nat.le_of_ble_eq_true rfl, Nat.le_of_ble_eq_true rfl⟩) hK hN hP (va_Dsame hD rfl) hS hA [0, 1] rfl rfl 0 8 (T := TX8) (N := 26) rfl rfl rfl hl.1 rfl (Nat.le_of_ble_eq_true rfl) dX8_wind_129 ⟨Nat.zero_le _, Nat.zero_le _⟩ o_129 rfl rfl (fun H locs hP hS => ?_)
          obtain ⟨o_132, ho_132⟩ : ∃ z : Int32, z = v_X8_worthOf o_129 i_wishes f_told := ⟨_, rfl⟩
          refine callVIs (As := [.int o_129]) (rest := [.int o_L49_2, .int z32_2]) o_132 ho_132 hF (k_X8_worthOf l D cI cZ a a_readWishes a_readOwed a_told a_owed a_text a_row a_least a_values a_tellPlace a_tellHour a_tellDark a_isKept a_kept o_129 i_readHung i_readMany i_readOwes i_wishes i_hung i_hour i_length i_at i_faultAt i_acts i_next i_tells j_seed f_told (hw)) (cwV 1 hts gX8_wind_X8_worthOf rfl rfl rfl (by decide +kernel) ⟨Nat.le_of_ble_eq_true rfl, Nat.le_of_ble_eq_true rfl⟩) hK hN hP (va_Dsame hD rfl) hS hA [0, 1] rfl rfl 0 8 (T := TX8) (N := 26) rfl rfl rfl hl.1 rfl (Nat.le_of_ble_eq_true rfl) dX8_wind_132 ⟨Nat.zero_le _, Nat.zero_le _⟩ o_132 rfl rfl (fun H locs hP hS => ?_)
          refine lv_imul hx hb dX8_wind_135 ?_
          refine lv_iadd hx hb dX8_wind_136 ?_
          refine lv_istore (lv' := [(4, .int (z32_2 + (o_L49_2 * o_132))), (5, .int (z32_1 + o_L49_2)), (8, .int o_L49_1), (7, .int o_L49_2), (6, .int (nI i32)), (3, .int o_19), (0, .ref a), (1, .int x1), (2, .int (bI b2))]) hx hb dX8_wind_137 hl (by decide) rfl (fun ls hl => ?_)
          refine lv_iinc (v := (nI (i32 + 1))) (lv' := [(6, .int (nI (i32 + 1))), (4, .int (z32_2 + (o_L49_2 * o_132))), (5, .int (z32_1 + o_L49_2)), (8, .int o_L49_1), (7, .int o_L49_2), (3, .int o_19), (0, .ref a), (1, .int x1), (2, .int (bI b2))]) hx hb dX8_wind_139 hl (k := 4) rfl (nI_1 _) (by decide) rfl (fun ls hl => ?_)
          refine lv_goto (tgt := 32) hx hb dX8_wind_142 (by decide) ?_
          have e8 : v_X8_wind_L32 x1 i_wishes i_hung f_told o_19 i32 (z32_1, z32_2) = ((z32_1 + o_L49_2), (z32_2 + (o_L49_2 * o_132))) := by
            show v_X8_wind_L32c x1 i_wishes i_hung f_told o_19 i32 z32_1 z32_2 = ((z32_1 + o_L49_2), (z32_2 + (o_L49_2 * o_132)))
            refine (bnd2_eq ho_L49).trans ?_
            refine (bnd_eq ho_129).trans ?_
            refine (bnd_eq ho_132).trans ?_
            rfl
          exact ih (i32 + 1) ((z32_1 + o_L49_2), (z32_2 + (o_L49_2 * o_132))) (by omega) (by omega) (it_go e8 hz) _ _ _ hP hS (lv_sub hl [0, 2, 1, 5, 6, 7, 8] rfl)
        have loop49 : ∀ (k i49 : Nat) (z49 : Int32 × Int32), 0 ≤ i49 → i49 + k = 0 + o_19.toNatClampNeg → it (v_X8_wind_L49 x1 i_hung i32) k i49 z49 = (o_L49_1, o_L49_2) → ∀ (H : Heap) (locs : List Loc) (ls : Array Slot), va_P D vwCl [(a, .inr (8, [.ref a_readWishes, .ref a_readOwed, .int i_readHung, .int i_readMany, .int i_readOwes, .ref a_told, .ref a_owed, .int i_wishes, .int i_hung, .int i_hour, .ref a_text, .int i_length, .int i_at, .int i_faultAt, .int i_acts, .int i_next, .ref a_row, .ref a_least, .ref a_values, .int i_tells, .ref a_tellPlace, .ref a_tellHour, .ref a_tellDark, .long j_seed, .ref a_isKept, .ref a_kept])), (a_told, .inl (cI, 25, .inl f_told))] H → va_S A s.heap H locs → lv_has ls 10 [(9, .int (nI i49)), (8, .int z49.1), (7, .int z49.2), (6, .int (nI i32)), (5, .int z32_1), (4, .int z32_2), (3, .int o_19), (0, .ref a), (1, .int x1), (2, .int (bI b2))] → W p l e rm_X8_wind s m ar below meth c H locs 0 0 Q (F0 m 49 ls []) := by
          intro k
          induction k with
          | zero =>
            intro i49 z49 hi0 hik hz H locs ls hP hS hl
            have hz : z49 = (o_L49_1, o_L49_2) := it_0 hz
            subst z49
            have hP : va_P D vwCl [(a, .inr (8, [.ref a_readWishes, .ref a_readOwed, .int i_readHung, .int i_readMany, .int i_readOwes, .ref a_told, .ref a_owed, .int i_wishes, .int i_hung, .int i_hour, .ref a_text, .int i_length, .int i_at, .int i_faultAt, .int i_acts, .int i_next, .ref a_row, .ref a_least, .ref a_values, .int i_tells, .ref a_tellPlace, .ref a_tellHour, .ref a_tellDark, .long j_seed, .ref a_isKept, .ref a_kept])), (a_told, .inl (cI, 25, .inl f_told))] H := hP
            have hl : lv_has ls 10 [(9, .int (nI i49)), (8, .int o_L49_1), (7, .int o_L49_2), (6, .int (nI i32)), (5, .int z32_1), (4, .int z32_2), (3, .int o_19), (0, .ref a), (1, .int x1), (2, .int (bI b2))] := hl
            refine lv_iload hx hb dX8_wind_49 (lv_at hl 0 rfl) ?_
            refine lv_iload_n hx hb dX8_wind_51 rfl (lv_at hl 6 rfl) ?_
            refine lv_icmp_ge (tgt := 114) hx hb dX8_wind_52 (by decide) (fun _ => ?_) (fun c => absurd (cb_ge (by omega) (by have := cb_lt31 o_19; omega)) c)
            exact kE49 _ _ _ hP hS (lv_sub hl [1, 2, 3, 4, 5, 6, 7, 8, 9] rfl)
          | succ k ih =>
            intro i49 z49 hi0 hik hz H locs ls hP hS hl
            obtain ⟨z49_1, z49_2⟩ := z49
            have hP : va_P D vwCl [(a, .inr (8, [.ref a_readWishes, .ref a_readOwed, .int i_readHung, .int i_readMany, .int i_readOwes, .ref a_told, .ref a_owed, .int i_wishes, .int i_hung, .int i_hour, .ref a_text, .int i_length, .int i_at, .int i_faultAt, .int i_acts, .int i_next, .ref a_row, .ref a_least, .ref a_values, .int i_tells, .ref a_tellPlace, .ref a_tellHour, .ref a_tellDark, .long j_seed, .ref a_isKept, .ref a_kept])), (a_told, .inl (cI, 25, .inl f_told))] H := hP
            have hl : lv_has ls 10 [(9, .int (nI i49)), (8, .int z49_1), (7, .int z49_2), (6, .int (nI i32)), (5, .int z32_1), (4, .int z32_2), (3, .int o_19), (0, .ref a), (1, .int x1), (2, .int (bI b2))] := hl
            refine lv_iload hx hb dX8_wind_49 (lv_at hl 0 rfl) ?_
            refine lv_iload_n hx hb dX8_wind_51 rfl (lv_at hl 6 rfl) ?_
            refine lv_icmp_ge (tgt := 114) hx hb dX8_wind_52 (by decide) (fun c => absurd c (cb_lt (by omega))) (fun _ => ?_)
            refine lv_iload hx hb dX8_wind_55 (lv_at hl 2 rfl) ?_
            refine lv_iload hx hb dX8_wind_57 (lv_at hl 3 rfl) ?_
            refine lv_iload hx hb dX8_wind_59 (lv_at hl 0 rfl) ?_
            obtain ⟨o_61, ho_61⟩ : ∃ z : Bool, z = v_X8_has (nI i32) (nI i49) := ⟨_, rfl⟩
            refine callSIs (As := [.int (nI i32), .int (nI i49)]) (rest := [.int z49_2]) o_61 ho_61 hF (k_X8_has l D cI cZ (nI i32) (nI i49)) (va_cwS 2 hts gX8_wind_X8_has rfl rfl rfl (by decide +kernel) ⟨Nat.le_of_ble_eq_true rfl, Nat.le_of_ble_eq_true rfl⟩) hK hN hP (va_Dsame hD rfl) hS hA [] rfl rfl rfl hl.1 rfl (Nat.le_of_ble_eq_true rfl) dX8_wind_61 ⟨Nat.zero_le _, Nat.zero_le _⟩ (bI o_61) rfl rfl (fun H locs hP hS => ?_)
            refine lv_if_eq (tgt := 74) hx hb dX8_wind_64 (by decide) (fun c_64 => ?_) (fun c_64 => ?_)
            · refine lv_iload_n hx hb dX8_wind_74 rfl (lv_at hl 8 rfl) ?_
              refine lv_imul hx hb dX8_wind_75 ?_
              refine lv_istore (lv' := [(7, .int (z49_2 * x1)), (9, .int (nI i49)), (8, .int z49_1), (6, .int (nI i32)), (5, .int z32_1), (4, .int z32_2), (3, .int o_19), (0, .ref a), (1, .int x1), (2, .int (bI b2))]) hx hb dX8_wind_76 hl (by decide) rfl (fun ls hl => ?_)
              refine lv_iload hx hb dX8_wind_78 (lv_at hl 2 rfl) ?_
              refine lv_iload hx hb dX8_wind_80 (lv_at hl 3 rfl) ?_
              refine lv_iload hx hb dX8_wind_82 (lv_at hl 1 rfl) ?_
              obtain ⟨o_84, ho_84⟩ : ∃ z : Bool, z = v_X8_has (nI i32) (nI i49) := ⟨_, rfl⟩
              refine callSIs (As := [.int (nI i32), .int (nI i49)]) (rest := [.int z49_1]) o_84 ho_84 hF (k_X8_has l D cI cZ (nI i32) (nI i49)) (va_cwS 2 hts gX8_wind_X8_has rfl rfl rfl (by decide +kernel) ⟨Nat.le_of_ble_eq_true rfl, Nat.le_of_ble_eq_true rfl⟩) hK hN hP (va_Dsame hD rfl) hS hA [] rfl rfl rfl hl.1 rfl (Nat.le_of_ble_eq_true rfl) dX8_wind_84 ⟨Nat.zero_le _, Nat.zero_le _⟩ (bI o_84) rfl rfl (fun H locs hP hS => ?_)
              refine lv_if_eq (tgt := 104) hx hb dX8_wind_87 (by decide) (fun c_87 => ?_) (fun c_87 => ?_)
              · refine lv_iconst (v := 0) hx hb dX8_wind_104 rfl ?_
                refine lv_ior hx hb dX8_wind_105 ?_
                refine lv_istore (lv' := [(8, .int (z49_1 ||| 0)), (7, .int (z49_2 * x1)), (9, .int (nI i49)), (6, .int (nI i32)), (5, .int z32_1), (4, .int z32_2), (3, .int o_19), (0, .ref a), (1, .int x1), (2, .int (bI b2))]) hx hb dX8_wind_106 hl (by decide) rfl (fun ls hl => ?_)
                refine lv_iinc (v := (nI (i49 + 1))) (lv' := [(9, .int (nI (i49 + 1))), (8, .int (z49_1 ||| 0)), (7, .int (z49_2 * x1)), (6, .int (nI i32)), (5, .int z32_1), (4, .int z32_2), (3, .int o_19), (0, .ref a), (1, .int x1), (2, .int (bI b2))]) hx hb dX8_wind_108 hl (k := 2) rfl (nI_1 _) (by decide) rfl (fun ls hl => ?_)
                refine lv_goto (tgt := 49) hx hb dX8_wind_111 (by decide) ?_
                have e8 : v_X8_wind_L49 x1 i_hung i32 i49 (z49_1, z49_2) = ((z49_1 ||| 0), (z49_2 * x1)) := by
                  show v_X8_wind_L49c x1 i_hung i32 i49 z49_1 z49_2 = ((z49_1 ||| 0), (z49_2 * x1))
                  refine (bnd_eq ho_61).trans ?_
                  refine (if_pos c_64).trans ?_
                  refine (bnd_eq ho_84).trans ?_
                  refine (if_pos c_87).trans ?_
                  rfl
                exact ih (i49 + 1) ((z49_1 ||| 0), (z49_2 * x1)) (by omega) (by omega) (it_go e8 hz) _ _ _ hP hS (lv_sub hl [0, 1, 2, 3, 4, 5, 6, 7, 8, 9] rfl)
              · refine lv_iconst (v := 1) hx hb dX8_wind_90 rfl ?_
                refine lv_aload_n hx hb dX8_wind_91 rfl (lv_at hl 7 rfl) ?_
                refine va_get (D := D) (ci := 8) (v := .int i_hung) (C := RX8) (T := TX8) (N := 26) hx hb hts (fun _ h => List.mem_cons_of_mem _ (List.mem_append_right _ (h))) hown hK hP 0 rfl rfl 8 (by decide) (hts _ (List.mem_of_getElem? (i := 2) rfl)) (fun _ h9 => h9) rfl dX8_wind_92 ?_
                refine lv_iload hx hb dX8_wind_95 (lv_at hl 1 rfl) ?_
                obtain ⟨o_97, ho_97⟩ : ∃ z : Int32, z = v_X8_ofSet i_hung (nI i49) := ⟨_, rfl⟩
                refine callSIs (As := [.int i_hung, .int (nI i49)]) (rest := [.int 1, .int z49_1]) o_97 ho_97 hF (k_X8_ofSet l D cI cZ i_hung (nI i49)) (va_cwS 2 hts gX8_wind_X8_ofSet rfl rfl rfl (by decide +kernel) ⟨Nat.le_of_ble_eq_true rfl, Nat.le_of_ble_eq_true rfl⟩) hK hN hP (va_Dsame hD rfl) hS hA [] rfl rfl rfl hl.1 rfl (Nat.le_of_ble_eq_true rfl) dX8_wind_97 ⟨Nat.zero_le _, Nat.zero_le _⟩ o_97 rfl rfl (fun H locs hP hS => ?_)
                refine lv_ishl hx hb dX8_wind_100 ?_
                refine lv_goto (tgt := 105) hx hb dX8_wind_101 (by decide) ?_
                refine lv_ior hx hb dX8_wind_105 ?_
                refine lv_istore (lv' := [(8, .int (z49_1 ||| ((1 : Int32) <<< (o_97 &&& 31)))), (7, .int (z49_2 * x1)), (9, .int (nI i49)), (6, .int (nI i32)), (5, .int z32_1), (4, .int z32_2), (3, .int o_19), (0, .ref a), (1, .int x1), (2, .int (bI b2))]) hx hb dX8_wind_106 hl (by decide) rfl (fun ls hl => ?_)
                refine lv_iinc (v := (nI (i49 + 1))) (lv' := [(9, .int (nI (i49 + 1))), (8, .int (z49_1 ||| ((1 : Int32) <<< (o_97 &&& 31)))), (7, .int (z49_2 * x1)), (6, .int (nI i32)), (5, .int z32_1), (4, .int z32_2), (3, .int o_19), (0, .ref a), (1, .int x1), (2, .int (bI b2))]) hx hb dX8_wind_108 hl (k := 2) rfl (nI_1 _) (by decide) rfl (fun ls hl => ?_)
                refine lv_goto (tgt := 49) hx hb dX8_wind_111 (by decide) ?_
                have e8 : v_X8_wind_L49 x1 i_hung i32 i49 (z49_1, z49_2) = ((z49_1 ||| ((1 : Int32) <<< (o_97 &&& 31))), (z49_2 * x1)) := by
                  show v_X8_wind_L49c x1 i_hung i32 i49 z49_1 z49_2 = ((z49_1 ||| ((1 : Int32) <<< (o_97 &&& 31))), (z49_2 * x1))
                  refine (bnd_eq ho_61).trans ?_
                  refine (if_pos c_64).trans ?_
                  refine (bnd_eq ho_84).trans ?_
                  refine (if_neg c_87).trans ?_
                  refine (bnd_eq ho_97).trans ?_
                  rfl
                exact ih (i49 + 1) ((z49_1 ||| ((1 : Int32) <<< (o_97 &&& 31))), (z49_2 * x1)) (by omega) (by omega) (it_go e8 hz) _ _ _ hP hS (lv_sub hl [0, 1, 2, 3, 4, 5, 6, 7, 8, 9] rfl)
            · refine lv_bipush (v := 10) hx hb dX8_wind_67 rfl ?_
              refine lv_iload_n hx hb dX8_wind_69 rfl (lv_at hl 8 rfl) ?_
              refine lv_isub hx hb dX8_wind_70 ?_
              refine lv_goto (tgt := 75) hx hb dX8_wind_71 (by decide) ?_
              refine lv_imul hx hb dX8_wind_75 ?_
              refine lv_istore (lv' := [(7, .int (z49_2 * (10 - x1))), (9, .int (nI i49)), (8, .int z49_1), (6, .int (nI i32)), (5, .int z32_1), (4, .int z32_2), (3, .int o_19), (0, .ref a), (1, .int x1), (2, .int (bI b2))]) hx hb dX8_wind_76 hl (by decide) rfl (fun ls hl => ?_)
              refine lv_iload hx hb dX8_wind_78 (lv_at hl 2 rfl) ?_
              refine lv_iload hx hb dX8_wind_80 (lv_at hl 3 rfl) ?_
              refine lv_iload hx hb dX8_wind_82 (lv_at hl 1 rfl) ?_
              obtain ⟨o_84, ho_84⟩ : ∃ z : Bool, z = v_X8_has (nI i32) (nI i49) := ⟨_, rfl⟩
              refine callSIs (As := [.int (nI i32), .int (nI i49)]) (rest := [.int z49_1]) o_84 ho_84 hF (k_X8_has l D cI cZ (nI i32) (nI i49)) (va_cwS 2 hts gX8_wind_X8_has rfl rfl rfl (by decide +kernel) ⟨Nat.le_of_ble_eq_true rfl, Nat.le_of_ble_eq_true rfl⟩) hK hN hP (va_Dsame hD rfl) hS hA [] rfl rfl rfl hl.1 rfl (Nat.le_of_ble_eq_true rfl) dX8_wind_84 ⟨Nat.zero_le _, Nat.zero_le _⟩ (bI o_84) rfl rfl (fun H locs hP hS => ?_)
              refine lv_if_eq (tgt := 104) hx hb dX8_wind_87 (by decide) (fun c_87 => ?_) (fun c_87 => ?_)
              · refine lv_iconst (v := 0) hx hb dX8_wind_104 rfl ?_
                refine lv_ior hx hb dX8_wind_105 ?_
                refine lv_istore (lv' := [(8, .int (z49_1 ||| 0)), (7, .int (z49_2 * (10 - x1))), (9, .int (nI i49)), (6, .int (nI i32)), (5, .int z32_1), (4, .int z32_2), (3, .int o_19), (0, .ref a), (1, .int x1), (2, .int (bI b2))]) hx hb dX8_wind_106 hl (by decide) rfl (fun ls hl => ?_)
                refine lv_iinc (v := (nI (i49 + 1))) (lv' := [(9, .int (nI (i49 + 1))), (8, .int (z49_1 ||| 0)), (7, .int (z49_2 * (10 - x1))), (6, .int (nI i32)), (5, .int z32_1), (4, .int z32_2), (3, .int o_19), (0, .ref a), (1, .int x1), (2, .int (bI b2))]) hx hb dX8_wind_108 hl (k := 2) rfl (nI_1 _) (by decide) rfl (fun ls hl => ?_)
                refine lv_goto (tgt := 49) hx hb dX8_wind_111 (by decide) ?_
                have e8 : v_X8_wind_L49 x1 i_hung i32 i49 (z49_1, z49_2) = ((z49_1 ||| 0), (z49_2 * (10 - x1))) := by
                  show v_X8_wind_L49c x1 i_hung i32 i49 z49_1 z49_2 = ((z49_1 ||| 0), (z49_2 * (10 - x1)))
                  refine (bnd_eq ho_61).trans ?_
                  refine (if_neg c_64).trans ?_
                  refine (bnd_eq ho_84).trans ?_
                  refine (if_pos c_87).trans ?_
                  rfl
                exact ih (i49 + 1) ((z49_1 ||| 0), (z49_2 * (10 - x1))) (by omega) (by omega) (it_go e8 hz) _ _ _ hP hS (lv_sub hl [0, 1, 2, 3, 4, 5, 6, 7, 8, 9] rfl)
              · refine lv_iconst (v := 1) hx hb dX8_wind_90 rfl ?_
                refine lv_aload_n hx hb dX8_wind_91 rfl (lv_at hl 7 rfl) ?_
                refine va_get (D := D) (ci := 8) (v := .int i_hung) (C := RX8) (T := TX8) (N := 26) hx hb hts (fun _ h => List.mem_cons_of_mem _ (List.mem_append_right _ (h))) hown hK hP 0 rfl rfl 8 (by decide) (hts _ (List.mem_of_getElem? (i := 2) rfl)) (fun _ h9 => h9) rfl dX8_wind_92 ?_
                refine lv_iload hx hb dX8_wind_95 (lv_at hl 1 rfl) ?_
                obtain ⟨o_97, ho_97⟩ : ∃ z : Int32, z = v_X8_ofSet i_hung (nI i49) := ⟨_, rfl⟩
                refine callSIs (As := [.int i_hung, .int (nI i49)]) (rest := [.int 1, .int z49_1]) o_97 ho_97 hF (k_X8_ofSet l D cI cZ i_hung (nI i49)) (va_cwS 2 hts gX8_wind_X8_ofSet rfl rfl rfl (by decide +kernel) ⟨Nat.le_of_ble_eq_true rfl, Nat.le_of_ble_eq_true rfl⟩) hK hN hP (va_Dsame hD rfl) hS hA [] rfl rfl rfl hl.1 rfl (Nat.le_of_ble_eq_true rfl) dX8_wind_97 ⟨Nat.zero_le _, Nat.zero_le _⟩ o_97 rfl rfl (fun H locs hP hS => ?_)
                refine lv_ishl hx hb dX8_wind_100 ?_
                refine lv_goto (tgt := 105) hx hb dX8_wind_101 (by decide) ?_
                refine lv_ior hx hb dX8_wind_105 ?_
                refine lv_istore (lv' := [(8, .int (z49_1 ||| ((1 : Int32) <<< (o_97 &&& 31)))), (7, .int (z49_2 * (10 - x1))), (9, .int (nI i49)), (6, .int (nI i32)), (5, .int z32_1), (4, .int z32_2), (3, .int o_19), (0, .ref a), (1, .int x1), (2, .int (bI b2))]) hx hb dX8_wind_106 hl (by decide) rfl (fun ls hl => ?_)
                refine lv_iinc (v := (nI (i49 + 1))) (lv' := [(9, .int (nI (i49 + 1))), (8, .int (z49_1 ||| ((1 : Int32) <<< (o_97 &&& 31)))), (7, .int (z49_2 * (10 - x1))), (6, .int (nI i32)), (5, .int z32_1), (4, .int z32_2), (3, .int o_19), (0, .ref a), (1, .int x1), (2, .int (bI b2))]) hx hb dX8_wind_108 hl (k := 2) rfl (nI_1 _) (by decide) rfl (fun ls hl => ?_)
                refine lv_goto (tgt := 49) hx hb dX8_wind_111 (by decide) ?_
                have e8 : v_X8_wind_L49 x1 i_hung i32 i49 (z49_1, z49_2) = ((z49_1 ||| ((1 : Int32) <<< (o_97 &&& 31))), (z49_2 * (10 - x1))) := by
                  show v_X8_wind_L49c x1 i_hung i32 i49 z49_1 z49_2 = ((z49_1 ||| ((1 : Int32) <<< (o_97 &&& 31))), (z49_2 * (10 - x1)))
                  refine (bnd_eq ho_61).trans ?_
                  refine (if_neg c_64).trans ?_
                  refine (bnd_eq ho_84).trans ?_
                  refine (if_neg c_87).trans ?_
                  refine (bnd_eq ho_97).trans ?_
                  rfl
                exact ih (i49 + 1) ((z49_1 ||| ((1 : Int32) <<< (o_97 &&& 31))), (z49_2 * (10 - x1))) (by omega) (by omega) (it_go e8 hz) _ _ _ hP hS (lv_sub hl [0, 1, 2, 3, 4, 5, 6, 7, 8, 9] rfl)
        exact loop49 o_19.toNatClampNeg 0 (0, 1) (Nat.le_refl _) rfl ho_L49.symm _ _ _ hP hS (lv_sub hl [0, 1, 2, 3, 4, 5, 6, 7, 8, 9] rfl)
    exact loop32 ((1 : Int32) <<< (o_19 &&& 31)).toNatClampNeg 0 (0, 0) (Nat.le_refl _) rfl ho_L32.symm _ _ _ hP hS (lv_sub hl [0, 1, 2, 3, 4, 5, 6] rfl)
  · refine lv_bipush (v := (-2)) hx hb dX8_wind_12 rfl ?_
    have e9 : v_X8_wind x1 b2 i_wishes i_hung f_told = (-2) := by
      refine (bnd_eq ho_6).trans ?_
      refine (if_pos c_9).trans ?_
      rfl
    rw [hQ]; exact retI (-2) hx hb hr hlk e9 hP rfl hS dX8_wind_14
def v_X8_seed (x1 : Int64) (j_seed : Int64) : Int64 × Int64 :=
  (j_seed, x1)
abbrev rm_X8_seed : Room := { frames := 0, cells := 0, slots := 0, locals := 0 }
set_option maxHeartbeats 4000000 in
set_option maxRecDepth 100000 in
theorem k_X8_seed (l : Launch) (D : va_G) (cI cZ : ClassId) (a a_readWishes a_readOwed a_told a_owed a_text a_row a_least a_values a_tellPlace a_tellHour a_tellDark a_isKept a_kept : Nat) (x1 : Int64) (i_readHung : Int32) (i_readMany : Int32) (i_readOwes : Int32) (i_wishes : Int32) (i_hung : Int32) (i_hour : Int32) (i_length : Int32) (i_at : Int32) (i_faultAt : Int32) (i_acts : Int32) (i_next : Int32) (i_tells : Int32) (j_seed : Int64) : KL l D cI cZ yX8_seed wsX8_seed rm_X8_seed [.ref a, .long x1] [(a, .inr (8, [.ref a_readWishes, .ref a_readOwed, .int i_readHung, .int i_readMany, .int i_readOwes, .ref a_told, .ref a_owed, .int i_wishes, .int i_hung, .int i_hour, .ref a_text, .int i_length, .int i_at, .int i_faultAt, .int i_acts, .int i_next, .ref a_row, .ref a_least, .ref a_values, .int i_tells, .ref a_tellPlace, .ref a_tellHour, .ref a_tellDark, .long j_seed, .ref a_isKept, .ref a_kept]))] (v_X8_seed x1 j_seed) (fun o : Int64 × Int64 => o.1) (fun o : Int64 × Int64 => [(a, .inr (8, [.ref a_readWishes, .ref a_readOwed, .int i_readHung, .int i_readMany, .int i_readOwes, .ref a_told, .ref a_owed, .int i_wishes, .int i_hung, .int i_hour, .ref a_text, .int i_length, .int i_at, .int i_faultAt, .int i_acts, .int i_next, .ref a_row, .ref a_least, .ref a_values, .int i_tells, .ref a_tellPlace, .ref a_tellHour, .ref a_tellDark, .long o.2, .ref a_isKept, .ref a_kept]))]) := by
  refine KL.of cX8_seed 5 (some .long) (by decide) rfl (Nat.le_of_ble_eq_true rfl) ?_
  intro p e s m below meth c A ls ar Q hQ B
  obtain ⟨hx, hb, hr, hml, hts, hown, hlk, hK, hN, hP, hD, hA, hS, hl⟩ := B
  have hown : s.vm.findClass RX8 = some m.cls := hown
  have hF : CallFix p m c cX8_seed 5 s ar wsX8_seed RX8 := ⟨hx, hb, hml, hown, hts⟩
  have hl : lv_has ls 5 [(0, .ref a), (1, .long x1)] := hl
  refine lv_aload_n hx hb dX8_seed_0 rfl (lv_at hl 0 rfl) ?_
  refine va_get (D := D) (ci := 8) (v := .long j_seed) (C := RX8) (T := TX8) (N := 26) hx hb hts (fun _ h => List.mem_cons_of_mem _ (List.mem_append_right _ (h))) hown hK hP 0 rfl rfl 23 (by decide) (hts _ (List.mem_of_getElem? (i := 1) rfl)) (fun _ h9 => h9) rfl dX8_seed_1 ?_
  refine lv_lstore_n (lv' := [(3, .long j_seed), (0, .ref a), (1, .long x1)]) hx hb dX8_seed_4 rfl hl (by decide) rfl (fun ls hl => ?_)
  refine lv_aload_n hx hb dX8_seed_5 rfl (lv_at hl 1 rfl) ?_
  refine lv_lload_n hx hb dX8_seed_6 rfl (lv_at hl 2 rfl) ?_
  refine va_put (D := D) (ci := 8) (v := .long x1) (ty := .long) (C := RX8) (T := TX8) (N := 26) hx hb hts (fun _ h => List.mem_cons_of_mem _ (List.mem_append_right _ (h))) tyX8 tyX8_ok nmX8 hown hK hP (va_Dsame hD rfl) hS 0 rfl rfl 23 (by decide) (hts _ (List.mem_of_getElem? (i := 1) rfl)) (fun _ h9 => h9) rfl (tyX8_ok 23 (by decide)) rfl rfl (Nat.le_of_ble_eq_true rfl) dX8_seed_7 (fun H locs hP _ hS => ?_)
  have hP : va_P D vwCl [(a, .inr (8, [.ref a_readWishes, .ref a_readOwed, .int i_readHung, .int i_readMany, .int i_readOwes, .ref a_told, .ref a_owed, .int i_wishes, .int i_hung, .int i_hour, .ref a_text, .int i_length, .int i_at, .int i_faultAt, .int i_acts, .int i_next, .ref a_row, .ref a_least, .ref a_values, .int i_tells, .ref a_tellPlace, .ref a_tellHour, .ref a_tellDark, .long x1, .ref a_isKept, .ref a_kept]))] H := hP
  refine lv_lload_n hx hb dX8_seed_10 rfl (lv_at hl 0 rfl) ?_
  have e9 : v_X8_seed x1 j_seed = (j_seed, x1) := by
    rfl
  rw [hQ]; exact retL (j_seed, x1) hx hb hr hlk e9 hP rfl hS dX8_seed_11
def v_X8_storm_L22c (i22 : Nat) (z22_1 : Int64) (z22_2 : Int32) : Int64 × Int32 :=
  bnd (((z22_1 * 6364136223846793005) + 1442695040888963407)) fun w_40 =>
  (bnd (((uSL w_40 33) - (uSL w_40 33) / 12 * 12).toInt32) fun w_59 =>
  (bnd (v_X8_how ((((uSL w_40 33) / 12) - ((uSL w_40 33) / 12) / 3 * 3).toInt32)) fun o_72 =>
  (bnd (v_X8_canMove z22_2 w_59 o_72) fun o_82 =>
  (if bI o_82 = 0 then (w_40, z22_2)
  else (bnd (v_X8_movedHanging z22_2 w_59 o_72) fun o_93 =>
  (w_40, o_93))))))
def v_X8_storm_L22 (i22 : Nat) (z22 : Int64 × Int32) : Int64 × Int32 := v_X8_storm_L22c i22 z22.1 z22.2
def v_X8_storm (x1 : Int32) (i_hung : Int32) (j_seed : Int64) : Int32 × Int64 :=
  bnd (v_X8_in x1.toInt64 1 40) fun o_6 =>
  (if bI o_6 = 0 then ((-2), j_seed)
  else (bnd2 (it (v_X8_storm_L22) x1.toNatClampNeg 0 (j_seed, i_hung)) fun o_L22_1 o_L22_2 =>
  (o_L22_2, o_L22_1)))
abbrev rm_X8_storm : Room := { frames := 2, cells := 0, slots := 0, locals := 43 }
set_option maxHeartbeats 4000000 in
set_option maxRecDepth 100000 in
theorem k_X8_storm (l : Launch) (D : va_G) (cI cZ : ClassId) (a a_readWishes a_readOwed a_told a_owed a_text a_row a_least a_values a_tellPlace a_tellHour a_tellDark a_isKept a_kept : Nat) (x1 : Int32) (i_readHung : Int32) (i_readMany : Int32) (i_readOwes : Int32) (i_wishes : Int32) (i_hung : Int32) (i_hour : Int32) (i_length : Int32) (i_at : Int32) (i_faultAt : Int32) (i_acts : Int32) (i_next : Int32) (i_tells : Int32) (j_seed : Int64) : KI l D cI cZ yX8_storm wsX8_storm rm_X8_storm [.ref a, .int x1] [(a, .inr (8, [.ref a_readWishes, .ref a_readOwed, .int i_readHung, .int i_readMany, .int i_readOwes, .ref a_told, .ref a_owed, .int i_wishes, .int i_hung, .int i_hour, .ref a_text, .int i_length, .int i_at, .int i_faultAt, .int i_acts, .int i_next, .ref a_row, .ref a_least, .ref a_values, .int i_tells, .ref a_tellPlace, .ref a_tellHour, .ref a_tellDark, .long j_seed, .ref a_isKept, .ref a_kept]))] (v_X8_storm x1 i_hung j_seed) (fun o : Int32 × Int64 => o.1) (fun o : Int32 × Int64 => [(a, .inr (8, [.ref a_readWishes, .ref a_readOwed, .int i_readHung, .int i_readMany, .int i_readOwes, .ref a_told, .ref a_owed, .int i_wishes, .int i_hung, .int i_hour, .ref a_text, .int i_length, .int i_at, .int i_faultAt, .int i_acts, .int i_next, .ref a_row, .ref a_least, .ref a_values, .int i_tells, .ref a_tellPlace, .ref a_tellHour, .ref a_tellDark, .long o.2, .ref a_isKept, .ref a_kept]))]) := by
  refine KI.of cX8_storm 8 (some .int) (by decide) rfl (Nat.le_of_ble_eq_true rfl) ?_
  intro p e s m below meth c A ls ar Q hQ B
  obtain ⟨hx, hb, hr, hml, hts, hown, hlk, hK, hN, hP, hD, hA, hS, hl⟩ := B
  have hown : s.vm.findClass RX8 = some m.cls := hown
  have hF : CallFix p m c cX8_storm 8 s ar wsX8_storm RX8 := ⟨hx, hb, hml, hown, hts⟩
  have hl : lv_has ls 8 [(0, .ref a), (1, .int x1)] := hl
  refine lv_iload_n hx hb dX8_storm_0 rfl (lv_at hl 1 rfl) ?_
  refine lv_i2l (v := x1.toInt64) hx hb dX8_storm_1 rfl ?_
  refine lv_lconst (v := 1) hx hb dX8_storm_2 rfl ?_
  refine lv_ldc2 (v := 40) hx hb hown (hts _ (List.mem_of_getElem? (i := 1) rfl)) dX8_storm_3 ?_
  obtain ⟨o_6, ho_6⟩ : ∃ z : Bool, z = v_X8_in x1.toInt64 1 40 := ⟨_, rfl⟩
  refine callSIs (As := [.long x1.toInt64, .long 1, .long 40]) (rest := []) o_6 ho_6 hF (k_X8_in l D cI cZ x1.toInt64 1 40) (va_cwS 3 hts gX8_storm_X8_in rfl rfl rfl (by decide +kernel) ⟨Nat.le_of_ble_eq_true rfl, Nat.le_of_ble_eq_true rfl⟩) hK hN hP (va_Dsame hD rfl) hS hA [] rfl rfl rfl hl.1 rfl (Nat.le_of_ble_eq_true rfl) dX8_storm_6 ⟨Nat.zero_le _, Nat.zero_le _⟩ (bI o_6) rfl rfl (fun H locs hP hS => ?_)
  refine lv_if_ne (tgt := 15) hx hb dX8_storm_9 (by decide) (fun c_9 => ?_) (fun c_9 => ?_)
  · refine lv_aload_n hx hb dX8_storm_15 rfl (lv_at hl 0 rfl) ?_
    refine va_get (D := D) (ci := 8) (v := .int i_hung) (C := RX8) (T := TX8) (N := 26) hx hb hts (fun _ h => List.mem_cons_of_mem _ (List.mem_append_right _ (h))) hown hK hP 0 rfl rfl 8 (by decide) (hts _ (List.mem_of_getElem? (i := 2) rfl)) (fun _ h9 => h9) rfl dX8_storm_16 ?_
    refine lv_istore_n (lv' := [(2, .int i_hung), (0, .ref a), (1, .int x1)]) hx hb dX8_storm_19 rfl hl (by decide) rfl (fun ls hl => ?_)
    refine lv_iconst (v := 0) hx hb dX8_storm_20 rfl ?_
    refine lv_istore_n (lv' := [(3, .int 0), (2, .int i_hung), (0, .ref a), (1, .int x1)]) hx hb dX8_storm_21 rfl hl (by decide) rfl (fun ls hl => ?_)
    obtain ⟨o_L22_1, o_L22_2, ho_L22⟩ := ex2 (it (v_X8_storm_L22) x1.toNatClampNeg 0 (j_seed, i_hung))
    have kE22 : ∀ (H : Heap) (locs : List Loc) (ls : Array Slot), va_P D vwCl [(a, .inr (8, [.ref a_readWishes, .ref a_readOwed, .int i_readHung, .int i_readMany, .int i_readOwes, .ref a_told, .ref a_owed, .int i_wishes, .int i_hung, .int i_hour, .ref a_text, .int i_length, .int i_at, .int i_faultAt, .int i_acts, .int i_next, .ref a_row, .ref a_least, .ref a_values, .int i_tells, .ref a_tellPlace, .ref a_tellHour, .ref a_tellDark, .long o_L22_1, .ref a_isKept, .ref a_kept]))] H → va_S A s.heap H locs → lv_has ls 8 [(2, .int o_L22_2)] → W p l e rm_X8_storm s m ar below meth c H locs 0 0 Q (F0 m 107 ls []) := by
      intro H locs ls hP hS hl
      refine lv_iload_n hx hb dX8_storm_107 rfl (lv_at hl 0 rfl) ?_
      have e9 : v_X8_storm x1 i_hung j_seed = (o_L22_2, o_L22_1) := by
        refine (bnd_eq ho_6).trans ?_
        refine (if_neg c_9).trans ?_
        refine (bnd2_eq ho_L22).trans ?_
        rfl
      rw [hQ]; exact retI (o_L22_2, o_L22_1) hx hb hr hlk e9 hP rfl hS dX8_storm_108
    have loop22 : ∀ (k i22 : Nat) (z22 : Int64 × Int32), 0 ≤ i22 → i22 + k = 0 + x1.toNatClampNeg → it (v_X8_storm_L22) k i22 z22 = (o_L22_1, o_L22_2) → ∀ (H : Heap) (locs : List Loc) (ls : Array Slot), va_P D vwCl [(a, .inr (8, [.ref a_readWishes, .ref a_readOwed, .int i_readHung, .int i_readMany, .int i_readOwes, .ref a_told, .ref a_owed, .int i_wishes, .int i_hung, .int i_hour, .ref a_text, .int i_length, .int i_at, .int i_faultAt, .int i_acts, .int i_next, .ref a_row, .ref a_least, .ref a_values, .int i_tells, .ref a_tellPlace, .ref a_tellHour, .ref a_tellDark, .long z22.1, .ref a_isKept, .ref a_kept]))] H → va_S A s.heap H locs → lv_has ls 8 [(3, .int (nI i22)), (2, .int z22.2), (0, .ref a), (1, .int x1)] → W p l e rm_X8_storm s m ar below meth c H locs 0 0 Q (F0 m 22 ls []) := by
      intro k
      induction k with
      | zero =>
        intro i22 z22 hi0 hik hz H locs ls hP hS hl
        have hz : z22 = (o_L22_1, o_L22_2) := it_0 hz
        subst z22
        have hP : va_P D vwCl [(a, .inr (8, [.ref a_readWishes, .ref a_readOwed, .int i_readHung, .int i_readMany, .int i_readOwes, .ref a_told, .ref a_owed, .int i_wishes, .int i_hung, .int i_hour, .ref a_text, .int i_length, .int i_at, .int i_faultAt, .int i_acts, .int i_next, .ref a_row, .ref a_least, .ref a_values, .int i_tells, .ref a_tellPlace, .ref a_tellHour, .ref a_tellDark, .long o_L22_1, .ref a_isKept, .ref a_kept]))] H := hP
        have hl : lv_has ls 8 [(3, .int (nI i22)), (2, .int o_L22_2), (0, .ref a), (1, .int x1)] := hl
        refine lv_iload_n hx hb dX8_storm_22 rfl (lv_at hl 0 rfl) ?_
        refine lv_iload_n hx hb dX8_storm_23 rfl (lv_at hl 3 rfl) ?_
        refine lv_icmp_ge (tgt := 107) hx hb dX8_storm_24 (by decide) (fun _ => ?_) (fun c => absurd (cb_ge (by omega) (by have := cb_lt31 x1; omega)) c)
        exact kE22 _ _ _ hP hS (lv_sub hl [1] rfl)
      | succ k ih =>
        intro i22 z22 hi0 hik hz H locs ls hP hS hl
        obtain ⟨z22_1, z22_2⟩ := z22
        have hP : va_P D vwCl [(a, .inr (8, [.ref a_readWishes, .ref a_readOwed, .int i_readHung, .int i_readMany, .int i_readOwes, .ref a_told, .ref a_owed, .int i_wishes, .int i_hung, .int i_hour, .ref a_text, .int i_length, .int i_at, .int i_faultAt, .int i_acts, .int i_next, .ref a_row, .ref a_least, .ref a_values, .int i_tells, .ref a_tellPlace, .ref a_tellHour, .ref a_tellDark, .long z22_1, .ref a_isKept, .ref a_kept]))] H := hP
        have hl : lv_has ls 8 [(3, .int (nI i22)), (2, .int z22_2), (0, .ref a), (1, .int x1)] := hl
        refine lv_iload_n hx hb dX8_storm_22 rfl (lv_at hl 0 rfl) ?_
        refine lv_iload_n hx hb dX8_storm_23 rfl (lv_at hl 3 rfl) ?_
        refine lv_icmp_ge (tgt := 107) hx hb dX8_storm_24 (by decide) (fun c => absurd c (cb_lt (by omega))) (fun _ => ?_)
        refine lv_aload_n hx hb dX8_storm_27 rfl (lv_at hl 2 rfl) ?_
        refine lv_aload_n hx hb dX8_storm_28 rfl (lv_at hl 2 rfl) ?_
        refine va_get (D := D) (ci := 8) (v := .long z22_1) (C := RX8) (T := TX8) (N := 26) hx hb hts (fun _ h => List.mem_cons_of_mem _ (List.mem_append_right _ (h))) hown hK hP 0 rfl rfl 23 (by decide) (hts _ (List.mem_of_getElem? (i := 3) rfl)) (fun _ h9 => h9) rfl dX8_storm_29 ?_
        refine lv_ldc2 (v := 6364136223846793005) hx hb hown (hts _ (List.mem_of_getElem? (i := 4) rfl)) dX8_storm_32 ?_
        refine lv_lmul hx hb dX8_storm_35 ?_
        refine lv_ldc2 (v := 1442695040888963407) hx hb hown (hts _ (List.mem_of_getElem? (i := 5) rfl)) dX8_storm_36 ?_
        refine lv_ladd hx hb dX8_storm_39 ?_
        refine lv_topl (fun w_40 hw_40 => ?_)
        refine va_put (D := D) (ci := 8) (v := .long w_40) (ty := .long) (C := RX8) (T := TX8) (N := 26) hx hb hts (fun _ h => List.mem_cons_of_mem _ (List.mem_append_right _ (h))) tyX8 tyX8_ok nmX8 hown hK hP (va_Dsame hD rfl) hS 0 rfl rfl 23 (by decide) (hts _ (List.mem_of_getElem? (i := 3) rfl)) (fun _ h9 => h9) rfl (tyX8_ok 23 (by decide)) rfl rfl (Nat.le_of_ble_eq_true rfl) dX8_storm_40 (fun H locs hP _ hS => ?_)
        have hP : va_P D vwCl [(a, .inr (8, [.ref a_readWishes, .ref a_readOwed, .int i_readHung, .int i_readMany, .int i_readOwes, .ref a_told, .ref a_owed, .int i_wishes, .int i_hung, .int i_hour, .ref a_text, .int i_length, .int i_at, .int i_faultAt, .int i_acts, .int i_next, .ref a_row, .ref a_least, .ref a_values, .int i_tells, .ref a_tellPlace, .ref a_tellHour, .ref a_tellDark, .long w_40, .ref a_isKept, .ref a_kept]))] H := hP
        refine lv_aload_n hx hb dX8_storm_43 rfl (lv_at hl 2 rfl) ?_
        refine va_get (D := D) (ci := 8) (v := .long w_40) (C := RX8) (T := TX8) (N := 26) hx hb hts (fun _ h => List.mem_cons_of_mem _ (List.mem_append_right _ (h))) hown hK hP 0 rfl rfl 23 (by decide) (hts _ (List.mem_of_getElem? (i := 3) rfl)) (fun _ h9 => h9) rfl dX8_storm_44 ?_
        refine lv_bipush (v := 33) hx hb dX8_storm_47 rfl ?_
        refine lv_lushr (v := (uSL w_40 33)) hx hb dX8_storm_49 rfl ?_
        refine lv_lstore (lv' := [(4, .long (uSL w_40 33)), (3, .int (nI i22)), (2, .int z22_2), (0, .ref a), (1, .int x1)]) hx hb dX8_storm_50 hl (by decide) rfl (fun ls hl => ?_)
        refine lv_lload hx hb dX8_storm_52 (lv_at hl 0 rfl) ?_
        refine lv_ldc2 (v := 12) hx hb hown (hts _ (List.mem_of_getElem? (i := 6) rfl)) dX8_storm_54 ?_
        refine lv_lrem hx hb dX8_storm_57 (by decide) ?_
        refine lv_l2i (v := ((uSL w_40 33) - (uSL w_40 33) / 12 * 12).toInt32) hx hb dX8_storm_58 rfl ?_
        refine lv_topi (fun w_59 hw_59 => ?_)
        refine lv_istore (lv' := [(6, .int w_59), (4, .long (uSL w_40 33)), (3, .int (nI i22)), (2, .int z22_2), (0, .ref a), (1, .int x1)]) hx hb dX8_storm_59 hl (by decide) rfl (fun ls hl => ?_)
        refine lv_lload hx hb dX8_storm_61 (lv_at hl 1 rfl) ?_
        refine lv_ldc2 (v := 12) hx hb hown (hts _ (List.mem_of_getElem? (i := 6) rfl)) dX8_storm_63 ?_
        refine lv_ldiv hx hb dX8_storm_66 (by decide) ?_
        refine lv_ldc2 (v := 3) hx hb hown (hts _ (List.mem_of_getElem? (i := 7) rfl)) dX8_storm_67 ?_
        refine lv_lrem hx hb dX8_storm_70 (by decide) ?_
        refine lv_l2i (v := (((uSL w_40 33) / 12) - ((uSL w_40 33) / 12) / 3 * 3).toInt32) hx hb dX8_storm_71 rfl ?_
        obtain ⟨o_72, ho_72⟩ : ∃ z : Int32, z = v_X8_how ((((uSL w_40 33) / 12) - ((uSL w_40 33) / 12) / 3 * 3).toInt32) := ⟨_, rfl⟩
        refine callSIs (As := [.int ((((uSL w_40 33) / 12) - ((uSL w_40 33) / 12) / 3 * 3).toInt32)]) (rest := []) o_72 ho_72 hF (k_X8_how l D cI cZ ((((uSL w_40 33) / 12) - ((uSL w_40 33) / 12) / 3 * 3).toInt32)) (va_cwS 1 hts gX8_storm_X8_how rfl rfl rfl (by decide +kernel) ⟨Nat.le_of_ble_eq_true rfl, Nat.le_of_ble_eq_true rfl⟩) hK hN hP (va_Dsame hD rfl) hS hA [] rfl rfl rfl hl.1 rfl (Nat.le_of_ble_eq_true rfl) dX8_storm_72 ⟨Nat.zero_le _, Nat.zero_le _⟩ o_72 rfl rfl (fun H locs hP hS => ?_)
        refine lv_istore (lv' := [(7, .int o_72), (6, .int w_59), (4, .long (uSL w_40 33)), (3, .int (nI i22)), (2, .int z22_2), (0, .ref a), (1, .int x1)]) hx hb dX8_storm_75 hl (by decide) rfl (fun ls hl => ?_)
        refine lv_iload_n hx hb dX8_storm_77 rfl (lv_at hl 4 rfl) ?_
        refine lv_iload hx hb dX8_storm_78 (lv_at hl 1 rfl) ?_
        refine lv_iload hx hb dX8_storm_80 (lv_at hl 0 rfl) ?_
        obtain ⟨o_82, ho_82⟩ : ∃ z : Bool, z = v_X8_canMove z22_2 w_59 o_72 := ⟨_, rfl⟩
        refine callSIs (As := [.int z22_2, .int w_59, .int o_72]) (rest := []) o_82 ho_82 hF (k_X8_canMove l D cI cZ z22_2 w_59 o_72) (va_cwS 3 hts gX8_storm_X8_canMove rfl rfl rfl (by decide +kernel) ⟨Nat.le_of_ble_eq_true rfl, Nat.le_of_ble_eq_true rfl⟩) hK hN hP (va_Dsame hD rfl) hS hA [] rfl rfl rfl hl.1 rfl (Nat.le_of_ble_eq_true rfl) dX8_storm_82 ⟨Nat.zero_le _, Nat.zero_le _⟩ (bI o_82) rfl rfl (fun H locs hP hS => ?_)
        refine lv_if_eq (tgt := 99) hx hb dX8_storm_85 (by decide) (fun c_85 => ?_) (fun c_85 => ?_)
        · refine lv_iload_n hx hb dX8_storm_99 rfl (lv_at hl 4 rfl) ?_
          refine lv_istore_n (lv' := [(2, .int z22_2), (7, .int o_72), (6, .int w_59), (4, .long (uSL w_40 33)), (3, .int (nI i22)), (0, .ref a), (1, .int x1)]) hx hb dX8_storm_100 rfl hl (by decide) rfl (fun ls hl => ?_)
          refine lv_iinc (v := (nI (i22 + 1))) (lv' := [(3, .int (nI (i22 + 1))), (2, .int z22_2), (7, .int o_72), (6, .int w_59), (4, .long (uSL w_40 33)), (0, .ref a), (1, .int x1)]) hx hb dX8_storm_101 hl (k := 4) rfl (nI_1 _) (by decide) rfl (fun ls hl => ?_)
          refine lv_goto (tgt := 22) hx hb dX8_storm_104 (by decide) ?_
          have e8 : v_X8_storm_L22 i22 (z22_1, z22_2) = (w_40, z22_2) := by
            show v_X8_storm_L22c i22 z22_1 z22_2 = (w_40, z22_2)
            refine (bnd_eq hw_40).trans ?_
            refine (bnd_eq hw_59).trans ?_
            refine (bnd_eq ho_72).trans ?_
            refine (bnd_eq ho_82).trans ?_
            refine (if_pos c_85).trans ?_
            rfl
          exact ih (i22 + 1) (w_40, z22_2) (by omega) (by omega) (it_go e8 hz) _ _ _ hP hS (lv_sub hl [0, 1, 5, 6] rfl)
        · refine lv_iload_n hx hb dX8_storm_88 rfl (lv_at hl 4 rfl) ?_
          refine lv_iload hx hb dX8_storm_89 (lv_at hl 1 rfl) ?_
          refine lv_iload hx hb dX8_storm_91 (lv_at hl 0 rfl) ?_
          obtain ⟨o_93, ho_93⟩ : ∃ z : Int32, z = v_X8_movedHanging z22_2 w_59 o_72 := ⟨_, rfl⟩
          refine callSIs (As := [.int z22_2, .int w_59, .int o_72]) (rest := []) o_93 ho_93 hF (k_X8_movedHanging l D cI cZ z22_2 w_59 o_72) (va_cwS 3 hts gX8_storm_X8_movedHanging rfl rfl rfl (by decide +kernel) ⟨Nat.le_of_ble_eq_true rfl, Nat.le_of_ble_eq_true rfl⟩) hK hN hP (va_Dsame hD rfl) hS hA [] rfl rfl rfl hl.1 rfl (Nat.le_of_ble_eq_true rfl) dX8_storm_93 ⟨Nat.zero_le _, Nat.zero_le _⟩ o_93 rfl rfl (fun H locs hP hS => ?_)
          refine lv_goto (tgt := 100) hx hb dX8_storm_96 (by decide) ?_
          refine lv_istore_n (lv' := [(2, .int o_93), (7, .int o_72), (6, .int w_59), (4, .long (uSL w_40 33)), (3, .int (nI i22)), (0, .ref a), (1, .int x1)]) hx hb dX8_storm_100 rfl hl (by decide) rfl (fun ls hl => ?_)
          refine lv_iinc (v := (nI (i22 + 1))) (lv' := [(3, .int (nI (i22 + 1))), (2, .int o_93), (7, .int o_72), (6, .int w_59), (4, .long (uSL w_40 33)), (0, .ref a), (1, .int x1)]) hx hb dX8_storm_101 hl (k := 4) rfl (nI_1 _) (by decide) rfl (fun ls hl => ?_)
          refine lv_goto (tgt := 22) hx hb dX8_storm_104 (by decide) ?_
          have e8 : v_X8_storm_L22 i22 (z22_1, z22_2) = (w_40, o_93) := by
            show v_X8_storm_L22c i22 z22_1 z22_2 = (w_40, o_93)
            refine (bnd_eq hw_40).trans ?_
            refine (bnd_eq hw_59).trans ?_
            refine (bnd_eq ho_72).trans ?_
            refine (bnd_eq ho_82).trans ?_
            refine (if_neg c_85).trans ?_
            refine (bnd_eq ho_93).trans ?_
            rfl
          exact ih (i22 + 1) (w_40, o_93) (by omega) (by omega) (it_go e8 hz) _ _ _ hP hS (lv_sub hl [0, 1, 5, 6] rfl)
    exact loop22 x1.toNatClampNeg 0 (j_seed, i_hung) (Nat.le_refl _) rfl ho_L22.symm _ _ _ hP hS (lv_sub hl [0, 1, 2, 3] rfl)
  · refine lv_bipush (v := (-2)) hx hb dX8_storm_12 rfl ?_
    have e9 : v_X8_storm x1 i_hung j_seed = ((-2), j_seed) := by
      refine (bnd_eq ho_6).trans ?_
      refine (if_pos c_9).trans ?_
      rfl
    rw [hQ]; exact retI ((-2), j_seed) hx hb hr hlk e9 hP rfl hS dX8_storm_14
def v_X8_keep (x1 : Int32) (i_hung : Int32) (i_hour : Int32) (f_isKept : Nat → Int32) (f_kept : Nat → Int32) : Int32 × (Nat → Int32) × (Nat → Int32) :=
  bnd (v_X8_in x1.toInt64 0 1) fun o_4 =>
  (if bI o_4 = 0 then ((-1), f_isKept, f_kept)
  else (bnd (v_X8_ones i_hung) fun o_42 =>
  (o_42, (upd f_isKept x1.toNatClampNeg (vp_nar .boolean 1)), (upd f_kept x1.toNatClampNeg (i_hung + (4096 * i_hour))))))
abbrev rm_X8_keep : Room := { frames := 1, cells := 0, slots := 0, locals := 25 }
set_option maxHeartbeats 4000000 in
set_option maxRecDepth 100000 in
theorem k_X8_keep (l : Launch) (D : va_G) (cI cZ : ClassId) (a a_readWishes a_readOwed a_told a_owed a_text a_row a_least a_values a_tellPlace a_tellHour a_tellDark a_isKept a_kept : Nat) (x1 : Int32) (i_readHung : Int32) (i_readMany : Int32) (i_readOwes : Int32) (i_wishes : Int32) (i_hung : Int32) (i_hour : Int32) (i_length : Int32) (i_at : Int32) (i_faultAt : Int32) (i_acts : Int32) (i_next : Int32) (i_tells : Int32) (j_seed : Int64) (f_isKept : Nat → Int32) (f_kept : Nat → Int32) : KI l D cI cZ yX8_keep wsX8_keep rm_X8_keep [.ref a, .int x1] [(a, .inr (8, [.ref a_readWishes, .ref a_readOwed, .int i_readHung, .int i_readMany, .int i_readOwes, .ref a_told, .ref a_owed, .int i_wishes, .int i_hung, .int i_hour, .ref a_text, .int i_length, .int i_at, .int i_faultAt, .int i_acts, .int i_next, .ref a_row, .ref a_least, .ref a_values, .int i_tells, .ref a_tellPlace, .ref a_tellHour, .ref a_tellDark, .long j_seed, .ref a_isKept, .ref a_kept])), (a_isKept, .inl (cZ, 2, .inl f_isKept)), (a_kept, .inl (cI, 2, .inl f_kept))] (v_X8_keep x1 i_hung i_hour f_isKept f_kept) (fun o : Int32 × (Nat → Int32) × (Nat → Int32) => o.1) (fun o : Int32 × (Nat → Int32) × (Nat → Int32) => [(a, .inr (8, [.ref a_readWishes, .ref a_readOwed, .int i_readHung, .int i_readMany, .int i_readOwes, .ref a_told, .ref a_owed, .int i_wishes, .int i_hung, .int i_hour, .ref a_text, .int i_length, .int i_at, .int i_faultAt, .int i_acts, .int i_next, .ref a_row, .ref a_least, .ref a_values, .int i_tells, .ref a_tellPlace, .ref a_tellHour, .ref a_tellDark, .long j_seed, .ref a_isKept, .ref a_kept])), (a_isKept, .inl (cZ, 2, .inl o.2.1)), (a_kept, .inl (cI, 2, .inl o.2.2))]) := by
  refine KI.of cX8_keep 2 (some .int) (by decide) rfl (Nat.le_of_ble_eq_true rfl) ?_
  intro p e s m below meth c A ls ar Q hQ B
  obtain ⟨hx, hb, hr, hml, hts, hown, hlk, hK, hN, hP, hD, hA, hS, hl⟩ := B
  have hown : s.vm.findClass RX8 = some m.cls := hown
  have hF : CallFix p m c cX8_keep 2 s ar wsX8_keep RX8 := ⟨hx, hb, hml, hown, hts⟩
  have hl : lv_has ls 2 [(0, .ref a), (1, .int x1)] := hl
  refine lv_iload_n hx hb dX8_keep_0 rfl (lv_at hl 1 rfl) ?_
  refine lv_i2l (v := x1.toInt64) hx hb dX8_keep_1 rfl ?_
  refine lv_lconst (v := 0) hx hb dX8_keep_2 rfl ?_
  refine lv_lconst (v := 1) hx hb dX8_keep_3 rfl ?_
  obtain ⟨o_4, ho_4⟩ : ∃ z : Bool, z = v_X8_in x1.toInt64 0 1 := ⟨_, rfl⟩
  refine callSIs (As := [.long x1.toInt64, .long 0, .long 1]) (rest := []) o_4 ho_4 hF (k_X8_in l D cI cZ x1.toInt64 0 1) (va_cwS 3 hts gX8_keep_X8_in rfl rfl rfl (by decide +kernel) ⟨Nat.le_of_ble_eq_true rfl, Nat.le_of_ble_eq_true rfl⟩) hK hN hP (va_Dsame hD rfl) hS hA [] rfl rfl rfl hl.1 rfl (Nat.le_of_ble_eq_true rfl) dX8_keep_4 ⟨Nat.zero_le _, Nat.zero_le _⟩ (bI o_4) rfl rfl (fun H locs hP hS => ?_)
  refine lv_if_ne (tgt := 12) hx hb dX8_keep_7 (by decide) (fun c_7 => ?_) (fun c_7 => ?_)
  · refine lv_aload_n hx hb dX8_keep_12 rfl (lv_at hl 0 rfl) ?_
    refine va_get (D := D) (ci := 8) (v := .ref a_isKept) (C := RX8) (T := TX8) (N := 26) hx hb hts (fun _ h => List.mem_cons_of_mem _ (List.mem_append_right _ (h))) hown hK hP 0 rfl rfl 24 (by decide) (hts _ (List.mem_of_getElem? (i := 1) rfl)) (fun _ h9 => h9) rfl dX8_keep_13 ?_
    refine lv_iload_n hx hb dX8_keep_16 rfl (lv_at hl 1 rfl) ?_
    refine lv_iconst (v := 1) hx hb dX8_keep_17 rfl ?_
    refine va_zast hx hb hK hP (va_Dsame hD rfl) hS 1 1 rfl rfl (in01 ho_4 c_7) dX8_keep_18 (fun H locs hP _ hS => ?_)
    have hP : va_P D vwCl [(a, .inr (8, [.ref a_readWishes, .ref a_readOwed, .int i_readHung, .int i_readMany, .int i_readOwes, .ref a_told, .ref a_owed, .int i_wishes, .int i_hung, .int i_hour, .ref a_text, .int i_length, .int i_at, .int i_faultAt, .int i_acts, .int i_next, .ref a_row, .ref a_least, .ref a_values, .int i_tells, .ref a_tellPlace, .ref a_tellHour, .ref a_tellDark, .long j_seed, .ref a_isKept, .ref a_kept])), (a_isKept, .inl (cZ, 2, .inl (upd f_isKept x1.toNatClampNeg (vp_nar .boolean 1)))), (a_kept, .inl (cI, 2, .inl f_kept))] H := hP
    refine lv_aload_n hx hb dX8_keep_19 rfl (lv_at hl 0 rfl) ?_
    refine va_get (D := D) (ci := 8) (v := .ref a_kept) (C := RX8) (T := TX8) (N := 26) hx hb hts (fun _ h => List.mem_cons_of_mem _ (List.mem_append_right _ (h))) hown hK hP 0 rfl rfl 25 (by decide) (hts _ (List.mem_of_getElem? (i := 2) rfl)) (fun _ h9 => h9) rfl dX8_keep_20 ?_
    refine lv_iload_n hx hb dX8_keep_23 rfl (lv_at hl 1 rfl) ?_
    refine lv_aload_n hx hb dX8_keep_24 rfl (lv_at hl 0 rfl) ?_
    refine va_get (D := D) (ci := 8) (v := .int i_hung) (C := RX8) (T := TX8) (N := 26) hx hb hts (fun _ h => List.mem_cons_of_mem _ (List.mem_append_right _ (h))) hown hK hP 0 rfl rfl 8 (by decide) (hts _ (List.mem_of_getElem? (i := 3) rfl)) (fun _ h9 => h9) rfl dX8_keep_25 ?_
    refine lv_sipush (v := 4096) hx hb dX8_keep_28 rfl ?_
    refine lv_aload_n hx hb dX8_keep_31 rfl (lv_at hl 0 rfl) ?_
    refine va_get (D := D) (ci := 8) (v := .int i_hour) (C := RX8) (T := TX8) (N := 26) hx hb hts (fun _ h => List.mem_cons_of_mem _ (List.mem_append_right _ (h))) hown hK hP 0 rfl rfl 9 (by decide) (hts _ (List.mem_of_getElem? (i := 4) rfl)) (fun _ h9 => h9) rfl dX8_keep_32 ?_
    refine lv_imul hx hb dX8_keep_35 ?_
    refine lv_iadd hx hb dX8_keep_36 ?_
    refine va_iast hx hb hK hP (va_Dsame hD rfl) hS 2 0 rfl rfl (in01 ho_4 c_7) dX8_keep_37 (fun H locs hP _ hS => ?_)
    have hP : va_P D vwCl [(a, .inr (8, [.ref a_readWishes, .ref a_readOwed, .int i_readHung, .int i_readMany, .int i_readOwes, .ref a_told, .ref a_owed, .int i_wishes, .int i_hung, .int i_hour, .ref a_text, .int i_length, .int i_at, .int i_faultAt, .int i_acts, .int i_next, .ref a_row, .ref a_least, .ref a_values, .int i_tells, .ref a_tellPlace, .ref a_tellHour, .ref a_tellDark, .long j_seed, .ref a_isKept, .ref a_kept])), (a_isKept, .inl (cZ, 2, .inl (upd f_isKept x1.toNatClampNeg (vp_nar .boolean 1)))), (a_kept, .inl (cI, 2, .inl (upd f_kept x1.toNatClampNeg (i_hung + (4096 * i_hour)))))] H := hP
    refine lv_aload_n hx hb dX8_keep_38 rfl (lv_at hl 0 rfl) ?_
    refine va_get (D := D) (ci := 8) (v := .int i_hung) (C := RX8) (T := TX8) (N := 26) hx hb hts (fun _ h => List.mem_cons_of_mem _ (List.mem_append_right _ (h))) hown hK hP 0 rfl rfl 8 (by decide) (hts _ (List.mem_of_getElem? (i := 3) rfl)) (fun _ h9 => h9) rfl dX8_keep_39 ?_
    obtain ⟨o_42, ho_42⟩ : ∃ z : Int32, z = v_X8_ones i_hung := ⟨_, rfl⟩
    refine callSIs (As := [.int i_hung]) (rest := []) o_42 ho_42 hF (k_X8_ones l D cI cZ i_hung) (va_cwS 1 hts gX8_keep_X8_ones rfl rfl rfl (by decide +kernel) ⟨Nat.le_of_ble_eq_true rfl, Nat.le_of_ble_eq_true rfl⟩) hK hN hP (va_Dsame hD rfl) hS hA [] rfl rfl rfl hl.1 rfl (Nat.le_of_ble_eq_true rfl) dX8_keep_42 ⟨Nat.zero_le _, Nat.zero_le _⟩ o_42 rfl rfl (fun H locs hP hS => ?_)
    have e9 : v_X8_keep x1 i_hung i_hour f_isKept f_kept = (o_42, (upd f_isKept x1.toNatClampNeg (vp_nar .boolean 1)), (upd f_kept x1.toNatClampNeg (i_hung + (4096 * i_hour)))) := by
      refine (bnd_eq ho_4).trans ?_
      refine (if_neg c_7).trans ?_
      refine (bnd_eq ho_42).trans ?_
      rfl
    rw [hQ]; exact retI (o_42, (upd f_isKept x1.toNatClampNeg (vp_nar .boolean 1)), (upd f_kept x1.toNatClampNeg (i_hung + (4096 * i_hour)))) hx hb hr hlk e9 hP rfl hS dX8_keep_45
  · refine lv_iconst (v := (-1)) hx hb dX8_keep_10 rfl ?_
    have e9 : v_X8_keep x1 i_hung i_hour f_isKept f_kept = ((-1), f_isKept, f_kept) := by
      refine (bnd_eq ho_4).trans ?_
      refine (if_pos c_7).trans ?_
      rfl
    rw [hQ]; exact retI ((-1), f_isKept, f_kept) hx hb hr hlk e9 hP rfl hS dX8_keep_11
def v_X8_again (x1 : Int32) (i_hung : Int32) (i_hour : Int32) (i_acts : Int32) (f_isKept : Nat → Int32) (f_kept : Nat → Int32) : Int32 × Int32 × Int32 × Int32 :=
  bnd (v_X8_in x1.toInt64 0 1) fun o_4 =>
  (if bI o_4 = 0 then ((-1), i_hung, i_hour, i_acts)
  else (if (f_isKept x1.toNatClampNeg) = 0 then ((-3), i_hung, i_hour, i_acts)
  else (bnd (((f_kept x1.toNatClampNeg) - (f_kept x1.toNatClampNeg) / 4096 * 4096)) fun w_35 =>
  (bnd (v_X8_ones w_35) fun o_61 =>
  (o_61, w_35, ((f_kept x1.toNatClampNeg) / 4096), 0)))))
abbrev rm_X8_again : Room := { frames := 1, cells := 0, slots := 0, locals := 25 }
set_option maxHeartbeats 4000000 in
set_option maxRecDepth 100000 in
theorem k_X8_again (l : Launch) (D : va_G) (cI cZ : ClassId) (a a_readWishes a_readOwed a_told a_owed a_text a_row a_least a_values a_tellPlace a_tellHour a_tellDark a_isKept a_kept : Nat) (x1 : Int32) (i_readHung : Int32) (i_readMany : Int32) (i_readOwes : Int32) (i_wishes : Int32) (i_hung : Int32) (i_hour : Int32) (i_length : Int32) (i_at : Int32) (i_faultAt : Int32) (i_acts : Int32) (i_next : Int32) (i_tells : Int32) (j_seed : Int64) (f_isKept : Nat → Int32) (f_kept : Nat → Int32) : KI l D cI cZ yX8_again wsX8_again rm_X8_again [.ref a, .int x1] [(a, .inr (8, [.ref a_readWishes, .ref a_readOwed, .int i_readHung, .int i_readMany, .int i_readOwes, .ref a_told, .ref a_owed, .int i_wishes, .int i_hung, .int i_hour, .ref a_text, .int i_length, .int i_at, .int i_faultAt, .int i_acts, .int i_next, .ref a_row, .ref a_least, .ref a_values, .int i_tells, .ref a_tellPlace, .ref a_tellHour, .ref a_tellDark, .long j_seed, .ref a_isKept, .ref a_kept])), (a_isKept, .inl (cZ, 2, .inl f_isKept)), (a_kept, .inl (cI, 2, .inl f_kept))] (v_X8_again x1 i_hung i_hour i_acts f_isKept f_kept) (fun o : Int32 × Int32 × Int32 × Int32 => o.1) (fun o : Int32 × Int32 × Int32 × Int32 => [(a, .inr (8, [.ref a_readWishes, .ref a_readOwed, .int i_readHung, .int i_readMany, .int i_readOwes, .ref a_told, .ref a_owed, .int i_wishes, .int o.2.1, .int o.2.2.1, .ref a_text, .int i_length, .int i_at, .int i_faultAt, .int o.2.2.2, .int i_next, .ref a_row, .ref a_least, .ref a_values, .int i_tells, .ref a_tellPlace, .ref a_tellHour, .ref a_tellDark, .long j_seed, .ref a_isKept, .ref a_kept])), (a_isKept, .inl (cZ, 2, .inl f_isKept)), (a_kept, .inl (cI, 2, .inl f_kept))]) := by
  refine KI.of cX8_again 2 (some .int) (by decide) rfl (Nat.le_of_ble_eq_true rfl) ?_
  intro p e s m below meth c A ls ar Q hQ B
  obtain ⟨hx, hb, hr, hml, hts, hown, hlk, hK, hN, hP, hD, hA, hS, hl⟩ := B
  have hown : s.vm.findClass RX8 = some m.cls := hown
  have hF : CallFix p m c cX8_again 2 s ar wsX8_again RX8 := ⟨hx, hb, hml, hown, hts⟩
  have hl : lv_has ls 2 [(0, .ref a), (1, .int x1)] := hl
  refine lv_iload_n hx hb dX8_again_0 rfl (lv_at hl 1 rfl) ?_
  refine lv_i2l (v := x1.toInt64) hx hb dX8_again_1 rfl ?_
  refine lv_lconst (v := 0) hx hb dX8_again_2 rfl ?_
  refine lv_lconst (v := 1) hx hb dX8_again_3 rfl ?_
  obtain ⟨o_4, ho_4⟩ : ∃ z : Bool, z = v_X8_in x1.toInt64 0 1 := ⟨_, rfl⟩
  refine callSIs (As := [.long x1.toInt64, .long 0, .long 1]) (rest := []) o_4 ho_4 hF (k_X8_in l D cI cZ x1.toInt64 0 1) (va_cwS 3 hts gX8_again_X8_in rfl rfl rfl (by decide +kernel) ⟨Nat.le_of_ble_eq_true rfl, Nat.le_of_ble_eq_true rfl⟩) hK hN hP (va_Dsame hD rfl) hS hA [] rfl rfl rfl hl.1 rfl (Nat.le_of_ble_eq_true rfl) dX8_again_4 ⟨Nat.zero_le _, Nat.zero_le _⟩ (bI o_4) rfl rfl (fun H locs hP hS => ?_)
  refine lv_if_ne (tgt := 12) hx hb dX8_again_7 (by decide) (fun c_7 => ?_) (fun c_7 => ?_)
  · refine lv_aload_n hx hb dX8_again_12 rfl (lv_at hl 0 rfl) ?_
    refine va_get (D := D) (ci := 8) (v := .ref a_isKept) (C := RX8) (T := TX8) (N := 26) hx hb hts (fun _ h => List.mem_cons_of_mem _ (List.mem_append_right _ (h))) hown hK hP 0 rfl rfl 24 (by decide) (hts _ (List.mem_of_getElem? (i := 1) rfl)) (fun _ h9 => h9) rfl dX8_again_13 ?_
    refine lv_iload_n hx hb dX8_again_16 rfl (lv_at hl 1 rfl) ?_
    refine va_zald hx hb hK hP 1 1 rfl rfl (in01 ho_4 c_7) dX8_again_17 ?_
    refine lv_if_ne (tgt := 24) hx hb dX8_again_18 (by decide) (fun c_18 => ?_) (fun c_18 => ?_)
    · refine lv_aload_n hx hb dX8_again_24 rfl (lv_at hl 0 rfl) ?_
      refine lv_aload_n hx hb dX8_again_25 rfl (lv_at hl 0 rfl) ?_
      refine va_get (D := D) (ci := 8) (v := .ref a_kept) (C := RX8) (T := TX8) (N := 26) hx hb hts (fun _ h => List.mem_cons_of_mem _ (List.mem_append_right _ (h))) hown hK hP 0 rfl rfl 25 (by decide) (hts _ (List.mem_of_getElem? (i := 2) rfl)) (fun _ h9 => h9) rfl dX8_again_26 ?_
      refine lv_iload_n hx hb dX8_again_29 rfl (lv_at hl 1 rfl) ?_
      refine va_iald hx hb hK hP 2 0 rfl rfl (in01 ho_4 c_7) dX8_again_30 ?_
      refine lv_sipush (v := 4096) hx hb dX8_again_31 rfl ?_
      refine lv_irem hx hb dX8_again_34 (by decide) ?_
      refine lv_topi (fun w_35 hw_35 => ?_)
      refine va_put (D := D) (ci := 8) (v := .int w_35) (ty := .int) (C := RX8) (T := TX8) (N := 26) hx hb hts (fun _ h => List.mem_cons_of_mem _ (List.mem_append_right _ (h))) tyX8 tyX8_ok nmX8 hown hK hP (va_Dsame hD rfl) hS 0 rfl rfl 8 (by decide) (hts _ (List.mem_of_getElem? (i := 3) rfl)) (fun _ h9 => h9) rfl (tyX8_ok 8 (by decide)) rfl rfl (Nat.le_of_ble_eq_true rfl) dX8_again_35 (fun H locs hP _ hS => ?_)
      have hP : va_P D vwCl [(a, .inr (8, [.ref a_readWishes, .ref a_readOwed, .int i_readHung, .int i_readMany, .int i_readOwes, .ref a_told, .ref a_owed, .int i_wishes, .int w_35, .int i_hour, .ref a_text, .int i_length, .int i_at, .int i_faultAt, .int i_acts, .int i_next, .ref a_row, .ref a_least, .ref a_values, .int i_tells, .ref a_tellPlace, .ref a_tellHour, .ref a_tellDark, .long j_seed, .ref a_isKept, .ref a_kept])), (a_isKept, .inl (cZ, 2, .inl f_isKept)), (a_kept, .inl (cI, 2, .inl f_kept))] H := hP
      refine lv_aload_n hx hb dX8_again_38 rfl (lv_at hl 0 rfl) ?_
      refine lv_aload_n hx hb dX8_again_39 rfl (lv_at hl 0 rfl) ?_
      refine va_get (D := D) (ci := 8) (v := .ref a_kept) (C := RX8) (T := TX8) (N := 26) hx hb hts (fun _ h => List.mem_cons_of_mem _ (List.mem_append_right _ (h))) hown hK hP 0 rfl rfl 25 (by decide) (hts _ (List.mem_of_getElem? (i := 2) rfl)) (fun _ h9 => h9) rfl dX8_again_40 ?_
      refine lv_iload_n hx hb dX8_again_43 rfl (lv_at hl 1 rfl) ?_
      refine va_iald hx hb hK hP 2 0 rfl rfl (in01 ho_4 c_7) dX8_again_44 ?_
      refine lv_sipush (v := 4096) hx hb dX8_again_45 rfl ?_
      refine lv_idiv hx hb dX8_again_48 (by decide) ?_
      refine va_put (D := D) (ci := 8) (v := .int ((f_kept x1.toNatClampNeg) / 4096)) (ty := .int) (C := RX8) (T := TX8) (N := 26) hx hb hts (fun _ h => List.mem_cons_of_mem _ (List.mem_append_right _ (h))) tyX8 tyX8_ok nmX8 hown hK hP (va_Dsame hD rfl) hS 0 rfl rfl 9 (by decide) (hts _ (List.mem_of_getElem? (i := 4) rfl)) (fun _ h9 => h9) rfl (tyX8_ok 9 (by decide)) rfl rfl (Nat.le_of_ble_eq_true rfl) dX8_again_49 (fun H locs hP _ hS => ?_)
      have hP : va_P D vwCl [(a, .inr (8, [.ref a_readWishes, .ref a_readOwed, .int i_readHung, .int i_readMany, .int i_readOwes, .ref a_told, .ref a_owed, .int i_wishes, .int w_35, .int ((f_kept x1.toNatClampNeg) / 4096), .ref a_text, .int i_length, .int i_at, .int i_faultAt, .int i_acts, .int i_next, .ref a_row, .ref a_least, .ref a_values, .int i_tells, .ref a_tellPlace, .ref a_tellHour, .ref a_tellDark, .long j_seed, .ref a_isKept, .ref a_kept])), (a_isKept, .inl (cZ, 2, .inl f_isKept)), (a_kept, .inl (cI, 2, .inl f_kept))] H := hP
      refine lv_aload_n hx hb dX8_again_52 rfl (lv_at hl 0 rfl) ?_
      refine lv_iconst (v := 0) hx hb dX8_again_53 rfl ?_
      refine va_put (D := D) (ci := 8) (v := .int 0) (ty := .int) (C := RX8) (T := TX8) (N := 26) hx hb hts (fun _ h => List.mem_cons_of_mem _ (List.mem_append_right _ (h))) tyX8 tyX8_ok nmX8 hown hK hP (va_Dsame hD rfl) hS 0 rfl rfl 14 (by decide) (hts _ (List.mem_of_getElem? (i := 5) rfl)) (fun _ h9 => h9) rfl (tyX8_ok 14 (by decide)) rfl rfl (Nat.le_of_ble_eq_true rfl) dX8_again_54 (fun H locs hP _ hS => ?_)
      have hP : va_P D vwCl [(a, .inr (8, [.ref a_readWishes, .ref a_readOwed, .int i_readHung, .int i_readMany, .int i_readOwes, .ref a_told, .ref a_owed, .int i_wishes, .int w_35, .int ((f_kept x1.toNatClampNeg) / 4096), .ref a_text, .int i_length, .int i_at, .int i_faultAt, .int 0, .int i_next, .ref a_row, .ref a_least, .ref a_values, .int i_tells, .ref a_tellPlace, .ref a_tellHour, .ref a_tellDark, .long j_seed, .ref a_isKept, .ref a_kept])), (a_isKept, .inl (cZ, 2, .inl f_isKept)), (a_kept, .inl (cI, 2, .inl f_kept))] H := hP
      refine lv_aload_n hx hb dX8_again_57 rfl (lv_at hl 0 rfl) ?_
      refine va_get (D := D) (ci := 8) (v := .int w_35) (C := RX8) (T := TX8) (N := 26) hx hb hts (fun _ h => List.mem_cons_of_mem _ (List.mem_append_right _ (h))) hown hK hP 0 rfl rfl 8 (by decide) (hts _ (List.mem_of_getElem? (i := 3) rfl)) (fun _ h9 => h9) rfl dX8_again_58 ?_
      obtain ⟨o_61, ho_61⟩ : ∃ z : Int32, z = v_X8_ones w_35 := ⟨_, rfl⟩
      refine callSIs (As := [.int w_35]) (rest := []) o_61 ho_61 hF (k_X8_ones l D cI cZ w_35) (va_cwS 1 hts gX8_again_X8_ones rfl rfl rfl (by decide +kernel) ⟨Nat.le_of_ble_eq_true rfl, Nat.le_of_ble_eq_true rfl⟩) hK hN hP (va_Dsame hD rfl) hS hA [] rfl rfl rfl hl.1 rfl (Nat.le_of_ble_eq_true rfl) dX8_again_61 ⟨Nat.zero_le _, Nat.zero_le _⟩ o_61 rfl rfl (fun H locs hP hS => ?_)
      have e9 : v_X8_again x1 i_hung i_hour i_acts f_isKept f_kept = (o_61, w_35, ((f_kept x1.toNatClampNeg) / 4096), 0) := by
        refine (bnd_eq ho_4).trans ?_
        refine (if_neg c_7).trans ?_
        refine (if_neg c_18).trans ?_
        refine (bnd_eq hw_35).trans ?_
        refine (bnd_eq ho_61).trans ?_
        rfl
      rw [hQ]; exact retI (o_61, w_35, ((f_kept x1.toNatClampNeg) / 4096), 0) hx hb hr hlk e9 hP rfl hS dX8_again_64
    · refine lv_bipush (v := (-3)) hx hb dX8_again_21 rfl ?_
      have e9 : v_X8_again x1 i_hung i_hour i_acts f_isKept f_kept = ((-3), i_hung, i_hour, i_acts) := by
        refine (bnd_eq ho_4).trans ?_
        refine (if_neg c_7).trans ?_
        refine (if_pos c_18).trans ?_
        rfl
      rw [hQ]; exact retI ((-3), i_hung, i_hour, i_acts) hx hb hr hlk e9 hP rfl hS dX8_again_23
  · refine lv_iconst (v := (-1)) hx hb dX8_again_10 rfl ?_
    have e9 : v_X8_again x1 i_hung i_hour i_acts f_isKept f_kept = ((-1), i_hung, i_hour, i_acts) := by
      refine (bnd_eq ho_4).trans ?_
      refine (if_pos c_7).trans ?_
      rfl
    rw [hQ]; exact retI ((-1), i_hung, i_hour, i_acts) hx hb hr hlk e9 hP rfl hS dX8_again_11
