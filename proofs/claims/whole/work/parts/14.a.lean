def v_X8_readWish (i_readMany : Int32) (i_length : Int32) (i_at : Int32) (i_faultAt : Int32) (f_text : Nat → Int32) (f_readWishes : Nat → Int32) : Int32 × Int32 × Int32 × (Nat → Int32) :=
  bnd3 (v_X8_two 4095 i_length (i_at + 1) i_faultAt f_text) fun o_26_1 o_26_2 o_26_3 =>
  (bnd3 (v_X8_figure 63 i_length o_26_2 o_26_3 f_text) fun o_40_1 o_40_2 o_40_3 =>
  (bnd3 (v_X8_figure 126 i_length o_40_2 o_40_3 f_text) fun o_54_1 o_54_2 o_54_3 =>
  (bnd3 (v_X8_figure 1022 i_length o_54_2 o_54_3 f_text) fun o_69_1 o_69_2 o_69_3 =>
  (if o_69_3 = (-9) then (if i_length ≤ o_69_2 then (bnd (v_X8_fail o_69_2 o_69_3) fun o_162 =>
      (i_readMany, o_69_2, o_162, (upd (upd (upd (upd f_readWishes (5 * i_readMany).toNatClampNeg o_26_1) ((5 * i_readMany) + 1).toNatClampNeg o_40_1) ((5 * i_readMany) + 2).toNatClampNeg o_54_1) ((5 * i_readMany) + 3).toNatClampNeg o_69_1)))
    else (if (f_text o_69_2.toNatClampNeg) = 100 then ((i_readMany + 1), (o_69_2 + 1), o_69_3, (upd (upd (upd (upd (upd f_readWishes (5 * i_readMany).toNatClampNeg o_26_1) ((5 * i_readMany) + 1).toNatClampNeg o_40_1) ((5 * i_readMany) + 2).toNatClampNeg o_54_1) ((5 * i_readMany) + 3).toNatClampNeg o_69_1) ((5 * i_readMany) + 4).toNatClampNeg 1))
    else (if (f_text o_69_2.toNatClampNeg) = 108 then ((i_readMany + 1), (o_69_2 + 1), o_69_3, (upd (upd (upd (upd (upd f_readWishes (5 * i_readMany).toNatClampNeg o_26_1) ((5 * i_readMany) + 1).toNatClampNeg o_40_1) ((5 * i_readMany) + 2).toNatClampNeg o_54_1) ((5 * i_readMany) + 3).toNatClampNeg o_69_1) ((5 * i_readMany) + 4).toNatClampNeg 0))
    else (bnd (v_X8_fail o_69_2 o_69_3) fun o_162 =>
    (i_readMany, o_69_2, o_162, (upd (upd (upd (upd f_readWishes (5 * i_readMany).toNatClampNeg o_26_1) ((5 * i_readMany) + 1).toNatClampNeg o_40_1) ((5 * i_readMany) + 2).toNatClampNeg o_54_1) ((5 * i_readMany) + 3).toNatClampNeg o_69_1))))))
  else (bnd (v_X8_fail o_69_2 o_69_3) fun o_162 =>
  (i_readMany, o_69_2, o_162, (upd (upd (upd (upd f_readWishes (5 * i_readMany).toNatClampNeg o_26_1) ((5 * i_readMany) + 1).toNatClampNeg o_40_1) ((5 * i_readMany) + 2).toNatClampNeg o_54_1) ((5 * i_readMany) + 3).toNatClampNeg o_69_1)))))))
abbrev rm_X8_readWish : Room := { frames := 3, cells := 0, slots := 0, locals := 69 }
set_option maxHeartbeats 4000000 in
set_option maxRecDepth 100000 in
theorem k_X8_readWish (l : Launch) (D : va_G) (cI cZ : ClassId) (a a_readWishes a_readOwed a_told a_owed a_text a_row a_least a_values a_tellPlace a_tellHour a_tellDark a_isKept a_kept : Nat) (i_readHung : Int32) (i_readMany : Int32) (i_readOwes : Int32) (i_wishes : Int32) (i_hung : Int32) (i_hour : Int32) (i_length : Int32) (i_at : Int32) (i_faultAt : Int32) (i_acts : Int32) (i_next : Int32) (i_tells : Int32) (j_seed : Int64) (f_text : Nat → Int32) (f_readWishes : Nat → Int32) (hat : vp_in i_at 73) (hl0 : vp_in i_length 73) (hatl : ¬ i_length ≤ i_at) (hm : vp_in i_readMany 5) : KV l D cI cZ yX8_readWish wsX8_readWish rm_X8_readWish [.ref a] [(a, .inr (8, [.ref a_readWishes, .ref a_readOwed, .int i_readHung, .int i_readMany, .int i_readOwes, .ref a_told, .ref a_owed, .int i_wishes, .int i_hung, .int i_hour, .ref a_text, .int i_length, .int i_at, .int i_faultAt, .int i_acts, .int i_next, .ref a_row, .ref a_least, .ref a_values, .int i_tells, .ref a_tellPlace, .ref a_tellHour, .ref a_tellDark, .long j_seed, .ref a_isKept, .ref a_kept])), (a_text, .inl (cI, 72, .inl f_text)), (a_readWishes, .inl (cI, 25, .inl f_readWishes))] (v_X8_readWish i_readMany i_length i_at i_faultAt f_text f_readWishes) (fun o : Int32 × Int32 × Int32 × (Nat → Int32) => [(a, .inr (8, [.ref a_readWishes, .ref a_readOwed, .int i_readHung, .int o.1, .int i_readOwes, .ref a_told, .ref a_owed, .int i_wishes, .int i_hung, .int i_hour, .ref a_text, .int i_length, .int o.2.1, .int o.2.2.1, .int i_acts, .int i_next, .ref a_row, .ref a_least, .ref a_values, .int i_tells, .ref a_tellPlace, .ref a_tellHour, .ref a_tellDark, .long j_seed, .ref a_isKept, .ref a_kept])), (a_text, .inl (cI, 72, .inl f_text)), (a_readWishes, .inl (cI, 25, .inl o.2.2.2))]) := by
  refine KV.of cX8_readWish 3 none (by decide) rfl (Nat.le_of_ble_eq_true rfl) ?_
  intro p e s m below meth c A ls ar Q hQ B
  obtain ⟨hx, hb, hr, hml, hts, hown, hlk, hK, hN, hP, hD, hA, hS, hl⟩ := B
  have hown : s.vm.findClass RX8 = some m.cls := hown
  have hF : CallFix p m c cX8_readWish 3 s ar wsX8_readWish RX8 := ⟨hx, hb, hml, hown, hts⟩
  have hl : lv_has ls 3 [(0, .ref a)] := hl
  refine lv_aload_n hx hb dX8_readWish_0 rfl (lv_at hl 0 rfl) ?_
  refine lv_dup hx hb dX8_readWish_1 rfl ?_
  refine va_get (D := D) (ci := 8) (v := .int i_at) (C := RX8) (T := TX8) (N := 26) hx hb hts (fun _ h => List.mem_cons_of_mem _ (List.mem_append_right _ (h))) hown hK hP 0 rfl rfl 12 (by decide) (hts _ (List.mem_of_getElem? (i := 1) rfl)) (fun _ h9 => h9) rfl dX8_readWish_2 ?_
  refine lv_iconst (v := 1) hx hb dX8_readWish_5 rfl ?_
  refine lv_iadd hx hb dX8_readWish_6 ?_
  refine va_put (D := D) (ci := 8) (v := .int (i_at + 1)) (ty := .int) (C := RX8) (T := TX8) (N := 26) hx hb hts (fun _ h => List.mem_cons_of_mem _ (List.mem_append_right _ (h))) tyX8 tyX8_ok nmX8 hown hK hP (va_Dsame hD rfl) hS 0 rfl rfl 12 (by decide) (hts _ (List.mem_of_getElem? (i := 1) rfl)) (fun _ h9 => h9) rfl (tyX8_ok 12 (by decide)) rfl rfl (Nat.le_of_ble_eq_true rfl) dX8_readWish_7 (fun H locs hP _ hS => ?_)
  have hP : va_P D vwCl [(a, .inr (8, [.ref a_readWishes, .ref a_readOwed, .int i_readHung, .int i_readMany, .int i_readOwes, .ref a_told, .ref a_owed, .int i_wishes, .int i_hung, .int i_hour, .ref a_text, .int i_length, .int (i_at + 1), .int i_faultAt, .int i_acts, .int i_next, .ref a_row, .ref a_least, .ref a_values, .int i_tells, .ref a_tellPlace, .ref a_tellHour, .ref a_tellDark, .long j_seed, .ref a_isKept, .ref a_kept])), (a_text, .inl (cI, 72, .inl f_text)), (a_readWishes, .inl (cI, 25, .inl f_readWishes))] H := hP
  refine lv_iconst (v := 5) hx hb dX8_readWish_10 rfl ?_
  refine lv_aload_n hx hb dX8_readWish_11 rfl (lv_at hl 0 rfl) ?_
  refine va_get (D := D) (ci := 8) (v := .int i_readMany) (C := RX8) (T := TX8) (N := 26) hx hb hts (fun _ h => List.mem_cons_of_mem _ (List.mem_append_right _ (h))) hown hK hP 0 rfl rfl 3 (by decide) (hts _ (List.mem_of_getElem? (i := 2) rfl)) (fun _ h9 => h9) rfl dX8_readWish_12 ?_
  refine lv_imul hx hb dX8_readWish_15 ?_
  refine lv_istore_n (lv' := [(1, .int (5 * i_readMany)), (0, .ref a)]) hx hb dX8_readWish_16 rfl hl (by decide) rfl (fun ls hl => ?_)
  refine lv_aload_n hx hb dX8_readWish_17 rfl (lv_at hl 1 rfl) ?_
  refine va_get (D := D) (ci := 8) (v := .ref a_readWishes) (C := RX8) (T := TX8) (N := 26) hx hb hts (fun _ h => List.mem_cons_of_mem _ (List.mem_append_right _ (h))) hown hK hP 0 rfl rfl 0 (by decide) (hts _ (List.mem_of_getElem? (i := 3) rfl)) (fun _ h9 => h9) rfl dX8_readWish_18 ?_
  refine lv_iload_n hx hb dX8_readWish_21 rfl (lv_at hl 0 rfl) ?_
  refine lv_aload_n hx hb dX8_readWish_22 rfl (lv_at hl 1 rfl) ?_
  refine lv_sipush (v := 4095) hx hb dX8_readWish_23 rfl ?_
  obtain ⟨o_26_1, o_26_2, o_26_3, ho_26⟩ : ∃ o_26_1 o_26_2 o_26_3, (o_26_1, o_26_2, o_26_3) = v_X8_two 4095 i_length (i_at + 1) i_faultAt f_text := ⟨_, _, _, rfl⟩
  refine callVI (As := [.int 4095]) (rest := [.int (5 * i_readMany), .ref a_readWishes]) (o_26_1, o_26_2, o_26_3) ho_26 hF (k_X8_two l D cI cZ a a_readWishes a_readOwed a_told a_owed a_text a_row a_least a_values a_tellPlace a_tellHour a_tellDark a_isKept a_kept 4095 i_readHung i_readMany i_readOwes i_wishes i_hung i_hour i_length (i_at + 1) i_faultAt i_acts i_next i_tells j_seed f_text (vin_s hat hl0 hatl) (hl0)) (cwV 1 hts gX8_readWish_X8_two rfl rfl rfl (by decide +kernel) ⟨Nat.le_of_ble_eq_true rfl, Nat.le_of_ble_eq_true rfl⟩) hK hN hP (va_Dsame hD rfl) hS hA [0, 1] rfl rfl 0 8 (T := TX8) (N := 26) rfl rfl rfl hl.1 rfl (Nat.le_of_ble_eq_true rfl) dX8_readWish_26 ⟨Nat.zero_le _, Nat.zero_le _⟩ o_26_1 rfl [some 0, some 1, none] 2 [(a, .inr (8, [.ref a_readWishes, .ref a_readOwed, .int i_readHung, .int i_readMany, .int i_readOwes, .ref a_told, .ref a_owed, .int i_wishes, .int i_hung, .int i_hour, .ref a_text, .int i_length, .int o_26_2, .int o_26_3, .int i_acts, .int i_next, .ref a_row, .ref a_least, .ref a_values, .int i_tells, .ref a_tellPlace, .ref a_tellHour, .ref a_tellDark, .long j_seed, .ref a_isKept, .ref a_kept])), (a_text, .inl (cI, 72, .inl f_text)), (a_readWishes, .inl (cI, 25, .inl f_readWishes))] rfl rfl (by decide) (fun H locs hP hS => ?_)
  refine va_iast hx hb hK hP (va_Dsame hD rfl) hS 2 0 rfl rfl (ix5z hm) dX8_readWish_29 (fun H locs hP _ hS => ?_)
  have hP : va_P D vwCl [(a, .inr (8, [.ref a_readWishes, .ref a_readOwed, .int i_readHung, .int i_readMany, .int i_readOwes, .ref a_told, .ref a_owed, .int i_wishes, .int i_hung, .int i_hour, .ref a_text, .int i_length, .int o_26_2, .int o_26_3, .int i_acts, .int i_next, .ref a_row, .ref a_least, .ref a_values, .int i_tells, .ref a_tellPlace, .ref a_tellHour, .ref a_tellDark, .long j_seed, .ref a_isKept, .ref a_kept])), (a_text, .inl (cI, 72, .inl f_text)), (a_readWishes, .inl (cI, 25, .inl (upd f_readWishes (5 * i_readMany).toNatClampNeg o_26_1)))] H := hP
  refine lv_aload_n hx hb dX8_readWish_30 rfl (lv_at hl 1 rfl) ?_
  refine va_get (D := D) (ci := 8) (v := .ref a_readWishes) (C := RX8) (T := TX8) (N := 26) hx hb hts (fun _ h => List.mem_cons_of_mem _ (List.mem_append_right _ (h))) hown hK hP 0 rfl rfl 0 (by decide) (hts _ (List.mem_of_getElem? (i := 3) rfl)) (fun _ h9 => h9) rfl dX8_readWish_31 ?_
  refine lv_iload_n hx hb dX8_readWish_34 rfl (lv_at hl 0 rfl) ?_
  refine lv_iconst (v := 1) hx hb dX8_readWish_35 rfl ?_
  refine lv_iadd hx hb dX8_readWish_36 ?_
  refine lv_aload_n hx hb dX8_readWish_37 rfl (lv_at hl 1 rfl) ?_
  refine lv_bipush (v := 63) hx hb dX8_readWish_38 rfl ?_
  obtain ⟨o_40_1, o_40_2, o_40_3, ho_40⟩ : ∃ o_40_1 o_40_2 o_40_3, (o_40_1, o_40_2, o_40_3) = v_X8_figure 63 i_length o_26_2 o_26_3 f_text := ⟨_, _, _, rfl⟩
  refine callVI (As := [.int 63]) (rest := [.int ((5 * i_readMany) + 1), .ref a_readWishes]) (o_40_1, o_40_2, o_40_3) ho_40 hF (k_X8_figure l D cI cZ a a_readWishes a_readOwed a_told a_owed a_text a_row a_least a_values a_tellPlace a_tellHour a_tellDark a_isKept a_kept 63 i_readHung i_readMany i_readOwes i_wishes i_hung i_hour i_length o_26_2 o_26_3 i_acts i_next i_tells j_seed f_text (two_at (vin_s hat hl0 hatl) hl0 ho_26) (hl0)) (cwV 1 hts gX8_readWish_X8_figure rfl rfl rfl (by decide +kernel) ⟨Nat.le_of_ble_eq_true rfl, Nat.le_of_ble_eq_true rfl⟩) hK hN hP (va_Dsame hD rfl) hS hA [0, 1] rfl rfl 0 8 (T := TX8) (N := 26) rfl rfl rfl hl.1 rfl (Nat.le_of_ble_eq_true rfl) dX8_readWish_40 ⟨Nat.zero_le _, Nat.zero_le _⟩ o_40_1 rfl [some 0, some 1, none] 2 [(a, .inr (8, [.ref a_readWishes, .ref a_readOwed, .int i_readHung, .int i_readMany, .int i_readOwes, .ref a_told, .ref a_owed, .int i_wishes, .int i_hung, .int i_hour, .ref a_text, .int i_length, .int o_40_2, .int o_40_3, .int i_acts, .int i_next, .ref a_row, .ref a_least, .ref a_values, .int i_tells, .ref a_tellPlace, .ref a_tellHour, .ref a_tellDark, .long j_seed, .ref a_isKept, .ref a_kept])), (a_text, .inl (cI, 72, .inl f_text)), (a_readWishes, .inl (cI, 25, .inl (upd f_readWishes (5 * i_readMany).toNatClampNeg o_26_1)))] rfl rfl (by decide) (fun H locs hP hS => ?_)
  refine va_iast hx hb hK hP (va_Dsame hD rfl) hS 2 0 rfl rfl (ix5v (c := 1) hm (by decide)) dX8_readWish_43 (fun H locs hP _ hS => ?_)
  have hP : va_P D vwCl [(a, .inr (8, [.ref a_readWishes, .ref a_readOwed, .int i_readHung, .int i_readMany, .int i_readOwes, .ref a_told, .ref a_owed, .int i_wishes, .int i_hung, .int i_hour, .ref a_text, .int i_length, .int o_40_2, .int o_40_3, .int i_acts, .int i_next, .ref a_row, .ref a_least, .ref a_values, .int i_tells, .ref a_tellPlace, .ref a_tellHour, .ref a_tellDark, .long j_seed, .ref a_isKept, .ref a_kept])), (a_text, .inl (cI, 72, .inl f_text)), (a_readWishes, .inl (cI, 25, .inl (upd (upd f_readWishes (5 * i_readMany).toNatClampNeg o_26_1) ((5 * i_readMany) + 1).toNatClampNeg o_40_1)))] H := hP
  refine lv_aload_n hx hb dX8_readWish_44 rfl (lv_at hl 1 rfl) ?_
  refine va_get (D := D) (ci := 8) (v := .ref a_readWishes) (C := RX8) (T := TX8) (N := 26) hx hb hts (fun _ h => List.mem_cons_of_mem _ (List.mem_append_right _ (h))) hown hK hP 0 rfl rfl 0 (by decide) (hts _ (List.mem_of_getElem? (i := 3) rfl)) (fun _ h9 => h9) rfl dX8_readWish_45 ?_
  refine lv_iload_n hx hb dX8_readWish_48 rfl (lv_at hl 0 rfl) ?_
  refine lv_iconst (v := 2) hx hb dX8_readWish_49 rfl ?_
  refine lv_iadd hx hb dX8_readWish_50 ?_
  refine lv_aload_n hx hb dX8_readWish_51 rfl (lv_at hl 1 rfl) ?_
  refine lv_bipush (v := 126) hx hb dX8_readWish_52 rfl ?_
  obtain ⟨o_54_1, o_54_2, o_54_3, ho_54⟩ : ∃ o_54_1 o_54_2 o_54_3, (o_54_1, o_54_2, o_54_3) = v_X8_figure 126 i_length o_40_2 o_40_3 f_text := ⟨_, _, _, rfl⟩
  refine callVI (As := [.int 126]) (rest := [.int ((5 * i_readMany) + 2), .ref a_readWishes]) (o_54_1, o_54_2, o_54_3) ho_54 hF (k_X8_figure l D cI cZ a a_readWishes a_readOwed a_told a_owed a_text a_row a_least a_values a_tellPlace a_tellHour a_tellDark a_isKept a_kept 126 i_readHung i_readMany i_readOwes i_wishes i_hung i_hour i_length o_40_2 o_40_3 i_acts i_next i_tells j_seed f_text (fig_at (two_at (vin_s hat hl0 hatl) hl0 ho_26) hl0 ho_40) (hl0)) (cwV 1 hts gX8_readWish_X8_figure rfl rfl rfl (by decide +kernel) ⟨Nat.le_of_ble_eq_true rfl, Nat.le_of_ble_eq_true rfl⟩) hK hN hP (va_Dsame hD rfl) hS hA [0, 1] rfl rfl 0 8 (T := TX8) (N := 26) rfl rfl rfl hl.1 rfl (Nat.le_of_ble_eq_true rfl) dX8_readWish_54 ⟨Nat.zero_le _, Nat.zero_le _⟩ o_54_1 rfl [some 0, some 1, none] 2 [(a, .inr (8, [.ref a_readWishes, .ref a_readOwed, .int i_readHung, .int i_readMany, .int i_readOwes, .ref a_told, .ref a_owed, .int i_wishes, .int i_hung, .int i_hour, .ref a_text, .int i_length, .int o_54_2, .int o_54_3, .int i_acts, .int i_next, .ref a_row, .ref a_least, .ref a_values, .int i_tells, .ref a_tellPlace, .ref a_tellHour, .ref a_tellDark, .long j_seed, .ref a_isKept, .ref a_kept])), (a_text, .inl (cI, 72, .inl f_text)), (a_readWishes, .inl (cI, 25, .inl (upd (upd f_readWishes (5 * i_readMany).toNatClampNeg o_26_1) ((5 * i_readMany) + 1).toNatClampNeg o_40_1)))] rfl rfl (by decide) (fun H locs hP hS => ?_)
  refine va_iast hx hb hK hP (va_Dsame hD rfl) hS 2 0 rfl rfl (ix5v (c := 2) hm (by decide)) dX8_readWish_57 (fun H locs hP _ hS => ?_)
  have hP : va_P D vwCl [(a, .inr (8, [.ref a_readWishes, .ref a_readOwed, .int i_readHung, .int i_readMany, .int i_readOwes, .ref a_told, .ref a_owed, .int i_wishes, .int i_hung, .int i_hour, .ref a_text, .int i_length, .int o_54_2, .int o_54_3, .int i_acts, .int i_next, .ref a_row, .ref a_least, .ref a_values, .int i_tells, .ref a_tellPlace, .ref a_tellHour, .ref a_tellDark, .long j_seed, .ref a_isKept, .ref a_kept])), (a_text, .inl (cI, 72, .inl f_text)), (a_readWishes, .inl (cI, 25, .inl (upd (upd (upd f_readWishes (5 * i_readMany).toNatClampNeg o_26_1) ((5 * i_readMany) + 1).toNatClampNeg o_40_1) ((5 * i_readMany) + 2).toNatClampNeg o_54_1)))] H := hP
  refine lv_aload_n hx hb dX8_readWish_58 rfl (lv_at hl 1 rfl) ?_
  refine va_get (D := D) (ci := 8) (v := .ref a_readWishes) (C := RX8) (T := TX8) (N := 26) hx hb hts (fun _ h => List.mem_cons_of_mem _ (List.mem_append_right _ (h))) hown hK hP 0 rfl rfl 0 (by decide) (hts _ (List.mem_of_getElem? (i := 3) rfl)) (fun _ h9 => h9) rfl dX8_readWish_59 ?_
  refine lv_iload_n hx hb dX8_readWish_62 rfl (lv_at hl 0 rfl) ?_
  refine lv_iconst (v := 3) hx hb dX8_readWish_63 rfl ?_
  refine lv_iadd hx hb dX8_readWish_64 ?_
  refine lv_aload_n hx hb dX8_readWish_65 rfl (lv_at hl 1 rfl) ?_
  refine lv_sipush (v := 1022) hx hb dX8_readWish_66 rfl ?_
  obtain ⟨o_69_1, o_69_2, o_69_3, ho_69⟩ : ∃ o_69_1 o_69_2 o_69_3, (o_69_1, o_69_2, o_69_3) = v_X8_figure 1022 i_length o_54_2 o_54_3 f_text := ⟨_, _, _, rfl⟩
  refine callVI (As := [.int 1022]) (rest := [.int ((5 * i_readMany) + 3), .ref a_readWishes]) (o_69_1, o_69_2, o_69_3) ho_69 hF (k_X8_figure l D cI cZ a a_readWishes a_readOwed a_told a_owed a_text a_row a_least a_values a_tellPlace a_tellHour a_tellDark a_isKept a_kept 1022 i_readHung i_readMany i_readOwes i_wishes i_hung i_hour i_length o_54_2 o_54_3 i_acts i_next i_tells j_seed f_text (fig_at (fig_at (two_at (vin_s hat hl0 hatl) hl0 ho_26) hl0 ho_40) hl0 ho_54) (hl0)) (cwV 1 hts gX8_readWish_X8_figure rfl rfl rfl (by decide +kernel) ⟨Nat.le_of_ble_eq_true rfl, Nat.le_of_ble_eq_true rfl⟩) hK hN hP (va_Dsame hD rfl) hS hA [0, 1] rfl rfl 0 8 (T := TX8) (N := 26) rfl rfl rfl hl.1 rfl (Nat.le_of_ble_eq_true rfl) dX8_readWish_69 ⟨Nat.zero_le _, Nat.zero_le _⟩ o_69_1 rfl [some 0, some 1, none] 2 [(a, .inr (8, [.ref a_readWishes, .ref a_readOwed, .int i_readHung, .int i_readMany, .int i_readOwes, .ref a_told, .ref a_owed, .int i_wishes, .int i_hung, .int i_hour, .ref a_text, .int i_length, .int o_69_2, .int o_69_3, .int i_acts, .int i_next, .ref a_row, .ref a_least, .ref a_values, .int i_tells, .ref a_tellPlace, .ref a_tellHour, .ref a_tellDark, .long j_seed, .ref a_isKept, .ref a_kept])), (a_text, .inl (cI, 72, .inl f_text)), (a_readWishes, .inl (cI, 25, .inl (upd (upd (upd f_readWishes (5 * i_readMany).toNatClampNeg o_26_1) ((5 * i_readMany) + 1).toNatClampNeg o_40_1) ((5 * i_readMany) + 2).toNatClampNeg o_54_1)))] rfl rfl (by decide) (fun H locs hP hS => ?_)
  refine va_iast hx hb hK hP (va_Dsame hD rfl) hS 2 0 rfl rfl (ix5v (c := 3) hm (by decide)) dX8_readWish_72 (fun H locs hP _ hS => ?_)
  have hP : va_P D vwCl [(a, .inr (8, [.ref a_readWishes, .ref a_readOwed, .int i_readHung, .int i_readMany, .int i_readOwes, .ref a_told, .ref a_owed, .int i_wishes, .int i_hung, .int i_hour, .ref a_text, .int i_length, .int o_69_2, .int o_69_3, .int i_acts, .int i_next, .ref a_row, .ref a_least, .ref a_values, .int i_tells, .ref a_tellPlace, .ref a_tellHour, .ref a_tellDark, .long j_seed, .ref a_isKept, .ref a_kept])), (a_text, .inl (cI, 72, .inl f_text)), (a_readWishes, .inl (cI, 25, .inl (upd (upd (upd (upd f_readWishes (5 * i_readMany).toNatClampNeg o_26_1) ((5 * i_readMany) + 1).toNatClampNeg o_40_1) ((5 * i_readMany) + 2).toNatClampNeg o_54_1) ((5 * i_readMany) + 3).toNatClampNeg o_69_1)))] H := hP
  refine lv_aload_n hx hb dX8_readWish_73 rfl (lv_at hl 1 rfl) ?_
  refine va_get (D := D) (ci := 8) (v := .int o_69_3) (C := RX8) (T := TX8) (N := 26) hx hb hts (fun _ h => List.mem_cons_of_mem _ (List.mem_append_right _ (h))) hown hK hP 0 rfl rfl 13 (by decide) (hts _ (List.mem_of_getElem? (i := 4) rfl)) (fun _ h9 => h9) rfl dX8_readWish_74 ?_
  refine lv_bipush (v := (-9)) hx hb dX8_readWish_77 rfl ?_
  refine lv_icmp_ne (tgt := 105) hx hb dX8_readWish_79 (by decide) (fun c_79 => ?_) (fun c_79 => ?_)
  · refine lv_iconst (v := 0) hx hb dX8_readWish_105 rfl ?_
    refine lv_istore_n (lv' := [(2, .int 0), (1, .int (5 * i_readMany)), (0, .ref a)]) hx hb dX8_readWish_106 rfl hl (by decide) rfl (fun ls hl => ?_)
    refine lv_iload_n hx hb dX8_readWish_107 rfl (lv_at hl 0 rfl) ?_
    refine lv_bipush (v := 100) hx hb dX8_readWish_108 rfl ?_
    refine lv_icmp_eq (tgt := 119) hx hb dX8_readWish_110 (by decide) (fun c => absurd c (by decide)) (fun _ => ?_)
    refine lv_iload_n hx hb dX8_readWish_113 rfl (lv_at hl 0 rfl) ?_
    refine lv_bipush (v := 108) hx hb dX8_readWish_114 rfl ?_
    refine lv_icmp_ne (tgt := 161) hx hb dX8_readWish_116 (by decide) (fun _ => ?_) (fun c => absurd c (by decide))
    refine lv_aload_n hx hb dX8_readWish_161 rfl (lv_at hl 2 rfl) ?_
    obtain ⟨o_162, ho_162⟩ : ∃ z : Int32, z = v_X8_fail o_69_2 o_69_3 := ⟨_, rfl⟩
    refine callVV (As := []) (rest := []) o_162 ho_162 hF (k_X8_fail l D cI cZ a a_readWishes a_readOwed a_told a_owed a_text a_row a_least a_values a_tellPlace a_tellHour a_tellDark a_isKept a_kept i_readHung i_readMany i_readOwes i_wishes i_hung i_hour i_length o_69_2 o_69_3 i_acts i_next i_tells j_seed) (cwV 0 hts gX8_readWish_X8_fail rfl rfl rfl (by decide +kernel) ⟨Nat.le_of_ble_eq_true rfl, Nat.le_of_ble_eq_true rfl⟩) hK hN hP (va_Dsame hD rfl) hS hA [0] rfl rfl 0 8 (T := TX8) (N := 26) rfl rfl rfl hl.1 rfl (Nat.le_of_ble_eq_true rfl) dX8_readWish_162 ⟨Nat.zero_le _, Nat.zero_le _⟩ [some 0, none, none] 1 [(a, .inr (8, [.ref a_readWishes, .ref a_readOwed, .int i_readHung, .int i_readMany, .int i_readOwes, .ref a_told, .ref a_owed, .int i_wishes, .int i_hung, .int i_hour, .ref a_text, .int i_length, .int o_69_2, .int o_162, .int i_acts, .int i_next, .ref a_row, .ref a_least, .ref a_values, .int i_tells, .ref a_tellPlace, .ref a_tellHour, .ref a_tellDark, .long j_seed, .ref a_isKept, .ref a_kept])), (a_text, .inl (cI, 72, .inl f_text)), (a_readWishes, .inl (cI, 25, .inl (upd (upd (upd (upd f_readWishes (5 * i_readMany).toNatClampNeg o_26_1) ((5 * i_readMany) + 1).toNatClampNeg o_40_1) ((5 * i_readMany) + 2).toNatClampNeg o_54_1) ((5 * i_readMany) + 3).toNatClampNeg o_69_1)))] rfl rfl (by decide) (fun H locs hP hS => ?_)
    have e9 : v_X8_readWish i_readMany i_length i_at i_faultAt f_text f_readWishes = (i_readMany, o_69_2, o_162, (upd (upd (upd (upd f_readWishes (5 * i_readMany).toNatClampNeg o_26_1) ((5 * i_readMany) + 1).toNatClampNeg o_40_1) ((5 * i_readMany) + 2).toNatClampNeg o_54_1) ((5 * i_readMany) + 3).toNatClampNeg o_69_1)) := by
      refine (bnd3_eq ho_26).trans ?_
      refine (bnd3_eq ho_40).trans ?_
      refine (bnd3_eq ho_54).trans ?_
      refine (bnd3_eq ho_69).trans ?_
      refine (if_neg c_79).trans ?_
      refine (bnd_eq ho_162).trans ?_
      rfl
    rw [hQ]; exact retV (i_readMany, o_69_2, o_162, (upd (upd (upd (upd f_readWishes (5 * i_readMany).toNatClampNeg o_26_1) ((5 * i_readMany) + 1).toNatClampNeg o_40_1) ((5 * i_readMany) + 2).toNatClampNeg o_54_1) ((5 * i_readMany) + 3).toNatClampNeg o_69_1)) hx hb hr hlk e9 hP hS dX8_readWish_165
  · refine lv_aload_n hx hb dX8_readWish_82 rfl (lv_at hl 1 rfl) ?_
    refine va_get (D := D) (ci := 8) (v := .int o_69_2) (C := RX8) (T := TX8) (N := 26) hx hb hts (fun _ h => List.mem_cons_of_mem _ (List.mem_append_right _ (h))) hown hK hP 0 rfl rfl 12 (by decide) (hts _ (List.mem_of_getElem? (i := 1) rfl)) (fun _ h9 => h9) rfl dX8_readWish_83 ?_
    refine lv_aload_n hx hb dX8_readWish_86 rfl (lv_at hl 1 rfl) ?_
    refine va_get (D := D) (ci := 8) (v := .int i_length) (C := RX8) (T := TX8) (N := 26) hx hb hts (fun _ h => List.mem_cons_of_mem _ (List.mem_append_right _ (h))) hown hK hP 0 rfl rfl 11 (by decide) (hts _ (List.mem_of_getElem? (i := 5) rfl)) (fun _ h9 => h9) rfl dX8_readWish_87 ?_
    refine lv_icmp_ge (tgt := 105) hx hb dX8_readWish_90 (by decide) (fun c_90 => ?_) (fun c_90 => ?_)
    · refine lv_iconst (v := 0) hx hb dX8_readWish_105 rfl ?_
      refine lv_istore_n (lv' := [(2, .int 0), (1, .int (5 * i_readMany)), (0, .ref a)]) hx hb dX8_readWish_106 rfl hl (by decide) rfl (fun ls hl => ?_)
      refine lv_iload_n hx hb dX8_readWish_107 rfl (lv_at hl 0 rfl) ?_
      refine lv_bipush (v := 100) hx hb dX8_readWish_108 rfl ?_
      refine lv_icmp_eq (tgt := 119) hx hb dX8_readWish_110 (by decide) (fun c => absurd c (by decide)) (fun _ => ?_)
      refine lv_iload_n hx hb dX8_readWish_113 rfl (lv_at hl 0 rfl) ?_
      refine lv_bipush (v := 108) hx hb dX8_readWish_114 rfl ?_
      refine lv_icmp_ne (tgt := 161) hx hb dX8_readWish_116 (by decide) (fun _ => ?_) (fun c => absurd c (by decide))
      refine lv_aload_n hx hb dX8_readWish_161 rfl (lv_at hl 2 rfl) ?_
      obtain ⟨o_162, ho_162⟩ : ∃ z : Int32, z = v_X8_fail o_69_2 o_69_3 := ⟨_, rfl⟩
      refine callVV (As := []) (rest := []) o_162 ho_162 hF (k_X8_fail l D cI cZ a a_readWishes a_readOwed a_told a_owed a_text a_row a_least a_values a_tellPlace a_tellHour a_tellDark a_isKept a_kept i_readHung i_readMany i_readOwes i_wishes i_hung i_hour i_length o_69_2 o_69_3 i_acts i_next i_tells j_seed) (cwV 0 hts gX8_readWish_X8_fail rfl rfl rfl (by decide +kernel) ⟨Nat.le_of_ble_eq_true rfl, Nat.le_of_ble_eq_true rfl⟩) hK hN hP (va_Dsame hD rfl) hS hA [0] rfl rfl 0 8 (T := TX8) (N := 26) rfl rfl rfl hl.1 rfl (Nat.le_of_ble_eq_true rfl) dX8_readWish_162 ⟨Nat.zero_le _, Nat.zero_le _⟩ [some 0, none, none] 1 [(a, .inr (8, [.ref a_readWishes, .ref a_readOwed, .int i_readHung, .int i_readMany, .int i_readOwes, .ref a_told, .ref a_owed, .int i_wishes, .int i_hung, .int i_hour, .ref a_text, .int i_length, .int o_69_2, .int o_162, .int i_acts, .int i_next, .ref a_row, .ref a_least, .ref a_values, .int i_tells, .ref a_tellPlace, .ref a_tellHour, .ref a_tellDark, .long j_seed, .ref a_isKept, .ref a_kept])), (a_text, .inl (cI, 72, .inl f_text)), (a_readWishes, .inl (cI, 25, .inl (upd (upd (upd (upd f_readWishes (5 * i_readMany).toNatClampNeg o_26_1) ((5 * i_readMany) + 1).toNatClampNeg o_40_1) ((5 * i_readMany) + 2).toNatClampNeg o_54_1) ((5 * i_readMany) + 3).toNatClampNeg o_69_1)))] rfl rfl (by decide) (fun H locs hP hS => ?_)
      have e9 : v_X8_readWish i_readMany i_length i_at i_faultAt f_text f_readWishes = (i_readMany, o_69_2, o_162, (upd (upd (upd (upd f_readWishes (5 * i_readMany).toNatClampNeg o_26_1) ((5 * i_readMany) + 1).toNatClampNeg o_40_1) ((5 * i_readMany) + 2).toNatClampNeg o_54_1) ((5 * i_readMany) + 3).toNatClampNeg o_69_1)) := by
        refine (bnd3_eq ho_26).trans ?_
        refine (bnd3_eq ho_40).trans ?_
        refine (bnd3_eq ho_54).trans ?_
        refine (bnd3_eq ho_69).trans ?_
        refine (if_pos c_79).trans ?_
        refine (if_pos c_90).trans ?_
        refine (bnd_eq ho_162).trans ?_
        rfl
      rw [hQ]; exact retV (i_readMany, o_69_2, o_162, (upd (upd (upd (upd f_readWishes (5 * i_readMany).toNatClampNeg o_26_1) ((5 * i_readMany) + 1).toNatClampNeg o_40_1) ((5 * i_readMany) + 2).toNatClampNeg o_54_1) ((5 * i_readMany) + 3).toNatClampNeg o_69_1)) hx hb hr hlk e9 hP hS dX8_readWish_165
    · refine lv_aload_n hx hb dX8_readWish_93 rfl (lv_at hl 1 rfl) ?_
      refine va_get (D := D) (ci := 8) (v := .ref a_text) (C := RX8) (T := TX8) (N := 26) hx hb hts (fun _ h => List.mem_cons_of_mem _ (List.mem_append_right _ (h))) hown hK hP 0 rfl rfl 10 (by decide) (hts _ (List.mem_of_getElem? (i := 6) rfl)) (fun _ h9 => h9) rfl dX8_readWish_94 ?_
      refine lv_aload_n hx hb dX8_readWish_97 rfl (lv_at hl 1 rfl) ?_
      refine va_get (D := D) (ci := 8) (v := .int o_69_2) (C := RX8) (T := TX8) (N := 26) hx hb hts (fun _ h => List.mem_cons_of_mem _ (List.mem_append_right _ (h))) hown hK hP 0 rfl rfl 12 (by decide) (hts _ (List.mem_of_getElem? (i := 1) rfl)) (fun _ h9 => h9) rfl dX8_readWish_98 ?_
      refine va_iald hx hb hK hP 1 0 rfl rfl (vin_lt (fig_at (fig_at (fig_at (two_at (vin_s hat hl0 hatl) hl0 ho_26) hl0 ho_40) hl0 ho_54) hl0 ho_69) hl0 c_90) dX8_readWish_101 ?_
      refine lv_goto (tgt := 106) hx hb dX8_readWish_102 (by decide) ?_
      refine lv_istore_n (lv' := [(2, .int (f_text o_69_2.toNatClampNeg)), (1, .int (5 * i_readMany)), (0, .ref a)]) hx hb dX8_readWish_106 rfl hl (by decide) rfl (fun ls hl => ?_)
      refine lv_iload_n hx hb dX8_readWish_107 rfl (lv_at hl 0 rfl) ?_
      refine lv_bipush (v := 100) hx hb dX8_readWish_108 rfl ?_
      refine lv_icmp_eq (tgt := 119) hx hb dX8_readWish_110 (by decide) (fun c_110 => ?_) (fun c_110 => ?_)
      · refine lv_aload_n hx hb dX8_readWish_119 rfl (lv_at hl 2 rfl) ?_
        refine va_get (D := D) (ci := 8) (v := .ref a_readWishes) (C := RX8) (T := TX8) (N := 26) hx hb hts (fun _ h => List.mem_cons_of_mem _ (List.mem_append_right _ (h))) hown hK hP 0 rfl rfl 0 (by decide) (hts _ (List.mem_of_getElem? (i := 3) rfl)) (fun _ h9 => h9) rfl dX8_readWish_120 ?_
        refine lv_iload_n hx hb dX8_readWish_123 rfl (lv_at hl 1 rfl) ?_
        refine lv_iconst (v := 4) hx hb dX8_readWish_124 rfl ?_
        refine lv_iadd hx hb dX8_readWish_125 ?_
        refine lv_iload_n hx hb dX8_readWish_126 rfl (lv_at hl 0 rfl) ?_
        refine lv_bipush (v := 100) hx hb dX8_readWish_127 rfl ?_
        refine lv_icmp_ne (tgt := 136) hx hb dX8_readWish_129 (by decide) (fun c => absurd c_110 c) (fun _ => ?_)
        refine lv_iconst (v := 1) hx hb dX8_readWish_132 rfl ?_
        refine lv_goto (tgt := 137) hx hb dX8_readWish_133 (by decide) ?_
        refine va_iast hx hb hK hP (va_Dsame hD rfl) hS 2 0 rfl rfl (ix5v (c := 4) hm (by decide)) dX8_readWish_137 (fun H locs hP _ hS => ?_)
        have hP : va_P D vwCl [(a, .inr (8, [.ref a_readWishes, .ref a_readOwed, .int i_readHung, .int i_readMany, .int i_readOwes, .ref a_told, .ref a_owed, .int i_wishes, .int i_hung, .int i_hour, .ref a_text, .int i_length, .int o_69_2, .int o_69_3, .int i_acts, .int i_next, .ref a_row, .ref a_least, .ref a_values, .int i_tells, .ref a_tellPlace, .ref a_tellHour, .ref a_tellDark, .long j_seed, .ref a_isKept, .ref a_kept])), (a_text, .inl (cI, 72, .inl f_text)), (a_readWishes, .inl (cI, 25, .inl (upd (upd (upd (upd (upd f_readWishes (5 * i_readMany).toNatClampNeg o_26_1) ((5 * i_readMany) + 1).toNatClampNeg o_40_1) ((5 * i_readMany) + 2).toNatClampNeg o_54_1) ((5 * i_readMany) + 3).toNatClampNeg o_69_1) ((5 * i_readMany) + 4).toNatClampNeg 1)))] H := hP
        refine lv_aload_n hx hb dX8_readWish_138 rfl (lv_at hl 2 rfl) ?_
        refine lv_dup hx hb dX8_readWish_139 rfl ?_
        refine va_get (D := D) (ci := 8) (v := .int i_readMany) (C := RX8) (T := TX8) (N := 26) hx hb hts (fun _ h => List.mem_cons_of_mem _ (List.mem_append_right _ (h))) hown hK hP 0 rfl rfl 3 (by decide) (hts _ (List.mem_of_getElem? (i := 2) rfl)) (fun _ h9 => h9) rfl dX8_readWish_140 ?_
        refine lv_iconst (v := 1) hx hb dX8_readWish_143 rfl ?_
        refine lv_iadd hx hb dX8_readWish_144 ?_
        refine va_put (D := D) (ci := 8) (v := .int (i_readMany + 1)) (ty := .int) (C := RX8) (T := TX8) (N := 26) hx hb hts (fun _ h => List.mem_cons_of_mem _ (List.mem_append_right _ (h))) tyX8 tyX8_ok nmX8 hown hK hP (va_Dsame hD rfl) hS 0 rfl rfl 3 (by decide) (hts _ (List.mem_of_getElem? (i := 2) rfl)) (fun _ h9 => h9) rfl (tyX8_ok 3 (by decide)) rfl rfl (Nat.le_of_ble_eq_true rfl) dX8_readWish_145 (fun H locs hP _ hS => ?_)
        have hP : va_P D vwCl [(a, .inr (8, [.ref a_readWishes, .ref a_readOwed, .int i_readHung, .int (i_readMany + 1), .int i_readOwes, .ref a_told, .ref a_owed, .int i_wishes, .int i_hung, .int i_hour, .ref a_text, .int i_length, .int o_69_2, .int o_69_3, .int i_acts, .int i_next, .ref a_row, .ref a_least, .ref a_values, .int i_tells, .ref a_tellPlace, .ref a_tellHour, .ref a_tellDark, .long j_seed, .ref a_isKept, .ref a_kept])), (a_text, .inl (cI, 72, .inl f_text)), (a_readWishes, .inl (cI, 25, .inl (upd (upd (upd (upd (upd f_readWishes (5 * i_readMany).toNatClampNeg o_26_1) ((5 * i_readMany) + 1).toNatClampNeg o_40_1) ((5 * i_readMany) + 2).toNatClampNeg o_54_1) ((5 * i_readMany) + 3).toNatClampNeg o_69_1) ((5 * i_readMany) + 4).toNatClampNeg 1)))] H := hP
        refine lv_aload_n hx hb dX8_readWish_148 rfl (lv_at hl 2 rfl) ?_
        refine lv_dup hx hb dX8_readWish_149 rfl ?_
        refine va_get (D := D) (ci := 8) (v := .int o_69_2) (C := RX8) (T := TX8) (N := 26) hx hb hts (fun _ h => List.mem_cons_of_mem _ (List.mem_append_right _ (h))) hown hK hP 0 rfl rfl 12 (by decide) (hts _ (List.mem_of_getElem? (i := 1) rfl)) (fun _ h9 => h9) rfl dX8_readWish_150 ?_
        refine lv_iconst (v := 1) hx hb dX8_readWish_153 rfl ?_
        refine lv_iadd hx hb dX8_readWish_154 ?_
        refine va_put (D := D) (ci := 8) (v := .int (o_69_2 + 1)) (ty := .int) (C := RX8) (T := TX8) (N := 26) hx hb hts (fun _ h => List.mem_cons_of_mem _ (List.mem_append_right _ (h))) tyX8 tyX8_ok nmX8 hown hK hP (va_Dsame hD rfl) hS 0 rfl rfl 12 (by decide) (hts _ (List.mem_of_getElem? (i := 1) rfl)) (fun _ h9 => h9) rfl (tyX8_ok 12 (by decide)) rfl rfl (Nat.le_of_ble_eq_true rfl) dX8_readWish_155 (fun H locs hP _ hS => ?_)
        have hP : va_P D vwCl [(a, .inr (8, [.ref a_readWishes, .ref a_readOwed, .int i_readHung, .int (i_readMany + 1), .int i_readOwes, .ref a_told, .ref a_owed, .int i_wishes, .int i_hung, .int i_hour, .ref a_text, .int i_length, .int (o_69_2 + 1), .int o_69_3, .int i_acts, .int i_next, .ref a_row, .ref a_least, .ref a_values, .int i_tells, .ref a_tellPlace, .ref a_tellHour, .ref a_tellDark, .long j_seed, .ref a_isKept, .ref a_kept])), (a_text, .inl (cI, 72, .inl f_text)), (a_readWishes, .inl (cI, 25, .inl (upd (upd (upd (upd (upd f_readWishes (5 * i_readMany).toNatClampNeg o_26_1) ((5 * i_readMany) + 1).toNatClampNeg o_40_1) ((5 * i_readMany) + 2).toNatClampNeg o_54_1) ((5 * i_readMany) + 3).toNatClampNeg o_69_1) ((5 * i_readMany) + 4).toNatClampNeg 1)))] H := hP
        refine lv_goto (tgt := 165) hx hb dX8_readWish_158 (by decide) ?_
        have e9 : v_X8_readWish i_readMany i_length i_at i_faultAt f_text f_readWishes = ((i_readMany + 1), (o_69_2 + 1), o_69_3, (upd (upd (upd (upd (upd f_readWishes (5 * i_readMany).toNatClampNeg o_26_1) ((5 * i_readMany) + 1).toNatClampNeg o_40_1) ((5 * i_readMany) + 2).toNatClampNeg o_54_1) ((5 * i_readMany) + 3).toNatClampNeg o_69_1) ((5 * i_readMany) + 4).toNatClampNeg 1)) := by
          refine (bnd3_eq ho_26).trans ?_
          refine (bnd3_eq ho_40).trans ?_
          refine (bnd3_eq ho_54).trans ?_
          refine (bnd3_eq ho_69).trans ?_
          refine (if_pos c_79).trans ?_
          refine (if_neg c_90).trans ?_
          refine (if_pos c_110).trans ?_
          rfl
        rw [hQ]; exact retV ((i_readMany + 1), (o_69_2 + 1), o_69_3, (upd (upd (upd (upd (upd f_readWishes (5 * i_readMany).toNatClampNeg o_26_1) ((5 * i_readMany) + 1).toNatClampNeg o_40_1) ((5 * i_readMany) + 2).toNatClampNeg o_54_1) ((5 * i_readMany) + 3).toNatClampNeg o_69_1) ((5 * i_readMany) + 4).toNatClampNeg 1)) hx hb hr hlk e9 hP hS dX8_readWish_165
      · refine lv_iload_n hx hb dX8_readWish_113 rfl (lv_at hl 0 rfl) ?_
        refine lv_bipush (v := 108) hx hb dX8_readWish_114 rfl ?_
        refine lv_icmp_ne (tgt := 161) hx hb dX8_readWish_116 (by decide) (fun c_116 => ?_) (fun c_116 => ?_)
        · refine lv_aload_n hx hb dX8_readWish_161 rfl (lv_at hl 2 rfl) ?_
          obtain ⟨o_162, ho_162⟩ : ∃ z : Int32, z = v_X8_fail o_69_2 o_69_3 := ⟨_, rfl⟩
          refine callVV (As := []) (rest := []) o_162 ho_162 hF (k_X8_fail l D cI cZ a a_readWishes a_readOwed a_told a_owed a_text a_row a_least a_values a_tellPlace a_tellHour a_tellDark a_isKept a_kept i_readHung i_readMany i_readOwes i_wishes i_hung i_hour i_length o_69_2 o_69_3 i_acts i_next i_tells j_seed) (cwV 0 hts gX8_readWish_X8_fail rfl rfl rfl (by decide +kernel) ⟨Nat.le_of_ble_eq_true rfl, Nat.le_of_ble_eq_true rfl⟩) hK hN hP (va_Dsame hD rfl) hS hA [0] rfl rfl 0 8 (T := TX8) (N := 26) rfl rfl rfl hl.1 rfl (Nat.le_of_ble_eq_true rfl) dX8_readWish_162 ⟨Nat.zero_le _, Nat.zero_le _⟩ [some 0, none, none] 1 [(a, .inr (8, [.ref a_readWishes, .ref a_readOwed, .int i_readHung, .int i_readMany, .int i_readOwes, .ref a_told, .ref a_owed, .int i_wishes, .int i_hung, .int i_hour, .ref a_text, .int i_length, .int o_69_2, .int o_162, .int i_acts, .int i_next, .ref a_row, .ref a_least, .ref a_values, .int i_tells, .ref a_tellPlace, .ref a_tellHour, .ref a_tellDark, .long j_seed, .ref a_isKept, .ref a_kept])), (a_text, .inl (cI, 72, .inl f_text)), (a_readWishes, .inl (cI, 25, .inl (upd (upd (upd (upd f_readWishes (5 * i_readMany).toNatClampNeg o_26_1) ((5 * i_readMany) + 1).toNatClampNeg o_40_1) ((5 * i_readMany) + 2).toNatClampNeg o_54_1) ((5 * i_readMany) + 3).toNatClampNeg o_69_1)))] rfl rfl (by decide) (fun H locs hP hS => ?_)
          have e9 : v_X8_readWish i_readMany i_length i_at i_faultAt f_text f_readWishes = (i_readMany, o_69_2, o_162, (upd (upd (upd (upd f_readWishes (5 * i_readMany).toNatClampNeg o_26_1) ((5 * i_readMany) + 1).toNatClampNeg o_40_1) ((5 * i_readMany) + 2).toNatClampNeg o_54_1) ((5 * i_readMany) + 3).toNatClampNeg o_69_1)) := by
            refine (bnd3_eq ho_26).trans ?_
            refine (bnd3_eq ho_40).trans ?_
            refine (bnd3_eq ho_54).trans ?_
            refine (bnd3_eq ho_69).trans ?_
            refine (if_pos c_79).trans ?_
            refine (if_neg c_90).trans ?_
            refine (if_neg c_110).trans ?_
            refine (if_neg c_116).trans ?_
            refine (bnd_eq ho_162).trans ?_
            rfl
          rw [hQ]; exact retV (i_readMany, o_69_2, o_162, (upd (upd (upd (upd f_readWishes (5 * i_readMany).toNatClampNeg o_26_1) ((5 * i_readMany) + 1).toNatClampNeg o_40_1) ((5 * i_readMany) + 2).toNatClampNeg o_54_1) ((5 * i_readMany) + 3).toNatClampNeg o_69_1)) hx hb hr hlk e9 hP hS dX8_readWish_165
        · refine lv_aload_n hx hb dX8_readWish_119 rfl (lv_at hl 2 rfl) ?_
          refine va_get (D := D) (ci := 8) (v := .ref a_readWishes) (C := RX8) (T := TX8) (N := 26) hx hb hts (fun _ h => List.mem_cons_of_mem _ (List.mem_append_right _ (h))) hown hK hP 0 rfl rfl 0 (by decide) (hts _ (List.mem_of_getElem? (i := 3) rfl)) (fun _ h9 => h9) rfl dX8_readWish_120 ?_
          refine lv_iload_n hx hb dX8_readWish_123 rfl (lv_at hl 1 rfl) ?_
          refine lv_iconst (v := 4) hx hb dX8_readWish_124 rfl ?_
          refine lv_iadd hx hb dX8_readWish_125 ?_
          refine lv_iload_n hx hb dX8_readWish_126 rfl (lv_at hl 0 rfl) ?_
          refine lv_bipush (v := 100) hx hb dX8_readWish_127 rfl ?_
          refine lv_icmp_ne (tgt := 136) hx hb dX8_readWish_129 (by decide) (fun _ => ?_) (fun c => absurd c c_110)
          refine lv_iconst (v := 0) hx hb dX8_readWish_136 rfl ?_
          refine va_iast hx hb hK hP (va_Dsame hD rfl) hS 2 0 rfl rfl (ix5v (c := 4) hm (by decide)) dX8_readWish_137 (fun H locs hP _ hS => ?_)
          have hP : va_P D vwCl [(a, .inr (8, [.ref a_readWishes, .ref a_readOwed, .int i_readHung, .int i_readMany, .int i_readOwes, .ref a_told, .ref a_owed, .int i_wishes, .int i_hung, .int i_hour, .ref a_text, .int i_length, .int o_69_2, .int o_69_3, .int i_acts, .int i_next, .ref a_row, .ref a_least, .ref a_values, .int i_tells, .ref a_tellPlace, .ref a_tellHour, .ref a_tellDark, .long j_seed, .ref a_isKept, .ref a_kept])), (a_text, .inl (cI, 72, .inl f_text)), (a_readWishes, .inl (cI, 25, .inl (upd (upd (upd (upd (upd f_readWishes (5 * i_readMany).toNatClampNeg o_26_1) ((5 * i_readMany) + 1).toNatClampNeg o_40_1) ((5 * i_readMany) + 2).toNatClampNeg o_54_1) ((5 * i_readMany) + 3).toNatClampNeg o_69_1) ((5 * i_readMany) + 4).toNatClampNeg 0)))] H := hP
          refine lv_aload_n hx hb dX8_readWish_138 rfl (lv_at hl 2 rfl) ?_
          refine lv_dup hx hb dX8_readWish_139 rfl ?_
          refine va_get (D := D) (ci := 8) (v := .int i_readMany) (C := RX8) (T := TX8) (N := 26) hx hb hts (fun _ h => List.mem_cons_of_mem _ (List.mem_append_right _ (h))) hown hK hP 0 rfl rfl 3 (by decide) (hts _ (List.mem_of_getElem? (i := 2) rfl)) (fun _ h9 => h9) rfl dX8_readWish_140 ?_
          refine lv_iconst (v := 1) hx hb dX8_readWish_143 rfl ?_
          refine lv_iadd hx hb dX8_readWish_144 ?_
          refine va_put (D := D) (ci := 8) (v := .int (i_readMany + 1)) (ty := .int) (C := RX8) (T := TX8) (N := 26) hx hb hts (fun _ h => List.mem_cons_of_mem _ (List.mem_append_right _ (h))) tyX8 tyX8_ok nmX8 hown hK hP (va_Dsame hD rfl) hS 0 rfl rfl 3 (by decide) (hts _ (List.mem_of_getElem? (i := 2) rfl)) (fun _ h9 => h9) rfl (tyX8_ok 3 (by decide)) rfl rfl (Nat.le_of_ble_eq_true rfl) dX8_readWish_145 (fun H locs hP _ hS => ?_)
          have hP : va_P D vwCl [(a, .inr (8, [.ref a_readWishes, .ref a_readOwed, .int i_readHung, .int (i_readMany + 1), .int i_readOwes, .ref a_told, .ref a_owed, .int i_wishes, .int i_hung, .int i_hour, .ref a_text, .int i_length, .int o_69_2, .int o_69_3, .int i_acts, .int i_next, .ref a_row, .ref a_least, .ref a_values, .int i_tells, .ref a_tellPlace, .ref a_tellHour, .ref a_tellDark, .long j_seed, .ref a_isKept, .ref a_kept])), (a_text, .inl (cI, 72, .inl f_text)), (a_readWishes, .inl (cI, 25, .inl (upd (upd (upd (upd (upd f_readWishes (5 * i_readMany).toNatClampNeg o_26_1) ((5 * i_readMany) + 1).toNatClampNeg o_40_1) ((5 * i_readMany) + 2).toNatClampNeg o_54_1) ((5 * i_readMany) + 3).toNatClampNeg o_69_1) ((5 * i_readMany) + 4).toNatClampNeg 0)))] H := hP
          refine lv_aload_n hx hb dX8_readWish_148 rfl (lv_at hl 2 rfl) ?_
          refine lv_dup hx hb dX8_readWish_149 rfl ?_
          refine va_get (D := D) (ci := 8) (v := .int o_69_2) (C := RX8) (T := TX8) (N := 26) hx hb hts (fun _ h => List.mem_cons_of_mem _ (List.mem_append_right _ (h))) hown hK hP 0 rfl rfl 12 (by decide) (hts _ (List.mem_of_getElem? (i := 1) rfl)) (fun _ h9 => h9) rfl dX8_readWish_150 ?_
          refine lv_iconst (v := 1) hx hb dX8_readWish_153 rfl ?_
          refine lv_iadd hx hb dX8_readWish_154 ?_
          refine va_put (D := D) (ci := 8) (v := .int (o_69_2 + 1)) (ty := .int) (C := RX8) (T := TX8) (N := 26) hx hb hts (fun _ h => List.mem_cons_of_mem _ (List.mem_append_right _ (h))) tyX8 tyX8_ok nmX8 hown hK hP (va_Dsame hD rfl) hS 0 rfl rfl 12 (by decide) (hts _ (List.mem_of_getElem? (i := 1) rfl)) (fun _ h9 => h9) rfl (tyX8_ok 12 (by decide)) rfl rfl (Nat.le_of_ble_eq_true rfl) dX8_readWish_155 (fun H locs hP _ hS => ?_)
          have hP : va_P D vwCl [(a, .inr (8, [.ref a_readWishes, .ref a_readOwed, .int i_readHung, .int (i_readMany + 1), .int i_readOwes, .ref a_told, .ref a_owed, .int i_wishes, .int i_hung, .int i_hour, .ref a_text, .int i_length, .int (o_69_2 + 1), .int o_69_3, .int i_acts, .int i_next, .ref a_row, .ref a_least, .ref a_values, .int i_tells, .ref a_tellPlace, .ref a_tellHour, .ref a_tellDark, .long j_seed, .ref a_isKept, .ref a_kept])), (a_text, .inl (cI, 72, .inl f_text)), (a_readWishes, .inl (cI, 25, .inl (upd (upd (upd (upd (upd f_readWishes (5 * i_readMany).toNatClampNeg o_26_1) ((5 * i_readMany) + 1).toNatClampNeg o_40_1) ((5 * i_readMany) + 2).toNatClampNeg o_54_1) ((5 * i_readMany) + 3).toNatClampNeg o_69_1) ((5 * i_readMany) + 4).toNatClampNeg 0)))] H := hP
          refine lv_goto (tgt := 165) hx hb dX8_readWish_158 (by decide) ?_
          have e9 : v_X8_readWish i_readMany i_length i_at i_faultAt f_text f_readWishes = ((i_readMany + 1), (o_69_2 + 1), o_69_3, (upd (upd (upd (upd (upd f_readWishes (5 * i_readMany).toNatClampNeg o_26_1) ((5 * i_readMany) + 1).toNatClampNeg o_40_1) ((5 * i_readMany) + 2).toNatClampNeg o_54_1) ((5 * i_readMany) + 3).toNatClampNeg o_69_1) ((5 * i_readMany) + 4).toNatClampNeg 0)) := by
            refine (bnd3_eq ho_26).trans ?_
            refine (bnd3_eq ho_40).trans ?_
            refine (bnd3_eq ho_54).trans ?_
            refine (bnd3_eq ho_69).trans ?_
            refine (if_pos c_79).trans ?_
            refine (if_neg c_90).trans ?_
            refine (if_neg c_110).trans ?_
            refine (if_pos c_116).trans ?_
            rfl
          rw [hQ]; exact retV ((i_readMany + 1), (o_69_2 + 1), o_69_3, (upd (upd (upd (upd (upd f_readWishes (5 * i_readMany).toNatClampNeg o_26_1) ((5 * i_readMany) + 1).toNatClampNeg o_40_1) ((5 * i_readMany) + 2).toNatClampNeg o_54_1) ((5 * i_readMany) + 3).toNatClampNeg o_69_1) ((5 * i_readMany) + 4).toNatClampNeg 0)) hx hb hr hlk e9 hP hS dX8_readWish_165
