def v_X8_readPart (x1 : Int32) (i_readHung : Int32) (i_readMany : Int32) (i_readOwes : Int32) (i_length : Int32) (i_at : Int32) (i_faultAt : Int32) (f_readOwed : Nat → Int32) (f_text : Nat → Int32) (f_readWishes : Nat → Int32) : Int32 × Int32 × Int32 × Int32 × Int32 × (Nat → Int32) × (Nat → Int32) :=
  if x1 = 72 then (bnd (v_X8_ones i_readHung) fun o_10 =>
    (if 5 ≤ o_10 then (if x1 = 87 then (if 5 ≤ i_readMany then (if x1 = 79 then (if 4 ≤ i_readOwes then (bnd (v_X8_fail i_at i_faultAt) fun o_161 =>
              (i_readHung, i_readMany, i_readOwes, i_at, o_161, f_readOwed, f_readWishes))
            else (bnd (v_X8_notOwed f_readOwed) fun o_117 =>
            (bnd3 (v_X8_two o_117 i_length (i_at + 1) i_faultAt f_text) fun o_120_1 o_120_2 o_120_3 =>
            (bnd3 (v_X8_figure 126 i_length o_120_2 o_120_3 f_text) fun o_127_1 o_127_2 o_127_3 =>
            (if o_127_3 = (-9) then (i_readHung, i_readMany, (i_readOwes + 1), o_127_2, o_127_3, (upd f_readOwed o_120_1.toNatClampNeg o_127_1), f_readWishes)
            else (i_readHung, i_readMany, i_readOwes, o_127_2, o_127_3, f_readOwed, f_readWishes))))))
          else (bnd (v_X8_fail i_at i_faultAt) fun o_161 =>
          (i_readHung, i_readMany, i_readOwes, i_at, o_161, f_readOwed, f_readWishes)))
        else (bnd4 (v_X8_readWish i_readMany i_length i_at i_faultAt f_text f_readWishes) fun o_85_1 o_85_2 o_85_3 o_85_4 =>
        (i_readHung, o_85_1, i_readOwes, o_85_2, o_85_3, f_readOwed, o_85_4)))
      else (if x1 = 79 then (if 4 ≤ i_readOwes then (bnd (v_X8_fail i_at i_faultAt) fun o_161 =>
          (i_readHung, i_readMany, i_readOwes, i_at, o_161, f_readOwed, f_readWishes))
        else (bnd (v_X8_notOwed f_readOwed) fun o_117 =>
        (bnd3 (v_X8_two o_117 i_length (i_at + 1) i_faultAt f_text) fun o_120_1 o_120_2 o_120_3 =>
        (bnd3 (v_X8_figure 126 i_length o_120_2 o_120_3 f_text) fun o_127_1 o_127_2 o_127_3 =>
        (if o_127_3 = (-9) then (i_readHung, i_readMany, (i_readOwes + 1), o_127_2, o_127_3, (upd f_readOwed o_120_1.toNatClampNeg o_127_1), f_readWishes)
        else (i_readHung, i_readMany, i_readOwes, o_127_2, o_127_3, f_readOwed, f_readWishes))))))
      else (bnd (v_X8_fail i_at i_faultAt) fun o_161 =>
      (i_readHung, i_readMany, i_readOwes, i_at, o_161, f_readOwed, f_readWishes))))
    else (bnd3 (v_X8_two (4095 &&& (i_readHung ^^^ (-1))) i_length (i_at + 1) i_faultAt f_text) fun o_38_1 o_38_2 o_38_3 =>
    (if o_38_3 = (-9) then (bnd ((i_readHung ||| ((1 : Int32) <<< (o_38_1 &&& 31)))) fun w_64 =>
      (w_64, i_readMany, i_readOwes, o_38_2, o_38_3, f_readOwed, f_readWishes))
    else ((i_readHung ||| 0), i_readMany, i_readOwes, o_38_2, o_38_3, f_readOwed, f_readWishes)))))
  else (if x1 = 87 then (if 5 ≤ i_readMany then (if x1 = 79 then (if 4 ≤ i_readOwes then (bnd (v_X8_fail i_at i_faultAt) fun o_161 =>
          (i_readHung, i_readMany, i_readOwes, i_at, o_161, f_readOwed, f_readWishes))
        else (bnd (v_X8_notOwed f_readOwed) fun o_117 =>
        (bnd3 (v_X8_two o_117 i_length (i_at + 1) i_faultAt f_text) fun o_120_1 o_120_2 o_120_3 =>
        (bnd3 (v_X8_figure 126 i_length o_120_2 o_120_3 f_text) fun o_127_1 o_127_2 o_127_3 =>
        (if o_127_3 = (-9) then (i_readHung, i_readMany, (i_readOwes + 1), o_127_2, o_127_3, (upd f_readOwed o_120_1.toNatClampNeg o_127_1), f_readWishes)
        else (i_readHung, i_readMany, i_readOwes, o_127_2, o_127_3, f_readOwed, f_readWishes))))))
      else (bnd (v_X8_fail i_at i_faultAt) fun o_161 =>
      (i_readHung, i_readMany, i_readOwes, i_at, o_161, f_readOwed, f_readWishes)))
    else (bnd4 (v_X8_readWish i_readMany i_length i_at i_faultAt f_text f_readWishes) fun o_85_1 o_85_2 o_85_3 o_85_4 =>
    (i_readHung, o_85_1, i_readOwes, o_85_2, o_85_3, f_readOwed, o_85_4)))
  else (if x1 = 79 then (if 4 ≤ i_readOwes then (bnd (v_X8_fail i_at i_faultAt) fun o_161 =>
      (i_readHung, i_readMany, i_readOwes, i_at, o_161, f_readOwed, f_readWishes))
    else (bnd (v_X8_notOwed f_readOwed) fun o_117 =>
    (bnd3 (v_X8_two o_117 i_length (i_at + 1) i_faultAt f_text) fun o_120_1 o_120_2 o_120_3 =>
    (bnd3 (v_X8_figure 126 i_length o_120_2 o_120_3 f_text) fun o_127_1 o_127_2 o_127_3 =>
    (if o_127_3 = (-9) then (i_readHung, i_readMany, (i_readOwes + 1), o_127_2, o_127_3, (upd f_readOwed o_120_1.toNatClampNeg o_127_1), f_readWishes)
    else (i_readHung, i_readMany, i_readOwes, o_127_2, o_127_3, f_readOwed, f_readWishes))))))
  else (bnd (v_X8_fail i_at i_faultAt) fun o_161 =>
  (i_readHung, i_readMany, i_readOwes, i_at, o_161, f_readOwed, f_readWishes))))
abbrev rm_X8_readPart : Room := { frames := 4, cells := 0, slots := 0, locals := 91 }
set_option maxHeartbeats 4000000 in
set_option maxRecDepth 100000 in
theorem k_X8_readPart (l : Launch) (D : va_G) (cI cZ : ClassId) (a a_readWishes a_readOwed a_told a_owed a_text a_row a_least a_values a_tellPlace a_tellHour a_tellDark a_isKept a_kept : Nat) (x1 : Int32) (i_readHung : Int32) (i_readMany : Int32) (i_readOwes : Int32) (i_wishes : Int32) (i_hung : Int32) (i_hour : Int32) (i_length : Int32) (i_at : Int32) (i_faultAt : Int32) (i_acts : Int32) (i_next : Int32) (i_tells : Int32) (j_seed : Int64) (f_readOwed : Nat → Int32) (f_text : Nat → Int32) (f_readWishes : Nat → Int32) (hat : vp_in i_at 73) (hl0 : vp_in i_length 73) (hatl : ¬ i_length ≤ i_at) (hm6 : vp_in i_readMany 6) : KV l D cI cZ yX8_readPart wsX8_readPart rm_X8_readPart [.ref a, .int x1] [(a, .inr (8, [.ref a_readWishes, .ref a_readOwed, .int i_readHung, .int i_readMany, .int i_readOwes, .ref a_told, .ref a_owed, .int i_wishes, .int i_hung, .int i_hour, .ref a_text, .int i_length, .int i_at, .int i_faultAt, .int i_acts, .int i_next, .ref a_row, .ref a_least, .ref a_values, .int i_tells, .ref a_tellPlace, .ref a_tellHour, .ref a_tellDark, .long j_seed, .ref a_isKept, .ref a_kept])), (a_readOwed, .inl (cI, 12, .inl f_readOwed)), (a_text, .inl (cI, 72, .inl f_text)), (a_readWishes, .inl (cI, 25, .inl f_readWishes))] (v_X8_readPart x1 i_readHung i_readMany i_readOwes i_length i_at i_faultAt f_readOwed f_text f_readWishes) (fun o : Int32 × Int32 × Int32 × Int32 × Int32 × (Nat → Int32) × (Nat → Int32) => [(a, .inr (8, [.ref a_readWishes, .ref a_readOwed, .int o.1, .int o.2.1, .int o.2.2.1, .ref a_told, .ref a_owed, .int i_wishes, .int i_hung, .int i_hour, .ref a_text, .int i_length, .int o.2.2.2.1, .int o.2.2.2.2.1, .int i_acts, .int i_next, .ref a_row, .ref a_least, .ref a_values, .int i_tells, .ref a_tellPlace, .ref a_tellHour, .ref a_tellDark, .long j_seed, .ref a_isKept, .ref a_kept])), (a_readOwed, .inl (cI, 12, .inl o.2.2.2.2.2.1)), (a_text, .inl (cI, 72, .inl f_text)), (a_readWishes, .inl (cI, 25, .inl o.2.2.2.2.2.2))]) := by
  refine KV.of cX8_readPart 4 none (by decide) rfl (Nat.le_of_ble_eq_true rfl) ?_
  intro p e s m below meth c A ls ar Q hQ B
  obtain ⟨hx, hb, hr, hml, hts, hown, hlk, hK, hN, hP, hD, hA, hS, hl⟩ := B
  have hown : s.vm.findClass RX8 = some m.cls := hown
  have hF : CallFix p m c cX8_readPart 4 s ar wsX8_readPart RX8 := ⟨hx, hb, hml, hown, hts⟩
  have hl : lv_has ls 4 [(0, .ref a), (1, .int x1)] := hl
  refine lv_iload_n hx hb dX8_readPart_0 rfl (lv_at hl 1 rfl) ?_
  refine lv_bipush (v := 72) hx hb dX8_readPart_1 rfl ?_
  refine lv_icmp_ne (tgt := 70) hx hb dX8_readPart_3 (by decide) (fun c_3 => ?_) (fun c_3 => ?_)
  · refine lv_iload_n hx hb dX8_readPart_70 rfl (lv_at hl 1 rfl) ?_
    refine lv_bipush (v := 87) hx hb dX8_readPart_71 rfl ?_
    refine lv_icmp_ne (tgt := 91) hx hb dX8_readPart_73 (by decide) (fun c_73 => ?_) (fun c_73 => ?_)
    · refine lv_iload_n hx hb dX8_readPart_91 rfl (lv_at hl 1 rfl) ?_
      refine lv_bipush (v := 79) hx hb dX8_readPart_92 rfl ?_
      refine lv_icmp_ne (tgt := 160) hx hb dX8_readPart_94 (by decide) (fun c_94 => ?_) (fun c_94 => ?_)
      · refine lv_aload_n hx hb dX8_readPart_160 rfl (lv_at hl 0 rfl) ?_
        obtain ⟨o_161, ho_161⟩ : ∃ z : Int32, z = v_X8_fail i_at i_faultAt := ⟨_, rfl⟩
        sorry
      · refine lv_aload_n hx hb dX8_readPart_97 rfl (lv_at hl 0 rfl) ?_
        refine va_get (D := D) (ci := 8) (v := .int i_readOwes) (C := RX8) (T := TX8) (N := 26) hx hb hts (fun _ h => List.mem_cons_of_mem _ (List.mem_append_right _ (h))) hown hK hP 0 rfl rfl 4 (by decide) (hts _ (List.mem_of_getElem? (i := 5) rfl)) (fun _ h9 => h9) rfl dX8_readPart_98 ?_
        refine lv_iconst (v := 4) hx hb dX8_readPart_101 rfl ?_
        refine lv_icmp_ge (tgt := 160) hx hb dX8_readPart_102 (by decide) (fun c_102 => ?_) (fun c_102 => ?_)
        · refine lv_aload_n hx hb dX8_readPart_160 rfl (lv_at hl 0 rfl) ?_
          obtain ⟨o_161, ho_161⟩ : ∃ z : Int32, z = v_X8_fail i_at i_faultAt := ⟨_, rfl⟩
          sorry
        · refine lv_aload_n hx hb dX8_readPart_105 rfl (lv_at hl 0 rfl) ?_
          refine lv_dup hx hb dX8_readPart_106 rfl ?_
          refine va_get (D := D) (ci := 8) (v := .int i_at) (C := RX8) (T := TX8) (N := 26) hx hb hts (fun _ h => List.mem_cons_of_mem _ (List.mem_append_right _ (h))) hown hK hP 0 rfl rfl 12 (by decide) (hts _ (List.mem_of_getElem? (i := 2) rfl)) (fun _ h9 => h9) rfl dX8_readPart_107 ?_
          refine lv_iconst (v := 1) hx hb dX8_readPart_110 rfl ?_
          refine lv_iadd hx hb dX8_readPart_111 ?_
          refine va_put (D := D) (ci := 8) (v := .int (i_at + 1)) (ty := .int) (C := RX8) (T := TX8) (N := 26) hx hb hts (fun _ h => List.mem_cons_of_mem _ (List.mem_append_right _ (h))) tyX8 tyX8_ok nmX8 hown hK hP (va_Dsame hD rfl) hS 0 rfl rfl 12 (by decide) (hts _ (List.mem_of_getElem? (i := 2) rfl)) (fun _ h9 => h9) rfl (tyX8_ok 12 (by decide)) rfl rfl (Nat.le_of_ble_eq_true rfl) dX8_readPart_112 (fun H locs hP _ hS => ?_)
          have hP : va_P D vwCl [(a, .inr (8, [.ref a_readWishes, .ref a_readOwed, .int i_readHung, .int i_readMany, .int i_readOwes, .ref a_told, .ref a_owed, .int i_wishes, .int i_hung, .int i_hour, .ref a_text, .int i_length, .int (i_at + 1), .int i_faultAt, .int i_acts, .int i_next, .ref a_row, .ref a_least, .ref a_values, .int i_tells, .ref a_tellPlace, .ref a_tellHour, .ref a_tellDark, .long j_seed, .ref a_isKept, .ref a_kept])), (a_readOwed, .inl (cI, 12, .inl f_readOwed)), (a_text, .inl (cI, 72, .inl f_text)), (a_readWishes, .inl (cI, 25, .inl f_readWishes))] H := hP
          refine lv_aload_n hx hb dX8_readPart_115 rfl (lv_at hl 0 rfl) ?_
          refine lv_aload_n hx hb dX8_readPart_116 rfl (lv_at hl 0 rfl) ?_
          obtain ⟨o_117, ho_117⟩ : ∃ z : Int32, z = v_X8_notOwed f_readOwed := ⟨_, rfl⟩
          sorry
    · refine lv_aload_n hx hb dX8_readPart_76 rfl (lv_at hl 0 rfl) ?_
      refine va_get (D := D) (ci := 8) (v := .int i_readMany) (C := RX8) (T := TX8) (N := 26) hx hb hts (fun _ h => List.mem_cons_of_mem _ (List.mem_append_right _ (h))) hown hK hP 0 rfl rfl 3 (by decide) (hts _ (List.mem_of_getElem? (i := 4) rfl)) (fun _ h9 => h9) rfl dX8_readPart_77 ?_
      refine lv_iconst (v := 5) hx hb dX8_readPart_80 rfl ?_
      refine lv_icmp_ge (tgt := 91) hx hb dX8_readPart_81 (by decide) (fun c_81 => ?_) (fun c_81 => ?_)
      · refine lv_iload_n hx hb dX8_readPart_91 rfl (lv_at hl 1 rfl) ?_
        refine lv_bipush (v := 79) hx hb dX8_readPart_92 rfl ?_
        refine lv_icmp_ne (tgt := 160) hx hb dX8_readPart_94 (by decide) (fun c_94 => ?_) (fun c_94 => ?_)
        · refine lv_aload_n hx hb dX8_readPart_160 rfl (lv_at hl 0 rfl) ?_
          obtain ⟨o_161, ho_161⟩ : ∃ z : Int32, z = v_X8_fail i_at i_faultAt := ⟨_, rfl⟩
          sorry
        · refine lv_aload_n hx hb dX8_readPart_97 rfl (lv_at hl 0 rfl) ?_
          refine va_get (D := D) (ci := 8) (v := .int i_readOwes) (C := RX8) (T := TX8) (N := 26) hx hb hts (fun _ h => List.mem_cons_of_mem _ (List.mem_append_right _ (h))) hown hK hP 0 rfl rfl 4 (by decide) (hts _ (List.mem_of_getElem? (i := 5) rfl)) (fun _ h9 => h9) rfl dX8_readPart_98 ?_
          refine lv_iconst (v := 4) hx hb dX8_readPart_101 rfl ?_
          refine lv_icmp_ge (tgt := 160) hx hb dX8_readPart_102 (by decide) (fun c_102 => ?_) (fun c_102 => ?_)
          · refine lv_aload_n hx hb dX8_readPart_160 rfl (lv_at hl 0 rfl) ?_
            obtain ⟨o_161, ho_161⟩ : ∃ z : Int32, z = v_X8_fail i_at i_faultAt := ⟨_, rfl⟩
            sorry
          · refine lv_aload_n hx hb dX8_readPart_105 rfl (lv_at hl 0 rfl) ?_
            refine lv_dup hx hb dX8_readPart_106 rfl ?_
            refine va_get (D := D) (ci := 8) (v := .int i_at) (C := RX8) (T := TX8) (N := 26) hx hb hts (fun _ h => List.mem_cons_of_mem _ (List.mem_append_right _ (h))) hown hK hP 0 rfl rfl 12 (by decide) (hts _ (List.mem_of_getElem? (i := 2) rfl)) (fun _ h9 => h9) rfl dX8_readPart_107 ?_
            refine lv_iconst (v := 1) hx hb dX8_readPart_110 rfl ?_
            refine lv_iadd hx hb dX8_readPart_111 ?_
            refine va_put (D := D) (ci := 8) (v := .int (i_at + 1)) (ty := .int) (C := RX8) (T := TX8) (N := 26) hx hb hts (fun _ h => List.mem_cons_of_mem _ (List.mem_append_right _ (h))) tyX8 tyX8_ok nmX8 hown hK hP (va_Dsame hD rfl) hS 0 rfl rfl 12 (by decide) (hts _ (List.mem_of_getElem? (i := 2) rfl)) (fun _ h9 => h9) rfl (tyX8_ok 12 (by decide)) rfl rfl (Nat.le_of_ble_eq_true rfl) dX8_readPart_112 (fun H locs hP _ hS => ?_)
            have hP : va_P D vwCl [(a, .inr (8, [.ref a_readWishes, .ref a_readOwed, .int i_readHung, .int i_readMany, .int i_readOwes, .ref a_told, .ref a_owed, .int i_wishes, .int i_hung, .int i_hour, .ref a_text, .int i_length, .int (i_at + 1), .int i_faultAt, .int i_acts, .int i_next, .ref a_row, .ref a_least, .ref a_values, .int i_tells, .ref a_tellPlace, .ref a_tellHour, .ref a_tellDark, .long j_seed, .ref a_isKept, .ref a_kept])), (a_readOwed, .inl (cI, 12, .inl f_readOwed)), (a_text, .inl (cI, 72, .inl f_text)), (a_readWishes, .inl (cI, 25, .inl f_readWishes))] H := hP
            refine lv_aload_n hx hb dX8_readPart_115 rfl (lv_at hl 0 rfl) ?_
            refine lv_aload_n hx hb dX8_readPart_116 rfl (lv_at hl 0 rfl) ?_
            obtain ⟨o_117, ho_117⟩ : ∃ z : Int32, z = v_X8_notOwed f_readOwed := ⟨_, rfl⟩
            sorry
      · refine lv_aload_n hx hb dX8_readPart_84 rfl (lv_at hl 0 rfl) ?_
        obtain ⟨o_85_1, o_85_2, o_85_3, o_85_4, ho_85⟩ : ∃ o_85_1 o_85_2 o_85_3 o_85_4, (o_85_1, o_85_2, o_85_3, o_85_4) = v_X8_readWish i_readMany i_length i_at i_faultAt f_text f_readWishes := ⟨_, _, _, _, rfl⟩
        sorry
  · refine lv_aload_n hx hb dX8_readPart_6 rfl (lv_at hl 0 rfl) ?_
    refine va_get (D := D) (ci := 8) (v := .int i_readHung) (C := RX8) (T := TX8) (N := 26) hx hb hts (fun _ h => List.mem_cons_of_mem _ (List.mem_append_right _ (h))) hown hK hP 0 rfl rfl 2 (by decide) (hts _ (List.mem_of_getElem? (i := 1) rfl)) (fun _ h9 => h9) rfl dX8_readPart_7 ?_
    obtain ⟨o_10, ho_10⟩ : ∃ z : Int32, z = v_X8_ones i_readHung := ⟨_, rfl⟩
    refine callSIs (As := [.int i_readHung]) (rest := []) o_10 ho_10 hF (k_X8_ones l D cI cZ i_readHung) (va_cwS 1 hts gX8_readPart_X8_ones rfl rfl rfl (by decide +kernel) ⟨Nat.le_of_ble_eq_true rfl, Nat.le_of_ble_eq_true rfl⟩) hK hN hP (va_Dsame hD rfl) hS hA [] rfl rfl rfl hl.1 rfl (Nat.le_of_ble_eq_true rfl) dX8_readPart_10 ⟨Nat.zero_le _, Nat.zero_le _⟩ o_10 rfl rfl (fun H locs hP hS => ?_)
    refine lv_iconst (v := 5) hx hb dX8_readPart_13 rfl ?_
    refine lv_icmp_ge (tgt := 70) hx hb dX8_readPart_14 (by decide) (fun c_14 => ?_) (fun c_14 => ?_)
    · refine lv_iload_n hx hb dX8_readPart_70 rfl (lv_at hl 1 rfl) ?_
      refine lv_bipush (v := 87) hx hb dX8_readPart_71 rfl ?_
      refine lv_icmp_ne (tgt := 91) hx hb dX8_readPart_73 (by decide) (fun c_73 => ?_) (fun c_73 => ?_)
      · refine lv_iload_n hx hb dX8_readPart_91 rfl (lv_at hl 1 rfl) ?_
        refine lv_bipush (v := 79) hx hb dX8_readPart_92 rfl ?_
        refine lv_icmp_ne (tgt := 160) hx hb dX8_readPart_94 (by decide) (fun c_94 => ?_) (fun c_94 => ?_)
        · refine lv_aload_n hx hb dX8_readPart_160 rfl (lv_at hl 0 rfl) ?_
          obtain ⟨o_161, ho_161⟩ : ∃ z : Int32, z = v_X8_fail i_at i_faultAt := ⟨_, rfl⟩
          sorry
        · refine lv_aload_n hx hb dX8_readPart_97 rfl (lv_at hl 0 rfl) ?_
          refine va_get (D := D) (ci := 8) (v := .int i_readOwes) (C := RX8) (T := TX8) (N := 26) hx hb hts (fun _ h => List.mem_cons_of_mem _ (List.mem_append_right _ (h))) hown hK hP 0 rfl rfl 4 (by decide) (hts _ (List.mem_of_getElem? (i := 5) rfl)) (fun _ h9 => h9) rfl dX8_readPart_98 ?_
          refine lv_iconst (v := 4) hx hb dX8_readPart_101 rfl ?_
          refine lv_icmp_ge (tgt := 160) hx hb dX8_readPart_102 (by decide) (fun c_102 => ?_) (fun c_102 => ?_)
          · refine lv_aload_n hx hb dX8_readPart_160 rfl (lv_at hl 0 rfl) ?_
            obtain ⟨o_161, ho_161⟩ : ∃ z : Int32, z = v_X8_fail i_at i_faultAt := ⟨_, rfl⟩
            sorry
          · refine lv_aload_n hx hb dX8_readPart_105 rfl (lv_at hl 0 rfl) ?_
            refine lv_dup hx hb dX8_readPart_106 rfl ?_
            refine va_get (D := D) (ci := 8) (v := .int i_at) (C := RX8) (T := TX8) (N := 26) hx hb hts (fun _ h => List.mem_cons_of_mem _ (List.mem_append_right _ (h))) hown hK hP 0 rfl rfl 12 (by decide) (hts _ (List.mem_of_getElem? (i := 2) rfl)) (fun _ h9 => h9) rfl dX8_readPart_107 ?_
            refine lv_iconst (v := 1) hx hb dX8_readPart_110 rfl ?_
            refine lv_iadd hx hb dX8_readPart_111 ?_
            refine va_put (D := D) (ci := 8) (v := .int (i_at + 1)) (ty := .int) (C := RX8) (T := TX8) (N := 26) hx hb hts (fun _ h => List.mem_cons_of_mem _ (List.mem_append_right _ (h))) tyX8 tyX8_ok nmX8 hown hK hP (va_Dsame hD rfl) hS 0 rfl rfl 12 (by decide) (hts _ (List.mem_of_getElem? (i := 2) rfl)) (fun _ h9 => h9) rfl (tyX8_ok 12 (by decide)) rfl rfl (Nat.le_of_ble_eq_true rfl) dX8_readPart_112 (fun H locs hP _ hS => ?_)
            have hP : va_P D vwCl [(a, .inr (8, [.ref a_readWishes, .ref a_readOwed, .int i_readHung, .int i_readMany, .int i_readOwes, .ref a_told, .ref a_owed, .int i_wishes, .int i_hung, .int i_hour, .ref a_text, .int i_length, .int (i_at + 1), .int i_faultAt, .int i_acts, .int i_next, .ref a_row, .ref a_least, .ref a_values, .int i_tells, .ref a_tellPlace, .ref a_tellHour, .ref a_tellDark, .long j_seed, .ref a_isKept, .ref a_kept])), (a_readOwed, .inl (cI, 12, .inl f_readOwed)), (a_text, .inl (cI, 72, .inl f_text)), (a_readWishes, .inl (cI, 25, .inl f_readWishes))] H := hP
            refine lv_aload_n hx hb dX8_readPart_115 rfl (lv_at hl 0 rfl) ?_
            refine lv_aload_n hx hb dX8_readPart_116 rfl (lv_at hl 0 rfl) ?_
            obtain ⟨o_117, ho_117⟩ : ∃ z : Int32, z = v_X8_notOwed f_readOwed := ⟨_, rfl⟩
            sorry
      · refine lv_aload_n hx hb dX8_readPart_76 rfl (lv_at hl 0 rfl) ?_
        refine va_get (D := D) (ci := 8) (v := .int i_readMany) (C := RX8) (T := TX8) (N := 26) hx hb hts (fun _ h => List.mem_cons_of_mem _ (List.mem_append_right _ (h))) hown hK hP 0 rfl rfl 3 (by decide) (hts _ (List.mem_of_getElem? (i := 4) rfl)) (fun _ h9 => h9) rfl dX8_readPart_77 ?_
        refine lv_iconst (v := 5) hx hb dX8_readPart_80 rfl ?_
        refine lv_icmp_ge (tgt := 91) hx hb dX8_readPart_81 (by decide) (fun c_81 => ?_) (fun c_81 => ?_)
        · refine lv_iload_n hx hb dX8_readPart_91 rfl (lv_at hl 1 rfl) ?_
          refine lv_bipush (v := 79) hx hb dX8_readPart_92 rfl ?_
          refine lv_icmp_ne (tgt := 160) hx hb dX8_readPart_94 (by decide) (fun c_94 => ?_) (fun c_94 => ?_)
          · refine lv_aload_n hx hb dX8_readPart_160 rfl (lv_at hl 0 rfl) ?_
            obtain ⟨o_161, ho_161⟩ : ∃ z : Int32, z = v_X8_fail i_at i_faultAt := ⟨_, rfl⟩
            sorry
          · refine lv_aload_n hx hb dX8_readPart_97 rfl (lv_at hl 0 rfl) ?_
            refine va_get (D := D) (ci := 8) (v := .int i_readOwes) (C := RX8) (T := TX8) (N := 26) hx hb hts (fun _ h => List.mem_cons_of_mem _ (List.mem_append_right _ (h))) hown hK hP 0 rfl rfl 4 (by decide) (hts _ (List.mem_of_getElem? (i := 5) rfl)) (fun _ h9 => h9) rfl dX8_readPart_98 ?_
            refine lv_iconst (v := 4) hx hb dX8_readPart_101 rfl ?_
            refine lv_icmp_ge (tgt := 160) hx hb dX8_readPart_102 (by decide) (fun c_102 => ?_) (fun c_102 => ?_)
            · refine lv_aload_n hx hb dX8_readPart_160 rfl (lv_at hl 0 rfl) ?_
              obtain ⟨o_161, ho_161⟩ : ∃ z : Int32, z = v_X8_fail i_at i_faultAt := ⟨_, rfl⟩
              sorry
            · refine lv_aload_n hx hb dX8_readPart_105 rfl (lv_at hl 0 rfl) ?_
              refine lv_dup hx hb dX8_readPart_106 rfl ?_
              refine va_get (D := D) (ci := 8) (v := .int i_at) (C := RX8) (T := TX8) (N := 26) hx hb hts (fun _ h => List.mem_cons_of_mem _ (List.mem_append_right _ (h))) hown hK hP 0 rfl rfl 12 (by decide) (hts _ (List.mem_of_getElem? (i := 2) rfl)) (fun _ h9 => h9) rfl dX8_readPart_107 ?_
              refine lv_iconst (v := 1) hx hb dX8_readPart_110 rfl ?_
              refine lv_iadd hx hb dX8_readPart_111 ?_
              refine va_put (D := D) (ci := 8) (v := .int (i_at + 1)) (ty := .int) (C := RX8) (T := TX8) (N := 26) hx hb hts (fun _ h => List.mem_cons_of_mem _ (List.mem_append_right _ (h))) tyX8 tyX8_ok nmX8 hown hK hP (va_Dsame hD rfl) hS 0 rfl rfl 12 (by decide) (hts _ (List.mem_of_getElem? (i := 2) rfl)) (fun _ h9 => h9) rfl (tyX8_ok 12 (by decide)) rfl rfl (Nat.le_of_ble_eq_true rfl) dX8_readPart_112 (fun H locs hP _ hS => ?_)
              have hP : va_P D vwCl [(a, .inr (8, [.ref a_readWishes, .ref a_readOwed, .int i_readHung, .int i_readMany, .int i_readOwes, .ref a_told, .ref a_owed, .int i_wishes, .int i_hung, .int i_hour, .ref a_text, .int i_length, .int (i_at + 1), .int i_faultAt, .int i_acts, .int i_next, .ref a_row, .ref a_least, .ref a_values, .int i_tells, .ref a_tellPlace, .ref a_tellHour, .ref a_tellDark, .long j_seed, .ref a_isKept, .ref a_kept])), (a_readOwed, .inl (cI, 12, .inl f_readOwed)), (a_text, .inl (cI, 72, .inl f_text)), (a_readWishes, .inl (cI, 25, .inl f_readWishes))] H := hP
              refine lv_aload_n hx hb dX8_readPart_115 rfl (lv_at hl 0 rfl) ?_
              refine lv_aload_n hx hb dX8_readPart_116 rfl (lv_at hl 0 rfl) ?_
              obtain ⟨o_117, ho_117⟩ : ∃ z : Int32, z = v_X8_notOwed f_readOwed := ⟨_, rfl⟩
              sorry
        · refine lv_aload_n hx hb dX8_readPart_84 rfl (lv_at hl 0 rfl) ?_
          obtain ⟨o_85_1, o_85_2, o_85_3, o_85_4, ho_85⟩ : ∃ o_85_1 o_85_2 o_85_3 o_85_4, (o_85_1, o_85_2, o_85_3, o_85_4) = v_X8_readWish i_readMany i_length i_at i_faultAt f_text f_readWishes := ⟨_, _, _, _, rfl⟩
          sorry
    · refine lv_aload_n hx hb dX8_readPart_17 rfl (lv_at hl 0 rfl) ?_
      refine lv_dup hx hb dX8_readPart_18 rfl ?_
      refine va_get (D := D) (ci := 8) (v := .int i_at) (C := RX8) (T := TX8) (N := 26) hx hb hts (fun _ h => List.mem_cons_of_mem _ (List.mem_append_right _ (h))) hown hK hP 0 rfl rfl 12 (by decide) (hts _ (List.mem_of_getElem? (i := 2) rfl)) (fun _ h9 => h9) rfl dX8_readPart_19 ?_
      refine lv_iconst (v := 1) hx hb dX8_readPart_22 rfl ?_
      refine lv_iadd hx hb dX8_readPart_23 ?_
      refine va_put (D := D) (ci := 8) (v := .int (i_at + 1)) (ty := .int) (C := RX8) (T := TX8) (N := 26) hx hb hts (fun _ h => List.mem_cons_of_mem _ (List.mem_append_right _ (h))) tyX8 tyX8_ok nmX8 hown hK hP (va_Dsame hD rfl) hS 0 rfl rfl 12 (by decide) (hts _ (List.mem_of_getElem? (i := 2) rfl)) (fun _ h9 => h9) rfl (tyX8_ok 12 (by decide)) rfl rfl (Nat.le_of_ble_eq_true rfl) dX8_readPart_24 (fun H locs hP _ hS => ?_)
      have hP : va_P D vwCl [(a, .inr (8, [.ref a_readWishes, .ref a_readOwed, .int i_readHung, .int i_readMany, .int i_readOwes, .ref a_told, .ref a_owed, .int i_wishes, .int i_hung, .int i_hour, .ref a_text, .int i_length, .int (i_at + 1), .int i_faultAt, .int i_acts, .int i_next, .ref a_row, .ref a_least, .ref a_values, .int i_tells, .ref a_tellPlace, .ref a_tellHour, .ref a_tellDark, .long j_seed, .ref a_isKept, .ref a_kept])), (a_readOwed, .inl (cI, 12, .inl f_readOwed)), (a_text, .inl (cI, 72, .inl f_text)), (a_readWishes, .inl (cI, 25, .inl f_readWishes))] H := hP
      refine lv_aload_n hx hb dX8_readPart_27 rfl (lv_at hl 0 rfl) ?_
      refine lv_sipush (v := 4095) hx hb dX8_readPart_28 rfl ?_
      refine lv_aload_n hx hb dX8_readPart_31 rfl (lv_at hl 0 rfl) ?_
      refine va_get (D := D) (ci := 8) (v := .int i_readHung) (C := RX8) (T := TX8) (N := 26) hx hb hts (fun _ h => List.mem_cons_of_mem _ (List.mem_append_right _ (h))) hown hK hP 0 rfl rfl 2 (by decide) (hts _ (List.mem_of_getElem? (i := 1) rfl)) (fun _ h9 => h9) rfl dX8_readPart_32 ?_
      refine lv_iconst (v := (-1)) hx hb dX8_readPart_35 rfl ?_
      refine lv_ixor hx hb dX8_readPart_36 ?_
      refine lv_iand hx hb dX8_readPart_37 ?_
      obtain ⟨o_38_1, o_38_2, o_38_3, ho_38⟩ : ∃ o_38_1 o_38_2 o_38_3, (o_38_1, o_38_2, o_38_3) = v_X8_two (4095 &&& (i_readHung ^^^ (-1))) i_length (i_at + 1) i_faultAt f_text := ⟨_, _, _, rfl⟩
      sorry
theorem rp_step {c hung many owes l a fa hung2 many2 owes2 b fb : Int32} {fo ft fw fo2 fw2 : Nat → Int32} (h : vp_in a 73) (hl : vp_in l 73) (hal : ¬ l ≤ a) (hm : vp_in many 6) (ho : (hung2, many2, owes2, b, fb, fo2, fw2) = v_X8_readPart c hung many owes l a fa fo ft fw) : vp_in b 73 ∧ vp_in many2 6 ∧ a.toNatClampNeg ≤ b.toNatClampNeg ∧ (fb = -9 → a.toNatClampNeg + 1 ≤ b.toNatClampNeg) := by
  sorry
theorem rp_inv {i : Nat} {c hung many owes l a fa hung2 many2 owes2 b fb : Int32} {fo ft fw fo2 fw2 : Nat → Int32} (h : vp_in a 73) (hl : vp_in l 73) (hal : ¬ l ≤ a) (hm : vp_in many 6) (hi : i ≤ a.toNatClampNeg) (ho : (hung2, many2, owes2, b, fb, fo2, fw2) = v_X8_readPart c hung many owes l a fa fo ft fw) : vp_in b 73 ∧ vp_in many2 6 ∧ i + 1 ≤ b.toNatClampNeg + 1 ∧ (fb = -9 → i + 1 ≤ b.toNatClampNeg) := by
  obtain ⟨h1, h2, h3, h4⟩ := rp_step h hl hal hm ho
  exact ⟨h1, h2, by omega, fun q => by have := h4 q; omega⟩
