def v_X8_write (x1 : Int32) (i_length : Int32) (f_text : Nat → Int32) : Int32 × Int32 × (Nat → Int32) :=
  bnd (v_X8_in x1.toInt64 0 255) fun o_6 =>
  (if bI o_6 = 0 then ((-2), i_length, f_text)
  else (if i_length = 72 then ((-4), i_length, f_text)
  else ((i_length + 1), (i_length + 1), (upd f_text i_length.toNatClampNeg x1))))
abbrev rm_X8_write : Room := { frames := 1, cells := 0, slots := 0, locals := 25 }
set_option maxHeartbeats 4000000 in
set_option maxRecDepth 100000 in
theorem k_X8_write (l : Launch) (D : va_G) (cI cZ : ClassId) (a a_readWishes a_readOwed a_told a_owed a_text a_row a_least a_values a_tellPlace a_tellHour a_tellDark a_isKept a_kept : Nat) (x1 : Int32) (i_readHung : Int32) (i_readMany : Int32) (i_readOwes : Int32) (i_wishes : Int32) (i_hung : Int32) (i_hour : Int32) (i_length : Int32) (i_at : Int32) (i_faultAt : Int32) (i_acts : Int32) (i_next : Int32) (i_tells : Int32) (j_seed : Int64) (f_text : Nat → Int32) (hl0 : vp_in i_length 73) : KI l D cI cZ yX8_write wsX8_write rm_X8_write [.ref a, .int x1] [(a, .inr (8, [.ref a_readWishes, .ref a_readOwed, .int i_readHung, .int i_readMany, .int i_readOwes, .ref a_told, .ref a_owed, .int i_wishes, .int i_hung, .int i_hour, .ref a_text, .int i_length, .int i_at, .int i_faultAt, .int i_acts, .int i_next, .ref a_row, .ref a_least, .ref a_values, .int i_tells, .ref a_tellPlace, .ref a_tellHour, .ref a_tellDark, .long j_seed, .ref a_isKept, .ref a_kept])), (a_text, .inl (cI, 72, .inl f_text))] (v_X8_write x1 i_length f_text) (fun o : Int32 × Int32 × (Nat → Int32) => o.1) (fun o : Int32 × Int32 × (Nat → Int32) => [(a, .inr (8, [.ref a_readWishes, .ref a_readOwed, .int i_readHung, .int i_readMany, .int i_readOwes, .ref a_told, .ref a_owed, .int i_wishes, .int i_hung, .int i_hour, .ref a_text, .int o.2.1, .int i_at, .int i_faultAt, .int i_acts, .int i_next, .ref a_row, .ref a_least, .ref a_values, .int i_tells, .ref a_tellPlace, .ref a_tellHour, .ref a_tellDark, .long j_seed, .ref a_isKept, .ref a_kept])), (a_text, .inl (cI, 72, .inl o.2.2))]) := by
  refine KI.of cX8_write 2 (some .int) (by decide) rfl (Nat.le_of_ble_eq_true rfl) ?_
  intro p e s m below meth c A ls ar Q hQ B
  obtain ⟨hx, hb, hr, hml, hts, hown, hlk, hK, hN, hP, hD, hA, hS, hl⟩ := B
  have hown : s.vm.findClass RX8 = some m.cls := hown
  have hF : CallFix p m c cX8_write 2 s ar wsX8_write RX8 := ⟨hx, hb, hml, hown, hts⟩
  have hl : lv_has ls 2 [(0, .ref a), (1, .int x1)] := hl
  refine lv_iload_n hx hb dX8_write_0 rfl (lv_at hl 1 rfl) ?_
  refine lv_i2l (v := x1.toInt64) hx hb dX8_write_1 rfl ?_
  refine lv_lconst (v := 0) hx hb dX8_write_2 rfl ?_
  refine lv_ldc2 (v := 255) hx hb hown (hts _ (List.mem_of_getElem? (i := 1) rfl)) dX8_write_3 ?_
  obtain ⟨o_6, ho_6⟩ : ∃ z : Bool, z = v_X8_in x1.toInt64 0 255 := ⟨_, rfl⟩
  refine callSIs (As := [.long x1.toInt64, .long 0, .long 255]) (rest := []) o_6 ho_6 hF (k_X8_in l D cI cZ x1.toInt64 0 255) (va_cwS 3 hts gX8_write_X8_in rfl rfl rfl (by decide +kernel) ⟨Nat.le_of_ble_eq_true rfl, Nat.le_of_ble_eq_true rfl⟩) hK hN hP (va_Dsame hD rfl) hS hA [] rfl rfl rfl hl.1 rfl (Nat.le_of_ble_eq_true rfl) dX8_write_6 ⟨Nat.zero_le _, Nat.zero_le _⟩ (bI o_6) rfl rfl (fun H locs hP hS => ?_)
  refine lv_if_ne (tgt := 15) hx hb dX8_write_9 (by decide) (fun c_9 => ?_) (fun c_9 => ?_)
  · refine lv_aload_n hx hb dX8_write_15 rfl (lv_at hl 0 rfl) ?_
    refine va_get (D := D) (ci := 8) (v := .int i_length) (C := RX8) (T := TX8) (N := 26) hx hb hts (fun _ h => List.mem_cons_of_mem _ (List.mem_append_right _ (h))) hown hK hP 0 rfl rfl 11 (by decide) (hts _ (List.mem_of_getElem? (i := 2) rfl)) (fun _ h9 => h9) rfl dX8_write_16 ?_
    refine lv_bipush (v := 72) hx hb dX8_write_19 rfl ?_
    refine lv_icmp_ne (tgt := 27) hx hb dX8_write_21 (by decide) (fun c_21 => ?_) (fun c_21 => ?_)
    · refine lv_aload_n hx hb dX8_write_27 rfl (lv_at hl 0 rfl) ?_
      refine va_get (D := D) (ci := 8) (v := .ref a_text) (C := RX8) (T := TX8) (N := 26) hx hb hts (fun _ h => List.mem_cons_of_mem _ (List.mem_append_right _ (h))) hown hK hP 0 rfl rfl 10 (by decide) (hts _ (List.mem_of_getElem? (i := 3) rfl)) (fun _ h9 => h9) rfl dX8_write_28 ?_
      refine lv_aload_n hx hb dX8_write_31 rfl (lv_at hl 0 rfl) ?_
      refine va_get (D := D) (ci := 8) (v := .int i_length) (C := RX8) (T := TX8) (N := 26) hx hb hts (fun _ h => List.mem_cons_of_mem _ (List.mem_append_right _ (h))) hown hK hP 0 rfl rfl 11 (by decide) (hts _ (List.mem_of_getElem? (i := 2) rfl)) (fun _ h9 => h9) rfl dX8_write_32 ?_
      refine lv_iload_n hx hb dX8_write_35 rfl (lv_at hl 1 rfl) ?_
      refine va_iast hx hb hK hP (va_Dsame hD rfl) hS 1 0 rfl rfl (vin_ne hl0 c_21) dX8_write_36 (fun H locs hP _ hS => ?_)
      have hP : va_P D vwCl [(a, .inr (8, [.ref a_readWishes, .ref a_readOwed, .int i_readHung, .int i_readMany, .int i_readOwes, .ref a_told, .ref a_owed, .int i_wishes, .int i_hung, .int i_hour, .ref a_text, .int i_length, .int i_at, .int i_faultAt, .int i_acts, .int i_next, .ref a_row, .ref a_least, .ref a_values, .int i_tells, .ref a_tellPlace, .ref a_tellHour, .ref a_tellDark, .long j_seed, .ref a_isKept, .ref a_kept])), (a_text, .inl (cI, 72, .inl (upd f_text i_length.toNatClampNeg x1)))] H := hP
      refine lv_aload_n hx hb dX8_write_37 rfl (lv_at hl 0 rfl) ?_
      refine lv_dup hx hb dX8_write_38 rfl ?_
      refine va_get (D := D) (ci := 8) (v := .int i_length) (C := RX8) (T := TX8) (N := 26) hx hb hts (fun _ h => List.mem_cons_of_mem _ (List.mem_append_right _ (h))) hown hK hP 0 rfl rfl 11 (by decide) (hts _ (List.mem_of_getElem? (i := 2) rfl)) (fun _ h9 => h9) rfl dX8_write_39 ?_
      refine lv_iconst (v := 1) hx hb dX8_write_42 rfl ?_
      refine lv_iadd hx hb dX8_write_43 ?_
      refine va_put (D := D) (ci := 8) (v := .int (i_length + 1)) (ty := .int) (C := RX8) (T := TX8) (N := 26) hx hb hts (fun _ h => List.mem_cons_of_mem _ (List.mem_append_right _ (h))) tyX8 tyX8_ok nmX8 hown hK hP (va_Dsame hD rfl) hS 0 rfl rfl 11 (by decide) (hts _ (List.mem_of_getElem? (i := 2) rfl)) (fun _ h9 => h9) rfl (tyX8_ok 11 (by decide)) rfl rfl (Nat.le_of_ble_eq_true rfl) dX8_write_44 (fun H locs hP _ hS => ?_)
      have hP : va_P D vwCl [(a, .inr (8, [.ref a_readWishes, .ref a_readOwed, .int i_readHung, .int i_readMany, .int i_readOwes, .ref a_told, .ref a_owed, .int i_wishes, .int i_hung, .int i_hour, .ref a_text, .int (i_length + 1), .int i_at, .int i_faultAt, .int i_acts, .int i_next, .ref a_row, .ref a_least, .ref a_values, .int i_tells, .ref a_tellPlace, .ref a_tellHour, .ref a_tellDark, .long j_seed, .ref a_isKept, .ref a_kept])), (a_text, .inl (cI, 72, .inl (upd f_text i_length.toNatClampNeg x1)))] H := hP
      refine lv_aload_n hx hb dX8_write_47 rfl (lv_at hl 0 rfl) ?_
      refine va_get (D := D) (ci := 8) (v := .int (i_length + 1)) (C := RX8) (T := TX8) (N := 26) hx hb hts (fun _ h => List.mem_cons_of_mem _ (List.mem_append_right _ (h))) hown hK hP 0 rfl rfl 11 (by decide) (hts _ (List.mem_of_getElem? (i := 2) rfl)) (fun _ h9 => h9) rfl dX8_write_48 ?_
      have e9 : v_X8_write x1 i_length f_text = ((i_length + 1), (i_length + 1), (upd f_text i_length.toNatClampNeg x1)) := by
        refine (bnd_eq ho_6).trans ?_
        refine (if_neg c_9).trans ?_
        refine (if_neg c_21).trans ?_
        rfl
      rw [hQ]; exact retI ((i_length + 1), (i_length + 1), (upd f_text i_length.toNatClampNeg x1)) hx hb hr hlk e9 hP rfl hS dX8_write_51
    · refine lv_bipush (v := (-4)) hx hb dX8_write_24 rfl ?_
      have e9 : v_X8_write x1 i_length f_text = ((-4), i_length, f_text) := by
        refine (bnd_eq ho_6).trans ?_
        refine (if_neg c_9).trans ?_
        refine (if_pos c_21).trans ?_
        rfl
      rw [hQ]; exact retI ((-4), i_length, f_text) hx hb hr hlk e9 hP rfl hS dX8_write_26
  · refine lv_bipush (v := (-2)) hx hb dX8_write_12 rfl ?_
    have e9 : v_X8_write x1 i_length f_text = ((-2), i_length, f_text) := by
      refine (bnd_eq ho_6).trans ?_
      refine (if_pos c_9).trans ?_
      rfl
    rw [hQ]; exact retI ((-2), i_length, f_text) hx hb hr hlk e9 hP rfl hS dX8_write_14
def v_X8_wipe (i_length : Int32) : Int32 × Int32 :=
  (i_length, 0)
abbrev rm_X8_wipe : Room := { frames := 0, cells := 0, slots := 0, locals := 0 }
set_option maxHeartbeats 4000000 in
set_option maxRecDepth 100000 in
theorem k_X8_wipe (l : Launch) (D : va_G) (cI cZ : ClassId) (a a_readWishes a_readOwed a_told a_owed a_text a_row a_least a_values a_tellPlace a_tellHour a_tellDark a_isKept a_kept : Nat) (i_readHung : Int32) (i_readMany : Int32) (i_readOwes : Int32) (i_wishes : Int32) (i_hung : Int32) (i_hour : Int32) (i_length : Int32) (i_at : Int32) (i_faultAt : Int32) (i_acts : Int32) (i_next : Int32) (i_tells : Int32) (j_seed : Int64) : KI l D cI cZ yX8_wipe wsX8_wipe rm_X8_wipe [.ref a] [(a, .inr (8, [.ref a_readWishes, .ref a_readOwed, .int i_readHung, .int i_readMany, .int i_readOwes, .ref a_told, .ref a_owed, .int i_wishes, .int i_hung, .int i_hour, .ref a_text, .int i_length, .int i_at, .int i_faultAt, .int i_acts, .int i_next, .ref a_row, .ref a_least, .ref a_values, .int i_tells, .ref a_tellPlace, .ref a_tellHour, .ref a_tellDark, .long j_seed, .ref a_isKept, .ref a_kept]))] (v_X8_wipe i_length) (fun o : Int32 × Int32 => o.1) (fun o : Int32 × Int32 => [(a, .inr (8, [.ref a_readWishes, .ref a_readOwed, .int i_readHung, .int i_readMany, .int i_readOwes, .ref a_told, .ref a_owed, .int i_wishes, .int i_hung, .int i_hour, .ref a_text, .int o.2, .int i_at, .int i_faultAt, .int i_acts, .int i_next, .ref a_row, .ref a_least, .ref a_values, .int i_tells, .ref a_tellPlace, .ref a_tellHour, .ref a_tellDark, .long j_seed, .ref a_isKept, .ref a_kept]))]) := by
  refine KI.of cX8_wipe 2 (some .int) (by decide) rfl (Nat.le_of_ble_eq_true rfl) ?_
  intro p e s m below meth c A ls ar Q hQ B
  obtain ⟨hx, hb, hr, hml, hts, hown, hlk, hK, hN, hP, hD, hA, hS, hl⟩ := B
  have hown : s.vm.findClass RX8 = some m.cls := hown
  have hF : CallFix p m c cX8_wipe 2 s ar wsX8_wipe RX8 := ⟨hx, hb, hml, hown, hts⟩
  have hl : lv_has ls 2 [(0, .ref a)] := hl
  refine lv_aload_n hx hb dX8_wipe_0 rfl (lv_at hl 0 rfl) ?_
  refine va_get (D := D) (ci := 8) (v := .int i_length) (C := RX8) (T := TX8) (N := 26) hx hb hts (fun _ h => List.mem_cons_of_mem _ (List.mem_append_right _ (h))) hown hK hP 0 rfl rfl 11 (by decide) (hts _ (List.mem_of_getElem? (i := 1) rfl)) (fun _ h9 => h9) rfl dX8_wipe_1 ?_
  refine lv_istore_n (lv' := [(1, .int i_length), (0, .ref a)]) hx hb dX8_wipe_4 rfl hl (by decide) rfl (fun ls hl => ?_)
  refine lv_aload_n hx hb dX8_wipe_5 rfl (lv_at hl 1 rfl) ?_
  refine lv_iconst (v := 0) hx hb dX8_wipe_6 rfl ?_
  refine va_put (D := D) (ci := 8) (v := .int 0) (ty := .int) (C := RX8) (T := TX8) (N := 26) hx hb hts (fun _ h => List.mem_cons_of_mem _ (List.mem_append_right _ (h))) tyX8 tyX8_ok nmX8 hown hK hP (va_Dsame hD rfl) hS 0 rfl rfl 11 (by decide) (hts _ (List.mem_of_getElem? (i := 1) rfl)) (fun _ h9 => h9) rfl (tyX8_ok 11 (by decide)) rfl rfl (Nat.le_of_ble_eq_true rfl) dX8_wipe_7 (fun H locs hP _ hS => ?_)
  have hP : va_P D vwCl [(a, .inr (8, [.ref a_readWishes, .ref a_readOwed, .int i_readHung, .int i_readMany, .int i_readOwes, .ref a_told, .ref a_owed, .int i_wishes, .int i_hung, .int i_hour, .ref a_text, .int 0, .int i_at, .int i_faultAt, .int i_acts, .int i_next, .ref a_row, .ref a_least, .ref a_values, .int i_tells, .ref a_tellPlace, .ref a_tellHour, .ref a_tellDark, .long j_seed, .ref a_isKept, .ref a_kept]))] H := hP
  refine lv_iload_n hx hb dX8_wipe_10 rfl (lv_at hl 0 rfl) ?_
  have e9 : v_X8_wipe i_length = (i_length, 0) := by
    rfl
  rw [hQ]; exact retI (i_length, 0) hx hb hr hlk e9 hP rfl hS dX8_wipe_11
def v_X8_fail (i_at : Int32) (i_faultAt : Int32) : Int32 :=
  if i_faultAt = (-9) then i_at
  else i_faultAt
abbrev rm_X8_fail : Room := { frames := 0, cells := 0, slots := 0, locals := 0 }
set_option maxHeartbeats 4000000 in
set_option maxRecDepth 100000 in
theorem k_X8_fail (l : Launch) (D : va_G) (cI cZ : ClassId) (a a_readWishes a_readOwed a_told a_owed a_text a_row a_least a_values a_tellPlace a_tellHour a_tellDark a_isKept a_kept : Nat) (i_readHung : Int32) (i_readMany : Int32) (i_readOwes : Int32) (i_wishes : Int32) (i_hung : Int32) (i_hour : Int32) (i_length : Int32) (i_at : Int32) (i_faultAt : Int32) (i_acts : Int32) (i_next : Int32) (i_tells : Int32) (j_seed : Int64) : KV l D cI cZ yX8_fail wsX8_fail rm_X8_fail [.ref a] [(a, .inr (8, [.ref a_readWishes, .ref a_readOwed, .int i_readHung, .int i_readMany, .int i_readOwes, .ref a_told, .ref a_owed, .int i_wishes, .int i_hung, .int i_hour, .ref a_text, .int i_length, .int i_at, .int i_faultAt, .int i_acts, .int i_next, .ref a_row, .ref a_least, .ref a_values, .int i_tells, .ref a_tellPlace, .ref a_tellHour, .ref a_tellDark, .long j_seed, .ref a_isKept, .ref a_kept]))] (v_X8_fail i_at i_faultAt) (fun o : Int32 => [(a, .inr (8, [.ref a_readWishes, .ref a_readOwed, .int i_readHung, .int i_readMany, .int i_readOwes, .ref a_told, .ref a_owed, .int i_wishes, .int i_hung, .int i_hour, .ref a_text, .int i_length, .int i_at, .int o, .int i_acts, .int i_next, .ref a_row, .ref a_least, .ref a_values, .int i_tells, .ref a_tellPlace, .ref a_tellHour, .ref a_tellDark, .long j_seed, .ref a_isKept, .ref a_kept]))]) := by
  refine KV.of cX8_fail 1 none (by decide) rfl (Nat.le_of_ble_eq_true rfl) ?_
  intro p e s m below meth c A ls ar Q hQ B
  obtain ⟨hx, hb, hr, hml, hts, hown, hlk, hK, hN, hP, hD, hA, hS, hl⟩ := B
  have hown : s.vm.findClass RX8 = some m.cls := hown
  have hF : CallFix p m c cX8_fail 1 s ar wsX8_fail RX8 := ⟨hx, hb, hml, hown, hts⟩
  have hl : lv_has ls 1 [(0, .ref a)] := hl
  refine lv_aload_n hx hb dX8_fail_0 rfl (lv_at hl 0 rfl) ?_
  refine lv_aload_n hx hb dX8_fail_1 rfl (lv_at hl 0 rfl) ?_
  refine va_get (D := D) (ci := 8) (v := .int i_faultAt) (C := RX8) (T := TX8) (N := 26) hx hb hts (fun _ h => List.mem_cons_of_mem _ (List.mem_append_right _ (h))) hown hK hP 0 rfl rfl 13 (by decide) (hts _ (List.mem_of_getElem? (i := 1) rfl)) (fun _ h9 => h9) rfl dX8_fail_2 ?_
  refine lv_bipush (v := (-9)) hx hb dX8_fail_5 rfl ?_
  refine lv_icmp_ne (tgt := 17) hx hb dX8_fail_7 (by decide) (fun c_7 => ?_) (fun c_7 => ?_)
  · refine lv_aload_n hx hb dX8_fail_17 rfl (lv_at hl 0 rfl) ?_
    refine va_get (D := D) (ci := 8) (v := .int i_faultAt) (C := RX8) (T := TX8) (N := 26) hx hb hts (fun _ h => List.mem_cons_of_mem _ (List.mem_append_right _ (h))) hown hK hP 0 rfl rfl 13 (by decide) (hts _ (List.mem_of_getElem? (i := 1) rfl)) (fun _ h9 => h9) rfl dX8_fail_18 ?_
    refine va_put (D := D) (ci := 8) (v := .int i_faultAt) (ty := .int) (C := RX8) (T := TX8) (N := 26) hx hb hts (fun _ h => List.mem_cons_of_mem _ (List.mem_append_right _ (h))) tyX8 tyX8_ok nmX8 hown hK hP (va_Dsame hD rfl) hS 0 rfl rfl 13 (by decide) (hts _ (List.mem_of_getElem? (i := 1) rfl)) (fun _ h9 => h9) rfl (tyX8_ok 13 (by decide)) rfl rfl (Nat.le_of_ble_eq_true rfl) dX8_fail_21 (fun H locs hP _ hS => ?_)
    have hP : va_P D vwCl [(a, .inr (8, [.ref a_readWishes, .ref a_readOwed, .int i_readHung, .int i_readMany, .int i_readOwes, .ref a_told, .ref a_owed, .int i_wishes, .int i_hung, .int i_hour, .ref a_text, .int i_length, .int i_at, .int i_faultAt, .int i_acts, .int i_next, .ref a_row, .ref a_least, .ref a_values, .int i_tells, .ref a_tellPlace, .ref a_tellHour, .ref a_tellDark, .long j_seed, .ref a_isKept, .ref a_kept]))] H := hP
    have e9 : v_X8_fail i_at i_faultAt = i_faultAt := by
      refine (if_neg c_7).trans ?_
      rfl
    rw [hQ]; exact retV i_faultAt hx hb hr hlk e9 hP hS dX8_fail_24
  · refine lv_aload_n hx hb dX8_fail_10 rfl (lv_at hl 0 rfl) ?_
    refine va_get (D := D) (ci := 8) (v := .int i_at) (C := RX8) (T := TX8) (N := 26) hx hb hts (fun _ h => List.mem_cons_of_mem _ (List.mem_append_right _ (h))) hown hK hP 0 rfl rfl 12 (by decide) (hts _ (List.mem_of_getElem? (i := 2) rfl)) (fun _ h9 => h9) rfl dX8_fail_11 ?_
    refine lv_goto (tgt := 21) hx hb dX8_fail_14 (by decide) ?_
    refine va_put (D := D) (ci := 8) (v := .int i_at) (ty := .int) (C := RX8) (T := TX8) (N := 26) hx hb hts (fun _ h => List.mem_cons_of_mem _ (List.mem_append_right _ (h))) tyX8 tyX8_ok nmX8 hown hK hP (va_Dsame hD rfl) hS 0 rfl rfl 13 (by decide) (hts _ (List.mem_of_getElem? (i := 1) rfl)) (fun _ h9 => h9) rfl (tyX8_ok 13 (by decide)) rfl rfl (Nat.le_of_ble_eq_true rfl) dX8_fail_21 (fun H locs hP _ hS => ?_)
    have hP : va_P D vwCl [(a, .inr (8, [.ref a_readWishes, .ref a_readOwed, .int i_readHung, .int i_readMany, .int i_readOwes, .ref a_told, .ref a_owed, .int i_wishes, .int i_hung, .int i_hour, .ref a_text, .int i_length, .int i_at, .int i_at, .int i_acts, .int i_next, .ref a_row, .ref a_least, .ref a_values, .int i_tells, .ref a_tellPlace, .ref a_tellHour, .ref a_tellDark, .long j_seed, .ref a_isKept, .ref a_kept]))] H := hP
    have e9 : v_X8_fail i_at i_faultAt = i_at := by
      refine (if_pos c_7).trans ?_
      rfl
    rw [hQ]; exact retV i_at hx hb hr hlk e9 hP hS dX8_fail_24
def v_X8_figure (x1 : Int32) (i_length : Int32) (i_at : Int32) (i_faultAt : Int32) (f_text : Nat → Int32) : Int32 × Int32 × Int32 :=
  if i_faultAt = (-9) then (if i_length ≤ i_at then (bnd (v_X8_in (-1) 0 9) fun o_43 =>
      (if bI o_43 = 0 then (bnd (v_X8_fail i_at i_faultAt) fun o_58 =>
        (0, i_at, o_58))
      else (if ((x1 >>> ((-1 : Int32) &&& 31)) &&& 1) = 0 then (bnd (v_X8_fail i_at i_faultAt) fun o_58 =>
        (0, i_at, o_58))
      else ((-1), (i_at + 1), i_faultAt))))
    else (bnd (v_X8_in (((f_text i_at.toNatClampNeg) - 48).toInt64) 0 9) fun o_43 =>
    (if bI o_43 = 0 then (bnd (v_X8_fail i_at i_faultAt) fun o_58 =>
      (0, i_at, o_58))
    else (if ((x1 >>> (((f_text i_at.toNatClampNeg) - 48) &&& 31)) &&& 1) = 0 then (bnd (v_X8_fail i_at i_faultAt) fun o_58 =>
      (0, i_at, o_58))
    else (((f_text i_at.toNatClampNeg) - 48), (i_at + 1), i_faultAt)))))
  else (bnd (v_X8_in (-1) 0 9) fun o_43 =>
  (if bI o_43 = 0 then (bnd (v_X8_fail i_at i_faultAt) fun o_58 =>
    (0, i_at, o_58))
  else (if ((x1 >>> ((-1 : Int32) &&& 31)) &&& 1) = 0 then (bnd (v_X8_fail i_at i_faultAt) fun o_58 =>
    (0, i_at, o_58))
  else ((-1), (i_at + 1), i_faultAt))))
abbrev rm_X8_figure : Room := { frames := 1, cells := 0, slots := 0, locals := 25 }
set_option maxHeartbeats 4000000 in
set_option maxRecDepth 100000 in
theorem k_X8_figure (l : Launch) (D : va_G) (cI cZ : ClassId) (a a_readWishes a_readOwed a_told a_owed a_text a_row a_least a_values a_tellPlace a_tellHour a_tellDark a_isKept a_kept : Nat) (x1 : Int32) (i_readHung : Int32) (i_readMany : Int32) (i_readOwes : Int32) (i_wishes : Int32) (i_hung : Int32) (i_hour : Int32) (i_length : Int32) (i_at : Int32) (i_faultAt : Int32) (i_acts : Int32) (i_next : Int32) (i_tells : Int32) (j_seed : Int64) (f_text : Nat → Int32) (hat : vp_in i_at 73) (hl0 : vp_in i_length 73) : KI l D cI cZ yX8_figure wsX8_figure rm_X8_figure [.ref a, .int x1] [(a, .inr (8, [.ref a_readWishes, .ref a_readOwed, .int i_readHung, .int i_readMany, .int i_readOwes, .ref a_told, .ref a_owed, .int i_wishes, .int i_hung, .int i_hour, .ref a_text, .int i_length, .int i_at, .int i_faultAt, .int i_acts, .int i_next, .ref a_row, .ref a_least, .ref a_values, .int i_tells, .ref a_tellPlace, .ref a_tellHour, .ref a_tellDark, .long j_seed, .ref a_isKept, .ref a_kept])), (a_text, .inl (cI, 72, .inl f_text))] (v_X8_figure x1 i_length i_at i_faultAt f_text) (fun o : Int32 × Int32 × Int32 => o.1) (fun o : Int32 × Int32 × Int32 => [(a, .inr (8, [.ref a_readWishes, .ref a_readOwed, .int i_readHung, .int i_readMany, .int i_readOwes, .ref a_told, .ref a_owed, .int i_wishes, .int i_hung, .int i_hour, .ref a_text, .int i_length, .int o.2.1, .int o.2.2, .int i_acts, .int i_next, .ref a_row, .ref a_least, .ref a_values, .int i_tells, .ref a_tellPlace, .ref a_tellHour, .ref a_tellDark, .long j_seed, .ref a_isKept, .ref a_kept])), (a_text, .inl (cI, 72, .inl f_text))]) := by
  refine KI.of cX8_figure 3 (some .int) (by decide) rfl (Nat.le_of_ble_eq_true rfl) ?_
  intro p e s m below meth c A ls ar Q hQ B
  obtain ⟨hx, hb, hr, hml, hts, hown, hlk, hK, hN, hP, hD, hA, hS, hl⟩ := B
  have hown : s.vm.findClass RX8 = some m.cls := hown
  have hF : CallFix p m c cX8_figure 3 s ar wsX8_figure RX8 := ⟨hx, hb, hml, hown, hts⟩
  have hl : lv_has ls 3 [(0, .ref a), (1, .int x1)] := hl
  refine lv_aload_n hx hb dX8_figure_0 rfl (lv_at hl 0 rfl) ?_
  refine va_get (D := D) (ci := 8) (v := .int i_faultAt) (C := RX8) (T := TX8) (N := 26) hx hb hts (fun _ h => List.mem_cons_of_mem _ (List.mem_append_right _ (h))) hown hK hP 0 rfl rfl 13 (by decide) (hts _ (List.mem_of_getElem? (i := 1) rfl)) (fun _ h9 => h9) rfl dX8_figure_1 ?_
  refine lv_bipush (v := (-9)) hx hb dX8_figure_4 rfl ?_
  refine lv_icmp_ne (tgt := 35) hx hb dX8_figure_6 (by decide) (fun c_6 => ?_) (fun c_6 => ?_)
  · refine lv_iconst (v := (-1)) hx hb dX8_figure_35 rfl ?_
    refine lv_istore_n (lv' := [(2, .int (-1)), (0, .ref a), (1, .int x1)]) hx hb dX8_figure_36 rfl hl (by decide) rfl (fun ls hl => ?_)
    refine lv_iload_n hx hb dX8_figure_37 rfl (lv_at hl 0 rfl) ?_
    refine lv_i2l (v := (-1)) hx hb dX8_figure_38 rfl ?_
    refine lv_lconst (v := 0) hx hb dX8_figure_39 rfl ?_
    refine lv_ldc2 (v := 9) hx hb hown (hts _ (List.mem_of_getElem? (i := 5) rfl)) dX8_figure_40 ?_
    obtain ⟨o_43, ho_43⟩ : ∃ z : Bool, z = v_X8_in (-1) 0 9 := ⟨_, rfl⟩
    refine callSIs (As := [.long (-1), .long 0, .long 9]) (rest := []) o_43 ho_43 hF (k_X8_in l D cI cZ (-1) 0 9) (va_cwS 3 hts gX8_figure_X8_in rfl rfl rfl (by decide +kernel) ⟨Nat.le_of_ble_eq_true rfl, Nat.le_of_ble_eq_true rfl⟩) hK hN hP (va_Dsame hD rfl) hS hA [] rfl rfl rfl hl.1 rfl (Nat.le_of_ble_eq_true rfl) dX8_figure_43 ⟨Nat.zero_le _, Nat.zero_le _⟩ (bI o_43) rfl rfl (fun H locs hP hS => ?_)
    refine lv_if_eq (tgt := 57) hx hb dX8_figure_46 (by decide) (fun c_46 => ?_) (fun c_46 => ?_)
    · refine lv_aload_n hx hb dX8_figure_57 rfl (lv_at hl 1 rfl) ?_
      obtain ⟨o_58, ho_58⟩ : ∃ z : Int32, z = v_X8_fail i_at i_faultAt := ⟨_, rfl⟩
      refine callVV (As := []) (rest := []) o_58 ho_58 hF (k_X8_fail l D cI cZ a a_readWishes a_readOwed a_told a_owed a_text a_row a_least a_values a_tellPlace a_tellHour a_tellDark a_isKept a_kept i_readHung i_readMany i_readOwes i_wishes i_hung i_hour i_length i_at i_faultAt i_acts i_next i_tells j_seed) (cwV 0 hts gX8_figure_X8_fail rfl rfl rfl (by decide +kernel) ⟨Nat.le_of_ble_eq_true rfl, Nat.le_of_ble_eq_true rfl⟩) hK hN hP (va_Dsame hD rfl) hS hA [0] rfl rfl 0 8 (T := TX8) (N := 26) rfl rfl rfl hl.1 rfl (Nat.le_of_ble_eq_true rfl) dX8_figure_58 ⟨Nat.zero_le _, Nat.zero_le _⟩ [some 0, none] 1 [(a, .inr (8, [.ref a_readWishes, .ref a_readOwed, .int i_readHung, .int i_readMany, .int i_readOwes, .ref a_told, .ref a_owed, .int i_wishes, .int i_hung, .int i_hour, .ref a_text, .int i_length, .int i_at, .int o_58, .int i_acts, .int i_next, .ref a_row, .ref a_least, .ref a_values, .int i_tells, .ref a_tellPlace, .ref a_tellHour, .ref a_tellDark, .long j_seed, .ref a_isKept, .ref a_kept])), (a_text, .inl (cI, 72, .inl f_text))] rfl rfl (by decide) (fun H locs hP hS => ?_)
      refine lv_iconst (v := 0) hx hb dX8_figure_61 rfl ?_
      have e9 : v_X8_figure x1 i_length i_at i_faultAt f_text = (0, i_at, o_58) := by
        refine (if_neg c_6).trans ?_
        refine (bnd_eq ho_43).trans ?_
        refine (if_pos c_46).trans ?_
        refine (bnd_eq ho_58).trans ?_
        rfl
      rw [hQ]; exact retI (0, i_at, o_58) hx hb hr hlk e9 hP rfl hS dX8_figure_62
    · refine lv_iload_n hx hb dX8_figure_49 rfl (lv_at hl 2 rfl) ?_
      refine lv_iload_n hx hb dX8_figure_50 rfl (lv_at hl 0 rfl) ?_
      refine lv_ishr hx hb dX8_figure_51 ?_
      refine lv_iconst (v := 1) hx hb dX8_figure_52 rfl ?_
      refine lv_iand hx hb dX8_figure_53 ?_
      refine lv_if_ne (tgt := 63) hx hb dX8_figure_54 (by decide) (fun c_54 => ?_) (fun c_54 => ?_)
      · refine lv_aload_n hx hb dX8_figure_63 rfl (lv_at hl 1 rfl) ?_
        refine lv_dup hx hb dX8_figure_64 rfl ?_
        refine va_get (D := D) (ci := 8) (v := .int i_at) (C := RX8) (T := TX8) (N := 26) hx hb hts (fun _ h => List.mem_cons_of_mem _ (List.mem_append_right _ (h))) hown hK hP 0 rfl rfl 12 (by decide) (hts _ (List.mem_of_getElem? (i := 2) rfl)) (fun _ h9 => h9) rfl dX8_figure_65 ?_
        refine lv_iconst (v := 1) hx hb dX8_figure_68 rfl ?_
        refine lv_iadd hx hb dX8_figure_69 ?_
        refine va_put (D := D) (ci := 8) (v := .int (i_at + 1)) (ty := .int) (C := RX8) (T := TX8) (N := 26) hx hb hts (fun _ h => List.mem_cons_of_mem _ (List.mem_append_right _ (h))) tyX8 tyX8_ok nmX8 hown hK hP (va_Dsame hD rfl) hS 0 rfl rfl 12 (by decide) (hts _ (List.mem_of_getElem? (i := 2) rfl)) (fun _ h9 => h9) rfl (tyX8_ok 12 (by decide)) rfl rfl (Nat.le_of_ble_eq_true rfl) dX8_figure_70 (fun H locs hP _ hS => ?_)
        have hP : va_P D vwCl [(a, .inr (8, [.ref a_readWishes, .ref a_readOwed, .int i_readHung, .int i_readMany, .int i_readOwes, .ref a_told, .ref a_owed, .int i_wishes, .int i_hung, .int i_hour, .ref a_text, .int i_length, .int (i_at + 1), .int i_faultAt, .int i_acts, .int i_next, .ref a_row, .ref a_least, .ref a_values, .int i_tells, .ref a_tellPlace, .ref a_tellHour, .ref a_tellDark, .long j_seed, .ref a_isKept, .ref a_kept])), (a_text, .inl (cI, 72, .inl f_text))] H := hP
        refine lv_iload_n hx hb dX8_figure_73 rfl (lv_at hl 0 rfl) ?_
        have e9 : v_X8_figure x1 i_length i_at i_faultAt f_text = ((-1), (i_at + 1), i_faultAt) := by
          refine (if_neg c_6).trans ?_
          refine (bnd_eq ho_43).trans ?_
          refine (if_neg c_46).trans ?_
          refine (if_neg c_54).trans ?_
          rfl
        rw [hQ]; exact retI ((-1), (i_at + 1), i_faultAt) hx hb hr hlk e9 hP rfl hS dX8_figure_74
      · refine lv_aload_n hx hb dX8_figure_57 rfl (lv_at hl 1 rfl) ?_
        obtain ⟨o_58, ho_58⟩ : ∃ z : Int32, z = v_X8_fail i_at i_faultAt := ⟨_, rfl⟩
        refine callVV (As := []) (rest := []) o_58 ho_58 hF (k_X8_fail l D cI cZ a a_readWishes a_readOwed a_told a_owed a_text a_row a_least a_values a_tellPlace a_tellHour a_tellDark a_isKept a_kept i_readHung i_readMany i_readOwes i_wishes i_hung i_hour i_length i_at i_faultAt i_acts i_next i_tells j_seed) (cwV 0 hts gX8_figure_X8_fail rfl rfl rfl (by decide +kernel) ⟨Nat.le_of_ble_eq_true rfl, Nat.le_of_ble_eq_true rfl⟩) hK hN hP (va_Dsame hD rfl) hS hA [0] rfl rfl 0 8 (T := TX8) (N := 26) rfl rfl rfl hl.1 rfl (Nat.le_of_ble_eq_true rfl) dX8_figure_58 ⟨Nat.zero_le _, Nat.zero_le _⟩ [some 0, none] 1 [(a, .inr (8, [.ref a_readWishes, .ref a_readOwed, .int i_readHung, .int i_readMany, .int i_readOwes, .ref a_told, .ref a_owed, .int i_wishes, .int i_hung, .int i_hour, .ref a_text, .int i_length, .int i_at, .int o_58, .int i_acts, .int i_next, .ref a_row, .ref a_least, .ref a_values, .int i_tells, .ref a_tellPlace, .ref a_tellHour, .ref a_tellDark, .long j_seed, .ref a_isKept, .ref a_kept])), (a_text, .inl (cI, 72, .inl f_text))] rfl rfl (by decide) (fun H locs hP hS => ?_)
        refine lv_iconst (v := 0) hx hb dX8_figure_61 rfl ?_
        have e9 : v_X8_figure x1 i_length i_at i_faultAt f_text = (0, i_at, o_58) := by
          refine (if_neg c_6).trans ?_
          refine (bnd_eq ho_43).trans ?_
          refine (if_neg c_46).trans ?_
          refine (if_pos c_54).trans ?_
          refine (bnd_eq ho_58).trans ?_
          rfl
        rw [hQ]; exact retI (0, i_at, o_58) hx hb hr hlk e9 hP rfl hS dX8_figure_62
  · refine lv_aload_n hx hb dX8_figure_9 rfl (lv_at hl 0 rfl) ?_
    refine va_get (D := D) (ci := 8) (v := .int i_at) (C := RX8) (T := TX8) (N := 26) hx hb hts (fun _ h => List.mem_cons_of_mem _ (List.mem_append_right _ (h))) hown hK hP 0 rfl rfl 12 (by decide) (hts _ (List.mem_of_getElem? (i := 2) rfl)) (fun _ h9 => h9) rfl dX8_figure_10 ?_
    refine lv_aload_n hx hb dX8_figure_13 rfl (lv_at hl 0 rfl) ?_
    refine va_get (D := D) (ci := 8) (v := .int i_length) (C := RX8) (T := TX8) (N := 26) hx hb hts (fun _ h => List.mem_cons_of_mem _ (List.mem_append_right _ (h))) hown hK hP 0 rfl rfl 11 (by decide) (hts _ (List.mem_of_getElem? (i := 3) rfl)) (fun _ h9 => h9) rfl dX8_figure_14 ?_
    refine lv_icmp_ge (tgt := 35) hx hb dX8_figure_17 (by decide) (fun c_17 => ?_) (fun c_17 => ?_)
    · refine lv_iconst (v := (-1)) hx hb dX8_figure_35 rfl ?_
      refine lv_istore_n (lv' := [(2, .int (-1)), (0, .ref a), (1, .int x1)]) hx hb dX8_figure_36 rfl hl (by decide) rfl (fun ls hl => ?_)
      refine lv_iload_n hx hb dX8_figure_37 rfl (lv_at hl 0 rfl) ?_
      refine lv_i2l (v := (-1)) hx hb dX8_figure_38 rfl ?_
      refine lv_lconst (v := 0) hx hb dX8_figure_39 rfl ?_
      refine lv_ldc2 (v := 9) hx hb hown (hts _ (List.mem_of_getElem? (i := 5) rfl)) dX8_figure_40 ?_
      obtain ⟨o_43, ho_43⟩ : ∃ z : Bool, z = v_X8_in (-1) 0 9 := ⟨_, rfl⟩
      refine callSIs (As := [.long (-1), .long 0, .long 9]) (rest := []) o_43 ho_43 hF (k_X8_in l D cI cZ (-1) 0 9) (va_cwS 3 hts gX8_figure_X8_in rfl rfl rfl (by decide +kernel) ⟨Nat.le_of_ble_eq_true rfl, Nat.le_of_ble_eq_true rfl⟩) hK hN hP (va_Dsame hD rfl) hS hA [] rfl rfl rfl hl.1 rfl (Nat.le_of_ble_eq_true rfl) dX8_figure_43 ⟨Nat.zero_le _, Nat.zero_le _⟩ (bI o_43) rfl rfl (fun H locs hP hS => ?_)
      refine lv_if_eq (tgt := 57) hx hb dX8_figure_46 (by decide) (fun c_46 => ?_) (fun c_46 => ?_)
      · refine lv_aload_n hx hb dX8_figure_57 rfl (lv_at hl 1 rfl) ?_
        obtain ⟨o_58, ho_58⟩ : ∃ z : Int32, z = v_X8_fail i_at i_faultAt := ⟨_, rfl⟩
        refine callVV (As := []) (rest := []) o_58 ho_58 hF (k_X8_fail l D cI cZ a a_readWishes a_readOwed a_told a_owed a_text a_row a_least a_values a_tellPlace a_tellHour a_tellDark a_isKept a_kept i_readHung i_readMany i_readOwes i_wishes i_hung i_hour i_length i_at i_faultAt i_acts i_next i_tells j_seed) (cwV 0 hts gX8_figure_X8_fail rfl rfl rfl (by decide +kernel) ⟨Nat.le_of_ble_eq_true rfl, Nat.le_of_ble_eq_true rfl⟩) hK hN hP (va_Dsame hD rfl) hS hA [0] rfl rfl 0 8 (T := TX8) (N := 26) rfl rfl rfl hl.1 rfl (Nat.le_of_ble_eq_true rfl) dX8_figure_58 ⟨Nat.zero_le _, Nat.zero_le _⟩ [some 0, none] 1 [(a, .inr (8, [.ref a_readWishes, .ref a_readOwed, .int i_readHung, .int i_readMany, .int i_readOwes, .ref a_told, .ref a_owed, .int i_wishes, .int i_hung, .int i_hour, .ref a_text, .int i_length, .int i_at, .int o_58, .int i_acts, .int i_next, .ref a_row, .ref a_least, .ref a_values, .int i_tells, .ref a_tellPlace, .ref a_tellHour, .ref a_tellDark, .long j_seed, .ref a_isKept, .ref a_kept])), (a_text, .inl (cI, 72, .inl f_text))] rfl rfl (by decide) (fun H locs hP hS => ?_)
        refine lv_iconst (v := 0) hx hb dX8_figure_61 rfl ?_
        have e9 : v_X8_figure x1 i_length i_at i_faultAt f_text = (0, i_at, o_58) := by
          refine (if_pos c_6).trans ?_
          refine (if_pos c_17).trans ?_
          refine (bnd_eq ho_43).trans ?_
          refine (if_pos c_46).trans ?_
          refine (bnd_eq ho_58).trans ?_
          rfl
        rw [hQ]; exact retI (0, i_at, o_58) hx hb hr hlk e9 hP rfl hS dX8_figure_62
      · refine lv_iload_n hx hb dX8_figure_49 rfl (lv_at hl 2 rfl) ?_
        refine lv_iload_n hx hb dX8_figure_50 rfl (lv_at hl 0 rfl) ?_
        refine lv_ishr hx hb dX8_figure_51 ?_
        refine lv_iconst (v := 1) hx hb dX8_figure_52 rfl ?_
        refine lv_iand hx hb dX8_figure_53 ?_
        refine lv_if_ne (tgt := 63) hx hb dX8_figure_54 (by decide) (fun c_54 => ?_) (fun c_54 => ?_)
        · refine lv_aload_n hx hb dX8_figure_63 rfl (lv_at hl 1 rfl) ?_
          refine lv_dup hx hb dX8_figure_64 rfl ?_
          refine va_get (D := D) (ci := 8) (v := .int i_at) (C := RX8) (T := TX8) (N := 26) hx hb hts (fun _ h => List.mem_cons_of_mem _ (List.mem_append_right _ (h))) hown hK hP 0 rfl rfl 12 (by decide) (hts _ (List.mem_of_getElem? (i := 2) rfl)) (fun _ h9 => h9) rfl dX8_figure_65 ?_
          refine lv_iconst (v := 1) hx hb dX8_figure_68 rfl ?_
          refine lv_iadd hx hb dX8_figure_69 ?_
          refine va_put (D := D) (ci := 8) (v := .int (i_at + 1)) (ty := .int) (C := RX8) (T := TX8) (N := 26) hx hb hts (fun _ h => List.mem_cons_of_mem _ (List.mem_append_right _ (h))) tyX8 tyX8_ok nmX8 hown hK hP (va_Dsame hD rfl) hS 0 rfl rfl 12 (by decide) (hts _ (List.mem_of_getElem? (i := 2) rfl)) (fun _ h9 => h9) rfl (tyX8_ok 12 (by decide)) rfl rfl (Nat.le_of_ble_eq_true rfl) dX8_figure_70 (fun H locs hP _ hS => ?_)
          have hP : va_P D vwCl [(a, .inr (8, [.ref a_readWishes, .ref a_readOwed, .int i_readHung, .int i_readMany, .int i_readOwes, .ref a_told, .ref a_owed, .int i_wishes, .int i_hung, .int i_hour, .ref a_text, .int i_length, .int (i_at + 1), .int i_faultAt, .int i_acts, .int i_next, .ref a_row, .ref a_least, .ref a_values, .int i_tells, .ref a_tellPlace, .ref a_tellHour, .ref a_tellDark, .long j_seed, .ref a_isKept, .ref a_kept])), (a_text, .inl (cI, 72, .inl f_text))] H := hP
          refine lv_iload_n hx hb dX8_figure_73 rfl (lv_at hl 0 rfl) ?_
          have e9 : v_X8_figure x1 i_length i_at i_faultAt f_text = ((-1), (i_at + 1), i_faultAt) := by
            refine (if_pos c_6).trans ?_
            refine (if_pos c_17).trans ?_
            refine (bnd_eq ho_43).trans ?_
            refine (if_neg c_46).trans ?_
            refine (if_neg c_54).trans ?_
            rfl
          rw [hQ]; exact retI ((-1), (i_at + 1), i_faultAt) hx hb hr hlk e9 hP rfl hS dX8_figure_74
        · refine lv_aload_n hx hb dX8_figure_57 rfl (lv_at hl 1 rfl) ?_
          obtain ⟨o_58, ho_58⟩ : ∃ z : Int32, z = v_X8_fail i_at i_faultAt := ⟨_, rfl⟩
          refine callVV (As := []) (rest := []) o_58 ho_58 hF (k_X8_fail l D cI cZ a a_readWishes a_readOwed a_told a_owed a_text a_row a_least a_values a_tellPlace a_tellHour a_tellDark a_isKept a_kept i_readHung i_readMany i_readOwes i_wishes i_hung i_hour i_length i_at i_faultAt i_acts i_next i_tells j_seed) (cwV 0 hts gX8_figure_X8_fail rfl rfl rfl (by decide +kernel) ⟨Nat.le_of_ble_eq_true rfl, Nat.le_of_ble_eq_true rfl⟩) hK hN hP (va_Dsame hD rfl) hS hA [0] rfl rfl 0 8 (T := TX8) (N := 26) rfl rfl rfl hl.1 rfl (Nat.le_of_ble_eq_true rfl) dX8_figure_58 ⟨Nat.zero_le _, Nat.zero_le _⟩ [some 0, none] 1 [(a, .inr (8, [.ref a_readWishes, .ref a_readOwed, .int i_readHung, .int i_readMany, .int i_readOwes, .ref a_told, .ref a_owed, .int i_wishes, .int i_hung, .int i_hour, .ref a_text, .int i_length, .int i_at, .int o_58, .int i_acts, .int i_next, .ref a_row, .ref a_least, .ref a_values, .int i_tells, .ref a_tellPlace, .ref a_tellHour, .ref a_tellDark, .long j_seed, .ref a_isKept, .ref a_kept])), (a_text, .inl (cI, 72, .inl f_text))] rfl rfl (by decide) (fun H locs hP hS => ?_)
          refine lv_iconst (v := 0) hx hb dX8_figure_61 rfl ?_
          have e9 : v_X8_figure x1 i_length i_at i_faultAt f_text = (0, i_at, o_58) := by
            refine (if_pos c_6).trans ?_
            refine (if_pos c_17).trans ?_
            refine (bnd_eq ho_43).trans ?_
            refine (if_neg c_46).trans ?_
            refine (if_pos c_54).trans ?_
            refine (bnd_eq ho_58).trans ?_
            rfl
          rw [hQ]; exact retI (0, i_at, o_58) hx hb hr hlk e9 hP rfl hS dX8_figure_62
    · refine lv_aload_n hx hb dX8_figure_20 rfl (lv_at hl 0 rfl) ?_
      refine va_get (D := D) (ci := 8) (v := .ref a_text) (C := RX8) (T := TX8) (N := 26) hx hb hts (fun _ h => List.mem_cons_of_mem _ (List.mem_append_right _ (h))) hown hK hP 0 rfl rfl 10 (by decide) (hts _ (List.mem_of_getElem? (i := 4) rfl)) (fun _ h9 => h9) rfl dX8_figure_21 ?_
      refine lv_aload_n hx hb dX8_figure_24 rfl (lv_at hl 0 rfl) ?_
      refine va_get (D := D) (ci := 8) (v := .int i_at) (C := RX8) (T := TX8) (N := 26) hx hb hts (fun _ h => List.mem_cons_of_mem _ (List.mem_append_right _ (h))) hown hK hP 0 rfl rfl 12 (by decide) (hts _ (List.mem_of_getElem? (i := 2) rfl)) (fun _ h9 => h9) rfl dX8_figure_25 ?_
      refine va_iald hx hb hK hP 1 0 rfl rfl (vin_lt hat hl0 c_17) dX8_figure_28 ?_
      refine lv_bipush (v := 48) hx hb dX8_figure_29 rfl ?_
      refine lv_isub hx hb dX8_figure_31 ?_
      refine lv_goto (tgt := 36) hx hb dX8_figure_32 (by decide) ?_
      refine lv_istore_n (lv' := [(2, .int ((f_text i_at.toNatClampNeg) - 48)), (0, .ref a), (1, .int x1)]) hx hb dX8_figure_36 rfl hl (by decide) rfl (fun ls hl => ?_)
      refine lv_iload_n hx hb dX8_figure_37 rfl (lv_at hl 0 rfl) ?_
      refine lv_i2l (v := (((f_text i_at.toNatClampNeg) - 48).toInt64)) hx hb dX8_figure_38 rfl ?_
      refine lv_lconst (v := 0) hx hb dX8_figure_39 rfl ?_
      refine lv_ldc2 (v := 9) hx hb hown (hts _ (List.mem_of_getElem? (i := 5) rfl)) dX8_figure_40 ?_
      obtain ⟨o_43, ho_43⟩ : ∃ z : Bool, z = v_X8_in (((f_text i_at.toNatClampNeg) - 48).toInt64) 0 9 := ⟨_, rfl⟩
      refine callSIs (As := [.long (((f_text i_at.toNatClampNeg) - 48).toInt64), .long 0, .long 9]) (rest := []) o_43 ho_43 hF (k_X8_in l D cI cZ (((f_text i_at.toNatClampNeg) - 48).toInt64) 0 9) (va_cwS 3 hts gX8_figure_X8_in rfl rfl rfl (by decide +kernel) ⟨Nat.le_of_ble_eq_true rfl, Nat.le_of_ble_eq_true rfl⟩) hK hN hP (va_Dsame hD rfl) hS hA [] rfl rfl rfl hl.1 rfl (Nat.le_of_ble_eq_true rfl) dX8_figure_43 ⟨Nat.zero_le _, Nat.zero_le _⟩ (bI o_43) rfl rfl (fun H locs hP hS => ?_)
      refine lv_if_eq (tgt := 57) hx hb dX8_figure_46 (by decide) (fun c_46 => ?_) (fun c_46 => ?_)
      · refine lv_aload_n hx hb dX8_figure_57 rfl (lv_at hl 1 rfl) ?_
        obtain ⟨o_58, ho_58⟩ : ∃ z : Int32, z = v_X8_fail i_at i_faultAt := ⟨_, rfl⟩
        refine callVV (As := []) (rest := []) o_58 ho_58 hF (k_X8_fail l D cI cZ a a_readWishes a_readOwed a_told a_owed a_text a_row a_least a_values a_tellPlace a_tellHour a_tellDark a_isKept a_kept i_readHung i_readMany i_readOwes i_wishes i_hung i_hour i_length i_at i_faultAt i_acts i_next i_tells j_seed) (cwV 0 hts gX8_figure_X8_fail rfl rfl rfl (by decide +kernel) ⟨Nat.le_of_ble_eq_true rfl, Nat.le_of_ble_eq_true rfl⟩) hK hN hP (va_Dsame hD rfl) hS hA [0] rfl rfl 0 8 (T := TX8) (N := 26) rfl rfl rfl hl.1 rfl (Nat.le_of_ble_eq_true rfl) dX8_figure_58 ⟨Nat.zero_le _, Nat.zero_le _⟩ [some 0, none] 1 [(a, .inr (8, [.ref a_readWishes, .ref a_readOwed, .int i_readHung, .int i_readMany, .int i_readOwes, .ref a_told, .ref a_owed, .int i_wishes, .int i_hung, .int i_hour, .ref a_text, .int i_length, .int i_at, .int o_58, .int i_acts, .int i_next, .ref a_row, .ref a_least, .ref a_values, .int i_tells, .ref a_tellPlace, .ref a_tellHour, .ref a_tellDark, .long j_seed, .ref a_isKept, .ref a_kept])), (a_text, .inl (cI, 72, .inl f_text))] rfl rfl (by decide) (fun H locs hP hS => ?_)
        refine lv_iconst (v := 0) hx hb dX8_figure_61 rfl ?_
        have e9 : v_X8_figure x1 i_length i_at i_faultAt f_text = (0, i_at, o_58) := by
          refine (if_pos c_6).trans ?_
          refine (if_neg c_17).trans ?_
          refine (bnd_eq ho_43).trans ?_
          refine (if_pos c_46).trans ?_
          refine (bnd_eq ho_58).trans ?_
          rfl
        rw [hQ]; exact retI (0, i_at, o_58) hx hb hr hlk e9 hP rfl hS dX8_figure_62
      · refine lv_iload_n hx hb dX8_figure_49 rfl (lv_at hl 2 rfl) ?_
        refine lv_iload_n hx hb dX8_figure_50 rfl (lv_at hl 0 rfl) ?_
        refine lv_ishr hx hb dX8_figure_51 ?_
        refine lv_iconst (v := 1) hx hb dX8_figure_52 rfl ?_
        refine lv_iand hx hb dX8_figure_53 ?_
        refine lv_if_ne (tgt := 63) hx hb dX8_figure_54 (by decide) (fun c_54 => ?_) (fun c_54 => ?_)
        · refine lv_aload_n hx hb dX8_figure_63 rfl (lv_at hl 1 rfl) ?_
          refine lv_dup hx hb dX8_figure_64 rfl ?_
          refine va_get (D := D) (ci := 8) (v := .int i_at) (C := RX8) (T := TX8) (N := 26) hx hb hts (fun _ h => List.mem_cons_of_mem _ (List.mem_append_right _ (h))) hown hK hP 0 rfl rfl 12 (by decide) (hts _ (List.mem_of_getElem? (i := 2) rfl)) (fun _ h9 => h9) rfl dX8_figure_65 ?_
          refine lv_iconst (v := 1) hx hb dX8_figure_68 rfl ?_
          refine lv_iadd hx hb dX8_figure_69 ?_
          refine va_put (D := D) (ci := 8) (v := .int (i_at + 1)) (ty := .int) (C := RX8) (T := TX8) (N := 26) hx hb hts (fun _ h => List.mem_cons_of_mem _ (List.mem_append_right _ (h))) tyX8 tyX8_ok nmX8 hown hK hP (va_Dsame hD rfl) hS 0 rfl rfl 12 (by decide) (hts _ (List.mem_of_getElem? (i := 2) rfl)) (fun _ h9 => h9) rfl (tyX8_ok 12 (by decide)) rfl rfl (Nat.le_of_ble_eq_true rfl) dX8_figure_70 (fun H locs hP _ hS => ?_)
          have hP : va_P D vwCl [(a, .inr (8, [.ref a_readWishes, .ref a_readOwed, .int i_readHung, .int i_readMany, .int i_readOwes, .ref a_told, .ref a_owed, .int i_wishes, .int i_hung, .int i_hour, .ref a_text, .int i_length, .int (i_at + 1), .int i_faultAt, .int i_acts, .int i_next, .ref a_row, .ref a_least, .ref a_values, .int i_tells, .ref a_tellPlace, .ref a_tellHour, .ref a_tellDark, .long j_seed, .ref a_isKept, .ref a_kept])), (a_text, .inl (cI, 72, .inl f_text))] H := hP
          refine lv_iload_n hx hb dX8_figure_73 rfl (lv_at hl 0 rfl) ?_
          have e9 : v_X8_figure x1 i_length i_at i_faultAt f_text = (((f_text i_at.toNatClampNeg) - 48), (i_at + 1), i_faultAt) := by
            refine (if_pos c_6).trans ?_
            refine (if_neg c_17).trans ?_
            refine (bnd_eq ho_43).trans ?_
            refine (if_neg c_46).trans ?_
            refine (if_neg c_54).trans ?_
            rfl
          rw [hQ]; exact retI (((f_text i_at.toNatClampNeg) - 48), (i_at + 1), i_faultAt) hx hb hr hlk e9 hP rfl hS dX8_figure_74
        · refine lv_aload_n hx hb dX8_figure_57 rfl (lv_at hl 1 rfl) ?_
          obtain ⟨o_58, ho_58⟩ : ∃ z : Int32, z = v_X8_fail i_at i_faultAt := ⟨_, rfl⟩
          refine callVV (As := []) (rest := []) o_58 ho_58 hF (k_X8_fail l D cI cZ a a_readWishes a_readOwed a_told a_owed a_text a_row a_least a_values a_tellPlace a_tellHour a_tellDark a_isKept a_kept i_readHung i_readMany i_readOwes i_wishes i_hung i_hour i_length i_at i_faultAt i_acts i_next i_tells j_seed) (cwV 0 hts gX8_figure_X8_fail rfl rfl rfl (by decide +kernel) ⟨Nat.le_of_ble_eq_true rfl, Nat.le_of_ble_eq_true rfl⟩) hK hN hP (va_Dsame hD rfl) hS hA [0] rfl rfl 0 8 (T := TX8) (N := 26) rfl rfl rfl hl.1 rfl (Nat.le_of_ble_eq_true rfl) dX8_figure_58 ⟨Nat.zero_le _, Nat.zero_le _⟩ [some 0, none] 1 [(a, .inr (8, [.ref a_readWishes, .ref a_readOwed, .int i_readHung, .int i_readMany, .int i_readOwes, .ref a_told, .ref a_owed, .int i_wishes, .int i_hung, .int i_hour, .ref a_text, .int i_length, .int i_at, .int o_58, .int i_acts, .int i_next, .ref a_row, .ref a_least, .ref a_values, .int i_tells, .ref a_tellPlace, .ref a_tellHour, .ref a_tellDark, .long j_seed, .ref a_isKept, .ref a_kept])), (a_text, .inl (cI, 72, .inl f_text))] rfl rfl (by decide) (fun H locs hP hS => ?_)
          refine lv_iconst (v := 0) hx hb dX8_figure_61 rfl ?_
          have e9 : v_X8_figure x1 i_length i_at i_faultAt f_text = (0, i_at, o_58) := by
            refine (if_pos c_6).trans ?_
            refine (if_neg c_17).trans ?_
            refine (bnd_eq ho_43).trans ?_
            refine (if_neg c_46).trans ?_
            refine (if_pos c_54).trans ?_
            refine (bnd_eq ho_58).trans ?_
            rfl
          rw [hQ]; exact retI (0, i_at, o_58) hx hb hr hlk e9 hP rfl hS dX8_figure_62
theorem fig_cases {x l a fa r b fb : Int32} {f : Nat → Int32} (ho : (r, b, fb) = v_X8_figure x l a fa f) : (fa = -9 ∧ ¬ l ≤ a ∧ v_X8_in (((f a.toNatClampNeg) - 48).toInt64) 0 9 = true ∧ ¬ ((x >>> (((f a.toNatClampNeg) - 48) &&& 31)) &&& 1) = 0 ∧ r = ((f a.toNatClampNeg) - 48) ∧ b = a + 1 ∧ fb = fa) ∨ (¬ (fa = -9 ∧ ¬ l ≤ a ∧ v_X8_in (((f a.toNatClampNeg) - 48).toInt64) 0 9 = true ∧ ¬ ((x >>> (((f a.toNatClampNeg) - 48) &&& 31)) &&& 1) = 0) ∧ r = 0 ∧ b = a ∧ fb = v_X8_fail a fa) := by
  have hm : v_X8_in (-1) 0 9 = false := rfl
  have out : ∀ q1 q2 q3 : Int32, v_X8_figure x l a fa f = (q1, q2, q3) → r = q1 ∧ b = q2 ∧ fb = q3 := by
    intro q1 q2 q3 e
    rw [e] at ho
    cases ho
    exact ⟨rfl, rfl, rfl⟩
  by_cases h1 : fa = -9
  · by_cases h2 : l ≤ a
    · refine Or.inr ⟨fun h => h.2.1 h2, out _ _ _ ?_⟩
      refine (if_pos h1).trans ((if_pos h2).trans ?_)
      rw [hm]
      first | rfl | (refine (if_pos (show bI false = 0 from rfl)).trans ?_; rfl)
    · cases h3 : v_X8_in (((f a.toNatClampNeg) - 48).toInt64) 0 9 with
      | false =>
        refine Or.inr ⟨fun h => (by simp at h), out _ _ _ ?_⟩
        refine (if_pos h1).trans ((if_neg h2).trans ?_)
        rw [h3]
        first | rfl | (refine (if_pos (show bI false = 0 from rfl)).trans ?_; rfl)
      | true =>
        by_cases h4 : ((x >>> (((f a.toNatClampNeg) - 48) &&& 31)) &&& 1) = 0
        · refine Or.inr ⟨fun h => h.2.2.2 h4, out _ _ _ ?_⟩
          refine (if_pos h1).trans ((if_neg h2).trans ?_)
          rw [h3]
          first | exact if_pos h4 | exact (if_neg (show ¬ bI true = 0 by decide)).trans (if_pos h4)
        · refine Or.inl ⟨h1, h2, rfl, h4, out _ _ _ ?_⟩
          refine (if_pos h1).trans ((if_neg h2).trans ?_)
          rw [h3]
          first | exact if_neg h4 | exact (if_neg (show ¬ bI true = 0 by decide)).trans (if_neg h4)
  · refine Or.inr ⟨fun h => h1 h.1, out _ _ _ ?_⟩
    refine (if_neg h1).trans ?_
    rw [hm]
    first | rfl | (refine (if_pos (show bI false = 0 from rfl)).trans ?_; rfl)
theorem vin_s {a l : Int32} (h : vp_in a 73) (hl : vp_in l 73) (hal : ¬ l ≤ a) : vp_in (a + 1) 73 := by
  obtain ⟨j, hj, rfl⟩ := vin_j h (by decide)
  obtain ⟨k, hk, rfl⟩ := vin_j hl (by decide)
  rw [nI_leI (by omega) (by omega)] at hal
  rw [nI_1]; exact vp_in_nI (by omega) (by decide)
theorem vin_c {x : Int32} {N : Nat} (h : vp_in x N) : x.toNatClampNeg < N := by
  have := vp_in_iff.mp h
  unfold Int32.toNatClampNeg; omega
theorem vin_cs {x : Int32} (h : vp_in x 73) : (x + 1).toNatClampNeg = x.toNatClampNeg + 1 := by
  obtain ⟨j, hj, rfl⟩ := vin_j h (by decide)
  rw [nI_1, nI_clamp (by omega), nI_clamp (by omega)]
theorem fig_at {x l a fa r b fb : Int32} {f : Nat → Int32} (h : vp_in a 73) (hl : vp_in l 73) (ho : (r, b, fb) = v_X8_figure x l a fa f) : vp_in b 73 := by
  rcases fig_cases ho with ⟨_, h2, _, _, _, e, _⟩ | ⟨_, _, e, _⟩
  · rw [e]; exact vin_s h hl h2
  · rw [e]; exact h
theorem fig_mono {x l a fa r b fb : Int32} {f : Nat → Int32} (h : vp_in a 73) (ho : (r, b, fb) = v_X8_figure x l a fa f) : a.toNatClampNeg ≤ b.toNatClampNeg := by
  rcases fig_cases ho with ⟨_, h2, _, _, _, e, _⟩ | ⟨_, _, e, _⟩
  · rw [e, vin_cs h]; omega
  · rw [e]; exact Nat.le_refl _
theorem fail_no {a fa : Int32} (h : vp_in a 73) : ¬ v_X8_fail a fa = -9 := by
  unfold v_X8_fail
  split
  · intro q; rw [q] at h; exact h (Or.inl (by decide))
  · assumption
theorem fig_ok {x l a fa r b fb : Int32} {f : Nat → Int32} (h : vp_in a 73) (ho : (r, b, fb) = v_X8_figure x l a fa f) (hf : fb = -9) : fa = -9 := by
  rcases fig_cases ho with ⟨h1, _⟩ | ⟨_, _, _, e⟩
  · exact h1
  · rw [e] at hf; exact absurd hf (fail_no h)
theorem fig_dig {x l a fa r b fb : Int32} {f : Nat → Int32} (h : vp_in a 73) (ho : (r, b, fb) = v_X8_figure x l a fa f) (hf : fb = -9) : ∃ j : Nat, j ≤ 9 ∧ r = nI j ∧ ¬ ((x >>> (nI j &&& 31)) &&& 1) = 0 := by
  rcases fig_cases ho with ⟨_, _, h3, h4, e, _⟩ | ⟨_, _, _, e⟩
  · obtain ⟨j, _, hj, ej⟩ := in32 (a := 0) (b := 9) (by decide) (by decide) h3.symm (by decide)
    rw [ej] at h4
    exact ⟨j, hj, by rw [e]; exact ej, h4⟩
  · rw [e] at hf; exact absurd hf (fail_no h)
def v_X8_two (x1 : Int32) (i_length : Int32) (i_at : Int32) (i_faultAt : Int32) (f_text : Nat → Int32) : Int32 × Int32 × Int32 :=
  if (x1 &&& 1023) = 0 then (if (x1 >>> ((10 : Int32) &&& 31)) = 0 then (bnd3 (v_X8_figure (0 ||| 0) i_length i_at i_faultAt f_text) fun o_27_1 o_27_2 o_27_3 =>
      (if o_27_1 = 0 then (bnd3 (v_X8_figure (x1 &&& 1023) i_length o_27_2 o_27_3 f_text) fun o_52_1 o_52_2 o_52_3 =>
        (((10 * o_27_1) + o_52_1), o_52_2, o_52_3))
      else (bnd3 (v_X8_figure (x1 >>> ((10 : Int32) &&& 31)) i_length o_27_2 o_27_3 f_text) fun o_52_1 o_52_2 o_52_3 =>
      (((10 * o_27_1) + o_52_1), o_52_2, o_52_3))))
    else (bnd3 (v_X8_figure (0 ||| 2) i_length i_at i_faultAt f_text) fun o_27_1 o_27_2 o_27_3 =>
    (if o_27_1 = 0 then (bnd3 (v_X8_figure (x1 &&& 1023) i_length o_27_2 o_27_3 f_text) fun o_52_1 o_52_2 o_52_3 =>
      (((10 * o_27_1) + o_52_1), o_52_2, o_52_3))
    else (bnd3 (v_X8_figure (x1 >>> ((10 : Int32) &&& 31)) i_length o_27_2 o_27_3 f_text) fun o_52_1 o_52_2 o_52_3 =>
    (((10 * o_27_1) + o_52_1), o_52_2, o_52_3)))))
  else (if (x1 >>> ((10 : Int32) &&& 31)) = 0 then (bnd3 (v_X8_figure (1 ||| 0) i_length i_at i_faultAt f_text) fun o_27_1 o_27_2 o_27_3 =>
    (if o_27_1 = 0 then (bnd3 (v_X8_figure (x1 &&& 1023) i_length o_27_2 o_27_3 f_text) fun o_52_1 o_52_2 o_52_3 =>
      (((10 * o_27_1) + o_52_1), o_52_2, o_52_3))
    else (bnd3 (v_X8_figure (x1 >>> ((10 : Int32) &&& 31)) i_length o_27_2 o_27_3 f_text) fun o_52_1 o_52_2 o_52_3 =>
    (((10 * o_27_1) + o_52_1), o_52_2, o_52_3))))
  else (bnd3 (v_X8_figure (1 ||| 2) i_length i_at i_faultAt f_text) fun o_27_1 o_27_2 o_27_3 =>
  (if o_27_1 = 0 then (bnd3 (v_X8_figure (x1 &&& 1023) i_length o_27_2 o_27_3 f_text) fun o_52_1 o_52_2 o_52_3 =>
    (((10 * o_27_1) + o_52_1), o_52_2, o_52_3))
  else (bnd3 (v_X8_figure (x1 >>> ((10 : Int32) &&& 31)) i_length o_27_2 o_27_3 f_text) fun o_52_1 o_52_2 o_52_3 =>
  (((10 * o_27_1) + o_52_1), o_52_2, o_52_3)))))
abbrev rm_X8_two : Room := { frames := 2, cells := 0, slots := 0, locals := 47 }
set_option maxHeartbeats 4000000 in
set_option maxRecDepth 100000 in
theorem k_X8_two (l : Launch) (D : va_G) (cI cZ : ClassId) (a a_readWishes a_readOwed a_told a_owed a_text a_row a_least a_values a_tellPlace a_tellHour a_tellDark a_isKept a_kept : Nat) (x1 : Int32) (i_readHung : Int32) (i_readMany : Int32) (i_readOwes : Int32) (i_wishes : Int32) (i_hung : Int32) (i_hour : Int32) (i_length : Int32) (i_at : Int32) (i_faultAt : Int32) (i_acts : Int32) (i_next : Int32) (i_tells : Int32) (j_seed : Int64) (f_text : Nat → Int32) (hat : vp_in i_at 73) (hl0 : vp_in i_length 73) : KI l D cI cZ yX8_two wsX8_two rm_X8_two [.ref a, .int x1] [(a, .inr (8, [.ref a_readWishes, .ref a_readOwed, .int i_readHung, .int i_readMany, .int i_readOwes, .ref a_told, .ref a_owed, .int i_wishes, .int i_hung, .int i_hour, .ref a_text, .int i_length, .int i_at, .int i_faultAt, .int i_acts, .int i_next, .ref a_row, .ref a_least, .ref a_values, .int i_tells, .ref a_tellPlace, .ref a_tellHour, .ref a_tellDark, .long j_seed, .ref a_isKept, .ref a_kept])), (a_text, .inl (cI, 72, .inl f_text))] (v_X8_two x1 i_length i_at i_faultAt f_text) (fun o : Int32 × Int32 × Int32 => o.1) (fun o : Int32 × Int32 × Int32 => [(a, .inr (8, [.ref a_readWishes, .ref a_readOwed, .int i_readHung, .int i_readMany, .int i_readOwes, .ref a_told, .ref a_owed, .int i_wishes, .int i_hung, .int i_hour, .ref a_text, .int i_length, .int o.2.1, .int o.2.2, .int i_acts, .int i_next, .ref a_row, .ref a_least, .ref a_values, .int i_tells, .ref a_tellPlace, .ref a_tellHour, .ref a_tellDark, .long j_seed, .ref a_isKept, .ref a_kept])), (a_text, .inl (cI, 72, .inl f_text))]) := by
  refine KI.of cX8_two 3 (some .int) (by decide) rfl (Nat.le_of_ble_eq_true rfl) ?_
  intro p e s m below meth c A ls ar Q hQ B
  obtain ⟨hx, hb, hr, hml, hts, hown, hlk, hK, hN, hP, hD, hA, hS, hl⟩ := B
  have hown : s.vm.findClass RX8 = some m.cls := hown
  have hF : CallFix p m c cX8_two 3 s ar wsX8_two RX8 := ⟨hx, hb, hml, hown, hts⟩
  have hl : lv_has ls 3 [(0, .ref a), (1, .int x1)] := hl
  refine lv_aload_n hx hb dX8_two_0 rfl (lv_at hl 0 rfl) ?_
  refine lv_iload_n hx hb dX8_two_1 rfl (lv_at hl 1 rfl) ?_
  refine lv_sipush (v := 1023) hx hb dX8_two_2 rfl ?_
  refine lv_iand hx hb dX8_two_5 ?_
  refine lv_if_eq (tgt := 13) hx hb dX8_two_6 (by decide) (fun c_6 => ?_) (fun c_6 => ?_)
  · refine lv_iconst (v := 0) hx hb dX8_two_13 rfl ?_
    refine lv_iload_n hx hb dX8_two_14 rfl (lv_at hl 1 rfl) ?_
    refine lv_bipush (v := 10) hx hb dX8_two_15 rfl ?_
    refine lv_ishr hx hb dX8_two_17 ?_
    refine lv_if_eq (tgt := 25) hx hb dX8_two_18 (by decide) (fun c_18 => ?_) (fun c_18 => ?_)
    · refine lv_iconst (v := 0) hx hb dX8_two_25 rfl ?_
      refine lv_ior hx hb dX8_two_26 ?_
      obtain ⟨o_27_1, o_27_2, o_27_3, ho_27⟩ : ∃ o_27_1 o_27_2 o_27_3, (o_27_1, o_27_2, o_27_3) = v_X8_figure (0 ||| 0) i_length i_at i_faultAt f_text := ⟨_, _, _, rfl⟩
      refine callVI (As := [.int (0 ||| 0)]) (rest := []) (o_27_1, o_27_2, o_27_3) ho_27 hF (k_X8_figure l D cI cZ a a_readWishes a_readOwed a_told a_owed a_text a_row a_least a_values a_tellPlace a_tellHour a_tellDark a_isKept a_kept (0 ||| 0) i_readHung i_readMany i_readOwes i_wishes i_hung i_hour i_length i_at i_faultAt i_acts i_next i_tells j_seed f_text (hat) (hl0)) (cwV 1 hts gX8_two_X8_figure rfl rfl rfl (by decide +kernel) ⟨Nat.le_of_ble_eq_true rfl, Nat.le_of_ble_eq_true rfl⟩) hK hN hP (va_Dsame hD rfl) hS hA [0, 1] rfl rfl 0 8 (T := TX8) (N := 26) rfl rfl rfl hl.1 rfl (Nat.le_of_ble_eq_true rfl) dX8_two_27 ⟨Nat.zero_le _, Nat.zero_le _⟩ o_27_1 rfl [some 0, some 1] 2 [(a, .inr (8, [.ref a_readWishes, .ref a_readOwed, .int i_readHung, .int i_readMany, .int i_readOwes, .ref a_told, .ref a_owed, .int i_wishes, .int i_hung, .int i_hour, .ref a_text, .int i_length, .int o_27_2, .int o_27_3, .int i_acts, .int i_next, .ref a_row, .ref a_least, .ref a_values, .int i_tells, .ref a_tellPlace, .ref a_tellHour, .ref a_tellDark, .long j_seed, .ref a_isKept, .ref a_kept])), (a_text, .inl (cI, 72, .inl f_text))] rfl rfl (by decide) (fun H locs hP hS => ?_)
      refine lv_istore_n (lv' := [(2, .int o_27_1), (0, .ref a), (1, .int x1)]) hx hb dX8_two_30 rfl hl (by decide) rfl (fun ls hl => ?_)
      refine lv_bipush (v := 10) hx hb dX8_two_31 rfl ?_
      refine lv_iload_n hx hb dX8_two_33 rfl (lv_at hl 0 rfl) ?_
      refine lv_imul hx hb dX8_two_34 ?_
      refine lv_aload_n hx hb dX8_two_35 rfl (lv_at hl 1 rfl) ?_
      refine lv_iload_n hx hb dX8_two_36 rfl (lv_at hl 0 rfl) ?_
      refine lv_if_ne (tgt := 48) hx hb dX8_two_37 (by decide) (fun c_37 => ?_) (fun c_37 => ?_)
      · refine lv_iload_n hx hb dX8_two_48 rfl (lv_at hl 2 rfl) ?_
        refine lv_bipush (v := 10) hx hb dX8_two_49 rfl ?_
        refine lv_ishr hx hb dX8_two_51 ?_
        obtain ⟨o_52_1, o_52_2, o_52_3, ho_52⟩ : ∃ o_52_1 o_52_2 o_52_3, (o_52_1, o_52_2, o_52_3) = v_X8_figure (x1 >>> ((10 : Int32) &&& 31)) i_length o_27_2 o_27_3 f_text := ⟨_, _, _, rfl⟩
        refine callVI (As := [.int (x1 >>> ((10 : Int32) &&& 31))]) (rest := [.int (10 * o_27_1)]) (o_52_1, o_52_2, o_52_3) ho_52 hF (k_X8_figure l D cI cZ a a_readWishes a_readOwed a_told a_owed a_text a_row a_least a_values a_tellPlace a_tellHour a_tellDark a_isKept a_kept (x1 >>> ((10 : Int32) &&& 31)) i_readHung i_readMany i_readOwes i_wishes i_hung i_hour i_length o_27_2 o_27_3 i_acts i_next i_tells j_seed f_text (fig_at hat hl0 ho_27) (hl0)) (cwV 1 hts gX8_two_X8_figure rfl rfl rfl (by decide +kernel) ⟨Nat.le_of_ble_eq_true rfl, Nat.le_of_ble_eq_true rfl⟩) hK hN hP (va_Dsame hD rfl) hS hA [0, 1] rfl rfl 0 8 (T := TX8) (N := 26) rfl rfl rfl hl.1 rfl (Nat.le_of_ble_eq_true rfl) dX8_two_52 ⟨Nat.zero_le _, Nat.zero_le _⟩ o_52_1 rfl [some 0, some 1] 2 [(a, .inr (8, [.ref a_readWishes, .ref a_readOwed, .int i_readHung, .int i_readMany, .int i_readOwes, .ref a_told, .ref a_owed, .int i_wishes, .int i_hung, .int i_hour, .ref a_text, .int i_length, .int o_52_2, .int o_52_3, .int i_acts, .int i_next, .ref a_row, .ref a_least, .ref a_values, .int i_tells, .ref a_tellPlace, .ref a_tellHour, .ref a_tellDark, .long j_seed, .ref a_isKept, .ref a_kept])), (a_text, .inl (cI, 72, .inl f_text))] rfl rfl (by decide) (fun H locs hP hS => ?_)
        refine lv_iadd hx hb dX8_two_55 ?_
        have e9 : v_X8_two x1 i_length i_at i_faultAt f_text = (((10 * o_27_1) + o_52_1), o_52_2, o_52_3) := by
          refine (if_pos c_6).trans ?_
          refine (if_pos c_18).trans ?_
          refine (bnd3_eq ho_27).trans ?_
          refine (if_neg c_37).trans ?_
          refine (bnd3_eq ho_52).trans ?_
          rfl
        rw [hQ]; exact retI (((10 * o_27_1) + o_52_1), o_52_2, o_52_3) hx hb hr hlk e9 hP rfl hS dX8_two_56
      · refine lv_iload_n hx hb dX8_two_40 rfl (lv_at hl 2 rfl) ?_
        refine lv_sipush (v := 1023) hx hb dX8_two_41 rfl ?_
        refine lv_iand hx hb dX8_two_44 ?_
        refine lv_goto (tgt := 52) hx hb dX8_two_45 (by decide) ?_
        obtain ⟨o_52_1, o_52_2, o_52_3, ho_52⟩ : ∃ o_52_1 o_52_2 o_52_3, (o_52_1, o_52_2, o_52_3) = v_X8_figure (x1 &&& 1023) i_length o_27_2 o_27_3 f_text := ⟨_, _, _, rfl⟩
        refine callVI (As := [.int (x1 &&& 1023)]) (rest := [.int (10 * o_27_1)]) (o_52_1, o_52_2, o_52_3) ho_52 hF (k_X8_figure l D cI cZ a a_readWishes a_readOwed a_told a_owed a_text a_row a_least a_values a_tellPlace a_tellHour a_tellDark a_isKept a_kept (x1 &&& 1023) i_readHung i_readMany i_readOwes i_wishes i_hung i_hour i_length o_27_2 o_27_3 i_acts i_next i_tells j_seed f_text (fig_at hat hl0 ho_27) (hl0)) (cwV 1 hts gX8_two_X8_figure rfl rfl rfl (by decide +kernel) ⟨Nat.le_of_ble_eq_true rfl, Nat.le_of_ble_eq_true rfl⟩) hK hN hP (va_Dsame hD rfl) hS hA [0, 1] rfl rfl 0 8 (T := TX8) (N := 26) rfl rfl rfl hl.1 rfl (Nat.le_of_ble_eq_true rfl) dX8_two_52 ⟨Nat.zero_le _, Nat.zero_le _⟩ o_52_1 rfl [some 0, some 1] 2 [(a, .inr (8, [.ref a_readWishes, .ref a_readOwed, .int i_readHung, .int i_readMany, .int i_readOwes, .ref a_told, .ref a_owed, .int i_wishes, .int i_hung, .int i_hour, .ref a_text, .int i_length, .int o_52_2, .int o_52_3, .int i_acts, .int i_next, .ref a_row, .ref a_least, .ref a_values, .int i_tells, .ref a_tellPlace, .ref a_tellHour, .ref a_tellDark, .long j_seed, .ref a_isKept, .ref a_kept])), (a_text, .inl (cI, 72, .inl f_text))] rfl rfl (by decide) (fun H locs hP hS => ?_)
        refine lv_iadd hx hb dX8_two_55 ?_
        have e9 : v_X8_two x1 i_length i_at i_faultAt f_text = (((10 * o_27_1) + o_52_1), o_52_2, o_52_3) := by
          refine (if_pos c_6).trans ?_
          refine (if_pos c_18).trans ?_
          refine (bnd3_eq ho_27).trans ?_
          refine (if_pos c_37).trans ?_
          refine (bnd3_eq ho_52).trans ?_
          rfl
        rw [hQ]; exact retI (((10 * o_27_1) + o_52_1), o_52_2, o_52_3) hx hb hr hlk e9 hP rfl hS dX8_two_56
    · refine lv_iconst (v := 2) hx hb dX8_two_21 rfl ?_
      refine lv_goto (tgt := 26) hx hb dX8_two_22 (by decide) ?_
      refine lv_ior hx hb dX8_two_26 ?_
      obtain ⟨o_27_1, o_27_2, o_27_3, ho_27⟩ : ∃ o_27_1 o_27_2 o_27_3, (o_27_1, o_27_2, o_27_3) = v_X8_figure (0 ||| 2) i_length i_at i_faultAt f_text := ⟨_, _, _, rfl⟩
      refine callVI (As := [.int (0 ||| 2)]) (rest := []) (o_27_1, o_27_2, o_27_3) ho_27 hF (k_X8_figure l D cI cZ a a_readWishes a_readOwed a_told a_owed a_text a_row a_least a_values a_tellPlace a_tellHour a_tellDark a_isKept a_kept (0 ||| 2) i_readHung i_readMany i_readOwes i_wishes i_hung i_hour i_length i_at i_faultAt i_acts i_next i_tells j_seed f_text (hat) (hl0)) (cwV 1 hts gX8_two_X8_figure rfl rfl rfl (by decide +kernel) ⟨Nat.le_of_ble_eq_true rfl, Nat.le_of_ble_eq_true rfl⟩) hK hN hP (va_Dsame hD rfl) hS hA [0, 1] rfl rfl 0 8 (T := TX8) (N := 26) rfl rfl rfl hl.1 rfl (Nat.le_of_ble_eq_true rfl) dX8_two_27 ⟨Nat.zero_le _, Nat.zero_le _⟩ o_27_1 rfl [some 0, some 1] 2 [(a, .inr (8, [.ref a_readWishes, .ref a_readOwed, .int i_readHung, .int i_readMany, .int i_readOwes, .ref a_told, .ref a_owed, .int i_wishes, .int i_hung, .int i_hour, .ref a_text, .int i_length, .int o_27_2, .int o_27_3, .int i_acts, .int i_next, .ref a_row, .ref a_least, .ref a_values, .int i_tells, .ref a_tellPlace, .ref a_tellHour, .ref a_tellDark, .long j_seed, .ref a_isKept, .ref a_kept])), (a_text, .inl (cI, 72, .inl f_text))] rfl rfl (by decide) (fun H locs hP hS => ?_)
      refine lv_istore_n (lv' := [(2, .int o_27_1), (0, .ref a), (1, .int x1)]) hx hb dX8_two_30 rfl hl (by decide) rfl (fun ls hl => ?_)
      refine lv_bipush (v := 10) hx hb dX8_two_31 rfl ?_
      refine lv_iload_n hx hb dX8_two_33 rfl (lv_at hl 0 rfl) ?_
      refine lv_imul hx hb dX8_two_34 ?_
      refine lv_aload_n hx hb dX8_two_35 rfl (lv_at hl 1 rfl) ?_
      refine lv_iload_n hx hb dX8_two_36 rfl (lv_at hl 0 rfl) ?_
      refine lv_if_ne (tgt := 48) hx hb dX8_two_37 (by decide) (fun c_37 => ?_) (fun c_37 => ?_)
      · refine lv_iload_n hx hb dX8_two_48 rfl (lv_at hl 2 rfl) ?_
        refine lv_bipush (v := 10) hx hb dX8_two_49 rfl ?_
        refine lv_ishr hx hb dX8_two_51 ?_
        obtain ⟨o_52_1, o_52_2, o_52_3, ho_52⟩ : ∃ o_52_1 o_52_2 o_52_3, (o_52_1, o_52_2, o_52_3) = v_X8_figure (x1 >>> ((10 : Int32) &&& 31)) i_length o_27_2 o_27_3 f_text := ⟨_, _, _, rfl⟩
        refine callVI (As := [.int (x1 >>> ((10 : Int32) &&& 31))]) (rest := [.int (10 * o_27_1)]) (o_52_1, o_52_2, o_52_3) ho_52 hF (k_X8_figure l D cI cZ a a_readWishes a_readOwed a_told a_owed a_text a_row a_least a_values a_tellPlace a_tellHour a_tellDark a_isKept a_kept (x1 >>> ((10 : Int32) &&& 31)) i_readHung i_readMany i_readOwes i_wishes i_hung i_hour i_length o_27_2 o_27_3 i_acts i_next i_tells j_seed f_text (fig_at hat hl0 ho_27) (hl0)) (cwV 1 hts gX8_two_X8_figure rfl rfl rfl (by decide +kernel) ⟨Nat.le_of_ble_eq_true rfl, Nat.le_of_ble_eq_true rfl⟩) hK hN hP (va_Dsame hD rfl) hS hA [0, 1] rfl rfl 0 8 (T := TX8) (N := 26) rfl rfl rfl hl.1 rfl (Nat.le_of_ble_eq_true rfl) dX8_two_52 ⟨Nat.zero_le _, Nat.zero_le _⟩ o_52_1 rfl [some 0, some 1] 2 [(a, .inr (8, [.ref a_readWishes, .ref a_readOwed, .int i_readHung, .int i_readMany, .int i_readOwes, .ref a_told, .ref a_owed, .int i_wishes, .int i_hung, .int i_hour, .ref a_text, .int i_length, .int o_52_2, .int o_52_3, .int i_acts, .int i_next, .ref a_row, .ref a_least, .ref a_values, .int i_tells, .ref a_tellPlace, .ref a_tellHour, .ref a_tellDark, .long j_seed, .ref a_isKept, .ref a_kept])), (a_text, .inl (cI, 72, .inl f_text))] rfl rfl (by decide) (fun H locs hP hS => ?_)
        refine lv_iadd hx hb dX8_two_55 ?_
        have e9 : v_X8_two x1 i_length i_at i_faultAt f_text = (((10 * o_27_1) + o_52_1), o_52_2, o_52_3) := by
          refine (if_pos c_6).trans ?_
          refine (if_neg c_18).trans ?_
          refine (bnd3_eq ho_27).trans ?_
          refine (if_neg c_37).trans ?_
          refine (bnd3_eq ho_52).trans ?_
          rfl
        rw [hQ]; exact retI (((10 * o_27_1) + o_52_1), o_52_2, o_52_3) hx hb hr hlk e9 hP rfl hS dX8_two_56
      · refine lv_iload_n hx hb dX8_two_40 rfl (lv_at hl 2 rfl) ?_
        refine lv_sipush (v := 1023) hx hb dX8_two_41 rfl ?_
        refine lv_iand hx hb dX8_two_44 ?_
        refine lv_goto (tgt := 52) hx hb dX8_two_45 (by decide) ?_
        obtain ⟨o_52_1, o_52_2, o_52_3, ho_52⟩ : ∃ o_52_1 o_52_2 o_52_3, (o_52_1, o_52_2, o_52_3) = v_X8_figure (x1 &&& 1023) i_length o_27_2 o_27_3 f_text := ⟨_, _, _, rfl⟩
        refine callVI (As := [.int (x1 &&& 1023)]) (rest := [.int (10 * o_27_1)]) (o_52_1, o_52_2, o_52_3) ho_52 hF (k_X8_figure l D cI cZ a a_readWishes a_readOwed a_told a_owed a_text a_row a_least a_values a_tellPlace a_tellHour a_tellDark a_isKept a_kept (x1 &&& 1023) i_readHung i_readMany i_readOwes i_wishes i_hung i_hour i_length o_27_2 o_27_3 i_acts i_next i_tells j_seed f_text (fig_at hat hl0 ho_27) (hl0)) (cwV 1 hts gX8_two_X8_figure rfl rfl rfl (by decide +kernel) ⟨Nat.le_of_ble_eq_true rfl, Nat.le_of_ble_eq_true rfl⟩) hK hN hP (va_Dsame hD rfl) hS hA [0, 1] rfl rfl 0 8 (T := TX8) (N := 26) rfl rfl rfl hl.1 rfl (Nat.le_of_ble_eq_true rfl) dX8_two_52 ⟨Nat.zero_le _, Nat.zero_le _⟩ o_52_1 rfl [some 0, some 1] 2 [(a, .inr (8, [.ref a_readWishes, .ref a_readOwed, .int i_readHung, .int i_readMany, .int i_readOwes, .ref a_told, .ref a_owed, .int i_wishes, .int i_hung, .int i_hour, .ref a_text, .int i_length, .int o_52_2, .int o_52_3, .int i_acts, .int i_next, .ref a_row, .ref a_least, .ref a_values, .int i_tells, .ref a_tellPlace, .ref a_tellHour, .ref a_tellDark, .long j_seed, .ref a_isKept, .ref a_kept])), (a_text, .inl (cI, 72, .inl f_text))] rfl rfl (by decide) (fun H locs hP hS => ?_)
        refine lv_iadd hx hb dX8_two_55 ?_
        have e9 : v_X8_two x1 i_length i_at i_faultAt f_text = (((10 * o_27_1) + o_52_1), o_52_2, o_52_3) := by
          refine (if_pos c_6).trans ?_
          refine (if_neg c_18).trans ?_
          refine (bnd3_eq ho_27).trans ?_
          refine (if_pos c_37).trans ?_
          refine (bnd3_eq ho_52).trans ?_
          rfl
        rw [hQ]; exact retI (((10 * o_27_1) + o_52_1), o_52_2, o_52_3) hx hb hr hlk e9 hP rfl hS dX8_two_56
  · refine lv_iconst (v := 1) hx hb dX8_two_9 rfl ?_
    refine lv_goto (tgt := 14) hx hb dX8_two_10 (by decide) ?_
    refine lv_iload_n hx hb dX8_two_14 rfl (lv_at hl 1 rfl) ?_
    refine lv_bipush (v := 10) hx hb dX8_two_15 rfl ?_
    refine lv_ishr hx hb dX8_two_17 ?_
    refine lv_if_eq (tgt := 25) hx hb dX8_two_18 (by decide) (fun c_18 => ?_) (fun c_18 => ?_)
    · refine lv_iconst (v := 0) hx hb dX8_two_25 rfl ?_
      refine lv_ior hx hb dX8_two_26 ?_
      obtain ⟨o_27_1, o_27_2, o_27_3, ho_27⟩ : ∃ o_27_1 o_27_2 o_27_3, (o_27_1, o_27_2, o_27_3) = v_X8_figure (1 ||| 0) i_length i_at i_faultAt f_text := ⟨_, _, _, rfl⟩
      refine callVI (As := [.int (1 ||| 0)]) (rest := []) (o_27_1, o_27_2, o_27_3) ho_27 hF (k_X8_figure l D cI cZ a a_readWishes a_readOwed a_told a_owed a_text a_row a_least a_values a_tellPlace a_tellHour a_tellDark a_isKept a_kept (1 ||| 0) i_readHung i_readMany i_readOwes i_wishes i_hung i_hour i_length i_at i_faultAt i_acts i_next i_tells j_seed f_text (hat) (hl0)) (cwV 1 hts gX8_two_X8_figure rfl rfl rfl (by decide +kernel) ⟨Nat.le_of_ble_eq_true rfl, Nat.le_of_ble_eq_true rfl⟩) hK hN hP (va_Dsame hD rfl) hS hA [0, 1] rfl rfl 0 8 (T := TX8) (N := 26) rfl rfl rfl hl.1 rfl (Nat.le_of_ble_eq_true rfl) dX8_two_27 ⟨Nat.zero_le _, Nat.zero_le _⟩ o_27_1 rfl [some 0, some 1] 2 [(a, .inr (8, [.ref a_readWishes, .ref a_readOwed, .int i_readHung, .int i_readMany, .int i_readOwes, .ref a_told, .ref a_owed, .int i_wishes, .int i_hung, .int i_hour, .ref a_text, .int i_length, .int o_27_2, .int o_27_3, .int i_acts, .int i_next, .ref a_row, .ref a_least, .ref a_values, .int i_tells, .ref a_tellPlace, .ref a_tellHour, .ref a_tellDark, .long j_seed, .ref a_isKept, .ref a_kept])), (a_text, .inl (cI, 72, .inl f_text))] rfl rfl (by decide) (fun H locs hP hS => ?_)
      refine lv_istore_n (lv' := [(2, .int o_27_1), (0, .ref a), (1, .int x1)]) hx hb dX8_two_30 rfl hl (by decide) rfl (fun ls hl => ?_)
      refine lv_bipush (v := 10) hx hb dX8_two_31 rfl ?_
      refine lv_iload_n hx hb dX8_two_33 rfl (lv_at hl 0 rfl) ?_
      refine lv_imul hx hb dX8_two_34 ?_
      refine lv_aload_n hx hb dX8_two_35 rfl (lv_at hl 1 rfl) ?_
      refine lv_iload_n hx hb dX8_two_36 rfl (lv_at hl 0 rfl) ?_
      refine lv_if_ne (tgt := 48) hx hb dX8_two_37 (by decide) (fun c_37 => ?_) (fun c_37 => ?_)
      · refine lv_iload_n hx hb dX8_two_48 rfl (lv_at hl 2 rfl) ?_
        refine lv_bipush (v := 10) hx hb dX8_two_49 rfl ?_
        refine lv_ishr hx hb dX8_two_51 ?_
        obtain ⟨o_52_1, o_52_2, o_52_3, ho_52⟩ : ∃ o_52_1 o_52_2 o_52_3, (o_52_1, o_52_2, o_52_3) = v_X8_figure (x1 >>> ((10 : Int32) &&& 31)) i_length o_27_2 o_27_3 f_text := ⟨_, _, _, rfl⟩
        refine callVI (As := [.int (x1 >>> ((10 : Int32) &&& 31))]) (rest := [.int (10 * o_27_1)]) (o_52_1, o_52_2, o_52_3) ho_52 hF (k_X8_figure l D cI cZ a a_readWishes a_readOwed a_told a_owed a_text a_row a_least a_values a_tellPlace a_tellHour a_tellDark a_isKept a_kept (x1 >>> ((10 : Int32) &&& 31)) i_readHung i_readMany i_readOwes i_wishes i_hung i_hour i_length o_27_2 o_27_3 i_acts i_next i_tells j_seed f_text (fig_at hat hl0 ho_27) (hl0)) (cwV 1 hts gX8_two_X8_figure rfl rfl rfl (by decide +kernel) ⟨Nat.le_of_ble_eq_true rfl, Nat.le_of_ble_eq_true rfl⟩) hK hN hP (va_Dsame hD rfl) hS hA [0, 1] rfl rfl 0 8 (T := TX8) (N := 26) rfl rfl rfl hl.1 rfl (Nat.le_of_ble_eq_true rfl) dX8_two_52 ⟨Nat.zero_le _, Nat.zero_le _⟩ o_52_1 rfl [some 0, some 1] 2 [(a, .inr (8, [.ref a_readWishes, .ref a_readOwed, .int i_readHung, .int i_readMany, .int i_readOwes, .ref a_told, .ref a_owed, .int i_wishes, .int i_hung, .int i_hour, .ref a_text, .int i_length, .int o_52_2, .int o_52_3, .int i_acts, .int i_next, .ref a_row, .ref a_least, .ref a_values, .int i_tells, .ref a_tellPlace, .ref a_tellHour, .ref a_tellDark, .long j_seed, .ref a_isKept, .ref a_kept])), (a_text, .inl (cI, 72, .inl f_text))] rfl rfl (by decide) (fun H locs hP hS => ?_)
        refine lv_iadd hx hb dX8_two_55 ?_
        have e9 : v_X8_two x1 i_length i_at i_faultAt f_text = (((10 * o_27_1) + o_52_1), o_52_2, o_52_3) := by
          refine (if_neg c_6).trans ?_
          refine (if_pos c_18).trans ?_
          refine (bnd3_eq ho_27).trans ?_
          refine (if_neg c_37).trans ?_
          refine (bnd3_eq ho_52).trans ?_
          rfl
        rw [hQ]; exact retI (((10 * o_27_1) + o_52_1), o_52_2, o_52_3) hx hb hr hlk e9 hP rfl hS dX8_two_56
      · refine lv_iload_n hx hb dX8_two_40 rfl (lv_at hl 2 rfl) ?_
        refine lv_sipush (v := 1023) hx hb dX8_two_41 rfl ?_
        refine lv_iand hx hb dX8_two_44 ?_
        refine lv_goto (tgt := 52) hx hb dX8_two_45 (by decide) ?_
        obtain ⟨o_52_1, o_52_2, o_52_3, ho_52⟩ : ∃ o_52_1 o_52_2 o_52_3, (o_52_1, o_52_2, o_52_3) = v_X8_figure (x1 &&& 1023) i_length o_27_2 o_27_3 f_text := ⟨_, _, _, rfl⟩
        refine callVI (As := [.int (x1 &&& 1023)]) (rest := [.int (10 * o_27_1)]) (o_52_1, o_52_2, o_52_3) ho_52 hF (k_X8_figure l D cI cZ a a_readWishes a_readOwed a_told a_owed a_text a_row a_least a_values a_tellPlace a_tellHour a_tellDark a_isKept a_kept (x1 &&& 1023) i_readHung i_readMany i_readOwes i_wishes i_hung i_hour i_length o_27_2 o_27_3 i_acts i_next i_tells j_seed f_text (fig_at hat hl0 ho_27) (hl0)) (cwV 1 hts gX8_two_X8_figure rfl rfl rfl (by decide +kernel) ⟨Nat.le_of_ble_eq_true rfl, Nat.le_of_ble_eq_true rfl⟩) hK hN hP (va_Dsame hD rfl) hS hA [0, 1] rfl rfl 0 8 (T := TX8) (N := 26) rfl rfl rfl hl.1 rfl (Nat.le_of_ble_eq_true rfl) dX8_two_52 ⟨Nat.zero_le _, Nat.zero_le _⟩ o_52_1 rfl [some 0, some 1] 2 [(a, .inr (8, [.ref a_readWishes, .ref a_readOwed, .int i_readHung, .int i_readMany, .int i_readOwes, .ref a_told, .ref a_owed, .int i_wishes, .int i_hung, .int i_hour, .ref a_text, .int i_length, .int o_52_2, .int o_52_3, .int i_acts, .int i_next, .ref a_row, .ref a_least, .ref a_values, .int i_tells, .ref a_tellPlace, .ref a_tellHour, .ref a_tellDark, .long j_seed, .ref a_isKept, .ref a_kept])), (a_text, .inl (cI, 72, .inl f_text))] rfl rfl (by decide) (fun H locs hP hS => ?_)
        refine lv_iadd hx hb dX8_two_55 ?_
        have e9 : v_X8_two x1 i_length i_at i_faultAt f_text = (((10 * o_27_1) + o_52_1), o_52_2, o_52_3) := by
          refine (if_neg c_6).trans ?_
          refine (if_pos c_18).trans ?_
          refine (bnd3_eq ho_27).trans ?_
          refine (if_pos c_37).trans ?_
          refine (bnd3_eq ho_52).trans ?_
          rfl
        rw [hQ]; exact retI (((10 * o_27_1) + o_52_1), o_52_2, o_52_3) hx hb hr hlk e9 hP rfl hS dX8_two_56
    · refine lv_iconst (v := 2) hx hb dX8_two_21 rfl ?_
      refine lv_goto (tgt := 26) hx hb dX8_two_22 (by decide) ?_
      refine lv_ior hx hb dX8_two_26 ?_
      obtain ⟨o_27_1, o_27_2, o_27_3, ho_27⟩ : ∃ o_27_1 o_27_2 o_27_3, (o_27_1, o_27_2, o_27_3) = v_X8_figure (1 ||| 2) i_length i_at i_faultAt f_text := ⟨_, _, _, rfl⟩
      refine callVI (As := [.int (1 ||| 2)]) (rest := []) (o_27_1, o_27_2, o_27_3) ho_27 hF (k_X8_figure l D cI cZ a a_readWishes a_readOwed a_told a_owed a_text a_row a_least a_values a_tellPlace a_tellHour a_tellDark a_isKept a_kept (1 ||| 2) i_readHung i_readMany i_readOwes i_wishes i_hung i_hour i_length i_at i_faultAt i_acts i_next i_tells j_seed f_text (hat) (hl0)) (cwV 1 hts gX8_two_X8_figure rfl rfl rfl (by decide +kernel) ⟨Nat.le_of_ble_eq_true rfl, Nat.le_of_ble_eq_true rfl⟩) hK hN hP (va_Dsame hD rfl) hS hA [0, 1] rfl rfl 0 8 (T := TX8) (N := 26) rfl rfl rfl hl.1 rfl (Nat.le_of_ble_eq_true rfl) dX8_two_27 ⟨Nat.zero_le _, Nat.zero_le _⟩ o_27_1 rfl [some 0, some 1] 2 [(a, .inr (8, [.ref a_readWishes, .ref a_readOwed, .int i_readHung, .int i_readMany, .int i_readOwes, .ref a_told, .ref a_owed, .int i_wishes, .int i_hung, .int i_hour, .ref a_text, .int i_length, .int o_27_2, .int o_27_3, .int i_acts, .int i_next, .ref a_row, .ref a_least, .ref a_values, .int i_tells, .ref a_tellPlace, .ref a_tellHour, .ref a_tellDark, .long j_seed, .ref a_isKept, .ref a_kept])), (a_text, .inl (cI, 72, .inl f_text))] rfl rfl (by decide) (fun H locs hP hS => ?_)
      refine lv_istore_n (lv' := [(2, .int o_27_1), (0, .ref a), (1, .int x1)]) hx hb dX8_two_30 rfl hl (by decide) rfl (fun ls hl => ?_)
      refine lv_bipush (v := 10) hx hb dX8_two_31 rfl ?_
      refine lv_iload_n hx hb dX8_two_33 rfl (lv_at hl 0 rfl) ?_
      refine lv_imul hx hb dX8_two_34 ?_
      refine lv_aload_n hx hb dX8_two_35 rfl (lv_at hl 1 rfl) ?_
      refine lv_iload_n hx hb dX8_two_36 rfl (lv_at hl 0 rfl) ?_
      refine lv_if_ne (tgt := 48) hx hb dX8_two_37 (by decide) (fun c_37 => ?_) (fun c_37 => ?_)
      · refine lv_iload_n hx hb dX8_two_48 rfl (lv_at hl 2 rfl) ?_
        refine lv_bipush (v := 10) hx hb dX8_two_49 rfl ?_
        refine lv_ishr hx hb dX8_two_51 ?_
        obtain ⟨o_52_1, o_52_2, o_52_3, ho_52⟩ : ∃ o_52_1 o_52_2 o_52_3, (o_52_1, o_52_2, o_52_3) = v_X8_figure (x1 >>> ((10 : Int32) &&& 31)) i_length o_27_2 o_27_3 f_text := ⟨_, _, _, rfl⟩
        refine callVI (As := [.int (x1 >>> ((10 : Int32) &&& 31))]) (rest := [.int (10 * o_27_1)]) (o_52_1, o_52_2, o_52_3) ho_52 hF (k_X8_figure l D cI cZ a a_readWishes a_readOwed a_told a_owed a_text a_row a_least a_values a_tellPlace a_tellHour a_tellDark a_isKept a_kept (x1 >>> ((10 : Int32) &&& 31)) i_readHung i_readMany i_readOwes i_wishes i_hung i_hour i_length o_27_2 o_27_3 i_acts i_next i_tells j_seed f_text (fig_at hat hl0 ho_27) (hl0)) (cwV 1 hts gX8_two_X8_figure rfl rfl rfl (by decide +kernel) ⟨Nat.le_of_ble_eq_true rfl, Nat.le_of_ble_eq_true rfl⟩) hK hN hP (va_Dsame hD rfl) hS hA [0, 1] rfl rfl 0 8 (T := TX8) (N := 26) rfl rfl rfl hl.1 rfl (Nat.le_of_ble_eq_true rfl) dX8_two_52 ⟨Nat.zero_le _, Nat.zero_le _⟩ o_52_1 rfl [some 0, some 1] 2 [(a, .inr (8, [.ref a_readWishes, .ref a_readOwed, .int i_readHung, .int i_readMany, .int i_readOwes, .ref a_told, .ref a_owed, .int i_wishes, .int i_hung, .int i_hour, .ref a_text, .int i_length, .int o_52_2, .int o_52_3, .int i_acts, .int i_next, .ref a_row, .ref a_least, .ref a_values, .int i_tells, .ref a_tellPlace, .ref a_tellHour, .ref a_tellDark, .long j_seed, .ref a_isKept, .ref a_kept])), (a_text, .inl (cI, 72, .inl f_text))] rfl rfl (by decide) (fun H locs hP hS => ?_)
        refine lv_iadd hx hb dX8_two_55 ?_
        have e9 : v_X8_two x1 i_length i_at i_faultAt f_text = (((10 * o_27_1) + o_52_1), o_52_2, o_52_3) := by
          refine (if_neg c_6).trans ?_
          refine (if_neg c_18).trans ?_
          refine (bnd3_eq ho_27).trans ?_
          refine (if_neg c_37).trans ?_
          refine (bnd3_eq ho_52).trans ?_
          rfl
        rw [hQ]; exact retI (((10 * o_27_1) + o_52_1), o_52_2, o_52_3) hx hb hr hlk e9 hP rfl hS dX8_two_56
      · refine lv_iload_n hx hb dX8_two_40 rfl (lv_at hl 2 rfl) ?_
        refine lv_sipush (v := 1023) hx hb dX8_two_41 rfl ?_
        refine lv_iand hx hb dX8_two_44 ?_
        refine lv_goto (tgt := 52) hx hb dX8_two_45 (by decide) ?_
        obtain ⟨o_52_1, o_52_2, o_52_3, ho_52⟩ : ∃ o_52_1 o_52_2 o_52_3, (o_52_1, o_52_2, o_52_3) = v_X8_figure (x1 &&& 1023) i_length o_27_2 o_27_3 f_text := ⟨_, _, _, rfl⟩
        refine callVI (As := [.int (x1 &&& 1023)]) (rest := [.int (10 * o_27_1)]) (o_52_1, o_52_2, o_52_3) ho_52 hF (k_X8_figure l D cI cZ a a_readWishes a_readOwed a_told a_owed a_text a_row a_least a_values a_tellPlace a_tellHour a_tellDark a_isKept a_kept (x1 &&& 1023) i_readHung i_readMany i_readOwes i_wishes i_hung i_hour i_length o_27_2 o_27_3 i_acts i_next i_tells j_seed f_text (fig_at hat hl0 ho_27) (hl0)) (cwV 1 hts gX8_two_X8_figure rfl rfl rfl (by decide +kernel) ⟨Nat.le_of_ble_eq_true rfl, Nat.le_of_ble_eq_true rfl⟩) hK hN hP (va_Dsame hD rfl) hS hA [0, 1] rfl rfl 0 8 (T := TX8) (N := 26) rfl rfl rfl hl.1 rfl (Nat.le_of_ble_eq_true rfl) dX8_two_52 ⟨Nat.zero_le _, Nat.zero_le _⟩ o_52_1 rfl [some 0, some 1] 2 [(a, .inr (8, [.ref a_readWishes, .ref a_readOwed, .int i_readHung, .int i_readMany, .int i_readOwes, .ref a_told, .ref a_owed, .int i_wishes, .int i_hung, .int i_hour, .ref a_text, .int i_length, .int o_52_2, .int o_52_3, .int i_acts, .int i_next, .ref a_row, .ref a_least, .ref a_values, .int i_tells, .ref a_tellPlace, .ref a_tellHour, .ref a_tellDark, .long j_seed, .ref a_isKept, .ref a_kept])), (a_text, .inl (cI, 72, .inl f_text))] rfl rfl (by decide) (fun H locs hP hS => ?_)
        refine lv_iadd hx hb dX8_two_55 ?_
        have e9 : v_X8_two x1 i_length i_at i_faultAt f_text = (((10 * o_27_1) + o_52_1), o_52_2, o_52_3) := by
          refine (if_neg c_6).trans ?_
          refine (if_neg c_18).trans ?_
          refine (bnd3_eq ho_27).trans ?_
          refine (if_pos c_37).trans ?_
          refine (bnd3_eq ho_52).trans ?_
          rfl
        rw [hQ]; exact retI (((10 * o_27_1) + o_52_1), o_52_2, o_52_3) hx hb hr hlk e9 hP rfl hS dX8_two_56
def tw_m (x : Int32) : Int32 := (if (x &&& 1023) = 0 then 0 else 1) ||| (if (x >>> ((10 : Int32) &&& 31)) = 0 then 0 else 2)
theorem two_ex {x l a fa r b fb : Int32} {f : Nat → Int32} (ho : (r, b, fb) = v_X8_two x l a fa f) : ∃ t b1 f1 u : Int32, (t, b1, f1) = v_X8_figure (tw_m x) l a fa f ∧ (u, b, fb) = v_X8_figure (if t = 0 then (x &&& 1023) else (x >>> ((10 : Int32) &&& 31))) l b1 f1 f ∧ r = (10 * t) + u := by
  have key : ∀ m : Int32, tw_m x = m → (r, b, fb) = (bnd3 (v_X8_figure m l a fa f) fun t b1 f1 => (if t = 0 then (bnd3 (v_X8_figure (x &&& 1023) l b1 f1 f) fun u b2 f2 => (((10 * t) + u), b2, f2)) else (bnd3 (v_X8_figure (x >>> ((10 : Int32) &&& 31)) l b1 f1 f) fun u b2 f2 => (((10 * t) + u), b2, f2)))) → ∃ t b1 f1 u : Int32, (t, b1, f1) = v_X8_figure (tw_m x) l a fa f ∧ (u, b, fb) = v_X8_figure (if t = 0 then (x &&& 1023) else (x >>> ((10 : Int32) &&& 31))) l b1 f1 f ∧ r = (10 * t) + u := by
    intro m hm h
    rw [hm]
    obtain ⟨t, b1, f1, e1⟩ : ∃ t b1 f1, (t, b1, f1) = v_X8_figure m l a fa f := ⟨_, _, _, rfl⟩
    rw [bnd3_eq e1] at h
    by_cases ht : t = 0
    · rw [if_pos ht] at h
      obtain ⟨u, b2, f2, e2⟩ : ∃ u b2 f2, (u, b2, f2) = v_X8_figure (x &&& 1023) l b1 f1 f := ⟨_, _, _, rfl⟩
      rw [bnd3_eq e2] at h
      cases h
      exact ⟨t, b1, f1, u, e1, by rw [if_pos ht]; exact e2, rfl⟩
    · rw [if_neg ht] at h
      obtain ⟨u, b2, f2, e2⟩ : ∃ u b2 f2, (u, b2, f2) = v_X8_figure (x >>> ((10 : Int32) &&& 31)) l b1 f1 f := ⟨_, _, _, rfl⟩
      rw [bnd3_eq e2] at h
      cases h
      exact ⟨t, b1, f1, u, e1, by rw [if_neg ht]; exact e2, rfl⟩
  unfold v_X8_two at ho
  by_cases h1 : (x &&& 1023) = 0
  · rw [if_pos h1] at ho
    by_cases h2 : (x >>> ((10 : Int32) &&& 31)) = 0
    · rw [if_pos h2] at ho; exact key _ (by unfold tw_m; rw [if_pos h1, if_pos h2]) ho
    · rw [if_neg h2] at ho; exact key _ (by unfold tw_m; rw [if_pos h1, if_neg h2]) ho
  · rw [if_neg h1] at ho
    by_cases h2 : (x >>> ((10 : Int32) &&& 31)) = 0
    · rw [if_pos h2] at ho; exact key _ (by unfold tw_m; rw [if_neg h1, if_pos h2]) ho
    · rw [if_neg h2] at ho; exact key _ (by unfold tw_m; rw [if_neg h1, if_neg h2]) ho
theorem two_at {x l a fa r b fb : Int32} {f : Nat → Int32} (h : vp_in a 73) (hl : vp_in l 73) (ho : (r, b, fb) = v_X8_two x l a fa f) : vp_in b 73 := by
  obtain ⟨t, b1, f1, u, e1, e2, _⟩ := two_ex ho
  exact fig_at (fig_at h hl e1) hl e2
theorem two_mono {x l a fa r b fb : Int32} {f : Nat → Int32} (h : vp_in a 73) (hl : vp_in l 73) (ho : (r, b, fb) = v_X8_two x l a fa f) : a.toNatClampNeg ≤ b.toNatClampNeg := by
  obtain ⟨t, b1, f1, u, e1, e2, _⟩ := two_ex ho
  exact Nat.le_trans (fig_mono h e1) (fig_mono (fig_at h hl e1) e2)
theorem two_ok {x l a fa r b fb : Int32} {f : Nat → Int32} (h : vp_in a 73) (hl : vp_in l 73) (ho : (r, b, fb) = v_X8_two x l a fa f) (hf : fb = -9) : fa = -9 := by
  obtain ⟨t, b1, f1, u, e1, e2, _⟩ := two_ex ho
  exact fig_ok h e1 (fig_ok (fig_at h hl e1) e2 hf)
theorem two_in {x l a fa r b fb : Int32} {f : Nat → Int32} (h : vp_in a 73) (hl : vp_in l 73) (hx : ∃ m : Nat, m < 4096 ∧ x = nI m) (ho : (r, b, fb) = v_X8_two x l a fa f) (hf : fb = -9) : vp_in r 12 := by
  obtain ⟨m, hm, rfl⟩ := hx
  obtain ⟨t, b1, f1, u, e1, e2, e3⟩ := two_ex ho
  have ha := fig_at h hl e1
  obtain ⟨d, hd, ed, bd⟩ := fig_dig ha e2 hf
  have hf1 := fig_ok ha e2 hf
  obtain ⟨k, hk, ek, bk⟩ := fig_dig h e1 hf1
  rw [e3, ed, ek]
  rw [ek] at bd
  have hk2 : k < 2 := by
    have q : ∀ u : Int32, (u = 0 ∨ u = 1 ∨ u = 2 ∨ u = 3) → ∀ t, t < 10 → ¬ ((u >>> (nI t &&& 31)) &&& 1) = 0 → t < 2 := by
      rintro u (rfl | rfl | rfl | rfl) <;> decide +kernel
    refine q (tw_m (nI m)) ?_ k (by omega) bk
    unfold tw_m
    split <;> split <;> decide
  rcases (show k = 0 ∨ k = 1 by omega) with rfl | rfl
  · exact (by decide +kernel : ∀ d, d < 10 → ¬ ((10 * nI 0 + nI d) < 0 ∨ 12 ≤ (10 * nI 0 + nI d).toNatClampNeg)) d (by omega)
  · rw [if_neg (by decide)] at bd
    have hs : nI m >>> ((10 : Int32) &&& 31) = nI (m / 1024) := pk_shrN (by omega) _ 10 rfl
    rw [hs] at bd
    have hd2 : d < 2 := (by decide +kernel : ∀ k, k < 4 → ∀ d, d < 10 → ¬ ((nI k >>> (nI d &&& 31)) &&& 1) = 0 → d < 2) (m / 1024) (by omega) d (by omega) bd
    exact (by decide +kernel : ∀ d, d < 2 → ¬ ((10 * nI 1 + nI d) < 0 ∨ 12 ≤ (10 * nI 1 + nI d).toNatClampNeg)) d hd2
def v_X8_notOwed_L4 (f_readOwed : Nat → Int32) (i4 : Nat) (z4 : Int32) : Int32 :=
  if (f_readOwed (nI i4).toNatClampNeg) = 0 then (z4 ||| ((1 : Int32) <<< (nI i4 &&& 31)))
  else (z4 ||| 0)
def v_X8_notOwed (f_readOwed : Nat → Int32) : Int32 :=
  bnd (it (v_X8_notOwed_L4 f_readOwed) 12 0 0) fun o_L4 =>
  o_L4
abbrev rm_X8_notOwed : Room := { frames := 0, cells := 0, slots := 0, locals := 0 }
set_option maxHeartbeats 4000000 in
set_option maxRecDepth 100000 in
theorem k_X8_notOwed (l : Launch) (D : va_G) (cI cZ : ClassId) (a a_readWishes a_readOwed a_told a_owed a_text a_row a_least a_values a_tellPlace a_tellHour a_tellDark a_isKept a_kept : Nat) (i_readHung : Int32) (i_readMany : Int32) (i_readOwes : Int32) (i_wishes : Int32) (i_hung : Int32) (i_hour : Int32) (i_length : Int32) (i_at : Int32) (i_faultAt : Int32) (i_acts : Int32) (i_next : Int32) (i_tells : Int32) (j_seed : Int64) (f_readOwed : Nat → Int32) : KI l D cI cZ yX8_notOwed wsX8_notOwed rm_X8_notOwed [.ref a] [(a, .inr (8, [.ref a_readWishes, .ref a_readOwed, .int i_readHung, .int i_readMany, .int i_readOwes, .ref a_told, .ref a_owed, .int i_wishes, .int i_hung, .int i_hour, .ref a_text, .int i_length, .int i_at, .int i_faultAt, .int i_acts, .int i_next, .ref a_row, .ref a_least, .ref a_values, .int i_tells, .ref a_tellPlace, .ref a_tellHour, .ref a_tellDark, .long j_seed, .ref a_isKept, .ref a_kept])), (a_readOwed, .inl (cI, 12, .inl f_readOwed))] (v_X8_notOwed f_readOwed) (fun o : Int32 => o) (fun _ : Int32 => [(a, .inr (8, [.ref a_readWishes, .ref a_readOwed, .int i_readHung, .int i_readMany, .int i_readOwes, .ref a_told, .ref a_owed, .int i_wishes, .int i_hung, .int i_hour, .ref a_text, .int i_length, .int i_at, .int i_faultAt, .int i_acts, .int i_next, .ref a_row, .ref a_least, .ref a_values, .int i_tells, .ref a_tellPlace, .ref a_tellHour, .ref a_tellDark, .long j_seed, .ref a_isKept, .ref a_kept])), (a_readOwed, .inl (cI, 12, .inl f_readOwed))]) := by
  refine KI.of cX8_notOwed 3 (some .int) (by decide) rfl (Nat.le_of_ble_eq_true rfl) ?_
  intro p e s m below meth c A ls ar Q hQ B
  obtain ⟨hx, hb, hr, hml, hts, hown, hlk, hK, hN, hP, hD, hA, hS, hl⟩ := B
  have hown : s.vm.findClass RX8 = some m.cls := hown
  have hF : CallFix p m c cX8_notOwed 3 s ar wsX8_notOwed RX8 := ⟨hx, hb, hml, hown, hts⟩
  have hl : lv_has ls 3 [(0, .ref a)] := hl
  refine lv_iconst (v := 0) hx hb dX8_notOwed_0 rfl ?_
  refine lv_istore_n (lv' := [(1, .int 0), (0, .ref a)]) hx hb dX8_notOwed_1 rfl hl (by decide) rfl (fun ls hl => ?_)
  refine lv_iconst (v := 0) hx hb dX8_notOwed_2 rfl ?_
  refine lv_istore_n (lv' := [(2, .int 0), (1, .int 0), (0, .ref a)]) hx hb dX8_notOwed_3 rfl hl (by decide) rfl (fun ls hl => ?_)
  obtain ⟨o_L4, ho_L4⟩ : ∃ z : Int32, z = it (v_X8_notOwed_L4 f_readOwed) 12 0 0 := ⟨_, rfl⟩
  have kE4 : ∀ (H : Heap) (locs : List Loc) (ls : Array Slot), va_P D vwCl [(a, .inr (8, [.ref a_readWishes, .ref a_readOwed, .int i_readHung, .int i_readMany, .int i_readOwes, .ref a_told, .ref a_owed, .int i_wishes, .int i_hung, .int i_hour, .ref a_text, .int i_length, .int i_at, .int i_faultAt, .int i_acts, .int i_next, .ref a_row, .ref a_least, .ref a_values, .int i_tells, .ref a_tellPlace, .ref a_tellHour, .ref a_tellDark, .long j_seed, .ref a_isKept, .ref a_kept])), (a_readOwed, .inl (cI, 12, .inl f_readOwed))] H → va_S A s.heap H locs → lv_has ls 3 [(1, .int o_L4)] → W p l e rm_X8_notOwed s m ar below meth c H locs 0 0 Q (F0 m 35 ls []) := by
    intro H locs ls hP hS hl
    refine lv_iload_n hx hb dX8_notOwed_35 rfl (lv_at hl 0 rfl) ?_
    have e9 : v_X8_notOwed f_readOwed = o_L4 := by
      refine (bnd_eq ho_L4).trans ?_
      rfl
    rw [hQ]; exact retI o_L4 hx hb hr hlk e9 hP rfl hS dX8_notOwed_36
  have loop4 : ∀ (k i4 : Nat) (z4 : Int32), 0 ≤ i4 → i4 + k = 0 + 12 → it (v_X8_notOwed_L4 f_readOwed) k i4 z4 = o_L4 → ∀ (H : Heap) (locs : List Loc) (ls : Array Slot), va_P D vwCl [(a, .inr (8, [.ref a_readWishes, .ref a_readOwed, .int i_readHung, .int i_readMany, .int i_readOwes, .ref a_told, .ref a_owed, .int i_wishes, .int i_hung, .int i_hour, .ref a_text, .int i_length, .int i_at, .int i_faultAt, .int i_acts, .int i_next, .ref a_row, .ref a_least, .ref a_values, .int i_tells, .ref a_tellPlace, .ref a_tellHour, .ref a_tellDark, .long j_seed, .ref a_isKept, .ref a_kept])), (a_readOwed, .inl (cI, 12, .inl f_readOwed))] H → va_S A s.heap H locs → lv_has ls 3 [(2, .int (nI i4)), (1, .int z4), (0, .ref a)] → W p l e rm_X8_notOwed s m ar below meth c H locs 0 0 Q (F0 m 4 ls []) := by
    intro k
    induction k with
    | zero =>
      intro i4 z4 hi0 hik hz H locs ls hP hS hl
      have hz : z4 = o_L4 := it_0 hz
      subst z4
      refine lv_iload_n hx hb dX8_notOwed_4 rfl (lv_at hl 0 rfl) ?_
      refine lv_bipush (v := 12) hx hb dX8_notOwed_5 rfl ?_
      refine lv_icmp_ge (tgt := 35) hx hb dX8_notOwed_7 (by decide) (fun _ => ?_) (fun c => absurd (nI_le (a := 12) (by omega) (by omega)) c)
      exact kE4 _ _ _ hP hS (lv_sub hl [1] rfl)
    | succ k ih =>
      intro i4 z4 hi0 hik hz H locs ls hP hS hl
      refine lv_iload_n hx hb dX8_notOwed_4 rfl (lv_at hl 0 rfl) ?_
      refine lv_bipush (v := 12) hx hb dX8_notOwed_5 rfl ?_
      refine lv_icmp_ge (tgt := 35) hx hb dX8_notOwed_7 (by decide) (fun c => absurd c (nI_ge (b := 12) (by omega) (by decide))) (fun _ => ?_)
      refine lv_iload_n hx hb dX8_notOwed_10 rfl (lv_at hl 1 rfl) ?_
      refine lv_aload_n hx hb dX8_notOwed_11 rfl (lv_at hl 2 rfl) ?_
      refine va_get (D := D) (ci := 8) (v := .ref a_readOwed) (C := RX8) (T := TX8) (N := 26) hx hb hts (fun _ h => List.mem_cons_of_mem _ (List.mem_append_right _ (h))) hown hK hP 0 rfl rfl 1 (by decide) (hts _ (List.mem_of_getElem? (i := 1) rfl)) (fun _ h9 => h9) rfl dX8_notOwed_12 ?_
      refine lv_iload_n hx hb dX8_notOwed_15 rfl (lv_at hl 0 rfl) ?_
      refine va_iald hx hb hK hP 1 0 rfl rfl (vp_in_nI (by omega) (by decide)) dX8_notOwed_16 ?_
      refine lv_if_ne (tgt := 26) hx hb dX8_notOwed_17 (by decide) (fun c_17 => ?_) (fun c_17 => ?_)
      · refine lv_iconst (v := 0) hx hb dX8_notOwed_26 rfl ?_
        refine lv_ior hx hb dX8_notOwed_27 ?_
        refine lv_istore_n (lv' := [(1, .int (z4 ||| 0)), (2, .int (nI i4)), (0, .ref a)]) hx hb dX8_notOwed_28 rfl hl (by decide) rfl (fun ls hl => ?_)
        refine lv_iinc (v := (nI (i4 + 1))) (lv' := [(2, .int (nI (i4 + 1))), (1, .int (z4 ||| 0)), (0, .ref a)]) hx hb dX8_notOwed_29 hl (k := 1) rfl (nI_1 _) (by decide) rfl (fun ls hl => ?_)
        refine lv_goto (tgt := 4) hx hb dX8_notOwed_32 (by decide) ?_
        have e8 : v_X8_notOwed_L4 f_readOwed i4 z4 = (z4 ||| 0) := by
          refine (if_neg c_17).trans ?_
          rfl
        exact ih (i4 + 1) (z4 ||| 0) (by omega) (by omega) (it_go e8 hz) _ _ _ hP hS (lv_sub hl [0, 1, 2] rfl)
      · refine lv_iconst (v := 1) hx hb dX8_notOwed_20 rfl ?_
        refine lv_iload_n hx hb dX8_notOwed_21 rfl (lv_at hl 0 rfl) ?_
        refine lv_ishl hx hb dX8_notOwed_22 ?_
        refine lv_goto (tgt := 27) hx hb dX8_notOwed_23 (by decide) ?_
        refine lv_ior hx hb dX8_notOwed_27 ?_
        refine lv_istore_n (lv' := [(1, .int (z4 ||| ((1 : Int32) <<< (nI i4 &&& 31)))), (2, .int (nI i4)), (0, .ref a)]) hx hb dX8_notOwed_28 rfl hl (by decide) rfl (fun ls hl => ?_)
        refine lv_iinc (v := (nI (i4 + 1))) (lv' := [(2, .int (nI (i4 + 1))), (1, .int (z4 ||| ((1 : Int32) <<< (nI i4 &&& 31)))), (0, .ref a)]) hx hb dX8_notOwed_29 hl (k := 1) rfl (nI_1 _) (by decide) rfl (fun ls hl => ?_)
        refine lv_goto (tgt := 4) hx hb dX8_notOwed_32 (by decide) ?_
        have e8 : v_X8_notOwed_L4 f_readOwed i4 z4 = (z4 ||| ((1 : Int32) <<< (nI i4 &&& 31))) := by
          refine (if_pos c_17).trans ?_
          rfl
        exact ih (i4 + 1) (z4 ||| ((1 : Int32) <<< (nI i4 &&& 31))) (by omega) (by omega) (it_go e8 hz) _ _ _ hP hS (lv_sub hl [0, 1, 2] rfl)
  exact loop4 12 0 0 (Nat.le_refl _) rfl ho_L4.symm _ _ _ hP hS (lv_sub hl [0, 1, 2] rfl)
theorem notOwed_lt (f : Nat → Int32) : ∃ m : Nat, m < 4096 ∧ v_X8_notOwed f = nI m := by
  have h := it_inv (f := v_X8_notOwed_L4 f) (fun i z => i ≤ 12 → ∃ m : Nat, m < 2 ^ i ∧ z = nI m) (fun i s hs hi => by
    obtain ⟨m, hm, rfl⟩ := hs (by omega)
    show ∃ m', m' < 2 ^ (i + 1) ∧ (if (f (nI i).toNatClampNeg) = 0 then (nI m ||| ((1 : Int32) <<< (nI i &&& 31))) else (nI m ||| 0)) = nI m'
    have hp : 2 ^ (i + 1) = 2 ^ i + 2 ^ i := by rw [Nat.pow_succ]; omega
    have hp2 : 2 ^ i ≤ 2 ^ 12 := Nat.pow_le_pow_right (by decide) (by omega)
    have hsh : (1 : Int32) <<< (nI i &&& 31) = nI (2 ^ i) := (by decide +kernel : ∀ i, i < 12 → (1 : Int32) <<< (nI i &&& 31) = nI (2 ^ i)) i (by omega)
    split
    · refine ⟨m ||| 2 ^ i, ?_, by rw [hsh, nI_or]⟩
      exact Nat.or_lt_two_pow (by omega) (by omega)
    · refine ⟨m, by omega, ?_⟩
      rw [show (0 : Int32) = nI 0 from rfl, nI_or, Nat.or_zero]) 12 0 0 (fun _ => ⟨0, by decide, rfl⟩) (by decide)
  exact h
