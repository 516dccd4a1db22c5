def v_X8_count_L4 (f_owed : Nat → Int32) (i4 : Nat) (z4 : Int32) : Int32 :=
  if (f_owed (nI i4).toNatClampNeg) ≤ 0 then (z4 + 0)
  else (z4 + 1)
def v_X8_count (x1 : Int32) (i_wishes : Int32) (i_hung : Int32) (i_hour : Int32) (i_length : Int32) (i_acts : Int32) (i_tells : Int32) (f_told : Nat → Int32) (f_owed : Nat → Int32) : Int32 :=
  bnd (it (v_X8_count_L4 f_owed) 12 0 0) fun o_L4 =>
  (if x1 = 0 then i_length
  else (if x1 = 1 then i_wishes
  else (if x1 = 2 then o_L4
  else (if x1 = 3 then (bnd (v_X8_ones i_hung) fun o_100 =>
    o_100)
  else (if x1 = 4 then i_hour
  else (if x1 = 5 then i_hung
  else (if x1 = 6 then i_acts
  else (if x1 = 7 then i_tells
  else (if x1 = 8 then (bnd (v_X8_granted i_hung i_wishes f_told) fun o_129 =>
    o_129)
  else (-2))))))))))
abbrev rm_X8_count : Room := { frames := 5, cells := 0, slots := 0, locals := 113 }
set_option maxHeartbeats 4000000 in
set_option maxRecDepth 100000 in
theorem k_X8_count (l : Launch) (D : va_G) (cI cZ : ClassId) (a a_readWishes a_readOwed a_told a_owed a_text a_row a_least a_values a_tellPlace a_tellHour a_tellDark a_isKept a_kept : Nat) (x1 : Int32) (i_readHung : Int32) (i_readMany : Int32) (i_readOwes : Int32) (i_wishes : Int32) (i_hung : Int32) (i_hour : Int32) (i_length : Int32) (i_at : Int32) (i_faultAt : Int32) (i_acts : Int32) (i_next : Int32) (i_tells : Int32) (j_seed : Int64) (f_told : Nat → Int32) (f_owed : Nat → Int32) (hw : ∃ k : Nat, k ≤ 5 ∧ i_wishes = nI k) : KI l D cI cZ yX8_count wsX8_count rm_X8_count [.ref a, .int x1] [(a, .inr (8, [.ref a_readWishes, .ref a_readOwed, .int i_readHung, .int i_readMany, .int i_readOwes, .ref a_told, .ref a_owed, .int i_wishes, .int i_hung, .int i_hour, .ref a_text, .int i_length, .int i_at, .int i_faultAt, .int i_acts, .int i_next, .ref a_row, .ref a_least, .ref a_values, .int i_tells, .ref a_tellPlace, .ref a_tellHour, .ref a_tellDark, .long j_seed, .ref a_isKept, .ref a_kept])), (a_told, .inl (cI, 25, .inl f_told)), (a_owed, .inl (cI, 12, .inl f_owed))] (v_X8_count x1 i_wishes i_hung i_hour i_length i_acts i_tells f_told f_owed) (fun o : Int32 => o) (fun _ : Int32 => [(a, .inr (8, [.ref a_readWishes, .ref a_readOwed, .int i_readHung, .int i_readMany, .int i_readOwes, .ref a_told, .ref a_owed, .int i_wishes, .int i_hung, .int i_hour, .ref a_text, .int i_length, .int i_at, .int i_faultAt, .int i_acts, .int i_next, .ref a_row, .ref a_least, .ref a_values, .int i_tells, .ref a_tellPlace, .ref a_tellHour, .ref a_tellDark, .long j_seed, .ref a_isKept, .ref a_kept])), (a_told, .inl (cI, 25, .inl f_told)), (a_owed, .inl (cI, 12, .inl f_owed))]) := by
  refine KI.of cX8_count 4 (some .int) (by decide) rfl (Nat.le_of_ble_eq_true rfl) ?_
  intro p e s m below meth c A ls ar Q hQ B
  obtain ⟨hx, hb, hr, hml, hts, hown, hlk, hK, hN, hP, hD, hA, hS, hl⟩ := B
  have hown : s.vm.findClass RX8 = some m.cls := hown
  have hF : CallFix p m c cX8_count 4 s ar wsX8_count RX8 := ⟨hx, hb, hml, hown, hts⟩
  have hl : lv_has ls 4 [(0, .ref a), (1, .int x1)] := hl
  refine lv_iconst (v := 0) hx hb dX8_count_0 rfl ?_
  refine lv_istore_n (lv' := [(2, .int 0), (0, .ref a), (1, .int x1)]) hx hb dX8_count_1 rfl hl (by decide) rfl (fun ls hl => ?_)
  refine lv_iconst (v := 0) hx hb dX8_count_2 rfl ?_
  refine lv_istore_n (lv' := [(3, .int 0), (2, .int 0), (0, .ref a), (1, .int x1)]) hx hb dX8_count_3 rfl hl (by decide) rfl (fun ls hl => ?_)
  obtain ⟨o_L4, ho_L4⟩ : ∃ z : Int32, z = it (v_X8_count_L4 f_owed) 12 0 0 := ⟨_, rfl⟩
  have kE4 : ∀ (H : Heap) (locs : List Loc) (ls : Array Slot), va_P D vwCl [(a, .inr (8, [.ref a_readWishes, .ref a_readOwed, .int i_readHung, .int i_readMany, .int i_readOwes, .ref a_told, .ref a_owed, .int i_wishes, .int i_hung, .int i_hour, .ref a_text, .int i_length, .int i_at, .int i_faultAt, .int i_acts, .int i_next, .ref a_row, .ref a_least, .ref a_values, .int i_tells, .ref a_tellPlace, .ref a_tellHour, .ref a_tellDark, .long j_seed, .ref a_isKept, .ref a_kept])), (a_told, .inl (cI, 25, .inl f_told)), (a_owed, .inl (cI, 12, .inl f_owed))] H → va_S A s.heap H locs → lv_has ls 4 [(2, .int o_L4), (0, .ref a), (1, .int x1)] → W p l e rm_X8_count s m ar below meth c H locs 0 0 Q (F0 m 33 ls []) := by
    intro H locs ls hP hS hl
    refine lv_iload_n hx hb dX8_count_33 rfl (lv_at hl 2 rfl) ?_
    by_cases c_34_0 : x1 = 0
    · have hxI : (x1).toInt = 0 := by rw [c_34_0]; rfl
      refine lv_tableIn (off := 50) (tgt := 84) hx hb dX8_count_34 (by rw [hxI]; decide) (by rw [hxI]; decide) (by rw [hxI]; rfl) (by decide) ?_
      refine lv_aload_n hx hb dX8_count_84 rfl (lv_at hl 1 rfl) ?_
      refine va_get (D := D) (ci := 8) (v := .int i_length) (C := RX8) (T := TX8) (N := 26) hx hb hts (fun _ h => List.mem_cons_of_mem _ (List.mem_append_right _ (h))) hown hK hP 0 rfl rfl 11 (by decide) (hts _ (List.mem_of_getElem? (i := 2) rfl)) (fun _ h9 => h9) rfl dX8_count_85 ?_
      have e9 : v_X8_count x1 i_wishes i_hung i_hour i_length i_acts i_tells f_told f_owed = i_length := by
        refine (bnd_eq ho_L4).trans ?_
        refine (if_pos c_34_0).trans ?_
        rfl
      rw [hQ]; exact retI i_length hx hb hr hlk e9 hP rfl hS dX8_count_88
    by_cases c_34_1 : x1 = 1
    · have hxI : (x1).toInt = 1 := by rw [c_34_1]; rfl
      refine lv_tableIn (off := 55) (tgt := 89) hx hb dX8_count_34 (by rw [hxI]; decide) (by rw [hxI]; decide) (by rw [hxI]; rfl) (by decide) ?_
      refine lv_aload_n hx hb dX8_count_89 rfl (lv_at hl 1 rfl) ?_
      refine va_get (D := D) (ci := 8) (v := .int i_wishes) (C := RX8) (T := TX8) (N := 26) hx hb hts (fun _ h => List.mem_cons_of_mem _ (List.mem_append_right _ (h))) hown hK hP 0 rfl rfl 7 (by decide) (hts _ (List.mem_of_getElem? (i := 3) rfl)) (fun _ h9 => h9) rfl dX8_count_90 ?_
      have e9 : v_X8_count x1 i_wishes i_hung i_hour i_length i_acts i_tells f_told f_owed = i_wishes := by
        refine (bnd_eq ho_L4).trans ?_
        refine (if_neg c_34_0).trans ?_
        refine (if_pos c_34_1).trans ?_
        rfl
      rw [hQ]; exact retI i_wishes hx hb hr hlk e9 hP rfl hS dX8_count_93
    by_cases c_34_2 : x1 = 2
    · have hxI : (x1).toInt = 2 := by rw [c_34_2]; rfl
      refine lv_tableIn (off := 60) (tgt := 94) hx hb dX8_count_34 (by rw [hxI]; decide) (by rw [hxI]; decide) (by rw [hxI]; rfl) (by decide) ?_
      refine lv_iload_n hx hb dX8_count_94 rfl (lv_at hl 0 rfl) ?_
      have e9 : v_X8_count x1 i_wishes i_hung i_hour i_length i_acts i_tells f_told f_owed = o_L4 := by
        refine (bnd_eq ho_L4).trans ?_
        refine (if_neg c_34_0).trans ?_
        refine (if_neg c_34_1).trans ?_
        refine (if_pos c_34_2).trans ?_
        rfl
      rw [hQ]; exact retI o_L4 hx hb hr hlk e9 hP rfl hS dX8_count_95
    by_cases c_34_3 : x1 = 3
    · have hxI : (x1).toInt = 3 := by rw [c_34_3]; rfl
      refine lv_tableIn (off := 62) (tgt := 96) hx hb dX8_count_34 (by rw [hxI]; decide) (by rw [hxI]; decide) (by rw [hxI]; rfl) (by decide) ?_
      refine lv_aload_n hx hb dX8_count_96 rfl (lv_at hl 1 rfl) ?_
      refine va_get (D := D) (ci := 8) (v := .int i_hung) (C := RX8) (T := TX8) (N := 26) hx hb hts (fun _ h => List.mem_cons_of_mem _ (List.mem_append_right _ (h))) hown hK hP 0 rfl rfl 8 (by decide) (hts _ (List.mem_of_getElem? (i := 4) rfl)) (fun _ h9 => h9) rfl dX8_count_97 ?_
      obtain ⟨o_100, ho_100⟩ : ∃ z : Int32, z = v_X8_ones i_hung := ⟨_, rfl⟩
      refine callSIs (As := [.int i_hung]) (rest := []) o_100 ho_100 hF (k_X8_ones l D cI cZ i_hung) (va_cwS 1 hts gX8_count_X8_ones rfl rfl rfl (by decide +kernel) ⟨Nat.le_of_ble_eq_true rfl, Nat.le_of_ble_eq_true rfl⟩) hK hN hP (va_Dsame hD rfl) hS hA [] rfl rfl rfl hl.1 rfl (Nat.le_of_ble_eq_true rfl) dX8_count_100 ⟨Nat.zero_le _, Nat.zero_le _⟩ o_100 rfl rfl (fun H locs hP hS => ?_)
      have e9 : v_X8_count x1 i_wishes i_hung i_hour i_length i_acts i_tells f_told f_owed = o_100 := by
        refine (bnd_eq ho_L4).trans ?_
        refine (if_neg c_34_0).trans ?_
        refine (if_neg c_34_1).trans ?_
        refine (if_neg c_34_2).trans ?_
        refine (if_pos c_34_3).trans ?_
        refine (bnd_eq ho_100).trans ?_
        rfl
      rw [hQ]; exact retI o_100 hx hb hr hlk e9 hP rfl hS dX8_count_103
    by_cases c_34_4 : x1 = 4
    · have hxI : (x1).toInt = 4 := by rw [c_34_4]; rfl
      refine lv_tableIn (off := 70) (tgt := 104) hx hb dX8_count_34 (by rw [hxI]; decide) (by rw [hxI]; decide) (by rw [hxI]; rfl) (by decide) ?_
      refine lv_aload_n hx hb dX8_count_104 rfl (lv_at hl 1 rfl) ?_
      refine va_get (D := D) (ci := 8) (v := .int i_hour) (C := RX8) (T := TX8) (N := 26) hx hb hts (fun _ h => List.mem_cons_of_mem _ (List.mem_append_right _ (h))) hown hK hP 0 rfl rfl 9 (by decide) (hts _ (List.mem_of_getElem? (i := 5) rfl)) (fun _ h9 => h9) rfl dX8_count_105 ?_
      have e9 : v_X8_count x1 i_wishes i_hung i_hour i_length i_acts i_tells f_told f_owed = i_hour := by
        refine (bnd_eq ho_L4).trans ?_
        refine (if_neg c_34_0).trans ?_
        refine (if_neg c_34_1).trans ?_
        refine (if_neg c_34_2).trans ?_
        refine (if_neg c_34_3).trans ?_
        refine (if_pos c_34_4).trans ?_
        rfl
      rw [hQ]; exact retI i_hour hx hb hr hlk e9 hP rfl hS dX8_count_108
    by_cases c_34_5 : x1 = 5
    · have hxI : (x1).toInt = 5 := by rw [c_34_5]; rfl
      refine lv_tableIn (off := 75) (tgt := 109) hx hb dX8_count_34 (by rw [hxI]; decide) (by rw [hxI]; decide) (by rw [hxI]; rfl) (by decide) ?_
      refine lv_aload_n hx hb dX8_count_109 rfl (lv_at hl 1 rfl) ?_
      refine va_get (D := D) (ci := 8) (v := .int i_hung) (C := RX8) (T := TX8) (N := 26) hx hb hts (fun _ h => List.mem_cons_of_mem _ (List.mem_append_right _ (h))) hown hK hP 0 rfl rfl 8 (by decide) (hts _ (List.mem_of_getElem? (i := 4) rfl)) (fun _ h9 => h9) rfl dX8_count_110 ?_
      have e9 : v_X8_count x1 i_wishes i_hung i_hour i_length i_acts i_tells f_told f_owed = i_hung := by
        refine (bnd_eq ho_L4).trans ?_
        refine (if_neg c_34_0).trans ?_
        refine (if_neg c_34_1).trans ?_
        refine (if_neg c_34_2).trans ?_
        refine (if_neg c_34_3).trans ?_
        refine (if_neg c_34_4).trans ?_
        refine (if_pos c_34_5).trans ?_
        rfl
      rw [hQ]; exact retI i_hung hx hb hr hlk e9 hP rfl hS dX8_count_113
    by_cases c_34_6 : x1 = 6
    · have hxI : (x1).toInt = 6 := by rw [c_34_6]; rfl
      refine lv_tableIn (off := 80) (tgt := 114) hx hb dX8_count_34 (by rw [hxI]; decide) (by rw [hxI]; decide) (by rw [hxI]; rfl) (by decide) ?_
      refine lv_aload_n hx hb dX8_count_114 rfl (lv_at hl 1 rfl) ?_
      refine va_get (D := D) (ci := 8) (v := .int i_acts) (C := RX8) (T := TX8) (N := 26) hx hb hts (fun _ h => List.mem_cons_of_mem _ (List.mem_append_right _ (h))) hown hK hP 0 rfl rfl 14 (by decide) (hts _ (List.mem_of_getElem? (i := 6) rfl)) (fun _ h9 => h9) rfl dX8_count_115 ?_
      have e9 : v_X8_count x1 i_wishes i_hung i_hour i_length i_acts i_tells f_told f_owed = i_acts := by
        refine (bnd_eq ho_L4).trans ?_
        refine (if_neg c_34_0).trans ?_
        refine (if_neg c_34_1).trans ?_
        refine (if_neg c_34_2).trans ?_
        refine (if_neg c_34_3).trans ?_
        refine (if_neg c_34_4).trans ?_
        refine (if_neg c_34_5).trans ?_
        refine (if_pos c_34_6).trans ?_
        rfl
      rw [hQ]; exact retI i_acts hx hb hr hlk e9 hP rfl hS dX8_count_118
    by_cases c_34_7 : x1 = 7
    · have hxI : (x1).toInt = 7 := by rw [c_34_7]; rfl
      refine lv_tableIn (off := 85) (tgt := 119) hx hb dX8_count_34 (by rw [hxI]; decide) (by rw [hxI]; decide) (by rw [hxI]; rfl) (by decide) ?_
      refine lv_aload_n hx hb dX8_count_119 rfl (lv_at hl 1 rfl) ?_
      refine va_get (D := D) (ci := 8) (v := .int i_tells) (C := RX8) (T := TX8) (N := 26) hx hb hts (fun _ h => List.mem_cons_of_mem _ (List.mem_append_right _ (h))) hown hK hP 0 rfl rfl 19 (by decide) (hts _ (List.mem_of_getElem? (i := 7) rfl)) (fun _ h9 => h9) rfl dX8_count_120 ?_
      have e9 : v_X8_count x1 i_wishes i_hung i_hour i_length i_acts i_tells f_told f_owed = i_tells := by
        refine (bnd_eq ho_L4).trans ?_
        refine (if_neg c_34_0).trans ?_
        refine (if_neg c_34_1).trans ?_
        refine (if_neg c_34_2).trans ?_
        refine (if_neg c_34_3).trans ?_
        refine (if_neg c_34_4).trans ?_
        refine (if_neg c_34_5).trans ?_
        refine (if_neg c_34_6).trans ?_
        refine (if_pos c_34_7).trans ?_
        rfl
      rw [hQ]; exact retI i_tells hx hb hr hlk e9 hP rfl hS dX8_count_123
    by_cases c_34_8 : x1 = 8
    · have hxI : (x1).toInt = 8 := by rw [c_34_8]; rfl
      refine lv_tableIn (off := 90) (tgt := 124) hx hb dX8_count_34 (by rw [hxI]; decide) (by rw [hxI]; decide) (by rw [hxI]; rfl) (by decide) ?_
      refine lv_aload_n hx hb dX8_count_124 rfl (lv_at hl 1 rfl) ?_
      refine lv_aload_n hx hb dX8_count_125 rfl (lv_at hl 1 rfl) ?_
      refine va_get (D := D) (ci := 8) (v := .int i_hung) (C := RX8) (T := TX8) (N := 26) hx hb hts (fun _ h => List.mem_cons_of_mem _ (List.mem_append_right _ (h))) hown hK hP 0 rfl rfl 8 (by decide) (hts _ (List.mem_of_getElem? (i := 4) rfl)) (fun _ h9 => h9) rfl dX8_count_126 ?_
      obtain ⟨o_129, ho_129⟩ : ∃ z : Int32, z = v_X8_granted i_hung i_wishes f_told := ⟨_, rfl⟩
      refine callVIs (As := [.int i_hung]) (rest := []) o_129 ho_129 hF (k_X8_granted l D cI cZ a a_readWishes a_readOwed a_told a_owed a_text a_row a_least a_values a_tellPlace a_tellHour a_tellDark a_isKept a_kept i_hung i_readHung i_readMany i_readOwes i_wishes i_hung i_hour i_length i_at i_faultAt i_acts i_next i_tells j_seed f_told (hw)) (cwV 1 hts gX8_count_X8_granted rfl rfl rfl (by decide +kernel) ⟨Nat.le_of_ble_eq_true rfl, Nat.le_of_ble_eq_true rfl⟩) hK hN hP (va_Dsame hD rfl) hS hA [0, 1] rfl rfl 0 8 (T := TX8) (N := 26) rfl rfl rfl hl.1 rfl (Nat.le_of_ble_eq_true rfl) dX8_count_129 ⟨Nat.zero_le _, Nat.zero_le _⟩ o_129 rfl rfl (fun H locs hP hS => ?_)
      have e9 : v_X8_count x1 i_wishes i_hung i_hour i_length i_acts i_tells f_told f_owed = o_129 := by
        refine (bnd_eq ho_L4).trans ?_
        refine (if_neg c_34_0).trans ?_
        refine (if_neg c_34_1).trans ?_
        refine (if_neg c_34_2).trans ?_
        refine (if_neg c_34_3).trans ?_
        refine (if_neg c_34_4).trans ?_
        refine (if_neg c_34_5).trans ?_
        refine (if_neg c_34_6).trans ?_
        refine (if_neg c_34_7).trans ?_
        refine (if_pos c_34_8).trans ?_
        refine (bnd_eq ho_129).trans ?_
        rfl
      rw [hQ]; exact retI o_129 hx hb hr hlk e9 hP rfl hS dX8_count_132
    have nc_34_0 := lv_neT c_34_0 (show (0 : Int32).toInt = 0 from rfl)
    have nc_34_1 := lv_neT c_34_1 (show (1 : Int32).toInt = 1 from rfl)
    have nc_34_2 := lv_neT c_34_2 (show (2 : Int32).toInt = 2 from rfl)
    have nc_34_3 := lv_neT c_34_3 (show (3 : Int32).toInt = 3 from rfl)
    have nc_34_4 := lv_neT c_34_4 (show (4 : Int32).toInt = 4 from rfl)
    have nc_34_5 := lv_neT c_34_5 (show (5 : Int32).toInt = 5 from rfl)
    have nc_34_6 := lv_neT c_34_6 (show (6 : Int32).toInt = 6 from rfl)
    have nc_34_7 := lv_neT c_34_7 (show (7 : Int32).toInt = 7 from rfl)
    have nc_34_8 := lv_neT c_34_8 (show (8 : Int32).toInt = 8 from rfl)
    refine lv_tableOut (tgt := 133) hx hb dX8_count_34 (by omega) (by decide) ?_
    refine lv_bipush (v := (-2)) hx hb dX8_count_133 rfl ?_
    have e9 : v_X8_count x1 i_wishes i_hung i_hour i_length i_acts i_tells f_told f_owed = (-2) := by
      refine (bnd_eq ho_L4).trans ?_
      refine (if_neg c_34_0).trans ?_
      refine (if_neg c_34_1).trans ?_
      refine (if_neg c_34_2).trans ?_
      refine (if_neg c_34_3).trans ?_
      refine (if_neg c_34_4).trans ?_
      refine (if_neg c_34_5).trans ?_
      refine (if_neg c_34_6).trans ?_
      refine (if_neg c_34_7).trans ?_
      refine (if_neg c_34_8).trans ?_
      rfl
    rw [hQ]; exact retI (-2) hx hb hr hlk e9 hP rfl hS dX8_count_135
  have loop4 : ∀ (k i4 : Nat) (z4 : Int32), 0 ≤ i4 → i4 + k = 0 + 12 → it (v_X8_count_L4 f_owed) k i4 z4 = o_L4 → ∀ (H : Heap) (locs : List Loc) (ls : Array Slot), va_P D vwCl [(a, .inr (8, [.ref a_readWishes, .ref a_readOwed, .int i_readHung, .int i_readMany, .int i_readOwes, .ref a_told, .ref a_owed, .int i_wishes, .int i_hung, .int i_hour, .ref a_text, .int i_length, .int i_at, .int i_faultAt, .int i_acts, .int i_next, .ref a_row, .ref a_least, .ref a_values, .int i_tells, .ref a_tellPlace, .ref a_tellHour, .ref a_tellDark, .long j_seed, .ref a_isKept, .ref a_kept])), (a_told, .inl (cI, 25, .inl f_told)), (a_owed, .inl (cI, 12, .inl f_owed))] H → va_S A s.heap H locs → lv_has ls 4 [(3, .int (nI i4)), (2, .int z4), (0, .ref a), (1, .int x1)] → W p l e rm_X8_count s m ar below meth c H locs 0 0 Q (F0 m 4 ls []) := by
    intro k
    induction k with
    | zero =>
      intro i4 z4 hi0 hik hz H locs ls hP hS hl
      have hz : z4 = o_L4 := it_0 hz
      subst z4
      refine lv_iload_n hx hb dX8_count_4 rfl (lv_at hl 0 rfl) ?_
      refine lv_bipush (v := 12) hx hb dX8_count_5 rfl ?_
      refine lv_icmp_ge (tgt := 33) hx hb dX8_count_7 (by decide) (fun _ => ?_) (fun c => absurd (nI_le (a := 12) (by omega) (by omega)) c)
      exact kE4 _ _ _ hP hS (lv_sub hl [1, 2, 3] rfl)
    | succ k ih =>
      intro i4 z4 hi0 hik hz H locs ls hP hS hl
      refine lv_iload_n hx hb dX8_count_4 rfl (lv_at hl 0 rfl) ?_
      refine lv_bipush (v := 12) hx hb dX8_count_5 rfl ?_
      refine lv_icmp_ge (tgt := 33) hx hb dX8_count_7 (by decide) (fun c => absurd c (nI_ge (b := 12) (by omega) (by decide))) (fun _ => ?_)
      refine lv_iload_n hx hb dX8_count_10 rfl (lv_at hl 1 rfl) ?_
      refine lv_aload_n hx hb dX8_count_11 rfl (lv_at hl 2 rfl) ?_
      refine va_get (D := D) (ci := 8) (v := .ref a_owed) (C := RX8) (T := TX8) (N := 26) hx hb hts (fun _ h => List.mem_cons_of_mem _ (List.mem_append_right _ (h))) hown hK hP 0 rfl rfl 6 (by decide) (hts _ (List.mem_of_getElem? (i := 1) rfl)) (fun _ h9 => h9) rfl dX8_count_12 ?_
      refine lv_iload_n hx hb dX8_count_15 rfl (lv_at hl 0 rfl) ?_
      refine va_iald hx hb hK hP 2 0 rfl rfl (vp_in_nI (by omega) (by decide)) dX8_count_16 ?_
      refine lv_if_le (tgt := 24) hx hb dX8_count_17 (by decide) (fun c_17 => ?_) (fun c_17 => ?_)
      · refine lv_iconst (v := 0) hx hb dX8_count_24 rfl ?_
        refine lv_iadd hx hb dX8_count_25 ?_
        refine lv_istore_n (lv' := [(2, .int (z4 + 0)), (3, .int (nI i4)), (0, .ref a), (1, .int x1)]) hx hb dX8_count_26 rfl hl (by decide) rfl (fun ls hl => ?_)
        refine lv_iinc (v := (nI (i4 + 1))) (lv' := [(3, .int (nI (i4 + 1))), (2, .int (z4 + 0)), (0, .ref a), (1, .int x1)]) hx hb dX8_count_27 hl (k := 1) rfl (nI_1 _) (by decide) rfl (fun ls hl => ?_)
        refine lv_goto (tgt := 4) hx hb dX8_count_30 (by decide) ?_
        have e8 : v_X8_count_L4 f_owed i4 z4 = (z4 + 0) := by
          refine (if_pos c_17).trans ?_
          rfl
        exact ih (i4 + 1) (z4 + 0) (by omega) (by omega) (it_go e8 hz) _ _ _ hP hS (lv_sub hl [0, 1, 2, 3] rfl)
      · refine lv_iconst (v := 1) hx hb dX8_count_20 rfl ?_
        refine lv_goto (tgt := 25) hx hb dX8_count_21 (by decide) ?_
        refine lv_iadd hx hb dX8_count_25 ?_
        refine lv_istore_n (lv' := [(2, .int (z4 + 1)), (3, .int (nI i4)), (0, .ref a), (1, .int x1)]) hx hb dX8_count_26 rfl hl (by decide) rfl (fun ls hl => ?_)
        refine lv_iinc (v := (nI (i4 + 1))) (lv' := [(3, .int (nI (i4 + 1))), (2, .int (z4 + 1)), (0, .ref a), (1, .int x1)]) hx hb dX8_count_27 hl (k := 1) rfl (nI_1 _) (by decide) rfl (fun ls hl => ?_)
        refine lv_goto (tgt := 4) hx hb dX8_count_30 (by decide) ?_
        have e8 : v_X8_count_L4 f_owed i4 z4 = (z4 + 1) := by
          refine (if_neg c_17).trans ?_
          rfl
        exact ih (i4 + 1) (z4 + 1) (by omega) (by omega) (it_go e8 hz) _ _ _ hP hS (lv_sub hl [0, 1, 2, 3] rfl)
  exact loop4 12 0 0 (Nat.le_refl _) rfl ho_L4.symm _ _ _ hP hS (lv_sub hl [0, 1, 2, 3] rfl)
