def v_X8_ones_L4 (x0 : Int32) (i4 : Nat) (z4 : Int32) : Int32 :=
  (z4 + ((x0 >>> (nI i4 &&& 31)) &&& 1))
def v_X8_ones (x0 : Int32) : Int32 :=
  bnd (it (v_X8_ones_L4 x0) 12 0 0) fun o_L4 =>
  o_L4
abbrev rm_X8_ones : Room := { frames := 0, cells := 0, slots := 0, locals := 0 }
set_option maxHeartbeats 4000000 in
set_option maxRecDepth 100000 in
theorem k_X8_ones (l : Launch) (D : va_G) (cI cZ : ClassId) (x0 : Int32) : KI l D cI cZ yX8_ones wsX8_ones rm_X8_ones [.int x0] [] (v_X8_ones x0) (fun o : Int32 => o) (fun _ : Int32 => []) := by
  refine KI.of cX8_ones 3 (some .int) (by decide) rfl (Nat.le_of_ble_eq_true rfl) ?_
  intro p e s m below meth c A ls ar Q hQ B
  obtain ⟨hx, hb, hr, hml, hts, hown, hlk, hK, hN, hP, hD, hA, hS, hl⟩ := B
  have hown : s.vm.findClass RX8 = some m.cls := hown
  have hF : CallFix p m c cX8_ones 3 s ar wsX8_ones RX8 := ⟨hx, hb, hml, hown, hts⟩
  have hl : lv_has ls 3 [(0, .int x0)] := hl
  refine lv_iconst (v := 0) hx hb dX8_ones_0 rfl ?_
  refine lv_istore_n (lv' := [(1, .int 0), (0, .int x0)]) hx hb dX8_ones_1 rfl hl (by decide) rfl (fun ls hl => ?_)
  refine lv_iconst (v := 0) hx hb dX8_ones_2 rfl ?_
  refine lv_istore_n (lv' := [(2, .int 0), (1, .int 0), (0, .int x0)]) hx hb dX8_ones_3 rfl hl (by decide) rfl (fun ls hl => ?_)
  obtain ⟨o_L4, ho_L4⟩ : ∃ z : Int32, z = it (v_X8_ones_L4 x0) 12 0 0 := ⟨_, rfl⟩
  have kE4 : ∀ (H : Heap) (locs : List Loc) (ls : Array Slot), va_P D vwCl [] H → va_S A s.heap H locs → lv_has ls 3 [(1, .int o_L4)] → W p l e rm_X8_ones s m ar below meth c H locs 0 0 Q (F0 m 24 ls []) := by
    intro H locs ls hP hS hl
    refine lv_iload_n hx hb dX8_ones_24 rfl (lv_at hl 0 rfl) ?_
    have e9 : v_X8_ones x0 = o_L4 := by
      refine (bnd_eq ho_L4).trans ?_
      rfl
    rw [hQ]; exact retI o_L4 hx hb hr hlk e9 hP rfl hS dX8_ones_25
  have loop4 : ∀ (k i4 : Nat) (z4 : Int32), 0 ≤ i4 → i4 + k = 0 + 12 → it (v_X8_ones_L4 x0) k i4 z4 = o_L4 → ∀ (H : Heap) (locs : List Loc) (ls : Array Slot), va_P D vwCl [] H → va_S A s.heap H locs → lv_has ls 3 [(2, .int (nI i4)), (1, .int z4), (0, .int x0)] → W p l e rm_X8_ones s m ar below meth c H locs 0 0 Q (F0 m 4 ls []) := by
    intro k
    induction k with
    | zero =>
      intro i4 z4 hi0 hik hz H locs ls hP hS hl
      have hz : z4 = o_L4 := it_0 hz
      subst z4
      refine lv_iload_n hx hb dX8_ones_4 rfl (lv_at hl 0 rfl) ?_
      refine lv_bipush (v := 12) hx hb dX8_ones_5 rfl ?_
      refine lv_icmp_ge (tgt := 24) hx hb dX8_ones_7 (by decide) (fun _ => ?_) (fun c => absurd (nI_le (a := 12) (by omega) (by omega)) c)
      exact kE4 _ _ _ hP hS (lv_sub hl [1] rfl)
    | succ k ih =>
      intro i4 z4 hi0 hik hz H locs ls hP hS hl
      refine lv_iload_n hx hb dX8_ones_4 rfl (lv_at hl 0 rfl) ?_
      refine lv_bipush (v := 12) hx hb dX8_ones_5 rfl ?_
      refine lv_icmp_ge (tgt := 24) hx hb dX8_ones_7 (by decide) (fun c => absurd c (nI_ge (b := 12) (by omega) (by decide))) (fun _ => ?_)
      refine lv_iload_n hx hb dX8_ones_10 rfl (lv_at hl 1 rfl) ?_
      refine lv_iload_n hx hb dX8_ones_11 rfl (lv_at hl 2 rfl) ?_
      refine lv_iload_n hx hb dX8_ones_12 rfl (lv_at hl 0 rfl) ?_
      refine lv_ishr hx hb dX8_ones_13 ?_
      refine lv_iconst (v := 1) hx hb dX8_ones_14 rfl ?_
      refine lv_iand hx hb dX8_ones_15 ?_
      refine lv_iadd hx hb dX8_ones_16 ?_
      refine lv_istore_n (lv' := [(1, .int (z4 + ((x0 >>> (nI i4 &&& 31)) &&& 1))), (2, .int (nI i4)), (0, .int x0)]) hx hb dX8_ones_17 rfl hl (by decide) rfl (fun ls hl => ?_)
      refine lv_iinc (v := (nI (i4 + 1))) (lv' := [(2, .int (nI (i4 + 1))), (1, .int (z4 + ((x0 >>> (nI i4 &&& 31)) &&& 1))), (0, .int x0)]) hx hb dX8_ones_18 hl (k := 1) rfl (nI_1 _) (by decide) rfl (fun ls hl => ?_)
      refine lv_goto (tgt := 4) hx hb dX8_ones_21 (by decide) ?_
      have e8 : v_X8_ones_L4 x0 i4 z4 = (z4 + ((x0 >>> (nI i4 &&& 31)) &&& 1)) := by
        rfl
      exact ih (i4 + 1) (z4 + ((x0 >>> (nI i4 &&& 31)) &&& 1)) (by omega) (by omega) (it_go e8 hz) _ _ _ hP hS (lv_sub hl [0, 1, 2] rfl)
  exact loop4 12 0 0 (Nat.le_refl _) rfl ho_L4.symm _ _ _ hP hS (lv_sub hl [0, 1, 2] rfl)
theorem ones_12 (x : Int32) : ∃ j : Nat, j ≤ 12 ∧ v_X8_ones x = nI j := by
  have h := it_inv (f := v_X8_ones_L4 x) (fun i z => ∃ j : Nat, j ≤ i ∧ z = nI j) (fun i s hs => by
    obtain ⟨j, hj, rfl⟩ := hs
    obtain ⟨b, hb, e⟩ := pk_andE (x >>> (nI i &&& 31)) (m := 1) 1 rfl
    exact ⟨j + b, by omega, by show nI j + ((x >>> (nI i &&& 31)) &&& 1) = _; rw [e, nI_add]⟩) 12 0 0 ⟨0, Nat.le_refl _, rfl⟩
  exact h
theorem ones_64 (x : Int32) : ∃ j : Nat, j < 64 ∧ v_X8_ones x = nI j := by
  obtain ⟨j, hj, e⟩ := ones_12 x
  exact ⟨j, by omega, e⟩
def v_X8_write (x1 : Int32) (i_length : Int32) (f_text : Nat → Int32) : Int32 × Int32 × (Nat → Int32) :=
  bnd (v_X8_in x1.toInt64 0 255) fun o_6 =>
  (if bI o_6 = 0 then ((-2), i_length, f_text)
  else (if i_length = 72 then ((-4), i_length, f_text)
  else ((i_length + 1), (i_length + 1), (upd f_text i_length.toNatClampNeg x1))))
abbrev rm_X8_write : Room := { frames := 1, cells := 0, slots := 0, locals := 25 }
set_option maxHeartbeats 4000000 in
set_option maxRecDepth 100000 in
theorem k_X8_write (l : Launch) (D : va_G) (cI cZ : ClassId) (a a_readWishes a_readOwed a_told a_owed a_text a_row a_least a_values a_tellPlace a_tellHour a_tellDark a_isKept a_kept : Nat) (x1 : Int32) (i_readHung : Int32) (i_readMany : Int32) (i_readOwes : Int32) (i_wishes : Int32) (i_hung : Int32) (i_hour : Int32) (i_length : Int32) (i_at : Int32) (i_faultAt : Int32) (i_acts : Int32) (i_next : Int32) (i_tells : Int32) (j_seed : Int64) (f_text : Nat → Int32) (hl0 : vp_in i_length 73) : KI l D cI cZ yX8_write wsX8_write rm_X8_write [.ref a, .int x1] [(a, .inr (8, [.ref a_readWishes, .ref a_readOwed, .int i_readHung, .int i_readMany, .int i_readOwes, .ref a_told, .ref a_owed, .int i_wishes, .int i_hung, .int i_hour, .ref a_text, .int i_length, .int i_at, .int i_faultAt, .int i_acts, .int i_next, .ref a_row, .ref a_least, .ref a_values, .int i_tells, .ref a_tellPlace, .ref a_tellHour, .ref a_tellDark, .long j_seed, .ref a_isKept, .ref a_kept])), (a_text, .inl (cI, 72, .inl f_text))] (v_X8_write x1 i_length f_text) (fun o : Int32 × Int32 × (Nat → Int32) => o.1) (fun o : Int32 × Int32 × (Nat → Int32) => [(a, .inr (8, [.ref a_readWishes, .ref a_readOwed, .int i_readHung, .int i_readMany, .int i_readOwes, .ref a_told, .ref a_owed, .int i_wishes, .int i_hung, .int i_hour, .ref a_text, .int o.2.1, .int i_at, .int i_faultAt, .int i_acts, .int i_next, .ref a_row, .ref a_least, .ref a_values, .int i_tells, .ref a_tellPlace, .ref a_tellHour, .ref a_tellDark, .long j_seed, .ref a_isKept, .ref a_kept])), (a_text, .inl (cI, 72, .inl o.2.2))]) := by
  refine KI.of cX8_write 2 (some .int) (by decide) rfl (Nat.le_of_ble_eq_true rfl) ?_
  intro p e s m below meth c A ls ar Q hQ B
  obtain ⟨hx, hb, hr, hml, hts, hown, hlk, hK, hN, hP, hD, hA, hS, hl⟩ := B
  have hown : s.vm.findClass RX8 = some m.cls := hown
  have hF : CallFix p m c cX8_write 2 s ar wsX8_write RX8 := ⟨hx, hb, hml, hown, hts⟩
  have hl : lv_has ls 2 [(0, .ref a), (1, .int x1)] := hl
  refine lv_iload_n hx hb dX8_write_0 rfl (lv_at hl 1 rfl) ?_
  refine lv_i2l (v := x1.toInt64) hx hb dX8_write_1 rfl ?_
  refine lv_lconst (v := 0) hx hb dX8_write_2 rfl ?_
  refine lv_ldc2 (v := 255) hx hb hown (hts _ (List.mem_of_getElem? (i := 1) rfl)) dX8_write_3 ?_
  obtain ⟨o_6, ho_6⟩ : ∃ z : Bool, z = v_X8_in x1.toInt64 0 255 := ⟨_, rfl⟩
  refine callSIs (As := [.long x1.toInt64, .long 0, .long 255]) (rest := []) o_6 ho_6 hF (k_X8_in l D cI cZ x1.toInt64 0 255) (va_cwS 3 hts gX8_write_X8_in rfl rfl rfl (by decide +kernel) ⟨Nat.le_of_ble_eq_true rfl, Nat.le_of_ble_eq_true rfl⟩) hK hN hP (va_Dsame hD rfl) hS hA [] rfl rfl rfl hl.1 rfl (Nat.le_of_ble_eq_true rfl) dX8_write_6 ⟨Nat.zero_le _, Nat.zero_le _⟩ (bI o_6) rfl rfl (fun H locs hP hS => ?_)
  refine lv_if_ne (tgt := 15) hx hb dX8_write_9 (by decide) (fun c_9 => ?_) (fun c_9 => ?_)
  · refine lv_aload_n hx hb dX8_write_15 rfl (lv_at hl 0 rfl) ?_
    refine va_get (D := D) (ci := 8) (v := .int i_length) (C := RX8) (T := TX8) (N := 26) hx hb hts (fun _ h => List.mem_cons_of_mem _ (List.mem_append_right _ (h))) hown hK hP 0 rfl rfl 11 (by decide) (hts _ (List.mem_of_getElem? (i := 2) rfl)) (fun _ h9 => h9) rfl dX8_write_16 ?_
    refine lv_bipush (v := 72) hx hb dX8_write_19 rfl ?_
    refine lv_icmp_ne (tgt := 27) hx hb dX8_write_21 (by decide) (fun c_21 => ?_) (fun c_21 => ?_)
    · refine lv_aload_n hx hb dX8_write_27 rfl (lv_at hl 0 rfl) ?_
      refine va_get (D := D) (ci := 8) (v := .ref a_text) (C := RX8) (T := TX8) (N := 26) hx hb hts (fun _ h => List.mem_cons_of_mem _ (List.mem_append_right _ (h))) hown hK hP 0 rfl rfl 10 (by decide) (hts _ (List.mem_of_getElem? (i := 3) rfl)) (fun _ h9 => h9) rfl dX8_write_28 ?_
      refine lv_aload_n hx hb dX8_write_31 rfl (lv_at hl 0 rfl) ?_
      refine va_get (D := D) (ci := 8) (v := .int i_length) (C := RX8) (T := TX8) (N := 26) hx hb hts (fun _ h => List.mem_cons_of_mem _ (List.mem_append_right _ (h))) hown hK hP 0 rfl rfl 11 (by decide) (hts _ (List.mem_of_getElem? (i := 2) rfl)) (fun _ h9 => h9) rfl dX8_write_32 ?_
      refine lv_iload_n hx hb dX8_write_35 rfl (lv_at hl 1 rfl) ?_
      refine va_iast hx hb hK hP (va_Dsame hD rfl) hS 1 0 rfl rfl (vin_ne hl0 c_21) dX8_write_36 (fun H locs hP _ hS => ?_)
      have hP : va_P D vwCl [(a, .inr (8, [.ref a_readWishes, .ref a_readOwed, .int i_readHung, .int i_readMany, .int i_readOwes, .ref a_told, .ref a_owed, .int i_wishes, .int i_hung, .int i_hour, .ref a_text, .int i_length, .int i_at, .int i_faultAt, .int i_acts, .int i_next, .ref a_row, .ref a_least, .ref a_values, .int i_tells, .ref a_tellPlace, .ref a_tellHour, .ref a_tellDark, .long j_seed, .ref a_isKept, .ref a_kept])), (a_text, .inl (cI, 72, .inl (upd f_text i_length.toNatClampNeg x1)))] H := hP
      refine lv_aload_n hx hb dX8_write_37 rfl (lv_at hl 0 rfl) ?_
      refine lv_dup hx hb dX8_write_38 rfl ?_
      refine va_get (D := D) (ci := 8) (v := .int i_length) (C := RX8) (T := TX8) (N := 26) hx hb hts (fun _ h => List.mem_cons_of_mem _ (List.mem_append_right _ (h))) hown hK hP 0 rfl rfl 11 (by decide) (hts _ (List.mem_of_getElem? (i := 2) rfl)) (fun _ h9 => h9) rfl dX8_write_39 ?_
      refine lv_iconst (v := 1) hx hb dX8_write_42 rfl ?_
      refine lv_iadd hx hb dX8_write_43 ?_
      refine va_put (D := D) (ci := 8) (v := .int (i_length + 1)) (ty := .int) (C := RX8) (T := TX8) (N := 26) hx hb hts (fun _ h => List.mem_cons_of_mem _ (List.mem_append_right _ (h))) tyX8 tyX8_ok nmX8 hown hK hP (va_Dsame hD rfl) hS 0 rfl rfl 11 (by decide) (hts _ (List.mem_of_getElem? (i := 2) rfl)) (fun _ h9 => h9) rfl (tyX8_ok 11 (by decide)) rfl rfl (Nat.le_of_ble_eq_true rfl) dX8_write_44 (fun H locs hP _ hS => ?_)
      have hP : va_P D vwCl [(a, .inr (8, [.ref a_readWishes, .ref a_readOwed, .int i_readHung, .int i_readMany, .int i_readOwes, .ref a_told, .ref a_owed, .int i_wishes, .int i_hung, .int i_hour, .ref a_text, .int (i_length + 1), .int i_at, .int i_faultAt, .int i_acts, .int i_next, .ref a_row, .ref a_least, .ref a_values, .int i_tells, .ref a_tellPlace, .ref a_tellHour, .ref a_tellDark, .long j_seed, .ref a_isKept, .ref a_kept])), (a_text, .inl (cI, 72, .inl (upd f_text i_length.toNatClampNeg x1)))] H := hP
      refine lv_aload_n hx hb dX8_write_47 rfl (lv_at hl 0 rfl) ?_
      refine va_get (D := D) (ci := 8) (v := .int (i_length + 1)) (C := RX8) (T := TX8) (N := 26) hx hb hts (fun _ h => List.mem_cons_of_mem _ (List.mem_append_right _ (h))) hown hK hP 0 rfl rfl 11 (by decide) (hts _ (List.mem_of_getElem? (i := 2) rfl)) (fun _ h9 => h9) rfl dX8_write_48 ?_
      have e9 : v_X8_write x1 i_length f_text = ((i_length + 1), (i_length + 1), (upd f_text i_length.toNatClampNeg x1)) := by
        refine (bnd_eq ho_6).trans ?_
        refine (if_neg c_9).trans ?_
        refine (if_neg c_21).trans ?_
        rfl
      rw [hQ]; exact retI ((i_length + 1), (i_length + 1), (upd f_text i_length.toNatClampNeg x1)) hx hb hr hlk e9 hP rfl hS dX8_write_51
    · refine lv_bipush (v := (-4)) hx hb dX8_write_24 rfl ?_
      have e9 : v_X8_write x1 i_length f_text = ((-4), i_length, f_text) := by
        refine (bnd_eq ho_6).trans ?_
        refine (if_neg c_9).trans ?_
        refine (if_pos c_21).trans ?_
        rfl
      rw [hQ]; exact retI ((-4), i_length, f_text) hx hb hr hlk e9 hP rfl hS dX8_write_26
  · refine lv_bipush (v := (-2)) hx hb dX8_write_12 rfl ?_
    have e9 : v_X8_write x1 i_length f_text = ((-2), i_length, f_text) := by
      refine (bnd_eq ho_6).trans ?_
      refine (if_pos c_9).trans ?_
      rfl
    rw [hQ]; exact retI ((-2), i_length, f_text) hx hb hr hlk e9 hP rfl hS dX8_write_14
def v_X8_wipe (i_length : Int32) : Int32 × Int32 :=
  (i_length, 0)
abbrev rm_X8_wipe : Room := { frames := 0, cells := 0, slots := 0, locals := 0 }
set_option maxHeartbeats 4000000 in
set_option maxRecDepth 100000 in
theorem k_X8_wipe (l : Launch) (D : va_G) (cI cZ : ClassId) (a a_readWishes a_readOwed a_told a_owed a_text a_row a_least a_values a_tellPlace a_tellHour a_tellDark a_isKept a_kept : Nat) (i_readHung : Int32) (i_readMany : Int32) (i_readOwes : Int32) (i_wishes : Int32) (i_hung : Int32) (i_hour : Int32) (i_length : Int32) (i_at : Int32) (i_faultAt : Int32) (i_acts : Int32) (i_next : Int32) (i_tells : Int32) (j_seed : Int64) : KI l D cI cZ yX8_wipe wsX8_wipe rm_X8_wipe [.ref a] [(a, .inr (8, [.ref a_readWishes, .ref a_readOwed, .int i_readHung, .int i_readMany, .int i_readOwes, .ref a_told, .ref a_owed, .int i_wishes, .int i_hung, .int i_hour, .ref a_text, .int i_length, .int i_at, .int i_faultAt, .int i_acts, .int i_next, .ref a_row, .ref a_least, .ref a_values, .int i_tells, .ref a_tellPlace, .ref a_tellHour, .ref a_tellDark, .long j_seed, .ref a_isKept, .ref a_kept]))] (v_X8_wipe i_length) (fun o : Int32 × Int32 => o.1) (fun o : Int32 × Int32 => [(a, .inr (8, [.ref a_readWishes, .ref a_readOwed, .int i_readHung, .int i_readMany, .int i_readOwes, .ref a_told, .ref a_owed, .int i_wishes, .int i_hung, .int i_hour, .ref a_text, .int o.2, .int i_at, .int i_faultAt, .int i_acts, .int i_next, .ref a_row, .ref a_least, .ref a_values, .int i_tells, .ref a_tellPlace, .ref a_tellHour, .ref a_tellDark, .long j_seed, .ref a_isKept, .ref a_kept]))]) := by
  refine KI.of cX8_wipe 2 (some .int) (by decide) rfl (Nat.le_of_ble_eq_true rfl) ?_
  intro p e s m below meth c A ls ar Q hQ B
  obtain ⟨hx, hb, hr, hml, hts, hown, hlk, hK, hN, hP, hD, hA, hS, hl⟩ := B
  have hown : s.vm.findClass RX8 = some m.cls := hown
  have hF : CallFix p m c cX8_wipe 2 s ar wsX8_wipe RX8 := ⟨hx, hb, hml, hown, hts⟩
  have hl : lv_has ls 2 [(0, .ref a)] := hl
  refine lv_aload_n hx hb dX8_wipe_0 rfl (lv_at hl 0 rfl) ?_
  refine va_get (D := D) (ci := 8) (v := .int i_length) (C := RX8) (T := TX8) (N := 26) hx hb hts (fun _ h => List.mem_cons_of_mem _ (List.mem_append_right _ (h))) hown hK hP 0 rfl rfl 11 (by decide) (hts _ (List.mem_of_getElem? (i := 1) rfl)) (fun _ h9 => h9) rfl dX8_wipe_1 ?_
  refine lv_istore_n (lv' := [(1, .int i_length), (0, .ref a)]) hx hb dX8_wipe_4 rfl hl (by decide) rfl (fun ls hl => ?_)
  refine lv_aload_n hx hb dX8_wipe_5 rfl (lv_at hl 1 rfl) ?_
  refine lv_iconst (v := 0) hx hb dX8_wipe_6 rfl ?_
  refine va_put (D := D) (ci := 8) (v := .int 0) (ty := .int) (C := RX8) (T := TX8) (N := 26) hx hb hts (fun _ h => List.mem_cons_of_mem _ (List.mem_append_right _ (h))) tyX8 tyX8_ok nmX8 hown hK hP (va_Dsame hD rfl) hS 0 rfl rfl 11 (by decide) (hts _ (List.mem_of_getElem? (i := 1) rfl)) (fun _ h9 => h9) rfl (tyX8_ok 11 (by decide)) rfl rfl (Nat.le_of_ble_eq_true rfl) dX8_wipe_7 (fun H locs hP _ hS => ?_)
  have hP : va_P D vwCl [(a, .inr (8, [.ref a_readWishes, .ref a_readOwed, .int i_readHung, .int i_readMany, .int i_readOwes, .ref a_told, .ref a_owed, .int i_wishes, .int i_hung, .int i_hour, .ref a_text, .int 0, .int i_at, .int i_faultAt, .int i_acts, .int i_next, .ref a_row, .ref a_least, .ref a_values, .int i_tells, .ref a_tellPlace, .ref a_tellHour, .ref a_tellDark, .long j_seed, .ref a_isKept, .ref a_kept]))] H := hP
  refine lv_iload_n hx hb dX8_wipe_10 rfl (lv_at hl 0 rfl) ?_
  have e9 : v_X8_wipe i_length = (i_length, 0) := by
    rfl
  rw [hQ]; exact retI (i_length, 0) hx hb hr hlk e9 hP rfl hS dX8_wipe_11
def v_X8_fail (i_at : Int32) (i_faultAt : Int32) : Int32 :=
  if i_faultAt = (-9) then i_at
  else i_faultAt
abbrev rm_X8_fail : Room := { frames := 0, cells := 0, slots := 0, locals := 0 }
set_option maxHeartbeats 4000000 in
set_option maxRecDepth 100000 in
theorem k_X8_fail (l : Launch) (D : va_G) (cI cZ : ClassId) (a a_readWishes a_readOwed a_told a_owed a_text a_row a_least a_values a_tellPlace a_tellHour a_tellDark a_isKept a_kept : Nat) (i_readHung : Int32) (i_readMany : Int32) (i_readOwes : Int32) (i_wishes : Int32) (i_hung : Int32) (i_hour : Int32) (i_length : Int32) (i_at : Int32) (i_faultAt : Int32) (i_acts : Int32) (i_next : Int32) (i_tells : Int32) (j_seed : Int64) : KV l D cI cZ yX8_fail wsX8_fail rm_X8_fail [.ref a] [(a, .inr (8, [.ref a_readWishes, .ref a_readOwed, .int i_readHung, .int i_readMany, .int i_readOwes, .ref a_told, .ref a_owed, .int i_wishes, .int i_hung, .int i_hour, .ref a_text, .int i_length, .int i_at, .int i_faultAt, .int i_acts, .int i_next, .ref a_row, .ref a_least, .ref a_values, .int i_tells, .ref a_tellPlace, .ref a_tellHour, .ref a_tellDark, .long j_seed, .ref a_isKept, .ref a_kept]))] (v_X8_fail i_at i_faultAt) (fun o : Int32 => [(a, .inr (8, [.ref a_readWishes, .ref a_readOwed, .int i_readHung, .int i_readMany, .int i_readOwes, .ref a_told, .ref a_owed, .int i_wishes, .int i_hung, .int i_hour, .ref a_text, .int i_length, .int i_at, .int o, .int i_acts, .int i_next, .ref a_row, .ref a_least, .ref a_values, .int i_tells, .ref a_tellPlace, .ref a_tellHour, .ref a_tellDark, .long j_seed, .ref a_isKept, .ref a_kept]))]) := by
  refine KV.of cX8_fail 1 none (by decide) rfl (Nat.le_of_ble_eq_true rfl) ?_
  intro p e s m below meth c A ls ar Q hQ B
  obtain ⟨hx, hb, hr, hml, hts, hown, hlk, hK, hN, hP, hD, hA, hS, hl⟩ := B
  have hown : s.vm.findClass RX8 = some m.cls := hown
  have hF : CallFix p m c cX8_fail 1 s ar wsX8_fail RX8 := ⟨hx, hb, hml, hown, hts⟩
  have hl : lv_has ls 1 [(0, .ref a)] := hl
  refine lv_aload_n hx hb dX8_fail_0 rfl (lv_at hl 0 rfl) ?_
  refine lv_aload_n hx hb dX8_fail_1 rfl (lv_at hl 0 rfl) ?_
  refine va_get (D := D) (ci := 8) (v := .int i_faultAt) (C := RX8) (T := TX8) (N := 26) hx hb hts (fun _ h => List.mem_cons_of_mem _ (List.mem_append_right _ (h))) hown hK hP 0 rfl rfl 13 (by decide) (hts _ (List.mem_of_getElem? (i := 1) rfl)) (fun _ h9 => h9) rfl dX8_fail_2 ?_
  refine lv_bipush (v := (-9)) hx hb dX8_fail_5 rfl ?_
  refine lv_icmp_ne (tgt := 17) hx hb dX8_fail_7 (by decide) (fun c_7 => ?_) (fun c_7 => ?_)
  · refine lv_aload_n hx hb dX8_fail_17 rfl (lv_at hl 0 rfl) ?_
    refine va_get (D := D) (ci := 8) (v := .int i_faultAt) (C := RX8) (T := TX8) (N := 26) hx hb hts (fun _ h => List.mem_cons_of_mem _ (List.mem_append_right _ (h))) hown hK hP 0 rfl rfl 13 (by decide) (hts _ (List.mem_of_getElem? (i := 1) rfl)) (fun _ h9 => h9) rfl dX8_fail_18 ?_
    refine va_put (D := D) (ci := 8) (v := .int i_faultAt) (ty := .int) (C := RX8) (T := TX8) (N := 26) hx hb hts (fun _ h => List.mem_cons_of_mem _ (List.mem_append_right _ (h))) tyX8 tyX8_ok nmX8 hown hK hP (va_Dsame hD rfl) hS 0 rfl rfl 13 (by decide) (hts _ (List.mem_of_getElem? (i := 1) rfl)) (fun _ h9 => h9) rfl (tyX8_ok 13 (by decide)) rfl rfl (Nat.le_of_ble_eq_true rfl) dX8_fail_21 (fun H locs hP _ hS => ?_)
    have hP : va_P D vwCl [(a, .inr (8, [.ref a_readWishes, .ref a_readOwed, .int i_readHung, .int i_readMany, .int i_readOwes, .ref a_told, .ref a_owed, .int i_wishes, .int i_hung, .int i_hour, .ref a_text, .int i_length, .int i_at, .int i_faultAt, .int i_acts, .int i_next, .ref a_row, .ref a_least, .ref a_values, .int i_tells, .ref a_tellPlace, .ref a_tellHour, .ref a_tellDark, .long j_seed, .ref a_isKept, .ref a_kept]))] H := hP
    have e9 : v_X8_fail i_at i_faultAt = i_faultAt := by
      refine (if_neg c_7).trans ?_
      rfl
    rw [hQ]; exact retV i_faultAt hx hb hr hlk e9 hP hS dX8_fail_24
  · refine lv_aload_n hx hb dX8_fail_10 rfl (lv_at hl 0 rfl) ?_
    refine va_get (D := D) (ci := 8) (v := .int i_at) (C := RX8) (T := TX8) (N := 26) hx hb hts (fun _ h => List.mem_cons_of_mem _ (List.mem_append_right _ (h))) hown hK hP 0 rfl rfl 12 (by decide) (hts _ (List.mem_of_getElem? (i := 2) rfl)) (fun _ h9 => h9) rfl dX8_fail_11 ?_
    refine lv_goto (tgt := 21) hx hb dX8_fail_14 (by decide) ?_
    refine va_put (D := D) (ci := 8) (v := .int i_at) (ty := .int) (C := RX8) (T := TX8) (N := 26) hx hb hts (fun _ h => List.mem_cons_of_mem _ (List.mem_append_right _ (h))) tyX8 tyX8_ok nmX8 hown hK hP (va_Dsame hD rfl) hS 0 rfl rfl 13 (by decide) (hts _ (List.mem_of_getElem? (i := 1) rfl)) (fun _ h9 => h9) rfl (tyX8_ok 13 (by decide)) rfl rfl (Nat.le_of_ble_eq_true rfl) dX8_fail_21 (fun H locs hP _ hS => ?_)
    have hP : va_P D vwCl [(a, .inr (8, [.ref a_readWishes, .ref a_readOwed, .int i_readHung, .int i_readMany, .int i_readOwes, .ref a_told, .ref a_owed, .int i_wishes, .int i_hung, .int i_hour, .ref a_text, .int i_length, .int i_at, .int i_at, .int i_acts, .int i_next, .ref a_row, .ref a_least, .ref a_values, .int i_tells, .ref a_tellPlace, .ref a_tellHour, .ref a_tellDark, .long j_seed, .ref a_isKept, .ref a_kept]))] H := hP
    have e9 : v_X8_fail i_at i_faultAt = i_at := by
      refine (if_pos c_7).trans ?_
      rfl
    rw [hQ]; exact retV i_at hx hb hr hlk e9 hP hS dX8_fail_24
def v_X8_figure (x1 : Int32) (i_length : Int32) (i_at : Int32) (i_faultAt : Int32) (f_text : Nat → Int32) : Int32 × Int32 × Int32 :=
  if i_faultAt = (-9) then (if i_length ≤ i_at then (bnd (v_X8_in (-1) 0 9) fun o_43 =>
      (if bI o_43 = 0 then (bnd (v_X8_fail i_at i_faultAt) fun o_58 =>
        (0, i_at, o_58))
      else (if ((x1 >>> ((-1 : Int32) &&& 31)) &&& 1) = 0 then (bnd (v_X8_fail i_at i_faultAt) fun o_58 =>
        (0, i_at, o_58))
      else ((-1), (i_at + 1), i_faultAt))))
    else (bnd (v_X8_in (((f_text i_at.toNatClampNeg) - 48).toInt64) 0 9) fun o_43 =>
    (if bI o_43 = 0 then (bnd (v_X8_fail i_at i_faultAt) fun o_58 =>
      (0, i_at, o_58))
    else (if ((x1 >>> (((f_text i_at.toNatClampNeg) - 48) &&& 31)) &&& 1) = 0 then (bnd (v_X8_fail i_at i_faultAt) fun o_58 =>
      (0, i_at, o_58))
    else (((f_text i_at.toNatClampNeg) - 48), (i_at + 1), i_faultAt)))))
  else (bnd (v_X8_in (-1) 0 9) fun o_43 =>
  (if bI o_43 = 0 then (bnd (v_X8_fail i_at i_faultAt) fun o_58 =>
    (0, i_at, o_58))
  else (if ((x1 >>> ((-1 : Int32) &&& 31)) &&& 1) = 0 then (bnd (v_X8_fail i_at i_faultAt) fun o_58 =>
    (0, i_at, o_58))
  else ((-1), (i_at + 1), i_faultAt))))
abbrev rm_X8_figure : Room := { frames := 1, cells := 0, slots := 0, locals := 25 }
set_option maxHeartbeats 4000000 in
set_option maxRecDepth 100000 in
theorem k_X8_figure (l : Launch) (D : va_G) (cI cZ : ClassId) (a a_readWishes a_readOwed a_told a_owed a_text a_row a_least a_values a_tellPlace a_tellHour a_tellDark a_isKept a_kept : Nat) (x1 : Int32) (i_readHung : Int32) (i_readMany : Int32) (i_readOwes : Int32) (i_wishes : Int32) (i_hung : Int32) (i_hour : Int32) (i_length : Int32) (i_at : Int32) (i_faultAt : Int32) (i_acts : Int32) (i_next : Int32) (i_tells : Int32) (j_seed : Int64) (f_text : Nat → Int32) (hat : vp_in i_at 73) (hl0 : vp_in i_length 73) : KI l D cI cZ yX8_figure wsX8_figure rm_X8_figure [.ref a, .int x1] [(a, .inr (8, [.ref a_readWishes, .ref a_readOwed, .int i_readHung, .int i_readMany, .int i_readOwes, .ref a_told, .ref a_owed, .int i_wishes, .int i_hung, .int i_hour, .ref a_text, .int i_length, .int i_at, .int i_faultAt, .int i_acts, .int i_next, .ref a_row, .ref a_least, .ref a_values, .int i_tells, .ref a_tellPlace, .ref a_tellHour, .ref a_tellDark, .long j_seed, .ref a_isKept, .ref a_kept])), (a_text, .inl (cI, 72, .inl f_text))] (v_X8_figure x1 i_length i_at i_faultAt f_text) (fun o : Int32 × Int32 × Int32 => o.1) (fun o : Int32 × Int32 × Int32 => [(a, .inr (8, [.ref a_readWishes, .ref a_readOwed, .int i_readHung, .int i_readMany, .int i_readOwes, .ref a_told, .ref a_owed, .int i_wishes, .int i_hung, .int i_hour, .ref a_text, .int i_length, .int o.2.1, .int o.2.2, .int i_acts, .int i_next, .ref a_row, .ref a_least, .ref a_values, .int i_tells, .ref a_tellPlace, .ref a_tellHour, .ref a_tellDark, .long j_seed, .ref a_isKept, .ref a_kept])), (a_text, .inl (cI, 72, .inl f_text))]) := by
  refine KI.of cX8_figure 3 (some .int) (by decide) rfl (Nat.le_of_ble_eq_true rfl) ?_
  intro p e s m below meth c A ls ar Q hQ B
  obtain ⟨hx, hb, hr, hml, hts, hown, hlk, hK, hN, hP, hD, hA, hS, hl⟩ := B
  have hown : s.vm.findClass RX8 = some m.cls := hown
  have hF : CallFix p m c cX8_figure 3 s ar wsX8_figure RX8 := ⟨hx, hb, hml, hown, hts⟩
  have hl : lv_has ls 3 [(0, .ref a), (1, .int x1)] := hl
  refine lv_aload_n hx hb dX8_figure_0 rfl (lv_at hl 0 rfl) ?_
  refine va_get (D := D) (ci := 8) (v := .int i_faultAt) (C := RX8) (T := TX8) (N := 26) hx hb hts (fun _ h => List.mem_cons_of_mem _ (List.mem_append_right _ (h))) hown hK hP 0 rfl rfl 13 (by decide) (hts _ (List.mem_of_getElem? (i := 1) rfl)) (fun _ h9 => h9) rfl dX8_figure_1 ?_
  refine lv_bipush (v := (-9)) hx hb dX8_figure_4 rfl ?_
  refine lv_icmp_ne (tgt := 35) hx hb dX8_figure_6 (by decide) (fun c_6 => ?_) (fun c_6 => ?_)
  · refine lv_iconst (v := (-1)) hx hb dX8_figure_35 rfl ?_
    refine lv_istore_n (lv' := [(2, .int (-1)), (0, .ref a), (1, .int x1)]) hx hb dX8_figure_36 rfl hl (by decide) rfl (fun ls hl => ?_)
    refine lv_iload_n hx hb dX8_figure_37 rfl (lv_at hl 0 rfl) ?_
    refine lv_i2l (v := (-1)) hx hb dX8_figure_38 rfl ?_
    refine lv_lconst (v := 0) hx hb dX8_figure_39 rfl ?_
    refine lv_ldc2 (v := 9) hx hb hown (hts _ (List.mem_of_getElem? (i := 5) rfl)) dX8_figure_40 ?_
    obtain ⟨o_43, ho_43⟩ : ∃ z : Bool, z = v_X8_in (-1) 0 9 := ⟨_, rfl⟩
    refine callSIs (As := [.long (-1), .long 0, .long 9]) (rest := []) o_43 ho_43 hF (k_X8_in l D cI cZ (-1) 0 9) (va_cwS 3 hts gX8_figure_X8_in rfl rfl rfl (by decide +kernel) ⟨Nat.le_of_ble_eq_true rfl, Nat.le_of_ble_eq_true rfl⟩) hK hN hP (va_Dsame hD rfl) hS hA [] rfl rfl rfl hl.1 rfl (Nat.le_of_ble_eq_true rfl) dX8_figure_43 ⟨Nat.zero_le _, Nat.zero_le _⟩ (bI o_43) rfl rfl (fun H locs hP hS => ?_)
    refine lv_if_eq (tgt := 57) hx hb dX8_figure_46 (by decide) (fun c_46 => ?_) (fun c_46 => ?_)
    · refine lv_aload_n hx hb dX8_figure_57 rfl (lv_at hl 1 rfl) ?_
      obtain ⟨o_58, ho_58⟩ : ∃ z : Int32, z = v_X8_fail i_at i_faultAt := ⟨_, rfl⟩
      refine callVV (As := []) (rest := []) o_58 ho_58 hF (k_X8_fail l D cI cZ a a_readWishes a_readOwed a_told a_owed a_text a_row a_least a_values a_tellPlace a_tellHour a_tellDark a_isKept a_kept i_readHung i_readMany i_readOwes i_wishes i_hung i_hour i_length i_at i_faultAt i_acts i_next i_tells j_seed) (cwV 0 hts gX8_figure_X8_fail rfl rfl rfl (by decide +kernel) ⟨Nat.le_of_ble_eq_true rfl, Nat.le_of_ble_eq_true rfl⟩) hK hN hP (va_Dsame hD rfl) hS hA [0] rfl rfl 0 8 (T := TX8) (N := 26) rfl rfl rfl hl.1 rfl (Nat.le_of_ble_eq_true rfl) dX8_figure_58 ⟨Nat.zero_le _, Nat.zero_le _⟩ [some 0, none] 1 [(a, .inr (8, [.ref a_readWishes, .ref a_readOwed, .int i_readHung, .int i_readMany, .int i_readOwes, .ref a_told, .ref a_owed, .int i_wishes, .int i_hung, .int i_hour, .ref a_text, .int i_length, .int i_at, .int o_58, .int i_acts, .int i_next, .ref a_row, .ref a_least, .ref a_values, .int i_tells, .ref a_tellPlace, .ref a_tellHour, .ref a_tellDark, .long j_seed, .ref a_isKept, .ref a_kept])), (a_text, .inl (cI, 72, .inl f_text))] rfl rfl (by decide) (fun H locs hP hS => ?_)
      refine lv_iconst (v := 0) hx hb dX8_figure_61 rfl ?_
      have e9 : v_X8_figure x1 i_length i_at i_faultAt f_text = (0, i_at, o_58) := by
        refine (if_neg c_6).trans ?_
        refine (bnd_eq ho_43).trans ?_
        refine (if_pos c_46).trans ?_
        refine (bnd_eq ho_58).trans ?_
        rfl
      rw [hQ]; exact retI (0, i_at, o_58) hx hb hr hlk e9 hP rfl hS dX8_figure_62
    · refine lv_iload_n hx hb dX8_figure_49 rfl (lv_at hl 2 rfl) ?_
      refine lv_iload_n hx hb dX8_figure_50 rfl (lv_at hl 0 rfl) ?_
      refine lv_ishr hx hb dX8_figure_51 ?_
      refine lv_iconst (v := 1) hx hb dX8_figure_52 rfl ?_
      refine lv_iand hx hb dX8_figure_53 ?_
      refine lv_if_ne (tgt := 63) hx hb dX8_figure_54 (by decide) (fun c_54 => ?_) (fun c_54 => ?_)
      · refine lv_aload_n hx hb dX8_figure_63 rfl (lv_at hl 1 rfl) ?_
        refine lv_dup hx hb dX8_figure_64 rfl ?_
        refine va_get (D := D) (ci := 8) (v := .int i_at) (C := RX8) (T := TX8) (N := 26) hx hb hts (fun _ h => List.mem_cons_of_mem _ (List.mem_append_right _ (h))) hown hK hP 0 rfl rfl 12 (by decide) (hts _ (List.mem_of_getElem? (i := 2) rfl)) (fun _ h9 => h9) rfl dX8_figure_65 ?_
        refine lv_iconst (v := 1) hx hb dX8_figure_68 rfl ?_
        refine lv_iadd hx hb dX8_figure_69 ?_
        refine va_put (D := D) (ci := 8) (v := .int (i_at + 1)) (ty := .int) (C := RX8) (T := TX8) (N := 26) hx hb hts (fun _ h => List.mem_cons_of_mem _ (List.mem_append_right _ (h))) tyX8 tyX8_ok nmX8 hown hK hP (va_Dsame hD rfl) hS 0 rfl rfl 12 (by decide) (hts _ (List.mem_of_getElem? (i := 2) rfl)) (fun _ h9 => h9) rfl (tyX8_ok 12 (by decide)) rfl rfl (Nat.le_of_ble_eq_true rfl) dX8_figure_70 (fun H locs hP _ hS => ?_)
        have hP : va_P D vwCl [(a, .inr (8, [.ref a_readWishes, .ref a_readOwed, .int i_readHung, .int i_readMany, .int i_readOwes, .ref a_told, .ref a_owed, .int i_wishes, .int i_hung, .int i_hour, .ref a_text, .int i_length, .int (i_at + 1), .int i_faultAt, .int i_acts, .int i_next, .ref a_row, .ref a_least, .ref a_values, .int i_tells, .ref a_tellPlace, .ref a_tellHour, .ref a_tellDark, .long j_seed, .ref a_isKept, .ref a_kept])), (a_text, .inl (cI, 72, .inl f_text))] H := hP
        refine lv_iload_n hx hb dX8_figure_73 rfl (lv_at hl 0 rfl) ?_
        have e9 : v_X8_figure x1 i_length i_at i_faultAt f_text = ((-1), (i_at + 1), i_faultAt) := by
          refine (if_neg c_6).trans ?_
          refine (bnd_eq ho_43).trans ?_
          refine (if_neg c_46).trans ?_
          refine (if_neg c_54).trans ?_
          rfl
        rw [hQ]; exact retI ((-1), (i_at + 1), i_faultAt) hx hb hr hlk e9 hP rfl hS dX8_figure_74
      · refine lv_aload_n hx hb dX8_figure_57 rfl (lv_at hl 1 rfl) ?_
        obtain ⟨o_58, ho_58⟩ : ∃ z : Int32, z = v_X8_fail i_at i_faultAt := ⟨_, rfl⟩
        refine callVV (As := []) (rest := []) o_58 ho_58 hF (k_X8_fail l D cI cZ a a_readWishes a_readOwed a_told a_owed a_text a_row a_least a_values a_tellPlace a_tellHour a_tellDark a_isKept a_kept i_readHung i_readMany i_readOwes i_wishes i_hung i_hour i_length i_at i_faultAt i_acts i_next i_tells j_seed) (cwV 0 hts gX8_figure_X8_fail rfl rfl rfl (by decide +kernel) ⟨Nat.le_of_ble_eq_true rfl, Nat.le_of_ble_eq_true rfl⟩) hK hN hP (va_Dsame hD rfl) hS hA [0] rfl rfl 0 8 (T := TX8) (N := 26) rfl rfl rfl hl.1 rfl (Nat.le_of_ble_eq_true rfl) dX8_figure_58 ⟨Nat.zero_le _, Nat.zero_le _⟩ [some 0, none] 1 [(a, .inr (8, [.ref a_readWishes, .ref a_readOwed, .int i_readHung, .int i_readMany, .int i_readOwes, .ref a_told, .ref a_owed, .int i_wishes, .int i_hung, .int i_hour, .ref a_text, .int i_length, .int i_at, .int o_58, .int i_acts, .int i_next, .ref a_row, .ref a_least, .ref a_values, .int i_tells, .ref a_tellPlace, .ref a_tellHour, .ref a_tellDark, .long j_seed, .ref a_isKept, .ref a_kept])), (a_text, .inl (cI, 72, .inl f_text))] rfl rfl (by decide) (fun H locs hP hS => ?_)
        refine lv_iconst (v := 0) hx hb dX8_figure_61 rfl ?_
        have e9 : v_X8_figure x1 i_length i_at i_faultAt f_text = (0, i_at, o_58) := by
          refine (if_neg c_6).trans ?_
          refine (bnd_eq ho_43).trans ?_
          refine (if_neg c_46).trans ?_
          refine (if_pos c_54).trans ?_
          refine (bnd_eq ho_58).trans ?_
          rfl
        rw [hQ]; exact retI (0, i_at, o_58) hx hb hr hlk e9 hP rfl hS dX8_figure_62
  · refine lv_aload_n hx hb dX8_figure_9 rfl (lv_at hl 0 rfl) ?_
    refine va_get (D := D) (ci := 8) (v := .int i_at) (C := RX8) (T := TX8) (N := 26) hx hb hts (fun _ h => List.mem_cons_of_mem _ (List.mem_append_right _ (h))) hown hK hP 0 rfl rfl 12 (by decide) (hts _ (List.mem_of_getElem? (i := 2) rfl)) (fun _ h9 => h9) rfl dX8_figure_10 ?_
    refine lv_aload_n hx hb dX8_figure_13 rfl (lv_at hl 0 rfl) ?_
    refine va_get (D := D) (ci := 8) (v := .int i_length) (C := RX8) (T := TX8) (N := 26) hx hb hts (fun _ h => List.mem_cons_of_mem _ (List.mem_append_right _ (h))) hown hK hP 0 rfl rfl 11 (by decide) (hts _ (List.mem_of_getElem? (i := 3) rfl)) (fun _ h9 => h9) rfl dX8_figure_14 ?_
    refine lv_icmp_ge (tgt := 35) hx hb dX8_figure_17 (by decide) (fun c_17 => ?_) (fun c_17 => ?_)
    · refine lv_iconst (v := (-1)) hx hb dX8_figure_35 rfl ?_
      refine lv_istore_n (lv' := [(2, .int (-1)), (0, .ref a), (1, .int x1)]) hx hb dX8_figure_36 rfl hl (by decide) rfl (fun ls hl => ?_)
      refine lv_iload_n hx hb dX8_figure_37 rfl (lv_at hl 0 rfl) ?_
      refine lv_i2l (v := (-1)) hx hb dX8_figure_38 rfl ?_
      refine lv_lconst (v := 0) hx hb dX8_figure_39 rfl ?_
      refine lv_ldc2 (v := 9) hx hb hown (hts _ (List.mem_of_getElem? (i := 5) rfl)) dX8_figure_40 ?_
      obtain ⟨o_43, ho_43⟩ : ∃ z : Bool, z = v_X8_in (-1) 0 9 := ⟨_, rfl⟩
      refine callSIs (As := [.long (-1), .long 0, .long 9]) (rest := []) o_43 ho_43 hF (k_X8_in l D cI cZ (-1) 0 9) (va_cwS 3 hts gX8_figure_X8_in rfl rfl rfl (by decide +kernel) ⟨Nat.le_of_ble_eq_true rfl, Nat.le_of_ble_eq_true rfl⟩) hK hN hP (va_Dsame hD rfl) hS hA [] rfl rfl rfl hl.1 rfl (Nat.le_of_ble_eq_true rfl) dX8_figure_43 ⟨Nat.zero_le _, Nat.zero_le _⟩ (bI o_43) rfl rfl (fun H locs hP hS => ?_)
      refine lv_if_eq (tgt := 57) hx hb dX8_figure_46 (by decide) (fun c_46 => ?_) (fun c_46 => ?_)
      · refine lv_aload_n hx hb dX8_figure_57 rfl (lv_at hl 1 rfl) ?_
        obtain ⟨o_58, ho_58⟩ : ∃ z : Int32, z = v_X8_fail i_at i_faultAt := ⟨_, rfl⟩
        refine callVV (As := []) (rest := []) o_58 ho_58 hF (k_X8_fail l D cI cZ a a_readWishes a_readOwed a_told a_owed a_text a_row a_least a_values a_tellPlace a_tellHour a_tellDark a_isKept a_kept i_readHung i_readMany i_readOwes i_wishes i_hung i_hour i_length i_at i_faultAt i_acts i_next i_tells j_seed) (cwV 0 hts gX8_figure_X8_fail rfl rfl rfl (by decide +kernel) ⟨Nat.le_of_ble_eq_true rfl, Nat.le_of_ble_eq_true rfl⟩) hK hN hP (va_Dsame hD rfl) hS hA [0] rfl rfl 0 8 (T := TX8) (N := 26) rfl rfl rfl hl.1 rfl (Nat.le_of_ble_eq_true rfl) dX8_figure_58 ⟨Nat.zero_le _, Nat.zero_le _⟩ [some 0, none] 1 [(a, .inr (8, [.ref a_readWishes, .ref a_readOwed, .int i_readHung, .int i_readMany, .int i_readOwes, .ref a_told, .ref a_owed, .int i_wishes, .int i_hung, .int i_hour, .ref a_text, .int i_length, .int i_at, .int o_58, .int i_acts, .int i_next, .ref a_row, .ref a_least, .ref a_values, .int i_tells, .ref a_tellPlace, .ref a_tellHour, .ref a_tellDark, .long j_seed, .ref a_isKept, .ref a_kept])), (a_text, .inl (cI, 72, .inl f_text))] rfl rfl (by decide) (fun H locs hP hS => ?_)
        refine lv_iconst (v := 0) hx hb dX8_figure_61 rfl ?_
        have e9 : v_X8_figure x1 i_length i_at i_faultAt f_text = (0, i_at, o_58) := by
          refine (if_pos c_6).trans ?_
          refine (if_pos c_17).trans ?_
          refine (bnd_eq ho_43).trans ?_
          refine (if_pos c_46).trans ?_
          refine (bnd_eq ho_58).trans ?_
          rfl
        rw [hQ]; exact retI (0, i_at, o_58) hx hb hr hlk e9 hP rfl hS dX8_figure_62
      · refine lv_iload_n hx hb dX8_figure_49 rfl (lv_at hl 2 rfl) ?_
        refine lv_iload_n hx hb dX8_figure_50 rfl (lv_at hl 0 rfl) ?_
        refine lv_ishr hx hb dX8_figure_51 ?_
        refine lv_iconst (v := 1) hx hb dX8_figure_52 rfl ?_
        refine lv_iand hx hb dX8_figure_53 ?_
        refine lv_if_ne (tgt := 63) hx hb dX8_figure_54 (by decide) (fun c_54 => ?_) (fun c_54 => ?_)
        · refine lv_aload_n hx hb dX8_figure_63 rfl (lv_at hl 1 rfl) ?_
          refine lv_dup hx hb dX8_figure_64 rfl ?_
          refine va_get (D := D) (ci := 8) (v := .int i_at) (C := RX8) (T := TX8) (N := 26) hx hb hts (fun _ h => List.mem_cons_of_mem _ (List.mem_append_right _ (h))) hown hK hP 0 rfl rfl 12 (by decide) (hts _ (List.mem_of_getElem? (i := 2) rfl)) (fun _ h9 => h9) rfl dX8_figure_65 ?_
          refine lv_iconst (v := 1) hx hb dX8_figure_68 rfl ?_
          refine lv_iadd hx hb dX8_figure_69 ?_
          refine va_put (D := D) (ci := 8) (v := .int (i_at + 1)) (ty := .int) (C := RX8) (T := TX8) (N := 26) hx hb hts (fun _ h => List.mem_cons_of_mem _ (List.mem_append_right _ (h))) tyX8 tyX8_ok nmX8 hown hK hP (va_Dsame hD rfl) hS 0 rfl rfl 12 (by decide) (hts _ (List.mem_of_getElem? (i := 2) rfl)) (fun _ h9 => h9) rfl (tyX8_ok 12 (by decide)) rfl rfl (Nat.le_of_ble_eq_true rfl) dX8_figure_70 (fun H locs hP _ hS => ?_)
          have hP : va_P D vwCl [(a, .inr (8, [.ref a_readWishes, .ref a_readOwed, .int i_readHung, .int i_readMany, .int i_readOwes, .ref a_told, .ref a_owed, .int i_wishes, .int i_hung, .int i_hour, .ref a_text, .int i_length, .int (i_at + 1), .int i_faultAt, .int i_acts, .int i_next, .ref a_row, .ref a_least, .ref a_values, .int i_tells, .ref a_tellPlace, .ref a_tellHour, .ref a_tellDark, .long j_seed, .ref a_isKept, .ref a_kept])), (a_text, .inl (cI, 72, .inl f_text))] H := hP
          refine lv_iload_n hx hb dX8_figure_73 rfl (lv_at hl 0 rfl) ?_
          have e9 : v_X8_figure x1 i_length i_at i_faultAt f_text = ((-1), (i_at + 1), i_faultAt) := by
            refine (if_pos c_6).trans ?_
            refine (if_pos c_17).trans ?_
            refine (bnd_eq ho_43).trans ?_
            refine (if_neg c_46).trans ?_
            refine (if_neg c_54).trans ?_
            rfl
          rw [hQ]; exact retI ((-1), (i_at + 1), i_faultAt) hx hb hr hlk e9 hP rfl hS dX8_figure_74
        · refine lv_aload_n hx hb dX8_figure_57 rfl (lv_at hl 1 rfl) ?_
          obtain ⟨o_58, ho_58⟩ : ∃ z : Int32, z = v_X8_fail i_at i_faultAt := ⟨_, rfl⟩
          refine callVV (As := []) (rest := []) o_58 ho_58 hF (k_X8_fail l D cI cZ a a_readWishes a_readOwed a_told a_owed a_text a_row a_least a_values a_tellPlace a_tellHour a_tellDark a_isKept a_kept i_readHung i_readMany i_readOwes i_wishes i_hung i_hour i_length i_at i_faultAt i_acts i_next i_tells j_seed) (cwV 0 hts gX8_figure_X8_fail rfl rfl rfl (by decide +kernel) ⟨Nat.le_of_ble_eq_true rfl, Nat.le_of_ble_eq_true rfl⟩) hK hN hP (va_Dsame hD rfl) hS hA [0] rfl rfl 0 8 (T := TX8) (N := 26) rfl rfl rfl hl.1 rfl (Nat.le_of_ble_eq_true rfl) dX8_figure_58 ⟨Nat.zero_le _, Nat.zero_le _⟩ [some 0, none] 1 [(a, .inr (8, [.ref a_readWishes, .ref a_readOwed, .int i_readHung, .int i_readMany, .int i_readOwes, .ref a_told, .ref a_owed, .int i_wishes, .int i_hung, .int i_hour, .ref a_text, .int i_length, .int i_at, .int o_58, .int i_acts, .int i_next, .ref a_row, .ref a_least, .ref a_values, .int i_tells, .ref a_tellPlace, .ref a_tellHour, .ref a_tellDark, .long j_seed, .ref a_isKept, .ref a_kept])), (a_text, .inl (cI, 72, .inl f_text))] rfl rfl (by decide) (fun H locs hP hS => ?_)
          refine lv_iconst (v := 0) hx hb dX8_figure_61 rfl ?_
          have e9 : v_X8_figure x1 i_length i_at i_faultAt f_text = (0, i_at, o_58) := by
            refine (if_pos c_6).trans ?_
            refine (if_pos c_17).trans ?_
            refine (bnd_eq ho_43).trans ?_
            refine (if_neg c_46).trans ?_
            refine (if_pos c_54).trans ?_
            refine (bnd_eq ho_58).trans ?_
            rfl
          rw [hQ]; exact retI (0, i_at, o_58) hx hb hr hlk e9 hP rfl hS dX8_figure_62
    · refine lv_aload_n hx hb dX8_figure_20 rfl (lv_at hl 0 rfl) ?_
      refine va_get (D := D) (ci := 8) (v := .ref a_text) (C := RX8) (T := TX8) (N := 26) hx hb hts (fun _ h => List.mem_cons_of_mem _ (List.mem_append_right _ (h))) hown hK hP 0 rfl rfl 10 (by decide) (hts _ (List.mem_of_getElem? (i := 4) rfl)) (fun _ h9 => h9) rfl dX8_figure_21 ?_
      refine lv_aload_n hx hb dX8_figure_24 rfl (lv_at hl 0 rfl) ?_
      refine va_get (D := D) (ci := 8) (v := .int i_at) (C := RX8) (T := TX8) (N := 26) hx hb hts (fun _ h => List.mem_cons_of_mem _ (List.mem_append_right _ (h))) hown hK hP 0 rfl rfl 12 (by decide) (hts _ (List.mem_of_getElem? (i := 2) rfl)) (fun _ h9 => h9) rfl dX8_figure_25 ?_
      refine va_iald hx hb hK hP 1 0 rfl rfl (vin_lt hat hl0 c_17) dX8_figure_28 ?_
      refine lv_bipush (v := 48) hx hb dX8_figure_29 rfl ?_
      refine lv_isub hx hb dX8_figure_31 ?_
      refine lv_goto (tgt := 36) hx hb dX8_figure_32 (by decide) ?_
      refine lv_istore_n (lv' := [(2, .int ((f_text i_at.toNatClampNeg) - 48)), (0, .ref a), (1, .int x1)]) hx hb dX8_figure_36 rfl hl (by decide) rfl (fun ls hl => ?_)
      refine lv_iload_n hx hb dX8_figure_37 rfl (lv_at hl 0 rfl) ?_
      refine lv_i2l (v := (((f_text i_at.toNatClampNeg) - 48).toInt64)) hx hb dX8_figure_38 rfl ?_
      refine lv_lconst (v := 0) hx hb dX8_figure_39 rfl ?_
      refine lv_ldc2 (v := 9) hx hb hown (hts _ (List.mem_of_getElem? (i := 5) rfl)) dX8_figure_40 ?_
      obtain ⟨o_43, ho_43⟩ : ∃ z : Bool, z = v_X8_in (((f_text i_at.toNatClampNeg) - 48).toInt64) 0 9 := ⟨_, rfl⟩
      refine callSIs (As := [.long (((f_text i_at.toNatClampNeg) - 48).toInt64), .long 0, .long 9]) (rest := []) o_43 ho_43 hF (k_X8_in l D cI cZ (((f_text i_at.toNatClampNeg) - 48).toInt64) 0 9) (va_cwS 3 hts gX8_figure_X8_in rfl rfl rfl (by decide +kernel) ⟨Nat.le_of_ble_eq_true rfl, Nat.le_of_ble_eq_true rfl⟩) hK hN hP (va_Dsame hD rfl) hS hA [] rfl rfl rfl hl.1 rfl (Nat.le_of_ble_eq_true rfl) dX8_figure_43 ⟨Nat.zero_le _, Nat.zero_le _⟩ (bI o_43) rfl rfl (fun H locs hP hS => ?_)
      refine lv_if_eq (tgt := 57) hx hb dX8_figure_46 (by decide) (fun c_46 => ?_) (fun c_46 => ?_)
      · refine lv_aload_n hx hb dX8_figure_57 rfl (lv_at hl 1 rfl) ?_
        obtain ⟨o_58, ho_58⟩ : ∃ z : Int32, z = v_X8_fail i_at i_faultAt := ⟨_, rfl⟩
        refine callVV (As := []) (rest := []) o_58 ho_58 hF (k_X8_fail l D cI cZ a a_readWishes a_readOwed a_told a_owed a_text a_row a_least a_values a_tellPlace a_tellHour a_tellDark a_isKept a_kept i_readHung i_readMany i_readOwes i_wishes i_hung i_hour i_length i_at i_faultAt i_acts i_next i_tells j_seed) (cwV 0 hts gX8_figure_X8_fail rfl rfl rfl (by decide +kernel) ⟨Nat.le_of_ble_eq_true rfl, Nat.le_of_ble_eq_true rfl⟩) hK hN hP (va_Dsame hD rfl) hS hA [0] rfl rfl 0 8 (T := TX8) (N := 26) rfl rfl rfl hl.1 rfl (Nat.le_of_ble_eq_true rfl) dX8_figure_58 ⟨Nat.zero_le _, Nat.zero_le _⟩ [some 0, none] 1 [(a, .inr (8, [.ref a_readWishes, .ref a_readOwed, .int i_readHung, .int i_readMany, .int i_readOwes, .ref a_told, .ref a_owed, .int i_wishes, .int i_hung, .int i_hour, .ref a_text, .int i_length, .int i_at, .int o_58, .int i_acts, .int i_next, .ref a_row, .ref a_least, .ref a_values, .int i_tells, .ref a_tellPlace, .ref a_tellHour, .ref a_tellDark, .long j_seed, .ref a_isKept, .ref a_kept])), (a_text, .inl (cI, 72, .inl f_text))] rfl rfl (by decide) (fun H locs hP hS => ?_)
        refine lv_iconst (v := 0) hx hb dX8_figure_61 rfl ?_
        have e9 : v_X8_figure x1 i_length i_at i_faultAt f_text = (0, i_at, o_58) := by
          refine (if_pos c_6).trans ?_
          refine (if_neg c_17).trans ?_
          refine (bnd_eq ho_43).trans ?_
          refine (if_pos c_46).trans ?_
          refine (bnd_eq ho_58).trans ?_
          rfl
        rw [hQ]; exact retI (0, i_at, o_58) hx hb hr hlk e9 hP rfl hS dX8_figure_62
      · refine lv_iload_n hx hb dX8_figure_49 rfl (lv_at hl 2 rfl) ?_
        refine lv_iload_n hx hb dX8_figure_50 rfl (lv_at hl 0 rfl) ?_
        refine lv_ishr hx hb dX8_figure_51 ?_
        refine lv_iconst (v := 1) hx hb dX8_figure_52 rfl ?_
        refine lv_iand hx hb dX8_figure_53 ?_
        refine lv_if_ne (tgt := 63) hx hb dX8_figure_54 (by decide) (fun c_54 => ?_) (fun c_54 => ?_)
        · refine lv_aload_n hx hb dX8_figure_63 rfl (lv_at hl 1 rfl) ?_
          refine lv_dup hx hb dX8_figure_64 rfl ?_
          refine va_get (D := D) (ci := 8) (v := .int i_at) (C := RX8) (T := TX8) (N := 26) hx hb hts (fun _ h => List.mem_cons_of_mem _ (List.mem_append_right _ (h))) hown hK hP 0 rfl rfl 12 (by decide) (hts _ (List.mem_of_getElem? (i := 2) rfl)) (fun _ h9 => h9) rfl dX8_figure_65 ?_
          refine lv_iconst (v := 1) hx hb dX8_figure_68 rfl ?_
          refine lv_iadd hx hb dX8_figure_69 ?_
          refine va_put (D := D) (ci := 8) (v := .int (i_at + 1)) (ty := .int) (C := RX8) (T := TX8) (N := 26) hx hb hts (fun _ h => List.mem_cons_of_mem _ (List.mem_append_right _ (h))) tyX8 tyX8_ok nmX8 hown hK hP (va_Dsame hD rfl) hS 0 rfl rfl 12 (by decide) (hts _ (List.mem_of_getElem? (i := 2) rfl)) (fun _ h9 => h9) rfl (tyX8_ok 12 (by decide)) rfl rfl (Nat.le_of_ble_eq_true rfl) dX8_figure_70 (fun H locs hP _ hS => ?_)
          have hP : va_P D vwCl [(a, .inr (8, [.ref a_readWishes, .ref a_readOwed, .int i_readHung, .int i_readMany, .int i_readOwes, .ref a_told, .ref a_owed, .int i_wishes, .int i_hung, .int i_hour, .ref a_text, .int i_length, .int (i_at + 1), .int i_faultAt, .int i_acts, .int i_next, .ref a_row, .ref a_least, .ref a_values, .int i_tells, .ref a_tellPlace, .ref a_tellHour, .ref a_tellDark, .long j_seed, .ref a_isKept, .ref a_kept])), (a_text, .inl (cI, 72, .inl f_text))] H := hP
          refine lv_iload_n hx hb dX8_figure_73 rfl (lv_at hl 0 rfl) ?_
          have e9 : v_X8_figure x1 i_length i_at i_faultAt f_text = (((f_text i_at.toNatClampNeg) - 48), (i_at + 1), i_faultAt) := by
            refine (if_pos c_6).trans ?_
            refine (if_neg c_17).trans ?_
            refine (bnd_eq ho_43).trans ?_
            refine (if_neg c_46).trans ?_
            refine (if_neg c_54).trans ?_
            rfl
          rw [hQ]; exact retI (((f_text i_at.toNatClampNeg) - 48), (i_at + 1), i_faultAt) hx hb hr hlk e9 hP rfl hS dX8_figure_74
        · refine lv_aload_n hx hb dX8_figure_57 rfl (lv_at hl 1 rfl) ?_
          obtain ⟨o_58, ho_58⟩ : ∃ z : Int32, z = v_X8_fail i_at i_faultAt := ⟨_, rfl⟩
          refine callVV (As := []) (rest := []) o_58 ho_58 hF (k_X8_fail l D cI cZ a a_readWishes a_readOwed a_told a_owed a_text a_row a_least a_values a_tellPlace a_tellHour a_tellDark a_isKept a_kept i_readHung i_readMany i_readOwes i_wishes i_hung i_hour i_length i_at i_faultAt i_acts i_next i_tells j_seed) (cwV 0 hts gX8_figure_X8_fail rfl rfl rfl (by decide +kernel) ⟨Nat.le_of_ble_eq_true rfl, Nat.le_of_ble_eq_true rfl⟩) hK hN hP (va_Dsame hD rfl) hS hA [0] rfl rfl 0 8 (T := TX8) (N := 26) rfl rfl rfl hl.1 rfl (Nat.le_of_ble_eq_true rfl) dX8_figure_58 ⟨Nat.zero_le _, Nat.zero_le _⟩ [some 0, none] 1 [(a, .inr (8, [.ref a_readWishes, .ref a_readOwed, .int i_readHung, .int i_readMany, .int i_readOwes, .ref a_told, .ref a_owed, .int i_wishes, .int i_hung, .int i_hour, .ref a_text, .int i_length, .int i_at, .int o_58, .int i_acts, .int i_next, .ref a_row, .ref a_least, .ref a_values, .int i_tells, .ref a_tellPlace, .ref a_tellHour, .ref a_tellDark, .long j_seed, .ref a_isKept, .ref a_kept])), (a_text, .inl (cI, 72, .inl f_text))] rfl rfl (by decide) (fun H locs hP hS => ?_)
          refine lv_iconst (v := 0) hx hb dX8_figure_61 rfl ?_
          have e9 : v_X8_figure x1 i_length i_at i_faultAt f_text = (0, i_at, o_58) := by
            refine (if_pos c_6).trans ?_
            refine (if_neg c_17).trans ?_
            refine (bnd_eq ho_43).trans ?_
            refine (if_neg c_46).trans ?_
            refine (if_pos c_54).trans ?_
            refine (bnd_eq ho_58).trans ?_
            rfl
          rw [hQ]; exact retI (0, i_at, o_58) hx hb hr hlk e9 hP rfl hS dX8_figure_62
theorem fig_cases {x l a fa r b fb : Int32} {f : Nat → Int32} (ho : (r, b, fb) = v_X8_figure x l a fa f) : (fa = -9 ∧ ¬ l ≤ a ∧ v_X8_in (((f a.toNatClampNeg) - 48).toInt64) 0 9 = true ∧ ¬ ((x >>> (((f a.toNatClampNeg) - 48) &&& 31)) &&& 1) = 0 ∧ r = ((f a.toNatClampNeg) - 48) ∧ b = a + 1 ∧ fb = fa) ∨ (¬ (fa = -9 ∧ ¬ l ≤ a ∧ v_X8_in (((f a.toNatClampNeg) - 48).toInt64) 0 9 = true ∧ ¬ ((x >>> (((f a.toNatClampNeg) - 48) &&& 31)) &&& 1) = 0) ∧ r = 0 ∧ b = a ∧ fb = v_X8_fail a fa) := by
  have hm : v_X8_in (-1) 0 9 = false := rfl
  have out : ∀ q1 q2 q3 : Int32, v_X8_figure x l a fa f = (q1, q2, q3) → r = q1 ∧ b = q2 ∧ fb = q3 := by
    intro q1 q2 q3 e
    rw [e] at ho
    cases ho
    exact ⟨rfl, rfl, rfl⟩
  by_cases h1 : fa = -9
  · by_cases h2 : l ≤ a
    · refine Or.inr ⟨fun h => h.2.1 h2, out _ _ _ ?_⟩
      refine (if_pos h1).trans ((if_pos h2).trans ?_)
      rw [hm]
      first | rfl | (refine (if_pos (show bI false = 0 from rfl)).trans ?_; rfl)
    · cases h3 : v_X8_in (((f a.toNatClampNeg) - 48).toInt64) 0 9 with
      | false =>
        refine Or.inr ⟨fun h => (by simp at h), out _ _ _ ?_⟩
        refine (if_pos h1).trans ((if_neg h2).trans ?_)
        rw [h3]
        first | rfl | (refine (if_pos (show bI false = 0 from rfl)).trans ?_; rfl)
      | true =>
        by_cases h4 : ((x >>> (((f a.toNatClampNeg) - 48) &&& 31)) &&& 1) = 0
        · refine Or.inr ⟨fun h => h.2.2.2 h4, out _ _ _ ?_⟩
          refine (if_pos h1).trans ((if_neg h2).trans ?_)
          rw [h3]
          first | exact if_pos h4 | exact (if_neg (show ¬ bI true = 0 by decide)).trans (if_pos h4)
        · refine Or.inl ⟨h1, h2, rfl, h4, out _ _ _ ?_⟩
          refine (if_pos h1).trans ((if_neg h2).trans ?_)
          rw [h3]
          first | exact if_neg h4 | exact (if_neg (show ¬ bI true = 0 by decide)).trans (if_neg h4)
  · refine Or.inr ⟨fun h => h1 h.1, out _ _ _ ?_⟩
    refine (if_neg h1).trans ?_
    rw [hm]
    first | rfl | (refine (if_pos (show bI false = 0 from rfl)).trans ?_; rfl)
theorem vin_s {a l : Int32} (h : vp_in a 73) (hl : vp_in l 73) (hal : ¬ l ≤ a) : vp_in (a + 1) 73 := by
  obtain ⟨j, hj, rfl⟩ := vin_j h (by decide)
  obtain ⟨k, hk, rfl⟩ := vin_j hl (by decide)
  rw [nI_leI (by omega) (by omega)] at hal
  rw [nI_1]; exact vp_in_nI (by omega) (by decide)
theorem vin_c {x : Int32} {N : Nat} (h : vp_in x N) : x.toNatClampNeg < N := by
  have := vp_in_iff.mp h
  unfold Int32.toNatClampNeg; omega
theorem vin_cs {x : Int32} (h : vp_in x 73) : (x + 1).toNatClampNeg = x.toNatClampNeg + 1 := by
  obtain ⟨j, hj, rfl⟩ := vin_j h (by decide)
  rw [nI_1, nI_clamp (by omega), nI_clamp (by omega)]
theorem fig_at {x l a fa r b fb : Int32} {f : Nat → Int32} (h : vp_in a 73) (hl : vp_in l 73) (ho : (r, b, fb) = v_X8_figure x l a fa f) : vp_in b 73 := by
  rcases fig_cases ho with ⟨_, h2, _, _, _, e, _⟩ | ⟨_, _, e, _⟩
  · rw [e]; exact vin_s h hl h2
  · rw [e]; exact h
theorem fig_mono {x l a fa r b fb : Int32} {f : Nat → Int32} (h : vp_in a 73) (ho : (r, b, fb) = v_X8_figure x l a fa f) : a.toNatClampNeg ≤ b.toNatClampNeg := by
  rcases fig_cases ho with ⟨_, h2, _, _, _, e, _⟩ | ⟨_, _, e, _⟩
  · rw [e, vin_cs h]; omega
  · rw [e]; exact Nat.le_refl _
theorem fail_no {a fa : Int32} (h : vp_in a 73) : ¬ v_X8_fail a fa = -9 := by
  unfold v_X8_fail
  split
  · intro q; rw [q] at h; exact h (Or.inl (by decide))
  · assumption
theorem fig_ok {x l a fa r b fb : Int32} {f : Nat → Int32} (h : vp_in a 73) (ho : (r, b, fb) = v_X8_figure x l a fa f) (hf : fb = -9) : fa = -9 := by
  rcases fig_cases ho with ⟨h1, _⟩ | ⟨_, _, _, e⟩
  · exact h1
  · rw [e] at hf; exact absurd hf (fail_no h)
theorem fig_dig {x l a fa r b fb : Int32} {f : Nat → Int32} (h : vp_in a 73) (ho : (r, b, fb) = v_X8_figure x l a fa f) (hf : fb = -9) : ∃ j : Nat, j ≤ 9 ∧ r = nI j ∧ ¬ ((x >>> (nI j &&& 31)) &&& 1) = 0 := by
  rcases fig_cases ho with ⟨_, _, h3, h4, e, _⟩ | ⟨_, _, _, e⟩
  · obtain ⟨j, _, hj, ej⟩ := in32 (a := 0) (b := 9) (by decide) (by decide) h3.symm (by decide)
    rw [ej] at h4
    exact ⟨j, hj, by rw [e]; exact ej, h4⟩
  · rw [e] at hf; exact absurd hf (fail_no h)
def v_X8_two (x1 : Int32) (i_length : Int32) (i_at : Int32) (i_faultAt : Int32) (f_text : Nat → Int32) : Int32 × Int32 × Int32 :=
  if (x1 &&& 1023) = 0 then (if (x1 >>> ((10 : Int32) &&& 31)) = 0 then (bnd3 (v_X8_figure (0 ||| 0) i_length i_at i_faultAt f_text) fun o_27_1 o_27_2 o_27_3 =>
      (if o_27_1 = 0 then (bnd3 (v_X8_figure (x1 &&& 1023) i_length o_27_2 o_27_3 f_text) fun o_52_1 o_52_2 o_52_3 =>
        (((10 * o_27_1) + o_52_1), o_52_2, o_52_3))
      else (bnd3 (v_X8_figure (x1 >>> ((10 : Int32) &&& 31)) i_length o_27_2 o_27_3 f_text) fun o_52_1 o_52_2 o_52_3 =>
      (((10 * o_27_1) + o_52_1), o_52_2, o_52_3))))
    else (bnd3 (v_X8_figure (0 ||| 2) i_length i_at i_faultAt f_text) fun o_27_1 o_27_2 o_27_3 =>
    (if o_27_1 = 0 then (bnd3 (v_X8_figure (x1 &&& 1023) i_length o_27_2 o_27_3 f_text) fun o_52_1 o_52_2 o_52_3 =>
      (((10 * o_27_1) + o_52_1), o_52_2, o_52_3))
    else (bnd3 (v_X8_figure (x1 >>> ((10 : Int32) &&& 31)) i_length o_27_2 o_27_3 f_text) fun o_52_1 o_52_2 o_52_3 =>
    (((10 * o_27_1) + o_52_1), o_52_2, o_52_3)))))
  else (if (x1 >>> ((10 : Int32) &&& 31)) = 0 then (bnd3 (v_X8_figure (1 ||| 0) i_length i_at i_faultAt f_text) fun o_27_1 o_27_2 o_27_3 =>
    (if o_27_1 = 0 then (bnd3 (v_X8_figure (x1 &&& 1023) i_length o_27_2 o_27_3 f_text) fun o_52_1 o_52_2 o_52_3 =>
      (((10 * o_27_1) + o_52_1), o_52_2, o_52_3))
    else (bnd3 (v_X8_figure (x1 >>> ((10 : Int32) &&& 31)) i_length o_27_2 o_27_3 f_text) fun o_52_1 o_52_2 o_52_3 =>
    (((10 * o_27_1) + o_52_1), o_52_2, o_52_3))))
  else (bnd3 (v_X8_figure (1 ||| 2) i_length i_at i_faultAt f_text) fun o_27_1 o_27_2 o_27_3 =>
  (if o_27_1 = 0 then (bnd3 (v_X8_figure (x1 &&& 1023) i_length o_27_2 o_27_3 f_text) fun o_52_1 o_52_2 o_52_3 =>
    (((10 * o_27_1) + o_52_1), o_52_2, o_52_3))
  else (bnd3 (v_X8_figure (x1 >>> ((10 : Int32) &&& 31)) i_length o_27_2 o_27_3 f_text) fun o_52_1 o_52_2 o_52_3 =>
  (((10 * o_27_1) + o_52_1), o_52_2, o_52_3)))))
abbrev rm_X8_two : Room := { frames := 2, cells := 0, slots := 0, locals := 47 }
set_option maxHeartbeats 4000000 in
set_option maxRecDepth 100000 in
theorem k_X8_two (l : Launch) (D : va_G) (cI cZ : ClassId) (a a_readWishes a_readOwed a_told a_owed a_text a_row a_least a_values a_tellPlace a_tellHour a_tellDark a_isKept a_kept : Nat) (x1 : Int32) (i_readHung : Int32) (i_readMany : Int32) (i_readOwes : Int32) (i_wishes : Int32) (i_hung : Int32) (i_hour : Int32) (i_length : Int32) (i_at : Int32) (i_faultAt : Int32) (i_acts : Int32) (i_next : Int32) (i_tells : Int32) (j_seed : Int64) (f_text : Nat → Int32) (hat : vp_in i_at 73) (hl0 : vp_in i_length 73) : KI l D cI cZ yX8_two wsX8_two rm_X8_two [.ref a, .int x1] [(a, .inr (8, [.ref a_readWishes, .ref a_readOwed, .int i_readHung, .int i_readMany, .int i_readOwes, .ref a_told, .ref a_owed, .int i_wishes, .int i_hung, .int i_hour, .ref a_text, .int i_length, .int i_at, .int i_faultAt, .int i_acts, .int i_next, .ref a_row, .ref a_least, .ref a_values, .int i_tells, .ref a_tellPlace, .ref a_tellHour, .ref a_tellDark, .long j_seed, .ref a_isKept, .ref a_kept])), (a_text, .inl (cI, 72, .inl f_text))] (v_X8_two x1 i_length i_at i_faultAt f_text) (fun o : Int32 × Int32 × Int32 => o.1) (fun o : Int32 × Int32 × Int32 => [(a, .inr (8, [.ref a_readWishes, .ref a_readOwed, .int i_readHung, .int i_readMany, .int i_readOwes, .ref a_told, .ref a_owed, .int i_wishes, .int i_hung, .int i_hour, .ref a_text, .int i_length, .int o.2.1, .int o.2.2, .int i_acts, .int i_next, .ref a_row, .ref a_least, .ref a_values, .int i_tells, .ref a_tellPlace, .ref a_tellHour, .ref a_tellDark, .long j_seed, .ref a_isKept, .ref a_kept])), (a_text, .inl (cI, 72, .inl f_text))]) := by
  refine KI.of cX8_two 3 (some .int) (by decide) rfl (Nat.le_of_ble_eq_true rfl) ?_
  intro p e s m below meth c A ls ar Q hQ B
  obtain ⟨hx, hb, hr, hml, hts, hown, hlk, hK, hN, hP, hD, hA, hS, hl⟩ := B
  have hown : s.vm.findClass RX8 = some m.cls := hown
  have hF : CallFix p m c cX8_two 3 s ar wsX8_two RX8 := ⟨hx, hb, hml, hown, hts⟩
  have hl : lv_has ls 3 [(0, .ref a), (1, .int x1)] := hl
  refine lv_aload_n hx hb dX8_two_0 rfl (lv_at hl 0 rfl) ?_
  refine lv_iload_n hx hb dX8_two_1 rfl (lv_at hl 1 rfl) ?_
  refine lv_sipush (v := 1023) hx hb dX8_two_2 rfl ?_
  refine lv_iand hx hb dX8_two_5 ?_
  refine lv_if_eq (tgt := 13) hx hb dX8_two_6 (by decide) (fun c_6 => ?_) (fun c_6 => ?_)
  · refine lv_iconst (v := 0) hx hb dX8_two_13 rfl ?_
    refine lv_iload_n hx hb dX8_two_14 rfl (lv_at hl 1 rfl) ?_
    refine lv_bipush (v := 10) hx hb dX8_two_15 rfl ?_
    refine lv_ishr hx hb dX8_two_17 ?_
    refine lv_if_eq (tgt := 25) hx hb dX8_two_18 (by decide) (fun c_18 => ?_) (fun c_18 => ?_)
    · refine lv_iconst (v := 0) hx hb dX8_two_25 rfl ?_
      refine lv_ior hx hb dX8_two_26 ?_
      obtain ⟨o_27_1, o_27_2, o_27_3, ho_27⟩ := ex3 (v_X8_figure (0 ||| 0) i_length i_at i_faultAt f_text)
      refine callVI (As := [.int (0 ||| 0)]) (rest := []) (o_27_1, o_27_2, o_27_3) ho_27 hF (k_X8_figure l D cI cZ a a_readWishes a_readOwed a_told a_owed a_text a_row a_least a_values a_tellPlace a_tellHour a_tellDark a_isKept a_kept (0 ||| 0) i_readHung i_readMany i_readOwes i_wishes i_hung i_hour i_length i_at i_faultAt i_acts i_next i_tells j_seed f_text (hat) (hl0)) (cwV 1 hts gX8_two_X8_figure rfl rfl rfl (by decide +kernel) ⟨Nat.le_of_ble_eq_true rfl, Nat.le_of_ble_eq_true rfl⟩) hK hN hP (va_Dsame hD rfl) hS hA [0, 1] rfl rfl 0 8 (T := TX8) (N := 26) rfl rfl rfl hl.1 rfl (Nat.le_of_ble_eq_true rfl) dX8_two_27 ⟨Nat.zero_le _, Nat.zero_le _⟩ o_27_1 rfl [some 0, some 1] 2 [(a, .inr (8, [.ref a_readWishes, .ref a_readOwed, .int i_readHung, .int i_readMany, .int i_readOwes, .ref a_told, .ref a_owed, .int i_wishes, .int i_hung, .int i_hour, .ref a_text, .int i_length, .int o_27_2, .int o_27_3, .int i_acts, .int i_next, .ref a_row, .ref a_least, .ref a_values, .int i_tells, .ref a_tellPlace, .ref a_tellHour, .ref a_tellDark, .long j_seed, .ref a_isKept, .ref a_kept])), (a_text, .inl (cI, 72, .inl f_text))] rfl rfl (by decide) (fun H locs hP hS => ?_)
      refine lv_istore_n (lv' := [(2, .int o_27_1), (0, .ref a), (1, .int x1)]) hx hb dX8_two_30 rfl hl (by decide) rfl (fun ls hl => ?_)
      refine lv_bipush (v := 10) hx hb dX8_two_31 rfl ?_
      refine lv_iload_n hx hb dX8_two_33 rfl (lv_at hl 0 rfl) ?_
      refine lv_imul hx hb dX8_two_34 ?_
      refine lv_aload_n hx hb dX8_two_35 rfl (lv_at hl 1 rfl) ?_
      refine lv_iload_n hx hb dX8_two_36 rfl (lv_at hl 0 rfl) ?_
      refine lv_if_ne (tgt := 48) hx hb dX8_two_37 (by decide) (fun c_37 => ?_) (fun c_37 => ?_)
      · refine lv_iload_n hx hb dX8_two_48 rfl (lv_at hl 2 rfl) ?_
        refine lv_bipush (v := 10) hx hb dX8_two_49 rfl ?_
        refine lv_ishr hx hb dX8_two_51 ?_
        obtain ⟨o_52_1, o_52_2, o_52_3, ho_52⟩ := ex3 (v_X8_figure (x1 >>> ((10 : Int32) &&& 31)) i_length o_27_2 o_27_3 f_text)
        refine callVI (As := [.int (x1 >>> ((10 : Int32) &&& 31))]) (rest := [.int (10 * o_27_1)]) (o_52_1, o_52_2, o_52_3) ho_52 hF (k_X8_figure l D cI cZ a a_readWishes a_readOwed a_told a_owed a_text a_row a_least a_values a_tellPlace a_tellHour a_tellDark a_isKept a_kept (x1 >>> ((10 : Int32) &&& 31)) i_readHung i_readMany i_readOwes i_wishes i_hung i_hour i_length o_27_2 o_27_3 i_acts i_next i_tells j_seed f_text (fig_at hat hl0 ho_27) (hl0)) (cwV 1 hts gX8_two_X8_figure rfl rfl rfl (by decide +kernel) ⟨Nat.le_of_ble_eq_true rfl, Nat.le_of_ble_eq_true rfl⟩) hK hN hP (va_Dsame hD rfl) hS hA [0, 1] rfl rfl 0 8 (T := TX8) (N := 26) rfl rfl rfl hl.1 rfl (Nat.le_of_ble_eq_true rfl) dX8_two_52 ⟨Nat.zero_le _, Nat.zero_le _⟩ o_52_1 rfl [some 0, some 1] 2 [(a, .inr (8, [.ref a_readWishes, .ref a_readOwed, .int i_readHung, .int i_readMany, .int i_readOwes, .ref a_told, .ref a_owed, .int i_wishes, .int i_hung, .int i_hour, .ref a_text, .int i_length, .int o_52_2, .int o_52_3, .int i_acts, .int i_next, .ref a_row, .ref a_least, .ref a_values, .int i_tells, .ref a_tellPlace, .ref a_tellHour, .ref a_tellDark, .long j_seed, .ref a_isKept, .ref a_kept])), (a_text, .inl (cI, 72, .inl f_text))] rfl rfl (by decide) (fun H locs hP hS => ?_)
        refine lv_iadd hx hb dX8_two_55 ?_
        have e9 : v_X8_two x1 i_length i_at i_faultAt f_text = (((10 * o_27_1) + o_52_1), o_52_2, o_52_3) := by
          refine (if_pos c_6).trans ?_
          refine (if_pos c_18).trans ?_
          refine (bnd3_eq ho_27).trans ?_
          refine (if_neg c_37).trans ?_
          refine (bnd3_eq ho_52).trans ?_
          rfl
        rw [hQ]; exact retI (((10 * o_27_1) + o_52_1), o_52_2, o_52_3) hx hb hr hlk e9 hP rfl hS dX8_two_56
      · refine lv_iload_n hx hb dX8_two_40 rfl (lv_at hl 2 rfl) ?_
        refine lv_sipush (v := 1023) hx hb dX8_two_41 rfl ?_
        refine lv_iand hx hb dX8_two_44 ?_
        refine lv_goto (tgt := 52) hx hb dX8_two_45 (by decide) ?_
        obtain ⟨o_52_1, o_52_2, o_52_3, ho_52⟩ := ex3 (v_X8_figure (x1 &&& 1023) i_length o_27_2 o_27_3 f_text)
        refine callVI (As := [.int (x1 &&& 1023)]) (rest := [.int (10 * o_27_1)]) (o_52_1, o_52_2, o_52_3) ho_52 hF (k_X8_figure l D cI cZ a a_readWishes a_readOwed a_told a_owed a_text a_row a_least a_values a_tellPlace a_tellHour a_tellDark a_isKept a_kept (x1 &&& 1023) i_readHung i_readMany i_readOwes i_wishes i_hung i_hour i_length o_27_2 o_27_3 i_acts i_next i_tells j_seed f_text (fig_at hat hl0 ho_27) (hl0)) (cwV 1 hts gX8_two_X8_figure rfl rfl rfl (by decide +kernel) ⟨Nat.le_of_ble_eq_true rfl, Nat.le_of_ble_eq_true rfl⟩) hK hN hP (va_Dsame hD rfl) hS hA [0, 1] rfl rfl 0 8 (T := TX8) (N := 26) rfl rfl rfl hl.1 rfl (Nat.le_of_ble_eq_true rfl) dX8_two_52 ⟨Nat.zero_le _, Nat.zero_le _⟩ o_52_1 rfl [some 0, some 1] 2 [(a, .inr (8, [.ref a_readWishes, .ref a_readOwed, .int i_readHung, .int i_readMany, .int i_readOwes, .ref a_told, .ref a_owed, .int i_wishes, .int i_hung, .int i_hour, .ref a_text, .int i_length, .int o_52_2, .int o_52_3, .int i_acts, .int i_next, .ref a_row, .ref a_least, .ref a_values, .int i_tells, .ref a_tellPlace, .ref a_tellHour, .ref a_tellDark, .long j_seed, .ref a_isKept, .ref a_kept])), (a_text, .inl (cI, 72, .inl f_text))] rfl rfl (by decide) (fun H locs hP hS => ?_)
        refine lv_iadd hx hb dX8_two_55 ?_
        have e9 : v_X8_two x1 i_length i_at i_faultAt f_text = (((10 * o_27_1) + o_52_1), o_52_2, o_52_3) := by
          refine (if_pos c_6).trans ?_
          refine (if_pos c_18).trans ?_
          refine (bnd3_eq ho_27).trans ?_
          refine (if_pos c_37).trans ?_
          refine (bnd3_eq ho_52).trans ?_
          rfl
        rw [hQ]; exact retI (((10 * o_27_1) + o_52_1), o_52_2, o_52_3) hx hb hr hlk e9 hP rfl hS dX8_two_56
    · refine lv_iconst (v := 2) hx hb dX8_two_21 rfl ?_
      refine lv_goto (tgt := 26) hx hb dX8_two_22 (by decide) ?_
      refine lv_ior hx hb dX8_two_26 ?_
      obtain ⟨o_27_1, o_27_2, o_27_3, ho_27⟩ := ex3 (v_X8_figure (0 ||| 2) i_length i_at i_faultAt f_text)
      refine callVI (As := [.int (0 ||| 2)]) (rest := []) (o_27_1, o_27_2, o_27_3) ho_27 hF (k_X8_figure l D cI cZ a a_readWishes a_readOwed a_told a_owed a_text a_row a_least a_values a_tellPlace a_tellHour a_tellDark a_isKept a_kept (0 ||| 2) i_readHung i_readMany i_readOwes i_wishes i_hung i_hour i_length i_at i_faultAt i_acts i_next i_tells j_seed f_text (hat) (hl0)) (cwV 1 hts gX8_two_X8_figure rfl rfl rfl (by decide +kernel) ⟨Nat.le_of_ble_eq_true rfl, Nat.le_of_ble_eq_true rfl⟩) hK hN hP (va_Dsame hD rfl) hS hA [0, 1] rfl rfl 0 8 (T := TX8) (N := 26) rfl rfl rfl hl.1 rfl (Nat.le_of_ble_eq_true rfl) dX8_two_27 ⟨Nat.zero_le _, Nat.zero_le _⟩ o_27_1 rfl [some 0, some 1] 2 [(a, .inr (8, [.ref a_readWishes, .ref a_readOwed, .int i_readHung, .int i_readMany, .int i_readOwes, .ref a_told, .ref a_owed, .int i_wishes, .int i_hung, .int i_hour, .ref a_text, .int i_length, .int o_27_2, .int o_27_3, .int i_acts, .int i_next, .ref a_row, .ref a_least, .ref a_values, .int i_tells, .ref a_tellPlace, .ref a_tellHour, .ref a_tellDark, .long j_seed, .ref a_isKept, .ref a_kept])), (a_text, .inl (cI, 72, .inl f_text))] rfl rfl (by decide) (fun H locs hP hS => ?_)
      refine lv_istore_n (lv' := [(2, .int o_27_1), (0, .ref a), (1, .int x1)]) hx hb dX8_two_30 rfl hl (by decide) rfl (fun ls hl => ?_)
      refine lv_bipush (v := 10) hx hb dX8_two_31 rfl ?_
      refine lv_iload_n hx hb dX8_two_33 rfl (lv_at hl 0 rfl) ?_
      refine lv_imul hx hb dX8_two_34 ?_
      refine lv_aload_n hx hb dX8_two_35 rfl (lv_at hl 1 rfl) ?_
      refine lv_iload_n hx hb dX8_two_36 rfl (lv_at hl 0 rfl) ?_
      refine lv_if_ne (tgt := 48) hx hb dX8_two_37 (by decide) (fun c_37 => ?_) (fun c_37 => ?_)
      · refine lv_iload_n hx hb dX8_two_48 rfl (lv_at hl 2 rfl) ?_
        refine lv_bipush (v := 10) hx hb dX8_two_49 rfl ?_
        refine lv_ishr hx hb dX8_two_51 ?_
        obtain ⟨o_52_1, o_52_2, o_52_3, ho_52⟩ := ex3 (v_X8_figure (x1 >>> ((10 : Int32) &&& 31)) i_length o_27_2 o_27_3 f_text)
        refine callVI (As := [.int (x1 >>> ((10 : Int32) &&& 31))]) (rest := [.int (10 * o_27_1)]) (o_52_1, o_52_2, o_52_3) ho_52 hF (k_X8_figure l D cI cZ a a_readWishes a_readOwed a_told a_owed a_text a_row a_least a_values a_tellPlace a_tellHour a_tellDark a_isKept a_kept (x1 >>> ((10 : Int32) &&& 31)) i_readHung i_readMany i_readOwes i_wishes i_hung i_hour i_length o_27_2 o_27_3 i_acts i_next i_tells j_seed f_text (fig_at hat hl0 ho_27) (hl0)) (cwV 1 hts gX8_two_X8_figure rfl rfl rfl (by decide +kernel) ⟨Nat.le_of_ble_eq_true rfl, Nat.le_of_ble_eq_true rfl⟩) hK hN hP (va_Dsame hD rfl) hS hA [0, 1] rfl rfl 0 8 (T := TX8) (N := 26) rfl rfl rfl hl.1 rfl (Nat.le_of_ble_eq_true rfl) dX8_two_52 ⟨Nat.zero_le _, Nat.zero_le _⟩ o_52_1 rfl [some 0, some 1] 2 [(a, .inr (8, [.ref a_readWishes, .ref a_readOwed, .int i_readHung, .int i_readMany, .int i_readOwes, .ref a_told, .ref a_owed, .int i_wishes, .int i_hung, .int i_hour, .ref a_text, .int i_length, .int o_52_2, .int o_52_3, .int i_acts, .int i_next, .ref a_row, .ref a_least, .ref a_values, .int i_tells, .ref a_tellPlace, .ref a_tellHour, .ref a_tellDark, .long j_seed, .ref a_isKept, .ref a_kept])), (a_text, .inl (cI, 72, .inl f_text))] rfl rfl (by decide) (fun H locs hP hS => ?_)
        refine lv_iadd hx hb dX8_two_55 ?_
        have e9 : v_X8_two x1 i_length i_at i_faultAt f_text = (((10 * o_27_1) + o_52_1), o_52_2, o_52_3) := by
          refine (if_pos c_6).trans ?_
          refine (if_neg c_18).trans ?_
          refine (bnd3_eq ho_27).trans ?_
          refine (if_neg c_37).trans ?_
          refine (bnd3_eq ho_52).trans ?_
          rfl
        rw [hQ]; exact retI (((10 * o_27_1) + o_52_1), o_52_2, o_52_3) hx hb hr hlk e9 hP rfl hS dX8_two_56
      · refine lv_iload_n hx hb dX8_two_40 rfl (lv_at hl 2 rfl) ?_
        refine lv_sipush (v := 1023) hx hb dX8_two_41 rfl ?_
        refine lv_iand hx hb dX8_two_44 ?_
        refine lv_goto (tgt := 52) hx hb dX8_two_45 (by decide) ?_
        obtain ⟨o_52_1, o_52_2, o_52_3, ho_52⟩ := ex3 (v_X8_figure (x1 &&& 1023) i_length o_27_2 o_27_3 f_text)
        refine callVI (As := [.int (x1 &&& 1023)]) (rest := [.int (10 * o_27_1)]) (o_52_1, o_52_2, o_52_3) ho_52 hF (k_X8_figure l D cI cZ a a_readWishes a_readOwed a_told a_owed a_text a_row a_least a_values a_tellPlace a_tellHour a_tellDark a_isKept a_kept (x1 &&& 1023) i_readHung i_readMany i_readOwes i_wishes i_hung i_hour i_length o_27_2 o_27_3 i_acts i_next i_tells j_seed f_text (fig_at hat hl0 ho_27) (hl0)) (cwV 1 hts gX8_two_X8_figure rfl rfl rfl (by decide +kernel) ⟨Nat.le_of_ble_eq_true rfl, Nat.le_of_ble_eq_true rfl⟩) hK hN hP (va_Dsame hD rfl) hS hA [0, 1] rfl rfl 0 8 (T := TX8) (N := 26) rfl rfl rfl hl.1 rfl (Nat.le_of_ble_eq_true rfl) dX8_two_52 ⟨Nat.zero_le _, Nat.zero_le _⟩ o_52_1 rfl [some 0, some 1] 2 [(a, .inr (8, [.ref a_readWishes, .ref a_readOwed, .int i_readHung, .int i_readMany, .int i_readOwes, .ref a_told, .ref a_owed, .int i_wishes, .int i_hung, .int i_hour, .ref a_text, .int i_length, .int o_52_2, .int o_52_3, .int i_acts, .int i_next, .ref a_row, .ref a_least, .ref a_values, .int i_tells, .ref a_tellPlace, .ref a_tellHour, .ref a_tellDark, .long j_seed, .ref a_isKept, .ref a_kept])), (a_text, .inl (cI, 72, .inl f_text))] rfl rfl (by decide) (fun H locs hP hS => ?_)
        refine lv_iadd hx hb dX8_two_55 ?_
        have e9 : v_X8_two x1 i_length i_at i_faultAt f_text = (((10 * o_27_1) + o_52_1), o_52_2, o_52_3) := by
          refine (if_pos c_6).trans ?_
          refine (if_neg c_18).trans ?_
          refine (bnd3_eq ho_27).trans ?_
          refine (if_pos c_37).trans ?_
          refine (bnd3_eq ho_52).trans ?_
          rfl
        rw [hQ]; exact retI (((10 * o_27_1) + o_52_1), o_52_2, o_52_3) hx hb hr hlk e9 hP rfl hS dX8_two_56
  · refine lv_iconst (v := 1) hx hb dX8_two_9 rfl ?_
    refine lv_goto (tgt := 14) hx hb dX8_two_10 (by decide) ?_
    refine lv_iload_n hx hb dX8_two_14 rfl (lv_at hl 1 rfl) ?_
    refine lv_bipush (v := 10) hx hb dX8_two_15 rfl ?_
    refine lv_ishr hx hb dX8_two_17 ?_
    refine lv_if_eq (tgt := 25) hx hb dX8_two_18 (by decide) (fun c_18 => ?_) (fun c_18 => ?_)
    · refine lv_iconst (v := 0) hx hb dX8_two_25 rfl ?_
      refine lv_ior hx hb dX8_two_26 ?_
      obtain ⟨o_27_1, o_27_2, o_27_3, ho_27⟩ := ex3 (v_X8_figure (1 ||| 0) i_length i_at i_faultAt f_text)
      refine callVI (As := [.int (1 ||| 0)]) (rest := []) (o_27_1, o_27_2, o_27_3) ho_27 hF (k_X8_figure l D cI cZ a a_readWishes a_readOwed a_told a_owed a_text a_row a_least a_values a_tellPlace a_tellHour a_tellDark a_isKept a_kept (1 ||| 0) i_readHung i_readMany i_readOwes i_wishes i_hung i_hour i_length i_at i_faultAt i_acts i_next i_tells j_seed f_text (hat) (hl0)) (cwV 1 hts gX8_two_X8_figure rfl rfl rfl (by decide +kernel) ⟨Nat.le_of_ble_eq_true rfl, Nat.le_of_ble_eq_true rfl⟩) hK hN hP (va_Dsame hD rfl) hS hA [0, 1] rfl rfl 0 8 (T := TX8) (N := 26) rfl rfl rfl hl.1 rfl (Nat.le_of_ble_eq_true rfl) dX8_two_27 ⟨Nat.zero_le _, Nat.zero_le _⟩ o_27_1 rfl [some 0, some 1] 2 [(a, .inr (8, [.ref a_readWishes, .ref a_readOwed, .int i_readHung, .int i_readMany, .int i_readOwes, .ref a_told, .ref a_owed, .int i_wishes, .int i_hung, .int i_hour, .ref a_text, .int i_length, .int o_27_2, .int o_27_3, .int i_acts, .int i_next, .ref a_row, .ref a_least, .ref a_values, .int i_tells, .ref a_tellPlace, .ref a_tellHour, .ref a_tellDark, .long j_seed, .ref a_isKept, .ref a_kept])), (a_text, .inl (cI, 72, .inl f_text))] rfl rfl (by decide) (fun H locs hP hS => ?_)
      refine lv_istore_n (lv' := [(2, .int o_27_1), (0, .ref a), (1, .int x1)]) hx hb dX8_two_30 rfl hl (by decide) rfl (fun ls hl => ?_)
      refine lv_bipush (v := 10) hx hb dX8_two_31 rfl ?_
      refine lv_iload_n hx hb dX8_two_33 rfl (lv_at hl 0 rfl) ?_
      refine lv_imul hx hb dX8_two_34 ?_
      refine lv_aload_n hx hb dX8_two_35 rfl (lv_at hl 1 rfl) ?_
      refine lv_iload_n hx hb dX8_two_36 rfl (lv_at hl 0 rfl) ?_
      refine lv_if_ne (tgt := 48) hx hb dX8_two_37 (by decide) (fun c_37 => ?_) (fun c_37 => ?_)
      · refine lv_iload_n hx hb dX8_two_48 rfl (lv_at hl 2 rfl) ?_
        refine lv_bipush (v := 10) hx hb dX8_two_49 rfl ?_
        refine lv_ishr hx hb dX8_two_51 ?_
        obtain ⟨o_52_1, o_52_2, o_52_3, ho_52⟩ := ex3 (v_X8_figure (x1 >>> ((10 : Int32) &&& 31)) i_length o_27_2 o_27_3 f_text)
        refine callVI (As := [.int (x1 >>> ((10 : Int32) &&& 31))]) (rest := [.int (10 * o_27_1)]) (o_52_1, o_52_2, o_52_3) ho_52 hF (k_X8_figure l D cI cZ a a_readWishes a_readOwed a_told a_owed a_text a_row a_least a_values a_tellPlace a_tellHour a_tellDark a_isKept a_kept (x1 >>> ((10 : Int32) &&& 31)) i_readHung i_readMany i_readOwes i_wishes i_hung i_hour i_length o_27_2 o_27_3 i_acts i_next i_tells j_seed f_text (fig_at hat hl0 ho_27) (hl0)) (cwV 1 hts gX8_two_X8_figure rfl rfl rfl (by decide +kernel) ⟨Nat.le_of_ble_eq_true rfl, Nat.le_of_ble_eq_true rfl⟩) hK hN hP (va_Dsame hD rfl) hS hA [0, 1] rfl rfl 0 8 (T := TX8) (N := 26) rfl rfl rfl hl.1 rfl (Nat.le_of_ble_eq_true rfl) dX8_two_52 ⟨Nat.zero_le _, Nat.zero_le _⟩ o_52_1 rfl [some 0, some 1] 2 [(a, .inr (8, [.ref a_readWishes, .ref a_readOwed, .int i_readHung, .int i_readMany, .int i_readOwes, .ref a_told, .ref a_owed, .int i_wishes, .int i_hung, .int i_hour, .ref a_text, .int i_length, .int o_52_2, .int o_52_3, .int i_acts, .int i_next, .ref a_row, .ref a_least, .ref a_values, .int i_tells, .ref a_tellPlace, .ref a_tellHour, .ref a_tellDark, .long j_seed, .ref a_isKept, .ref a_kept])), (a_text, .inl (cI, 72, .inl f_text))] rfl rfl (by decide) (fun H locs hP hS => ?_)
        refine lv_iadd hx hb dX8_two_55 ?_
        have e9 : v_X8_two x1 i_length i_at i_faultAt f_text = (((10 * o_27_1) + o_52_1), o_52_2, o_52_3) := by
          refine (if_neg c_6).trans ?_
          refine (if_pos c_18).trans ?_
          refine (bnd3_eq ho_27).trans ?_
          refine (if_neg c_37).trans ?_
          refine (bnd3_eq ho_52).trans ?_
          rfl
        rw [hQ]; exact retI (((10 * o_27_1) + o_52_1), o_52_2, o_52_3) hx hb hr hlk e9 hP rfl hS dX8_two_56
      · refine lv_iload_n hx hb dX8_two_40 rfl (lv_at hl 2 rfl) ?_
        refine lv_sipush (v := 1023) hx hb dX8_two_41 rfl ?_
        refine lv_iand hx hb dX8_two_44 ?_
        refine lv_goto (tgt := 52) hx hb dX8_two_45 (by decide) ?_
        obtain ⟨o_52_1, o_52_2, o_52_3, ho_52⟩ := ex3 (v_X8_figure (x1 &&& 1023) i_length o_27_2 o_27_3 f_text)
        refine callVI (As := [.int (x1 &&& 1023)]) (rest := [.int (10 * o_27_1)]) (o_52_1, o_52_2, o_52_3) ho_52 hF (k_X8_figure l D cI cZ a a_readWishes a_readOwed a_told a_owed a_text a_row a_least a_values a_tellPlace a_tellHour a_tellDark a_isKept a_kept (x1 &&& 1023) i_readHung i_readMany i_readOwes i_wishes i_hung i_hour i_length o_27_2 o_27_3 i_acts i_next i_tells j_seed f_text (fig_at hat hl0 ho_27) (hl0)) (cwV 1 hts gX8_two_X8_figure rfl rfl rfl (by decide +kernel) ⟨Nat.le_of_ble_eq_true rfl, Nat.le_of_ble_eq_true rfl⟩) hK hN hP (va_Dsame hD rfl) hS hA [0, 1] rfl rfl 0 8 (T := TX8) (N := 26) rfl rfl rfl hl.1 rfl (Nat.le_of_ble_eq_true rfl) dX8_two_52 ⟨Nat.zero_le _, Nat.zero_le _⟩ o_52_1 rfl [some 0, some 1] 2 [(a, .inr (8, [.ref a_readWishes, .ref a_readOwed, .int i_readHung, .int i_readMany, .int i_readOwes, .ref a_told, .ref a_owed, .int i_wishes, .int i_hung, .int i_hour, .ref a_text, .int i_length, .int o_52_2, .int o_52_3, .int i_acts, .int i_next, .ref a_row, .ref a_least, .ref a_values, .int i_tells, .ref a_tellPlace, .ref a_tellHour, .ref a_tellDark, .long j_seed, .ref a_isKept, .ref a_kept])), (a_text, .inl (cI, 72, .inl f_text))] rfl rfl (by decide) (fun H locs hP hS => ?_)
        refine lv_iadd hx hb dX8_two_55 ?_
        have e9 : v_X8_two x1 i_length i_at i_faultAt f_text = (((10 * o_27_1) + o_52_1), o_52_2, o_52_3) := by
          refine (if_neg c_6).trans ?_
          refine (if_pos c_18).trans ?_
          refine (bnd3_eq ho_27).trans ?_
          refine (if_pos c_37).trans ?_
          refine (bnd3_eq ho_52).trans ?_
          rfl
        rw [hQ]; exact retI (((10 * o_27_1) + o_52_1), o_52_2, o_52_3) hx hb hr hlk e9 hP rfl hS dX8_two_56
    · refine lv_iconst (v := 2) hx hb dX8_two_21 rfl ?_
      refine lv_goto (tgt := 26) hx hb dX8_two_22 (by decide) ?_
      refine lv_ior hx hb dX8_two_26 ?_
      obtain ⟨o_27_1, o_27_2, o_27_3, ho_27⟩ := ex3 (v_X8_figure (1 ||| 2) i_length i_at i_faultAt f_text)
      refine callVI (As := [.int (1 ||| 2)]) (rest := []) (o_27_1, o_27_2, o_27_3) ho_27 hF (k_X8_figure l D cI cZ a a_readWishes a_readOwed a_told a_owed a_text a_row a_least a_values a_tellPlace a_tellHour a_tellDark a_isKept a_kept (1 ||| 2) i_readHung i_readMany i_readOwes i_wishes i_hung i_hour i_length i_at i_faultAt i_acts i_next i_tells j_seed f_text (hat) (hl0)) (cwV 1 hts gX8_two_X8_figure rfl rfl rfl (by decide +kernel) ⟨Nat.le_of_ble_eq_true rfl, Nat.le_of_ble_eq_true rfl⟩) hK hN hP (va_Dsame hD rfl) hS hA [0, 1] rfl rfl 0 8 (T := TX8) (N := 26) rfl rfl rfl hl.1 rfl (Nat.le_of_ble_eq_true rfl) dX8_two_27 ⟨Nat.zero_le _, Nat.zero_le _⟩ o_27_1 rfl [some 0, some 1] 2 [(a, .inr (8, [.ref a_readWishes, .ref a_readOwed, .int i_readHung, .int i_readMany, .int i_readOwes, .ref a_told, .ref a_owed, .int i_wishes, .int i_hung, .int i_hour, .ref a_text, .int i_length, .int o_27_2, .int o_27_3, .int i_acts, .int i_next, .ref a_row, .ref a_least, .ref a_values, .int i_tells, .ref a_tellPlace, .ref a_tellHour, .ref a_tellDark, .long j_seed, .ref a_isKept, .ref a_kept])), (a_text, .inl (cI, 72, .inl f_text))] rfl rfl (by decide) (fun H locs hP hS => ?_)
      refine lv_istore_n (lv' := [(2, .int o_27_1), (0, .ref a), (1, .int x1)]) hx hb dX8_two_30 rfl hl (by decide) rfl (fun ls hl => ?_)
      refine lv_bipush (v := 10) hx hb dX8_two_31 rfl ?_
      refine lv_iload_n hx hb dX8_two_33 rfl (lv_at hl 0 rfl) ?_
      refine lv_imul hx hb dX8_two_34 ?_
      refine lv_aload_n hx hb dX8_two_35 rfl (lv_at hl 1 rfl) ?_
      refine lv_iload_n hx hb dX8_two_36 rfl (lv_at hl 0 rfl) ?_
      refine lv_if_ne (tgt := 48) hx hb dX8_two_37 (by decide) (fun c_37 => ?_) (fun c_37 => ?_)
      · refine lv_iload_n hx hb dX8_two_48 rfl (lv_at hl 2 rfl) ?_
        refine lv_bipush (v := 10) hx hb dX8_two_49 rfl ?_
        refine lv_ishr hx hb dX8_two_51 ?_
        obtain ⟨o_52_1, o_52_2, o_52_3, ho_52⟩ := ex3 (v_X8_figure (x1 >>> ((10 : Int32) &&& 31)) i_length o_27_2 o_27_3 f_text)
        refine callVI (As := [.int (x1 >>> ((10 : Int32) &&& 31))]) (rest := [.int (10 * o_27_1)]) (o_52_1, o_52_2, o_52_3) ho_52 hF (k_X8_figure l D cI cZ a a_readWishes a_readOwed a_told a_owed a_text a_row a_least a_values a_tellPlace a_tellHour a_tellDark a_isKept a_kept (x1 >>> ((10 : Int32) &&& 31)) i_readHung i_readMany i_readOwes i_wishes i_hung i_hour i_length o_27_2 o_27_3 i_acts i_next i_tells j_seed f_text (fig_at hat hl0 ho_27) (hl0)) (cwV 1 hts gX8_two_X8_figure rfl rfl rfl (by decide +kernel) ⟨Nat.le_of_ble_eq_true rfl, Nat.le_of_ble_eq_true rfl⟩) hK hN hP (va_Dsame hD rfl) hS hA [0, 1] rfl rfl 0 8 (T := TX8) (N := 26) rfl rfl rfl hl.1 rfl (Nat.le_of_ble_eq_true rfl) dX8_two_52 ⟨Nat.zero_le _, Nat.zero_le _⟩ o_52_1 rfl [some 0, some 1] 2 [(a, .inr (8, [.ref a_readWishes, .ref a_readOwed, .int i_readHung, .int i_readMany, .int i_readOwes, .ref a_told, .ref a_owed, .int i_wishes, .int i_hung, .int i_hour, .ref a_text, .int i_length, .int o_52_2, .int o_52_3, .int i_acts, .int i_next, .ref a_row, .ref a_least, .ref a_values, .int i_tells, .ref a_tellPlace, .ref a_tellHour, .ref a_tellDark, .long j_seed, .ref a_isKept, .ref a_kept])), (a_text, .inl (cI, 72, .inl f_text))] rfl rfl (by decide) (fun H locs hP hS => ?_)
        refine lv_iadd hx hb dX8_two_55 ?_
        have e9 : v_X8_two x1 i_length i_at i_faultAt f_text = (((10 * o_27_1) + o_52_1), o_52_2, o_52_3) := by
          refine (if_neg c_6).trans ?_
          refine (if_neg c_18).trans ?_
          refine (bnd3_eq ho_27).trans ?_
          refine (if_neg c_37).trans ?_
          refine (bnd3_eq ho_52).trans ?_
          rfl
        rw [hQ]; exact retI (((10 * o_27_1) + o_52_1), o_52_2, o_52_3) hx hb hr hlk e9 hP rfl hS dX8_two_56
      · refine lv_iload_n hx hb dX8_two_40 rfl (lv_at hl 2 rfl) ?_
        refine lv_sipush (v := 1023) hx hb dX8_two_41 rfl ?_
        refine lv_iand hx hb dX8_two_44 ?_
        refine lv_goto (tgt := 52) hx hb dX8_two_45 (by decide) ?_
        obtain ⟨o_52_1, o_52_2, o_52_3, ho_52⟩ := ex3 (v_X8_figure (x1 &&& 1023) i_length o_27_2 o_27_3 f_text)
        refine callVI (As := [.int (x1 &&& 1023)]) (rest := [.int (10 * o_27_1)]) (o_52_1, o_52_2, o_52_3) ho_52 hF (k_X8_figure l D cI cZ a a_readWishes a_readOwed a_told a_owed a_text a_row a_least a_values a_tellPlace a_tellHour a_tellDark a_isKept a_kept (x1 &&& 1023) i_readHung i_readMany i_readOwes i_wishes i_hung i_hour i_length o_27_2 o_27_3 i_acts i_next i_tells j_seed f_text (fig_at hat hl0 ho_27) (hl0)) (cwV 1 hts gX8_two_X8_figure rfl rfl rfl (by decide +kernel) ⟨Nat.le_of_ble_eq_true rfl, Nat.le_of_ble_eq_true rfl⟩) hK hN hP (va_Dsame hD rfl) hS hA [0, 1] rfl rfl 0 8 (T := TX8) (N := 26) rfl rfl rfl hl.1 rfl (Nat.le_of_ble_eq_true rfl) dX8_two_52 ⟨Nat.zero_le _, Nat.zero_le _⟩ o_52_1 rfl [some 0, some 1] 2 [(a, .inr (8, [.ref a_readWishes, .ref a_readOwed, .int i_readHung, .int i_readMany, .int i_readOwes, .ref a_told, .ref a_owed, .int i_wishes, .int i_hung, .int i_hour, .ref a_text, .int i_length, .int o_52_2, .int o_52_3, .int i_acts, .int i_next, .ref a_row, .ref a_least, .ref a_values, .int i_tells, .ref a_tellPlace, .ref a_tellHour, .ref a_tellDark, .long j_seed, .ref a_isKept, .ref a_kept])), (a_text, .inl (cI, 72, .inl f_text))] rfl rfl (by decide) (fun H locs hP hS => ?_)
        refine lv_iadd hx hb dX8_two_55 ?_
        have e9 : v_X8_two x1 i_length i_at i_faultAt f_text = (((10 * o_27_1) + o_52_1), o_52_2, o_52_3) := by
          refine (if_neg c_6).trans ?_
          refine (if_neg c_18).trans ?_
          refine (bnd3_eq ho_27).trans ?_
          refine (if_pos c_37).trans ?_
          refine (bnd3_eq ho_52).trans ?_
          rfl
        rw [hQ]; exact retI (((10 * o_27_1) + o_52_1), o_52_2, o_52_3) hx hb hr hlk e9 hP rfl hS dX8_two_56
def tw_m (x : Int32) : Int32 := (if (x &&& 1023) = 0 then 0 else 1) ||| (if (x >>> ((10 : Int32) &&& 31)) = 0 then 0 else 2)
theorem two_ex {x l a fa r b fb : Int32} {f : Nat → Int32} (ho : (r, b, fb) = v_X8_two x l a fa f) : ∃ t b1 f1 u : Int32, (t, b1, f1) = v_X8_figure (tw_m x) l a fa f ∧ (u, b, fb) = v_X8_figure (if t = 0 then (x &&& 1023) else (x >>> ((10 : Int32) &&& 31))) l b1 f1 f ∧ r = (10 * t) + u := by
  have key : ∀ m : Int32, tw_m x = m → (r, b, fb) = (bnd3 (v_X8_figure m l a fa f) fun t b1 f1 => (if t = 0 then (bnd3 (v_X8_figure (x &&& 1023) l b1 f1 f) fun u b2 f2 => (((10 * t) + u), b2, f2)) else (bnd3 (v_X8_figure (x >>> ((10 : Int32) &&& 31)) l b1 f1 f) fun u b2 f2 => (((10 * t) + u), b2, f2)))) → ∃ t b1 f1 u : Int32, (t, b1, f1) = v_X8_figure (tw_m x) l a fa f ∧ (u, b, fb) = v_X8_figure (if t = 0 then (x &&& 1023) else (x >>> ((10 : Int32) &&& 31))) l b1 f1 f ∧ r = (10 * t) + u := by
    intro m hm h
    rw [hm]
    obtain ⟨t, b1, f1, e1⟩ := ex3 (v_X8_figure m l a fa f)
    rw [bnd3_eq e1] at h
    by_cases ht : t = 0
    · rw [if_pos ht] at h
      obtain ⟨u, b2, f2, e2⟩ := ex3 (v_X8_figure (x &&& 1023) l b1 f1 f)
      rw [bnd3_eq e2] at h
      cases h
      exact ⟨t, b1, f1, u, e1, by rw [if_pos ht]; exact e2, rfl⟩
    · rw [if_neg ht] at h
      obtain ⟨u, b2, f2, e2⟩ := ex3 (v_X8_figure (x >>> ((10 : Int32) &&& 31)) l b1 f1 f)
      rw [bnd3_eq e2] at h
      cases h
      exact ⟨t, b1, f1, u, e1, by rw [if_neg ht]; exact e2, rfl⟩
  unfold v_X8_two at ho
  by_cases h1 : (x &&& 1023) = 0
  · rw [if_pos h1] at ho
    by_cases h2 : (x >>> ((10 : Int32) &&& 31)) = 0
    · rw [if_pos h2] at ho; exact key _ (by unfold tw_m; rw [if_pos h1, if_pos h2]) ho
    · rw [if_neg h2] at ho; exact key _ (by unfold tw_m; rw [if_pos h1, if_neg h2]) ho
  · rw [if_neg h1] at ho
    by_cases h2 : (x >>> ((10 : Int32) &&& 31)) = 0
    · rw [if_pos h2] at ho; exact key _ (by unfold tw_m; rw [if_neg h1, if_pos h2]) ho
    · rw [if_neg h2] at ho; exact key _ (by unfold tw_m; rw [if_neg h1, if_neg h2]) ho
theorem two_at {x l a fa r b fb : Int32} {f : Nat → Int32} (h : vp_in a 73) (hl : vp_in l 73) (ho : (r, b, fb) = v_X8_two x l a fa f) : vp_in b 73 := by
  obtain ⟨t, b1, f1, u, e1, e2, _⟩ := two_ex ho
  exact fig_at (fig_at h hl e1) hl e2
theorem two_mono {x l a fa r b fb : Int32} {f : Nat → Int32} (h : vp_in a 73) (hl : vp_in l 73) (ho : (r, b, fb) = v_X8_two x l a fa f) : a.toNatClampNeg ≤ b.toNatClampNeg := by
  obtain ⟨t, b1, f1, u, e1, e2, _⟩ := two_ex ho
  exact Nat.le_trans (fig_mono h e1) (fig_mono (fig_at h hl e1) e2)
theorem two_ok {x l a fa r b fb : Int32} {f : Nat → Int32} (h : vp_in a 73) (hl : vp_in l 73) (ho : (r, b, fb) = v_X8_two x l a fa f) (hf : fb = -9) : fa = -9 := by
  obtain ⟨t, b1, f1, u, e1, e2, _⟩ := two_ex ho
  exact fig_ok h e1 (fig_ok (fig_at h hl e1) e2 hf)
theorem two_in {x l a fa r b fb : Int32} {f : Nat → Int32} (h : vp_in a 73) (hl : vp_in l 73) (hx : ∃ m : Nat, m < 4096 ∧ x = nI m) (ho : (r, b, fb) = v_X8_two x l a fa f) (hf : fb = -9) : vp_in r 12 := by
  obtain ⟨m, hm, rfl⟩ := hx
  obtain ⟨t, b1, f1, u, e1, e2, e3⟩ := two_ex ho
  have ha := fig_at h hl e1
  obtain ⟨d, hd, ed, bd⟩ := fig_dig ha e2 hf
  have hf1 := fig_ok ha e2 hf
  obtain ⟨k, hk, ek, bk⟩ := fig_dig h e1 hf1
  rw [e3, ed, ek]
  rw [ek] at bd
  have hk2 : k < 2 := by
    have q : ∀ u : Int32, (u = 0 ∨ u = 1 ∨ u = 2 ∨ u = 3) → ∀ t, t < 10 → ¬ ((u >>> (nI t &&& 31)) &&& 1) = 0 → t < 2 := by
      rintro u (rfl | rfl | rfl | rfl) <;> decide +kernel
    refine q (tw_m (nI m)) ?_ k (by omega) bk
    unfold tw_m
    split <;> split <;> decide
  rcases (show k = 0 ∨ k = 1 by omega) with rfl | rfl
  · exact (by decide +kernel : ∀ d, d < 10 → ¬ ((10 * nI 0 + nI d) < 0 ∨ 12 ≤ (10 * nI 0 + nI d).toNatClampNeg)) d (by omega)
  · rw [if_neg (by decide)] at bd
    have hs : nI m >>> ((10 : Int32) &&& 31) = nI (m / 1024) := pk_shrN (by omega) _ 10 rfl
    rw [hs] at bd
    have hd2 : d < 2 := (by decide +kernel : ∀ k, k < 4 → ∀ d, d < 10 → ¬ ((nI k >>> (nI d &&& 31)) &&& 1) = 0 → d < 2) (m / 1024) (by omega) d (by omega) bd
    exact (by decide +kernel : ∀ d, d < 2 → ¬ ((10 * nI 1 + nI d) < 0 ∨ 12 ≤ (10 * nI 1 + nI d).toNatClampNeg)) d hd2
def v_X8_readWish (i_readMany : Int32) (i_length : Int32) (i_at : Int32) (i_faultAt : Int32) (f_text : Nat → Int32) (f_readWishes : Nat → Int32) : Int32 × Int32 × Int32 × (Nat → Int32) :=
  bnd3 (v_X8_two 4095 i_length (i_at + 1) i_faultAt f_text) fun o_26_1 o_26_2 o_26_3 =>
  (bnd3 (v_X8_figure 63 i_length o_26_2 o_26_3 f_text) fun o_40_1 o_40_2 o_40_3 =>
  (bnd3 (v_X8_figure 126 i_length o_40_2 o_40_3 f_text) fun o_54_1 o_54_2 o_54_3 =>
  (bnd3 (v_X8_figure 1022 i_length o_54_2 o_54_3 f_text) fun o_69_1 o_69_2 o_69_3 =>
  (if o_69_3 = (-9) then (if i_length ≤ o_69_2 then (bnd (v_X8_fail o_69_2 o_69_3) fun o_162 =>
      (i_readMany, o_69_2, o_162, (upd (upd (upd (upd f_readWishes (5 * i_readMany).toNatClampNeg o_26_1) ((5 * i_readMany) + 1).toNatClampNeg o_40_1) ((5 * i_readMany) + 2).toNatClampNeg o_54_1) ((5 * i_readMany) + 3).toNatClampNeg o_69_1)))
    else (if (f_text o_69_2.toNatClampNeg) = 100 then ((i_readMany + 1), (o_69_2 + 1), o_69_3, (upd (upd (upd (upd (upd f_readWishes (5 * i_readMany).toNatClampNeg o_26_1) ((5 * i_readMany) + 1).toNatClampNeg o_40_1) ((5 * i_readMany) + 2).toNatClampNeg o_54_1) ((5 * i_readMany) + 3).toNatClampNeg o_69_1) ((5 * i_readMany) + 4).toNatClampNeg 1))
    else (if (f_text o_69_2.toNatClampNeg) = 108 then ((i_readMany + 1), (o_69_2 + 1), o_69_3, (upd (upd (upd (upd (upd f_readWishes (5 * i_readMany).toNatClampNeg o_26_1) ((5 * i_readMany) + 1).toNatClampNeg o_40_1) ((5 * i_readMany) + 2).toNatClampNeg o_54_1) ((5 * i_readMany) + 3).toNatClampNeg o_69_1) ((5 * i_readMany) + 4).toNatClampNeg 0))
    else (bnd (v_X8_fail o_69_2 o_69_3) fun o_162 =>
    (i_readMany, o_69_2, o_162, (upd (upd (upd (upd f_readWishes (5 * i_readMany).toNatClampNeg o_26_1) ((5 * i_readMany) + 1).toNatClampNeg o_40_1) ((5 * i_readMany) + 2).toNatClampNeg o_54_1) ((5 * i_readMany) + 3).toNatClampNeg o_69_1))))))
  else (bnd (v_X8_fail o_69_2 o_69_3) fun o_162 =>
  (i_readMany, o_69_2, o_162, (upd (upd (upd (upd f_readWishes (5 * i_readMany).toNatClampNeg o_26_1) ((5 * i_readMany) + 1).toNatClampNeg o_40_1) ((5 * i_readMany) + 2).toNatClampNeg o_54_1) ((5 * i_readMany) + 3).toNatClampNeg o_69_1)))))))
abbrev rm_X8_readWish : Room := { frames := 3, cells := 0, slots := 0, locals := 69 }
set_option maxHeartbeats 4000000 in
set_option maxRecDepth 100000 in
theorem k_X8_readWish (l : Launch) (D : va_G) (cI cZ : ClassId) (a a_readWishes a_readOwed a_told a_owed a_text a_row a_least a_values a_tellPlace a_tellHour a_tellDark a_isKept a_kept : Nat) (i_readHung : Int32) (i_readMany : Int32) (i_readOwes : Int32) (i_wishes : Int32) (i_hung : Int32) (i_hour : Int32) (i_length : Int32) (i_at : Int32) (i_faultAt : Int32) (i_acts : Int32) (i_next : Int32) (i_tells : Int32) (j_seed : Int64) (f_text : Nat → Int32) (f_readWishes : Nat → Int32) (hat : vp_in i_at 73) (hl0 : vp_in i_length 73) (hatl : ¬ i_length ≤ i_at) (hm : vp_in i_readMany 5) : KV l D cI cZ yX8_readWish wsX8_readWish rm_X8_readWish [.ref a] [(a, .inr (8, [.ref a_readWishes, .ref a_readOwed, .int i_readHung, .int i_readMany, .int i_readOwes, .ref a_told, .ref a_owed, .int i_wishes, .int i_hung, .int i_hour, .ref a_text, .int i_length, .int i_at, .int i_faultAt, .int i_acts, .int i_next, .ref a_row, .ref a_least, .ref a_values, .int i_tells, .ref a_tellPlace, .ref a_tellHour, .ref a_tellDark, .long j_seed, .ref a_isKept, .ref a_kept])), (a_text, .inl (cI, 72, .inl f_text)), (a_readWishes, .inl (cI, 25, .inl f_readWishes))] (v_X8_readWish i_readMany i_length i_at i_faultAt f_text f_readWishes) (fun o : Int32 × Int32 × Int32 × (Nat → Int32) => [(a, .inr (8, [.ref a_readWishes, .ref a_readOwed, .int i_readHung, .int o.1, .int i_readOwes, .ref a_told, .ref a_owed, .int i_wishes, .int i_hung, .int i_hour, .ref a_text, .int i_length, .int o.2.1, .int o.2.2.1, .int i_acts, .int i_next, .ref a_row, .ref a_least, .ref a_values, .int i_tells, .ref a_tellPlace, .ref a_tellHour, .ref a_tellDark, .long j_seed, .ref a_isKept, .ref a_kept])), (a_text, .inl (cI, 72, .inl f_text)), (a_readWishes, .inl (cI, 25, .inl o.2.2.2))]) := by
  refine KV.of cX8_readWish 3 none (by decide) rfl (Nat.le_of_ble_eq_true rfl) ?_
  intro p e s m below meth c A ls ar Q hQ B
  obtain ⟨hx, hb, hr, hml, hts, hown, hlk, hK, hN, hP, hD, hA, hS, hl⟩ := B
  have hown : s.vm.findClass RX8 = some m.cls := hown
  have hF : CallFix p m c cX8_readWish 3 s ar wsX8_readWish RX8 := ⟨hx, hb, hml, hown, hts⟩
  have hl : lv_has ls 3 [(0, .ref a)] := hl
  refine lv_aload_n hx hb dX8_readWish_0 rfl (lv_at hl 0 rfl) ?_
  refine lv_dup hx hb dX8_readWish_1 rfl ?_
  refine va_get (D := D) (ci := 8) (v := .int i_at) (C := RX8) (T := TX8) (N := 26) hx hb hts (fun _ h => List.mem_cons_of_mem _ (List.mem_append_right _ (h))) hown hK hP 0 rfl rfl 12 (by decide) (hts _ (List.mem_of_getElem? (i := 1) rfl)) (fun _ h9 => h9) rfl dX8_readWish_2 ?_
  refine lv_iconst (v := 1) hx hb dX8_readWish_5 rfl ?_
  refine lv_iadd hx hb dX8_readWish_6 ?_
  refine va_put (D := D) (ci := 8) (v := .int (i_at + 1)) (ty := .int) (C := RX8) (T := TX8) (N := 26) hx hb hts (fun _ h => List.mem_cons_of_mem _ (List.mem_append_right _ (h))) tyX8 tyX8_ok nmX8 hown hK hP (va_Dsame hD rfl) hS 0 rfl rfl 12 (by decide) (hts _ (List.mem_of_getElem? (i := 1) rfl)) (fun _ h9 => h9) rfl (tyX8_ok 12 (by decide)) rfl rfl (Nat.le_of_ble_eq_true rfl) dX8_readWish_7 (fun H locs hP _ hS => ?_)
  have hP : va_P D vwCl [(a, .inr (8, [.ref a_readWishes, .ref a_readOwed, .int i_readHung, .int i_readMany, .int i_readOwes, .ref a_told, .ref a_owed, .int i_wishes, .int i_hung, .int i_hour, .ref a_text, .int i_length, .int (i_at + 1), .int i_faultAt, .int i_acts, .int i_next, .ref a_row, .ref a_least, .ref a_values, .int i_tells, .ref a_tellPlace, .ref a_tellHour, .ref a_tellDark, .long j_seed, .ref a_isKept, .ref a_kept])), (a_text, .inl (cI, 72, .inl f_text)), (a_readWishes, .inl (cI, 25, .inl f_readWishes))] H := hP
  refine lv_iconst (v := 5) hx hb dX8_readWish_10 rfl ?_
  refine lv_aload_n hx hb dX8_readWish_11 rfl (lv_at hl 0 rfl) ?_
  refine va_get (D := D) (ci := 8) (v := .int i_readMany) (C := RX8) (T := TX8) (N := 26) hx hb hts (fun _ h => List.mem_cons_of_mem _ (List.mem_append_right _ (h))) hown hK hP 0 rfl rfl 3 (by decide) (hts _ (List.mem_of_getElem? (i := 2) rfl)) (fun _ h9 => h9) rfl dX8_readWish_12 ?_
  refine lv_imul hx hb dX8_readWish_15 ?_
  refine lv_istore_n (lv' := [(1, .int (5 * i_readMany)), (0, .ref a)]) hx hb dX8_readWish_16 rfl hl (by decide) rfl (fun ls hl => ?_)
  refine lv_aload_n hx hb dX8_readWish_17 rfl (lv_at hl 1 rfl) ?_
  refine va_get (D := D) (ci := 8) (v := .ref a_readWishes) (C := RX8) (T := TX8) (N := 26) hx hb hts (fun _ h => List.mem_cons_of_mem _ (List.mem_append_right _ (h))) hown hK hP 0 rfl rfl 0 (by decide) (hts _ (List.mem_of_getElem? (i := 3) rfl)) (fun _ h9 => h9) rfl dX8_readWish_18 ?_
  refine lv_iload_n hx hb dX8_readWish_21 rfl (lv_at hl 0 rfl) ?_
  refine lv_aload_n hx hb dX8_readWish_22 rfl (lv_at hl 1 rfl) ?_
  refine lv_sipush (v := 4095) hx hb dX8_readWish_23 rfl ?_
  obtain ⟨o_26_1, o_26_2, o_26_3, ho_26⟩ := ex3 (v_X8_two 4095 i_length (i_at + 1) i_faultAt f_text)
  refine callVI (As := [.int 4095]) (rest := [.int (5 * i_readMany), .ref a_readWishes]) (o_26_1, o_26_2, o_26_3) ho_26 hF (k_X8_two l D cI cZ a a_readWishes a_readOwed a_told a_owed a_text a_row a_least a_values a_tellPlace a_tellHour a_tellDark a_isKept a_kept 4095 i_readHung i_readMany i_readOwes i_wishes i_hung i_hour i_length (i_at + 1) i_faultAt i_acts i_next i_tells j_seed f_text (vin_s hat hl0 hatl) (hl0)) (cwV 1 hts gX8_readWish_X8_two rfl rfl rfl (by decide +kernel) ⟨Nat.le_of_ble_eq_true rfl, Nat.le_of_ble_eq_true rfl⟩) hK hN hP (va_Dsame hD rfl) hS hA [0, 1] rfl rfl 0 8 (T := TX8) (N := 26) rfl rfl rfl hl.1 rfl (Nat.le_of_ble_eq_true rfl) dX8_readWish_26 ⟨Nat.zero_le _, Nat.zero_le _⟩ o_26_1 rfl [some 0, some 1, none] 2 [(a, .inr (8, [.ref a_readWishes, .ref a_readOwed, .int i_readHung, .int i_readMany, .int i_readOwes, .ref a_told, .ref a_owed, .int i_wishes, .int i_hung, .int i_hour, .ref a_text, .int i_length, .int o_26_2, .int o_26_3, .int i_acts, .int i_next, .ref a_row, .ref a_least, .ref a_values, .int i_tells, .ref a_tellPlace, .ref a_tellHour, .ref a_tellDark, .long j_seed, .ref a_isKept, .ref a_kept])), (a_text, .inl (cI, 72, .inl f_text)), (a_readWishes, .inl (cI, 25, .inl f_readWishes))] rfl rfl (by decide) (fun H locs hP hS => ?_)
  refine va_iast hx hb hK hP (va_Dsame hD rfl) hS 2 0 rfl rfl (ix5z hm) dX8_readWish_29 (fun H locs hP _ hS => ?_)
  have hP : va_P D vwCl [(a, .inr (8, [.ref a_readWishes, .ref a_readOwed, .int i_readHung, .int i_readMany, .int i_readOwes, .ref a_told, .ref a_owed, .int i_wishes, .int i_hung, .int i_hour, .ref a_text, .int i_length, .int o_26_2, .int o_26_3, .int i_acts, .int i_next, .ref a_row, .ref a_least, .ref a_values, .int i_tells, .ref a_tellPlace, .ref a_tellHour, .ref a_tellDark, .long j_seed, .ref a_isKept, .ref a_kept])), (a_text, .inl (cI, 72, .inl f_text)), (a_readWishes, .inl (cI, 25, .inl (upd f_readWishes (5 * i_readMany).toNatClampNeg o_26_1)))] H := hP
  refine lv_aload_n hx hb dX8_readWish_30 rfl (lv_at hl 1 rfl) ?_
  refine va_get (D := D) (ci := 8) (v := .ref a_readWishes) (C := RX8) (T := TX8) (N := 26) hx hb hts (fun _ h => List.mem_cons_of_mem _ (List.mem_append_right _ (h))) hown hK hP 0 rfl rfl 0 (by decide) (hts _ (List.mem_of_getElem? (i := 3) rfl)) (fun _ h9 => h9) rfl dX8_readWish_31 ?_
  refine lv_iload_n hx hb dX8_readWish_34 rfl (lv_at hl 0 rfl) ?_
  refine lv_iconst (v := 1) hx hb dX8_readWish_35 rfl ?_
  refine lv_iadd hx hb dX8_readWish_36 ?_
  refine lv_aload_n hx hb dX8_readWish_37 rfl (lv_at hl 1 rfl) ?_
  refine lv_bipush (v := 63) hx hb dX8_readWish_38 rfl ?_
  obtain ⟨o_40_1, o_40_2, o_40_3, ho_40⟩ := ex3 (v_X8_figure 63 i_length o_26_2 o_26_3 f_text)
  refine callVI (As := [.int 63]) (rest := [.int ((5 * i_readMany) + 1), .ref a_readWishes]) (o_40_1, o_40_2, o_40_3) ho_40 hF (k_X8_figure l D cI cZ a a_readWishes a_readOwed a_told a_owed a_text a_row a_least a_values a_tellPlace a_tellHour a_tellDark a_isKept a_kept 63 i_readHung i_readMany i_readOwes i_wishes i_hung i_hour i_length o_26_2 o_26_3 i_acts i_next i_tells j_seed f_text (two_at (vin_s hat hl0 hatl) hl0 ho_26) (hl0)) (cwV 1 hts gX8_readWish_X8_figure rfl rfl rfl (by decide +kernel) ⟨Nat.le_of_ble_eq_true rfl, Nat.le_of_ble_eq_true rfl⟩) hK hN hP (va_Dsame hD rfl) hS hA [0, 1] rfl rfl 0 8 (T := TX8) (N := 26) rfl rfl rfl hl.1 rfl (Nat.le_of_ble_eq_true rfl) dX8_readWish_40 ⟨Nat.zero_le _, Nat.zero_le _⟩ o_40_1 rfl [some 0, some 1, none] 2 [(a, .inr (8, [.ref a_readWishes, .ref a_readOwed, .int i_readHung, .int i_readMany, .int i_readOwes, .ref a_told, .ref a_owed, .int i_wishes, .int i_hung, .int i_hour, .ref a_text, .int i_length, .int o_40_2, .int o_40_3, .int i_acts, .int i_next, .ref a_row, .ref a_least, .ref a_values, .int i_tells, .ref a_tellPlace, .ref a_tellHour, .ref a_tellDark, .long j_seed, .ref a_isKept, .ref a_kept])), (a_text, .inl (cI, 72, .inl f_text)), (a_readWishes, .inl (cI, 25, .inl (upd f_readWishes (5 * i_readMany).toNatClampNeg o_26_1)))] rfl rfl (by decide) (fun H locs hP hS => ?_)
  refine va_iast hx hb hK hP (va_Dsame hD rfl) hS 2 0 rfl rfl (ix5v (c := 1) hm (by decide)) dX8_readWish_43 (fun H locs hP _ hS => ?_)
  have hP : va_P D vwCl [(a, .inr (8, [.ref a_readWishes, .ref a_readOwed, .int i_readHung, .int i_readMany, .int i_readOwes, .ref a_told, .ref a_owed, .int i_wishes, .int i_hung, .int i_hour, .ref a_text, .int i_length, .int o_40_2, .int o_40_3, .int i_acts, .int i_next, .ref a_row, .ref a_least, .ref a_values, .int i_tells, .ref a_tellPlace, .ref a_tellHour, .ref a_tellDark, .long j_seed, .ref a_isKept, .ref a_kept])), (a_text, .inl (cI, 72, .inl f_text)), (a_readWishes, .inl (cI, 25, .inl (upd (upd f_readWishes (5 * i_readMany).toNatClampNeg o_26_1) ((5 * i_readMany) + 1).toNatClampNeg o_40_1)))] H := hP
  refine lv_aload_n hx hb dX8_readWish_44 rfl (lv_at hl 1 rfl) ?_
  refine va_get (D := D) (ci := 8) (v := .ref a_readWishes) (C := RX8) (T := TX8) (N := 26) hx hb hts (fun _ h => List.mem_cons_of_mem _ (List.mem_append_right _ (h))) hown hK hP 0 rfl rfl 0 (by decide) (hts _ (List.mem_of_getElem? (i := 3) rfl)) (fun _ h9 => h9) rfl dX8_readWish_45 ?_
  refine lv_iload_n hx hb dX8_readWish_48 rfl (lv_at hl 0 rfl) ?_
  refine lv_iconst (v := 2) hx hb dX8_readWish_49 rfl ?_
  refine lv_iadd hx hb dX8_readWish_50 ?_
  refine lv_aload_n hx hb dX8_readWish_51 rfl (lv_at hl 1 rfl) ?_
  refine lv_bipush (v := 126) hx hb dX8_readWish_52 rfl ?_
  obtain ⟨o_54_1, o_54_2, o_54_3, ho_54⟩ := ex3 (v_X8_figure 126 i_length o_40_2 o_40_3 f_text)
  refine callVI (As := [.int 126]) (rest := [.int ((5 * i_readMany) + 2), .ref a_readWishes]) (o_54_1, o_54_2, o_54_3) ho_54 hF (k_X8_figure l D cI cZ a a_readWishes a_readOwed a_told a_owed a_text a_row a_least a_values a_tellPlace a_tellHour a_tellDark a_isKept a_kept 126 i_readHung i_readMany i_readOwes i_wishes i_hung i_hour i_length o_40_2 o_40_3 i_acts i_next i_tells j_seed f_text (fig_at (two_at (vin_s hat hl0 hatl) hl0 ho_26) hl0 ho_40) (hl0)) (cwV 1 hts gX8_readWish_X8_figure rfl rfl rfl (by decide +kernel) ⟨Nat.le_of_ble_eq_true rfl, Nat.le_of_ble_eq_true rfl⟩) hK hN hP (va_Dsame hD rfl) hS hA [0, 1] rfl rfl 0 8 (T := TX8) (N := 26) rfl rfl rfl hl.1 rfl (Nat.le_of_ble_eq_true rfl) dX8_readWish_54 ⟨Nat.zero_le _, Nat.zero_le _⟩ o_54_1 rfl [some 0, some 1, none] 2 [(a, .inr (8, [.ref a_readWishes, .ref a_readOwed, .int i_readHung, .int i_readMany, .int i_readOwes, .ref a_told, .ref a_owed, .int i_wishes, .int i_hung, .int i_hour, .ref a_text, .int i_length, .int o_54_2, .int o_54_3, .int i_acts, .int i_next, .ref a_row, .ref a_least, .ref a_values, .int i_tells, .ref a_tellPlace, .ref a_tellHour, .ref a_tellDark, .long j_seed, .ref a_isKept, .ref a_kept])), (a_text, .inl (cI, 72, .inl f_text)), (a_readWishes, .inl (cI, 25, .inl (upd (upd f_readWishes (5 * i_readMany).toNatClampNeg o_26_1) ((5 * i_readMany) + 1).toNatClampNeg o_40_1)))] rfl rfl (by decide) (fun H locs hP hS => ?_)
  refine va_iast hx hb hK hP (va_Dsame hD rfl) hS 2 0 rfl rfl (ix5v (c := 2) hm (by decide)) dX8_readWish_57 (fun H locs hP _ hS => ?_)
  have hP : va_P D vwCl [(a, .inr (8, [.ref a_readWishes, .ref a_readOwed, .int i_readHung, .int i_readMany, .int i_readOwes, .ref a_told, .ref a_owed, .int i_wishes, .int i_hung, .int i_hour, .ref a_text, .int i_length, .int o_54_2, .int o_54_3, .int i_acts, .int i_next, .ref a_row, .ref a_least, .ref a_values, .int i_tells, .ref a_tellPlace, .ref a_tellHour, .ref a_tellDark, .long j_seed, .ref a_isKept, .ref a_kept])), (a_text, .inl (cI, 72, .inl f_text)), (a_readWishes, .inl (cI, 25, .inl (upd (upd (upd f_readWishes (5 * i_readMany).toNatClampNeg o_26_1) ((5 * i_readMany) + 1).toNatClampNeg o_40_1) ((5 * i_readMany) + 2).toNatClampNeg o_54_1)))] H := hP
  refine lv_aload_n hx hb dX8_readWish_58 rfl (lv_at hl 1 rfl) ?_
  refine va_get (D := D) (ci := 8) (v := .ref a_readWishes) (C := RX8) (T := TX8) (N := 26) hx hb hts (fun _ h => List.mem_cons_of_mem _ (List.mem_append_right _ (h))) hown hK hP 0 rfl rfl 0 (by decide) (hts _ (List.mem_of_getElem? (i := 3) rfl)) (fun _ h9 => h9) rfl dX8_readWish_59 ?_
  refine lv_iload_n hx hb dX8_readWish_62 rfl (lv_at hl 0 rfl) ?_
  refine lv_iconst (v := 3) hx hb dX8_readWish_63 rfl ?_
  refine lv_iadd hx hb dX8_readWish_64 ?_
  refine lv_aload_n hx hb dX8_readWish_65 rfl (lv_at hl 1 rfl) ?_
  refine lv_sipush (v := 1022) hx hb dX8_readWish_66 rfl ?_
  obtain ⟨o_69_1, o_69_2, o_69_3, ho_69⟩ := ex3 (v_X8_figure 1022 i_length o_54_2 o_54_3 f_text)
  refine callVI (As := [.int 1022]) (rest := [.int ((5 * i_readMany) + 3), .ref a_readWishes]) (o_69_1, o_69_2, o_69_3) ho_69 hF (k_X8_figure l D cI cZ a a_readWishes a_readOwed a_told a_owed a_text a_row a_least a_values a_tellPlace a_tellHour a_tellDark a_isKept a_kept 1022 i_readHung i_readMany i_readOwes i_wishes i_hung i_hour i_length o_54_2 o_54_3 i_acts i_next i_tells j_seed f_text (fig_at (fig_at (two_at (vin_s hat hl0 hatl) hl0 ho_26) hl0 ho_40) hl0 ho_54) (hl0)) (cwV 1 hts gX8_readWish_X8_figure rfl rfl rfl (by decide +kernel) ⟨Nat.le_of_ble_eq_true rfl, Nat.le_of_ble_eq_true rfl⟩) hK hN hP (va_Dsame hD rfl) hS hA [0, 1] rfl rfl 0 8 (T := TX8) (N := 26) rfl rfl rfl hl.1 rfl (Nat.le_of_ble_eq_true rfl) dX8_readWish_69 ⟨Nat.zero_le _, Nat.zero_le _⟩ o_69_1 rfl [some 0, some 1, none] 2 [(a, .inr (8, [.ref a_readWishes, .ref a_readOwed, .int i_readHung, .int i_readMany, .int i_readOwes, .ref a_told, .ref a_owed, .int i_wishes, .int i_hung, .int i_hour, .ref a_text, .int i_length, .int o_69_2, .int o_69_3, .int i_acts, .int i_next, .ref a_row, .ref a_least, .ref a_values, .int i_tells, .ref a_tellPlace, .ref a_tellHour, .ref a_tellDark, .long j_seed, .ref a_isKept, .ref a_kept])), (a_text, .inl (cI, 72, .inl f_text)), (a_readWishes, .inl (cI, 25, .inl (upd (upd (upd f_readWishes (5 * i_readMany).toNatClampNeg o_26_1) ((5 * i_readMany) + 1).toNatClampNeg o_40_1) ((5 * i_readMany) + 2).toNatClampNeg o_54_1)))] rfl rfl (by decide) (fun H locs hP hS => ?_)
  refine va_iast hx hb hK hP (va_Dsame hD rfl) hS 2 0 rfl rfl (ix5v (c := 3) hm (by decide)) dX8_readWish_72 (fun H locs hP _ hS => ?_)
  have hP : va_P D vwCl [(a, .inr (8, [.ref a_readWishes, .ref a_readOwed, .int i_readHung, .int i_readMany, .int i_readOwes, .ref a_told, .ref a_owed, .int i_wishes, .int i_hung, .int i_hour, .ref a_text, .int i_length, .int o_69_2, .int o_69_3, .int i_acts, .int i_next, .ref a_row, .ref a_least, .ref a_values, .int i_tells, .ref a_tellPlace, .ref a_tellHour, .ref a_tellDark, .long j_seed, .ref a_isKept, .ref a_kept])), (a_text, .inl (cI, 72, .inl f_text)), (a_readWishes, .inl (cI, 25, .inl (upd (upd (upd (upd f_readWishes (5 * i_readMany).toNatClampNeg o_26_1) ((5 * i_readMany) + 1).toNatClampNeg o_40_1) ((5 * i_readMany) + 2).toNatClampNeg o_54_1) ((5 * i_readMany) + 3).toNatClampNeg o_69_1)))] H := hP
  refine lv_aload_n hx hb dX8_readWish_73 rfl (lv_at hl 1 rfl) ?_
  refine va_get (D := D) (ci := 8) (v := .int o_69_3) (C := RX8) (T := TX8) (N := 26) hx hb hts (fun _ h => List.mem_cons_of_mem _ (List.mem_append_right _ (h))) hown hK hP 0 rfl rfl 13 (by decide) (hts _ (List.mem_of_getElem? (i := 4) rfl)) (fun _ h9 => h9) rfl dX8_readWish_74 ?_
  refine lv_bipush (v := (-9)) hx hb dX8_readWish_77 rfl ?_
  refine lv_icmp_ne (tgt := 105) hx hb dX8_readWish_79 (by decide) (fun c_79 => ?_) (fun c_79 => ?_)
  · refine lv_iconst (v := 0) hx hb dX8_readWish_105 rfl ?_
    refine lv_istore_n (lv' := [(2, .int 0), (1, .int (5 * i_readMany)), (0, .ref a)]) hx hb dX8_readWish_106 rfl hl (by decide) rfl (fun ls hl => ?_)
    refine lv_iload_n hx hb dX8_readWish_107 rfl (lv_at hl 0 rfl) ?_
    refine lv_bipush (v := 100) hx hb dX8_readWish_108 rfl ?_
    refine lv_icmp_eq (tgt := 119) hx hb dX8_readWish_110 (by decide) (fun c => absurd c (by decide)) (fun _ => ?_)
    refine lv_iload_n hx hb dX8_readWish_113 rfl (lv_at hl 0 rfl) ?_
    refine lv_bipush (v := 108) hx hb dX8_readWish_114 rfl ?_
    refine lv_icmp_ne (tgt := 161) hx hb dX8_readWish_116 (by decide) (fun _ => ?_) (fun c => absurd c (by decide))
    refine lv_aload_n hx hb dX8_readWish_161 rfl (lv_at hl 2 rfl) ?_
    obtain ⟨o_162, ho_162⟩ : ∃ z : Int32, z = v_X8_fail o_69_2 o_69_3 := ⟨_, rfl⟩
    refine callVV (As := []) (rest := []) o_162 ho_162 hF (k_X8_fail l D cI cZ a a_readWishes a_readOwed a_told a_owed a_text a_row a_least a_values a_tellPlace a_tellHour a_tellDark a_isKept a_kept i_readHung i_readMany i_readOwes i_wishes i_hung i_hour i_length o_69_2 o_69_3 i_acts i_next i_tells j_seed) (cwV 0 hts gX8_readWish_X8_fail rfl rfl rfl (by decide +kernel) ⟨Nat.le_of_ble_eq_true rfl, Nat.le_of_ble_eq_true rfl⟩) hK hN hP (va_Dsame hD rfl) hS hA [0] rfl rfl 0 8 (T := TX8) (N := 26) rfl rfl rfl hl.1 rfl (Nat.le_of_ble_eq_true rfl) dX8_readWish_162 ⟨Nat.zero_le _, Nat.zero_le _⟩ [some 0, none, none] 1 [(a, .inr (8, [.ref a_readWishes, .ref a_readOwed, .int i_readHung, .int i_readMany, .int i_readOwes, .ref a_told, .ref a_owed, .int i_wishes, .int i_hung, .int i_hour, .ref a_text, .int i_length, .int o_69_2, .int o_162, .int i_acts, .int i_next, .ref a_row, .ref a_least, .ref a_values, .int i_tells, .ref a_tellPlace, .ref a_tellHour, .ref a_tellDark, .long j_seed, .ref a_isKept, .ref a_kept])), (a_text, .inl (cI, 72, .inl f_text)), (a_readWishes, .inl (cI, 25, .inl (upd (upd (upd (upd f_readWishes (5 * i_readMany).toNatClampNeg o_26_1) ((5 * i_readMany) + 1).toNatClampNeg o_40_1) ((5 * i_readMany) + 2).toNatClampNeg o_54_1) ((5 * i_readMany) + 3).toNatClampNeg o_69_1)))] rfl rfl (by decide) (fun H locs hP hS => ?_)
    have e9 : v_X8_readWish i_readMany i_length i_at i_faultAt f_text f_readWishes = (i_readMany, o_69_2, o_162, (upd (upd (upd (upd f_readWishes (5 * i_readMany).toNatClampNeg o_26_1) ((5 * i_readMany) + 1).toNatClampNeg o_40_1) ((5 * i_readMany) + 2).toNatClampNeg o_54_1) ((5 * i_readMany) + 3).toNatClampNeg o_69_1)) := by
      refine (bnd3_eq ho_26).trans ?_
      refine (bnd3_eq ho_40).trans ?_
      refine (bnd3_eq ho_54).trans ?_
      refine (bnd3_eq ho_69).trans ?_
      refine (if_neg c_79).trans ?_
      refine (bnd_eq ho_162).trans ?_
      rfl
    rw [hQ]; exact retV (i_readMany, o_69_2, o_162, (upd (upd (upd (upd f_readWishes (5 * i_readMany).toNatClampNeg o_26_1) ((5 * i_readMany) + 1).toNatClampNeg o_40_1) ((5 * i_readMany) + 2).toNatClampNeg o_54_1) ((5 * i_readMany) + 3).toNatClampNeg o_69_1)) hx hb hr hlk e9 hP hS dX8_readWish_165
  · refine lv_aload_n hx hb dX8_readWish_82 rfl (lv_at hl 1 rfl) ?_
    refine va_get (D := D) (ci := 8) (v := .int o_69_2) (C := RX8) (T := TX8) (N := 26) hx hb hts (fun _ h => List.mem_cons_of_mem _ (List.mem_append_right _ (h))) hown hK hP 0 rfl rfl 12 (by decide) (hts _ (List.mem_of_getElem? (i := 1) rfl)) (fun _ h9 => h9) rfl dX8_readWish_83 ?_
    refine lv_aload_n hx hb dX8_readWish_86 rfl (lv_at hl 1 rfl) ?_
    refine va_get (D := D) (ci := 8) (v := .int i_length) (C := RX8) (T := TX8) (N := 26) hx hb hts (fun _ h => List.mem_cons_of_mem _ (List.mem_append_right _ (h))) hown hK hP 0 rfl rfl 11 (by decide) (hts _ (List.mem_of_getElem? (i := 5) rfl)) (fun _ h9 => h9) rfl dX8_readWish_87 ?_
    refine lv_icmp_ge (tgt := 105) hx hb dX8_readWish_90 (by decide) (fun c_90 => ?_) (fun c_90 => ?_)
    · refine lv_iconst (v := 0) hx hb dX8_readWish_105 rfl ?_
      refine lv_istore_n (lv' := [(2, .int 0), (1, .int (5 * i_readMany)), (0, .ref a)]) hx hb dX8_readWish_106 rfl hl (by decide) rfl (fun ls hl => ?_)
      refine lv_iload_n hx hb dX8_readWish_107 rfl (lv_at hl 0 rfl) ?_
      refine lv_bipush (v := 100) hx hb dX8_readWish_108 rfl ?_
      refine lv_icmp_eq (tgt := 119) hx hb dX8_readWish_110 (by decide) (fun c => absurd c (by decide)) (fun _ => ?_)
      refine lv_iload_n hx hb dX8_readWish_113 rfl (lv_at hl 0 rfl) ?_
      refine lv_bipush (v := 108) hx hb dX8_readWish_114 rfl ?_
      refine lv_icmp_ne (tgt := 161) hx hb dX8_readWish_116 (by decide) (fun _ => ?_) (fun c => absurd c (by decide))
      refine lv_aload_n hx hb dX8_readWish_161 rfl (lv_at hl 2 rfl) ?_
      obtain ⟨o_162, ho_162⟩ : ∃ z : Int32, z = v_X8_fail o_69_2 o_69_3 := ⟨_, rfl⟩
      refine callVV (As := []) (rest := []) o_162 ho_162 hF (k_X8_fail l D cI cZ a a_readWishes a_readOwed a_told a_owed a_text a_row a_least a_values a_tellPlace a_tellHour a_tellDark a_isKept a_kept i_readHung i_readMany i_readOwes i_wishes i_hung i_hour i_length o_69_2 o_69_3 i_acts i_next i_tells j_seed) (cwV 0 hts gX8_readWish_X8_fail rfl rfl rfl (by decide +kernel) ⟨Nat.le_of_ble_eq_true rfl, Nat.le_of_ble_eq_true rfl⟩) hK hN hP (va_Dsame hD rfl) hS hA [0] rfl rfl 0 8 (T := TX8) (N := 26) rfl rfl rfl hl.1 rfl (Nat.le_of_ble_eq_true rfl) dX8_readWish_162 ⟨Nat.zero_le _, Nat.zero_le _⟩ [some 0, none, none] 1 [(a, .inr (8, [.ref a_readWishes, .ref a_readOwed, .int i_readHung, .int i_readMany, .int i_readOwes, .ref a_told, .ref a_owed, .int i_wishes, .int i_hung, .int i_hour, .ref a_text, .int i_length, .int o_69_2, .int o_162, .int i_acts, .int i_next, .ref a_row, .ref a_least, .ref a_values, .int i_tells, .ref a_tellPlace, .ref a_tellHour, .ref a_tellDark, .long j_seed, .ref a_isKept, .ref a_kept])), (a_text, .inl (cI, 72, .inl f_text)), (a_readWishes, .inl (cI, 25, .inl (upd (upd (upd (upd f_readWishes (5 * i_readMany).toNatClampNeg o_26_1) ((5 * i_readMany) + 1).toNatClampNeg o_40_1) ((5 * i_readMany) + 2).toNatClampNeg o_54_1) ((5 * i_readMany) + 3).toNatClampNeg o_69_1)))] rfl rfl (by decide) (fun H locs hP hS => ?_)
      have e9 : v_X8_readWish i_readMany i_length i_at i_faultAt f_text f_readWishes = (i_readMany, o_69_2, o_162, (upd (upd (upd (upd f_readWishes (5 * i_readMany).toNatClampNeg o_26_1) ((5 * i_readMany) + 1).toNatClampNeg o_40_1) ((5 * i_readMany) + 2).toNatClampNeg o_54_1) ((5 * i_readMany) + 3).toNatClampNeg o_69_1)) := by
        refine (bnd3_eq ho_26).trans ?_
        refine (bnd3_eq ho_40).trans ?_
        refine (bnd3_eq ho_54).trans ?_
        refine (bnd3_eq ho_69).trans ?_
        refine (if_pos c_79).trans ?_
        refine (if_pos c_90).trans ?_
        refine (bnd_eq ho_162).trans ?_
        rfl
      rw [hQ]; exact retV (i_readMany, o_69_2, o_162, (upd (upd (upd (upd f_readWishes (5 * i_readMany).toNatClampNeg o_26_1) ((5 * i_readMany) + 1).toNatClampNeg o_40_1) ((5 * i_readMany) + 2).toNatClampNeg o_54_1) ((5 * i_readMany) + 3).toNatClampNeg o_69_1)) hx hb hr hlk e9 hP hS dX8_readWish_165
    · refine lv_aload_n hx hb dX8_readWish_93 rfl (lv_at hl 1 rfl) ?_
      refine va_get (D := D) (ci := 8) (v := .ref a_text) (C := RX8) (T := TX8) (N := 26) hx hb hts (fun _ h => List.mem_cons_of_mem _ (List.mem_append_right _ (h))) hown hK hP 0 rfl rfl 10 (by decide) (hts _ (List.mem_of_getElem? (i := 6) rfl)) (fun _ h9 => h9) rfl dX8_readWish_94 ?_
      refine lv_aload_n hx hb dX8_readWish_97 rfl (lv_at hl 1 rfl) ?_
      refine va_get (D := D) (ci := 8) (v := .int o_69_2) (C := RX8) (T := TX8) (N := 26) hx hb hts (fun _ h => List.mem_cons_of_mem _ (List.mem_append_right _ (h))) hown hK hP 0 rfl rfl 12 (by decide) (hts _ (List.mem_of_getElem? (i := 1) rfl)) (fun _ h9 => h9) rfl dX8_readWish_98 ?_
      refine va_iald hx hb hK hP 1 0 rfl rfl (vin_lt (fig_at (fig_at (fig_at (two_at (vin_s hat hl0 hatl) hl0 ho_26) hl0 ho_40) hl0 ho_54) hl0 ho_69) hl0 c_90) dX8_readWish_101 ?_
      refine lv_goto (tgt := 106) hx hb dX8_readWish_102 (by decide) ?_
      refine lv_istore_n (lv' := [(2, .int (f_text o_69_2.toNatClampNeg)), (1, .int (5 * i_readMany)), (0, .ref a)]) hx hb dX8_readWish_106 rfl hl (by decide) rfl (fun ls hl => ?_)
      refine lv_iload_n hx hb dX8_readWish_107 rfl (lv_at hl 0 rfl) ?_
      refine lv_bipush (v := 100) hx hb dX8_readWish_108 rfl ?_
      refine lv_icmp_eq (tgt := 119) hx hb dX8_readWish_110 (by decide) (fun c_110 => ?_) (fun c_110 => ?_)
      · refine lv_aload_n hx hb dX8_readWish_119 rfl (lv_at hl 2 rfl) ?_
        refine va_get (D := D) (ci := 8) (v := .ref a_readWishes) (C := RX8) (T := TX8) (N := 26) hx hb hts (fun _ h => List.mem_cons_of_mem _ (List.mem_append_right _ (h))) hown hK hP 0 rfl rfl 0 (by decide) (hts _ (List.mem_of_getElem? (i := 3) rfl)) (fun _ h9 => h9) rfl dX8_readWish_120 ?_
        refine lv_iload_n hx hb dX8_readWish_123 rfl (lv_at hl 1 rfl) ?_
        refine lv_iconst (v := 4) hx hb dX8_readWish_124 rfl ?_
        refine lv_iadd hx hb dX8_readWish_125 ?_
        refine lv_iload_n hx hb dX8_readWish_126 rfl (lv_at hl 0 rfl) ?_
        refine lv_bipush (v := 100) hx hb dX8_readWish_127 rfl ?_
        refine lv_icmp_ne (tgt := 136) hx hb dX8_readWish_129 (by decide) (fun c => absurd c_110 c) (fun _ => ?_)
        refine lv_iconst (v := 1) hx hb dX8_readWish_132 rfl ?_
        refine lv_goto (tgt := 137) hx hb dX8_readWish_133 (by decide) ?_
        refine va_iast hx hb hK hP (va_Dsame hD rfl) hS 2 0 rfl rfl (ix5v (c := 4) hm (by decide)) dX8_readWish_137 (fun H locs hP _ hS => ?_)
        have hP : va_P D vwCl [(a, .inr (8, [.ref a_readWishes, .ref a_readOwed, .int i_readHung, .int i_readMany, .int i_readOwes, .ref a_told, .ref a_owed, .int i_wishes, .int i_hung, .int i_hour, .ref a_text, .int i_length, .int o_69_2, .int o_69_3, .int i_acts, .int i_next, .ref a_row, .ref a_least, .ref a_values, .int i_tells, .ref a_tellPlace, .ref a_tellHour, .ref a_tellDark, .long j_seed, .ref a_isKept, .ref a_kept])), (a_text, .inl (cI, 72, .inl f_text)), (a_readWishes, .inl (cI, 25, .inl (upd (upd (upd (upd (upd f_readWishes (5 * i_readMany).toNatClampNeg o_26_1) ((5 * i_readMany) + 1).toNatClampNeg o_40_1) ((5 * i_readMany) + 2).toNatClampNeg o_54_1) ((5 * i_readMany) + 3).toNatClampNeg o_69_1) ((5 * i_readMany) + 4).toNatClampNeg 1)))] H := hP
        refine lv_aload_n hx hb dX8_readWish_138 rfl (lv_at hl 2 rfl) ?_
        refine lv_dup hx hb dX8_readWish_139 rfl ?_
        refine va_get (D := D) (ci := 8) (v := .int i_readMany) (C := RX8) (T := TX8) (N := 26) hx hb hts (fun _ h => List.mem_cons_of_mem _ (List.mem_append_right _ (h))) hown hK hP 0 rfl rfl 3 (by decide) (hts _ (List.mem_of_getElem? (i := 2) rfl)) (fun _ h9 => h9) rfl dX8_readWish_140 ?_
        refine lv_iconst (v := 1) hx hb dX8_readWish_143 rfl ?_
        refine lv_iadd hx hb dX8_readWish_144 ?_
        refine va_put (D := D) (ci := 8) (v := .int (i_readMany + 1)) (ty := .int) (C := RX8) (T := TX8) (N := 26) hx hb hts (fun _ h => List.mem_cons_of_mem _ (List.mem_append_right _ (h))) tyX8 tyX8_ok nmX8 hown hK hP (va_Dsame hD rfl) hS 0 rfl rfl 3 (by decide) (hts _ (List.mem_of_getElem? (i := 2) rfl)) (fun _ h9 => h9) rfl (tyX8_ok 3 (by decide)) rfl rfl (Nat.le_of_ble_eq_true rfl) dX8_readWish_145 (fun H locs hP _ hS => ?_)
        have hP : va_P D vwCl [(a, .inr (8, [.ref a_readWishes, .ref a_readOwed, .int i_readHung, .int (i_readMany + 1), .int i_readOwes, .ref a_told, .ref a_owed, .int i_wishes, .int i_hung, .int i_hour, .ref a_text, .int i_length, .int o_69_2, .int o_69_3, .int i_acts, .int i_next, .ref a_row, .ref a_least, .ref a_values, .int i_tells, .ref a_tellPlace, .ref a_tellHour, .ref a_tellDark, .long j_seed, .ref a_isKept, .ref a_kept])), (a_text, .inl (cI, 72, .inl f_text)), (a_readWishes, .inl (cI, 25, .inl (upd (upd (upd (upd (upd f_readWishes (5 * i_readMany).toNatClampNeg o_26_1) ((5 * i_readMany) + 1).toNatClampNeg o_40_1) ((5 * i_readMany) + 2).toNatClampNeg o_54_1) ((5 * i_readMany) + 3).toNatClampNeg o_69_1) ((5 * i_readMany) + 4).toNatClampNeg 1)))] H := hP
        refine lv_aload_n hx hb dX8_readWish_148 rfl (lv_at hl 2 rfl) ?_
        refine lv_dup hx hb dX8_readWish_149 rfl ?_
        refine va_get (D := D) (ci := 8) (v := .int o_69_2) (C := RX8) (T := TX8) (N := 26) hx hb hts (fun _ h => List.mem_cons_of_mem _ (List.mem_append_right _ (h))) hown hK hP 0 rfl rfl 12 (by decide) (hts _ (List.mem_of_getElem? (i := 1) rfl)) (fun _ h9 => h9) rfl dX8_readWish_150 ?_
        refine lv_iconst (v := 1) hx hb dX8_readWish_153 rfl ?_
        refine lv_iadd hx hb dX8_readWish_154 ?_
        refine va_put (D := D) (ci := 8) (v := .int (o_69_2 + 1)) (ty := .int) (C := RX8) (T := TX8) (N := 26) hx hb hts (fun _ h => List.mem_cons_of_mem _ (List.mem_append_right _ (h))) tyX8 tyX8_ok nmX8 hown hK hP (va_Dsame hD rfl) hS 0 rfl rfl 12 (by decide) (hts _ (List.mem_of_getElem? (i := 1) rfl)) (fun _ h9 => h9) rfl (tyX8_ok 12 (by decide)) rfl rfl (Nat.le_of_ble_eq_true rfl) dX8_readWish_155 (fun H locs hP _ hS => ?_)
        have hP : va_P D vwCl [(a, .inr (8, [.ref a_readWishes, .ref a_readOwed, .int i_readHung, .int (i_readMany + 1), .int i_readOwes, .ref a_told, .ref a_owed, .int i_wishes, .int i_hung, .int i_hour, .ref a_text, .int i_length, .int (o_69_2 + 1), .int o_69_3, .int i_acts, .int i_next, .ref a_row, .ref a_least, .ref a_values, .int i_tells, .ref a_tellPlace, .ref a_tellHour, .ref a_tellDark, .long j_seed, .ref a_isKept, .ref a_kept])), (a_text, .inl (cI, 72, .inl f_text)), (a_readWishes, .inl (cI, 25, .inl (upd (upd (upd (upd (upd f_readWishes (5 * i_readMany).toNatClampNeg o_26_1) ((5 * i_readMany) + 1).toNatClampNeg o_40_1) ((5 * i_readMany) + 2).toNatClampNeg o_54_1) ((5 * i_readMany) + 3).toNatClampNeg o_69_1) ((5 * i_readMany) + 4).toNatClampNeg 1)))] H := hP
        refine lv_goto (tgt := 165) hx hb dX8_readWish_158 (by decide) ?_
        have e9 : v_X8_readWish i_readMany i_length i_at i_faultAt f_text f_readWishes = ((i_readMany + 1), (o_69_2 + 1), o_69_3, (upd (upd (upd (upd (upd f_readWishes (5 * i_readMany).toNatClampNeg o_26_1) ((5 * i_readMany) + 1).toNatClampNeg o_40_1) ((5 * i_readMany) + 2).toNatClampNeg o_54_1) ((5 * i_readMany) + 3).toNatClampNeg o_69_1) ((5 * i_readMany) + 4).toNatClampNeg 1)) := by
          refine (bnd3_eq ho_26).trans ?_
          refine (bnd3_eq ho_40).trans ?_
          refine (bnd3_eq ho_54).trans ?_
          refine (bnd3_eq ho_69).trans ?_
          refine (if_pos c_79).trans ?_
          refine (if_neg c_90).trans ?_
          refine (if_pos c_110).trans ?_
          rfl
        rw [hQ]; exact retV ((i_readMany + 1), (o_69_2 + 1), o_69_3, (upd (upd (upd (upd (upd f_readWishes (5 * i_readMany).toNatClampNeg o_26_1) ((5 * i_readMany) + 1).toNatClampNeg o_40_1) ((5 * i_readMany) + 2).toNatClampNeg o_54_1) ((5 * i_readMany) + 3).toNatClampNeg o_69_1) ((5 * i_readMany) + 4).toNatClampNeg 1)) hx hb hr hlk e9 hP hS dX8_readWish_165
      · refine lv_iload_n hx hb dX8_readWish_113 rfl (lv_at hl 0 rfl) ?_
        refine lv_bipush (v := 108) hx hb dX8_readWish_114 rfl ?_
        refine lv_icmp_ne (tgt := 161) hx hb dX8_readWish_116 (by decide) (fun c_116 => ?_) (fun c_116 => ?_)
        · refine lv_aload_n hx hb dX8_readWish_161 rfl (lv_at hl 2 rfl) ?_
          obtain ⟨o_162, ho_162⟩ : ∃ z : Int32, z = v_X8_fail o_69_2 o_69_3 := ⟨_, rfl⟩
          refine callVV (As := []) (rest := []) o_162 ho_162 hF (k_X8_fail l D cI cZ a a_readWishes a_readOwed a_told a_owed a_text a_row a_least a_values a_tellPlace a_tellHour a_tellDark a_isKept a_kept i_readHung i_readMany i_readOwes i_wishes i_hung i_hour i_length o_69_2 o_69_3 i_acts i_next i_tells j_seed) (cwV 0 hts gX8_readWish_X8_fail rfl rfl rfl (by decide +kernel) ⟨Nat.le_of_ble_eq_true rfl, Nat.le_of_ble_eq_true rfl⟩) hK hN hP (va_Dsame hD rfl) hS hA [0] rfl rfl 0 8 (T := TX8) (N := 26) rfl rfl rfl hl.1 rfl (Nat.le_of_ble_eq_true rfl) dX8_readWish_162 ⟨Nat.zero_le _, Nat.zero_le _⟩ [some 0, none, none] 1 [(a, .inr (8, [.ref a_readWishes, .ref a_readOwed, .int i_readHung, .int i_readMany, .int i_readOwes, .ref a_told, .ref a_owed, .int i_wishes, .int i_hung, .int i_hour, .ref a_text, .int i_length, .int o_69_2, .int o_162, .int i_acts, .int i_next, .ref a_row, .ref a_least, .ref a_values, .int i_tells, .ref a_tellPlace, .ref a_tellHour, .ref a_tellDark, .long j_seed, .ref a_isKept, .ref a_kept])), (a_text, .inl (cI, 72, .inl f_text)), (a_readWishes, .inl (cI, 25, .inl (upd (upd (upd (upd f_readWishes (5 * i_readMany).toNatClampNeg o_26_1) ((5 * i_readMany) + 1).toNatClampNeg o_40_1) ((5 * i_readMany) + 2).toNatClampNeg o_54_1) ((5 * i_readMany) + 3).toNatClampNeg o_69_1)))] rfl rfl (by decide) (fun H locs hP hS => ?_)
          have e9 : v_X8_readWish i_readMany i_length i_at i_faultAt f_text f_readWishes = (i_readMany, o_69_2, o_162, (upd (upd (upd (upd f_readWishes (5 * i_readMany).toNatClampNeg o_26_1) ((5 * i_readMany) + 1).toNatClampNeg o_40_1) ((5 * i_readMany) + 2).toNatClampNeg o_54_1) ((5 * i_readMany) + 3).toNatClampNeg o_69_1)) := by
            refine (bnd3_eq ho_26).trans ?_
            refine (bnd3_eq ho_40).trans ?_
            refine (bnd3_eq ho_54).trans ?_
            refine (bnd3_eq ho_69).trans ?_
            refine (if_pos c_79).trans ?_
            refine (if_neg c_90).trans ?_
            refine (if_neg c_110).trans ?_
            refine (if_neg c_116).trans ?_
            refine (bnd_eq ho_162).trans ?_
            rfl
          rw [hQ]; exact retV (i_readMany, o_69_2, o_162, (upd (upd (upd (upd f_readWishes (5 * i_readMany).toNatClampNeg o_26_1) ((5 * i_readMany) + 1).toNatClampNeg o_40_1) ((5 * i_readMany) + 2).toNatClampNeg o_54_1) ((5 * i_readMany) + 3).toNatClampNeg o_69_1)) hx hb hr hlk e9 hP hS dX8_readWish_165
        · refine lv_aload_n hx hb dX8_readWish_119 rfl (lv_at hl 2 rfl) ?_
          refine va_get (D := D) (ci := 8) (v := .ref a_readWishes) (C := RX8) (T := TX8) (N := 26) hx hb hts (fun _ h => List.mem_cons_of_mem _ (List.mem_append_right _ (h))) hown hK hP 0 rfl rfl 0 (by decide) (hts _ (List.mem_of_getElem? (i := 3) rfl)) (fun _ h9 => h9) rfl dX8_readWish_120 ?_
          refine lv_iload_n hx hb dX8_readWish_123 rfl (lv_at hl 1 rfl) ?_
          refine lv_iconst (v := 4) hx hb dX8_readWish_124 rfl ?_
          refine lv_iadd hx hb dX8_readWish_125 ?_
          refine lv_iload_n hx hb dX8_readWish_126 rfl (lv_at hl 0 rfl) ?_
          refine lv_bipush (v := 100) hx hb dX8_readWish_127 rfl ?_
          refine lv_icmp_ne (tgt := 136) hx hb dX8_readWish_129 (by decide) (fun _ => ?_) (fun c => absurd c c_110)
          refine lv_iconst (v := 0) hx hb dX8_readWish_136 rfl ?_
          refine va_iast hx hb hK hP (va_Dsame hD rfl) hS 2 0 rfl rfl (ix5v (c := 4) hm (by decide)) dX8_readWish_137 (fun H locs hP _ hS => ?_)
          have hP : va_P D vwCl [(a, .inr (8, [.ref a_readWishes, .ref a_readOwed, .int i_readHung, .int i_readMany, .int i_readOwes, .ref a_told, .ref a_owed, .int i_wishes, .int i_hung, .int i_hour, .ref a_text, .int i_length, .int o_69_2, .int o_69_3, .int i_acts, .int i_next, .ref a_row, .ref a_least, .ref a_values, .int i_tells, .ref a_tellPlace, .ref a_tellHour, .ref a_tellDark, .long j_seed, .ref a_isKept, .ref a_kept])), (a_text, .inl (cI, 72, .inl f_text)), (a_readWishes, .inl (cI, 25, .inl (upd (upd (upd (upd (upd f_readWishes (5 * i_readMany).toNatClampNeg o_26_1) ((5 * i_readMany) + 1).toNatClampNeg o_40_1) ((5 * i_readMany) + 2).toNatClampNeg o_54_1) ((5 * i_readMany) + 3).toNatClampNeg o_69_1) ((5 * i_readMany) + 4).toNatClampNeg 0)))] H := hP
          refine lv_aload_n hx hb dX8_readWish_138 rfl (lv_at hl 2 rfl) ?_
          refine lv_dup hx hb dX8_readWish_139 rfl ?_
          refine va_get (D := D) (ci := 8) (v := .int i_readMany) (C := RX8) (T := TX8) (N := 26) hx hb hts (fun _ h => List.mem_cons_of_mem _ (List.mem_append_right _ (h))) hown hK hP 0 rfl rfl 3 (by decide) (hts _ (List.mem_of_getElem? (i := 2) rfl)) (fun _ h9 => h9) rfl dX8_readWish_140 ?_
          refine lv_iconst (v := 1) hx hb dX8_readWish_143 rfl ?_
          refine lv_iadd hx hb dX8_readWish_144 ?_
          refine va_put (D := D) (ci := 8) (v := .int (i_readMany + 1)) (ty := .int) (C := RX8) (T := TX8) (N := 26) hx hb hts (fun _ h => List.mem_cons_of_mem _ (List.mem_append_right _ (h))) tyX8 tyX8_ok nmX8 hown hK hP (va_Dsame hD rfl) hS 0 rfl rfl 3 (by decide) (hts _ (List.mem_of_getElem? (i := 2) rfl)) (fun _ h9 => h9) rfl (tyX8_ok 3 (by decide)) rfl rfl (Nat.le_of_ble_eq_true rfl) dX8_readWish_145 (fun H locs hP _ hS => ?_)
          have hP : va_P D vwCl [(a, .inr (8, [.ref a_readWishes, .ref a_readOwed, .int i_readHung, .int (i_readMany + 1), .int i_readOwes, .ref a_told, .ref a_owed, .int i_wishes, .int i_hung, .int i_hour, .ref a_text, .int i_length, .int o_69_2, .int o_69_3, .int i_acts, .int i_next, .ref a_row, .ref a_least, .ref a_values, .int i_tells, .ref a_tellPlace, .ref a_tellHour, .ref a_tellDark, .long j_seed, .ref a_isKept, .ref a_kept])), (a_text, .inl (cI, 72, .inl f_text)), (a_readWishes, .inl (cI, 25, .inl (upd (upd (upd (upd (upd f_readWishes (5 * i_readMany).toNatClampNeg o_26_1) ((5 * i_readMany) + 1).toNatClampNeg o_40_1) ((5 * i_readMany) + 2).toNatClampNeg o_54_1) ((5 * i_readMany) + 3).toNatClampNeg o_69_1) ((5 * i_readMany) + 4).toNatClampNeg 0)))] H := hP
          refine lv_aload_n hx hb dX8_readWish_148 rfl (lv_at hl 2 rfl) ?_
          refine lv_dup hx hb dX8_readWish_149 rfl ?_
          refine va_get (D := D) (ci := 8) (v := .int o_69_2) (C := RX8) (T := TX8) (N := 26) hx hb hts (fun _ h => List.mem_cons_of_mem _ (List.mem_append_right _ (h))) hown hK hP 0 rfl rfl 12 (by decide) (hts _ (List.mem_of_getElem? (i := 1) rfl)) (fun _ h9 => h9) rfl dX8_readWish_150 ?_
          refine lv_iconst (v := 1) hx hb dX8_readWish_153 rfl ?_
          refine lv_iadd hx hb dX8_readWish_154 ?_
          refine va_put (D := D) (ci := 8) (v := .int (o_69_2 + 1)) (ty := .int) (C := RX8) (T := TX8) (N := 26) hx hb hts (fun _ h => List.mem_cons_of_mem _ (List.mem_append_right _ (h))) tyX8 tyX8_ok nmX8 hown hK hP (va_Dsame hD rfl) hS 0 rfl rfl 12 (by decide) (hts _ (List.mem_of_getElem? (i := 1) rfl)) (fun _ h9 => h9) rfl (tyX8_ok 12 (by decide)) rfl rfl (Nat.le_of_ble_eq_true rfl) dX8_readWish_155 (fun H locs hP _ hS => ?_)
          have hP : va_P D vwCl [(a, .inr (8, [.ref a_readWishes, .ref a_readOwed, .int i_readHung, .int (i_readMany + 1), .int i_readOwes, .ref a_told, .ref a_owed, .int i_wishes, .int i_hung, .int i_hour, .ref a_text, .int i_length, .int (o_69_2 + 1), .int o_69_3, .int i_acts, .int i_next, .ref a_row, .ref a_least, .ref a_values, .int i_tells, .ref a_tellPlace, .ref a_tellHour, .ref a_tellDark, .long j_seed, .ref a_isKept, .ref a_kept])), (a_text, .inl (cI, 72, .inl f_text)), (a_readWishes, .inl (cI, 25, .inl (upd (upd (upd (upd (upd f_readWishes (5 * i_readMany).toNatClampNeg o_26_1) ((5 * i_readMany) + 1).toNatClampNeg o_40_1) ((5 * i_readMany) + 2).toNatClampNeg o_54_1) ((5 * i_readMany) + 3).toNatClampNeg o_69_1) ((5 * i_readMany) + 4).toNatClampNeg 0)))] H := hP
          refine lv_goto (tgt := 165) hx hb dX8_readWish_158 (by decide) ?_
          have e9 : v_X8_readWish i_readMany i_length i_at i_faultAt f_text f_readWishes = ((i_readMany + 1), (o_69_2 + 1), o_69_3, (upd (upd (upd (upd (upd f_readWishes (5 * i_readMany).toNatClampNeg o_26_1) ((5 * i_readMany) + 1).toNatClampNeg o_40_1) ((5 * i_readMany) + 2).toNatClampNeg o_54_1) ((5 * i_readMany) + 3).toNatClampNeg o_69_1) ((5 * i_readMany) + 4).toNatClampNeg 0)) := by
            refine (bnd3_eq ho_26).trans ?_
            refine (bnd3_eq ho_40).trans ?_
            refine (bnd3_eq ho_54).trans ?_
            refine (bnd3_eq ho_69).trans ?_
            refine (if_pos c_79).trans ?_
            refine (if_neg c_90).trans ?_
            refine (if_neg c_110).trans ?_
            refine (if_pos c_116).trans ?_
            rfl
          rw [hQ]; exact retV ((i_readMany + 1), (o_69_2 + 1), o_69_3, (upd (upd (upd (upd (upd f_readWishes (5 * i_readMany).toNatClampNeg o_26_1) ((5 * i_readMany) + 1).toNatClampNeg o_40_1) ((5 * i_readMany) + 2).toNatClampNeg o_54_1) ((5 * i_readMany) + 3).toNatClampNeg o_69_1) ((5 * i_readMany) + 4).toNatClampNeg 0)) hx hb hr hlk e9 hP hS dX8_readWish_165
def v_X8_notOwed_L4 (f_readOwed : Nat → Int32) (i4 : Nat) (z4 : Int32) : Int32 :=
  if (f_readOwed (nI i4).toNatClampNeg) = 0 then (z4 ||| ((1 : Int32) <<< (nI i4 &&& 31)))
  else (z4 ||| 0)
def v_X8_notOwed (f_readOwed : Nat → Int32) : Int32 :=
  bnd (it (v_X8_notOwed_L4 f_readOwed) 12 0 0) fun o_L4 =>
  o_L4
abbrev rm_X8_notOwed : Room := { frames := 0, cells := 0, slots := 0, locals := 0 }
set_option maxHeartbeats 4000000 in
set_option maxRecDepth 100000 in
theorem k_X8_notOwed (l : Launch) (D : va_G) (cI cZ : ClassId) (a a_readWishes a_readOwed a_told a_owed a_text a_row a_least a_values a_tellPlace a_tellHour a_tellDark a_isKept a_kept : Nat) (i_readHung : Int32) (i_readMany : Int32) (i_readOwes : Int32) (i_wishes : Int32) (i_hung : Int32) (i_hour : Int32) (i_length : Int32) (i_at : Int32) (i_faultAt : Int32) (i_acts : Int32) (i_next : Int32) (i_tells : Int32) (j_seed : Int64) (f_readOwed : Nat → Int32) : KI l D cI cZ yX8_notOwed wsX8_notOwed rm_X8_notOwed [.ref a] [(a, .inr (8, [.ref a_readWishes, .ref a_readOwed, .int i_readHung, .int i_readMany, .int i_readOwes, .ref a_told, .ref a_owed, .int i_wishes, .int i_hung, .int i_hour, .ref a_text, .int i_length, .int i_at, .int i_faultAt, .int i_acts, .int i_next, .ref a_row, .ref a_least, .ref a_values, .int i_tells, .ref a_tellPlace, .ref a_tellHour, .ref a_tellDark, .long j_seed, .ref a_isKept, .ref a_kept])), (a_readOwed, .inl (cI, 12, .inl f_readOwed))] (v_X8_notOwed f_readOwed) (fun o : Int32 => o) (fun _ : Int32 => [(a, .inr (8, [.ref a_readWishes, .ref a_readOwed, .int i_readHung, .int i_readMany, .int i_readOwes, .ref a_told, .ref a_owed, .int i_wishes, .int i_hung, .int i_hour, .ref a_text, .int i_length, .int i_at, .int i_faultAt, .int i_acts, .int i_next, .ref a_row, .ref a_least, .ref a_values, .int i_tells, .ref a_tellPlace, .ref a_tellHour, .ref a_tellDark, .long j_seed, .ref a_isKept, .ref a_kept])), (a_readOwed, .inl (cI, 12, .inl f_readOwed))]) := by
  refine KI.of cX8_notOwed 3 (some .int) (by decide) rfl (Nat.le_of_ble_eq_true rfl) ?_
  intro p e s m below meth c A ls ar Q hQ B
  obtain ⟨hx, hb, hr, hml, hts, hown, hlk, hK, hN, hP, hD, hA, hS, hl⟩ := B
  have hown : s.vm.findClass RX8 = some m.cls := hown
  have hF : CallFix p m c cX8_notOwed 3 s ar wsX8_notOwed RX8 := ⟨hx, hb, hml, hown, hts⟩
  have hl : lv_has ls 3 [(0, .ref a)] := hl
  refine lv_iconst (v := 0) hx hb dX8_notOwed_0 rfl ?_
  refine lv_istore_n (lv' := [(1, .int 0), (0, .ref a)]) hx hb dX8_notOwed_1 rfl hl (by decide) rfl (fun ls hl => ?_)
  refine lv_iconst (v := 0) hx hb dX8_notOwed_2 rfl ?_
  refine lv_istore_n (lv' := [(2, .int 0), (1, .int 0), (0, .ref a)]) hx hb dX8_notOwed_3 rfl hl (by decide) rfl (fun ls hl => ?_)
  obtain ⟨o_L4, ho_L4⟩ : ∃ z : Int32, z = it (v_X8_notOwed_L4 f_readOwed) 12 0 0 := ⟨_, rfl⟩
  have kE4 : ∀ (H : Heap) (locs : List Loc) (ls : Array Slot), va_P D vwCl [(a, .inr (8, [.ref a_readWishes, .ref a_readOwed, .int i_readHung, .int i_readMany, .int i_readOwes, .ref a_told, .ref a_owed, .int i_wishes, .int i_hung, .int i_hour, .ref a_text, .int i_length, .int i_at, .int i_faultAt, .int i_acts, .int i_next, .ref a_row, .ref a_least, .ref a_values, .int i_tells, .ref a_tellPlace, .ref a_tellHour, .ref a_tellDark, .long j_seed, .ref a_isKept, .ref a_kept])), (a_readOwed, .inl (cI, 12, .inl f_readOwed))] H → va_S A s.heap H locs → lv_has ls 3 [(1, .int o_L4)] → W p l e rm_X8_notOwed s m ar below meth c H locs 0 0 Q (F0 m 35 ls []) := by
    intro H locs ls hP hS hl
    refine lv_iload_n hx hb dX8_notOwed_35 rfl (lv_at hl 0 rfl) ?_
    have e9 : v_X8_notOwed f_readOwed = o_L4 := by
      refine (bnd_eq ho_L4).trans ?_
      rfl
    rw [hQ]; exact retI o_L4 hx hb hr hlk e9 hP rfl hS dX8_notOwed_36
  have loop4 : ∀ (k i4 : Nat) (z4 : Int32), 0 ≤ i4 → i4 + k = 0 + 12 → it (v_X8_notOwed_L4 f_readOwed) k i4 z4 = o_L4 → ∀ (H : Heap) (locs : List Loc) (ls : Array Slot), va_P D vwCl [(a, .inr (8, [.ref a_readWishes, .ref a_readOwed, .int i_readHung, .int i_readMany, .int i_readOwes, .ref a_told, .ref a_owed, .int i_wishes, .int i_hung, .int i_hour, .ref a_text, .int i_length, .int i_at, .int i_faultAt, .int i_acts, .int i_next, .ref a_row, .ref a_least, .ref a_values, .int i_tells, .ref a_tellPlace, .ref a_tellHour, .ref a_tellDark, .long j_seed, .ref a_isKept, .ref a_kept])), (a_readOwed, .inl (cI, 12, .inl f_readOwed))] H → va_S A s.heap H locs → lv_has ls 3 [(2, .int (nI i4)), (1, .int z4), (0, .ref a)] → W p l e rm_X8_notOwed s m ar below meth c H locs 0 0 Q (F0 m 4 ls []) := by
    intro k
    induction k with
    | zero =>
      intro i4 z4 hi0 hik hz H locs ls hP hS hl
      have hz : z4 = o_L4 := it_0 hz
      subst z4
      refine lv_iload_n hx hb dX8_notOwed_4 rfl (lv_at hl 0 rfl) ?_
      refine lv_bipush (v := 12) hx hb dX8_notOwed_5 rfl ?_
      refine lv_icmp_ge (tgt := 35) hx hb dX8_notOwed_7 (by decide) (fun _ => ?_) (fun c => absurd (nI_le (a := 12) (by omega) (by omega)) c)
      exact kE4 _ _ _ hP hS (lv_sub hl [1] rfl)
    | succ k ih =>
      intro i4 z4 hi0 hik hz H locs ls hP hS hl
      refine lv_iload_n hx hb dX8_notOwed_4 rfl (lv_at hl 0 rfl) ?_
      refine lv_bipush (v := 12) hx hb dX8_notOwed_5 rfl ?_
      refine lv_icmp_ge (tgt := 35) hx hb dX8_notOwed_7 (by decide) (fun c => absurd c (nI_ge (b := 12) (by omega) (by decide))) (fun _ => ?_)
      refine lv_iload_n hx hb dX8_notOwed_10 rfl (lv_at hl 1 rfl) ?_
      refine lv_aload_n hx hb dX8_notOwed_11 rfl (lv_at hl 2 rfl) ?_
      refine va_get (D := D) (ci := 8) (v := .ref a_readOwed) (C := RX8) (T := TX8) (N := 26) hx hb hts (fun _ h => List.mem_cons_of_mem _ (List.mem_append_right _ (h))) hown hK hP 0 rfl rfl 1 (by decide) (hts _ (List.mem_of_getElem? (i := 1) rfl)) (fun _ h9 => h9) rfl dX8_notOwed_12 ?_
      refine lv_iload_n hx hb dX8_notOwed_15 rfl (lv_at hl 0 rfl) ?_
      refine va_iald hx hb hK hP 1 0 rfl rfl (vp_in_nI (by omega) (by decide)) dX8_notOwed_16 ?_
      refine lv_if_ne (tgt := 26) hx hb dX8_notOwed_17 (by decide) (fun c_17 => ?_) (fun c_17 => ?_)
      · refine lv_iconst (v := 0) hx hb dX8_notOwed_26 rfl ?_
        refine lv_ior hx hb dX8_notOwed_27 ?_
        refine lv_istore_n (lv' := [(1, .int (z4 ||| 0)), (2, .int (nI i4)), (0, .ref a)]) hx hb dX8_notOwed_28 rfl hl (by decide) rfl (fun ls hl => ?_)
        refine lv_iinc (v := (nI (i4 + 1))) (lv' := [(2, .int (nI (i4 + 1))), (1, .int (z4 ||| 0)), (0, .ref a)]) hx hb dX8_notOwed_29 hl (k := 1) rfl (nI_1 _) (by decide) rfl (fun ls hl => ?_)
        refine lv_goto (tgt := 4) hx hb dX8_notOwed_32 (by decide) ?_
        have e8 : v_X8_notOwed_L4 f_readOwed i4 z4 = (z4 ||| 0) := by
          refine (if_neg c_17).trans ?_
          rfl
        exact ih (i4 + 1) (z4 ||| 0) (by omega) (by omega) (it_go e8 hz) _ _ _ hP hS (lv_sub hl [0, 1, 2] rfl)
      · refine lv_iconst (v := 1) hx hb dX8_notOwed_20 rfl ?_
        refine lv_iload_n hx hb dX8_notOwed_21 rfl (lv_at hl 0 rfl) ?_
        refine lv_ishl hx hb dX8_notOwed_22 ?_
        refine lv_goto (tgt := 27) hx hb dX8_notOwed_23 (by decide) ?_
        refine lv_ior hx hb dX8_notOwed_27 ?_
        refine lv_istore_n (lv' := [(1, .int (z4 ||| ((1 : Int32) <<< (nI i4 &&& 31)))), (2, .int (nI i4)), (0, .ref a)]) hx hb dX8_notOwed_28 rfl hl (by decide) rfl (fun ls hl => ?_)
        refine lv_iinc (v := (nI (i4 + 1))) (lv' := [(2, .int (nI (i4 + 1))), (1, .int (z4 ||| ((1 : Int32) <<< (nI i4 &&& 31)))), (0, .ref a)]) hx hb dX8_notOwed_29 hl (k := 1) rfl (nI_1 _) (by decide) rfl (fun ls hl => ?_)
        refine lv_goto (tgt := 4) hx hb dX8_notOwed_32 (by decide) ?_
        have e8 : v_X8_notOwed_L4 f_readOwed i4 z4 = (z4 ||| ((1 : Int32) <<< (nI i4 &&& 31))) := by
          refine (if_pos c_17).trans ?_
          rfl
        exact ih (i4 + 1) (z4 ||| ((1 : Int32) <<< (nI i4 &&& 31))) (by omega) (by omega) (it_go e8 hz) _ _ _ hP hS (lv_sub hl [0, 1, 2] rfl)
  exact loop4 12 0 0 (Nat.le_refl _) rfl ho_L4.symm _ _ _ hP hS (lv_sub hl [0, 1, 2] rfl)
theorem notOwed_lt (f : Nat → Int32) : ∃ m : Nat, m < 4096 ∧ v_X8_notOwed f = nI m := by
  have h := it_inv (f := v_X8_notOwed_L4 f) (fun i z => i ≤ 12 → ∃ m : Nat, m < 2 ^ i ∧ z = nI m) (fun i s hs hi => by
    obtain ⟨m, hm, rfl⟩ := hs (by omega)
    show ∃ m', m' < 2 ^ (i + 1) ∧ (if (f (nI i).toNatClampNeg) = 0 then (nI m ||| ((1 : Int32) <<< (nI i &&& 31))) else (nI m ||| 0)) = nI m'
    have hp : 2 ^ (i + 1) = 2 ^ i + 2 ^ i := by rw [Nat.pow_succ]; omega
    have hp2 : 2 ^ i ≤ 2 ^ 12 := Nat.pow_le_pow_right (by decide) (by omega)
    have hsh : (1 : Int32) <<< (nI i &&& 31) = nI (2 ^ i) := (by decide +kernel : ∀ i, i < 12 → (1 : Int32) <<< (nI i &&& 31) = nI (2 ^ i)) i (by omega)
    split
    · refine ⟨m ||| 2 ^ i, ?_, by rw [hsh, nI_or]⟩
      exact Nat.or_lt_two_pow (by omega) (by omega)
    · refine ⟨m, by omega, ?_⟩
      rw [show (0 : Int32) = nI 0 from rfl, nI_or, Nat.or_zero]) 12 0 0 (fun _ => ⟨0, by decide, rfl⟩) (by decide)
  exact h
def v_X8_readPart (x1 : Int32) (i_readHung : Int32) (i_readMany : Int32) (i_readOwes : Int32) (i_length : Int32) (i_at : Int32) (i_faultAt : Int32) (f_readOwed : Nat → Int32) (f_text : Nat → Int32) (f_readWishes : Nat → Int32) : Int32 × Int32 × Int32 × Int32 × Int32 × (Nat → Int32) × (Nat → Int32) :=
  if x1 = 72 then (bnd (v_X8_ones i_readHung) fun o_10 =>
    (if 5 ≤ o_10 then (if x1 = 87 then (if 5 ≤ i_readMany then (if x1 = 79 then (if 4 ≤ i_readOwes then (bnd (v_X8_fail i_at i_faultAt) fun o_161 =>
              (i_readHung, i_readMany, i_readOwes, i_at, o_161, f_readOwed, f_readWishes))
            else (bnd (v_X8_notOwed f_readOwed) fun o_117 =>
            (bnd3 (v_X8_two o_117 i_length (i_at + 1) i_faultAt f_text) fun o_120_1 o_120_2 o_120_3 =>
            (bnd3 (v_X8_figure 126 i_length o_120_2 o_120_3 f_text) fun o_127_1 o_127_2 o_127_3 =>
            (if o_127_3 = (-9) then (i_readHung, i_readMany, (i_readOwes + 1), o_127_2, o_127_3, (upd f_readOwed o_120_1.toNatClampNeg o_127_1), f_readWishes)
            else (i_readHung, i_readMany, i_readOwes, o_127_2, o_127_3, f_readOwed, f_readWishes))))))
          else (bnd (v_X8_fail i_at i_faultAt) fun o_161 =>
          (i_readHung, i_readMany, i_readOwes, i_at, o_161, f_readOwed, f_readWishes)))
        else (bnd4 (v_X8_readWish i_readMany i_length i_at i_faultAt f_text f_readWishes) fun o_85_1 o_85_2 o_85_3 o_85_4 =>
        (i_readHung, o_85_1, i_readOwes, o_85_2, o_85_3, f_readOwed, o_85_4)))
      else (if x1 = 79 then (if 4 ≤ i_readOwes then (bnd (v_X8_fail i_at i_faultAt) fun o_161 =>
          (i_readHung, i_readMany, i_readOwes, i_at, o_161, f_readOwed, f_readWishes))
        else (bnd (v_X8_notOwed f_readOwed) fun o_117 =>
        (bnd3 (v_X8_two o_117 i_length (i_at + 1) i_faultAt f_text) fun o_120_1 o_120_2 o_120_3 =>
        (bnd3 (v_X8_figure 126 i_length o_120_2 o_120_3 f_text) fun o_127_1 o_127_2 o_127_3 =>
        (if o_127_3 = (-9) then (i_readHung, i_readMany, (i_readOwes + 1), o_127_2, o_127_3, (upd f_readOwed o_120_1.toNatClampNeg o_127_1), f_readWishes)
        else (i_readHung, i_readMany, i_readOwes, o_127_2, o_127_3, f_readOwed, f_readWishes))))))
      else (bnd (v_X8_fail i_at i_faultAt) fun o_161 =>
      (i_readHung, i_readMany, i_readOwes, i_at, o_161, f_readOwed, f_readWishes))))
    else (bnd3 (v_X8_two (4095 &&& (i_readHung ^^^ (-1))) i_length (i_at + 1) i_faultAt f_text) fun o_38_1 o_38_2 o_38_3 =>
    (if o_38_3 = (-9) then (bnd ((i_readHung ||| ((1 : Int32) <<< (o_38_1 &&& 31)))) fun w_64 =>
      (w_64, i_readMany, i_readOwes, o_38_2, o_38_3, f_readOwed, f_readWishes))
    else ((i_readHung ||| 0), i_readMany, i_readOwes, o_38_2, o_38_3, f_readOwed, f_readWishes)))))
  else (if x1 = 87 then (if 5 ≤ i_readMany then (if x1 = 79 then (if 4 ≤ i_readOwes then (bnd (v_X8_fail i_at i_faultAt) fun o_161 =>
          (i_readHung, i_readMany, i_readOwes, i_at, o_161, f_readOwed, f_readWishes))
        else (bnd (v_X8_notOwed f_readOwed) fun o_117 =>
        (bnd3 (v_X8_two o_117 i_length (i_at + 1) i_faultAt f_text) fun o_120_1 o_120_2 o_120_3 =>
        (bnd3 (v_X8_figure 126 i_length o_120_2 o_120_3 f_text) fun o_127_1 o_127_2 o_127_3 =>
        (if o_127_3 = (-9) then (i_readHung, i_readMany, (i_readOwes + 1), o_127_2, o_127_3, (upd f_readOwed o_120_1.toNatClampNeg o_127_1), f_readWishes)
        else (i_readHung, i_readMany, i_readOwes, o_127_2, o_127_3, f_readOwed, f_readWishes))))))
      else (bnd (v_X8_fail i_at i_faultAt) fun o_161 =>
      (i_readHung, i_readMany, i_readOwes, i_at, o_161, f_readOwed, f_readWishes)))
    else (bnd4 (v_X8_readWish i_readMany i_length i_at i_faultAt f_text f_readWishes) fun o_85_1 o_85_2 o_85_3 o_85_4 =>
    (i_readHung, o_85_1, i_readOwes, o_85_2, o_85_3, f_readOwed, o_85_4)))
  else (if x1 = 79 then (if 4 ≤ i_readOwes then (bnd (v_X8_fail i_at i_faultAt) fun o_161 =>
      (i_readHung, i_readMany, i_readOwes, i_at, o_161, f_readOwed, f_readWishes))
    else (bnd (v_X8_notOwed f_readOwed) fun o_117 =>
    (bnd3 (v_X8_two o_117 i_length (i_at + 1) i_faultAt f_text) fun o_120_1 o_120_2 o_120_3 =>
    (bnd3 (v_X8_figure 126 i_length o_120_2 o_120_3 f_text) fun o_127_1 o_127_2 o_127_3 =>
    (if o_127_3 = (-9) then (i_readHung, i_readMany, (i_readOwes + 1), o_127_2, o_127_3, (upd f_readOwed o_120_1.toNatClampNeg o_127_1), f_readWishes)
    else (i_readHung, i_readMany, i_readOwes, o_127_2, o_127_3, f_readOwed, f_readWishes))))))
  else (bnd (v_X8_fail i_at i_faultAt) fun o_161 =>
  (i_readHung, i_readMany, i_readOwes, i_at, o_161, f_readOwed, f_readWishes))))
abbrev rm_X8_readPart : Room := { frames := 4, cells := 0, slots := 0, locals := 91 }
set_option maxHeartbeats 4000000 in
set_option maxRecDepth 100000 in
theorem k_X8_readPart (l : Launch) (D : va_G) (cI cZ : ClassId) (a a_readWishes a_readOwed a_told a_owed a_text a_row a_least a_values a_tellPlace a_tellHour a_tellDark a_isKept a_kept : Nat) (x1 : Int32) (i_readHung : Int32) (i_readMany : Int32) (i_readOwes : Int32) (i_wishes : Int32) (i_hung : Int32) (i_hour : Int32) (i_length : Int32) (i_at : Int32) (i_faultAt : Int32) (i_acts : Int32) (i_next : Int32) (i_tells : Int32) (j_seed : Int64) (f_readOwed : Nat → Int32) (f_text : Nat → Int32) (f_readWishes : Nat → Int32) (hat : vp_in i_at 73) (hl0 : vp_in i_length 73) (hatl : ¬ i_length ≤ i_at) (hm6 : vp_in i_readMany 6) : KV l D cI cZ yX8_readPart wsX8_readPart rm_X8_readPart [.ref a, .int x1] [(a, .inr (8, [.ref a_readWishes, .ref a_readOwed, .int i_readHung, .int i_readMany, .int i_readOwes, .ref a_told, .ref a_owed, .int i_wishes, .int i_hung, .int i_hour, .ref a_text, .int i_length, .int i_at, .int i_faultAt, .int i_acts, .int i_next, .ref a_row, .ref a_least, .ref a_values, .int i_tells, .ref a_tellPlace, .ref a_tellHour, .ref a_tellDark, .long j_seed, .ref a_isKept, .ref a_kept])), (a_readOwed, .inl (cI, 12, .inl f_readOwed)), (a_text, .inl (cI, 72, .inl f_text)), (a_readWishes, .inl (cI, 25, .inl f_readWishes))] (v_X8_readPart x1 i_readHung i_readMany i_readOwes i_length i_at i_faultAt f_readOwed f_text f_readWishes) (fun o : Int32 × Int32 × Int32 × Int32 × Int32 × (Nat → Int32) × (Nat → Int32) => [(a, .inr (8, [.ref a_readWishes, .ref a_readOwed, .int o.1, .int o.2.1, .int o.2.2.1, .ref a_told, .ref a_owed, .int i_wishes, .int i_hung, .int i_hour, .ref a_text, .int i_length, .int o.2.2.2.1, .int o.2.2.2.2.1, .int i_acts, .int i_next, .ref a_row, .ref a_least, .ref a_values, .int i_tells, .ref a_tellPlace, .ref a_tellHour, .ref a_tellDark, .long j_seed, .ref a_isKept, .ref a_kept])), (a_readOwed, .inl (cI, 12, .inl o.2.2.2.2.2.1)), (a_text, .inl (cI, 72, .inl f_text)), (a_readWishes, .inl (cI, 25, .inl o.2.2.2.2.2.2))]) := by
  refine KV.of cX8_readPart 4 none (by decide) rfl (Nat.le_of_ble_eq_true rfl) ?_
  intro p e s m below meth c A ls ar Q hQ B
  obtain ⟨hx, hb, hr, hml, hts, hown, hlk, hK, hN, hP, hD, hA, hS, hl⟩ := B
  have hown : s.vm.findClass RX8 = some m.cls := hown
  have hF : CallFix p m c cX8_readPart 4 s ar wsX8_readPart RX8 := ⟨hx, hb, hml, hown, hts⟩
  have hl : lv_has ls 4 [(0, .ref a), (1, .int x1)] := hl
  refine lv_iload_n hx hb dX8_readPart_0 rfl (lv_at hl 1 rfl) ?_
  refine lv_bipush (v := 72) hx hb dX8_readPart_1 rfl ?_
  refine lv_icmp_ne (tgt := 70) hx hb dX8_readPart_3 (by decide) (fun c_3 => ?_) (fun c_3 => ?_)
  · refine lv_iload_n hx hb dX8_readPart_70 rfl (lv_at hl 1 rfl) ?_
    refine lv_bipush (v := 87) hx hb dX8_readPart_71 rfl ?_
    refine lv_icmp_ne (tgt := 91) hx hb dX8_readPart_73 (by decide) (fun c_73 => ?_) (fun c_73 => ?_)
    · refine lv_iload_n hx hb dX8_readPart_91 rfl (lv_at hl 1 rfl) ?_
      refine lv_bipush (v := 79) hx hb dX8_readPart_92 rfl ?_
      refine lv_icmp_ne (tgt := 160) hx hb dX8_readPart_94 (by decide) (fun c_94 => ?_) (fun c_94 => ?_)
      · refine lv_aload_n hx hb dX8_readPart_160 rfl (lv_at hl 0 rfl) ?_
        obtain ⟨o_161, ho_161⟩ : ∃ z : Int32, z = v_X8_fail i_at i_faultAt := ⟨_, rfl⟩
        refine callVV (As := []) (rest := []) o_161 ho_161 hF (k_X8_fail l D cI cZ a a_readWishes a_readOwed a_told a_owed a_text a_row a_least a_values a_tellPlace a_tellHour a_tellDark a_isKept a_kept i_readHung i_readMany i_readOwes i_wishes i_hung i_hour i_length i_at i_faultAt i_acts i_next i_tells j_seed) (cwV 0 hts gX8_readPart_X8_fail rfl rfl rfl (by decide +kernel) ⟨Nat.le_of_ble_eq_true rfl, Nat.le_of_ble_eq_true rfl⟩) hK hN hP (va_Dsame hD rfl) hS hA [0] rfl rfl 0 8 (T := TX8) (N := 26) rfl rfl rfl hl.1 rfl (Nat.le_of_ble_eq_true rfl) dX8_readPart_161 ⟨Nat.zero_le _, Nat.zero_le _⟩ [some 0, none, none, none] 1 [(a, .inr (8, [.ref a_readWishes, .ref a_readOwed, .int i_readHung, .int i_readMany, .int i_readOwes, .ref a_told, .ref a_owed, .int i_wishes, .int i_hung, .int i_hour, .ref a_text, .int i_length, .int i_at, .int o_161, .int i_acts, .int i_next, .ref a_row, .ref a_least, .ref a_values, .int i_tells, .ref a_tellPlace, .ref a_tellHour, .ref a_tellDark, .long j_seed, .ref a_isKept, .ref a_kept])), (a_readOwed, .inl (cI, 12, .inl f_readOwed)), (a_text, .inl (cI, 72, .inl f_text)), (a_readWishes, .inl (cI, 25, .inl f_readWishes))] rfl rfl (by decide) (fun H locs hP hS => ?_)
        have e9 : v_X8_readPart x1 i_readHung i_readMany i_readOwes i_length i_at i_faultAt f_readOwed f_text f_readWishes = (i_readHung, i_readMany, i_readOwes, i_at, o_161, f_readOwed, f_readWishes) := by
          refine (if_neg c_3).trans ?_
          refine (if_neg c_73).trans ?_
          refine (if_neg c_94).trans ?_
          refine (bnd_eq ho_161).trans ?_
          rfl
        rw [hQ]; exact retV (i_readHung, i_readMany, i_readOwes, i_at, o_161, f_readOwed, f_readWishes) hx hb hr hlk e9 hP hS dX8_readPart_164
      · refine lv_aload_n hx hb dX8_readPart_97 rfl (lv_at hl 0 rfl) ?_
        refine va_get (D := D) (ci := 8) (v := .int i_readOwes) (C := RX8) (T := TX8) (N := 26) hx hb hts (fun _ h => List.mem_cons_of_mem _ (List.mem_append_right _ (h))) hown hK hP 0 rfl rfl 4 (by decide) (hts _ (List.mem_of_getElem? (i := 5) rfl)) (fun _ h9 => h9) rfl dX8_readPart_98 ?_
        refine lv_iconst (v := 4) hx hb dX8_readPart_101 rfl ?_
        refine lv_icmp_ge (tgt := 160) hx hb dX8_readPart_102 (by decide) (fun c_102 => ?_) (fun c_102 => ?_)
        · refine lv_aload_n hx hb dX8_readPart_160 rfl (lv_at hl 0 rfl) ?_
          obtain ⟨o_161, ho_161⟩ : ∃ z : Int32, z = v_X8_fail i_at i_faultAt := ⟨_, rfl⟩
          refine callVV (As := []) (rest := []) o_161 ho_161 hF (k_X8_fail l D cI cZ a a_readWishes a_readOwed a_told a_owed a_text a_row a_least a_values a_tellPlace a_tellHour a_tellDark a_isKept a_kept i_readHung i_readMany i_readOwes i_wishes i_hung i_hour i_length i_at i_faultAt i_acts i_next i_tells j_seed) (cwV 0 hts gX8_readPart_X8_fail rfl rfl rfl (by decide +kernel) ⟨Nat.le_of_ble_eq_true rfl, Nat.le_of_ble_eq_true rfl⟩) hK hN hP (va_Dsame hD rfl) hS hA [0] rfl rfl 0 8 (T := TX8) (N := 26) rfl rfl rfl hl.1 rfl (Nat.le_of_ble_eq_true rfl) dX8_readPart_161 ⟨Nat.zero_le _, Nat.zero_le _⟩ [some 0, none, none, none] 1 [(a, .inr (8, [.ref a_readWishes, .ref a_readOwed, .int i_readHung, .int i_readMany, .int i_readOwes, .ref a_told, .ref a_owed, .int i_wishes, .int i_hung, .int i_hour, .ref a_text, .int i_length, .int i_at, .int o_161, .int i_acts, .int i_next, .ref a_row, .ref a_least, .ref a_values, .int i_tells, .ref a_tellPlace, .ref a_tellHour, .ref a_tellDark, .long j_seed, .ref a_isKept, .ref a_kept])), (a_readOwed, .inl (cI, 12, .inl f_readOwed)), (a_text, .inl (cI, 72, .inl f_text)), (a_readWishes, .inl (cI, 25, .inl f_readWishes))] rfl rfl (by decide) (fun H locs hP hS => ?_)
          have e9 : v_X8_readPart x1 i_readHung i_readMany i_readOwes i_length i_at i_faultAt f_readOwed f_text f_readWishes = (i_readHung, i_readMany, i_readOwes, i_at, o_161, f_readOwed, f_readWishes) := by
            refine (if_neg c_3).trans ?_
            refine (if_neg c_73).trans ?_
            refine (if_pos c_94).trans ?_
            refine (if_pos c_102).trans ?_
            refine (bnd_eq ho_161).trans ?_
            rfl
          rw [hQ]; exact retV (i_readHung, i_readMany, i_readOwes, i_at, o_161, f_readOwed, f_readWishes) hx hb hr hlk e9 hP hS dX8_readPart_164
        · refine lv_aload_n hx hb dX8_readPart_105 rfl (lv_at hl 0 rfl) ?_
          refine lv_dup hx hb dX8_readPart_106 rfl ?_
          refine va_get (D := D) (ci := 8) (v := .int i_at) (C := RX8) (T := TX8) (N := 26) hx hb hts (fun _ h => List.mem_cons_of_mem _ (List.mem_append_right _ (h))) hown hK hP 0 rfl rfl 12 (by decide) (hts _ (List.mem_of_getElem? (i := 2) rfl)) (fun _ h9 => h9) rfl dX8_readPart_107 ?_
          refine lv_iconst (v := 1) hx hb dX8_readPart_110 rfl ?_
          refine lv_iadd hx hb dX8_readPart_111 ?_
          refine va_put (D := D) (ci := 8) (v := .int (i_at + 1)) (ty := .int) (C := RX8) (T := TX8) (N := 26) hx hb hts (fun _ h => List.mem_cons_of_mem _ (List.mem_append_right _ (h))) tyX8 tyX8_ok nmX8 hown hK hP (va_Dsame hD rfl) hS 0 rfl rfl 12 (by decide) (hts _ (List.mem_of_getElem? (i := 2) rfl)) (fun _ h9 => h9) rfl (tyX8_ok 12 (by decide)) rfl rfl (Nat.le_of_ble_eq_true rfl) dX8_readPart_112 (fun H locs hP _ hS => ?_)
          have hP : va_P D vwCl [(a, .inr (8, [.ref a_readWishes, .ref a_readOwed, .int i_readHung, .int i_readMany, .int i_readOwes, .ref a_told, .ref a_owed, .int i_wishes, .int i_hung, .int i_hour, .ref a_text, .int i_length, .int (i_at + 1), .int i_faultAt, .int i_acts, .int i_next, .ref a_row, .ref a_least, .ref a_values, .int i_tells, .ref a_tellPlace, .ref a_tellHour, .ref a_tellDark, .long j_seed, .ref a_isKept, .ref a_kept])), (a_readOwed, .inl (cI, 12, .inl f_readOwed)), (a_text, .inl (cI, 72, .inl f_text)), (a_readWishes, .inl (cI, 25, .inl f_readWishes))] H := hP
          refine lv_aload_n hx hb dX8_readPart_115 rfl (lv_at hl 0 rfl) ?_
          refine lv_aload_n hx hb dX8_readPart_116 rfl (lv_at hl 0 rfl) ?_
          obtain ⟨o_117, ho_117⟩ : ∃ z : Int32, z = v_X8_notOwed f_readOwed := ⟨_, rfl⟩
          refine callVIs (As := []) (rest := [.ref a]) o_117 ho_117 hF (k_X8_notOwed l D cI cZ a a_readWishes a_readOwed a_told a_owed a_text a_row a_least a_values a_tellPlace a_tellHour a_tellDark a_isKept a_kept i_readHung i_readMany i_readOwes i_wishes i_hung i_hour i_length (i_at + 1) i_faultAt i_acts i_next i_tells j_seed f_readOwed) (cwV 0 hts gX8_readPart_X8_notOwed rfl rfl rfl (by decide +kernel) ⟨Nat.le_of_ble_eq_true rfl, Nat.le_of_ble_eq_true rfl⟩) hK hN hP (va_Dsame hD rfl) hS hA [0, 1] rfl rfl 0 8 (T := TX8) (N := 26) rfl rfl rfl hl.1 rfl (Nat.le_of_ble_eq_true rfl) dX8_readPart_117 ⟨Nat.zero_le _, Nat.zero_le _⟩ o_117 rfl rfl (fun H locs hP hS => ?_)
          obtain ⟨o_120_1, o_120_2, o_120_3, ho_120⟩ := ex3 (v_X8_two o_117 i_length (i_at + 1) i_faultAt f_text)
          refine callVI (As := [.int o_117]) (rest := []) (o_120_1, o_120_2, o_120_3) ho_120 hF (k_X8_two l D cI cZ a a_readWishes a_readOwed a_told a_owed a_text a_row a_least a_values a_tellPlace a_tellHour a_tellDark a_isKept a_kept o_117 i_readHung i_readMany i_readOwes i_wishes i_hung i_hour i_length (i_at + 1) i_faultAt i_acts i_next i_tells j_seed f_text (vin_s hat hl0 hatl) (hl0)) (cwV 1 hts gX8_readPart_X8_two rfl rfl rfl (by decide +kernel) ⟨Nat.le_of_ble_eq_true rfl, Nat.le_of_ble_eq_true rfl⟩) hK hN hP (va_Dsame hD rfl) hS hA [0, 2] rfl rfl 0 8 (T := TX8) (N := 26) rfl rfl rfl hl.1 rfl (Nat.le_of_ble_eq_true rfl) dX8_readPart_120 ⟨Nat.zero_le _, Nat.zero_le _⟩ o_120_1 rfl [some 0, none, some 1, none] 2 [(a, .inr (8, [.ref a_readWishes, .ref a_readOwed, .int i_readHung, .int i_readMany, .int i_readOwes, .ref a_told, .ref a_owed, .int i_wishes, .int i_hung, .int i_hour, .ref a_text, .int i_length, .int o_120_2, .int o_120_3, .int i_acts, .int i_next, .ref a_row, .ref a_least, .ref a_values, .int i_tells, .ref a_tellPlace, .ref a_tellHour, .ref a_tellDark, .long j_seed, .ref a_isKept, .ref a_kept])), (a_readOwed, .inl (cI, 12, .inl f_readOwed)), (a_text, .inl (cI, 72, .inl f_text)), (a_readWishes, .inl (cI, 25, .inl f_readWishes))] rfl rfl (by decide) (fun H locs hP hS => ?_)
          refine lv_istore_n (lv' := [(2, .int o_120_1), (0, .ref a), (1, .int x1)]) hx hb dX8_readPart_123 rfl hl (by decide) rfl (fun ls hl => ?_)
          refine lv_aload_n hx hb dX8_readPart_124 rfl (lv_at hl 1 rfl) ?_
          refine lv_bipush (v := 126) hx hb dX8_readPart_125 rfl ?_
          obtain ⟨o_127_1, o_127_2, o_127_3, ho_127⟩ := ex3 (v_X8_figure 126 i_length o_120_2 o_120_3 f_text)
          refine callVI (As := [.int 126]) (rest := []) (o_127_1, o_127_2, o_127_3) ho_127 hF (k_X8_figure l D cI cZ a a_readWishes a_readOwed a_told a_owed a_text a_row a_least a_values a_tellPlace a_tellHour a_tellDark a_isKept a_kept 126 i_readHung i_readMany i_readOwes i_wishes i_hung i_hour i_length o_120_2 o_120_3 i_acts i_next i_tells j_seed f_text (two_at (vin_s hat hl0 hatl) hl0 ho_120) (hl0)) (cwV 1 hts gX8_readPart_X8_figure rfl rfl rfl (by decide +kernel) ⟨Nat.le_of_ble_eq_true rfl, Nat.le_of_ble_eq_true rfl⟩) hK hN hP (va_Dsame hD rfl) hS hA [0, 2] rfl rfl 0 8 (T := TX8) (N := 26) rfl rfl rfl hl.1 rfl (Nat.le_of_ble_eq_true rfl) dX8_readPart_127 ⟨Nat.zero_le _, Nat.zero_le _⟩ o_127_1 rfl [some 0, none, some 1, none] 2 [(a, .inr (8, [.ref a_readWishes, .ref a_readOwed, .int i_readHung, .int i_readMany, .int i_readOwes, .ref a_told, .ref a_owed, .int i_wishes, .int i_hung, .int i_hour, .ref a_text, .int i_length, .int o_127_2, .int o_127_3, .int i_acts, .int i_next, .ref a_row, .ref a_least, .ref a_values, .int i_tells, .ref a_tellPlace, .ref a_tellHour, .ref a_tellDark, .long j_seed, .ref a_isKept, .ref a_kept])), (a_readOwed, .inl (cI, 12, .inl f_readOwed)), (a_text, .inl (cI, 72, .inl f_text)), (a_readWishes, .inl (cI, 25, .inl f_readWishes))] rfl rfl (by decide) (fun H locs hP hS => ?_)
          refine lv_istore_n (lv' := [(3, .int o_127_1), (2, .int o_120_1), (0, .ref a), (1, .int x1)]) hx hb dX8_readPart_130 rfl hl (by decide) rfl (fun ls hl => ?_)
          refine lv_aload_n hx hb dX8_readPart_131 rfl (lv_at hl 2 rfl) ?_
          refine va_get (D := D) (ci := 8) (v := .int o_127_3) (C := RX8) (T := TX8) (N := 26) hx hb hts (fun _ h => List.mem_cons_of_mem _ (List.mem_append_right _ (h))) hown hK hP 0 rfl rfl 13 (by decide) (hts _ (List.mem_of_getElem? (i := 3) rfl)) (fun _ h9 => h9) rfl dX8_readPart_132 ?_
          refine lv_bipush (v := (-9)) hx hb dX8_readPart_135 rfl ?_
          refine lv_icmp_ne (tgt := 157) hx hb dX8_readPart_137 (by decide) (fun c_137 => ?_) (fun c_137 => ?_)
          · refine lv_goto (tgt := 164) hx hb dX8_readPart_157 (by decide) ?_
            have e9 : v_X8_readPart x1 i_readHung i_readMany i_readOwes i_length i_at i_faultAt f_readOwed f_text f_readWishes = (i_readHung, i_readMany, i_readOwes, o_127_2, o_127_3, f_readOwed, f_readWishes) := by
              refine (if_neg c_3).trans ?_
              refine (if_neg c_73).trans ?_
              refine (if_pos c_94).trans ?_
              refine (if_neg c_102).trans ?_
              refine (bnd_eq ho_117).trans ?_
              refine (bnd3_eq ho_120).trans ?_
              refine (bnd3_eq ho_127).trans ?_
              refine (if_neg c_137).trans ?_
              rfl
            rw [hQ]; exact retV (i_readHung, i_readMany, i_readOwes, o_127_2, o_127_3, f_readOwed, f_readWishes) hx hb hr hlk e9 hP hS dX8_readPart_164
          · refine lv_aload_n hx hb dX8_readPart_140 rfl (lv_at hl 2 rfl) ?_
            refine va_get (D := D) (ci := 8) (v := .ref a_readOwed) (C := RX8) (T := TX8) (N := 26) hx hb hts (fun _ h => List.mem_cons_of_mem _ (List.mem_append_right _ (h))) hown hK hP 0 rfl rfl 1 (by decide) (hts _ (List.mem_of_getElem? (i := 6) rfl)) (fun _ h9 => h9) rfl dX8_readPart_141 ?_
            refine lv_iload_n hx hb dX8_readPart_144 rfl (lv_at hl 1 rfl) ?_
            refine lv_iload_n hx hb dX8_readPart_145 rfl (lv_at hl 0 rfl) ?_
            refine va_iast hx hb hK hP (va_Dsame hD rfl) hS 1 0 rfl rfl (two_in (vin_s hat hl0 hatl) hl0 (by rw [ho_117]; exact notOwed_lt _) ho_120 (fig_ok (two_at (vin_s hat hl0 hatl) hl0 ho_120) ho_127 c_137)) dX8_readPart_146 (fun H locs hP _ hS => ?_)
            have hP : va_P D vwCl [(a, .inr (8, [.ref a_readWishes, .ref a_readOwed, .int i_readHung, .int i_readMany, .int i_readOwes, .ref a_told, .ref a_owed, .int i_wishes, .int i_hung, .int i_hour, .ref a_text, .int i_length, .int o_127_2, .int o_127_3, .int i_acts, .int i_next, .ref a_row, .ref a_least, .ref a_values, .int i_tells, .ref a_tellPlace, .ref a_tellHour, .ref a_tellDark, .long j_seed, .ref a_isKept, .ref a_kept])), (a_readOwed, .inl (cI, 12, .inl (upd f_readOwed o_120_1.toNatClampNeg o_127_1))), (a_text, .inl (cI, 72, .inl f_text)), (a_readWishes, .inl (cI, 25, .inl f_readWishes))] H := hP
            refine lv_aload_n hx hb dX8_readPart_147 rfl (lv_at hl 2 rfl) ?_
            refine lv_dup hx hb dX8_readPart_148 rfl ?_
            refine va_get (D := D) (ci := 8) (v := .int i_readOwes) (C := RX8) (T := TX8) (N := 26) hx hb hts (fun _ h => List.mem_cons_of_mem _ (List.mem_append_right _ (h))) hown hK hP 0 rfl rfl 4 (by decide) (hts _ (List.mem_of_getElem? (i := 5) rfl)) (fun _ h9 => h9) rfl dX8_readPart_149 ?_
            refine lv_iconst (v := 1) hx hb dX8_readPart_152 rfl ?_
            refine lv_iadd hx hb dX8_readPart_153 ?_
            refine va_put (D := D) (ci := 8) (v := .int (i_readOwes + 1)) (ty := .int) (C := RX8) (T := TX8) (N := 26) hx hb hts (fun _ h => List.mem_cons_of_mem _ (List.mem_append_right _ (h))) tyX8 tyX8_ok nmX8 hown hK hP (va_Dsame hD rfl) hS 0 rfl rfl 4 (by decide) (hts _ (List.mem_of_getElem? (i := 5) rfl)) (fun _ h9 => h9) rfl (tyX8_ok 4 (by decide)) rfl rfl (Nat.le_of_ble_eq_true rfl) dX8_readPart_154 (fun H locs hP _ hS => ?_)
            have hP : va_P D vwCl [(a, .inr (8, [.ref a_readWishes, .ref a_readOwed, .int i_readHung, .int i_readMany, .int (i_readOwes + 1), .ref a_told, .ref a_owed, .int i_wishes, .int i_hung, .int i_hour, .ref a_text, .int i_length, .int o_127_2, .int o_127_3, .int i_acts, .int i_next, .ref a_row, .ref a_least, .ref a_values, .int i_tells, .ref a_tellPlace, .ref a_tellHour, .ref a_tellDark, .long j_seed, .ref a_isKept, .ref a_kept])), (a_readOwed, .inl (cI, 12, .inl (upd f_readOwed o_120_1.toNatClampNeg o_127_1))), (a_text, .inl (cI, 72, .inl f_text)), (a_readWishes, .inl (cI, 25, .inl f_readWishes))] H := hP
            refine lv_goto (tgt := 164) hx hb dX8_readPart_157 (by decide) ?_
            have e9 : v_X8_readPart x1 i_readHung i_readMany i_readOwes i_length i_at i_faultAt f_readOwed f_text f_readWishes = (i_readHung, i_readMany, (i_readOwes + 1), o_127_2, o_127_3, (upd f_readOwed o_120_1.toNatClampNeg o_127_1), f_readWishes) := by
              refine (if_neg c_3).trans ?_
              refine (if_neg c_73).trans ?_
              refine (if_pos c_94).trans ?_
              refine (if_neg c_102).trans ?_
              refine (bnd_eq ho_117).trans ?_
              refine (bnd3_eq ho_120).trans ?_
              refine (bnd3_eq ho_127).trans ?_
              refine (if_pos c_137).trans ?_
              rfl
            rw [hQ]; exact retV (i_readHung, i_readMany, (i_readOwes + 1), o_127_2, o_127_3, (upd f_readOwed o_120_1.toNatClampNeg o_127_1), f_readWishes) hx hb hr hlk e9 hP hS dX8_readPart_164
    · refine lv_aload_n hx hb dX8_readPart_76 rfl (lv_at hl 0 rfl) ?_
      refine va_get (D := D) (ci := 8) (v := .int i_readMany) (C := RX8) (T := TX8) (N := 26) hx hb hts (fun _ h => List.mem_cons_of_mem _ (List.mem_append_right _ (h))) hown hK hP 0 rfl rfl 3 (by decide) (hts _ (List.mem_of_getElem? (i := 4) rfl)) (fun _ h9 => h9) rfl dX8_readPart_77 ?_
      refine lv_iconst (v := 5) hx hb dX8_readPart_80 rfl ?_
      refine lv_icmp_ge (tgt := 91) hx hb dX8_readPart_81 (by decide) (fun c_81 => ?_) (fun c_81 => ?_)
      · refine lv_iload_n hx hb dX8_readPart_91 rfl (lv_at hl 1 rfl) ?_
        refine lv_bipush (v := 79) hx hb dX8_readPart_92 rfl ?_
        refine lv_icmp_ne (tgt := 160) hx hb dX8_readPart_94 (by decide) (fun c_94 => ?_) (fun c_94 => ?_)
        · refine lv_aload_n hx hb dX8_readPart_160 rfl (lv_at hl 0 rfl) ?_
          obtain ⟨o_161, ho_161⟩ : ∃ z : Int32, z = v_X8_fail i_at i_faultAt := ⟨_, rfl⟩
          refine callVV (As := []) (rest := []) o_161 ho_161 hF (k_X8_fail l D cI cZ a a_readWishes a_readOwed a_told a_owed a_text a_row a_least a_values a_tellPlace a_tellHour a_tellDark a_isKept a_kept i_readHung i_readMany i_readOwes i_wishes i_hung i_hour i_length i_at i_faultAt i_acts i_next i_tells j_seed) (cwV 0 hts gX8_readPart_X8_fail rfl rfl rfl (by decide +kernel) ⟨Nat.le_of_ble_eq_true rfl, Nat.le_of_ble_eq_true rfl⟩) hK hN hP (va_Dsame hD rfl) hS hA [0] rfl rfl 0 8 (T := TX8) (N := 26) rfl rfl rfl hl.1 rfl (Nat.le_of_ble_eq_true rfl) dX8_readPart_161 ⟨Nat.zero_le _, Nat.zero_le _⟩ [some 0, none, none, none] 1 [(a, .inr (8, [.ref a_readWishes, .ref a_readOwed, .int i_readHung, .int i_readMany, .int i_readOwes, .ref a_told, .ref a_owed, .int i_wishes, .int i_hung, .int i_hour, .ref a_text, .int i_length, .int i_at, .int o_161, .int i_acts, .int i_next, .ref a_row, .ref a_least, .ref a_values, .int i_tells, .ref a_tellPlace, .ref a_tellHour, .ref a_tellDark, .long j_seed, .ref a_isKept, .ref a_kept])), (a_readOwed, .inl (cI, 12, .inl f_readOwed)), (a_text, .inl (cI, 72, .inl f_text)), (a_readWishes, .inl (cI, 25, .inl f_readWishes))] rfl rfl (by decide) (fun H locs hP hS => ?_)
          have e9 : v_X8_readPart x1 i_readHung i_readMany i_readOwes i_length i_at i_faultAt f_readOwed f_text f_readWishes = (i_readHung, i_readMany, i_readOwes, i_at, o_161, f_readOwed, f_readWishes) := by
            refine (if_neg c_3).trans ?_
            refine (if_pos c_73).trans ?_
            refine (if_pos c_81).trans ?_
            refine (if_neg c_94).trans ?_
            refine (bnd_eq ho_161).trans ?_
            rfl
          rw [hQ]; exact retV (i_readHung, i_readMany, i_readOwes, i_at, o_161, f_readOwed, f_readWishes) hx hb hr hlk e9 hP hS dX8_readPart_164
        · refine lv_aload_n hx hb dX8_readPart_97 rfl (lv_at hl 0 rfl) ?_
          refine va_get (D := D) (ci := 8) (v := .int i_readOwes) (C := RX8) (T := TX8) (N := 26) hx hb hts (fun _ h => List.mem_cons_of_mem _ (List.mem_append_right _ (h))) hown hK hP 0 rfl rfl 4 (by decide) (hts _ (List.mem_of_getElem? (i := 5) rfl)) (fun _ h9 => h9) rfl dX8_readPart_98 ?_
          refine lv_iconst (v := 4) hx hb dX8_readPart_101 rfl ?_
          refine lv_icmp_ge (tgt := 160) hx hb dX8_readPart_102 (by decide) (fun c_102 => ?_) (fun c_102 => ?_)
          · refine lv_aload_n hx hb dX8_readPart_160 rfl (lv_at hl 0 rfl) ?_
            obtain ⟨o_161, ho_161⟩ : ∃ z : Int32, z = v_X8_fail i_at i_faultAt := ⟨_, rfl⟩
            refine callVV (As := []) (rest := []) o_161 ho_161 hF (k_X8_fail l D cI cZ a a_readWishes a_readOwed a_told a_owed a_text a_row a_least a_values a_tellPlace a_tellHour a_tellDark a_isKept a_kept i_readHung i_readMany i_readOwes i_wishes i_hung i_hour i_length i_at i_faultAt i_acts i_next i_tells j_seed) (cwV 0 hts gX8_readPart_X8_fail rfl rfl rfl (by decide +kernel) ⟨Nat.le_of_ble_eq_true rfl, Nat.le_of_ble_eq_true rfl⟩) hK hN hP (va_Dsame hD rfl) hS hA [0] rfl rfl 0 8 (T := TX8) (N := 26) rfl rfl rfl hl.1 rfl (Nat.le_of_ble_eq_true rfl) dX8_readPart_161 ⟨Nat.zero_le _, Nat.zero_le _⟩ [some 0, none, none, none] 1 [(a, .inr (8, [.ref a_readWishes, .ref a_readOwed, .int i_readHung, .int i_readMany, .int i_readOwes, .ref a_told, .ref a_owed, .int i_wishes, .int i_hung, .int i_hour, .ref a_text, .int i_length, .int i_at, .int o_161, .int i_acts, .int i_next, .ref a_row, .ref a_least, .ref a_values, .int i_tells, .ref a_tellPlace, .ref a_tellHour, .ref a_tellDark, .long j_seed, .ref a_isKept, .ref a_kept])), (a_readOwed, .inl (cI, 12, .inl f_readOwed)), (a_text, .inl (cI, 72, .inl f_text)), (a_readWishes, .inl (cI, 25, .inl f_readWishes))] rfl rfl (by decide) (fun H locs hP hS => ?_)
            have e9 : v_X8_readPart x1 i_readHung i_readMany i_readOwes i_length i_at i_faultAt f_readOwed f_text f_readWishes = (i_readHung, i_readMany, i_readOwes, i_at, o_161, f_readOwed, f_readWishes) := by
              refine (if_neg c_3).trans ?_
              refine (if_pos c_73).trans ?_
              refine (if_pos c_81).trans ?_
              refine (if_pos c_94).trans ?_
              refine (if_pos c_102).trans ?_
              refine (bnd_eq ho_161).trans ?_
              rfl
            rw [hQ]; exact retV (i_readHung, i_readMany, i_readOwes, i_at, o_161, f_readOwed, f_readWishes) hx hb hr hlk e9 hP hS dX8_readPart_164
          · refine lv_aload_n hx hb dX8_readPart_105 rfl (lv_at hl 0 rfl) ?_
            refine lv_dup hx hb dX8_readPart_106 rfl ?_
            refine va_get (D := D) (ci := 8) (v := .int i_at) (C := RX8) (T := TX8) (N := 26) hx hb hts (fun _ h => List.mem_cons_of_mem _ (List.mem_append_right _ (h))) hown hK hP 0 rfl rfl 12 (by decide) (hts _ (List.mem_of_getElem? (i := 2) rfl)) (fun _ h9 => h9) rfl dX8_readPart_107 ?_
            refine lv_iconst (v := 1) hx hb dX8_readPart_110 rfl ?_
            refine lv_iadd hx hb dX8_readPart_111 ?_
            refine va_put (D := D) (ci := 8) (v := .int (i_at + 1)) (ty := .int) (C := RX8) (T := TX8) (N := 26) hx hb hts (fun _ h => List.mem_cons_of_mem _ (List.mem_append_right _ (h))) tyX8 tyX8_ok nmX8 hown hK hP (va_Dsame hD rfl) hS 0 rfl rfl 12 (by decide) (hts _ (List.mem_of_getElem? (i := 2) rfl)) (fun _ h9 => h9) rfl (tyX8_ok 12 (by decide)) rfl rfl (Nat.le_of_ble_eq_true rfl) dX8_readPart_112 (fun H locs hP _ hS => ?_)
            have hP : va_P D vwCl [(a, .inr (8, [.ref a_readWishes, .ref a_readOwed, .int i_readHung, .int i_readMany, .int i_readOwes, .ref a_told, .ref a_owed, .int i_wishes, .int i_hung, .int i_hour, .ref a_text, .int i_length, .int (i_at + 1), .int i_faultAt, .int i_acts, .int i_next, .ref a_row, .ref a_least, .ref a_values, .int i_tells, .ref a_tellPlace, .ref a_tellHour, .ref a_tellDark, .long j_seed, .ref a_isKept, .ref a_kept])), (a_readOwed, .inl (cI, 12, .inl f_readOwed)), (a_text, .inl (cI, 72, .inl f_text)), (a_readWishes, .inl (cI, 25, .inl f_readWishes))] H := hP
            refine lv_aload_n hx hb dX8_readPart_115 rfl (lv_at hl 0 rfl) ?_
            refine lv_aload_n hx hb dX8_readPart_116 rfl (lv_at hl 0 rfl) ?_
            obtain ⟨o_117, ho_117⟩ : ∃ z : Int32, z = v_X8_notOwed f_readOwed := ⟨_, rfl⟩
            refine callVIs (As := []) (rest := [.ref a]) o_117 ho_117 hF (k_X8_notOwed l D cI cZ a a_readWishes a_readOwed a_told a_owed a_text a_row a_least a_values a_tellPlace a_tellHour a_tellDark a_isKept a_kept i_readHung i_readMany i_readOwes i_wishes i_hung i_hour i_length (i_at + 1) i_faultAt i_acts i_next i_tells j_seed f_readOwed) (cwV 0 hts gX8_readPart_X8_notOwed rfl rfl rfl (by decide +kernel) ⟨Nat.le_of_ble_eq_true rfl, Nat.le_of_ble_eq_true rfl⟩) hK hN hP (va_Dsame hD rfl) hS hA [0, 1] rfl rfl 0 8 (T := TX8) (N := 26) rfl rfl rfl hl.1 rfl (Nat.le_of_ble_eq_true rfl) dX8_readPart_117 ⟨Nat.zero_le _, Nat.zero_le _⟩ o_117 rfl rfl (fun H locs hP hS => ?_)
            obtain ⟨o_120_1, o_120_2, o_120_3, ho_120⟩ := ex3 (v_X8_two o_117 i_length (i_at + 1) i_faultAt f_text)
            refine callVI (As := [.int o_117]) (rest := []) (o_120_1, o_120_2, o_120_3) ho_120 hF (k_X8_two l D cI cZ a a_readWishes a_readOwed a_told a_owed a_text a_row a_least a_values a_tellPlace a_tellHour a_tellDark a_isKept a_kept o_117 i_readHung i_readMany i_readOwes i_wishes i_hung i_hour i_length (i_at + 1) i_faultAt i_acts i_next i_tells j_seed f_text (vin_s hat hl0 hatl) (hl0)) (cwV 1 hts gX8_readPart_X8_two rfl rfl rfl (by decide +kernel) ⟨Nat.le_of_ble_eq_true rfl, Nat.le_of_ble_eq_true rfl⟩) hK hN hP (va_Dsame hD rfl) hS hA [0, 2] rfl rfl 0 8 (T := TX8) (N := 26) rfl rfl rfl hl.1 rfl (Nat.le_of_ble_eq_true rfl) dX8_readPart_120 ⟨Nat.zero_le _, Nat.zero_le _⟩ o_120_1 rfl [some 0, none, some 1, none] 2 [(a, .inr (8, [.ref a_readWishes, .ref a_readOwed, .int i_readHung, .int i_readMany, .int i_readOwes, .ref a_told, .ref a_owed, .int i_wishes, .int i_hung, .int i_hour, .ref a_text, .int i_length, .int o_120_2, .int o_120_3, .int i_acts, .int i_next, .ref a_row, .ref a_least, .ref a_values, .int i_tells, .ref a_tellPlace, .ref a_tellHour, .ref a_tellDark, .long j_seed, .ref a_isKept, .ref a_kept])), (a_readOwed, .inl (cI, 12, .inl f_readOwed)), (a_text, .inl (cI, 72, .inl f_text)), (a_readWishes, .inl (cI, 25, .inl f_readWishes))] rfl rfl (by decide) (fun H locs hP hS => ?_)
            refine lv_istore_n (lv' := [(2, .int o_120_1), (0, .ref a), (1, .int x1)]) hx hb dX8_readPart_123 rfl hl (by decide) rfl (fun ls hl => ?_)
            refine lv_aload_n hx hb dX8_readPart_124 rfl (lv_at hl 1 rfl) ?_
            refine lv_bipush (v := 126) hx hb dX8_readPart_125 rfl ?_
            obtain ⟨o_127_1, o_127_2, o_127_3, ho_127⟩ := ex3 (v_X8_figure 126 i_length o_120_2 o_120_3 f_text)
            refine callVI (As := [.int 126]) (rest := []) (o_127_1, o_127_2, o_127_3) ho_127 hF (k_X8_figure l D cI cZ a a_readWishes a_readOwed a_told a_owed a_text a_row a_least a_values a_tellPlace a_tellHour a_tellDark a_isKept a_kept 126 i_readHung i_readMany i_readOwes i_wishes i_hung i_hour i_length o_120_2 o_120_3 i_acts i_next i_tells j_seed f_text (two_at (vin_s hat hl0 hatl) hl0 ho_120) (hl0)) (cwV 1 hts gX8_readPart_X8_figure rfl rfl rfl (by decide +kernel) ⟨Nat.le_of_ble_eq_true rfl, Nat.le_of_ble_eq_true rfl⟩) hK hN hP (va_Dsame hD rfl) hS hA [0, 2] rfl rfl 0 8 (T := TX8) (N := 26) rfl rfl rfl hl.1 rfl (Nat.le_of_ble_eq_true rfl) dX8_readPart_127 ⟨Nat.zero_le _, Nat.zero_le _⟩ o_127_1 rfl [some 0, none, some 1, none] 2 [(a, .inr (8, [.ref a_readWishes, .ref a_readOwed, .int i_readHung, .int i_readMany, .int i_readOwes, .ref a_told, .ref a_owed, .int i_wishes, .int i_hung, .int i_hour, .ref a_text, .int i_length, .int o_127_2, .int o_127_3, .int i_acts, .int i_next, .ref a_row, .ref a_least, .ref a_values, .int i_tells, .ref a_tellPlace, .ref a_tellHour, .ref a_tellDark, .long j_seed, .ref a_isKept, .ref a_kept])), (a_readOwed, .inl (cI, 12, .inl f_readOwed)), (a_text, .inl (cI, 72, .inl f_text)), (a_readWishes, .inl (cI, 25, .inl f_readWishes))] rfl rfl (by decide) (fun H locs hP hS => ?_)
            refine lv_istore_n (lv' := [(3, .int o_127_1), (2, .int o_120_1), (0, .ref a), (1, .int x1)]) hx hb dX8_readPart_130 rfl hl (by decide) rfl (fun ls hl => ?_)
            refine lv_aload_n hx hb dX8_readPart_131 rfl (lv_at hl 2 rfl) ?_
            refine va_get (D := D) (ci := 8) (v := .int o_127_3) (C := RX8) (T := TX8) (N := 26) hx hb hts (fun _ h => List.mem_cons_of_mem _ (List.mem_append_right _ (h))) hown hK hP 0 rfl rfl 13 (by decide) (hts _ (List.mem_of_getElem? (i := 3) rfl)) (fun _ h9 => h9) rfl dX8_readPart_132 ?_
            refine lv_bipush (v := (-9)) hx hb dX8_readPart_135 rfl ?_
            refine lv_icmp_ne (tgt := 157) hx hb dX8_readPart_137 (by decide) (fun c_137 => ?_) (fun c_137 => ?_)
            · refine lv_goto (tgt := 164) hx hb dX8_readPart_157 (by decide) ?_
              have e9 : v_X8_readPart x1 i_readHung i_readMany i_readOwes i_length i_at i_faultAt f_readOwed f_text f_readWishes = (i_readHung, i_readMany, i_readOwes, o_127_2, o_127_3, f_readOwed, f_readWishes) := by
                refine (if_neg c_3).trans ?_
                refine (if_pos c_73).trans ?_
                refine (if_pos c_81).trans ?_
                refine (if_pos c_94).trans ?_
                refine (if_neg c_102).trans ?_
                refine (bnd_eq ho_117).trans ?_
                refine (bnd3_eq ho_120).trans ?_
                refine (bnd3_eq ho_127).trans ?_
                refine (if_neg c_137).trans ?_
                rfl
              rw [hQ]; exact retV (i_readHung, i_readMany, i_readOwes, o_127_2, o_127_3, f_readOwed, f_readWishes) hx hb hr hlk e9 hP hS dX8_readPart_164
            · refine lv_aload_n hx hb dX8_readPart_140 rfl (lv_at hl 2 rfl) ?_
              refine va_get (D := D) (ci := 8) (v := .ref a_readOwed) (C := RX8) (T := TX8) (N := 26) hx hb hts (fun _ h => List.mem_cons_of_mem _ (List.mem_append_right _ (h))) hown hK hP 0 rfl rfl 1 (by decide) (hts _ (List.mem_of_getElem? (i := 6) rfl)) (fun _ h9 => h9) rfl dX8_readPart_141 ?_
              refine lv_iload_n hx hb dX8_readPart_144 rfl (lv_at hl 1 rfl) ?_
              refine lv_iload_n hx hb dX8_readPart_145 rfl (lv_at hl 0 rfl) ?_
              refine va_iast hx hb hK hP (va_Dsame hD rfl) hS 1 0 rfl rfl (two_in (vin_s hat hl0 hatl) hl0 (by rw [ho_117]; exact notOwed_lt _) ho_120 (fig_ok (two_at (vin_s hat hl0 hatl) hl0 ho_120) ho_127 c_137)) dX8_readPart_146 (fun H locs hP _ hS => ?_)
              have hP : va_P D vwCl [(a, .inr (8, [.ref a_readWishes, .ref a_readOwed, .int i_readHung, .int i_readMany, .int i_readOwes, .ref a_told, .ref a_owed, .int i_wishes, .int i_hung, .int i_hour, .ref a_text, .int i_length, .int o_127_2, .int o_127_3, .int i_acts, .int i_next, .ref a_row, .ref a_least, .ref a_values, .int i_tells, .ref a_tellPlace, .ref a_tellHour, .ref a_tellDark, .long j_seed, .ref a_isKept, .ref a_kept])), (a_readOwed, .inl (cI, 12, .inl (upd f_readOwed o_120_1.toNatClampNeg o_127_1))), (a_text, .inl (cI, 72, .inl f_text)), (a_readWishes, .inl (cI, 25, .inl f_readWishes))] H := hP
              refine lv_aload_n hx hb dX8_readPart_147 rfl (lv_at hl 2 rfl) ?_
              refine lv_dup hx hb dX8_readPart_148 rfl ?_
              refine va_get (D := D) (ci := 8) (v := .int i_readOwes) (C := RX8) (T := TX8) (N := 26) hx hb hts (fun _ h => List.mem_cons_of_mem _ (List.mem_append_right _ (h))) hown hK hP 0 rfl rfl 4 (by decide) (hts _ (List.mem_of_getElem? (i := 5) rfl)) (fun _ h9 => h9) rfl dX8_readPart_149 ?_
              refine lv_iconst (v := 1) hx hb dX8_readPart_152 rfl ?_
              refine lv_iadd hx hb dX8_readPart_153 ?_
              refine va_put (D := D) (ci := 8) (v := .int (i_readOwes + 1)) (ty := .int) (C := RX8) (T := TX8) (N := 26) hx hb hts (fun _ h => List.mem_cons_of_mem _ (List.mem_append_right _ (h))) tyX8 tyX8_ok nmX8 hown hK hP (va_Dsame hD rfl) hS 0 rfl rfl 4 (by decide) (hts _ (List.mem_of_getElem? (i := 5) rfl)) (fun _ h9 => h9) rfl (tyX8_ok 4 (by decide)) rfl rfl (Nat.le_of_ble_eq_true rfl) dX8_readPart_154 (fun H locs hP _ hS => ?_)
              have hP : va_P D vwCl [(a, .inr (8, [.ref a_readWishes, .ref a_readOwed, .int i_readHung, .int i_readMany, .int (i_readOwes + 1), .ref a_told, .ref a_owed, .int i_wishes, .int i_hung, .int i_hour, .ref a_text, .int i_length, .int o_127_2, .int o_127_3, .int i_acts, .int i_next, .ref a_row, .ref a_least, .ref a_values, .int i_tells, .ref a_tellPlace, .ref a_tellHour, .ref a_tellDark, .long j_seed, .ref a_isKept, .ref a_kept])), (a_readOwed, .inl (cI, 12, .inl (upd f_readOwed o_120_1.toNatClampNeg o_127_1))), (a_text, .inl (cI, 72, .inl f_text)), (a_readWishes, .inl (cI, 25, .inl f_readWishes))] H := hP
              refine lv_goto (tgt := 164) hx hb dX8_readPart_157 (by decide) ?_
              have e9 : v_X8_readPart x1 i_readHung i_readMany i_readOwes i_length i_at i_faultAt f_readOwed f_text f_readWishes = (i_readHung, i_readMany, (i_readOwes + 1), o_127_2, o_127_3, (upd f_readOwed o_120_1.toNatClampNeg o_127_1), f_readWishes) := by
                refine (if_neg c_3).trans ?_
                refine (if_pos c_73).trans ?_
                refine (if_pos c_81).trans ?_
                refine (if_pos c_94).trans ?_
                refine (if_neg c_102).trans ?_
                refine (bnd_eq ho_117).trans ?_
                refine (bnd3_eq ho_120).trans ?_
                refine (bnd3_eq ho_127).trans ?_
                refine (if_pos c_137).trans ?_
                rfl
              rw [hQ]; exact retV (i_readHung, i_readMany, (i_readOwes + 1), o_127_2, o_127_3, (upd f_readOwed o_120_1.toNatClampNeg o_127_1), f_readWishes) hx hb hr hlk e9 hP hS dX8_readPart_164
      · refine lv_aload_n hx hb dX8_readPart_84 rfl (lv_at hl 0 rfl) ?_
        obtain ⟨o_85_1, o_85_2, o_85_3, o_85_4, ho_85⟩ := ex4 (v_X8_readWish i_readMany i_length i_at i_faultAt f_text f_readWishes)
        refine callVV (As := []) (rest := []) (o_85_1, o_85_2, o_85_3, o_85_4) ho_85 hF (k_X8_readWish l D cI cZ a a_readWishes a_readOwed a_told a_owed a_text a_row a_least a_values a_tellPlace a_tellHour a_tellDark a_isKept a_kept i_readHung i_readMany i_readOwes i_wishes i_hung i_hour i_length i_at i_faultAt i_acts i_next i_tells j_seed f_text f_readWishes (hat) (hl0) (hatl) (vin_lt (N := 5) hm6 (vp_in_nI (n := 5) (by decide) (by decide)) c_81)) (cwV 0 hts gX8_readPart_X8_readWish rfl rfl rfl (by decide +kernel) ⟨Nat.le_of_ble_eq_true rfl, Nat.le_of_ble_eq_true rfl⟩) hK hN hP (va_Dsame hD rfl) hS hA [0, 2, 3] rfl rfl 0 8 (T := TX8) (N := 26) rfl rfl rfl hl.1 rfl (Nat.le_of_ble_eq_true rfl) dX8_readPart_85 ⟨Nat.zero_le _, Nat.zero_le _⟩ [some 0, none, some 1, some 2] 3 [(a, .inr (8, [.ref a_readWishes, .ref a_readOwed, .int i_readHung, .int o_85_1, .int i_readOwes, .ref a_told, .ref a_owed, .int i_wishes, .int i_hung, .int i_hour, .ref a_text, .int i_length, .int o_85_2, .int o_85_3, .int i_acts, .int i_next, .ref a_row, .ref a_least, .ref a_values, .int i_tells, .ref a_tellPlace, .ref a_tellHour, .ref a_tellDark, .long j_seed, .ref a_isKept, .ref a_kept])), (a_readOwed, .inl (cI, 12, .inl f_readOwed)), (a_text, .inl (cI, 72, .inl f_text)), (a_readWishes, .inl (cI, 25, .inl o_85_4))] rfl rfl (by decide) (fun H locs hP hS => ?_)
        refine lv_goto (tgt := 164) hx hb dX8_readPart_88 (by decide) ?_
        have e9 : v_X8_readPart x1 i_readHung i_readMany i_readOwes i_length i_at i_faultAt f_readOwed f_text f_readWishes = (i_readHung, o_85_1, i_readOwes, o_85_2, o_85_3, f_readOwed, o_85_4) := by
          refine (if_neg c_3).trans ?_
          refine (if_pos c_73).trans ?_
          refine (if_neg c_81).trans ?_
          refine (bnd4_eq ho_85).trans ?_
          rfl
        rw [hQ]; exact retV (i_readHung, o_85_1, i_readOwes, o_85_2, o_85_3, f_readOwed, o_85_4) hx hb hr hlk e9 hP hS dX8_readPart_164
  · refine lv_aload_n hx hb dX8_readPart_6 rfl (lv_at hl 0 rfl) ?_
    refine va_get (D := D) (ci := 8) (v := .int i_readHung) (C := RX8) (T := TX8) (N := 26) hx hb hts (fun _ h => List.mem_cons_of_mem _ (List.mem_append_right _ (h))) hown hK hP 0 rfl rfl 2 (by decide) (hts _ (List.mem_of_getElem? (i := 1) rfl)) (fun _ h9 => h9) rfl dX8_readPart_7 ?_
    obtain ⟨o_10, ho_10⟩ : ∃ z : Int32, z = v_X8_ones i_readHung := ⟨_, rfl⟩
    refine callSIs (As := [.int i_readHung]) (rest := []) o_10 ho_10 hF (k_X8_ones l D cI cZ i_readHung) (va_cwS 1 hts gX8_readPart_X8_ones rfl rfl rfl (by decide +kernel) ⟨Nat.le_of_ble_eq_true rfl, Nat.le_of_ble_eq_true rfl⟩) hK hN hP (va_Dsame hD rfl) hS hA [] rfl rfl rfl hl.1 rfl (Nat.le_of_ble_eq_true rfl) dX8_readPart_10 ⟨Nat.zero_le _, Nat.zero_le _⟩ o_10 rfl rfl (fun H locs hP hS => ?_)
    refine lv_iconst (v := 5) hx hb dX8_readPart_13 rfl ?_
    refine lv_icmp_ge (tgt := 70) hx hb dX8_readPart_14 (by decide) (fun c_14 => ?_) (fun c_14 => ?_)
    · refine lv_iload_n hx hb dX8_readPart_70 rfl (lv_at hl 1 rfl) ?_
      refine lv_bipush (v := 87) hx hb dX8_readPart_71 rfl ?_
      refine lv_icmp_ne (tgt := 91) hx hb dX8_readPart_73 (by decide) (fun c_73 => ?_) (fun c_73 => ?_)
      · refine lv_iload_n hx hb dX8_readPart_91 rfl (lv_at hl 1 rfl) ?_
        refine lv_bipush (v := 79) hx hb dX8_readPart_92 rfl ?_
        refine lv_icmp_ne (tgt := 160) hx hb dX8_readPart_94 (by decide) (fun c_94 => ?_) (fun c_94 => ?_)
        · refine lv_aload_n hx hb dX8_readPart_160 rfl (lv_at hl 0 rfl) ?_
          obtain ⟨o_161, ho_161⟩ : ∃ z : Int32, z = v_X8_fail i_at i_faultAt := ⟨_, rfl⟩
          refine callVV (As := []) (rest := []) o_161 ho_161 hF (k_X8_fail l D cI cZ a a_readWishes a_readOwed a_told a_owed a_text a_row a_least a_values a_tellPlace a_tellHour a_tellDark a_isKept a_kept i_readHung i_readMany i_readOwes i_wishes i_hung i_hour i_length i_at i_faultAt i_acts i_next i_tells j_seed) (cwV 0 hts gX8_readPart_X8_fail rfl rfl rfl (by decide +kernel) ⟨Nat.le_of_ble_eq_true rfl, Nat.le_of_ble_eq_true rfl⟩) hK hN hP (va_Dsame hD rfl) hS hA [0] rfl rfl 0 8 (T := TX8) (N := 26) rfl rfl rfl hl.1 rfl (Nat.le_of_ble_eq_true rfl) dX8_readPart_161 ⟨Nat.zero_le _, Nat.zero_le _⟩ [some 0, none, none, none] 1 [(a, .inr (8, [.ref a_readWishes, .ref a_readOwed, .int i_readHung, .int i_readMany, .int i_readOwes, .ref a_told, .ref a_owed, .int i_wishes, .int i_hung, .int i_hour, .ref a_text, .int i_length, .int i_at, .int o_161, .int i_acts, .int i_next, .ref a_row, .ref a_least, .ref a_values, .int i_tells, .ref a_tellPlace, .ref a_tellHour, .ref a_tellDark, .long j_seed, .ref a_isKept, .ref a_kept])), (a_readOwed, .inl (cI, 12, .inl f_readOwed)), (a_text, .inl (cI, 72, .inl f_text)), (a_readWishes, .inl (cI, 25, .inl f_readWishes))] rfl rfl (by decide) (fun H locs hP hS => ?_)
          have e9 : v_X8_readPart x1 i_readHung i_readMany i_readOwes i_length i_at i_faultAt f_readOwed f_text f_readWishes = (i_readHung, i_readMany, i_readOwes, i_at, o_161, f_readOwed, f_readWishes) := by
            refine (if_pos c_3).trans ?_
            refine (bnd_eq ho_10).trans ?_
            refine (if_pos c_14).trans ?_
            refine (if_neg c_73).trans ?_
            refine (if_neg c_94).trans ?_
            refine (bnd_eq ho_161).trans ?_
            rfl
          rw [hQ]; exact retV (i_readHung, i_readMany, i_readOwes, i_at, o_161, f_readOwed, f_readWishes) hx hb hr hlk e9 hP hS dX8_readPart_164
        · refine lv_aload_n hx hb dX8_readPart_97 rfl (lv_at hl 0 rfl) ?_
          refine va_get (D := D) (ci := 8) (v := .int i_readOwes) (C := RX8) (T := TX8) (N := 26) hx hb hts (fun _ h => List.mem_cons_of_mem _ (List.mem_append_right _ (h))) hown hK hP 0 rfl rfl 4 (by decide) (hts _ (List.mem_of_getElem? (i := 5) rfl)) (fun _ h9 => h9) rfl dX8_readPart_98 ?_
          refine lv_iconst (v := 4) hx hb dX8_readPart_101 rfl ?_
          refine lv_icmp_ge (tgt := 160) hx hb dX8_readPart_102 (by decide) (fun c_102 => ?_) (fun c_102 => ?_)
          · refine lv_aload_n hx hb dX8_readPart_160 rfl (lv_at hl 0 rfl) ?_
            obtain ⟨o_161, ho_161⟩ : ∃ z : Int32, z = v_X8_fail i_at i_faultAt := ⟨_, rfl⟩
            refine callVV (As := []) (rest := []) o_161 ho_161 hF (k_X8_fail l D cI cZ a a_readWishes a_readOwed a_told a_owed a_text a_row a_least a_values a_tellPlace a_tellHour a_tellDark a_isKept a_kept i_readHung i_readMany i_readOwes i_wishes i_hung i_hour i_length i_at i_faultAt i_acts i_next i_tells j_seed) (cwV 0 hts gX8_readPart_X8_fail rfl rfl rfl (by decide +kernel) ⟨Nat.le_of_ble_eq_true rfl, Nat.le_of_ble_eq_true rfl⟩) hK hN hP (va_Dsame hD rfl) hS hA [0] rfl rfl 0 8 (T := TX8) (N := 26) rfl rfl rfl hl.1 rfl (Nat.le_of_ble_eq_true rfl) dX8_readPart_161 ⟨Nat.zero_le _, Nat.zero_le _⟩ [some 0, none, none, none] 1 [(a, .inr (8, [.ref a_readWishes, .ref a_readOwed, .int i_readHung, .int i_readMany, .int i_readOwes, .ref a_told, .ref a_owed, .int i_wishes, .int i_hung, .int i_hour, .ref a_text, .int i_length, .int i_at, .int o_161, .int i_acts, .int i_next, .ref a_row, .ref a_least, .ref a_values, .int i_tells, .ref a_tellPlace, .ref a_tellHour, .ref a_tellDark, .long j_seed, .ref a_isKept, .ref a_kept])), (a_readOwed, .inl (cI, 12, .inl f_readOwed)), (a_text, .inl (cI, 72, .inl f_text)), (a_readWishes, .inl (cI, 25, .inl f_readWishes))] rfl rfl (by decide) (fun H locs hP hS => ?_)
            have e9 : v_X8_readPart x1 i_readHung i_readMany i_readOwes i_length i_at i_faultAt f_readOwed f_text f_readWishes = (i_readHung, i_readMany, i_readOwes, i_at, o_161, f_readOwed, f_readWishes) := by
              refine (if_pos c_3).trans ?_
              refine (bnd_eq ho_10).trans ?_
              refine (if_pos c_14).trans ?_
              refine (if_neg c_73).trans ?_
              refine (if_pos c_94).trans ?_
              refine (if_pos c_102).trans ?_
              refine (bnd_eq ho_161).trans ?_
              rfl
            rw [hQ]; exact retV (i_readHung, i_readMany, i_readOwes, i_at, o_161, f_readOwed, f_readWishes) hx hb hr hlk e9 hP hS dX8_readPart_164
          · refine lv_aload_n hx hb dX8_readPart_105 rfl (lv_at hl 0 rfl) ?_
            refine lv_dup hx hb dX8_readPart_106 rfl ?_
            refine va_get (D := D) (ci := 8) (v := .int i_at) (C := RX8) (T := TX8) (N := 26) hx hb hts (fun _ h => List.mem_cons_of_mem _ (List.mem_append_right _ (h))) hown hK hP 0 rfl rfl 12 (by decide) (hts _ (List.mem_of_getElem? (i := 2) rfl)) (fun _ h9 => h9) rfl dX8_readPart_107 ?_
            refine lv_iconst (v := 1) hx hb dX8_readPart_110 rfl ?_
            refine lv_iadd hx hb dX8_readPart_111 ?_
            refine va_put (D := D) (ci := 8) (v := .int (i_at + 1)) (ty := .int) (C := RX8) (T := TX8) (N := 26) hx hb hts (fun _ h => List.mem_cons_of_mem _ (List.mem_append_right _ (h))) tyX8 tyX8_ok nmX8 hown hK hP (va_Dsame hD rfl) hS 0 rfl rfl 12 (by decide) (hts _ (List.mem_of_getElem? (i := 2) rfl)) (fun _ h9 => h9) rfl (tyX8_ok 12 (by decide)) rfl rfl (Nat.le_of_ble_eq_true rfl) dX8_readPart_112 (fun H locs hP _ hS => ?_)
            have hP : va_P D vwCl [(a, .inr (8, [.ref a_readWishes, .ref a_readOwed, .int i_readHung, .int i_readMany, .int i_readOwes, .ref a_told, .ref a_owed, .int i_wishes, .int i_hung, .int i_hour, .ref a_text, .int i_length, .int (i_at + 1), .int i_faultAt, .int i_acts, .int i_next, .ref a_row, .ref a_least, .ref a_values, .int i_tells, .ref a_tellPlace, .ref a_tellHour, .ref a_tellDark, .long j_seed, .ref a_isKept, .ref a_kept])), (a_readOwed, .inl (cI, 12, .inl f_readOwed)), (a_text, .inl (cI, 72, .inl f_text)), (a_readWishes, .inl (cI, 25, .inl f_readWishes))] H := hP
            refine lv_aload_n hx hb dX8_readPart_115 rfl (lv_at hl 0 rfl) ?_
            refine lv_aload_n hx hb dX8_readPart_116 rfl (lv_at hl 0 rfl) ?_
            obtain ⟨o_117, ho_117⟩ : ∃ z : Int32, z = v_X8_notOwed f_readOwed := ⟨_, rfl⟩
            refine callVIs (As := []) (rest := [.ref a]) o_117 ho_117 hF (k_X8_notOwed l D cI cZ a a_readWishes a_readOwed a_told a_owed a_text a_row a_least a_values a_tellPlace a_tellHour a_tellDark a_isKept a_kept i_readHung i_readMany i_readOwes i_wishes i_hung i_hour i_length (i_at + 1) i_faultAt i_acts i_next i_tells j_seed f_readOwed) (cwV 0 hts gX8_readPart_X8_notOwed rfl rfl rfl (by decide +kernel) ⟨Nat.le_of_ble_eq_true rfl, Nat.le_of_ble_eq_true rfl⟩) hK hN hP (va_Dsame hD rfl) hS hA [0, 1] rfl rfl 0 8 (T := TX8) (N := 26) rfl rfl rfl hl.1 rfl (Nat.le_of_ble_eq_true rfl) dX8_readPart_117 ⟨Nat.zero_le _, Nat.zero_le _⟩ o_117 rfl rfl (fun H locs hP hS => ?_)
            obtain ⟨o_120_1, o_120_2, o_120_3, ho_120⟩ := ex3 (v_X8_two o_117 i_length (i_at + 1) i_faultAt f_text)
            refine callVI (As := [.int o_117]) (rest := []) (o_120_1, o_120_2, o_120_3) ho_120 hF (k_X8_two l D cI cZ a a_readWishes a_readOwed a_told a_owed a_text a_row a_least a_values a_tellPlace a_tellHour a_tellDark a_isKept a_kept o_117 i_readHung i_readMany i_readOwes i_wishes i_hung i_hour i_length (i_at + 1) i_faultAt i_acts i_next i_tells j_seed f_text (vin_s hat hl0 hatl) (hl0)) (cwV 1 hts gX8_readPart_X8_two rfl rfl rfl (by decide +kernel) ⟨Nat.le_of_ble_eq_true rfl, Nat.le_of_ble_eq_true rfl⟩) hK hN hP (va_Dsame hD rfl) hS hA [0, 2] rfl rfl 0 8 (T := TX8) (N := 26) rfl rfl rfl hl.1 rfl (Nat.le_of_ble_eq_true rfl) dX8_readPart_120 ⟨Nat.zero_le _, Nat.zero_le _⟩ o_120_1 rfl [some 0, none, some 1, none] 2 [(a, .inr (8, [.ref a_readWishes, .ref a_readOwed, .int i_readHung, .int i_readMany, .int i_readOwes, .ref a_told, .ref a_owed, .int i_wishes, .int i_hung, .int i_hour, .ref a_text, .int i_length, .int o_120_2, .int o_120_3, .int i_acts, .int i_next, .ref a_row, .ref a_least, .ref a_values, .int i_tells, .ref a_tellPlace, .ref a_tellHour, .ref a_tellDark, .long j_seed, .ref a_isKept, .ref a_kept])), (a_readOwed, .inl (cI, 12, .inl f_readOwed)), (a_text, .inl (cI, 72, .inl f_text)), (a_readWishes, .inl (cI, 25, .inl f_readWishes))] rfl rfl (by decide) (fun H locs hP hS => ?_)
            refine lv_istore_n (lv' := [(2, .int o_120_1), (0, .ref a), (1, .int x1)]) hx hb dX8_readPart_123 rfl hl (by decide) rfl (fun ls hl => ?_)
            refine lv_aload_n hx hb dX8_readPart_124 rfl (lv_at hl 1 rfl) ?_
            refine lv_bipush (v := 126) hx hb dX8_readPart_125 rfl ?_
            obtain ⟨o_127_1, o_127_2, o_127_3, ho_127⟩ := ex3 (v_X8_figure 126 i_length o_120_2 o_120_3 f_text)
            refine callVI (As := [.int 126]) (rest := []) (o_127_1, o_127_2, o_127_3) ho_127 hF (k_X8_figure l D cI cZ a a_readWishes a_readOwed a_told a_owed a_text a_row a_least a_values a_tellPlace a_tellHour a_tellDark a_isKept a_kept 126 i_readHung i_readMany i_readOwes i_wishes i_hung i_hour i_length o_120_2 o_120_3 i_acts i_next i_tells j_seed f_text (two_at (vin_s hat hl0 hatl) hl0 ho_120) (hl0)) (cwV 1 hts gX8_readPart_X8_figure rfl rfl rfl (by decide +kernel) ⟨Nat.le_of_ble_eq_true rfl, Nat.le_of_ble_eq_true rfl⟩) hK hN hP (va_Dsame hD rfl) hS hA [0, 2] rfl rfl 0 8 (T := TX8) (N := 26) rfl rfl rfl hl.1 rfl (Nat.le_of_ble_eq_true rfl) dX8_readPart_127 ⟨Nat.zero_le _, Nat.zero_le _⟩ o_127_1 rfl [some 0, none, some 1, none] 2 [(a, .inr (8, [.ref a_readWishes, .ref a_readOwed, .int i_readHung, .int i_readMany, .int i_readOwes, .ref a_told, .ref a_owed, .int i_wishes, .int i_hung, .int i_hour, .ref a_text, .int i_length, .int o_127_2, .int o_127_3, .int i_acts, .int i_next, .ref a_row, .ref a_least, .ref a_values, .int i_tells, .ref a_tellPlace, .ref a_tellHour, .ref a_tellDark, .long j_seed, .ref a_isKept, .ref a_kept])), (a_readOwed, .inl (cI, 12, .inl f_readOwed)), (a_text, .inl (cI, 72, .inl f_text)), (a_readWishes, .inl (cI, 25, .inl f_readWishes))] rfl rfl (by decide) (fun H locs hP hS => ?_)
            refine lv_istore_n (lv' := [(3, .int o_127_1), (2, .int o_120_1), (0, .ref a), (1, .int x1)]) hx hb dX8_readPart_130 rfl hl (by decide) rfl (fun ls hl => ?_)
            refine lv_aload_n hx hb dX8_readPart_131 rfl (lv_at hl 2 rfl) ?_
            refine va_get (D := D) (ci := 8) (v := .int o_127_3) (C := RX8) (T := TX8) (N := 26) hx hb hts (fun _ h => List.mem_cons_of_mem _ (List.mem_append_right _ (h))) hown hK hP 0 rfl rfl 13 (by decide) (hts _ (List.mem_of_getElem? (i := 3) rfl)) (fun _ h9 => h9) rfl dX8_readPart_132 ?_
            refine lv_bipush (v := (-9)) hx hb dX8_readPart_135 rfl ?_
            refine lv_icmp_ne (tgt := 157) hx hb dX8_readPart_137 (by decide) (fun c_137 => ?_) (fun c_137 => ?_)
            · refine lv_goto (tgt := 164) hx hb dX8_readPart_157 (by decide) ?_
              have e9 : v_X8_readPart x1 i_readHung i_readMany i_readOwes i_length i_at i_faultAt f_readOwed f_text f_readWishes = (i_readHung, i_readMany, i_readOwes, o_127_2, o_127_3, f_readOwed, f_readWishes) := by
                refine (if_pos c_3).trans ?_
                refine (bnd_eq ho_10).trans ?_
                refine (if_pos c_14).trans ?_
                refine (if_neg c_73).trans ?_
                refine (if_pos c_94).trans ?_
                refine (if_neg c_102).trans ?_
                refine (bnd_eq ho_117).trans ?_
                refine (bnd3_eq ho_120).trans ?_
                refine (bnd3_eq ho_127).trans ?_
                refine (if_neg c_137).trans ?_
                rfl
              rw [hQ]; exact retV (i_readHung, i_readMany, i_readOwes, o_127_2, o_127_3, f_readOwed, f_readWishes) hx hb hr hlk e9 hP hS dX8_readPart_164
            · refine lv_aload_n hx hb dX8_readPart_140 rfl (lv_at hl 2 rfl) ?_
              refine va_get (D := D) (ci := 8) (v := .ref a_readOwed) (C := RX8) (T := TX8) (N := 26) hx hb hts (fun _ h => List.mem_cons_of_mem _ (List.mem_append_right _ (h))) hown hK hP 0 rfl rfl 1 (by decide) (hts _ (List.mem_of_getElem? (i := 6) rfl)) (fun _ h9 => h9) rfl dX8_readPart_141 ?_
              refine lv_iload_n hx hb dX8_readPart_144 rfl (lv_at hl 1 rfl) ?_
              refine lv_iload_n hx hb dX8_readPart_145 rfl (lv_at hl 0 rfl) ?_
              refine va_iast hx hb hK hP (va_Dsame hD rfl) hS 1 0 rfl rfl (two_in (vin_s hat hl0 hatl) hl0 (by rw [ho_117]; exact notOwed_lt _) ho_120 (fig_ok (two_at (vin_s hat hl0 hatl) hl0 ho_120) ho_127 c_137)) dX8_readPart_146 (fun H locs hP _ hS => ?_)
              have hP : va_P D vwCl [(a, .inr (8, [.ref a_readWishes, .ref a_readOwed, .int i_readHung, .int i_readMany, .int i_readOwes, .ref a_told, .ref a_owed, .int i_wishes, .int i_hung, .int i_hour, .ref a_text, .int i_length, .int o_127_2, .int o_127_3, .int i_acts, .int i_next, .ref a_row, .ref a_least, .ref a_values, .int i_tells, .ref a_tellPlace, .ref a_tellHour, .ref a_tellDark, .long j_seed, .ref a_isKept, .ref a_kept])), (a_readOwed, .inl (cI, 12, .inl (upd f_readOwed o_120_1.toNatClampNeg o_127_1))), (a_text, .inl (cI, 72, .inl f_text)), (a_readWishes, .inl (cI, 25, .inl f_readWishes))] H := hP
              refine lv_aload_n hx hb dX8_readPart_147 rfl (lv_at hl 2 rfl) ?_
              refine lv_dup hx hb dX8_readPart_148 rfl ?_
              refine va_get (D := D) (ci := 8) (v := .int i_readOwes) (C := RX8) (T := TX8) (N := 26) hx hb hts (fun _ h => List.mem_cons_of_mem _ (List.mem_append_right _ (h))) hown hK hP 0 rfl rfl 4 (by decide) (hts _ (List.mem_of_getElem? (i := 5) rfl)) (fun _ h9 => h9) rfl dX8_readPart_149 ?_
              refine lv_iconst (v := 1) hx hb dX8_readPart_152 rfl ?_
              refine lv_iadd hx hb dX8_readPart_153 ?_
              refine va_put (D := D) (ci := 8) (v := .int (i_readOwes + 1)) (ty := .int) (C := RX8) (T := TX8) (N := 26) hx hb hts (fun _ h => List.mem_cons_of_mem _ (List.mem_append_right _ (h))) tyX8 tyX8_ok nmX8 hown hK hP (va_Dsame hD rfl) hS 0 rfl rfl 4 (by decide) (hts _ (List.mem_of_getElem? (i := 5) rfl)) (fun _ h9 => h9) rfl (tyX8_ok 4 (by decide)) rfl rfl (Nat.le_of_ble_eq_true rfl) dX8_readPart_154 (fun H locs hP _ hS => ?_)
              have hP : va_P D vwCl [(a, .inr (8, [.ref a_readWishes, .ref a_readOwed, .int i_readHung, .int i_readMany, .int (i_readOwes + 1), .ref a_told, .ref a_owed, .int i_wishes, .int i_hung, .int i_hour, .ref a_text, .int i_length, .int o_127_2, .int o_127_3, .int i_acts, .int i_next, .ref a_row, .ref a_least, .ref a_values, .int i_tells, .ref a_tellPlace, .ref a_tellHour, .ref a_tellDark, .long j_seed, .ref a_isKept, .ref a_kept])), (a_readOwed, .inl (cI, 12, .inl (upd f_readOwed o_120_1.toNatClampNeg o_127_1))), (a_text, .inl (cI, 72, .inl f_text)), (a_readWishes, .inl (cI, 25, .inl f_readWishes))] H := hP
              refine lv_goto (tgt := 164) hx hb dX8_readPart_157 (by decide) ?_
              have e9 : v_X8_readPart x1 i_readHung i_readMany i_readOwes i_length i_at i_faultAt f_readOwed f_text f_readWishes = (i_readHung, i_readMany, (i_readOwes + 1), o_127_2, o_127_3, (upd f_readOwed o_120_1.toNatClampNeg o_127_1), f_readWishes) := by
                refine (if_pos c_3).trans ?_
                refine (bnd_eq ho_10).trans ?_
                refine (if_pos c_14).trans ?_
                refine (if_neg c_73).trans ?_
                refine (if_pos c_94).trans ?_
                refine (if_neg c_102).trans ?_
                refine (bnd_eq ho_117).trans ?_
                refine (bnd3_eq ho_120).trans ?_
                refine (bnd3_eq ho_127).trans ?_
                refine (if_pos c_137).trans ?_
                rfl
              rw [hQ]; exact retV (i_readHung, i_readMany, (i_readOwes + 1), o_127_2, o_127_3, (upd f_readOwed o_120_1.toNatClampNeg o_127_1), f_readWishes) hx hb hr hlk e9 hP hS dX8_readPart_164
      · refine lv_aload_n hx hb dX8_readPart_76 rfl (lv_at hl 0 rfl) ?_
        refine va_get (D := D) (ci := 8) (v := .int i_readMany) (C := RX8) (T := TX8) (N := 26) hx hb hts (fun _ h => List.mem_cons_of_mem _ (List.mem_append_right _ (h))) hown hK hP 0 rfl rfl 3 (by decide) (hts _ (List.mem_of_getElem? (i := 4) rfl)) (fun _ h9 => h9) rfl dX8_readPart_77 ?_
        refine lv_iconst (v := 5) hx hb dX8_readPart_80 rfl ?_
        refine lv_icmp_ge (tgt := 91) hx hb dX8_readPart_81 (by decide) (fun c_81 => ?_) (fun c_81 => ?_)
        · refine lv_iload_n hx hb dX8_readPart_91 rfl (lv_at hl 1 rfl) ?_
          refine lv_bipush (v := 79) hx hb dX8_readPart_92 rfl ?_
          refine lv_icmp_ne (tgt := 160) hx hb dX8_readPart_94 (by decide) (fun c_94 => ?_) (fun c_94 => ?_)
          · refine lv_aload_n hx hb dX8_readPart_160 rfl (lv_at hl 0 rfl) ?_
            obtain ⟨o_161, ho_161⟩ : ∃ z : Int32, z = v_X8_fail i_at i_faultAt := ⟨_, rfl⟩
            refine callVV (As := []) (rest := []) o_161 ho_161 hF (k_X8_fail l D cI cZ a a_readWishes a_readOwed a_told a_owed a_text a_row a_least a_values a_tellPlace a_tellHour a_tellDark a_isKept a_kept i_readHung i_readMany i_readOwes i_wishes i_hung i_hour i_length i_at i_faultAt i_acts i_next i_tells j_seed) (cwV 0 hts gX8_readPart_X8_fail rfl rfl rfl (by decide +kernel) ⟨Nat.le_of_ble_eq_true rfl, Nat.le_of_ble_eq_true rfl⟩) hK hN hP (va_Dsame hD rfl) hS hA [0] rfl rfl 0 8 (T := TX8) (N := 26) rfl rfl rfl hl.1 rfl (Nat.le_of_ble_eq_true rfl) dX8_readPart_161 ⟨Nat.zero_le _, Nat.zero_le _⟩ [some 0, none, none, none] 1 [(a, .inr (8, [.ref a_readWishes, .ref a_readOwed, .int i_readHung, .int i_readMany, .int i_readOwes, .ref a_told, .ref a_owed, .int i_wishes, .int i_hung, .int i_hour, .ref a_text, .int i_length, .int i_at, .int o_161, .int i_acts, .int i_next, .ref a_row, .ref a_least, .ref a_values, .int i_tells, .ref a_tellPlace, .ref a_tellHour, .ref a_tellDark, .long j_seed, .ref a_isKept, .ref a_kept])), (a_readOwed, .inl (cI, 12, .inl f_readOwed)), (a_text, .inl (cI, 72, .inl f_text)), (a_readWishes, .inl (cI, 25, .inl f_readWishes))] rfl rfl (by decide) (fun H locs hP hS => ?_)
            have e9 : v_X8_readPart x1 i_readHung i_readMany i_readOwes i_length i_at i_faultAt f_readOwed f_text f_readWishes = (i_readHung, i_readMany, i_readOwes, i_at, o_161, f_readOwed, f_readWishes) := by
              refine (if_pos c_3).trans ?_
              refine (bnd_eq ho_10).trans ?_
              refine (if_pos c_14).trans ?_
              refine (if_pos c_73).trans ?_
              refine (if_pos c_81).trans ?_
              refine (if_neg c_94).trans ?_
              refine (bnd_eq ho_161).trans ?_
              rfl
            rw [hQ]; exact retV (i_readHung, i_readMany, i_readOwes, i_at, o_161, f_readOwed, f_readWishes) hx hb hr hlk e9 hP hS dX8_readPart_164
          · refine lv_aload_n hx hb dX8_readPart_97 rfl (lv_at hl 0 rfl) ?_
            refine va_get (D := D) (ci := 8) (v := .int i_readOwes) (C := RX8) (T := TX8) (N := 26) hx hb hts (fun _ h => List.mem_cons_of_mem _ (List.mem_append_right _ (h))) hown hK hP 0 rfl rfl 4 (by decide) (hts _ (List.mem_of_getElem? (i := 5) rfl)) (fun _ h9 => h9) rfl dX8_readPart_98 ?_
            refine lv_iconst (v := 4) hx hb dX8_readPart_101 rfl ?_
            refine lv_icmp_ge (tgt := 160) hx hb dX8_readPart_102 (by decide) (fun c_102 => ?_) (fun c_102 => ?_)
            · refine lv_aload_n hx hb dX8_readPart_160 rfl (lv_at hl 0 rfl) ?_
              obtain ⟨o_161, ho_161⟩ : ∃ z : Int32, z = v_X8_fail i_at i_faultAt := ⟨_, rfl⟩
              refine callVV (As := []) (rest := []) o_161 ho_161 hF (k_X8_fail l D cI cZ a a_readWishes a_readOwed a_told a_owed a_text a_row a_least a_values a_tellPlace a_tellHour a_tellDark a_isKept a_kept i_readHung i_readMany i_readOwes i_wishes i_hung i_hour i_length i_at i_faultAt i_acts i_next i_tells j_seed) (cwV 0 hts gX8_readPart_X8_fail rfl rfl rfl (by decide +kernel) ⟨Nat.le_of_ble_eq_true rfl, Nat.le_of_ble_eq_true rfl⟩) hK hN hP (va_Dsame hD rfl) hS hA [0] rfl rfl 0 8 (T := TX8) (N := 26) rfl rfl rfl hl.1 rfl (Nat.le_of_ble_eq_true rfl) dX8_readPart_161 ⟨Nat.zero_le _, Nat.zero_le _⟩ [some 0, none, none, none] 1 [(a, .inr (8, [.ref a_readWishes, .ref a_readOwed, .int i_readHung, .int i_readMany, .int i_readOwes, .ref a_told, .ref a_owed, .int i_wishes, .int i_hung, .int i_hour, .ref a_text, .int i_length, .int i_at, .int o_161, .int i_acts, .int i_next, .ref a_row, .ref a_least, .ref a_values, .int i_tells, .ref a_tellPlace, .ref a_tellHour, .ref a_tellDark, .long j_seed, .ref a_isKept, .ref a_kept])), (a_readOwed, .inl (cI, 12, .inl f_readOwed)), (a_text, .inl (cI, 72, .inl f_text)), (a_readWishes, .inl (cI, 25, .inl f_readWishes))] rfl rfl (by decide) (fun H locs hP hS => ?_)
              have e9 : v_X8_readPart x1 i_readHung i_readMany i_readOwes i_length i_at i_faultAt f_readOwed f_text f_readWishes = (i_readHung, i_readMany, i_readOwes, i_at, o_161, f_readOwed, f_readWishes) := by
                refine (if_pos c_3).trans ?_
                refine (bnd_eq ho_10).trans ?_
                refine (if_pos c_14).trans ?_
                refine (if_pos c_73).trans ?_
                refine (if_pos c_81).trans ?_
                refine (if_pos c_94).trans ?_
                refine (if_pos c_102).trans ?_
                refine (bnd_eq ho_161).trans ?_
                rfl
              rw [hQ]; exact retV (i_readHung, i_readMany, i_readOwes, i_at, o_161, f_readOwed, f_readWishes) hx hb hr hlk e9 hP hS dX8_readPart_164
            · refine lv_aload_n hx hb dX8_readPart_105 rfl (lv_at hl 0 rfl) ?_
              refine lv_dup hx hb dX8_readPart_106 rfl ?_
              refine va_get (D := D) (ci := 8) (v := .int i_at) (C := RX8) (T := TX8) (N := 26) hx hb hts (fun _ h => List.mem_cons_of_mem _ (List.mem_append_right _ (h))) hown hK hP 0 rfl rfl 12 (by decide) (hts _ (List.mem_of_getElem? (i := 2) rfl)) (fun _ h9 => h9) rfl dX8_readPart_107 ?_
              refine lv_iconst (v := 1) hx hb dX8_readPart_110 rfl ?_
              refine lv_iadd hx hb dX8_readPart_111 ?_
              refine va_put (D := D) (ci := 8) (v := .int (i_at + 1)) (ty := .int) (C := RX8) (T := TX8) (N := 26) hx hb hts (fun _ h => List.mem_cons_of_mem _ (List.mem_append_right _ (h))) tyX8 tyX8_ok nmX8 hown hK hP (va_Dsame hD rfl) hS 0 rfl rfl 12 (by decide) (hts _ (List.mem_of_getElem? (i := 2) rfl)) (fun _ h9 => h9) rfl (tyX8_ok 12 (by decide)) rfl rfl (Nat.le_of_ble_eq_true rfl) dX8_readPart_112 (fun H locs hP _ hS => ?_)
              have hP : va_P D vwCl [(a, .inr (8, [.ref a_readWishes, .ref a_readOwed, .int i_readHung, .int i_readMany, .int i_readOwes, .ref a_told, .ref a_owed, .int i_wishes, .int i_hung, .int i_hour, .ref a_text, .int i_length, .int (i_at + 1), .int i_faultAt, .int i_acts, .int i_next, .ref a_row, .ref a_least, .ref a_values, .int i_tells, .ref a_tellPlace, .ref a_tellHour, .ref a_tellDark, .long j_seed, .ref a_isKept, .ref a_kept])), (a_readOwed, .inl (cI, 12, .inl f_readOwed)), (a_text, .inl (cI, 72, .inl f_text)), (a_readWishes, .inl (cI, 25, .inl f_readWishes))] H := hP
              refine lv_aload_n hx hb dX8_readPart_115 rfl (lv_at hl 0 rfl) ?_
              refine lv_aload_n hx hb dX8_readPart_116 rfl (lv_at hl 0 rfl) ?_
              obtain ⟨o_117, ho_117⟩ : ∃ z : Int32, z = v_X8_notOwed f_readOwed := ⟨_, rfl⟩
              refine callVIs (As := []) (rest := [.ref a]) o_117 ho_117 hF (k_X8_notOwed l D cI cZ a a_readWishes a_readOwed a_told a_owed a_text a_row a_least a_values a_tellPlace a_tellHour a_tellDark a_isKept a_kept i_readHung i_readMany i_readOwes i_wishes i_hung i_hour i_length (i_at + 1) i_faultAt i_acts i_next i_tells j_seed f_readOwed) (cwV 0 hts gX8_readPart_X8_notOwed rfl rfl rfl (by decide +kernel) ⟨Nat.le_of_ble_eq_true rfl, Nat.le_of_ble_eq_true rfl⟩) hK hN hP (va_Dsame hD rfl) hS hA [0, 1] rfl rfl 0 8 (T := TX8) (N := 26) rfl rfl rfl hl.1 rfl (Nat.le_of_ble_eq_true rfl) dX8_readPart_117 ⟨Nat.zero_le _, Nat.zero_le _⟩ o_117 rfl rfl (fun H locs hP hS => ?_)
              obtain ⟨o_120_1, o_120_2, o_120_3, ho_120⟩ := ex3 (v_X8_two o_117 i_length (i_at + 1) i_faultAt f_text)
              refine callVI (As := [.int o_117]) (rest := []) (o_120_1, o_120_2, o_120_3) ho_120 hF (k_X8_two l D cI cZ a a_readWishes a_readOwed a_told a_owed a_text a_row a_least a_values a_tellPlace a_tellHour a_tellDark a_isKept a_kept o_117 i_readHung i_readMany i_readOwes i_wishes i_hung i_hour i_length (i_at + 1) i_faultAt i_acts i_next i_tells j_seed f_text (vin_s hat hl0 hatl) (hl0)) (cwV 1 hts gX8_readPart_X8_two rfl rfl rfl (by decide +kernel) ⟨Nat.le_of_ble_eq_true rfl, Nat.le_of_ble_eq_true rfl⟩) hK hN hP (va_Dsame hD rfl) hS hA [0, 2] rfl rfl 0 8 (T := TX8) (N := 26) rfl rfl rfl hl.1 rfl (Nat.le_of_ble_eq_true rfl) dX8_readPart_120 ⟨Nat.zero_le _, Nat.zero_le _⟩ o_120_1 rfl [some 0, none, some 1, none] 2 [(a, .inr (8, [.ref a_readWishes, .ref a_readOwed, .int i_readHung, .int i_readMany, .int i_readOwes, .ref a_told, .ref a_owed, .int i_wishes, .int i_hung, .int i_hour, .ref a_text, .int i_length, .int o_120_2, .int o_120_3, .int i_acts, .int i_next, .ref a_row, .ref a_least, .ref a_values, .int i_tells, .ref a_tellPlace, .ref a_tellHour, .ref a_tellDark, .long j_seed, .ref a_isKept, .ref a_kept])), (a_readOwed, .inl (cI, 12, .inl f_readOwed)), (a_text, .inl (cI, 72, .inl f_text)), (a_readWishes, .inl (cI, 25, .inl f_readWishes))] rfl rfl (by decide) (fun H locs hP hS => ?_)
              refine lv_istore_n (lv' := [(2, .int o_120_1), (0, .ref a), (1, .int x1)]) hx hb dX8_readPart_123 rfl hl (by decide) rfl (fun ls hl => ?_)
              refine lv_aload_n hx hb dX8_readPart_124 rfl (lv_at hl 1 rfl) ?_
              refine lv_bipush (v := 126) hx hb dX8_readPart_125 rfl ?_
              obtain ⟨o_127_1, o_127_2, o_127_3, ho_127⟩ := ex3 (v_X8_figure 126 i_length o_120_2 o_120_3 f_text)
              refine callVI (As := [.int 126]) (rest := []) (o_127_1, o_127_2, o_127_3) ho_127 hF (k_X8_figure l D cI cZ a a_readWishes a_readOwed a_told a_owed a_text a_row a_least a_values a_tellPlace a_tellHour a_tellDark a_isKept a_kept 126 i_readHung i_readMany i_readOwes i_wishes i_hung i_hour i_length o_120_2 o_120_3 i_acts i_next i_tells j_seed f_text (two_at (vin_s hat hl0 hatl) hl0 ho_120) (hl0)) (cwV 1 hts gX8_readPart_X8_figure rfl rfl rfl (by decide +kernel) ⟨Nat.le_of_ble_eq_true rfl, Nat.le_of_ble_eq_true rfl⟩) hK hN hP (va_Dsame hD rfl) hS hA [0, 2] rfl rfl 0 8 (T := TX8) (N := 26) rfl rfl rfl hl.1 rfl (Nat.le_of_ble_eq_true rfl) dX8_readPart_127 ⟨Nat.zero_le _, Nat.zero_le _⟩ o_127_1 rfl [some 0, none, some 1, none] 2 [(a, .inr (8, [.ref a_readWishes, .ref a_readOwed, .int i_readHung, .int i_readMany, .int i_readOwes, .ref a_told, .ref a_owed, .int i_wishes, .int i_hung, .int i_hour, .ref a_text, .int i_length, .int o_127_2, .int o_127_3, .int i_acts, .int i_next, .ref a_row, .ref a_least, .ref a_values, .int i_tells, .ref a_tellPlace, .ref a_tellHour, .ref a_tellDark, .long j_seed, .ref a_isKept, .ref a_kept])), (a_readOwed, .inl (cI, 12, .inl f_readOwed)), (a_text, .inl (cI, 72, .inl f_text)), (a_readWishes, .inl (cI, 25, .inl f_readWishes))] rfl rfl (by decide) (fun H locs hP hS => ?_)
              refine lv_istore_n (lv' := [(3, .int o_127_1), (2, .int o_120_1), (0, .ref a), (1, .int x1)]) hx hb dX8_readPart_130 rfl hl (by decide) rfl (fun ls hl => ?_)
              refine lv_aload_n hx hb dX8_readPart_131 rfl (lv_at hl 2 rfl) ?_
              refine va_get (D := D) (ci := 8) (v := .int o_127_3) (C := RX8) (T := TX8) (N := 26) hx hb hts (fun _ h => List.mem_cons_of_mem _ (List.mem_append_right _ (h))) hown hK hP 0 rfl rfl 13 (by decide) (hts _ (List.mem_of_getElem? (i := 3) rfl)) (fun _ h9 => h9) rfl dX8_readPart_132 ?_
              refine lv_bipush (v := (-9)) hx hb dX8_readPart_135 rfl ?_
              refine lv_icmp_ne (tgt := 157) hx hb dX8_readPart_137 (by decide) (fun c_137 => ?_) (fun c_137 => ?_)
              · refine lv_goto (tgt := 164) hx hb dX8_readPart_157 (by decide) ?_
                have e9 : v_X8_readPart x1 i_readHung i_readMany i_readOwes i_length i_at i_faultAt f_readOwed f_text f_readWishes = (i_readHung, i_readMany, i_readOwes, o_127_2, o_127_3, f_readOwed, f_readWishes) := by
                  refine (if_pos c_3).trans ?_
                  refine (bnd_eq ho_10).trans ?_
                  refine (if_pos c_14).trans ?_
                  refine (if_pos c_73).trans ?_
                  refine (if_pos c_81).trans ?_
                  refine (if_pos c_94).trans ?_
                  refine (if_neg c_102).trans ?_
                  refine (bnd_eq ho_117).trans ?_
                  refine (bnd3_eq ho_120).trans ?_
                  refine (bnd3_eq ho_127).trans ?_
                  refine (if_neg c_137).trans ?_
                  rfl
                rw [hQ]; exact retV (i_readHung, i_readMany, i_readOwes, o_127_2, o_127_3, f_readOwed, f_readWishes) hx hb hr hlk e9 hP hS dX8_readPart_164
              · refine lv_aload_n hx hb dX8_readPart_140 rfl (lv_at hl 2 rfl) ?_
                refine va_get (D := D) (ci := 8) (v := .ref a_readOwed) (C := RX8) (T := TX8) (N := 26) hx hb hts (fun _ h => List.mem_cons_of_mem _ (List.mem_append_right _ (h))) hown hK hP 0 rfl rfl 1 (by decide) (hts _ (List.mem_of_getElem? (i := 6) rfl)) (fun _ h9 => h9) rfl dX8_readPart_141 ?_
                refine lv_iload_n hx hb dX8_readPart_144 rfl (lv_at hl 1 rfl) ?_
                refine lv_iload_n hx hb dX8_readPart_145 rfl (lv_at hl 0 rfl) ?_
                refine va_iast hx hb hK hP (va_Dsame hD rfl) hS 1 0 rfl rfl (two_in (vin_s hat hl0 hatl) hl0 (by rw [ho_117]; exact notOwed_lt _) ho_120 (fig_ok (two_at (vin_s hat hl0 hatl) hl0 ho_120) ho_127 c_137)) dX8_readPart_146 (fun H locs hP _ hS => ?_)
                have hP : va_P D vwCl [(a, .inr (8, [.ref a_readWishes, .ref a_readOwed, .int i_readHung, .int i_readMany, .int i_readOwes, .ref a_told, .ref a_owed, .int i_wishes, .int i_hung, .int i_hour, .ref a_text, .int i_length, .int o_127_2, .int o_127_3, .int i_acts, .int i_next, .ref a_row, .ref a_least, .ref a_values, .int i_tells, .ref a_tellPlace, .ref a_tellHour, .ref a_tellDark, .long j_seed, .ref a_isKept, .ref a_kept])), (a_readOwed, .inl (cI, 12, .inl (upd f_readOwed o_120_1.toNatClampNeg o_127_1))), (a_text, .inl (cI, 72, .inl f_text)), (a_readWishes, .inl (cI, 25, .inl f_readWishes))] H := hP
                refine lv_aload_n hx hb dX8_readPart_147 rfl (lv_at hl 2 rfl) ?_
                refine lv_dup hx hb dX8_readPart_148 rfl ?_
                refine va_get (D := D) (ci := 8) (v := .int i_readOwes) (C := RX8) (T := TX8) (N := 26) hx hb hts (fun _ h => List.mem_cons_of_mem _ (List.mem_append_right _ (h))) hown hK hP 0 rfl rfl 4 (by decide) (hts _ (List.mem_of_getElem? (i := 5) rfl)) (fun _ h9 => h9) rfl dX8_readPart_149 ?_
                refine lv_iconst (v := 1) hx hb dX8_readPart_152 rfl ?_
                refine lv_iadd hx hb dX8_readPart_153 ?_
                refine va_put (D := D) (ci := 8) (v := .int (i_readOwes + 1)) (ty := .int) (C := RX8) (T := TX8) (N := 26) hx hb hts (fun _ h => List.mem_cons_of_mem _ (List.mem_append_right _ (h))) tyX8 tyX8_ok nmX8 hown hK hP (va_Dsame hD rfl) hS 0 rfl rfl 4 (by decide) (hts _ (List.mem_of_getElem? (i := 5) rfl)) (fun _ h9 => h9) rfl (tyX8_ok 4 (by decide)) rfl rfl (Nat.le_of_ble_eq_true rfl) dX8_readPart_154 (fun H locs hP _ hS => ?_)
                have hP : va_P D vwCl [(a, .inr (8, [.ref a_readWishes, .ref a_readOwed, .int i_readHung, .int i_readMany, .int (i_readOwes + 1), .ref a_told, .ref a_owed, .int i_wishes, .int i_hung, .int i_hour, .ref a_text, .int i_length, .int o_127_2, .int o_127_3, .int i_acts, .int i_next, .ref a_row, .ref a_least, .ref a_values, .int i_tells, .ref a_tellPlace, .ref a_tellHour, .ref a_tellDark, .long j_seed, .ref a_isKept, .ref a_kept])), (a_readOwed, .inl (cI, 12, .inl (upd f_readOwed o_120_1.toNatClampNeg o_127_1))), (a_text, .inl (cI, 72, .inl f_text)), (a_readWishes, .inl (cI, 25, .inl f_readWishes))] H := hP
                refine lv_goto (tgt := 164) hx hb dX8_readPart_157 (by decide) ?_
                have e9 : v_X8_readPart x1 i_readHung i_readMany i_readOwes i_length i_at i_faultAt f_readOwed f_text f_readWishes = (i_readHung, i_readMany, (i_readOwes + 1), o_127_2, o_127_3, (upd f_readOwed o_120_1.toNatClampNeg o_127_1), f_readWishes) := by
                  refine (if_pos c_3).trans ?_
                  refine (bnd_eq ho_10).trans ?_
                  refine (if_pos c_14).trans ?_
                  refine (if_pos c_73).trans ?_
                  refine (if_pos c_81).trans ?_
                  refine (if_pos c_94).trans ?_
                  refine (if_neg c_102).trans ?_
                  refine (bnd_eq ho_117).trans ?_
                  refine (bnd3_eq ho_120).trans ?_
                  refine (bnd3_eq ho_127).trans ?_
                  refine (if_pos c_137).trans ?_
                  rfl
                rw [hQ]; exact retV (i_readHung, i_readMany, (i_readOwes + 1), o_127_2, o_127_3, (upd f_readOwed o_120_1.toNatClampNeg o_127_1), f_readWishes) hx hb hr hlk e9 hP hS dX8_readPart_164
        · refine lv_aload_n hx hb dX8_readPart_84 rfl (lv_at hl 0 rfl) ?_
          obtain ⟨o_85_1, o_85_2, o_85_3, o_85_4, ho_85⟩ := ex4 (v_X8_readWish i_readMany i_length i_at i_faultAt f_text f_readWishes)
          refine callVV (As := []) (rest := []) (o_85_1, o_85_2, o_85_3, o_85_4) ho_85 hF (k_X8_readWish l D cI cZ a a_readWishes a_readOwed a_told a_owed a_text a_row a_least a_values a_tellPlace a_tellHour a_tellDark a_isKept a_kept i_readHung i_readMany i_readOwes i_wishes i_hung i_hour i_length i_at i_faultAt i_acts i_next i_tells j_seed f_text f_readWishes (hat) (hl0) (hatl) (vin_lt (N := 5) hm6 (vp_in_nI (n := 5) (by decide) (by decide)) c_81)) (cwV 0 hts gX8_readPart_X8_readWish rfl rfl rfl (by decide +kernel) ⟨Nat.le_of_ble_eq_true rfl, Nat.le_of_ble_eq_true rfl⟩) hK hN hP (va_Dsame hD rfl) hS hA [0, 2, 3] rfl rfl 0 8 (T := TX8) (N := 26) rfl rfl rfl hl.1 rfl (Nat.le_of_ble_eq_true rfl) dX8_readPart_85 ⟨Nat.zero_le _, Nat.zero_le _⟩ [some 0, none, some 1, some 2] 3 [(a, .inr (8, [.ref a_readWishes, .ref a_readOwed, .int i_readHung, .int o_85_1, .int i_readOwes, .ref a_told, .ref a_owed, .int i_wishes, .int i_hung, .int i_hour, .ref a_text, .int i_length, .int o_85_2, .int o_85_3, .int i_acts, .int i_next, .ref a_row, .ref a_least, .ref a_values, .int i_tells, .ref a_tellPlace, .ref a_tellHour, .ref a_tellDark, .long j_seed, .ref a_isKept, .ref a_kept])), (a_readOwed, .inl (cI, 12, .inl f_readOwed)), (a_text, .inl (cI, 72, .inl f_text)), (a_readWishes, .inl (cI, 25, .inl o_85_4))] rfl rfl (by decide) (fun H locs hP hS => ?_)
          refine lv_goto (tgt := 164) hx hb dX8_readPart_88 (by decide) ?_
          have e9 : v_X8_readPart x1 i_readHung i_readMany i_readOwes i_length i_at i_faultAt f_readOwed f_text f_readWishes = (i_readHung, o_85_1, i_readOwes, o_85_2, o_85_3, f_readOwed, o_85_4) := by
            refine (if_pos c_3).trans ?_
            refine (bnd_eq ho_10).trans ?_
            refine (if_pos c_14).trans ?_
            refine (if_pos c_73).trans ?_
            refine (if_neg c_81).trans ?_
            refine (bnd4_eq ho_85).trans ?_
            rfl
          rw [hQ]; exact retV (i_readHung, o_85_1, i_readOwes, o_85_2, o_85_3, f_readOwed, o_85_4) hx hb hr hlk e9 hP hS dX8_readPart_164
    · refine lv_aload_n hx hb dX8_readPart_17 rfl (lv_at hl 0 rfl) ?_
      refine lv_dup hx hb dX8_readPart_18 rfl ?_
      refine va_get (D := D) (ci := 8) (v := .int i_at) (C := RX8) (T := TX8) (N := 26) hx hb hts (fun _ h => List.mem_cons_of_mem _ (List.mem_append_right _ (h))) hown hK hP 0 rfl rfl 12 (by decide) (hts _ (List.mem_of_getElem? (i := 2) rfl)) (fun _ h9 => h9) rfl dX8_readPart_19 ?_
      refine lv_iconst (v := 1) hx hb dX8_readPart_22 rfl ?_
      refine lv_iadd hx hb dX8_readPart_23 ?_
      refine va_put (D := D) (ci := 8) (v := .int (i_at + 1)) (ty := .int) (C := RX8) (T := TX8) (N := 26) hx hb hts (fun _ h => List.mem_cons_of_mem _ (List.mem_append_right _ (h))) tyX8 tyX8_ok nmX8 hown hK hP (va_Dsame hD rfl) hS 0 rfl rfl 12 (by decide) (hts _ (List.mem_of_getElem? (i := 2) rfl)) (fun _ h9 => h9) rfl (tyX8_ok 12 (by decide)) rfl rfl (Nat.le_of_ble_eq_true rfl) dX8_readPart_24 (fun H locs hP _ hS => ?_)
      have hP : va_P D vwCl [(a, .inr (8, [.ref a_readWishes, .ref a_readOwed, .int i_readHung, .int i_readMany, .int i_readOwes, .ref a_told, .ref a_owed, .int i_wishes, .int i_hung, .int i_hour, .ref a_text, .int i_length, .int (i_at + 1), .int i_faultAt, .int i_acts, .int i_next, .ref a_row, .ref a_least, .ref a_values, .int i_tells, .ref a_tellPlace, .ref a_tellHour, .ref a_tellDark, .long j_seed, .ref a_isKept, .ref a_kept])), (a_readOwed, .inl (cI, 12, .inl f_readOwed)), (a_text, .inl (cI, 72, .inl f_text)), (a_readWishes, .inl (cI, 25, .inl f_readWishes))] H := hP
      refine lv_aload_n hx hb dX8_readPart_27 rfl (lv_at hl 0 rfl) ?_
      refine lv_sipush (v := 4095) hx hb dX8_readPart_28 rfl ?_
      refine lv_aload_n hx hb dX8_readPart_31 rfl (lv_at hl 0 rfl) ?_
      refine va_get (D := D) (ci := 8) (v := .int i_readHung) (C := RX8) (T := TX8) (N := 26) hx hb hts (fun _ h => List.mem_cons_of_mem _ (List.mem_append_right _ (h))) hown hK hP 0 rfl rfl 2 (by decide) (hts _ (List.mem_of_getElem? (i := 1) rfl)) (fun _ h9 => h9) rfl dX8_readPart_32 ?_
      refine lv_iconst (v := (-1)) hx hb dX8_readPart_35 rfl ?_
      refine lv_ixor hx hb dX8_readPart_36 ?_
      refine lv_iand hx hb dX8_readPart_37 ?_
      obtain ⟨o_38_1, o_38_2, o_38_3, ho_38⟩ := ex3 (v_X8_two (4095 &&& (i_readHung ^^^ (-1))) i_length (i_at + 1) i_faultAt f_text)
      refine callVI (As := [.int (4095 &&& (i_readHung ^^^ (-1)))]) (rest := []) (o_38_1, o_38_2, o_38_3) ho_38 hF (k_X8_two l D cI cZ a a_readWishes a_readOwed a_told a_owed a_text a_row a_least a_values a_tellPlace a_tellHour a_tellDark a_isKept a_kept (4095 &&& (i_readHung ^^^ (-1))) i_readHung i_readMany i_readOwes i_wishes i_hung i_hour i_length (i_at + 1) i_faultAt i_acts i_next i_tells j_seed f_text (vin_s hat hl0 hatl) (hl0)) (cwV 1 hts gX8_readPart_X8_two rfl rfl rfl (by decide +kernel) ⟨Nat.le_of_ble_eq_true rfl, Nat.le_of_ble_eq_true rfl⟩) hK hN hP (va_Dsame hD rfl) hS hA [0, 2] rfl rfl 0 8 (T := TX8) (N := 26) rfl rfl rfl hl.1 rfl (Nat.le_of_ble_eq_true rfl) dX8_readPart_38 ⟨Nat.zero_le _, Nat.zero_le _⟩ o_38_1 rfl [some 0, none, some 1, none] 2 [(a, .inr (8, [.ref a_readWishes, .ref a_readOwed, .int i_readHung, .int i_readMany, .int i_readOwes, .ref a_told, .ref a_owed, .int i_wishes, .int i_hung, .int i_hour, .ref a_text, .int i_length, .int o_38_2, .int o_38_3, .int i_acts, .int i_next, .ref a_row, .ref a_least, .ref a_values, .int i_tells, .ref a_tellPlace, .ref a_tellHour, .ref a_tellDark, .long j_seed, .ref a_isKept, .ref a_kept])), (a_readOwed, .inl (cI, 12, .inl f_readOwed)), (a_text, .inl (cI, 72, .inl f_text)), (a_readWishes, .inl (cI, 25, .inl f_readWishes))] rfl rfl (by decide) (fun H locs hP hS => ?_)
      refine lv_istore_n (lv' := [(2, .int o_38_1), (0, .ref a), (1, .int x1)]) hx hb dX8_readPart_41 rfl hl (by decide) rfl (fun ls hl => ?_)
      refine lv_aload_n hx hb dX8_readPart_42 rfl (lv_at hl 1 rfl) ?_
      refine lv_dup hx hb dX8_readPart_43 rfl ?_
      refine va_get (D := D) (ci := 8) (v := .int i_readHung) (C := RX8) (T := TX8) (N := 26) hx hb hts (fun _ h => List.mem_cons_of_mem _ (List.mem_append_right _ (h))) hown hK hP 0 rfl rfl 2 (by decide) (hts _ (List.mem_of_getElem? (i := 1) rfl)) (fun _ h9 => h9) rfl dX8_readPart_44 ?_
      refine lv_aload_n hx hb dX8_readPart_47 rfl (lv_at hl 1 rfl) ?_
      refine va_get (D := D) (ci := 8) (v := .int o_38_3) (C := RX8) (T := TX8) (N := 26) hx hb hts (fun _ h => List.mem_cons_of_mem _ (List.mem_append_right _ (h))) hown hK hP 0 rfl rfl 13 (by decide) (hts _ (List.mem_of_getElem? (i := 3) rfl)) (fun _ h9 => h9) rfl dX8_readPart_48 ?_
      refine lv_bipush (v := (-9)) hx hb dX8_readPart_51 rfl ?_
      refine lv_icmp_ne (tgt := 62) hx hb dX8_readPart_53 (by decide) (fun c_53 => ?_) (fun c_53 => ?_)
      · refine lv_iconst (v := 0) hx hb dX8_readPart_62 rfl ?_
        refine lv_ior hx hb dX8_readPart_63 ?_
        refine va_put (D := D) (ci := 8) (v := .int (i_readHung ||| 0)) (ty := .int) (C := RX8) (T := TX8) (N := 26) hx hb hts (fun _ h => List.mem_cons_of_mem _ (List.mem_append_right _ (h))) tyX8 tyX8_ok nmX8 hown hK hP (va_Dsame hD rfl) hS 0 rfl rfl 2 (by decide) (hts _ (List.mem_of_getElem? (i := 1) rfl)) (fun _ h9 => h9) rfl (tyX8_ok 2 (by decide)) rfl rfl (Nat.le_of_ble_eq_true rfl) dX8_readPart_64 (fun H locs hP _ hS => ?_)
        have hP : va_P D vwCl [(a, .inr (8, [.ref a_readWishes, .ref a_readOwed, .int (i_readHung ||| 0), .int i_readMany, .int i_readOwes, .ref a_told, .ref a_owed, .int i_wishes, .int i_hung, .int i_hour, .ref a_text, .int i_length, .int o_38_2, .int o_38_3, .int i_acts, .int i_next, .ref a_row, .ref a_least, .ref a_values, .int i_tells, .ref a_tellPlace, .ref a_tellHour, .ref a_tellDark, .long j_seed, .ref a_isKept, .ref a_kept])), (a_readOwed, .inl (cI, 12, .inl f_readOwed)), (a_text, .inl (cI, 72, .inl f_text)), (a_readWishes, .inl (cI, 25, .inl f_readWishes))] H := hP
        refine lv_goto (tgt := 164) hx hb dX8_readPart_67 (by decide) ?_
        have e9 : v_X8_readPart x1 i_readHung i_readMany i_readOwes i_length i_at i_faultAt f_readOwed f_text f_readWishes = ((i_readHung ||| 0), i_readMany, i_readOwes, o_38_2, o_38_3, f_readOwed, f_readWishes) := by
          refine (if_pos c_3).trans ?_
          refine (bnd_eq ho_10).trans ?_
          refine (if_neg c_14).trans ?_
          refine (bnd3_eq ho_38).trans ?_
          refine (if_neg c_53).trans ?_
          rfl
        rw [hQ]; exact retV ((i_readHung ||| 0), i_readMany, i_readOwes, o_38_2, o_38_3, f_readOwed, f_readWishes) hx hb hr hlk e9 hP hS dX8_readPart_164
      · refine lv_iconst (v := 1) hx hb dX8_readPart_56 rfl ?_
        refine lv_iload_n hx hb dX8_readPart_57 rfl (lv_at hl 0 rfl) ?_
        refine lv_ishl hx hb dX8_readPart_58 ?_
        refine lv_goto (tgt := 63) hx hb dX8_readPart_59 (by decide) ?_
        refine lv_ior hx hb dX8_readPart_63 ?_
        refine lv_topi (fun w_64 hw_64 => ?_)
        refine va_put (D := D) (ci := 8) (v := .int w_64) (ty := .int) (C := RX8) (T := TX8) (N := 26) hx hb hts (fun _ h => List.mem_cons_of_mem _ (List.mem_append_right _ (h))) tyX8 tyX8_ok nmX8 hown hK hP (va_Dsame hD rfl) hS 0 rfl rfl 2 (by decide) (hts _ (List.mem_of_getElem? (i := 1) rfl)) (fun _ h9 => h9) rfl (tyX8_ok 2 (by decide)) rfl rfl (Nat.le_of_ble_eq_true rfl) dX8_readPart_64 (fun H locs hP _ hS => ?_)
        have hP : va_P D vwCl [(a, .inr (8, [.ref a_readWishes, .ref a_readOwed, .int w_64, .int i_readMany, .int i_readOwes, .ref a_told, .ref a_owed, .int i_wishes, .int i_hung, .int i_hour, .ref a_text, .int i_length, .int o_38_2, .int o_38_3, .int i_acts, .int i_next, .ref a_row, .ref a_least, .ref a_values, .int i_tells, .ref a_tellPlace, .ref a_tellHour, .ref a_tellDark, .long j_seed, .ref a_isKept, .ref a_kept])), (a_readOwed, .inl (cI, 12, .inl f_readOwed)), (a_text, .inl (cI, 72, .inl f_text)), (a_readWishes, .inl (cI, 25, .inl f_readWishes))] H := hP
        refine lv_goto (tgt := 164) hx hb dX8_readPart_67 (by decide) ?_
        have e9 : v_X8_readPart x1 i_readHung i_readMany i_readOwes i_length i_at i_faultAt f_readOwed f_text f_readWishes = (w_64, i_readMany, i_readOwes, o_38_2, o_38_3, f_readOwed, f_readWishes) := by
          refine (if_pos c_3).trans ?_
          refine (bnd_eq ho_10).trans ?_
          refine (if_neg c_14).trans ?_
          refine (bnd3_eq ho_38).trans ?_
          refine (if_pos c_53).trans ?_
          refine (bnd_eq hw_64).trans ?_
          rfl
        rw [hQ]; exact retV (w_64, i_readMany, i_readOwes, o_38_2, o_38_3, f_readOwed, f_readWishes) hx hb hr hlk e9 hP hS dX8_readPart_164
theorem rw_step {many l a fa m2 b fb : Int32} {ft fw fw2 : Nat → Int32} (h : vp_in a 73) (hl : vp_in l 73) (hal : ¬ l ≤ a) (hm : vp_in many 5) (ho : (m2, b, fb, fw2) = v_X8_readWish many l a fa ft fw) : vp_in b 73 ∧ vp_in m2 6 ∧ a.toNatClampNeg + 1 ≤ b.toNatClampNeg := by
  have h1 := vin_s h hl hal
  unfold v_X8_readWish at ho
  obtain ⟨r1, b1, f1, e1⟩ := ex3 (v_X8_two 4095 l (a + 1) fa ft)
  rw [bnd3_eq e1] at ho
  obtain ⟨r2, b2, f2, e2⟩ := ex3 (v_X8_figure 63 l b1 f1 ft)
  rw [bnd3_eq e2] at ho
  obtain ⟨r3, b3, f3, e3⟩ := ex3 (v_X8_figure 126 l b2 f2 ft)
  rw [bnd3_eq e3] at ho
  obtain ⟨r4, b4, f4, e4⟩ := ex3 (v_X8_figure 1022 l b3 f3 ft)
  rw [bnd3_eq e4] at ho
  have q1 := two_at h1 hl e1
  have q2 := fig_at q1 hl e2
  have q3 := fig_at q2 hl e3
  have q4 := fig_at q3 hl e4
  have n1 := two_mono h1 hl e1
  have n2 := fig_mono q1 e2
  have n3 := fig_mono q2 e3
  have n4 := fig_mono q3 e4
  rw [vin_cs h] at n1
  obtain ⟨j, hj, rfl⟩ := vin_j hm (by decide)
  have key1 : ∀ x y, (m2, b, fb, fw2) = (nI j, b4, x, y) → vp_in b 73 ∧ vp_in m2 6 ∧ a.toNatClampNeg + 1 ≤ b.toNatClampNeg := by
    intro x y e
    cases e
    exact ⟨q4, vp_in_nI (by omega) (by decide), by omega⟩
  have key2 : ¬ l ≤ b4 → ∀ x y, (m2, b, fb, fw2) = (nI j + 1, b4 + 1, x, y) → vp_in b 73 ∧ vp_in m2 6 ∧ a.toNatClampNeg + 1 ≤ b.toNatClampNeg := by
    intro hb x y e
    cases e
    refine ⟨vin_s q4 hl hb, by rw [nI_1]; exact vp_in_nI (by omega) (by decide), ?_⟩
    rw [vin_cs q4]; omega
  split at ho
  · split at ho
    · exact key1 _ _ ho
    · rename_i hlb
      split at ho
      · exact key2 hlb _ _ ho
      · split at ho
        · exact key2 hlb _ _ ho
        · exact key1 _ _ ho
  · exact key1 _ _ ho
set_option maxHeartbeats 4000000 in
theorem rp_step {c hung many owes l a fa hung2 many2 owes2 b fb : Int32} {fo ft fw fo2 fw2 : Nat → Int32} (h : vp_in a 73) (hl : vp_in l 73) (hal : ¬ l ≤ a) (hm : vp_in many 6) (ho : (hung2, many2, owes2, b, fb, fo2, fw2) = v_X8_readPart c hung many owes l a fa fo ft fw) : vp_in b 73 ∧ vp_in many2 6 ∧ a.toNatClampNeg ≤ b.toNatClampNeg ∧ (fb = -9 → a.toNatClampNeg + 1 ≤ b.toNatClampNeg) := by
  have h1 := vin_s h hl hal
  have keyF : ∀ x1 x2 x3 x4, (hung2, many2, owes2, b, fb, fo2, fw2) = (x1, many, x2, a, v_X8_fail a fa, x3, x4) → vp_in b 73 ∧ vp_in many2 6 ∧ a.toNatClampNeg ≤ b.toNatClampNeg ∧ (fb = -9 → a.toNatClampNeg + 1 ≤ b.toNatClampNeg) := by
    intro x1 x2 x3 x4 e
    cases e
    exact ⟨h, hm, Nat.le_refl _, fun q => absurd q (fail_no h)⟩
  have keyG : ∀ b1 m1, vp_in m1 6 → vp_in b1 73 → a.toNatClampNeg + 1 ≤ b1.toNatClampNeg → ∀ x1 x2 x3 x4 x5, (hung2, many2, owes2, b, fb, fo2, fw2) = (x1, m1, x2, b1, x3, x4, x5) → vp_in b 73 ∧ vp_in many2 6 ∧ a.toNatClampNeg ≤ b.toNatClampNeg ∧ (fb = -9 → a.toNatClampNeg + 1 ≤ b.toNatClampNeg) := by
    intro b1 m1 g1 g2 g3 x1 x2 x3 x4 x5 e
    cases e
    exact ⟨g2, g1, by omega, fun _ => g3⟩
  have keyH : (hung2, many2, owes2, b, fb, fo2, fw2) = (bnd3 (v_X8_two (4095 &&& (hung ^^^ (-1))) l (a + 1) fa ft) fun o_38_1 o_38_2 o_38_3 => (if o_38_3 = (-9) then ((hung ||| ((1 : Int32) <<< (o_38_1 &&& 31))), many, owes, o_38_2, o_38_3, fo, fw) else ((hung ||| 0), many, owes, o_38_2, o_38_3, fo, fw))) → vp_in b 73 ∧ vp_in many2 6 ∧ a.toNatClampNeg ≤ b.toNatClampNeg ∧ (fb = -9 → a.toNatClampNeg + 1 ≤ b.toNatClampNeg) := by
    intro e
    obtain ⟨r1, b1, f1, e1⟩ := ex3 (v_X8_two (4095 &&& (hung ^^^ (-1))) l (a + 1) fa ft)
    rw [bnd3_eq e1] at e
    have n1 := two_mono h1 hl e1
    rw [vin_cs h] at n1
    split at e <;> exact keyG _ _ hm (two_at h1 hl e1) n1 _ _ _ _ _ e
  have keyO : (hung2, many2, owes2, b, fb, fo2, fw2) = (bnd (v_X8_notOwed fo) fun o_117 => (bnd3 (v_X8_two o_117 l (a + 1) fa ft) fun o_120_1 o_120_2 o_120_3 => (bnd3 (v_X8_figure 126 l o_120_2 o_120_3 ft) fun o_127_1 o_127_2 o_127_3 => (if o_127_3 = (-9) then (hung, many, (owes + 1), o_127_2, o_127_3, (upd fo o_120_1.toNatClampNeg o_127_1), fw) else (hung, many, owes, o_127_2, o_127_3, fo, fw))))) → vp_in b 73 ∧ vp_in many2 6 ∧ a.toNatClampNeg ≤ b.toNatClampNeg ∧ (fb = -9 → a.toNatClampNeg + 1 ≤ b.toNatClampNeg) := by
    intro e
    rw [bnd_eq (rfl : v_X8_notOwed fo = v_X8_notOwed fo)] at e
    obtain ⟨r1, b1, f1, e1⟩ := ex3 (v_X8_two (v_X8_notOwed fo) l (a + 1) fa ft)
    rw [bnd3_eq e1] at e
    obtain ⟨r2, b2, f2, e2⟩ := ex3 (v_X8_figure 126 l b1 f1 ft)
    rw [bnd3_eq e2] at e
    have n1 := two_mono h1 hl e1
    rw [vin_cs h] at n1
    have n2 := fig_mono (two_at h1 hl e1) e2
    split at e <;> exact keyG _ _ hm (fig_at (two_at h1 hl e1) hl e2) (by omega) _ _ _ _ _ e
  have keyW : ¬ 5 ≤ many → (hung2, many2, owes2, b, fb, fo2, fw2) = (bnd4 (v_X8_readWish many l a fa ft fw) fun o_85_1 o_85_2 o_85_3 o_85_4 => (hung, o_85_1, owes, o_85_2, o_85_3, fo, o_85_4)) → vp_in b 73 ∧ vp_in many2 6 ∧ a.toNatClampNeg ≤ b.toNatClampNeg ∧ (fb = -9 → a.toNatClampNeg + 1 ≤ b.toNatClampNeg) := by
    intro h5 e
    obtain ⟨m1, b1, f1, w1, e1⟩ := ex4 (v_X8_readWish many l a fa ft fw)
    rw [bnd4_eq e1] at e
    obtain ⟨g1, g2, g3⟩ := rw_step h hl hal (vin_lt (N := 5) hm (vp_in_nI (n := 5) (by decide) (by decide)) h5) e1
    exact keyG _ _ g2 g1 g3 _ _ _ _ _ e
  unfold v_X8_readPart at ho
  split at ho
  · rw [bnd_eq (rfl : v_X8_ones hung = v_X8_ones hung)] at ho
    split at ho
    · split at ho
      · split at ho
        · split at ho
          · split at ho
            · exact keyF _ _ _ _ ho
            · exact keyO ho
          · exact keyF _ _ _ _ ho
        · rename_i h5; exact keyW h5 ho
      · split at ho
        · split at ho
          · exact keyF _ _ _ _ ho
          · exact keyO ho
        · exact keyF _ _ _ _ ho
    · exact keyH ho
  · split at ho
    · split at ho
      · split at ho
        · split at ho
          · exact keyF _ _ _ _ ho
          · exact keyO ho
        · exact keyF _ _ _ _ ho
      · rename_i h5; exact keyW h5 ho
    · split at ho
      · split at ho
        · exact keyF _ _ _ _ ho
        · exact keyO ho
      · exact keyF _ _ _ _ ho
theorem rp_inv {i : Nat} {c hung many owes l a fa hung2 many2 owes2 b fb : Int32} {fo ft fw fo2 fw2 : Nat → Int32} (h : vp_in a 73) (hl : vp_in l 73) (hal : ¬ l ≤ a) (hm : vp_in many 6) (hi : i ≤ a.toNatClampNeg) (ho : (hung2, many2, owes2, b, fb, fo2, fw2) = v_X8_readPart c hung many owes l a fa fo ft fw) : vp_in b 73 ∧ vp_in many2 6 ∧ i + 1 ≤ b.toNatClampNeg + 1 ∧ (fb = -9 → i + 1 ≤ b.toNatClampNeg) := by
  obtain ⟨h1, h2, h3, h4⟩ := rp_step h hl hal hm ho
  exact ⟨h1, h2, by omega, fun q => by have := h4 q; omega⟩
def v_X8_readText_L72c (i_length : Int32) (f_text : Nat → Int32) (i72 : Nat) (z72_1 : Int32) (z72_2 : Int32) (z72_3 : Int32) (z72_4 : Int32) (z72_5 : Int32) (z72_6 : Nat → Int32) (z72_7 : Nat → Int32) : Sum (Int32 × Int32 × Int32 × Int32 × Int32 × (Nat → Int32) × (Nat → Int32)) (Int32 × Int32 × Int32 × Int32 × Int32 × (Nat → Int32) × (Nat → Int32)) :=
  if z72_5 = (-9) then (if i_length ≤ z72_4 then .inr (z72_1, z72_2, z72_3, z72_4, z72_5, z72_6, z72_7)
    else (bnd7 (v_X8_readPart (f_text z72_4.toNatClampNeg) z72_1 z72_2 z72_3 i_length z72_4 z72_5 z72_6 f_text z72_7) fun o_102_1 o_102_2 o_102_3 o_102_4 o_102_5 o_102_6 o_102_7 =>
    .inl (o_102_1, o_102_2, o_102_3, o_102_4, o_102_5, o_102_6, o_102_7)))
  else .inr (z72_1, z72_2, z72_3, z72_4, z72_5, z72_6, z72_7)
def v_X8_readText_L72 (i_length : Int32) (f_text : Nat → Int32) (i72 : Nat) (z72 : Int32 × Int32 × Int32 × Int32 × Int32 × (Nat → Int32) × (Nat → Int32)) : Sum (Int32 × Int32 × Int32 × Int32 × Int32 × (Nat → Int32) × (Nat → Int32)) (Int32 × Int32 × Int32 × Int32 × Int32 × (Nat → Int32) × (Nat → Int32)) := v_X8_readText_L72c i_length f_text i72 z72.1 z72.2.1 z72.2.2.1 z72.2.2.2.1 z72.2.2.2.2.1 z72.2.2.2.2.2.1 z72.2.2.2.2.2.2
def v_X8_readText_L28 (i28 : Nat) (z28 : Nat → Int32) : Nat → Int32 :=
  (upd z28 (nI i28).toNatClampNeg 0)
def v_X8_readText (i_length : Int32) (f_text : Nat → Int32) (f_readOwed : Nat → Int32) (f_readWishes : Nat → Int32) : Int32 × Int32 × Int32 × Int32 × Int32 × Int32 × (Nat → Int32) × (Nat → Int32) :=
  bnd (it (v_X8_readText_L28) 12 0 f_readOwed) fun o_L28 =>
  (if i_length = 0 then (0, 0, (-9), 0, 0, 0, o_L28, f_readWishes)
  else (if (f_text (0 : Int32).toNatClampNeg) = 78 then (bnd (itx (v_X8_readText_L72 i_length f_text) 74 0 (0, 0, 0, 1, (-9), o_L28, f_readWishes)) fun o_L72 =>
    (bnd7 (unS o_L72) fun s72_1 s72_2 s72_3 s72_4 s72_5 s72_6 s72_7 =>
    (s72_5, s72_4, s72_5, s72_1, s72_2, s72_3, s72_6, s72_7)))
  else (0, 0, (-9), 0, 0, 0, o_L28, f_readWishes)))
abbrev rm_X8_readText : Room := { frames := 5, cells := 0, slots := 0, locals := 114 }
set_option maxHeartbeats 4000000 in
set_option maxRecDepth 100000 in
theorem k_X8_readText (l : Launch) (D : va_G) (cI cZ : ClassId) (a a_readWishes a_readOwed a_told a_owed a_text a_row a_least a_values a_tellPlace a_tellHour a_tellDark a_isKept a_kept : Nat) (i_readHung : Int32) (i_readMany : Int32) (i_readOwes : Int32) (i_wishes : Int32) (i_hung : Int32) (i_hour : Int32) (i_length : Int32) (i_at : Int32) (i_faultAt : Int32) (i_acts : Int32) (i_next : Int32) (i_tells : Int32) (j_seed : Int64) (f_text : Nat → Int32) (f_readOwed : Nat → Int32) (f_readWishes : Nat → Int32) (hl0 : vp_in i_length 73) : KI l D cI cZ yX8_readText wsX8_readText rm_X8_readText [.ref a] [(a, .inr (8, [.ref a_readWishes, .ref a_readOwed, .int i_readHung, .int i_readMany, .int i_readOwes, .ref a_told, .ref a_owed, .int i_wishes, .int i_hung, .int i_hour, .ref a_text, .int i_length, .int i_at, .int i_faultAt, .int i_acts, .int i_next, .ref a_row, .ref a_least, .ref a_values, .int i_tells, .ref a_tellPlace, .ref a_tellHour, .ref a_tellDark, .long j_seed, .ref a_isKept, .ref a_kept])), (a_text, .inl (cI, 72, .inl f_text)), (a_readOwed, .inl (cI, 12, .inl f_readOwed)), (a_readWishes, .inl (cI, 25, .inl f_readWishes))] (v_X8_readText i_length f_text f_readOwed f_readWishes) (fun o : Int32 × Int32 × Int32 × Int32 × Int32 × Int32 × (Nat → Int32) × (Nat → Int32) => o.1) (fun o : Int32 × Int32 × Int32 × Int32 × Int32 × Int32 × (Nat → Int32) × (Nat → Int32) => [(a, .inr (8, [.ref a_readWishes, .ref a_readOwed, .int o.2.2.2.1, .int o.2.2.2.2.1, .int o.2.2.2.2.2.1, .ref a_told, .ref a_owed, .int i_wishes, .int i_hung, .int i_hour, .ref a_text, .int i_length, .int o.2.1, .int o.2.2.1, .int i_acts, .int i_next, .ref a_row, .ref a_least, .ref a_values, .int i_tells, .ref a_tellPlace, .ref a_tellHour, .ref a_tellDark, .long j_seed, .ref a_isKept, .ref a_kept])), (a_text, .inl (cI, 72, .inl f_text)), (a_readOwed, .inl (cI, 12, .inl o.2.2.2.2.2.2.1)), (a_readWishes, .inl (cI, 25, .inl o.2.2.2.2.2.2.2))]) := by
  refine KI.of cX8_readText 2 (some .int) (by decide) rfl (Nat.le_of_ble_eq_true rfl) ?_
  intro p e s m below meth c A ls ar Q hQ B
  obtain ⟨hx, hb, hr, hml, hts, hown, hlk, hK, hN, hP, hD, hA, hS, hl⟩ := B
  have hown : s.vm.findClass RX8 = some m.cls := hown
  have hF : CallFix p m c cX8_readText 2 s ar wsX8_readText RX8 := ⟨hx, hb, hml, hown, hts⟩
  have hl : lv_has ls 2 [(0, .ref a)] := hl
  refine lv_aload_n hx hb dX8_readText_0 rfl (lv_at hl 0 rfl) ?_
  refine lv_iconst (v := 0) hx hb dX8_readText_1 rfl ?_
  refine va_put (D := D) (ci := 8) (v := .int 0) (ty := .int) (C := RX8) (T := TX8) (N := 26) hx hb hts (fun _ h => List.mem_cons_of_mem _ (List.mem_append_right _ (h))) tyX8 tyX8_ok nmX8 hown hK hP (va_Dsame hD rfl) hS 0 rfl rfl 12 (by decide) (hts _ (List.mem_of_getElem? (i := 1) rfl)) (fun _ h9 => h9) rfl (tyX8_ok 12 (by decide)) rfl rfl (Nat.le_of_ble_eq_true rfl) dX8_readText_2 (fun H locs hP _ hS => ?_)
  have hP : va_P D vwCl [(a, .inr (8, [.ref a_readWishes, .ref a_readOwed, .int i_readHung, .int i_readMany, .int i_readOwes, .ref a_told, .ref a_owed, .int i_wishes, .int i_hung, .int i_hour, .ref a_text, .int i_length, .int 0, .int i_faultAt, .int i_acts, .int i_next, .ref a_row, .ref a_least, .ref a_values, .int i_tells, .ref a_tellPlace, .ref a_tellHour, .ref a_tellDark, .long j_seed, .ref a_isKept, .ref a_kept])), (a_text, .inl (cI, 72, .inl f_text)), (a_readOwed, .inl (cI, 12, .inl f_readOwed)), (a_readWishes, .inl (cI, 25, .inl f_readWishes))] H := hP
  refine lv_aload_n hx hb dX8_readText_5 rfl (lv_at hl 0 rfl) ?_
  refine lv_bipush (v := (-9)) hx hb dX8_readText_6 rfl ?_
  refine va_put (D := D) (ci := 8) (v := .int (-9)) (ty := .int) (C := RX8) (T := TX8) (N := 26) hx hb hts (fun _ h => List.mem_cons_of_mem _ (List.mem_append_right _ (h))) tyX8 tyX8_ok nmX8 hown hK hP (va_Dsame hD rfl) hS 0 rfl rfl 13 (by decide) (hts _ (List.mem_of_getElem? (i := 2) rfl)) (fun _ h9 => h9) rfl (tyX8_ok 13 (by decide)) rfl rfl (Nat.le_of_ble_eq_true rfl) dX8_readText_8 (fun H locs hP _ hS => ?_)
  have hP : va_P D vwCl [(a, .inr (8, [.ref a_readWishes, .ref a_readOwed, .int i_readHung, .int i_readMany, .int i_readOwes, .ref a_told, .ref a_owed, .int i_wishes, .int i_hung, .int i_hour, .ref a_text, .int i_length, .int 0, .int (-9), .int i_acts, .int i_next, .ref a_row, .ref a_least, .ref a_values, .int i_tells, .ref a_tellPlace, .ref a_tellHour, .ref a_tellDark, .long j_seed, .ref a_isKept, .ref a_kept])), (a_text, .inl (cI, 72, .inl f_text)), (a_readOwed, .inl (cI, 12, .inl f_readOwed)), (a_readWishes, .inl (cI, 25, .inl f_readWishes))] H := hP
  refine lv_aload_n hx hb dX8_readText_11 rfl (lv_at hl 0 rfl) ?_
  refine lv_iconst (v := 0) hx hb dX8_readText_12 rfl ?_
  refine va_put (D := D) (ci := 8) (v := .int 0) (ty := .int) (C := RX8) (T := TX8) (N := 26) hx hb hts (fun _ h => List.mem_cons_of_mem _ (List.mem_append_right _ (h))) tyX8 tyX8_ok nmX8 hown hK hP (va_Dsame hD rfl) hS 0 rfl rfl 2 (by decide) (hts _ (List.mem_of_getElem? (i := 3) rfl)) (fun _ h9 => h9) rfl (tyX8_ok 2 (by decide)) rfl rfl (Nat.le_of_ble_eq_true rfl) dX8_readText_13 (fun H locs hP _ hS => ?_)
  have hP : va_P D vwCl [(a, .inr (8, [.ref a_readWishes, .ref a_readOwed, .int 0, .int i_readMany, .int i_readOwes, .ref a_told, .ref a_owed, .int i_wishes, .int i_hung, .int i_hour, .ref a_text, .int i_length, .int 0, .int (-9), .int i_acts, .int i_next, .ref a_row, .ref a_least, .ref a_values, .int i_tells, .ref a_tellPlace, .ref a_tellHour, .ref a_tellDark, .long j_seed, .ref a_isKept, .ref a_kept])), (a_text, .inl (cI, 72, .inl f_text)), (a_readOwed, .inl (cI, 12, .inl f_readOwed)), (a_readWishes, .inl (cI, 25, .inl f_readWishes))] H := hP
  refine lv_aload_n hx hb dX8_readText_16 rfl (lv_at hl 0 rfl) ?_
  refine lv_iconst (v := 0) hx hb dX8_readText_17 rfl ?_
  refine va_put (D := D) (ci := 8) (v := .int 0) (ty := .int) (C := RX8) (T := TX8) (N := 26) hx hb hts (fun _ h => List.mem_cons_of_mem _ (List.mem_append_right _ (h))) tyX8 tyX8_ok nmX8 hown hK hP (va_Dsame hD rfl) hS 0 rfl rfl 3 (by decide) (hts _ (List.mem_of_getElem? (i := 4) rfl)) (fun _ h9 => h9) rfl (tyX8_ok 3 (by decide)) rfl rfl (Nat.le_of_ble_eq_true rfl) dX8_readText_18 (fun H locs hP _ hS => ?_)
  have hP : va_P D vwCl [(a, .inr (8, [.ref a_readWishes, .ref a_readOwed, .int 0, .int 0, .int i_readOwes, .ref a_told, .ref a_owed, .int i_wishes, .int i_hung, .int i_hour, .ref a_text, .int i_length, .int 0, .int (-9), .int i_acts, .int i_next, .ref a_row, .ref a_least, .ref a_values, .int i_tells, .ref a_tellPlace, .ref a_tellHour, .ref a_tellDark, .long j_seed, .ref a_isKept, .ref a_kept])), (a_text, .inl (cI, 72, .inl f_text)), (a_readOwed, .inl (cI, 12, .inl f_readOwed)), (a_readWishes, .inl (cI, 25, .inl f_readWishes))] H := hP
  refine lv_aload_n hx hb dX8_readText_21 rfl (lv_at hl 0 rfl) ?_
  refine lv_iconst (v := 0) hx hb dX8_readText_22 rfl ?_
  refine va_put (D := D) (ci := 8) (v := .int 0) (ty := .int) (C := RX8) (T := TX8) (N := 26) hx hb hts (fun _ h => List.mem_cons_of_mem _ (List.mem_append_right _ (h))) tyX8 tyX8_ok nmX8 hown hK hP (va_Dsame hD rfl) hS 0 rfl rfl 4 (by decide) (hts _ (List.mem_of_getElem? (i := 5) rfl)) (fun _ h9 => h9) rfl (tyX8_ok 4 (by decide)) rfl rfl (Nat.le_of_ble_eq_true rfl) dX8_readText_23 (fun H locs hP _ hS => ?_)
  have hP : va_P D vwCl [(a, .inr (8, [.ref a_readWishes, .ref a_readOwed, .int 0, .int 0, .int 0, .ref a_told, .ref a_owed, .int i_wishes, .int i_hung, .int i_hour, .ref a_text, .int i_length, .int 0, .int (-9), .int i_acts, .int i_next, .ref a_row, .ref a_least, .ref a_values, .int i_tells, .ref a_tellPlace, .ref a_tellHour, .ref a_tellDark, .long j_seed, .ref a_isKept, .ref a_kept])), (a_text, .inl (cI, 72, .inl f_text)), (a_readOwed, .inl (cI, 12, .inl f_readOwed)), (a_readWishes, .inl (cI, 25, .inl f_readWishes))] H := hP
  refine lv_iconst (v := 0) hx hb dX8_readText_26 rfl ?_
  refine lv_istore_n (lv' := [(1, .int 0), (0, .ref a)]) hx hb dX8_readText_27 rfl hl (by decide) rfl (fun ls hl => ?_)
  obtain ⟨o_L28, ho_L28⟩ : ∃ z : Nat → Int32, z = it (v_X8_readText_L28) 12 0 f_readOwed := ⟨_, rfl⟩
  have kE28 : ∀ (H : Heap) (locs : List Loc) (ls : Array Slot), va_P D vwCl [(a, .inr (8, [.ref a_readWishes, .ref a_readOwed, .int 0, .int 0, .int 0, .ref a_told, .ref a_owed, .int i_wishes, .int i_hung, .int i_hour, .ref a_text, .int i_length, .int 0, .int (-9), .int i_acts, .int i_next, .ref a_row, .ref a_least, .ref a_values, .int i_tells, .ref a_tellPlace, .ref a_tellHour, .ref a_tellDark, .long j_seed, .ref a_isKept, .ref a_kept])), (a_text, .inl (cI, 72, .inl f_text)), (a_readOwed, .inl (cI, 12, .inl o_L28)), (a_readWishes, .inl (cI, 25, .inl f_readWishes))] H → va_S A s.heap H locs → lv_has ls 2 [(0, .ref a)] → W p l e rm_X8_readText s m ar below meth c H locs 0 0 Q (F0 m 47 ls []) := by
    intro H locs ls hP hS hl
    refine lv_aload_n hx hb dX8_readText_47 rfl (lv_at hl 0 rfl) ?_
    refine va_get (D := D) (ci := 8) (v := .int i_length) (C := RX8) (T := TX8) (N := 26) hx hb hts (fun _ h => List.mem_cons_of_mem _ (List.mem_append_right _ (h))) hown hK hP 0 rfl rfl 11 (by decide) (hts _ (List.mem_of_getElem? (i := 7) rfl)) (fun _ h9 => h9) rfl dX8_readText_48 ?_
    refine lv_if_eq (tgt := 65) hx hb dX8_readText_51 (by decide) (fun c_51 => ?_) (fun c_51 => ?_)
    · refine lv_iconst (v := 0) hx hb dX8_readText_65 rfl ?_
      have e9 : v_X8_readText i_length f_text f_readOwed f_readWishes = (0, 0, (-9), 0, 0, 0, o_L28, f_readWishes) := by
        refine (bnd_eq ho_L28).trans ?_
        refine (if_pos c_51).trans ?_
        rfl
      rw [hQ]; exact retI (0, 0, (-9), 0, 0, 0, o_L28, f_readWishes) hx hb hr hlk e9 hP rfl hS dX8_readText_66
    · refine lv_aload_n hx hb dX8_readText_54 rfl (lv_at hl 0 rfl) ?_
      refine va_get (D := D) (ci := 8) (v := .ref a_text) (C := RX8) (T := TX8) (N := 26) hx hb hts (fun _ h => List.mem_cons_of_mem _ (List.mem_append_right _ (h))) hown hK hP 0 rfl rfl 10 (by decide) (hts _ (List.mem_of_getElem? (i := 8) rfl)) (fun _ h9 => h9) rfl dX8_readText_55 ?_
      refine lv_iconst (v := 0) hx hb dX8_readText_58 rfl ?_
      refine va_iald hx hb hK hP 1 0 rfl rfl (vp_in_nI (n := 0) (by decide) (by decide)) dX8_readText_59 ?_
      refine lv_bipush (v := 78) hx hb dX8_readText_60 rfl ?_
      refine lv_icmp_eq (tgt := 67) hx hb dX8_readText_62 (by decide) (fun c_62 => ?_) (fun c_62 => ?_)
      · refine lv_aload_n hx hb dX8_readText_67 rfl (lv_at hl 0 rfl) ?_
        refine lv_iconst (v := 1) hx hb dX8_readText_68 rfl ?_
        refine va_put (D := D) (ci := 8) (v := .int 1) (ty := .int) (C := RX8) (T := TX8) (N := 26) hx hb hts (fun _ h => List.mem_cons_of_mem _ (List.mem_append_right _ (h))) tyX8 tyX8_ok nmX8 hown hK hP (va_Dsame hD rfl) hS 0 rfl rfl 12 (by decide) (hts _ (List.mem_of_getElem? (i := 1) rfl)) (fun _ h9 => h9) rfl (tyX8_ok 12 (by decide)) rfl rfl (Nat.le_of_ble_eq_true rfl) dX8_readText_69 (fun H locs hP _ hS => ?_)
        have hP : va_P D vwCl [(a, .inr (8, [.ref a_readWishes, .ref a_readOwed, .int 0, .int 0, .int 0, .ref a_told, .ref a_owed, .int i_wishes, .int i_hung, .int i_hour, .ref a_text, .int i_length, .int 1, .int (-9), .int i_acts, .int i_next, .ref a_row, .ref a_least, .ref a_values, .int i_tells, .ref a_tellPlace, .ref a_tellHour, .ref a_tellDark, .long j_seed, .ref a_isKept, .ref a_kept])), (a_text, .inl (cI, 72, .inl f_text)), (a_readOwed, .inl (cI, 12, .inl o_L28)), (a_readWishes, .inl (cI, 25, .inl f_readWishes))] H := hP
        obtain ⟨o_L72, ho_L72⟩ : ∃ z : Sum (Int32 × Int32 × Int32 × Int32 × Int32 × (Nat → Int32) × (Nat → Int32)) (Int32 × Int32 × Int32 × Int32 × Int32 × (Nat → Int32) × (Nat → Int32)), z = itx (v_X8_readText_L72 i_length f_text) 74 0 (0, 0, 0, 1, (-9), o_L28, f_readWishes) := ⟨_, rfl⟩
        have kE72 : ∀ s72 : Int32 × Int32 × Int32 × Int32 × Int32 × (Nat → Int32) × (Nat → Int32), unS o_L72 = s72 → ∀ (H : Heap) (locs : List Loc) (ls : Array Slot), va_P D vwCl [(a, .inr (8, [.ref a_readWishes, .ref a_readOwed, .int s72.1, .int s72.2.1, .int s72.2.2.1, .ref a_told, .ref a_owed, .int i_wishes, .int i_hung, .int i_hour, .ref a_text, .int i_length, .int s72.2.2.2.1, .int s72.2.2.2.2.1, .int i_acts, .int i_next, .ref a_row, .ref a_least, .ref a_values, .int i_tells, .ref a_tellPlace, .ref a_tellHour, .ref a_tellDark, .long j_seed, .ref a_isKept, .ref a_kept])), (a_text, .inl (cI, 72, .inl f_text)), (a_readOwed, .inl (cI, 12, .inl s72.2.2.2.2.2.1)), (a_readWishes, .inl (cI, 25, .inl s72.2.2.2.2.2.2))] H → va_S A s.heap H locs → lv_has ls 2 [(0, .ref a)] → W p l e rm_X8_readText s m ar below meth c H locs 0 0 Q (F0 m 108 ls []) := by
          intro s72 hs72 H locs ls hP hS hl
          obtain ⟨s72_1, s72_2, s72_3, s72_4, s72_5, s72_6, s72_7⟩ := s72
          have hP : va_P D vwCl [(a, .inr (8, [.ref a_readWishes, .ref a_readOwed, .int s72_1, .int s72_2, .int s72_3, .ref a_told, .ref a_owed, .int i_wishes, .int i_hung, .int i_hour, .ref a_text, .int i_length, .int s72_4, .int s72_5, .int i_acts, .int i_next, .ref a_row, .ref a_least, .ref a_values, .int i_tells, .ref a_tellPlace, .ref a_tellHour, .ref a_tellDark, .long j_seed, .ref a_isKept, .ref a_kept])), (a_text, .inl (cI, 72, .inl f_text)), (a_readOwed, .inl (cI, 12, .inl s72_6)), (a_readWishes, .inl (cI, 25, .inl s72_7))] H := hP
          have hl : lv_has ls 2 [(0, .ref a)] := hl
          refine lv_aload_n hx hb dX8_readText_108 rfl (lv_at hl 0 rfl) ?_
          refine va_get (D := D) (ci := 8) (v := .int s72_5) (C := RX8) (T := TX8) (N := 26) hx hb hts (fun _ h => List.mem_cons_of_mem _ (List.mem_append_right _ (h))) hown hK hP 0 rfl rfl 13 (by decide) (hts _ (List.mem_of_getElem? (i := 2) rfl)) (fun _ h9 => h9) rfl dX8_readText_109 ?_
          have e9 : v_X8_readText i_length f_text f_readOwed f_readWishes = (s72_5, s72_4, s72_5, s72_1, s72_2, s72_3, s72_6, s72_7) := by
            refine (bnd_eq ho_L28).trans ?_
            refine (if_neg c_51).trans ?_
            refine (if_pos c_62).trans ?_
            refine (bnd_eq ho_L72).trans ?_
            refine (bnd7_eq hs72.symm).trans ?_
            rfl
          rw [hQ]; exact retI (s72_5, s72_4, s72_5, s72_1, s72_2, s72_3, s72_6, s72_7) hx hb hr hlk e9 hP rfl hS dX8_readText_112
        have loop72 : ∀ (k i72 : Nat) (z72 : Int32 × Int32 × Int32 × Int32 × Int32 × (Nat → Int32) × (Nat → Int32)), 0 ≤ i72 → i72 + k = 0 + 74 → itx (v_X8_readText_L72 i_length f_text) k i72 z72 = o_L72 → vp_in z72.2.2.2.1 73 ∧ vp_in z72.2.1 6 ∧ i72 ≤ z72.2.2.2.1.toNatClampNeg + 1 ∧ (z72.2.2.2.2.1 = (-9) → i72 ≤ z72.2.2.2.1.toNatClampNeg) → ∀ (H : Heap) (locs : List Loc) (ls : Array Slot), va_P D vwCl [(a, .inr (8, [.ref a_readWishes, .ref a_readOwed, .int z72.1, .int z72.2.1, .int z72.2.2.1, .ref a_told, .ref a_owed, .int i_wishes, .int i_hung, .int i_hour, .ref a_text, .int i_length, .int z72.2.2.2.1, .int z72.2.2.2.2.1, .int i_acts, .int i_next, .ref a_row, .ref a_least, .ref a_values, .int i_tells, .ref a_tellPlace, .ref a_tellHour, .ref a_tellDark, .long j_seed, .ref a_isKept, .ref a_kept])), (a_text, .inl (cI, 72, .inl f_text)), (a_readOwed, .inl (cI, 12, .inl z72.2.2.2.2.2.1)), (a_readWishes, .inl (cI, 25, .inl z72.2.2.2.2.2.2))] H → va_S A s.heap H locs → lv_has ls 2 [(0, .ref a)] → W p l e rm_X8_readText s m ar below meth c H locs 0 0 Q (F0 m 72 ls []) := by
          intro k
          induction k with
          | zero =>
            intro i72 z72 hi0 hik hz hinv H locs ls hP hS hl
            have hz : .inl z72 = o_L72 := itx_0 hz
            obtain ⟨z72_1, z72_2, z72_3, z72_4, z72_5, z72_6, z72_7⟩ := z72
            have hinv : vp_in z72_4 73 ∧ vp_in z72_2 6 ∧ i72 ≤ z72_4.toNatClampNeg + 1 ∧ (z72_5 = (-9) → i72 ≤ z72_4.toNatClampNeg) := hinv
            exact absurd hinv (fun h9 => by have h8 := vin_c h9.1; have h7 := h9.2.2.1; omega)
          | succ k ih =>
            intro i72 z72 hi0 hik hz hinv H locs ls hP hS hl
            obtain ⟨z72_1, z72_2, z72_3, z72_4, z72_5, z72_6, z72_7⟩ := z72
            have hP : va_P D vwCl [(a, .inr (8, [.ref a_readWishes, .ref a_readOwed, .int z72_1, .int z72_2, .int z72_3, .ref a_told, .ref a_owed, .int i_wishes, .int i_hung, .int i_hour, .ref a_text, .int i_length, .int z72_4, .int z72_5, .int i_acts, .int i_next, .ref a_row, .ref a_least, .ref a_values, .int i_tells, .ref a_tellPlace, .ref a_tellHour, .ref a_tellDark, .long j_seed, .ref a_isKept, .ref a_kept])), (a_text, .inl (cI, 72, .inl f_text)), (a_readOwed, .inl (cI, 12, .inl z72_6)), (a_readWishes, .inl (cI, 25, .inl z72_7))] H := hP
            have hl : lv_has ls 2 [(0, .ref a)] := hl
            have hinv : vp_in z72_4 73 ∧ vp_in z72_2 6 ∧ i72 ≤ z72_4.toNatClampNeg + 1 ∧ (z72_5 = (-9) → i72 ≤ z72_4.toNatClampNeg) := hinv
            refine lv_aload_n hx hb dX8_readText_72 rfl (lv_at hl 0 rfl) ?_
            refine va_get (D := D) (ci := 8) (v := .int z72_5) (C := RX8) (T := TX8) (N := 26) hx hb hts (fun _ h => List.mem_cons_of_mem _ (List.mem_append_right _ (h))) hown hK hP 0 rfl rfl 13 (by decide) (hts _ (List.mem_of_getElem? (i := 2) rfl)) (fun _ h9 => h9) rfl dX8_readText_73 ?_
            refine lv_bipush (v := (-9)) hx hb dX8_readText_76 rfl ?_
            refine lv_icmp_ne (tgt := 108) hx hb dX8_readText_78 (by decide) (fun c_78 => ?_) (fun c_78 => ?_)
            · have e8 : v_X8_readText_L72 i_length f_text i72 (z72_1, z72_2, z72_3, z72_4, z72_5, z72_6, z72_7) = .inr (z72_1, z72_2, z72_3, z72_4, z72_5, z72_6, z72_7) := by
                show v_X8_readText_L72c i_length f_text i72 z72_1 z72_2 z72_3 z72_4 z72_5 z72_6 z72_7 = .inr (z72_1, z72_2, z72_3, z72_4, z72_5, z72_6, z72_7)
                refine (if_neg c_78).trans ?_
                rfl
              exact kE72 (z72_1, z72_2, z72_3, z72_4, z72_5, z72_6, z72_7) (by rw [← hz, itx_out e8]; rfl) _ _ _ hP hS (lv_sub hl [0] rfl)
            · refine lv_aload_n hx hb dX8_readText_81 rfl (lv_at hl 0 rfl) ?_
              refine va_get (D := D) (ci := 8) (v := .int z72_4) (C := RX8) (T := TX8) (N := 26) hx hb hts (fun _ h => List.mem_cons_of_mem _ (List.mem_append_right _ (h))) hown hK hP 0 rfl rfl 12 (by decide) (hts _ (List.mem_of_getElem? (i := 1) rfl)) (fun _ h9 => h9) rfl dX8_readText_82 ?_
              refine lv_aload_n hx hb dX8_readText_85 rfl (lv_at hl 0 rfl) ?_
              refine va_get (D := D) (ci := 8) (v := .int i_length) (C := RX8) (T := TX8) (N := 26) hx hb hts (fun _ h => List.mem_cons_of_mem _ (List.mem_append_right _ (h))) hown hK hP 0 rfl rfl 11 (by decide) (hts _ (List.mem_of_getElem? (i := 7) rfl)) (fun _ h9 => h9) rfl dX8_readText_86 ?_
              refine lv_icmp_ge (tgt := 108) hx hb dX8_readText_89 (by decide) (fun c_89 => ?_) (fun c_89 => ?_)
              · have e8 : v_X8_readText_L72 i_length f_text i72 (z72_1, z72_2, z72_3, z72_4, z72_5, z72_6, z72_7) = .inr (z72_1, z72_2, z72_3, z72_4, z72_5, z72_6, z72_7) := by
                  show v_X8_readText_L72c i_length f_text i72 z72_1 z72_2 z72_3 z72_4 z72_5 z72_6 z72_7 = .inr (z72_1, z72_2, z72_3, z72_4, z72_5, z72_6, z72_7)
                  refine (if_pos c_78).trans ?_
                  refine (if_pos c_89).trans ?_
                  rfl
                exact kE72 (z72_1, z72_2, z72_3, z72_4, z72_5, z72_6, z72_7) (by rw [← hz, itx_out e8]; rfl) _ _ _ hP hS (lv_sub hl [0] rfl)
              · refine lv_aload_n hx hb dX8_readText_92 rfl (lv_at hl 0 rfl) ?_
                refine lv_aload_n hx hb dX8_readText_93 rfl (lv_at hl 0 rfl) ?_
                refine va_get (D := D) (ci := 8) (v := .ref a_text) (C := RX8) (T := TX8) (N := 26) hx hb hts (fun _ h => List.mem_cons_of_mem _ (List.mem_append_right _ (h))) hown hK hP 0 rfl rfl 10 (by decide) (hts _ (List.mem_of_getElem? (i := 8) rfl)) (fun _ h9 => h9) rfl dX8_readText_94 ?_
                refine lv_aload_n hx hb dX8_readText_97 rfl (lv_at hl 0 rfl) ?_
                refine va_get (D := D) (ci := 8) (v := .int z72_4) (C := RX8) (T := TX8) (N := 26) hx hb hts (fun _ h => List.mem_cons_of_mem _ (List.mem_append_right _ (h))) hown hK hP 0 rfl rfl 12 (by decide) (hts _ (List.mem_of_getElem? (i := 1) rfl)) (fun _ h9 => h9) rfl dX8_readText_98 ?_
                refine va_iald hx hb hK hP 1 0 rfl rfl (vin_lt hinv.1 hl0 c_89) dX8_readText_101 ?_
                obtain ⟨o_102_1, o_102_2, o_102_3, o_102_4, o_102_5, o_102_6, o_102_7, ho_102⟩ := ex7 (v_X8_readPart (f_text z72_4.toNatClampNeg) z72_1 z72_2 z72_3 i_length z72_4 z72_5 z72_6 f_text z72_7)
                refine callVV (As := [.int (f_text z72_4.toNatClampNeg)]) (rest := []) (o_102_1, o_102_2, o_102_3, o_102_4, o_102_5, o_102_6, o_102_7) ho_102 hF (k_X8_readPart l D cI cZ a a_readWishes a_readOwed a_told a_owed a_text a_row a_least a_values a_tellPlace a_tellHour a_tellDark a_isKept a_kept (f_text z72_4.toNatClampNeg) z72_1 z72_2 z72_3 i_wishes i_hung i_hour i_length z72_4 z72_5 i_acts i_next i_tells j_seed z72_6 f_text z72_7 (hinv.1) (hl0) (c_89) (hinv.2.1)) (cwV 1 hts gX8_readText_X8_readPart rfl rfl rfl (by decide +kernel) ⟨Nat.le_of_ble_eq_true rfl, Nat.le_of_ble_eq_true rfl⟩) hK hN hP (va_Dsame hD rfl) hS hA [0, 2, 1, 3] rfl rfl 0 8 (T := TX8) (N := 26) rfl rfl rfl hl.1 rfl (Nat.le_of_ble_eq_true rfl) dX8_readText_102 ⟨Nat.zero_le _, Nat.zero_le _⟩ [some 0, some 2, some 1, some 3] 4 [(a, .inr (8, [.ref a_readWishes, .ref a_readOwed, .int o_102_1, .int o_102_2, .int o_102_3, .ref a_told, .ref a_owed, .int i_wishes, .int i_hung, .int i_hour, .ref a_text, .int i_length, .int o_102_4, .int o_102_5, .int i_acts, .int i_next, .ref a_row, .ref a_least, .ref a_values, .int i_tells, .ref a_tellPlace, .ref a_tellHour, .ref a_tellDark, .long j_seed, .ref a_isKept, .ref a_kept])), (a_text, .inl (cI, 72, .inl f_text)), (a_readOwed, .inl (cI, 12, .inl o_102_6)), (a_readWishes, .inl (cI, 25, .inl o_102_7))] rfl rfl (by decide) (fun H locs hP hS => ?_)
                refine lv_goto (tgt := 72) hx hb dX8_readText_105 (by decide) ?_
                have e8 : v_X8_readText_L72 i_length f_text i72 (z72_1, z72_2, z72_3, z72_4, z72_5, z72_6, z72_7) = .inl (o_102_1, o_102_2, o_102_3, o_102_4, o_102_5, o_102_6, o_102_7) := by
                  show v_X8_readText_L72c i_length f_text i72 z72_1 z72_2 z72_3 z72_4 z72_5 z72_6 z72_7 = .inl (o_102_1, o_102_2, o_102_3, o_102_4, o_102_5, o_102_6, o_102_7)
                  refine (if_pos c_78).trans ?_
                  refine (if_neg c_89).trans ?_
                  refine (bnd7_eq ho_102).trans ?_
                  rfl
                exact ih (i72 + 1) (o_102_1, o_102_2, o_102_3, o_102_4, o_102_5, o_102_6, o_102_7) (by omega) (by omega) ((itx_go e8).symm.trans hz) (rp_inv hinv.1 hl0 c_89 hinv.2.1 (hinv.2.2.2 c_78) ho_102) _ _ _ hP hS (lv_sub hl [0] rfl)
        exact loop72 74 0 (0, 0, 0, 1, (-9), o_L28, f_readWishes) (Nat.le_refl _) rfl ho_L72.symm (⟨vp_in_nI (n := 1) (by decide) (by decide), vp_in_nI (n := 0) (by decide) (by decide), Nat.zero_le _, fun _ => Nat.zero_le _⟩) _ _ _ hP hS (lv_sub hl [0] rfl)
      · refine lv_iconst (v := 0) hx hb dX8_readText_65 rfl ?_
        have e9 : v_X8_readText i_length f_text f_readOwed f_readWishes = (0, 0, (-9), 0, 0, 0, o_L28, f_readWishes) := by
          refine (bnd_eq ho_L28).trans ?_
          refine (if_neg c_51).trans ?_
          refine (if_neg c_62).trans ?_
          rfl
        rw [hQ]; exact retI (0, 0, (-9), 0, 0, 0, o_L28, f_readWishes) hx hb hr hlk e9 hP rfl hS dX8_readText_66
  have loop28 : ∀ (k i28 : Nat) (z28 : Nat → Int32), 0 ≤ i28 → i28 + k = 0 + 12 → it (v_X8_readText_L28) k i28 z28 = o_L28 → ∀ (H : Heap) (locs : List Loc) (ls : Array Slot), va_P D vwCl [(a, .inr (8, [.ref a_readWishes, .ref a_readOwed, .int 0, .int 0, .int 0, .ref a_told, .ref a_owed, .int i_wishes, .int i_hung, .int i_hour, .ref a_text, .int i_length, .int 0, .int (-9), .int i_acts, .int i_next, .ref a_row, .ref a_least, .ref a_values, .int i_tells, .ref a_tellPlace, .ref a_tellHour, .ref a_tellDark, .long j_seed, .ref a_isKept, .ref a_kept])), (a_text, .inl (cI, 72, .inl f_text)), (a_readOwed, .inl (cI, 12, .inl z28)), (a_readWishes, .inl (cI, 25, .inl f_readWishes))] H → va_S A s.heap H locs → lv_has ls 2 [(1, .int (nI i28)), (0, .ref a)] → W p l e rm_X8_readText s m ar below meth c H locs 0 0 Q (F0 m 28 ls []) := by
    intro k
    induction k with
    | zero =>
      intro i28 z28 hi0 hik hz H locs ls hP hS hl
      have hz : z28 = o_L28 := it_0 hz
      subst z28
      refine lv_iload_n hx hb dX8_readText_28 rfl (lv_at hl 0 rfl) ?_
      refine lv_bipush (v := 12) hx hb dX8_readText_29 rfl ?_
      refine lv_icmp_ge (tgt := 47) hx hb dX8_readText_31 (by decide) (fun _ => ?_) (fun c => absurd (nI_le (a := 12) (by omega) (by omega)) c)
      exact kE28 _ _ _ hP hS (lv_sub hl [1] rfl)
    | succ k ih =>
      intro i28 z28 hi0 hik hz H locs ls hP hS hl
      refine lv_iload_n hx hb dX8_readText_28 rfl (lv_at hl 0 rfl) ?_
      refine lv_bipush (v := 12) hx hb dX8_readText_29 rfl ?_
      refine lv_icmp_ge (tgt := 47) hx hb dX8_readText_31 (by decide) (fun c => absurd c (nI_ge (b := 12) (by omega) (by decide))) (fun _ => ?_)
      refine lv_aload_n hx hb dX8_readText_34 rfl (lv_at hl 1 rfl) ?_
      refine va_get (D := D) (ci := 8) (v := .ref a_readOwed) (C := RX8) (T := TX8) (N := 26) hx hb hts (fun _ h => List.mem_cons_of_mem _ (List.mem_append_right _ (h))) hown hK hP 0 rfl rfl 1 (by decide) (hts _ (List.mem_of_getElem? (i := 6) rfl)) (fun _ h9 => h9) rfl dX8_readText_35 ?_
      refine lv_iload_n hx hb dX8_readText_38 rfl (lv_at hl 0 rfl) ?_
      refine lv_iconst (v := 0) hx hb dX8_readText_39 rfl ?_
      refine va_iast hx hb hK hP (va_Dsame hD rfl) hS 2 0 rfl rfl (vp_in_nI (by omega) (by decide)) dX8_readText_40 (fun H locs hP _ hS => ?_)
      have hP : va_P D vwCl [(a, .inr (8, [.ref a_readWishes, .ref a_readOwed, .int 0, .int 0, .int 0, .ref a_told, .ref a_owed, .int i_wishes, .int i_hung, .int i_hour, .ref a_text, .int i_length, .int 0, .int (-9), .int i_acts, .int i_next, .ref a_row, .ref a_least, .ref a_values, .int i_tells, .ref a_tellPlace, .ref a_tellHour, .ref a_tellDark, .long j_seed, .ref a_isKept, .ref a_kept])), (a_text, .inl (cI, 72, .inl f_text)), (a_readOwed, .inl (cI, 12, .inl (upd z28 (nI i28).toNatClampNeg 0))), (a_readWishes, .inl (cI, 25, .inl f_readWishes))] H := hP
      refine lv_iinc (v := (nI (i28 + 1))) (lv' := [(1, .int (nI (i28 + 1))), (0, .ref a)]) hx hb dX8_readText_41 hl (k := 0) rfl (nI_1 _) (by decide) rfl (fun ls hl => ?_)
      refine lv_goto (tgt := 28) hx hb dX8_readText_44 (by decide) ?_
      have e8 : v_X8_readText_L28 i28 z28 = (upd z28 (nI i28).toNatClampNeg 0) := by
        rfl
      exact ih (i28 + 1) (upd z28 (nI i28).toNatClampNeg 0) (by omega) (by omega) (it_go e8 hz) _ _ _ hP hS (lv_sub hl [0, 1] rfl)
  exact loop28 12 0 f_readOwed (Nat.le_refl _) rfl ho_L28.symm _ _ _ hP hS (lv_sub hl [0, 1] rfl)
def v_X8_fault (i_length : Int32) (f_text : Nat → Int32) (f_readOwed : Nat → Int32) (f_readWishes : Nat → Int32) : Int32 × Int32 × Int32 × Int32 × Int32 × Int32 × (Nat → Int32) × (Nat → Int32) :=
  bnd8 (v_X8_readText i_length f_text f_readOwed f_readWishes) fun o_1_1 o_1_2 o_1_3 o_1_4 o_1_5 o_1_6 o_1_7 o_1_8 =>
  (o_1_1, o_1_2, o_1_3, o_1_4, o_1_5, o_1_6, o_1_7, o_1_8)
abbrev rm_X8_fault : Room := { frames := 6, cells := 0, slots := 0, locals := 135 }
set_option maxHeartbeats 4000000 in
set_option maxRecDepth 100000 in
theorem k_X8_fault (l : Launch) (D : va_G) (cI cZ : ClassId) (a a_readWishes a_readOwed a_told a_owed a_text a_row a_least a_values a_tellPlace a_tellHour a_tellDark a_isKept a_kept : Nat) (i_readHung : Int32) (i_readMany : Int32) (i_readOwes : Int32) (i_wishes : Int32) (i_hung : Int32) (i_hour : Int32) (i_length : Int32) (i_at : Int32) (i_faultAt : Int32) (i_acts : Int32) (i_next : Int32) (i_tells : Int32) (j_seed : Int64) (f_text : Nat → Int32) (f_readOwed : Nat → Int32) (f_readWishes : Nat → Int32) (hl0 : vp_in i_length 73) : KI l D cI cZ yX8_fault wsX8_fault rm_X8_fault [.ref a] [(a, .inr (8, [.ref a_readWishes, .ref a_readOwed, .int i_readHung, .int i_readMany, .int i_readOwes, .ref a_told, .ref a_owed, .int i_wishes, .int i_hung, .int i_hour, .ref a_text, .int i_length, .int i_at, .int i_faultAt, .int i_acts, .int i_next, .ref a_row, .ref a_least, .ref a_values, .int i_tells, .ref a_tellPlace, .ref a_tellHour, .ref a_tellDark, .long j_seed, .ref a_isKept, .ref a_kept])), (a_text, .inl (cI, 72, .inl f_text)), (a_readOwed, .inl (cI, 12, .inl f_readOwed)), (a_readWishes, .inl (cI, 25, .inl f_readWishes))] (v_X8_fault i_length f_text f_readOwed f_readWishes) (fun o : Int32 × Int32 × Int32 × Int32 × Int32 × Int32 × (Nat → Int32) × (Nat → Int32) => o.1) (fun o : Int32 × Int32 × Int32 × Int32 × Int32 × Int32 × (Nat → Int32) × (Nat → Int32) => [(a, .inr (8, [.ref a_readWishes, .ref a_readOwed, .int o.2.2.2.1, .int o.2.2.2.2.1, .int o.2.2.2.2.2.1, .ref a_told, .ref a_owed, .int i_wishes, .int i_hung, .int i_hour, .ref a_text, .int i_length, .int o.2.1, .int o.2.2.1, .int i_acts, .int i_next, .ref a_row, .ref a_least, .ref a_values, .int i_tells, .ref a_tellPlace, .ref a_tellHour, .ref a_tellDark, .long j_seed, .ref a_isKept, .ref a_kept])), (a_text, .inl (cI, 72, .inl f_text)), (a_readOwed, .inl (cI, 12, .inl o.2.2.2.2.2.2.1)), (a_readWishes, .inl (cI, 25, .inl o.2.2.2.2.2.2.2))]) := by
  refine KI.of cX8_fault 1 (some .int) (by decide) rfl (Nat.le_of_ble_eq_true rfl) ?_
  intro p e s m below meth c A ls ar Q hQ B
  obtain ⟨hx, hb, hr, hml, hts, hown, hlk, hK, hN, hP, hD, hA, hS, hl⟩ := B
  have hown : s.vm.findClass RX8 = some m.cls := hown
  have hF : CallFix p m c cX8_fault 1 s ar wsX8_fault RX8 := ⟨hx, hb, hml, hown, hts⟩
  have hl : lv_has ls 1 [(0, .ref a)] := hl
  refine lv_aload_n hx hb dX8_fault_0 rfl (lv_at hl 0 rfl) ?_
  obtain ⟨o_1_1, o_1_2, o_1_3, o_1_4, o_1_5, o_1_6, o_1_7, o_1_8, ho_1⟩ := ex8 (v_X8_readText i_length f_text f_readOwed f_readWishes)
  refine callVI (As := []) (rest := []) (o_1_1, o_1_2, o_1_3, o_1_4, o_1_5, o_1_6, o_1_7, o_1_8) ho_1 hF (k_X8_readText l D cI cZ a a_readWishes a_readOwed a_told a_owed a_text a_row a_least a_values a_tellPlace a_tellHour a_tellDark a_isKept a_kept i_readHung i_readMany i_readOwes i_wishes i_hung i_hour i_length i_at i_faultAt i_acts i_next i_tells j_seed f_text f_readOwed f_readWishes (hl0)) (cwV 0 hts gX8_fault_X8_readText rfl rfl rfl (by decide +kernel) ⟨Nat.le_of_ble_eq_true rfl, Nat.le_of_ble_eq_true rfl⟩) hK hN hP (va_Dsame hD rfl) hS hA [0, 1, 2, 3] rfl rfl 0 8 (T := TX8) (N := 26) rfl rfl rfl hl.1 rfl (Nat.le_of_ble_eq_true rfl) dX8_fault_1 ⟨Nat.zero_le _, Nat.zero_le _⟩ o_1_1 rfl [some 0, some 1, some 2, some 3] 4 [(a, .inr (8, [.ref a_readWishes, .ref a_readOwed, .int o_1_4, .int o_1_5, .int o_1_6, .ref a_told, .ref a_owed, .int i_wishes, .int i_hung, .int i_hour, .ref a_text, .int i_length, .int o_1_2, .int o_1_3, .int i_acts, .int i_next, .ref a_row, .ref a_least, .ref a_values, .int i_tells, .ref a_tellPlace, .ref a_tellHour, .ref a_tellDark, .long j_seed, .ref a_isKept, .ref a_kept])), (a_text, .inl (cI, 72, .inl f_text)), (a_readOwed, .inl (cI, 12, .inl o_1_7)), (a_readWishes, .inl (cI, 25, .inl o_1_8))] rfl rfl (by decide) (fun H locs hP hS => ?_)
  have e9 : v_X8_fault i_length f_text f_readOwed f_readWishes = (o_1_1, o_1_2, o_1_3, o_1_4, o_1_5, o_1_6, o_1_7, o_1_8) := by
    refine (bnd8_eq ho_1).trans ?_
    rfl
  rw [hQ]; exact retI (o_1_1, o_1_2, o_1_3, o_1_4, o_1_5, o_1_6, o_1_7, o_1_8) hx hb hr hlk e9 hP rfl hS dX8_fault_4
def v_X8_letting_L61 (o_1_7 : Nat → Int32) (i61 : Nat) (z61 : Nat → Int32) : Nat → Int32 :=
  (upd z61 (nI i61).toNatClampNeg (o_1_7 (nI i61).toNatClampNeg))
def v_X8_letting_L35 (o_1_8 : Nat → Int32) (i35 : Nat) (z35 : Nat → Int32) : Nat → Int32 :=
  (upd z35 (nI i35).toNatClampNeg (o_1_8 (nI i35).toNatClampNeg))
def v_X8_letting (i_wishes : Int32) (i_hung : Int32) (i_hour : Int32) (i_length : Int32) (i_acts : Int32) (f_text : Nat → Int32) (f_readOwed : Nat → Int32) (f_readWishes : Nat → Int32) (f_isKept : Nat → Int32) (f_owed : Nat → Int32) (f_told : Nat → Int32) : Int32 × Int32 × Int32 × Int32 × Int32 × Int32 × Int32 × Int32 × Int32 × Int32 × (Nat → Int32) × (Nat → Int32) × (Nat → Int32) × (Nat → Int32) × (Nat → Int32) :=
  bnd8 (v_X8_readText i_length f_text f_readOwed f_readWishes) fun o_1_1 o_1_2 o_1_3 o_1_4 o_1_5 o_1_6 o_1_7 o_1_8 =>
  (if o_1_1 = (-9) then (bnd (it (v_X8_letting_L35 o_1_8) 25 0 f_told) fun o_L35 =>
    (bnd (it (v_X8_letting_L61 o_1_7) 12 0 f_owed) fun o_L61 =>
    (o_1_5, o_1_2, o_1_3, 0, o_1_4, o_1_5, o_1_6, o_1_5, o_1_4, 0, o_1_7, o_1_8, (upd (upd f_isKept (0 : Int32).toNatClampNeg (vp_nar .boolean 0)) (1 : Int32).toNatClampNeg (vp_nar .boolean 0)), o_L61, o_L35)))
  else ((-3), o_1_2, o_1_3, i_acts, o_1_4, o_1_5, o_1_6, i_wishes, i_hung, i_hour, o_1_7, o_1_8, f_isKept, f_owed, f_told))
abbrev rm_X8_letting : Room := { frames := 6, cells := 0, slots := 0, locals := 135 }
set_option maxHeartbeats 4000000 in
set_option maxRecDepth 100000 in
theorem k_X8_letting (l : Launch) (D : va_G) (cI cZ : ClassId) (a a_readWishes a_readOwed a_told a_owed a_text a_row a_least a_values a_tellPlace a_tellHour a_tellDark a_isKept a_kept : Nat) (i_readHung : Int32) (i_readMany : Int32) (i_readOwes : Int32) (i_wishes : Int32) (i_hung : Int32) (i_hour : Int32) (i_length : Int32) (i_at : Int32) (i_faultAt : Int32) (i_acts : Int32) (i_next : Int32) (i_tells : Int32) (j_seed : Int64) (f_text : Nat → Int32) (f_readOwed : Nat → Int32) (f_readWishes : Nat → Int32) (f_isKept : Nat → Int32) (f_owed : Nat → Int32) (f_told : Nat → Int32) (hl0 : vp_in i_length 73) : KI l D cI cZ yX8_letting wsX8_letting rm_X8_letting [.ref a] [(a, .inr (8, [.ref a_readWishes, .ref a_readOwed, .int i_readHung, .int i_readMany, .int i_readOwes, .ref a_told, .ref a_owed, .int i_wishes, .int i_hung, .int i_hour, .ref a_text, .int i_length, .int i_at, .int i_faultAt, .int i_acts, .int i_next, .ref a_row, .ref a_least, .ref a_values, .int i_tells, .ref a_tellPlace, .ref a_tellHour, .ref a_tellDark, .long j_seed, .ref a_isKept, .ref a_kept])), (a_text, .inl (cI, 72, .inl f_text)), (a_readOwed, .inl (cI, 12, .inl f_readOwed)), (a_readWishes, .inl (cI, 25, .inl f_readWishes)), (a_isKept, .inl (cZ, 2, .inl f_isKept)), (a_owed, .inl (cI, 12, .inl f_owed)), (a_told, .inl (cI, 25, .inl f_told))] (v_X8_letting i_wishes i_hung i_hour i_length i_acts f_text f_readOwed f_readWishes f_isKept f_owed f_told) (fun o : Int32 × Int32 × Int32 × Int32 × Int32 × Int32 × Int32 × Int32 × Int32 × Int32 × (Nat → Int32) × (Nat → Int32) × (Nat → Int32) × (Nat → Int32) × (Nat → Int32) => o.1) (fun o : Int32 × Int32 × Int32 × Int32 × Int32 × Int32 × Int32 × Int32 × Int32 × Int32 × (Nat → Int32) × (Nat → Int32) × (Nat → Int32) × (Nat → Int32) × (Nat → Int32) => [(a, .inr (8, [.ref a_readWishes, .ref a_readOwed, .int o.2.2.2.2.1, .int o.2.2.2.2.2.1, .int o.2.2.2.2.2.2.1, .ref a_told, .ref a_owed, .int o.2.2.2.2.2.2.2.1, .int o.2.2.2.2.2.2.2.2.1, .int o.2.2.2.2.2.2.2.2.2.1, .ref a_text, .int i_length, .int o.2.1, .int o.2.2.1, .int o.2.2.2.1, .int i_next, .ref a_row, .ref a_least, .ref a_values, .int i_tells, .ref a_tellPlace, .ref a_tellHour, .ref a_tellDark, .long j_seed, .ref a_isKept, .ref a_kept])), (a_text, .inl (cI, 72, .inl f_text)), (a_readOwed, .inl (cI, 12, .inl o.2.2.2.2.2.2.2.2.2.2.1)), (a_readWishes, .inl (cI, 25, .inl o.2.2.2.2.2.2.2.2.2.2.2.1)), (a_isKept, .inl (cZ, 2, .inl o.2.2.2.2.2.2.2.2.2.2.2.2.1)), (a_owed, .inl (cI, 12, .inl o.2.2.2.2.2.2.2.2.2.2.2.2.2.1)), (a_told, .inl (cI, 25, .inl o.2.2.2.2.2.2.2.2.2.2.2.2.2.2))]) := by
  refine KI.of cX8_letting 2 (some .int) (by decide) rfl (Nat.le_of_ble_eq_true rfl) ?_
  intro p e s m below meth c A ls ar Q hQ B
  obtain ⟨hx, hb, hr, hml, hts, hown, hlk, hK, hN, hP, hD, hA, hS, hl⟩ := B
  have hown : s.vm.findClass RX8 = some m.cls := hown
  have hF : CallFix p m c cX8_letting 2 s ar wsX8_letting RX8 := ⟨hx, hb, hml, hown, hts⟩
  have hl : lv_has ls 2 [(0, .ref a)] := hl
  refine lv_aload_n hx hb dX8_letting_0 rfl (lv_at hl 0 rfl) ?_
  obtain ⟨o_1_1, o_1_2, o_1_3, o_1_4, o_1_5, o_1_6, o_1_7, o_1_8, ho_1⟩ := ex8 (v_X8_readText i_length f_text f_readOwed f_readWishes)
  refine callVI (As := []) (rest := []) (o_1_1, o_1_2, o_1_3, o_1_4, o_1_5, o_1_6, o_1_7, o_1_8) ho_1 hF (k_X8_readText l D cI cZ a a_readWishes a_readOwed a_told a_owed a_text a_row a_least a_values a_tellPlace a_tellHour a_tellDark a_isKept a_kept i_readHung i_readMany i_readOwes i_wishes i_hung i_hour i_length i_at i_faultAt i_acts i_next i_tells j_seed f_text f_readOwed f_readWishes (hl0)) (cwV 0 hts gX8_letting_X8_readText rfl rfl rfl (by decide +kernel) ⟨Nat.le_of_ble_eq_true rfl, Nat.le_of_ble_eq_true rfl⟩) hK hN hP (va_Dsame hD rfl) hS hA [0, 1, 2, 3] rfl rfl 0 8 (T := TX8) (N := 26) rfl rfl rfl hl.1 rfl (Nat.le_of_ble_eq_true rfl) dX8_letting_1 ⟨Nat.zero_le _, Nat.zero_le _⟩ o_1_1 rfl [some 0, some 1, some 2, some 3, none, none, none] 4 [(a, .inr (8, [.ref a_readWishes, .ref a_readOwed, .int o_1_4, .int o_1_5, .int o_1_6, .ref a_told, .ref a_owed, .int i_wishes, .int i_hung, .int i_hour, .ref a_text, .int i_length, .int o_1_2, .int o_1_3, .int i_acts, .int i_next, .ref a_row, .ref a_least, .ref a_values, .int i_tells, .ref a_tellPlace, .ref a_tellHour, .ref a_tellDark, .long j_seed, .ref a_isKept, .ref a_kept])), (a_text, .inl (cI, 72, .inl f_text)), (a_readOwed, .inl (cI, 12, .inl o_1_7)), (a_readWishes, .inl (cI, 25, .inl o_1_8)), (a_isKept, .inl (cZ, 2, .inl f_isKept)), (a_owed, .inl (cI, 12, .inl f_owed)), (a_told, .inl (cI, 25, .inl f_told))] rfl rfl (by decide) (fun H locs hP hS => ?_)
  refine lv_bipush (v := (-9)) hx hb dX8_letting_4 rfl ?_
  refine lv_icmp_eq (tgt := 12) hx hb dX8_letting_6 (by decide) (fun c_6 => ?_) (fun c_6 => ?_)
  · refine lv_aload_n hx hb dX8_letting_12 rfl (lv_at hl 0 rfl) ?_
    refine lv_aload_n hx hb dX8_letting_13 rfl (lv_at hl 0 rfl) ?_
    refine va_get (D := D) (ci := 8) (v := .int o_1_4) (C := RX8) (T := TX8) (N := 26) hx hb hts (fun _ h => List.mem_cons_of_mem _ (List.mem_append_right _ (h))) hown hK hP 0 rfl rfl 2 (by decide) (hts _ (List.mem_of_getElem? (i := 1) rfl)) (fun _ h9 => h9) rfl dX8_letting_14 ?_
    refine va_put (D := D) (ci := 8) (v := .int o_1_4) (ty := .int) (C := RX8) (T := TX8) (N := 26) hx hb hts (fun _ h => List.mem_cons_of_mem _ (List.mem_append_right _ (h))) tyX8 tyX8_ok nmX8 hown hK hP (va_Dsame hD rfl) hS 0 rfl rfl 8 (by decide) (hts _ (List.mem_of_getElem? (i := 2) rfl)) (fun _ h9 => h9) rfl (tyX8_ok 8 (by decide)) rfl rfl (Nat.le_of_ble_eq_true rfl) dX8_letting_17 (fun H locs hP _ hS => ?_)
    have hP : va_P D vwCl [(a, .inr (8, [.ref a_readWishes, .ref a_readOwed, .int o_1_4, .int o_1_5, .int o_1_6, .ref a_told, .ref a_owed, .int i_wishes, .int o_1_4, .int i_hour, .ref a_text, .int i_length, .int o_1_2, .int o_1_3, .int i_acts, .int i_next, .ref a_row, .ref a_least, .ref a_values, .int i_tells, .ref a_tellPlace, .ref a_tellHour, .ref a_tellDark, .long j_seed, .ref a_isKept, .ref a_kept])), (a_text, .inl (cI, 72, .inl f_text)), (a_readOwed, .inl (cI, 12, .inl o_1_7)), (a_readWishes, .inl (cI, 25, .inl o_1_8)), (a_isKept, .inl (cZ, 2, .inl f_isKept)), (a_owed, .inl (cI, 12, .inl f_owed)), (a_told, .inl (cI, 25, .inl f_told))] H := hP
    refine lv_aload_n hx hb dX8_letting_20 rfl (lv_at hl 0 rfl) ?_
    refine lv_aload_n hx hb dX8_letting_21 rfl (lv_at hl 0 rfl) ?_
    refine va_get (D := D) (ci := 8) (v := .int o_1_5) (C := RX8) (T := TX8) (N := 26) hx hb hts (fun _ h => List.mem_cons_of_mem _ (List.mem_append_right _ (h))) hown hK hP 0 rfl rfl 3 (by decide) (hts _ (List.mem_of_getElem? (i := 3) rfl)) (fun _ h9 => h9) rfl dX8_letting_22 ?_
    refine va_put (D := D) (ci := 8) (v := .int o_1_5) (ty := .int) (C := RX8) (T := TX8) (N := 26) hx hb hts (fun _ h => List.mem_cons_of_mem _ (List.mem_append_right _ (h))) tyX8 tyX8_ok nmX8 hown hK hP (va_Dsame hD rfl) hS 0 rfl rfl 7 (by decide) (hts _ (List.mem_of_getElem? (i := 4) rfl)) (fun _ h9 => h9) rfl (tyX8_ok 7 (by decide)) rfl rfl (Nat.le_of_ble_eq_true rfl) dX8_letting_25 (fun H locs hP _ hS => ?_)
    have hP : va_P D vwCl [(a, .inr (8, [.ref a_readWishes, .ref a_readOwed, .int o_1_4, .int o_1_5, .int o_1_6, .ref a_told, .ref a_owed, .int o_1_5, .int o_1_4, .int i_hour, .ref a_text, .int i_length, .int o_1_2, .int o_1_3, .int i_acts, .int i_next, .ref a_row, .ref a_least, .ref a_values, .int i_tells, .ref a_tellPlace, .ref a_tellHour, .ref a_tellDark, .long j_seed, .ref a_isKept, .ref a_kept])), (a_text, .inl (cI, 72, .inl f_text)), (a_readOwed, .inl (cI, 12, .inl o_1_7)), (a_readWishes, .inl (cI, 25, .inl o_1_8)), (a_isKept, .inl (cZ, 2, .inl f_isKept)), (a_owed, .inl (cI, 12, .inl f_owed)), (a_told, .inl (cI, 25, .inl f_told))] H := hP
    refine lv_aload_n hx hb dX8_letting_28 rfl (lv_at hl 0 rfl) ?_
    refine lv_iconst (v := 0) hx hb dX8_letting_29 rfl ?_
    refine va_put (D := D) (ci := 8) (v := .int 0) (ty := .int) (C := RX8) (T := TX8) (N := 26) hx hb hts (fun _ h => List.mem_cons_of_mem _ (List.mem_append_right _ (h))) tyX8 tyX8_ok nmX8 hown hK hP (va_Dsame hD rfl) hS 0 rfl rfl 9 (by decide) (hts _ (List.mem_of_getElem? (i := 5) rfl)) (fun _ h9 => h9) rfl (tyX8_ok 9 (by decide)) rfl rfl (Nat.le_of_ble_eq_true rfl) dX8_letting_30 (fun H locs hP _ hS => ?_)
    have hP : va_P D vwCl [(a, .inr (8, [.ref a_readWishes, .ref a_readOwed, .int o_1_4, .int o_1_5, .int o_1_6, .ref a_told, .ref a_owed, .int o_1_5, .int o_1_4, .int 0, .ref a_text, .int i_length, .int o_1_2, .int o_1_3, .int i_acts, .int i_next, .ref a_row, .ref a_least, .ref a_values, .int i_tells, .ref a_tellPlace, .ref a_tellHour, .ref a_tellDark, .long j_seed, .ref a_isKept, .ref a_kept])), (a_text, .inl (cI, 72, .inl f_text)), (a_readOwed, .inl (cI, 12, .inl o_1_7)), (a_readWishes, .inl (cI, 25, .inl o_1_8)), (a_isKept, .inl (cZ, 2, .inl f_isKept)), (a_owed, .inl (cI, 12, .inl f_owed)), (a_told, .inl (cI, 25, .inl f_told))] H := hP
    refine lv_iconst (v := 0) hx hb dX8_letting_33 rfl ?_
    refine lv_istore_n (lv' := [(1, .int 0), (0, .ref a)]) hx hb dX8_letting_34 rfl hl (by decide) rfl (fun ls hl => ?_)
    obtain ⟨o_L35, ho_L35⟩ : ∃ z : Nat → Int32, z = it (v_X8_letting_L35 o_1_8) 25 0 f_told := ⟨_, rfl⟩
    have kE35 : ∀ (H : Heap) (locs : List Loc) (ls : Array Slot), va_P D vwCl [(a, .inr (8, [.ref a_readWishes, .ref a_readOwed, .int o_1_4, .int o_1_5, .int o_1_6, .ref a_told, .ref a_owed, .int o_1_5, .int o_1_4, .int 0, .ref a_text, .int i_length, .int o_1_2, .int o_1_3, .int i_acts, .int i_next, .ref a_row, .ref a_least, .ref a_values, .int i_tells, .ref a_tellPlace, .ref a_tellHour, .ref a_tellDark, .long j_seed, .ref a_isKept, .ref a_kept])), (a_text, .inl (cI, 72, .inl f_text)), (a_readOwed, .inl (cI, 12, .inl o_1_7)), (a_readWishes, .inl (cI, 25, .inl o_1_8)), (a_isKept, .inl (cZ, 2, .inl f_isKept)), (a_owed, .inl (cI, 12, .inl f_owed)), (a_told, .inl (cI, 25, .inl o_L35))] H → va_S A s.heap H locs → lv_has ls 2 [(0, .ref a)] → W p l e rm_X8_letting s m ar below meth c H locs 0 0 Q (F0 m 59 ls []) := by
      intro H locs ls hP hS hl
      refine lv_iconst (v := 0) hx hb dX8_letting_59 rfl ?_
      refine lv_istore_n (lv' := [(1, .int 0), (0, .ref a)]) hx hb dX8_letting_60 rfl hl (by decide) rfl (fun ls hl => ?_)
      obtain ⟨o_L61, ho_L61⟩ : ∃ z : Nat → Int32, z = it (v_X8_letting_L61 o_1_7) 12 0 f_owed := ⟨_, rfl⟩
      have kE61 : ∀ (H : Heap) (locs : List Loc) (ls : Array Slot), va_P D vwCl [(a, .inr (8, [.ref a_readWishes, .ref a_readOwed, .int o_1_4, .int o_1_5, .int o_1_6, .ref a_told, .ref a_owed, .int o_1_5, .int o_1_4, .int 0, .ref a_text, .int i_length, .int o_1_2, .int o_1_3, .int i_acts, .int i_next, .ref a_row, .ref a_least, .ref a_values, .int i_tells, .ref a_tellPlace, .ref a_tellHour, .ref a_tellDark, .long j_seed, .ref a_isKept, .ref a_kept])), (a_text, .inl (cI, 72, .inl f_text)), (a_readOwed, .inl (cI, 12, .inl o_1_7)), (a_readWishes, .inl (cI, 25, .inl o_1_8)), (a_isKept, .inl (cZ, 2, .inl f_isKept)), (a_owed, .inl (cI, 12, .inl o_L61)), (a_told, .inl (cI, 25, .inl o_L35))] H → va_S A s.heap H locs → lv_has ls 2 [(0, .ref a)] → W p l e rm_X8_letting s m ar below meth c H locs 0 0 Q (F0 m 85 ls []) := by
        intro H locs ls hP hS hl
        refine lv_aload_n hx hb dX8_letting_85 rfl (lv_at hl 0 rfl) ?_
        refine lv_iconst (v := 0) hx hb dX8_letting_86 rfl ?_
        refine va_put (D := D) (ci := 8) (v := .int 0) (ty := .int) (C := RX8) (T := TX8) (N := 26) hx hb hts (fun _ h => List.mem_cons_of_mem _ (List.mem_append_right _ (h))) tyX8 tyX8_ok nmX8 hown hK hP (va_Dsame hD rfl) hS 0 rfl rfl 14 (by decide) (hts _ (List.mem_of_getElem? (i := 10) rfl)) (fun _ h9 => h9) rfl (tyX8_ok 14 (by decide)) rfl rfl (Nat.le_of_ble_eq_true rfl) dX8_letting_87 (fun H locs hP _ hS => ?_)
        have hP : va_P D vwCl [(a, .inr (8, [.ref a_readWishes, .ref a_readOwed, .int o_1_4, .int o_1_5, .int o_1_6, .ref a_told, .ref a_owed, .int o_1_5, .int o_1_4, .int 0, .ref a_text, .int i_length, .int o_1_2, .int o_1_3, .int 0, .int i_next, .ref a_row, .ref a_least, .ref a_values, .int i_tells, .ref a_tellPlace, .ref a_tellHour, .ref a_tellDark, .long j_seed, .ref a_isKept, .ref a_kept])), (a_text, .inl (cI, 72, .inl f_text)), (a_readOwed, .inl (cI, 12, .inl o_1_7)), (a_readWishes, .inl (cI, 25, .inl o_1_8)), (a_isKept, .inl (cZ, 2, .inl f_isKept)), (a_owed, .inl (cI, 12, .inl o_L61)), (a_told, .inl (cI, 25, .inl o_L35))] H := hP
        refine lv_aload_n hx hb dX8_letting_90 rfl (lv_at hl 0 rfl) ?_
        refine va_get (D := D) (ci := 8) (v := .ref a_isKept) (C := RX8) (T := TX8) (N := 26) hx hb hts (fun _ h => List.mem_cons_of_mem _ (List.mem_append_right _ (h))) hown hK hP 0 rfl rfl 24 (by decide) (hts _ (List.mem_of_getElem? (i := 11) rfl)) (fun _ h9 => h9) rfl dX8_letting_91 ?_
        refine lv_iconst (v := 0) hx hb dX8_letting_94 rfl ?_
        refine lv_iconst (v := 0) hx hb dX8_letting_95 rfl ?_
        refine va_zast hx hb hK hP (va_Dsame hD rfl) hS 4 1 rfl rfl (vp_in_nI (n := 0) (by decide) (by decide)) dX8_letting_96 (fun H locs hP _ hS => ?_)
        have hP : va_P D vwCl [(a, .inr (8, [.ref a_readWishes, .ref a_readOwed, .int o_1_4, .int o_1_5, .int o_1_6, .ref a_told, .ref a_owed, .int o_1_5, .int o_1_4, .int 0, .ref a_text, .int i_length, .int o_1_2, .int o_1_3, .int 0, .int i_next, .ref a_row, .ref a_least, .ref a_values, .int i_tells, .ref a_tellPlace, .ref a_tellHour, .ref a_tellDark, .long j_seed, .ref a_isKept, .ref a_kept])), (a_text, .inl (cI, 72, .inl f_text)), (a_readOwed, .inl (cI, 12, .inl o_1_7)), (a_readWishes, .inl (cI, 25, .inl o_1_8)), (a_isKept, .inl (cZ, 2, .inl (upd f_isKept (0 : Int32).toNatClampNeg (vp_nar .boolean 0)))), (a_owed, .inl (cI, 12, .inl o_L61)), (a_told, .inl (cI, 25, .inl o_L35))] H := hP
        refine lv_aload_n hx hb dX8_letting_97 rfl (lv_at hl 0 rfl) ?_
        refine va_get (D := D) (ci := 8) (v := .ref a_isKept) (C := RX8) (T := TX8) (N := 26) hx hb hts (fun _ h => List.mem_cons_of_mem _ (List.mem_append_right _ (h))) hown hK hP 0 rfl rfl 24 (by decide) (hts _ (List.mem_of_getElem? (i := 11) rfl)) (fun _ h9 => h9) rfl dX8_letting_98 ?_
        refine lv_iconst (v := 1) hx hb dX8_letting_101 rfl ?_
        refine lv_iconst (v := 0) hx hb dX8_letting_102 rfl ?_
        refine va_zast hx hb hK hP (va_Dsame hD rfl) hS 4 1 rfl rfl (vp_in_nI (n := 1) (by decide) (by decide)) dX8_letting_103 (fun H locs hP _ hS => ?_)
        have hP : va_P D vwCl [(a, .inr (8, [.ref a_readWishes, .ref a_readOwed, .int o_1_4, .int o_1_5, .int o_1_6, .ref a_told, .ref a_owed, .int o_1_5, .int o_1_4, .int 0, .ref a_text, .int i_length, .int o_1_2, .int o_1_3, .int 0, .int i_next, .ref a_row, .ref a_least, .ref a_values, .int i_tells, .ref a_tellPlace, .ref a_tellHour, .ref a_tellDark, .long j_seed, .ref a_isKept, .ref a_kept])), (a_text, .inl (cI, 72, .inl f_text)), (a_readOwed, .inl (cI, 12, .inl o_1_7)), (a_readWishes, .inl (cI, 25, .inl o_1_8)), (a_isKept, .inl (cZ, 2, .inl (upd (upd f_isKept (0 : Int32).toNatClampNeg (vp_nar .boolean 0)) (1 : Int32).toNatClampNeg (vp_nar .boolean 0)))), (a_owed, .inl (cI, 12, .inl o_L61)), (a_told, .inl (cI, 25, .inl o_L35))] H := hP
        refine lv_aload_n hx hb dX8_letting_104 rfl (lv_at hl 0 rfl) ?_
        refine va_get (D := D) (ci := 8) (v := .int o_1_5) (C := RX8) (T := TX8) (N := 26) hx hb hts (fun _ h => List.mem_cons_of_mem _ (List.mem_append_right _ (h))) hown hK hP 0 rfl rfl 7 (by decide) (hts _ (List.mem_of_getElem? (i := 4) rfl)) (fun _ h9 => h9) rfl dX8_letting_105 ?_
        have e9 : v_X8_letting i_wishes i_hung i_hour i_length i_acts f_text f_readOwed f_readWishes f_isKept f_owed f_told = (o_1_5, o_1_2, o_1_3, 0, o_1_4, o_1_5, o_1_6, o_1_5, o_1_4, 0, o_1_7, o_1_8, (upd (upd f_isKept (0 : Int32).toNatClampNeg (vp_nar .boolean 0)) (1 : Int32).toNatClampNeg (vp_nar .boolean 0)), o_L61, o_L35) := by
          refine (bnd8_eq ho_1).trans ?_
          refine (if_pos c_6).trans ?_
          refine (bnd_eq ho_L35).trans ?_
          refine (bnd_eq ho_L61).trans ?_
          rfl
        rw [hQ]; exact retI (o_1_5, o_1_2, o_1_3, 0, o_1_4, o_1_5, o_1_6, o_1_5, o_1_4, 0, o_1_7, o_1_8, (upd (upd f_isKept (0 : Int32).toNatClampNeg (vp_nar .boolean 0)) (1 : Int32).toNatClampNeg (vp_nar .boolean 0)), o_L61, o_L35) hx hb hr hlk e9 hP rfl hS dX8_letting_108
      have loop61 : ∀ (k i61 : Nat) (z61 : Nat → Int32), 0 ≤ i61 → i61 + k = 0 + 12 → it (v_X8_letting_L61 o_1_7) k i61 z61 = o_L61 → ∀ (H : Heap) (locs : List Loc) (ls : Array Slot), va_P D vwCl [(a, .inr (8, [.ref a_readWishes, .ref a_readOwed, .int o_1_4, .int o_1_5, .int o_1_6, .ref a_told, .ref a_owed, .int o_1_5, .int o_1_4, .int 0, .ref a_text, .int i_length, .int o_1_2, .int o_1_3, .int i_acts, .int i_next, .ref a_row, .ref a_least, .ref a_values, .int i_tells, .ref a_tellPlace, .ref a_tellHour, .ref a_tellDark, .long j_seed, .ref a_isKept, .ref a_kept])), (a_text, .inl (cI, 72, .inl f_text)), (a_readOwed, .inl (cI, 12, .inl o_1_7)), (a_readWishes, .inl (cI, 25, .inl o_1_8)), (a_isKept, .inl (cZ, 2, .inl f_isKept)), (a_owed, .inl (cI, 12, .inl z61)), (a_told, .inl (cI, 25, .inl o_L35))] H → va_S A s.heap H locs → lv_has ls 2 [(1, .int (nI i61)), (0, .ref a)] → W p l e rm_X8_letting s m ar below meth c H locs 0 0 Q (F0 m 61 ls []) := by
        intro k
        induction k with
        | zero =>
          intro i61 z61 hi0 hik hz H locs ls hP hS hl
          have hz : z61 = o_L61 := it_0 hz
          subst z61
          refine lv_iload_n hx hb dX8_letting_61 rfl (lv_at hl 0 rfl) ?_
          refine lv_bipush (v := 12) hx hb dX8_letting_62 rfl ?_
          refine lv_icmp_ge (tgt := 85) hx hb dX8_letting_64 (by decide) (fun _ => ?_) (fun c => absurd (nI_le (a := 12) (by omega) (by omega)) c)
          exact kE61 _ _ _ hP hS (lv_sub hl [1] rfl)
        | succ k ih =>
          intro i61 z61 hi0 hik hz H locs ls hP hS hl
          refine lv_iload_n hx hb dX8_letting_61 rfl (lv_at hl 0 rfl) ?_
          refine lv_bipush (v := 12) hx hb dX8_letting_62 rfl ?_
          refine lv_icmp_ge (tgt := 85) hx hb dX8_letting_64 (by decide) (fun c => absurd c (nI_ge (b := 12) (by omega) (by decide))) (fun _ => ?_)
          refine lv_aload_n hx hb dX8_letting_67 rfl (lv_at hl 1 rfl) ?_
          refine va_get (D := D) (ci := 8) (v := .ref a_owed) (C := RX8) (T := TX8) (N := 26) hx hb hts (fun _ h => List.mem_cons_of_mem _ (List.mem_append_right _ (h))) hown hK hP 0 rfl rfl 6 (by decide) (hts _ (List.mem_of_getElem? (i := 8) rfl)) (fun _ h9 => h9) rfl dX8_letting_68 ?_
          refine lv_iload_n hx hb dX8_letting_71 rfl (lv_at hl 0 rfl) ?_
          refine lv_aload_n hx hb dX8_letting_72 rfl (lv_at hl 1 rfl) ?_
          refine va_get (D := D) (ci := 8) (v := .ref a_readOwed) (C := RX8) (T := TX8) (N := 26) hx hb hts (fun _ h => List.mem_cons_of_mem _ (List.mem_append_right _ (h))) hown hK hP 0 rfl rfl 1 (by decide) (hts _ (List.mem_of_getElem? (i := 9) rfl)) (fun _ h9 => h9) rfl dX8_letting_73 ?_
          refine lv_iload_n hx hb dX8_letting_76 rfl (lv_at hl 0 rfl) ?_
          refine va_iald hx hb hK hP 2 0 rfl rfl (vp_in_nI (by omega) (by decide)) dX8_letting_77 ?_
          refine va_iast hx hb hK hP (va_Dsame hD rfl) hS 5 0 rfl rfl (vp_in_nI (by omega) (by decide)) dX8_letting_78 (fun H locs hP _ hS => ?_)
          have hP : va_P D vwCl [(a, .inr (8, [.ref a_readWishes, .ref a_readOwed, .int o_1_4, .int o_1_5, .int o_1_6, .ref a_told, .ref a_owed, .int o_1_5, .int o_1_4, .int 0, .ref a_text, .int i_length, .int o_1_2, .int o_1_3, .int i_acts, .int i_next, .ref a_row, .ref a_least, .ref a_values, .int i_tells, .ref a_tellPlace, .ref a_tellHour, .ref a_tellDark, .long j_seed, .ref a_isKept, .ref a_kept])), (a_text, .inl (cI, 72, .inl f_text)), (a_readOwed, .inl (cI, 12, .inl o_1_7)), (a_readWishes, .inl (cI, 25, .inl o_1_8)), (a_isKept, .inl (cZ, 2, .inl f_isKept)), (a_owed, .inl (cI, 12, .inl (upd z61 (nI i61).toNatClampNeg (o_1_7 (nI i61).toNatClampNeg)))), (a_told, .inl (cI, 25, .inl o_L35))] H := hP
          refine lv_iinc (v := (nI (i61 + 1))) (lv' := [(1, .int (nI (i61 + 1))), (0, .ref a)]) hx hb dX8_letting_79 hl (k := 0) rfl (nI_1 _) (by decide) rfl (fun ls hl => ?_)
          refine lv_goto (tgt := 61) hx hb dX8_letting_82 (by decide) ?_
          have e8 : v_X8_letting_L61 o_1_7 i61 z61 = (upd z61 (nI i61).toNatClampNeg (o_1_7 (nI i61).toNatClampNeg)) := by
            rfl
          exact ih (i61 + 1) (upd z61 (nI i61).toNatClampNeg (o_1_7 (nI i61).toNatClampNeg)) (by omega) (by omega) (it_go e8 hz) _ _ _ hP hS (lv_sub hl [0, 1] rfl)
      exact loop61 12 0 f_owed (Nat.le_refl _) rfl ho_L61.symm _ _ _ hP hS (lv_sub hl [0, 1] rfl)
    have loop35 : ∀ (k i35 : Nat) (z35 : Nat → Int32), 0 ≤ i35 → i35 + k = 0 + 25 → it (v_X8_letting_L35 o_1_8) k i35 z35 = o_L35 → ∀ (H : Heap) (locs : List Loc) (ls : Array Slot), va_P D vwCl [(a, .inr (8, [.ref a_readWishes, .ref a_readOwed, .int o_1_4, .int o_1_5, .int o_1_6, .ref a_told, .ref a_owed, .int o_1_5, .int o_1_4, .int 0, .ref a_text, .int i_length, .int o_1_2, .int o_1_3, .int i_acts, .int i_next, .ref a_row, .ref a_least, .ref a_values, .int i_tells, .ref a_tellPlace, .ref a_tellHour, .ref a_tellDark, .long j_seed, .ref a_isKept, .ref a_kept])), (a_text, .inl (cI, 72, .inl f_text)), (a_readOwed, .inl (cI, 12, .inl o_1_7)), (a_readWishes, .inl (cI, 25, .inl o_1_8)), (a_isKept, .inl (cZ, 2, .inl f_isKept)), (a_owed, .inl (cI, 12, .inl f_owed)), (a_told, .inl (cI, 25, .inl z35))] H → va_S A s.heap H locs → lv_has ls 2 [(1, .int (nI i35)), (0, .ref a)] → W p l e rm_X8_letting s m ar below meth c H locs 0 0 Q (F0 m 35 ls []) := by
      intro k
      induction k with
      | zero =>
        intro i35 z35 hi0 hik hz H locs ls hP hS hl
        have hz : z35 = o_L35 := it_0 hz
        subst z35
        refine lv_iload_n hx hb dX8_letting_35 rfl (lv_at hl 0 rfl) ?_
        refine lv_bipush (v := 25) hx hb dX8_letting_36 rfl ?_
        refine lv_icmp_ge (tgt := 59) hx hb dX8_letting_38 (by decide) (fun _ => ?_) (fun c => absurd (nI_le (a := 25) (by omega) (by omega)) c)
        exact kE35 _ _ _ hP hS (lv_sub hl [1] rfl)
      | succ k ih =>
        intro i35 z35 hi0 hik hz H locs ls hP hS hl
        refine lv_iload_n hx hb dX8_letting_35 rfl (lv_at hl 0 rfl) ?_
        refine lv_bipush (v := 25) hx hb dX8_letting_36 rfl ?_
        refine lv_icmp_ge (tgt := 59) hx hb dX8_letting_38 (by decide) (fun c => absurd c (nI_ge (b := 25) (by omega) (by decide))) (fun _ => ?_)
        refine lv_aload_n hx hb dX8_letting_41 rfl (lv_at hl 1 rfl) ?_
        refine va_get (D := D) (ci := 8) (v := .ref a_told) (C := RX8) (T := TX8) (N := 26) hx hb hts (fun _ h => List.mem_cons_of_mem _ (List.mem_append_right _ (h))) hown hK hP 0 rfl rfl 5 (by decide) (hts _ (List.mem_of_getElem? (i := 6) rfl)) (fun _ h9 => h9) rfl dX8_letting_42 ?_
        refine lv_iload_n hx hb dX8_letting_45 rfl (lv_at hl 0 rfl) ?_
        refine lv_aload_n hx hb dX8_letting_46 rfl (lv_at hl 1 rfl) ?_
        refine va_get (D := D) (ci := 8) (v := .ref a_readWishes) (C := RX8) (T := TX8) (N := 26) hx hb hts (fun _ h => List.mem_cons_of_mem _ (List.mem_append_right _ (h))) hown hK hP 0 rfl rfl 0 (by decide) (hts _ (List.mem_of_getElem? (i := 7) rfl)) (fun _ h9 => h9) rfl dX8_letting_47 ?_
        refine lv_iload_n hx hb dX8_letting_50 rfl (lv_at hl 0 rfl) ?_
        refine va_iald hx hb hK hP 3 0 rfl rfl (vp_in_nI (by omega) (by decide)) dX8_letting_51 ?_
        refine va_iast hx hb hK hP (va_Dsame hD rfl) hS 6 0 rfl rfl (vp_in_nI (by omega) (by decide)) dX8_letting_52 (fun H locs hP _ hS => ?_)
        have hP : va_P D vwCl [(a, .inr (8, [.ref a_readWishes, .ref a_readOwed, .int o_1_4, .int o_1_5, .int o_1_6, .ref a_told, .ref a_owed, .int o_1_5, .int o_1_4, .int 0, .ref a_text, .int i_length, .int o_1_2, .int o_1_3, .int i_acts, .int i_next, .ref a_row, .ref a_least, .ref a_values, .int i_tells, .ref a_tellPlace, .ref a_tellHour, .ref a_tellDark, .long j_seed, .ref a_isKept, .ref a_kept])), (a_text, .inl (cI, 72, .inl f_text)), (a_readOwed, .inl (cI, 12, .inl o_1_7)), (a_readWishes, .inl (cI, 25, .inl o_1_8)), (a_isKept, .inl (cZ, 2, .inl f_isKept)), (a_owed, .inl (cI, 12, .inl f_owed)), (a_told, .inl (cI, 25, .inl (upd z35 (nI i35).toNatClampNeg (o_1_8 (nI i35).toNatClampNeg))))] H := hP
        refine lv_iinc (v := (nI (i35 + 1))) (lv' := [(1, .int (nI (i35 + 1))), (0, .ref a)]) hx hb dX8_letting_53 hl (k := 0) rfl (nI_1 _) (by decide) rfl (fun ls hl => ?_)
        refine lv_goto (tgt := 35) hx hb dX8_letting_56 (by decide) ?_
        have e8 : v_X8_letting_L35 o_1_8 i35 z35 = (upd z35 (nI i35).toNatClampNeg (o_1_8 (nI i35).toNatClampNeg)) := by
          rfl
        exact ih (i35 + 1) (upd z35 (nI i35).toNatClampNeg (o_1_8 (nI i35).toNatClampNeg)) (by omega) (by omega) (it_go e8 hz) _ _ _ hP hS (lv_sub hl [0, 1] rfl)
    exact loop35 25 0 f_told (Nat.le_refl _) rfl ho_L35.symm _ _ _ hP hS (lv_sub hl [0, 1] rfl)
  · refine lv_bipush (v := (-3)) hx hb dX8_letting_9 rfl ?_
    have e9 : v_X8_letting i_wishes i_hung i_hour i_length i_acts f_text f_readOwed f_readWishes f_isKept f_owed f_told = ((-3), o_1_2, o_1_3, i_acts, o_1_4, o_1_5, o_1_6, i_wishes, i_hung, i_hour, o_1_7, o_1_8, f_isKept, f_owed, f_told) := by
      refine (bnd8_eq ho_1).trans ?_
      refine (if_neg c_6).trans ?_
      rfl
    rw [hQ]; exact retI ((-3), o_1_2, o_1_3, i_acts, o_1_4, o_1_5, o_1_6, i_wishes, i_hung, i_hour, o_1_7, o_1_8, f_isKept, f_owed, f_told) hx hb hr hlk e9 hP rfl hS dX8_letting_11
def v_X8_isCell (x0 : Int32) : Bool :=
  bnd (v_X8_in x0.toInt64 0 11) fun o_6 =>
  o_6
abbrev rm_X8_isCell : Room := { frames := 1, cells := 0, slots := 0, locals := 25 }
set_option maxHeartbeats 4000000 in
set_option maxRecDepth 100000 in
theorem k_X8_isCell (l : Launch) (D : va_G) (cI cZ : ClassId) (x0 : Int32) : KI l D cI cZ yX8_isCell wsX8_isCell rm_X8_isCell [.int x0] [] (v_X8_isCell x0) (fun o : Bool => bI o) (fun _ : Bool => []) := by
  refine KI.of cX8_isCell 1 (some .boolean) (by decide) rfl (Nat.le_of_ble_eq_true rfl) ?_
  intro p e s m below meth c A ls ar Q hQ B
  obtain ⟨hx, hb, hr, hml, hts, hown, hlk, hK, hN, hP, hD, hA, hS, hl⟩ := B
  have hown : s.vm.findClass RX8 = some m.cls := hown
  have hF : CallFix p m c cX8_isCell 1 s ar wsX8_isCell RX8 := ⟨hx, hb, hml, hown, hts⟩
  have hl : lv_has ls 1 [(0, .int x0)] := hl
  refine lv_iload_n hx hb dX8_isCell_0 rfl (lv_at hl 0 rfl) ?_
  refine lv_i2l (v := x0.toInt64) hx hb dX8_isCell_1 rfl ?_
  refine lv_lconst (v := 0) hx hb dX8_isCell_2 rfl ?_
  refine lv_ldc2 (v := 11) hx hb hown (hts _ (List.mem_of_getElem? (i := 1) rfl)) dX8_isCell_3 ?_
  obtain ⟨o_6, ho_6⟩ : ∃ z : Bool, z = v_X8_in x0.toInt64 0 11 := ⟨_, rfl⟩
  refine callSIs (As := [.long x0.toInt64, .long 0, .long 11]) (rest := []) o_6 ho_6 hF (k_X8_in l D cI cZ x0.toInt64 0 11) (va_cwS 3 hts gX8_isCell_X8_in rfl rfl rfl (by decide +kernel) ⟨Nat.le_of_ble_eq_true rfl, Nat.le_of_ble_eq_true rfl⟩) hK hN hP (va_Dsame hD rfl) hS hA [] rfl rfl rfl hl.1 rfl (Nat.le_of_ble_eq_true rfl) dX8_isCell_6 ⟨Nat.zero_le _, Nat.zero_le _⟩ (bI o_6) rfl rfl (fun H locs hP hS => ?_)
  have e9 : v_X8_isCell x0 = o_6 := by
    refine (bnd_eq ho_6).trans ?_
    rfl
  rw [hQ]; exact retZ (v := fun o : Bool => o) o_6 hx hb hr hlk e9 hP rfl hS dX8_isCell_9
theorem isCell_in {x : Int32} {o : Bool} (ho : o = v_X8_isCell x) (h : ¬ bI o = 0) : vp_in x 12 := by
  obtain ⟨j, _, hj, rfl⟩ := in32 (a := 0) (b := 11) (by decide) (by decide) ho h
  exact vp_in_nI (by omega) (by decide)
def v_X8_isWish (x1 : Int32) (i_wishes : Int32) : Bool :=
  bnd (v_X8_in x1.toInt64 0 ((i_wishes - 1).toInt64)) fun o_10 =>
  o_10
abbrev rm_X8_isWish : Room := { frames := 1, cells := 0, slots := 0, locals := 25 }
set_option maxHeartbeats 4000000 in
set_option maxRecDepth 100000 in
theorem k_X8_isWish (l : Launch) (D : va_G) (cI cZ : ClassId) (a a_readWishes a_readOwed a_told a_owed a_text a_row a_least a_values a_tellPlace a_tellHour a_tellDark a_isKept a_kept : Nat) (x1 : Int32) (i_readHung : Int32) (i_readMany : Int32) (i_readOwes : Int32) (i_wishes : Int32) (i_hung : Int32) (i_hour : Int32) (i_length : Int32) (i_at : Int32) (i_faultAt : Int32) (i_acts : Int32) (i_next : Int32) (i_tells : Int32) (j_seed : Int64) : KI l D cI cZ yX8_isWish wsX8_isWish rm_X8_isWish [.ref a, .int x1] [(a, .inr (8, [.ref a_readWishes, .ref a_readOwed, .int i_readHung, .int i_readMany, .int i_readOwes, .ref a_told, .ref a_owed, .int i_wishes, .int i_hung, .int i_hour, .ref a_text, .int i_length, .int i_at, .int i_faultAt, .int i_acts, .int i_next, .ref a_row, .ref a_least, .ref a_values, .int i_tells, .ref a_tellPlace, .ref a_tellHour, .ref a_tellDark, .long j_seed, .ref a_isKept, .ref a_kept]))] (v_X8_isWish x1 i_wishes) (fun o : Bool => bI o) (fun _ : Bool => [(a, .inr (8, [.ref a_readWishes, .ref a_readOwed, .int i_readHung, .int i_readMany, .int i_readOwes, .ref a_told, .ref a_owed, .int i_wishes, .int i_hung, .int i_hour, .ref a_text, .int i_length, .int i_at, .int i_faultAt, .int i_acts, .int i_next, .ref a_row, .ref a_least, .ref a_values, .int i_tells, .ref a_tellPlace, .ref a_tellHour, .ref a_tellDark, .long j_seed, .ref a_isKept, .ref a_kept]))]) := by
  refine KI.of cX8_isWish 2 (some .boolean) (by decide) rfl (Nat.le_of_ble_eq_true rfl) ?_
  intro p e s m below meth c A ls ar Q hQ B
  obtain ⟨hx, hb, hr, hml, hts, hown, hlk, hK, hN, hP, hD, hA, hS, hl⟩ := B
  have hown : s.vm.findClass RX8 = some m.cls := hown
  have hF : CallFix p m c cX8_isWish 2 s ar wsX8_isWish RX8 := ⟨hx, hb, hml, hown, hts⟩
  have hl : lv_has ls 2 [(0, .ref a), (1, .int x1)] := hl
  refine lv_iload_n hx hb dX8_isWish_0 rfl (lv_at hl 1 rfl) ?_
  refine lv_i2l (v := x1.toInt64) hx hb dX8_isWish_1 rfl ?_
  refine lv_lconst (v := 0) hx hb dX8_isWish_2 rfl ?_
  refine lv_aload_n hx hb dX8_isWish_3 rfl (lv_at hl 0 rfl) ?_
  refine va_get (D := D) (ci := 8) (v := .int i_wishes) (C := RX8) (T := TX8) (N := 26) hx hb hts (fun _ h => List.mem_cons_of_mem _ (List.mem_append_right _ (h))) hown hK hP 0 rfl rfl 7 (by decide) (hts _ (List.mem_of_getElem? (i := 1) rfl)) (fun _ h9 => h9) rfl dX8_isWish_4 ?_
  refine lv_iconst (v := 1) hx hb dX8_isWish_7 rfl ?_
  refine lv_isub hx hb dX8_isWish_8 ?_
  refine lv_i2l (v := ((i_wishes - 1).toInt64)) hx hb dX8_isWish_9 rfl ?_
  obtain ⟨o_10, ho_10⟩ : ∃ z : Bool, z = v_X8_in x1.toInt64 0 ((i_wishes - 1).toInt64) := ⟨_, rfl⟩
  refine callSIs (As := [.long x1.toInt64, .long 0, .long ((i_wishes - 1).toInt64)]) (rest := []) o_10 ho_10 hF (k_X8_in l D cI cZ x1.toInt64 0 ((i_wishes - 1).toInt64)) (va_cwS 3 hts gX8_isWish_X8_in rfl rfl rfl (by decide +kernel) ⟨Nat.le_of_ble_eq_true rfl, Nat.le_of_ble_eq_true rfl⟩) hK hN hP (va_Dsame hD rfl) hS hA [] rfl rfl rfl hl.1 rfl (Nat.le_of_ble_eq_true rfl) dX8_isWish_10 ⟨Nat.zero_le _, Nat.zero_le _⟩ (bI o_10) rfl rfl (fun H locs hP hS => ?_)
  have e9 : v_X8_isWish x1 i_wishes = o_10 := by
    refine (bnd_eq ho_10).trans ?_
    rfl
  rw [hQ]; exact retZ (v := fun o : Bool => o) o_10 hx hb hr hlk e9 hP rfl hS dX8_isWish_13
theorem isWish_in {x w : Int32} {o : Bool} (hw : ∃ k : Nat, k ≤ 5 ∧ w = nI k) (ho : o = v_X8_isWish x w) (h : ¬ bI o = 0) : vp_in x 5 := by
  obtain ⟨k, hk, rfl⟩ := hw
  cases o with
  | false => exact absurd rfl h
  | true =>
    have h1 := in_iff.mp ho.symm
    rw [Int64.le_iff_toInt_le, Int64.le_iff_toInt_le, Int32.toInt_toInt64, Int32.toInt_toInt64] at h1
    have h0 : (0 : Int64).toInt = 0 := rfl
    rw [h0] at h1
    have h2 : ¬ x < 0 := by rw [Int32.lt_iff_toInt_lt]; show ¬ x.toInt < 0; omega
    obtain ⟨j, hj, rfl⟩ := nI_of h2
    rw [nI_toInt hj] at h1
    have h3 : (nI k - 1).toInt = (k : Int) - 1 := (by decide +kernel : ∀ k, k < 6 → (nI k - 1).toInt = (k : Int) - 1) k (by omega)
    rw [h3] at h1
    exact vp_in_nI (by omega) (by decide)
def v_X8_above (x0 : Int32) (x1 : Int32) : Int32 :=
  (((x0 / 6) * 6) + ((((x0 - x0 / 6 * 6) + 6) - x1) - (((x0 - x0 / 6 * 6) + 6) - x1) / 6 * 6))
abbrev rm_X8_above : Room := { frames := 0, cells := 0, slots := 0, locals := 0 }
set_option maxHeartbeats 4000000 in
set_option maxRecDepth 100000 in
theorem k_X8_above (l : Launch) (D : va_G) (cI cZ : ClassId) (x0 : Int32) (x1 : Int32) : KI l D cI cZ yX8_above wsX8_above rm_X8_above [.int x0, .int x1] [] (v_X8_above x0 x1) (fun o : Int32 => o) (fun _ : Int32 => []) := by
  refine KI.of cX8_above 2 (some .int) (by decide) rfl (Nat.le_of_ble_eq_true rfl) ?_
  intro p e s m below meth c A ls ar Q hQ B
  obtain ⟨hx, hb, hr, hml, hts, hown, hlk, hK, hN, hP, hD, hA, hS, hl⟩ := B
  have hown : s.vm.findClass RX8 = some m.cls := hown
  have hF : CallFix p m c cX8_above 2 s ar wsX8_above RX8 := ⟨hx, hb, hml, hown, hts⟩
  have hl : lv_has ls 2 [(0, .int x0), (1, .int x1)] := hl
  refine lv_iload_n hx hb dX8_above_0 rfl (lv_at hl 0 rfl) ?_
  refine lv_bipush (v := 6) hx hb dX8_above_1 rfl ?_
  refine lv_idiv hx hb dX8_above_3 (by decide) ?_
  refine lv_bipush (v := 6) hx hb dX8_above_4 rfl ?_
  refine lv_imul hx hb dX8_above_6 ?_
  refine lv_iload_n hx hb dX8_above_7 rfl (lv_at hl 0 rfl) ?_
  refine lv_bipush (v := 6) hx hb dX8_above_8 rfl ?_
  refine lv_irem hx hb dX8_above_10 (by decide) ?_
  refine lv_bipush (v := 6) hx hb dX8_above_11 rfl ?_
  refine lv_iadd hx hb dX8_above_13 ?_
  refine lv_iload_n hx hb dX8_above_14 rfl (lv_at hl 1 rfl) ?_
  refine lv_isub hx hb dX8_above_15 ?_
  refine lv_bipush (v := 6) hx hb dX8_above_16 rfl ?_
  refine lv_irem hx hb dX8_above_18 (by decide) ?_
  refine lv_iadd hx hb dX8_above_19 ?_
  have e9 : v_X8_above x0 x1 = (((x0 / 6) * 6) + ((((x0 - x0 / 6 * 6) + 6) - x1) - (((x0 - x0 / 6 * 6) + 6) - x1) / 6 * 6)) := by
    rfl
  rw [hQ]; exact retI (((x0 / 6) * 6) + ((((x0 - x0 / 6 * 6) + 6) - x1) - (((x0 - x0 / 6 * 6) + 6) - x1) / 6 * 6)) hx hb hr hlk e9 hP rfl hS dX8_above_20
def v_X8_isDark (x0 : Int32) (x1 : Int32) (x2 : Int32) : Bool :=
  bnd (v_X8_above x1 x2) fun o_3 =>
  (if ((x0 >>> (o_3 &&& 31)) &&& 1) = 1 then true
  else false)
abbrev rm_X8_isDark : Room := { frames := 1, cells := 0, slots := 0, locals := 21 }
set_option maxHeartbeats 4000000 in
set_option maxRecDepth 100000 in
theorem k_X8_isDark (l : Launch) (D : va_G) (cI cZ : ClassId) (x0 : Int32) (x1 : Int32) (x2 : Int32) : KI l D cI cZ yX8_isDark wsX8_isDark rm_X8_isDark [.int x0, .int x1, .int x2] [] (v_X8_isDark x0 x1 x2) (fun o : Bool => bI o) (fun _ : Bool => []) := by
  refine KI.of cX8_isDark 3 (some .boolean) (by decide) rfl (Nat.le_of_ble_eq_true rfl) ?_
  intro p e s m below meth c A ls ar Q hQ B
  obtain ⟨hx, hb, hr, hml, hts, hown, hlk, hK, hN, hP, hD, hA, hS, hl⟩ := B
  have hown : s.vm.findClass RX8 = some m.cls := hown
  have hF : CallFix p m c cX8_isDark 3 s ar wsX8_isDark RX8 := ⟨hx, hb, hml, hown, hts⟩
  have hl : lv_has ls 3 [(0, .int x0), (1, .int x1), (2, .int x2)] := hl
  refine lv_iload_n hx hb dX8_isDark_0 rfl (lv_at hl 0 rfl) ?_
  refine lv_iload_n hx hb dX8_isDark_1 rfl (lv_at hl 1 rfl) ?_
  refine lv_iload_n hx hb dX8_isDark_2 rfl (lv_at hl 2 rfl) ?_
  obtain ⟨o_3, ho_3⟩ : ∃ z : Int32, z = v_X8_above x1 x2 := ⟨_, rfl⟩
  refine callSIs (As := [.int x1, .int x2]) (rest := [.int x0]) o_3 ho_3 hF (k_X8_above l D cI cZ x1 x2) (va_cwS 2 hts gX8_isDark_X8_above rfl rfl rfl (by decide +kernel) ⟨Nat.le_of_ble_eq_true rfl, Nat.le_of_ble_eq_true rfl⟩) hK hN hP (va_Dsame hD rfl) hS hA [] rfl rfl rfl hl.1 rfl (Nat.le_of_ble_eq_true rfl) dX8_isDark_3 ⟨Nat.zero_le _, Nat.zero_le _⟩ o_3 rfl rfl (fun H locs hP hS => ?_)
  refine lv_ishr hx hb dX8_isDark_6 ?_
  refine lv_iconst (v := 1) hx hb dX8_isDark_7 rfl ?_
  refine lv_iand hx hb dX8_isDark_8 ?_
  refine lv_iconst (v := 1) hx hb dX8_isDark_9 rfl ?_
  refine lv_icmp_ne (tgt := 17) hx hb dX8_isDark_10 (by decide) (fun c_10 => ?_) (fun c_10 => ?_)
  · refine lv_iconst (v := 0) hx hb dX8_isDark_17 rfl ?_
    have e9 : v_X8_isDark x0 x1 x2 = false := by
      refine (bnd_eq ho_3).trans ?_
      refine (if_neg c_10).trans ?_
      rfl
    rw [hQ]; exact retZ (v := fun o : Bool => o) false hx hb hr hlk e9 hP rfl hS dX8_isDark_18
  · refine lv_iconst (v := 1) hx hb dX8_isDark_13 rfl ?_
    refine lv_goto (tgt := 18) hx hb dX8_isDark_14 (by decide) ?_
    have e9 : v_X8_isDark x0 x1 x2 = true := by
      refine (bnd_eq ho_3).trans ?_
      refine (if_pos c_10).trans ?_
      rfl
    rw [hQ]; exact retZ (v := fun o : Bool => o) true hx hb hr hlk e9 hP rfl hS dX8_isDark_18
def v_X8_hoursOf_L4 (x1 : Int32) (f_told : Nat → Int32) (i4 : Nat) (z4 : Int32) : Int32 :=
  bnd ((z4 ||| ((1 : Int32) <<< ((((f_told ((5 * x1) + 1).toNatClampNeg) + nI i4) - ((f_told ((5 * x1) + 1).toNatClampNeg) + nI i4) / 6 * 6) &&& 31)))) fun w_37 =>
  w_37
def v_X8_hoursOf (x1 : Int32) (f_told : Nat → Int32) : Int32 :=
  bnd (it (v_X8_hoursOf_L4 x1 f_told) (f_told ((5 * x1) + 2).toNatClampNeg).toNatClampNeg 0 0) fun o_L4 =>
  o_L4
abbrev rm_X8_hoursOf : Room := { frames := 0, cells := 0, slots := 0, locals := 0 }
set_option maxHeartbeats 4000000 in
set_option maxRecDepth 100000 in
theorem k_X8_hoursOf (l : Launch) (D : va_G) (cI cZ : ClassId) (a a_readWishes a_readOwed a_told a_owed a_text a_row a_least a_values a_tellPlace a_tellHour a_tellDark a_isKept a_kept : Nat) (x1 : Int32) (i_readHung : Int32) (i_readMany : Int32) (i_readOwes : Int32) (i_wishes : Int32) (i_hung : Int32) (i_hour : Int32) (i_length : Int32) (i_at : Int32) (i_faultAt : Int32) (i_acts : Int32) (i_next : Int32) (i_tells : Int32) (j_seed : Int64) (f_told : Nat → Int32) (hx1 : vp_in x1 5) : KI l D cI cZ yX8_hoursOf wsX8_hoursOf rm_X8_hoursOf [.ref a, .int x1] [(a, .inr (8, [.ref a_readWishes, .ref a_readOwed, .int i_readHung, .int i_readMany, .int i_readOwes, .ref a_told, .ref a_owed, .int i_wishes, .int i_hung, .int i_hour, .ref a_text, .int i_length, .int i_at, .int i_faultAt, .int i_acts, .int i_next, .ref a_row, .ref a_least, .ref a_values, .int i_tells, .ref a_tellPlace, .ref a_tellHour, .ref a_tellDark, .long j_seed, .ref a_isKept, .ref a_kept])), (a_told, .inl (cI, 25, .inl f_told))] (v_X8_hoursOf x1 f_told) (fun o : Int32 => o) (fun _ : Int32 => [(a, .inr (8, [.ref a_readWishes, .ref a_readOwed, .int i_readHung, .int i_readMany, .int i_readOwes, .ref a_told, .ref a_owed, .int i_wishes, .int i_hung, .int i_hour, .ref a_text, .int i_length, .int i_at, .int i_faultAt, .int i_acts, .int i_next, .ref a_row, .ref a_least, .ref a_values, .int i_tells, .ref a_tellPlace, .ref a_tellHour, .ref a_tellDark, .long j_seed, .ref a_isKept, .ref a_kept])), (a_told, .inl (cI, 25, .inl f_told))]) := by
  refine KI.of cX8_hoursOf 4 (some .int) (by decide) rfl (Nat.le_of_ble_eq_true rfl) ?_
  intro p e s m below meth c A ls ar Q hQ B
  obtain ⟨hx, hb, hr, hml, hts, hown, hlk, hK, hN, hP, hD, hA, hS, hl⟩ := B
  have hown : s.vm.findClass RX8 = some m.cls := hown
  have hF : CallFix p m c cX8_hoursOf 4 s ar wsX8_hoursOf RX8 := ⟨hx, hb, hml, hown, hts⟩
  have hl : lv_has ls 4 [(0, .ref a), (1, .int x1)] := hl
  refine lv_iconst (v := 0) hx hb dX8_hoursOf_0 rfl ?_
  refine lv_istore_n (lv' := [(2, .int 0), (0, .ref a), (1, .int x1)]) hx hb dX8_hoursOf_1 rfl hl (by decide) rfl (fun ls hl => ?_)
  refine lv_iconst (v := 0) hx hb dX8_hoursOf_2 rfl ?_
  refine lv_istore_n (lv' := [(3, .int 0), (2, .int 0), (0, .ref a), (1, .int x1)]) hx hb dX8_hoursOf_3 rfl hl (by decide) rfl (fun ls hl => ?_)
  obtain ⟨o_L4, ho_L4⟩ : ∃ z : Int32, z = it (v_X8_hoursOf_L4 x1 f_told) (f_told ((5 * x1) + 2).toNatClampNeg).toNatClampNeg 0 0 := ⟨_, rfl⟩
  have kE4 : ∀ (H : Heap) (locs : List Loc) (ls : Array Slot), va_P D vwCl [(a, .inr (8, [.ref a_readWishes, .ref a_readOwed, .int i_readHung, .int i_readMany, .int i_readOwes, .ref a_told, .ref a_owed, .int i_wishes, .int i_hung, .int i_hour, .ref a_text, .int i_length, .int i_at, .int i_faultAt, .int i_acts, .int i_next, .ref a_row, .ref a_least, .ref a_values, .int i_tells, .ref a_tellPlace, .ref a_tellHour, .ref a_tellDark, .long j_seed, .ref a_isKept, .ref a_kept])), (a_told, .inl (cI, 25, .inl f_told))] H → va_S A s.heap H locs → lv_has ls 4 [(2, .int o_L4)] → W p l e rm_X8_hoursOf s m ar below meth c H locs 0 0 Q (F0 m 44 ls []) := by
    intro H locs ls hP hS hl
    refine lv_iload_n hx hb dX8_hoursOf_44 rfl (lv_at hl 0 rfl) ?_
    have e9 : v_X8_hoursOf x1 f_told = o_L4 := by
      refine (bnd_eq ho_L4).trans ?_
      rfl
    rw [hQ]; exact retI o_L4 hx hb hr hlk e9 hP rfl hS dX8_hoursOf_45
  have loop4 : ∀ (k i4 : Nat) (z4 : Int32), 0 ≤ i4 → i4 + k = 0 + (f_told ((5 * x1) + 2).toNatClampNeg).toNatClampNeg → it (v_X8_hoursOf_L4 x1 f_told) k i4 z4 = o_L4 → ∀ (H : Heap) (locs : List Loc) (ls : Array Slot), va_P D vwCl [(a, .inr (8, [.ref a_readWishes, .ref a_readOwed, .int i_readHung, .int i_readMany, .int i_readOwes, .ref a_told, .ref a_owed, .int i_wishes, .int i_hung, .int i_hour, .ref a_text, .int i_length, .int i_at, .int i_faultAt, .int i_acts, .int i_next, .ref a_row, .ref a_least, .ref a_values, .int i_tells, .ref a_tellPlace, .ref a_tellHour, .ref a_tellDark, .long j_seed, .ref a_isKept, .ref a_kept])), (a_told, .inl (cI, 25, .inl f_told))] H → va_S A s.heap H locs → lv_has ls 4 [(3, .int (nI i4)), (2, .int z4), (0, .ref a), (1, .int x1)] → W p l e rm_X8_hoursOf s m ar below meth c H locs 0 0 Q (F0 m 4 ls []) := by
    intro k
    induction k with
    | zero =>
      intro i4 z4 hi0 hik hz H locs ls hP hS hl
      have hz : z4 = o_L4 := it_0 hz
      subst z4
      refine lv_iload_n hx hb dX8_hoursOf_4 rfl (lv_at hl 0 rfl) ?_
      refine lv_aload_n hx hb dX8_hoursOf_5 rfl (lv_at hl 2 rfl) ?_
      refine va_get (D := D) (ci := 8) (v := .ref a_told) (C := RX8) (T := TX8) (N := 26) hx hb hts (fun _ h => List.mem_cons_of_mem _ (List.mem_append_right _ (h))) hown hK hP 0 rfl rfl 5 (by decide) (hts _ (List.mem_of_getElem? (i := 1) rfl)) (fun _ h9 => h9) rfl dX8_hoursOf_6 ?_
      refine lv_iconst (v := 5) hx hb dX8_hoursOf_9 rfl ?_
      refine lv_iload_n hx hb dX8_hoursOf_10 rfl (lv_at hl 3 rfl) ?_
      refine lv_imul hx hb dX8_hoursOf_11 ?_
      refine lv_iconst (v := 2) hx hb dX8_hoursOf_12 rfl ?_
      refine lv_iadd hx hb dX8_hoursOf_13 ?_
      refine va_iald hx hb hK hP 1 0 rfl rfl (ix5v (c := 2) hx1 (by decide)) dX8_hoursOf_14 ?_
      refine lv_icmp_ge (tgt := 44) hx hb dX8_hoursOf_15 (by decide) (fun _ => ?_) (fun c => absurd (cb_ge (by omega) (by have := cb_lt31 (f_told ((5 * x1) + 2).toNatClampNeg); omega)) c)
      exact kE4 _ _ _ hP hS (lv_sub hl [1] rfl)
    | succ k ih =>
      intro i4 z4 hi0 hik hz H locs ls hP hS hl
      refine lv_iload_n hx hb dX8_hoursOf_4 rfl (lv_at hl 0 rfl) ?_
      refine lv_aload_n hx hb dX8_hoursOf_5 rfl (lv_at hl 2 rfl) ?_
      refine va_get (D := D) (ci := 8) (v := .ref a_told) (C := RX8) (T := TX8) (N := 26) hx hb hts (fun _ h => List.mem_cons_of_mem _ (List.mem_append_right _ (h))) hown hK hP 0 rfl rfl 5 (by decide) (hts _ (List.mem_of_getElem? (i := 1) rfl)) (fun _ h9 => h9) rfl dX8_hoursOf_6 ?_
      refine lv_iconst (v := 5) hx hb dX8_hoursOf_9 rfl ?_
      refine lv_iload_n hx hb dX8_hoursOf_10 rfl (lv_at hl 3 rfl) ?_
      refine lv_imul hx hb dX8_hoursOf_11 ?_
      refine lv_iconst (v := 2) hx hb dX8_hoursOf_12 rfl ?_
      refine lv_iadd hx hb dX8_hoursOf_13 ?_
      refine va_iald hx hb hK hP 1 0 rfl rfl (ix5v (c := 2) hx1 (by decide)) dX8_hoursOf_14 ?_
      refine lv_icmp_ge (tgt := 44) hx hb dX8_hoursOf_15 (by decide) (fun c => absurd c (cb_lt (by omega))) (fun _ => ?_)
      refine lv_iload_n hx hb dX8_hoursOf_18 rfl (lv_at hl 1 rfl) ?_
      refine lv_iconst (v := 1) hx hb dX8_hoursOf_19 rfl ?_
      refine lv_aload_n hx hb dX8_hoursOf_20 rfl (lv_at hl 2 rfl) ?_
      refine va_get (D := D) (ci := 8) (v := .ref a_told) (C := RX8) (T := TX8) (N := 26) hx hb hts (fun _ h => List.mem_cons_of_mem _ (List.mem_append_right _ (h))) hown hK hP 0 rfl rfl 5 (by decide) (hts _ (List.mem_of_getElem? (i := 1) rfl)) (fun _ h9 => h9) rfl dX8_hoursOf_21 ?_
      refine lv_iconst (v := 5) hx hb dX8_hoursOf_24 rfl ?_
      refine lv_iload_n hx hb dX8_hoursOf_25 rfl (lv_at hl 3 rfl) ?_
      refine lv_imul hx hb dX8_hoursOf_26 ?_
      refine lv_iconst (v := 1) hx hb dX8_hoursOf_27 rfl ?_
      refine lv_iadd hx hb dX8_hoursOf_28 ?_
      refine va_iald hx hb hK hP 1 0 rfl rfl (ix5v (c := 1) hx1 (by decide)) dX8_hoursOf_29 ?_
      refine lv_iload_n hx hb dX8_hoursOf_30 rfl (lv_at hl 0 rfl) ?_
      refine lv_iadd hx hb dX8_hoursOf_31 ?_
      refine lv_bipush (v := 6) hx hb dX8_hoursOf_32 rfl ?_
      refine lv_irem hx hb dX8_hoursOf_34 (by decide) ?_
      refine lv_ishl hx hb dX8_hoursOf_35 ?_
      refine lv_ior hx hb dX8_hoursOf_36 ?_
      refine lv_topi (fun w_37 hw_37 => ?_)
      refine lv_istore_n (lv' := [(2, .int w_37), (3, .int (nI i4)), (0, .ref a), (1, .int x1)]) hx hb dX8_hoursOf_37 rfl hl (by decide) rfl (fun ls hl => ?_)
      refine lv_iinc (v := (nI (i4 + 1))) (lv' := [(3, .int (nI (i4 + 1))), (2, .int w_37), (0, .ref a), (1, .int x1)]) hx hb dX8_hoursOf_38 hl (k := 1) rfl (nI_1 _) (by decide) rfl (fun ls hl => ?_)
      refine lv_goto (tgt := 4) hx hb dX8_hoursOf_41 (by decide) ?_
      have e8 : v_X8_hoursOf_L4 x1 f_told i4 z4 = w_37 := by
        refine (bnd_eq hw_37).trans ?_
        rfl
      exact ih (i4 + 1) w_37 (by omega) (by omega) (it_go e8 hz) _ _ _ hP hS (lv_sub hl [0, 1, 2, 3] rfl)
  exact loop4 (f_told ((5 * x1) + 2).toNatClampNeg).toNatClampNeg 0 0 (Nat.le_refl _) rfl ho_L4.symm _ _ _ hP hS (lv_sub hl [0, 1, 2, 3] rfl)
def v_X8_darkHours_L4 (x0 : Int32) (x1 : Int32) (i4 : Nat) (z4 : Int32) : Int32 :=
  bnd (v_X8_isDark x0 x1 (nI i4)) fun o_14 =>
  (if bI o_14 = 0 then (z4 ||| 0)
  else (z4 ||| ((1 : Int32) <<< (nI i4 &&& 31))))
def v_X8_darkHours (x0 : Int32) (x1 : Int32) : Int32 :=
  bnd (it (v_X8_darkHours_L4 x0 x1) 6 0 0) fun o_L4 =>
  o_L4
abbrev rm_X8_darkHours : Room := { frames := 2, cells := 0, slots := 0, locals := 43 }
set_option maxHeartbeats 4000000 in
set_option maxRecDepth 100000 in
theorem k_X8_darkHours (l : Launch) (D : va_G) (cI cZ : ClassId) (x0 : Int32) (x1 : Int32) : KI l D cI cZ yX8_darkHours wsX8_darkHours rm_X8_darkHours [.int x0, .int x1] [] (v_X8_darkHours x0 x1) (fun o : Int32 => o) (fun _ : Int32 => []) := by
  refine KI.of cX8_darkHours 4 (some .int) (by decide) rfl (Nat.le_of_ble_eq_true rfl) ?_
  intro p e s m below meth c A ls ar Q hQ B
  obtain ⟨hx, hb, hr, hml, hts, hown, hlk, hK, hN, hP, hD, hA, hS, hl⟩ := B
  have hown : s.vm.findClass RX8 = some m.cls := hown
  have hF : CallFix p m c cX8_darkHours 4 s ar wsX8_darkHours RX8 := ⟨hx, hb, hml, hown, hts⟩
  have hl : lv_has ls 4 [(0, .int x0), (1, .int x1)] := hl
  refine lv_iconst (v := 0) hx hb dX8_darkHours_0 rfl ?_
  refine lv_istore_n (lv' := [(2, .int 0), (0, .int x0), (1, .int x1)]) hx hb dX8_darkHours_1 rfl hl (by decide) rfl (fun ls hl => ?_)
  refine lv_iconst (v := 0) hx hb dX8_darkHours_2 rfl ?_
  refine lv_istore_n (lv' := [(3, .int 0), (2, .int 0), (0, .int x0), (1, .int x1)]) hx hb dX8_darkHours_3 rfl hl (by decide) rfl (fun ls hl => ?_)
  obtain ⟨o_L4, ho_L4⟩ : ∃ z : Int32, z = it (v_X8_darkHours_L4 x0 x1) 6 0 0 := ⟨_, rfl⟩
  have kE4 : ∀ (H : Heap) (locs : List Loc) (ls : Array Slot), va_P D vwCl [] H → va_S A s.heap H locs → lv_has ls 4 [(2, .int o_L4)] → W p l e rm_X8_darkHours s m ar below meth c H locs 0 0 Q (F0 m 35 ls []) := by
    intro H locs ls hP hS hl
    refine lv_iload_n hx hb dX8_darkHours_35 rfl (lv_at hl 0 rfl) ?_
    have e9 : v_X8_darkHours x0 x1 = o_L4 := by
      refine (bnd_eq ho_L4).trans ?_
      rfl
    rw [hQ]; exact retI o_L4 hx hb hr hlk e9 hP rfl hS dX8_darkHours_36
  have loop4 : ∀ (k i4 : Nat) (z4 : Int32), 0 ≤ i4 → i4 + k = 0 + 6 → it (v_X8_darkHours_L4 x0 x1) k i4 z4 = o_L4 → ∀ (H : Heap) (locs : List Loc) (ls : Array Slot), va_P D vwCl [] H → va_S A s.heap H locs → lv_has ls 4 [(3, .int (nI i4)), (2, .int z4), (0, .int x0), (1, .int x1)] → W p l e rm_X8_darkHours s m ar below meth c H locs 0 0 Q (F0 m 4 ls []) := by
    intro k
    induction k with
    | zero =>
      intro i4 z4 hi0 hik hz H locs ls hP hS hl
      have hz : z4 = o_L4 := it_0 hz
      subst z4
      refine lv_iload_n hx hb dX8_darkHours_4 rfl (lv_at hl 0 rfl) ?_
      refine lv_bipush (v := 6) hx hb dX8_darkHours_5 rfl ?_
      refine lv_icmp_ge (tgt := 35) hx hb dX8_darkHours_7 (by decide) (fun _ => ?_) (fun c => absurd (nI_le (a := 6) (by omega) (by omega)) c)
      exact kE4 _ _ _ hP hS (lv_sub hl [1] rfl)
    | succ k ih =>
      intro i4 z4 hi0 hik hz H locs ls hP hS hl
      refine lv_iload_n hx hb dX8_darkHours_4 rfl (lv_at hl 0 rfl) ?_
      refine lv_bipush (v := 6) hx hb dX8_darkHours_5 rfl ?_
      refine lv_icmp_ge (tgt := 35) hx hb dX8_darkHours_7 (by decide) (fun c => absurd c (nI_ge (b := 6) (by omega) (by decide))) (fun _ => ?_)
      refine lv_iload_n hx hb dX8_darkHours_10 rfl (lv_at hl 1 rfl) ?_
      refine lv_iload_n hx hb dX8_darkHours_11 rfl (lv_at hl 2 rfl) ?_
      refine lv_iload_n hx hb dX8_darkHours_12 rfl (lv_at hl 3 rfl) ?_
      refine lv_iload_n hx hb dX8_darkHours_13 rfl (lv_at hl 0 rfl) ?_
      obtain ⟨o_14, ho_14⟩ : ∃ z : Bool, z = v_X8_isDark x0 x1 (nI i4) := ⟨_, rfl⟩
      refine callSIs (As := [.int x0, .int x1, .int (nI i4)]) (rest := [.int z4]) o_14 ho_14 hF (k_X8_isDark l D cI cZ x0 x1 (nI i4)) (va_cwS 3 hts gX8_darkHours_X8_isDark rfl rfl rfl (by decide +kernel) ⟨Nat.le_of_ble_eq_true rfl, Nat.le_of_ble_eq_true rfl⟩) hK hN hP (va_Dsame hD rfl) hS hA [] rfl rfl rfl hl.1 rfl (Nat.le_of_ble_eq_true rfl) dX8_darkHours_14 ⟨Nat.zero_le _, Nat.zero_le _⟩ (bI o_14) rfl rfl (fun H locs hP hS => ?_)
      refine lv_if_eq (tgt := 26) hx hb dX8_darkHours_17 (by decide) (fun c_17 => ?_) (fun c_17 => ?_)
      · refine lv_iconst (v := 0) hx hb dX8_darkHours_26 rfl ?_
        refine lv_ior hx hb dX8_darkHours_27 ?_
        refine lv_istore_n (lv' := [(2, .int (z4 ||| 0)), (3, .int (nI i4)), (0, .int x0), (1, .int x1)]) hx hb dX8_darkHours_28 rfl hl (by decide) rfl (fun ls hl => ?_)
        refine lv_iinc (v := (nI (i4 + 1))) (lv' := [(3, .int (nI (i4 + 1))), (2, .int (z4 ||| 0)), (0, .int x0), (1, .int x1)]) hx hb dX8_darkHours_29 hl (k := 1) rfl (nI_1 _) (by decide) rfl (fun ls hl => ?_)
        refine lv_goto (tgt := 4) hx hb dX8_darkHours_32 (by decide) ?_
        have e8 : v_X8_darkHours_L4 x0 x1 i4 z4 = (z4 ||| 0) := by
          refine (bnd_eq ho_14).trans ?_
          refine (if_pos c_17).trans ?_
          rfl
        exact ih (i4 + 1) (z4 ||| 0) (by omega) (by omega) (it_go e8 hz) _ _ _ hP hS (lv_sub hl [0, 1, 2, 3] rfl)
      · refine lv_iconst (v := 1) hx hb dX8_darkHours_20 rfl ?_
        refine lv_iload_n hx hb dX8_darkHours_21 rfl (lv_at hl 0 rfl) ?_
        refine lv_ishl hx hb dX8_darkHours_22 ?_
        refine lv_goto (tgt := 27) hx hb dX8_darkHours_23 (by decide) ?_
        refine lv_ior hx hb dX8_darkHours_27 ?_
        refine lv_istore_n (lv' := [(2, .int (z4 ||| ((1 : Int32) <<< (nI i4 &&& 31)))), (3, .int (nI i4)), (0, .int x0), (1, .int x1)]) hx hb dX8_darkHours_28 rfl hl (by decide) rfl (fun ls hl => ?_)
        refine lv_iinc (v := (nI (i4 + 1))) (lv' := [(3, .int (nI (i4 + 1))), (2, .int (z4 ||| ((1 : Int32) <<< (nI i4 &&& 31)))), (0, .int x0), (1, .int x1)]) hx hb dX8_darkHours_29 hl (k := 1) rfl (nI_1 _) (by decide) rfl (fun ls hl => ?_)
        refine lv_goto (tgt := 4) hx hb dX8_darkHours_32 (by decide) ?_
        have e8 : v_X8_darkHours_L4 x0 x1 i4 z4 = (z4 ||| ((1 : Int32) <<< (nI i4 &&& 31))) := by
          refine (bnd_eq ho_14).trans ?_
          refine (if_neg c_17).trans ?_
          rfl
        exact ih (i4 + 1) (z4 ||| ((1 : Int32) <<< (nI i4 &&& 31))) (by omega) (by omega) (it_go e8 hz) _ _ _ hP hS (lv_sub hl [0, 1, 2, 3] rfl)
  exact loop4 6 0 0 (Nat.le_refl _) rfl ho_L4.symm _ _ _ hP hS (lv_sub hl [0, 1, 2, 3] rfl)
def v_X8_grants (x1 : Int32) (x2 : Int32) (f_told : Nat → Int32) : Bool :=
  bnd (v_X8_darkHours x1 (f_told (5 * x2).toNatClampNeg)) fun o_9 =>
  (bnd (v_X8_hoursOf x2 f_told) fun o_15 =>
  (if (f_told ((5 * x2) + 4).toNatClampNeg) = 1 then (if (o_15 &&& (o_9 ^^^ (-1))) = 0 then true
    else false)
  else (if (o_15 &&& o_9) = 0 then true
  else false)))
abbrev rm_X8_grants : Room := { frames := 3, cells := 0, slots := 0, locals := 66 }
set_option maxHeartbeats 4000000 in
set_option maxRecDepth 100000 in
theorem k_X8_grants (l : Launch) (D : va_G) (cI cZ : ClassId) (a a_readWishes a_readOwed a_told a_owed a_text a_row a_least a_values a_tellPlace a_tellHour a_tellDark a_isKept a_kept : Nat) (x1 : Int32) (x2 : Int32) (i_readHung : Int32) (i_readMany : Int32) (i_readOwes : Int32) (i_wishes : Int32) (i_hung : Int32) (i_hour : Int32) (i_length : Int32) (i_at : Int32) (i_faultAt : Int32) (i_acts : Int32) (i_next : Int32) (i_tells : Int32) (j_seed : Int64) (f_told : Nat → Int32) (hx2 : vp_in x2 5) : KI l D cI cZ yX8_grants wsX8_grants rm_X8_grants [.ref a, .int x1, .int x2] [(a, .inr (8, [.ref a_readWishes, .ref a_readOwed, .int i_readHung, .int i_readMany, .int i_readOwes, .ref a_told, .ref a_owed, .int i_wishes, .int i_hung, .int i_hour, .ref a_text, .int i_length, .int i_at, .int i_faultAt, .int i_acts, .int i_next, .ref a_row, .ref a_least, .ref a_values, .int i_tells, .ref a_tellPlace, .ref a_tellHour, .ref a_tellDark, .long j_seed, .ref a_isKept, .ref a_kept])), (a_told, .inl (cI, 25, .inl f_told))] (v_X8_grants x1 x2 f_told) (fun o : Bool => bI o) (fun _ : Bool => [(a, .inr (8, [.ref a_readWishes, .ref a_readOwed, .int i_readHung, .int i_readMany, .int i_readOwes, .ref a_told, .ref a_owed, .int i_wishes, .int i_hung, .int i_hour, .ref a_text, .int i_length, .int i_at, .int i_faultAt, .int i_acts, .int i_next, .ref a_row, .ref a_least, .ref a_values, .int i_tells, .ref a_tellPlace, .ref a_tellHour, .ref a_tellDark, .long j_seed, .ref a_isKept, .ref a_kept])), (a_told, .inl (cI, 25, .inl f_told))]) := by
  refine KI.of cX8_grants 5 (some .boolean) (by decide) rfl (Nat.le_of_ble_eq_true rfl) ?_
  intro p e s m below meth c A ls ar Q hQ B
  obtain ⟨hx, hb, hr, hml, hts, hown, hlk, hK, hN, hP, hD, hA, hS, hl⟩ := B
  have hown : s.vm.findClass RX8 = some m.cls := hown
  have hF : CallFix p m c cX8_grants 5 s ar wsX8_grants RX8 := ⟨hx, hb, hml, hown, hts⟩
  have hl : lv_has ls 5 [(0, .ref a), (1, .int x1), (2, .int x2)] := hl
  refine lv_iload_n hx hb dX8_grants_0 rfl (lv_at hl 1 rfl) ?_
  refine lv_aload_n hx hb dX8_grants_1 rfl (lv_at hl 0 rfl) ?_
  refine va_get (D := D) (ci := 8) (v := .ref a_told) (C := RX8) (T := TX8) (N := 26) hx hb hts (fun _ h => List.mem_cons_of_mem _ (List.mem_append_right _ (h))) hown hK hP 0 rfl rfl 5 (by decide) (hts _ (List.mem_of_getElem? (i := 1) rfl)) (fun _ h9 => h9) rfl dX8_grants_2 ?_
  refine lv_iconst (v := 5) hx hb dX8_grants_5 rfl ?_
  refine lv_iload_n hx hb dX8_grants_6 rfl (lv_at hl 2 rfl) ?_
  refine lv_imul hx hb dX8_grants_7 ?_
  refine va_iald hx hb hK hP 1 0 rfl rfl (ix5z hx2) dX8_grants_8 ?_
  obtain ⟨o_9, ho_9⟩ : ∃ z : Int32, z = v_X8_darkHours x1 (f_told (5 * x2).toNatClampNeg) := ⟨_, rfl⟩
  refine callSIs (As := [.int x1, .int (f_told (5 * x2).toNatClampNeg)]) (rest := []) o_9 ho_9 hF (k_X8_darkHours l D cI cZ x1 (f_told (5 * x2).toNatClampNeg)) (va_cwS 2 hts gX8_grants_X8_darkHours rfl rfl rfl (by decide +kernel) ⟨Nat.le_of_ble_eq_true rfl, Nat.le_of_ble_eq_true rfl⟩) hK hN hP (va_Dsame hD rfl) hS hA [] rfl rfl rfl hl.1 rfl (Nat.le_of_ble_eq_true rfl) dX8_grants_9 ⟨Nat.zero_le _, Nat.zero_le _⟩ o_9 rfl rfl (fun H locs hP hS => ?_)
  refine lv_istore_n (lv' := [(3, .int o_9), (0, .ref a), (1, .int x1), (2, .int x2)]) hx hb dX8_grants_12 rfl hl (by decide) rfl (fun ls hl => ?_)
  refine lv_aload_n hx hb dX8_grants_13 rfl (lv_at hl 1 rfl) ?_
  refine lv_iload_n hx hb dX8_grants_14 rfl (lv_at hl 3 rfl) ?_
  obtain ⟨o_15, ho_15⟩ : ∃ z : Int32, z = v_X8_hoursOf x2 f_told := ⟨_, rfl⟩
  refine callVIs (As := [.int x2]) (rest := []) o_15 ho_15 hF (k_X8_hoursOf l D cI cZ a a_readWishes a_readOwed a_told a_owed a_text a_row a_least a_values a_tellPlace a_tellHour a_tellDark a_isKept a_kept x2 i_readHung i_readMany i_readOwes i_wishes i_hung i_hour i_length i_at i_faultAt i_acts i_next i_tells j_seed f_told (hx2)) (cwV 1 hts gX8_grants_X8_hoursOf rfl rfl rfl (by decide +kernel) ⟨Nat.le_of_ble_eq_true rfl, Nat.le_of_ble_eq_true rfl⟩) hK hN hP (va_Dsame hD rfl) hS hA [0, 1] rfl rfl 0 8 (T := TX8) (N := 26) rfl rfl rfl hl.1 rfl (Nat.le_of_ble_eq_true rfl) dX8_grants_15 ⟨Nat.zero_le _, Nat.zero_le _⟩ o_15 rfl rfl (fun H locs hP hS => ?_)
  refine lv_istore (lv' := [(4, .int o_15), (3, .int o_9), (0, .ref a), (1, .int x1), (2, .int x2)]) hx hb dX8_grants_18 hl (by decide) rfl (fun ls hl => ?_)
  refine lv_aload_n hx hb dX8_grants_20 rfl (lv_at hl 2 rfl) ?_
  refine va_get (D := D) (ci := 8) (v := .ref a_told) (C := RX8) (T := TX8) (N := 26) hx hb hts (fun _ h => List.mem_cons_of_mem _ (List.mem_append_right _ (h))) hown hK hP 0 rfl rfl 5 (by decide) (hts _ (List.mem_of_getElem? (i := 1) rfl)) (fun _ h9 => h9) rfl dX8_grants_21 ?_
  refine lv_iconst (v := 5) hx hb dX8_grants_24 rfl ?_
  refine lv_iload_n hx hb dX8_grants_25 rfl (lv_at hl 4 rfl) ?_
  refine lv_imul hx hb dX8_grants_26 ?_
  refine lv_iconst (v := 4) hx hb dX8_grants_27 rfl ?_
  refine lv_iadd hx hb dX8_grants_28 ?_
  refine va_iald hx hb hK hP 1 0 rfl rfl (ix5v (c := 4) hx2 (by decide)) dX8_grants_29 ?_
  refine lv_iconst (v := 1) hx hb dX8_grants_30 rfl ?_
  refine lv_icmp_ne (tgt := 51) hx hb dX8_grants_31 (by decide) (fun c_31 => ?_) (fun c_31 => ?_)
  · refine lv_iload hx hb dX8_grants_51 (lv_at hl 0 rfl) ?_
    refine lv_iload_n hx hb dX8_grants_53 rfl (lv_at hl 1 rfl) ?_
    refine lv_iand hx hb dX8_grants_54 ?_
    refine lv_if_ne (tgt := 62) hx hb dX8_grants_55 (by decide) (fun c_55 => ?_) (fun c_55 => ?_)
    · refine lv_iconst (v := 0) hx hb dX8_grants_62 rfl ?_
      have e9 : v_X8_grants x1 x2 f_told = false := by
        refine (bnd_eq ho_9).trans ?_
        refine (bnd_eq ho_15).trans ?_
        refine (if_neg c_31).trans ?_
        refine (if_neg c_55).trans ?_
        rfl
      rw [hQ]; exact retZ (v := fun o : Bool => o) false hx hb hr hlk e9 hP rfl hS dX8_grants_63
    · refine lv_iconst (v := 1) hx hb dX8_grants_58 rfl ?_
      refine lv_goto (tgt := 63) hx hb dX8_grants_59 (by decide) ?_
      have e9 : v_X8_grants x1 x2 f_told = true := by
        refine (bnd_eq ho_9).trans ?_
        refine (bnd_eq ho_15).trans ?_
        refine (if_neg c_31).trans ?_
        refine (if_pos c_55).trans ?_
        rfl
      rw [hQ]; exact retZ (v := fun o : Bool => o) true hx hb hr hlk e9 hP rfl hS dX8_grants_63
  · refine lv_iload hx hb dX8_grants_34 (lv_at hl 0 rfl) ?_
    refine lv_iload_n hx hb dX8_grants_36 rfl (lv_at hl 1 rfl) ?_
    refine lv_iconst (v := (-1)) hx hb dX8_grants_37 rfl ?_
    refine lv_ixor hx hb dX8_grants_38 ?_
    refine lv_iand hx hb dX8_grants_39 ?_
    refine lv_if_ne (tgt := 47) hx hb dX8_grants_40 (by decide) (fun c_40 => ?_) (fun c_40 => ?_)
    · refine lv_iconst (v := 0) hx hb dX8_grants_47 rfl ?_
      refine lv_goto (tgt := 63) hx hb dX8_grants_48 (by decide) ?_
      have e9 : v_X8_grants x1 x2 f_told = false := by
        refine (bnd_eq ho_9).trans ?_
        refine (bnd_eq ho_15).trans ?_
        refine (if_pos c_31).trans ?_
        refine (if_neg c_40).trans ?_
        rfl
      rw [hQ]; exact retZ (v := fun o : Bool => o) false hx hb hr hlk e9 hP rfl hS dX8_grants_63
    · refine lv_iconst (v := 1) hx hb dX8_grants_43 rfl ?_
      refine lv_goto (tgt := 63) hx hb dX8_grants_44 (by decide) ?_
      have e9 : v_X8_grants x1 x2 f_told = true := by
        refine (bnd_eq ho_9).trans ?_
        refine (bnd_eq ho_15).trans ?_
        refine (if_pos c_31).trans ?_
        refine (if_pos c_40).trans ?_
        rfl
      rw [hQ]; exact retZ (v := fun o : Bool => o) true hx hb hr hlk e9 hP rfl hS dX8_grants_63
def v_X8_granted_L4 (x1 : Int32) (f_told : Nat → Int32) (i4 : Nat) (z4 : Int32) : Int32 :=
  bnd (v_X8_grants x1 (nI i4) f_told) fun o_16 =>
  (if bI o_16 = 0 then (z4 ||| 0)
  else (z4 ||| ((1 : Int32) <<< (nI i4 &&& 31))))
def v_X8_granted (x1 : Int32) (i_wishes : Int32) (f_told : Nat → Int32) : Int32 :=
  bnd (it (v_X8_granted_L4 x1 f_told) i_wishes.toNatClampNeg 0 0) fun o_L4 =>
  o_L4
abbrev rm_X8_granted : Room := { frames := 4, cells := 0, slots := 0, locals := 90 }
set_option maxHeartbeats 4000000 in
set_option maxRecDepth 100000 in
theorem k_X8_granted (l : Launch) (D : va_G) (cI cZ : ClassId) (a a_readWishes a_readOwed a_told a_owed a_text a_row a_least a_values a_tellPlace a_tellHour a_tellDark a_isKept a_kept : Nat) (x1 : Int32) (i_readHung : Int32) (i_readMany : Int32) (i_readOwes : Int32) (i_wishes : Int32) (i_hung : Int32) (i_hour : Int32) (i_length : Int32) (i_at : Int32) (i_faultAt : Int32) (i_acts : Int32) (i_next : Int32) (i_tells : Int32) (j_seed : Int64) (f_told : Nat → Int32) (hw : ∃ k : Nat, k ≤ 5 ∧ i_wishes = nI k) : KI l D cI cZ yX8_granted wsX8_granted rm_X8_granted [.ref a, .int x1] [(a, .inr (8, [.ref a_readWishes, .ref a_readOwed, .int i_readHung, .int i_readMany, .int i_readOwes, .ref a_told, .ref a_owed, .int i_wishes, .int i_hung, .int i_hour, .ref a_text, .int i_length, .int i_at, .int i_faultAt, .int i_acts, .int i_next, .ref a_row, .ref a_least, .ref a_values, .int i_tells, .ref a_tellPlace, .ref a_tellHour, .ref a_tellDark, .long j_seed, .ref a_isKept, .ref a_kept])), (a_told, .inl (cI, 25, .inl f_told))] (v_X8_granted x1 i_wishes f_told) (fun o : Int32 => o) (fun _ : Int32 => [(a, .inr (8, [.ref a_readWishes, .ref a_readOwed, .int i_readHung, .int i_readMany, .int i_readOwes, .ref a_told, .ref a_owed, .int i_wishes, .int i_hung, .int i_hour, .ref a_text, .int i_length, .int i_at, .int i_faultAt, .int i_acts, .int i_next, .ref a_row, .ref a_least, .ref a_values, .int i_tells, .ref a_tellPlace, .ref a_tellHour, .ref a_tellDark, .long j_seed, .ref a_isKept, .ref a_kept])), (a_told, .inl (cI, 25, .inl f_told))]) := by
  refine KI.of cX8_granted 4 (some .int) (by decide) rfl (Nat.le_of_ble_eq_true rfl) ?_
  intro p e s m below meth c A ls ar Q hQ B
  obtain ⟨hx, hb, hr, hml, hts, hown, hlk, hK, hN, hP, hD, hA, hS, hl⟩ := B
  have hown : s.vm.findClass RX8 = some m.cls := hown
  have hF : CallFix p m c cX8_granted 4 s ar wsX8_granted RX8 := ⟨hx, hb, hml, hown, hts⟩
  have hl : lv_has ls 4 [(0, .ref a), (1, .int x1)] := hl
  have hw9 := w5 hw
  refine lv_iconst (v := 0) hx hb dX8_granted_0 rfl ?_
  refine lv_istore_n (lv' := [(2, .int 0), (0, .ref a), (1, .int x1)]) hx hb dX8_granted_1 rfl hl (by decide) rfl (fun ls hl => ?_)
  refine lv_iconst (v := 0) hx hb dX8_granted_2 rfl ?_
  refine lv_istore_n (lv' := [(3, .int 0), (2, .int 0), (0, .ref a), (1, .int x1)]) hx hb dX8_granted_3 rfl hl (by decide) rfl (fun ls hl => ?_)
  obtain ⟨o_L4, ho_L4⟩ : ∃ z : Int32, z = it (v_X8_granted_L4 x1 f_told) i_wishes.toNatClampNeg 0 0 := ⟨_, rfl⟩
  have kE4 : ∀ (H : Heap) (locs : List Loc) (ls : Array Slot), va_P D vwCl [(a, .inr (8, [.ref a_readWishes, .ref a_readOwed, .int i_readHung, .int i_readMany, .int i_readOwes, .ref a_told, .ref a_owed, .int i_wishes, .int i_hung, .int i_hour, .ref a_text, .int i_length, .int i_at, .int i_faultAt, .int i_acts, .int i_next, .ref a_row, .ref a_least, .ref a_values, .int i_tells, .ref a_tellPlace, .ref a_tellHour, .ref a_tellDark, .long j_seed, .ref a_isKept, .ref a_kept])), (a_told, .inl (cI, 25, .inl f_told))] H → va_S A s.heap H locs → lv_has ls 4 [(2, .int o_L4)] → W p l e rm_X8_granted s m ar below meth c H locs 0 0 Q (F0 m 37 ls []) := by
    intro H locs ls hP hS hl
    refine lv_iload_n hx hb dX8_granted_37 rfl (lv_at hl 0 rfl) ?_
    have e9 : v_X8_granted x1 i_wishes f_told = o_L4 := by
      refine (bnd_eq ho_L4).trans ?_
      rfl
    rw [hQ]; exact retI o_L4 hx hb hr hlk e9 hP rfl hS dX8_granted_38
  have loop4 : ∀ (k i4 : Nat) (z4 : Int32), 0 ≤ i4 → i4 + k = 0 + i_wishes.toNatClampNeg → it (v_X8_granted_L4 x1 f_told) k i4 z4 = o_L4 → ∀ (H : Heap) (locs : List Loc) (ls : Array Slot), va_P D vwCl [(a, .inr (8, [.ref a_readWishes, .ref a_readOwed, .int i_readHung, .int i_readMany, .int i_readOwes, .ref a_told, .ref a_owed, .int i_wishes, .int i_hung, .int i_hour, .ref a_text, .int i_length, .int i_at, .int i_faultAt, .int i_acts, .int i_next, .ref a_row, .ref a_least, .ref a_values, .int i_tells, .ref a_tellPlace, .ref a_tellHour, .ref a_tellDark, .long j_seed, .ref a_isKept, .ref a_kept])), (a_told, .inl (cI, 25, .inl f_told))] H → va_S A s.heap H locs → lv_has ls 4 [(3, .int (nI i4)), (2, .int z4), (0, .ref a), (1, .int x1)] → W p l e rm_X8_granted s m ar below meth c H locs 0 0 Q (F0 m 4 ls []) := by
    intro k
    induction k with
    | zero =>
      intro i4 z4 hi0 hik hz H locs ls hP hS hl
      have hz : z4 = o_L4 := it_0 hz
      subst z4
      refine lv_iload_n hx hb dX8_granted_4 rfl (lv_at hl 0 rfl) ?_
      refine lv_aload_n hx hb dX8_granted_5 rfl (lv_at hl 2 rfl) ?_
      refine va_get (D := D) (ci := 8) (v := .int i_wishes) (C := RX8) (T := TX8) (N := 26) hx hb hts (fun _ h => List.mem_cons_of_mem _ (List.mem_append_right _ (h))) hown hK hP 0 rfl rfl 7 (by decide) (hts _ (List.mem_of_getElem? (i := 1) rfl)) (fun _ h9 => h9) rfl dX8_granted_6 ?_
      refine lv_icmp_ge (tgt := 37) hx hb dX8_granted_9 (by decide) (fun _ => ?_) (fun c => absurd (cb_ge (by omega) (by have := cb_lt31 i_wishes; omega)) c)
      exact kE4 _ _ _ hP hS (lv_sub hl [1] rfl)
    | succ k ih =>
      intro i4 z4 hi0 hik hz H locs ls hP hS hl
      refine lv_iload_n hx hb dX8_granted_4 rfl (lv_at hl 0 rfl) ?_
      refine lv_aload_n hx hb dX8_granted_5 rfl (lv_at hl 2 rfl) ?_
      refine va_get (D := D) (ci := 8) (v := .int i_wishes) (C := RX8) (T := TX8) (N := 26) hx hb hts (fun _ h => List.mem_cons_of_mem _ (List.mem_append_right _ (h))) hown hK hP 0 rfl rfl 7 (by decide) (hts _ (List.mem_of_getElem? (i := 1) rfl)) (fun _ h9 => h9) rfl dX8_granted_6 ?_
      refine lv_icmp_ge (tgt := 37) hx hb dX8_granted_9 (by decide) (fun c => absurd c (cb_lt (by omega))) (fun _ => ?_)
      refine lv_iload_n hx hb dX8_granted_12 rfl (lv_at hl 1 rfl) ?_
      refine lv_aload_n hx hb dX8_granted_13 rfl (lv_at hl 2 rfl) ?_
      refine lv_iload_n hx hb dX8_granted_14 rfl (lv_at hl 3 rfl) ?_
      refine lv_iload_n hx hb dX8_granted_15 rfl (lv_at hl 0 rfl) ?_
      obtain ⟨o_16, ho_16⟩ : ∃ z : Bool, z = v_X8_grants x1 (nI i4) f_told := ⟨_, rfl⟩
      refine callVIs (As := [.int x1, .int (nI i4)]) (rest := [.int z4]) o_16 ho_16 hF (k_X8_grants l D cI cZ a a_readWishes a_readOwed a_told a_owed a_text a_row a_least a_values a_tellPlace a_tellHour a_tellDark a_isKept a_kept x1 (nI i4) i_readHung i_readMany i_readOwes i_wishes i_hung i_hour i_length i_at i_faultAt i_acts i_next i_tells j_seed f_told (vp_in_nI (by omega) (by decide))) (cwV 2 hts gX8_granted_X8_grants rfl rfl rfl (by decide +kernel) ⟨Nat.le_of_ble_eq_true rfl, Nat.le_of_ble_eq_true rfl⟩) hK hN hP (va_Dsame hD rfl) hS hA [0, 1] rfl rfl 0 8 (T := TX8) (N := 26) rfl rfl rfl hl.1 rfl (Nat.le_of_ble_eq_true rfl) dX8_granted_16 ⟨Nat.zero_le _, Nat.zero_le _⟩ (bI o_16) rfl rfl (fun H locs hP hS => ?_)
      refine lv_if_eq (tgt := 28) hx hb dX8_granted_19 (by decide) (fun c_19 => ?_) (fun c_19 => ?_)
      · refine lv_iconst (v := 0) hx hb dX8_granted_28 rfl ?_
        refine lv_ior hx hb dX8_granted_29 ?_
        refine lv_istore_n (lv' := [(2, .int (z4 ||| 0)), (3, .int (nI i4)), (0, .ref a), (1, .int x1)]) hx hb dX8_granted_30 rfl hl (by decide) rfl (fun ls hl => ?_)
        refine lv_iinc (v := (nI (i4 + 1))) (lv' := [(3, .int (nI (i4 + 1))), (2, .int (z4 ||| 0)), (0, .ref a), (1, .int x1)]) hx hb dX8_granted_31 hl (k := 1) rfl (nI_1 _) (by decide) rfl (fun ls hl => ?_)
        refine lv_goto (tgt := 4) hx hb dX8_granted_34 (by decide) ?_
        have e8 : v_X8_granted_L4 x1 f_told i4 z4 = (z4 ||| 0) := by
          refine (bnd_eq ho_16).trans ?_
          refine (if_pos c_19).trans ?_
          rfl
        exact ih (i4 + 1) (z4 ||| 0) (by omega) (by omega) (it_go e8 hz) _ _ _ hP hS (lv_sub hl [0, 1, 2, 3] rfl)
      · refine lv_iconst (v := 1) hx hb dX8_granted_22 rfl ?_
        refine lv_iload_n hx hb dX8_granted_23 rfl (lv_at hl 0 rfl) ?_
        refine lv_ishl hx hb dX8_granted_24 ?_
        refine lv_goto (tgt := 29) hx hb dX8_granted_25 (by decide) ?_
        refine lv_ior hx hb dX8_granted_29 ?_
        refine lv_istore_n (lv' := [(2, .int (z4 ||| ((1 : Int32) <<< (nI i4 &&& 31)))), (3, .int (nI i4)), (0, .ref a), (1, .int x1)]) hx hb dX8_granted_30 rfl hl (by decide) rfl (fun ls hl => ?_)
        refine lv_iinc (v := (nI (i4 + 1))) (lv' := [(3, .int (nI (i4 + 1))), (2, .int (z4 ||| ((1 : Int32) <<< (nI i4 &&& 31)))), (0, .ref a), (1, .int x1)]) hx hb dX8_granted_31 hl (k := 1) rfl (nI_1 _) (by decide) rfl (fun ls hl => ?_)
        refine lv_goto (tgt := 4) hx hb dX8_granted_34 (by decide) ?_
        have e8 : v_X8_granted_L4 x1 f_told i4 z4 = (z4 ||| ((1 : Int32) <<< (nI i4 &&& 31))) := by
          refine (bnd_eq ho_16).trans ?_
          refine (if_neg c_19).trans ?_
          rfl
        exact ih (i4 + 1) (z4 ||| ((1 : Int32) <<< (nI i4 &&& 31))) (by omega) (by omega) (it_go e8 hz) _ _ _ hP hS (lv_sub hl [0, 1, 2, 3] rfl)
  exact loop4 i_wishes.toNatClampNeg 0 0 (Nat.le_refl _) rfl ho_L4.symm _ _ _ hP hS (lv_sub hl [0, 1, 2, 3] rfl)
def v_X8_worthOf_L4 (x1 : Int32) (f_told : Nat → Int32) (i4 : Nat) (z4 : Int32) : Int32 :=
  bnd ((z4 + (((x1 >>> (nI i4 &&& 31)) &&& 1) * (f_told ((5 * nI i4) + 3).toNatClampNeg)))) fun w_30 =>
  w_30
def v_X8_worthOf (x1 : Int32) (i_wishes : Int32) (f_told : Nat → Int32) : Int32 :=
  bnd (it (v_X8_worthOf_L4 x1 f_told) i_wishes.toNatClampNeg 0 0) fun o_L4 =>
  o_L4
abbrev rm_X8_worthOf : Room := { frames := 0, cells := 0, slots := 0, locals := 0 }
set_option maxHeartbeats 4000000 in
set_option maxRecDepth 100000 in
theorem k_X8_worthOf (l : Launch) (D : va_G) (cI cZ : ClassId) (a a_readWishes a_readOwed a_told a_owed a_text a_row a_least a_values a_tellPlace a_tellHour a_tellDark a_isKept a_kept : Nat) (x1 : Int32) (i_readHung : Int32) (i_readMany : Int32) (i_readOwes : Int32) (i_wishes : Int32) (i_hung : Int32) (i_hour : Int32) (i_length : Int32) (i_at : Int32) (i_faultAt : Int32) (i_acts : Int32) (i_next : Int32) (i_tells : Int32) (j_seed : Int64) (f_told : Nat → Int32) (hw : ∃ k : Nat, k ≤ 5 ∧ i_wishes = nI k) : KI l D cI cZ yX8_worthOf wsX8_worthOf rm_X8_worthOf [.ref a, .int x1] [(a, .inr (8, [.ref a_readWishes, .ref a_readOwed, .int i_readHung, .int i_readMany, .int i_readOwes, .ref a_told, .ref a_owed, .int i_wishes, .int i_hung, .int i_hour, .ref a_text, .int i_length, .int i_at, .int i_faultAt, .int i_acts, .int i_next, .ref a_row, .ref a_least, .ref a_values, .int i_tells, .ref a_tellPlace, .ref a_tellHour, .ref a_tellDark, .long j_seed, .ref a_isKept, .ref a_kept])), (a_told, .inl (cI, 25, .inl f_told))] (v_X8_worthOf x1 i_wishes f_told) (fun o : Int32 => o) (fun _ : Int32 => [(a, .inr (8, [.ref a_readWishes, .ref a_readOwed, .int i_readHung, .int i_readMany, .int i_readOwes, .ref a_told, .ref a_owed, .int i_wishes, .int i_hung, .int i_hour, .ref a_text, .int i_length, .int i_at, .int i_faultAt, .int i_acts, .int i_next, .ref a_row, .ref a_least, .ref a_values, .int i_tells, .ref a_tellPlace, .ref a_tellHour, .ref a_tellDark, .long j_seed, .ref a_isKept, .ref a_kept])), (a_told, .inl (cI, 25, .inl f_told))]) := by
  refine KI.of cX8_worthOf 4 (some .int) (by decide) rfl (Nat.le_of_ble_eq_true rfl) ?_
  intro p e s m below meth c A ls ar Q hQ B
  obtain ⟨hx, hb, hr, hml, hts, hown, hlk, hK, hN, hP, hD, hA, hS, hl⟩ := B
  have hown : s.vm.findClass RX8 = some m.cls := hown
  have hF : CallFix p m c cX8_worthOf 4 s ar wsX8_worthOf RX8 := ⟨hx, hb, hml, hown, hts⟩
  have hl : lv_has ls 4 [(0, .ref a), (1, .int x1)] := hl
  have hw9 := w5 hw
  refine lv_iconst (v := 0) hx hb dX8_worthOf_0 rfl ?_
  refine lv_istore_n (lv' := [(2, .int 0), (0, .ref a), (1, .int x1)]) hx hb dX8_worthOf_1 rfl hl (by decide) rfl (fun ls hl => ?_)
  refine lv_iconst (v := 0) hx hb dX8_worthOf_2 rfl ?_
  refine lv_istore_n (lv' := [(3, .int 0), (2, .int 0), (0, .ref a), (1, .int x1)]) hx hb dX8_worthOf_3 rfl hl (by decide) rfl (fun ls hl => ?_)
  obtain ⟨o_L4, ho_L4⟩ : ∃ z : Int32, z = it (v_X8_worthOf_L4 x1 f_told) i_wishes.toNatClampNeg 0 0 := ⟨_, rfl⟩
  have kE4 : ∀ (H : Heap) (locs : List Loc) (ls : Array Slot), va_P D vwCl [(a, .inr (8, [.ref a_readWishes, .ref a_readOwed, .int i_readHung, .int i_readMany, .int i_readOwes, .ref a_told, .ref a_owed, .int i_wishes, .int i_hung, .int i_hour, .ref a_text, .int i_length, .int i_at, .int i_faultAt, .int i_acts, .int i_next, .ref a_row, .ref a_least, .ref a_values, .int i_tells, .ref a_tellPlace, .ref a_tellHour, .ref a_tellDark, .long j_seed, .ref a_isKept, .ref a_kept])), (a_told, .inl (cI, 25, .inl f_told))] H → va_S A s.heap H locs → lv_has ls 4 [(2, .int o_L4)] → W p l e rm_X8_worthOf s m ar below meth c H locs 0 0 Q (F0 m 37 ls []) := by
    intro H locs ls hP hS hl
    refine lv_iload_n hx hb dX8_worthOf_37 rfl (lv_at hl 0 rfl) ?_
    have e9 : v_X8_worthOf x1 i_wishes f_told = o_L4 := by
      refine (bnd_eq ho_L4).trans ?_
      rfl
    rw [hQ]; exact retI o_L4 hx hb hr hlk e9 hP rfl hS dX8_worthOf_38
  have loop4 : ∀ (k i4 : Nat) (z4 : Int32), 0 ≤ i4 → i4 + k = 0 + i_wishes.toNatClampNeg → it (v_X8_worthOf_L4 x1 f_told) k i4 z4 = o_L4 → ∀ (H : Heap) (locs : List Loc) (ls : Array Slot), va_P D vwCl [(a, .inr (8, [.ref a_readWishes, .ref a_readOwed, .int i_readHung, .int i_readMany, .int i_readOwes, .ref a_told, .ref a_owed, .int i_wishes, .int i_hung, .int i_hour, .ref a_text, .int i_length, .int i_at, .int i_faultAt, .int i_acts, .int i_next, .ref a_row, .ref a_least, .ref a_values, .int i_tells, .ref a_tellPlace, .ref a_tellHour, .ref a_tellDark, .long j_seed, .ref a_isKept, .ref a_kept])), (a_told, .inl (cI, 25, .inl f_told))] H → va_S A s.heap H locs → lv_has ls 4 [(3, .int (nI i4)), (2, .int z4), (0, .ref a), (1, .int x1)] → W p l e rm_X8_worthOf s m ar below meth c H locs 0 0 Q (F0 m 4 ls []) := by
    intro k
    induction k with
    | zero =>
      intro i4 z4 hi0 hik hz H locs ls hP hS hl
      have hz : z4 = o_L4 := it_0 hz
      subst z4
      refine lv_iload_n hx hb dX8_worthOf_4 rfl (lv_at hl 0 rfl) ?_
      refine lv_aload_n hx hb dX8_worthOf_5 rfl (lv_at hl 2 rfl) ?_
      refine va_get (D := D) (ci := 8) (v := .int i_wishes) (C := RX8) (T := TX8) (N := 26) hx hb hts (fun _ h => List.mem_cons_of_mem _ (List.mem_append_right _ (h))) hown hK hP 0 rfl rfl 7 (by decide) (hts _ (List.mem_of_getElem? (i := 1) rfl)) (fun _ h9 => h9) rfl dX8_worthOf_6 ?_
      refine lv_icmp_ge (tgt := 37) hx hb dX8_worthOf_9 (by decide) (fun _ => ?_) (fun c => absurd (cb_ge (by omega) (by have := cb_lt31 i_wishes; omega)) c)
      exact kE4 _ _ _ hP hS (lv_sub hl [1] rfl)
    | succ k ih =>
      intro i4 z4 hi0 hik hz H locs ls hP hS hl
      refine lv_iload_n hx hb dX8_worthOf_4 rfl (lv_at hl 0 rfl) ?_
      refine lv_aload_n hx hb dX8_worthOf_5 rfl (lv_at hl 2 rfl) ?_
      refine va_get (D := D) (ci := 8) (v := .int i_wishes) (C := RX8) (T := TX8) (N := 26) hx hb hts (fun _ h => List.mem_cons_of_mem _ (List.mem_append_right _ (h))) hown hK hP 0 rfl rfl 7 (by decide) (hts _ (List.mem_of_getElem? (i := 1) rfl)) (fun _ h9 => h9) rfl dX8_worthOf_6 ?_
      refine lv_icmp_ge (tgt := 37) hx hb dX8_worthOf_9 (by decide) (fun c => absurd c (cb_lt (by omega))) (fun _ => ?_)
      refine lv_iload_n hx hb dX8_worthOf_12 rfl (lv_at hl 1 rfl) ?_
      refine lv_iload_n hx hb dX8_worthOf_13 rfl (lv_at hl 3 rfl) ?_
      refine lv_iload_n hx hb dX8_worthOf_14 rfl (lv_at hl 0 rfl) ?_
      refine lv_ishr hx hb dX8_worthOf_15 ?_
      refine lv_iconst (v := 1) hx hb dX8_worthOf_16 rfl ?_
      refine lv_iand hx hb dX8_worthOf_17 ?_
      refine lv_aload_n hx hb dX8_worthOf_18 rfl (lv_at hl 2 rfl) ?_
      refine va_get (D := D) (ci := 8) (v := .ref a_told) (C := RX8) (T := TX8) (N := 26) hx hb hts (fun _ h => List.mem_cons_of_mem _ (List.mem_append_right _ (h))) hown hK hP 0 rfl rfl 5 (by decide) (hts _ (List.mem_of_getElem? (i := 2) rfl)) (fun _ h9 => h9) rfl dX8_worthOf_19 ?_
      refine lv_iconst (v := 5) hx hb dX8_worthOf_22 rfl ?_
      refine lv_iload_n hx hb dX8_worthOf_23 rfl (lv_at hl 0 rfl) ?_
      refine lv_imul hx hb dX8_worthOf_24 ?_
      refine lv_iconst (v := 3) hx hb dX8_worthOf_25 rfl ?_
      refine lv_iadd hx hb dX8_worthOf_26 ?_
      refine va_iald hx hb hK hP 1 0 rfl rfl (ix5n (c := 3) (by omega)) dX8_worthOf_27 ?_
      refine lv_imul hx hb dX8_worthOf_28 ?_
      refine lv_iadd hx hb dX8_worthOf_29 ?_
      refine lv_topi (fun w_30 hw_30 => ?_)
      refine lv_istore_n (lv' := [(2, .int w_30), (3, .int (nI i4)), (0, .ref a), (1, .int x1)]) hx hb dX8_worthOf_30 rfl hl (by decide) rfl (fun ls hl => ?_)
      refine lv_iinc (v := (nI (i4 + 1))) (lv' := [(3, .int (nI (i4 + 1))), (2, .int w_30), (0, .ref a), (1, .int x1)]) hx hb dX8_worthOf_31 hl (k := 1) rfl (nI_1 _) (by decide) rfl (fun ls hl => ?_)
      refine lv_goto (tgt := 4) hx hb dX8_worthOf_34 (by decide) ?_
      have e8 : v_X8_worthOf_L4 x1 f_told i4 z4 = w_30 := by
        refine (bnd_eq hw_30).trans ?_
        rfl
      exact ih (i4 + 1) w_30 (by omega) (by omega) (it_go e8 hz) _ _ _ hP hS (lv_sub hl [0, 1, 2, 3] rfl)
  exact loop4 i_wishes.toNatClampNeg 0 0 (Nat.le_refl _) rfl ho_L4.symm _ _ _ hP hS (lv_sub hl [0, 1, 2, 3] rfl)
