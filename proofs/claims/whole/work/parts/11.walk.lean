def v_X3_readThrough_L14c (ir1_length : Int32) (fr1_letters : Nat → Int32) (i14 : Nat) (z14_1 : Int32) (z14_2 : Int32) (z14_3 : Int32) (z14_4 : Int32) (z14_5 : Int32) (z14_6 : Int32) (z14_7 : Int32) (z14_8 : Int32) (z14_9 : Int32) (z14_10 : Nat → Int32) (z14_11 : Nat → Int32) (z14_12 : Nat → Int32) (z14_13 : Nat → Int32) (z14_14 : Nat → Int32) (z14_15 : Nat → Int32) (z14_16 : Nat → Int32) (z14_17 : Nat → Int32) : Sum (Int32 × Int32 × Int32 × Int32 × Int32 × Int32 × Int32 × Int32 × Int32 × (Nat → Int32) × (Nat → Int32) × (Nat → Int32) × (Nat → Int32) × (Nat → Int32) × (Nat → Int32) × (Nat → Int32) × (Nat → Int32)) (Int32 × Int32 × Int32 × Int32 × Int32 × Int32 × Int32 × Int32 × Int32 × Int32 × (Nat → Int32) × (Nat → Int32) × (Nat → Int32) × (Nat → Int32) × (Nat → Int32) × (Nat → Int32) × (Nat → Int32) × (Nat → Int32)) :=
  bnd (v_X6_length ir1_length) fun o_16 =>
  (bnd (v_X6_letterAt (nI i14) fr1_letters) fun o_25 =>
  (bnd18 (v_X3_takes o_25 z14_1 z14_2 z14_3 z14_4 z14_5 z14_6 z14_7 z14_8 z14_9 z14_12 z14_13 z14_14 z14_15 z14_16 z14_17 z14_10 z14_11) fun o_28_1 o_28_2 o_28_3 o_28_4 o_28_5 o_28_6 o_28_7 o_28_8 o_28_9 o_28_10 o_28_11 o_28_12 o_28_13 o_28_14 o_28_15 o_28_16 o_28_17 o_28_18 =>
  (if bI o_28_1 = 0 then .inr (nI i14, o_28_2, o_28_3, o_28_4, o_28_5, o_28_6, o_28_7, o_28_8, o_28_9, o_28_10, o_28_15, o_28_16, o_28_17, o_28_18, o_28_11, o_28_12, o_28_13, o_28_14)
  else .inl (o_28_2, o_28_3, o_28_4, o_28_5, o_28_6, o_28_7, o_28_9, o_28_10, o_28_8, o_28_13, o_28_14, o_28_15, o_28_16, o_28_17, o_28_18, o_28_11, o_28_12))))
def v_X3_readThrough_L14 (ir1_length : Int32) (fr1_letters : Nat → Int32) (i14 : Nat) (z14 : Int32 × Int32 × Int32 × Int32 × Int32 × Int32 × Int32 × Int32 × Int32 × (Nat → Int32) × (Nat → Int32) × (Nat → Int32) × (Nat → Int32) × (Nat → Int32) × (Nat → Int32) × (Nat → Int32) × (Nat → Int32)) : Sum (Int32 × Int32 × Int32 × Int32 × Int32 × Int32 × Int32 × Int32 × Int32 × (Nat → Int32) × (Nat → Int32) × (Nat → Int32) × (Nat → Int32) × (Nat → Int32) × (Nat → Int32) × (Nat → Int32) × (Nat → Int32)) (Int32 × Int32 × Int32 × Int32 × Int32 × Int32 × Int32 × Int32 × Int32 × Int32 × (Nat → Int32) × (Nat → Int32) × (Nat → Int32) × (Nat → Int32) × (Nat → Int32) × (Nat → Int32) × (Nat → Int32) × (Nat → Int32)) := v_X3_readThrough_L14c ir1_length fr1_letters i14 z14.1 z14.2.1 z14.2.2.1 z14.2.2.2.1 z14.2.2.2.2.1 z14.2.2.2.2.2.1 z14.2.2.2.2.2.2.1 z14.2.2.2.2.2.2.2.1 z14.2.2.2.2.2.2.2.2.1 z14.2.2.2.2.2.2.2.2.2.1 z14.2.2.2.2.2.2.2.2.2.2.1 z14.2.2.2.2.2.2.2.2.2.2.2.1 z14.2.2.2.2.2.2.2.2.2.2.2.2.1 z14.2.2.2.2.2.2.2.2.2.2.2.2.2.1 z14.2.2.2.2.2.2.2.2.2.2.2.2.2.2.1 z14.2.2.2.2.2.2.2.2.2.2.2.2.2.2.2.1 z14.2.2.2.2.2.2.2.2.2.2.2.2.2.2.2.2
def v_X3_readThrough (i_come : Int32) (i_number : Int32) (i_firstHour : Int32) (i_span : Int32) (i_value : Int32) (f_lease_owed : Nat → Int32) (f_lease_room : Nat → Int32) (ir1_length : Int32) (fr1_letters : Nat → Int32) (f_lease_places : Nat → Int32) (f_lease_firstHours : Nat → Int32) (f_lease_spans : Nat → Int32) (f_lease_values : Nat → Int32) (f_lease_cells : Nat → Int32) (f_lease_needs : Nat → Int32) : Int32 × Int32 × Int32 × Int32 × Int32 × Int32 × Int32 × Int32 × Int32 × Int32 × (Nat → Int32) × (Nat → Int32) × (Nat → Int32) × (Nat → Int32) × (Nat → Int32) × (Nat → Int32) × (Nat → Int32) × (Nat → Int32) :=
  bnd5 (v_X1_clear f_lease_owed f_lease_room) fun o_4_1 o_4_2 o_4_3 o_4_4 o_4_5 =>
  (mch (itx (v_X3_readThrough_L14 ir1_length fr1_letters) (v_X6_length ir1_length).toNatClampNeg 0 (0, i_come, i_number, i_firstHour, i_span, i_value, o_4_2, o_4_3, o_4_1, o_4_4, o_4_5, f_lease_places, f_lease_firstHours, f_lease_spans, f_lease_values, f_lease_cells, f_lease_needs)) fun s14t =>
  (bnd17 (s14t) fun s14_1 s14_2 s14_3 s14_4 s14_5 s14_6 s14_7 s14_8 s14_9 s14_10 s14_11 s14_12 s14_13 s14_14 s14_15 s14_16 s14_17 =>
  (if s14_1 = 1 then ((-9), s14_1, s14_2, s14_3, s14_4, s14_5, s14_6, s14_9, s14_7, s14_8, s14_12, s14_13, s14_14, s14_15, s14_16, s14_17, s14_10, s14_11)
  else (bnd (v_X6_length ir1_length) fun o_56 =>
  (o_56, s14_1, s14_2, s14_3, s14_4, s14_5, s14_6, s14_9, s14_7, s14_8, s14_12, s14_13, s14_14, s14_15, s14_16, s14_17, s14_10, s14_11)))))
abbrev rm_X3_readThrough : Room := { frames := 5, cells := 0, slots := 0, locals := 113 }
set_option maxHeartbeats 4000000 in
set_option maxRecDepth 100000 in
theorem k_X3_readThrough (l : Launch) (D : va_G) (cI cZ : ClassId) (a a_lease a_lease_places a_lease_firstHours a_lease_spans a_lease_values a_lease_cells a_lease_needs a_lease_owed a_lease_room n_lease_owed n_lease_room ar1 ar1_letters nr1_letters n_lease_places n_lease_firstHours n_lease_spans n_lease_values n_lease_cells n_lease_needs : Nat) (i_part : Int32) (i_come : Int32) (i_number : Int32) (i_firstHour : Int32) (i_span : Int32) (i_value : Int32) (i_lease_squares : Int32) (i_lease_wishCount : Int32) (i_lease_owedPlaces : Int32) (f_lease_owed : Nat → Int32) (f_lease_room : Nat → Int32) (ir1_length : Int32) (fr1_letters : Nat → Int32) (f_lease_places : Nat → Int32) (f_lease_firstHours : Nat → Int32) (f_lease_spans : Nat → Int32) (f_lease_values : Nat → Int32) (f_lease_cells : Nat → Int32) (f_lease_needs : Nat → Int32) : KI l D cI cZ yX3_readThrough wsX3_readThrough rm_X3_readThrough [.ref a, .ref ar1] [(a, .inr (3, [.ref a_lease, .int i_part, .int i_come, .int i_number, .int i_firstHour, .int i_span, .int i_value])), (a_lease, .inr (1, [.ref a_lease_places, .ref a_lease_firstHours, .ref a_lease_spans, .ref a_lease_values, .ref a_lease_cells, .ref a_lease_needs, .ref a_lease_owed, .ref a_lease_room, .int i_lease_squares, .int i_lease_wishCount, .int i_lease_owedPlaces])), (a_lease_owed, .inr (4, [.ref n_lease_owed])), (n_lease_owed, .inl (cI, 12, .inl f_lease_owed)), (a_lease_room, .inr (4, [.ref n_lease_room])), (n_lease_room, .inl (cI, 2, .inl f_lease_room)), (ar1, .inr (6, [.ref ar1_letters, .int ir1_length])), (ar1_letters, .inr (4, [.ref nr1_letters])), (nr1_letters, .inl (cI, 72, .inl fr1_letters)), (a_lease_places, .inr (4, [.ref n_lease_places])), (n_lease_places, .inl (cI, 5, .inl f_lease_places)), (a_lease_firstHours, .inr (4, [.ref n_lease_firstHours])), (n_lease_firstHours, .inl (cI, 5, .inl f_lease_firstHours)), (a_lease_spans, .inr (4, [.ref n_lease_spans])), (n_lease_spans, .inl (cI, 5, .inl f_lease_spans)), (a_lease_values, .inr (4, [.ref n_lease_values])), (n_lease_values, .inl (cI, 5, .inl f_lease_values)), (a_lease_cells, .inr (4, [.ref n_lease_cells])), (n_lease_cells, .inl (cI, 5, .inl f_lease_cells)), (a_lease_needs, .inr (4, [.ref n_lease_needs])), (n_lease_needs, .inl (cI, 5, .inl f_lease_needs))] (v_X3_readThrough i_come i_number i_firstHour i_span i_value f_lease_owed f_lease_room ir1_length fr1_letters f_lease_places f_lease_firstHours f_lease_spans f_lease_values f_lease_cells f_lease_needs) (fun o : Int32 × Int32 × Int32 × Int32 × Int32 × Int32 × Int32 × Int32 × Int32 × Int32 × (Nat → Int32) × (Nat → Int32) × (Nat → Int32) × (Nat → Int32) × (Nat → Int32) × (Nat → Int32) × (Nat → Int32) × (Nat → Int32) => o.1) (fun o : Int32 × Int32 × Int32 × Int32 × Int32 × Int32 × Int32 × Int32 × Int32 × Int32 × (Nat → Int32) × (Nat → Int32) × (Nat → Int32) × (Nat → Int32) × (Nat → Int32) × (Nat → Int32) × (Nat → Int32) × (Nat → Int32) => [(a, .inr (3, [.ref a_lease, .int o.2.1, .int o.2.2.1, .int o.2.2.2.1, .int o.2.2.2.2.1, .int o.2.2.2.2.2.1, .int o.2.2.2.2.2.2.1])), (a_lease, .inr (1, [.ref a_lease_places, .ref a_lease_firstHours, .ref a_lease_spans, .ref a_lease_values, .ref a_lease_cells, .ref a_lease_needs, .ref a_lease_owed, .ref a_lease_room, .int o.2.2.2.2.2.2.2.2.1, .int o.2.2.2.2.2.2.2.2.2.1, .int o.2.2.2.2.2.2.2.1])), (a_lease_owed, .inr (4, [.ref n_lease_owed])), (n_lease_owed, .inl (cI, 12, .inl o.2.2.2.2.2.2.2.2.2.2.2.2.2.2.2.2.1)), (a_lease_room, .inr (4, [.ref n_lease_room])), (n_lease_room, .inl (cI, 2, .inl o.2.2.2.2.2.2.2.2.2.2.2.2.2.2.2.2.2)), (ar1, .inr (6, [.ref ar1_letters, .int ir1_length])), (ar1_letters, .inr (4, [.ref nr1_letters])), (nr1_letters, .inl (cI, 72, .inl fr1_letters)), (a_lease_places, .inr (4, [.ref n_lease_places])), (n_lease_places, .inl (cI, 5, .inl o.2.2.2.2.2.2.2.2.2.2.1)), (a_lease_firstHours, .inr (4, [.ref n_lease_firstHours])), (n_lease_firstHours, .inl (cI, 5, .inl o.2.2.2.2.2.2.2.2.2.2.2.1)), (a_lease_spans, .inr (4, [.ref n_lease_spans])), (n_lease_spans, .inl (cI, 5, .inl o.2.2.2.2.2.2.2.2.2.2.2.2.1)), (a_lease_values, .inr (4, [.ref n_lease_values])), (n_lease_values, .inl (cI, 5, .inl o.2.2.2.2.2.2.2.2.2.2.2.2.2.1)), (a_lease_cells, .inr (4, [.ref n_lease_cells])), (n_lease_cells, .inl (cI, 5, .inl o.2.2.2.2.2.2.2.2.2.2.2.2.2.2.1)), (a_lease_needs, .inr (4, [.ref n_lease_needs])), (n_lease_needs, .inl (cI, 5, .inl o.2.2.2.2.2.2.2.2.2.2.2.2.2.2.2.1))]) := by
  refine KI.of cX3_readThrough 3 (some .int) (by decide) rfl (Nat.le_of_ble_eq_true rfl) ?_
  intro p e s m below meth c A ls ar Q hQ B
  obtain ⟨hx, hb, hr, hml, hts, hown, hlk, hK, hN, hP, hD, hA, hS, hl⟩ := B
  have hown : s.vm.findClass RX3 = some m.cls := hown
  have hF : CallFix p m c cX3_readThrough 3 s ar wsX3_readThrough RX3 := ⟨hx, hb, hml, hown, hts⟩
  have hl : lv_has ls 3 [(0, .ref a), (1, .ref ar1)] := hl
  refine lv_aload_n hx hb dX3_readThrough_0 rfl (lv_at hl 0 rfl) ?_
  refine va_get (D := D) (ci := 3) (v := .ref a_lease) (C := RX3) (T := TX3) (N := 7) hx hb hts (fun _ h => List.mem_cons_of_mem _ (List.mem_append_left _ (List.mem_append_left _ (List.mem_append_left _ (List.mem_append_right _ (h)))))) hown hK hP 0 rfl rfl 0 (by decide) (hts _ (List.mem_of_getElem? (i := 1) rfl)) (fun _ h9 => h9) rfl dX3_readThrough_1 ?_
  obtain ⟨o_4_1, o_4_2, o_4_3, o_4_4, o_4_5, ho_4⟩ := ex5 (v_X1_clear f_lease_owed f_lease_room)
  refine callVV (As := []) (rest := []) (o_4_1, o_4_2, o_4_3, o_4_4, o_4_5) ho_4 hF (k_X1_clear l D cI cZ a_lease a_lease_places a_lease_firstHours a_lease_spans a_lease_values a_lease_cells a_lease_needs a_lease_owed a_lease_room n_lease_owed n_lease_room i_lease_squares i_lease_wishCount i_lease_owedPlaces f_lease_owed f_lease_room) (cwV 0 hts gX3_readThrough_X1_clear rfl rfl rfl (by decide +kernel) ⟨Nat.le_of_ble_eq_true rfl, Nat.le_of_ble_eq_true rfl⟩) hK hN hP (va_Dsame hD rfl) hS hA [1, 2, 3, 4, 5] rfl rfl 1 1 (T := TX1) (N := 11) rfl rfl rfl hl.1 rfl (Nat.le_of_ble_eq_true rfl) dX3_readThrough_4 ⟨Nat.zero_le _, Nat.zero_le _⟩ [none, some 0, some 1, some 2, some 3, some 4, none, none, none, none, none, none, none, none, none, none, none, none, none, none, none] 5 [(a, .inr (3, [.ref a_lease, .int i_part, .int i_come, .int i_number, .int i_firstHour, .int i_span, .int i_value])), (a_lease, .inr (1, [.ref a_lease_places, .ref a_lease_firstHours, .ref a_lease_spans, .ref a_lease_values, .ref a_lease_cells, .ref a_lease_needs, .ref a_lease_owed, .ref a_lease_room, .int o_4_2, .int o_4_3, .int o_4_1])), (a_lease_owed, .inr (4, [.ref n_lease_owed])), (n_lease_owed, .inl (cI, 12, .inl o_4_4)), (a_lease_room, .inr (4, [.ref n_lease_room])), (n_lease_room, .inl (cI, 2, .inl o_4_5)), (ar1, .inr (6, [.ref ar1_letters, .int ir1_length])), (ar1_letters, .inr (4, [.ref nr1_letters])), (nr1_letters, .inl (cI, 72, .inl fr1_letters)), (a_lease_places, .inr (4, [.ref n_lease_places])), (n_lease_places, .inl (cI, 5, .inl f_lease_places)), (a_lease_firstHours, .inr (4, [.ref n_lease_firstHours])), (n_lease_firstHours, .inl (cI, 5, .inl f_lease_firstHours)), (a_lease_spans, .inr (4, [.ref n_lease_spans])), (n_lease_spans, .inl (cI, 5, .inl f_lease_spans)), (a_lease_values, .inr (4, [.ref n_lease_values])), (n_lease_values, .inl (cI, 5, .inl f_lease_values)), (a_lease_cells, .inr (4, [.ref n_lease_cells])), (n_lease_cells, .inl (cI, 5, .inl f_lease_cells)), (a_lease_needs, .inr (4, [.ref n_lease_needs])), (n_lease_needs, .inl (cI, 5, .inl f_lease_needs))] rfl rfl (by decide) (fun H locs hP hS => ?_)
  refine lv_aload_n hx hb dX3_readThrough_7 rfl (lv_at hl 0 rfl) ?_
  refine lv_iconst (v := 0) hx hb dX3_readThrough_8 rfl ?_
  refine va_put (D := D) (ci := 3) (v := .int 0) (ty := .int) (C := RX3) (T := TX3) (N := 7) hx hb hts (fun _ h => List.mem_cons_of_mem _ (List.mem_append_left _ (List.mem_append_left _ (List.mem_append_left _ (List.mem_append_right _ (h)))))) tyX3 tyX3_ok nmX3 hown hK hP (va_Dsame hD rfl) hS 0 rfl rfl 1 (by decide) (hts _ (List.mem_of_getElem? (i := 2) rfl)) (fun _ h9 => h9) rfl (tyX3_ok 1 (by decide)) rfl rfl (Nat.le_of_ble_eq_true rfl) dX3_readThrough_9 (fun H locs hP _ hS => ?_)
  have hP : va_P D vwCl [(a, .inr (3, [.ref a_lease, .int 0, .int i_come, .int i_number, .int i_firstHour, .int i_span, .int i_value])), (a_lease, .inr (1, [.ref a_lease_places, .ref a_lease_firstHours, .ref a_lease_spans, .ref a_lease_values, .ref a_lease_cells, .ref a_lease_needs, .ref a_lease_owed, .ref a_lease_room, .int o_4_2, .int o_4_3, .int o_4_1])), (a_lease_owed, .inr (4, [.ref n_lease_owed])), (n_lease_owed, .inl (cI, 12, .inl o_4_4)), (a_lease_room, .inr (4, [.ref n_lease_room])), (n_lease_room, .inl (cI, 2, .inl o_4_5)), (ar1, .inr (6, [.ref ar1_letters, .int ir1_length])), (ar1_letters, .inr (4, [.ref nr1_letters])), (nr1_letters, .inl (cI, 72, .inl fr1_letters)), (a_lease_places, .inr (4, [.ref n_lease_places])), (n_lease_places, .inl (cI, 5, .inl f_lease_places)), (a_lease_firstHours, .inr (4, [.ref n_lease_firstHours])), (n_lease_firstHours, .inl (cI, 5, .inl f_lease_firstHours)), (a_lease_spans, .inr (4, [.ref n_lease_spans])), (n_lease_spans, .inl (cI, 5, .inl f_lease_spans)), (a_lease_values, .inr (4, [.ref n_lease_values])), (n_lease_values, .inl (cI, 5, .inl f_lease_values)), (a_lease_cells, .inr (4, [.ref n_lease_cells])), (n_lease_cells, .inl (cI, 5, .inl f_lease_cells)), (a_lease_needs, .inr (4, [.ref n_lease_needs])), (n_lease_needs, .inl (cI, 5, .inl f_lease_needs))] H := hP
  refine lv_iconst (v := 0) hx hb dX3_readThrough_12 rfl ?_
  refine lv_istore_n (lv' := [(2, .int 0), (0, .ref a), (1, .ref ar1)]) hx hb dX3_readThrough_13 rfl hl (by decide) rfl (fun ls hl => ?_)
  obtain ⟨o_L14, ho_L14⟩ : ∃ z : Sum (Int32 × Int32 × Int32 × Int32 × Int32 × Int32 × Int32 × Int32 × Int32 × (Nat → Int32) × (Nat → Int32) × (Nat → Int32) × (Nat → Int32) × (Nat → Int32) × (Nat → Int32) × (Nat → Int32) × (Nat → Int32)) (Int32 × Int32 × Int32 × Int32 × Int32 × Int32 × Int32 × Int32 × Int32 × Int32 × (Nat → Int32) × (Nat → Int32) × (Nat → Int32) × (Nat → Int32) × (Nat → Int32) × (Nat → Int32) × (Nat → Int32) × (Nat → Int32)), z = itx (v_X3_readThrough_L14 ir1_length fr1_letters) (v_X6_length ir1_length).toNatClampNeg 0 (0, i_come, i_number, i_firstHour, i_span, i_value, o_4_2, o_4_3, o_4_1, o_4_4, o_4_5, f_lease_places, f_lease_firstHours, f_lease_spans, f_lease_values, f_lease_cells, f_lease_needs) := ⟨_, rfl⟩
  have kE14 : ∀ s14 : Int32 × Int32 × Int32 × Int32 × Int32 × Int32 × Int32 × Int32 × Int32 × (Nat → Int32) × (Nat → Int32) × (Nat → Int32) × (Nat → Int32) × (Nat → Int32) × (Nat → Int32) × (Nat → Int32) × (Nat → Int32), o_L14 = .inl s14 → ∀ (H : Heap) (locs : List Loc) (ls : Array Slot), va_P D vwCl [(a, .inr (3, [.ref a_lease, .int s14.1, .int s14.2.1, .int s14.2.2.1, .int s14.2.2.2.1, .int s14.2.2.2.2.1, .int s14.2.2.2.2.2.1])), (a_lease, .inr (1, [.ref a_lease_places, .ref a_lease_firstHours, .ref a_lease_spans, .ref a_lease_values, .ref a_lease_cells, .ref a_lease_needs, .ref a_lease_owed, .ref a_lease_room, .int s14.2.2.2.2.2.2.1, .int s14.2.2.2.2.2.2.2.1, .int s14.2.2.2.2.2.2.2.2.1])), (a_lease_owed, .inr (4, [.ref n_lease_owed])), (n_lease_owed, .inl (cI, 12, .inl s14.2.2.2.2.2.2.2.2.2.1)), (a_lease_room, .inr (4, [.ref n_lease_room])), (n_lease_room, .inl (cI, 2, .inl s14.2.2.2.2.2.2.2.2.2.2.1)), (ar1, .inr (6, [.ref ar1_letters, .int ir1_length])), (ar1_letters, .inr (4, [.ref nr1_letters])), (nr1_letters, .inl (cI, 72, .inl fr1_letters)), (a_lease_places, .inr (4, [.ref n_lease_places])), (n_lease_places, .inl (cI, 5, .inl s14.2.2.2.2.2.2.2.2.2.2.2.1)), (a_lease_firstHours, .inr (4, [.ref n_lease_firstHours])), (n_lease_firstHours, .inl (cI, 5, .inl s14.2.2.2.2.2.2.2.2.2.2.2.2.1)), (a_lease_spans, .inr (4, [.ref n_lease_spans])), (n_lease_spans, .inl (cI, 5, .inl s14.2.2.2.2.2.2.2.2.2.2.2.2.2.1)), (a_lease_values, .inr (4, [.ref n_lease_values])), (n_lease_values, .inl (cI, 5, .inl s14.2.2.2.2.2.2.2.2.2.2.2.2.2.2.1)), (a_lease_cells, .inr (4, [.ref n_lease_cells])), (n_lease_cells, .inl (cI, 5, .inl s14.2.2.2.2.2.2.2.2.2.2.2.2.2.2.2.1)), (a_lease_needs, .inr (4, [.ref n_lease_needs])), (n_lease_needs, .inl (cI, 5, .inl s14.2.2.2.2.2.2.2.2.2.2.2.2.2.2.2.2))] H → va_S A s.heap H locs → lv_has ls 3 [(0, .ref a), (1, .ref ar1)] → W p l e rm_X3_readThrough s m ar below meth c H locs 0 0 Q (F0 m 42 ls []) := by
    intro s14 hs14 H locs ls hP hS hl
    obtain ⟨s14_1, s14_2, s14_3, s14_4, s14_5, s14_6, s14_7, s14_8, s14_9, s14_10, s14_11, s14_12, s14_13, s14_14, s14_15, s14_16, s14_17⟩ := s14
    have hP : va_P D vwCl [(a, .inr (3, [.ref a_lease, .int s14_1, .int s14_2, .int s14_3, .int s14_4, .int s14_5, .int s14_6])), (a_lease, .inr (1, [.ref a_lease_places, .ref a_lease_firstHours, .ref a_lease_spans, .ref a_lease_values, .ref a_lease_cells, .ref a_lease_needs, .ref a_lease_owed, .ref a_lease_room, .int s14_7, .int s14_8, .int s14_9])), (a_lease_owed, .inr (4, [.ref n_lease_owed])), (n_lease_owed, .inl (cI, 12, .inl s14_10)), (a_lease_room, .inr (4, [.ref n_lease_room])), (n_lease_room, .inl (cI, 2, .inl s14_11)), (ar1, .inr (6, [.ref ar1_letters, .int ir1_length])), (ar1_letters, .inr (4, [.ref nr1_letters])), (nr1_letters, .inl (cI, 72, .inl fr1_letters)), (a_lease_places, .inr (4, [.ref n_lease_places])), (n_lease_places, .inl (cI, 5, .inl s14_12)), (a_lease_firstHours, .inr (4, [.ref n_lease_firstHours])), (n_lease_firstHours, .inl (cI, 5, .inl s14_13)), (a_lease_spans, .inr (4, [.ref n_lease_spans])), (n_lease_spans, .inl (cI, 5, .inl s14_14)), (a_lease_values, .inr (4, [.ref n_lease_values])), (n_lease_values, .inl (cI, 5, .inl s14_15)), (a_lease_cells, .inr (4, [.ref n_lease_cells])), (n_lease_cells, .inl (cI, 5, .inl s14_16)), (a_lease_needs, .inr (4, [.ref n_lease_needs])), (n_lease_needs, .inl (cI, 5, .inl s14_17))] H := hP
    have hl : lv_has ls 3 [(0, .ref a), (1, .ref ar1)] := hl
    refine lv_aload_n hx hb dX3_readThrough_42 rfl (lv_at hl 0 rfl) ?_
    refine va_get (D := D) (ci := 3) (v := .int s14_1) (C := RX3) (T := TX3) (N := 7) hx hb hts (fun _ h => List.mem_cons_of_mem _ (List.mem_append_left _ (List.mem_append_left _ (List.mem_append_left _ (List.mem_append_right _ (h)))))) hown hK hP 0 rfl rfl 1 (by decide) (hts _ (List.mem_of_getElem? (i := 2) rfl)) (fun _ h9 => h9) rfl dX3_readThrough_43 ?_
    refine lv_iconst (v := 1) hx hb dX3_readThrough_46 rfl ?_
    refine lv_icmp_ne (tgt := 55) hx hb dX3_readThrough_47 (by decide) (fun c_47 => ?_) (fun c_47 => ?_)
    · refine lv_aload_n hx hb dX3_readThrough_55 rfl (lv_at hl 1 rfl) ?_
      obtain ⟨o_56, ho_56⟩ : ∃ z : Int32, z = v_X6_length ir1_length := ⟨_, rfl⟩
      refine callVIs (As := []) (rest := []) o_56 ho_56 hF (k_X6_length l D cI cZ ar1 ar1_letters ir1_length) (cwV 0 hts gX3_readThrough_X6_length rfl rfl rfl (by decide +kernel) ⟨Nat.le_of_ble_eq_true rfl, Nat.le_of_ble_eq_true rfl⟩) hK hN hP (va_Dsame hD rfl) hS hA [6] rfl rfl 6 6 (T := TX6) (N := 2) rfl rfl rfl hl.1 rfl (Nat.le_of_ble_eq_true rfl) dX3_readThrough_56 ⟨Nat.zero_le _, Nat.zero_le _⟩ o_56 rfl rfl (fun H locs hP hS => ?_)
      have e9 : v_X3_readThrough i_come i_number i_firstHour i_span i_value f_lease_owed f_lease_room ir1_length fr1_letters f_lease_places f_lease_firstHours f_lease_spans f_lease_values f_lease_cells f_lease_needs = (o_56, s14_1, s14_2, s14_3, s14_4, s14_5, s14_6, s14_9, s14_7, s14_8, s14_12, s14_13, s14_14, s14_15, s14_16, s14_17, s14_10, s14_11) := by
        refine (bnd5_eq ho_4).trans ?_
        refine ((mch_eq ho_L14).trans (mch_l hs14)).trans ?_
        refine (bnd17_eq rfl).trans ?_
        refine (if_neg c_47).trans ?_
        refine (bnd_eq ho_56).trans ?_
        rfl
      rw [hQ]; exact retI (o_56, s14_1, s14_2, s14_3, s14_4, s14_5, s14_6, s14_9, s14_7, s14_8, s14_12, s14_13, s14_14, s14_15, s14_16, s14_17, s14_10, s14_11) hx hb hr hlk e9 hP rfl hS dX3_readThrough_59
    · refine lv_bipush (v := (-9)) hx hb dX3_readThrough_50 rfl ?_
      refine lv_goto (tgt := 59) hx hb dX3_readThrough_52 (by decide) ?_
      have e9 : v_X3_readThrough i_come i_number i_firstHour i_span i_value f_lease_owed f_lease_room ir1_length fr1_letters f_lease_places f_lease_firstHours f_lease_spans f_lease_values f_lease_cells f_lease_needs = ((-9), s14_1, s14_2, s14_3, s14_4, s14_5, s14_6, s14_9, s14_7, s14_8, s14_12, s14_13, s14_14, s14_15, s14_16, s14_17, s14_10, s14_11) := by
        refine (bnd5_eq ho_4).trans ?_
        refine ((mch_eq ho_L14).trans (mch_l hs14)).trans ?_
        refine (bnd17_eq rfl).trans ?_
        refine (if_pos c_47).trans ?_
        rfl
      rw [hQ]; exact retI ((-9), s14_1, s14_2, s14_3, s14_4, s14_5, s14_6, s14_9, s14_7, s14_8, s14_12, s14_13, s14_14, s14_15, s14_16, s14_17, s14_10, s14_11) hx hb hr hlk e9 hP rfl hS dX3_readThrough_59
  have loop14 : ∀ (k i14 : Nat) (z14 : Int32 × Int32 × Int32 × Int32 × Int32 × Int32 × Int32 × Int32 × Int32 × (Nat → Int32) × (Nat → Int32) × (Nat → Int32) × (Nat → Int32) × (Nat → Int32) × (Nat → Int32) × (Nat → Int32) × (Nat → Int32)), 0 ≤ i14 → i14 + k = 0 + (v_X6_length ir1_length).toNatClampNeg → itx (v_X3_readThrough_L14 ir1_length fr1_letters) k i14 z14 = o_L14 → ∀ (H : Heap) (locs : List Loc) (ls : Array Slot), va_P D vwCl [(a, .inr (3, [.ref a_lease, .int z14.1, .int z14.2.1, .int z14.2.2.1, .int z14.2.2.2.1, .int z14.2.2.2.2.1, .int z14.2.2.2.2.2.1])), (a_lease, .inr (1, [.ref a_lease_places, .ref a_lease_firstHours, .ref a_lease_spans, .ref a_lease_values, .ref a_lease_cells, .ref a_lease_needs, .ref a_lease_owed, .ref a_lease_room, .int z14.2.2.2.2.2.2.1, .int z14.2.2.2.2.2.2.2.1, .int z14.2.2.2.2.2.2.2.2.1])), (a_lease_owed, .inr (4, [.ref n_lease_owed])), (n_lease_owed, .inl (cI, 12, .inl z14.2.2.2.2.2.2.2.2.2.1)), (a_lease_room, .inr (4, [.ref n_lease_room])), (n_lease_room, .inl (cI, 2, .inl z14.2.2.2.2.2.2.2.2.2.2.1)), (ar1, .inr (6, [.ref ar1_letters, .int ir1_length])), (ar1_letters, .inr (4, [.ref nr1_letters])), (nr1_letters, .inl (cI, 72, .inl fr1_letters)), (a_lease_places, .inr (4, [.ref n_lease_places])), (n_lease_places, .inl (cI, 5, .inl z14.2.2.2.2.2.2.2.2.2.2.2.1)), (a_lease_firstHours, .inr (4, [.ref n_lease_firstHours])), (n_lease_firstHours, .inl (cI, 5, .inl z14.2.2.2.2.2.2.2.2.2.2.2.2.1)), (a_lease_spans, .inr (4, [.ref n_lease_spans])), (n_lease_spans, .inl (cI, 5, .inl z14.2.2.2.2.2.2.2.2.2.2.2.2.2.1)), (a_lease_values, .inr (4, [.ref n_lease_values])), (n_lease_values, .inl (cI, 5, .inl z14.2.2.2.2.2.2.2.2.2.2.2.2.2.2.1)), (a_lease_cells, .inr (4, [.ref n_lease_cells])), (n_lease_cells, .inl (cI, 5, .inl z14.2.2.2.2.2.2.2.2.2.2.2.2.2.2.2.1)), (a_lease_needs, .inr (4, [.ref n_lease_needs])), (n_lease_needs, .inl (cI, 5, .inl z14.2.2.2.2.2.2.2.2.2.2.2.2.2.2.2.2))] H → va_S A s.heap H locs → lv_has ls 3 [(2, .int (nI i14)), (0, .ref a), (1, .ref ar1)] → W p l e rm_X3_readThrough s m ar below meth c H locs 0 0 Q (F0 m 14 ls []) := by
    intro k
    induction k with
    | zero =>
      intro i14 z14 hi0 hik hz H locs ls hP hS hl
      have hz : .inl z14 = o_L14 := itx_0 hz
      obtain ⟨z14_1, z14_2, z14_3, z14_4, z14_5, z14_6, z14_7, z14_8, z14_9, z14_10, z14_11, z14_12, z14_13, z14_14, z14_15, z14_16, z14_17⟩ := z14
      have hP : va_P D vwCl [(a, .inr (3, [.ref a_lease, .int z14_1, .int z14_2, .int z14_3, .int z14_4, .int z14_5, .int z14_6])), (a_lease, .inr (1, [.ref a_lease_places, .ref a_lease_firstHours, .ref a_lease_spans, .ref a_lease_values, .ref a_lease_cells, .ref a_lease_needs, .ref a_lease_owed, .ref a_lease_room, .int z14_7, .int z14_8, .int z14_9])), (a_lease_owed, .inr (4, [.ref n_lease_owed])), (n_lease_owed, .inl (cI, 12, .inl z14_10)), (a_lease_room, .inr (4, [.ref n_lease_room])), (n_lease_room, .inl (cI, 2, .inl z14_11)), (ar1, .inr (6, [.ref ar1_letters, .int ir1_length])), (ar1_letters, .inr (4, [.ref nr1_letters])), (nr1_letters, .inl (cI, 72, .inl fr1_letters)), (a_lease_places, .inr (4, [.ref n_lease_places])), (n_lease_places, .inl (cI, 5, .inl z14_12)), (a_lease_firstHours, .inr (4, [.ref n_lease_firstHours])), (n_lease_firstHours, .inl (cI, 5, .inl z14_13)), (a_lease_spans, .inr (4, [.ref n_lease_spans])), (n_lease_spans, .inl (cI, 5, .inl z14_14)), (a_lease_values, .inr (4, [.ref n_lease_values])), (n_lease_values, .inl (cI, 5, .inl z14_15)), (a_lease_cells, .inr (4, [.ref n_lease_cells])), (n_lease_cells, .inl (cI, 5, .inl z14_16)), (a_lease_needs, .inr (4, [.ref n_lease_needs])), (n_lease_needs, .inl (cI, 5, .inl z14_17))] H := hP
      have hl : lv_has ls 3 [(2, .int (nI i14)), (0, .ref a), (1, .ref ar1)] := hl
      refine lv_iload_n hx hb dX3_readThrough_14 rfl (lv_at hl 0 rfl) ?_
      refine lv_aload_n hx hb dX3_readThrough_15 rfl (lv_at hl 2 rfl) ?_
      obtain ⟨o_16, ho_16⟩ : ∃ z : Int32, z = v_X6_length ir1_length := ⟨_, rfl⟩
      refine callVIs (As := []) (rest := [.int (nI i14)]) o_16 ho_16 hF (k_X6_length l D cI cZ ar1 ar1_letters ir1_length) (cwV 0 hts gX3_readThrough_X6_length rfl rfl rfl (by decide +kernel) ⟨Nat.le_of_ble_eq_true rfl, Nat.le_of_ble_eq_true rfl⟩) hK hN hP (va_Dsame hD rfl) hS hA [6] rfl rfl 6 6 (T := TX6) (N := 2) rfl rfl rfl hl.1 rfl (Nat.le_of_ble_eq_true rfl) dX3_readThrough_16 ⟨Nat.zero_le _, Nat.zero_le _⟩ o_16 rfl rfl (fun H locs hP hS => ?_)
      refine lv_icmp_ge (tgt := 42) hx hb dX3_readThrough_19 (by decide) (fun _ => ?_) (fun c => absurd (by rw [ho_16]; exact (cb_ge (by omega) (by have := cb_lt31 (v_X6_length ir1_length); omega))) c)
      exact kE14 (z14_1, z14_2, z14_3, z14_4, z14_5, z14_6, z14_7, z14_8, z14_9, z14_10, z14_11, z14_12, z14_13, z14_14, z14_15, z14_16, z14_17) hz.symm _ _ _ hP hS (lv_sub hl [1, 2] rfl)
    | succ k ih =>
      intro i14 z14 hi0 hik hz H locs ls hP hS hl
      obtain ⟨z14_1, z14_2, z14_3, z14_4, z14_5, z14_6, z14_7, z14_8, z14_9, z14_10, z14_11, z14_12, z14_13, z14_14, z14_15, z14_16, z14_17⟩ := z14
      have hP : va_P D vwCl [(a, .inr (3, [.ref a_lease, .int z14_1, .int z14_2, .int z14_3, .int z14_4, .int z14_5, .int z14_6])), (a_lease, .inr (1, [.ref a_lease_places, .ref a_lease_firstHours, .ref a_lease_spans, .ref a_lease_values, .ref a_lease_cells, .ref a_lease_needs, .ref a_lease_owed, .ref a_lease_room, .int z14_7, .int z14_8, .int z14_9])), (a_lease_owed, .inr (4, [.ref n_lease_owed])), (n_lease_owed, .inl (cI, 12, .inl z14_10)), (a_lease_room, .inr (4, [.ref n_lease_room])), (n_lease_room, .inl (cI, 2, .inl z14_11)), (ar1, .inr (6, [.ref ar1_letters, .int ir1_length])), (ar1_letters, .inr (4, [.ref nr1_letters])), (nr1_letters, .inl (cI, 72, .inl fr1_letters)), (a_lease_places, .inr (4, [.ref n_lease_places])), (n_lease_places, .inl (cI, 5, .inl z14_12)), (a_lease_firstHours, .inr (4, [.ref n_lease_firstHours])), (n_lease_firstHours, .inl (cI, 5, .inl z14_13)), (a_lease_spans, .inr (4, [.ref n_lease_spans])), (n_lease_spans, .inl (cI, 5, .inl z14_14)), (a_lease_values, .inr (4, [.ref n_lease_values])), (n_lease_values, .inl (cI, 5, .inl z14_15)), (a_lease_cells, .inr (4, [.ref n_lease_cells])), (n_lease_cells, .inl (cI, 5, .inl z14_16)), (a_lease_needs, .inr (4, [.ref n_lease_needs])), (n_lease_needs, .inl (cI, 5, .inl z14_17))] H := hP
      have hl : lv_has ls 3 [(2, .int (nI i14)), (0, .ref a), (1, .ref ar1)] := hl
      refine lv_iload_n hx hb dX3_readThrough_14 rfl (lv_at hl 0 rfl) ?_
      refine lv_aload_n hx hb dX3_readThrough_15 rfl (lv_at hl 2 rfl) ?_
      obtain ⟨o_16, ho_16⟩ : ∃ z : Int32, z = v_X6_length ir1_length := ⟨_, rfl⟩
      refine callVIs (As := []) (rest := [.int (nI i14)]) o_16 ho_16 hF (k_X6_length l D cI cZ ar1 ar1_letters ir1_length) (cwV 0 hts gX3_readThrough_X6_length rfl rfl rfl (by decide +kernel) ⟨Nat.le_of_ble_eq_true rfl, Nat.le_of_ble_eq_true rfl⟩) hK hN hP (va_Dsame hD rfl) hS hA [6] rfl rfl 6 6 (T := TX6) (N := 2) rfl rfl rfl hl.1 rfl (Nat.le_of_ble_eq_true rfl) dX3_readThrough_16 ⟨Nat.zero_le _, Nat.zero_le _⟩ o_16 rfl rfl (fun H locs hP hS => ?_)
      refine lv_icmp_ge (tgt := 42) hx hb dX3_readThrough_19 (by decide) (fun c => absurd c (by rw [ho_16]; exact (cb_lt (by omega)))) (fun _ => ?_)
      refine lv_aload_n hx hb dX3_readThrough_22 rfl (lv_at hl 1 rfl) ?_
      refine lv_aload_n hx hb dX3_readThrough_23 rfl (lv_at hl 2 rfl) ?_
      refine lv_iload_n hx hb dX3_readThrough_24 rfl (lv_at hl 0 rfl) ?_
      obtain ⟨o_25, ho_25⟩ : ∃ z : Int32, z = v_X6_letterAt (nI i14) fr1_letters := ⟨_, rfl⟩
      refine callVIs (As := [.int (nI i14)]) (rest := [.ref a]) o_25 ho_25 hF (k_X6_letterAt l D cI cZ ar1 ar1_letters nr1_letters (nI i14) ir1_length fr1_letters) (cwV 1 hts gX3_readThrough_X6_letterAt rfl rfl rfl (by decide +kernel) ⟨Nat.le_of_ble_eq_true rfl, Nat.le_of_ble_eq_true rfl⟩) hK hN hP (va_Dsame hD rfl) hS hA [6, 7, 8] rfl rfl 6 6 (T := TX6) (N := 2) rfl rfl rfl hl.1 rfl (Nat.le_of_ble_eq_true rfl) dX3_readThrough_25 ⟨Nat.zero_le _, Nat.zero_le _⟩ o_25 rfl rfl (fun H locs hP hS => ?_)
      obtain ⟨o_28_1, o_28_2, o_28_3, o_28_4, o_28_5, o_28_6, o_28_7, o_28_8, o_28_9, o_28_10, o_28_11, o_28_12, o_28_13, o_28_14, o_28_15, o_28_16, o_28_17, o_28_18, ho_28⟩ := ex18 (v_X3_takes o_25 z14_1 z14_2 z14_3 z14_4 z14_5 z14_6 z14_7 z14_8 z14_9 z14_12 z14_13 z14_14 z14_15 z14_16 z14_17 z14_10 z14_11)
      refine callVI (As := [.int o_25]) (rest := []) (o_28_1, o_28_2, o_28_3, o_28_4, o_28_5, o_28_6, o_28_7, o_28_8, o_28_9, o_28_10, o_28_11, o_28_12, o_28_13, o_28_14, o_28_15, o_28_16, o_28_17, o_28_18) ho_28 hF (k_X3_takes l D cI cZ a a_lease a_lease_places a_lease_firstHours a_lease_spans a_lease_values a_lease_cells a_lease_needs a_lease_owed a_lease_room n_lease_places n_lease_firstHours n_lease_spans n_lease_values n_lease_cells n_lease_needs n_lease_owed n_lease_room o_25 z14_1 z14_2 z14_3 z14_4 z14_5 z14_6 z14_7 z14_8 z14_9 z14_12 z14_13 z14_14 z14_15 z14_16 z14_17 z14_10 z14_11) (cwV 1 hts gX3_readThrough_X3_takes rfl rfl rfl (by decide +kernel) ⟨Nat.le_of_ble_eq_true rfl, Nat.le_of_ble_eq_true rfl⟩) hK hN hP (va_Dsame hD rfl) hS hA [0, 1, 9, 10, 11, 12, 13, 14, 15, 16, 17, 18, 19, 20, 2, 3, 4, 5] rfl rfl 0 3 (T := TX3) (N := 7) rfl rfl rfl hl.1 rfl (Nat.le_of_ble_eq_true rfl) dX3_readThrough_28 ⟨Nat.zero_le _, Nat.zero_le _⟩ (bI o_28_1) rfl [some 0, some 1, some 14, some 15, some 16, some 17, none, none, none, some 2, some 3, some 4, some 5, some 6, some 7, some 8, some 9, some 10, some 11, some 12, some 13] 18 [(a, .inr (3, [.ref a_lease, .int o_28_2, .int o_28_3, .int o_28_4, .int o_28_5, .int o_28_6, .int o_28_7])), (a_lease, .inr (1, [.ref a_lease_places, .ref a_lease_firstHours, .ref a_lease_spans, .ref a_lease_values, .ref a_lease_cells, .ref a_lease_needs, .ref a_lease_owed, .ref a_lease_room, .int o_28_9, .int o_28_10, .int o_28_8])), (a_lease_owed, .inr (4, [.ref n_lease_owed])), (n_lease_owed, .inl (cI, 12, .inl o_28_13)), (a_lease_room, .inr (4, [.ref n_lease_room])), (n_lease_room, .inl (cI, 2, .inl o_28_14)), (ar1, .inr (6, [.ref ar1_letters, .int ir1_length])), (ar1_letters, .inr (4, [.ref nr1_letters])), (nr1_letters, .inl (cI, 72, .inl fr1_letters)), (a_lease_places, .inr (4, [.ref n_lease_places])), (n_lease_places, .inl (cI, 5, .inl o_28_15)), (a_lease_firstHours, .inr (4, [.ref n_lease_firstHours])), (n_lease_firstHours, .inl (cI, 5, .inl o_28_16)), (a_lease_spans, .inr (4, [.ref n_lease_spans])), (n_lease_spans, .inl (cI, 5, .inl o_28_17)), (a_lease_values, .inr (4, [.ref n_lease_values])), (n_lease_values, .inl (cI, 5, .inl o_28_18)), (a_lease_cells, .inr (4, [.ref n_lease_cells])), (n_lease_cells, .inl (cI, 5, .inl o_28_11)), (a_lease_needs, .inr (4, [.ref n_lease_needs])), (n_lease_needs, .inl (cI, 5, .inl o_28_12))] rfl rfl (by decide) (fun H locs hP hS => ?_)
      refine lv_if_ne (tgt := 36) hx hb dX3_readThrough_31 (by decide) (fun c_31 => ?_) (fun c_31 => ?_)
      · refine lv_iinc (v := (nI (i14 + 1))) (lv' := [(2, .int (nI (i14 + 1))), (0, .ref a), (1, .ref ar1)]) hx hb dX3_readThrough_36 hl (k := 0) rfl (nI_1 _) (by decide) rfl (fun ls hl => ?_)
        refine lv_goto (tgt := 14) hx hb dX3_readThrough_39 (by decide) ?_
        have e8 : v_X3_readThrough_L14 ir1_length fr1_letters i14 (z14_1, z14_2, z14_3, z14_4, z14_5, z14_6, z14_7, z14_8, z14_9, z14_10, z14_11, z14_12, z14_13, z14_14, z14_15, z14_16, z14_17) = .inl (o_28_2, o_28_3, o_28_4, o_28_5, o_28_6, o_28_7, o_28_9, o_28_10, o_28_8, o_28_13, o_28_14, o_28_15, o_28_16, o_28_17, o_28_18, o_28_11, o_28_12) := by
          show v_X3_readThrough_L14c ir1_length fr1_letters i14 z14_1 z14_2 z14_3 z14_4 z14_5 z14_6 z14_7 z14_8 z14_9 z14_10 z14_11 z14_12 z14_13 z14_14 z14_15 z14_16 z14_17 = .inl (o_28_2, o_28_3, o_28_4, o_28_5, o_28_6, o_28_7, o_28_9, o_28_10, o_28_8, o_28_13, o_28_14, o_28_15, o_28_16, o_28_17, o_28_18, o_28_11, o_28_12)
          refine (bnd_eq ho_16).trans ?_
          refine (bnd_eq ho_25).trans ?_
          refine (bnd18_eq ho_28).trans ?_
          refine (if_neg c_31).trans ?_
          rfl
        exact ih (i14 + 1) (o_28_2, o_28_3, o_28_4, o_28_5, o_28_6, o_28_7, o_28_9, o_28_10, o_28_8, o_28_13, o_28_14, o_28_15, o_28_16, o_28_17, o_28_18, o_28_11, o_28_12) (by omega) (by omega) ((itx_go e8).symm.trans hz) _ _ _ hP hS (lv_sub hl [0, 1, 2] rfl)
      · refine lv_iload_n hx hb dX3_readThrough_34 rfl (lv_at hl 0 rfl) ?_
        have e8 : v_X3_readThrough_L14 ir1_length fr1_letters i14 (z14_1, z14_2, z14_3, z14_4, z14_5, z14_6, z14_7, z14_8, z14_9, z14_10, z14_11, z14_12, z14_13, z14_14, z14_15, z14_16, z14_17) = .inr (nI i14, o_28_2, o_28_3, o_28_4, o_28_5, o_28_6, o_28_7, o_28_8, o_28_9, o_28_10, o_28_15, o_28_16, o_28_17, o_28_18, o_28_11, o_28_12, o_28_13, o_28_14) := by
          show v_X3_readThrough_L14c ir1_length fr1_letters i14 z14_1 z14_2 z14_3 z14_4 z14_5 z14_6 z14_7 z14_8 z14_9 z14_10 z14_11 z14_12 z14_13 z14_14 z14_15 z14_16 z14_17 = .inr (nI i14, o_28_2, o_28_3, o_28_4, o_28_5, o_28_6, o_28_7, o_28_8, o_28_9, o_28_10, o_28_15, o_28_16, o_28_17, o_28_18, o_28_11, o_28_12, o_28_13, o_28_14)
          refine (bnd_eq ho_16).trans ?_
          refine (bnd_eq ho_25).trans ?_
          refine (bnd18_eq ho_28).trans ?_
          refine (if_pos c_31).trans ?_
          rfl
        have e7 : .inr (nI i14, o_28_2, o_28_3, o_28_4, o_28_5, o_28_6, o_28_7, o_28_8, o_28_9, o_28_10, o_28_15, o_28_16, o_28_17, o_28_18, o_28_11, o_28_12, o_28_13, o_28_14) = o_L14 := (itx_out e8).symm.trans hz
        have e9 : v_X3_readThrough i_come i_number i_firstHour i_span i_value f_lease_owed f_lease_room ir1_length fr1_letters f_lease_places f_lease_firstHours f_lease_spans f_lease_values f_lease_cells f_lease_needs = (nI i14, o_28_2, o_28_3, o_28_4, o_28_5, o_28_6, o_28_7, o_28_8, o_28_9, o_28_10, o_28_15, o_28_16, o_28_17, o_28_18, o_28_11, o_28_12, o_28_13, o_28_14) := by
          refine (bnd5_eq ho_4).trans ?_
          refine (mch_eq ho_L14).trans ?_
          rw [← e7]; rfl
        rw [hQ]; exact retI (nI i14, o_28_2, o_28_3, o_28_4, o_28_5, o_28_6, o_28_7, o_28_8, o_28_9, o_28_10, o_28_15, o_28_16, o_28_17, o_28_18, o_28_11, o_28_12, o_28_13, o_28_14) hx hb hr hlk e9 hP rfl hS dX3_readThrough_35
  exact loop14 (v_X6_length ir1_length).toNatClampNeg 0 (0, i_come, i_number, i_firstHour, i_span, i_value, o_4_2, o_4_3, o_4_1, o_4_4, o_4_5, f_lease_places, f_lease_firstHours, f_lease_spans, f_lease_values, f_lease_cells, f_lease_needs) (Nat.le_refl _) rfl ho_L14.symm _ _ _ hP hS (lv_sub hl [0, 1, 2] rfl)
def v_X5_forget : Int32 :=
  0
abbrev rm_X5_forget : Room := { frames := 0, cells := 0, slots := 0, locals := 0 }
set_option maxHeartbeats 4000000 in
set_option maxRecDepth 100000 in
theorem k_X5_forget (l : Launch) (D : va_G) (cI cZ : ClassId) (a a_lease a_lawful a_grants a_bests a_mosts : Nat) (i_isMade : Int32) : KV l D cI cZ yX5_forget wsX5_forget rm_X5_forget [.ref a] [(a, .inr (5, [.ref a_lease, .ref a_lawful, .ref a_grants, .ref a_bests, .ref a_mosts, .int i_isMade]))] v_X5_forget (fun o : Int32 => [(a, .inr (5, [.ref a_lease, .ref a_lawful, .ref a_grants, .ref a_bests, .ref a_mosts, .int o]))]) := by
  refine KV.of cX5_forget 1 none (by decide) rfl (Nat.le_of_ble_eq_true rfl) ?_
  intro p e s m below meth c A ls ar Q hQ B
  obtain ⟨hx, hb, hr, hml, hts, hown, hlk, hK, hN, hP, hD, hA, hS, hl⟩ := B
  have hown : s.vm.findClass RX5 = some m.cls := hown
  have hF : CallFix p m c cX5_forget 1 s ar wsX5_forget RX5 := ⟨hx, hb, hml, hown, hts⟩
  have hl : lv_has ls 1 [(0, .ref a)] := hl
  refine lv_aload_n hx hb dX5_forget_0 rfl (lv_at hl 0 rfl) ?_
  refine lv_iconst (v := 0) hx hb dX5_forget_1 rfl ?_
  refine va_put (D := D) (ci := 5) (v := .int 0) (ty := .boolean) (C := RX5) (T := TX5) (N := 6) hx hb hts (fun _ h => List.mem_cons_of_mem _ (List.mem_append_right _ (h))) tyX5 tyX5_ok nmX5 hown hK hP (va_Dsame hD rfl) hS 0 rfl rfl 5 (by decide) (hts _ (List.mem_of_getElem? (i := 1) rfl)) (fun _ h9 => h9) rfl (tyX5_ok 5 (by decide)) rfl rfl (Nat.le_of_ble_eq_true rfl) dX5_forget_2 (fun H locs hP _ hS => ?_)
  have hP : va_P D vwCl [(a, .inr (5, [.ref a_lease, .ref a_lawful, .ref a_grants, .ref a_bests, .ref a_mosts, .int 0]))] H := hP
  have e9 : v_X5_forget = 0 := by
    rfl
  rw [hQ]; exact retV 0 hx hb hr hlk e9 hP hS dX5_forget_5
def v_X7_isHanging (x0 : Int32) : Bool :=
  if x0 < 0 then false
  else (if 4096 ≤ x0 then false
  else (bnd (v_J6_bitCount_0f7a4 x0) fun o_12 =>
  (if 5 < o_12 then false
  else true)))
abbrev rm_X7_isHanging : Room := { frames := 1, cells := 0, slots := 0, locals := 20 }
set_option maxHeartbeats 4000000 in
set_option maxRecDepth 100000 in
theorem k_X7_isHanging (l : Launch) (D : va_G) (cI cZ : ClassId) (x0 : Int32) : KI l D cI cZ yX7_isHanging wsX7_isHanging rm_X7_isHanging [.int x0] [] (v_X7_isHanging x0) (fun o : Bool => bI o) (fun _ : Bool => []) := by
  refine KI.of cX7_isHanging 1 (some .boolean) (by decide) rfl (Nat.le_of_ble_eq_true rfl) ?_
  intro p e s m below meth c A ls ar Q hQ B
  obtain ⟨hx, hb, hr, hml, hts, hown, hlk, hK, hN, hP, hD, hA, hS, hl⟩ := B
  have hown : s.vm.findClass RX7 = some m.cls := hown
  have hF : CallFix p m c cX7_isHanging 1 s ar wsX7_isHanging RX7 := ⟨hx, hb, hml, hown, hts⟩
  have hl : lv_has ls 1 [(0, .int x0)] := hl
  refine lv_iload_n hx hb dX7_isHanging_0 rfl (lv_at hl 0 rfl) ?_
  refine lv_if_lt (tgt := 23) hx hb dX7_isHanging_1 (by decide) (fun c_1 => ?_) (fun c_1 => ?_)
  · refine lv_iconst (v := 0) hx hb dX7_isHanging_23 rfl ?_
    have e9 : v_X7_isHanging x0 = false := by
      refine (if_pos c_1).trans ?_
      rfl
    rw [hQ]; exact retZ (v := fun o : Bool => o) false hx hb hr hlk e9 hP rfl hS dX7_isHanging_24
  · refine lv_iload_n hx hb dX7_isHanging_4 rfl (lv_at hl 0 rfl) ?_
    refine lv_sipush (v := 4096) hx hb dX7_isHanging_5 rfl ?_
    refine lv_icmp_ge (tgt := 23) hx hb dX7_isHanging_8 (by decide) (fun c_8 => ?_) (fun c_8 => ?_)
    · refine lv_iconst (v := 0) hx hb dX7_isHanging_23 rfl ?_
      have e9 : v_X7_isHanging x0 = false := by
        refine (if_neg c_1).trans ?_
        refine (if_pos c_8).trans ?_
        rfl
      rw [hQ]; exact retZ (v := fun o : Bool => o) false hx hb hr hlk e9 hP rfl hS dX7_isHanging_24
    · refine lv_iload_n hx hb dX7_isHanging_11 rfl (lv_at hl 0 rfl) ?_
      obtain ⟨o_12, ho_12⟩ : ∃ z : Int32, z = v_J6_bitCount_0f7a4 x0 := ⟨_, rfl⟩
      refine callSIs (As := [.int x0]) (rest := []) o_12 ho_12 hF (k_J6_bitCount_0f7a4 l D cI cZ x0) (va_cwS 1 hts gX7_isHanging_J6_bitCount_0f7a4 rfl rfl rfl (by decide +kernel) ⟨Nat.le_of_ble_eq_true rfl, Nat.le_of_ble_eq_true rfl⟩) hK hN hP (va_Dsame hD rfl) hS hA [] rfl rfl rfl hl.1 rfl (Nat.le_of_ble_eq_true rfl) dX7_isHanging_12 ⟨Nat.zero_le _, Nat.zero_le _⟩ o_12 rfl rfl (fun H locs hP hS => ?_)
      refine lv_iconst (v := 5) hx hb dX7_isHanging_15 rfl ?_
      refine lv_icmp_gt (tgt := 23) hx hb dX7_isHanging_16 (by decide) (fun c_16 => ?_) (fun c_16 => ?_)
      · refine lv_iconst (v := 0) hx hb dX7_isHanging_23 rfl ?_
        have e9 : v_X7_isHanging x0 = false := by
          refine (if_neg c_1).trans ?_
          refine (if_neg c_8).trans ?_
          refine (bnd_eq ho_12).trans ?_
          refine (if_pos c_16).trans ?_
          rfl
        rw [hQ]; exact retZ (v := fun o : Bool => o) false hx hb hr hlk e9 hP rfl hS dX7_isHanging_24
      · refine lv_iconst (v := 1) hx hb dX7_isHanging_19 rfl ?_
        refine lv_goto (tgt := 24) hx hb dX7_isHanging_20 (by decide) ?_
        have e9 : v_X7_isHanging x0 = true := by
          refine (if_neg c_1).trans ?_
          refine (if_neg c_8).trans ?_
          refine (bnd_eq ho_12).trans ?_
          refine (if_neg c_16).trans ?_
          rfl
        rw [hQ]; exact retZ (v := fun o : Bool => o) true hx hb hr hlk e9 hP rfl hS dX7_isHanging_24
def v_X5_enter (x1 : Int32) (i_lease_wishCount : Int32) (f_lease_cells : Nat → Int32) (f_lease_needs : Nat → Int32) (f_lease_values : Nat → Int32) (f_lawful : Nat → Int32) (f_grants : Nat → Int32) (f_mosts : Nat → Int32) (f_bests : Nat → Int32) : (Nat → Int32) × (Nat → Int32) × (Nat → Int32) × (Nat → Int32) :=
  bnd (v_J6_bitCount_0f7a4 x1) fun o_1 =>
  (bnd (v_X1_grantedBy x1 i_lease_wishCount f_lease_cells f_lease_needs) fun o_10 =>
  (bnd (v_X1_sumOf o_10 i_lease_wishCount f_lease_values) fun o_19 =>
  (bnd (v_X4_at o_1 f_lawful 6) fun o_34 =>
  (bnd (v_X4_put o_1 (o_34 + 1) f_lawful 6) fun o_39 =>
  (bnd (v_X4_at o_1 f_grants 6) fun o_52 =>
  (bnd (v_X4_put o_1 (o_52 ||| ((1 : Int32) <<< (o_10 &&& 31))) f_grants 6) fun o_59 =>
  (bnd (v_X4_at o_1 f_mosts 6) fun o_69 =>
  (if o_19 ≤ o_69 then (o_59, f_mosts, f_bests, o_39)
  else (bnd (v_X4_put o_1 o_19 f_mosts 6) fun o_82 =>
  (bnd (v_X4_put o_1 x1 f_bests 6) fun o_91 =>
  (o_59, o_82, o_91, o_39)))))))))))
abbrev rm_X5_enter : Room := { frames := 2, cells := 0, slots := 0, locals := 44 }
set_option maxHeartbeats 4000000 in
set_option maxRecDepth 100000 in
theorem k_X5_enter (l : Launch) (D : va_G) (cI cZ : ClassId) (a a_lease a_lawful a_grants a_bests a_mosts a_lease_places a_lease_firstHours a_lease_spans a_lease_values a_lease_cells a_lease_needs a_lease_owed a_lease_room n_lease_cells n_lease_needs n_lease_values n_lawful n_grants n_mosts n_bests : Nat) (x1 : Int32) (i_isMade : Int32) (i_lease_squares : Int32) (i_lease_wishCount : Int32) (i_lease_owedPlaces : Int32) (f_lease_cells : Nat → Int32) (f_lease_needs : Nat → Int32) (f_lease_values : Nat → Int32) (f_lawful : Nat → Int32) (f_grants : Nat → Int32) (f_mosts : Nat → Int32) (f_bests : Nat → Int32) : KV l D cI cZ yX5_enter wsX5_enter rm_X5_enter [.ref a, .int x1] [(a, .inr (5, [.ref a_lease, .ref a_lawful, .ref a_grants, .ref a_bests, .ref a_mosts, .int i_isMade])), (a_lease, .inr (1, [.ref a_lease_places, .ref a_lease_firstHours, .ref a_lease_spans, .ref a_lease_values, .ref a_lease_cells, .ref a_lease_needs, .ref a_lease_owed, .ref a_lease_room, .int i_lease_squares, .int i_lease_wishCount, .int i_lease_owedPlaces])), (a_lease_cells, .inr (4, [.ref n_lease_cells])), (n_lease_cells, .inl (cI, 5, .inl f_lease_cells)), (a_lease_needs, .inr (4, [.ref n_lease_needs])), (n_lease_needs, .inl (cI, 5, .inl f_lease_needs)), (a_lease_values, .inr (4, [.ref n_lease_values])), (n_lease_values, .inl (cI, 5, .inl f_lease_values)), (a_lawful, .inr (4, [.ref n_lawful])), (n_lawful, .inl (cI, 6, .inl f_lawful)), (a_grants, .inr (4, [.ref n_grants])), (n_grants, .inl (cI, 6, .inl f_grants)), (a_mosts, .inr (4, [.ref n_mosts])), (n_mosts, .inl (cI, 6, .inl f_mosts)), (a_bests, .inr (4, [.ref n_bests])), (n_bests, .inl (cI, 6, .inl f_bests))] (v_X5_enter x1 i_lease_wishCount f_lease_cells f_lease_needs f_lease_values f_lawful f_grants f_mosts f_bests) (fun o : (Nat → Int32) × (Nat → Int32) × (Nat → Int32) × (Nat → Int32) => [(a, .inr (5, [.ref a_lease, .ref a_lawful, .ref a_grants, .ref a_bests, .ref a_mosts, .int i_isMade])), (a_lease, .inr (1, [.ref a_lease_places, .ref a_lease_firstHours, .ref a_lease_spans, .ref a_lease_values, .ref a_lease_cells, .ref a_lease_needs, .ref a_lease_owed, .ref a_lease_room, .int i_lease_squares, .int i_lease_wishCount, .int i_lease_owedPlaces])), (a_lease_cells, .inr (4, [.ref n_lease_cells])), (n_lease_cells, .inl (cI, 5, .inl f_lease_cells)), (a_lease_needs, .inr (4, [.ref n_lease_needs])), (n_lease_needs, .inl (cI, 5, .inl f_lease_needs)), (a_lease_values, .inr (4, [.ref n_lease_values])), (n_lease_values, .inl (cI, 5, .inl f_lease_values)), (a_lawful, .inr (4, [.ref n_lawful])), (n_lawful, .inl (cI, 6, .inl o.2.2.2)), (a_grants, .inr (4, [.ref n_grants])), (n_grants, .inl (cI, 6, .inl o.1)), (a_mosts, .inr (4, [.ref n_mosts])), (n_mosts, .inl (cI, 6, .inl o.2.1)), (a_bests, .inr (4, [.ref n_bests])), (n_bests, .inl (cI, 6, .inl o.2.2.1))]) := by
  refine KV.of cX5_enter 5 none (by decide) rfl (Nat.le_of_ble_eq_true rfl) ?_
  intro p e s m below meth c A ls ar Q hQ B
  obtain ⟨hx, hb, hr, hml, hts, hown, hlk, hK, hN, hP, hD, hA, hS, hl⟩ := B
  have hown : s.vm.findClass RX5 = some m.cls := hown
  have hF : CallFix p m c cX5_enter 5 s ar wsX5_enter RX5 := ⟨hx, hb, hml, hown, hts⟩
  have hl : lv_has ls 5 [(0, .ref a), (1, .int x1)] := hl
  refine lv_iload_n hx hb dX5_enter_0 rfl (lv_at hl 1 rfl) ?_
  obtain ⟨o_1, ho_1⟩ : ∃ z : Int32, z = v_J6_bitCount_0f7a4 x1 := ⟨_, rfl⟩
  refine callSIs (As := [.int x1]) (rest := []) o_1 ho_1 hF (k_J6_bitCount_0f7a4 l D cI cZ x1) (va_cwS 1 hts gX5_enter_J6_bitCount_0f7a4 rfl rfl rfl (by decide +kernel) ⟨Nat.le_of_ble_eq_true rfl, Nat.le_of_ble_eq_true rfl⟩) hK hN hP (va_Dsame hD rfl) hS hA [] rfl rfl rfl hl.1 rfl (Nat.le_of_ble_eq_true rfl) dX5_enter_1 ⟨Nat.zero_le _, Nat.zero_le _⟩ o_1 rfl rfl (fun H locs hP hS => ?_)
  refine lv_istore_n (lv' := [(2, .int o_1), (0, .ref a), (1, .int x1)]) hx hb dX5_enter_4 rfl hl (by decide) rfl (fun ls hl => ?_)
  refine lv_aload_n hx hb dX5_enter_5 rfl (lv_at hl 1 rfl) ?_
  refine va_get (D := D) (ci := 5) (v := .ref a_lease) (C := RX5) (T := TX5) (N := 6) hx hb hts (fun _ h => List.mem_cons_of_mem _ (List.mem_append_left _ (List.mem_append_left _ (List.mem_append_right _ (h))))) hown hK hP 0 rfl rfl 0 (by decide) (hts _ (List.mem_of_getElem? (i := 1) rfl)) (fun _ h9 => h9) rfl dX5_enter_6 ?_
  refine lv_iload_n hx hb dX5_enter_9 rfl (lv_at hl 2 rfl) ?_
  obtain ⟨o_10, ho_10⟩ : ∃ z : Int32, z = v_X1_grantedBy x1 i_lease_wishCount f_lease_cells f_lease_needs := ⟨_, rfl⟩
  refine callVIs (As := [.int x1]) (rest := []) o_10 ho_10 hF (k_X1_grantedBy l D cI cZ a_lease a_lease_places a_lease_firstHours a_lease_spans a_lease_values a_lease_cells a_lease_needs a_lease_owed a_lease_room n_lease_cells n_lease_needs x1 i_lease_squares i_lease_wishCount i_lease_owedPlaces f_lease_cells f_lease_needs) (cwV 1 hts gX5_enter_X1_grantedBy rfl rfl rfl (by decide +kernel) ⟨Nat.le_of_ble_eq_true rfl, Nat.le_of_ble_eq_true rfl⟩) hK hN hP (va_Dsame hD rfl) hS hA [1, 2, 3, 4, 5] rfl rfl 1 1 (T := TX1) (N := 11) rfl rfl rfl hl.1 rfl (Nat.le_of_ble_eq_true rfl) dX5_enter_10 ⟨Nat.zero_le _, Nat.zero_le _⟩ o_10 rfl rfl (fun H locs hP hS => ?_)
  refine lv_istore_n (lv' := [(3, .int o_10), (2, .int o_1), (0, .ref a), (1, .int x1)]) hx hb dX5_enter_13 rfl hl (by decide) rfl (fun ls hl => ?_)
  refine lv_aload_n hx hb dX5_enter_14 rfl (lv_at hl 2 rfl) ?_
  refine va_get (D := D) (ci := 5) (v := .ref a_lease) (C := RX5) (T := TX5) (N := 6) hx hb hts (fun _ h => List.mem_cons_of_mem _ (List.mem_append_left _ (List.mem_append_left _ (List.mem_append_right _ (h))))) hown hK hP 0 rfl rfl 0 (by decide) (hts _ (List.mem_of_getElem? (i := 1) rfl)) (fun _ h9 => h9) rfl dX5_enter_15 ?_
  refine lv_iload_n hx hb dX5_enter_18 rfl (lv_at hl 0 rfl) ?_
  obtain ⟨o_19, ho_19⟩ : ∃ z : Int32, z = v_X1_sumOf o_10 i_lease_wishCount f_lease_values := ⟨_, rfl⟩
  refine callVIs (As := [.int o_10]) (rest := []) o_19 ho_19 hF (k_X1_sumOf l D cI cZ a_lease a_lease_places a_lease_firstHours a_lease_spans a_lease_values a_lease_cells a_lease_needs a_lease_owed a_lease_room n_lease_values o_10 i_lease_squares i_lease_wishCount i_lease_owedPlaces f_lease_values) (cwV 1 hts gX5_enter_X1_sumOf rfl rfl rfl (by decide +kernel) ⟨Nat.le_of_ble_eq_true rfl, Nat.le_of_ble_eq_true rfl⟩) hK hN hP (va_Dsame hD rfl) hS hA [1, 6, 7] rfl rfl 1 1 (T := TX1) (N := 11) rfl rfl rfl hl.1 rfl (Nat.le_of_ble_eq_true rfl) dX5_enter_19 ⟨Nat.zero_le _, Nat.zero_le _⟩ o_19 rfl rfl (fun H locs hP hS => ?_)
  refine lv_istore (lv' := [(4, .int o_19), (3, .int o_10), (2, .int o_1), (0, .ref a), (1, .int x1)]) hx hb dX5_enter_22 hl (by decide) rfl (fun ls hl => ?_)
  refine lv_aload_n hx hb dX5_enter_24 rfl (lv_at hl 3 rfl) ?_
  refine va_get (D := D) (ci := 5) (v := .ref a_lawful) (C := RX5) (T := TX5) (N := 6) hx hb hts (fun _ h => List.mem_cons_of_mem _ (List.mem_append_left _ (List.mem_append_left _ (List.mem_append_right _ (h))))) hown hK hP 0 rfl rfl 1 (by decide) (hts _ (List.mem_of_getElem? (i := 2) rfl)) (fun _ h9 => h9) rfl dX5_enter_25 ?_
  refine lv_iload_n hx hb dX5_enter_28 rfl (lv_at hl 2 rfl) ?_
  refine lv_aload_n hx hb dX5_enter_29 rfl (lv_at hl 3 rfl) ?_
  refine va_get (D := D) (ci := 5) (v := .ref a_lawful) (C := RX5) (T := TX5) (N := 6) hx hb hts (fun _ h => List.mem_cons_of_mem _ (List.mem_append_left _ (List.mem_append_left _ (List.mem_append_right _ (h))))) hown hK hP 0 rfl rfl 1 (by decide) (hts _ (List.mem_of_getElem? (i := 2) rfl)) (fun _ h9 => h9) rfl dX5_enter_30 ?_
  refine lv_iload_n hx hb dX5_enter_33 rfl (lv_at hl 2 rfl) ?_
  obtain ⟨o_34, ho_34⟩ : ∃ z : Int32, z = v_X4_at o_1 f_lawful 6 := ⟨_, rfl⟩
  refine callVIs (As := [.int o_1]) (rest := [.int o_1, .ref a_lawful]) o_34 ho_34 hF (k_X4_at l D cI cZ a_lawful n_lawful o_1 f_lawful 6 (by decide)) (cwV 1 hts gX5_enter_X4_at rfl rfl rfl (by decide +kernel) ⟨Nat.le_of_ble_eq_true rfl, Nat.le_of_ble_eq_true rfl⟩) hK hN hP (va_Dsame hD rfl) hS hA [8, 9] rfl rfl 8 4 (T := TX4) (N := 1) rfl rfl rfl hl.1 rfl (Nat.le_of_ble_eq_true rfl) dX5_enter_34 ⟨Nat.zero_le _, Nat.zero_le _⟩ o_34 rfl rfl (fun H locs hP hS => ?_)
  refine lv_iconst (v := 1) hx hb dX5_enter_37 rfl ?_
  refine lv_iadd hx hb dX5_enter_38 ?_
  obtain ⟨o_39, ho_39⟩ : ∃ z : Nat → Int32, z = v_X4_put o_1 (o_34 + 1) f_lawful 6 := ⟨_, rfl⟩
  refine callVV (As := [.int o_1, .int (o_34 + 1)]) (rest := []) o_39 ho_39 hF (k_X4_put l D cI cZ a_lawful n_lawful o_1 (o_34 + 1) f_lawful 6 (by decide)) (cwV 2 hts gX5_enter_X4_put rfl rfl rfl (by decide +kernel) ⟨Nat.le_of_ble_eq_true rfl, Nat.le_of_ble_eq_true rfl⟩) hK hN hP (va_Dsame hD rfl) hS hA [8, 9] rfl rfl 8 4 (T := TX4) (N := 1) rfl rfl rfl hl.1 rfl (Nat.le_of_ble_eq_true rfl) dX5_enter_39 ⟨Nat.zero_le _, Nat.zero_le _⟩ [none, none, none, none, none, none, none, none, some 0, some 1, none, none, none, none, none, none] 2 [(a, .inr (5, [.ref a_lease, .ref a_lawful, .ref a_grants, .ref a_bests, .ref a_mosts, .int i_isMade])), (a_lease, .inr (1, [.ref a_lease_places, .ref a_lease_firstHours, .ref a_lease_spans, .ref a_lease_values, .ref a_lease_cells, .ref a_lease_needs, .ref a_lease_owed, .ref a_lease_room, .int i_lease_squares, .int i_lease_wishCount, .int i_lease_owedPlaces])), (a_lease_cells, .inr (4, [.ref n_lease_cells])), (n_lease_cells, .inl (cI, 5, .inl f_lease_cells)), (a_lease_needs, .inr (4, [.ref n_lease_needs])), (n_lease_needs, .inl (cI, 5, .inl f_lease_needs)), (a_lease_values, .inr (4, [.ref n_lease_values])), (n_lease_values, .inl (cI, 5, .inl f_lease_values)), (a_lawful, .inr (4, [.ref n_lawful])), (n_lawful, .inl (cI, 6, .inl o_39)), (a_grants, .inr (4, [.ref n_grants])), (n_grants, .inl (cI, 6, .inl f_grants)), (a_mosts, .inr (4, [.ref n_mosts])), (n_mosts, .inl (cI, 6, .inl f_mosts)), (a_bests, .inr (4, [.ref n_bests])), (n_bests, .inl (cI, 6, .inl f_bests))] rfl rfl (by decide) (fun H locs hP hS => ?_)
  refine lv_aload_n hx hb dX5_enter_42 rfl (lv_at hl 3 rfl) ?_
  refine va_get (D := D) (ci := 5) (v := .ref a_grants) (C := RX5) (T := TX5) (N := 6) hx hb hts (fun _ h => List.mem_cons_of_mem _ (List.mem_append_left _ (List.mem_append_left _ (List.mem_append_right _ (h))))) hown hK hP 0 rfl rfl 2 (by decide) (hts _ (List.mem_of_getElem? (i := 3) rfl)) (fun _ h9 => h9) rfl dX5_enter_43 ?_
  refine lv_iload_n hx hb dX5_enter_46 rfl (lv_at hl 2 rfl) ?_
  refine lv_aload_n hx hb dX5_enter_47 rfl (lv_at hl 3 rfl) ?_
  refine va_get (D := D) (ci := 5) (v := .ref a_grants) (C := RX5) (T := TX5) (N := 6) hx hb hts (fun _ h => List.mem_cons_of_mem _ (List.mem_append_left _ (List.mem_append_left _ (List.mem_append_right _ (h))))) hown hK hP 0 rfl rfl 2 (by decide) (hts _ (List.mem_of_getElem? (i := 3) rfl)) (fun _ h9 => h9) rfl dX5_enter_48 ?_
  refine lv_iload_n hx hb dX5_enter_51 rfl (lv_at hl 2 rfl) ?_
  obtain ⟨o_52, ho_52⟩ : ∃ z : Int32, z = v_X4_at o_1 f_grants 6 := ⟨_, rfl⟩
  refine callVIs (As := [.int o_1]) (rest := [.int o_1, .ref a_grants]) o_52 ho_52 hF (k_X4_at l D cI cZ a_grants n_grants o_1 f_grants 6 (by decide)) (cwV 1 hts gX5_enter_X4_at rfl rfl rfl (by decide +kernel) ⟨Nat.le_of_ble_eq_true rfl, Nat.le_of_ble_eq_true rfl⟩) hK hN hP (va_Dsame hD rfl) hS hA [10, 11] rfl rfl 10 4 (T := TX4) (N := 1) rfl rfl rfl hl.1 rfl (Nat.le_of_ble_eq_true rfl) dX5_enter_52 ⟨Nat.zero_le _, Nat.zero_le _⟩ o_52 rfl rfl (fun H locs hP hS => ?_)
  refine lv_iconst (v := 1) hx hb dX5_enter_55 rfl ?_
  refine lv_iload_n hx hb dX5_enter_56 rfl (lv_at hl 1 rfl) ?_
  refine lv_ishl hx hb dX5_enter_57 ?_
  refine lv_ior hx hb dX5_enter_58 ?_
  obtain ⟨o_59, ho_59⟩ : ∃ z : Nat → Int32, z = v_X4_put o_1 (o_52 ||| ((1 : Int32) <<< (o_10 &&& 31))) f_grants 6 := ⟨_, rfl⟩
  refine callVV (As := [.int o_1, .int (o_52 ||| ((1 : Int32) <<< (o_10 &&& 31)))]) (rest := []) o_59 ho_59 hF (k_X4_put l D cI cZ a_grants n_grants o_1 (o_52 ||| ((1 : Int32) <<< (o_10 &&& 31))) f_grants 6 (by decide)) (cwV 2 hts gX5_enter_X4_put rfl rfl rfl (by decide +kernel) ⟨Nat.le_of_ble_eq_true rfl, Nat.le_of_ble_eq_true rfl⟩) hK hN hP (va_Dsame hD rfl) hS hA [10, 11] rfl rfl 10 4 (T := TX4) (N := 1) rfl rfl rfl hl.1 rfl (Nat.le_of_ble_eq_true rfl) dX5_enter_59 ⟨Nat.zero_le _, Nat.zero_le _⟩ [none, none, none, none, none, none, none, none, none, none, some 0, some 1, none, none, none, none] 2 [(a, .inr (5, [.ref a_lease, .ref a_lawful, .ref a_grants, .ref a_bests, .ref a_mosts, .int i_isMade])), (a_lease, .inr (1, [.ref a_lease_places, .ref a_lease_firstHours, .ref a_lease_spans, .ref a_lease_values, .ref a_lease_cells, .ref a_lease_needs, .ref a_lease_owed, .ref a_lease_room, .int i_lease_squares, .int i_lease_wishCount, .int i_lease_owedPlaces])), (a_lease_cells, .inr (4, [.ref n_lease_cells])), (n_lease_cells, .inl (cI, 5, .inl f_lease_cells)), (a_lease_needs, .inr (4, [.ref n_lease_needs])), (n_lease_needs, .inl (cI, 5, .inl f_lease_needs)), (a_lease_values, .inr (4, [.ref n_lease_values])), (n_lease_values, .inl (cI, 5, .inl f_lease_values)), (a_lawful, .inr (4, [.ref n_lawful])), (n_lawful, .inl (cI, 6, .inl o_39)), (a_grants, .inr (4, [.ref n_grants])), (n_grants, .inl (cI, 6, .inl o_59)), (a_mosts, .inr (4, [.ref n_mosts])), (n_mosts, .inl (cI, 6, .inl f_mosts)), (a_bests, .inr (4, [.ref n_bests])), (n_bests, .inl (cI, 6, .inl f_bests))] rfl rfl (by decide) (fun H locs hP hS => ?_)
  refine lv_iload hx hb dX5_enter_62 (lv_at hl 0 rfl) ?_
  refine lv_aload_n hx hb dX5_enter_64 rfl (lv_at hl 3 rfl) ?_
  refine va_get (D := D) (ci := 5) (v := .ref a_mosts) (C := RX5) (T := TX5) (N := 6) hx hb hts (fun _ h => List.mem_cons_of_mem _ (List.mem_append_left _ (List.mem_append_left _ (List.mem_append_right _ (h))))) hown hK hP 0 rfl rfl 4 (by decide) (hts _ (List.mem_of_getElem? (i := 4) rfl)) (fun _ h9 => h9) rfl dX5_enter_65 ?_
  refine lv_iload_n hx hb dX5_enter_68 rfl (lv_at hl 2 rfl) ?_
  obtain ⟨o_69, ho_69⟩ : ∃ z : Int32, z = v_X4_at o_1 f_mosts 6 := ⟨_, rfl⟩
  refine callVIs (As := [.int o_1]) (rest := [.int o_19]) o_69 ho_69 hF (k_X4_at l D cI cZ a_mosts n_mosts o_1 f_mosts 6 (by decide)) (cwV 1 hts gX5_enter_X4_at rfl rfl rfl (by decide +kernel) ⟨Nat.le_of_ble_eq_true rfl, Nat.le_of_ble_eq_true rfl⟩) hK hN hP (va_Dsame hD rfl) hS hA [12, 13] rfl rfl 12 4 (T := TX4) (N := 1) rfl rfl rfl hl.1 rfl (Nat.le_of_ble_eq_true rfl) dX5_enter_69 ⟨Nat.zero_le _, Nat.zero_le _⟩ o_69 rfl rfl (fun H locs hP hS => ?_)
  refine lv_icmp_le (tgt := 94) hx hb dX5_enter_72 (by decide) (fun c_72 => ?_) (fun c_72 => ?_)
  · have e9 : v_X5_enter x1 i_lease_wishCount f_lease_cells f_lease_needs f_lease_values f_lawful f_grants f_mosts f_bests = (o_59, f_mosts, f_bests, o_39) := by
      refine (bnd_eq ho_1).trans ?_
      refine (bnd_eq ho_10).trans ?_
      refine (bnd_eq ho_19).trans ?_
      refine (bnd_eq ho_34).trans ?_
      refine (bnd_eq ho_39).trans ?_
      refine (bnd_eq ho_52).trans ?_
      refine (bnd_eq ho_59).trans ?_
      refine (bnd_eq ho_69).trans ?_
      refine (if_pos c_72).trans ?_
      rfl
    rw [hQ]; exact retV (o_59, f_mosts, f_bests, o_39) hx hb hr hlk e9 hP hS dX5_enter_94
  · refine lv_aload_n hx hb dX5_enter_75 rfl (lv_at hl 3 rfl) ?_
    refine va_get (D := D) (ci := 5) (v := .ref a_mosts) (C := RX5) (T := TX5) (N := 6) hx hb hts (fun _ h => List.mem_cons_of_mem _ (List.mem_append_left _ (List.mem_append_left _ (List.mem_append_right _ (h))))) hown hK hP 0 rfl rfl 4 (by decide) (hts _ (List.mem_of_getElem? (i := 4) rfl)) (fun _ h9 => h9) rfl dX5_enter_76 ?_
    refine lv_iload_n hx hb dX5_enter_79 rfl (lv_at hl 2 rfl) ?_
    refine lv_iload hx hb dX5_enter_80 (lv_at hl 0 rfl) ?_
    obtain ⟨o_82, ho_82⟩ : ∃ z : Nat → Int32, z = v_X4_put o_1 o_19 f_mosts 6 := ⟨_, rfl⟩
    refine callVV (As := [.int o_1, .int o_19]) (rest := []) o_82 ho_82 hF (k_X4_put l D cI cZ a_mosts n_mosts o_1 o_19 f_mosts 6 (by decide)) (cwV 2 hts gX5_enter_X4_put rfl rfl rfl (by decide +kernel) ⟨Nat.le_of_ble_eq_true rfl, Nat.le_of_ble_eq_true rfl⟩) hK hN hP (va_Dsame hD rfl) hS hA [12, 13] rfl rfl 12 4 (T := TX4) (N := 1) rfl rfl rfl hl.1 rfl (Nat.le_of_ble_eq_true rfl) dX5_enter_82 ⟨Nat.zero_le _, Nat.zero_le _⟩ [none, none, none, none, none, none, none, none, none, none, none, none, some 0, some 1, none, none] 2 [(a, .inr (5, [.ref a_lease, .ref a_lawful, .ref a_grants, .ref a_bests, .ref a_mosts, .int i_isMade])), (a_lease, .inr (1, [.ref a_lease_places, .ref a_lease_firstHours, .ref a_lease_spans, .ref a_lease_values, .ref a_lease_cells, .ref a_lease_needs, .ref a_lease_owed, .ref a_lease_room, .int i_lease_squares, .int i_lease_wishCount, .int i_lease_owedPlaces])), (a_lease_cells, .inr (4, [.ref n_lease_cells])), (n_lease_cells, .inl (cI, 5, .inl f_lease_cells)), (a_lease_needs, .inr (4, [.ref n_lease_needs])), (n_lease_needs, .inl (cI, 5, .inl f_lease_needs)), (a_lease_values, .inr (4, [.ref n_lease_values])), (n_lease_values, .inl (cI, 5, .inl f_lease_values)), (a_lawful, .inr (4, [.ref n_lawful])), (n_lawful, .inl (cI, 6, .inl o_39)), (a_grants, .inr (4, [.ref n_grants])), (n_grants, .inl (cI, 6, .inl o_59)), (a_mosts, .inr (4, [.ref n_mosts])), (n_mosts, .inl (cI, 6, .inl o_82)), (a_bests, .inr (4, [.ref n_bests])), (n_bests, .inl (cI, 6, .inl f_bests))] rfl rfl (by decide) (fun H locs hP hS => ?_)
    refine lv_aload_n hx hb dX5_enter_85 rfl (lv_at hl 3 rfl) ?_
    refine va_get (D := D) (ci := 5) (v := .ref a_bests) (C := RX5) (T := TX5) (N := 6) hx hb hts (fun _ h => List.mem_cons_of_mem _ (List.mem_append_left _ (List.mem_append_left _ (List.mem_append_right _ (h))))) hown hK hP 0 rfl rfl 3 (by decide) (hts _ (List.mem_of_getElem? (i := 5) rfl)) (fun _ h9 => h9) rfl dX5_enter_86 ?_
    refine lv_iload_n hx hb dX5_enter_89 rfl (lv_at hl 2 rfl) ?_
    refine lv_iload_n hx hb dX5_enter_90 rfl (lv_at hl 4 rfl) ?_
    obtain ⟨o_91, ho_91⟩ : ∃ z : Nat → Int32, z = v_X4_put o_1 x1 f_bests 6 := ⟨_, rfl⟩
    refine callVV (As := [.int o_1, .int x1]) (rest := []) o_91 ho_91 hF (k_X4_put l D cI cZ a_bests n_bests o_1 x1 f_bests 6 (by decide)) (cwV 2 hts gX5_enter_X4_put rfl rfl rfl (by decide +kernel) ⟨Nat.le_of_ble_eq_true rfl, Nat.le_of_ble_eq_true rfl⟩) hK hN hP (va_Dsame hD rfl) hS hA [14, 15] rfl rfl 14 4 (T := TX4) (N := 1) rfl rfl rfl hl.1 rfl (Nat.le_of_ble_eq_true rfl) dX5_enter_91 ⟨Nat.zero_le _, Nat.zero_le _⟩ [none, none, none, none, none, none, none, none, none, none, none, none, none, none, some 0, some 1] 2 [(a, .inr (5, [.ref a_lease, .ref a_lawful, .ref a_grants, .ref a_bests, .ref a_mosts, .int i_isMade])), (a_lease, .inr (1, [.ref a_lease_places, .ref a_lease_firstHours, .ref a_lease_spans, .ref a_lease_values, .ref a_lease_cells, .ref a_lease_needs, .ref a_lease_owed, .ref a_lease_room, .int i_lease_squares, .int i_lease_wishCount, .int i_lease_owedPlaces])), (a_lease_cells, .inr (4, [.ref n_lease_cells])), (n_lease_cells, .inl (cI, 5, .inl f_lease_cells)), (a_lease_needs, .inr (4, [.ref n_lease_needs])), (n_lease_needs, .inl (cI, 5, .inl f_lease_needs)), (a_lease_values, .inr (4, [.ref n_lease_values])), (n_lease_values, .inl (cI, 5, .inl f_lease_values)), (a_lawful, .inr (4, [.ref n_lawful])), (n_lawful, .inl (cI, 6, .inl o_39)), (a_grants, .inr (4, [.ref n_grants])), (n_grants, .inl (cI, 6, .inl o_59)), (a_mosts, .inr (4, [.ref n_mosts])), (n_mosts, .inl (cI, 6, .inl o_82)), (a_bests, .inr (4, [.ref n_bests])), (n_bests, .inl (cI, 6, .inl o_91))] rfl rfl (by decide) (fun H locs hP hS => ?_)
    have e9 : v_X5_enter x1 i_lease_wishCount f_lease_cells f_lease_needs f_lease_values f_lawful f_grants f_mosts f_bests = (o_59, o_82, o_91, o_39) := by
      refine (bnd_eq ho_1).trans ?_
      refine (bnd_eq ho_10).trans ?_
      refine (bnd_eq ho_19).trans ?_
      refine (bnd_eq ho_34).trans ?_
      refine (bnd_eq ho_39).trans ?_
      refine (bnd_eq ho_52).trans ?_
      refine (bnd_eq ho_59).trans ?_
      refine (bnd_eq ho_69).trans ?_
      refine (if_neg c_72).trans ?_
      refine (bnd_eq ho_82).trans ?_
      refine (bnd_eq ho_91).trans ?_
      rfl
    rw [hQ]; exact retV (o_59, o_82, o_91, o_39) hx hb hr hlk e9 hP hS dX5_enter_94
def v_X5_addThoseOfFewer (x1 : Int32) (f_grants : Nat → Int32) (f_mosts : Nat → Int32) (f_bests : Nat → Int32) : (Nat → Int32) × (Nat → Int32) × (Nat → Int32) :=
  bnd (v_X4_at x1 f_grants 6) fun o_10 =>
  (bnd (v_X4_at (x1 - 1) f_grants 6) fun o_20 =>
  (bnd (v_X4_put x1 (o_10 ||| o_20) f_grants 6) fun o_24 =>
  (bnd (v_X4_at (x1 - 1) f_mosts 6) fun o_34 =>
  (bnd (v_X4_at x1 f_mosts 6) fun o_42 =>
  (if o_34 < o_42 then (o_24, f_mosts, f_bests)
  else (bnd (v_X4_at (x1 - 1) f_mosts 6) fun o_60 =>
  (bnd (v_X4_put x1 o_60 f_mosts 6) fun o_63 =>
  (bnd (v_X4_at (x1 - 1) f_bests 6) fun o_78 =>
  (bnd (v_X4_put x1 o_78 f_bests 6) fun o_81 =>
  (o_24, o_63, o_81))))))))))
abbrev rm_X5_addThoseOfFewer : Room := { frames := 1, cells := 0, slots := 0, locals := 22 }
set_option maxHeartbeats 4000000 in
set_option maxRecDepth 100000 in
theorem k_X5_addThoseOfFewer (l : Launch) (D : va_G) (cI cZ : ClassId) (a a_lease a_lawful a_grants a_bests a_mosts n_grants n_mosts n_bests : Nat) (x1 : Int32) (i_isMade : Int32) (f_grants : Nat → Int32) (f_mosts : Nat → Int32) (f_bests : Nat → Int32) : KV l D cI cZ yX5_addThoseOfFewer wsX5_addThoseOfFewer rm_X5_addThoseOfFewer [.ref a, .int x1] [(a, .inr (5, [.ref a_lease, .ref a_lawful, .ref a_grants, .ref a_bests, .ref a_mosts, .int i_isMade])), (a_grants, .inr (4, [.ref n_grants])), (n_grants, .inl (cI, 6, .inl f_grants)), (a_mosts, .inr (4, [.ref n_mosts])), (n_mosts, .inl (cI, 6, .inl f_mosts)), (a_bests, .inr (4, [.ref n_bests])), (n_bests, .inl (cI, 6, .inl f_bests))] (v_X5_addThoseOfFewer x1 f_grants f_mosts f_bests) (fun o : (Nat → Int32) × (Nat → Int32) × (Nat → Int32) => [(a, .inr (5, [.ref a_lease, .ref a_lawful, .ref a_grants, .ref a_bests, .ref a_mosts, .int i_isMade])), (a_grants, .inr (4, [.ref n_grants])), (n_grants, .inl (cI, 6, .inl o.1)), (a_mosts, .inr (4, [.ref n_mosts])), (n_mosts, .inl (cI, 6, .inl o.2.1)), (a_bests, .inr (4, [.ref n_bests])), (n_bests, .inl (cI, 6, .inl o.2.2))]) := by
  refine KV.of cX5_addThoseOfFewer 2 none (by decide) rfl (Nat.le_of_ble_eq_true rfl) ?_
  intro p e s m below meth c A ls ar Q hQ B
  obtain ⟨hx, hb, hr, hml, hts, hown, hlk, hK, hN, hP, hD, hA, hS, hl⟩ := B
  have hown : s.vm.findClass RX5 = some m.cls := hown
  have hF : CallFix p m c cX5_addThoseOfFewer 2 s ar wsX5_addThoseOfFewer RX5 := ⟨hx, hb, hml, hown, hts⟩
  have hl : lv_has ls 2 [(0, .ref a), (1, .int x1)] := hl
  refine lv_aload_n hx hb dX5_addThoseOfFewer_0 rfl (lv_at hl 0 rfl) ?_
  refine va_get (D := D) (ci := 5) (v := .ref a_grants) (C := RX5) (T := TX5) (N := 6) hx hb hts (fun _ h => List.mem_cons_of_mem _ (List.mem_append_left _ (List.mem_append_right _ (h)))) hown hK hP 0 rfl rfl 2 (by decide) (hts _ (List.mem_of_getElem? (i := 1) rfl)) (fun _ h9 => h9) rfl dX5_addThoseOfFewer_1 ?_
  refine lv_iload_n hx hb dX5_addThoseOfFewer_4 rfl (lv_at hl 1 rfl) ?_
  refine lv_aload_n hx hb dX5_addThoseOfFewer_5 rfl (lv_at hl 0 rfl) ?_
  refine va_get (D := D) (ci := 5) (v := .ref a_grants) (C := RX5) (T := TX5) (N := 6) hx hb hts (fun _ h => List.mem_cons_of_mem _ (List.mem_append_left _ (List.mem_append_right _ (h)))) hown hK hP 0 rfl rfl 2 (by decide) (hts _ (List.mem_of_getElem? (i := 1) rfl)) (fun _ h9 => h9) rfl dX5_addThoseOfFewer_6 ?_
  refine lv_iload_n hx hb dX5_addThoseOfFewer_9 rfl (lv_at hl 1 rfl) ?_
  obtain ⟨o_10, ho_10⟩ : ∃ z : Int32, z = v_X4_at x1 f_grants 6 := ⟨_, rfl⟩
  refine callVIs (As := [.int x1]) (rest := [.int x1, .ref a_grants]) o_10 ho_10 hF (k_X4_at l D cI cZ a_grants n_grants x1 f_grants 6 (by decide)) (cwV 1 hts gX5_addThoseOfFewer_X4_at rfl rfl rfl (by decide +kernel) ⟨Nat.le_of_ble_eq_true rfl, Nat.le_of_ble_eq_true rfl⟩) hK hN hP (va_Dsame hD rfl) hS hA [1, 2] rfl rfl 1 4 (T := TX4) (N := 1) rfl rfl rfl hl.1 rfl (Nat.le_of_ble_eq_true rfl) dX5_addThoseOfFewer_10 ⟨Nat.zero_le _, Nat.zero_le _⟩ o_10 rfl rfl (fun H locs hP hS => ?_)
  refine lv_aload_n hx hb dX5_addThoseOfFewer_13 rfl (lv_at hl 0 rfl) ?_
  refine va_get (D := D) (ci := 5) (v := .ref a_grants) (C := RX5) (T := TX5) (N := 6) hx hb hts (fun _ h => List.mem_cons_of_mem _ (List.mem_append_left _ (List.mem_append_right _ (h)))) hown hK hP 0 rfl rfl 2 (by decide) (hts _ (List.mem_of_getElem? (i := 1) rfl)) (fun _ h9 => h9) rfl dX5_addThoseOfFewer_14 ?_
  refine lv_iload_n hx hb dX5_addThoseOfFewer_17 rfl (lv_at hl 1 rfl) ?_
  refine lv_iconst (v := 1) hx hb dX5_addThoseOfFewer_18 rfl ?_
  refine lv_isub hx hb dX5_addThoseOfFewer_19 ?_
  obtain ⟨o_20, ho_20⟩ : ∃ z : Int32, z = v_X4_at (x1 - 1) f_grants 6 := ⟨_, rfl⟩
  refine callVIs (As := [.int (x1 - 1)]) (rest := [.int o_10, .int x1, .ref a_grants]) o_20 ho_20 hF (k_X4_at l D cI cZ a_grants n_grants (x1 - 1) f_grants 6 (by decide)) (cwV 1 hts gX5_addThoseOfFewer_X4_at rfl rfl rfl (by decide +kernel) ⟨Nat.le_of_ble_eq_true rfl, Nat.le_of_ble_eq_true rfl⟩) hK hN hP (va_Dsame hD rfl) hS hA [1, 2] rfl rfl 1 4 (T := TX4) (N := 1) rfl rfl rfl hl.1 rfl (Nat.le_of_ble_eq_true rfl) dX5_addThoseOfFewer_20 ⟨Nat.zero_le _, Nat.zero_le _⟩ o_20 rfl rfl (fun H locs hP hS => ?_)
  refine lv_ior hx hb dX5_addThoseOfFewer_23 ?_
  obtain ⟨o_24, ho_24⟩ : ∃ z : Nat → Int32, z = v_X4_put x1 (o_10 ||| o_20) f_grants 6 := ⟨_, rfl⟩
  refine callVV (As := [.int x1, .int (o_10 ||| o_20)]) (rest := []) o_24 ho_24 hF (k_X4_put l D cI cZ a_grants n_grants x1 (o_10 ||| o_20) f_grants 6 (by decide)) (cwV 2 hts gX5_addThoseOfFewer_X4_put rfl rfl rfl (by decide +kernel) ⟨Nat.le_of_ble_eq_true rfl, Nat.le_of_ble_eq_true rfl⟩) hK hN hP (va_Dsame hD rfl) hS hA [1, 2] rfl rfl 1 4 (T := TX4) (N := 1) rfl rfl rfl hl.1 rfl (Nat.le_of_ble_eq_true rfl) dX5_addThoseOfFewer_24 ⟨Nat.zero_le _, Nat.zero_le _⟩ [none, some 0, some 1, none, none, none, none] 2 [(a, .inr (5, [.ref a_lease, .ref a_lawful, .ref a_grants, .ref a_bests, .ref a_mosts, .int i_isMade])), (a_grants, .inr (4, [.ref n_grants])), (n_grants, .inl (cI, 6, .inl o_24)), (a_mosts, .inr (4, [.ref n_mosts])), (n_mosts, .inl (cI, 6, .inl f_mosts)), (a_bests, .inr (4, [.ref n_bests])), (n_bests, .inl (cI, 6, .inl f_bests))] rfl rfl (by decide) (fun H locs hP hS => ?_)
  refine lv_aload_n hx hb dX5_addThoseOfFewer_27 rfl (lv_at hl 0 rfl) ?_
  refine va_get (D := D) (ci := 5) (v := .ref a_mosts) (C := RX5) (T := TX5) (N := 6) hx hb hts (fun _ h => List.mem_cons_of_mem _ (List.mem_append_left _ (List.mem_append_right _ (h)))) hown hK hP 0 rfl rfl 4 (by decide) (hts _ (List.mem_of_getElem? (i := 2) rfl)) (fun _ h9 => h9) rfl dX5_addThoseOfFewer_28 ?_
  refine lv_iload_n hx hb dX5_addThoseOfFewer_31 rfl (lv_at hl 1 rfl) ?_
  refine lv_iconst (v := 1) hx hb dX5_addThoseOfFewer_32 rfl ?_
  refine lv_isub hx hb dX5_addThoseOfFewer_33 ?_
  obtain ⟨o_34, ho_34⟩ : ∃ z : Int32, z = v_X4_at (x1 - 1) f_mosts 6 := ⟨_, rfl⟩
  refine callVIs (As := [.int (x1 - 1)]) (rest := []) o_34 ho_34 hF (k_X4_at l D cI cZ a_mosts n_mosts (x1 - 1) f_mosts 6 (by decide)) (cwV 1 hts gX5_addThoseOfFewer_X4_at rfl rfl rfl (by decide +kernel) ⟨Nat.le_of_ble_eq_true rfl, Nat.le_of_ble_eq_true rfl⟩) hK hN hP (va_Dsame hD rfl) hS hA [3, 4] rfl rfl 3 4 (T := TX4) (N := 1) rfl rfl rfl hl.1 rfl (Nat.le_of_ble_eq_true rfl) dX5_addThoseOfFewer_34 ⟨Nat.zero_le _, Nat.zero_le _⟩ o_34 rfl rfl (fun H locs hP hS => ?_)
  refine lv_aload_n hx hb dX5_addThoseOfFewer_37 rfl (lv_at hl 0 rfl) ?_
  refine va_get (D := D) (ci := 5) (v := .ref a_mosts) (C := RX5) (T := TX5) (N := 6) hx hb hts (fun _ h => List.mem_cons_of_mem _ (List.mem_append_left _ (List.mem_append_right _ (h)))) hown hK hP 0 rfl rfl 4 (by decide) (hts _ (List.mem_of_getElem? (i := 2) rfl)) (fun _ h9 => h9) rfl dX5_addThoseOfFewer_38 ?_
  refine lv_iload_n hx hb dX5_addThoseOfFewer_41 rfl (lv_at hl 1 rfl) ?_
  obtain ⟨o_42, ho_42⟩ : ∃ z : Int32, z = v_X4_at x1 f_mosts 6 := ⟨_, rfl⟩
  refine callVIs (As := [.int x1]) (rest := [.int o_34]) o_42 ho_42 hF (k_X4_at l D cI cZ a_mosts n_mosts x1 f_mosts 6 (by decide)) (cwV 1 hts gX5_addThoseOfFewer_X4_at rfl rfl rfl (by decide +kernel) ⟨Nat.le_of_ble_eq_true rfl, Nat.le_of_ble_eq_true rfl⟩) hK hN hP (va_Dsame hD rfl) hS hA [3, 4] rfl rfl 3 4 (T := TX4) (N := 1) rfl rfl rfl hl.1 rfl (Nat.le_of_ble_eq_true rfl) dX5_addThoseOfFewer_42 ⟨Nat.zero_le _, Nat.zero_le _⟩ o_42 rfl rfl (fun H locs hP hS => ?_)
  refine lv_icmp_lt (tgt := 84) hx hb dX5_addThoseOfFewer_45 (by decide) (fun c_45 => ?_) (fun c_45 => ?_)
  · have e9 : v_X5_addThoseOfFewer x1 f_grants f_mosts f_bests = (o_24, f_mosts, f_bests) := by
      refine (bnd_eq ho_10).trans ?_
      refine (bnd_eq ho_20).trans ?_
      refine (bnd_eq ho_24).trans ?_
      refine (bnd_eq ho_34).trans ?_
      refine (bnd_eq ho_42).trans ?_
      refine (if_pos c_45).trans ?_
      rfl
    rw [hQ]; exact retV (o_24, f_mosts, f_bests) hx hb hr hlk e9 hP hS dX5_addThoseOfFewer_84
  · refine lv_aload_n hx hb dX5_addThoseOfFewer_48 rfl (lv_at hl 0 rfl) ?_
    refine va_get (D := D) (ci := 5) (v := .ref a_mosts) (C := RX5) (T := TX5) (N := 6) hx hb hts (fun _ h => List.mem_cons_of_mem _ (List.mem_append_left _ (List.mem_append_right _ (h)))) hown hK hP 0 rfl rfl 4 (by decide) (hts _ (List.mem_of_getElem? (i := 2) rfl)) (fun _ h9 => h9) rfl dX5_addThoseOfFewer_49 ?_
    refine lv_iload_n hx hb dX5_addThoseOfFewer_52 rfl (lv_at hl 1 rfl) ?_
    refine lv_aload_n hx hb dX5_addThoseOfFewer_53 rfl (lv_at hl 0 rfl) ?_
    refine va_get (D := D) (ci := 5) (v := .ref a_mosts) (C := RX5) (T := TX5) (N := 6) hx hb hts (fun _ h => List.mem_cons_of_mem _ (List.mem_append_left _ (List.mem_append_right _ (h)))) hown hK hP 0 rfl rfl 4 (by decide) (hts _ (List.mem_of_getElem? (i := 2) rfl)) (fun _ h9 => h9) rfl dX5_addThoseOfFewer_54 ?_
    refine lv_iload_n hx hb dX5_addThoseOfFewer_57 rfl (lv_at hl 1 rfl) ?_
    refine lv_iconst (v := 1) hx hb dX5_addThoseOfFewer_58 rfl ?_
    refine lv_isub hx hb dX5_addThoseOfFewer_59 ?_
    obtain ⟨o_60, ho_60⟩ : ∃ z : Int32, z = v_X4_at (x1 - 1) f_mosts 6 := ⟨_, rfl⟩
    refine callVIs (As := [.int (x1 - 1)]) (rest := [.int x1, .ref a_mosts]) o_60 ho_60 hF (k_X4_at l D cI cZ a_mosts n_mosts (x1 - 1) f_mosts 6 (by decide)) (cwV 1 hts gX5_addThoseOfFewer_X4_at rfl rfl rfl (by decide +kernel) ⟨Nat.le_of_ble_eq_true rfl, Nat.le_of_ble_eq_true rfl⟩) hK hN hP (va_Dsame hD rfl) hS hA [3, 4] rfl rfl 3 4 (T := TX4) (N := 1) rfl rfl rfl hl.1 rfl (Nat.le_of_ble_eq_true rfl) dX5_addThoseOfFewer_60 ⟨Nat.zero_le _, Nat.zero_le _⟩ o_60 rfl rfl (fun H locs hP hS => ?_)
    obtain ⟨o_63, ho_63⟩ : ∃ z : Nat → Int32, z = v_X4_put x1 o_60 f_mosts 6 := ⟨_, rfl⟩
    refine callVV (As := [.int x1, .int o_60]) (rest := []) o_63 ho_63 hF (k_X4_put l D cI cZ a_mosts n_mosts x1 o_60 f_mosts 6 (by decide)) (cwV 2 hts gX5_addThoseOfFewer_X4_put rfl rfl rfl (by decide +kernel) ⟨Nat.le_of_ble_eq_true rfl, Nat.le_of_ble_eq_true rfl⟩) hK hN hP (va_Dsame hD rfl) hS hA [3, 4] rfl rfl 3 4 (T := TX4) (N := 1) rfl rfl rfl hl.1 rfl (Nat.le_of_ble_eq_true rfl) dX5_addThoseOfFewer_63 ⟨Nat.zero_le _, Nat.zero_le _⟩ [none, none, none, some 0, some 1, none, none] 2 [(a, .inr (5, [.ref a_lease, .ref a_lawful, .ref a_grants, .ref a_bests, .ref a_mosts, .int i_isMade])), (a_grants, .inr (4, [.ref n_grants])), (n_grants, .inl (cI, 6, .inl o_24)), (a_mosts, .inr (4, [.ref n_mosts])), (n_mosts, .inl (cI, 6, .inl o_63)), (a_bests, .inr (4, [.ref n_bests])), (n_bests, .inl (cI, 6, .inl f_bests))] rfl rfl (by decide) (fun H locs hP hS => ?_)
    refine lv_aload_n hx hb dX5_addThoseOfFewer_66 rfl (lv_at hl 0 rfl) ?_
    refine va_get (D := D) (ci := 5) (v := .ref a_bests) (C := RX5) (T := TX5) (N := 6) hx hb hts (fun _ h => List.mem_cons_of_mem _ (List.mem_append_left _ (List.mem_append_right _ (h)))) hown hK hP 0 rfl rfl 3 (by decide) (hts _ (List.mem_of_getElem? (i := 3) rfl)) (fun _ h9 => h9) rfl dX5_addThoseOfFewer_67 ?_
    refine lv_iload_n hx hb dX5_addThoseOfFewer_70 rfl (lv_at hl 1 rfl) ?_
    refine lv_aload_n hx hb dX5_addThoseOfFewer_71 rfl (lv_at hl 0 rfl) ?_
    refine va_get (D := D) (ci := 5) (v := .ref a_bests) (C := RX5) (T := TX5) (N := 6) hx hb hts (fun _ h => List.mem_cons_of_mem _ (List.mem_append_left _ (List.mem_append_right _ (h)))) hown hK hP 0 rfl rfl 3 (by decide) (hts _ (List.mem_of_getElem? (i := 3) rfl)) (fun _ h9 => h9) rfl dX5_addThoseOfFewer_72 ?_
    refine lv_iload_n hx hb dX5_addThoseOfFewer_75 rfl (lv_at hl 1 rfl) ?_
    refine lv_iconst (v := 1) hx hb dX5_addThoseOfFewer_76 rfl ?_
    refine lv_isub hx hb dX5_addThoseOfFewer_77 ?_
    obtain ⟨o_78, ho_78⟩ : ∃ z : Int32, z = v_X4_at (x1 - 1) f_bests 6 := ⟨_, rfl⟩
    refine callVIs (As := [.int (x1 - 1)]) (rest := [.int x1, .ref a_bests]) o_78 ho_78 hF (k_X4_at l D cI cZ a_bests n_bests (x1 - 1) f_bests 6 (by decide)) (cwV 1 hts gX5_addThoseOfFewer_X4_at rfl rfl rfl (by decide +kernel) ⟨Nat.le_of_ble_eq_true rfl, Nat.le_of_ble_eq_true rfl⟩) hK hN hP (va_Dsame hD rfl) hS hA [5, 6] rfl rfl 5 4 (T := TX4) (N := 1) rfl rfl rfl hl.1 rfl (Nat.le_of_ble_eq_true rfl) dX5_addThoseOfFewer_78 ⟨Nat.zero_le _, Nat.zero_le _⟩ o_78 rfl rfl (fun H locs hP hS => ?_)
    obtain ⟨o_81, ho_81⟩ : ∃ z : Nat → Int32, z = v_X4_put x1 o_78 f_bests 6 := ⟨_, rfl⟩
    refine callVV (As := [.int x1, .int o_78]) (rest := []) o_81 ho_81 hF (k_X4_put l D cI cZ a_bests n_bests x1 o_78 f_bests 6 (by decide)) (cwV 2 hts gX5_addThoseOfFewer_X4_put rfl rfl rfl (by decide +kernel) ⟨Nat.le_of_ble_eq_true rfl, Nat.le_of_ble_eq_true rfl⟩) hK hN hP (va_Dsame hD rfl) hS hA [5, 6] rfl rfl 5 4 (T := TX4) (N := 1) rfl rfl rfl hl.1 rfl (Nat.le_of_ble_eq_true rfl) dX5_addThoseOfFewer_81 ⟨Nat.zero_le _, Nat.zero_le _⟩ [none, none, none, none, none, some 0, some 1] 2 [(a, .inr (5, [.ref a_lease, .ref a_lawful, .ref a_grants, .ref a_bests, .ref a_mosts, .int i_isMade])), (a_grants, .inr (4, [.ref n_grants])), (n_grants, .inl (cI, 6, .inl o_24)), (a_mosts, .inr (4, [.ref n_mosts])), (n_mosts, .inl (cI, 6, .inl o_63)), (a_bests, .inr (4, [.ref n_bests])), (n_bests, .inl (cI, 6, .inl o_81))] rfl rfl (by decide) (fun H locs hP hS => ?_)
    have e9 : v_X5_addThoseOfFewer x1 f_grants f_mosts f_bests = (o_24, o_63, o_81) := by
      refine (bnd_eq ho_10).trans ?_
      refine (bnd_eq ho_20).trans ?_
      refine (bnd_eq ho_24).trans ?_
      refine (bnd_eq ho_34).trans ?_
      refine (bnd_eq ho_42).trans ?_
      refine (if_neg c_45).trans ?_
      refine (bnd_eq ho_60).trans ?_
      refine (bnd_eq ho_63).trans ?_
      refine (bnd_eq ho_78).trans ?_
      refine (bnd_eq ho_81).trans ?_
      rfl
    rw [hQ]; exact retV (o_24, o_63, o_81) hx hb hr hlk e9 hP hS dX5_addThoseOfFewer_84
def v_X5_make_L86c (i86 : Nat) (z86_1 : Nat → Int32) (z86_2 : Nat → Int32) (z86_3 : Nat → Int32) : (Nat → Int32) × (Nat → Int32) × (Nat → Int32) :=
  bnd3 (v_X5_addThoseOfFewer (nI i86) z86_1 z86_3 z86_2) fun o_94_1 o_94_2 o_94_3 =>
  (o_94_1, o_94_3, o_94_2)
def v_X5_make_L86 (i86 : Nat) (z86 : (Nat → Int32) × (Nat → Int32) × (Nat → Int32)) : (Nat → Int32) × (Nat → Int32) × (Nat → Int32) := v_X5_make_L86c i86 z86.1 z86.2.1 z86.2.2
def v_X5_make_L48c (i_lease_wishCount : Int32) (f_lease_room : Nat → Int32) (f_lease_cells : Nat → Int32) (f_lease_needs : Nat → Int32) (f_lease_values : Nat → Int32) (i48 : Nat) (z48_1 : Nat → Int32) (z48_2 : Nat → Int32) (z48_3 : Nat → Int32) (z48_4 : Nat → Int32) : (Nat → Int32) × (Nat → Int32) × (Nat → Int32) × (Nat → Int32) :=
  bnd (v_X7_isHanging (nI i48)) fun o_56 =>
  (if bI o_56 = 0 then (z48_1, z48_2, z48_3, z48_4)
  else (bnd (v_X1_allows (nI i48) f_lease_room) fun o_67 =>
  (if bI o_67 = 0 then (z48_1, z48_2, z48_3, z48_4)
  else (bnd4 (v_X5_enter (nI i48) i_lease_wishCount f_lease_cells f_lease_needs f_lease_values z48_1 z48_2 z48_4 z48_3) fun o_75_1 o_75_2 o_75_3 o_75_4 =>
  (o_75_4, o_75_1, o_75_3, o_75_2)))))
def v_X5_make_L48 (i_lease_wishCount : Int32) (f_lease_room : Nat → Int32) (f_lease_cells : Nat → Int32) (f_lease_needs : Nat → Int32) (f_lease_values : Nat → Int32) (i48 : Nat) (z48 : (Nat → Int32) × (Nat → Int32) × (Nat → Int32) × (Nat → Int32)) : (Nat → Int32) × (Nat → Int32) × (Nat → Int32) × (Nat → Int32) := v_X5_make_L48c i_lease_wishCount f_lease_room f_lease_cells f_lease_needs f_lease_values i48 z48.1 z48.2.1 z48.2.2.1 z48.2.2.2
def v_X5_make (i_isMade : Int32) (f_lawful : Nat → Int32) (f_grants : Nat → Int32) (f_bests : Nat → Int32) (f_mosts : Nat → Int32) (i_lease_wishCount : Int32) (f_lease_room : Nat → Int32) (f_lease_cells : Nat → Int32) (f_lease_needs : Nat → Int32) (f_lease_values : Nat → Int32) : Int32 × (Nat → Int32) × (Nat → Int32) × (Nat → Int32) × (Nat → Int32) :=
  if i_isMade = 0 then (bnd (v_X4_fill 0 f_lawful 6) fun o_18 =>
    (bnd (v_X4_fill 0 f_grants 6) fun o_26 =>
    (bnd (v_X4_fill (-9) f_bests 6) fun o_35 =>
    (bnd (v_X4_fill (-1) f_mosts 6) fun o_43 =>
    (bnd4 (it (v_X5_make_L48 i_lease_wishCount f_lease_room f_lease_cells f_lease_needs f_lease_values) 4096 0 (o_18, o_26, o_35, o_43)) fun o_L48_1 o_L48_2 o_L48_3 o_L48_4 =>
    (bnd3 (it (v_X5_make_L86) (6 - 1) 1 (o_L48_2, o_L48_3, o_L48_4)) fun o_L86_1 o_L86_2 o_L86_3 =>
    (1, o_L48_1, o_L86_1, o_L86_2, o_L86_3)))))))
  else (i_isMade, f_lawful, f_grants, f_bests, f_mosts)
abbrev rm_X5_make : Room := { frames := 3, cells := 0, slots := 0, locals := 68 }
set_option maxHeartbeats 4000000 in
set_option maxRecDepth 100000 in
theorem k_X5_make (l : Launch) (D : va_G) (cI cZ : ClassId) (a a_lease a_lawful a_grants a_bests a_mosts n_lawful n_grants n_bests n_mosts a_lease_places a_lease_firstHours a_lease_spans a_lease_values a_lease_cells a_lease_needs a_lease_owed a_lease_room n_lease_room n_lease_cells n_lease_needs n_lease_values : Nat) (i_isMade : Int32) (f_lawful : Nat → Int32) (f_grants : Nat → Int32) (f_bests : Nat → Int32) (f_mosts : Nat → Int32) (i_lease_squares : Int32) (i_lease_wishCount : Int32) (i_lease_owedPlaces : Int32) (f_lease_room : Nat → Int32) (f_lease_cells : Nat → Int32) (f_lease_needs : Nat → Int32) (f_lease_values : Nat → Int32) : KV l D cI cZ yX5_make wsX5_make rm_X5_make [.ref a] [(a, .inr (5, [.ref a_lease, .ref a_lawful, .ref a_grants, .ref a_bests, .ref a_mosts, .int i_isMade])), (a_lawful, .inr (4, [.ref n_lawful])), (n_lawful, .inl (cI, 6, .inl f_lawful)), (a_grants, .inr (4, [.ref n_grants])), (n_grants, .inl (cI, 6, .inl f_grants)), (a_bests, .inr (4, [.ref n_bests])), (n_bests, .inl (cI, 6, .inl f_bests)), (a_mosts, .inr (4, [.ref n_mosts])), (n_mosts, .inl (cI, 6, .inl f_mosts)), (a_lease, .inr (1, [.ref a_lease_places, .ref a_lease_firstHours, .ref a_lease_spans, .ref a_lease_values, .ref a_lease_cells, .ref a_lease_needs, .ref a_lease_owed, .ref a_lease_room, .int i_lease_squares, .int i_lease_wishCount, .int i_lease_owedPlaces])), (a_lease_room, .inr (4, [.ref n_lease_room])), (n_lease_room, .inl (cI, 2, .inl f_lease_room)), (a_lease_cells, .inr (4, [.ref n_lease_cells])), (n_lease_cells, .inl (cI, 5, .inl f_lease_cells)), (a_lease_needs, .inr (4, [.ref n_lease_needs])), (n_lease_needs, .inl (cI, 5, .inl f_lease_needs)), (a_lease_values, .inr (4, [.ref n_lease_values])), (n_lease_values, .inl (cI, 5, .inl f_lease_values))] (v_X5_make i_isMade f_lawful f_grants f_bests f_mosts i_lease_wishCount f_lease_room f_lease_cells f_lease_needs f_lease_values) (fun o : Int32 × (Nat → Int32) × (Nat → Int32) × (Nat → Int32) × (Nat → Int32) => [(a, .inr (5, [.ref a_lease, .ref a_lawful, .ref a_grants, .ref a_bests, .ref a_mosts, .int o.1])), (a_lawful, .inr (4, [.ref n_lawful])), (n_lawful, .inl (cI, 6, .inl o.2.1)), (a_grants, .inr (4, [.ref n_grants])), (n_grants, .inl (cI, 6, .inl o.2.2.1)), (a_bests, .inr (4, [.ref n_bests])), (n_bests, .inl (cI, 6, .inl o.2.2.2.1)), (a_mosts, .inr (4, [.ref n_mosts])), (n_mosts, .inl (cI, 6, .inl o.2.2.2.2)), (a_lease, .inr (1, [.ref a_lease_places, .ref a_lease_firstHours, .ref a_lease_spans, .ref a_lease_values, .ref a_lease_cells, .ref a_lease_needs, .ref a_lease_owed, .ref a_lease_room, .int i_lease_squares, .int i_lease_wishCount, .int i_lease_owedPlaces])), (a_lease_room, .inr (4, [.ref n_lease_room])), (n_lease_room, .inl (cI, 2, .inl f_lease_room)), (a_lease_cells, .inr (4, [.ref n_lease_cells])), (n_lease_cells, .inl (cI, 5, .inl f_lease_cells)), (a_lease_needs, .inr (4, [.ref n_lease_needs])), (n_lease_needs, .inl (cI, 5, .inl f_lease_needs)), (a_lease_values, .inr (4, [.ref n_lease_values])), (n_lease_values, .inl (cI, 5, .inl f_lease_values))]) := by
  refine KV.of cX5_make 2 none (by decide) rfl (Nat.le_of_ble_eq_true rfl) ?_
  intro p e s m below meth c A ls ar Q hQ B
  obtain ⟨hx, hb, hr, hml, hts, hown, hlk, hK, hN, hP, hD, hA, hS, hl⟩ := B
  have hown : s.vm.findClass RX5 = some m.cls := hown
  have hF : CallFix p m c cX5_make 2 s ar wsX5_make RX5 := ⟨hx, hb, hml, hown, hts⟩
  have hl : lv_has ls 2 [(0, .ref a)] := hl
  refine lv_aload_n hx hb dX5_make_0 rfl (lv_at hl 0 rfl) ?_
  refine va_get (D := D) (ci := 5) (v := .int i_isMade) (C := RX5) (T := TX5) (N := 6) hx hb hts (fun _ h => List.mem_cons_of_mem _ (List.mem_append_left _ (List.mem_append_left _ (List.mem_append_right _ (h))))) hown hK hP 0 rfl rfl 5 (by decide) (hts _ (List.mem_of_getElem? (i := 1) rfl)) (fun _ h9 => h9) rfl dX5_make_1 ?_
  refine lv_if_eq (tgt := 8) hx hb dX5_make_4 (by decide) (fun c_4 => ?_) (fun c_4 => ?_)
  · refine lv_aload_n hx hb dX5_make_8 rfl (lv_at hl 0 rfl) ?_
    refine lv_iconst (v := 1) hx hb dX5_make_9 rfl ?_
    refine va_put (D := D) (ci := 5) (v := .int 1) (ty := .boolean) (C := RX5) (T := TX5) (N := 6) hx hb hts (fun _ h => List.mem_cons_of_mem _ (List.mem_append_left _ (List.mem_append_left _ (List.mem_append_right _ (h))))) tyX5 tyX5_ok nmX5 hown hK hP (va_Dsame hD rfl) hS 0 rfl rfl 5 (by decide) (hts _ (List.mem_of_getElem? (i := 1) rfl)) (fun _ h9 => h9) rfl (tyX5_ok 5 (by decide)) rfl rfl (Nat.le_of_ble_eq_true rfl) dX5_make_10 (fun H locs hP _ hS => ?_)
    have hP : va_P D vwCl [(a, .inr (5, [.ref a_lease, .ref a_lawful, .ref a_grants, .ref a_bests, .ref a_mosts, .int 1])), (a_lawful, .inr (4, [.ref n_lawful])), (n_lawful, .inl (cI, 6, .inl f_lawful)), (a_grants, .inr (4, [.ref n_grants])), (n_grants, .inl (cI, 6, .inl f_grants)), (a_bests, .inr (4, [.ref n_bests])), (n_bests, .inl (cI, 6, .inl f_bests)), (a_mosts, .inr (4, [.ref n_mosts])), (n_mosts, .inl (cI, 6, .inl f_mosts)), (a_lease, .inr (1, [.ref a_lease_places, .ref a_lease_firstHours, .ref a_lease_spans, .ref a_lease_values, .ref a_lease_cells, .ref a_lease_needs, .ref a_lease_owed, .ref a_lease_room, .int i_lease_squares, .int i_lease_wishCount, .int i_lease_owedPlaces])), (a_lease_room, .inr (4, [.ref n_lease_room])), (n_lease_room, .inl (cI, 2, .inl f_lease_room)), (a_lease_cells, .inr (4, [.ref n_lease_cells])), (n_lease_cells, .inl (cI, 5, .inl f_lease_cells)), (a_lease_needs, .inr (4, [.ref n_lease_needs])), (n_lease_needs, .inl (cI, 5, .inl f_lease_needs)), (a_lease_values, .inr (4, [.ref n_lease_values])), (n_lease_values, .inl (cI, 5, .inl f_lease_values))] H := hP
    refine lv_aload_n hx hb dX5_make_13 rfl (lv_at hl 0 rfl) ?_
    refine va_get (D := D) (ci := 5) (v := .ref a_lawful) (C := RX5) (T := TX5) (N := 6) hx hb hts (fun _ h => List.mem_cons_of_mem _ (List.mem_append_left _ (List.mem_append_left _ (List.mem_append_right _ (h))))) hown hK hP 0 rfl rfl 1 (by decide) (hts _ (List.mem_of_getElem? (i := 2) rfl)) (fun _ h9 => h9) rfl dX5_make_14 ?_
    refine lv_iconst (v := 0) hx hb dX5_make_17 rfl ?_
    obtain ⟨o_18, ho_18⟩ : ∃ z : Nat → Int32, z = v_X4_fill 0 f_lawful 6 := ⟨_, rfl⟩
    refine callVV (As := [.int 0]) (rest := []) o_18 ho_18 hF (k_X4_fill l D cI cZ a_lawful n_lawful 0 f_lawful 6 (by decide)) (cwV 1 hts gX5_make_X4_fill rfl rfl rfl (by decide +kernel) ⟨Nat.le_of_ble_eq_true rfl, Nat.le_of_ble_eq_true rfl⟩) hK hN hP (va_Dsame hD rfl) hS hA [1, 2] rfl rfl 1 4 (T := TX4) (N := 1) rfl rfl rfl hl.1 rfl (Nat.le_of_ble_eq_true rfl) dX5_make_18 ⟨Nat.zero_le _, Nat.zero_le _⟩ [none, some 0, some 1, none, none, none, none, none, none, none, none, none, none, none, none, none, none, none] 2 [(a, .inr (5, [.ref a_lease, .ref a_lawful, .ref a_grants, .ref a_bests, .ref a_mosts, .int 1])), (a_lawful, .inr (4, [.ref n_lawful])), (n_lawful, .inl (cI, 6, .inl o_18)), (a_grants, .inr (4, [.ref n_grants])), (n_grants, .inl (cI, 6, .inl f_grants)), (a_bests, .inr (4, [.ref n_bests])), (n_bests, .inl (cI, 6, .inl f_bests)), (a_mosts, .inr (4, [.ref n_mosts])), (n_mosts, .inl (cI, 6, .inl f_mosts)), (a_lease, .inr (1, [.ref a_lease_places, .ref a_lease_firstHours, .ref a_lease_spans, .ref a_lease_values, .ref a_lease_cells, .ref a_lease_needs, .ref a_lease_owed, .ref a_lease_room, .int i_lease_squares, .int i_lease_wishCount, .int i_lease_owedPlaces])), (a_lease_room, .inr (4, [.ref n_lease_room])), (n_lease_room, .inl (cI, 2, .inl f_lease_room)), (a_lease_cells, .inr (4, [.ref n_lease_cells])), (n_lease_cells, .inl (cI, 5, .inl f_lease_cells)), (a_lease_needs, .inr (4, [.ref n_lease_needs])), (n_lease_needs, .inl (cI, 5, .inl f_lease_needs)), (a_lease_values, .inr (4, [.ref n_lease_values])), (n_lease_values, .inl (cI, 5, .inl f_lease_values))] rfl rfl (by decide) (fun H locs hP hS => ?_)
    refine lv_aload_n hx hb dX5_make_21 rfl (lv_at hl 0 rfl) ?_
    refine va_get (D := D) (ci := 5) (v := .ref a_grants) (C := RX5) (T := TX5) (N := 6) hx hb hts (fun _ h => List.mem_cons_of_mem _ (List.mem_append_left _ (List.mem_append_left _ (List.mem_append_right _ (h))))) hown hK hP 0 rfl rfl 2 (by decide) (hts _ (List.mem_of_getElem? (i := 3) rfl)) (fun _ h9 => h9) rfl dX5_make_22 ?_
    refine lv_iconst (v := 0) hx hb dX5_make_25 rfl ?_
    obtain ⟨o_26, ho_26⟩ : ∃ z : Nat → Int32, z = v_X4_fill 0 f_grants 6 := ⟨_, rfl⟩
    refine callVV (As := [.int 0]) (rest := []) o_26 ho_26 hF (k_X4_fill l D cI cZ a_grants n_grants 0 f_grants 6 (by decide)) (cwV 1 hts gX5_make_X4_fill rfl rfl rfl (by decide +kernel) ⟨Nat.le_of_ble_eq_true rfl, Nat.le_of_ble_eq_true rfl⟩) hK hN hP (va_Dsame hD rfl) hS hA [3, 4] rfl rfl 3 4 (T := TX4) (N := 1) rfl rfl rfl hl.1 rfl (Nat.le_of_ble_eq_true rfl) dX5_make_26 ⟨Nat.zero_le _, Nat.zero_le _⟩ [none, none, none, some 0, some 1, none, none, none, none, none, none, none, none, none, none, none, none, none] 2 [(a, .inr (5, [.ref a_lease, .ref a_lawful, .ref a_grants, .ref a_bests, .ref a_mosts, .int 1])), (a_lawful, .inr (4, [.ref n_lawful])), (n_lawful, .inl (cI, 6, .inl o_18)), (a_grants, .inr (4, [.ref n_grants])), (n_grants, .inl (cI, 6, .inl o_26)), (a_bests, .inr (4, [.ref n_bests])), (n_bests, .inl (cI, 6, .inl f_bests)), (a_mosts, .inr (4, [.ref n_mosts])), (n_mosts, .inl (cI, 6, .inl f_mosts)), (a_lease, .inr (1, [.ref a_lease_places, .ref a_lease_firstHours, .ref a_lease_spans, .ref a_lease_values, .ref a_lease_cells, .ref a_lease_needs, .ref a_lease_owed, .ref a_lease_room, .int i_lease_squares, .int i_lease_wishCount, .int i_lease_owedPlaces])), (a_lease_room, .inr (4, [.ref n_lease_room])), (n_lease_room, .inl (cI, 2, .inl f_lease_room)), (a_lease_cells, .inr (4, [.ref n_lease_cells])), (n_lease_cells, .inl (cI, 5, .inl f_lease_cells)), (a_lease_needs, .inr (4, [.ref n_lease_needs])), (n_lease_needs, .inl (cI, 5, .inl f_lease_needs)), (a_lease_values, .inr (4, [.ref n_lease_values])), (n_lease_values, .inl (cI, 5, .inl f_lease_values))] rfl rfl (by decide) (fun H locs hP hS => ?_)
    refine lv_aload_n hx hb dX5_make_29 rfl (lv_at hl 0 rfl) ?_
    refine va_get (D := D) (ci := 5) (v := .ref a_bests) (C := RX5) (T := TX5) (N := 6) hx hb hts (fun _ h => List.mem_cons_of_mem _ (List.mem_append_left _ (List.mem_append_left _ (List.mem_append_right _ (h))))) hown hK hP 0 rfl rfl 3 (by decide) (hts _ (List.mem_of_getElem? (i := 4) rfl)) (fun _ h9 => h9) rfl dX5_make_30 ?_
    refine lv_bipush (v := (-9)) hx hb dX5_make_33 rfl ?_
    obtain ⟨o_35, ho_35⟩ : ∃ z : Nat → Int32, z = v_X4_fill (-9) f_bests 6 := ⟨_, rfl⟩
    refine callVV (As := [.int (-9)]) (rest := []) o_35 ho_35 hF (k_X4_fill l D cI cZ a_bests n_bests (-9) f_bests 6 (by decide)) (cwV 1 hts gX5_make_X4_fill rfl rfl rfl (by decide +kernel) ⟨Nat.le_of_ble_eq_true rfl, Nat.le_of_ble_eq_true rfl⟩) hK hN hP (va_Dsame hD rfl) hS hA [5, 6] rfl rfl 5 4 (T := TX4) (N := 1) rfl rfl rfl hl.1 rfl (Nat.le_of_ble_eq_true rfl) dX5_make_35 ⟨Nat.zero_le _, Nat.zero_le _⟩ [none, none, none, none, none, some 0, some 1, none, none, none, none, none, none, none, none, none, none, none] 2 [(a, .inr (5, [.ref a_lease, .ref a_lawful, .ref a_grants, .ref a_bests, .ref a_mosts, .int 1])), (a_lawful, .inr (4, [.ref n_lawful])), (n_lawful, .inl (cI, 6, .inl o_18)), (a_grants, .inr (4, [.ref n_grants])), (n_grants, .inl (cI, 6, .inl o_26)), (a_bests, .inr (4, [.ref n_bests])), (n_bests, .inl (cI, 6, .inl o_35)), (a_mosts, .inr (4, [.ref n_mosts])), (n_mosts, .inl (cI, 6, .inl f_mosts)), (a_lease, .inr (1, [.ref a_lease_places, .ref a_lease_firstHours, .ref a_lease_spans, .ref a_lease_values, .ref a_lease_cells, .ref a_lease_needs, .ref a_lease_owed, .ref a_lease_room, .int i_lease_squares, .int i_lease_wishCount, .int i_lease_owedPlaces])), (a_lease_room, .inr (4, [.ref n_lease_room])), (n_lease_room, .inl (cI, 2, .inl f_lease_room)), (a_lease_cells, .inr (4, [.ref n_lease_cells])), (n_lease_cells, .inl (cI, 5, .inl f_lease_cells)), (a_lease_needs, .inr (4, [.ref n_lease_needs])), (n_lease_needs, .inl (cI, 5, .inl f_lease_needs)), (a_lease_values, .inr (4, [.ref n_lease_values])), (n_lease_values, .inl (cI, 5, .inl f_lease_values))] rfl rfl (by decide) (fun H locs hP hS => ?_)
    refine lv_aload_n hx hb dX5_make_38 rfl (lv_at hl 0 rfl) ?_
    refine va_get (D := D) (ci := 5) (v := .ref a_mosts) (C := RX5) (T := TX5) (N := 6) hx hb hts (fun _ h => List.mem_cons_of_mem _ (List.mem_append_left _ (List.mem_append_left _ (List.mem_append_right _ (h))))) hown hK hP 0 rfl rfl 4 (by decide) (hts _ (List.mem_of_getElem? (i := 5) rfl)) (fun _ h9 => h9) rfl dX5_make_39 ?_
    refine lv_iconst (v := (-1)) hx hb dX5_make_42 rfl ?_
    obtain ⟨o_43, ho_43⟩ : ∃ z : Nat → Int32, z = v_X4_fill (-1) f_mosts 6 := ⟨_, rfl⟩
    refine callVV (As := [.int (-1)]) (rest := []) o_43 ho_43 hF (k_X4_fill l D cI cZ a_mosts n_mosts (-1) f_mosts 6 (by decide)) (cwV 1 hts gX5_make_X4_fill rfl rfl rfl (by decide +kernel) ⟨Nat.le_of_ble_eq_true rfl, Nat.le_of_ble_eq_true rfl⟩) hK hN hP (va_Dsame hD rfl) hS hA [7, 8] rfl rfl 7 4 (T := TX4) (N := 1) rfl rfl rfl hl.1 rfl (Nat.le_of_ble_eq_true rfl) dX5_make_43 ⟨Nat.zero_le _, Nat.zero_le _⟩ [none, none, none, none, none, none, none, some 0, some 1, none, none, none, none, none, none, none, none, none] 2 [(a, .inr (5, [.ref a_lease, .ref a_lawful, .ref a_grants, .ref a_bests, .ref a_mosts, .int 1])), (a_lawful, .inr (4, [.ref n_lawful])), (n_lawful, .inl (cI, 6, .inl o_18)), (a_grants, .inr (4, [.ref n_grants])), (n_grants, .inl (cI, 6, .inl o_26)), (a_bests, .inr (4, [.ref n_bests])), (n_bests, .inl (cI, 6, .inl o_35)), (a_mosts, .inr (4, [.ref n_mosts])), (n_mosts, .inl (cI, 6, .inl o_43)), (a_lease, .inr (1, [.ref a_lease_places, .ref a_lease_firstHours, .ref a_lease_spans, .ref a_lease_values, .ref a_lease_cells, .ref a_lease_needs, .ref a_lease_owed, .ref a_lease_room, .int i_lease_squares, .int i_lease_wishCount, .int i_lease_owedPlaces])), (a_lease_room, .inr (4, [.ref n_lease_room])), (n_lease_room, .inl (cI, 2, .inl f_lease_room)), (a_lease_cells, .inr (4, [.ref n_lease_cells])), (n_lease_cells, .inl (cI, 5, .inl f_lease_cells)), (a_lease_needs, .inr (4, [.ref n_lease_needs])), (n_lease_needs, .inl (cI, 5, .inl f_lease_needs)), (a_lease_values, .inr (4, [.ref n_lease_values])), (n_lease_values, .inl (cI, 5, .inl f_lease_values))] rfl rfl (by decide) (fun H locs hP hS => ?_)
    refine lv_iconst (v := 0) hx hb dX5_make_46 rfl ?_
    refine lv_istore_n (lv' := [(1, .int 0), (0, .ref a)]) hx hb dX5_make_47 rfl hl (by decide) rfl (fun ls hl => ?_)
    obtain ⟨o_L48_1, o_L48_2, o_L48_3, o_L48_4, ho_L48⟩ := ex4 (it (v_X5_make_L48 i_lease_wishCount f_lease_room f_lease_cells f_lease_needs f_lease_values) 4096 0 (o_18, o_26, o_35, o_43))
    have kE48 : ∀ (H : Heap) (locs : List Loc) (ls : Array Slot), va_P D vwCl [(a, .inr (5, [.ref a_lease, .ref a_lawful, .ref a_grants, .ref a_bests, .ref a_mosts, .int 1])), (a_lawful, .inr (4, [.ref n_lawful])), (n_lawful, .inl (cI, 6, .inl o_L48_1)), (a_grants, .inr (4, [.ref n_grants])), (n_grants, .inl (cI, 6, .inl o_L48_2)), (a_bests, .inr (4, [.ref n_bests])), (n_bests, .inl (cI, 6, .inl o_L48_3)), (a_mosts, .inr (4, [.ref n_mosts])), (n_mosts, .inl (cI, 6, .inl o_L48_4)), (a_lease, .inr (1, [.ref a_lease_places, .ref a_lease_firstHours, .ref a_lease_spans, .ref a_lease_values, .ref a_lease_cells, .ref a_lease_needs, .ref a_lease_owed, .ref a_lease_room, .int i_lease_squares, .int i_lease_wishCount, .int i_lease_owedPlaces])), (a_lease_room, .inr (4, [.ref n_lease_room])), (n_lease_room, .inl (cI, 2, .inl f_lease_room)), (a_lease_cells, .inr (4, [.ref n_lease_cells])), (n_lease_cells, .inl (cI, 5, .inl f_lease_cells)), (a_lease_needs, .inr (4, [.ref n_lease_needs])), (n_lease_needs, .inl (cI, 5, .inl f_lease_needs)), (a_lease_values, .inr (4, [.ref n_lease_values])), (n_lease_values, .inl (cI, 5, .inl f_lease_values))] H → va_S A s.heap H locs → lv_has ls 2 [(0, .ref a)] → W p l e rm_X5_make s m ar below meth c H locs 0 0 Q (F0 m 84 ls []) := by
      intro H locs ls hP hS hl
      refine lv_iconst (v := 1) hx hb dX5_make_84 rfl ?_
      refine lv_istore_n (lv' := [(1, .int 1), (0, .ref a)]) hx hb dX5_make_85 rfl hl (by decide) rfl (fun ls hl => ?_)
      obtain ⟨o_L86_1, o_L86_2, o_L86_3, ho_L86⟩ := ex3 (it (v_X5_make_L86) (6 - 1) 1 (o_L48_2, o_L48_3, o_L48_4))
      have kE86 : ∀ (H : Heap) (locs : List Loc) (ls : Array Slot), va_P D vwCl [(a, .inr (5, [.ref a_lease, .ref a_lawful, .ref a_grants, .ref a_bests, .ref a_mosts, .int 1])), (a_lawful, .inr (4, [.ref n_lawful])), (n_lawful, .inl (cI, 6, .inl o_L48_1)), (a_grants, .inr (4, [.ref n_grants])), (n_grants, .inl (cI, 6, .inl o_L86_1)), (a_bests, .inr (4, [.ref n_bests])), (n_bests, .inl (cI, 6, .inl o_L86_2)), (a_mosts, .inr (4, [.ref n_mosts])), (n_mosts, .inl (cI, 6, .inl o_L86_3)), (a_lease, .inr (1, [.ref a_lease_places, .ref a_lease_firstHours, .ref a_lease_spans, .ref a_lease_values, .ref a_lease_cells, .ref a_lease_needs, .ref a_lease_owed, .ref a_lease_room, .int i_lease_squares, .int i_lease_wishCount, .int i_lease_owedPlaces])), (a_lease_room, .inr (4, [.ref n_lease_room])), (n_lease_room, .inl (cI, 2, .inl f_lease_room)), (a_lease_cells, .inr (4, [.ref n_lease_cells])), (n_lease_cells, .inl (cI, 5, .inl f_lease_cells)), (a_lease_needs, .inr (4, [.ref n_lease_needs])), (n_lease_needs, .inl (cI, 5, .inl f_lease_needs)), (a_lease_values, .inr (4, [.ref n_lease_values])), (n_lease_values, .inl (cI, 5, .inl f_lease_values))] H → va_S A s.heap H locs → lv_has ls 2 [] → W p l e rm_X5_make s m ar below meth c H locs 0 0 Q (F0 m 103 ls []) := by
        intro H locs ls hP hS hl
        have e9 : v_X5_make i_isMade f_lawful f_grants f_bests f_mosts i_lease_wishCount f_lease_room f_lease_cells f_lease_needs f_lease_values = (1, o_L48_1, o_L86_1, o_L86_2, o_L86_3) := by
          refine (if_pos c_4).trans ?_
          refine (bnd_eq ho_18).trans ?_
          refine (bnd_eq ho_26).trans ?_
          refine (bnd_eq ho_35).trans ?_
          refine (bnd_eq ho_43).trans ?_
          refine (bnd4_eq ho_L48).trans ?_
          refine (bnd3_eq ho_L86).trans ?_
          rfl
        rw [hQ]; exact retV (1, o_L48_1, o_L86_1, o_L86_2, o_L86_3) hx hb hr hlk e9 hP hS dX5_make_103
      have loop86 : ∀ (k i86 : Nat) (z86 : (Nat → Int32) × (Nat → Int32) × (Nat → Int32)), 1 ≤ i86 → i86 + k = 1 + (6 - 1) → it (v_X5_make_L86) k i86 z86 = (o_L86_1, o_L86_2, o_L86_3) → ∀ (H : Heap) (locs : List Loc) (ls : Array Slot), va_P D vwCl [(a, .inr (5, [.ref a_lease, .ref a_lawful, .ref a_grants, .ref a_bests, .ref a_mosts, .int 1])), (a_lawful, .inr (4, [.ref n_lawful])), (n_lawful, .inl (cI, 6, .inl o_L48_1)), (a_grants, .inr (4, [.ref n_grants])), (n_grants, .inl (cI, 6, .inl z86.1)), (a_bests, .inr (4, [.ref n_bests])), (n_bests, .inl (cI, 6, .inl z86.2.1)), (a_mosts, .inr (4, [.ref n_mosts])), (n_mosts, .inl (cI, 6, .inl z86.2.2)), (a_lease, .inr (1, [.ref a_lease_places, .ref a_lease_firstHours, .ref a_lease_spans, .ref a_lease_values, .ref a_lease_cells, .ref a_lease_needs, .ref a_lease_owed, .ref a_lease_room, .int i_lease_squares, .int i_lease_wishCount, .int i_lease_owedPlaces])), (a_lease_room, .inr (4, [.ref n_lease_room])), (n_lease_room, .inl (cI, 2, .inl f_lease_room)), (a_lease_cells, .inr (4, [.ref n_lease_cells])), (n_lease_cells, .inl (cI, 5, .inl f_lease_cells)), (a_lease_needs, .inr (4, [.ref n_lease_needs])), (n_lease_needs, .inl (cI, 5, .inl f_lease_needs)), (a_lease_values, .inr (4, [.ref n_lease_values])), (n_lease_values, .inl (cI, 5, .inl f_lease_values))] H → va_S A s.heap H locs → lv_has ls 2 [(1, .int (nI i86)), (0, .ref a)] → W p l e rm_X5_make s m ar below meth c H locs 0 0 Q (F0 m 86 ls []) := by
        intro k
        induction k with
        | zero =>
          intro i86 z86 hi0 hik hz H locs ls hP hS hl
          have hz : z86 = (o_L86_1, o_L86_2, o_L86_3) := it_0 hz
          subst z86
          have hP : va_P D vwCl [(a, .inr (5, [.ref a_lease, .ref a_lawful, .ref a_grants, .ref a_bests, .ref a_mosts, .int 1])), (a_lawful, .inr (4, [.ref n_lawful])), (n_lawful, .inl (cI, 6, .inl o_L48_1)), (a_grants, .inr (4, [.ref n_grants])), (n_grants, .inl (cI, 6, .inl o_L86_1)), (a_bests, .inr (4, [.ref n_bests])), (n_bests, .inl (cI, 6, .inl o_L86_2)), (a_mosts, .inr (4, [.ref n_mosts])), (n_mosts, .inl (cI, 6, .inl o_L86_3)), (a_lease, .inr (1, [.ref a_lease_places, .ref a_lease_firstHours, .ref a_lease_spans, .ref a_lease_values, .ref a_lease_cells, .ref a_lease_needs, .ref a_lease_owed, .ref a_lease_room, .int i_lease_squares, .int i_lease_wishCount, .int i_lease_owedPlaces])), (a_lease_room, .inr (4, [.ref n_lease_room])), (n_lease_room, .inl (cI, 2, .inl f_lease_room)), (a_lease_cells, .inr (4, [.ref n_lease_cells])), (n_lease_cells, .inl (cI, 5, .inl f_lease_cells)), (a_lease_needs, .inr (4, [.ref n_lease_needs])), (n_lease_needs, .inl (cI, 5, .inl f_lease_needs)), (a_lease_values, .inr (4, [.ref n_lease_values])), (n_lease_values, .inl (cI, 5, .inl f_lease_values))] H := hP
          have hl : lv_has ls 2 [(1, .int (nI i86)), (0, .ref a)] := hl
          refine lv_iload_n hx hb dX5_make_86 rfl (lv_at hl 0 rfl) ?_
          refine lv_bipush (v := 6) hx hb dX5_make_87 rfl ?_
          refine lv_icmp_ge (tgt := 103) hx hb dX5_make_89 (by decide) (fun _ => ?_) (fun c => absurd (nI_le (a := 6) (by omega) (by omega)) c)
          exact kE86 _ _ _ hP hS (lv_sub hl [] rfl)
        | succ k ih =>
          intro i86 z86 hi0 hik hz H locs ls hP hS hl
          obtain ⟨z86_1, z86_2, z86_3⟩ := z86
          have hP : va_P D vwCl [(a, .inr (5, [.ref a_lease, .ref a_lawful, .ref a_grants, .ref a_bests, .ref a_mosts, .int 1])), (a_lawful, .inr (4, [.ref n_lawful])), (n_lawful, .inl (cI, 6, .inl o_L48_1)), (a_grants, .inr (4, [.ref n_grants])), (n_grants, .inl (cI, 6, .inl z86_1)), (a_bests, .inr (4, [.ref n_bests])), (n_bests, .inl (cI, 6, .inl z86_2)), (a_mosts, .inr (4, [.ref n_mosts])), (n_mosts, .inl (cI, 6, .inl z86_3)), (a_lease, .inr (1, [.ref a_lease_places, .ref a_lease_firstHours, .ref a_lease_spans, .ref a_lease_values, .ref a_lease_cells, .ref a_lease_needs, .ref a_lease_owed, .ref a_lease_room, .int i_lease_squares, .int i_lease_wishCount, .int i_lease_owedPlaces])), (a_lease_room, .inr (4, [.ref n_lease_room])), (n_lease_room, .inl (cI, 2, .inl f_lease_room)), (a_lease_cells, .inr (4, [.ref n_lease_cells])), (n_lease_cells, .inl (cI, 5, .inl f_lease_cells)), (a_lease_needs, .inr (4, [.ref n_lease_needs])), (n_lease_needs, .inl (cI, 5, .inl f_lease_needs)), (a_lease_values, .inr (4, [.ref n_lease_values])), (n_lease_values, .inl (cI, 5, .inl f_lease_values))] H := hP
          have hl : lv_has ls 2 [(1, .int (nI i86)), (0, .ref a)] := hl
          refine lv_iload_n hx hb dX5_make_86 rfl (lv_at hl 0 rfl) ?_
          refine lv_bipush (v := 6) hx hb dX5_make_87 rfl ?_
          refine lv_icmp_ge (tgt := 103) hx hb dX5_make_89 (by decide) (fun c => absurd c (nI_ge (b := 6) (by omega) (by decide))) (fun _ => ?_)
          refine lv_aload_n hx hb dX5_make_92 rfl (lv_at hl 1 rfl) ?_
          refine lv_iload_n hx hb dX5_make_93 rfl (lv_at hl 0 rfl) ?_
          obtain ⟨o_94_1, o_94_2, o_94_3, ho_94⟩ := ex3 (v_X5_addThoseOfFewer (nI i86) z86_1 z86_3 z86_2)
          refine callVV (As := [.int (nI i86)]) (rest := []) (o_94_1, o_94_2, o_94_3) ho_94 hF (k_X5_addThoseOfFewer l D cI cZ a a_lease a_lawful a_grants a_bests a_mosts n_grants n_mosts n_bests (nI i86) 1 z86_1 z86_3 z86_2) (cwV 1 hts gX5_make_X5_addThoseOfFewer rfl rfl rfl (by decide +kernel) ⟨Nat.le_of_ble_eq_true rfl, Nat.le_of_ble_eq_true rfl⟩) hK hN hP (va_Dsame hD rfl) hS hA [0, 3, 4, 7, 8, 5, 6] rfl rfl 0 5 (T := TX5) (N := 6) rfl rfl rfl hl.1 rfl (Nat.le_of_ble_eq_true rfl) dX5_make_94 ⟨Nat.zero_le _, Nat.zero_le _⟩ [some 0, none, none, some 1, some 2, some 5, some 6, some 3, some 4, none, none, none, none, none, none, none, none, none] 7 [(a, .inr (5, [.ref a_lease, .ref a_lawful, .ref a_grants, .ref a_bests, .ref a_mosts, .int 1])), (a_lawful, .inr (4, [.ref n_lawful])), (n_lawful, .inl (cI, 6, .inl o_L48_1)), (a_grants, .inr (4, [.ref n_grants])), (n_grants, .inl (cI, 6, .inl o_94_1)), (a_bests, .inr (4, [.ref n_bests])), (n_bests, .inl (cI, 6, .inl o_94_3)), (a_mosts, .inr (4, [.ref n_mosts])), (n_mosts, .inl (cI, 6, .inl o_94_2)), (a_lease, .inr (1, [.ref a_lease_places, .ref a_lease_firstHours, .ref a_lease_spans, .ref a_lease_values, .ref a_lease_cells, .ref a_lease_needs, .ref a_lease_owed, .ref a_lease_room, .int i_lease_squares, .int i_lease_wishCount, .int i_lease_owedPlaces])), (a_lease_room, .inr (4, [.ref n_lease_room])), (n_lease_room, .inl (cI, 2, .inl f_lease_room)), (a_lease_cells, .inr (4, [.ref n_lease_cells])), (n_lease_cells, .inl (cI, 5, .inl f_lease_cells)), (a_lease_needs, .inr (4, [.ref n_lease_needs])), (n_lease_needs, .inl (cI, 5, .inl f_lease_needs)), (a_lease_values, .inr (4, [.ref n_lease_values])), (n_lease_values, .inl (cI, 5, .inl f_lease_values))] rfl rfl (by decide) (fun H locs hP hS => ?_)
          refine lv_iinc (v := (nI (i86 + 1))) (lv' := [(1, .int (nI (i86 + 1))), (0, .ref a)]) hx hb dX5_make_97 hl (k := 0) rfl (nI_1 _) (by decide) rfl (fun ls hl => ?_)
          refine lv_goto (tgt := 86) hx hb dX5_make_100 (by decide) ?_
          have e8 : v_X5_make_L86 i86 (z86_1, z86_2, z86_3) = (o_94_1, o_94_3, o_94_2) := by
            show v_X5_make_L86c i86 z86_1 z86_2 z86_3 = (o_94_1, o_94_3, o_94_2)
            refine (bnd3_eq ho_94).trans ?_
            rfl
          exact ih (i86 + 1) (o_94_1, o_94_3, o_94_2) (by omega) (by omega) (it_go e8 hz) _ _ _ hP hS (lv_sub hl [0, 1] rfl)
      exact loop86 (6 - 1) 1 (o_L48_2, o_L48_3, o_L48_4) (Nat.le_refl _) rfl ho_L86.symm _ _ _ hP hS (lv_sub hl [0, 1] rfl)
    have loop48 : ∀ (k i48 : Nat) (z48 : (Nat → Int32) × (Nat → Int32) × (Nat → Int32) × (Nat → Int32)), 0 ≤ i48 → i48 + k = 0 + 4096 → it (v_X5_make_L48 i_lease_wishCount f_lease_room f_lease_cells f_lease_needs f_lease_values) k i48 z48 = (o_L48_1, o_L48_2, o_L48_3, o_L48_4) → ∀ (H : Heap) (locs : List Loc) (ls : Array Slot), va_P D vwCl [(a, .inr (5, [.ref a_lease, .ref a_lawful, .ref a_grants, .ref a_bests, .ref a_mosts, .int 1])), (a_lawful, .inr (4, [.ref n_lawful])), (n_lawful, .inl (cI, 6, .inl z48.1)), (a_grants, .inr (4, [.ref n_grants])), (n_grants, .inl (cI, 6, .inl z48.2.1)), (a_bests, .inr (4, [.ref n_bests])), (n_bests, .inl (cI, 6, .inl z48.2.2.1)), (a_mosts, .inr (4, [.ref n_mosts])), (n_mosts, .inl (cI, 6, .inl z48.2.2.2)), (a_lease, .inr (1, [.ref a_lease_places, .ref a_lease_firstHours, .ref a_lease_spans, .ref a_lease_values, .ref a_lease_cells, .ref a_lease_needs, .ref a_lease_owed, .ref a_lease_room, .int i_lease_squares, .int i_lease_wishCount, .int i_lease_owedPlaces])), (a_lease_room, .inr (4, [.ref n_lease_room])), (n_lease_room, .inl (cI, 2, .inl f_lease_room)), (a_lease_cells, .inr (4, [.ref n_lease_cells])), (n_lease_cells, .inl (cI, 5, .inl f_lease_cells)), (a_lease_needs, .inr (4, [.ref n_lease_needs])), (n_lease_needs, .inl (cI, 5, .inl f_lease_needs)), (a_lease_values, .inr (4, [.ref n_lease_values])), (n_lease_values, .inl (cI, 5, .inl f_lease_values))] H → va_S A s.heap H locs → lv_has ls 2 [(1, .int (nI i48)), (0, .ref a)] → W p l e rm_X5_make s m ar below meth c H locs 0 0 Q (F0 m 48 ls []) := by
      intro k
      induction k with
      | zero =>
        intro i48 z48 hi0 hik hz H locs ls hP hS hl
        have hz : z48 = (o_L48_1, o_L48_2, o_L48_3, o_L48_4) := it_0 hz
        subst z48
        have hP : va_P D vwCl [(a, .inr (5, [.ref a_lease, .ref a_lawful, .ref a_grants, .ref a_bests, .ref a_mosts, .int 1])), (a_lawful, .inr (4, [.ref n_lawful])), (n_lawful, .inl (cI, 6, .inl o_L48_1)), (a_grants, .inr (4, [.ref n_grants])), (n_grants, .inl (cI, 6, .inl o_L48_2)), (a_bests, .inr (4, [.ref n_bests])), (n_bests, .inl (cI, 6, .inl o_L48_3)), (a_mosts, .inr (4, [.ref n_mosts])), (n_mosts, .inl (cI, 6, .inl o_L48_4)), (a_lease, .inr (1, [.ref a_lease_places, .ref a_lease_firstHours, .ref a_lease_spans, .ref a_lease_values, .ref a_lease_cells, .ref a_lease_needs, .ref a_lease_owed, .ref a_lease_room, .int i_lease_squares, .int i_lease_wishCount, .int i_lease_owedPlaces])), (a_lease_room, .inr (4, [.ref n_lease_room])), (n_lease_room, .inl (cI, 2, .inl f_lease_room)), (a_lease_cells, .inr (4, [.ref n_lease_cells])), (n_lease_cells, .inl (cI, 5, .inl f_lease_cells)), (a_lease_needs, .inr (4, [.ref n_lease_needs])), (n_lease_needs, .inl (cI, 5, .inl f_lease_needs)), (a_lease_values, .inr (4, [.ref n_lease_values])), (n_lease_values, .inl (cI, 5, .inl f_lease_values))] H := hP
        have hl : lv_has ls 2 [(1, .int (nI i48)), (0, .ref a)] := hl
        refine lv_iload_n hx hb dX5_make_48 rfl (lv_at hl 0 rfl) ?_
        refine lv_sipush (v := 4096) hx hb dX5_make_49 rfl ?_
        refine lv_icmp_ge (tgt := 84) hx hb dX5_make_52 (by decide) (fun _ => ?_) (fun c => absurd (nI_le (a := 4096) (by omega) (by omega)) c)
        exact kE48 _ _ _ hP hS (lv_sub hl [1] rfl)
      | succ k ih =>
        intro i48 z48 hi0 hik hz H locs ls hP hS hl
        obtain ⟨z48_1, z48_2, z48_3, z48_4⟩ := z48
        have hP : va_P D vwCl [(a, .inr (5, [.ref a_lease, .ref a_lawful, .ref a_grants, .ref a_bests, .ref a_mosts, .int 1])), (a_lawful, .inr (4, [.ref n_lawful])), (n_lawful, .inl (cI, 6, .inl z48_1)), (a_grants, .inr (4, [.ref n_grants])), (n_grants, .inl (cI, 6, .inl z48_2)), (a_bests, .inr (4, [.ref n_bests])), (n_bests, .inl (cI, 6, .inl z48_3)), (a_mosts, .inr (4, [.ref n_mosts])), (n_mosts, .inl (cI, 6, .inl z48_4)), (a_lease, .inr (1, [.ref a_lease_places, .ref a_lease_firstHours, .ref a_lease_spans, .ref a_lease_values, .ref a_lease_cells, .ref a_lease_needs, .ref a_lease_owed, .ref a_lease_room, .int i_lease_squares, .int i_lease_wishCount, .int i_lease_owedPlaces])), (a_lease_room, .inr (4, [.ref n_lease_room])), (n_lease_room, .inl (cI, 2, .inl f_lease_room)), (a_lease_cells, .inr (4, [.ref n_lease_cells])), (n_lease_cells, .inl (cI, 5, .inl f_lease_cells)), (a_lease_needs, .inr (4, [.ref n_lease_needs])), (n_lease_needs, .inl (cI, 5, .inl f_lease_needs)), (a_lease_values, .inr (4, [.ref n_lease_values])), (n_lease_values, .inl (cI, 5, .inl f_lease_values))] H := hP
        have hl : lv_has ls 2 [(1, .int (nI i48)), (0, .ref a)] := hl
        refine lv_iload_n hx hb dX5_make_48 rfl (lv_at hl 0 rfl) ?_
        refine lv_sipush (v := 4096) hx hb dX5_make_49 rfl ?_
        refine lv_icmp_ge (tgt := 84) hx hb dX5_make_52 (by decide) (fun c => absurd c (nI_ge (b := 4096) (by omega) (by decide))) (fun _ => ?_)
        refine lv_iload_n hx hb dX5_make_55 rfl (lv_at hl 0 rfl) ?_
        obtain ⟨o_56, ho_56⟩ : ∃ z : Bool, z = v_X7_isHanging (nI i48) := ⟨_, rfl⟩
        refine callNIs (As := [.int (nI i48)]) (rest := []) o_56 ho_56 hF (k_X7_isHanging l D cI cZ (nI i48)) ⟨va_cnB 1 hts gX5_make_X7_isHanging_n62 rfl rfl rfl hN.2.2.2.2.2.2.1 (hts _ (List.mem_of_getElem? (i := 14) rfl)) (by decide +kernel) ⟨Nat.le_of_ble_eq_true rfl, Nat.le_of_ble_eq_true rfl⟩, (hts _ (List.mem_of_getElem? (i := 13) rfl)), trivial⟩ hK hN hP (va_Dsame hD rfl) hS hA [] rfl rfl rfl hl.1 rfl (Nat.le_of_ble_eq_true rfl) dX5_make_56 ⟨Nat.zero_le _, Nat.zero_le _⟩ (bI o_56) rfl rfl (fun H locs hP hS => ?_)
        refine lv_if_eq (tgt := 78) hx hb dX5_make_59 (by decide) (fun c_59 => ?_) (fun c_59 => ?_)
        · refine lv_iinc (v := (nI (i48 + 1))) (lv' := [(1, .int (nI (i48 + 1))), (0, .ref a)]) hx hb dX5_make_78 hl (k := 0) rfl (nI_1 _) (by decide) rfl (fun ls hl => ?_)
          refine lv_goto (tgt := 48) hx hb dX5_make_81 (by decide) ?_
          have e8 : v_X5_make_L48 i_lease_wishCount f_lease_room f_lease_cells f_lease_needs f_lease_values i48 (z48_1, z48_2, z48_3, z48_4) = (z48_1, z48_2, z48_3, z48_4) := by
            show v_X5_make_L48c i_lease_wishCount f_lease_room f_lease_cells f_lease_needs f_lease_values i48 z48_1 z48_2 z48_3 z48_4 = (z48_1, z48_2, z48_3, z48_4)
            refine (bnd_eq ho_56).trans ?_
            refine (if_pos c_59).trans ?_
            rfl
          exact ih (i48 + 1) (z48_1, z48_2, z48_3, z48_4) (by omega) (by omega) (it_go e8 hz) _ _ _ hP hS (lv_sub hl [0, 1] rfl)
        · refine lv_aload_n hx hb dX5_make_62 rfl (lv_at hl 1 rfl) ?_
          refine va_get (D := D) (ci := 5) (v := .ref a_lease) (C := RX5) (T := TX5) (N := 6) hx hb hts (fun _ h => List.mem_cons_of_mem _ (List.mem_append_left _ (List.mem_append_left _ (List.mem_append_right _ (h))))) hown hK hP 0 rfl rfl 0 (by decide) (hts _ (List.mem_of_getElem? (i := 6) rfl)) (fun _ h9 => h9) rfl dX5_make_63 ?_
          refine lv_iload_n hx hb dX5_make_66 rfl (lv_at hl 0 rfl) ?_
          obtain ⟨o_67, ho_67⟩ : ∃ z : Bool, z = v_X1_allows (nI i48) f_lease_room := ⟨_, rfl⟩
          refine callVIs (As := [.int (nI i48)]) (rest := []) o_67 ho_67 hF (k_X1_allows l D cI cZ a_lease a_lease_places a_lease_firstHours a_lease_spans a_lease_values a_lease_cells a_lease_needs a_lease_owed a_lease_room n_lease_room (nI i48) i_lease_squares i_lease_wishCount i_lease_owedPlaces f_lease_room) (cwV 1 hts gX5_make_X1_allows rfl rfl rfl (by decide +kernel) ⟨Nat.le_of_ble_eq_true rfl, Nat.le_of_ble_eq_true rfl⟩) hK hN hP (va_Dsame hD rfl) hS hA [9, 10, 11] rfl rfl 9 1 (T := TX1) (N := 11) rfl rfl rfl hl.1 rfl (Nat.le_of_ble_eq_true rfl) dX5_make_67 ⟨Nat.zero_le _, Nat.zero_le _⟩ (bI o_67) rfl rfl (fun H locs hP hS => ?_)
          refine lv_if_eq (tgt := 78) hx hb dX5_make_70 (by decide) (fun c_70 => ?_) (fun c_70 => ?_)
          · refine lv_iinc (v := (nI (i48 + 1))) (lv' := [(1, .int (nI (i48 + 1))), (0, .ref a)]) hx hb dX5_make_78 hl (k := 0) rfl (nI_1 _) (by decide) rfl (fun ls hl => ?_)
            refine lv_goto (tgt := 48) hx hb dX5_make_81 (by decide) ?_
            have e8 : v_X5_make_L48 i_lease_wishCount f_lease_room f_lease_cells f_lease_needs f_lease_values i48 (z48_1, z48_2, z48_3, z48_4) = (z48_1, z48_2, z48_3, z48_4) := by
              show v_X5_make_L48c i_lease_wishCount f_lease_room f_lease_cells f_lease_needs f_lease_values i48 z48_1 z48_2 z48_3 z48_4 = (z48_1, z48_2, z48_3, z48_4)
              refine (bnd_eq ho_56).trans ?_
              refine (if_neg c_59).trans ?_
              refine (bnd_eq ho_67).trans ?_
              refine (if_pos c_70).trans ?_
              rfl
            exact ih (i48 + 1) (z48_1, z48_2, z48_3, z48_4) (by omega) (by omega) (it_go e8 hz) _ _ _ hP hS (lv_sub hl [0, 1] rfl)
          · refine lv_aload_n hx hb dX5_make_73 rfl (lv_at hl 1 rfl) ?_
            refine lv_iload_n hx hb dX5_make_74 rfl (lv_at hl 0 rfl) ?_
            obtain ⟨o_75_1, o_75_2, o_75_3, o_75_4, ho_75⟩ := ex4 (v_X5_enter (nI i48) i_lease_wishCount f_lease_cells f_lease_needs f_lease_values z48_1 z48_2 z48_4 z48_3)
            refine callVV (As := [.int (nI i48)]) (rest := []) (o_75_1, o_75_2, o_75_3, o_75_4) ho_75 hF (k_X5_enter l D cI cZ a a_lease a_lawful a_grants a_bests a_mosts a_lease_places a_lease_firstHours a_lease_spans a_lease_values a_lease_cells a_lease_needs a_lease_owed a_lease_room n_lease_cells n_lease_needs n_lease_values n_lawful n_grants n_mosts n_bests (nI i48) 1 i_lease_squares i_lease_wishCount i_lease_owedPlaces f_lease_cells f_lease_needs f_lease_values z48_1 z48_2 z48_4 z48_3) (cwV 1 hts gX5_make_X5_enter rfl rfl rfl (by decide +kernel) ⟨Nat.le_of_ble_eq_true rfl, Nat.le_of_ble_eq_true rfl⟩) hK hN hP (va_Dsame hD rfl) hS hA [0, 9, 12, 13, 14, 15, 16, 17, 1, 2, 3, 4, 7, 8, 5, 6] rfl rfl 0 5 (T := TX5) (N := 6) rfl rfl rfl hl.1 rfl (Nat.le_of_ble_eq_true rfl) dX5_make_75 ⟨Nat.zero_le _, Nat.zero_le _⟩ [some 0, some 8, some 9, some 10, some 11, some 14, some 15, some 12, some 13, some 1, none, none, some 2, some 3, some 4, some 5, some 6, some 7] 16 [(a, .inr (5, [.ref a_lease, .ref a_lawful, .ref a_grants, .ref a_bests, .ref a_mosts, .int 1])), (a_lawful, .inr (4, [.ref n_lawful])), (n_lawful, .inl (cI, 6, .inl o_75_4)), (a_grants, .inr (4, [.ref n_grants])), (n_grants, .inl (cI, 6, .inl o_75_1)), (a_bests, .inr (4, [.ref n_bests])), (n_bests, .inl (cI, 6, .inl o_75_3)), (a_mosts, .inr (4, [.ref n_mosts])), (n_mosts, .inl (cI, 6, .inl o_75_2)), (a_lease, .inr (1, [.ref a_lease_places, .ref a_lease_firstHours, .ref a_lease_spans, .ref a_lease_values, .ref a_lease_cells, .ref a_lease_needs, .ref a_lease_owed, .ref a_lease_room, .int i_lease_squares, .int i_lease_wishCount, .int i_lease_owedPlaces])), (a_lease_room, .inr (4, [.ref n_lease_room])), (n_lease_room, .inl (cI, 2, .inl f_lease_room)), (a_lease_cells, .inr (4, [.ref n_lease_cells])), (n_lease_cells, .inl (cI, 5, .inl f_lease_cells)), (a_lease_needs, .inr (4, [.ref n_lease_needs])), (n_lease_needs, .inl (cI, 5, .inl f_lease_needs)), (a_lease_values, .inr (4, [.ref n_lease_values])), (n_lease_values, .inl (cI, 5, .inl f_lease_values))] rfl rfl (by decide) (fun H locs hP hS => ?_)
            refine lv_iinc (v := (nI (i48 + 1))) (lv' := [(1, .int (nI (i48 + 1))), (0, .ref a)]) hx hb dX5_make_78 hl (k := 0) rfl (nI_1 _) (by decide) rfl (fun ls hl => ?_)
            refine lv_goto (tgt := 48) hx hb dX5_make_81 (by decide) ?_
            have e8 : v_X5_make_L48 i_lease_wishCount f_lease_room f_lease_cells f_lease_needs f_lease_values i48 (z48_1, z48_2, z48_3, z48_4) = (o_75_4, o_75_1, o_75_3, o_75_2) := by
              show v_X5_make_L48c i_lease_wishCount f_lease_room f_lease_cells f_lease_needs f_lease_values i48 z48_1 z48_2 z48_3 z48_4 = (o_75_4, o_75_1, o_75_3, o_75_2)
              refine (bnd_eq ho_56).trans ?_
              refine (if_neg c_59).trans ?_
              refine (bnd_eq ho_67).trans ?_
              refine (if_neg c_70).trans ?_
              refine (bnd4_eq ho_75).trans ?_
              rfl
            exact ih (i48 + 1) (o_75_4, o_75_1, o_75_3, o_75_2) (by omega) (by omega) (it_go e8 hz) _ _ _ hP hS (lv_sub hl [0, 1] rfl)
    exact loop48 4096 0 (o_18, o_26, o_35, o_43) (Nat.le_refl _) rfl ho_L48.symm _ _ _ hP hS (lv_sub hl [0, 1] rfl)
  · have e9 : v_X5_make i_isMade f_lawful f_grants f_bests f_mosts i_lease_wishCount f_lease_room f_lease_cells f_lease_needs f_lease_values = (i_isMade, f_lawful, f_grants, f_bests, f_mosts) := by
      refine (if_neg c_4).trans ?_
      rfl
    rw [hQ]; exact retV (i_isMade, f_lawful, f_grants, f_bests, f_mosts) hx hb hr hlk e9 hP hS dX5_make_7
def v_X5_lawfulOf (x1 : Int32) (i_isMade : Int32) (f_lawful : Nat → Int32) (f_grants : Nat → Int32) (f_bests : Nat → Int32) (f_mosts : Nat → Int32) (i_lease_wishCount : Int32) (f_lease_room : Nat → Int32) (f_lease_cells : Nat → Int32) (f_lease_needs : Nat → Int32) (f_lease_values : Nat → Int32) : Int32 × Int32 × (Nat → Int32) × (Nat → Int32) × (Nat → Int32) × (Nat → Int32) :=
  bnd5 (v_X5_make i_isMade f_lawful f_grants f_bests f_mosts i_lease_wishCount f_lease_room f_lease_cells f_lease_needs f_lease_values) fun o_1_1 o_1_2 o_1_3 o_1_4 o_1_5 =>
  (bnd (v_X4_at x1 o_1_2 6) fun o_9 =>
  (o_9, o_1_1, o_1_2, o_1_3, o_1_4, o_1_5))
abbrev rm_X5_lawfulOf : Room := { frames := 4, cells := 0, slots := 0, locals := 89 }
set_option maxHeartbeats 4000000 in
set_option maxRecDepth 100000 in
theorem k_X5_lawfulOf (l : Launch) (D : va_G) (cI cZ : ClassId) (a a_lease a_lawful a_grants a_bests a_mosts n_lawful n_grants n_bests n_mosts a_lease_places a_lease_firstHours a_lease_spans a_lease_values a_lease_cells a_lease_needs a_lease_owed a_lease_room n_lease_room n_lease_cells n_lease_needs n_lease_values : Nat) (x1 : Int32) (i_isMade : Int32) (f_lawful : Nat → Int32) (f_grants : Nat → Int32) (f_bests : Nat → Int32) (f_mosts : Nat → Int32) (i_lease_squares : Int32) (i_lease_wishCount : Int32) (i_lease_owedPlaces : Int32) (f_lease_room : Nat → Int32) (f_lease_cells : Nat → Int32) (f_lease_needs : Nat → Int32) (f_lease_values : Nat → Int32) : KI l D cI cZ yX5_lawfulOf wsX5_lawfulOf rm_X5_lawfulOf [.ref a, .int x1] [(a, .inr (5, [.ref a_lease, .ref a_lawful, .ref a_grants, .ref a_bests, .ref a_mosts, .int i_isMade])), (a_lawful, .inr (4, [.ref n_lawful])), (n_lawful, .inl (cI, 6, .inl f_lawful)), (a_grants, .inr (4, [.ref n_grants])), (n_grants, .inl (cI, 6, .inl f_grants)), (a_bests, .inr (4, [.ref n_bests])), (n_bests, .inl (cI, 6, .inl f_bests)), (a_mosts, .inr (4, [.ref n_mosts])), (n_mosts, .inl (cI, 6, .inl f_mosts)), (a_lease, .inr (1, [.ref a_lease_places, .ref a_lease_firstHours, .ref a_lease_spans, .ref a_lease_values, .ref a_lease_cells, .ref a_lease_needs, .ref a_lease_owed, .ref a_lease_room, .int i_lease_squares, .int i_lease_wishCount, .int i_lease_owedPlaces])), (a_lease_room, .inr (4, [.ref n_lease_room])), (n_lease_room, .inl (cI, 2, .inl f_lease_room)), (a_lease_cells, .inr (4, [.ref n_lease_cells])), (n_lease_cells, .inl (cI, 5, .inl f_lease_cells)), (a_lease_needs, .inr (4, [.ref n_lease_needs])), (n_lease_needs, .inl (cI, 5, .inl f_lease_needs)), (a_lease_values, .inr (4, [.ref n_lease_values])), (n_lease_values, .inl (cI, 5, .inl f_lease_values))] (v_X5_lawfulOf x1 i_isMade f_lawful f_grants f_bests f_mosts i_lease_wishCount f_lease_room f_lease_cells f_lease_needs f_lease_values) (fun o : Int32 × Int32 × (Nat → Int32) × (Nat → Int32) × (Nat → Int32) × (Nat → Int32) => o.1) (fun o : Int32 × Int32 × (Nat → Int32) × (Nat → Int32) × (Nat → Int32) × (Nat → Int32) => [(a, .inr (5, [.ref a_lease, .ref a_lawful, .ref a_grants, .ref a_bests, .ref a_mosts, .int o.2.1])), (a_lawful, .inr (4, [.ref n_lawful])), (n_lawful, .inl (cI, 6, .inl o.2.2.1)), (a_grants, .inr (4, [.ref n_grants])), (n_grants, .inl (cI, 6, .inl o.2.2.2.1)), (a_bests, .inr (4, [.ref n_bests])), (n_bests, .inl (cI, 6, .inl o.2.2.2.2.1)), (a_mosts, .inr (4, [.ref n_mosts])), (n_mosts, .inl (cI, 6, .inl o.2.2.2.2.2)), (a_lease, .inr (1, [.ref a_lease_places, .ref a_lease_firstHours, .ref a_lease_spans, .ref a_lease_values, .ref a_lease_cells, .ref a_lease_needs, .ref a_lease_owed, .ref a_lease_room, .int i_lease_squares, .int i_lease_wishCount, .int i_lease_owedPlaces])), (a_lease_room, .inr (4, [.ref n_lease_room])), (n_lease_room, .inl (cI, 2, .inl f_lease_room)), (a_lease_cells, .inr (4, [.ref n_lease_cells])), (n_lease_cells, .inl (cI, 5, .inl f_lease_cells)), (a_lease_needs, .inr (4, [.ref n_lease_needs])), (n_lease_needs, .inl (cI, 5, .inl f_lease_needs)), (a_lease_values, .inr (4, [.ref n_lease_values])), (n_lease_values, .inl (cI, 5, .inl f_lease_values))]) := by
  refine KI.of cX5_lawfulOf 2 (some .int) (by decide) rfl (Nat.le_of_ble_eq_true rfl) ?_
  intro p e s m below meth c A ls ar Q hQ B
  obtain ⟨hx, hb, hr, hml, hts, hown, hlk, hK, hN, hP, hD, hA, hS, hl⟩ := B
  have hown : s.vm.findClass RX5 = some m.cls := hown
  have hF : CallFix p m c cX5_lawfulOf 2 s ar wsX5_lawfulOf RX5 := ⟨hx, hb, hml, hown, hts⟩
  have hl : lv_has ls 2 [(0, .ref a), (1, .int x1)] := hl
  refine lv_aload_n hx hb dX5_lawfulOf_0 rfl (lv_at hl 0 rfl) ?_
  obtain ⟨o_1_1, o_1_2, o_1_3, o_1_4, o_1_5, ho_1⟩ := ex5 (v_X5_make i_isMade f_lawful f_grants f_bests f_mosts i_lease_wishCount f_lease_room f_lease_cells f_lease_needs f_lease_values)
  refine callVV (As := []) (rest := []) (o_1_1, o_1_2, o_1_3, o_1_4, o_1_5) ho_1 hF (k_X5_make l D cI cZ a a_lease a_lawful a_grants a_bests a_mosts n_lawful n_grants n_bests n_mosts a_lease_places a_lease_firstHours a_lease_spans a_lease_values a_lease_cells a_lease_needs a_lease_owed a_lease_room n_lease_room n_lease_cells n_lease_needs n_lease_values i_isMade f_lawful f_grants f_bests f_mosts i_lease_squares i_lease_wishCount i_lease_owedPlaces f_lease_room f_lease_cells f_lease_needs f_lease_values) (cwV 0 hts gX5_lawfulOf_X5_make rfl rfl rfl (by decide +kernel) ⟨Nat.le_of_ble_eq_true rfl, Nat.le_of_ble_eq_true rfl⟩) hK hN hP (va_Dsame hD rfl) hS hA [0, 1, 2, 3, 4, 5, 6, 7, 8, 9, 10, 11, 12, 13, 14, 15, 16, 17] rfl rfl 0 5 (T := TX5) (N := 6) rfl rfl rfl hl.1 rfl (Nat.le_of_ble_eq_true rfl) dX5_lawfulOf_1 ⟨Nat.zero_le _, Nat.zero_le _⟩ [some 0, some 1, some 2, some 3, some 4, some 5, some 6, some 7, some 8, some 9, some 10, some 11, some 12, some 13, some 14, some 15, some 16, some 17] 18 [(a, .inr (5, [.ref a_lease, .ref a_lawful, .ref a_grants, .ref a_bests, .ref a_mosts, .int o_1_1])), (a_lawful, .inr (4, [.ref n_lawful])), (n_lawful, .inl (cI, 6, .inl o_1_2)), (a_grants, .inr (4, [.ref n_grants])), (n_grants, .inl (cI, 6, .inl o_1_3)), (a_bests, .inr (4, [.ref n_bests])), (n_bests, .inl (cI, 6, .inl o_1_4)), (a_mosts, .inr (4, [.ref n_mosts])), (n_mosts, .inl (cI, 6, .inl o_1_5)), (a_lease, .inr (1, [.ref a_lease_places, .ref a_lease_firstHours, .ref a_lease_spans, .ref a_lease_values, .ref a_lease_cells, .ref a_lease_needs, .ref a_lease_owed, .ref a_lease_room, .int i_lease_squares, .int i_lease_wishCount, .int i_lease_owedPlaces])), (a_lease_room, .inr (4, [.ref n_lease_room])), (n_lease_room, .inl (cI, 2, .inl f_lease_room)), (a_lease_cells, .inr (4, [.ref n_lease_cells])), (n_lease_cells, .inl (cI, 5, .inl f_lease_cells)), (a_lease_needs, .inr (4, [.ref n_lease_needs])), (n_lease_needs, .inl (cI, 5, .inl f_lease_needs)), (a_lease_values, .inr (4, [.ref n_lease_values])), (n_lease_values, .inl (cI, 5, .inl f_lease_values))] rfl rfl (by decide) (fun H locs hP hS => ?_)
  refine lv_aload_n hx hb dX5_lawfulOf_4 rfl (lv_at hl 0 rfl) ?_
  refine va_get (D := D) (ci := 5) (v := .ref a_lawful) (C := RX5) (T := TX5) (N := 6) hx hb hts (fun _ h => List.mem_cons_of_mem _ (List.mem_append_left _ (List.mem_append_left _ (List.mem_append_right _ (h))))) hown hK hP 0 rfl rfl 1 (by decide) (hts _ (List.mem_of_getElem? (i := 1) rfl)) (fun _ h9 => h9) rfl dX5_lawfulOf_5 ?_
  refine lv_iload_n hx hb dX5_lawfulOf_8 rfl (lv_at hl 1 rfl) ?_
  obtain ⟨o_9, ho_9⟩ : ∃ z : Int32, z = v_X4_at x1 o_1_2 6 := ⟨_, rfl⟩
  refine callVIs (As := [.int x1]) (rest := []) o_9 ho_9 hF (k_X4_at l D cI cZ a_lawful n_lawful x1 o_1_2 6 (by decide)) (cwV 1 hts gX5_lawfulOf_X4_at rfl rfl rfl (by decide +kernel) ⟨Nat.le_of_ble_eq_true rfl, Nat.le_of_ble_eq_true rfl⟩) hK hN hP (va_Dsame hD rfl) hS hA [1, 2] rfl rfl 1 4 (T := TX4) (N := 1) rfl rfl rfl hl.1 rfl (Nat.le_of_ble_eq_true rfl) dX5_lawfulOf_9 ⟨Nat.zero_le _, Nat.zero_le _⟩ o_9 rfl rfl (fun H locs hP hS => ?_)
  have e9 : v_X5_lawfulOf x1 i_isMade f_lawful f_grants f_bests f_mosts i_lease_wishCount f_lease_room f_lease_cells f_lease_needs f_lease_values = (o_9, o_1_1, o_1_2, o_1_3, o_1_4, o_1_5) := by
    refine (bnd5_eq ho_1).trans ?_
    refine (bnd_eq ho_9).trans ?_
    rfl
  rw [hQ]; exact retI (o_9, o_1_1, o_1_2, o_1_3, o_1_4, o_1_5) hx hb hr hlk e9 hP rfl hS dX5_lawfulOf_12
def v_X5_bestOf (x1 : Int32) (i_isMade : Int32) (f_lawful : Nat → Int32) (f_grants : Nat → Int32) (f_bests : Nat → Int32) (f_mosts : Nat → Int32) (i_lease_wishCount : Int32) (f_lease_room : Nat → Int32) (f_lease_cells : Nat → Int32) (f_lease_needs : Nat → Int32) (f_lease_values : Nat → Int32) : Int32 × Int32 × (Nat → Int32) × (Nat → Int32) × (Nat → Int32) × (Nat → Int32) :=
  bnd5 (v_X5_make i_isMade f_lawful f_grants f_bests f_mosts i_lease_wishCount f_lease_room f_lease_cells f_lease_needs f_lease_values) fun o_1_1 o_1_2 o_1_3 o_1_4 o_1_5 =>
  (bnd (v_X4_at x1 o_1_4 6) fun o_9 =>
  (o_9, o_1_1, o_1_2, o_1_3, o_1_4, o_1_5))
abbrev rm_X5_bestOf : Room := { frames := 4, cells := 0, slots := 0, locals := 89 }
set_option maxHeartbeats 4000000 in
set_option maxRecDepth 100000 in
theorem k_X5_bestOf (l : Launch) (D : va_G) (cI cZ : ClassId) (a a_lease a_lawful a_grants a_bests a_mosts n_lawful n_grants n_bests n_mosts a_lease_places a_lease_firstHours a_lease_spans a_lease_values a_lease_cells a_lease_needs a_lease_owed a_lease_room n_lease_room n_lease_cells n_lease_needs n_lease_values : Nat) (x1 : Int32) (i_isMade : Int32) (f_lawful : Nat → Int32) (f_grants : Nat → Int32) (f_bests : Nat → Int32) (f_mosts : Nat → Int32) (i_lease_squares : Int32) (i_lease_wishCount : Int32) (i_lease_owedPlaces : Int32) (f_lease_room : Nat → Int32) (f_lease_cells : Nat → Int32) (f_lease_needs : Nat → Int32) (f_lease_values : Nat → Int32) : KI l D cI cZ yX5_bestOf wsX5_bestOf rm_X5_bestOf [.ref a, .int x1] [(a, .inr (5, [.ref a_lease, .ref a_lawful, .ref a_grants, .ref a_bests, .ref a_mosts, .int i_isMade])), (a_lawful, .inr (4, [.ref n_lawful])), (n_lawful, .inl (cI, 6, .inl f_lawful)), (a_grants, .inr (4, [.ref n_grants])), (n_grants, .inl (cI, 6, .inl f_grants)), (a_bests, .inr (4, [.ref n_bests])), (n_bests, .inl (cI, 6, .inl f_bests)), (a_mosts, .inr (4, [.ref n_mosts])), (n_mosts, .inl (cI, 6, .inl f_mosts)), (a_lease, .inr (1, [.ref a_lease_places, .ref a_lease_firstHours, .ref a_lease_spans, .ref a_lease_values, .ref a_lease_cells, .ref a_lease_needs, .ref a_lease_owed, .ref a_lease_room, .int i_lease_squares, .int i_lease_wishCount, .int i_lease_owedPlaces])), (a_lease_room, .inr (4, [.ref n_lease_room])), (n_lease_room, .inl (cI, 2, .inl f_lease_room)), (a_lease_cells, .inr (4, [.ref n_lease_cells])), (n_lease_cells, .inl (cI, 5, .inl f_lease_cells)), (a_lease_needs, .inr (4, [.ref n_lease_needs])), (n_lease_needs, .inl (cI, 5, .inl f_lease_needs)), (a_lease_values, .inr (4, [.ref n_lease_values])), (n_lease_values, .inl (cI, 5, .inl f_lease_values))] (v_X5_bestOf x1 i_isMade f_lawful f_grants f_bests f_mosts i_lease_wishCount f_lease_room f_lease_cells f_lease_needs f_lease_values) (fun o : Int32 × Int32 × (Nat → Int32) × (Nat → Int32) × (Nat → Int32) × (Nat → Int32) => o.1) (fun o : Int32 × Int32 × (Nat → Int32) × (Nat → Int32) × (Nat → Int32) × (Nat → Int32) => [(a, .inr (5, [.ref a_lease, .ref a_lawful, .ref a_grants, .ref a_bests, .ref a_mosts, .int o.2.1])), (a_lawful, .inr (4, [.ref n_lawful])), (n_lawful, .inl (cI, 6, .inl o.2.2.1)), (a_grants, .inr (4, [.ref n_grants])), (n_grants, .inl (cI, 6, .inl o.2.2.2.1)), (a_bests, .inr (4, [.ref n_bests])), (n_bests, .inl (cI, 6, .inl o.2.2.2.2.1)), (a_mosts, .inr (4, [.ref n_mosts])), (n_mosts, .inl (cI, 6, .inl o.2.2.2.2.2)), (a_lease, .inr (1, [.ref a_lease_places, .ref a_lease_firstHours, .ref a_lease_spans, .ref a_lease_values, .ref a_lease_cells, .ref a_lease_needs, .ref a_lease_owed, .ref a_lease_room, .int i_lease_squares, .int i_lease_wishCount, .int i_lease_owedPlaces])), (a_lease_room, .inr (4, [.ref n_lease_room])), (n_lease_room, .inl (cI, 2, .inl f_lease_room)), (a_lease_cells, .inr (4, [.ref n_lease_cells])), (n_lease_cells, .inl (cI, 5, .inl f_lease_cells)), (a_lease_needs, .inr (4, [.ref n_lease_needs])), (n_lease_needs, .inl (cI, 5, .inl f_lease_needs)), (a_lease_values, .inr (4, [.ref n_lease_values])), (n_lease_values, .inl (cI, 5, .inl f_lease_values))]) := by
  refine KI.of cX5_bestOf 2 (some .int) (by decide) rfl (Nat.le_of_ble_eq_true rfl) ?_
  intro p e s m below meth c A ls ar Q hQ B
  obtain ⟨hx, hb, hr, hml, hts, hown, hlk, hK, hN, hP, hD, hA, hS, hl⟩ := B
  have hown : s.vm.findClass RX5 = some m.cls := hown
  have hF : CallFix p m c cX5_bestOf 2 s ar wsX5_bestOf RX5 := ⟨hx, hb, hml, hown, hts⟩
  have hl : lv_has ls 2 [(0, .ref a), (1, .int x1)] := hl
  refine lv_aload_n hx hb dX5_bestOf_0 rfl (lv_at hl 0 rfl) ?_
  obtain ⟨o_1_1, o_1_2, o_1_3, o_1_4, o_1_5, ho_1⟩ := ex5 (v_X5_make i_isMade f_lawful f_grants f_bests f_mosts i_lease_wishCount f_lease_room f_lease_cells f_lease_needs f_lease_values)
  refine callVV (As := []) (rest := []) (o_1_1, o_1_2, o_1_3, o_1_4, o_1_5) ho_1 hF (k_X5_make l D cI cZ a a_lease a_lawful a_grants a_bests a_mosts n_lawful n_grants n_bests n_mosts a_lease_places a_lease_firstHours a_lease_spans a_lease_values a_lease_cells a_lease_needs a_lease_owed a_lease_room n_lease_room n_lease_cells n_lease_needs n_lease_values i_isMade f_lawful f_grants f_bests f_mosts i_lease_squares i_lease_wishCount i_lease_owedPlaces f_lease_room f_lease_cells f_lease_needs f_lease_values) (cwV 0 hts gX5_bestOf_X5_make rfl rfl rfl (by decide +kernel) ⟨Nat.le_of_ble_eq_true rfl, Nat.le_of_ble_eq_true rfl⟩) hK hN hP (va_Dsame hD rfl) hS hA [0, 1, 2, 3, 4, 5, 6, 7, 8, 9, 10, 11, 12, 13, 14, 15, 16, 17] rfl rfl 0 5 (T := TX5) (N := 6) rfl rfl rfl hl.1 rfl (Nat.le_of_ble_eq_true rfl) dX5_bestOf_1 ⟨Nat.zero_le _, Nat.zero_le _⟩ [some 0, some 1, some 2, some 3, some 4, some 5, some 6, some 7, some 8, some 9, some 10, some 11, some 12, some 13, some 14, some 15, some 16, some 17] 18 [(a, .inr (5, [.ref a_lease, .ref a_lawful, .ref a_grants, .ref a_bests, .ref a_mosts, .int o_1_1])), (a_lawful, .inr (4, [.ref n_lawful])), (n_lawful, .inl (cI, 6, .inl o_1_2)), (a_grants, .inr (4, [.ref n_grants])), (n_grants, .inl (cI, 6, .inl o_1_3)), (a_bests, .inr (4, [.ref n_bests])), (n_bests, .inl (cI, 6, .inl o_1_4)), (a_mosts, .inr (4, [.ref n_mosts])), (n_mosts, .inl (cI, 6, .inl o_1_5)), (a_lease, .inr (1, [.ref a_lease_places, .ref a_lease_firstHours, .ref a_lease_spans, .ref a_lease_values, .ref a_lease_cells, .ref a_lease_needs, .ref a_lease_owed, .ref a_lease_room, .int i_lease_squares, .int i_lease_wishCount, .int i_lease_owedPlaces])), (a_lease_room, .inr (4, [.ref n_lease_room])), (n_lease_room, .inl (cI, 2, .inl f_lease_room)), (a_lease_cells, .inr (4, [.ref n_lease_cells])), (n_lease_cells, .inl (cI, 5, .inl f_lease_cells)), (a_lease_needs, .inr (4, [.ref n_lease_needs])), (n_lease_needs, .inl (cI, 5, .inl f_lease_needs)), (a_lease_values, .inr (4, [.ref n_lease_values])), (n_lease_values, .inl (cI, 5, .inl f_lease_values))] rfl rfl (by decide) (fun H locs hP hS => ?_)
  refine lv_aload_n hx hb dX5_bestOf_4 rfl (lv_at hl 0 rfl) ?_
  refine va_get (D := D) (ci := 5) (v := .ref a_bests) (C := RX5) (T := TX5) (N := 6) hx hb hts (fun _ h => List.mem_cons_of_mem _ (List.mem_append_left _ (List.mem_append_left _ (List.mem_append_right _ (h))))) hown hK hP 0 rfl rfl 3 (by decide) (hts _ (List.mem_of_getElem? (i := 1) rfl)) (fun _ h9 => h9) rfl dX5_bestOf_5 ?_
  refine lv_iload_n hx hb dX5_bestOf_8 rfl (lv_at hl 1 rfl) ?_
  obtain ⟨o_9, ho_9⟩ : ∃ z : Int32, z = v_X4_at x1 o_1_4 6 := ⟨_, rfl⟩
  refine callVIs (As := [.int x1]) (rest := []) o_9 ho_9 hF (k_X4_at l D cI cZ a_bests n_bests x1 o_1_4 6 (by decide)) (cwV 1 hts gX5_bestOf_X4_at rfl rfl rfl (by decide +kernel) ⟨Nat.le_of_ble_eq_true rfl, Nat.le_of_ble_eq_true rfl⟩) hK hN hP (va_Dsame hD rfl) hS hA [5, 6] rfl rfl 5 4 (T := TX4) (N := 1) rfl rfl rfl hl.1 rfl (Nat.le_of_ble_eq_true rfl) dX5_bestOf_9 ⟨Nat.zero_le _, Nat.zero_le _⟩ o_9 rfl rfl (fun H locs hP hS => ?_)
  have e9 : v_X5_bestOf x1 i_isMade f_lawful f_grants f_bests f_mosts i_lease_wishCount f_lease_room f_lease_cells f_lease_needs f_lease_values = (o_9, o_1_1, o_1_2, o_1_3, o_1_4, o_1_5) := by
    refine (bnd5_eq ho_1).trans ?_
    refine (bnd_eq ho_9).trans ?_
    rfl
  rw [hQ]; exact retI (o_9, o_1_1, o_1_2, o_1_3, o_1_4, o_1_5) hx hb hr hlk e9 hP rfl hS dX5_bestOf_12
def v_X5_canGrant_L6 (x1 : Int32) (x2 : Int32) (o_1_1 : Int32) (o_1_2 : Nat → Int32) (o_1_3 : Nat → Int32) (o_1_4 : Nat → Int32) (o_1_5 : Nat → Int32) (i6 : Nat) (z6 : Unit) : Sum (Unit) (Bool × Int32 × (Nat → Int32) × (Nat → Int32) × (Nat → Int32) × (Nat → Int32)) :=
  bnd (v_X4_at x1 o_1_3 6) fun o_17 =>
  (bnd (v_X7_has o_17 (nI i6)) fun o_21 =>
  (if bI o_21 = 0 then .inl ()
  else (if (x2 &&& (nI i6 ^^^ (-1))) = 0 then .inr (true, o_1_1, o_1_2, o_1_3, o_1_4, o_1_5)
  else .inl ())))
def v_X5_canGrant (x1 : Int32) (x2 : Int32) (i_isMade : Int32) (f_lawful : Nat → Int32) (f_grants : Nat → Int32) (f_bests : Nat → Int32) (f_mosts : Nat → Int32) (i_lease_wishCount : Int32) (f_lease_room : Nat → Int32) (f_lease_cells : Nat → Int32) (f_lease_needs : Nat → Int32) (f_lease_values : Nat → Int32) : Bool × Int32 × (Nat → Int32) × (Nat → Int32) × (Nat → Int32) × (Nat → Int32) :=
  bnd5 (v_X5_make i_isMade f_lawful f_grants f_bests f_mosts i_lease_wishCount f_lease_room f_lease_cells f_lease_needs f_lease_values) fun o_1_1 o_1_2 o_1_3 o_1_4 o_1_5 =>
  (mch (itx (v_X5_canGrant_L6 x1 x2 o_1_1 o_1_2 o_1_3 o_1_4 o_1_5) 32 0 ()) fun s6 =>
  (false, o_1_1, o_1_2, o_1_3, o_1_4, o_1_5))
abbrev rm_X5_canGrant : Room := { frames := 4, cells := 0, slots := 0, locals := 89 }
set_option maxHeartbeats 4000000 in
set_option maxRecDepth 100000 in
theorem k_X5_canGrant (l : Launch) (D : va_G) (cI cZ : ClassId) (a a_lease a_lawful a_grants a_bests a_mosts n_lawful n_grants n_bests n_mosts a_lease_places a_lease_firstHours a_lease_spans a_lease_values a_lease_cells a_lease_needs a_lease_owed a_lease_room n_lease_room n_lease_cells n_lease_needs n_lease_values : Nat) (x1 : Int32) (x2 : Int32) (i_isMade : Int32) (f_lawful : Nat → Int32) (f_grants : Nat → Int32) (f_bests : Nat → Int32) (f_mosts : Nat → Int32) (i_lease_squares : Int32) (i_lease_wishCount : Int32) (i_lease_owedPlaces : Int32) (f_lease_room : Nat → Int32) (f_lease_cells : Nat → Int32) (f_lease_needs : Nat → Int32) (f_lease_values : Nat → Int32) : KI l D cI cZ yX5_canGrant wsX5_canGrant rm_X5_canGrant [.ref a, .int x1, .int x2] [(a, .inr (5, [.ref a_lease, .ref a_lawful, .ref a_grants, .ref a_bests, .ref a_mosts, .int i_isMade])), (a_lawful, .inr (4, [.ref n_lawful])), (n_lawful, .inl (cI, 6, .inl f_lawful)), (a_grants, .inr (4, [.ref n_grants])), (n_grants, .inl (cI, 6, .inl f_grants)), (a_bests, .inr (4, [.ref n_bests])), (n_bests, .inl (cI, 6, .inl f_bests)), (a_mosts, .inr (4, [.ref n_mosts])), (n_mosts, .inl (cI, 6, .inl f_mosts)), (a_lease, .inr (1, [.ref a_lease_places, .ref a_lease_firstHours, .ref a_lease_spans, .ref a_lease_values, .ref a_lease_cells, .ref a_lease_needs, .ref a_lease_owed, .ref a_lease_room, .int i_lease_squares, .int i_lease_wishCount, .int i_lease_owedPlaces])), (a_lease_room, .inr (4, [.ref n_lease_room])), (n_lease_room, .inl (cI, 2, .inl f_lease_room)), (a_lease_cells, .inr (4, [.ref n_lease_cells])), (n_lease_cells, .inl (cI, 5, .inl f_lease_cells)), (a_lease_needs, .inr (4, [.ref n_lease_needs])), (n_lease_needs, .inl (cI, 5, .inl f_lease_needs)), (a_lease_values, .inr (4, [.ref n_lease_values])), (n_lease_values, .inl (cI, 5, .inl f_lease_values))] (v_X5_canGrant x1 x2 i_isMade f_lawful f_grants f_bests f_mosts i_lease_wishCount f_lease_room f_lease_cells f_lease_needs f_lease_values) (fun o : Bool × Int32 × (Nat → Int32) × (Nat → Int32) × (Nat → Int32) × (Nat → Int32) => bI o.1) (fun o : Bool × Int32 × (Nat → Int32) × (Nat → Int32) × (Nat → Int32) × (Nat → Int32) => [(a, .inr (5, [.ref a_lease, .ref a_lawful, .ref a_grants, .ref a_bests, .ref a_mosts, .int o.2.1])), (a_lawful, .inr (4, [.ref n_lawful])), (n_lawful, .inl (cI, 6, .inl o.2.2.1)), (a_grants, .inr (4, [.ref n_grants])), (n_grants, .inl (cI, 6, .inl o.2.2.2.1)), (a_bests, .inr (4, [.ref n_bests])), (n_bests, .inl (cI, 6, .inl o.2.2.2.2.1)), (a_mosts, .inr (4, [.ref n_mosts])), (n_mosts, .inl (cI, 6, .inl o.2.2.2.2.2)), (a_lease, .inr (1, [.ref a_lease_places, .ref a_lease_firstHours, .ref a_lease_spans, .ref a_lease_values, .ref a_lease_cells, .ref a_lease_needs, .ref a_lease_owed, .ref a_lease_room, .int i_lease_squares, .int i_lease_wishCount, .int i_lease_owedPlaces])), (a_lease_room, .inr (4, [.ref n_lease_room])), (n_lease_room, .inl (cI, 2, .inl f_lease_room)), (a_lease_cells, .inr (4, [.ref n_lease_cells])), (n_lease_cells, .inl (cI, 5, .inl f_lease_cells)), (a_lease_needs, .inr (4, [.ref n_lease_needs])), (n_lease_needs, .inl (cI, 5, .inl f_lease_needs)), (a_lease_values, .inr (4, [.ref n_lease_values])), (n_lease_values, .inl (cI, 5, .inl f_lease_values))]) := by
  refine KI.of cX5_canGrant 4 (some .boolean) (by decide) rfl (Nat.le_of_ble_eq_true rfl) ?_
  intro p e s m below meth c A ls ar Q hQ B
  obtain ⟨hx, hb, hr, hml, hts, hown, hlk, hK, hN, hP, hD, hA, hS, hl⟩ := B
  have hown : s.vm.findClass RX5 = some m.cls := hown
  have hF : CallFix p m c cX5_canGrant 4 s ar wsX5_canGrant RX5 := ⟨hx, hb, hml, hown, hts⟩
  have hl : lv_has ls 4 [(0, .ref a), (1, .int x1), (2, .int x2)] := hl
  refine lv_aload_n hx hb dX5_canGrant_0 rfl (lv_at hl 0 rfl) ?_
  obtain ⟨o_1_1, o_1_2, o_1_3, o_1_4, o_1_5, ho_1⟩ := ex5 (v_X5_make i_isMade f_lawful f_grants f_bests f_mosts i_lease_wishCount f_lease_room f_lease_cells f_lease_needs f_lease_values)
  refine callVV (As := []) (rest := []) (o_1_1, o_1_2, o_1_3, o_1_4, o_1_5) ho_1 hF (k_X5_make l D cI cZ a a_lease a_lawful a_grants a_bests a_mosts n_lawful n_grants n_bests n_mosts a_lease_places a_lease_firstHours a_lease_spans a_lease_values a_lease_cells a_lease_needs a_lease_owed a_lease_room n_lease_room n_lease_cells n_lease_needs n_lease_values i_isMade f_lawful f_grants f_bests f_mosts i_lease_squares i_lease_wishCount i_lease_owedPlaces f_lease_room f_lease_cells f_lease_needs f_lease_values) (cwV 0 hts gX5_canGrant_X5_make rfl rfl rfl (by decide +kernel) ⟨Nat.le_of_ble_eq_true rfl, Nat.le_of_ble_eq_true rfl⟩) hK hN hP (va_Dsame hD rfl) hS hA [0, 1, 2, 3, 4, 5, 6, 7, 8, 9, 10, 11, 12, 13, 14, 15, 16, 17] rfl rfl 0 5 (T := TX5) (N := 6) rfl rfl rfl hl.1 rfl (Nat.le_of_ble_eq_true rfl) dX5_canGrant_1 ⟨Nat.zero_le _, Nat.zero_le _⟩ [some 0, some 1, some 2, some 3, some 4, some 5, some 6, some 7, some 8, some 9, some 10, some 11, some 12, some 13, some 14, some 15, some 16, some 17] 18 [(a, .inr (5, [.ref a_lease, .ref a_lawful, .ref a_grants, .ref a_bests, .ref a_mosts, .int o_1_1])), (a_lawful, .inr (4, [.ref n_lawful])), (n_lawful, .inl (cI, 6, .inl o_1_2)), (a_grants, .inr (4, [.ref n_grants])), (n_grants, .inl (cI, 6, .inl o_1_3)), (a_bests, .inr (4, [.ref n_bests])), (n_bests, .inl (cI, 6, .inl o_1_4)), (a_mosts, .inr (4, [.ref n_mosts])), (n_mosts, .inl (cI, 6, .inl o_1_5)), (a_lease, .inr (1, [.ref a_lease_places, .ref a_lease_firstHours, .ref a_lease_spans, .ref a_lease_values, .ref a_lease_cells, .ref a_lease_needs, .ref a_lease_owed, .ref a_lease_room, .int i_lease_squares, .int i_lease_wishCount, .int i_lease_owedPlaces])), (a_lease_room, .inr (4, [.ref n_lease_room])), (n_lease_room, .inl (cI, 2, .inl f_lease_room)), (a_lease_cells, .inr (4, [.ref n_lease_cells])), (n_lease_cells, .inl (cI, 5, .inl f_lease_cells)), (a_lease_needs, .inr (4, [.ref n_lease_needs])), (n_lease_needs, .inl (cI, 5, .inl f_lease_needs)), (a_lease_values, .inr (4, [.ref n_lease_values])), (n_lease_values, .inl (cI, 5, .inl f_lease_values))] rfl rfl (by decide) (fun H locs hP hS => ?_)
  refine lv_iconst (v := 0) hx hb dX5_canGrant_4 rfl ?_
  refine lv_istore_n (lv' := [(3, .int 0), (0, .ref a), (1, .int x1), (2, .int x2)]) hx hb dX5_canGrant_5 rfl hl (by decide) rfl (fun ls hl => ?_)
  obtain ⟨o_L6, ho_L6⟩ : ∃ z : Sum (Unit) (Bool × Int32 × (Nat → Int32) × (Nat → Int32) × (Nat → Int32) × (Nat → Int32)), z = itx (v_X5_canGrant_L6 x1 x2 o_1_1 o_1_2 o_1_3 o_1_4 o_1_5) 32 0 () := ⟨_, rfl⟩
  have kE6 : ∀ s6 : Unit, o_L6 = .inl s6 → ∀ (H : Heap) (locs : List Loc) (ls : Array Slot), va_P D vwCl [(a, .inr (5, [.ref a_lease, .ref a_lawful, .ref a_grants, .ref a_bests, .ref a_mosts, .int o_1_1])), (a_lawful, .inr (4, [.ref n_lawful])), (n_lawful, .inl (cI, 6, .inl o_1_2)), (a_grants, .inr (4, [.ref n_grants])), (n_grants, .inl (cI, 6, .inl o_1_3)), (a_bests, .inr (4, [.ref n_bests])), (n_bests, .inl (cI, 6, .inl o_1_4)), (a_mosts, .inr (4, [.ref n_mosts])), (n_mosts, .inl (cI, 6, .inl o_1_5)), (a_lease, .inr (1, [.ref a_lease_places, .ref a_lease_firstHours, .ref a_lease_spans, .ref a_lease_values, .ref a_lease_cells, .ref a_lease_needs, .ref a_lease_owed, .ref a_lease_room, .int i_lease_squares, .int i_lease_wishCount, .int i_lease_owedPlaces])), (a_lease_room, .inr (4, [.ref n_lease_room])), (n_lease_room, .inl (cI, 2, .inl f_lease_room)), (a_lease_cells, .inr (4, [.ref n_lease_cells])), (n_lease_cells, .inl (cI, 5, .inl f_lease_cells)), (a_lease_needs, .inr (4, [.ref n_lease_needs])), (n_lease_needs, .inl (cI, 5, .inl f_lease_needs)), (a_lease_values, .inr (4, [.ref n_lease_values])), (n_lease_values, .inl (cI, 5, .inl f_lease_values))] H → va_S A s.heap H locs → lv_has ls 4 [] → W p l e rm_X5_canGrant s m ar below meth c H locs 0 0 Q (F0 m 43 ls []) := by
    intro s6 hs6 H locs ls hP hS hl
    refine lv_iconst (v := 0) hx hb dX5_canGrant_43 rfl ?_
    have e9 : v_X5_canGrant x1 x2 i_isMade f_lawful f_grants f_bests f_mosts i_lease_wishCount f_lease_room f_lease_cells f_lease_needs f_lease_values = (false, o_1_1, o_1_2, o_1_3, o_1_4, o_1_5) := by
      refine (bnd5_eq ho_1).trans ?_
      refine ((mch_eq ho_L6).trans (mch_l hs6)).trans ?_
      rfl
    rw [hQ]; exact retZ (v := fun o : Bool × Int32 × (Nat → Int32) × (Nat → Int32) × (Nat → Int32) × (Nat → Int32) => o.1) (false, o_1_1, o_1_2, o_1_3, o_1_4, o_1_5) hx hb hr hlk e9 hP rfl hS dX5_canGrant_44
  have loop6 : ∀ (k i6 : Nat) (z6 : Unit), 0 ≤ i6 → i6 + k = 0 + 32 → itx (v_X5_canGrant_L6 x1 x2 o_1_1 o_1_2 o_1_3 o_1_4 o_1_5) k i6 z6 = o_L6 → ∀ (H : Heap) (locs : List Loc) (ls : Array Slot), va_P D vwCl [(a, .inr (5, [.ref a_lease, .ref a_lawful, .ref a_grants, .ref a_bests, .ref a_mosts, .int o_1_1])), (a_lawful, .inr (4, [.ref n_lawful])), (n_lawful, .inl (cI, 6, .inl o_1_2)), (a_grants, .inr (4, [.ref n_grants])), (n_grants, .inl (cI, 6, .inl o_1_3)), (a_bests, .inr (4, [.ref n_bests])), (n_bests, .inl (cI, 6, .inl o_1_4)), (a_mosts, .inr (4, [.ref n_mosts])), (n_mosts, .inl (cI, 6, .inl o_1_5)), (a_lease, .inr (1, [.ref a_lease_places, .ref a_lease_firstHours, .ref a_lease_spans, .ref a_lease_values, .ref a_lease_cells, .ref a_lease_needs, .ref a_lease_owed, .ref a_lease_room, .int i_lease_squares, .int i_lease_wishCount, .int i_lease_owedPlaces])), (a_lease_room, .inr (4, [.ref n_lease_room])), (n_lease_room, .inl (cI, 2, .inl f_lease_room)), (a_lease_cells, .inr (4, [.ref n_lease_cells])), (n_lease_cells, .inl (cI, 5, .inl f_lease_cells)), (a_lease_needs, .inr (4, [.ref n_lease_needs])), (n_lease_needs, .inl (cI, 5, .inl f_lease_needs)), (a_lease_values, .inr (4, [.ref n_lease_values])), (n_lease_values, .inl (cI, 5, .inl f_lease_values))] H → va_S A s.heap H locs → lv_has ls 4 [(3, .int (nI i6)), (0, .ref a), (1, .int x1), (2, .int x2)] → W p l e rm_X5_canGrant s m ar below meth c H locs 0 0 Q (F0 m 6 ls []) := by
    intro k
    induction k with
    | zero =>
      intro i6 z6 hi0 hik hz H locs ls hP hS hl
      have hz : .inl z6 = o_L6 := itx_0 hz
      refine lv_iload_n hx hb dX5_canGrant_6 rfl (lv_at hl 0 rfl) ?_
      refine lv_bipush (v := 32) hx hb dX5_canGrant_7 rfl ?_
      refine lv_icmp_ge (tgt := 43) hx hb dX5_canGrant_9 (by decide) (fun _ => ?_) (fun c => absurd (nI_le (a := 32) (by omega) (by omega)) c)
      exact kE6 z6 hz.symm _ _ _ hP hS (lv_sub hl [] rfl)
    | succ k ih =>
      intro i6 z6 hi0 hik hz H locs ls hP hS hl
      refine lv_iload_n hx hb dX5_canGrant_6 rfl (lv_at hl 0 rfl) ?_
      refine lv_bipush (v := 32) hx hb dX5_canGrant_7 rfl ?_
      refine lv_icmp_ge (tgt := 43) hx hb dX5_canGrant_9 (by decide) (fun c => absurd c (nI_ge (b := 32) (by omega) (by decide))) (fun _ => ?_)
      refine lv_aload_n hx hb dX5_canGrant_12 rfl (lv_at hl 1 rfl) ?_
      refine va_get (D := D) (ci := 5) (v := .ref a_grants) (C := RX5) (T := TX5) (N := 6) hx hb hts (fun _ h => List.mem_cons_of_mem _ (List.mem_append_left _ (List.mem_append_left _ (List.mem_append_right _ (h))))) hown hK hP 0 rfl rfl 2 (by decide) (hts _ (List.mem_of_getElem? (i := 1) rfl)) (fun _ h9 => h9) rfl dX5_canGrant_13 ?_
      refine lv_iload_n hx hb dX5_canGrant_16 rfl (lv_at hl 2 rfl) ?_
      obtain ⟨o_17, ho_17⟩ : ∃ z : Int32, z = v_X4_at x1 o_1_3 6 := ⟨_, rfl⟩
      refine callVIs (As := [.int x1]) (rest := []) o_17 ho_17 hF (k_X4_at l D cI cZ a_grants n_grants x1 o_1_3 6 (by decide)) (cwV 1 hts gX5_canGrant_X4_at rfl rfl rfl (by decide +kernel) ⟨Nat.le_of_ble_eq_true rfl, Nat.le_of_ble_eq_true rfl⟩) hK hN hP (va_Dsame hD rfl) hS hA [3, 4] rfl rfl 3 4 (T := TX4) (N := 1) rfl rfl rfl hl.1 rfl (Nat.le_of_ble_eq_true rfl) dX5_canGrant_17 ⟨Nat.zero_le _, Nat.zero_le _⟩ o_17 rfl rfl (fun H locs hP hS => ?_)
      refine lv_iload_n hx hb dX5_canGrant_20 rfl (lv_at hl 0 rfl) ?_
      obtain ⟨o_21, ho_21⟩ : ∃ z : Bool, z = v_X7_has o_17 (nI i6) := ⟨_, rfl⟩
      refine callNIs (As := [.int o_17, .int (nI i6)]) (rest := []) o_21 ho_21 hF (k_X7_has l D cI cZ o_17 (nI i6)) ⟨va_cnB 2 hts gX5_canGrant_X7_has_n44 rfl rfl rfl hN.2.2.2.2.2.2.2.1 (hts _ (List.mem_of_getElem? (i := 19) rfl)) (by decide +kernel) ⟨Nat.le_of_ble_eq_true rfl, Nat.le_of_ble_eq_true rfl⟩, (hts _ (List.mem_of_getElem? (i := 56) rfl)), trivial⟩ hK hN hP (va_Dsame hD rfl) hS hA [] rfl rfl rfl hl.1 rfl (Nat.le_of_ble_eq_true rfl) dX5_canGrant_21 ⟨Nat.zero_le _, Nat.zero_le _⟩ (bI o_21) rfl rfl (fun H locs hP hS => ?_)
      refine lv_if_eq (tgt := 37) hx hb dX5_canGrant_24 (by decide) (fun c_24 => ?_) (fun c_24 => ?_)
      · refine lv_iinc (v := (nI (i6 + 1))) (lv' := [(3, .int (nI (i6 + 1))), (0, .ref a), (1, .int x1), (2, .int x2)]) hx hb dX5_canGrant_37 hl (k := 0) rfl (nI_1 _) (by decide) rfl (fun ls hl => ?_)
        refine lv_goto (tgt := 6) hx hb dX5_canGrant_40 (by decide) ?_
        have e8 : v_X5_canGrant_L6 x1 x2 o_1_1 o_1_2 o_1_3 o_1_4 o_1_5 i6 z6 = .inl () := by
          refine (bnd_eq ho_17).trans ?_
          refine (bnd_eq ho_21).trans ?_
          refine (if_pos c_24).trans ?_
          rfl
        exact ih (i6 + 1) () (by omega) (by omega) ((itx_go e8).symm.trans hz) _ _ _ hP hS (lv_sub hl [0, 1, 2, 3] rfl)
      · refine lv_iload_n hx hb dX5_canGrant_27 rfl (lv_at hl 3 rfl) ?_
        refine lv_iload_n hx hb dX5_canGrant_28 rfl (lv_at hl 0 rfl) ?_
        refine lv_iconst (v := (-1)) hx hb dX5_canGrant_29 rfl ?_
        refine lv_ixor hx hb dX5_canGrant_30 ?_
        refine lv_iand hx hb dX5_canGrant_31 ?_
        refine lv_if_ne (tgt := 37) hx hb dX5_canGrant_32 (by decide) (fun c_32 => ?_) (fun c_32 => ?_)
        · refine lv_iinc (v := (nI (i6 + 1))) (lv' := [(3, .int (nI (i6 + 1))), (0, .ref a), (1, .int x1), (2, .int x2)]) hx hb dX5_canGrant_37 hl (k := 0) rfl (nI_1 _) (by decide) rfl (fun ls hl => ?_)
          refine lv_goto (tgt := 6) hx hb dX5_canGrant_40 (by decide) ?_
          have e8 : v_X5_canGrant_L6 x1 x2 o_1_1 o_1_2 o_1_3 o_1_4 o_1_5 i6 z6 = .inl () := by
            refine (bnd_eq ho_17).trans ?_
            refine (bnd_eq ho_21).trans ?_
            refine (if_neg c_24).trans ?_
            refine (if_neg c_32).trans ?_
            rfl
          exact ih (i6 + 1) () (by omega) (by omega) ((itx_go e8).symm.trans hz) _ _ _ hP hS (lv_sub hl [0, 1, 2, 3] rfl)
        · refine lv_iconst (v := 1) hx hb dX5_canGrant_35 rfl ?_
          have e8 : v_X5_canGrant_L6 x1 x2 o_1_1 o_1_2 o_1_3 o_1_4 o_1_5 i6 z6 = .inr (true, o_1_1, o_1_2, o_1_3, o_1_4, o_1_5) := by
            refine (bnd_eq ho_17).trans ?_
            refine (bnd_eq ho_21).trans ?_
            refine (if_neg c_24).trans ?_
            refine (if_pos c_32).trans ?_
            rfl
          have e7 : .inr (true, o_1_1, o_1_2, o_1_3, o_1_4, o_1_5) = o_L6 := (itx_out e8).symm.trans hz
          have e9 : v_X5_canGrant x1 x2 i_isMade f_lawful f_grants f_bests f_mosts i_lease_wishCount f_lease_room f_lease_cells f_lease_needs f_lease_values = (true, o_1_1, o_1_2, o_1_3, o_1_4, o_1_5) := by
            refine (bnd5_eq ho_1).trans ?_
            refine (mch_eq ho_L6).trans ?_
            rw [← e7]; rfl
          rw [hQ]; exact retZ (v := fun o : Bool × Int32 × (Nat → Int32) × (Nat → Int32) × (Nat → Int32) × (Nat → Int32) => o.1) (true, o_1_1, o_1_2, o_1_3, o_1_4, o_1_5) hx hb hr hlk e9 hP rfl hS dX5_canGrant_36
  exact loop6 32 0 () (Nat.le_refl _) rfl ho_L6.symm _ _ _ hP hS (lv_sub hl [0, 1, 2, 3] rfl)
def v_X5_mostWorth_L9 (x1 : Int32) (x2 : Int32) (i_lease_wishCount : Int32) (f_lease_values : Nat → Int32) (o_1_3 : Nat → Int32) (i9 : Nat) (z9 : Int32) : Int32 :=
  bnd (v_X4_at x1 o_1_3 6) fun o_21 =>
  (bnd (v_X7_has o_21 (nI i9)) fun o_26 =>
  (if bI o_26 = 0 then z9
  else (bnd (v_X1_sumOf (nI i9 &&& x2) i_lease_wishCount f_lease_values) fun o_41 =>
  (if z9 < o_41 then o_41 else z9))))
def v_X5_mostWorth (x1 : Int32) (x2 : Int32) (i_isMade : Int32) (f_lawful : Nat → Int32) (f_grants : Nat → Int32) (f_bests : Nat → Int32) (f_mosts : Nat → Int32) (i_lease_wishCount : Int32) (f_lease_room : Nat → Int32) (f_lease_cells : Nat → Int32) (f_lease_needs : Nat → Int32) (f_lease_values : Nat → Int32) : Int32 × Int32 × (Nat → Int32) × (Nat → Int32) × (Nat → Int32) × (Nat → Int32) :=
  bnd5 (v_X5_make i_isMade f_lawful f_grants f_bests f_mosts i_lease_wishCount f_lease_room f_lease_cells f_lease_needs f_lease_values) fun o_1_1 o_1_2 o_1_3 o_1_4 o_1_5 =>
  (bnd (it (v_X5_mostWorth_L9 x1 x2 i_lease_wishCount f_lease_values o_1_3) 32 0 0) fun o_L9 =>
  (o_L9, o_1_1, o_1_2, o_1_3, o_1_4, o_1_5))
abbrev rm_X5_mostWorth : Room := { frames := 4, cells := 0, slots := 0, locals := 89 }
set_option maxHeartbeats 4000000 in
set_option maxRecDepth 100000 in
theorem k_X5_mostWorth (l : Launch) (D : va_G) (cI cZ : ClassId) (a a_lease a_lawful a_grants a_bests a_mosts n_lawful n_grants n_bests n_mosts a_lease_places a_lease_firstHours a_lease_spans a_lease_values a_lease_cells a_lease_needs a_lease_owed a_lease_room n_lease_room n_lease_cells n_lease_needs n_lease_values : Nat) (x1 : Int32) (x2 : Int32) (i_isMade : Int32) (f_lawful : Nat → Int32) (f_grants : Nat → Int32) (f_bests : Nat → Int32) (f_mosts : Nat → Int32) (i_lease_squares : Int32) (i_lease_wishCount : Int32) (i_lease_owedPlaces : Int32) (f_lease_room : Nat → Int32) (f_lease_cells : Nat → Int32) (f_lease_needs : Nat → Int32) (f_lease_values : Nat → Int32) : KI l D cI cZ yX5_mostWorth wsX5_mostWorth rm_X5_mostWorth [.ref a, .int x1, .int x2] [(a, .inr (5, [.ref a_lease, .ref a_lawful, .ref a_grants, .ref a_bests, .ref a_mosts, .int i_isMade])), (a_lawful, .inr (4, [.ref n_lawful])), (n_lawful, .inl (cI, 6, .inl f_lawful)), (a_grants, .inr (4, [.ref n_grants])), (n_grants, .inl (cI, 6, .inl f_grants)), (a_bests, .inr (4, [.ref n_bests])), (n_bests, .inl (cI, 6, .inl f_bests)), (a_mosts, .inr (4, [.ref n_mosts])), (n_mosts, .inl (cI, 6, .inl f_mosts)), (a_lease, .inr (1, [.ref a_lease_places, .ref a_lease_firstHours, .ref a_lease_spans, .ref a_lease_values, .ref a_lease_cells, .ref a_lease_needs, .ref a_lease_owed, .ref a_lease_room, .int i_lease_squares, .int i_lease_wishCount, .int i_lease_owedPlaces])), (a_lease_room, .inr (4, [.ref n_lease_room])), (n_lease_room, .inl (cI, 2, .inl f_lease_room)), (a_lease_cells, .inr (4, [.ref n_lease_cells])), (n_lease_cells, .inl (cI, 5, .inl f_lease_cells)), (a_lease_needs, .inr (4, [.ref n_lease_needs])), (n_lease_needs, .inl (cI, 5, .inl f_lease_needs)), (a_lease_values, .inr (4, [.ref n_lease_values])), (n_lease_values, .inl (cI, 5, .inl f_lease_values))] (v_X5_mostWorth x1 x2 i_isMade f_lawful f_grants f_bests f_mosts i_lease_wishCount f_lease_room f_lease_cells f_lease_needs f_lease_values) (fun o : Int32 × Int32 × (Nat → Int32) × (Nat → Int32) × (Nat → Int32) × (Nat → Int32) => o.1) (fun o : Int32 × Int32 × (Nat → Int32) × (Nat → Int32) × (Nat → Int32) × (Nat → Int32) => [(a, .inr (5, [.ref a_lease, .ref a_lawful, .ref a_grants, .ref a_bests, .ref a_mosts, .int o.2.1])), (a_lawful, .inr (4, [.ref n_lawful])), (n_lawful, .inl (cI, 6, .inl o.2.2.1)), (a_grants, .inr (4, [.ref n_grants])), (n_grants, .inl (cI, 6, .inl o.2.2.2.1)), (a_bests, .inr (4, [.ref n_bests])), (n_bests, .inl (cI, 6, .inl o.2.2.2.2.1)), (a_mosts, .inr (4, [.ref n_mosts])), (n_mosts, .inl (cI, 6, .inl o.2.2.2.2.2)), (a_lease, .inr (1, [.ref a_lease_places, .ref a_lease_firstHours, .ref a_lease_spans, .ref a_lease_values, .ref a_lease_cells, .ref a_lease_needs, .ref a_lease_owed, .ref a_lease_room, .int i_lease_squares, .int i_lease_wishCount, .int i_lease_owedPlaces])), (a_lease_room, .inr (4, [.ref n_lease_room])), (n_lease_room, .inl (cI, 2, .inl f_lease_room)), (a_lease_cells, .inr (4, [.ref n_lease_cells])), (n_lease_cells, .inl (cI, 5, .inl f_lease_cells)), (a_lease_needs, .inr (4, [.ref n_lease_needs])), (n_lease_needs, .inl (cI, 5, .inl f_lease_needs)), (a_lease_values, .inr (4, [.ref n_lease_values])), (n_lease_values, .inl (cI, 5, .inl f_lease_values))]) := by
  refine KI.of cX5_mostWorth 5 (some .int) (by decide) rfl (Nat.le_of_ble_eq_true rfl) ?_
  intro p e s m below meth c A ls ar Q hQ B
  obtain ⟨hx, hb, hr, hml, hts, hown, hlk, hK, hN, hP, hD, hA, hS, hl⟩ := B
  have hown : s.vm.findClass RX5 = some m.cls := hown
  have hF : CallFix p m c cX5_mostWorth 5 s ar wsX5_mostWorth RX5 := ⟨hx, hb, hml, hown, hts⟩
  have hl : lv_has ls 5 [(0, .ref a), (1, .int x1), (2, .int x2)] := hl
  refine lv_aload_n hx hb dX5_mostWorth_0 rfl (lv_at hl 0 rfl) ?_
  obtain ⟨o_1_1, o_1_2, o_1_3, o_1_4, o_1_5, ho_1⟩ := ex5 (v_X5_make i_isMade f_lawful f_grants f_bests f_mosts i_lease_wishCount f_lease_room f_lease_cells f_lease_needs f_lease_values)
  refine callVV (As := []) (rest := []) (o_1_1, o_1_2, o_1_3, o_1_4, o_1_5) ho_1 hF (k_X5_make l D cI cZ a a_lease a_lawful a_grants a_bests a_mosts n_lawful n_grants n_bests n_mosts a_lease_places a_lease_firstHours a_lease_spans a_lease_values a_lease_cells a_lease_needs a_lease_owed a_lease_room n_lease_room n_lease_cells n_lease_needs n_lease_values i_isMade f_lawful f_grants f_bests f_mosts i_lease_squares i_lease_wishCount i_lease_owedPlaces f_lease_room f_lease_cells f_lease_needs f_lease_values) (cwV 0 hts gX5_mostWorth_X5_make rfl rfl rfl (by decide +kernel) ⟨Nat.le_of_ble_eq_true rfl, Nat.le_of_ble_eq_true rfl⟩) hK hN hP (va_Dsame hD rfl) hS hA [0, 1, 2, 3, 4, 5, 6, 7, 8, 9, 10, 11, 12, 13, 14, 15, 16, 17] rfl rfl 0 5 (T := TX5) (N := 6) rfl rfl rfl hl.1 rfl (Nat.le_of_ble_eq_true rfl) dX5_mostWorth_1 ⟨Nat.zero_le _, Nat.zero_le _⟩ [some 0, some 1, some 2, some 3, some 4, some 5, some 6, some 7, some 8, some 9, some 10, some 11, some 12, some 13, some 14, some 15, some 16, some 17] 18 [(a, .inr (5, [.ref a_lease, .ref a_lawful, .ref a_grants, .ref a_bests, .ref a_mosts, .int o_1_1])), (a_lawful, .inr (4, [.ref n_lawful])), (n_lawful, .inl (cI, 6, .inl o_1_2)), (a_grants, .inr (4, [.ref n_grants])), (n_grants, .inl (cI, 6, .inl o_1_3)), (a_bests, .inr (4, [.ref n_bests])), (n_bests, .inl (cI, 6, .inl o_1_4)), (a_mosts, .inr (4, [.ref n_mosts])), (n_mosts, .inl (cI, 6, .inl o_1_5)), (a_lease, .inr (1, [.ref a_lease_places, .ref a_lease_firstHours, .ref a_lease_spans, .ref a_lease_values, .ref a_lease_cells, .ref a_lease_needs, .ref a_lease_owed, .ref a_lease_room, .int i_lease_squares, .int i_lease_wishCount, .int i_lease_owedPlaces])), (a_lease_room, .inr (4, [.ref n_lease_room])), (n_lease_room, .inl (cI, 2, .inl f_lease_room)), (a_lease_cells, .inr (4, [.ref n_lease_cells])), (n_lease_cells, .inl (cI, 5, .inl f_lease_cells)), (a_lease_needs, .inr (4, [.ref n_lease_needs])), (n_lease_needs, .inl (cI, 5, .inl f_lease_needs)), (a_lease_values, .inr (4, [.ref n_lease_values])), (n_lease_values, .inl (cI, 5, .inl f_lease_values))] rfl rfl (by decide) (fun H locs hP hS => ?_)
  refine lv_iconst (v := 0) hx hb dX5_mostWorth_4 rfl ?_
  refine lv_istore_n (lv' := [(3, .int 0), (0, .ref a), (1, .int x1), (2, .int x2)]) hx hb dX5_mostWorth_5 rfl hl (by decide) rfl (fun ls hl => ?_)
  refine lv_iconst (v := 0) hx hb dX5_mostWorth_6 rfl ?_
  refine lv_istore (lv' := [(4, .int 0), (3, .int 0), (0, .ref a), (1, .int x1), (2, .int x2)]) hx hb dX5_mostWorth_7 hl (by decide) rfl (fun ls hl => ?_)
  obtain ⟨o_L9, ho_L9⟩ : ∃ z : Int32, z = it (v_X5_mostWorth_L9 x1 x2 i_lease_wishCount f_lease_values o_1_3) 32 0 0 := ⟨_, rfl⟩
  have kE9 : ∀ (H : Heap) (locs : List Loc) (ls : Array Slot), va_P D vwCl [(a, .inr (5, [.ref a_lease, .ref a_lawful, .ref a_grants, .ref a_bests, .ref a_mosts, .int o_1_1])), (a_lawful, .inr (4, [.ref n_lawful])), (n_lawful, .inl (cI, 6, .inl o_1_2)), (a_grants, .inr (4, [.ref n_grants])), (n_grants, .inl (cI, 6, .inl o_1_3)), (a_bests, .inr (4, [.ref n_bests])), (n_bests, .inl (cI, 6, .inl o_1_4)), (a_mosts, .inr (4, [.ref n_mosts])), (n_mosts, .inl (cI, 6, .inl o_1_5)), (a_lease, .inr (1, [.ref a_lease_places, .ref a_lease_firstHours, .ref a_lease_spans, .ref a_lease_values, .ref a_lease_cells, .ref a_lease_needs, .ref a_lease_owed, .ref a_lease_room, .int i_lease_squares, .int i_lease_wishCount, .int i_lease_owedPlaces])), (a_lease_room, .inr (4, [.ref n_lease_room])), (n_lease_room, .inl (cI, 2, .inl f_lease_room)), (a_lease_cells, .inr (4, [.ref n_lease_cells])), (n_lease_cells, .inl (cI, 5, .inl f_lease_cells)), (a_lease_needs, .inr (4, [.ref n_lease_needs])), (n_lease_needs, .inl (cI, 5, .inl f_lease_needs)), (a_lease_values, .inr (4, [.ref n_lease_values])), (n_lease_values, .inl (cI, 5, .inl f_lease_values))] H → va_S A s.heap H locs → lv_has ls 5 [(3, .int o_L9)] → W p l e rm_X5_mostWorth s m ar below meth c H locs 0 0 Q (F0 m 54 ls []) := by
    intro H locs ls hP hS hl
    refine lv_iload_n hx hb dX5_mostWorth_54 rfl (lv_at hl 0 rfl) ?_
    have e9 : v_X5_mostWorth x1 x2 i_isMade f_lawful f_grants f_bests f_mosts i_lease_wishCount f_lease_room f_lease_cells f_lease_needs f_lease_values = (o_L9, o_1_1, o_1_2, o_1_3, o_1_4, o_1_5) := by
      refine (bnd5_eq ho_1).trans ?_
      refine (bnd_eq ho_L9).trans ?_
      rfl
    rw [hQ]; exact retI (o_L9, o_1_1, o_1_2, o_1_3, o_1_4, o_1_5) hx hb hr hlk e9 hP rfl hS dX5_mostWorth_55
  have loop9 : ∀ (k i9 : Nat) (z9 : Int32), 0 ≤ i9 → i9 + k = 0 + 32 → it (v_X5_mostWorth_L9 x1 x2 i_lease_wishCount f_lease_values o_1_3) k i9 z9 = o_L9 → ∀ (H : Heap) (locs : List Loc) (ls : Array Slot), va_P D vwCl [(a, .inr (5, [.ref a_lease, .ref a_lawful, .ref a_grants, .ref a_bests, .ref a_mosts, .int o_1_1])), (a_lawful, .inr (4, [.ref n_lawful])), (n_lawful, .inl (cI, 6, .inl o_1_2)), (a_grants, .inr (4, [.ref n_grants])), (n_grants, .inl (cI, 6, .inl o_1_3)), (a_bests, .inr (4, [.ref n_bests])), (n_bests, .inl (cI, 6, .inl o_1_4)), (a_mosts, .inr (4, [.ref n_mosts])), (n_mosts, .inl (cI, 6, .inl o_1_5)), (a_lease, .inr (1, [.ref a_lease_places, .ref a_lease_firstHours, .ref a_lease_spans, .ref a_lease_values, .ref a_lease_cells, .ref a_lease_needs, .ref a_lease_owed, .ref a_lease_room, .int i_lease_squares, .int i_lease_wishCount, .int i_lease_owedPlaces])), (a_lease_room, .inr (4, [.ref n_lease_room])), (n_lease_room, .inl (cI, 2, .inl f_lease_room)), (a_lease_cells, .inr (4, [.ref n_lease_cells])), (n_lease_cells, .inl (cI, 5, .inl f_lease_cells)), (a_lease_needs, .inr (4, [.ref n_lease_needs])), (n_lease_needs, .inl (cI, 5, .inl f_lease_needs)), (a_lease_values, .inr (4, [.ref n_lease_values])), (n_lease_values, .inl (cI, 5, .inl f_lease_values))] H → va_S A s.heap H locs → lv_has ls 5 [(4, .int (nI i9)), (3, .int z9), (0, .ref a), (1, .int x1), (2, .int x2)] → W p l e rm_X5_mostWorth s m ar below meth c H locs 0 0 Q (F0 m 9 ls []) := by
    intro k
    induction k with
    | zero =>
      intro i9 z9 hi0 hik hz H locs ls hP hS hl
      have hz : z9 = o_L9 := it_0 hz
      subst z9
      refine lv_iload hx hb dX5_mostWorth_9 (lv_at hl 0 rfl) ?_
      refine lv_bipush (v := 32) hx hb dX5_mostWorth_11 rfl ?_
      refine lv_icmp_ge (tgt := 54) hx hb dX5_mostWorth_13 (by decide) (fun _ => ?_) (fun c => absurd (nI_le (a := 32) (by omega) (by omega)) c)
      exact kE9 _ _ _ hP hS (lv_sub hl [1] rfl)
    | succ k ih =>
      intro i9 z9 hi0 hik hz H locs ls hP hS hl
      refine lv_iload hx hb dX5_mostWorth_9 (lv_at hl 0 rfl) ?_
      refine lv_bipush (v := 32) hx hb dX5_mostWorth_11 rfl ?_
      refine lv_icmp_ge (tgt := 54) hx hb dX5_mostWorth_13 (by decide) (fun c => absurd c (nI_ge (b := 32) (by omega) (by decide))) (fun _ => ?_)
      refine lv_aload_n hx hb dX5_mostWorth_16 rfl (lv_at hl 2 rfl) ?_
      refine va_get (D := D) (ci := 5) (v := .ref a_grants) (C := RX5) (T := TX5) (N := 6) hx hb hts (fun _ h => List.mem_cons_of_mem _ (List.mem_append_left _ (List.mem_append_left _ (List.mem_append_right _ (h))))) hown hK hP 0 rfl rfl 2 (by decide) (hts _ (List.mem_of_getElem? (i := 1) rfl)) (fun _ h9 => h9) rfl dX5_mostWorth_17 ?_
      refine lv_iload_n hx hb dX5_mostWorth_20 rfl (lv_at hl 3 rfl) ?_
      obtain ⟨o_21, ho_21⟩ : ∃ z : Int32, z = v_X4_at x1 o_1_3 6 := ⟨_, rfl⟩
      refine callVIs (As := [.int x1]) (rest := []) o_21 ho_21 hF (k_X4_at l D cI cZ a_grants n_grants x1 o_1_3 6 (by decide)) (cwV 1 hts gX5_mostWorth_X4_at rfl rfl rfl (by decide +kernel) ⟨Nat.le_of_ble_eq_true rfl, Nat.le_of_ble_eq_true rfl⟩) hK hN hP (va_Dsame hD rfl) hS hA [3, 4] rfl rfl 3 4 (T := TX4) (N := 1) rfl rfl rfl hl.1 rfl (Nat.le_of_ble_eq_true rfl) dX5_mostWorth_21 ⟨Nat.zero_le _, Nat.zero_le _⟩ o_21 rfl rfl (fun H locs hP hS => ?_)
      refine lv_iload hx hb dX5_mostWorth_24 (lv_at hl 0 rfl) ?_
      obtain ⟨o_26, ho_26⟩ : ∃ z : Bool, z = v_X7_has o_21 (nI i9) := ⟨_, rfl⟩
      refine callNIs (As := [.int o_21, .int (nI i9)]) (rest := []) o_26 ho_26 hF (k_X7_has l D cI cZ o_21 (nI i9)) ⟨va_cnB 2 hts gX5_mostWorth_X7_has_n44 rfl rfl rfl hN.2.2.2.2.2.2.2.1 (hts _ (List.mem_of_getElem? (i := 23) rfl)) (by decide +kernel) ⟨Nat.le_of_ble_eq_true rfl, Nat.le_of_ble_eq_true rfl⟩, (hts _ (List.mem_of_getElem? (i := 60) rfl)), trivial⟩ hK hN hP (va_Dsame hD rfl) hS hA [] rfl rfl rfl hl.1 rfl (Nat.le_of_ble_eq_true rfl) dX5_mostWorth_26 ⟨Nat.zero_le _, Nat.zero_le _⟩ (bI o_26) rfl rfl (fun H locs hP hS => ?_)
      refine lv_if_eq (tgt := 48) hx hb dX5_mostWorth_29 (by decide) (fun c_29 => ?_) (fun c_29 => ?_)
      · refine lv_iinc (v := (nI (i9 + 1))) (lv' := [(4, .int (nI (i9 + 1))), (3, .int z9), (0, .ref a), (1, .int x1), (2, .int x2)]) hx hb dX5_mostWorth_48 hl (k := 0) rfl (nI_1 _) (by decide) rfl (fun ls hl => ?_)
        refine lv_goto (tgt := 9) hx hb dX5_mostWorth_51 (by decide) ?_
        have e8 : v_X5_mostWorth_L9 x1 x2 i_lease_wishCount f_lease_values o_1_3 i9 z9 = z9 := by
          refine (bnd_eq ho_21).trans ?_
          refine (bnd_eq ho_26).trans ?_
          refine (if_pos c_29).trans ?_
          rfl
        exact ih (i9 + 1) z9 (by omega) (by omega) (it_go e8 hz) _ _ _ hP hS (lv_sub hl [0, 1, 2, 3, 4] rfl)
      · refine lv_iload_n hx hb dX5_mostWorth_32 rfl (lv_at hl 1 rfl) ?_
        refine lv_aload_n hx hb dX5_mostWorth_33 rfl (lv_at hl 2 rfl) ?_
        refine va_get (D := D) (ci := 5) (v := .ref a_lease) (C := RX5) (T := TX5) (N := 6) hx hb hts (fun _ h => List.mem_cons_of_mem _ (List.mem_append_left _ (List.mem_append_left _ (List.mem_append_right _ (h))))) hown hK hP 0 rfl rfl 0 (by decide) (hts _ (List.mem_of_getElem? (i := 2) rfl)) (fun _ h9 => h9) rfl dX5_mostWorth_34 ?_
        refine lv_iload hx hb dX5_mostWorth_37 (lv_at hl 0 rfl) ?_
        refine lv_iload_n hx hb dX5_mostWorth_39 rfl (lv_at hl 4 rfl) ?_
        refine lv_iand hx hb dX5_mostWorth_40 ?_
        obtain ⟨o_41, ho_41⟩ : ∃ z : Int32, z = v_X1_sumOf (nI i9 &&& x2) i_lease_wishCount f_lease_values := ⟨_, rfl⟩
        refine callVIs (As := [.int (nI i9 &&& x2)]) (rest := [.int z9]) o_41 ho_41 hF (k_X1_sumOf l D cI cZ a_lease a_lease_places a_lease_firstHours a_lease_spans a_lease_values a_lease_cells a_lease_needs a_lease_owed a_lease_room n_lease_values (nI i9 &&& x2) i_lease_squares i_lease_wishCount i_lease_owedPlaces f_lease_values) (cwV 1 hts gX5_mostWorth_X1_sumOf rfl rfl rfl (by decide +kernel) ⟨Nat.le_of_ble_eq_true rfl, Nat.le_of_ble_eq_true rfl⟩) hK hN hP (va_Dsame hD rfl) hS hA [9, 16, 17] rfl rfl 9 1 (T := TX1) (N := 11) rfl rfl rfl hl.1 rfl (Nat.le_of_ble_eq_true rfl) dX5_mostWorth_41 ⟨Nat.zero_le _, Nat.zero_le _⟩ o_41 rfl rfl (fun H locs hP hS => ?_)
        refine va_mmax hx hb (by rw [hml]; exact hl.1.symm) hown (hts _ (List.mem_of_getElem? (i := 3) rfl)) (hts _ (List.mem_of_getElem? (i := 4) rfl)) (hts _ (List.mem_of_getElem? (i := 5) rfl)) (hts _ (List.mem_of_getElem? (i := 6) rfl)) (Nat.le_of_ble_eq_true rfl) (Nat.le_of_ble_eq_true rfl) (Nat.zero_le _) (Nat.zero_le _) dX5_mostWorth_44 ?_
        refine lv_istore_n (lv' := [(3, .int (if z9 < o_41 then o_41 else z9)), (4, .int (nI i9)), (0, .ref a), (1, .int x1), (2, .int x2)]) hx hb dX5_mostWorth_47 rfl hl (by decide) rfl (fun ls hl => ?_)
        refine lv_iinc (v := (nI (i9 + 1))) (lv' := [(4, .int (nI (i9 + 1))), (3, .int (if z9 < o_41 then o_41 else z9)), (0, .ref a), (1, .int x1), (2, .int x2)]) hx hb dX5_mostWorth_48 hl (k := 1) rfl (nI_1 _) (by decide) rfl (fun ls hl => ?_)
        refine lv_goto (tgt := 9) hx hb dX5_mostWorth_51 (by decide) ?_
        have e8 : v_X5_mostWorth_L9 x1 x2 i_lease_wishCount f_lease_values o_1_3 i9 z9 = (if z9 < o_41 then o_41 else z9) := by
          refine (bnd_eq ho_21).trans ?_
          refine (bnd_eq ho_26).trans ?_
          refine (if_neg c_29).trans ?_
          refine (bnd_eq ho_41).trans ?_
          rfl
        exact ih (i9 + 1) (if z9 < o_41 then o_41 else z9) (by omega) (by omega) (it_go e8 hz) _ _ _ hP hS (lv_sub hl [0, 1, 2, 3, 4] rfl)
  exact loop9 32 0 0 (Nat.le_refl _) rfl ho_L9.symm _ _ _ hP hS (lv_sub hl [0, 1, 2, 3, 4] rfl)
def v_X6_add (x1 : Int32) (i_length : Int32) (f_letters : Nat → Int32) : Int32 × (Nat → Int32) :=
  bnd (v_X4_put i_length x1 f_letters 72) fun o_9 =>
  ((i_length + 1), o_9)
abbrev rm_X6_add : Room := { frames := 1, cells := 0, slots := 0, locals := 22 }
set_option maxHeartbeats 4000000 in
set_option maxRecDepth 100000 in
theorem k_X6_add (l : Launch) (D : va_G) (cI cZ : ClassId) (a a_letters n_letters : Nat) (x1 : Int32) (i_length : Int32) (f_letters : Nat → Int32) : KV l D cI cZ yX6_add wsX6_add rm_X6_add [.ref a, .int x1] [(a, .inr (6, [.ref a_letters, .int i_length])), (a_letters, .inr (4, [.ref n_letters])), (n_letters, .inl (cI, 72, .inl f_letters))] (v_X6_add x1 i_length f_letters) (fun o : Int32 × (Nat → Int32) => [(a, .inr (6, [.ref a_letters, .int o.1])), (a_letters, .inr (4, [.ref n_letters])), (n_letters, .inl (cI, 72, .inl o.2))]) := by
  refine KV.of cX6_add 2 none (by decide) rfl (Nat.le_of_ble_eq_true rfl) ?_
  intro p e s m below meth c A ls ar Q hQ B
  obtain ⟨hx, hb, hr, hml, hts, hown, hlk, hK, hN, hP, hD, hA, hS, hl⟩ := B
  have hown : s.vm.findClass RX6 = some m.cls := hown
  have hF : CallFix p m c cX6_add 2 s ar wsX6_add RX6 := ⟨hx, hb, hml, hown, hts⟩
  have hl : lv_has ls 2 [(0, .ref a), (1, .int x1)] := hl
  refine lv_aload_n hx hb dX6_add_0 rfl (lv_at hl 0 rfl) ?_
  refine va_get (D := D) (ci := 6) (v := .ref a_letters) (C := RX6) (T := TX6) (N := 2) hx hb hts (fun _ h => List.mem_cons_of_mem _ (List.mem_append_left _ (List.mem_append_right _ (h)))) hown hK hP 0 rfl rfl 0 (by decide) (hts _ (List.mem_of_getElem? (i := 1) rfl)) (fun _ h9 => h9) rfl dX6_add_1 ?_
  refine lv_aload_n hx hb dX6_add_4 rfl (lv_at hl 0 rfl) ?_
  refine va_get (D := D) (ci := 6) (v := .int i_length) (C := RX6) (T := TX6) (N := 2) hx hb hts (fun _ h => List.mem_cons_of_mem _ (List.mem_append_left _ (List.mem_append_right _ (h)))) hown hK hP 0 rfl rfl 1 (by decide) (hts _ (List.mem_of_getElem? (i := 2) rfl)) (fun _ h9 => h9) rfl dX6_add_5 ?_
  refine lv_iload_n hx hb dX6_add_8 rfl (lv_at hl 1 rfl) ?_
  obtain ⟨o_9, ho_9⟩ : ∃ z : Nat → Int32, z = v_X4_put i_length x1 f_letters 72 := ⟨_, rfl⟩
  refine callVV (As := [.int i_length, .int x1]) (rest := []) o_9 ho_9 hF (k_X4_put l D cI cZ a_letters n_letters i_length x1 f_letters 72 (by decide)) (cwV 2 hts gX6_add_X4_put rfl rfl rfl (by decide +kernel) ⟨Nat.le_of_ble_eq_true rfl, Nat.le_of_ble_eq_true rfl⟩) hK hN hP (va_Dsame hD rfl) hS hA [1, 2] rfl rfl 1 4 (T := TX4) (N := 1) rfl rfl rfl hl.1 rfl (Nat.le_of_ble_eq_true rfl) dX6_add_9 ⟨Nat.zero_le _, Nat.zero_le _⟩ [none, some 0, some 1] 2 [(a, .inr (6, [.ref a_letters, .int i_length])), (a_letters, .inr (4, [.ref n_letters])), (n_letters, .inl (cI, 72, .inl o_9))] rfl rfl (by decide) (fun H locs hP hS => ?_)
  refine lv_aload_n hx hb dX6_add_12 rfl (lv_at hl 0 rfl) ?_
  refine lv_dup hx hb dX6_add_13 rfl ?_
  refine va_get (D := D) (ci := 6) (v := .int i_length) (C := RX6) (T := TX6) (N := 2) hx hb hts (fun _ h => List.mem_cons_of_mem _ (List.mem_append_left _ (List.mem_append_right _ (h)))) hown hK hP 0 rfl rfl 1 (by decide) (hts _ (List.mem_of_getElem? (i := 2) rfl)) (fun _ h9 => h9) rfl dX6_add_14 ?_
  refine lv_iconst (v := 1) hx hb dX6_add_17 rfl ?_
  refine lv_iadd hx hb dX6_add_18 ?_
  refine va_put (D := D) (ci := 6) (v := .int (i_length + 1)) (ty := .int) (C := RX6) (T := TX6) (N := 2) hx hb hts (fun _ h => List.mem_cons_of_mem _ (List.mem_append_left _ (List.mem_append_right _ (h)))) tyX6 tyX6_ok nmX6 hown hK hP (va_Dsame hD rfl) hS 0 rfl rfl 1 (by decide) (hts _ (List.mem_of_getElem? (i := 2) rfl)) (fun _ h9 => h9) rfl (tyX6_ok 1 (by decide)) rfl rfl (Nat.le_of_ble_eq_true rfl) dX6_add_19 (fun H locs hP _ hS => ?_)
  have hP : va_P D vwCl [(a, .inr (6, [.ref a_letters, .int (i_length + 1)])), (a_letters, .inr (4, [.ref n_letters])), (n_letters, .inl (cI, 72, .inl o_9))] H := hP
  have e9 : v_X6_add x1 i_length f_letters = ((i_length + 1), o_9) := by
    refine (bnd_eq ho_9).trans ?_
    rfl
  rw [hQ]; exact retV ((i_length + 1), o_9) hx hb hr hlk e9 hP hS dX6_add_22
def v_X6_clear : Int32 :=
  0
abbrev rm_X6_clear : Room := { frames := 0, cells := 0, slots := 0, locals := 0 }
set_option maxHeartbeats 4000000 in
set_option maxRecDepth 100000 in
theorem k_X6_clear (l : Launch) (D : va_G) (cI cZ : ClassId) (a a_letters : Nat) (i_length : Int32) : KV l D cI cZ yX6_clear wsX6_clear rm_X6_clear [.ref a] [(a, .inr (6, [.ref a_letters, .int i_length]))] v_X6_clear (fun o : Int32 => [(a, .inr (6, [.ref a_letters, .int o]))]) := by
  refine KV.of cX6_clear 1 none (by decide) rfl (Nat.le_of_ble_eq_true rfl) ?_
  intro p e s m below meth c A ls ar Q hQ B
  obtain ⟨hx, hb, hr, hml, hts, hown, hlk, hK, hN, hP, hD, hA, hS, hl⟩ := B
  have hown : s.vm.findClass RX6 = some m.cls := hown
  have hF : CallFix p m c cX6_clear 1 s ar wsX6_clear RX6 := ⟨hx, hb, hml, hown, hts⟩
  have hl : lv_has ls 1 [(0, .ref a)] := hl
  refine lv_aload_n hx hb dX6_clear_0 rfl (lv_at hl 0 rfl) ?_
  refine lv_iconst (v := 0) hx hb dX6_clear_1 rfl ?_
  refine va_put (D := D) (ci := 6) (v := .int 0) (ty := .int) (C := RX6) (T := TX6) (N := 2) hx hb hts (fun _ h => List.mem_cons_of_mem _ (List.mem_append_right _ (h))) tyX6 tyX6_ok nmX6 hown hK hP (va_Dsame hD rfl) hS 0 rfl rfl 1 (by decide) (hts _ (List.mem_of_getElem? (i := 1) rfl)) (fun _ h9 => h9) rfl (tyX6_ok 1 (by decide)) rfl rfl (Nat.le_of_ble_eq_true rfl) dX6_clear_2 (fun H locs hP _ hS => ?_)
  have hP : va_P D vwCl [(a, .inr (6, [.ref a_letters, .int 0]))] H := hP
  have e9 : v_X6_clear = 0 := by
    rfl
  rw [hQ]; exact retV 0 hx hb hr hlk e9 hP hS dX6_clear_5
def v_X7_emptySlots_L2 (i2 : Nat) (z2 : Nat → Int32) : Nat → Int32 :=
  bnd (v_X4_put (nI i2) (-9) z2 2) fun o_14 =>
  o_14
def v_X7_emptySlots (f_slots : Nat → Int32) : Nat → Int32 :=
  bnd (it (v_X7_emptySlots_L2) 2 0 f_slots) fun o_L2 =>
  o_L2
abbrev rm_X7_emptySlots : Room := { frames := 1, cells := 0, slots := 0, locals := 22 }
set_option maxHeartbeats 4000000 in
set_option maxRecDepth 100000 in
theorem k_X7_emptySlots (l : Launch) (D : va_G) (cI cZ : ClassId) (a a_text a_lease a_reader a_prover a_survey a_paths a_acts a_slots n_slots : Nat) (i_hangingNow : Int32) (i_hourNow : Int32) (i_toldDark : Int32) (i_toldLight : Int32) (i_toldCount : Int32) (j_seedNow : Int64) (f_slots : Nat → Int32) : KV l D cI cZ yX7_emptySlots wsX7_emptySlots rm_X7_emptySlots [.ref a] [(a, .inr (7, [.ref a_text, .ref a_lease, .ref a_reader, .ref a_prover, .ref a_survey, .ref a_paths, .ref a_acts, .ref a_slots, .int i_hangingNow, .int i_hourNow, .int i_toldDark, .int i_toldLight, .int i_toldCount, .long j_seedNow])), (a_slots, .inr (4, [.ref n_slots])), (n_slots, .inl (cI, 2, .inl f_slots))] (v_X7_emptySlots f_slots) (fun o : Nat → Int32 => [(a, .inr (7, [.ref a_text, .ref a_lease, .ref a_reader, .ref a_prover, .ref a_survey, .ref a_paths, .ref a_acts, .ref a_slots, .int i_hangingNow, .int i_hourNow, .int i_toldDark, .int i_toldLight, .int i_toldCount, .long j_seedNow])), (a_slots, .inr (4, [.ref n_slots])), (n_slots, .inl (cI, 2, .inl o))]) := by
  refine KV.of cX7_emptySlots 2 none (by decide) rfl (Nat.le_of_ble_eq_true rfl) ?_
  intro p e s m below meth c A ls ar Q hQ B
  obtain ⟨hx, hb, hr, hml, hts, hown, hlk, hK, hN, hP, hD, hA, hS, hl⟩ := B
  have hown : s.vm.findClass RX7 = some m.cls := hown
  have hF : CallFix p m c cX7_emptySlots 2 s ar wsX7_emptySlots RX7 := ⟨hx, hb, hml, hown, hts⟩
  have hl : lv_has ls 2 [(0, .ref a)] := hl
  refine lv_iconst (v := 0) hx hb dX7_emptySlots_0 rfl ?_
  refine lv_istore_n (lv' := [(1, .int 0), (0, .ref a)]) hx hb dX7_emptySlots_1 rfl hl (by decide) rfl (fun ls hl => ?_)
  obtain ⟨o_L2, ho_L2⟩ : ∃ z : Nat → Int32, z = it (v_X7_emptySlots_L2) 2 0 f_slots := ⟨_, rfl⟩
  have kE2 : ∀ (H : Heap) (locs : List Loc) (ls : Array Slot), va_P D vwCl [(a, .inr (7, [.ref a_text, .ref a_lease, .ref a_reader, .ref a_prover, .ref a_survey, .ref a_paths, .ref a_acts, .ref a_slots, .int i_hangingNow, .int i_hourNow, .int i_toldDark, .int i_toldLight, .int i_toldCount, .long j_seedNow])), (a_slots, .inr (4, [.ref n_slots])), (n_slots, .inl (cI, 2, .inl o_L2))] H → va_S A s.heap H locs → lv_has ls 2 [] → W p l e rm_X7_emptySlots s m ar below meth c H locs 0 0 Q (F0 m 23 ls []) := by
    intro H locs ls hP hS hl
    have e9 : v_X7_emptySlots f_slots = o_L2 := by
      refine (bnd_eq ho_L2).trans ?_
      rfl
    rw [hQ]; exact retV o_L2 hx hb hr hlk e9 hP hS dX7_emptySlots_23
  have loop2 : ∀ (k i2 : Nat) (z2 : Nat → Int32), 0 ≤ i2 → i2 + k = 0 + 2 → it (v_X7_emptySlots_L2) k i2 z2 = o_L2 → ∀ (H : Heap) (locs : List Loc) (ls : Array Slot), va_P D vwCl [(a, .inr (7, [.ref a_text, .ref a_lease, .ref a_reader, .ref a_prover, .ref a_survey, .ref a_paths, .ref a_acts, .ref a_slots, .int i_hangingNow, .int i_hourNow, .int i_toldDark, .int i_toldLight, .int i_toldCount, .long j_seedNow])), (a_slots, .inr (4, [.ref n_slots])), (n_slots, .inl (cI, 2, .inl z2))] H → va_S A s.heap H locs → lv_has ls 2 [(1, .int (nI i2)), (0, .ref a)] → W p l e rm_X7_emptySlots s m ar below meth c H locs 0 0 Q (F0 m 2 ls []) := by
    intro k
    induction k with
    | zero =>
      intro i2 z2 hi0 hik hz H locs ls hP hS hl
      have hz : z2 = o_L2 := it_0 hz
      subst z2
      refine lv_iload_n hx hb dX7_emptySlots_2 rfl (lv_at hl 0 rfl) ?_
      refine lv_iconst (v := 2) hx hb dX7_emptySlots_3 rfl ?_
      refine lv_icmp_ge (tgt := 23) hx hb dX7_emptySlots_4 (by decide) (fun _ => ?_) (fun c => absurd (nI_le (a := 2) (by omega) (by omega)) c)
      exact kE2 _ _ _ hP hS (lv_sub hl [] rfl)
    | succ k ih =>
      intro i2 z2 hi0 hik hz H locs ls hP hS hl
      refine lv_iload_n hx hb dX7_emptySlots_2 rfl (lv_at hl 0 rfl) ?_
      refine lv_iconst (v := 2) hx hb dX7_emptySlots_3 rfl ?_
      refine lv_icmp_ge (tgt := 23) hx hb dX7_emptySlots_4 (by decide) (fun c => absurd c (nI_ge (b := 2) (by omega) (by decide))) (fun _ => ?_)
      refine lv_aload_n hx hb dX7_emptySlots_7 rfl (lv_at hl 1 rfl) ?_
      refine va_get (D := D) (ci := 7) (v := .ref a_slots) (C := RX7) (T := TX7) (N := 14) hx hb hts (fun _ h => List.mem_cons_of_mem _ (List.mem_append_left _ (List.mem_append_right _ (h)))) hown hK hP 0 rfl rfl 7 (by decide) (hts _ (List.mem_of_getElem? (i := 1) rfl)) (fun _ h9 => h9) rfl dX7_emptySlots_8 ?_
      refine lv_iload_n hx hb dX7_emptySlots_11 rfl (lv_at hl 0 rfl) ?_
      refine lv_bipush (v := (-9)) hx hb dX7_emptySlots_12 rfl ?_
      obtain ⟨o_14, ho_14⟩ : ∃ z : Nat → Int32, z = v_X4_put (nI i2) (-9) z2 2 := ⟨_, rfl⟩
      refine callVV (As := [.int (nI i2), .int (-9)]) (rest := []) o_14 ho_14 hF (k_X4_put l D cI cZ a_slots n_slots (nI i2) (-9) z2 2 (by decide)) (cwV 2 hts gX7_emptySlots_X4_put rfl rfl rfl (by decide +kernel) ⟨Nat.le_of_ble_eq_true rfl, Nat.le_of_ble_eq_true rfl⟩) hK hN hP (va_Dsame hD rfl) hS hA [1, 2] rfl rfl 1 4 (T := TX4) (N := 1) rfl rfl rfl hl.1 rfl (Nat.le_of_ble_eq_true rfl) dX7_emptySlots_14 ⟨Nat.zero_le _, Nat.zero_le _⟩ [none, some 0, some 1] 2 [(a, .inr (7, [.ref a_text, .ref a_lease, .ref a_reader, .ref a_prover, .ref a_survey, .ref a_paths, .ref a_acts, .ref a_slots, .int i_hangingNow, .int i_hourNow, .int i_toldDark, .int i_toldLight, .int i_toldCount, .long j_seedNow])), (a_slots, .inr (4, [.ref n_slots])), (n_slots, .inl (cI, 2, .inl o_14))] rfl rfl (by decide) (fun H locs hP hS => ?_)
      refine lv_iinc (v := (nI (i2 + 1))) (lv' := [(1, .int (nI (i2 + 1))), (0, .ref a)]) hx hb dX7_emptySlots_17 hl (k := 0) rfl (nI_1 _) (by decide) rfl (fun ls hl => ?_)
      refine lv_goto (tgt := 2) hx hb dX7_emptySlots_20 (by decide) ?_
      have e8 : v_X7_emptySlots_L2 i2 z2 = o_14 := by
        refine (bnd_eq ho_14).trans ?_
        rfl
      exact ih (i2 + 1) o_14 (by omega) (by omega) (it_go e8 hz) _ _ _ hP hS (lv_sub hl [0, 1] rfl)
  exact loop2 2 0 f_slots (Nat.le_refl _) rfl ho_L2.symm _ _ _ hP hS (lv_sub hl [0, 1] rfl)
def v_X7_write (x1 : Int32) (i_text_length : Int32) (f_text_letters : Nat → Int32) : Int32 × Int32 × (Nat → Int32) :=
  if x1 < 0 then ((-2), i_text_length, f_text_letters)
  else (if x1 ≤ 255 then (bnd (v_X6_length i_text_length) fun o_18 =>
    (if o_18 < 72 then (bnd2 (v_X6_add x1 i_text_length f_text_letters) fun o_34_1 o_34_2 =>
      (bnd (v_X6_length o_34_1) fun o_41 =>
      (o_41, o_34_1, o_34_2)))
    else ((-4), i_text_length, f_text_letters)))
  else ((-2), i_text_length, f_text_letters))
abbrev rm_X7_write : Room := { frames := 2, cells := 0, slots := 0, locals := 43 }
set_option maxHeartbeats 4000000 in
set_option maxRecDepth 100000 in
theorem k_X7_write (l : Launch) (D : va_G) (cI cZ : ClassId) (a a_text a_lease a_reader a_prover a_survey a_paths a_acts a_slots a_text_letters n_text_letters : Nat) (x1 : Int32) (i_hangingNow : Int32) (i_hourNow : Int32) (i_toldDark : Int32) (i_toldLight : Int32) (i_toldCount : Int32) (j_seedNow : Int64) (i_text_length : Int32) (f_text_letters : Nat → Int32) : KI l D cI cZ yX7_write wsX7_write rm_X7_write [.ref a, .int x1] [(a, .inr (7, [.ref a_text, .ref a_lease, .ref a_reader, .ref a_prover, .ref a_survey, .ref a_paths, .ref a_acts, .ref a_slots, .int i_hangingNow, .int i_hourNow, .int i_toldDark, .int i_toldLight, .int i_toldCount, .long j_seedNow])), (a_text, .inr (6, [.ref a_text_letters, .int i_text_length])), (a_text_letters, .inr (4, [.ref n_text_letters])), (n_text_letters, .inl (cI, 72, .inl f_text_letters))] (v_X7_write x1 i_text_length f_text_letters) (fun o : Int32 × Int32 × (Nat → Int32) => o.1) (fun o : Int32 × Int32 × (Nat → Int32) => [(a, .inr (7, [.ref a_text, .ref a_lease, .ref a_reader, .ref a_prover, .ref a_survey, .ref a_paths, .ref a_acts, .ref a_slots, .int i_hangingNow, .int i_hourNow, .int i_toldDark, .int i_toldLight, .int i_toldCount, .long j_seedNow])), (a_text, .inr (6, [.ref a_text_letters, .int o.2.1])), (a_text_letters, .inr (4, [.ref n_text_letters])), (n_text_letters, .inl (cI, 72, .inl o.2.2))]) := by
  refine KI.of cX7_write 2 (some .int) (by decide) rfl (Nat.le_of_ble_eq_true rfl) ?_
  intro p e s m below meth c A ls ar Q hQ B
  obtain ⟨hx, hb, hr, hml, hts, hown, hlk, hK, hN, hP, hD, hA, hS, hl⟩ := B
  have hown : s.vm.findClass RX7 = some m.cls := hown
  have hF : CallFix p m c cX7_write 2 s ar wsX7_write RX7 := ⟨hx, hb, hml, hown, hts⟩
  have hl : lv_has ls 2 [(0, .ref a), (1, .int x1)] := hl
  refine lv_iload_n hx hb dX7_write_0 rfl (lv_at hl 1 rfl) ?_
  refine lv_if_lt (tgt := 11) hx hb dX7_write_1 (by decide) (fun c_1 => ?_) (fun c_1 => ?_)
  · refine lv_bipush (v := (-2)) hx hb dX7_write_11 rfl ?_
    have e9 : v_X7_write x1 i_text_length f_text_letters = ((-2), i_text_length, f_text_letters) := by
      refine (if_pos c_1).trans ?_
      rfl
    rw [hQ]; exact retI ((-2), i_text_length, f_text_letters) hx hb hr hlk e9 hP rfl hS dX7_write_13
  · refine lv_iload_n hx hb dX7_write_4 rfl (lv_at hl 1 rfl) ?_
    refine lv_sipush (v := 255) hx hb dX7_write_5 rfl ?_
    refine lv_icmp_le (tgt := 14) hx hb dX7_write_8 (by decide) (fun c_8 => ?_) (fun c_8 => ?_)
    · refine lv_aload_n hx hb dX7_write_14 rfl (lv_at hl 0 rfl) ?_
      refine va_get (D := D) (ci := 7) (v := .ref a_text) (C := RX7) (T := TX7) (N := 14) hx hb hts (fun _ h => List.mem_cons_of_mem _ (List.mem_append_left _ (List.mem_append_left _ (List.mem_append_right _ (h))))) hown hK hP 0 rfl rfl 0 (by decide) (hts _ (List.mem_of_getElem? (i := 1) rfl)) (fun _ h9 => h9) rfl dX7_write_15 ?_
      obtain ⟨o_18, ho_18⟩ : ∃ z : Int32, z = v_X6_length i_text_length := ⟨_, rfl⟩
      refine callVIs (As := []) (rest := []) o_18 ho_18 hF (k_X6_length l D cI cZ a_text a_text_letters i_text_length) (cwV 0 hts gX7_write_X6_length rfl rfl rfl (by decide +kernel) ⟨Nat.le_of_ble_eq_true rfl, Nat.le_of_ble_eq_true rfl⟩) hK hN hP (va_Dsame hD rfl) hS hA [1] rfl rfl 1 6 (T := TX6) (N := 2) rfl rfl rfl hl.1 rfl (Nat.le_of_ble_eq_true rfl) dX7_write_18 ⟨Nat.zero_le _, Nat.zero_le _⟩ o_18 rfl rfl (fun H locs hP hS => ?_)
      refine lv_bipush (v := 72) hx hb dX7_write_21 rfl ?_
      refine lv_icmp_lt (tgt := 29) hx hb dX7_write_23 (by decide) (fun c_23 => ?_) (fun c_23 => ?_)
      · refine lv_aload_n hx hb dX7_write_29 rfl (lv_at hl 0 rfl) ?_
        refine va_get (D := D) (ci := 7) (v := .ref a_text) (C := RX7) (T := TX7) (N := 14) hx hb hts (fun _ h => List.mem_cons_of_mem _ (List.mem_append_left _ (List.mem_append_left _ (List.mem_append_right _ (h))))) hown hK hP 0 rfl rfl 0 (by decide) (hts _ (List.mem_of_getElem? (i := 1) rfl)) (fun _ h9 => h9) rfl dX7_write_30 ?_
        refine lv_iload_n hx hb dX7_write_33 rfl (lv_at hl 1 rfl) ?_
        obtain ⟨o_34_1, o_34_2, ho_34⟩ := ex2 (v_X6_add x1 i_text_length f_text_letters)
        refine callVV (As := [.int x1]) (rest := []) (o_34_1, o_34_2) ho_34 hF (k_X6_add l D cI cZ a_text a_text_letters n_text_letters x1 i_text_length f_text_letters) (cwV 1 hts gX7_write_X6_add rfl rfl rfl (by decide +kernel) ⟨Nat.le_of_ble_eq_true rfl, Nat.le_of_ble_eq_true rfl⟩) hK hN hP (va_Dsame hD rfl) hS hA [1, 2, 3] rfl rfl 1 6 (T := TX6) (N := 2) rfl rfl rfl hl.1 rfl (Nat.le_of_ble_eq_true rfl) dX7_write_34 ⟨Nat.zero_le _, Nat.zero_le _⟩ [none, some 0, some 1, some 2] 3 [(a, .inr (7, [.ref a_text, .ref a_lease, .ref a_reader, .ref a_prover, .ref a_survey, .ref a_paths, .ref a_acts, .ref a_slots, .int i_hangingNow, .int i_hourNow, .int i_toldDark, .int i_toldLight, .int i_toldCount, .long j_seedNow])), (a_text, .inr (6, [.ref a_text_letters, .int o_34_1])), (a_text_letters, .inr (4, [.ref n_text_letters])), (n_text_letters, .inl (cI, 72, .inl o_34_2))] rfl rfl (by decide) (fun H locs hP hS => ?_)
        refine lv_aload_n hx hb dX7_write_37 rfl (lv_at hl 0 rfl) ?_
        refine va_get (D := D) (ci := 7) (v := .ref a_text) (C := RX7) (T := TX7) (N := 14) hx hb hts (fun _ h => List.mem_cons_of_mem _ (List.mem_append_left _ (List.mem_append_left _ (List.mem_append_right _ (h))))) hown hK hP 0 rfl rfl 0 (by decide) (hts _ (List.mem_of_getElem? (i := 1) rfl)) (fun _ h9 => h9) rfl dX7_write_38 ?_
        obtain ⟨o_41, ho_41⟩ : ∃ z : Int32, z = v_X6_length o_34_1 := ⟨_, rfl⟩
        refine callVIs (As := []) (rest := []) o_41 ho_41 hF (k_X6_length l D cI cZ a_text a_text_letters o_34_1) (cwV 0 hts gX7_write_X6_length rfl rfl rfl (by decide +kernel) ⟨Nat.le_of_ble_eq_true rfl, Nat.le_of_ble_eq_true rfl⟩) hK hN hP (va_Dsame hD rfl) hS hA [1] rfl rfl 1 6 (T := TX6) (N := 2) rfl rfl rfl hl.1 rfl (Nat.le_of_ble_eq_true rfl) dX7_write_41 ⟨Nat.zero_le _, Nat.zero_le _⟩ o_41 rfl rfl (fun H locs hP hS => ?_)
        have e9 : v_X7_write x1 i_text_length f_text_letters = (o_41, o_34_1, o_34_2) := by
          refine (if_neg c_1).trans ?_
          refine (if_pos c_8).trans ?_
          refine (bnd_eq ho_18).trans ?_
          refine (if_pos c_23).trans ?_
          refine (bnd2_eq ho_34).trans ?_
          refine (bnd_eq ho_41).trans ?_
          rfl
        rw [hQ]; exact retI (o_41, o_34_1, o_34_2) hx hb hr hlk e9 hP rfl hS dX7_write_44
      · refine lv_bipush (v := (-4)) hx hb dX7_write_26 rfl ?_
        have e9 : v_X7_write x1 i_text_length f_text_letters = ((-4), i_text_length, f_text_letters) := by
          refine (if_neg c_1).trans ?_
          refine (if_pos c_8).trans ?_
          refine (bnd_eq ho_18).trans ?_
          refine (if_neg c_23).trans ?_
          rfl
        rw [hQ]; exact retI ((-4), i_text_length, f_text_letters) hx hb hr hlk e9 hP rfl hS dX7_write_28
    · refine lv_bipush (v := (-2)) hx hb dX7_write_11 rfl ?_
      have e9 : v_X7_write x1 i_text_length f_text_letters = ((-2), i_text_length, f_text_letters) := by
        refine (if_neg c_1).trans ?_
        refine (if_neg c_8).trans ?_
        rfl
      rw [hQ]; exact retI ((-2), i_text_length, f_text_letters) hx hb hr hlk e9 hP rfl hS dX7_write_13
def v_X7_wipe (i_text_length : Int32) : Int32 × Int32 :=
  bnd (v_X6_length i_text_length) fun o_4 =>
  (bnd (v_X6_clear) fun o_12 =>
  (o_4, o_12))
abbrev rm_X7_wipe : Room := { frames := 1, cells := 0, slots := 0, locals := 20 }
set_option maxHeartbeats 4000000 in
set_option maxRecDepth 100000 in
theorem k_X7_wipe (l : Launch) (D : va_G) (cI cZ : ClassId) (a a_text a_lease a_reader a_prover a_survey a_paths a_acts a_slots a_text_letters : Nat) (i_hangingNow : Int32) (i_hourNow : Int32) (i_toldDark : Int32) (i_toldLight : Int32) (i_toldCount : Int32) (j_seedNow : Int64) (i_text_length : Int32) : KI l D cI cZ yX7_wipe wsX7_wipe rm_X7_wipe [.ref a] [(a, .inr (7, [.ref a_text, .ref a_lease, .ref a_reader, .ref a_prover, .ref a_survey, .ref a_paths, .ref a_acts, .ref a_slots, .int i_hangingNow, .int i_hourNow, .int i_toldDark, .int i_toldLight, .int i_toldCount, .long j_seedNow])), (a_text, .inr (6, [.ref a_text_letters, .int i_text_length]))] (v_X7_wipe i_text_length) (fun o : Int32 × Int32 => o.1) (fun o : Int32 × Int32 => [(a, .inr (7, [.ref a_text, .ref a_lease, .ref a_reader, .ref a_prover, .ref a_survey, .ref a_paths, .ref a_acts, .ref a_slots, .int i_hangingNow, .int i_hourNow, .int i_toldDark, .int i_toldLight, .int i_toldCount, .long j_seedNow])), (a_text, .inr (6, [.ref a_text_letters, .int o.2]))]) := by
  refine KI.of cX7_wipe 2 (some .int) (by decide) rfl (Nat.le_of_ble_eq_true rfl) ?_
  intro p e s m below meth c A ls ar Q hQ B
  obtain ⟨hx, hb, hr, hml, hts, hown, hlk, hK, hN, hP, hD, hA, hS, hl⟩ := B
  have hown : s.vm.findClass RX7 = some m.cls := hown
  have hF : CallFix p m c cX7_wipe 2 s ar wsX7_wipe RX7 := ⟨hx, hb, hml, hown, hts⟩
  have hl : lv_has ls 2 [(0, .ref a)] := hl
  refine lv_aload_n hx hb dX7_wipe_0 rfl (lv_at hl 0 rfl) ?_
  refine va_get (D := D) (ci := 7) (v := .ref a_text) (C := RX7) (T := TX7) (N := 14) hx hb hts (fun _ h => List.mem_cons_of_mem _ (List.mem_append_left _ (List.mem_append_right _ (h)))) hown hK hP 0 rfl rfl 0 (by decide) (hts _ (List.mem_of_getElem? (i := 1) rfl)) (fun _ h9 => h9) rfl dX7_wipe_1 ?_
  obtain ⟨o_4, ho_4⟩ : ∃ z : Int32, z = v_X6_length i_text_length := ⟨_, rfl⟩
  refine callVIs (As := []) (rest := []) o_4 ho_4 hF (k_X6_length l D cI cZ a_text a_text_letters i_text_length) (cwV 0 hts gX7_wipe_X6_length rfl rfl rfl (by decide +kernel) ⟨Nat.le_of_ble_eq_true rfl, Nat.le_of_ble_eq_true rfl⟩) hK hN hP (va_Dsame hD rfl) hS hA [1] rfl rfl 1 6 (T := TX6) (N := 2) rfl rfl rfl hl.1 rfl (Nat.le_of_ble_eq_true rfl) dX7_wipe_4 ⟨Nat.zero_le _, Nat.zero_le _⟩ o_4 rfl rfl (fun H locs hP hS => ?_)
  refine lv_istore_n (lv' := [(1, .int o_4), (0, .ref a)]) hx hb dX7_wipe_7 rfl hl (by decide) rfl (fun ls hl => ?_)
  refine lv_aload_n hx hb dX7_wipe_8 rfl (lv_at hl 1 rfl) ?_
  refine va_get (D := D) (ci := 7) (v := .ref a_text) (C := RX7) (T := TX7) (N := 14) hx hb hts (fun _ h => List.mem_cons_of_mem _ (List.mem_append_left _ (List.mem_append_right _ (h)))) hown hK hP 0 rfl rfl 0 (by decide) (hts _ (List.mem_of_getElem? (i := 1) rfl)) (fun _ h9 => h9) rfl dX7_wipe_9 ?_
  obtain ⟨o_12, ho_12⟩ : ∃ z : Int32, z = v_X6_clear := ⟨_, rfl⟩
  refine callVV (As := []) (rest := []) o_12 ho_12 hF (k_X6_clear l D cI cZ a_text a_text_letters i_text_length) (cwV 0 hts gX7_wipe_X6_clear rfl rfl rfl (by decide +kernel) ⟨Nat.le_of_ble_eq_true rfl, Nat.le_of_ble_eq_true rfl⟩) hK hN hP (va_Dsame hD rfl) hS hA [1] rfl rfl 1 6 (T := TX6) (N := 2) rfl rfl rfl hl.1 rfl (Nat.le_of_ble_eq_true rfl) dX7_wipe_12 ⟨Nat.zero_le _, Nat.zero_le _⟩ [none, some 0] 1 [(a, .inr (7, [.ref a_text, .ref a_lease, .ref a_reader, .ref a_prover, .ref a_survey, .ref a_paths, .ref a_acts, .ref a_slots, .int i_hangingNow, .int i_hourNow, .int i_toldDark, .int i_toldLight, .int i_toldCount, .long j_seedNow])), (a_text, .inr (6, [.ref a_text_letters, .int o_12]))] rfl rfl (by decide) (fun H locs hP hS => ?_)
  refine lv_iload_n hx hb dX7_wipe_15 rfl (lv_at hl 0 rfl) ?_
  have e9 : v_X7_wipe i_text_length = (o_4, o_12) := by
    refine (bnd_eq ho_4).trans ?_
    refine (bnd_eq ho_12).trans ?_
    rfl
  rw [hQ]; exact retI (o_4, o_12) hx hb hr hlk e9 hP rfl hS dX7_wipe_16
def v_X7_fault (i_prover_come : Int32) (i_prover_number : Int32) (i_prover_firstHour : Int32) (i_prover_span : Int32) (i_prover_value : Int32) (f_prover_lease_owed : Nat → Int32) (f_prover_lease_room : Nat → Int32) (i_text_length : Int32) (f_text_letters : Nat → Int32) (f_prover_lease_places : Nat → Int32) (f_prover_lease_firstHours : Nat → Int32) (f_prover_lease_spans : Nat → Int32) (f_prover_lease_values : Nat → Int32) (f_prover_lease_cells : Nat → Int32) (f_prover_lease_needs : Nat → Int32) : Int32 × Int32 × Int32 × Int32 × Int32 × Int32 × Int32 × (Nat → Int32) × (Nat → Int32) × (Nat → Int32) × (Nat → Int32) × (Nat → Int32) × Int32 × Int32 × Int32 × (Nat → Int32) × (Nat → Int32) × (Nat → Int32) :=
  bnd18 (v_X3_readThrough i_prover_come i_prover_number i_prover_firstHour i_prover_span i_prover_value f_prover_lease_owed f_prover_lease_room i_text_length f_text_letters f_prover_lease_places f_prover_lease_firstHours f_prover_lease_spans f_prover_lease_values f_prover_lease_cells f_prover_lease_needs) fun o_8_1 o_8_2 o_8_3 o_8_4 o_8_5 o_8_6 o_8_7 o_8_8 o_8_9 o_8_10 o_8_11 o_8_12 o_8_13 o_8_14 o_8_15 o_8_16 o_8_17 o_8_18 =>
  (o_8_1, o_8_2, o_8_3, o_8_4, o_8_5, o_8_6, o_8_7, o_8_11, o_8_12, o_8_13, o_8_14, o_8_15, o_8_8, o_8_9, o_8_10, o_8_16, o_8_17, o_8_18)
abbrev rm_X7_fault : Room := { frames := 6, cells := 0, slots := 0, locals := 135 }
set_option maxHeartbeats 4000000 in
set_option maxRecDepth 100000 in
theorem k_X7_fault (l : Launch) (D : va_G) (cI cZ : ClassId) (a a_text a_lease a_reader a_prover a_survey a_paths a_acts a_slots a_prover_lease a_prover_lease_places a_prover_lease_firstHours a_prover_lease_spans a_prover_lease_values a_prover_lease_cells a_prover_lease_needs a_prover_lease_owed a_prover_lease_room n_prover_lease_owed n_prover_lease_room a_text_letters n_text_letters n_prover_lease_places n_prover_lease_firstHours n_prover_lease_spans n_prover_lease_values n_prover_lease_cells n_prover_lease_needs : Nat) (i_hangingNow : Int32) (i_hourNow : Int32) (i_toldDark : Int32) (i_toldLight : Int32) (i_toldCount : Int32) (j_seedNow : Int64) (i_prover_part : Int32) (i_prover_come : Int32) (i_prover_number : Int32) (i_prover_firstHour : Int32) (i_prover_span : Int32) (i_prover_value : Int32) (i_prover_lease_squares : Int32) (i_prover_lease_wishCount : Int32) (i_prover_lease_owedPlaces : Int32) (f_prover_lease_owed : Nat → Int32) (f_prover_lease_room : Nat → Int32) (i_text_length : Int32) (f_text_letters : Nat → Int32) (f_prover_lease_places : Nat → Int32) (f_prover_lease_firstHours : Nat → Int32) (f_prover_lease_spans : Nat → Int32) (f_prover_lease_values : Nat → Int32) (f_prover_lease_cells : Nat → Int32) (f_prover_lease_needs : Nat → Int32) : KI l D cI cZ yX7_fault wsX7_fault rm_X7_fault [.ref a] [(a, .inr (7, [.ref a_text, .ref a_lease, .ref a_reader, .ref a_prover, .ref a_survey, .ref a_paths, .ref a_acts, .ref a_slots, .int i_hangingNow, .int i_hourNow, .int i_toldDark, .int i_toldLight, .int i_toldCount, .long j_seedNow])), (a_prover, .inr (3, [.ref a_prover_lease, .int i_prover_part, .int i_prover_come, .int i_prover_number, .int i_prover_firstHour, .int i_prover_span, .int i_prover_value])), (a_prover_lease, .inr (1, [.ref a_prover_lease_places, .ref a_prover_lease_firstHours, .ref a_prover_lease_spans, .ref a_prover_lease_values, .ref a_prover_lease_cells, .ref a_prover_lease_needs, .ref a_prover_lease_owed, .ref a_prover_lease_room, .int i_prover_lease_squares, .int i_prover_lease_wishCount, .int i_prover_lease_owedPlaces])), (a_prover_lease_owed, .inr (4, [.ref n_prover_lease_owed])), (n_prover_lease_owed, .inl (cI, 12, .inl f_prover_lease_owed)), (a_prover_lease_room, .inr (4, [.ref n_prover_lease_room])), (n_prover_lease_room, .inl (cI, 2, .inl f_prover_lease_room)), (a_text, .inr (6, [.ref a_text_letters, .int i_text_length])), (a_text_letters, .inr (4, [.ref n_text_letters])), (n_text_letters, .inl (cI, 72, .inl f_text_letters)), (a_prover_lease_places, .inr (4, [.ref n_prover_lease_places])), (n_prover_lease_places, .inl (cI, 5, .inl f_prover_lease_places)), (a_prover_lease_firstHours, .inr (4, [.ref n_prover_lease_firstHours])), (n_prover_lease_firstHours, .inl (cI, 5, .inl f_prover_lease_firstHours)), (a_prover_lease_spans, .inr (4, [.ref n_prover_lease_spans])), (n_prover_lease_spans, .inl (cI, 5, .inl f_prover_lease_spans)), (a_prover_lease_values, .inr (4, [.ref n_prover_lease_values])), (n_prover_lease_values, .inl (cI, 5, .inl f_prover_lease_values)), (a_prover_lease_cells, .inr (4, [.ref n_prover_lease_cells])), (n_prover_lease_cells, .inl (cI, 5, .inl f_prover_lease_cells)), (a_prover_lease_needs, .inr (4, [.ref n_prover_lease_needs])), (n_prover_lease_needs, .inl (cI, 5, .inl f_prover_lease_needs))] (v_X7_fault i_prover_come i_prover_number i_prover_firstHour i_prover_span i_prover_value f_prover_lease_owed f_prover_lease_room i_text_length f_text_letters f_prover_lease_places f_prover_lease_firstHours f_prover_lease_spans f_prover_lease_values f_prover_lease_cells f_prover_lease_needs) (fun o : Int32 × Int32 × Int32 × Int32 × Int32 × Int32 × Int32 × (Nat → Int32) × (Nat → Int32) × (Nat → Int32) × (Nat → Int32) × (Nat → Int32) × Int32 × Int32 × Int32 × (Nat → Int32) × (Nat → Int32) × (Nat → Int32) => o.1) (fun o : Int32 × Int32 × Int32 × Int32 × Int32 × Int32 × Int32 × (Nat → Int32) × (Nat → Int32) × (Nat → Int32) × (Nat → Int32) × (Nat → Int32) × Int32 × Int32 × Int32 × (Nat → Int32) × (Nat → Int32) × (Nat → Int32) => [(a, .inr (7, [.ref a_text, .ref a_lease, .ref a_reader, .ref a_prover, .ref a_survey, .ref a_paths, .ref a_acts, .ref a_slots, .int i_hangingNow, .int i_hourNow, .int i_toldDark, .int i_toldLight, .int i_toldCount, .long j_seedNow])), (a_prover, .inr (3, [.ref a_prover_lease, .int o.2.1, .int o.2.2.1, .int o.2.2.2.1, .int o.2.2.2.2.1, .int o.2.2.2.2.2.1, .int o.2.2.2.2.2.2.1])), (a_prover_lease, .inr (1, [.ref a_prover_lease_places, .ref a_prover_lease_firstHours, .ref a_prover_lease_spans, .ref a_prover_lease_values, .ref a_prover_lease_cells, .ref a_prover_lease_needs, .ref a_prover_lease_owed, .ref a_prover_lease_room, .int o.2.2.2.2.2.2.2.2.2.2.2.2.2.1, .int o.2.2.2.2.2.2.2.2.2.2.2.2.2.2.1, .int o.2.2.2.2.2.2.2.2.2.2.2.2.1])), (a_prover_lease_owed, .inr (4, [.ref n_prover_lease_owed])), (n_prover_lease_owed, .inl (cI, 12, .inl o.2.2.2.2.2.2.2.2.2.2.2.2.2.2.2.2.1)), (a_prover_lease_room, .inr (4, [.ref n_prover_lease_room])), (n_prover_lease_room, .inl (cI, 2, .inl o.2.2.2.2.2.2.2.2.2.2.2.2.2.2.2.2.2)), (a_text, .inr (6, [.ref a_text_letters, .int i_text_length])), (a_text_letters, .inr (4, [.ref n_text_letters])), (n_text_letters, .inl (cI, 72, .inl f_text_letters)), (a_prover_lease_places, .inr (4, [.ref n_prover_lease_places])), (n_prover_lease_places, .inl (cI, 5, .inl o.2.2.2.2.2.2.2.1)), (a_prover_lease_firstHours, .inr (4, [.ref n_prover_lease_firstHours])), (n_prover_lease_firstHours, .inl (cI, 5, .inl o.2.2.2.2.2.2.2.2.1)), (a_prover_lease_spans, .inr (4, [.ref n_prover_lease_spans])), (n_prover_lease_spans, .inl (cI, 5, .inl o.2.2.2.2.2.2.2.2.2.1)), (a_prover_lease_values, .inr (4, [.ref n_prover_lease_values])), (n_prover_lease_values, .inl (cI, 5, .inl o.2.2.2.2.2.2.2.2.2.2.1)), (a_prover_lease_cells, .inr (4, [.ref n_prover_lease_cells])), (n_prover_lease_cells, .inl (cI, 5, .inl o.2.2.2.2.2.2.2.2.2.2.2.1)), (a_prover_lease_needs, .inr (4, [.ref n_prover_lease_needs])), (n_prover_lease_needs, .inl (cI, 5, .inl o.2.2.2.2.2.2.2.2.2.2.2.2.2.2.2.1))]) := by
  refine KI.of cX7_fault 1 (some .int) (by decide) rfl (Nat.le_of_ble_eq_true rfl) ?_
  intro p e s m below meth c A ls ar Q hQ B
  obtain ⟨hx, hb, hr, hml, hts, hown, hlk, hK, hN, hP, hD, hA, hS, hl⟩ := B
  have hown : s.vm.findClass RX7 = some m.cls := hown
  have hF : CallFix p m c cX7_fault 1 s ar wsX7_fault RX7 := ⟨hx, hb, hml, hown, hts⟩
  have hl : lv_has ls 1 [(0, .ref a)] := hl
  refine lv_aload_n hx hb dX7_fault_0 rfl (lv_at hl 0 rfl) ?_
  refine va_get (D := D) (ci := 7) (v := .ref a_prover) (C := RX7) (T := TX7) (N := 14) hx hb hts (fun _ h => List.mem_cons_of_mem _ (List.mem_append_left _ (List.mem_append_left _ (List.mem_append_left _ (List.mem_append_left _ (List.mem_append_right _ (h))))))) hown hK hP 0 rfl rfl 3 (by decide) (hts _ (List.mem_of_getElem? (i := 1) rfl)) (fun _ h9 => h9) rfl dX7_fault_1 ?_
  refine lv_aload_n hx hb dX7_fault_4 rfl (lv_at hl 0 rfl) ?_
  refine va_get (D := D) (ci := 7) (v := .ref a_text) (C := RX7) (T := TX7) (N := 14) hx hb hts (fun _ h => List.mem_cons_of_mem _ (List.mem_append_left _ (List.mem_append_left _ (List.mem_append_left _ (List.mem_append_left _ (List.mem_append_right _ (h))))))) hown hK hP 0 rfl rfl 0 (by decide) (hts _ (List.mem_of_getElem? (i := 2) rfl)) (fun _ h9 => h9) rfl dX7_fault_5 ?_
  obtain ⟨o_8_1, o_8_2, o_8_3, o_8_4, o_8_5, o_8_6, o_8_7, o_8_8, o_8_9, o_8_10, o_8_11, o_8_12, o_8_13, o_8_14, o_8_15, o_8_16, o_8_17, o_8_18, ho_8⟩ := ex18 (v_X3_readThrough i_prover_come i_prover_number i_prover_firstHour i_prover_span i_prover_value f_prover_lease_owed f_prover_lease_room i_text_length f_text_letters f_prover_lease_places f_prover_lease_firstHours f_prover_lease_spans f_prover_lease_values f_prover_lease_cells f_prover_lease_needs)
  refine callVI (As := [.ref a_text]) (rest := []) (o_8_1, o_8_2, o_8_3, o_8_4, o_8_5, o_8_6, o_8_7, o_8_8, o_8_9, o_8_10, o_8_11, o_8_12, o_8_13, o_8_14, o_8_15, o_8_16, o_8_17, o_8_18) ho_8 hF (k_X3_readThrough l D cI cZ a_prover a_prover_lease a_prover_lease_places a_prover_lease_firstHours a_prover_lease_spans a_prover_lease_values a_prover_lease_cells a_prover_lease_needs a_prover_lease_owed a_prover_lease_room n_prover_lease_owed n_prover_lease_room a_text a_text_letters n_text_letters n_prover_lease_places n_prover_lease_firstHours n_prover_lease_spans n_prover_lease_values n_prover_lease_cells n_prover_lease_needs i_prover_part i_prover_come i_prover_number i_prover_firstHour i_prover_span i_prover_value i_prover_lease_squares i_prover_lease_wishCount i_prover_lease_owedPlaces f_prover_lease_owed f_prover_lease_room i_text_length f_text_letters f_prover_lease_places f_prover_lease_firstHours f_prover_lease_spans f_prover_lease_values f_prover_lease_cells f_prover_lease_needs) (cwV 1 hts gX7_fault_X3_readThrough rfl rfl rfl (by decide +kernel) ⟨Nat.le_of_ble_eq_true rfl, Nat.le_of_ble_eq_true rfl⟩) hK hN hP (va_Dsame hD rfl) hS hA [1, 2, 3, 4, 5, 6, 7, 8, 9, 10, 11, 12, 13, 14, 15, 16, 17, 18, 19, 20, 21] rfl rfl 1 3 (T := TX3) (N := 7) rfl rfl rfl hl.1 rfl (Nat.le_of_ble_eq_true rfl) dX7_fault_8 ⟨Nat.zero_le _, Nat.zero_le _⟩ o_8_1 rfl [none, some 0, some 1, some 2, some 3, some 4, some 5, some 6, some 7, some 8, some 9, some 10, some 11, some 12, some 13, some 14, some 15, some 16, some 17, some 18, some 19, some 20] 21 [(a, .inr (7, [.ref a_text, .ref a_lease, .ref a_reader, .ref a_prover, .ref a_survey, .ref a_paths, .ref a_acts, .ref a_slots, .int i_hangingNow, .int i_hourNow, .int i_toldDark, .int i_toldLight, .int i_toldCount, .long j_seedNow])), (a_prover, .inr (3, [.ref a_prover_lease, .int o_8_2, .int o_8_3, .int o_8_4, .int o_8_5, .int o_8_6, .int o_8_7])), (a_prover_lease, .inr (1, [.ref a_prover_lease_places, .ref a_prover_lease_firstHours, .ref a_prover_lease_spans, .ref a_prover_lease_values, .ref a_prover_lease_cells, .ref a_prover_lease_needs, .ref a_prover_lease_owed, .ref a_prover_lease_room, .int o_8_9, .int o_8_10, .int o_8_8])), (a_prover_lease_owed, .inr (4, [.ref n_prover_lease_owed])), (n_prover_lease_owed, .inl (cI, 12, .inl o_8_17)), (a_prover_lease_room, .inr (4, [.ref n_prover_lease_room])), (n_prover_lease_room, .inl (cI, 2, .inl o_8_18)), (a_text, .inr (6, [.ref a_text_letters, .int i_text_length])), (a_text_letters, .inr (4, [.ref n_text_letters])), (n_text_letters, .inl (cI, 72, .inl f_text_letters)), (a_prover_lease_places, .inr (4, [.ref n_prover_lease_places])), (n_prover_lease_places, .inl (cI, 5, .inl o_8_11)), (a_prover_lease_firstHours, .inr (4, [.ref n_prover_lease_firstHours])), (n_prover_lease_firstHours, .inl (cI, 5, .inl o_8_12)), (a_prover_lease_spans, .inr (4, [.ref n_prover_lease_spans])), (n_prover_lease_spans, .inl (cI, 5, .inl o_8_13)), (a_prover_lease_values, .inr (4, [.ref n_prover_lease_values])), (n_prover_lease_values, .inl (cI, 5, .inl o_8_14)), (a_prover_lease_cells, .inr (4, [.ref n_prover_lease_cells])), (n_prover_lease_cells, .inl (cI, 5, .inl o_8_15)), (a_prover_lease_needs, .inr (4, [.ref n_prover_lease_needs])), (n_prover_lease_needs, .inl (cI, 5, .inl o_8_16))] rfl rfl (by decide) (fun H locs hP hS => ?_)
  have e9 : v_X7_fault i_prover_come i_prover_number i_prover_firstHour i_prover_span i_prover_value f_prover_lease_owed f_prover_lease_room i_text_length f_text_letters f_prover_lease_places f_prover_lease_firstHours f_prover_lease_spans f_prover_lease_values f_prover_lease_cells f_prover_lease_needs = (o_8_1, o_8_2, o_8_3, o_8_4, o_8_5, o_8_6, o_8_7, o_8_11, o_8_12, o_8_13, o_8_14, o_8_15, o_8_8, o_8_9, o_8_10, o_8_16, o_8_17, o_8_18) := by
    refine (bnd18_eq ho_8).trans ?_
    rfl
  rw [hQ]; exact retI (o_8_1, o_8_2, o_8_3, o_8_4, o_8_5, o_8_6, o_8_7, o_8_11, o_8_12, o_8_13, o_8_14, o_8_15, o_8_8, o_8_9, o_8_10, o_8_16, o_8_17, o_8_18) hx hb hr hlk e9 hP rfl hS dX7_fault_11
def v_X7_letting (i_hangingNow : Int32) (i_hourNow : Int32) (i_prover_come : Int32) (i_prover_number : Int32) (i_prover_firstHour : Int32) (i_prover_span : Int32) (i_prover_value : Int32) (f_prover_lease_owed : Nat → Int32) (f_prover_lease_room : Nat → Int32) (i_text_length : Int32) (f_text_letters : Nat → Int32) (f_prover_lease_places : Nat → Int32) (f_prover_lease_firstHours : Nat → Int32) (f_prover_lease_spans : Nat → Int32) (f_prover_lease_values : Nat → Int32) (f_prover_lease_cells : Nat → Int32) (f_prover_lease_needs : Nat → Int32) (i_reader_part : Int32) (i_reader_come : Int32) (i_reader_number : Int32) (i_reader_firstHour : Int32) (i_reader_span : Int32) (i_reader_value : Int32) (i_lease_squares : Int32) (i_lease_wishCount : Int32) (i_lease_owedPlaces : Int32) (f_lease_owed : Nat → Int32) (f_lease_room : Nat → Int32) (f_lease_places : Nat → Int32) (f_lease_firstHours : Nat → Int32) (f_lease_spans : Nat → Int32) (f_lease_values : Nat → Int32) (f_lease_cells : Nat → Int32) (f_lease_needs : Nat → Int32) (i_survey_isMade : Int32) (i_acts_size : Int32) (f_slots : Nat → Int32) : Int32 × Int32 × Int32 × Int32 × Int32 × Int32 × Int32 × Int32 × Int32 × (Nat → Int32) × (Nat → Int32) × (Nat → Int32) × (Nat → Int32) × (Nat → Int32) × Int32 × Int32 × Int32 × (Nat → Int32) × Int32 × Int32 × Int32 × Int32 × Int32 × Int32 × Int32 × Int32 × Int32 × (Nat → Int32) × (Nat → Int32) × (Nat → Int32) × (Nat → Int32) × (Nat → Int32) × (Nat → Int32) × (Nat → Int32) × (Nat → Int32) × (Nat → Int32) × Int32 × Int32 × (Nat → Int32) × (Nat → Int32) :=
  bnd18 (v_X3_readThrough i_prover_come i_prover_number i_prover_firstHour i_prover_span i_prover_value f_prover_lease_owed f_prover_lease_room i_text_length f_text_letters f_prover_lease_places f_prover_lease_firstHours f_prover_lease_spans f_prover_lease_values f_prover_lease_cells f_prover_lease_needs) fun o_8_1 o_8_2 o_8_3 o_8_4 o_8_5 o_8_6 o_8_7 o_8_8 o_8_9 o_8_10 o_8_11 o_8_12 o_8_13 o_8_14 o_8_15 o_8_16 o_8_17 o_8_18 =>
  (if o_8_1 = (-9) then (bnd18 (v_X3_readThrough i_reader_come i_reader_number i_reader_firstHour i_reader_span i_reader_value f_lease_owed f_lease_room i_text_length f_text_letters f_lease_places f_lease_firstHours f_lease_spans f_lease_values f_lease_cells f_lease_needs) fun o_27_1 o_27_2 o_27_3 o_27_4 o_27_5 o_27_6 o_27_7 o_27_8 o_27_9 o_27_10 o_27_11 o_27_12 o_27_13 o_27_14 o_27_15 o_27_16 o_27_17 o_27_18 =>
    (bnd (v_X5_forget) fun o_35 =>
    (bnd (v_X0_clear) fun o_42 =>
    (bnd (v_X7_emptySlots f_slots) fun o_46 =>
    (bnd (v_X1_squares o_27_9) fun o_54 =>
    (bnd (v_X1_wishCount o_27_10) fun o_69 =>
    (o_69, o_54, 0, o_8_2, o_8_3, o_8_4, o_8_5, o_8_6, o_8_7, o_8_11, o_8_12, o_8_13, o_8_14, o_8_15, o_8_8, o_8_9, o_8_10, o_8_16, o_27_2, o_27_3, o_27_4, o_27_5, o_27_6, o_27_7, o_27_8, o_27_9, o_27_10, o_27_17, o_27_18, o_27_11, o_27_12, o_27_13, o_27_14, o_27_15, o_27_16, o_8_17, o_35, o_42, o_46, o_8_18)))))))
  else ((-3), i_hangingNow, i_hourNow, o_8_2, o_8_3, o_8_4, o_8_5, o_8_6, o_8_7, o_8_11, o_8_12, o_8_13, o_8_14, o_8_15, o_8_8, o_8_9, o_8_10, o_8_16, i_reader_part, i_reader_come, i_reader_number, i_reader_firstHour, i_reader_span, i_reader_value, i_lease_owedPlaces, i_lease_squares, i_lease_wishCount, f_lease_owed, f_lease_room, f_lease_places, f_lease_firstHours, f_lease_spans, f_lease_values, f_lease_cells, f_lease_needs, o_8_17, i_survey_isMade, i_acts_size, f_slots, o_8_18))
abbrev rm_X7_letting : Room := { frames := 6, cells := 0, slots := 0, locals := 135 }
set_option maxHeartbeats 4000000 in
set_option maxRecDepth 100000 in
theorem k_X7_letting (l : Launch) (D : va_G) (cI cZ : ClassId) (a a_text a_lease a_reader a_prover a_survey a_paths a_acts a_slots a_prover_lease a_prover_lease_places a_prover_lease_firstHours a_prover_lease_spans a_prover_lease_values a_prover_lease_cells a_prover_lease_needs a_prover_lease_owed a_prover_lease_room n_prover_lease_owed n_prover_lease_room a_text_letters n_text_letters n_prover_lease_places n_prover_lease_firstHours n_prover_lease_spans n_prover_lease_values n_prover_lease_cells n_prover_lease_needs a_lease_places a_lease_firstHours a_lease_spans a_lease_values a_lease_cells a_lease_needs a_lease_owed a_lease_room n_lease_owed n_lease_room n_lease_places n_lease_firstHours n_lease_spans n_lease_values n_lease_cells n_lease_needs a_survey_lawful a_survey_grants a_survey_bests a_survey_mosts a_acts_moments n_slots : Nat) (i_hangingNow : Int32) (i_hourNow : Int32) (i_toldDark : Int32) (i_toldLight : Int32) (i_toldCount : Int32) (j_seedNow : Int64) (i_prover_part : Int32) (i_prover_come : Int32) (i_prover_number : Int32) (i_prover_firstHour : Int32) (i_prover_span : Int32) (i_prover_value : Int32) (i_prover_lease_squares : Int32) (i_prover_lease_wishCount : Int32) (i_prover_lease_owedPlaces : Int32) (f_prover_lease_owed : Nat → Int32) (f_prover_lease_room : Nat → Int32) (i_text_length : Int32) (f_text_letters : Nat → Int32) (f_prover_lease_places : Nat → Int32) (f_prover_lease_firstHours : Nat → Int32) (f_prover_lease_spans : Nat → Int32) (f_prover_lease_values : Nat → Int32) (f_prover_lease_cells : Nat → Int32) (f_prover_lease_needs : Nat → Int32) (i_reader_part : Int32) (i_reader_come : Int32) (i_reader_number : Int32) (i_reader_firstHour : Int32) (i_reader_span : Int32) (i_reader_value : Int32) (i_lease_squares : Int32) (i_lease_wishCount : Int32) (i_lease_owedPlaces : Int32) (f_lease_owed : Nat → Int32) (f_lease_room : Nat → Int32) (f_lease_places : Nat → Int32) (f_lease_firstHours : Nat → Int32) (f_lease_spans : Nat → Int32) (f_lease_values : Nat → Int32) (f_lease_cells : Nat → Int32) (f_lease_needs : Nat → Int32) (i_survey_isMade : Int32) (i_acts_size : Int32) (f_slots : Nat → Int32) : KI l D cI cZ yX7_letting wsX7_letting rm_X7_letting [.ref a] [(a, .inr (7, [.ref a_text, .ref a_lease, .ref a_reader, .ref a_prover, .ref a_survey, .ref a_paths, .ref a_acts, .ref a_slots, .int i_hangingNow, .int i_hourNow, .int i_toldDark, .int i_toldLight, .int i_toldCount, .long j_seedNow])), (a_prover, .inr (3, [.ref a_prover_lease, .int i_prover_part, .int i_prover_come, .int i_prover_number, .int i_prover_firstHour, .int i_prover_span, .int i_prover_value])), (a_prover_lease, .inr (1, [.ref a_prover_lease_places, .ref a_prover_lease_firstHours, .ref a_prover_lease_spans, .ref a_prover_lease_values, .ref a_prover_lease_cells, .ref a_prover_lease_needs, .ref a_prover_lease_owed, .ref a_prover_lease_room, .int i_prover_lease_squares, .int i_prover_lease_wishCount, .int i_prover_lease_owedPlaces])), (a_prover_lease_owed, .inr (4, [.ref n_prover_lease_owed])), (n_prover_lease_owed, .inl (cI, 12, .inl f_prover_lease_owed)), (a_prover_lease_room, .inr (4, [.ref n_prover_lease_room])), (n_prover_lease_room, .inl (cI, 2, .inl f_prover_lease_room)), (a_text, .inr (6, [.ref a_text_letters, .int i_text_length])), (a_text_letters, .inr (4, [.ref n_text_letters])), (n_text_letters, .inl (cI, 72, .inl f_text_letters)), (a_prover_lease_places, .inr (4, [.ref n_prover_lease_places])), (n_prover_lease_places, .inl (cI, 5, .inl f_prover_lease_places)), (a_prover_lease_firstHours, .inr (4, [.ref n_prover_lease_firstHours])), (n_prover_lease_firstHours, .inl (cI, 5, .inl f_prover_lease_firstHours)), (a_prover_lease_spans, .inr (4, [.ref n_prover_lease_spans])), (n_prover_lease_spans, .inl (cI, 5, .inl f_prover_lease_spans)), (a_prover_lease_values, .inr (4, [.ref n_prover_lease_values])), (n_prover_lease_values, .inl (cI, 5, .inl f_prover_lease_values)), (a_prover_lease_cells, .inr (4, [.ref n_prover_lease_cells])), (n_prover_lease_cells, .inl (cI, 5, .inl f_prover_lease_cells)), (a_prover_lease_needs, .inr (4, [.ref n_prover_lease_needs])), (n_prover_lease_needs, .inl (cI, 5, .inl f_prover_lease_needs)), (a_reader, .inr (3, [.ref a_lease, .int i_reader_part, .int i_reader_come, .int i_reader_number, .int i_reader_firstHour, .int i_reader_span, .int i_reader_value])), (a_lease, .inr (1, [.ref a_lease_places, .ref a_lease_firstHours, .ref a_lease_spans, .ref a_lease_values, .ref a_lease_cells, .ref a_lease_needs, .ref a_lease_owed, .ref a_lease_room, .int i_lease_squares, .int i_lease_wishCount, .int i_lease_owedPlaces])), (a_lease_owed, .inr (4, [.ref n_lease_owed])), (n_lease_owed, .inl (cI, 12, .inl f_lease_owed)), (a_lease_room, .inr (4, [.ref n_lease_room])), (n_lease_room, .inl (cI, 2, .inl f_lease_room)), (a_lease_places, .inr (4, [.ref n_lease_places])), (n_lease_places, .inl (cI, 5, .inl f_lease_places)), (a_lease_firstHours, .inr (4, [.ref n_lease_firstHours])), (n_lease_firstHours, .inl (cI, 5, .inl f_lease_firstHours)), (a_lease_spans, .inr (4, [.ref n_lease_spans])), (n_lease_spans, .inl (cI, 5, .inl f_lease_spans)), (a_lease_values, .inr (4, [.ref n_lease_values])), (n_lease_values, .inl (cI, 5, .inl f_lease_values)), (a_lease_cells, .inr (4, [.ref n_lease_cells])), (n_lease_cells, .inl (cI, 5, .inl f_lease_cells)), (a_lease_needs, .inr (4, [.ref n_lease_needs])), (n_lease_needs, .inl (cI, 5, .inl f_lease_needs)), (a_survey, .inr (5, [.ref a_lease, .ref a_survey_lawful, .ref a_survey_grants, .ref a_survey_bests, .ref a_survey_mosts, .int i_survey_isMade])), (a_acts, .inr (0, [.ref a_acts_moments, .int i_acts_size])), (a_slots, .inr (4, [.ref n_slots])), (n_slots, .inl (cI, 2, .inl f_slots))] (v_X7_letting i_hangingNow i_hourNow i_prover_come i_prover_number i_prover_firstHour i_prover_span i_prover_value f_prover_lease_owed f_prover_lease_room i_text_length f_text_letters f_prover_lease_places f_prover_lease_firstHours f_prover_lease_spans f_prover_lease_values f_prover_lease_cells f_prover_lease_needs i_reader_part i_reader_come i_reader_number i_reader_firstHour i_reader_span i_reader_value i_lease_squares i_lease_wishCount i_lease_owedPlaces f_lease_owed f_lease_room f_lease_places f_lease_firstHours f_lease_spans f_lease_values f_lease_cells f_lease_needs i_survey_isMade i_acts_size f_slots) (fun o : Int32 × Int32 × Int32 × Int32 × Int32 × Int32 × Int32 × Int32 × Int32 × (Nat → Int32) × (Nat → Int32) × (Nat → Int32) × (Nat → Int32) × (Nat → Int32) × Int32 × Int32 × Int32 × (Nat → Int32) × Int32 × Int32 × Int32 × Int32 × Int32 × Int32 × Int32 × Int32 × Int32 × (Nat → Int32) × (Nat → Int32) × (Nat → Int32) × (Nat → Int32) × (Nat → Int32) × (Nat → Int32) × (Nat → Int32) × (Nat → Int32) × (Nat → Int32) × Int32 × Int32 × (Nat → Int32) × (Nat → Int32) => o.1) (fun o : Int32 × Int32 × Int32 × Int32 × Int32 × Int32 × Int32 × Int32 × Int32 × (Nat → Int32) × (Nat → Int32) × (Nat → Int32) × (Nat → Int32) × (Nat → Int32) × Int32 × Int32 × Int32 × (Nat → Int32) × Int32 × Int32 × Int32 × Int32 × Int32 × Int32 × Int32 × Int32 × Int32 × (Nat → Int32) × (Nat → Int32) × (Nat → Int32) × (Nat → Int32) × (Nat → Int32) × (Nat → Int32) × (Nat → Int32) × (Nat → Int32) × (Nat → Int32) × Int32 × Int32 × (Nat → Int32) × (Nat → Int32) => [(a, .inr (7, [.ref a_text, .ref a_lease, .ref a_reader, .ref a_prover, .ref a_survey, .ref a_paths, .ref a_acts, .ref a_slots, .int o.2.1, .int o.2.2.1, .int i_toldDark, .int i_toldLight, .int i_toldCount, .long j_seedNow])), (a_prover, .inr (3, [.ref a_prover_lease, .int o.2.2.2.1, .int o.2.2.2.2.1, .int o.2.2.2.2.2.1, .int o.2.2.2.2.2.2.1, .int o.2.2.2.2.2.2.2.1, .int o.2.2.2.2.2.2.2.2.1])), (a_prover_lease, .inr (1, [.ref a_prover_lease_places, .ref a_prover_lease_firstHours, .ref a_prover_lease_spans, .ref a_prover_lease_values, .ref a_prover_lease_cells, .ref a_prover_lease_needs, .ref a_prover_lease_owed, .ref a_prover_lease_room, .int o.2.2.2.2.2.2.2.2.2.2.2.2.2.2.2.1, .int o.2.2.2.2.2.2.2.2.2.2.2.2.2.2.2.2.1, .int o.2.2.2.2.2.2.2.2.2.2.2.2.2.2.1])), (a_prover_lease_owed, .inr (4, [.ref n_prover_lease_owed])), (n_prover_lease_owed, .inl (cI, 12, .inl o.2.2.2.2.2.2.2.2.2.2.2.2.2.2.2.2.2.2.2.2.2.2.2.2.2.2.2.2.2.2.2.2.2.2.2.1)), (a_prover_lease_room, .inr (4, [.ref n_prover_lease_room])), (n_prover_lease_room, .inl (cI, 2, .inl o.2.2.2.2.2.2.2.2.2.2.2.2.2.2.2.2.2.2.2.2.2.2.2.2.2.2.2.2.2.2.2.2.2.2.2.2.2.2.2)), (a_text, .inr (6, [.ref a_text_letters, .int i_text_length])), (a_text_letters, .inr (4, [.ref n_text_letters])), (n_text_letters, .inl (cI, 72, .inl f_text_letters)), (a_prover_lease_places, .inr (4, [.ref n_prover_lease_places])), (n_prover_lease_places, .inl (cI, 5, .inl o.2.2.2.2.2.2.2.2.2.1)), (a_prover_lease_firstHours, .inr (4, [.ref n_prover_lease_firstHours])), (n_prover_lease_firstHours, .inl (cI, 5, .inl o.2.2.2.2.2.2.2.2.2.2.1)), (a_prover_lease_spans, .inr (4, [.ref n_prover_lease_spans])), (n_prover_lease_spans, .inl (cI, 5, .inl o.2.2.2.2.2.2.2.2.2.2.2.1)), (a_prover_lease_values, .inr (4, [.ref n_prover_lease_values])), (n_prover_lease_values, .inl (cI, 5, .inl o.2.2.2.2.2.2.2.2.2.2.2.2.1)), (a_prover_lease_cells, .inr (4, [.ref n_prover_lease_cells])), (n_prover_lease_cells, .inl (cI, 5, .inl o.2.2.2.2.2.2.2.2.2.2.2.2.2.1)), (a_prover_lease_needs, .inr (4, [.ref n_prover_lease_needs])), (n_prover_lease_needs, .inl (cI, 5, .inl o.2.2.2.2.2.2.2.2.2.2.2.2.2.2.2.2.2.1)), (a_reader, .inr (3, [.ref a_lease, .int o.2.2.2.2.2.2.2.2.2.2.2.2.2.2.2.2.2.2.1, .int o.2.2.2.2.2.2.2.2.2.2.2.2.2.2.2.2.2.2.2.1, .int o.2.2.2.2.2.2.2.2.2.2.2.2.2.2.2.2.2.2.2.2.1, .int o.2.2.2.2.2.2.2.2.2.2.2.2.2.2.2.2.2.2.2.2.2.1, .int o.2.2.2.2.2.2.2.2.2.2.2.2.2.2.2.2.2.2.2.2.2.2.1, .int o.2.2.2.2.2.2.2.2.2.2.2.2.2.2.2.2.2.2.2.2.2.2.2.1])), (a_lease, .inr (1, [.ref a_lease_places, .ref a_lease_firstHours, .ref a_lease_spans, .ref a_lease_values, .ref a_lease_cells, .ref a_lease_needs, .ref a_lease_owed, .ref a_lease_room, .int o.2.2.2.2.2.2.2.2.2.2.2.2.2.2.2.2.2.2.2.2.2.2.2.2.2.1, .int o.2.2.2.2.2.2.2.2.2.2.2.2.2.2.2.2.2.2.2.2.2.2.2.2.2.2.1, .int o.2.2.2.2.2.2.2.2.2.2.2.2.2.2.2.2.2.2.2.2.2.2.2.2.1])), (a_lease_owed, .inr (4, [.ref n_lease_owed])), (n_lease_owed, .inl (cI, 12, .inl o.2.2.2.2.2.2.2.2.2.2.2.2.2.2.2.2.2.2.2.2.2.2.2.2.2.2.2.1)), (a_lease_room, .inr (4, [.ref n_lease_room])), (n_lease_room, .inl (cI, 2, .inl o.2.2.2.2.2.2.2.2.2.2.2.2.2.2.2.2.2.2.2.2.2.2.2.2.2.2.2.2.1)), (a_lease_places, .inr (4, [.ref n_lease_places])), (n_lease_places, .inl (cI, 5, .inl o.2.2.2.2.2.2.2.2.2.2.2.2.2.2.2.2.2.2.2.2.2.2.2.2.2.2.2.2.2.1)), (a_lease_firstHours, .inr (4, [.ref n_lease_firstHours])), (n_lease_firstHours, .inl (cI, 5, .inl o.2.2.2.2.2.2.2.2.2.2.2.2.2.2.2.2.2.2.2.2.2.2.2.2.2.2.2.2.2.2.1)), (a_lease_spans, .inr (4, [.ref n_lease_spans])), (n_lease_spans, .inl (cI, 5, .inl o.2.2.2.2.2.2.2.2.2.2.2.2.2.2.2.2.2.2.2.2.2.2.2.2.2.2.2.2.2.2.2.1)), (a_lease_values, .inr (4, [.ref n_lease_values])), (n_lease_values, .inl (cI, 5, .inl o.2.2.2.2.2.2.2.2.2.2.2.2.2.2.2.2.2.2.2.2.2.2.2.2.2.2.2.2.2.2.2.2.1)), (a_lease_cells, .inr (4, [.ref n_lease_cells])), (n_lease_cells, .inl (cI, 5, .inl o.2.2.2.2.2.2.2.2.2.2.2.2.2.2.2.2.2.2.2.2.2.2.2.2.2.2.2.2.2.2.2.2.2.1)), (a_lease_needs, .inr (4, [.ref n_lease_needs])), (n_lease_needs, .inl (cI, 5, .inl o.2.2.2.2.2.2.2.2.2.2.2.2.2.2.2.2.2.2.2.2.2.2.2.2.2.2.2.2.2.2.2.2.2.2.1)), (a_survey, .inr (5, [.ref a_lease, .ref a_survey_lawful, .ref a_survey_grants, .ref a_survey_bests, .ref a_survey_mosts, .int o.2.2.2.2.2.2.2.2.2.2.2.2.2.2.2.2.2.2.2.2.2.2.2.2.2.2.2.2.2.2.2.2.2.2.2.2.1])), (a_acts, .inr (0, [.ref a_acts_moments, .int o.2.2.2.2.2.2.2.2.2.2.2.2.2.2.2.2.2.2.2.2.2.2.2.2.2.2.2.2.2.2.2.2.2.2.2.2.2.1])), (a_slots, .inr (4, [.ref n_slots])), (n_slots, .inl (cI, 2, .inl o.2.2.2.2.2.2.2.2.2.2.2.2.2.2.2.2.2.2.2.2.2.2.2.2.2.2.2.2.2.2.2.2.2.2.2.2.2.2.1))]) := by
  refine KI.of cX7_letting 1 (some .int) (by decide) rfl (Nat.le_of_ble_eq_true rfl) ?_
  intro p e s m below meth c A ls ar Q hQ B
  obtain ⟨hx, hb, hr, hml, hts, hown, hlk, hK, hN, hP, hD, hA, hS, hl⟩ := B
  have hown : s.vm.findClass RX7 = some m.cls := hown
  have hF : CallFix p m c cX7_letting 1 s ar wsX7_letting RX7 := ⟨hx, hb, hml, hown, hts⟩
  have hl : lv_has ls 1 [(0, .ref a)] := hl
  refine lv_aload_n hx hb dX7_letting_0 rfl (lv_at hl 0 rfl) ?_
  refine va_get (D := D) (ci := 7) (v := .ref a_prover) (C := RX7) (T := TX7) (N := 14) hx hb hts (fun _ h => List.mem_cons_of_mem _ (List.mem_append_left _ (List.mem_append_left _ (List.mem_append_left _ (List.mem_append_left _ (List.mem_append_left _ (List.mem_append_left _ (List.mem_append_right _ (h))))))))) hown hK hP 0 rfl rfl 3 (by decide) (hts _ (List.mem_of_getElem? (i := 1) rfl)) (fun _ h9 => h9) rfl dX7_letting_1 ?_
  refine lv_aload_n hx hb dX7_letting_4 rfl (lv_at hl 0 rfl) ?_
  refine va_get (D := D) (ci := 7) (v := .ref a_text) (C := RX7) (T := TX7) (N := 14) hx hb hts (fun _ h => List.mem_cons_of_mem _ (List.mem_append_left _ (List.mem_append_left _ (List.mem_append_left _ (List.mem_append_left _ (List.mem_append_left _ (List.mem_append_left _ (List.mem_append_right _ (h))))))))) hown hK hP 0 rfl rfl 0 (by decide) (hts _ (List.mem_of_getElem? (i := 2) rfl)) (fun _ h9 => h9) rfl dX7_letting_5 ?_
  obtain ⟨o_8_1, o_8_2, o_8_3, o_8_4, o_8_5, o_8_6, o_8_7, o_8_8, o_8_9, o_8_10, o_8_11, o_8_12, o_8_13, o_8_14, o_8_15, o_8_16, o_8_17, o_8_18, ho_8⟩ := ex18 (v_X3_readThrough i_prover_come i_prover_number i_prover_firstHour i_prover_span i_prover_value f_prover_lease_owed f_prover_lease_room i_text_length f_text_letters f_prover_lease_places f_prover_lease_firstHours f_prover_lease_spans f_prover_lease_values f_prover_lease_cells f_prover_lease_needs)
  refine callVI (As := [.ref a_text]) (rest := []) (o_8_1, o_8_2, o_8_3, o_8_4, o_8_5, o_8_6, o_8_7, o_8_8, o_8_9, o_8_10, o_8_11, o_8_12, o_8_13, o_8_14, o_8_15, o_8_16, o_8_17, o_8_18) ho_8 hF (k_X3_readThrough l D cI cZ a_prover a_prover_lease a_prover_lease_places a_prover_lease_firstHours a_prover_lease_spans a_prover_lease_values a_prover_lease_cells a_prover_lease_needs a_prover_lease_owed a_prover_lease_room n_prover_lease_owed n_prover_lease_room a_text a_text_letters n_text_letters n_prover_lease_places n_prover_lease_firstHours n_prover_lease_spans n_prover_lease_values n_prover_lease_cells n_prover_lease_needs i_prover_part i_prover_come i_prover_number i_prover_firstHour i_prover_span i_prover_value i_prover_lease_squares i_prover_lease_wishCount i_prover_lease_owedPlaces f_prover_lease_owed f_prover_lease_room i_text_length f_text_letters f_prover_lease_places f_prover_lease_firstHours f_prover_lease_spans f_prover_lease_values f_prover_lease_cells f_prover_lease_needs) (cwV 1 hts gX7_letting_X3_readThrough rfl rfl rfl (by decide +kernel) ⟨Nat.le_of_ble_eq_true rfl, Nat.le_of_ble_eq_true rfl⟩) hK hN hP (va_Dsame hD rfl) hS hA [1, 2, 3, 4, 5, 6, 7, 8, 9, 10, 11, 12, 13, 14, 15, 16, 17, 18, 19, 20, 21] rfl rfl 1 3 (T := TX3) (N := 7) rfl rfl rfl hl.1 rfl (Nat.le_of_ble_eq_true rfl) dX7_letting_8 ⟨Nat.zero_le _, Nat.zero_le _⟩ o_8_1 rfl [none, some 0, some 1, some 2, some 3, some 4, some 5, some 6, some 7, some 8, some 9, some 10, some 11, some 12, some 13, some 14, some 15, some 16, some 17, some 18, some 19, some 20, none, none, none, none, none, none, none, none, none, none, none, none, none, none, none, none, none, none, none, none, none, none] 21 [(a, .inr (7, [.ref a_text, .ref a_lease, .ref a_reader, .ref a_prover, .ref a_survey, .ref a_paths, .ref a_acts, .ref a_slots, .int i_hangingNow, .int i_hourNow, .int i_toldDark, .int i_toldLight, .int i_toldCount, .long j_seedNow])), (a_prover, .inr (3, [.ref a_prover_lease, .int o_8_2, .int o_8_3, .int o_8_4, .int o_8_5, .int o_8_6, .int o_8_7])), (a_prover_lease, .inr (1, [.ref a_prover_lease_places, .ref a_prover_lease_firstHours, .ref a_prover_lease_spans, .ref a_prover_lease_values, .ref a_prover_lease_cells, .ref a_prover_lease_needs, .ref a_prover_lease_owed, .ref a_prover_lease_room, .int o_8_9, .int o_8_10, .int o_8_8])), (a_prover_lease_owed, .inr (4, [.ref n_prover_lease_owed])), (n_prover_lease_owed, .inl (cI, 12, .inl o_8_17)), (a_prover_lease_room, .inr (4, [.ref n_prover_lease_room])), (n_prover_lease_room, .inl (cI, 2, .inl o_8_18)), (a_text, .inr (6, [.ref a_text_letters, .int i_text_length])), (a_text_letters, .inr (4, [.ref n_text_letters])), (n_text_letters, .inl (cI, 72, .inl f_text_letters)), (a_prover_lease_places, .inr (4, [.ref n_prover_lease_places])), (n_prover_lease_places, .inl (cI, 5, .inl o_8_11)), (a_prover_lease_firstHours, .inr (4, [.ref n_prover_lease_firstHours])), (n_prover_lease_firstHours, .inl (cI, 5, .inl o_8_12)), (a_prover_lease_spans, .inr (4, [.ref n_prover_lease_spans])), (n_prover_lease_spans, .inl (cI, 5, .inl o_8_13)), (a_prover_lease_values, .inr (4, [.ref n_prover_lease_values])), (n_prover_lease_values, .inl (cI, 5, .inl o_8_14)), (a_prover_lease_cells, .inr (4, [.ref n_prover_lease_cells])), (n_prover_lease_cells, .inl (cI, 5, .inl o_8_15)), (a_prover_lease_needs, .inr (4, [.ref n_prover_lease_needs])), (n_prover_lease_needs, .inl (cI, 5, .inl o_8_16)), (a_reader, .inr (3, [.ref a_lease, .int i_reader_part, .int i_reader_come, .int i_reader_number, .int i_reader_firstHour, .int i_reader_span, .int i_reader_value])), (a_lease, .inr (1, [.ref a_lease_places, .ref a_lease_firstHours, .ref a_lease_spans, .ref a_lease_values, .ref a_lease_cells, .ref a_lease_needs, .ref a_lease_owed, .ref a_lease_room, .int i_lease_squares, .int i_lease_wishCount, .int i_lease_owedPlaces])), (a_lease_owed, .inr (4, [.ref n_lease_owed])), (n_lease_owed, .inl (cI, 12, .inl f_lease_owed)), (a_lease_room, .inr (4, [.ref n_lease_room])), (n_lease_room, .inl (cI, 2, .inl f_lease_room)), (a_lease_places, .inr (4, [.ref n_lease_places])), (n_lease_places, .inl (cI, 5, .inl f_lease_places)), (a_lease_firstHours, .inr (4, [.ref n_lease_firstHours])), (n_lease_firstHours, .inl (cI, 5, .inl f_lease_firstHours)), (a_lease_spans, .inr (4, [.ref n_lease_spans])), (n_lease_spans, .inl (cI, 5, .inl f_lease_spans)), (a_lease_values, .inr (4, [.ref n_lease_values])), (n_lease_values, .inl (cI, 5, .inl f_lease_values)), (a_lease_cells, .inr (4, [.ref n_lease_cells])), (n_lease_cells, .inl (cI, 5, .inl f_lease_cells)), (a_lease_needs, .inr (4, [.ref n_lease_needs])), (n_lease_needs, .inl (cI, 5, .inl f_lease_needs)), (a_survey, .inr (5, [.ref a_lease, .ref a_survey_lawful, .ref a_survey_grants, .ref a_survey_bests, .ref a_survey_mosts, .int i_survey_isMade])), (a_acts, .inr (0, [.ref a_acts_moments, .int i_acts_size])), (a_slots, .inr (4, [.ref n_slots])), (n_slots, .inl (cI, 2, .inl f_slots))] rfl rfl (by decide) (fun H locs hP hS => ?_)
  refine lv_bipush (v := (-9)) hx hb dX7_letting_11 rfl ?_
  refine lv_icmp_eq (tgt := 19) hx hb dX7_letting_13 (by decide) (fun c_13 => ?_) (fun c_13 => ?_)
  · refine lv_aload_n hx hb dX7_letting_19 rfl (lv_at hl 0 rfl) ?_
    refine va_get (D := D) (ci := 7) (v := .ref a_reader) (C := RX7) (T := TX7) (N := 14) hx hb hts (fun _ h => List.mem_cons_of_mem _ (List.mem_append_left _ (List.mem_append_left _ (List.mem_append_left _ (List.mem_append_left _ (List.mem_append_left _ (List.mem_append_left _ (List.mem_append_right _ (h))))))))) hown hK hP 0 rfl rfl 2 (by decide) (hts _ (List.mem_of_getElem? (i := 3) rfl)) (fun _ h9 => h9) rfl dX7_letting_20 ?_
    refine lv_aload_n hx hb dX7_letting_23 rfl (lv_at hl 0 rfl) ?_
    refine va_get (D := D) (ci := 7) (v := .ref a_text) (C := RX7) (T := TX7) (N := 14) hx hb hts (fun _ h => List.mem_cons_of_mem _ (List.mem_append_left _ (List.mem_append_left _ (List.mem_append_left _ (List.mem_append_left _ (List.mem_append_left _ (List.mem_append_left _ (List.mem_append_right _ (h))))))))) hown hK hP 0 rfl rfl 0 (by decide) (hts _ (List.mem_of_getElem? (i := 2) rfl)) (fun _ h9 => h9) rfl dX7_letting_24 ?_
    obtain ⟨o_27_1, o_27_2, o_27_3, o_27_4, o_27_5, o_27_6, o_27_7, o_27_8, o_27_9, o_27_10, o_27_11, o_27_12, o_27_13, o_27_14, o_27_15, o_27_16, o_27_17, o_27_18, ho_27⟩ := ex18 (v_X3_readThrough i_reader_come i_reader_number i_reader_firstHour i_reader_span i_reader_value f_lease_owed f_lease_room i_text_length f_text_letters f_lease_places f_lease_firstHours f_lease_spans f_lease_values f_lease_cells f_lease_needs)
    refine callVI (As := [.ref a_text]) (rest := []) (o_27_1, o_27_2, o_27_3, o_27_4, o_27_5, o_27_6, o_27_7, o_27_8, o_27_9, o_27_10, o_27_11, o_27_12, o_27_13, o_27_14, o_27_15, o_27_16, o_27_17, o_27_18) ho_27 hF (k_X3_readThrough l D cI cZ a_reader a_lease a_lease_places a_lease_firstHours a_lease_spans a_lease_values a_lease_cells a_lease_needs a_lease_owed a_lease_room n_lease_owed n_lease_room a_text a_text_letters n_text_letters n_lease_places n_lease_firstHours n_lease_spans n_lease_values n_lease_cells n_lease_needs i_reader_part i_reader_come i_reader_number i_reader_firstHour i_reader_span i_reader_value i_lease_squares i_lease_wishCount i_lease_owedPlaces f_lease_owed f_lease_room i_text_length f_text_letters f_lease_places f_lease_firstHours f_lease_spans f_lease_values f_lease_cells f_lease_needs) (cwV 1 hts gX7_letting_X3_readThrough rfl rfl rfl (by decide +kernel) ⟨Nat.le_of_ble_eq_true rfl, Nat.le_of_ble_eq_true rfl⟩) hK hN hP (va_Dsame hD rfl) hS hA [22, 23, 24, 25, 26, 27, 7, 8, 9, 28, 29, 30, 31, 32, 33, 34, 35, 36, 37, 38, 39] rfl rfl 22 3 (T := TX3) (N := 7) rfl rfl rfl hl.1 rfl (Nat.le_of_ble_eq_true rfl) dX7_letting_27 ⟨Nat.zero_le _, Nat.zero_le _⟩ o_27_1 rfl [none, none, none, none, none, none, none, some 6, some 7, some 8, none, none, none, none, none, none, none, none, none, none, none, none, some 0, some 1, some 2, some 3, some 4, some 5, some 9, some 10, some 11, some 12, some 13, some 14, some 15, some 16, some 17, some 18, some 19, some 20, none, none, none, none] 21 [(a, .inr (7, [.ref a_text, .ref a_lease, .ref a_reader, .ref a_prover, .ref a_survey, .ref a_paths, .ref a_acts, .ref a_slots, .int i_hangingNow, .int i_hourNow, .int i_toldDark, .int i_toldLight, .int i_toldCount, .long j_seedNow])), (a_prover, .inr (3, [.ref a_prover_lease, .int o_8_2, .int o_8_3, .int o_8_4, .int o_8_5, .int o_8_6, .int o_8_7])), (a_prover_lease, .inr (1, [.ref a_prover_lease_places, .ref a_prover_lease_firstHours, .ref a_prover_lease_spans, .ref a_prover_lease_values, .ref a_prover_lease_cells, .ref a_prover_lease_needs, .ref a_prover_lease_owed, .ref a_prover_lease_room, .int o_8_9, .int o_8_10, .int o_8_8])), (a_prover_lease_owed, .inr (4, [.ref n_prover_lease_owed])), (n_prover_lease_owed, .inl (cI, 12, .inl o_8_17)), (a_prover_lease_room, .inr (4, [.ref n_prover_lease_room])), (n_prover_lease_room, .inl (cI, 2, .inl o_8_18)), (a_text, .inr (6, [.ref a_text_letters, .int i_text_length])), (a_text_letters, .inr (4, [.ref n_text_letters])), (n_text_letters, .inl (cI, 72, .inl f_text_letters)), (a_prover_lease_places, .inr (4, [.ref n_prover_lease_places])), (n_prover_lease_places, .inl (cI, 5, .inl o_8_11)), (a_prover_lease_firstHours, .inr (4, [.ref n_prover_lease_firstHours])), (n_prover_lease_firstHours, .inl (cI, 5, .inl o_8_12)), (a_prover_lease_spans, .inr (4, [.ref n_prover_lease_spans])), (n_prover_lease_spans, .inl (cI, 5, .inl o_8_13)), (a_prover_lease_values, .inr (4, [.ref n_prover_lease_values])), (n_prover_lease_values, .inl (cI, 5, .inl o_8_14)), (a_prover_lease_cells, .inr (4, [.ref n_prover_lease_cells])), (n_prover_lease_cells, .inl (cI, 5, .inl o_8_15)), (a_prover_lease_needs, .inr (4, [.ref n_prover_lease_needs])), (n_prover_lease_needs, .inl (cI, 5, .inl o_8_16)), (a_reader, .inr (3, [.ref a_lease, .int o_27_2, .int o_27_3, .int o_27_4, .int o_27_5, .int o_27_6, .int o_27_7])), (a_lease, .inr (1, [.ref a_lease_places, .ref a_lease_firstHours, .ref a_lease_spans, .ref a_lease_values, .ref a_lease_cells, .ref a_lease_needs, .ref a_lease_owed, .ref a_lease_room, .int o_27_9, .int o_27_10, .int o_27_8])), (a_lease_owed, .inr (4, [.ref n_lease_owed])), (n_lease_owed, .inl (cI, 12, .inl o_27_17)), (a_lease_room, .inr (4, [.ref n_lease_room])), (n_lease_room, .inl (cI, 2, .inl o_27_18)), (a_lease_places, .inr (4, [.ref n_lease_places])), (n_lease_places, .inl (cI, 5, .inl o_27_11)), (a_lease_firstHours, .inr (4, [.ref n_lease_firstHours])), (n_lease_firstHours, .inl (cI, 5, .inl o_27_12)), (a_lease_spans, .inr (4, [.ref n_lease_spans])), (n_lease_spans, .inl (cI, 5, .inl o_27_13)), (a_lease_values, .inr (4, [.ref n_lease_values])), (n_lease_values, .inl (cI, 5, .inl o_27_14)), (a_lease_cells, .inr (4, [.ref n_lease_cells])), (n_lease_cells, .inl (cI, 5, .inl o_27_15)), (a_lease_needs, .inr (4, [.ref n_lease_needs])), (n_lease_needs, .inl (cI, 5, .inl o_27_16)), (a_survey, .inr (5, [.ref a_lease, .ref a_survey_lawful, .ref a_survey_grants, .ref a_survey_bests, .ref a_survey_mosts, .int i_survey_isMade])), (a_acts, .inr (0, [.ref a_acts_moments, .int i_acts_size])), (a_slots, .inr (4, [.ref n_slots])), (n_slots, .inl (cI, 2, .inl f_slots))] rfl rfl (by decide) (fun H locs hP hS => ?_)
    refine lv_pop hx hb dX7_letting_30 rfl ?_
    refine lv_aload_n hx hb dX7_letting_31 rfl (lv_at hl 0 rfl) ?_
    refine va_get (D := D) (ci := 7) (v := .ref a_survey) (C := RX7) (T := TX7) (N := 14) hx hb hts (fun _ h => List.mem_cons_of_mem _ (List.mem_append_left _ (List.mem_append_left _ (List.mem_append_left _ (List.mem_append_left _ (List.mem_append_left _ (List.mem_append_left _ (List.mem_append_right _ (h))))))))) hown hK hP 0 rfl rfl 4 (by decide) (hts _ (List.mem_of_getElem? (i := 4) rfl)) (fun _ h9 => h9) rfl dX7_letting_32 ?_
    obtain ⟨o_35, ho_35⟩ : ∃ z : Int32, z = v_X5_forget := ⟨_, rfl⟩
    refine callVV (As := []) (rest := []) o_35 ho_35 hF (k_X5_forget l D cI cZ a_survey a_lease a_survey_lawful a_survey_grants a_survey_bests a_survey_mosts i_survey_isMade) (cwV 0 hts gX7_letting_X5_forget rfl rfl rfl (by decide +kernel) ⟨Nat.le_of_ble_eq_true rfl, Nat.le_of_ble_eq_true rfl⟩) hK hN hP (va_Dsame hD rfl) hS hA [40] rfl rfl 40 5 (T := TX5) (N := 6) rfl rfl rfl hl.1 rfl (Nat.le_of_ble_eq_true rfl) dX7_letting_35 ⟨Nat.zero_le _, Nat.zero_le _⟩ [none, none, none, none, none, none, none, none, none, none, none, none, none, none, none, none, none, none, none, none, none, none, none, none, none, none, none, none, none, none, none, none, none, none, none, none, none, none, none, none, some 0, none, none, none] 1 [(a, .inr (7, [.ref a_text, .ref a_lease, .ref a_reader, .ref a_prover, .ref a_survey, .ref a_paths, .ref a_acts, .ref a_slots, .int i_hangingNow, .int i_hourNow, .int i_toldDark, .int i_toldLight, .int i_toldCount, .long j_seedNow])), (a_prover, .inr (3, [.ref a_prover_lease, .int o_8_2, .int o_8_3, .int o_8_4, .int o_8_5, .int o_8_6, .int o_8_7])), (a_prover_lease, .inr (1, [.ref a_prover_lease_places, .ref a_prover_lease_firstHours, .ref a_prover_lease_spans, .ref a_prover_lease_values, .ref a_prover_lease_cells, .ref a_prover_lease_needs, .ref a_prover_lease_owed, .ref a_prover_lease_room, .int o_8_9, .int o_8_10, .int o_8_8])), (a_prover_lease_owed, .inr (4, [.ref n_prover_lease_owed])), (n_prover_lease_owed, .inl (cI, 12, .inl o_8_17)), (a_prover_lease_room, .inr (4, [.ref n_prover_lease_room])), (n_prover_lease_room, .inl (cI, 2, .inl o_8_18)), (a_text, .inr (6, [.ref a_text_letters, .int i_text_length])), (a_text_letters, .inr (4, [.ref n_text_letters])), (n_text_letters, .inl (cI, 72, .inl f_text_letters)), (a_prover_lease_places, .inr (4, [.ref n_prover_lease_places])), (n_prover_lease_places, .inl (cI, 5, .inl o_8_11)), (a_prover_lease_firstHours, .inr (4, [.ref n_prover_lease_firstHours])), (n_prover_lease_firstHours, .inl (cI, 5, .inl o_8_12)), (a_prover_lease_spans, .inr (4, [.ref n_prover_lease_spans])), (n_prover_lease_spans, .inl (cI, 5, .inl o_8_13)), (a_prover_lease_values, .inr (4, [.ref n_prover_lease_values])), (n_prover_lease_values, .inl (cI, 5, .inl o_8_14)), (a_prover_lease_cells, .inr (4, [.ref n_prover_lease_cells])), (n_prover_lease_cells, .inl (cI, 5, .inl o_8_15)), (a_prover_lease_needs, .inr (4, [.ref n_prover_lease_needs])), (n_prover_lease_needs, .inl (cI, 5, .inl o_8_16)), (a_reader, .inr (3, [.ref a_lease, .int o_27_2, .int o_27_3, .int o_27_4, .int o_27_5, .int o_27_6, .int o_27_7])), (a_lease, .inr (1, [.ref a_lease_places, .ref a_lease_firstHours, .ref a_lease_spans, .ref a_lease_values, .ref a_lease_cells, .ref a_lease_needs, .ref a_lease_owed, .ref a_lease_room, .int o_27_9, .int o_27_10, .int o_27_8])), (a_lease_owed, .inr (4, [.ref n_lease_owed])), (n_lease_owed, .inl (cI, 12, .inl o_27_17)), (a_lease_room, .inr (4, [.ref n_lease_room])), (n_lease_room, .inl (cI, 2, .inl o_27_18)), (a_lease_places, .inr (4, [.ref n_lease_places])), (n_lease_places, .inl (cI, 5, .inl o_27_11)), (a_lease_firstHours, .inr (4, [.ref n_lease_firstHours])), (n_lease_firstHours, .inl (cI, 5, .inl o_27_12)), (a_lease_spans, .inr (4, [.ref n_lease_spans])), (n_lease_spans, .inl (cI, 5, .inl o_27_13)), (a_lease_values, .inr (4, [.ref n_lease_values])), (n_lease_values, .inl (cI, 5, .inl o_27_14)), (a_lease_cells, .inr (4, [.ref n_lease_cells])), (n_lease_cells, .inl (cI, 5, .inl o_27_15)), (a_lease_needs, .inr (4, [.ref n_lease_needs])), (n_lease_needs, .inl (cI, 5, .inl o_27_16)), (a_survey, .inr (5, [.ref a_lease, .ref a_survey_lawful, .ref a_survey_grants, .ref a_survey_bests, .ref a_survey_mosts, .int o_35])), (a_acts, .inr (0, [.ref a_acts_moments, .int i_acts_size])), (a_slots, .inr (4, [.ref n_slots])), (n_slots, .inl (cI, 2, .inl f_slots))] rfl rfl (by decide) (fun H locs hP hS => ?_)
    refine lv_aload_n hx hb dX7_letting_38 rfl (lv_at hl 0 rfl) ?_
    refine va_get (D := D) (ci := 7) (v := .ref a_acts) (C := RX7) (T := TX7) (N := 14) hx hb hts (fun _ h => List.mem_cons_of_mem _ (List.mem_append_left _ (List.mem_append_left _ (List.mem_append_left _ (List.mem_append_left _ (List.mem_append_left _ (List.mem_append_left _ (List.mem_append_right _ (h))))))))) hown hK hP 0 rfl rfl 6 (by decide) (hts _ (List.mem_of_getElem? (i := 5) rfl)) (fun _ h9 => h9) rfl dX7_letting_39 ?_
    obtain ⟨o_42, ho_42⟩ : ∃ z : Int32, z = v_X0_clear := ⟨_, rfl⟩
    refine callVV (As := []) (rest := []) o_42 ho_42 hF (k_X0_clear l D cI cZ a_acts a_acts_moments i_acts_size) (cwV 0 hts gX7_letting_X0_clear rfl rfl rfl (by decide +kernel) ⟨Nat.le_of_ble_eq_true rfl, Nat.le_of_ble_eq_true rfl⟩) hK hN hP (va_Dsame hD rfl) hS hA [41] rfl rfl 41 0 (T := TX0) (N := 2) rfl rfl rfl hl.1 rfl (Nat.le_of_ble_eq_true rfl) dX7_letting_42 ⟨Nat.zero_le _, Nat.zero_le _⟩ [none, none, none, none, none, none, none, none, none, none, none, none, none, none, none, none, none, none, none, none, none, none, none, none, none, none, none, none, none, none, none, none, none, none, none, none, none, none, none, none, none, some 0, none, none] 1 [(a, .inr (7, [.ref a_text, .ref a_lease, .ref a_reader, .ref a_prover, .ref a_survey, .ref a_paths, .ref a_acts, .ref a_slots, .int i_hangingNow, .int i_hourNow, .int i_toldDark, .int i_toldLight, .int i_toldCount, .long j_seedNow])), (a_prover, .inr (3, [.ref a_prover_lease, .int o_8_2, .int o_8_3, .int o_8_4, .int o_8_5, .int o_8_6, .int o_8_7])), (a_prover_lease, .inr (1, [.ref a_prover_lease_places, .ref a_prover_lease_firstHours, .ref a_prover_lease_spans, .ref a_prover_lease_values, .ref a_prover_lease_cells, .ref a_prover_lease_needs, .ref a_prover_lease_owed, .ref a_prover_lease_room, .int o_8_9, .int o_8_10, .int o_8_8])), (a_prover_lease_owed, .inr (4, [.ref n_prover_lease_owed])), (n_prover_lease_owed, .inl (cI, 12, .inl o_8_17)), (a_prover_lease_room, .inr (4, [.ref n_prover_lease_room])), (n_prover_lease_room, .inl (cI, 2, .inl o_8_18)), (a_text, .inr (6, [.ref a_text_letters, .int i_text_length])), (a_text_letters, .inr (4, [.ref n_text_letters])), (n_text_letters, .inl (cI, 72, .inl f_text_letters)), (a_prover_lease_places, .inr (4, [.ref n_prover_lease_places])), (n_prover_lease_places, .inl (cI, 5, .inl o_8_11)), (a_prover_lease_firstHours, .inr (4, [.ref n_prover_lease_firstHours])), (n_prover_lease_firstHours, .inl (cI, 5, .inl o_8_12)), (a_prover_lease_spans, .inr (4, [.ref n_prover_lease_spans])), (n_prover_lease_spans, .inl (cI, 5, .inl o_8_13)), (a_prover_lease_values, .inr (4, [.ref n_prover_lease_values])), (n_prover_lease_values, .inl (cI, 5, .inl o_8_14)), (a_prover_lease_cells, .inr (4, [.ref n_prover_lease_cells])), (n_prover_lease_cells, .inl (cI, 5, .inl o_8_15)), (a_prover_lease_needs, .inr (4, [.ref n_prover_lease_needs])), (n_prover_lease_needs, .inl (cI, 5, .inl o_8_16)), (a_reader, .inr (3, [.ref a_lease, .int o_27_2, .int o_27_3, .int o_27_4, .int o_27_5, .int o_27_6, .int o_27_7])), (a_lease, .inr (1, [.ref a_lease_places, .ref a_lease_firstHours, .ref a_lease_spans, .ref a_lease_values, .ref a_lease_cells, .ref a_lease_needs, .ref a_lease_owed, .ref a_lease_room, .int o_27_9, .int o_27_10, .int o_27_8])), (a_lease_owed, .inr (4, [.ref n_lease_owed])), (n_lease_owed, .inl (cI, 12, .inl o_27_17)), (a_lease_room, .inr (4, [.ref n_lease_room])), (n_lease_room, .inl (cI, 2, .inl o_27_18)), (a_lease_places, .inr (4, [.ref n_lease_places])), (n_lease_places, .inl (cI, 5, .inl o_27_11)), (a_lease_firstHours, .inr (4, [.ref n_lease_firstHours])), (n_lease_firstHours, .inl (cI, 5, .inl o_27_12)), (a_lease_spans, .inr (4, [.ref n_lease_spans])), (n_lease_spans, .inl (cI, 5, .inl o_27_13)), (a_lease_values, .inr (4, [.ref n_lease_values])), (n_lease_values, .inl (cI, 5, .inl o_27_14)), (a_lease_cells, .inr (4, [.ref n_lease_cells])), (n_lease_cells, .inl (cI, 5, .inl o_27_15)), (a_lease_needs, .inr (4, [.ref n_lease_needs])), (n_lease_needs, .inl (cI, 5, .inl o_27_16)), (a_survey, .inr (5, [.ref a_lease, .ref a_survey_lawful, .ref a_survey_grants, .ref a_survey_bests, .ref a_survey_mosts, .int o_35])), (a_acts, .inr (0, [.ref a_acts_moments, .int o_42])), (a_slots, .inr (4, [.ref n_slots])), (n_slots, .inl (cI, 2, .inl f_slots))] rfl rfl (by decide) (fun H locs hP hS => ?_)
    refine lv_aload_n hx hb dX7_letting_45 rfl (lv_at hl 0 rfl) ?_
    obtain ⟨o_46, ho_46⟩ : ∃ z : Nat → Int32, z = v_X7_emptySlots f_slots := ⟨_, rfl⟩
    refine callVV (As := []) (rest := []) o_46 ho_46 hF (k_X7_emptySlots l D cI cZ a a_text a_lease a_reader a_prover a_survey a_paths a_acts a_slots n_slots i_hangingNow i_hourNow i_toldDark i_toldLight i_toldCount j_seedNow f_slots) (cwV 0 hts gX7_letting_X7_emptySlots rfl rfl rfl (by decide +kernel) ⟨Nat.le_of_ble_eq_true rfl, Nat.le_of_ble_eq_true rfl⟩) hK hN hP (va_Dsame hD rfl) hS hA [0, 42, 43] rfl rfl 0 7 (T := TX7) (N := 14) rfl rfl rfl hl.1 rfl (Nat.le_of_ble_eq_true rfl) dX7_letting_46 ⟨Nat.zero_le _, Nat.zero_le _⟩ [some 0, none, none, none, none, none, none, none, none, none, none, none, none, none, none, none, none, none, none, none, none, none, none, none, none, none, none, none, none, none, none, none, none, none, none, none, none, none, none, none, none, none, some 1, some 2] 3 [(a, .inr (7, [.ref a_text, .ref a_lease, .ref a_reader, .ref a_prover, .ref a_survey, .ref a_paths, .ref a_acts, .ref a_slots, .int i_hangingNow, .int i_hourNow, .int i_toldDark, .int i_toldLight, .int i_toldCount, .long j_seedNow])), (a_prover, .inr (3, [.ref a_prover_lease, .int o_8_2, .int o_8_3, .int o_8_4, .int o_8_5, .int o_8_6, .int o_8_7])), (a_prover_lease, .inr (1, [.ref a_prover_lease_places, .ref a_prover_lease_firstHours, .ref a_prover_lease_spans, .ref a_prover_lease_values, .ref a_prover_lease_cells, .ref a_prover_lease_needs, .ref a_prover_lease_owed, .ref a_prover_lease_room, .int o_8_9, .int o_8_10, .int o_8_8])), (a_prover_lease_owed, .inr (4, [.ref n_prover_lease_owed])), (n_prover_lease_owed, .inl (cI, 12, .inl o_8_17)), (a_prover_lease_room, .inr (4, [.ref n_prover_lease_room])), (n_prover_lease_room, .inl (cI, 2, .inl o_8_18)), (a_text, .inr (6, [.ref a_text_letters, .int i_text_length])), (a_text_letters, .inr (4, [.ref n_text_letters])), (n_text_letters, .inl (cI, 72, .inl f_text_letters)), (a_prover_lease_places, .inr (4, [.ref n_prover_lease_places])), (n_prover_lease_places, .inl (cI, 5, .inl o_8_11)), (a_prover_lease_firstHours, .inr (4, [.ref n_prover_lease_firstHours])), (n_prover_lease_firstHours, .inl (cI, 5, .inl o_8_12)), (a_prover_lease_spans, .inr (4, [.ref n_prover_lease_spans])), (n_prover_lease_spans, .inl (cI, 5, .inl o_8_13)), (a_prover_lease_values, .inr (4, [.ref n_prover_lease_values])), (n_prover_lease_values, .inl (cI, 5, .inl o_8_14)), (a_prover_lease_cells, .inr (4, [.ref n_prover_lease_cells])), (n_prover_lease_cells, .inl (cI, 5, .inl o_8_15)), (a_prover_lease_needs, .inr (4, [.ref n_prover_lease_needs])), (n_prover_lease_needs, .inl (cI, 5, .inl o_8_16)), (a_reader, .inr (3, [.ref a_lease, .int o_27_2, .int o_27_3, .int o_27_4, .int o_27_5, .int o_27_6, .int o_27_7])), (a_lease, .inr (1, [.ref a_lease_places, .ref a_lease_firstHours, .ref a_lease_spans, .ref a_lease_values, .ref a_lease_cells, .ref a_lease_needs, .ref a_lease_owed, .ref a_lease_room, .int o_27_9, .int o_27_10, .int o_27_8])), (a_lease_owed, .inr (4, [.ref n_lease_owed])), (n_lease_owed, .inl (cI, 12, .inl o_27_17)), (a_lease_room, .inr (4, [.ref n_lease_room])), (n_lease_room, .inl (cI, 2, .inl o_27_18)), (a_lease_places, .inr (4, [.ref n_lease_places])), (n_lease_places, .inl (cI, 5, .inl o_27_11)), (a_lease_firstHours, .inr (4, [.ref n_lease_firstHours])), (n_lease_firstHours, .inl (cI, 5, .inl o_27_12)), (a_lease_spans, .inr (4, [.ref n_lease_spans])), (n_lease_spans, .inl (cI, 5, .inl o_27_13)), (a_lease_values, .inr (4, [.ref n_lease_values])), (n_lease_values, .inl (cI, 5, .inl o_27_14)), (a_lease_cells, .inr (4, [.ref n_lease_cells])), (n_lease_cells, .inl (cI, 5, .inl o_27_15)), (a_lease_needs, .inr (4, [.ref n_lease_needs])), (n_lease_needs, .inl (cI, 5, .inl o_27_16)), (a_survey, .inr (5, [.ref a_lease, .ref a_survey_lawful, .ref a_survey_grants, .ref a_survey_bests, .ref a_survey_mosts, .int o_35])), (a_acts, .inr (0, [.ref a_acts_moments, .int o_42])), (a_slots, .inr (4, [.ref n_slots])), (n_slots, .inl (cI, 2, .inl o_46))] rfl rfl (by decide) (fun H locs hP hS => ?_)
    refine lv_aload_n hx hb dX7_letting_49 rfl (lv_at hl 0 rfl) ?_
    refine lv_aload_n hx hb dX7_letting_50 rfl (lv_at hl 0 rfl) ?_
    refine va_get (D := D) (ci := 7) (v := .ref a_lease) (C := RX7) (T := TX7) (N := 14) hx hb hts (fun _ h => List.mem_cons_of_mem _ (List.mem_append_left _ (List.mem_append_left _ (List.mem_append_left _ (List.mem_append_left _ (List.mem_append_left _ (List.mem_append_left _ (List.mem_append_right _ (h))))))))) hown hK hP 0 rfl rfl 1 (by decide) (hts _ (List.mem_of_getElem? (i := 6) rfl)) (fun _ h9 => h9) rfl dX7_letting_51 ?_
    obtain ⟨o_54, ho_54⟩ : ∃ z : Int32, z = v_X1_squares o_27_9 := ⟨_, rfl⟩
    refine callVIs (As := []) (rest := [.ref a]) o_54 ho_54 hF (k_X1_squares l D cI cZ a_lease a_lease_places a_lease_firstHours a_lease_spans a_lease_values a_lease_cells a_lease_needs a_lease_owed a_lease_room o_27_9 o_27_10 o_27_8) (cwV 0 hts gX7_letting_X1_squares rfl rfl rfl (by decide +kernel) ⟨Nat.le_of_ble_eq_true rfl, Nat.le_of_ble_eq_true rfl⟩) hK hN hP (va_Dsame hD rfl) hS hA [23] rfl rfl 23 1 (T := TX1) (N := 11) rfl rfl rfl hl.1 rfl (Nat.le_of_ble_eq_true rfl) dX7_letting_54 ⟨Nat.zero_le _, Nat.zero_le _⟩ o_54 rfl rfl (fun H locs hP hS => ?_)
    refine va_put (D := D) (ci := 7) (v := .int o_54) (ty := .int) (C := RX7) (T := TX7) (N := 14) hx hb hts (fun _ h => List.mem_cons_of_mem _ (List.mem_append_left _ (List.mem_append_left _ (List.mem_append_left _ (List.mem_append_left _ (List.mem_append_left _ (List.mem_append_left _ (List.mem_append_right _ (h))))))))) tyX7 tyX7_ok nmX7 hown hK hP (va_Dsame hD rfl) hS 0 rfl rfl 8 (by decide) (hts _ (List.mem_of_getElem? (i := 7) rfl)) (fun _ h9 => h9) rfl (tyX7_ok 8 (by decide)) rfl rfl (Nat.le_of_ble_eq_true rfl) dX7_letting_57 (fun H locs hP _ hS => ?_)
    have hP : va_P D vwCl [(a, .inr (7, [.ref a_text, .ref a_lease, .ref a_reader, .ref a_prover, .ref a_survey, .ref a_paths, .ref a_acts, .ref a_slots, .int o_54, .int i_hourNow, .int i_toldDark, .int i_toldLight, .int i_toldCount, .long j_seedNow])), (a_prover, .inr (3, [.ref a_prover_lease, .int o_8_2, .int o_8_3, .int o_8_4, .int o_8_5, .int o_8_6, .int o_8_7])), (a_prover_lease, .inr (1, [.ref a_prover_lease_places, .ref a_prover_lease_firstHours, .ref a_prover_lease_spans, .ref a_prover_lease_values, .ref a_prover_lease_cells, .ref a_prover_lease_needs, .ref a_prover_lease_owed, .ref a_prover_lease_room, .int o_8_9, .int o_8_10, .int o_8_8])), (a_prover_lease_owed, .inr (4, [.ref n_prover_lease_owed])), (n_prover_lease_owed, .inl (cI, 12, .inl o_8_17)), (a_prover_lease_room, .inr (4, [.ref n_prover_lease_room])), (n_prover_lease_room, .inl (cI, 2, .inl o_8_18)), (a_text, .inr (6, [.ref a_text_letters, .int i_text_length])), (a_text_letters, .inr (4, [.ref n_text_letters])), (n_text_letters, .inl (cI, 72, .inl f_text_letters)), (a_prover_lease_places, .inr (4, [.ref n_prover_lease_places])), (n_prover_lease_places, .inl (cI, 5, .inl o_8_11)), (a_prover_lease_firstHours, .inr (4, [.ref n_prover_lease_firstHours])), (n_prover_lease_firstHours, .inl (cI, 5, .inl o_8_12)), (a_prover_lease_spans, .inr (4, [.ref n_prover_lease_spans])), (n_prover_lease_spans, .inl (cI, 5, .inl o_8_13)), (a_prover_lease_values, .inr (4, [.ref n_prover_lease_values])), (n_prover_lease_values, .inl (cI, 5, .inl o_8_14)), (a_prover_lease_cells, .inr (4, [.ref n_prover_lease_cells])), (n_prover_lease_cells, .inl (cI, 5, .inl o_8_15)), (a_prover_lease_needs, .inr (4, [.ref n_prover_lease_needs])), (n_prover_lease_needs, .inl (cI, 5, .inl o_8_16)), (a_reader, .inr (3, [.ref a_lease, .int o_27_2, .int o_27_3, .int o_27_4, .int o_27_5, .int o_27_6, .int o_27_7])), (a_lease, .inr (1, [.ref a_lease_places, .ref a_lease_firstHours, .ref a_lease_spans, .ref a_lease_values, .ref a_lease_cells, .ref a_lease_needs, .ref a_lease_owed, .ref a_lease_room, .int o_27_9, .int o_27_10, .int o_27_8])), (a_lease_owed, .inr (4, [.ref n_lease_owed])), (n_lease_owed, .inl (cI, 12, .inl o_27_17)), (a_lease_room, .inr (4, [.ref n_lease_room])), (n_lease_room, .inl (cI, 2, .inl o_27_18)), (a_lease_places, .inr (4, [.ref n_lease_places])), (n_lease_places, .inl (cI, 5, .inl o_27_11)), (a_lease_firstHours, .inr (4, [.ref n_lease_firstHours])), (n_lease_firstHours, .inl (cI, 5, .inl o_27_12)), (a_lease_spans, .inr (4, [.ref n_lease_spans])), (n_lease_spans, .inl (cI, 5, .inl o_27_13)), (a_lease_values, .inr (4, [.ref n_lease_values])), (n_lease_values, .inl (cI, 5, .inl o_27_14)), (a_lease_cells, .inr (4, [.ref n_lease_cells])), (n_lease_cells, .inl (cI, 5, .inl o_27_15)), (a_lease_needs, .inr (4, [.ref n_lease_needs])), (n_lease_needs, .inl (cI, 5, .inl o_27_16)), (a_survey, .inr (5, [.ref a_lease, .ref a_survey_lawful, .ref a_survey_grants, .ref a_survey_bests, .ref a_survey_mosts, .int o_35])), (a_acts, .inr (0, [.ref a_acts_moments, .int o_42])), (a_slots, .inr (4, [.ref n_slots])), (n_slots, .inl (cI, 2, .inl o_46))] H := hP
    refine lv_aload_n hx hb dX7_letting_60 rfl (lv_at hl 0 rfl) ?_
    refine lv_iconst (v := 0) hx hb dX7_letting_61 rfl ?_
    refine va_put (D := D) (ci := 7) (v := .int 0) (ty := .int) (C := RX7) (T := TX7) (N := 14) hx hb hts (fun _ h => List.mem_cons_of_mem _ (List.mem_append_left _ (List.mem_append_left _ (List.mem_append_left _ (List.mem_append_left _ (List.mem_append_left _ (List.mem_append_left _ (List.mem_append_right _ (h))))))))) tyX7 tyX7_ok nmX7 hown hK hP (va_Dsame hD rfl) hS 0 rfl rfl 9 (by decide) (hts _ (List.mem_of_getElem? (i := 8) rfl)) (fun _ h9 => h9) rfl (tyX7_ok 9 (by decide)) rfl rfl (Nat.le_of_ble_eq_true rfl) dX7_letting_62 (fun H locs hP _ hS => ?_)
    have hP : va_P D vwCl [(a, .inr (7, [.ref a_text, .ref a_lease, .ref a_reader, .ref a_prover, .ref a_survey, .ref a_paths, .ref a_acts, .ref a_slots, .int o_54, .int 0, .int i_toldDark, .int i_toldLight, .int i_toldCount, .long j_seedNow])), (a_prover, .inr (3, [.ref a_prover_lease, .int o_8_2, .int o_8_3, .int o_8_4, .int o_8_5, .int o_8_6, .int o_8_7])), (a_prover_lease, .inr (1, [.ref a_prover_lease_places, .ref a_prover_lease_firstHours, .ref a_prover_lease_spans, .ref a_prover_lease_values, .ref a_prover_lease_cells, .ref a_prover_lease_needs, .ref a_prover_lease_owed, .ref a_prover_lease_room, .int o_8_9, .int o_8_10, .int o_8_8])), (a_prover_lease_owed, .inr (4, [.ref n_prover_lease_owed])), (n_prover_lease_owed, .inl (cI, 12, .inl o_8_17)), (a_prover_lease_room, .inr (4, [.ref n_prover_lease_room])), (n_prover_lease_room, .inl (cI, 2, .inl o_8_18)), (a_text, .inr (6, [.ref a_text_letters, .int i_text_length])), (a_text_letters, .inr (4, [.ref n_text_letters])), (n_text_letters, .inl (cI, 72, .inl f_text_letters)), (a_prover_lease_places, .inr (4, [.ref n_prover_lease_places])), (n_prover_lease_places, .inl (cI, 5, .inl o_8_11)), (a_prover_lease_firstHours, .inr (4, [.ref n_prover_lease_firstHours])), (n_prover_lease_firstHours, .inl (cI, 5, .inl o_8_12)), (a_prover_lease_spans, .inr (4, [.ref n_prover_lease_spans])), (n_prover_lease_spans, .inl (cI, 5, .inl o_8_13)), (a_prover_lease_values, .inr (4, [.ref n_prover_lease_values])), (n_prover_lease_values, .inl (cI, 5, .inl o_8_14)), (a_prover_lease_cells, .inr (4, [.ref n_prover_lease_cells])), (n_prover_lease_cells, .inl (cI, 5, .inl o_8_15)), (a_prover_lease_needs, .inr (4, [.ref n_prover_lease_needs])), (n_prover_lease_needs, .inl (cI, 5, .inl o_8_16)), (a_reader, .inr (3, [.ref a_lease, .int o_27_2, .int o_27_3, .int o_27_4, .int o_27_5, .int o_27_6, .int o_27_7])), (a_lease, .inr (1, [.ref a_lease_places, .ref a_lease_firstHours, .ref a_lease_spans, .ref a_lease_values, .ref a_lease_cells, .ref a_lease_needs, .ref a_lease_owed, .ref a_lease_room, .int o_27_9, .int o_27_10, .int o_27_8])), (a_lease_owed, .inr (4, [.ref n_lease_owed])), (n_lease_owed, .inl (cI, 12, .inl o_27_17)), (a_lease_room, .inr (4, [.ref n_lease_room])), (n_lease_room, .inl (cI, 2, .inl o_27_18)), (a_lease_places, .inr (4, [.ref n_lease_places])), (n_lease_places, .inl (cI, 5, .inl o_27_11)), (a_lease_firstHours, .inr (4, [.ref n_lease_firstHours])), (n_lease_firstHours, .inl (cI, 5, .inl o_27_12)), (a_lease_spans, .inr (4, [.ref n_lease_spans])), (n_lease_spans, .inl (cI, 5, .inl o_27_13)), (a_lease_values, .inr (4, [.ref n_lease_values])), (n_lease_values, .inl (cI, 5, .inl o_27_14)), (a_lease_cells, .inr (4, [.ref n_lease_cells])), (n_lease_cells, .inl (cI, 5, .inl o_27_15)), (a_lease_needs, .inr (4, [.ref n_lease_needs])), (n_lease_needs, .inl (cI, 5, .inl o_27_16)), (a_survey, .inr (5, [.ref a_lease, .ref a_survey_lawful, .ref a_survey_grants, .ref a_survey_bests, .ref a_survey_mosts, .int o_35])), (a_acts, .inr (0, [.ref a_acts_moments, .int o_42])), (a_slots, .inr (4, [.ref n_slots])), (n_slots, .inl (cI, 2, .inl o_46))] H := hP
    refine lv_aload_n hx hb dX7_letting_65 rfl (lv_at hl 0 rfl) ?_
    refine va_get (D := D) (ci := 7) (v := .ref a_lease) (C := RX7) (T := TX7) (N := 14) hx hb hts (fun _ h => List.mem_cons_of_mem _ (List.mem_append_left _ (List.mem_append_left _ (List.mem_append_left _ (List.mem_append_left _ (List.mem_append_left _ (List.mem_append_left _ (List.mem_append_right _ (h))))))))) hown hK hP 0 rfl rfl 1 (by decide) (hts _ (List.mem_of_getElem? (i := 6) rfl)) (fun _ h9 => h9) rfl dX7_letting_66 ?_
    obtain ⟨o_69, ho_69⟩ : ∃ z : Int32, z = v_X1_wishCount o_27_10 := ⟨_, rfl⟩
    refine callVIs (As := []) (rest := []) o_69 ho_69 hF (k_X1_wishCount l D cI cZ a_lease a_lease_places a_lease_firstHours a_lease_spans a_lease_values a_lease_cells a_lease_needs a_lease_owed a_lease_room o_27_9 o_27_10 o_27_8) (cwV 0 hts gX7_letting_X1_wishCount rfl rfl rfl (by decide +kernel) ⟨Nat.le_of_ble_eq_true rfl, Nat.le_of_ble_eq_true rfl⟩) hK hN hP (va_Dsame hD rfl) hS hA [23] rfl rfl 23 1 (T := TX1) (N := 11) rfl rfl rfl hl.1 rfl (Nat.le_of_ble_eq_true rfl) dX7_letting_69 ⟨Nat.zero_le _, Nat.zero_le _⟩ o_69 rfl rfl (fun H locs hP hS => ?_)
    have e9 : v_X7_letting i_hangingNow i_hourNow i_prover_come i_prover_number i_prover_firstHour i_prover_span i_prover_value f_prover_lease_owed f_prover_lease_room i_text_length f_text_letters f_prover_lease_places f_prover_lease_firstHours f_prover_lease_spans f_prover_lease_values f_prover_lease_cells f_prover_lease_needs i_reader_part i_reader_come i_reader_number i_reader_firstHour i_reader_span i_reader_value i_lease_squares i_lease_wishCount i_lease_owedPlaces f_lease_owed f_lease_room f_lease_places f_lease_firstHours f_lease_spans f_lease_values f_lease_cells f_lease_needs i_survey_isMade i_acts_size f_slots = (o_69, o_54, 0, o_8_2, o_8_3, o_8_4, o_8_5, o_8_6, o_8_7, o_8_11, o_8_12, o_8_13, o_8_14, o_8_15, o_8_8, o_8_9, o_8_10, o_8_16, o_27_2, o_27_3, o_27_4, o_27_5, o_27_6, o_27_7, o_27_8, o_27_9, o_27_10, o_27_17, o_27_18, o_27_11, o_27_12, o_27_13, o_27_14, o_27_15, o_27_16, o_8_17, o_35, o_42, o_46, o_8_18) := by
      refine (bnd18_eq ho_8).trans ?_
      refine (if_pos c_13).trans ?_
      refine (bnd18_eq ho_27).trans ?_
      refine (bnd_eq ho_35).trans ?_
      refine (bnd_eq ho_42).trans ?_
      refine (bnd_eq ho_46).trans ?_
      refine (bnd_eq ho_54).trans ?_
      refine (bnd_eq ho_69).trans ?_
      rfl
    rw [hQ]; exact retI (o_69, o_54, 0, o_8_2, o_8_3, o_8_4, o_8_5, o_8_6, o_8_7, o_8_11, o_8_12, o_8_13, o_8_14, o_8_15, o_8_8, o_8_9, o_8_10, o_8_16, o_27_2, o_27_3, o_27_4, o_27_5, o_27_6, o_27_7, o_27_8, o_27_9, o_27_10, o_27_17, o_27_18, o_27_11, o_27_12, o_27_13, o_27_14, o_27_15, o_27_16, o_8_17, o_35, o_42, o_46, o_8_18) hx hb hr hlk e9 hP rfl hS dX7_letting_72
  · refine lv_bipush (v := (-3)) hx hb dX7_letting_16 rfl ?_
    have e9 : v_X7_letting i_hangingNow i_hourNow i_prover_come i_prover_number i_prover_firstHour i_prover_span i_prover_value f_prover_lease_owed f_prover_lease_room i_text_length f_text_letters f_prover_lease_places f_prover_lease_firstHours f_prover_lease_spans f_prover_lease_values f_prover_lease_cells f_prover_lease_needs i_reader_part i_reader_come i_reader_number i_reader_firstHour i_reader_span i_reader_value i_lease_squares i_lease_wishCount i_lease_owedPlaces f_lease_owed f_lease_room f_lease_places f_lease_firstHours f_lease_spans f_lease_values f_lease_cells f_lease_needs i_survey_isMade i_acts_size f_slots = ((-3), i_hangingNow, i_hourNow, o_8_2, o_8_3, o_8_4, o_8_5, o_8_6, o_8_7, o_8_11, o_8_12, o_8_13, o_8_14, o_8_15, o_8_8, o_8_9, o_8_10, o_8_16, i_reader_part, i_reader_come, i_reader_number, i_reader_firstHour, i_reader_span, i_reader_value, i_lease_owedPlaces, i_lease_squares, i_lease_wishCount, f_lease_owed, f_lease_room, f_lease_places, f_lease_firstHours, f_lease_spans, f_lease_values, f_lease_cells, f_lease_needs, o_8_17, i_survey_isMade, i_acts_size, f_slots, o_8_18) := by
      refine (bnd18_eq ho_8).trans ?_
      refine (if_neg c_13).trans ?_
      rfl
    rw [hQ]; exact retI ((-3), i_hangingNow, i_hourNow, o_8_2, o_8_3, o_8_4, o_8_5, o_8_6, o_8_7, o_8_11, o_8_12, o_8_13, o_8_14, o_8_15, o_8_8, o_8_9, o_8_10, o_8_16, i_reader_part, i_reader_come, i_reader_number, i_reader_firstHour, i_reader_span, i_reader_value, i_lease_owedPlaces, i_lease_squares, i_lease_wishCount, f_lease_owed, f_lease_room, f_lease_places, f_lease_firstHours, f_lease_spans, f_lease_values, f_lease_cells, f_lease_needs, o_8_17, i_survey_isMade, i_acts_size, f_slots, o_8_18) hx hb hr hlk e9 hP rfl hS dX7_letting_18
def v_X7_isWish (x1 : Int32) (i_lease_wishCount : Int32) : Bool :=
  if x1 < 0 then false
  else (bnd (v_X1_wishCount i_lease_wishCount) fun o_9 =>
  (if o_9 ≤ x1 then false
  else true))
abbrev rm_X7_isWish : Room := { frames := 1, cells := 0, slots := 0, locals := 20 }
set_option maxHeartbeats 4000000 in
set_option maxRecDepth 100000 in
theorem k_X7_isWish (l : Launch) (D : va_G) (cI cZ : ClassId) (a a_text a_lease a_reader a_prover a_survey a_paths a_acts a_slots a_lease_places a_lease_firstHours a_lease_spans a_lease_values a_lease_cells a_lease_needs a_lease_owed a_lease_room : Nat) (x1 : Int32) (i_hangingNow : Int32) (i_hourNow : Int32) (i_toldDark : Int32) (i_toldLight : Int32) (i_toldCount : Int32) (j_seedNow : Int64) (i_lease_squares : Int32) (i_lease_wishCount : Int32) (i_lease_owedPlaces : Int32) : KI l D cI cZ yX7_isWish wsX7_isWish rm_X7_isWish [.ref a, .int x1] [(a, .inr (7, [.ref a_text, .ref a_lease, .ref a_reader, .ref a_prover, .ref a_survey, .ref a_paths, .ref a_acts, .ref a_slots, .int i_hangingNow, .int i_hourNow, .int i_toldDark, .int i_toldLight, .int i_toldCount, .long j_seedNow])), (a_lease, .inr (1, [.ref a_lease_places, .ref a_lease_firstHours, .ref a_lease_spans, .ref a_lease_values, .ref a_lease_cells, .ref a_lease_needs, .ref a_lease_owed, .ref a_lease_room, .int i_lease_squares, .int i_lease_wishCount, .int i_lease_owedPlaces]))] (v_X7_isWish x1 i_lease_wishCount) (fun o : Bool => bI o) (fun _ : Bool => [(a, .inr (7, [.ref a_text, .ref a_lease, .ref a_reader, .ref a_prover, .ref a_survey, .ref a_paths, .ref a_acts, .ref a_slots, .int i_hangingNow, .int i_hourNow, .int i_toldDark, .int i_toldLight, .int i_toldCount, .long j_seedNow])), (a_lease, .inr (1, [.ref a_lease_places, .ref a_lease_firstHours, .ref a_lease_spans, .ref a_lease_values, .ref a_lease_cells, .ref a_lease_needs, .ref a_lease_owed, .ref a_lease_room, .int i_lease_squares, .int i_lease_wishCount, .int i_lease_owedPlaces]))]) := by
  refine KI.of cX7_isWish 2 (some .boolean) (by decide) rfl (Nat.le_of_ble_eq_true rfl) ?_
  intro p e s m below meth c A ls ar Q hQ B
  obtain ⟨hx, hb, hr, hml, hts, hown, hlk, hK, hN, hP, hD, hA, hS, hl⟩ := B
  have hown : s.vm.findClass RX7 = some m.cls := hown
  have hF : CallFix p m c cX7_isWish 2 s ar wsX7_isWish RX7 := ⟨hx, hb, hml, hown, hts⟩
  have hl : lv_has ls 2 [(0, .ref a), (1, .int x1)] := hl
  refine lv_iload_n hx hb dX7_isWish_0 rfl (lv_at hl 1 rfl) ?_
  refine lv_if_lt (tgt := 19) hx hb dX7_isWish_1 (by decide) (fun c_1 => ?_) (fun c_1 => ?_)
  · refine lv_iconst (v := 0) hx hb dX7_isWish_19 rfl ?_
    have e9 : v_X7_isWish x1 i_lease_wishCount = false := by
      refine (if_pos c_1).trans ?_
      rfl
    rw [hQ]; exact retZ (v := fun o : Bool => o) false hx hb hr hlk e9 hP rfl hS dX7_isWish_20
  · refine lv_iload_n hx hb dX7_isWish_4 rfl (lv_at hl 1 rfl) ?_
    refine lv_aload_n hx hb dX7_isWish_5 rfl (lv_at hl 0 rfl) ?_
    refine va_get (D := D) (ci := 7) (v := .ref a_lease) (C := RX7) (T := TX7) (N := 14) hx hb hts (fun _ h => List.mem_cons_of_mem _ (List.mem_append_left _ (List.mem_append_right _ (h)))) hown hK hP 0 rfl rfl 1 (by decide) (hts _ (List.mem_of_getElem? (i := 1) rfl)) (fun _ h9 => h9) rfl dX7_isWish_6 ?_
    obtain ⟨o_9, ho_9⟩ : ∃ z : Int32, z = v_X1_wishCount i_lease_wishCount := ⟨_, rfl⟩
    refine callVIs (As := []) (rest := [.int x1]) o_9 ho_9 hF (k_X1_wishCount l D cI cZ a_lease a_lease_places a_lease_firstHours a_lease_spans a_lease_values a_lease_cells a_lease_needs a_lease_owed a_lease_room i_lease_squares i_lease_wishCount i_lease_owedPlaces) (cwV 0 hts gX7_isWish_X1_wishCount rfl rfl rfl (by decide +kernel) ⟨Nat.le_of_ble_eq_true rfl, Nat.le_of_ble_eq_true rfl⟩) hK hN hP (va_Dsame hD rfl) hS hA [1] rfl rfl 1 1 (T := TX1) (N := 11) rfl rfl rfl hl.1 rfl (Nat.le_of_ble_eq_true rfl) dX7_isWish_9 ⟨Nat.zero_le _, Nat.zero_le _⟩ o_9 rfl rfl (fun H locs hP hS => ?_)
    refine lv_icmp_ge (tgt := 19) hx hb dX7_isWish_12 (by decide) (fun c_12 => ?_) (fun c_12 => ?_)
    · refine lv_iconst (v := 0) hx hb dX7_isWish_19 rfl ?_
      have e9 : v_X7_isWish x1 i_lease_wishCount = false := by
        refine (if_neg c_1).trans ?_
        refine (bnd_eq ho_9).trans ?_
        refine (if_pos c_12).trans ?_
        rfl
      rw [hQ]; exact retZ (v := fun o : Bool => o) false hx hb hr hlk e9 hP rfl hS dX7_isWish_20
    · refine lv_iconst (v := 1) hx hb dX7_isWish_15 rfl ?_
      refine lv_goto (tgt := 20) hx hb dX7_isWish_16 (by decide) ?_
      have e9 : v_X7_isWish x1 i_lease_wishCount = true := by
        refine (if_neg c_1).trans ?_
        refine (bnd_eq ho_9).trans ?_
        refine (if_neg c_12).trans ?_
        rfl
      rw [hQ]; exact retZ (v := fun o : Bool => o) true hx hb hr hlk e9 hP rfl hS dX7_isWish_20
def v_X7_wish (x1 : Int32) (x2 : Int32) (i_hangingNow : Int32) (i_lease_wishCount : Int32) (f_lease_places : Nat → Int32) (f_lease_firstHours : Nat → Int32) (f_lease_spans : Nat → Int32) (f_lease_values : Nat → Int32) (f_lease_needs : Nat → Int32) (f_lease_cells : Nat → Int32) : Int32 :=
  bnd (v_X7_isWish x1 i_lease_wishCount) fun o_2 =>
  (if bI o_2 = 0 then (-1)
  else (if x2 = 0 then (bnd (v_X1_placeOf x1 f_lease_places) fun o_57 =>
    o_57)
  else (if x2 = 1 then (bnd (v_X1_firstHourOf x1 f_lease_firstHours) fun o_66 =>
    o_66)
  else (if x2 = 2 then (bnd (v_X1_spanOf x1 f_lease_spans) fun o_75 =>
    o_75)
  else (if x2 = 3 then (bnd (v_X1_valueOf x1 f_lease_values) fun o_84 =>
    o_84)
  else (if x2 = 4 then (bnd (v_X1_wantsDark x1 f_lease_needs) fun o_93 =>
    (if bI o_93 = 0 then 0
    else 1))
  else (if x2 = 5 then (bnd (v_X1_grantedBy i_hangingNow i_lease_wishCount f_lease_cells f_lease_needs) fun o_113 =>
    (bnd (v_X7_has o_113 x1) fun o_117 =>
    (if bI o_117 = 0 then 0
    else 1)))
  else (if x2 = 6 then (bnd (v_X1_hoursOf x1 f_lease_spans f_lease_firstHours) fun o_134 =>
    o_134)
  else (-2)))))))))
abbrev rm_X7_wish : Room := { frames := 2, cells := 0, slots := 0, locals := 44 }
set_option maxHeartbeats 4000000 in
set_option maxRecDepth 100000 in
theorem k_X7_wish (l : Launch) (D : va_G) (cI cZ : ClassId) (a a_text a_lease a_reader a_prover a_survey a_paths a_acts a_slots a_lease_places a_lease_firstHours a_lease_spans a_lease_values a_lease_cells a_lease_needs a_lease_owed a_lease_room n_lease_places n_lease_firstHours n_lease_spans n_lease_values n_lease_needs n_lease_cells : Nat) (x1 : Int32) (x2 : Int32) (i_hangingNow : Int32) (i_hourNow : Int32) (i_toldDark : Int32) (i_toldLight : Int32) (i_toldCount : Int32) (j_seedNow : Int64) (i_lease_squares : Int32) (i_lease_wishCount : Int32) (i_lease_owedPlaces : Int32) (f_lease_places : Nat → Int32) (f_lease_firstHours : Nat → Int32) (f_lease_spans : Nat → Int32) (f_lease_values : Nat → Int32) (f_lease_needs : Nat → Int32) (f_lease_cells : Nat → Int32) : KI l D cI cZ yX7_wish wsX7_wish rm_X7_wish [.ref a, .int x1, .int x2] [(a, .inr (7, [.ref a_text, .ref a_lease, .ref a_reader, .ref a_prover, .ref a_survey, .ref a_paths, .ref a_acts, .ref a_slots, .int i_hangingNow, .int i_hourNow, .int i_toldDark, .int i_toldLight, .int i_toldCount, .long j_seedNow])), (a_lease, .inr (1, [.ref a_lease_places, .ref a_lease_firstHours, .ref a_lease_spans, .ref a_lease_values, .ref a_lease_cells, .ref a_lease_needs, .ref a_lease_owed, .ref a_lease_room, .int i_lease_squares, .int i_lease_wishCount, .int i_lease_owedPlaces])), (a_lease_places, .inr (4, [.ref n_lease_places])), (n_lease_places, .inl (cI, 5, .inl f_lease_places)), (a_lease_firstHours, .inr (4, [.ref n_lease_firstHours])), (n_lease_firstHours, .inl (cI, 5, .inl f_lease_firstHours)), (a_lease_spans, .inr (4, [.ref n_lease_spans])), (n_lease_spans, .inl (cI, 5, .inl f_lease_spans)), (a_lease_values, .inr (4, [.ref n_lease_values])), (n_lease_values, .inl (cI, 5, .inl f_lease_values)), (a_lease_needs, .inr (4, [.ref n_lease_needs])), (n_lease_needs, .inl (cI, 5, .inl f_lease_needs)), (a_lease_cells, .inr (4, [.ref n_lease_cells])), (n_lease_cells, .inl (cI, 5, .inl f_lease_cells))] (v_X7_wish x1 x2 i_hangingNow i_lease_wishCount f_lease_places f_lease_firstHours f_lease_spans f_lease_values f_lease_needs f_lease_cells) (fun o : Int32 => o) (fun _ : Int32 => [(a, .inr (7, [.ref a_text, .ref a_lease, .ref a_reader, .ref a_prover, .ref a_survey, .ref a_paths, .ref a_acts, .ref a_slots, .int i_hangingNow, .int i_hourNow, .int i_toldDark, .int i_toldLight, .int i_toldCount, .long j_seedNow])), (a_lease, .inr (1, [.ref a_lease_places, .ref a_lease_firstHours, .ref a_lease_spans, .ref a_lease_values, .ref a_lease_cells, .ref a_lease_needs, .ref a_lease_owed, .ref a_lease_room, .int i_lease_squares, .int i_lease_wishCount, .int i_lease_owedPlaces])), (a_lease_places, .inr (4, [.ref n_lease_places])), (n_lease_places, .inl (cI, 5, .inl f_lease_places)), (a_lease_firstHours, .inr (4, [.ref n_lease_firstHours])), (n_lease_firstHours, .inl (cI, 5, .inl f_lease_firstHours)), (a_lease_spans, .inr (4, [.ref n_lease_spans])), (n_lease_spans, .inl (cI, 5, .inl f_lease_spans)), (a_lease_values, .inr (4, [.ref n_lease_values])), (n_lease_values, .inl (cI, 5, .inl f_lease_values)), (a_lease_needs, .inr (4, [.ref n_lease_needs])), (n_lease_needs, .inl (cI, 5, .inl f_lease_needs)), (a_lease_cells, .inr (4, [.ref n_lease_cells])), (n_lease_cells, .inl (cI, 5, .inl f_lease_cells))]) := by
  refine KI.of cX7_wish 3 (some .int) (by decide) rfl (Nat.le_of_ble_eq_true rfl) ?_
  intro p e s m below meth c A ls ar Q hQ B
  obtain ⟨hx, hb, hr, hml, hts, hown, hlk, hK, hN, hP, hD, hA, hS, hl⟩ := B
  have hown : s.vm.findClass RX7 = some m.cls := hown
  have hF : CallFix p m c cX7_wish 3 s ar wsX7_wish RX7 := ⟨hx, hb, hml, hown, hts⟩
  have hl : lv_has ls 3 [(0, .ref a), (1, .int x1), (2, .int x2)] := hl
  refine lv_aload_n hx hb dX7_wish_0 rfl (lv_at hl 0 rfl) ?_
  refine lv_iload_n hx hb dX7_wish_1 rfl (lv_at hl 1 rfl) ?_
  obtain ⟨o_2, ho_2⟩ : ∃ z : Bool, z = v_X7_isWish x1 i_lease_wishCount := ⟨_, rfl⟩
  refine callVIs (As := [.int x1]) (rest := []) o_2 ho_2 hF (k_X7_isWish l D cI cZ a a_text a_lease a_reader a_prover a_survey a_paths a_acts a_slots a_lease_places a_lease_firstHours a_lease_spans a_lease_values a_lease_cells a_lease_needs a_lease_owed a_lease_room x1 i_hangingNow i_hourNow i_toldDark i_toldLight i_toldCount j_seedNow i_lease_squares i_lease_wishCount i_lease_owedPlaces) (cwV 1 hts gX7_wish_X7_isWish rfl rfl rfl (by decide +kernel) ⟨Nat.le_of_ble_eq_true rfl, Nat.le_of_ble_eq_true rfl⟩) hK hN hP (va_Dsame hD rfl) hS hA [0, 1] rfl rfl 0 7 (T := TX7) (N := 14) rfl rfl rfl hl.1 rfl (Nat.le_of_ble_eq_true rfl) dX7_wish_2 ⟨Nat.zero_le _, Nat.zero_le _⟩ (bI o_2) rfl rfl (fun H locs hP hS => ?_)
  refine lv_if_ne (tgt := 10) hx hb dX7_wish_5 (by decide) (fun c_5 => ?_) (fun c_5 => ?_)
  · refine lv_iload_n hx hb dX7_wish_10 rfl (lv_at hl 2 rfl) ?_
    by_cases c_11_0 : x2 = 0
    · have hxI : (x2).toInt = 0 := by rw [c_11_0]; rfl
      refine lv_tableIn (off := 41) (tgt := 52) hx hb dX7_wish_11 (by rw [hxI]; decide) (by rw [hxI]; decide) (by rw [hxI]; rfl) (by decide) ?_
      refine lv_aload_n hx hb dX7_wish_52 rfl (lv_at hl 0 rfl) ?_
      refine va_get (D := D) (ci := 7) (v := .ref a_lease) (C := RX7) (T := TX7) (N := 14) hx hb hts (fun _ h => List.mem_cons_of_mem _ (List.mem_append_left _ (List.mem_append_left _ (List.mem_append_right _ (h))))) hown hK hP 0 rfl rfl 1 (by decide) (hts _ (List.mem_of_getElem? (i := 1) rfl)) (fun _ h9 => h9) rfl dX7_wish_53 ?_
      refine lv_iload_n hx hb dX7_wish_56 rfl (lv_at hl 1 rfl) ?_
      obtain ⟨o_57, ho_57⟩ : ∃ z : Int32, z = v_X1_placeOf x1 f_lease_places := ⟨_, rfl⟩
      refine callVIs (As := [.int x1]) (rest := []) o_57 ho_57 hF (k_X1_placeOf l D cI cZ a_lease a_lease_places a_lease_firstHours a_lease_spans a_lease_values a_lease_cells a_lease_needs a_lease_owed a_lease_room n_lease_places x1 i_lease_squares i_lease_wishCount i_lease_owedPlaces f_lease_places) (cwV 1 hts gX7_wish_X1_placeOf rfl rfl rfl (by decide +kernel) ⟨Nat.le_of_ble_eq_true rfl, Nat.le_of_ble_eq_true rfl⟩) hK hN hP (va_Dsame hD rfl) hS hA [1, 2, 3] rfl rfl 1 1 (T := TX1) (N := 11) rfl rfl rfl hl.1 rfl (Nat.le_of_ble_eq_true rfl) dX7_wish_57 ⟨Nat.zero_le _, Nat.zero_le _⟩ o_57 rfl rfl (fun H locs hP hS => ?_)
      have e9 : v_X7_wish x1 x2 i_hangingNow i_lease_wishCount f_lease_places f_lease_firstHours f_lease_spans f_lease_values f_lease_needs f_lease_cells = o_57 := by
        refine (bnd_eq ho_2).trans ?_
        refine (if_neg c_5).trans ?_
        refine (if_pos c_11_0).trans ?_
        refine (bnd_eq ho_57).trans ?_
        rfl
      rw [hQ]; exact retI o_57 hx hb hr hlk e9 hP rfl hS dX7_wish_60
    by_cases c_11_1 : x2 = 1
    · have hxI : (x2).toInt = 1 := by rw [c_11_1]; rfl
      refine lv_tableIn (off := 50) (tgt := 61) hx hb dX7_wish_11 (by rw [hxI]; decide) (by rw [hxI]; decide) (by rw [hxI]; rfl) (by decide) ?_
      refine lv_aload_n hx hb dX7_wish_61 rfl (lv_at hl 0 rfl) ?_
      refine va_get (D := D) (ci := 7) (v := .ref a_lease) (C := RX7) (T := TX7) (N := 14) hx hb hts (fun _ h => List.mem_cons_of_mem _ (List.mem_append_left _ (List.mem_append_left _ (List.mem_append_right _ (h))))) hown hK hP 0 rfl rfl 1 (by decide) (hts _ (List.mem_of_getElem? (i := 1) rfl)) (fun _ h9 => h9) rfl dX7_wish_62 ?_
      refine lv_iload_n hx hb dX7_wish_65 rfl (lv_at hl 1 rfl) ?_
      obtain ⟨o_66, ho_66⟩ : ∃ z : Int32, z = v_X1_firstHourOf x1 f_lease_firstHours := ⟨_, rfl⟩
      refine callVIs (As := [.int x1]) (rest := []) o_66 ho_66 hF (k_X1_firstHourOf l D cI cZ a_lease a_lease_places a_lease_firstHours a_lease_spans a_lease_values a_lease_cells a_lease_needs a_lease_owed a_lease_room n_lease_firstHours x1 i_lease_squares i_lease_wishCount i_lease_owedPlaces f_lease_firstHours) (cwV 1 hts gX7_wish_X1_firstHourOf rfl rfl rfl (by decide +kernel) ⟨Nat.le_of_ble_eq_true rfl, Nat.le_of_ble_eq_true rfl⟩) hK hN hP (va_Dsame hD rfl) hS hA [1, 4, 5] rfl rfl 1 1 (T := TX1) (N := 11) rfl rfl rfl hl.1 rfl (Nat.le_of_ble_eq_true rfl) dX7_wish_66 ⟨Nat.zero_le _, Nat.zero_le _⟩ o_66 rfl rfl (fun H locs hP hS => ?_)
      have e9 : v_X7_wish x1 x2 i_hangingNow i_lease_wishCount f_lease_places f_lease_firstHours f_lease_spans f_lease_values f_lease_needs f_lease_cells = o_66 := by
        refine (bnd_eq ho_2).trans ?_
        refine (if_neg c_5).trans ?_
        refine (if_neg c_11_0).trans ?_
        refine (if_pos c_11_1).trans ?_
        refine (bnd_eq ho_66).trans ?_
        rfl
      rw [hQ]; exact retI o_66 hx hb hr hlk e9 hP rfl hS dX7_wish_69
    by_cases c_11_2 : x2 = 2
    · have hxI : (x2).toInt = 2 := by rw [c_11_2]; rfl
      refine lv_tableIn (off := 59) (tgt := 70) hx hb dX7_wish_11 (by rw [hxI]; decide) (by rw [hxI]; decide) (by rw [hxI]; rfl) (by decide) ?_
      refine lv_aload_n hx hb dX7_wish_70 rfl (lv_at hl 0 rfl) ?_
      refine va_get (D := D) (ci := 7) (v := .ref a_lease) (C := RX7) (T := TX7) (N := 14) hx hb hts (fun _ h => List.mem_cons_of_mem _ (List.mem_append_left _ (List.mem_append_left _ (List.mem_append_right _ (h))))) hown hK hP 0 rfl rfl 1 (by decide) (hts _ (List.mem_of_getElem? (i := 1) rfl)) (fun _ h9 => h9) rfl dX7_wish_71 ?_
      refine lv_iload_n hx hb dX7_wish_74 rfl (lv_at hl 1 rfl) ?_
      obtain ⟨o_75, ho_75⟩ : ∃ z : Int32, z = v_X1_spanOf x1 f_lease_spans := ⟨_, rfl⟩
      refine callVIs (As := [.int x1]) (rest := []) o_75 ho_75 hF (k_X1_spanOf l D cI cZ a_lease a_lease_places a_lease_firstHours a_lease_spans a_lease_values a_lease_cells a_lease_needs a_lease_owed a_lease_room n_lease_spans x1 i_lease_squares i_lease_wishCount i_lease_owedPlaces f_lease_spans) (cwV 1 hts gX7_wish_X1_spanOf rfl rfl rfl (by decide +kernel) ⟨Nat.le_of_ble_eq_true rfl, Nat.le_of_ble_eq_true rfl⟩) hK hN hP (va_Dsame hD rfl) hS hA [1, 6, 7] rfl rfl 1 1 (T := TX1) (N := 11) rfl rfl rfl hl.1 rfl (Nat.le_of_ble_eq_true rfl) dX7_wish_75 ⟨Nat.zero_le _, Nat.zero_le _⟩ o_75 rfl rfl (fun H locs hP hS => ?_)
      have e9 : v_X7_wish x1 x2 i_hangingNow i_lease_wishCount f_lease_places f_lease_firstHours f_lease_spans f_lease_values f_lease_needs f_lease_cells = o_75 := by
        refine (bnd_eq ho_2).trans ?_
        refine (if_neg c_5).trans ?_
        refine (if_neg c_11_0).trans ?_
        refine (if_neg c_11_1).trans ?_
        refine (if_pos c_11_2).trans ?_
        refine (bnd_eq ho_75).trans ?_
        rfl
      rw [hQ]; exact retI o_75 hx hb hr hlk e9 hP rfl hS dX7_wish_78
    by_cases c_11_3 : x2 = 3
    · have hxI : (x2).toInt = 3 := by rw [c_11_3]; rfl
      refine lv_tableIn (off := 68) (tgt := 79) hx hb dX7_wish_11 (by rw [hxI]; decide) (by rw [hxI]; decide) (by rw [hxI]; rfl) (by decide) ?_
      refine lv_aload_n hx hb dX7_wish_79 rfl (lv_at hl 0 rfl) ?_
      refine va_get (D := D) (ci := 7) (v := .ref a_lease) (C := RX7) (T := TX7) (N := 14) hx hb hts (fun _ h => List.mem_cons_of_mem _ (List.mem_append_left _ (List.mem_append_left _ (List.mem_append_right _ (h))))) hown hK hP 0 rfl rfl 1 (by decide) (hts _ (List.mem_of_getElem? (i := 1) rfl)) (fun _ h9 => h9) rfl dX7_wish_80 ?_
      refine lv_iload_n hx hb dX7_wish_83 rfl (lv_at hl 1 rfl) ?_
      obtain ⟨o_84, ho_84⟩ : ∃ z : Int32, z = v_X1_valueOf x1 f_lease_values := ⟨_, rfl⟩
      refine callVIs (As := [.int x1]) (rest := []) o_84 ho_84 hF (k_X1_valueOf l D cI cZ a_lease a_lease_places a_lease_firstHours a_lease_spans a_lease_values a_lease_cells a_lease_needs a_lease_owed a_lease_room n_lease_values x1 i_lease_squares i_lease_wishCount i_lease_owedPlaces f_lease_values) (cwV 1 hts gX7_wish_X1_valueOf rfl rfl rfl (by decide +kernel) ⟨Nat.le_of_ble_eq_true rfl, Nat.le_of_ble_eq_true rfl⟩) hK hN hP (va_Dsame hD rfl) hS hA [1, 8, 9] rfl rfl 1 1 (T := TX1) (N := 11) rfl rfl rfl hl.1 rfl (Nat.le_of_ble_eq_true rfl) dX7_wish_84 ⟨Nat.zero_le _, Nat.zero_le _⟩ o_84 rfl rfl (fun H locs hP hS => ?_)
      have e9 : v_X7_wish x1 x2 i_hangingNow i_lease_wishCount f_lease_places f_lease_firstHours f_lease_spans f_lease_values f_lease_needs f_lease_cells = o_84 := by
        refine (bnd_eq ho_2).trans ?_
        refine (if_neg c_5).trans ?_
        refine (if_neg c_11_0).trans ?_
        refine (if_neg c_11_1).trans ?_
        refine (if_neg c_11_2).trans ?_
        refine (if_pos c_11_3).trans ?_
        refine (bnd_eq ho_84).trans ?_
        rfl
      rw [hQ]; exact retI o_84 hx hb hr hlk e9 hP rfl hS dX7_wish_87
    by_cases c_11_4 : x2 = 4
    · have hxI : (x2).toInt = 4 := by rw [c_11_4]; rfl
      refine lv_tableIn (off := 77) (tgt := 88) hx hb dX7_wish_11 (by rw [hxI]; decide) (by rw [hxI]; decide) (by rw [hxI]; rfl) (by decide) ?_
      refine lv_aload_n hx hb dX7_wish_88 rfl (lv_at hl 0 rfl) ?_
      refine va_get (D := D) (ci := 7) (v := .ref a_lease) (C := RX7) (T := TX7) (N := 14) hx hb hts (fun _ h => List.mem_cons_of_mem _ (List.mem_append_left _ (List.mem_append_left _ (List.mem_append_right _ (h))))) hown hK hP 0 rfl rfl 1 (by decide) (hts _ (List.mem_of_getElem? (i := 1) rfl)) (fun _ h9 => h9) rfl dX7_wish_89 ?_
      refine lv_iload_n hx hb dX7_wish_92 rfl (lv_at hl 1 rfl) ?_
      obtain ⟨o_93, ho_93⟩ : ∃ z : Bool, z = v_X1_wantsDark x1 f_lease_needs := ⟨_, rfl⟩
      refine callVIs (As := [.int x1]) (rest := []) o_93 ho_93 hF (k_X1_wantsDark l D cI cZ a_lease a_lease_places a_lease_firstHours a_lease_spans a_lease_values a_lease_cells a_lease_needs a_lease_owed a_lease_room n_lease_needs x1 i_lease_squares i_lease_wishCount i_lease_owedPlaces f_lease_needs) (cwV 1 hts gX7_wish_X1_wantsDark rfl rfl rfl (by decide +kernel) ⟨Nat.le_of_ble_eq_true rfl, Nat.le_of_ble_eq_true rfl⟩) hK hN hP (va_Dsame hD rfl) hS hA [1, 10, 11] rfl rfl 1 1 (T := TX1) (N := 11) rfl rfl rfl hl.1 rfl (Nat.le_of_ble_eq_true rfl) dX7_wish_93 ⟨Nat.zero_le _, Nat.zero_le _⟩ (bI o_93) rfl rfl (fun H locs hP hS => ?_)
      refine lv_if_eq (tgt := 103) hx hb dX7_wish_96 (by decide) (fun c_96 => ?_) (fun c_96 => ?_)
      · refine lv_iconst (v := 0) hx hb dX7_wish_103 rfl ?_
        have e9 : v_X7_wish x1 x2 i_hangingNow i_lease_wishCount f_lease_places f_lease_firstHours f_lease_spans f_lease_values f_lease_needs f_lease_cells = 0 := by
          refine (bnd_eq ho_2).trans ?_
          refine (if_neg c_5).trans ?_
          refine (if_neg c_11_0).trans ?_
          refine (if_neg c_11_1).trans ?_
          refine (if_neg c_11_2).trans ?_
          refine (if_neg c_11_3).trans ?_
          refine (if_pos c_11_4).trans ?_
          refine (bnd_eq ho_93).trans ?_
          refine (if_pos c_96).trans ?_
          rfl
        rw [hQ]; exact retI 0 hx hb hr hlk e9 hP rfl hS dX7_wish_104
      · refine lv_iconst (v := 1) hx hb dX7_wish_99 rfl ?_
        refine lv_goto (tgt := 104) hx hb dX7_wish_100 (by decide) ?_
        have e9 : v_X7_wish x1 x2 i_hangingNow i_lease_wishCount f_lease_places f_lease_firstHours f_lease_spans f_lease_values f_lease_needs f_lease_cells = 1 := by
          refine (bnd_eq ho_2).trans ?_
          refine (if_neg c_5).trans ?_
          refine (if_neg c_11_0).trans ?_
          refine (if_neg c_11_1).trans ?_
          refine (if_neg c_11_2).trans ?_
          refine (if_neg c_11_3).trans ?_
          refine (if_pos c_11_4).trans ?_
          refine (bnd_eq ho_93).trans ?_
          refine (if_neg c_96).trans ?_
          rfl
        rw [hQ]; exact retI 1 hx hb hr hlk e9 hP rfl hS dX7_wish_104
    by_cases c_11_5 : x2 = 5
    · have hxI : (x2).toInt = 5 := by rw [c_11_5]; rfl
      refine lv_tableIn (off := 94) (tgt := 105) hx hb dX7_wish_11 (by rw [hxI]; decide) (by rw [hxI]; decide) (by rw [hxI]; rfl) (by decide) ?_
      refine lv_aload_n hx hb dX7_wish_105 rfl (lv_at hl 0 rfl) ?_
      refine va_get (D := D) (ci := 7) (v := .ref a_lease) (C := RX7) (T := TX7) (N := 14) hx hb hts (fun _ h => List.mem_cons_of_mem _ (List.mem_append_left _ (List.mem_append_left _ (List.mem_append_right _ (h))))) hown hK hP 0 rfl rfl 1 (by decide) (hts _ (List.mem_of_getElem? (i := 1) rfl)) (fun _ h9 => h9) rfl dX7_wish_106 ?_
      refine lv_aload_n hx hb dX7_wish_109 rfl (lv_at hl 0 rfl) ?_
      refine va_get (D := D) (ci := 7) (v := .int i_hangingNow) (C := RX7) (T := TX7) (N := 14) hx hb hts (fun _ h => List.mem_cons_of_mem _ (List.mem_append_left _ (List.mem_append_left _ (List.mem_append_right _ (h))))) hown hK hP 0 rfl rfl 8 (by decide) (hts _ (List.mem_of_getElem? (i := 2) rfl)) (fun _ h9 => h9) rfl dX7_wish_110 ?_
      obtain ⟨o_113, ho_113⟩ : ∃ z : Int32, z = v_X1_grantedBy i_hangingNow i_lease_wishCount f_lease_cells f_lease_needs := ⟨_, rfl⟩
      refine callVIs (As := [.int i_hangingNow]) (rest := []) o_113 ho_113 hF (k_X1_grantedBy l D cI cZ a_lease a_lease_places a_lease_firstHours a_lease_spans a_lease_values a_lease_cells a_lease_needs a_lease_owed a_lease_room n_lease_cells n_lease_needs i_hangingNow i_lease_squares i_lease_wishCount i_lease_owedPlaces f_lease_cells f_lease_needs) (cwV 1 hts gX7_wish_X1_grantedBy rfl rfl rfl (by decide +kernel) ⟨Nat.le_of_ble_eq_true rfl, Nat.le_of_ble_eq_true rfl⟩) hK hN hP (va_Dsame hD rfl) hS hA [1, 12, 13, 10, 11] rfl rfl 1 1 (T := TX1) (N := 11) rfl rfl rfl hl.1 rfl (Nat.le_of_ble_eq_true rfl) dX7_wish_113 ⟨Nat.zero_le _, Nat.zero_le _⟩ o_113 rfl rfl (fun H locs hP hS => ?_)
      refine lv_iload_n hx hb dX7_wish_116 rfl (lv_at hl 1 rfl) ?_
      obtain ⟨o_117, ho_117⟩ : ∃ z : Bool, z = v_X7_has o_113 x1 := ⟨_, rfl⟩
      refine callSIs (As := [.int o_113, .int x1]) (rest := []) o_117 ho_117 hF (k_X7_has l D cI cZ o_113 x1) (va_cwS 2 hts gX7_wish_X7_has rfl rfl rfl (by decide +kernel) ⟨Nat.le_of_ble_eq_true rfl, Nat.le_of_ble_eq_true rfl⟩) hK hN hP (va_Dsame hD rfl) hS hA [] rfl rfl rfl hl.1 rfl (Nat.le_of_ble_eq_true rfl) dX7_wish_117 ⟨Nat.zero_le _, Nat.zero_le _⟩ (bI o_117) rfl rfl (fun H locs hP hS => ?_)
      refine lv_if_eq (tgt := 127) hx hb dX7_wish_120 (by decide) (fun c_120 => ?_) (fun c_120 => ?_)
      · refine lv_iconst (v := 0) hx hb dX7_wish_127 rfl ?_
        have e9 : v_X7_wish x1 x2 i_hangingNow i_lease_wishCount f_lease_places f_lease_firstHours f_lease_spans f_lease_values f_lease_needs f_lease_cells = 0 := by
          refine (bnd_eq ho_2).trans ?_
          refine (if_neg c_5).trans ?_
          refine (if_neg c_11_0).trans ?_
          refine (if_neg c_11_1).trans ?_
          refine (if_neg c_11_2).trans ?_
          refine (if_neg c_11_3).trans ?_
          refine (if_neg c_11_4).trans ?_
          refine (if_pos c_11_5).trans ?_
          refine (bnd_eq ho_113).trans ?_
          refine (bnd_eq ho_117).trans ?_
          refine (if_pos c_120).trans ?_
          rfl
        rw [hQ]; exact retI 0 hx hb hr hlk e9 hP rfl hS dX7_wish_128
      · refine lv_iconst (v := 1) hx hb dX7_wish_123 rfl ?_
        refine lv_goto (tgt := 128) hx hb dX7_wish_124 (by decide) ?_
        have e9 : v_X7_wish x1 x2 i_hangingNow i_lease_wishCount f_lease_places f_lease_firstHours f_lease_spans f_lease_values f_lease_needs f_lease_cells = 1 := by
          refine (bnd_eq ho_2).trans ?_
          refine (if_neg c_5).trans ?_
          refine (if_neg c_11_0).trans ?_
          refine (if_neg c_11_1).trans ?_
          refine (if_neg c_11_2).trans ?_
          refine (if_neg c_11_3).trans ?_
          refine (if_neg c_11_4).trans ?_
          refine (if_pos c_11_5).trans ?_
          refine (bnd_eq ho_113).trans ?_
          refine (bnd_eq ho_117).trans ?_
          refine (if_neg c_120).trans ?_
          rfl
        rw [hQ]; exact retI 1 hx hb hr hlk e9 hP rfl hS dX7_wish_128
    by_cases c_11_6 : x2 = 6
    · have hxI : (x2).toInt = 6 := by rw [c_11_6]; rfl
      refine lv_tableIn (off := 118) (tgt := 129) hx hb dX7_wish_11 (by rw [hxI]; decide) (by rw [hxI]; decide) (by rw [hxI]; rfl) (by decide) ?_
      refine lv_aload_n hx hb dX7_wish_129 rfl (lv_at hl 0 rfl) ?_
      refine va_get (D := D) (ci := 7) (v := .ref a_lease) (C := RX7) (T := TX7) (N := 14) hx hb hts (fun _ h => List.mem_cons_of_mem _ (List.mem_append_left _ (List.mem_append_left _ (List.mem_append_right _ (h))))) hown hK hP 0 rfl rfl 1 (by decide) (hts _ (List.mem_of_getElem? (i := 1) rfl)) (fun _ h9 => h9) rfl dX7_wish_130 ?_
      refine lv_iload_n hx hb dX7_wish_133 rfl (lv_at hl 1 rfl) ?_
      obtain ⟨o_134, ho_134⟩ : ∃ z : Int32, z = v_X1_hoursOf x1 f_lease_spans f_lease_firstHours := ⟨_, rfl⟩
      refine callVIs (As := [.int x1]) (rest := []) o_134 ho_134 hF (k_X1_hoursOf l D cI cZ a_lease a_lease_places a_lease_firstHours a_lease_spans a_lease_values a_lease_cells a_lease_needs a_lease_owed a_lease_room n_lease_spans n_lease_firstHours x1 i_lease_squares i_lease_wishCount i_lease_owedPlaces f_lease_spans f_lease_firstHours) (cwV 1 hts gX7_wish_X1_hoursOf rfl rfl rfl (by decide +kernel) ⟨Nat.le_of_ble_eq_true rfl, Nat.le_of_ble_eq_true rfl⟩) hK hN hP (va_Dsame hD rfl) hS hA [1, 6, 7, 4, 5] rfl rfl 1 1 (T := TX1) (N := 11) rfl rfl rfl hl.1 rfl (Nat.le_of_ble_eq_true rfl) dX7_wish_134 ⟨Nat.zero_le _, Nat.zero_le _⟩ o_134 rfl rfl (fun H locs hP hS => ?_)
      have e9 : v_X7_wish x1 x2 i_hangingNow i_lease_wishCount f_lease_places f_lease_firstHours f_lease_spans f_lease_values f_lease_needs f_lease_cells = o_134 := by
        refine (bnd_eq ho_2).trans ?_
        refine (if_neg c_5).trans ?_
        refine (if_neg c_11_0).trans ?_
        refine (if_neg c_11_1).trans ?_
        refine (if_neg c_11_2).trans ?_
        refine (if_neg c_11_3).trans ?_
        refine (if_neg c_11_4).trans ?_
        refine (if_neg c_11_5).trans ?_
        refine (if_pos c_11_6).trans ?_
        refine (bnd_eq ho_134).trans ?_
        rfl
      rw [hQ]; exact retI o_134 hx hb hr hlk e9 hP rfl hS dX7_wish_137
    have nc_11_0 := lv_neT c_11_0 (show (0 : Int32).toInt = 0 from rfl)
    have nc_11_1 := lv_neT c_11_1 (show (1 : Int32).toInt = 1 from rfl)
    have nc_11_2 := lv_neT c_11_2 (show (2 : Int32).toInt = 2 from rfl)
    have nc_11_3 := lv_neT c_11_3 (show (3 : Int32).toInt = 3 from rfl)
    have nc_11_4 := lv_neT c_11_4 (show (4 : Int32).toInt = 4 from rfl)
    have nc_11_5 := lv_neT c_11_5 (show (5 : Int32).toInt = 5 from rfl)
    have nc_11_6 := lv_neT c_11_6 (show (6 : Int32).toInt = 6 from rfl)
    refine lv_tableOut (tgt := 138) hx hb dX7_wish_11 (by omega) (by decide) ?_
    refine lv_bipush (v := (-2)) hx hb dX7_wish_138 rfl ?_
    have e9 : v_X7_wish x1 x2 i_hangingNow i_lease_wishCount f_lease_places f_lease_firstHours f_lease_spans f_lease_values f_lease_needs f_lease_cells = (-2) := by
      refine (bnd_eq ho_2).trans ?_
      refine (if_neg c_5).trans ?_
      refine (if_neg c_11_0).trans ?_
      refine (if_neg c_11_1).trans ?_
      refine (if_neg c_11_2).trans ?_
      refine (if_neg c_11_3).trans ?_
      refine (if_neg c_11_4).trans ?_
      refine (if_neg c_11_5).trans ?_
      refine (if_neg c_11_6).trans ?_
      rfl
    rw [hQ]; exact retI (-2) hx hb hr hlk e9 hP rfl hS dX7_wish_140
  · refine lv_iconst (v := (-1)) hx hb dX7_wish_8 rfl ?_
    have e9 : v_X7_wish x1 x2 i_hangingNow i_lease_wishCount f_lease_places f_lease_firstHours f_lease_spans f_lease_values f_lease_needs f_lease_cells = (-1) := by
      refine (bnd_eq ho_2).trans ?_
      refine (if_pos c_5).trans ?_
      rfl
    rw [hQ]; exact retI (-1) hx hb hr hlk e9 hP rfl hS dX7_wish_9
def v_X7_isCell (x0 : Int32) : Bool :=
  if x0 < 0 then false
  else (if 12 ≤ x0 then false
  else true)
abbrev rm_X7_isCell : Room := { frames := 0, cells := 0, slots := 0, locals := 0 }
set_option maxHeartbeats 4000000 in
set_option maxRecDepth 100000 in
theorem k_X7_isCell (l : Launch) (D : va_G) (cI cZ : ClassId) (x0 : Int32) : KI l D cI cZ yX7_isCell wsX7_isCell rm_X7_isCell [.int x0] [] (v_X7_isCell x0) (fun o : Bool => bI o) (fun _ : Bool => []) := by
  refine KI.of cX7_isCell 1 (some .boolean) (by decide) rfl (Nat.le_of_ble_eq_true rfl) ?_
  intro p e s m below meth c A ls ar Q hQ B
  obtain ⟨hx, hb, hr, hml, hts, hown, hlk, hK, hN, hP, hD, hA, hS, hl⟩ := B
  have hown : s.vm.findClass RX7 = some m.cls := hown
  have hF : CallFix p m c cX7_isCell 1 s ar wsX7_isCell RX7 := ⟨hx, hb, hml, hown, hts⟩
  have hl : lv_has ls 1 [(0, .int x0)] := hl
  refine lv_iload_n hx hb dX7_isCell_0 rfl (lv_at hl 0 rfl) ?_
  refine lv_if_lt (tgt := 14) hx hb dX7_isCell_1 (by decide) (fun c_1 => ?_) (fun c_1 => ?_)
  · refine lv_iconst (v := 0) hx hb dX7_isCell_14 rfl ?_
    have e9 : v_X7_isCell x0 = false := by
      refine (if_pos c_1).trans ?_
      rfl
    rw [hQ]; exact retZ (v := fun o : Bool => o) false hx hb hr hlk e9 hP rfl hS dX7_isCell_15
  · refine lv_iload_n hx hb dX7_isCell_4 rfl (lv_at hl 0 rfl) ?_
    refine lv_bipush (v := 12) hx hb dX7_isCell_5 rfl ?_
    refine lv_icmp_ge (tgt := 14) hx hb dX7_isCell_7 (by decide) (fun c_7 => ?_) (fun c_7 => ?_)
    · refine lv_iconst (v := 0) hx hb dX7_isCell_14 rfl ?_
      have e9 : v_X7_isCell x0 = false := by
        refine (if_neg c_1).trans ?_
        refine (if_pos c_7).trans ?_
        rfl
      rw [hQ]; exact retZ (v := fun o : Bool => o) false hx hb hr hlk e9 hP rfl hS dX7_isCell_15
    · refine lv_iconst (v := 1) hx hb dX7_isCell_10 rfl ?_
      refine lv_goto (tgt := 15) hx hb dX7_isCell_11 (by decide) ?_
      have e9 : v_X7_isCell x0 = true := by
        refine (if_neg c_1).trans ?_
        refine (if_neg c_7).trans ?_
        rfl
      rw [hQ]; exact retZ (v := fun o : Bool => o) true hx hb hr hlk e9 hP rfl hS dX7_isCell_15
def v_X7_darkHours_L4 (x1 : Int32) (i_hangingNow : Int32) (i4 : Nat) (z4 : Int32) : Int32 :=
  bnd (v_X7_cellAbove x1 (nI i4)) fun o_16 =>
  (bnd (v_X7_has i_hangingNow o_16) fun o_19 =>
  (if bI o_19 = 0 then z4
  else (z4 ||| ((1 : Int32) <<< (nI i4 &&& 31)))))
def v_X7_darkHours (x1 : Int32) (i_hangingNow : Int32) : Int32 :=
  bnd (it (v_X7_darkHours_L4 x1 i_hangingNow) 6 0 0) fun o_L4 =>
  o_L4
abbrev rm_X7_darkHours : Room := { frames := 1, cells := 0, slots := 0, locals := 22 }
set_option maxHeartbeats 4000000 in
set_option maxRecDepth 100000 in
theorem k_X7_darkHours (l : Launch) (D : va_G) (cI cZ : ClassId) (a a_text a_lease a_reader a_prover a_survey a_paths a_acts a_slots : Nat) (x1 : Int32) (i_hangingNow : Int32) (i_hourNow : Int32) (i_toldDark : Int32) (i_toldLight : Int32) (i_toldCount : Int32) (j_seedNow : Int64) : KI l D cI cZ yX7_darkHours wsX7_darkHours rm_X7_darkHours [.ref a, .int x1] [(a, .inr (7, [.ref a_text, .ref a_lease, .ref a_reader, .ref a_prover, .ref a_survey, .ref a_paths, .ref a_acts, .ref a_slots, .int i_hangingNow, .int i_hourNow, .int i_toldDark, .int i_toldLight, .int i_toldCount, .long j_seedNow]))] (v_X7_darkHours x1 i_hangingNow) (fun o : Int32 => o) (fun _ : Int32 => [(a, .inr (7, [.ref a_text, .ref a_lease, .ref a_reader, .ref a_prover, .ref a_survey, .ref a_paths, .ref a_acts, .ref a_slots, .int i_hangingNow, .int i_hourNow, .int i_toldDark, .int i_toldLight, .int i_toldCount, .long j_seedNow]))]) := by
  refine KI.of cX7_darkHours 4 (some .int) (by decide) rfl (Nat.le_of_ble_eq_true rfl) ?_
  intro p e s m below meth c A ls ar Q hQ B
  obtain ⟨hx, hb, hr, hml, hts, hown, hlk, hK, hN, hP, hD, hA, hS, hl⟩ := B
  have hown : s.vm.findClass RX7 = some m.cls := hown
  have hF : CallFix p m c cX7_darkHours 4 s ar wsX7_darkHours RX7 := ⟨hx, hb, hml, hown, hts⟩
  have hl : lv_has ls 4 [(0, .ref a), (1, .int x1)] := hl
  refine lv_iconst (v := 0) hx hb dX7_darkHours_0 rfl ?_
  refine lv_istore_n (lv' := [(2, .int 0), (0, .ref a), (1, .int x1)]) hx hb dX7_darkHours_1 rfl hl (by decide) rfl (fun ls hl => ?_)
  refine lv_iconst (v := 0) hx hb dX7_darkHours_2 rfl ?_
  refine lv_istore_n (lv' := [(3, .int 0), (2, .int 0), (0, .ref a), (1, .int x1)]) hx hb dX7_darkHours_3 rfl hl (by decide) rfl (fun ls hl => ?_)
  obtain ⟨o_L4, ho_L4⟩ : ∃ z : Int32, z = it (v_X7_darkHours_L4 x1 i_hangingNow) 6 0 0 := ⟨_, rfl⟩
  have kE4 : ∀ (H : Heap) (locs : List Loc) (ls : Array Slot), va_P D vwCl [(a, .inr (7, [.ref a_text, .ref a_lease, .ref a_reader, .ref a_prover, .ref a_survey, .ref a_paths, .ref a_acts, .ref a_slots, .int i_hangingNow, .int i_hourNow, .int i_toldDark, .int i_toldLight, .int i_toldCount, .long j_seedNow]))] H → va_S A s.heap H locs → lv_has ls 4 [(2, .int o_L4)] → W p l e rm_X7_darkHours s m ar below meth c H locs 0 0 Q (F0 m 37 ls []) := by
    intro H locs ls hP hS hl
    refine lv_iload_n hx hb dX7_darkHours_37 rfl (lv_at hl 0 rfl) ?_
    have e9 : v_X7_darkHours x1 i_hangingNow = o_L4 := by
      refine (bnd_eq ho_L4).trans ?_
      rfl
    rw [hQ]; exact retI o_L4 hx hb hr hlk e9 hP rfl hS dX7_darkHours_38
  have loop4 : ∀ (k i4 : Nat) (z4 : Int32), 0 ≤ i4 → i4 + k = 0 + 6 → it (v_X7_darkHours_L4 x1 i_hangingNow) k i4 z4 = o_L4 → ∀ (H : Heap) (locs : List Loc) (ls : Array Slot), va_P D vwCl [(a, .inr (7, [.ref a_text, .ref a_lease, .ref a_reader, .ref a_prover, .ref a_survey, .ref a_paths, .ref a_acts, .ref a_slots, .int i_hangingNow, .int i_hourNow, .int i_toldDark, .int i_toldLight, .int i_toldCount, .long j_seedNow]))] H → va_S A s.heap H locs → lv_has ls 4 [(3, .int (nI i4)), (2, .int z4), (0, .ref a), (1, .int x1)] → W p l e rm_X7_darkHours s m ar below meth c H locs 0 0 Q (F0 m 4 ls []) := by
    intro k
    induction k with
    | zero =>
      intro i4 z4 hi0 hik hz H locs ls hP hS hl
      have hz : z4 = o_L4 := it_0 hz
      subst z4
      refine lv_iload_n hx hb dX7_darkHours_4 rfl (lv_at hl 0 rfl) ?_
      refine lv_bipush (v := 6) hx hb dX7_darkHours_5 rfl ?_
      refine lv_icmp_ge (tgt := 37) hx hb dX7_darkHours_7 (by decide) (fun _ => ?_) (fun c => absurd (nI_le (a := 6) (by omega) (by omega)) c)
      exact kE4 _ _ _ hP hS (lv_sub hl [1] rfl)
    | succ k ih =>
      intro i4 z4 hi0 hik hz H locs ls hP hS hl
      refine lv_iload_n hx hb dX7_darkHours_4 rfl (lv_at hl 0 rfl) ?_
      refine lv_bipush (v := 6) hx hb dX7_darkHours_5 rfl ?_
      refine lv_icmp_ge (tgt := 37) hx hb dX7_darkHours_7 (by decide) (fun c => absurd c (nI_ge (b := 6) (by omega) (by decide))) (fun _ => ?_)
      refine lv_aload_n hx hb dX7_darkHours_10 rfl (lv_at hl 2 rfl) ?_
      refine va_get (D := D) (ci := 7) (v := .int i_hangingNow) (C := RX7) (T := TX7) (N := 14) hx hb hts (fun _ h => List.mem_cons_of_mem _ (List.mem_append_right _ (h))) hown hK hP 0 rfl rfl 8 (by decide) (hts _ (List.mem_of_getElem? (i := 1) rfl)) (fun _ h9 => h9) rfl dX7_darkHours_11 ?_
      refine lv_iload_n hx hb dX7_darkHours_14 rfl (lv_at hl 3 rfl) ?_
      refine lv_iload_n hx hb dX7_darkHours_15 rfl (lv_at hl 0 rfl) ?_
      obtain ⟨o_16, ho_16⟩ : ∃ z : Int32, z = v_X7_cellAbove x1 (nI i4) := ⟨_, rfl⟩
      refine callSIs (As := [.int x1, .int (nI i4)]) (rest := [.int i_hangingNow]) o_16 ho_16 hF (k_X7_cellAbove l D cI cZ x1 (nI i4)) (va_cwS 2 hts gX7_darkHours_X7_cellAbove rfl rfl rfl (by decide +kernel) ⟨Nat.le_of_ble_eq_true rfl, Nat.le_of_ble_eq_true rfl⟩) hK hN hP (va_Dsame hD rfl) hS hA [] rfl rfl rfl hl.1 rfl (Nat.le_of_ble_eq_true rfl) dX7_darkHours_16 ⟨Nat.zero_le _, Nat.zero_le _⟩ o_16 rfl rfl (fun H locs hP hS => ?_)
      obtain ⟨o_19, ho_19⟩ : ∃ z : Bool, z = v_X7_has i_hangingNow o_16 := ⟨_, rfl⟩
      refine callSIs (As := [.int i_hangingNow, .int o_16]) (rest := []) o_19 ho_19 hF (k_X7_has l D cI cZ i_hangingNow o_16) (va_cwS 2 hts gX7_darkHours_X7_has rfl rfl rfl (by decide +kernel) ⟨Nat.le_of_ble_eq_true rfl, Nat.le_of_ble_eq_true rfl⟩) hK hN hP (va_Dsame hD rfl) hS hA [] rfl rfl rfl hl.1 rfl (Nat.le_of_ble_eq_true rfl) dX7_darkHours_19 ⟨Nat.zero_le _, Nat.zero_le _⟩ (bI o_19) rfl rfl (fun H locs hP hS => ?_)
      refine lv_if_eq (tgt := 31) hx hb dX7_darkHours_22 (by decide) (fun c_22 => ?_) (fun c_22 => ?_)
      · refine lv_iinc (v := (nI (i4 + 1))) (lv' := [(3, .int (nI (i4 + 1))), (2, .int z4), (0, .ref a), (1, .int x1)]) hx hb dX7_darkHours_31 hl (k := 0) rfl (nI_1 _) (by decide) rfl (fun ls hl => ?_)
        refine lv_goto (tgt := 4) hx hb dX7_darkHours_34 (by decide) ?_
        have e8 : v_X7_darkHours_L4 x1 i_hangingNow i4 z4 = z4 := by
          refine (bnd_eq ho_16).trans ?_
          refine (bnd_eq ho_19).trans ?_
          refine (if_pos c_22).trans ?_
          rfl
        exact ih (i4 + 1) z4 (by omega) (by omega) (it_go e8 hz) _ _ _ hP hS (lv_sub hl [0, 1, 2, 3] rfl)
      · refine lv_iload_n hx hb dX7_darkHours_25 rfl (lv_at hl 1 rfl) ?_
        refine lv_iconst (v := 1) hx hb dX7_darkHours_26 rfl ?_
        refine lv_iload_n hx hb dX7_darkHours_27 rfl (lv_at hl 0 rfl) ?_
        refine lv_ishl hx hb dX7_darkHours_28 ?_
        refine lv_ior hx hb dX7_darkHours_29 ?_
        refine lv_istore_n (lv' := [(2, .int (z4 ||| ((1 : Int32) <<< (nI i4 &&& 31)))), (3, .int (nI i4)), (0, .ref a), (1, .int x1)]) hx hb dX7_darkHours_30 rfl hl (by decide) rfl (fun ls hl => ?_)
        refine lv_iinc (v := (nI (i4 + 1))) (lv' := [(3, .int (nI (i4 + 1))), (2, .int (z4 ||| ((1 : Int32) <<< (nI i4 &&& 31)))), (0, .ref a), (1, .int x1)]) hx hb dX7_darkHours_31 hl (k := 1) rfl (nI_1 _) (by decide) rfl (fun ls hl => ?_)
        refine lv_goto (tgt := 4) hx hb dX7_darkHours_34 (by decide) ?_
        have e8 : v_X7_darkHours_L4 x1 i_hangingNow i4 z4 = (z4 ||| ((1 : Int32) <<< (nI i4 &&& 31))) := by
          refine (bnd_eq ho_16).trans ?_
          refine (bnd_eq ho_19).trans ?_
          refine (if_neg c_22).trans ?_
          rfl
        exact ih (i4 + 1) (z4 ||| ((1 : Int32) <<< (nI i4 &&& 31))) (by omega) (by omega) (it_go e8 hz) _ _ _ hP hS (lv_sub hl [0, 1, 2, 3] rfl)
  exact loop4 6 0 0 (Nat.le_refl _) rfl ho_L4.symm _ _ _ hP hS (lv_sub hl [0, 1, 2, 3] rfl)
def v_X7_place (x1 : Int32) (x2 : Int32) (i_hangingNow : Int32) (i_hourNow : Int32) (f_lease_owed : Nat → Int32) : Int32 :=
  bnd (v_X7_isCell x1) fun o_1 =>
  (if bI o_1 = 0 then (-1)
  else (if x2 = 0 then (bnd (v_X7_cellAbove x1 i_hourNow) fun o_49 =>
    (bnd (v_X7_has i_hangingNow o_49) fun o_52 =>
    (if bI o_52 = 0 then 0
    else 1)))
  else (if x2 = 1 then (bnd (v_X7_darkHours x1 i_hangingNow) fun o_66 =>
    o_66)
  else (if x2 = 2 then (bnd (v_X1_owedTo x1 f_lease_owed) fun o_75 =>
    o_75)
  else (if x2 = 3 then (bnd (v_X7_cellAbove x1 i_hourNow) fun o_84 =>
    o_84)
  else (-2))))))
abbrev rm_X7_place : Room := { frames := 2, cells := 0, slots := 0, locals := 45 }
set_option maxHeartbeats 4000000 in
set_option maxRecDepth 100000 in
theorem k_X7_place (l : Launch) (D : va_G) (cI cZ : ClassId) (a a_text a_lease a_reader a_prover a_survey a_paths a_acts a_slots a_lease_places a_lease_firstHours a_lease_spans a_lease_values a_lease_cells a_lease_needs a_lease_owed a_lease_room n_lease_owed : Nat) (x1 : Int32) (x2 : Int32) (i_hangingNow : Int32) (i_hourNow : Int32) (i_toldDark : Int32) (i_toldLight : Int32) (i_toldCount : Int32) (j_seedNow : Int64) (i_lease_squares : Int32) (i_lease_wishCount : Int32) (i_lease_owedPlaces : Int32) (f_lease_owed : Nat → Int32) : KI l D cI cZ yX7_place wsX7_place rm_X7_place [.ref a, .int x1, .int x2] [(a, .inr (7, [.ref a_text, .ref a_lease, .ref a_reader, .ref a_prover, .ref a_survey, .ref a_paths, .ref a_acts, .ref a_slots, .int i_hangingNow, .int i_hourNow, .int i_toldDark, .int i_toldLight, .int i_toldCount, .long j_seedNow])), (a_lease, .inr (1, [.ref a_lease_places, .ref a_lease_firstHours, .ref a_lease_spans, .ref a_lease_values, .ref a_lease_cells, .ref a_lease_needs, .ref a_lease_owed, .ref a_lease_room, .int i_lease_squares, .int i_lease_wishCount, .int i_lease_owedPlaces])), (a_lease_owed, .inr (4, [.ref n_lease_owed])), (n_lease_owed, .inl (cI, 12, .inl f_lease_owed))] (v_X7_place x1 x2 i_hangingNow i_hourNow f_lease_owed) (fun o : Int32 => o) (fun _ : Int32 => [(a, .inr (7, [.ref a_text, .ref a_lease, .ref a_reader, .ref a_prover, .ref a_survey, .ref a_paths, .ref a_acts, .ref a_slots, .int i_hangingNow, .int i_hourNow, .int i_toldDark, .int i_toldLight, .int i_toldCount, .long j_seedNow])), (a_lease, .inr (1, [.ref a_lease_places, .ref a_lease_firstHours, .ref a_lease_spans, .ref a_lease_values, .ref a_lease_cells, .ref a_lease_needs, .ref a_lease_owed, .ref a_lease_room, .int i_lease_squares, .int i_lease_wishCount, .int i_lease_owedPlaces])), (a_lease_owed, .inr (4, [.ref n_lease_owed])), (n_lease_owed, .inl (cI, 12, .inl f_lease_owed))]) := by
  refine KI.of cX7_place 3 (some .int) (by decide) rfl (Nat.le_of_ble_eq_true rfl) ?_
  intro p e s m below meth c A ls ar Q hQ B
  obtain ⟨hx, hb, hr, hml, hts, hown, hlk, hK, hN, hP, hD, hA, hS, hl⟩ := B
  have hown : s.vm.findClass RX7 = some m.cls := hown
  have hF : CallFix p m c cX7_place 3 s ar wsX7_place RX7 := ⟨hx, hb, hml, hown, hts⟩
  have hl : lv_has ls 3 [(0, .ref a), (1, .int x1), (2, .int x2)] := hl
  refine lv_iload_n hx hb dX7_place_0 rfl (lv_at hl 1 rfl) ?_
  obtain ⟨o_1, ho_1⟩ : ∃ z : Bool, z = v_X7_isCell x1 := ⟨_, rfl⟩
  refine callSIs (As := [.int x1]) (rest := []) o_1 ho_1 hF (k_X7_isCell l D cI cZ x1) (va_cwS 1 hts gX7_place_X7_isCell rfl rfl rfl (by decide +kernel) ⟨Nat.le_of_ble_eq_true rfl, Nat.le_of_ble_eq_true rfl⟩) hK hN hP (va_Dsame hD rfl) hS hA [] rfl rfl rfl hl.1 rfl (Nat.le_of_ble_eq_true rfl) dX7_place_1 ⟨Nat.zero_le _, Nat.zero_le _⟩ (bI o_1) rfl rfl (fun H locs hP hS => ?_)
  refine lv_if_ne (tgt := 9) hx hb dX7_place_4 (by decide) (fun c_4 => ?_) (fun c_4 => ?_)
  · refine lv_iload_n hx hb dX7_place_9 rfl (lv_at hl 2 rfl) ?_
    by_cases c_10_0 : x2 = 0
    · have hxI : (x2).toInt = 0 := by rw [c_10_0]; rfl
      refine lv_tableIn (off := 30) (tgt := 40) hx hb dX7_place_10 (by rw [hxI]; decide) (by rw [hxI]; decide) (by rw [hxI]; rfl) (by decide) ?_
      refine lv_aload_n hx hb dX7_place_40 rfl (lv_at hl 0 rfl) ?_
      refine va_get (D := D) (ci := 7) (v := .int i_hangingNow) (C := RX7) (T := TX7) (N := 14) hx hb hts (fun _ h => List.mem_cons_of_mem _ (List.mem_append_left _ (List.mem_append_left _ (List.mem_append_right _ (h))))) hown hK hP 0 rfl rfl 8 (by decide) (hts _ (List.mem_of_getElem? (i := 1) rfl)) (fun _ h9 => h9) rfl dX7_place_41 ?_
      refine lv_iload_n hx hb dX7_place_44 rfl (lv_at hl 1 rfl) ?_
      refine lv_aload_n hx hb dX7_place_45 rfl (lv_at hl 0 rfl) ?_
      refine va_get (D := D) (ci := 7) (v := .int i_hourNow) (C := RX7) (T := TX7) (N := 14) hx hb hts (fun _ h => List.mem_cons_of_mem _ (List.mem_append_left _ (List.mem_append_left _ (List.mem_append_right _ (h))))) hown hK hP 0 rfl rfl 9 (by decide) (hts _ (List.mem_of_getElem? (i := 2) rfl)) (fun _ h9 => h9) rfl dX7_place_46 ?_
      obtain ⟨o_49, ho_49⟩ : ∃ z : Int32, z = v_X7_cellAbove x1 i_hourNow := ⟨_, rfl⟩
      refine callSIs (As := [.int x1, .int i_hourNow]) (rest := [.int i_hangingNow]) o_49 ho_49 hF (k_X7_cellAbove l D cI cZ x1 i_hourNow) (va_cwS 2 hts gX7_place_X7_cellAbove rfl rfl rfl (by decide +kernel) ⟨Nat.le_of_ble_eq_true rfl, Nat.le_of_ble_eq_true rfl⟩) hK hN hP (va_Dsame hD rfl) hS hA [] rfl rfl rfl hl.1 rfl (Nat.le_of_ble_eq_true rfl) dX7_place_49 ⟨Nat.zero_le _, Nat.zero_le _⟩ o_49 rfl rfl (fun H locs hP hS => ?_)
      obtain ⟨o_52, ho_52⟩ : ∃ z : Bool, z = v_X7_has i_hangingNow o_49 := ⟨_, rfl⟩
      refine callSIs (As := [.int i_hangingNow, .int o_49]) (rest := []) o_52 ho_52 hF (k_X7_has l D cI cZ i_hangingNow o_49) (va_cwS 2 hts gX7_place_X7_has rfl rfl rfl (by decide +kernel) ⟨Nat.le_of_ble_eq_true rfl, Nat.le_of_ble_eq_true rfl⟩) hK hN hP (va_Dsame hD rfl) hS hA [] rfl rfl rfl hl.1 rfl (Nat.le_of_ble_eq_true rfl) dX7_place_52 ⟨Nat.zero_le _, Nat.zero_le _⟩ (bI o_52) rfl rfl (fun H locs hP hS => ?_)
      refine lv_if_eq (tgt := 62) hx hb dX7_place_55 (by decide) (fun c_55 => ?_) (fun c_55 => ?_)
      · refine lv_iconst (v := 0) hx hb dX7_place_62 rfl ?_
        have e9 : v_X7_place x1 x2 i_hangingNow i_hourNow f_lease_owed = 0 := by
          refine (bnd_eq ho_1).trans ?_
          refine (if_neg c_4).trans ?_
          refine (if_pos c_10_0).trans ?_
          refine (bnd_eq ho_49).trans ?_
          refine (bnd_eq ho_52).trans ?_
          refine (if_pos c_55).trans ?_
          rfl
        rw [hQ]; exact retI 0 hx hb hr hlk e9 hP rfl hS dX7_place_63
      · refine lv_iconst (v := 1) hx hb dX7_place_58 rfl ?_
        refine lv_goto (tgt := 63) hx hb dX7_place_59 (by decide) ?_
        have e9 : v_X7_place x1 x2 i_hangingNow i_hourNow f_lease_owed = 1 := by
          refine (bnd_eq ho_1).trans ?_
          refine (if_neg c_4).trans ?_
          refine (if_pos c_10_0).trans ?_
          refine (bnd_eq ho_49).trans ?_
          refine (bnd_eq ho_52).trans ?_
          refine (if_neg c_55).trans ?_
          rfl
        rw [hQ]; exact retI 1 hx hb hr hlk e9 hP rfl hS dX7_place_63
    by_cases c_10_1 : x2 = 1
    · have hxI : (x2).toInt = 1 := by rw [c_10_1]; rfl
      refine lv_tableIn (off := 54) (tgt := 64) hx hb dX7_place_10 (by rw [hxI]; decide) (by rw [hxI]; decide) (by rw [hxI]; rfl) (by decide) ?_
      refine lv_aload_n hx hb dX7_place_64 rfl (lv_at hl 0 rfl) ?_
      refine lv_iload_n hx hb dX7_place_65 rfl (lv_at hl 1 rfl) ?_
      obtain ⟨o_66, ho_66⟩ : ∃ z : Int32, z = v_X7_darkHours x1 i_hangingNow := ⟨_, rfl⟩
      refine callVIs (As := [.int x1]) (rest := []) o_66 ho_66 hF (k_X7_darkHours l D cI cZ a a_text a_lease a_reader a_prover a_survey a_paths a_acts a_slots x1 i_hangingNow i_hourNow i_toldDark i_toldLight i_toldCount j_seedNow) (cwV 1 hts gX7_place_X7_darkHours rfl rfl rfl (by decide +kernel) ⟨Nat.le_of_ble_eq_true rfl, Nat.le_of_ble_eq_true rfl⟩) hK hN hP (va_Dsame hD rfl) hS hA [0] rfl rfl 0 7 (T := TX7) (N := 14) rfl rfl rfl hl.1 rfl (Nat.le_of_ble_eq_true rfl) dX7_place_66 ⟨Nat.zero_le _, Nat.zero_le _⟩ o_66 rfl rfl (fun H locs hP hS => ?_)
      have e9 : v_X7_place x1 x2 i_hangingNow i_hourNow f_lease_owed = o_66 := by
        refine (bnd_eq ho_1).trans ?_
        refine (if_neg c_4).trans ?_
        refine (if_neg c_10_0).trans ?_
        refine (if_pos c_10_1).trans ?_
        refine (bnd_eq ho_66).trans ?_
        rfl
      rw [hQ]; exact retI o_66 hx hb hr hlk e9 hP rfl hS dX7_place_69
    by_cases c_10_2 : x2 = 2
    · have hxI : (x2).toInt = 2 := by rw [c_10_2]; rfl
      refine lv_tableIn (off := 60) (tgt := 70) hx hb dX7_place_10 (by rw [hxI]; decide) (by rw [hxI]; decide) (by rw [hxI]; rfl) (by decide) ?_
      refine lv_aload_n hx hb dX7_place_70 rfl (lv_at hl 0 rfl) ?_
      refine va_get (D := D) (ci := 7) (v := .ref a_lease) (C := RX7) (T := TX7) (N := 14) hx hb hts (fun _ h => List.mem_cons_of_mem _ (List.mem_append_left _ (List.mem_append_left _ (List.mem_append_right _ (h))))) hown hK hP 0 rfl rfl 1 (by decide) (hts _ (List.mem_of_getElem? (i := 3) rfl)) (fun _ h9 => h9) rfl dX7_place_71 ?_
      refine lv_iload_n hx hb dX7_place_74 rfl (lv_at hl 1 rfl) ?_
      obtain ⟨o_75, ho_75⟩ : ∃ z : Int32, z = v_X1_owedTo x1 f_lease_owed := ⟨_, rfl⟩
      refine callVIs (As := [.int x1]) (rest := []) o_75 ho_75 hF (k_X1_owedTo l D cI cZ a_lease a_lease_places a_lease_firstHours a_lease_spans a_lease_values a_lease_cells a_lease_needs a_lease_owed a_lease_room n_lease_owed x1 i_lease_squares i_lease_wishCount i_lease_owedPlaces f_lease_owed) (cwV 1 hts gX7_place_X1_owedTo rfl rfl rfl (by decide +kernel) ⟨Nat.le_of_ble_eq_true rfl, Nat.le_of_ble_eq_true rfl⟩) hK hN hP (va_Dsame hD rfl) hS hA [1, 2, 3] rfl rfl 1 1 (T := TX1) (N := 11) rfl rfl rfl hl.1 rfl (Nat.le_of_ble_eq_true rfl) dX7_place_75 ⟨Nat.zero_le _, Nat.zero_le _⟩ o_75 rfl rfl (fun H locs hP hS => ?_)
      have e9 : v_X7_place x1 x2 i_hangingNow i_hourNow f_lease_owed = o_75 := by
        refine (bnd_eq ho_1).trans ?_
        refine (if_neg c_4).trans ?_
        refine (if_neg c_10_0).trans ?_
        refine (if_neg c_10_1).trans ?_
        refine (if_pos c_10_2).trans ?_
        refine (bnd_eq ho_75).trans ?_
        rfl
      rw [hQ]; exact retI o_75 hx hb hr hlk e9 hP rfl hS dX7_place_78
    by_cases c_10_3 : x2 = 3
    · have hxI : (x2).toInt = 3 := by rw [c_10_3]; rfl
      refine lv_tableIn (off := 69) (tgt := 79) hx hb dX7_place_10 (by rw [hxI]; decide) (by rw [hxI]; decide) (by rw [hxI]; rfl) (by decide) ?_
      refine lv_iload_n hx hb dX7_place_79 rfl (lv_at hl 1 rfl) ?_
      refine lv_aload_n hx hb dX7_place_80 rfl (lv_at hl 0 rfl) ?_
      refine va_get (D := D) (ci := 7) (v := .int i_hourNow) (C := RX7) (T := TX7) (N := 14) hx hb hts (fun _ h => List.mem_cons_of_mem _ (List.mem_append_left _ (List.mem_append_left _ (List.mem_append_right _ (h))))) hown hK hP 0 rfl rfl 9 (by decide) (hts _ (List.mem_of_getElem? (i := 2) rfl)) (fun _ h9 => h9) rfl dX7_place_81 ?_
      obtain ⟨o_84, ho_84⟩ : ∃ z : Int32, z = v_X7_cellAbove x1 i_hourNow := ⟨_, rfl⟩
      refine callSIs (As := [.int x1, .int i_hourNow]) (rest := []) o_84 ho_84 hF (k_X7_cellAbove l D cI cZ x1 i_hourNow) (va_cwS 2 hts gX7_place_X7_cellAbove rfl rfl rfl (by decide +kernel) ⟨Nat.le_of_ble_eq_true rfl, Nat.le_of_ble_eq_true rfl⟩) hK hN hP (va_Dsame hD rfl) hS hA [] rfl rfl rfl hl.1 rfl (Nat.le_of_ble_eq_true rfl) dX7_place_84 ⟨Nat.zero_le _, Nat.zero_le _⟩ o_84 rfl rfl (fun H locs hP hS => ?_)
      have e9 : v_X7_place x1 x2 i_hangingNow i_hourNow f_lease_owed = o_84 := by
        refine (bnd_eq ho_1).trans ?_
        refine (if_neg c_4).trans ?_
        refine (if_neg c_10_0).trans ?_
        refine (if_neg c_10_1).trans ?_
        refine (if_neg c_10_2).trans ?_
        refine (if_pos c_10_3).trans ?_
        refine (bnd_eq ho_84).trans ?_
        rfl
      rw [hQ]; exact retI o_84 hx hb hr hlk e9 hP rfl hS dX7_place_87
    have nc_10_0 := lv_neT c_10_0 (show (0 : Int32).toInt = 0 from rfl)
    have nc_10_1 := lv_neT c_10_1 (show (1 : Int32).toInt = 1 from rfl)
    have nc_10_2 := lv_neT c_10_2 (show (2 : Int32).toInt = 2 from rfl)
    have nc_10_3 := lv_neT c_10_3 (show (3 : Int32).toInt = 3 from rfl)
    refine lv_tableOut (tgt := 88) hx hb dX7_place_10 (by omega) (by decide) ?_
    refine lv_bipush (v := (-2)) hx hb dX7_place_88 rfl ?_
    have e9 : v_X7_place x1 x2 i_hangingNow i_hourNow f_lease_owed = (-2) := by
      refine (bnd_eq ho_1).trans ?_
      refine (if_neg c_4).trans ?_
      refine (if_neg c_10_0).trans ?_
      refine (if_neg c_10_1).trans ?_
      refine (if_neg c_10_2).trans ?_
      refine (if_neg c_10_3).trans ?_
      rfl
    rw [hQ]; exact retI (-2) hx hb hr hlk e9 hP rfl hS dX7_place_90
  · refine lv_iconst (v := (-1)) hx hb dX7_place_7 rfl ?_
    have e9 : v_X7_place x1 x2 i_hangingNow i_hourNow f_lease_owed = (-1) := by
      refine (bnd_eq ho_1).trans ?_
      refine (if_pos c_4).trans ?_
      rfl
    rw [hQ]; exact retI (-1) hx hb hr hlk e9 hP rfl hS dX7_place_8
def v_X7_isHour (x0 : Int32) : Bool :=
  if x0 < 0 then false
  else (if 6 ≤ x0 then false
  else true)
abbrev rm_X7_isHour : Room := { frames := 0, cells := 0, slots := 0, locals := 0 }
set_option maxHeartbeats 4000000 in
set_option maxRecDepth 100000 in
theorem k_X7_isHour (l : Launch) (D : va_G) (cI cZ : ClassId) (x0 : Int32) : KI l D cI cZ yX7_isHour wsX7_isHour rm_X7_isHour [.int x0] [] (v_X7_isHour x0) (fun o : Bool => bI o) (fun _ : Bool => []) := by
  refine KI.of cX7_isHour 1 (some .boolean) (by decide) rfl (Nat.le_of_ble_eq_true rfl) ?_
  intro p e s m below meth c A ls ar Q hQ B
  obtain ⟨hx, hb, hr, hml, hts, hown, hlk, hK, hN, hP, hD, hA, hS, hl⟩ := B
  have hown : s.vm.findClass RX7 = some m.cls := hown
  have hF : CallFix p m c cX7_isHour 1 s ar wsX7_isHour RX7 := ⟨hx, hb, hml, hown, hts⟩
  have hl : lv_has ls 1 [(0, .int x0)] := hl
  refine lv_iload_n hx hb dX7_isHour_0 rfl (lv_at hl 0 rfl) ?_
  refine lv_if_lt (tgt := 14) hx hb dX7_isHour_1 (by decide) (fun c_1 => ?_) (fun c_1 => ?_)
  · refine lv_iconst (v := 0) hx hb dX7_isHour_14 rfl ?_
    have e9 : v_X7_isHour x0 = false := by
      refine (if_pos c_1).trans ?_
      rfl
    rw [hQ]; exact retZ (v := fun o : Bool => o) false hx hb hr hlk e9 hP rfl hS dX7_isHour_15
  · refine lv_iload_n hx hb dX7_isHour_4 rfl (lv_at hl 0 rfl) ?_
    refine lv_bipush (v := 6) hx hb dX7_isHour_5 rfl ?_
    refine lv_icmp_ge (tgt := 14) hx hb dX7_isHour_7 (by decide) (fun c_7 => ?_) (fun c_7 => ?_)
    · refine lv_iconst (v := 0) hx hb dX7_isHour_14 rfl ?_
      have e9 : v_X7_isHour x0 = false := by
        refine (if_neg c_1).trans ?_
        refine (if_pos c_7).trans ?_
        rfl
      rw [hQ]; exact retZ (v := fun o : Bool => o) false hx hb hr hlk e9 hP rfl hS dX7_isHour_15
    · refine lv_iconst (v := 1) hx hb dX7_isHour_10 rfl ?_
      refine lv_goto (tgt := 15) hx hb dX7_isHour_11 (by decide) ?_
      have e9 : v_X7_isHour x0 = true := by
        refine (if_neg c_1).trans ?_
        refine (if_neg c_7).trans ?_
        rfl
      rw [hQ]; exact retZ (v := fun o : Bool => o) true hx hb hr hlk e9 hP rfl hS dX7_isHour_15
def v_X7_dark (x1 : Int32) (x2 : Int32) (i_hangingNow : Int32) : Int32 :=
  bnd (v_X7_isCell x1) fun o_1 =>
  (if bI o_1 = 0 then (-1)
  else (bnd (v_X7_isHour x2) fun o_10 =>
  (if bI o_10 = 0 then (-2)
  else (bnd (v_X7_cellAbove x1 x2) fun o_25 =>
  (bnd (v_X7_has i_hangingNow o_25) fun o_28 =>
  (if bI o_28 = 0 then 0
  else 1))))))
abbrev rm_X7_dark : Room := { frames := 1, cells := 0, slots := 0, locals := 22 }
set_option maxHeartbeats 4000000 in
set_option maxRecDepth 100000 in
theorem k_X7_dark (l : Launch) (D : va_G) (cI cZ : ClassId) (a a_text a_lease a_reader a_prover a_survey a_paths a_acts a_slots : Nat) (x1 : Int32) (x2 : Int32) (i_hangingNow : Int32) (i_hourNow : Int32) (i_toldDark : Int32) (i_toldLight : Int32) (i_toldCount : Int32) (j_seedNow : Int64) : KI l D cI cZ yX7_dark wsX7_dark rm_X7_dark [.ref a, .int x1, .int x2] [(a, .inr (7, [.ref a_text, .ref a_lease, .ref a_reader, .ref a_prover, .ref a_survey, .ref a_paths, .ref a_acts, .ref a_slots, .int i_hangingNow, .int i_hourNow, .int i_toldDark, .int i_toldLight, .int i_toldCount, .long j_seedNow]))] (v_X7_dark x1 x2 i_hangingNow) (fun o : Int32 => o) (fun _ : Int32 => [(a, .inr (7, [.ref a_text, .ref a_lease, .ref a_reader, .ref a_prover, .ref a_survey, .ref a_paths, .ref a_acts, .ref a_slots, .int i_hangingNow, .int i_hourNow, .int i_toldDark, .int i_toldLight, .int i_toldCount, .long j_seedNow]))]) := by
  refine KI.of cX7_dark 3 (some .int) (by decide) rfl (Nat.le_of_ble_eq_true rfl) ?_
  intro p e s m below meth c A ls ar Q hQ B
  obtain ⟨hx, hb, hr, hml, hts, hown, hlk, hK, hN, hP, hD, hA, hS, hl⟩ := B
  have hown : s.vm.findClass RX7 = some m.cls := hown
  have hF : CallFix p m c cX7_dark 3 s ar wsX7_dark RX7 := ⟨hx, hb, hml, hown, hts⟩
  have hl : lv_has ls 3 [(0, .ref a), (1, .int x1), (2, .int x2)] := hl
  refine lv_iload_n hx hb dX7_dark_0 rfl (lv_at hl 1 rfl) ?_
  obtain ⟨o_1, ho_1⟩ : ∃ z : Bool, z = v_X7_isCell x1 := ⟨_, rfl⟩
  refine callSIs (As := [.int x1]) (rest := []) o_1 ho_1 hF (k_X7_isCell l D cI cZ x1) (va_cwS 1 hts gX7_dark_X7_isCell rfl rfl rfl (by decide +kernel) ⟨Nat.le_of_ble_eq_true rfl, Nat.le_of_ble_eq_true rfl⟩) hK hN hP (va_Dsame hD rfl) hS hA [] rfl rfl rfl hl.1 rfl (Nat.le_of_ble_eq_true rfl) dX7_dark_1 ⟨Nat.zero_le _, Nat.zero_le _⟩ (bI o_1) rfl rfl (fun H locs hP hS => ?_)
  refine lv_if_ne (tgt := 9) hx hb dX7_dark_4 (by decide) (fun c_4 => ?_) (fun c_4 => ?_)
  · refine lv_iload_n hx hb dX7_dark_9 rfl (lv_at hl 2 rfl) ?_
    obtain ⟨o_10, ho_10⟩ : ∃ z : Bool, z = v_X7_isHour x2 := ⟨_, rfl⟩
    refine callSIs (As := [.int x2]) (rest := []) o_10 ho_10 hF (k_X7_isHour l D cI cZ x2) (va_cwS 1 hts gX7_dark_X7_isHour rfl rfl rfl (by decide +kernel) ⟨Nat.le_of_ble_eq_true rfl, Nat.le_of_ble_eq_true rfl⟩) hK hN hP (va_Dsame hD rfl) hS hA [] rfl rfl rfl hl.1 rfl (Nat.le_of_ble_eq_true rfl) dX7_dark_10 ⟨Nat.zero_le _, Nat.zero_le _⟩ (bI o_10) rfl rfl (fun H locs hP hS => ?_)
    refine lv_if_ne (tgt := 19) hx hb dX7_dark_13 (by decide) (fun c_13 => ?_) (fun c_13 => ?_)
    · refine lv_aload_n hx hb dX7_dark_19 rfl (lv_at hl 0 rfl) ?_
      refine va_get (D := D) (ci := 7) (v := .int i_hangingNow) (C := RX7) (T := TX7) (N := 14) hx hb hts (fun _ h => List.mem_cons_of_mem _ (List.mem_append_right _ (h))) hown hK hP 0 rfl rfl 8 (by decide) (hts _ (List.mem_of_getElem? (i := 1) rfl)) (fun _ h9 => h9) rfl dX7_dark_20 ?_
      refine lv_iload_n hx hb dX7_dark_23 rfl (lv_at hl 1 rfl) ?_
      refine lv_iload_n hx hb dX7_dark_24 rfl (lv_at hl 2 rfl) ?_
      obtain ⟨o_25, ho_25⟩ : ∃ z : Int32, z = v_X7_cellAbove x1 x2 := ⟨_, rfl⟩
      refine callSIs (As := [.int x1, .int x2]) (rest := [.int i_hangingNow]) o_25 ho_25 hF (k_X7_cellAbove l D cI cZ x1 x2) (va_cwS 2 hts gX7_dark_X7_cellAbove rfl rfl rfl (by decide +kernel) ⟨Nat.le_of_ble_eq_true rfl, Nat.le_of_ble_eq_true rfl⟩) hK hN hP (va_Dsame hD rfl) hS hA [] rfl rfl rfl hl.1 rfl (Nat.le_of_ble_eq_true rfl) dX7_dark_25 ⟨Nat.zero_le _, Nat.zero_le _⟩ o_25 rfl rfl (fun H locs hP hS => ?_)
      obtain ⟨o_28, ho_28⟩ : ∃ z : Bool, z = v_X7_has i_hangingNow o_25 := ⟨_, rfl⟩
      refine callSIs (As := [.int i_hangingNow, .int o_25]) (rest := []) o_28 ho_28 hF (k_X7_has l D cI cZ i_hangingNow o_25) (va_cwS 2 hts gX7_dark_X7_has rfl rfl rfl (by decide +kernel) ⟨Nat.le_of_ble_eq_true rfl, Nat.le_of_ble_eq_true rfl⟩) hK hN hP (va_Dsame hD rfl) hS hA [] rfl rfl rfl hl.1 rfl (Nat.le_of_ble_eq_true rfl) dX7_dark_28 ⟨Nat.zero_le _, Nat.zero_le _⟩ (bI o_28) rfl rfl (fun H locs hP hS => ?_)
      refine lv_if_eq (tgt := 38) hx hb dX7_dark_31 (by decide) (fun c_31 => ?_) (fun c_31 => ?_)
      · refine lv_iconst (v := 0) hx hb dX7_dark_38 rfl ?_
        have e9 : v_X7_dark x1 x2 i_hangingNow = 0 := by
          refine (bnd_eq ho_1).trans ?_
          refine (if_neg c_4).trans ?_
          refine (bnd_eq ho_10).trans ?_
          refine (if_neg c_13).trans ?_
          refine (bnd_eq ho_25).trans ?_
          refine (bnd_eq ho_28).trans ?_
          refine (if_pos c_31).trans ?_
          rfl
        rw [hQ]; exact retI 0 hx hb hr hlk e9 hP rfl hS dX7_dark_39
      · refine lv_iconst (v := 1) hx hb dX7_dark_34 rfl ?_
        refine lv_goto (tgt := 39) hx hb dX7_dark_35 (by decide) ?_
        have e9 : v_X7_dark x1 x2 i_hangingNow = 1 := by
          refine (bnd_eq ho_1).trans ?_
          refine (if_neg c_4).trans ?_
          refine (bnd_eq ho_10).trans ?_
          refine (if_neg c_13).trans ?_
          refine (bnd_eq ho_25).trans ?_
          refine (bnd_eq ho_28).trans ?_
          refine (if_neg c_31).trans ?_
          rfl
        rw [hQ]; exact retI 1 hx hb hr hlk e9 hP rfl hS dX7_dark_39
    · refine lv_bipush (v := (-2)) hx hb dX7_dark_16 rfl ?_
      have e9 : v_X7_dark x1 x2 i_hangingNow = (-2) := by
        refine (bnd_eq ho_1).trans ?_
        refine (if_neg c_4).trans ?_
        refine (bnd_eq ho_10).trans ?_
        refine (if_pos c_13).trans ?_
        rfl
      rw [hQ]; exact retI (-2) hx hb hr hlk e9 hP rfl hS dX7_dark_18
  · refine lv_iconst (v := (-1)) hx hb dX7_dark_7 rfl ?_
    have e9 : v_X7_dark x1 x2 i_hangingNow = (-1) := by
      refine (bnd_eq ho_1).trans ?_
      refine (if_pos c_4).trans ?_
      rfl
    rw [hQ]; exact retI (-1) hx hb hr hlk e9 hP rfl hS dX7_dark_8
def v_X7_nextCell (x0 : Int32) (x1 : Int32) : Int32 :=
  if x1 = 0 then ((x0 + 6) - (x0 + 6) / 12 * 12)
  else ((x0 - (x0 - x0 / 6 * 6)) + ((((x0 - x0 / 6 * 6) + 6) + x1) - (((x0 - x0 / 6 * 6) + 6) + x1) / 6 * 6))
abbrev rm_X7_nextCell : Room := { frames := 0, cells := 0, slots := 0, locals := 0 }
set_option maxHeartbeats 4000000 in
set_option maxRecDepth 100000 in
theorem k_X7_nextCell (l : Launch) (D : va_G) (cI cZ : ClassId) (x0 : Int32) (x1 : Int32) : KI l D cI cZ yX7_nextCell wsX7_nextCell rm_X7_nextCell [.int x0, .int x1] [] (v_X7_nextCell x0 x1) (fun o : Int32 => o) (fun _ : Int32 => []) := by
  refine KI.of cX7_nextCell 3 (some .int) (by decide) rfl (Nat.le_of_ble_eq_true rfl) ?_
  intro p e s m below meth c A ls ar Q hQ B
  obtain ⟨hx, hb, hr, hml, hts, hown, hlk, hK, hN, hP, hD, hA, hS, hl⟩ := B
  have hown : s.vm.findClass RX7 = some m.cls := hown
  have hF : CallFix p m c cX7_nextCell 3 s ar wsX7_nextCell RX7 := ⟨hx, hb, hml, hown, hts⟩
  have hl : lv_has ls 3 [(0, .int x0), (1, .int x1)] := hl
  refine lv_iload_n hx hb dX7_nextCell_0 rfl (lv_at hl 1 rfl) ?_
  refine lv_if_ne (tgt := 12) hx hb dX7_nextCell_1 (by decide) (fun c_1 => ?_) (fun c_1 => ?_)
  · refine lv_iload_n hx hb dX7_nextCell_12 rfl (lv_at hl 0 rfl) ?_
    refine lv_bipush (v := 6) hx hb dX7_nextCell_13 rfl ?_
    refine lv_irem hx hb dX7_nextCell_15 (by decide) ?_
    refine lv_istore_n (lv' := [(2, .int (x0 - x0 / 6 * 6)), (0, .int x0), (1, .int x1)]) hx hb dX7_nextCell_16 rfl hl (by decide) rfl (fun ls hl => ?_)
    refine lv_iload_n hx hb dX7_nextCell_17 rfl (lv_at hl 1 rfl) ?_
    refine lv_iload_n hx hb dX7_nextCell_18 rfl (lv_at hl 0 rfl) ?_
    refine lv_isub hx hb dX7_nextCell_19 ?_
    refine lv_iload_n hx hb dX7_nextCell_20 rfl (lv_at hl 0 rfl) ?_
    refine lv_bipush (v := 6) hx hb dX7_nextCell_21 rfl ?_
    refine lv_iadd hx hb dX7_nextCell_23 ?_
    refine lv_iload_n hx hb dX7_nextCell_24 rfl (lv_at hl 2 rfl) ?_
    refine lv_iadd hx hb dX7_nextCell_25 ?_
    refine lv_bipush (v := 6) hx hb dX7_nextCell_26 rfl ?_
    refine lv_irem hx hb dX7_nextCell_28 (by decide) ?_
    refine lv_iadd hx hb dX7_nextCell_29 ?_
    have e9 : v_X7_nextCell x0 x1 = ((x0 - (x0 - x0 / 6 * 6)) + ((((x0 - x0 / 6 * 6) + 6) + x1) - (((x0 - x0 / 6 * 6) + 6) + x1) / 6 * 6)) := by
      refine (if_neg c_1).trans ?_
      rfl
    rw [hQ]; exact retI ((x0 - (x0 - x0 / 6 * 6)) + ((((x0 - x0 / 6 * 6) + 6) + x1) - (((x0 - x0 / 6 * 6) + 6) + x1) / 6 * 6)) hx hb hr hlk e9 hP rfl hS dX7_nextCell_30
  · refine lv_iload_n hx hb dX7_nextCell_4 rfl (lv_at hl 0 rfl) ?_
    refine lv_bipush (v := 6) hx hb dX7_nextCell_5 rfl ?_
    refine lv_iadd hx hb dX7_nextCell_7 ?_
    refine lv_bipush (v := 12) hx hb dX7_nextCell_8 rfl ?_
    refine lv_irem hx hb dX7_nextCell_10 (by decide) ?_
    have e9 : v_X7_nextCell x0 x1 = ((x0 + 6) - (x0 + 6) / 12 * 12) := by
      refine (if_pos c_1).trans ?_
      rfl
    rw [hQ]; exact retI ((x0 + 6) - (x0 + 6) / 12 * 12) hx hb hr hlk e9 hP rfl hS dX7_nextCell_11
def v_X7_read_L23c (i_hangingNow : Int32) (i23 : Nat) (z23_1 : Int32) (z23_2 : Int32) : Int32 × Int32 :=
  bnd (v_X7_has i_hangingNow z23_1) fun o_38 =>
  (if bI o_38 = 0 then (bnd (v_X7_nextCell z23_1 1) fun o_53 =>
    (o_53, ((2 * z23_2) + 0)))
  else (bnd (v_X7_nextCell z23_1 1) fun o_53 =>
  (o_53, ((2 * z23_2) + 1))))
def v_X7_read_L23 (i_hangingNow : Int32) (i23 : Nat) (z23 : Int32 × Int32) : Int32 × Int32 := v_X7_read_L23c i_hangingNow i23 z23.1 z23.2
def v_X7_read (x1 : Int32) (i_hangingNow : Int32) (i_hourNow : Int32) : Int32 :=
  bnd (v_X7_isCell x1) fun o_1 =>
  (if bI o_1 = 0 then (-1)
  else (bnd (v_X7_cellAbove x1 i_hourNow) fun o_16 =>
  (bnd2 (it (v_X7_read_L23 i_hangingNow) 6 0 (o_16, 0)) fun o_L23_1 o_L23_2 =>
  o_L23_2)))
abbrev rm_X7_read : Room := { frames := 1, cells := 0, slots := 0, locals := 22 }
set_option maxHeartbeats 4000000 in
set_option maxRecDepth 100000 in
theorem k_X7_read (l : Launch) (D : va_G) (cI cZ : ClassId) (a a_text a_lease a_reader a_prover a_survey a_paths a_acts a_slots : Nat) (x1 : Int32) (i_hangingNow : Int32) (i_hourNow : Int32) (i_toldDark : Int32) (i_toldLight : Int32) (i_toldCount : Int32) (j_seedNow : Int64) : KI l D cI cZ yX7_read wsX7_read rm_X7_read [.ref a, .int x1] [(a, .inr (7, [.ref a_text, .ref a_lease, .ref a_reader, .ref a_prover, .ref a_survey, .ref a_paths, .ref a_acts, .ref a_slots, .int i_hangingNow, .int i_hourNow, .int i_toldDark, .int i_toldLight, .int i_toldCount, .long j_seedNow]))] (v_X7_read x1 i_hangingNow i_hourNow) (fun o : Int32 => o) (fun _ : Int32 => [(a, .inr (7, [.ref a_text, .ref a_lease, .ref a_reader, .ref a_prover, .ref a_survey, .ref a_paths, .ref a_acts, .ref a_slots, .int i_hangingNow, .int i_hourNow, .int i_toldDark, .int i_toldLight, .int i_toldCount, .long j_seedNow]))]) := by
  refine KI.of cX7_read 5 (some .int) (by decide) rfl (Nat.le_of_ble_eq_true rfl) ?_
  intro p e s m below meth c A ls ar Q hQ B
  obtain ⟨hx, hb, hr, hml, hts, hown, hlk, hK, hN, hP, hD, hA, hS, hl⟩ := B
  have hown : s.vm.findClass RX7 = some m.cls := hown
  have hF : CallFix p m c cX7_read 5 s ar wsX7_read RX7 := ⟨hx, hb, hml, hown, hts⟩
  have hl : lv_has ls 5 [(0, .ref a), (1, .int x1)] := hl
  refine lv_iload_n hx hb dX7_read_0 rfl (lv_at hl 1 rfl) ?_
  obtain ⟨o_1, ho_1⟩ : ∃ z : Bool, z = v_X7_isCell x1 := ⟨_, rfl⟩
  refine callSIs (As := [.int x1]) (rest := []) o_1 ho_1 hF (k_X7_isCell l D cI cZ x1) (va_cwS 1 hts gX7_read_X7_isCell rfl rfl rfl (by decide +kernel) ⟨Nat.le_of_ble_eq_true rfl, Nat.le_of_ble_eq_true rfl⟩) hK hN hP (va_Dsame hD rfl) hS hA [] rfl rfl rfl hl.1 rfl (Nat.le_of_ble_eq_true rfl) dX7_read_1 ⟨Nat.zero_le _, Nat.zero_le _⟩ (bI o_1) rfl rfl (fun H locs hP hS => ?_)
  refine lv_if_ne (tgt := 9) hx hb dX7_read_4 (by decide) (fun c_4 => ?_) (fun c_4 => ?_)
  · refine lv_iconst (v := 0) hx hb dX7_read_9 rfl ?_
    refine lv_istore_n (lv' := [(2, .int 0), (0, .ref a), (1, .int x1)]) hx hb dX7_read_10 rfl hl (by decide) rfl (fun ls hl => ?_)
    refine lv_iload_n hx hb dX7_read_11 rfl (lv_at hl 2 rfl) ?_
    refine lv_aload_n hx hb dX7_read_12 rfl (lv_at hl 1 rfl) ?_
    refine va_get (D := D) (ci := 7) (v := .int i_hourNow) (C := RX7) (T := TX7) (N := 14) hx hb hts (fun _ h => List.mem_cons_of_mem _ (List.mem_append_right _ (h))) hown hK hP 0 rfl rfl 9 (by decide) (hts _ (List.mem_of_getElem? (i := 1) rfl)) (fun _ h9 => h9) rfl dX7_read_13 ?_
    obtain ⟨o_16, ho_16⟩ : ∃ z : Int32, z = v_X7_cellAbove x1 i_hourNow := ⟨_, rfl⟩
    refine callSIs (As := [.int x1, .int i_hourNow]) (rest := []) o_16 ho_16 hF (k_X7_cellAbove l D cI cZ x1 i_hourNow) (va_cwS 2 hts gX7_read_X7_cellAbove rfl rfl rfl (by decide +kernel) ⟨Nat.le_of_ble_eq_true rfl, Nat.le_of_ble_eq_true rfl⟩) hK hN hP (va_Dsame hD rfl) hS hA [] rfl rfl rfl hl.1 rfl (Nat.le_of_ble_eq_true rfl) dX7_read_16 ⟨Nat.zero_le _, Nat.zero_le _⟩ o_16 rfl rfl (fun H locs hP hS => ?_)
    refine lv_istore_n (lv' := [(3, .int o_16), (2, .int 0), (0, .ref a), (1, .int x1)]) hx hb dX7_read_19 rfl hl (by decide) rfl (fun ls hl => ?_)
    refine lv_iconst (v := 0) hx hb dX7_read_20 rfl ?_
    refine lv_istore (lv' := [(4, .int 0), (3, .int o_16), (2, .int 0), (0, .ref a), (1, .int x1)]) hx hb dX7_read_21 hl (by decide) rfl (fun ls hl => ?_)
    obtain ⟨o_L23_1, o_L23_2, ho_L23⟩ := ex2 (it (v_X7_read_L23 i_hangingNow) 6 0 (o_16, 0))
    have kE23 : ∀ (H : Heap) (locs : List Loc) (ls : Array Slot), va_P D vwCl [(a, .inr (7, [.ref a_text, .ref a_lease, .ref a_reader, .ref a_prover, .ref a_survey, .ref a_paths, .ref a_acts, .ref a_slots, .int i_hangingNow, .int i_hourNow, .int i_toldDark, .int i_toldLight, .int i_toldCount, .long j_seedNow]))] H → va_S A s.heap H locs → lv_has ls 5 [(2, .int o_L23_2)] → W p l e rm_X7_read s m ar below meth c H locs 0 0 Q (F0 m 63 ls []) := by
      intro H locs ls hP hS hl
      refine lv_iload_n hx hb dX7_read_63 rfl (lv_at hl 0 rfl) ?_
      have e9 : v_X7_read x1 i_hangingNow i_hourNow = o_L23_2 := by
        refine (bnd_eq ho_1).trans ?_
        refine (if_neg c_4).trans ?_
        refine (bnd_eq ho_16).trans ?_
        refine (bnd2_eq ho_L23).trans ?_
        rfl
      rw [hQ]; exact retI o_L23_2 hx hb hr hlk e9 hP rfl hS dX7_read_64
    have loop23 : ∀ (k i23 : Nat) (z23 : Int32 × Int32), 0 ≤ i23 → i23 + k = 0 + 6 → it (v_X7_read_L23 i_hangingNow) k i23 z23 = (o_L23_1, o_L23_2) → ∀ (H : Heap) (locs : List Loc) (ls : Array Slot), va_P D vwCl [(a, .inr (7, [.ref a_text, .ref a_lease, .ref a_reader, .ref a_prover, .ref a_survey, .ref a_paths, .ref a_acts, .ref a_slots, .int i_hangingNow, .int i_hourNow, .int i_toldDark, .int i_toldLight, .int i_toldCount, .long j_seedNow]))] H → va_S A s.heap H locs → lv_has ls 5 [(4, .int (nI i23)), (3, .int z23.1), (2, .int z23.2), (0, .ref a)] → W p l e rm_X7_read s m ar below meth c H locs 0 0 Q (F0 m 23 ls []) := by
      intro k
      induction k with
      | zero =>
        intro i23 z23 hi0 hik hz H locs ls hP hS hl
        have hz : z23 = (o_L23_1, o_L23_2) := it_0 hz
        subst z23
        have hP : va_P D vwCl [(a, .inr (7, [.ref a_text, .ref a_lease, .ref a_reader, .ref a_prover, .ref a_survey, .ref a_paths, .ref a_acts, .ref a_slots, .int i_hangingNow, .int i_hourNow, .int i_toldDark, .int i_toldLight, .int i_toldCount, .long j_seedNow]))] H := hP
        have hl : lv_has ls 5 [(4, .int (nI i23)), (3, .int o_L23_1), (2, .int o_L23_2), (0, .ref a)] := hl
        refine lv_iload hx hb dX7_read_23 (lv_at hl 0 rfl) ?_
        refine lv_bipush (v := 6) hx hb dX7_read_25 rfl ?_
        refine lv_icmp_ge (tgt := 63) hx hb dX7_read_27 (by decide) (fun _ => ?_) (fun c => absurd (nI_le (a := 6) (by omega) (by omega)) c)
        exact kE23 _ _ _ hP hS (lv_sub hl [2] rfl)
      | succ k ih =>
        intro i23 z23 hi0 hik hz H locs ls hP hS hl
        obtain ⟨z23_1, z23_2⟩ := z23
        have hP : va_P D vwCl [(a, .inr (7, [.ref a_text, .ref a_lease, .ref a_reader, .ref a_prover, .ref a_survey, .ref a_paths, .ref a_acts, .ref a_slots, .int i_hangingNow, .int i_hourNow, .int i_toldDark, .int i_toldLight, .int i_toldCount, .long j_seedNow]))] H := hP
        have hl : lv_has ls 5 [(4, .int (nI i23)), (3, .int z23_1), (2, .int z23_2), (0, .ref a)] := hl
        refine lv_iload hx hb dX7_read_23 (lv_at hl 0 rfl) ?_
        refine lv_bipush (v := 6) hx hb dX7_read_25 rfl ?_
        refine lv_icmp_ge (tgt := 63) hx hb dX7_read_27 (by decide) (fun c => absurd c (nI_ge (b := 6) (by omega) (by decide))) (fun _ => ?_)
        refine lv_iconst (v := 2) hx hb dX7_read_30 rfl ?_
        refine lv_iload_n hx hb dX7_read_31 rfl (lv_at hl 2 rfl) ?_
        refine lv_imul hx hb dX7_read_32 ?_
        refine lv_aload_n hx hb dX7_read_33 rfl (lv_at hl 3 rfl) ?_
        refine va_get (D := D) (ci := 7) (v := .int i_hangingNow) (C := RX7) (T := TX7) (N := 14) hx hb hts (fun _ h => List.mem_cons_of_mem _ (List.mem_append_right _ (h))) hown hK hP 0 rfl rfl 8 (by decide) (hts _ (List.mem_of_getElem? (i := 2) rfl)) (fun _ h9 => h9) rfl dX7_read_34 ?_
        refine lv_iload_n hx hb dX7_read_37 rfl (lv_at hl 1 rfl) ?_
        obtain ⟨o_38, ho_38⟩ : ∃ z : Bool, z = v_X7_has i_hangingNow z23_1 := ⟨_, rfl⟩
        refine callSIs (As := [.int i_hangingNow, .int z23_1]) (rest := [.int (2 * z23_2)]) o_38 ho_38 hF (k_X7_has l D cI cZ i_hangingNow z23_1) (va_cwS 2 hts gX7_read_X7_has rfl rfl rfl (by decide +kernel) ⟨Nat.le_of_ble_eq_true rfl, Nat.le_of_ble_eq_true rfl⟩) hK hN hP (va_Dsame hD rfl) hS hA [] rfl rfl rfl hl.1 rfl (Nat.le_of_ble_eq_true rfl) dX7_read_38 ⟨Nat.zero_le _, Nat.zero_le _⟩ (bI o_38) rfl rfl (fun H locs hP hS => ?_)
        refine lv_if_eq (tgt := 48) hx hb dX7_read_41 (by decide) (fun c_41 => ?_) (fun c_41 => ?_)
        · refine lv_iconst (v := 0) hx hb dX7_read_48 rfl ?_
          refine lv_iadd hx hb dX7_read_49 ?_
          refine lv_istore_n (lv' := [(2, .int ((2 * z23_2) + 0)), (4, .int (nI i23)), (3, .int z23_1), (0, .ref a)]) hx hb dX7_read_50 rfl hl (by decide) rfl (fun ls hl => ?_)
          refine lv_iload_n hx hb dX7_read_51 rfl (lv_at hl 2 rfl) ?_
          refine lv_iconst (v := 1) hx hb dX7_read_52 rfl ?_
          obtain ⟨o_53, ho_53⟩ : ∃ z : Int32, z = v_X7_nextCell z23_1 1 := ⟨_, rfl⟩
          refine callSIs (As := [.int z23_1, .int 1]) (rest := []) o_53 ho_53 hF (k_X7_nextCell l D cI cZ z23_1 1) (va_cwS 2 hts gX7_read_X7_nextCell rfl rfl rfl (by decide +kernel) ⟨Nat.le_of_ble_eq_true rfl, Nat.le_of_ble_eq_true rfl⟩) hK hN hP (va_Dsame hD rfl) hS hA [] rfl rfl rfl hl.1 rfl (Nat.le_of_ble_eq_true rfl) dX7_read_53 ⟨Nat.zero_le _, Nat.zero_le _⟩ o_53 rfl rfl (fun H locs hP hS => ?_)
          refine lv_istore_n (lv' := [(3, .int o_53), (2, .int ((2 * z23_2) + 0)), (4, .int (nI i23)), (0, .ref a)]) hx hb dX7_read_56 rfl hl (by decide) rfl (fun ls hl => ?_)
          refine lv_iinc (v := (nI (i23 + 1))) (lv' := [(4, .int (nI (i23 + 1))), (3, .int o_53), (2, .int ((2 * z23_2) + 0)), (0, .ref a)]) hx hb dX7_read_57 hl (k := 2) rfl (nI_1 _) (by decide) rfl (fun ls hl => ?_)
          refine lv_goto (tgt := 23) hx hb dX7_read_60 (by decide) ?_
          have e8 : v_X7_read_L23 i_hangingNow i23 (z23_1, z23_2) = (o_53, ((2 * z23_2) + 0)) := by
            show v_X7_read_L23c i_hangingNow i23 z23_1 z23_2 = (o_53, ((2 * z23_2) + 0))
            refine (bnd_eq ho_38).trans ?_
            refine (if_pos c_41).trans ?_
            refine (bnd_eq ho_53).trans ?_
            rfl
          exact ih (i23 + 1) (o_53, ((2 * z23_2) + 0)) (by omega) (by omega) (it_go e8 hz) _ _ _ hP hS (lv_sub hl [0, 1, 2, 3] rfl)
        · refine lv_iconst (v := 1) hx hb dX7_read_44 rfl ?_
          refine lv_goto (tgt := 49) hx hb dX7_read_45 (by decide) ?_
          refine lv_iadd hx hb dX7_read_49 ?_
          refine lv_istore_n (lv' := [(2, .int ((2 * z23_2) + 1)), (4, .int (nI i23)), (3, .int z23_1), (0, .ref a)]) hx hb dX7_read_50 rfl hl (by decide) rfl (fun ls hl => ?_)
          refine lv_iload_n hx hb dX7_read_51 rfl (lv_at hl 2 rfl) ?_
          refine lv_iconst (v := 1) hx hb dX7_read_52 rfl ?_
          obtain ⟨o_53, ho_53⟩ : ∃ z : Int32, z = v_X7_nextCell z23_1 1 := ⟨_, rfl⟩
          refine callSIs (As := [.int z23_1, .int 1]) (rest := []) o_53 ho_53 hF (k_X7_nextCell l D cI cZ z23_1 1) (va_cwS 2 hts gX7_read_X7_nextCell rfl rfl rfl (by decide +kernel) ⟨Nat.le_of_ble_eq_true rfl, Nat.le_of_ble_eq_true rfl⟩) hK hN hP (va_Dsame hD rfl) hS hA [] rfl rfl rfl hl.1 rfl (Nat.le_of_ble_eq_true rfl) dX7_read_53 ⟨Nat.zero_le _, Nat.zero_le _⟩ o_53 rfl rfl (fun H locs hP hS => ?_)
          refine lv_istore_n (lv' := [(3, .int o_53), (2, .int ((2 * z23_2) + 1)), (4, .int (nI i23)), (0, .ref a)]) hx hb dX7_read_56 rfl hl (by decide) rfl (fun ls hl => ?_)
          refine lv_iinc (v := (nI (i23 + 1))) (lv' := [(4, .int (nI (i23 + 1))), (3, .int o_53), (2, .int ((2 * z23_2) + 1)), (0, .ref a)]) hx hb dX7_read_57 hl (k := 2) rfl (nI_1 _) (by decide) rfl (fun ls hl => ?_)
          refine lv_goto (tgt := 23) hx hb dX7_read_60 (by decide) ?_
          have e8 : v_X7_read_L23 i_hangingNow i23 (z23_1, z23_2) = (o_53, ((2 * z23_2) + 1)) := by
            show v_X7_read_L23c i_hangingNow i23 z23_1 z23_2 = (o_53, ((2 * z23_2) + 1))
            refine (bnd_eq ho_38).trans ?_
            refine (if_neg c_41).trans ?_
            refine (bnd_eq ho_53).trans ?_
            rfl
          exact ih (i23 + 1) (o_53, ((2 * z23_2) + 1)) (by omega) (by omega) (it_go e8 hz) _ _ _ hP hS (lv_sub hl [0, 1, 2, 3] rfl)
    exact loop23 6 0 (o_16, 0) (Nat.le_refl _) rfl ho_L23.symm _ _ _ hP hS (lv_sub hl [0, 1, 2, 3] rfl)
  · refine lv_iconst (v := (-1)) hx hb dX7_read_7 rfl ?_
    have e9 : v_X7_read x1 i_hangingNow i_hourNow = (-1) := by
      refine (bnd_eq ho_1).trans ?_
      refine (if_pos c_4).trans ?_
      rfl
    rw [hQ]; exact retI (-1) hx hb hr hlk e9 hP rfl hS dX7_read_8
def v_X7_squaresNow (i_hangingNow : Int32) : Int32 :=
  bnd (v_J6_bitCount_0f7a4 i_hangingNow) fun o_4 =>
  o_4
abbrev rm_X7_squaresNow : Room := { frames := 1, cells := 0, slots := 0, locals := 20 }
set_option maxHeartbeats 4000000 in
set_option maxRecDepth 100000 in
theorem k_X7_squaresNow (l : Launch) (D : va_G) (cI cZ : ClassId) (a a_text a_lease a_reader a_prover a_survey a_paths a_acts a_slots : Nat) (i_hangingNow : Int32) (i_hourNow : Int32) (i_toldDark : Int32) (i_toldLight : Int32) (i_toldCount : Int32) (j_seedNow : Int64) : KI l D cI cZ yX7_squaresNow wsX7_squaresNow rm_X7_squaresNow [.ref a] [(a, .inr (7, [.ref a_text, .ref a_lease, .ref a_reader, .ref a_prover, .ref a_survey, .ref a_paths, .ref a_acts, .ref a_slots, .int i_hangingNow, .int i_hourNow, .int i_toldDark, .int i_toldLight, .int i_toldCount, .long j_seedNow]))] (v_X7_squaresNow i_hangingNow) (fun o : Int32 => o) (fun _ : Int32 => [(a, .inr (7, [.ref a_text, .ref a_lease, .ref a_reader, .ref a_prover, .ref a_survey, .ref a_paths, .ref a_acts, .ref a_slots, .int i_hangingNow, .int i_hourNow, .int i_toldDark, .int i_toldLight, .int i_toldCount, .long j_seedNow]))]) := by
  refine KI.of cX7_squaresNow 1 (some .int) (by decide) rfl (Nat.le_of_ble_eq_true rfl) ?_
  intro p e s m below meth c A ls ar Q hQ B
  obtain ⟨hx, hb, hr, hml, hts, hown, hlk, hK, hN, hP, hD, hA, hS, hl⟩ := B
  have hown : s.vm.findClass RX7 = some m.cls := hown
  have hF : CallFix p m c cX7_squaresNow 1 s ar wsX7_squaresNow RX7 := ⟨hx, hb, hml, hown, hts⟩
  have hl : lv_has ls 1 [(0, .ref a)] := hl
  refine lv_aload_n hx hb dX7_squaresNow_0 rfl (lv_at hl 0 rfl) ?_
  refine va_get (D := D) (ci := 7) (v := .int i_hangingNow) (C := RX7) (T := TX7) (N := 14) hx hb hts (fun _ h => List.mem_cons_of_mem _ (List.mem_append_right _ (h))) hown hK hP 0 rfl rfl 8 (by decide) (hts _ (List.mem_of_getElem? (i := 1) rfl)) (fun _ h9 => h9) rfl dX7_squaresNow_1 ?_
  obtain ⟨o_4, ho_4⟩ : ∃ z : Int32, z = v_J6_bitCount_0f7a4 i_hangingNow := ⟨_, rfl⟩
  refine callSIs (As := [.int i_hangingNow]) (rest := []) o_4 ho_4 hF (k_J6_bitCount_0f7a4 l D cI cZ i_hangingNow) (va_cwS 1 hts gX7_squaresNow_J6_bitCount_0f7a4 rfl rfl rfl (by decide +kernel) ⟨Nat.le_of_ble_eq_true rfl, Nat.le_of_ble_eq_true rfl⟩) hK hN hP (va_Dsame hD rfl) hS hA [] rfl rfl rfl hl.1 rfl (Nat.le_of_ble_eq_true rfl) dX7_squaresNow_4 ⟨Nat.zero_le _, Nat.zero_le _⟩ o_4 rfl rfl (fun H locs hP hS => ?_)
  have e9 : v_X7_squaresNow i_hangingNow = o_4 := by
    refine (bnd_eq ho_4).trans ?_
    rfl
  rw [hQ]; exact retI o_4 hx hb hr hlk e9 hP rfl hS dX7_squaresNow_7
def v_X7_momentNow (i_hangingNow : Int32) (i_hourNow : Int32) : Int32 :=
  ((i_hourNow * 4096) + i_hangingNow)
abbrev rm_X7_momentNow : Room := { frames := 0, cells := 0, slots := 0, locals := 0 }
set_option maxHeartbeats 4000000 in
set_option maxRecDepth 100000 in
theorem k_X7_momentNow (l : Launch) (D : va_G) (cI cZ : ClassId) (a a_text a_lease a_reader a_prover a_survey a_paths a_acts a_slots : Nat) (i_hangingNow : Int32) (i_hourNow : Int32) (i_toldDark : Int32) (i_toldLight : Int32) (i_toldCount : Int32) (j_seedNow : Int64) : KI l D cI cZ yX7_momentNow wsX7_momentNow rm_X7_momentNow [.ref a] [(a, .inr (7, [.ref a_text, .ref a_lease, .ref a_reader, .ref a_prover, .ref a_survey, .ref a_paths, .ref a_acts, .ref a_slots, .int i_hangingNow, .int i_hourNow, .int i_toldDark, .int i_toldLight, .int i_toldCount, .long j_seedNow]))] (v_X7_momentNow i_hangingNow i_hourNow) (fun o : Int32 => o) (fun _ : Int32 => [(a, .inr (7, [.ref a_text, .ref a_lease, .ref a_reader, .ref a_prover, .ref a_survey, .ref a_paths, .ref a_acts, .ref a_slots, .int i_hangingNow, .int i_hourNow, .int i_toldDark, .int i_toldLight, .int i_toldCount, .long j_seedNow]))]) := by
  refine KI.of cX7_momentNow 1 (some .int) (by decide) rfl (Nat.le_of_ble_eq_true rfl) ?_
  intro p e s m below meth c A ls ar Q hQ B
  obtain ⟨hx, hb, hr, hml, hts, hown, hlk, hK, hN, hP, hD, hA, hS, hl⟩ := B
  have hown : s.vm.findClass RX7 = some m.cls := hown
  have hF : CallFix p m c cX7_momentNow 1 s ar wsX7_momentNow RX7 := ⟨hx, hb, hml, hown, hts⟩
  have hl : lv_has ls 1 [(0, .ref a)] := hl
  refine lv_aload_n hx hb dX7_momentNow_0 rfl (lv_at hl 0 rfl) ?_
  refine va_get (D := D) (ci := 7) (v := .int i_hourNow) (C := RX7) (T := TX7) (N := 14) hx hb hts (fun _ h => List.mem_cons_of_mem _ (List.mem_append_right _ (h))) hown hK hP 0 rfl rfl 9 (by decide) (hts _ (List.mem_of_getElem? (i := 1) rfl)) (fun _ h9 => h9) rfl dX7_momentNow_1 ?_
  refine lv_sipush (v := 4096) hx hb dX7_momentNow_4 rfl ?_
  refine lv_imul hx hb dX7_momentNow_7 ?_
  refine lv_aload_n hx hb dX7_momentNow_8 rfl (lv_at hl 0 rfl) ?_
  refine va_get (D := D) (ci := 7) (v := .int i_hangingNow) (C := RX7) (T := TX7) (N := 14) hx hb hts (fun _ h => List.mem_cons_of_mem _ (List.mem_append_right _ (h))) hown hK hP 0 rfl rfl 8 (by decide) (hts _ (List.mem_of_getElem? (i := 2) rfl)) (fun _ h9 => h9) rfl dX7_momentNow_9 ?_
  refine lv_iadd hx hb dX7_momentNow_12 ?_
  have e9 : v_X7_momentNow i_hangingNow i_hourNow = ((i_hourNow * 4096) + i_hangingNow) := by
    rfl
  rw [hQ]; exact retI ((i_hourNow * 4096) + i_hangingNow) hx hb hr hlk e9 hP rfl hS dX7_momentNow_13
def v_X7_hang (x1 : Int32) (i_hangingNow : Int32) (i_hourNow : Int32) (i_acts_size : Int32) (f_acts_moments : Nat → Int32) : Int32 × Int32 × Int32 × (Nat → Int32) :=
  bnd (v_X7_isCell x1) fun o_1 =>
  (if bI o_1 = 0 then ((-1), i_hangingNow, i_acts_size, f_acts_moments)
  else (bnd (v_X7_has i_hangingNow x1) fun o_14 =>
  (if bI o_14 = 0 then (bnd (v_X7_squaresNow i_hangingNow) fun o_24 =>
    (if o_24 < 5 then (bnd (v_X7_momentNow i_hangingNow i_hourNow) fun o_39 =>
      (bnd2 (v_X0_add o_39 i_acts_size f_acts_moments) fun o_42_1 o_42_2 =>
      (bnd ((i_hangingNow ||| ((1 : Int32) <<< (x1 &&& 31)))) fun w_54 =>
      (bnd (v_X7_squaresNow w_54) fun o_58 =>
      (o_58, w_54, o_42_1, o_42_2)))))
    else ((-4), i_hangingNow, i_acts_size, f_acts_moments)))
  else ((-3), i_hangingNow, i_acts_size, f_acts_moments))))
abbrev rm_X7_hang : Room := { frames := 3, cells := 0, slots := 0, locals := 64 }
set_option maxHeartbeats 4000000 in
set_option maxRecDepth 100000 in
theorem k_X7_hang (l : Launch) (D : va_G) (cI cZ : ClassId) (a a_text a_lease a_reader a_prover a_survey a_paths a_acts a_slots a_acts_moments n_acts_moments : Nat) (x1 : Int32) (i_hangingNow : Int32) (i_hourNow : Int32) (i_toldDark : Int32) (i_toldLight : Int32) (i_toldCount : Int32) (j_seedNow : Int64) (i_acts_size : Int32) (f_acts_moments : Nat → Int32) : KI l D cI cZ yX7_hang wsX7_hang rm_X7_hang [.ref a, .int x1] [(a, .inr (7, [.ref a_text, .ref a_lease, .ref a_reader, .ref a_prover, .ref a_survey, .ref a_paths, .ref a_acts, .ref a_slots, .int i_hangingNow, .int i_hourNow, .int i_toldDark, .int i_toldLight, .int i_toldCount, .long j_seedNow])), (a_acts, .inr (0, [.ref a_acts_moments, .int i_acts_size])), (a_acts_moments, .inr (4, [.ref n_acts_moments])), (n_acts_moments, .inl (cI, 16, .inl f_acts_moments))] (v_X7_hang x1 i_hangingNow i_hourNow i_acts_size f_acts_moments) (fun o : Int32 × Int32 × Int32 × (Nat → Int32) => o.1) (fun o : Int32 × Int32 × Int32 × (Nat → Int32) => [(a, .inr (7, [.ref a_text, .ref a_lease, .ref a_reader, .ref a_prover, .ref a_survey, .ref a_paths, .ref a_acts, .ref a_slots, .int o.2.1, .int i_hourNow, .int i_toldDark, .int i_toldLight, .int i_toldCount, .long j_seedNow])), (a_acts, .inr (0, [.ref a_acts_moments, .int o.2.2.1])), (a_acts_moments, .inr (4, [.ref n_acts_moments])), (n_acts_moments, .inl (cI, 16, .inl o.2.2.2))]) := by
  refine KI.of cX7_hang 2 (some .int) (by decide) rfl (Nat.le_of_ble_eq_true rfl) ?_
  intro p e s m below meth c A ls ar Q hQ B
  obtain ⟨hx, hb, hr, hml, hts, hown, hlk, hK, hN, hP, hD, hA, hS, hl⟩ := B
  have hown : s.vm.findClass RX7 = some m.cls := hown
  have hF : CallFix p m c cX7_hang 2 s ar wsX7_hang RX7 := ⟨hx, hb, hml, hown, hts⟩
  have hl : lv_has ls 2 [(0, .ref a), (1, .int x1)] := hl
  refine lv_iload_n hx hb dX7_hang_0 rfl (lv_at hl 1 rfl) ?_
  obtain ⟨o_1, ho_1⟩ : ∃ z : Bool, z = v_X7_isCell x1 := ⟨_, rfl⟩
  refine callSIs (As := [.int x1]) (rest := []) o_1 ho_1 hF (k_X7_isCell l D cI cZ x1) (va_cwS 1 hts gX7_hang_X7_isCell rfl rfl rfl (by decide +kernel) ⟨Nat.le_of_ble_eq_true rfl, Nat.le_of_ble_eq_true rfl⟩) hK hN hP (va_Dsame hD rfl) hS hA [] rfl rfl rfl hl.1 rfl (Nat.le_of_ble_eq_true rfl) dX7_hang_1 ⟨Nat.zero_le _, Nat.zero_le _⟩ (bI o_1) rfl rfl (fun H locs hP hS => ?_)
  refine lv_if_ne (tgt := 9) hx hb dX7_hang_4 (by decide) (fun c_4 => ?_) (fun c_4 => ?_)
  · refine lv_aload_n hx hb dX7_hang_9 rfl (lv_at hl 0 rfl) ?_
    refine va_get (D := D) (ci := 7) (v := .int i_hangingNow) (C := RX7) (T := TX7) (N := 14) hx hb hts (fun _ h => List.mem_cons_of_mem _ (List.mem_append_left _ (List.mem_append_left _ (List.mem_append_right _ (h))))) hown hK hP 0 rfl rfl 8 (by decide) (hts _ (List.mem_of_getElem? (i := 1) rfl)) (fun _ h9 => h9) rfl dX7_hang_10 ?_
    refine lv_iload_n hx hb dX7_hang_13 rfl (lv_at hl 1 rfl) ?_
    obtain ⟨o_14, ho_14⟩ : ∃ z : Bool, z = v_X7_has i_hangingNow x1 := ⟨_, rfl⟩
    refine callSIs (As := [.int i_hangingNow, .int x1]) (rest := []) o_14 ho_14 hF (k_X7_has l D cI cZ i_hangingNow x1) (va_cwS 2 hts gX7_hang_X7_has rfl rfl rfl (by decide +kernel) ⟨Nat.le_of_ble_eq_true rfl, Nat.le_of_ble_eq_true rfl⟩) hK hN hP (va_Dsame hD rfl) hS hA [] rfl rfl rfl hl.1 rfl (Nat.le_of_ble_eq_true rfl) dX7_hang_14 ⟨Nat.zero_le _, Nat.zero_le _⟩ (bI o_14) rfl rfl (fun H locs hP hS => ?_)
    refine lv_if_eq (tgt := 23) hx hb dX7_hang_17 (by decide) (fun c_17 => ?_) (fun c_17 => ?_)
    · refine lv_aload_n hx hb dX7_hang_23 rfl (lv_at hl 0 rfl) ?_
      obtain ⟨o_24, ho_24⟩ : ∃ z : Int32, z = v_X7_squaresNow i_hangingNow := ⟨_, rfl⟩
      refine callVIs (As := []) (rest := []) o_24 ho_24 hF (k_X7_squaresNow l D cI cZ a a_text a_lease a_reader a_prover a_survey a_paths a_acts a_slots i_hangingNow i_hourNow i_toldDark i_toldLight i_toldCount j_seedNow) (cwV 0 hts gX7_hang_X7_squaresNow rfl rfl rfl (by decide +kernel) ⟨Nat.le_of_ble_eq_true rfl, Nat.le_of_ble_eq_true rfl⟩) hK hN hP (va_Dsame hD rfl) hS hA [0] rfl rfl 0 7 (T := TX7) (N := 14) rfl rfl rfl hl.1 rfl (Nat.le_of_ble_eq_true rfl) dX7_hang_24 ⟨Nat.zero_le _, Nat.zero_le _⟩ o_24 rfl rfl (fun H locs hP hS => ?_)
      refine lv_iconst (v := 5) hx hb dX7_hang_27 rfl ?_
      refine lv_icmp_lt (tgt := 34) hx hb dX7_hang_28 (by decide) (fun c_28 => ?_) (fun c_28 => ?_)
      · refine lv_aload_n hx hb dX7_hang_34 rfl (lv_at hl 0 rfl) ?_
        refine va_get (D := D) (ci := 7) (v := .ref a_acts) (C := RX7) (T := TX7) (N := 14) hx hb hts (fun _ h => List.mem_cons_of_mem _ (List.mem_append_left _ (List.mem_append_left _ (List.mem_append_right _ (h))))) hown hK hP 0 rfl rfl 6 (by decide) (hts _ (List.mem_of_getElem? (i := 2) rfl)) (fun _ h9 => h9) rfl dX7_hang_35 ?_
        refine lv_aload_n hx hb dX7_hang_38 rfl (lv_at hl 0 rfl) ?_
        obtain ⟨o_39, ho_39⟩ : ∃ z : Int32, z = v_X7_momentNow i_hangingNow i_hourNow := ⟨_, rfl⟩
        refine callVIs (As := []) (rest := [.ref a_acts]) o_39 ho_39 hF (k_X7_momentNow l D cI cZ a a_text a_lease a_reader a_prover a_survey a_paths a_acts a_slots i_hangingNow i_hourNow i_toldDark i_toldLight i_toldCount j_seedNow) (cwV 0 hts gX7_hang_X7_momentNow rfl rfl rfl (by decide +kernel) ⟨Nat.le_of_ble_eq_true rfl, Nat.le_of_ble_eq_true rfl⟩) hK hN hP (va_Dsame hD rfl) hS hA [0] rfl rfl 0 7 (T := TX7) (N := 14) rfl rfl rfl hl.1 rfl (Nat.le_of_ble_eq_true rfl) dX7_hang_39 ⟨Nat.zero_le _, Nat.zero_le _⟩ o_39 rfl rfl (fun H locs hP hS => ?_)
        obtain ⟨o_42_1, o_42_2, ho_42⟩ := ex2 (v_X0_add o_39 i_acts_size f_acts_moments)
        refine callVV (As := [.int o_39]) (rest := []) (o_42_1, o_42_2) ho_42 hF (k_X0_add l D cI cZ a_acts a_acts_moments n_acts_moments o_39 i_acts_size f_acts_moments) (cwV 1 hts gX7_hang_X0_add rfl rfl rfl (by decide +kernel) ⟨Nat.le_of_ble_eq_true rfl, Nat.le_of_ble_eq_true rfl⟩) hK hN hP (va_Dsame hD rfl) hS hA [1, 2, 3] rfl rfl 1 0 (T := TX0) (N := 2) rfl rfl rfl hl.1 rfl (Nat.le_of_ble_eq_true rfl) dX7_hang_42 ⟨Nat.zero_le _, Nat.zero_le _⟩ [none, some 0, some 1, some 2] 3 [(a, .inr (7, [.ref a_text, .ref a_lease, .ref a_reader, .ref a_prover, .ref a_survey, .ref a_paths, .ref a_acts, .ref a_slots, .int i_hangingNow, .int i_hourNow, .int i_toldDark, .int i_toldLight, .int i_toldCount, .long j_seedNow])), (a_acts, .inr (0, [.ref a_acts_moments, .int o_42_1])), (a_acts_moments, .inr (4, [.ref n_acts_moments])), (n_acts_moments, .inl (cI, 16, .inl o_42_2))] rfl rfl (by decide) (fun H locs hP hS => ?_)
        refine lv_aload_n hx hb dX7_hang_45 rfl (lv_at hl 0 rfl) ?_
        refine lv_dup hx hb dX7_hang_46 rfl ?_
        refine va_get (D := D) (ci := 7) (v := .int i_hangingNow) (C := RX7) (T := TX7) (N := 14) hx hb hts (fun _ h => List.mem_cons_of_mem _ (List.mem_append_left _ (List.mem_append_left _ (List.mem_append_right _ (h))))) hown hK hP 0 rfl rfl 8 (by decide) (hts _ (List.mem_of_getElem? (i := 1) rfl)) (fun _ h9 => h9) rfl dX7_hang_47 ?_
        refine lv_iconst (v := 1) hx hb dX7_hang_50 rfl ?_
        refine lv_iload_n hx hb dX7_hang_51 rfl (lv_at hl 1 rfl) ?_
        refine lv_ishl hx hb dX7_hang_52 ?_
        refine lv_ior hx hb dX7_hang_53 ?_
        refine lv_topi (fun w_54 hw_54 => ?_)
        refine va_put (D := D) (ci := 7) (v := .int w_54) (ty := .int) (C := RX7) (T := TX7) (N := 14) hx hb hts (fun _ h => List.mem_cons_of_mem _ (List.mem_append_left _ (List.mem_append_left _ (List.mem_append_right _ (h))))) tyX7 tyX7_ok nmX7 hown hK hP (va_Dsame hD rfl) hS 0 rfl rfl 8 (by decide) (hts _ (List.mem_of_getElem? (i := 1) rfl)) (fun _ h9 => h9) rfl (tyX7_ok 8 (by decide)) rfl rfl (Nat.le_of_ble_eq_true rfl) dX7_hang_54 (fun H locs hP _ hS => ?_)
        have hP : va_P D vwCl [(a, .inr (7, [.ref a_text, .ref a_lease, .ref a_reader, .ref a_prover, .ref a_survey, .ref a_paths, .ref a_acts, .ref a_slots, .int w_54, .int i_hourNow, .int i_toldDark, .int i_toldLight, .int i_toldCount, .long j_seedNow])), (a_acts, .inr (0, [.ref a_acts_moments, .int o_42_1])), (a_acts_moments, .inr (4, [.ref n_acts_moments])), (n_acts_moments, .inl (cI, 16, .inl o_42_2))] H := hP
        refine lv_aload_n hx hb dX7_hang_57 rfl (lv_at hl 0 rfl) ?_
        obtain ⟨o_58, ho_58⟩ : ∃ z : Int32, z = v_X7_squaresNow w_54 := ⟨_, rfl⟩
        refine callVIs (As := []) (rest := []) o_58 ho_58 hF (k_X7_squaresNow l D cI cZ a a_text a_lease a_reader a_prover a_survey a_paths a_acts a_slots w_54 i_hourNow i_toldDark i_toldLight i_toldCount j_seedNow) (cwV 0 hts gX7_hang_X7_squaresNow rfl rfl rfl (by decide +kernel) ⟨Nat.le_of_ble_eq_true rfl, Nat.le_of_ble_eq_true rfl⟩) hK hN hP (va_Dsame hD rfl) hS hA [0] rfl rfl 0 7 (T := TX7) (N := 14) rfl rfl rfl hl.1 rfl (Nat.le_of_ble_eq_true rfl) dX7_hang_58 ⟨Nat.zero_le _, Nat.zero_le _⟩ o_58 rfl rfl (fun H locs hP hS => ?_)
        have e9 : v_X7_hang x1 i_hangingNow i_hourNow i_acts_size f_acts_moments = (o_58, w_54, o_42_1, o_42_2) := by
          refine (bnd_eq ho_1).trans ?_
          refine (if_neg c_4).trans ?_
          refine (bnd_eq ho_14).trans ?_
          refine (if_pos c_17).trans ?_
          refine (bnd_eq ho_24).trans ?_
          refine (if_pos c_28).trans ?_
          refine (bnd_eq ho_39).trans ?_
          refine (bnd2_eq ho_42).trans ?_
          refine (bnd_eq hw_54).trans ?_
          refine (bnd_eq ho_58).trans ?_
          rfl
        rw [hQ]; exact retI (o_58, w_54, o_42_1, o_42_2) hx hb hr hlk e9 hP rfl hS dX7_hang_61
      · refine lv_bipush (v := (-4)) hx hb dX7_hang_31 rfl ?_
        have e9 : v_X7_hang x1 i_hangingNow i_hourNow i_acts_size f_acts_moments = ((-4), i_hangingNow, i_acts_size, f_acts_moments) := by
          refine (bnd_eq ho_1).trans ?_
          refine (if_neg c_4).trans ?_
          refine (bnd_eq ho_14).trans ?_
          refine (if_pos c_17).trans ?_
          refine (bnd_eq ho_24).trans ?_
          refine (if_neg c_28).trans ?_
          rfl
        rw [hQ]; exact retI ((-4), i_hangingNow, i_acts_size, f_acts_moments) hx hb hr hlk e9 hP rfl hS dX7_hang_33
    · refine lv_bipush (v := (-3)) hx hb dX7_hang_20 rfl ?_
      have e9 : v_X7_hang x1 i_hangingNow i_hourNow i_acts_size f_acts_moments = ((-3), i_hangingNow, i_acts_size, f_acts_moments) := by
        refine (bnd_eq ho_1).trans ?_
        refine (if_neg c_4).trans ?_
        refine (bnd_eq ho_14).trans ?_
        refine (if_neg c_17).trans ?_
        rfl
      rw [hQ]; exact retI ((-3), i_hangingNow, i_acts_size, f_acts_moments) hx hb hr hlk e9 hP rfl hS dX7_hang_22
  · refine lv_iconst (v := (-1)) hx hb dX7_hang_7 rfl ?_
    have e9 : v_X7_hang x1 i_hangingNow i_hourNow i_acts_size f_acts_moments = ((-1), i_hangingNow, i_acts_size, f_acts_moments) := by
      refine (bnd_eq ho_1).trans ?_
      refine (if_pos c_4).trans ?_
      rfl
    rw [hQ]; exact retI ((-1), i_hangingNow, i_acts_size, f_acts_moments) hx hb hr hlk e9 hP rfl hS dX7_hang_8
def v_X7_take (x1 : Int32) (i_hangingNow : Int32) (i_hourNow : Int32) (i_acts_size : Int32) (f_acts_moments : Nat → Int32) : Int32 × Int32 × Int32 × (Nat → Int32) :=
  bnd (v_X7_isCell x1) fun o_1 =>
  (if bI o_1 = 0 then ((-1), i_hangingNow, i_acts_size, f_acts_moments)
  else (bnd (v_X7_has i_hangingNow x1) fun o_14 =>
  (if bI o_14 = 0 then ((-3), i_hangingNow, i_acts_size, f_acts_moments)
  else (bnd (v_X7_momentNow i_hangingNow i_hourNow) fun o_28 =>
  (bnd2 (v_X0_add o_28 i_acts_size f_acts_moments) fun o_31_1 o_31_2 =>
  (bnd ((i_hangingNow &&& (((1 : Int32) <<< (x1 &&& 31)) ^^^ (-1)))) fun w_45 =>
  (bnd (v_X7_squaresNow w_45) fun o_49 =>
  (o_49, w_45, o_31_1, o_31_2))))))))
abbrev rm_X7_take : Room := { frames := 3, cells := 0, slots := 0, locals := 64 }
set_option maxHeartbeats 4000000 in
set_option maxRecDepth 100000 in
theorem k_X7_take (l : Launch) (D : va_G) (cI cZ : ClassId) (a a_text a_lease a_reader a_prover a_survey a_paths a_acts a_slots a_acts_moments n_acts_moments : Nat) (x1 : Int32) (i_hangingNow : Int32) (i_hourNow : Int32) (i_toldDark : Int32) (i_toldLight : Int32) (i_toldCount : Int32) (j_seedNow : Int64) (i_acts_size : Int32) (f_acts_moments : Nat → Int32) : KI l D cI cZ yX7_take wsX7_take rm_X7_take [.ref a, .int x1] [(a, .inr (7, [.ref a_text, .ref a_lease, .ref a_reader, .ref a_prover, .ref a_survey, .ref a_paths, .ref a_acts, .ref a_slots, .int i_hangingNow, .int i_hourNow, .int i_toldDark, .int i_toldLight, .int i_toldCount, .long j_seedNow])), (a_acts, .inr (0, [.ref a_acts_moments, .int i_acts_size])), (a_acts_moments, .inr (4, [.ref n_acts_moments])), (n_acts_moments, .inl (cI, 16, .inl f_acts_moments))] (v_X7_take x1 i_hangingNow i_hourNow i_acts_size f_acts_moments) (fun o : Int32 × Int32 × Int32 × (Nat → Int32) => o.1) (fun o : Int32 × Int32 × Int32 × (Nat → Int32) => [(a, .inr (7, [.ref a_text, .ref a_lease, .ref a_reader, .ref a_prover, .ref a_survey, .ref a_paths, .ref a_acts, .ref a_slots, .int o.2.1, .int i_hourNow, .int i_toldDark, .int i_toldLight, .int i_toldCount, .long j_seedNow])), (a_acts, .inr (0, [.ref a_acts_moments, .int o.2.2.1])), (a_acts_moments, .inr (4, [.ref n_acts_moments])), (n_acts_moments, .inl (cI, 16, .inl o.2.2.2))]) := by
  refine KI.of cX7_take 2 (some .int) (by decide) rfl (Nat.le_of_ble_eq_true rfl) ?_
  intro p e s m below meth c A ls ar Q hQ B
  obtain ⟨hx, hb, hr, hml, hts, hown, hlk, hK, hN, hP, hD, hA, hS, hl⟩ := B
  have hown : s.vm.findClass RX7 = some m.cls := hown
  have hF : CallFix p m c cX7_take 2 s ar wsX7_take RX7 := ⟨hx, hb, hml, hown, hts⟩
  have hl : lv_has ls 2 [(0, .ref a), (1, .int x1)] := hl
  refine lv_iload_n hx hb dX7_take_0 rfl (lv_at hl 1 rfl) ?_
  obtain ⟨o_1, ho_1⟩ : ∃ z : Bool, z = v_X7_isCell x1 := ⟨_, rfl⟩
  refine callSIs (As := [.int x1]) (rest := []) o_1 ho_1 hF (k_X7_isCell l D cI cZ x1) (va_cwS 1 hts gX7_take_X7_isCell rfl rfl rfl (by decide +kernel) ⟨Nat.le_of_ble_eq_true rfl, Nat.le_of_ble_eq_true rfl⟩) hK hN hP (va_Dsame hD rfl) hS hA [] rfl rfl rfl hl.1 rfl (Nat.le_of_ble_eq_true rfl) dX7_take_1 ⟨Nat.zero_le _, Nat.zero_le _⟩ (bI o_1) rfl rfl (fun H locs hP hS => ?_)
  refine lv_if_ne (tgt := 9) hx hb dX7_take_4 (by decide) (fun c_4 => ?_) (fun c_4 => ?_)
  · refine lv_aload_n hx hb dX7_take_9 rfl (lv_at hl 0 rfl) ?_
    refine va_get (D := D) (ci := 7) (v := .int i_hangingNow) (C := RX7) (T := TX7) (N := 14) hx hb hts (fun _ h => List.mem_cons_of_mem _ (List.mem_append_left _ (List.mem_append_left _ (List.mem_append_right _ (h))))) hown hK hP 0 rfl rfl 8 (by decide) (hts _ (List.mem_of_getElem? (i := 1) rfl)) (fun _ h9 => h9) rfl dX7_take_10 ?_
    refine lv_iload_n hx hb dX7_take_13 rfl (lv_at hl 1 rfl) ?_
    obtain ⟨o_14, ho_14⟩ : ∃ z : Bool, z = v_X7_has i_hangingNow x1 := ⟨_, rfl⟩
    refine callSIs (As := [.int i_hangingNow, .int x1]) (rest := []) o_14 ho_14 hF (k_X7_has l D cI cZ i_hangingNow x1) (va_cwS 2 hts gX7_take_X7_has rfl rfl rfl (by decide +kernel) ⟨Nat.le_of_ble_eq_true rfl, Nat.le_of_ble_eq_true rfl⟩) hK hN hP (va_Dsame hD rfl) hS hA [] rfl rfl rfl hl.1 rfl (Nat.le_of_ble_eq_true rfl) dX7_take_14 ⟨Nat.zero_le _, Nat.zero_le _⟩ (bI o_14) rfl rfl (fun H locs hP hS => ?_)
    refine lv_if_ne (tgt := 23) hx hb dX7_take_17 (by decide) (fun c_17 => ?_) (fun c_17 => ?_)
    · refine lv_aload_n hx hb dX7_take_23 rfl (lv_at hl 0 rfl) ?_
      refine va_get (D := D) (ci := 7) (v := .ref a_acts) (C := RX7) (T := TX7) (N := 14) hx hb hts (fun _ h => List.mem_cons_of_mem _ (List.mem_append_left _ (List.mem_append_left _ (List.mem_append_right _ (h))))) hown hK hP 0 rfl rfl 6 (by decide) (hts _ (List.mem_of_getElem? (i := 2) rfl)) (fun _ h9 => h9) rfl dX7_take_24 ?_
      refine lv_aload_n hx hb dX7_take_27 rfl (lv_at hl 0 rfl) ?_
      obtain ⟨o_28, ho_28⟩ : ∃ z : Int32, z = v_X7_momentNow i_hangingNow i_hourNow := ⟨_, rfl⟩
      refine callVIs (As := []) (rest := [.ref a_acts]) o_28 ho_28 hF (k_X7_momentNow l D cI cZ a a_text a_lease a_reader a_prover a_survey a_paths a_acts a_slots i_hangingNow i_hourNow i_toldDark i_toldLight i_toldCount j_seedNow) (cwV 0 hts gX7_take_X7_momentNow rfl rfl rfl (by decide +kernel) ⟨Nat.le_of_ble_eq_true rfl, Nat.le_of_ble_eq_true rfl⟩) hK hN hP (va_Dsame hD rfl) hS hA [0] rfl rfl 0 7 (T := TX7) (N := 14) rfl rfl rfl hl.1 rfl (Nat.le_of_ble_eq_true rfl) dX7_take_28 ⟨Nat.zero_le _, Nat.zero_le _⟩ o_28 rfl rfl (fun H locs hP hS => ?_)
      obtain ⟨o_31_1, o_31_2, ho_31⟩ := ex2 (v_X0_add o_28 i_acts_size f_acts_moments)
      refine callVV (As := [.int o_28]) (rest := []) (o_31_1, o_31_2) ho_31 hF (k_X0_add l D cI cZ a_acts a_acts_moments n_acts_moments o_28 i_acts_size f_acts_moments) (cwV 1 hts gX7_take_X0_add rfl rfl rfl (by decide +kernel) ⟨Nat.le_of_ble_eq_true rfl, Nat.le_of_ble_eq_true rfl⟩) hK hN hP (va_Dsame hD rfl) hS hA [1, 2, 3] rfl rfl 1 0 (T := TX0) (N := 2) rfl rfl rfl hl.1 rfl (Nat.le_of_ble_eq_true rfl) dX7_take_31 ⟨Nat.zero_le _, Nat.zero_le _⟩ [none, some 0, some 1, some 2] 3 [(a, .inr (7, [.ref a_text, .ref a_lease, .ref a_reader, .ref a_prover, .ref a_survey, .ref a_paths, .ref a_acts, .ref a_slots, .int i_hangingNow, .int i_hourNow, .int i_toldDark, .int i_toldLight, .int i_toldCount, .long j_seedNow])), (a_acts, .inr (0, [.ref a_acts_moments, .int o_31_1])), (a_acts_moments, .inr (4, [.ref n_acts_moments])), (n_acts_moments, .inl (cI, 16, .inl o_31_2))] rfl rfl (by decide) (fun H locs hP hS => ?_)
      refine lv_aload_n hx hb dX7_take_34 rfl (lv_at hl 0 rfl) ?_
      refine lv_dup hx hb dX7_take_35 rfl ?_
      refine va_get (D := D) (ci := 7) (v := .int i_hangingNow) (C := RX7) (T := TX7) (N := 14) hx hb hts (fun _ h => List.mem_cons_of_mem _ (List.mem_append_left _ (List.mem_append_left _ (List.mem_append_right _ (h))))) hown hK hP 0 rfl rfl 8 (by decide) (hts _ (List.mem_of_getElem? (i := 1) rfl)) (fun _ h9 => h9) rfl dX7_take_36 ?_
      refine lv_iconst (v := 1) hx hb dX7_take_39 rfl ?_
      refine lv_iload_n hx hb dX7_take_40 rfl (lv_at hl 1 rfl) ?_
      refine lv_ishl hx hb dX7_take_41 ?_
      refine lv_iconst (v := (-1)) hx hb dX7_take_42 rfl ?_
      refine lv_ixor hx hb dX7_take_43 ?_
      refine lv_iand hx hb dX7_take_44 ?_
      refine lv_topi (fun w_45 hw_45 => ?_)
      refine va_put (D := D) (ci := 7) (v := .int w_45) (ty := .int) (C := RX7) (T := TX7) (N := 14) hx hb hts (fun _ h => List.mem_cons_of_mem _ (List.mem_append_left _ (List.mem_append_left _ (List.mem_append_right _ (h))))) tyX7 tyX7_ok nmX7 hown hK hP (va_Dsame hD rfl) hS 0 rfl rfl 8 (by decide) (hts _ (List.mem_of_getElem? (i := 1) rfl)) (fun _ h9 => h9) rfl (tyX7_ok 8 (by decide)) rfl rfl (Nat.le_of_ble_eq_true rfl) dX7_take_45 (fun H locs hP _ hS => ?_)
      have hP : va_P D vwCl [(a, .inr (7, [.ref a_text, .ref a_lease, .ref a_reader, .ref a_prover, .ref a_survey, .ref a_paths, .ref a_acts, .ref a_slots, .int w_45, .int i_hourNow, .int i_toldDark, .int i_toldLight, .int i_toldCount, .long j_seedNow])), (a_acts, .inr (0, [.ref a_acts_moments, .int o_31_1])), (a_acts_moments, .inr (4, [.ref n_acts_moments])), (n_acts_moments, .inl (cI, 16, .inl o_31_2))] H := hP
      refine lv_aload_n hx hb dX7_take_48 rfl (lv_at hl 0 rfl) ?_
      obtain ⟨o_49, ho_49⟩ : ∃ z : Int32, z = v_X7_squaresNow w_45 := ⟨_, rfl⟩
      refine callVIs (As := []) (rest := []) o_49 ho_49 hF (k_X7_squaresNow l D cI cZ a a_text a_lease a_reader a_prover a_survey a_paths a_acts a_slots w_45 i_hourNow i_toldDark i_toldLight i_toldCount j_seedNow) (cwV 0 hts gX7_take_X7_squaresNow rfl rfl rfl (by decide +kernel) ⟨Nat.le_of_ble_eq_true rfl, Nat.le_of_ble_eq_true rfl⟩) hK hN hP (va_Dsame hD rfl) hS hA [0] rfl rfl 0 7 (T := TX7) (N := 14) rfl rfl rfl hl.1 rfl (Nat.le_of_ble_eq_true rfl) dX7_take_49 ⟨Nat.zero_le _, Nat.zero_le _⟩ o_49 rfl rfl (fun H locs hP hS => ?_)
      have e9 : v_X7_take x1 i_hangingNow i_hourNow i_acts_size f_acts_moments = (o_49, w_45, o_31_1, o_31_2) := by
        refine (bnd_eq ho_1).trans ?_
        refine (if_neg c_4).trans ?_
        refine (bnd_eq ho_14).trans ?_
        refine (if_neg c_17).trans ?_
        refine (bnd_eq ho_28).trans ?_
        refine (bnd2_eq ho_31).trans ?_
        refine (bnd_eq hw_45).trans ?_
        refine (bnd_eq ho_49).trans ?_
        rfl
      rw [hQ]; exact retI (o_49, w_45, o_31_1, o_31_2) hx hb hr hlk e9 hP rfl hS dX7_take_52
    · refine lv_bipush (v := (-3)) hx hb dX7_take_20 rfl ?_
      have e9 : v_X7_take x1 i_hangingNow i_hourNow i_acts_size f_acts_moments = ((-3), i_hangingNow, i_acts_size, f_acts_moments) := by
        refine (bnd_eq ho_1).trans ?_
        refine (if_neg c_4).trans ?_
        refine (bnd_eq ho_14).trans ?_
        refine (if_pos c_17).trans ?_
        rfl
      rw [hQ]; exact retI ((-3), i_hangingNow, i_acts_size, f_acts_moments) hx hb hr hlk e9 hP rfl hS dX7_take_22
  · refine lv_iconst (v := (-1)) hx hb dX7_take_7 rfl ?_
    have e9 : v_X7_take x1 i_hangingNow i_hourNow i_acts_size f_acts_moments = ((-1), i_hangingNow, i_acts_size, f_acts_moments) := by
      refine (bnd_eq ho_1).trans ?_
      refine (if_pos c_4).trans ?_
      rfl
    rw [hQ]; exact retI ((-1), i_hangingNow, i_acts_size, f_acts_moments) hx hb hr hlk e9 hP rfl hS dX7_take_8
def v_X7_afterMove (x0 : Int32) (x1 : Int32) (x2 : Int32) : Int32 :=
  bnd (v_X7_nextCell x1 x2) fun o_2 =>
  (bnd (v_X7_has x0 x1) fun o_8 =>
  (if bI o_8 = 0 then (-9)
  else (bnd (v_X7_has x0 o_2) fun o_16 =>
  (if bI o_16 = 0 then ((x0 &&& (((1 : Int32) <<< (x1 &&& 31)) ^^^ (-1))) ||| ((1 : Int32) <<< (o_2 &&& 31)))
  else (-9)))))
abbrev rm_X7_afterMove : Room := { frames := 1, cells := 0, slots := 0, locals := 22 }
set_option maxHeartbeats 4000000 in
set_option maxRecDepth 100000 in
theorem k_X7_afterMove (l : Launch) (D : va_G) (cI cZ : ClassId) (x0 : Int32) (x1 : Int32) (x2 : Int32) : KI l D cI cZ yX7_afterMove wsX7_afterMove rm_X7_afterMove [.int x0, .int x1, .int x2] [] (v_X7_afterMove x0 x1 x2) (fun o : Int32 => o) (fun _ : Int32 => []) := by
  refine KI.of cX7_afterMove 4 (some .int) (by decide) rfl (Nat.le_of_ble_eq_true rfl) ?_
  intro p e s m below meth c A ls ar Q hQ B
  obtain ⟨hx, hb, hr, hml, hts, hown, hlk, hK, hN, hP, hD, hA, hS, hl⟩ := B
  have hown : s.vm.findClass RX7 = some m.cls := hown
  have hF : CallFix p m c cX7_afterMove 4 s ar wsX7_afterMove RX7 := ⟨hx, hb, hml, hown, hts⟩
  have hl : lv_has ls 4 [(0, .int x0), (1, .int x1), (2, .int x2)] := hl
  refine lv_iload_n hx hb dX7_afterMove_0 rfl (lv_at hl 1 rfl) ?_
  refine lv_iload_n hx hb dX7_afterMove_1 rfl (lv_at hl 2 rfl) ?_
  obtain ⟨o_2, ho_2⟩ : ∃ z : Int32, z = v_X7_nextCell x1 x2 := ⟨_, rfl⟩
  refine callSIs (As := [.int x1, .int x2]) (rest := []) o_2 ho_2 hF (k_X7_nextCell l D cI cZ x1 x2) (va_cwS 2 hts gX7_afterMove_X7_nextCell rfl rfl rfl (by decide +kernel) ⟨Nat.le_of_ble_eq_true rfl, Nat.le_of_ble_eq_true rfl⟩) hK hN hP (va_Dsame hD rfl) hS hA [] rfl rfl rfl hl.1 rfl (Nat.le_of_ble_eq_true rfl) dX7_afterMove_2 ⟨Nat.zero_le _, Nat.zero_le _⟩ o_2 rfl rfl (fun H locs hP hS => ?_)
  refine lv_istore_n (lv' := [(3, .int o_2), (0, .int x0), (1, .int x1), (2, .int x2)]) hx hb dX7_afterMove_5 rfl hl (by decide) rfl (fun ls hl => ?_)
  refine lv_iload_n hx hb dX7_afterMove_6 rfl (lv_at hl 1 rfl) ?_
  refine lv_iload_n hx hb dX7_afterMove_7 rfl (lv_at hl 2 rfl) ?_
  obtain ⟨o_8, ho_8⟩ : ∃ z : Bool, z = v_X7_has x0 x1 := ⟨_, rfl⟩
  refine callSIs (As := [.int x0, .int x1]) (rest := []) o_8 ho_8 hF (k_X7_has l D cI cZ x0 x1) (va_cwS 2 hts gX7_afterMove_X7_has rfl rfl rfl (by decide +kernel) ⟨Nat.le_of_ble_eq_true rfl, Nat.le_of_ble_eq_true rfl⟩) hK hN hP (va_Dsame hD rfl) hS hA [] rfl rfl rfl hl.1 rfl (Nat.le_of_ble_eq_true rfl) dX7_afterMove_8 ⟨Nat.zero_le _, Nat.zero_le _⟩ (bI o_8) rfl rfl (fun H locs hP hS => ?_)
  refine lv_if_eq (tgt := 22) hx hb dX7_afterMove_11 (by decide) (fun c_11 => ?_) (fun c_11 => ?_)
  · refine lv_bipush (v := (-9)) hx hb dX7_afterMove_22 rfl ?_
    have e9 : v_X7_afterMove x0 x1 x2 = (-9) := by
      refine (bnd_eq ho_2).trans ?_
      refine (bnd_eq ho_8).trans ?_
      refine (if_pos c_11).trans ?_
      rfl
    rw [hQ]; exact retI (-9) hx hb hr hlk e9 hP rfl hS dX7_afterMove_24
  · refine lv_iload_n hx hb dX7_afterMove_14 rfl (lv_at hl 1 rfl) ?_
    refine lv_iload_n hx hb dX7_afterMove_15 rfl (lv_at hl 0 rfl) ?_
    obtain ⟨o_16, ho_16⟩ : ∃ z : Bool, z = v_X7_has x0 o_2 := ⟨_, rfl⟩
    refine callSIs (As := [.int x0, .int o_2]) (rest := []) o_16 ho_16 hF (k_X7_has l D cI cZ x0 o_2) (va_cwS 2 hts gX7_afterMove_X7_has rfl rfl rfl (by decide +kernel) ⟨Nat.le_of_ble_eq_true rfl, Nat.le_of_ble_eq_true rfl⟩) hK hN hP (va_Dsame hD rfl) hS hA [] rfl rfl rfl hl.1 rfl (Nat.le_of_ble_eq_true rfl) dX7_afterMove_16 ⟨Nat.zero_le _, Nat.zero_le _⟩ (bI o_16) rfl rfl (fun H locs hP hS => ?_)
    refine lv_if_eq (tgt := 25) hx hb dX7_afterMove_19 (by decide) (fun c_19 => ?_) (fun c_19 => ?_)
    · refine lv_iload_n hx hb dX7_afterMove_25 rfl (lv_at hl 1 rfl) ?_
      refine lv_iconst (v := 1) hx hb dX7_afterMove_26 rfl ?_
      refine lv_iload_n hx hb dX7_afterMove_27 rfl (lv_at hl 2 rfl) ?_
      refine lv_ishl hx hb dX7_afterMove_28 ?_
      refine lv_iconst (v := (-1)) hx hb dX7_afterMove_29 rfl ?_
      refine lv_ixor hx hb dX7_afterMove_30 ?_
      refine lv_iand hx hb dX7_afterMove_31 ?_
      refine lv_iconst (v := 1) hx hb dX7_afterMove_32 rfl ?_
      refine lv_iload_n hx hb dX7_afterMove_33 rfl (lv_at hl 0 rfl) ?_
      refine lv_ishl hx hb dX7_afterMove_34 ?_
      refine lv_ior hx hb dX7_afterMove_35 ?_
      have e9 : v_X7_afterMove x0 x1 x2 = ((x0 &&& (((1 : Int32) <<< (x1 &&& 31)) ^^^ (-1))) ||| ((1 : Int32) <<< (o_2 &&& 31))) := by
        refine (bnd_eq ho_2).trans ?_
        refine (bnd_eq ho_8).trans ?_
        refine (if_neg c_11).trans ?_
        refine (bnd_eq ho_16).trans ?_
        refine (if_pos c_19).trans ?_
        rfl
      rw [hQ]; exact retI ((x0 &&& (((1 : Int32) <<< (x1 &&& 31)) ^^^ (-1))) ||| ((1 : Int32) <<< (o_2 &&& 31))) hx hb hr hlk e9 hP rfl hS dX7_afterMove_36
    · refine lv_bipush (v := (-9)) hx hb dX7_afterMove_22 rfl ?_
      have e9 : v_X7_afterMove x0 x1 x2 = (-9) := by
        refine (bnd_eq ho_2).trans ?_
        refine (bnd_eq ho_8).trans ?_
        refine (if_neg c_11).trans ?_
        refine (bnd_eq ho_16).trans ?_
        refine (if_neg c_19).trans ?_
        rfl
      rw [hQ]; exact retI (-9) hx hb hr hlk e9 hP rfl hS dX7_afterMove_24
def v_X7_move (x1 : Int32) (x2 : Int32) (i_hangingNow : Int32) (i_hourNow : Int32) (i_acts_size : Int32) (f_acts_moments : Nat → Int32) : Int32 × Int32 × Int32 × (Nat → Int32) :=
  bnd (v_X7_isCell x1) fun o_1 =>
  (if bI o_1 = 0 then ((-1), i_hangingNow, i_acts_size, f_acts_moments)
  else (if x2 < (-1) then ((-2), i_hangingNow, i_acts_size, f_acts_moments)
  else (if x2 ≤ 1 then (bnd (v_X7_afterMove i_hangingNow x1 x2) fun o_28 =>
    (if o_28 = (-9) then ((-3), i_hangingNow, i_acts_size, f_acts_moments)
    else (bnd (v_X7_momentNow i_hangingNow i_hourNow) fun o_46 =>
    (bnd2 (v_X0_add o_46 i_acts_size f_acts_moments) fun o_49_1 o_49_2 =>
    (bnd (v_X7_nextCell x1 x2) fun o_59 =>
    (o_59, o_28, o_49_1, o_49_2))))))
  else ((-2), i_hangingNow, i_acts_size, f_acts_moments))))
abbrev rm_X7_move : Room := { frames := 3, cells := 0, slots := 0, locals := 64 }
set_option maxHeartbeats 4000000 in
set_option maxRecDepth 100000 in
theorem k_X7_move (l : Launch) (D : va_G) (cI cZ : ClassId) (a a_text a_lease a_reader a_prover a_survey a_paths a_acts a_slots a_acts_moments n_acts_moments : Nat) (x1 : Int32) (x2 : Int32) (i_hangingNow : Int32) (i_hourNow : Int32) (i_toldDark : Int32) (i_toldLight : Int32) (i_toldCount : Int32) (j_seedNow : Int64) (i_acts_size : Int32) (f_acts_moments : Nat → Int32) : KI l D cI cZ yX7_move wsX7_move rm_X7_move [.ref a, .int x1, .int x2] [(a, .inr (7, [.ref a_text, .ref a_lease, .ref a_reader, .ref a_prover, .ref a_survey, .ref a_paths, .ref a_acts, .ref a_slots, .int i_hangingNow, .int i_hourNow, .int i_toldDark, .int i_toldLight, .int i_toldCount, .long j_seedNow])), (a_acts, .inr (0, [.ref a_acts_moments, .int i_acts_size])), (a_acts_moments, .inr (4, [.ref n_acts_moments])), (n_acts_moments, .inl (cI, 16, .inl f_acts_moments))] (v_X7_move x1 x2 i_hangingNow i_hourNow i_acts_size f_acts_moments) (fun o : Int32 × Int32 × Int32 × (Nat → Int32) => o.1) (fun o : Int32 × Int32 × Int32 × (Nat → Int32) => [(a, .inr (7, [.ref a_text, .ref a_lease, .ref a_reader, .ref a_prover, .ref a_survey, .ref a_paths, .ref a_acts, .ref a_slots, .int o.2.1, .int i_hourNow, .int i_toldDark, .int i_toldLight, .int i_toldCount, .long j_seedNow])), (a_acts, .inr (0, [.ref a_acts_moments, .int o.2.2.1])), (a_acts_moments, .inr (4, [.ref n_acts_moments])), (n_acts_moments, .inl (cI, 16, .inl o.2.2.2))]) := by
  refine KI.of cX7_move 4 (some .int) (by decide) rfl (Nat.le_of_ble_eq_true rfl) ?_
  intro p e s m below meth c A ls ar Q hQ B
  obtain ⟨hx, hb, hr, hml, hts, hown, hlk, hK, hN, hP, hD, hA, hS, hl⟩ := B
  have hown : s.vm.findClass RX7 = some m.cls := hown
  have hF : CallFix p m c cX7_move 4 s ar wsX7_move RX7 := ⟨hx, hb, hml, hown, hts⟩
  have hl : lv_has ls 4 [(0, .ref a), (1, .int x1), (2, .int x2)] := hl
  refine lv_iload_n hx hb dX7_move_0 rfl (lv_at hl 1 rfl) ?_
  obtain ⟨o_1, ho_1⟩ : ∃ z : Bool, z = v_X7_isCell x1 := ⟨_, rfl⟩
  refine callSIs (As := [.int x1]) (rest := []) o_1 ho_1 hF (k_X7_isCell l D cI cZ x1) (va_cwS 1 hts gX7_move_X7_isCell rfl rfl rfl (by decide +kernel) ⟨Nat.le_of_ble_eq_true rfl, Nat.le_of_ble_eq_true rfl⟩) hK hN hP (va_Dsame hD rfl) hS hA [] rfl rfl rfl hl.1 rfl (Nat.le_of_ble_eq_true rfl) dX7_move_1 ⟨Nat.zero_le _, Nat.zero_le _⟩ (bI o_1) rfl rfl (fun H locs hP hS => ?_)
  refine lv_if_ne (tgt := 9) hx hb dX7_move_4 (by decide) (fun c_4 => ?_) (fun c_4 => ?_)
  · refine lv_iload_n hx hb dX7_move_9 rfl (lv_at hl 2 rfl) ?_
    refine lv_iconst (v := (-1)) hx hb dX7_move_10 rfl ?_
    refine lv_icmp_lt (tgt := 19) hx hb dX7_move_11 (by decide) (fun c_11 => ?_) (fun c_11 => ?_)
    · refine lv_bipush (v := (-2)) hx hb dX7_move_19 rfl ?_
      have e9 : v_X7_move x1 x2 i_hangingNow i_hourNow i_acts_size f_acts_moments = ((-2), i_hangingNow, i_acts_size, f_acts_moments) := by
        refine (bnd_eq ho_1).trans ?_
        refine (if_neg c_4).trans ?_
        refine (if_pos c_11).trans ?_
        rfl
      rw [hQ]; exact retI ((-2), i_hangingNow, i_acts_size, f_acts_moments) hx hb hr hlk e9 hP rfl hS dX7_move_21
    · refine lv_iload_n hx hb dX7_move_14 rfl (lv_at hl 2 rfl) ?_
      refine lv_iconst (v := 1) hx hb dX7_move_15 rfl ?_
      refine lv_icmp_le (tgt := 22) hx hb dX7_move_16 (by decide) (fun c_16 => ?_) (fun c_16 => ?_)
      · refine lv_aload_n hx hb dX7_move_22 rfl (lv_at hl 0 rfl) ?_
        refine va_get (D := D) (ci := 7) (v := .int i_hangingNow) (C := RX7) (T := TX7) (N := 14) hx hb hts (fun _ h => List.mem_cons_of_mem _ (List.mem_append_left _ (List.mem_append_left _ (List.mem_append_right _ (h))))) hown hK hP 0 rfl rfl 8 (by decide) (hts _ (List.mem_of_getElem? (i := 1) rfl)) (fun _ h9 => h9) rfl dX7_move_23 ?_
        refine lv_iload_n hx hb dX7_move_26 rfl (lv_at hl 1 rfl) ?_
        refine lv_iload_n hx hb dX7_move_27 rfl (lv_at hl 2 rfl) ?_
        obtain ⟨o_28, ho_28⟩ : ∃ z : Int32, z = v_X7_afterMove i_hangingNow x1 x2 := ⟨_, rfl⟩
        refine callSIs (As := [.int i_hangingNow, .int x1, .int x2]) (rest := []) o_28 ho_28 hF (k_X7_afterMove l D cI cZ i_hangingNow x1 x2) (va_cwS 3 hts gX7_move_X7_afterMove rfl rfl rfl (by decide +kernel) ⟨Nat.le_of_ble_eq_true rfl, Nat.le_of_ble_eq_true rfl⟩) hK hN hP (va_Dsame hD rfl) hS hA [] rfl rfl rfl hl.1 rfl (Nat.le_of_ble_eq_true rfl) dX7_move_28 ⟨Nat.zero_le _, Nat.zero_le _⟩ o_28 rfl rfl (fun H locs hP hS => ?_)
        refine lv_istore_n (lv' := [(3, .int o_28), (0, .ref a), (1, .int x1), (2, .int x2)]) hx hb dX7_move_31 rfl hl (by decide) rfl (fun ls hl => ?_)
        refine lv_iload_n hx hb dX7_move_32 rfl (lv_at hl 0 rfl) ?_
        refine lv_bipush (v := (-9)) hx hb dX7_move_33 rfl ?_
        refine lv_icmp_ne (tgt := 41) hx hb dX7_move_35 (by decide) (fun c_35 => ?_) (fun c_35 => ?_)
        · refine lv_aload_n hx hb dX7_move_41 rfl (lv_at hl 1 rfl) ?_
          refine va_get (D := D) (ci := 7) (v := .ref a_acts) (C := RX7) (T := TX7) (N := 14) hx hb hts (fun _ h => List.mem_cons_of_mem _ (List.mem_append_left _ (List.mem_append_left _ (List.mem_append_right _ (h))))) hown hK hP 0 rfl rfl 6 (by decide) (hts _ (List.mem_of_getElem? (i := 2) rfl)) (fun _ h9 => h9) rfl dX7_move_42 ?_
          refine lv_aload_n hx hb dX7_move_45 rfl (lv_at hl 1 rfl) ?_
          obtain ⟨o_46, ho_46⟩ : ∃ z : Int32, z = v_X7_momentNow i_hangingNow i_hourNow := ⟨_, rfl⟩
          refine callVIs (As := []) (rest := [.ref a_acts]) o_46 ho_46 hF (k_X7_momentNow l D cI cZ a a_text a_lease a_reader a_prover a_survey a_paths a_acts a_slots i_hangingNow i_hourNow i_toldDark i_toldLight i_toldCount j_seedNow) (cwV 0 hts gX7_move_X7_momentNow rfl rfl rfl (by decide +kernel) ⟨Nat.le_of_ble_eq_true rfl, Nat.le_of_ble_eq_true rfl⟩) hK hN hP (va_Dsame hD rfl) hS hA [0] rfl rfl 0 7 (T := TX7) (N := 14) rfl rfl rfl hl.1 rfl (Nat.le_of_ble_eq_true rfl) dX7_move_46 ⟨Nat.zero_le _, Nat.zero_le _⟩ o_46 rfl rfl (fun H locs hP hS => ?_)
          obtain ⟨o_49_1, o_49_2, ho_49⟩ := ex2 (v_X0_add o_46 i_acts_size f_acts_moments)
          refine callVV (As := [.int o_46]) (rest := []) (o_49_1, o_49_2) ho_49 hF (k_X0_add l D cI cZ a_acts a_acts_moments n_acts_moments o_46 i_acts_size f_acts_moments) (cwV 1 hts gX7_move_X0_add rfl rfl rfl (by decide +kernel) ⟨Nat.le_of_ble_eq_true rfl, Nat.le_of_ble_eq_true rfl⟩) hK hN hP (va_Dsame hD rfl) hS hA [1, 2, 3] rfl rfl 1 0 (T := TX0) (N := 2) rfl rfl rfl hl.1 rfl (Nat.le_of_ble_eq_true rfl) dX7_move_49 ⟨Nat.zero_le _, Nat.zero_le _⟩ [none, some 0, some 1, some 2] 3 [(a, .inr (7, [.ref a_text, .ref a_lease, .ref a_reader, .ref a_prover, .ref a_survey, .ref a_paths, .ref a_acts, .ref a_slots, .int i_hangingNow, .int i_hourNow, .int i_toldDark, .int i_toldLight, .int i_toldCount, .long j_seedNow])), (a_acts, .inr (0, [.ref a_acts_moments, .int o_49_1])), (a_acts_moments, .inr (4, [.ref n_acts_moments])), (n_acts_moments, .inl (cI, 16, .inl o_49_2))] rfl rfl (by decide) (fun H locs hP hS => ?_)
          refine lv_aload_n hx hb dX7_move_52 rfl (lv_at hl 1 rfl) ?_
          refine lv_iload_n hx hb dX7_move_53 rfl (lv_at hl 0 rfl) ?_
          refine va_put (D := D) (ci := 7) (v := .int o_28) (ty := .int) (C := RX7) (T := TX7) (N := 14) hx hb hts (fun _ h => List.mem_cons_of_mem _ (List.mem_append_left _ (List.mem_append_left _ (List.mem_append_right _ (h))))) tyX7 tyX7_ok nmX7 hown hK hP (va_Dsame hD rfl) hS 0 rfl rfl 8 (by decide) (hts _ (List.mem_of_getElem? (i := 1) rfl)) (fun _ h9 => h9) rfl (tyX7_ok 8 (by decide)) rfl rfl (Nat.le_of_ble_eq_true rfl) dX7_move_54 (fun H locs hP _ hS => ?_)
          have hP : va_P D vwCl [(a, .inr (7, [.ref a_text, .ref a_lease, .ref a_reader, .ref a_prover, .ref a_survey, .ref a_paths, .ref a_acts, .ref a_slots, .int o_28, .int i_hourNow, .int i_toldDark, .int i_toldLight, .int i_toldCount, .long j_seedNow])), (a_acts, .inr (0, [.ref a_acts_moments, .int o_49_1])), (a_acts_moments, .inr (4, [.ref n_acts_moments])), (n_acts_moments, .inl (cI, 16, .inl o_49_2))] H := hP
          refine lv_iload_n hx hb dX7_move_57 rfl (lv_at hl 2 rfl) ?_
          refine lv_iload_n hx hb dX7_move_58 rfl (lv_at hl 3 rfl) ?_
          obtain ⟨o_59, ho_59⟩ : ∃ z : Int32, z = v_X7_nextCell x1 x2 := ⟨_, rfl⟩
          refine callSIs (As := [.int x1, .int x2]) (rest := []) o_59 ho_59 hF (k_X7_nextCell l D cI cZ x1 x2) (va_cwS 2 hts gX7_move_X7_nextCell rfl rfl rfl (by decide +kernel) ⟨Nat.le_of_ble_eq_true rfl, Nat.le_of_ble_eq_true rfl⟩) hK hN hP (va_Dsame hD rfl) hS hA [] rfl rfl rfl hl.1 rfl (Nat.le_of_ble_eq_true rfl) dX7_move_59 ⟨Nat.zero_le _, Nat.zero_le _⟩ o_59 rfl rfl (fun H locs hP hS => ?_)
          have e9 : v_X7_move x1 x2 i_hangingNow i_hourNow i_acts_size f_acts_moments = (o_59, o_28, o_49_1, o_49_2) := by
            refine (bnd_eq ho_1).trans ?_
            refine (if_neg c_4).trans ?_
            refine (if_neg c_11).trans ?_
            refine (if_pos c_16).trans ?_
            refine (bnd_eq ho_28).trans ?_
            refine (if_neg c_35).trans ?_
            refine (bnd_eq ho_46).trans ?_
            refine (bnd2_eq ho_49).trans ?_
            refine (bnd_eq ho_59).trans ?_
            rfl
          rw [hQ]; exact retI (o_59, o_28, o_49_1, o_49_2) hx hb hr hlk e9 hP rfl hS dX7_move_62
        · refine lv_bipush (v := (-3)) hx hb dX7_move_38 rfl ?_
          have e9 : v_X7_move x1 x2 i_hangingNow i_hourNow i_acts_size f_acts_moments = ((-3), i_hangingNow, i_acts_size, f_acts_moments) := by
            refine (bnd_eq ho_1).trans ?_
            refine (if_neg c_4).trans ?_
            refine (if_neg c_11).trans ?_
            refine (if_pos c_16).trans ?_
            refine (bnd_eq ho_28).trans ?_
            refine (if_pos c_35).trans ?_
            rfl
          rw [hQ]; exact retI ((-3), i_hangingNow, i_acts_size, f_acts_moments) hx hb hr hlk e9 hP rfl hS dX7_move_40
      · refine lv_bipush (v := (-2)) hx hb dX7_move_19 rfl ?_
        have e9 : v_X7_move x1 x2 i_hangingNow i_hourNow i_acts_size f_acts_moments = ((-2), i_hangingNow, i_acts_size, f_acts_moments) := by
          refine (bnd_eq ho_1).trans ?_
          refine (if_neg c_4).trans ?_
          refine (if_neg c_11).trans ?_
          refine (if_neg c_16).trans ?_
          rfl
        rw [hQ]; exact retI ((-2), i_hangingNow, i_acts_size, f_acts_moments) hx hb hr hlk e9 hP rfl hS dX7_move_21
  · refine lv_iconst (v := (-1)) hx hb dX7_move_7 rfl ?_
    have e9 : v_X7_move x1 x2 i_hangingNow i_hourNow i_acts_size f_acts_moments = ((-1), i_hangingNow, i_acts_size, f_acts_moments) := by
      refine (bnd_eq ho_1).trans ?_
      refine (if_pos c_4).trans ?_
      rfl
    rw [hQ]; exact retI ((-1), i_hangingNow, i_acts_size, f_acts_moments) hx hb hr hlk e9 hP rfl hS dX7_move_8
def v_X7_hour (i_hangingNow : Int32) (i_hourNow : Int32) (i_acts_size : Int32) (f_acts_moments : Nat → Int32) : Int32 × Int32 × Int32 × (Nat → Int32) :=
  bnd (v_X7_momentNow i_hangingNow i_hourNow) fun o_5 =>
  (bnd2 (v_X0_add o_5 i_acts_size f_acts_moments) fun o_8_1 o_8_2 =>
  (((i_hourNow + 1) - (i_hourNow + 1) / 6 * 6), ((i_hourNow + 1) - (i_hourNow + 1) / 6 * 6), o_8_1, o_8_2))
abbrev rm_X7_hour : Room := { frames := 3, cells := 0, slots := 0, locals := 64 }
set_option maxHeartbeats 4000000 in
set_option maxRecDepth 100000 in
theorem k_X7_hour (l : Launch) (D : va_G) (cI cZ : ClassId) (a a_text a_lease a_reader a_prover a_survey a_paths a_acts a_slots a_acts_moments n_acts_moments : Nat) (i_hangingNow : Int32) (i_hourNow : Int32) (i_toldDark : Int32) (i_toldLight : Int32) (i_toldCount : Int32) (j_seedNow : Int64) (i_acts_size : Int32) (f_acts_moments : Nat → Int32) : KI l D cI cZ yX7_hour wsX7_hour rm_X7_hour [.ref a] [(a, .inr (7, [.ref a_text, .ref a_lease, .ref a_reader, .ref a_prover, .ref a_survey, .ref a_paths, .ref a_acts, .ref a_slots, .int i_hangingNow, .int i_hourNow, .int i_toldDark, .int i_toldLight, .int i_toldCount, .long j_seedNow])), (a_acts, .inr (0, [.ref a_acts_moments, .int i_acts_size])), (a_acts_moments, .inr (4, [.ref n_acts_moments])), (n_acts_moments, .inl (cI, 16, .inl f_acts_moments))] (v_X7_hour i_hangingNow i_hourNow i_acts_size f_acts_moments) (fun o : Int32 × Int32 × Int32 × (Nat → Int32) => o.1) (fun o : Int32 × Int32 × Int32 × (Nat → Int32) => [(a, .inr (7, [.ref a_text, .ref a_lease, .ref a_reader, .ref a_prover, .ref a_survey, .ref a_paths, .ref a_acts, .ref a_slots, .int i_hangingNow, .int o.2.1, .int i_toldDark, .int i_toldLight, .int i_toldCount, .long j_seedNow])), (a_acts, .inr (0, [.ref a_acts_moments, .int o.2.2.1])), (a_acts_moments, .inr (4, [.ref n_acts_moments])), (n_acts_moments, .inl (cI, 16, .inl o.2.2.2))]) := by
  refine KI.of cX7_hour 1 (some .int) (by decide) rfl (Nat.le_of_ble_eq_true rfl) ?_
  intro p e s m below meth c A ls ar Q hQ B
  obtain ⟨hx, hb, hr, hml, hts, hown, hlk, hK, hN, hP, hD, hA, hS, hl⟩ := B
  have hown : s.vm.findClass RX7 = some m.cls := hown
  have hF : CallFix p m c cX7_hour 1 s ar wsX7_hour RX7 := ⟨hx, hb, hml, hown, hts⟩
  have hl : lv_has ls 1 [(0, .ref a)] := hl
  refine lv_aload_n hx hb dX7_hour_0 rfl (lv_at hl 0 rfl) ?_
  refine va_get (D := D) (ci := 7) (v := .ref a_acts) (C := RX7) (T := TX7) (N := 14) hx hb hts (fun _ h => List.mem_cons_of_mem _ (List.mem_append_left _ (List.mem_append_left _ (List.mem_append_right _ (h))))) hown hK hP 0 rfl rfl 6 (by decide) (hts _ (List.mem_of_getElem? (i := 1) rfl)) (fun _ h9 => h9) rfl dX7_hour_1 ?_
  refine lv_aload_n hx hb dX7_hour_4 rfl (lv_at hl 0 rfl) ?_
  obtain ⟨o_5, ho_5⟩ : ∃ z : Int32, z = v_X7_momentNow i_hangingNow i_hourNow := ⟨_, rfl⟩
  refine callVIs (As := []) (rest := [.ref a_acts]) o_5 ho_5 hF (k_X7_momentNow l D cI cZ a a_text a_lease a_reader a_prover a_survey a_paths a_acts a_slots i_hangingNow i_hourNow i_toldDark i_toldLight i_toldCount j_seedNow) (cwV 0 hts gX7_hour_X7_momentNow rfl rfl rfl (by decide +kernel) ⟨Nat.le_of_ble_eq_true rfl, Nat.le_of_ble_eq_true rfl⟩) hK hN hP (va_Dsame hD rfl) hS hA [0] rfl rfl 0 7 (T := TX7) (N := 14) rfl rfl rfl hl.1 rfl (Nat.le_of_ble_eq_true rfl) dX7_hour_5 ⟨Nat.zero_le _, Nat.zero_le _⟩ o_5 rfl rfl (fun H locs hP hS => ?_)
  obtain ⟨o_8_1, o_8_2, ho_8⟩ := ex2 (v_X0_add o_5 i_acts_size f_acts_moments)
  refine callVV (As := [.int o_5]) (rest := []) (o_8_1, o_8_2) ho_8 hF (k_X0_add l D cI cZ a_acts a_acts_moments n_acts_moments o_5 i_acts_size f_acts_moments) (cwV 1 hts gX7_hour_X0_add rfl rfl rfl (by decide +kernel) ⟨Nat.le_of_ble_eq_true rfl, Nat.le_of_ble_eq_true rfl⟩) hK hN hP (va_Dsame hD rfl) hS hA [1, 2, 3] rfl rfl 1 0 (T := TX0) (N := 2) rfl rfl rfl hl.1 rfl (Nat.le_of_ble_eq_true rfl) dX7_hour_8 ⟨Nat.zero_le _, Nat.zero_le _⟩ [none, some 0, some 1, some 2] 3 [(a, .inr (7, [.ref a_text, .ref a_lease, .ref a_reader, .ref a_prover, .ref a_survey, .ref a_paths, .ref a_acts, .ref a_slots, .int i_hangingNow, .int i_hourNow, .int i_toldDark, .int i_toldLight, .int i_toldCount, .long j_seedNow])), (a_acts, .inr (0, [.ref a_acts_moments, .int o_8_1])), (a_acts_moments, .inr (4, [.ref n_acts_moments])), (n_acts_moments, .inl (cI, 16, .inl o_8_2))] rfl rfl (by decide) (fun H locs hP hS => ?_)
  refine lv_aload_n hx hb dX7_hour_11 rfl (lv_at hl 0 rfl) ?_
  refine lv_aload_n hx hb dX7_hour_12 rfl (lv_at hl 0 rfl) ?_
  refine va_get (D := D) (ci := 7) (v := .int i_hourNow) (C := RX7) (T := TX7) (N := 14) hx hb hts (fun _ h => List.mem_cons_of_mem _ (List.mem_append_left _ (List.mem_append_left _ (List.mem_append_right _ (h))))) hown hK hP 0 rfl rfl 9 (by decide) (hts _ (List.mem_of_getElem? (i := 2) rfl)) (fun _ h9 => h9) rfl dX7_hour_13 ?_
  refine lv_iconst (v := 1) hx hb dX7_hour_16 rfl ?_
  refine lv_iadd hx hb dX7_hour_17 ?_
  refine lv_bipush (v := 6) hx hb dX7_hour_18 rfl ?_
  refine lv_irem hx hb dX7_hour_20 (by decide) ?_
  refine va_put (D := D) (ci := 7) (v := .int ((i_hourNow + 1) - (i_hourNow + 1) / 6 * 6)) (ty := .int) (C := RX7) (T := TX7) (N := 14) hx hb hts (fun _ h => List.mem_cons_of_mem _ (List.mem_append_left _ (List.mem_append_left _ (List.mem_append_right _ (h))))) tyX7 tyX7_ok nmX7 hown hK hP (va_Dsame hD rfl) hS 0 rfl rfl 9 (by decide) (hts _ (List.mem_of_getElem? (i := 2) rfl)) (fun _ h9 => h9) rfl (tyX7_ok 9 (by decide)) rfl rfl (Nat.le_of_ble_eq_true rfl) dX7_hour_21 (fun H locs hP _ hS => ?_)
  have hP : va_P D vwCl [(a, .inr (7, [.ref a_text, .ref a_lease, .ref a_reader, .ref a_prover, .ref a_survey, .ref a_paths, .ref a_acts, .ref a_slots, .int i_hangingNow, .int ((i_hourNow + 1) - (i_hourNow + 1) / 6 * 6), .int i_toldDark, .int i_toldLight, .int i_toldCount, .long j_seedNow])), (a_acts, .inr (0, [.ref a_acts_moments, .int o_8_1])), (a_acts_moments, .inr (4, [.ref n_acts_moments])), (n_acts_moments, .inl (cI, 16, .inl o_8_2))] H := hP
  refine lv_aload_n hx hb dX7_hour_24 rfl (lv_at hl 0 rfl) ?_
  refine va_get (D := D) (ci := 7) (v := .int ((i_hourNow + 1) - (i_hourNow + 1) / 6 * 6)) (C := RX7) (T := TX7) (N := 14) hx hb hts (fun _ h => List.mem_cons_of_mem _ (List.mem_append_left _ (List.mem_append_left _ (List.mem_append_right _ (h))))) hown hK hP 0 rfl rfl 9 (by decide) (hts _ (List.mem_of_getElem? (i := 2) rfl)) (fun _ h9 => h9) rfl dX7_hour_25 ?_
  have e9 : v_X7_hour i_hangingNow i_hourNow i_acts_size f_acts_moments = (((i_hourNow + 1) - (i_hourNow + 1) / 6 * 6), ((i_hourNow + 1) - (i_hourNow + 1) / 6 * 6), o_8_1, o_8_2) := by
    refine (bnd_eq ho_5).trans ?_
    refine (bnd2_eq ho_8).trans ?_
    rfl
  rw [hQ]; exact retI (((i_hourNow + 1) - (i_hourNow + 1) / 6 * 6), ((i_hourNow + 1) - (i_hourNow + 1) / 6 * 6), o_8_1, o_8_2) hx hb hr hlk e9 hP rfl hS dX7_hour_28
def v_X7_goBackTo (x1 : Int32) : Int32 × Int32 :=
  ((x1 - x1 / 4096 * 4096), (x1 / 4096))
abbrev rm_X7_goBackTo : Room := { frames := 0, cells := 0, slots := 0, locals := 0 }
set_option maxHeartbeats 4000000 in
set_option maxRecDepth 100000 in
theorem k_X7_goBackTo (l : Launch) (D : va_G) (cI cZ : ClassId) (a a_text a_lease a_reader a_prover a_survey a_paths a_acts a_slots : Nat) (x1 : Int32) (i_hangingNow : Int32) (i_hourNow : Int32) (i_toldDark : Int32) (i_toldLight : Int32) (i_toldCount : Int32) (j_seedNow : Int64) : KV l D cI cZ yX7_goBackTo wsX7_goBackTo rm_X7_goBackTo [.ref a, .int x1] [(a, .inr (7, [.ref a_text, .ref a_lease, .ref a_reader, .ref a_prover, .ref a_survey, .ref a_paths, .ref a_acts, .ref a_slots, .int i_hangingNow, .int i_hourNow, .int i_toldDark, .int i_toldLight, .int i_toldCount, .long j_seedNow]))] (v_X7_goBackTo x1) (fun o : Int32 × Int32 => [(a, .inr (7, [.ref a_text, .ref a_lease, .ref a_reader, .ref a_prover, .ref a_survey, .ref a_paths, .ref a_acts, .ref a_slots, .int o.1, .int o.2, .int i_toldDark, .int i_toldLight, .int i_toldCount, .long j_seedNow]))]) := by
  refine KV.of cX7_goBackTo 2 none (by decide) rfl (Nat.le_of_ble_eq_true rfl) ?_
  intro p e s m below meth c A ls ar Q hQ B
  obtain ⟨hx, hb, hr, hml, hts, hown, hlk, hK, hN, hP, hD, hA, hS, hl⟩ := B
  have hown : s.vm.findClass RX7 = some m.cls := hown
  have hF : CallFix p m c cX7_goBackTo 2 s ar wsX7_goBackTo RX7 := ⟨hx, hb, hml, hown, hts⟩
  have hl : lv_has ls 2 [(0, .ref a), (1, .int x1)] := hl
  refine lv_aload_n hx hb dX7_goBackTo_0 rfl (lv_at hl 0 rfl) ?_
  refine lv_iload_n hx hb dX7_goBackTo_1 rfl (lv_at hl 1 rfl) ?_
  refine lv_sipush (v := 4096) hx hb dX7_goBackTo_2 rfl ?_
  refine lv_irem hx hb dX7_goBackTo_5 (by decide) ?_
  refine va_put (D := D) (ci := 7) (v := .int (x1 - x1 / 4096 * 4096)) (ty := .int) (C := RX7) (T := TX7) (N := 14) hx hb hts (fun _ h => List.mem_cons_of_mem _ (List.mem_append_right _ (h))) tyX7 tyX7_ok nmX7 hown hK hP (va_Dsame hD rfl) hS 0 rfl rfl 8 (by decide) (hts _ (List.mem_of_getElem? (i := 1) rfl)) (fun _ h9 => h9) rfl (tyX7_ok 8 (by decide)) rfl rfl (Nat.le_of_ble_eq_true rfl) dX7_goBackTo_6 (fun H locs hP _ hS => ?_)
  have hP : va_P D vwCl [(a, .inr (7, [.ref a_text, .ref a_lease, .ref a_reader, .ref a_prover, .ref a_survey, .ref a_paths, .ref a_acts, .ref a_slots, .int (x1 - x1 / 4096 * 4096), .int i_hourNow, .int i_toldDark, .int i_toldLight, .int i_toldCount, .long j_seedNow]))] H := hP
  refine lv_aload_n hx hb dX7_goBackTo_9 rfl (lv_at hl 0 rfl) ?_
  refine lv_iload_n hx hb dX7_goBackTo_10 rfl (lv_at hl 1 rfl) ?_
  refine lv_sipush (v := 4096) hx hb dX7_goBackTo_11 rfl ?_
  refine lv_idiv hx hb dX7_goBackTo_14 (by decide) ?_
  refine va_put (D := D) (ci := 7) (v := .int (x1 / 4096)) (ty := .int) (C := RX7) (T := TX7) (N := 14) hx hb hts (fun _ h => List.mem_cons_of_mem _ (List.mem_append_right _ (h))) tyX7 tyX7_ok nmX7 hown hK hP (va_Dsame hD rfl) hS 0 rfl rfl 9 (by decide) (hts _ (List.mem_of_getElem? (i := 2) rfl)) (fun _ h9 => h9) rfl (tyX7_ok 9 (by decide)) rfl rfl (Nat.le_of_ble_eq_true rfl) dX7_goBackTo_15 (fun H locs hP _ hS => ?_)
  have hP : va_P D vwCl [(a, .inr (7, [.ref a_text, .ref a_lease, .ref a_reader, .ref a_prover, .ref a_survey, .ref a_paths, .ref a_acts, .ref a_slots, .int (x1 - x1 / 4096 * 4096), .int (x1 / 4096), .int i_toldDark, .int i_toldLight, .int i_toldCount, .long j_seedNow]))] H := hP
  have e9 : v_X7_goBackTo x1 = ((x1 - x1 / 4096 * 4096), (x1 / 4096)) := by
    rfl
  rw [hQ]; exact retV ((x1 - x1 / 4096 * 4096), (x1 / 4096)) hx hb hr hlk e9 hP hS dX7_goBackTo_18
def v_X7_undo (i_hangingNow : Int32) (i_hourNow : Int32) (i_acts_size : Int32) (f_acts_moments : Nat → Int32) : Int32 × Int32 × Int32 × Int32 :=
  bnd2 (v_X0_removeLast i_acts_size f_acts_moments) fun o_4_1 o_4_2 =>
  (if o_4_1 = (-9) then ((-3), i_hangingNow, i_hourNow, o_4_2)
  else (bnd2 (v_X7_goBackTo o_4_1) fun o_19_1 o_19_2 =>
  (bnd (v_X0_size o_4_2) fun o_26 =>
  (o_26, o_19_1, o_19_2, o_4_2))))
abbrev rm_X7_undo : Room := { frames := 2, cells := 0, slots := 0, locals := 41 }
set_option maxHeartbeats 4000000 in
set_option maxRecDepth 100000 in
theorem k_X7_undo (l : Launch) (D : va_G) (cI cZ : ClassId) (a a_text a_lease a_reader a_prover a_survey a_paths a_acts a_slots a_acts_moments n_acts_moments : Nat) (i_hangingNow : Int32) (i_hourNow : Int32) (i_toldDark : Int32) (i_toldLight : Int32) (i_toldCount : Int32) (j_seedNow : Int64) (i_acts_size : Int32) (f_acts_moments : Nat → Int32) : KI l D cI cZ yX7_undo wsX7_undo rm_X7_undo [.ref a] [(a, .inr (7, [.ref a_text, .ref a_lease, .ref a_reader, .ref a_prover, .ref a_survey, .ref a_paths, .ref a_acts, .ref a_slots, .int i_hangingNow, .int i_hourNow, .int i_toldDark, .int i_toldLight, .int i_toldCount, .long j_seedNow])), (a_acts, .inr (0, [.ref a_acts_moments, .int i_acts_size])), (a_acts_moments, .inr (4, [.ref n_acts_moments])), (n_acts_moments, .inl (cI, 16, .inl f_acts_moments))] (v_X7_undo i_hangingNow i_hourNow i_acts_size f_acts_moments) (fun o : Int32 × Int32 × Int32 × Int32 => o.1) (fun o : Int32 × Int32 × Int32 × Int32 => [(a, .inr (7, [.ref a_text, .ref a_lease, .ref a_reader, .ref a_prover, .ref a_survey, .ref a_paths, .ref a_acts, .ref a_slots, .int o.2.1, .int o.2.2.1, .int i_toldDark, .int i_toldLight, .int i_toldCount, .long j_seedNow])), (a_acts, .inr (0, [.ref a_acts_moments, .int o.2.2.2])), (a_acts_moments, .inr (4, [.ref n_acts_moments])), (n_acts_moments, .inl (cI, 16, .inl f_acts_moments))]) := by
  refine KI.of cX7_undo 2 (some .int) (by decide) rfl (Nat.le_of_ble_eq_true rfl) ?_
  intro p e s m below meth c A ls ar Q hQ B
  obtain ⟨hx, hb, hr, hml, hts, hown, hlk, hK, hN, hP, hD, hA, hS, hl⟩ := B
  have hown : s.vm.findClass RX7 = some m.cls := hown
  have hF : CallFix p m c cX7_undo 2 s ar wsX7_undo RX7 := ⟨hx, hb, hml, hown, hts⟩
  have hl : lv_has ls 2 [(0, .ref a)] := hl
  refine lv_aload_n hx hb dX7_undo_0 rfl (lv_at hl 0 rfl) ?_
  refine va_get (D := D) (ci := 7) (v := .ref a_acts) (C := RX7) (T := TX7) (N := 14) hx hb hts (fun _ h => List.mem_cons_of_mem _ (List.mem_append_left _ (List.mem_append_left _ (List.mem_append_right _ (h))))) hown hK hP 0 rfl rfl 6 (by decide) (hts _ (List.mem_of_getElem? (i := 1) rfl)) (fun _ h9 => h9) rfl dX7_undo_1 ?_
  obtain ⟨o_4_1, o_4_2, ho_4⟩ := ex2 (v_X0_removeLast i_acts_size f_acts_moments)
  refine callVI (As := []) (rest := []) (o_4_1, o_4_2) ho_4 hF (k_X0_removeLast l D cI cZ a_acts a_acts_moments n_acts_moments i_acts_size f_acts_moments) (cwV 0 hts gX7_undo_X0_removeLast rfl rfl rfl (by decide +kernel) ⟨Nat.le_of_ble_eq_true rfl, Nat.le_of_ble_eq_true rfl⟩) hK hN hP (va_Dsame hD rfl) hS hA [1, 2, 3] rfl rfl 1 0 (T := TX0) (N := 2) rfl rfl rfl hl.1 rfl (Nat.le_of_ble_eq_true rfl) dX7_undo_4 ⟨Nat.zero_le _, Nat.zero_le _⟩ o_4_1 rfl [none, some 0, some 1, some 2] 3 [(a, .inr (7, [.ref a_text, .ref a_lease, .ref a_reader, .ref a_prover, .ref a_survey, .ref a_paths, .ref a_acts, .ref a_slots, .int i_hangingNow, .int i_hourNow, .int i_toldDark, .int i_toldLight, .int i_toldCount, .long j_seedNow])), (a_acts, .inr (0, [.ref a_acts_moments, .int o_4_2])), (a_acts_moments, .inr (4, [.ref n_acts_moments])), (n_acts_moments, .inl (cI, 16, .inl f_acts_moments))] rfl rfl (by decide) (fun H locs hP hS => ?_)
  refine lv_istore_n (lv' := [(1, .int o_4_1), (0, .ref a)]) hx hb dX7_undo_7 rfl hl (by decide) rfl (fun ls hl => ?_)
  refine lv_iload_n hx hb dX7_undo_8 rfl (lv_at hl 0 rfl) ?_
  refine lv_bipush (v := (-9)) hx hb dX7_undo_9 rfl ?_
  refine lv_icmp_ne (tgt := 17) hx hb dX7_undo_11 (by decide) (fun c_11 => ?_) (fun c_11 => ?_)
  · refine lv_aload_n hx hb dX7_undo_17 rfl (lv_at hl 1 rfl) ?_
    refine lv_iload_n hx hb dX7_undo_18 rfl (lv_at hl 0 rfl) ?_
    obtain ⟨o_19_1, o_19_2, ho_19⟩ := ex2 (v_X7_goBackTo o_4_1)
    refine callVV (As := [.int o_4_1]) (rest := []) (o_19_1, o_19_2) ho_19 hF (k_X7_goBackTo l D cI cZ a a_text a_lease a_reader a_prover a_survey a_paths a_acts a_slots o_4_1 i_hangingNow i_hourNow i_toldDark i_toldLight i_toldCount j_seedNow) (cwV 1 hts gX7_undo_X7_goBackTo rfl rfl rfl (by decide +kernel) ⟨Nat.le_of_ble_eq_true rfl, Nat.le_of_ble_eq_true rfl⟩) hK hN hP (va_Dsame hD rfl) hS hA [0] rfl rfl 0 7 (T := TX7) (N := 14) rfl rfl rfl hl.1 rfl (Nat.le_of_ble_eq_true rfl) dX7_undo_19 ⟨Nat.zero_le _, Nat.zero_le _⟩ [some 0, none, none, none] 1 [(a, .inr (7, [.ref a_text, .ref a_lease, .ref a_reader, .ref a_prover, .ref a_survey, .ref a_paths, .ref a_acts, .ref a_slots, .int o_19_1, .int o_19_2, .int i_toldDark, .int i_toldLight, .int i_toldCount, .long j_seedNow])), (a_acts, .inr (0, [.ref a_acts_moments, .int o_4_2])), (a_acts_moments, .inr (4, [.ref n_acts_moments])), (n_acts_moments, .inl (cI, 16, .inl f_acts_moments))] rfl rfl (by decide) (fun H locs hP hS => ?_)
    refine lv_aload_n hx hb dX7_undo_22 rfl (lv_at hl 1 rfl) ?_
    refine va_get (D := D) (ci := 7) (v := .ref a_acts) (C := RX7) (T := TX7) (N := 14) hx hb hts (fun _ h => List.mem_cons_of_mem _ (List.mem_append_left _ (List.mem_append_left _ (List.mem_append_right _ (h))))) hown hK hP 0 rfl rfl 6 (by decide) (hts _ (List.mem_of_getElem? (i := 1) rfl)) (fun _ h9 => h9) rfl dX7_undo_23 ?_
    obtain ⟨o_26, ho_26⟩ : ∃ z : Int32, z = v_X0_size o_4_2 := ⟨_, rfl⟩
    refine callVIs (As := []) (rest := []) o_26 ho_26 hF (k_X0_size l D cI cZ a_acts a_acts_moments o_4_2) (cwV 0 hts gX7_undo_X0_size rfl rfl rfl (by decide +kernel) ⟨Nat.le_of_ble_eq_true rfl, Nat.le_of_ble_eq_true rfl⟩) hK hN hP (va_Dsame hD rfl) hS hA [1] rfl rfl 1 0 (T := TX0) (N := 2) rfl rfl rfl hl.1 rfl (Nat.le_of_ble_eq_true rfl) dX7_undo_26 ⟨Nat.zero_le _, Nat.zero_le _⟩ o_26 rfl rfl (fun H locs hP hS => ?_)
    have e9 : v_X7_undo i_hangingNow i_hourNow i_acts_size f_acts_moments = (o_26, o_19_1, o_19_2, o_4_2) := by
      refine (bnd2_eq ho_4).trans ?_
      refine (if_neg c_11).trans ?_
      refine (bnd2_eq ho_19).trans ?_
      refine (bnd_eq ho_26).trans ?_
      rfl
    rw [hQ]; exact retI (o_26, o_19_1, o_19_2, o_4_2) hx hb hr hlk e9 hP rfl hS dX7_undo_29
  · refine lv_bipush (v := (-3)) hx hb dX7_undo_14 rfl ?_
    have e9 : v_X7_undo i_hangingNow i_hourNow i_acts_size f_acts_moments = ((-3), i_hangingNow, i_hourNow, o_4_2) := by
      refine (bnd2_eq ho_4).trans ?_
      refine (if_pos c_11).trans ?_
      rfl
    rw [hQ]; exact retI ((-3), i_hangingNow, i_hourNow, o_4_2) hx hb hr hlk e9 hP rfl hS dX7_undo_16
def v_X7_afterToldMove (x0 : Int32) (x1 : Int32) (x2 : Int32) : Int32 :=
  bnd (v_X7_isCell x1) fun o_1 =>
  (if bI o_1 = 0 then (-9)
  else (if x2 < 0 then (-9)
  else (if x2 ≤ 2 then (if x2 = 0 then (bnd (v_X7_afterMove x0 x1 1) fun o_39 =>
      o_39)
    else (if x2 = 1 then (bnd (v_X7_afterMove x0 x1 (-1)) fun o_39 =>
      o_39)
    else (bnd (v_X7_afterMove x0 x1 0) fun o_39 =>
    o_39)))
  else (-9))))
abbrev rm_X7_afterToldMove : Room := { frames := 2, cells := 0, slots := 0, locals := 45 }
set_option maxHeartbeats 4000000 in
set_option maxRecDepth 100000 in
theorem k_X7_afterToldMove (l : Launch) (D : va_G) (cI cZ : ClassId) (x0 : Int32) (x1 : Int32) (x2 : Int32) : KI l D cI cZ yX7_afterToldMove wsX7_afterToldMove rm_X7_afterToldMove [.int x0, .int x1, .int x2] [] (v_X7_afterToldMove x0 x1 x2) (fun o : Int32 => o) (fun _ : Int32 => []) := by
  refine KI.of cX7_afterToldMove 3 (some .int) (by decide) rfl (Nat.le_of_ble_eq_true rfl) ?_
  intro p e s m below meth c A ls ar Q hQ B
  obtain ⟨hx, hb, hr, hml, hts, hown, hlk, hK, hN, hP, hD, hA, hS, hl⟩ := B
  have hown : s.vm.findClass RX7 = some m.cls := hown
  have hF : CallFix p m c cX7_afterToldMove 3 s ar wsX7_afterToldMove RX7 := ⟨hx, hb, hml, hown, hts⟩
  have hl : lv_has ls 3 [(0, .int x0), (1, .int x1), (2, .int x2)] := hl
  refine lv_iload_n hx hb dX7_afterToldMove_0 rfl (lv_at hl 1 rfl) ?_
  obtain ⟨o_1, ho_1⟩ : ∃ z : Bool, z = v_X7_isCell x1 := ⟨_, rfl⟩
  refine callSIs (As := [.int x1]) (rest := []) o_1 ho_1 hF (k_X7_isCell l D cI cZ x1) (va_cwS 1 hts gX7_afterToldMove_X7_isCell rfl rfl rfl (by decide +kernel) ⟨Nat.le_of_ble_eq_true rfl, Nat.le_of_ble_eq_true rfl⟩) hK hN hP (va_Dsame hD rfl) hS hA [] rfl rfl rfl hl.1 rfl (Nat.le_of_ble_eq_true rfl) dX7_afterToldMove_1 ⟨Nat.zero_le _, Nat.zero_le _⟩ (bI o_1) rfl rfl (fun H locs hP hS => ?_)
  refine lv_if_eq (tgt := 16) hx hb dX7_afterToldMove_4 (by decide) (fun c_4 => ?_) (fun c_4 => ?_)
  · refine lv_bipush (v := (-9)) hx hb dX7_afterToldMove_16 rfl ?_
    have e9 : v_X7_afterToldMove x0 x1 x2 = (-9) := by
      refine (bnd_eq ho_1).trans ?_
      refine (if_pos c_4).trans ?_
      rfl
    rw [hQ]; exact retI (-9) hx hb hr hlk e9 hP rfl hS dX7_afterToldMove_18
  · refine lv_iload_n hx hb dX7_afterToldMove_7 rfl (lv_at hl 2 rfl) ?_
    refine lv_if_lt (tgt := 16) hx hb dX7_afterToldMove_8 (by decide) (fun c_8 => ?_) (fun c_8 => ?_)
    · refine lv_bipush (v := (-9)) hx hb dX7_afterToldMove_16 rfl ?_
      have e9 : v_X7_afterToldMove x0 x1 x2 = (-9) := by
        refine (bnd_eq ho_1).trans ?_
        refine (if_neg c_4).trans ?_
        refine (if_pos c_8).trans ?_
        rfl
      rw [hQ]; exact retI (-9) hx hb hr hlk e9 hP rfl hS dX7_afterToldMove_18
    · refine lv_iload_n hx hb dX7_afterToldMove_11 rfl (lv_at hl 2 rfl) ?_
      refine lv_iconst (v := 2) hx hb dX7_afterToldMove_12 rfl ?_
      refine lv_icmp_le (tgt := 19) hx hb dX7_afterToldMove_13 (by decide) (fun c_13 => ?_) (fun c_13 => ?_)
      · refine lv_iload_n hx hb dX7_afterToldMove_19 rfl (lv_at hl 0 rfl) ?_
        refine lv_iload_n hx hb dX7_afterToldMove_20 rfl (lv_at hl 1 rfl) ?_
        refine lv_iload_n hx hb dX7_afterToldMove_21 rfl (lv_at hl 2 rfl) ?_
        refine lv_if_ne (tgt := 29) hx hb dX7_afterToldMove_22 (by decide) (fun c_22 => ?_) (fun c_22 => ?_)
        · refine lv_iload_n hx hb dX7_afterToldMove_29 rfl (lv_at hl 2 rfl) ?_
          refine lv_iconst (v := 1) hx hb dX7_afterToldMove_30 rfl ?_
          refine lv_icmp_ne (tgt := 38) hx hb dX7_afterToldMove_31 (by decide) (fun c_31 => ?_) (fun c_31 => ?_)
          · refine lv_iconst (v := 0) hx hb dX7_afterToldMove_38 rfl ?_
            obtain ⟨o_39, ho_39⟩ : ∃ z : Int32, z = v_X7_afterMove x0 x1 0 := ⟨_, rfl⟩
            refine callSIs (As := [.int x0, .int x1, .int 0]) (rest := []) o_39 ho_39 hF (k_X7_afterMove l D cI cZ x0 x1 0) (va_cwS 3 hts gX7_afterToldMove_X7_afterMove rfl rfl rfl (by decide +kernel) ⟨Nat.le_of_ble_eq_true rfl, Nat.le_of_ble_eq_true rfl⟩) hK hN hP (va_Dsame hD rfl) hS hA [] rfl rfl rfl hl.1 rfl (Nat.le_of_ble_eq_true rfl) dX7_afterToldMove_39 ⟨Nat.zero_le _, Nat.zero_le _⟩ o_39 rfl rfl (fun H locs hP hS => ?_)
            have e9 : v_X7_afterToldMove x0 x1 x2 = o_39 := by
              refine (bnd_eq ho_1).trans ?_
              refine (if_neg c_4).trans ?_
              refine (if_neg c_8).trans ?_
              refine (if_pos c_13).trans ?_
              refine (if_neg c_22).trans ?_
              refine (if_neg c_31).trans ?_
              refine (bnd_eq ho_39).trans ?_
              rfl
            rw [hQ]; exact retI o_39 hx hb hr hlk e9 hP rfl hS dX7_afterToldMove_42
          · refine lv_iconst (v := (-1)) hx hb dX7_afterToldMove_34 rfl ?_
            refine lv_goto (tgt := 39) hx hb dX7_afterToldMove_35 (by decide) ?_
            obtain ⟨o_39, ho_39⟩ : ∃ z : Int32, z = v_X7_afterMove x0 x1 (-1) := ⟨_, rfl⟩
            refine callSIs (As := [.int x0, .int x1, .int (-1)]) (rest := []) o_39 ho_39 hF (k_X7_afterMove l D cI cZ x0 x1 (-1)) (va_cwS 3 hts gX7_afterToldMove_X7_afterMove rfl rfl rfl (by decide +kernel) ⟨Nat.le_of_ble_eq_true rfl, Nat.le_of_ble_eq_true rfl⟩) hK hN hP (va_Dsame hD rfl) hS hA [] rfl rfl rfl hl.1 rfl (Nat.le_of_ble_eq_true rfl) dX7_afterToldMove_39 ⟨Nat.zero_le _, Nat.zero_le _⟩ o_39 rfl rfl (fun H locs hP hS => ?_)
            have e9 : v_X7_afterToldMove x0 x1 x2 = o_39 := by
              refine (bnd_eq ho_1).trans ?_
              refine (if_neg c_4).trans ?_
              refine (if_neg c_8).trans ?_
              refine (if_pos c_13).trans ?_
              refine (if_neg c_22).trans ?_
              refine (if_pos c_31).trans ?_
              refine (bnd_eq ho_39).trans ?_
              rfl
            rw [hQ]; exact retI o_39 hx hb hr hlk e9 hP rfl hS dX7_afterToldMove_42
        · refine lv_iconst (v := 1) hx hb dX7_afterToldMove_25 rfl ?_
          refine lv_goto (tgt := 39) hx hb dX7_afterToldMove_26 (by decide) ?_
          obtain ⟨o_39, ho_39⟩ : ∃ z : Int32, z = v_X7_afterMove x0 x1 1 := ⟨_, rfl⟩
          refine callSIs (As := [.int x0, .int x1, .int 1]) (rest := []) o_39 ho_39 hF (k_X7_afterMove l D cI cZ x0 x1 1) (va_cwS 3 hts gX7_afterToldMove_X7_afterMove rfl rfl rfl (by decide +kernel) ⟨Nat.le_of_ble_eq_true rfl, Nat.le_of_ble_eq_true rfl⟩) hK hN hP (va_Dsame hD rfl) hS hA [] rfl rfl rfl hl.1 rfl (Nat.le_of_ble_eq_true rfl) dX7_afterToldMove_39 ⟨Nat.zero_le _, Nat.zero_le _⟩ o_39 rfl rfl (fun H locs hP hS => ?_)
          have e9 : v_X7_afterToldMove x0 x1 x2 = o_39 := by
            refine (bnd_eq ho_1).trans ?_
            refine (if_neg c_4).trans ?_
            refine (if_neg c_8).trans ?_
            refine (if_pos c_13).trans ?_
            refine (if_pos c_22).trans ?_
            refine (bnd_eq ho_39).trans ?_
            rfl
          rw [hQ]; exact retI o_39 hx hb hr hlk e9 hP rfl hS dX7_afterToldMove_42
      · refine lv_bipush (v := (-9)) hx hb dX7_afterToldMove_16 rfl ?_
        have e9 : v_X7_afterToldMove x0 x1 x2 = (-9) := by
          refine (bnd_eq ho_1).trans ?_
          refine (if_neg c_4).trans ?_
          refine (if_neg c_8).trans ?_
          refine (if_neg c_13).trans ?_
          rfl
        rw [hQ]; exact retI (-9) hx hb hr hlk e9 hP rfl hS dX7_afterToldMove_18
