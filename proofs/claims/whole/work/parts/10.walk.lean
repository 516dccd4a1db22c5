def v_X0_size (i_size : Int32) : Int32 :=
  i_size
abbrev rm_X0_size : Room := { frames := 0, cells := 0, slots := 0, locals := 0 }
set_option maxHeartbeats 4000000 in
set_option maxRecDepth 100000 in
theorem k_X0_size (l : Launch) (D : va_G) (cI cZ : ClassId) (a a_moments : Nat) (i_size : Int32) : KI l D cI cZ yX0_size wsX0_size rm_X0_size [.ref a] [(a, .inr (0, [.ref a_moments, .int i_size]))] (v_X0_size i_size) (fun o : Int32 => o) (fun _ : Int32 => [(a, .inr (0, [.ref a_moments, .int i_size]))]) := by
  refine KI.of cX0_size 1 (some .int) (by decide) rfl (Nat.le_of_ble_eq_true rfl) ?_
  intro p e s m below meth c A ls ar Q hQ B
  obtain ⟨hx, hb, hr, hml, hts, hown, hlk, hK, hN, hP, hD, hA, hS, hl⟩ := B
  have hown : s.vm.findClass RX0 = some m.cls := hown
  have hF : CallFix p m c cX0_size 1 s ar wsX0_size RX0 := ⟨hx, hb, hml, hown, hts⟩
  have hl : lv_has ls 1 [(0, .ref a)] := hl
  refine lv_aload_n hx hb dX0_size_0 rfl (lv_at hl 0 rfl) ?_
  refine va_get (D := D) (ci := 0) (v := .int i_size) (C := RX0) (T := TX0) (N := 2) hx hb hts (fun _ h => List.mem_cons_of_mem _ (List.mem_append_right _ (h))) hown hK hP 0 rfl rfl 1 (by decide) (hts _ (List.mem_of_getElem? (i := 1) rfl)) (fun _ h9 => h9) rfl dX0_size_1 ?_
  have e9 : v_X0_size i_size = i_size := by
    rfl
  rw [hQ]; exact retI i_size hx hb hr hlk e9 hP rfl hS dX0_size_4
def v_X0_clear : Int32 :=
  0
abbrev rm_X0_clear : Room := { frames := 0, cells := 0, slots := 0, locals := 0 }
set_option maxHeartbeats 4000000 in
set_option maxRecDepth 100000 in
theorem k_X0_clear (l : Launch) (D : va_G) (cI cZ : ClassId) (a a_moments : Nat) (i_size : Int32) : KV l D cI cZ yX0_clear wsX0_clear rm_X0_clear [.ref a] [(a, .inr (0, [.ref a_moments, .int i_size]))] v_X0_clear (fun o : Int32 => [(a, .inr (0, [.ref a_moments, .int o]))]) := by
  refine KV.of cX0_clear 1 none (by decide) rfl (Nat.le_of_ble_eq_true rfl) ?_
  intro p e s m below meth c A ls ar Q hQ B
  obtain ⟨hx, hb, hr, hml, hts, hown, hlk, hK, hN, hP, hD, hA, hS, hl⟩ := B
  have hown : s.vm.findClass RX0 = some m.cls := hown
  have hF : CallFix p m c cX0_clear 1 s ar wsX0_clear RX0 := ⟨hx, hb, hml, hown, hts⟩
  have hl : lv_has ls 1 [(0, .ref a)] := hl
  refine lv_aload_n hx hb dX0_clear_0 rfl (lv_at hl 0 rfl) ?_
  refine lv_iconst (v := 0) hx hb dX0_clear_1 rfl ?_
  refine va_put (D := D) (ci := 0) (v := .int 0) (ty := .int) (C := RX0) (T := TX0) (N := 2) hx hb hts (fun _ h => List.mem_cons_of_mem _ (List.mem_append_right _ (h))) tyX0 tyX0_ok nmX0 hown hK hP (va_Dsame hD rfl) hS 0 rfl rfl 1 (by decide) (hts _ (List.mem_of_getElem? (i := 1) rfl)) (fun _ h9 => h9) rfl (tyX0_ok 1 (by decide)) rfl rfl (Nat.le_of_ble_eq_true rfl) dX0_clear_2 (fun H locs hP _ hS => ?_)
  have hP : va_P D vwCl [(a, .inr (0, [.ref a_moments, .int 0]))] H := hP
  have e9 : v_X0_clear = 0 := by
    rfl
  rw [hQ]; exact retV 0 hx hb hr hlk e9 hP hS dX0_clear_5
def v_X4_at (x1 : Int32) (f : Nat → Int32) (len : Nat) : Int32 :=
  if x1 < 0 then 0
  else (if nI len ≤ x1 then 0
  else (f x1.toNatClampNeg))
abbrev rm_X4_at : Room := { frames := 0, cells := 0, slots := 0, locals := 0 }
set_option maxHeartbeats 4000000 in
set_option maxRecDepth 100000 in
theorem k_X4_at (l : Launch) (D : va_G) (cI cZ : ClassId) (a n : Nat) (x1 : Int32) (f : Nat → Int32) (len : Nat) (hlen : len < 2 ^ 31) : KI l D cI cZ yX4_at wsX4_at rm_X4_at [.ref a, .int x1] [(a, .inr (4, [.ref n])), (n, .inl (cI, len, .inl f))] (v_X4_at x1 f len) (fun o : Int32 => o) (fun _ : Int32 => [(a, .inr (4, [.ref n])), (n, .inl (cI, len, .inl f))]) := by
  refine KI.of cX4_at 2 (some .int) (by decide) rfl (Nat.le_of_ble_eq_true rfl) ?_
  intro p e s m below meth c A ls ar Q hQ B
  obtain ⟨hx, hb, hr, hml, hts, hown, hlk, hK, hN, hP, hD, hA, hS, hl⟩ := B
  have hown : s.vm.findClass RX4 = some m.cls := hown
  have hF : CallFix p m c cX4_at 2 s ar wsX4_at RX4 := ⟨hx, hb, hml, hown, hts⟩
  have hl : lv_has ls 2 [(0, .ref a), (1, .int x1)] := hl
  refine lv_iload_n hx hb dX4_at_0 rfl (lv_at hl 1 rfl) ?_
  refine lv_if_lt (tgt := 22) hx hb dX4_at_1 (by decide) (fun c_1 => ?_) (fun c_1 => ?_)
  · refine lv_iconst (v := 0) hx hb dX4_at_22 rfl ?_
    have e9 : v_X4_at x1 f len = 0 := by
      refine (if_pos c_1).trans ?_
      rfl
    rw [hQ]; exact retI 0 hx hb hr hlk e9 hP rfl hS dX4_at_23
  · refine lv_iload_n hx hb dX4_at_4 rfl (lv_at hl 1 rfl) ?_
    refine lv_aload_n hx hb dX4_at_5 rfl (lv_at hl 0 rfl) ?_
    refine va_get (D := D) (ci := 4) (v := .ref n) (C := RX4) (T := TX4) (N := 1) hx hb hts (fun _ h => List.mem_cons_of_mem _ (List.mem_append_right _ (h))) hown hK hP 0 rfl rfl 0 (by decide) (hts _ (List.mem_of_getElem? (i := 1) rfl)) (fun _ h9 => h9) rfl dX4_at_6 ?_
    refine va_alen (v := nI len) hx hb hK hP 1 0 rfl rfl rfl dX4_at_9 ?_
    refine lv_icmp_ge (tgt := 22) hx hb dX4_at_10 (by decide) (fun c_10 => ?_) (fun c_10 => ?_)
    · refine lv_iconst (v := 0) hx hb dX4_at_22 rfl ?_
      have e9 : v_X4_at x1 f len = 0 := by
        refine (if_neg c_1).trans ?_
        refine (if_pos c_10).trans ?_
        rfl
      rw [hQ]; exact retI 0 hx hb hr hlk e9 hP rfl hS dX4_at_23
    · refine lv_aload_n hx hb dX4_at_13 rfl (lv_at hl 0 rfl) ?_
      refine va_get (D := D) (ci := 4) (v := .ref n) (C := RX4) (T := TX4) (N := 1) hx hb hts (fun _ h => List.mem_cons_of_mem _ (List.mem_append_right _ (h))) hown hK hP 0 rfl rfl 0 (by decide) (hts _ (List.mem_of_getElem? (i := 1) rfl)) (fun _ h9 => h9) rfl dX4_at_14 ?_
      refine lv_iload_n hx hb dX4_at_17 rfl (lv_at hl 1 rfl) ?_
      refine va_iald hx hb hK hP 1 0 rfl rfl (vpg hlen c_1 c_10) dX4_at_18 ?_
      refine lv_goto (tgt := 23) hx hb dX4_at_19 (by decide) ?_
      have e9 : v_X4_at x1 f len = (f x1.toNatClampNeg) := by
        refine (if_neg c_1).trans ?_
        refine (if_neg c_10).trans ?_
        rfl
      rw [hQ]; exact retI (f x1.toNatClampNeg) hx hb hr hlk e9 hP rfl hS dX4_at_23
def v_X4_put (x1 : Int32) (x2 : Int32) (f : Nat → Int32) (len : Nat) : Nat → Int32 :=
  if x1 < 0 then f
  else (if nI len ≤ x1 then f
  else (upd f x1.toNatClampNeg x2))
abbrev rm_X4_put : Room := { frames := 0, cells := 0, slots := 0, locals := 0 }
set_option maxHeartbeats 4000000 in
set_option maxRecDepth 100000 in
theorem k_X4_put (l : Launch) (D : va_G) (cI cZ : ClassId) (a n : Nat) (x1 : Int32) (x2 : Int32) (f : Nat → Int32) (len : Nat) (hlen : len < 2 ^ 31) : KV l D cI cZ yX4_put wsX4_put rm_X4_put [.ref a, .int x1, .int x2] [(a, .inr (4, [.ref n])), (n, .inl (cI, len, .inl f))] (v_X4_put x1 x2 f len) (fun o : Nat → Int32 => [(a, .inr (4, [.ref n])), (n, .inl (cI, len, .inl o))]) := by
  refine KV.of cX4_put 3 none (by decide) rfl (Nat.le_of_ble_eq_true rfl) ?_
  intro p e s m below meth c A ls ar Q hQ B
  obtain ⟨hx, hb, hr, hml, hts, hown, hlk, hK, hN, hP, hD, hA, hS, hl⟩ := B
  have hown : s.vm.findClass RX4 = some m.cls := hown
  have hF : CallFix p m c cX4_put 3 s ar wsX4_put RX4 := ⟨hx, hb, hml, hown, hts⟩
  have hl : lv_has ls 3 [(0, .ref a), (1, .int x1), (2, .int x2)] := hl
  refine lv_iload_n hx hb dX4_put_0 rfl (lv_at hl 1 rfl) ?_
  refine lv_if_lt (tgt := 20) hx hb dX4_put_1 (by decide) (fun c_1 => ?_) (fun c_1 => ?_)
  · have e9 : v_X4_put x1 x2 f len = f := by
      refine (if_pos c_1).trans ?_
      rfl
    rw [hQ]; exact retV f hx hb hr hlk e9 hP hS dX4_put_20
  · refine lv_iload_n hx hb dX4_put_4 rfl (lv_at hl 1 rfl) ?_
    refine lv_aload_n hx hb dX4_put_5 rfl (lv_at hl 0 rfl) ?_
    refine va_get (D := D) (ci := 4) (v := .ref n) (C := RX4) (T := TX4) (N := 1) hx hb hts (fun _ h => List.mem_cons_of_mem _ (List.mem_append_right _ (h))) hown hK hP 0 rfl rfl 0 (by decide) (hts _ (List.mem_of_getElem? (i := 1) rfl)) (fun _ h9 => h9) rfl dX4_put_6 ?_
    refine va_alen (v := nI len) hx hb hK hP 1 0 rfl rfl rfl dX4_put_9 ?_
    refine lv_icmp_ge (tgt := 20) hx hb dX4_put_10 (by decide) (fun c_10 => ?_) (fun c_10 => ?_)
    · have e9 : v_X4_put x1 x2 f len = f := by
        refine (if_neg c_1).trans ?_
        refine (if_pos c_10).trans ?_
        rfl
      rw [hQ]; exact retV f hx hb hr hlk e9 hP hS dX4_put_20
    · refine lv_aload_n hx hb dX4_put_13 rfl (lv_at hl 0 rfl) ?_
      refine va_get (D := D) (ci := 4) (v := .ref n) (C := RX4) (T := TX4) (N := 1) hx hb hts (fun _ h => List.mem_cons_of_mem _ (List.mem_append_right _ (h))) hown hK hP 0 rfl rfl 0 (by decide) (hts _ (List.mem_of_getElem? (i := 1) rfl)) (fun _ h9 => h9) rfl dX4_put_14 ?_
      refine lv_iload_n hx hb dX4_put_17 rfl (lv_at hl 1 rfl) ?_
      refine lv_iload_n hx hb dX4_put_18 rfl (lv_at hl 2 rfl) ?_
      refine va_iast hx hb hK hP (va_Dsame hD rfl) hS 1 0 rfl rfl (vpg hlen c_1 c_10) dX4_put_19 (fun H locs hP _ hS => ?_)
      have hP : va_P D vwCl [(a, .inr (4, [.ref n])), (n, .inl (cI, len, .inl (upd f x1.toNatClampNeg x2)))] H := hP
      have e9 : v_X4_put x1 x2 f len = (upd f x1.toNatClampNeg x2) := by
        refine (if_neg c_1).trans ?_
        refine (if_neg c_10).trans ?_
        rfl
      rw [hQ]; exact retV (upd f x1.toNatClampNeg x2) hx hb hr hlk e9 hP hS dX4_put_20
def v_X0_forgetFirst_L2 (i2 : Nat) (z2 : Nat → Int32) : Nat → Int32 :=
  bnd (v_X4_at (nI i2) z2 16) fun o_20 =>
  (bnd (v_X4_put (nI i2 - 1) o_20 z2 16) fun o_23 =>
  o_23)
def v_X0_forgetFirst (f_moments : Nat → Int32) : Int32 × (Nat → Int32) :=
  bnd (it (v_X0_forgetFirst_L2) (16 - 1) 1 f_moments) fun o_L2 =>
  (15, o_L2)
abbrev rm_X0_forgetFirst : Room := { frames := 1, cells := 0, slots := 0, locals := 22 }
set_option maxHeartbeats 4000000 in
set_option maxRecDepth 100000 in
theorem k_X0_forgetFirst (l : Launch) (D : va_G) (cI cZ : ClassId) (a a_moments n_moments : Nat) (i_size : Int32) (f_moments : Nat → Int32) : KV l D cI cZ yX0_forgetFirst wsX0_forgetFirst rm_X0_forgetFirst [.ref a] [(a, .inr (0, [.ref a_moments, .int i_size])), (a_moments, .inr (4, [.ref n_moments])), (n_moments, .inl (cI, 16, .inl f_moments))] (v_X0_forgetFirst f_moments) (fun o : Int32 × (Nat → Int32) => [(a, .inr (0, [.ref a_moments, .int o.1])), (a_moments, .inr (4, [.ref n_moments])), (n_moments, .inl (cI, 16, .inl o.2))]) := by
  refine KV.of cX0_forgetFirst 2 none (by decide) rfl (Nat.le_of_ble_eq_true rfl) ?_
  intro p e s m below meth c A ls ar Q hQ B
  obtain ⟨hx, hb, hr, hml, hts, hown, hlk, hK, hN, hP, hD, hA, hS, hl⟩ := B
  have hown : s.vm.findClass RX0 = some m.cls := hown
  have hF : CallFix p m c cX0_forgetFirst 2 s ar wsX0_forgetFirst RX0 := ⟨hx, hb, hml, hown, hts⟩
  have hl : lv_has ls 2 [(0, .ref a)] := hl
  refine lv_iconst (v := 1) hx hb dX0_forgetFirst_0 rfl ?_
  refine lv_istore_n (lv' := [(1, .int 1), (0, .ref a)]) hx hb dX0_forgetFirst_1 rfl hl (by decide) rfl (fun ls hl => ?_)
  obtain ⟨o_L2, ho_L2⟩ : ∃ z : Nat → Int32, z = it (v_X0_forgetFirst_L2) (16 - 1) 1 f_moments := ⟨_, rfl⟩
  have kE2 : ∀ (H : Heap) (locs : List Loc) (ls : Array Slot), va_P D vwCl [(a, .inr (0, [.ref a_moments, .int i_size])), (a_moments, .inr (4, [.ref n_moments])), (n_moments, .inl (cI, 16, .inl o_L2))] H → va_S A s.heap H locs → lv_has ls 2 [(0, .ref a)] → W p l e rm_X0_forgetFirst s m ar below meth c H locs 0 0 Q (F0 m 32 ls []) := by
    intro H locs ls hP hS hl
    refine lv_aload_n hx hb dX0_forgetFirst_32 rfl (lv_at hl 0 rfl) ?_
    refine lv_bipush (v := 15) hx hb dX0_forgetFirst_33 rfl ?_
    refine va_put (D := D) (ci := 0) (v := .int 15) (ty := .int) (C := RX0) (T := TX0) (N := 2) hx hb hts (fun _ h => List.mem_cons_of_mem _ (List.mem_append_left _ (List.mem_append_right _ (h)))) tyX0 tyX0_ok nmX0 hown hK hP (va_Dsame hD rfl) hS 0 rfl rfl 1 (by decide) (hts _ (List.mem_of_getElem? (i := 2) rfl)) (fun _ h9 => h9) rfl (tyX0_ok 1 (by decide)) rfl rfl (Nat.le_of_ble_eq_true rfl) dX0_forgetFirst_35 (fun H locs hP _ hS => ?_)
    have hP : va_P D vwCl [(a, .inr (0, [.ref a_moments, .int 15])), (a_moments, .inr (4, [.ref n_moments])), (n_moments, .inl (cI, 16, .inl o_L2))] H := hP
    have e9 : v_X0_forgetFirst f_moments = (15, o_L2) := by
      refine (bnd_eq ho_L2).trans ?_
      rfl
    rw [hQ]; exact retV (15, o_L2) hx hb hr hlk e9 hP hS dX0_forgetFirst_38
  have loop2 : ∀ (k i2 : Nat) (z2 : Nat → Int32), 1 ≤ i2 → i2 + k = 1 + (16 - 1) → it (v_X0_forgetFirst_L2) k i2 z2 = o_L2 → ∀ (H : Heap) (locs : List Loc) (ls : Array Slot), va_P D vwCl [(a, .inr (0, [.ref a_moments, .int i_size])), (a_moments, .inr (4, [.ref n_moments])), (n_moments, .inl (cI, 16, .inl z2))] H → va_S A s.heap H locs → lv_has ls 2 [(1, .int (nI i2)), (0, .ref a)] → W p l e rm_X0_forgetFirst s m ar below meth c H locs 0 0 Q (F0 m 2 ls []) := by
    intro k
    induction k with
    | zero =>
      intro i2 z2 hi0 hik hz H locs ls hP hS hl
      have hz : z2 = o_L2 := it_0 hz
      subst z2
      refine lv_iload_n hx hb dX0_forgetFirst_2 rfl (lv_at hl 0 rfl) ?_
      refine lv_bipush (v := 16) hx hb dX0_forgetFirst_3 rfl ?_
      refine lv_icmp_ge (tgt := 32) hx hb dX0_forgetFirst_5 (by decide) (fun _ => ?_) (fun c => absurd (nI_le (a := 16) (by omega) (by omega)) c)
      exact kE2 _ _ _ hP hS (lv_sub hl [1] rfl)
    | succ k ih =>
      intro i2 z2 hi0 hik hz H locs ls hP hS hl
      refine lv_iload_n hx hb dX0_forgetFirst_2 rfl (lv_at hl 0 rfl) ?_
      refine lv_bipush (v := 16) hx hb dX0_forgetFirst_3 rfl ?_
      refine lv_icmp_ge (tgt := 32) hx hb dX0_forgetFirst_5 (by decide) (fun c => absurd c (nI_ge (b := 16) (by omega) (by decide))) (fun _ => ?_)
      refine lv_aload_n hx hb dX0_forgetFirst_8 rfl (lv_at hl 1 rfl) ?_
      refine va_get (D := D) (ci := 0) (v := .ref a_moments) (C := RX0) (T := TX0) (N := 2) hx hb hts (fun _ h => List.mem_cons_of_mem _ (List.mem_append_left _ (List.mem_append_right _ (h)))) hown hK hP 0 rfl rfl 0 (by decide) (hts _ (List.mem_of_getElem? (i := 1) rfl)) (fun _ h9 => h9) rfl dX0_forgetFirst_9 ?_
      refine lv_iload_n hx hb dX0_forgetFirst_12 rfl (lv_at hl 0 rfl) ?_
      refine lv_iconst (v := 1) hx hb dX0_forgetFirst_13 rfl ?_
      refine lv_isub hx hb dX0_forgetFirst_14 ?_
      refine lv_aload_n hx hb dX0_forgetFirst_15 rfl (lv_at hl 1 rfl) ?_
      refine va_get (D := D) (ci := 0) (v := .ref a_moments) (C := RX0) (T := TX0) (N := 2) hx hb hts (fun _ h => List.mem_cons_of_mem _ (List.mem_append_left _ (List.mem_append_right _ (h)))) hown hK hP 0 rfl rfl 0 (by decide) (hts _ (List.mem_of_getElem? (i := 1) rfl)) (fun _ h9 => h9) rfl dX0_forgetFirst_16 ?_
      refine lv_iload_n hx hb dX0_forgetFirst_19 rfl (lv_at hl 0 rfl) ?_
      obtain ⟨o_20, ho_20⟩ : ∃ z : Int32, z = v_X4_at (nI i2) z2 16 := ⟨_, rfl⟩
      refine callVIs (As := [.int (nI i2)]) (rest := [.int (nI i2 - 1), .ref a_moments]) o_20 ho_20 hF (k_X4_at l D cI cZ a_moments n_moments (nI i2) z2 16 (by decide)) (cwV 1 hts gX0_forgetFirst_X4_at rfl rfl rfl (by decide +kernel) ⟨Nat.le_of_ble_eq_true rfl, Nat.le_of_ble_eq_true rfl⟩) hK hN hP (va_Dsame hD rfl) hS hA [1, 2] rfl rfl 1 4 (T := TX4) (N := 1) rfl rfl rfl hl.1 rfl (Nat.le_of_ble_eq_true rfl) dX0_forgetFirst_20 ⟨Nat.zero_le _, Nat.zero_le _⟩ o_20 rfl rfl (fun H locs hP hS => ?_)
      obtain ⟨o_23, ho_23⟩ : ∃ z : Nat → Int32, z = v_X4_put (nI i2 - 1) o_20 z2 16 := ⟨_, rfl⟩
      refine callVV (As := [.int (nI i2 - 1), .int o_20]) (rest := []) o_23 ho_23 hF (k_X4_put l D cI cZ a_moments n_moments (nI i2 - 1) o_20 z2 16 (by decide)) (cwV 2 hts gX0_forgetFirst_X4_put rfl rfl rfl (by decide +kernel) ⟨Nat.le_of_ble_eq_true rfl, Nat.le_of_ble_eq_true rfl⟩) hK hN hP (va_Dsame hD rfl) hS hA [1, 2] rfl rfl 1 4 (T := TX4) (N := 1) rfl rfl rfl hl.1 rfl (Nat.le_of_ble_eq_true rfl) dX0_forgetFirst_23 ⟨Nat.zero_le _, Nat.zero_le _⟩ [none, some 0, some 1] 2 [(a, .inr (0, [.ref a_moments, .int i_size])), (a_moments, .inr (4, [.ref n_moments])), (n_moments, .inl (cI, 16, .inl o_23))] rfl rfl (by decide) (fun H locs hP hS => ?_)
      refine lv_iinc (v := (nI (i2 + 1))) (lv' := [(1, .int (nI (i2 + 1))), (0, .ref a)]) hx hb dX0_forgetFirst_26 hl (k := 0) rfl (nI_1 _) (by decide) rfl (fun ls hl => ?_)
      refine lv_goto (tgt := 2) hx hb dX0_forgetFirst_29 (by decide) ?_
      have e8 : v_X0_forgetFirst_L2 i2 z2 = o_23 := by
        refine (bnd_eq ho_20).trans ?_
        refine (bnd_eq ho_23).trans ?_
        rfl
      exact ih (i2 + 1) o_23 (by omega) (by omega) (it_go e8 hz) _ _ _ hP hS (lv_sub hl [0, 1] rfl)
  exact loop2 (16 - 1) 1 f_moments (Nat.le_refl _) rfl ho_L2.symm _ _ _ hP hS (lv_sub hl [0, 1] rfl)
def v_X0_add (x1 : Int32) (i_size : Int32) (f_moments : Nat → Int32) : Int32 × (Nat → Int32) :=
  if i_size < 16 then (bnd (v_X4_put i_size x1 f_moments 16) fun o_22 =>
    ((i_size + 1), o_22))
  else (bnd2 (v_X0_forgetFirst f_moments) fun o_10_1 o_10_2 =>
  (bnd (v_X4_put o_10_1 x1 o_10_2 16) fun o_22 =>
  ((o_10_1 + 1), o_22)))
abbrev rm_X0_add : Room := { frames := 2, cells := 0, slots := 0, locals := 43 }
set_option maxHeartbeats 4000000 in
set_option maxRecDepth 100000 in
theorem k_X0_add (l : Launch) (D : va_G) (cI cZ : ClassId) (a a_moments n_moments : Nat) (x1 : Int32) (i_size : Int32) (f_moments : Nat → Int32) : KV l D cI cZ yX0_add wsX0_add rm_X0_add [.ref a, .int x1] [(a, .inr (0, [.ref a_moments, .int i_size])), (a_moments, .inr (4, [.ref n_moments])), (n_moments, .inl (cI, 16, .inl f_moments))] (v_X0_add x1 i_size f_moments) (fun o : Int32 × (Nat → Int32) => [(a, .inr (0, [.ref a_moments, .int o.1])), (a_moments, .inr (4, [.ref n_moments])), (n_moments, .inl (cI, 16, .inl o.2))]) := by
  refine KV.of cX0_add 2 none (by decide) rfl (Nat.le_of_ble_eq_true rfl) ?_
  intro p e s m below meth c A ls ar Q hQ B
  obtain ⟨hx, hb, hr, hml, hts, hown, hlk, hK, hN, hP, hD, hA, hS, hl⟩ := B
  have hown : s.vm.findClass RX0 = some m.cls := hown
  have hF : CallFix p m c cX0_add 2 s ar wsX0_add RX0 := ⟨hx, hb, hml, hown, hts⟩
  have hl : lv_has ls 2 [(0, .ref a), (1, .int x1)] := hl
  refine lv_aload_n hx hb dX0_add_0 rfl (lv_at hl 0 rfl) ?_
  refine va_get (D := D) (ci := 0) (v := .int i_size) (C := RX0) (T := TX0) (N := 2) hx hb hts (fun _ h => List.mem_cons_of_mem _ (List.mem_append_left _ (List.mem_append_right _ (h)))) hown hK hP 0 rfl rfl 1 (by decide) (hts _ (List.mem_of_getElem? (i := 1) rfl)) (fun _ h9 => h9) rfl dX0_add_1 ?_
  refine lv_bipush (v := 16) hx hb dX0_add_4 rfl ?_
  refine lv_icmp_lt (tgt := 13) hx hb dX0_add_6 (by decide) (fun c_6 => ?_) (fun c_6 => ?_)
  · refine lv_aload_n hx hb dX0_add_13 rfl (lv_at hl 0 rfl) ?_
    refine va_get (D := D) (ci := 0) (v := .ref a_moments) (C := RX0) (T := TX0) (N := 2) hx hb hts (fun _ h => List.mem_cons_of_mem _ (List.mem_append_left _ (List.mem_append_right _ (h)))) hown hK hP 0 rfl rfl 0 (by decide) (hts _ (List.mem_of_getElem? (i := 2) rfl)) (fun _ h9 => h9) rfl dX0_add_14 ?_
    refine lv_aload_n hx hb dX0_add_17 rfl (lv_at hl 0 rfl) ?_
    refine va_get (D := D) (ci := 0) (v := .int i_size) (C := RX0) (T := TX0) (N := 2) hx hb hts (fun _ h => List.mem_cons_of_mem _ (List.mem_append_left _ (List.mem_append_right _ (h)))) hown hK hP 0 rfl rfl 1 (by decide) (hts _ (List.mem_of_getElem? (i := 1) rfl)) (fun _ h9 => h9) rfl dX0_add_18 ?_
    refine lv_iload_n hx hb dX0_add_21 rfl (lv_at hl 1 rfl) ?_
    obtain ⟨o_22, ho_22⟩ : ∃ z : Nat → Int32, z = v_X4_put i_size x1 f_moments 16 := ⟨_, rfl⟩
    refine callVV (As := [.int i_size, .int x1]) (rest := []) o_22 ho_22 hF (k_X4_put l D cI cZ a_moments n_moments i_size x1 f_moments 16 (by decide)) (cwV 2 hts gX0_add_X4_put rfl rfl rfl (by decide +kernel) ⟨Nat.le_of_ble_eq_true rfl, Nat.le_of_ble_eq_true rfl⟩) hK hN hP (va_Dsame hD rfl) hS hA [1, 2] rfl rfl 1 4 (T := TX4) (N := 1) rfl rfl rfl hl.1 rfl (Nat.le_of_ble_eq_true rfl) dX0_add_22 ⟨Nat.zero_le _, Nat.zero_le _⟩ [none, some 0, some 1] 2 [(a, .inr (0, [.ref a_moments, .int i_size])), (a_moments, .inr (4, [.ref n_moments])), (n_moments, .inl (cI, 16, .inl o_22))] rfl rfl (by decide) (fun H locs hP hS => ?_)
    refine lv_aload_n hx hb dX0_add_25 rfl (lv_at hl 0 rfl) ?_
    refine lv_dup hx hb dX0_add_26 rfl ?_
    refine va_get (D := D) (ci := 0) (v := .int i_size) (C := RX0) (T := TX0) (N := 2) hx hb hts (fun _ h => List.mem_cons_of_mem _ (List.mem_append_left _ (List.mem_append_right _ (h)))) hown hK hP 0 rfl rfl 1 (by decide) (hts _ (List.mem_of_getElem? (i := 1) rfl)) (fun _ h9 => h9) rfl dX0_add_27 ?_
    refine lv_iconst (v := 1) hx hb dX0_add_30 rfl ?_
    refine lv_iadd hx hb dX0_add_31 ?_
    refine va_put (D := D) (ci := 0) (v := .int (i_size + 1)) (ty := .int) (C := RX0) (T := TX0) (N := 2) hx hb hts (fun _ h => List.mem_cons_of_mem _ (List.mem_append_left _ (List.mem_append_right _ (h)))) tyX0 tyX0_ok nmX0 hown hK hP (va_Dsame hD rfl) hS 0 rfl rfl 1 (by decide) (hts _ (List.mem_of_getElem? (i := 1) rfl)) (fun _ h9 => h9) rfl (tyX0_ok 1 (by decide)) rfl rfl (Nat.le_of_ble_eq_true rfl) dX0_add_32 (fun H locs hP _ hS => ?_)
    have hP : va_P D vwCl [(a, .inr (0, [.ref a_moments, .int (i_size + 1)])), (a_moments, .inr (4, [.ref n_moments])), (n_moments, .inl (cI, 16, .inl o_22))] H := hP
    have e9 : v_X0_add x1 i_size f_moments = ((i_size + 1), o_22) := by
      refine (if_pos c_6).trans ?_
      refine (bnd_eq ho_22).trans ?_
      rfl
    rw [hQ]; exact retV ((i_size + 1), o_22) hx hb hr hlk e9 hP hS dX0_add_35
  · refine lv_aload_n hx hb dX0_add_9 rfl (lv_at hl 0 rfl) ?_
    obtain ⟨o_10_1, o_10_2, ho_10⟩ := ex2 (v_X0_forgetFirst f_moments)
    refine callVV (As := []) (rest := []) (o_10_1, o_10_2) ho_10 hF (k_X0_forgetFirst l D cI cZ a a_moments n_moments i_size f_moments) (cwV 0 hts gX0_add_X0_forgetFirst rfl rfl rfl (by decide +kernel) ⟨Nat.le_of_ble_eq_true rfl, Nat.le_of_ble_eq_true rfl⟩) hK hN hP (va_Dsame hD rfl) hS hA [0, 1, 2] rfl rfl 0 0 (T := TX0) (N := 2) rfl rfl rfl hl.1 rfl (Nat.le_of_ble_eq_true rfl) dX0_add_10 ⟨Nat.zero_le _, Nat.zero_le _⟩ [some 0, some 1, some 2] 3 [(a, .inr (0, [.ref a_moments, .int o_10_1])), (a_moments, .inr (4, [.ref n_moments])), (n_moments, .inl (cI, 16, .inl o_10_2))] rfl rfl (by decide) (fun H locs hP hS => ?_)
    refine lv_aload_n hx hb dX0_add_13 rfl (lv_at hl 0 rfl) ?_
    refine va_get (D := D) (ci := 0) (v := .ref a_moments) (C := RX0) (T := TX0) (N := 2) hx hb hts (fun _ h => List.mem_cons_of_mem _ (List.mem_append_left _ (List.mem_append_right _ (h)))) hown hK hP 0 rfl rfl 0 (by decide) (hts _ (List.mem_of_getElem? (i := 2) rfl)) (fun _ h9 => h9) rfl dX0_add_14 ?_
    refine lv_aload_n hx hb dX0_add_17 rfl (lv_at hl 0 rfl) ?_
    refine va_get (D := D) (ci := 0) (v := .int o_10_1) (C := RX0) (T := TX0) (N := 2) hx hb hts (fun _ h => List.mem_cons_of_mem _ (List.mem_append_left _ (List.mem_append_right _ (h)))) hown hK hP 0 rfl rfl 1 (by decide) (hts _ (List.mem_of_getElem? (i := 1) rfl)) (fun _ h9 => h9) rfl dX0_add_18 ?_
    refine lv_iload_n hx hb dX0_add_21 rfl (lv_at hl 1 rfl) ?_
    obtain ⟨o_22, ho_22⟩ : ∃ z : Nat → Int32, z = v_X4_put o_10_1 x1 o_10_2 16 := ⟨_, rfl⟩
    refine callVV (As := [.int o_10_1, .int x1]) (rest := []) o_22 ho_22 hF (k_X4_put l D cI cZ a_moments n_moments o_10_1 x1 o_10_2 16 (by decide)) (cwV 2 hts gX0_add_X4_put rfl rfl rfl (by decide +kernel) ⟨Nat.le_of_ble_eq_true rfl, Nat.le_of_ble_eq_true rfl⟩) hK hN hP (va_Dsame hD rfl) hS hA [1, 2] rfl rfl 1 4 (T := TX4) (N := 1) rfl rfl rfl hl.1 rfl (Nat.le_of_ble_eq_true rfl) dX0_add_22 ⟨Nat.zero_le _, Nat.zero_le _⟩ [none, some 0, some 1] 2 [(a, .inr (0, [.ref a_moments, .int o_10_1])), (a_moments, .inr (4, [.ref n_moments])), (n_moments, .inl (cI, 16, .inl o_22))] rfl rfl (by decide) (fun H locs hP hS => ?_)
    refine lv_aload_n hx hb dX0_add_25 rfl (lv_at hl 0 rfl) ?_
    refine lv_dup hx hb dX0_add_26 rfl ?_
    refine va_get (D := D) (ci := 0) (v := .int o_10_1) (C := RX0) (T := TX0) (N := 2) hx hb hts (fun _ h => List.mem_cons_of_mem _ (List.mem_append_left _ (List.mem_append_right _ (h)))) hown hK hP 0 rfl rfl 1 (by decide) (hts _ (List.mem_of_getElem? (i := 1) rfl)) (fun _ h9 => h9) rfl dX0_add_27 ?_
    refine lv_iconst (v := 1) hx hb dX0_add_30 rfl ?_
    refine lv_iadd hx hb dX0_add_31 ?_
    refine va_put (D := D) (ci := 0) (v := .int (o_10_1 + 1)) (ty := .int) (C := RX0) (T := TX0) (N := 2) hx hb hts (fun _ h => List.mem_cons_of_mem _ (List.mem_append_left _ (List.mem_append_right _ (h)))) tyX0 tyX0_ok nmX0 hown hK hP (va_Dsame hD rfl) hS 0 rfl rfl 1 (by decide) (hts _ (List.mem_of_getElem? (i := 1) rfl)) (fun _ h9 => h9) rfl (tyX0_ok 1 (by decide)) rfl rfl (Nat.le_of_ble_eq_true rfl) dX0_add_32 (fun H locs hP _ hS => ?_)
    have hP : va_P D vwCl [(a, .inr (0, [.ref a_moments, .int (o_10_1 + 1)])), (a_moments, .inr (4, [.ref n_moments])), (n_moments, .inl (cI, 16, .inl o_22))] H := hP
    have e9 : v_X0_add x1 i_size f_moments = ((o_10_1 + 1), o_22) := by
      refine (if_neg c_6).trans ?_
      refine (bnd2_eq ho_10).trans ?_
      refine (bnd_eq ho_22).trans ?_
      rfl
    rw [hQ]; exact retV ((o_10_1 + 1), o_22) hx hb hr hlk e9 hP hS dX0_add_35
def v_X0_removeLast (i_size : Int32) (f_moments : Nat → Int32) : Int32 × Int32 :=
  if i_size = 0 then ((-9), i_size)
  else (bnd (v_X4_at (i_size - 1) f_moments 16) fun o_28 =>
  (o_28, (i_size - 1)))
abbrev rm_X0_removeLast : Room := { frames := 1, cells := 0, slots := 0, locals := 21 }
set_option maxHeartbeats 4000000 in
set_option maxRecDepth 100000 in
theorem k_X0_removeLast (l : Launch) (D : va_G) (cI cZ : ClassId) (a a_moments n_moments : Nat) (i_size : Int32) (f_moments : Nat → Int32) : KI l D cI cZ yX0_removeLast wsX0_removeLast rm_X0_removeLast [.ref a] [(a, .inr (0, [.ref a_moments, .int i_size])), (a_moments, .inr (4, [.ref n_moments])), (n_moments, .inl (cI, 16, .inl f_moments))] (v_X0_removeLast i_size f_moments) (fun o : Int32 × Int32 => o.1) (fun o : Int32 × Int32 => [(a, .inr (0, [.ref a_moments, .int o.2])), (a_moments, .inr (4, [.ref n_moments])), (n_moments, .inl (cI, 16, .inl f_moments))]) := by
  refine KI.of cX0_removeLast 1 (some .int) (by decide) rfl (Nat.le_of_ble_eq_true rfl) ?_
  intro p e s m below meth c A ls ar Q hQ B
  obtain ⟨hx, hb, hr, hml, hts, hown, hlk, hK, hN, hP, hD, hA, hS, hl⟩ := B
  have hown : s.vm.findClass RX0 = some m.cls := hown
  have hF : CallFix p m c cX0_removeLast 1 s ar wsX0_removeLast RX0 := ⟨hx, hb, hml, hown, hts⟩
  have hl : lv_has ls 1 [(0, .ref a)] := hl
  refine lv_aload_n hx hb dX0_removeLast_0 rfl (lv_at hl 0 rfl) ?_
  refine va_get (D := D) (ci := 0) (v := .int i_size) (C := RX0) (T := TX0) (N := 2) hx hb hts (fun _ h => List.mem_cons_of_mem _ (List.mem_append_left _ (List.mem_append_right _ (h)))) hown hK hP 0 rfl rfl 1 (by decide) (hts _ (List.mem_of_getElem? (i := 1) rfl)) (fun _ h9 => h9) rfl dX0_removeLast_1 ?_
  refine lv_if_ne (tgt := 10) hx hb dX0_removeLast_4 (by decide) (fun c_4 => ?_) (fun c_4 => ?_)
  · refine lv_aload_n hx hb dX0_removeLast_10 rfl (lv_at hl 0 rfl) ?_
    refine lv_dup hx hb dX0_removeLast_11 rfl ?_
    refine va_get (D := D) (ci := 0) (v := .int i_size) (C := RX0) (T := TX0) (N := 2) hx hb hts (fun _ h => List.mem_cons_of_mem _ (List.mem_append_left _ (List.mem_append_right _ (h)))) hown hK hP 0 rfl rfl 1 (by decide) (hts _ (List.mem_of_getElem? (i := 1) rfl)) (fun _ h9 => h9) rfl dX0_removeLast_12 ?_
    refine lv_iconst (v := 1) hx hb dX0_removeLast_15 rfl ?_
    refine lv_isub hx hb dX0_removeLast_16 ?_
    refine va_put (D := D) (ci := 0) (v := .int (i_size - 1)) (ty := .int) (C := RX0) (T := TX0) (N := 2) hx hb hts (fun _ h => List.mem_cons_of_mem _ (List.mem_append_left _ (List.mem_append_right _ (h)))) tyX0 tyX0_ok nmX0 hown hK hP (va_Dsame hD rfl) hS 0 rfl rfl 1 (by decide) (hts _ (List.mem_of_getElem? (i := 1) rfl)) (fun _ h9 => h9) rfl (tyX0_ok 1 (by decide)) rfl rfl (Nat.le_of_ble_eq_true rfl) dX0_removeLast_17 (fun H locs hP _ hS => ?_)
    have hP : va_P D vwCl [(a, .inr (0, [.ref a_moments, .int (i_size - 1)])), (a_moments, .inr (4, [.ref n_moments])), (n_moments, .inl (cI, 16, .inl f_moments))] H := hP
    refine lv_aload_n hx hb dX0_removeLast_20 rfl (lv_at hl 0 rfl) ?_
    refine va_get (D := D) (ci := 0) (v := .ref a_moments) (C := RX0) (T := TX0) (N := 2) hx hb hts (fun _ h => List.mem_cons_of_mem _ (List.mem_append_left _ (List.mem_append_right _ (h)))) hown hK hP 0 rfl rfl 0 (by decide) (hts _ (List.mem_of_getElem? (i := 2) rfl)) (fun _ h9 => h9) rfl dX0_removeLast_21 ?_
    refine lv_aload_n hx hb dX0_removeLast_24 rfl (lv_at hl 0 rfl) ?_
    refine va_get (D := D) (ci := 0) (v := .int (i_size - 1)) (C := RX0) (T := TX0) (N := 2) hx hb hts (fun _ h => List.mem_cons_of_mem _ (List.mem_append_left _ (List.mem_append_right _ (h)))) hown hK hP 0 rfl rfl 1 (by decide) (hts _ (List.mem_of_getElem? (i := 1) rfl)) (fun _ h9 => h9) rfl dX0_removeLast_25 ?_
    obtain ⟨o_28, ho_28⟩ : ∃ z : Int32, z = v_X4_at (i_size - 1) f_moments 16 := ⟨_, rfl⟩
    refine callVIs (As := [.int (i_size - 1)]) (rest := []) o_28 ho_28 hF (k_X4_at l D cI cZ a_moments n_moments (i_size - 1) f_moments 16 (by decide)) (cwV 1 hts gX0_removeLast_X4_at rfl rfl rfl (by decide +kernel) ⟨Nat.le_of_ble_eq_true rfl, Nat.le_of_ble_eq_true rfl⟩) hK hN hP (va_Dsame hD rfl) hS hA [1, 2] rfl rfl 1 4 (T := TX4) (N := 1) rfl rfl rfl hl.1 rfl (Nat.le_of_ble_eq_true rfl) dX0_removeLast_28 ⟨Nat.zero_le _, Nat.zero_le _⟩ o_28 rfl rfl (fun H locs hP hS => ?_)
    have e9 : v_X0_removeLast i_size f_moments = (o_28, (i_size - 1)) := by
      refine (if_neg c_4).trans ?_
      refine (bnd_eq ho_28).trans ?_
      rfl
    rw [hQ]; exact retI (o_28, (i_size - 1)) hx hb hr hlk e9 hP rfl hS dX0_removeLast_31
  · refine lv_bipush (v := (-9)) hx hb dX0_removeLast_7 rfl ?_
    have e9 : v_X0_removeLast i_size f_moments = ((-9), i_size) := by
      refine (if_pos c_4).trans ?_
      rfl
    rw [hQ]; exact retI ((-9), i_size) hx hb hr hlk e9 hP rfl hS dX0_removeLast_9
def v_X4_fill_L2 (x1 : Int32) (i2 : Nat) (z2 : Nat → Int32) : Nat → Int32 :=
  (upd z2 (nI i2).toNatClampNeg x1)
def v_X4_fill (x1 : Int32) (f : Nat → Int32) (len : Nat) : Nat → Int32 :=
  bnd (it (v_X4_fill_L2 x1) len 0 f) fun o_L2 =>
  o_L2
abbrev rm_X4_fill : Room := { frames := 0, cells := 0, slots := 0, locals := 0 }
set_option maxHeartbeats 4000000 in
set_option maxRecDepth 100000 in
theorem k_X4_fill (l : Launch) (D : va_G) (cI cZ : ClassId) (a n : Nat) (x1 : Int32) (f : Nat → Int32) (len : Nat) (hlen : len < 2 ^ 31) : KV l D cI cZ yX4_fill wsX4_fill rm_X4_fill [.ref a, .int x1] [(a, .inr (4, [.ref n])), (n, .inl (cI, len, .inl f))] (v_X4_fill x1 f len) (fun o : Nat → Int32 => [(a, .inr (4, [.ref n])), (n, .inl (cI, len, .inl o))]) := by
  refine KV.of cX4_fill 3 none (by decide) rfl (Nat.le_of_ble_eq_true rfl) ?_
  intro p e s m below meth c A ls ar Q hQ B
  obtain ⟨hx, hb, hr, hml, hts, hown, hlk, hK, hN, hP, hD, hA, hS, hl⟩ := B
  have hown : s.vm.findClass RX4 = some m.cls := hown
  have hF : CallFix p m c cX4_fill 3 s ar wsX4_fill RX4 := ⟨hx, hb, hml, hown, hts⟩
  have hl : lv_has ls 3 [(0, .ref a), (1, .int x1)] := hl
  refine lv_iconst (v := 0) hx hb dX4_fill_0 rfl ?_
  refine lv_istore_n (lv' := [(2, .int 0), (0, .ref a), (1, .int x1)]) hx hb dX4_fill_1 rfl hl (by decide) rfl (fun ls hl => ?_)
  obtain ⟨o_L2, ho_L2⟩ : ∃ z : Nat → Int32, z = it (v_X4_fill_L2 x1) len 0 f := ⟨_, rfl⟩
  have kE2 : ∀ (H : Heap) (locs : List Loc) (ls : Array Slot), va_P D vwCl [(a, .inr (4, [.ref n])), (n, .inl (cI, len, .inl o_L2))] H → va_S A s.heap H locs → lv_has ls 3 [] → W p l e rm_X4_fill s m ar below meth c H locs 0 0 Q (F0 m 24 ls []) := by
    intro H locs ls hP hS hl
    have e9 : v_X4_fill x1 f len = o_L2 := by
      refine (bnd_eq ho_L2).trans ?_
      rfl
    rw [hQ]; exact retV o_L2 hx hb hr hlk e9 hP hS dX4_fill_24
  have loop2 : ∀ (k i2 : Nat) (z2 : Nat → Int32), 0 ≤ i2 → i2 + k = 0 + len → it (v_X4_fill_L2 x1) k i2 z2 = o_L2 → ∀ (H : Heap) (locs : List Loc) (ls : Array Slot), va_P D vwCl [(a, .inr (4, [.ref n])), (n, .inl (cI, len, .inl z2))] H → va_S A s.heap H locs → lv_has ls 3 [(2, .int (nI i2)), (0, .ref a), (1, .int x1)] → W p l e rm_X4_fill s m ar below meth c H locs 0 0 Q (F0 m 2 ls []) := by
    intro k
    induction k with
    | zero =>
      intro i2 z2 hi0 hik hz H locs ls hP hS hl
      have hz : z2 = o_L2 := it_0 hz
      subst z2
      refine lv_iload_n hx hb dX4_fill_2 rfl (lv_at hl 0 rfl) ?_
      refine lv_aload_n hx hb dX4_fill_3 rfl (lv_at hl 1 rfl) ?_
      refine va_get (D := D) (ci := 4) (v := .ref n) (C := RX4) (T := TX4) (N := 1) hx hb hts (fun _ h => List.mem_cons_of_mem _ (List.mem_append_right _ (h))) hown hK hP 0 rfl rfl 0 (by decide) (hts _ (List.mem_of_getElem? (i := 1) rfl)) (fun _ h9 => h9) rfl dX4_fill_4 ?_
      refine va_alen (v := nI len) hx hb hK hP 1 0 rfl rfl rfl dX4_fill_7 ?_
      refine lv_icmp_ge (tgt := 24) hx hb dX4_fill_8 (by decide) (fun _ => ?_) (fun c => absurd (nI_le (a := len) (by omega) (by omega)) c)
      exact kE2 _ _ _ hP hS (lv_sub hl [] rfl)
    | succ k ih =>
      intro i2 z2 hi0 hik hz H locs ls hP hS hl
      refine lv_iload_n hx hb dX4_fill_2 rfl (lv_at hl 0 rfl) ?_
      refine lv_aload_n hx hb dX4_fill_3 rfl (lv_at hl 1 rfl) ?_
      refine va_get (D := D) (ci := 4) (v := .ref n) (C := RX4) (T := TX4) (N := 1) hx hb hts (fun _ h => List.mem_cons_of_mem _ (List.mem_append_right _ (h))) hown hK hP 0 rfl rfl 0 (by decide) (hts _ (List.mem_of_getElem? (i := 1) rfl)) (fun _ h9 => h9) rfl dX4_fill_4 ?_
      refine va_alen (v := nI len) hx hb hK hP 1 0 rfl rfl rfl dX4_fill_7 ?_
      refine lv_icmp_ge (tgt := 24) hx hb dX4_fill_8 (by decide) (fun c => absurd c (nI_ge (by omega) hlen)) (fun _ => ?_)
      refine lv_aload_n hx hb dX4_fill_11 rfl (lv_at hl 1 rfl) ?_
      refine va_get (D := D) (ci := 4) (v := .ref n) (C := RX4) (T := TX4) (N := 1) hx hb hts (fun _ h => List.mem_cons_of_mem _ (List.mem_append_right _ (h))) hown hK hP 0 rfl rfl 0 (by decide) (hts _ (List.mem_of_getElem? (i := 1) rfl)) (fun _ h9 => h9) rfl dX4_fill_12 ?_
      refine lv_iload_n hx hb dX4_fill_15 rfl (lv_at hl 0 rfl) ?_
      refine lv_iload_n hx hb dX4_fill_16 rfl (lv_at hl 2 rfl) ?_
      refine va_iast hx hb hK hP (va_Dsame hD rfl) hS 1 0 rfl rfl (vp_in_nI (by omega) hlen) dX4_fill_17 (fun H locs hP _ hS => ?_)
      have hP : va_P D vwCl [(a, .inr (4, [.ref n])), (n, .inl (cI, len, .inl (upd z2 (nI i2).toNatClampNeg x1)))] H := hP
      refine lv_iinc (v := (nI (i2 + 1))) (lv' := [(2, .int (nI (i2 + 1))), (0, .ref a), (1, .int x1)]) hx hb dX4_fill_18 hl (k := 0) rfl (nI_1 _) (by decide) rfl (fun ls hl => ?_)
      refine lv_goto (tgt := 2) hx hb dX4_fill_21 (by decide) ?_
      have e8 : v_X4_fill_L2 x1 i2 z2 = (upd z2 (nI i2).toNatClampNeg x1) := by
        rfl
      exact ih (i2 + 1) (upd z2 (nI i2).toNatClampNeg x1) (by omega) (by omega) (it_go e8 hz) _ _ _ hP hS (lv_sub hl [0, 1, 2] rfl)
  exact loop2 len 0 f (Nat.le_refl _) rfl ho_L2.symm _ _ _ hP hS (lv_sub hl [0, 1, 2] rfl)
def v_X1_clear (f_owed : Nat → Int32) (f_room : Nat → Int32) : Int32 × Int32 × Int32 × (Nat → Int32) × (Nat → Int32) :=
  bnd (v_X4_fill 0 f_owed 12) fun o_20 =>
  (bnd (v_X4_fill 6 f_room 2) fun o_29 =>
  (0, 0, 0, o_20, o_29))
abbrev rm_X1_clear : Room := { frames := 1, cells := 0, slots := 0, locals := 22 }
set_option maxHeartbeats 4000000 in
set_option maxRecDepth 100000 in
theorem k_X1_clear (l : Launch) (D : va_G) (cI cZ : ClassId) (a a_places a_firstHours a_spans a_values a_cells a_needs a_owed a_room n_owed n_room : Nat) (i_squares : Int32) (i_wishCount : Int32) (i_owedPlaces : Int32) (f_owed : Nat → Int32) (f_room : Nat → Int32) : KV l D cI cZ yX1_clear wsX1_clear rm_X1_clear [.ref a] [(a, .inr (1, [.ref a_places, .ref a_firstHours, .ref a_spans, .ref a_values, .ref a_cells, .ref a_needs, .ref a_owed, .ref a_room, .int i_squares, .int i_wishCount, .int i_owedPlaces])), (a_owed, .inr (4, [.ref n_owed])), (n_owed, .inl (cI, 12, .inl f_owed)), (a_room, .inr (4, [.ref n_room])), (n_room, .inl (cI, 2, .inl f_room))] (v_X1_clear f_owed f_room) (fun o : Int32 × Int32 × Int32 × (Nat → Int32) × (Nat → Int32) => [(a, .inr (1, [.ref a_places, .ref a_firstHours, .ref a_spans, .ref a_values, .ref a_cells, .ref a_needs, .ref a_owed, .ref a_room, .int o.2.1, .int o.2.2.1, .int o.1])), (a_owed, .inr (4, [.ref n_owed])), (n_owed, .inl (cI, 12, .inl o.2.2.2.1)), (a_room, .inr (4, [.ref n_room])), (n_room, .inl (cI, 2, .inl o.2.2.2.2))]) := by
  refine KV.of cX1_clear 1 none (by decide) rfl (Nat.le_of_ble_eq_true rfl) ?_
  intro p e s m below meth c A ls ar Q hQ B
  obtain ⟨hx, hb, hr, hml, hts, hown, hlk, hK, hN, hP, hD, hA, hS, hl⟩ := B
  have hown : s.vm.findClass RX1 = some m.cls := hown
  have hF : CallFix p m c cX1_clear 1 s ar wsX1_clear RX1 := ⟨hx, hb, hml, hown, hts⟩
  have hl : lv_has ls 1 [(0, .ref a)] := hl
  refine lv_aload_n hx hb dX1_clear_0 rfl (lv_at hl 0 rfl) ?_
  refine lv_iconst (v := 0) hx hb dX1_clear_1 rfl ?_
  refine va_put (D := D) (ci := 1) (v := .int 0) (ty := .int) (C := RX1) (T := TX1) (N := 11) hx hb hts (fun _ h => List.mem_cons_of_mem _ (List.mem_append_left _ (List.mem_append_right _ (h)))) tyX1 tyX1_ok nmX1 hown hK hP (va_Dsame hD rfl) hS 0 rfl rfl 8 (by decide) (hts _ (List.mem_of_getElem? (i := 1) rfl)) (fun _ h9 => h9) rfl (tyX1_ok 8 (by decide)) rfl rfl (Nat.le_of_ble_eq_true rfl) dX1_clear_2 (fun H locs hP _ hS => ?_)
  have hP : va_P D vwCl [(a, .inr (1, [.ref a_places, .ref a_firstHours, .ref a_spans, .ref a_values, .ref a_cells, .ref a_needs, .ref a_owed, .ref a_room, .int 0, .int i_wishCount, .int i_owedPlaces])), (a_owed, .inr (4, [.ref n_owed])), (n_owed, .inl (cI, 12, .inl f_owed)), (a_room, .inr (4, [.ref n_room])), (n_room, .inl (cI, 2, .inl f_room))] H := hP
  refine lv_aload_n hx hb dX1_clear_5 rfl (lv_at hl 0 rfl) ?_
  refine lv_iconst (v := 0) hx hb dX1_clear_6 rfl ?_
  refine va_put (D := D) (ci := 1) (v := .int 0) (ty := .int) (C := RX1) (T := TX1) (N := 11) hx hb hts (fun _ h => List.mem_cons_of_mem _ (List.mem_append_left _ (List.mem_append_right _ (h)))) tyX1 tyX1_ok nmX1 hown hK hP (va_Dsame hD rfl) hS 0 rfl rfl 9 (by decide) (hts _ (List.mem_of_getElem? (i := 2) rfl)) (fun _ h9 => h9) rfl (tyX1_ok 9 (by decide)) rfl rfl (Nat.le_of_ble_eq_true rfl) dX1_clear_7 (fun H locs hP _ hS => ?_)
  have hP : va_P D vwCl [(a, .inr (1, [.ref a_places, .ref a_firstHours, .ref a_spans, .ref a_values, .ref a_cells, .ref a_needs, .ref a_owed, .ref a_room, .int 0, .int 0, .int i_owedPlaces])), (a_owed, .inr (4, [.ref n_owed])), (n_owed, .inl (cI, 12, .inl f_owed)), (a_room, .inr (4, [.ref n_room])), (n_room, .inl (cI, 2, .inl f_room))] H := hP
  refine lv_aload_n hx hb dX1_clear_10 rfl (lv_at hl 0 rfl) ?_
  refine lv_iconst (v := 0) hx hb dX1_clear_11 rfl ?_
  refine va_put (D := D) (ci := 1) (v := .int 0) (ty := .int) (C := RX1) (T := TX1) (N := 11) hx hb hts (fun _ h => List.mem_cons_of_mem _ (List.mem_append_left _ (List.mem_append_right _ (h)))) tyX1 tyX1_ok nmX1 hown hK hP (va_Dsame hD rfl) hS 0 rfl rfl 10 (by decide) (hts _ (List.mem_of_getElem? (i := 3) rfl)) (fun _ h9 => h9) rfl (tyX1_ok 10 (by decide)) rfl rfl (Nat.le_of_ble_eq_true rfl) dX1_clear_12 (fun H locs hP _ hS => ?_)
  have hP : va_P D vwCl [(a, .inr (1, [.ref a_places, .ref a_firstHours, .ref a_spans, .ref a_values, .ref a_cells, .ref a_needs, .ref a_owed, .ref a_room, .int 0, .int 0, .int 0])), (a_owed, .inr (4, [.ref n_owed])), (n_owed, .inl (cI, 12, .inl f_owed)), (a_room, .inr (4, [.ref n_room])), (n_room, .inl (cI, 2, .inl f_room))] H := hP
  refine lv_aload_n hx hb dX1_clear_15 rfl (lv_at hl 0 rfl) ?_
  refine va_get (D := D) (ci := 1) (v := .ref a_owed) (C := RX1) (T := TX1) (N := 11) hx hb hts (fun _ h => List.mem_cons_of_mem _ (List.mem_append_left _ (List.mem_append_right _ (h)))) hown hK hP 0 rfl rfl 6 (by decide) (hts _ (List.mem_of_getElem? (i := 4) rfl)) (fun _ h9 => h9) rfl dX1_clear_16 ?_
  refine lv_iconst (v := 0) hx hb dX1_clear_19 rfl ?_
  obtain ⟨o_20, ho_20⟩ : ∃ z : Nat → Int32, z = v_X4_fill 0 f_owed 12 := ⟨_, rfl⟩
  refine callVV (As := [.int 0]) (rest := []) o_20 ho_20 hF (k_X4_fill l D cI cZ a_owed n_owed 0 f_owed 12 (by decide)) (cwV 1 hts gX1_clear_X4_fill rfl rfl rfl (by decide +kernel) ⟨Nat.le_of_ble_eq_true rfl, Nat.le_of_ble_eq_true rfl⟩) hK hN hP (va_Dsame hD rfl) hS hA [1, 2] rfl rfl 1 4 (T := TX4) (N := 1) rfl rfl rfl hl.1 rfl (Nat.le_of_ble_eq_true rfl) dX1_clear_20 ⟨Nat.zero_le _, Nat.zero_le _⟩ [none, some 0, some 1, none, none] 2 [(a, .inr (1, [.ref a_places, .ref a_firstHours, .ref a_spans, .ref a_values, .ref a_cells, .ref a_needs, .ref a_owed, .ref a_room, .int 0, .int 0, .int 0])), (a_owed, .inr (4, [.ref n_owed])), (n_owed, .inl (cI, 12, .inl o_20)), (a_room, .inr (4, [.ref n_room])), (n_room, .inl (cI, 2, .inl f_room))] rfl rfl (by decide) (fun H locs hP hS => ?_)
  refine lv_aload_n hx hb dX1_clear_23 rfl (lv_at hl 0 rfl) ?_
  refine va_get (D := D) (ci := 1) (v := .ref a_room) (C := RX1) (T := TX1) (N := 11) hx hb hts (fun _ h => List.mem_cons_of_mem _ (List.mem_append_left _ (List.mem_append_right _ (h)))) hown hK hP 0 rfl rfl 7 (by decide) (hts _ (List.mem_of_getElem? (i := 5) rfl)) (fun _ h9 => h9) rfl dX1_clear_24 ?_
  refine lv_bipush (v := 6) hx hb dX1_clear_27 rfl ?_
  obtain ⟨o_29, ho_29⟩ : ∃ z : Nat → Int32, z = v_X4_fill 6 f_room 2 := ⟨_, rfl⟩
  refine callVV (As := [.int 6]) (rest := []) o_29 ho_29 hF (k_X4_fill l D cI cZ a_room n_room 6 f_room 2 (by decide)) (cwV 1 hts gX1_clear_X4_fill rfl rfl rfl (by decide +kernel) ⟨Nat.le_of_ble_eq_true rfl, Nat.le_of_ble_eq_true rfl⟩) hK hN hP (va_Dsame hD rfl) hS hA [3, 4] rfl rfl 3 4 (T := TX4) (N := 1) rfl rfl rfl hl.1 rfl (Nat.le_of_ble_eq_true rfl) dX1_clear_29 ⟨Nat.zero_le _, Nat.zero_le _⟩ [none, none, none, some 0, some 1] 2 [(a, .inr (1, [.ref a_places, .ref a_firstHours, .ref a_spans, .ref a_values, .ref a_cells, .ref a_needs, .ref a_owed, .ref a_room, .int 0, .int 0, .int 0])), (a_owed, .inr (4, [.ref n_owed])), (n_owed, .inl (cI, 12, .inl o_20)), (a_room, .inr (4, [.ref n_room])), (n_room, .inl (cI, 2, .inl o_29))] rfl rfl (by decide) (fun H locs hP hS => ?_)
  have e9 : v_X1_clear f_owed f_room = (0, 0, 0, o_20, o_29) := by
    refine (bnd_eq ho_20).trans ?_
    refine (bnd_eq ho_29).trans ?_
    rfl
  rw [hQ]; exact retV (0, 0, 0, o_20, o_29) hx hb hr hlk e9 hP hS dX1_clear_32
def v_X1_addSquare (x1 : Int32) (i_squares : Int32) : Int32 :=
  bnd ((i_squares ||| ((1 : Int32) <<< (x1 &&& 31)))) fun w_9 =>
  w_9
abbrev rm_X1_addSquare : Room := { frames := 0, cells := 0, slots := 0, locals := 0 }
set_option maxHeartbeats 4000000 in
set_option maxRecDepth 100000 in
theorem k_X1_addSquare (l : Launch) (D : va_G) (cI cZ : ClassId) (a a_places a_firstHours a_spans a_values a_cells a_needs a_owed a_room : Nat) (x1 : Int32) (i_squares : Int32) (i_wishCount : Int32) (i_owedPlaces : Int32) : KV l D cI cZ yX1_addSquare wsX1_addSquare rm_X1_addSquare [.ref a, .int x1] [(a, .inr (1, [.ref a_places, .ref a_firstHours, .ref a_spans, .ref a_values, .ref a_cells, .ref a_needs, .ref a_owed, .ref a_room, .int i_squares, .int i_wishCount, .int i_owedPlaces]))] (v_X1_addSquare x1 i_squares) (fun o : Int32 => [(a, .inr (1, [.ref a_places, .ref a_firstHours, .ref a_spans, .ref a_values, .ref a_cells, .ref a_needs, .ref a_owed, .ref a_room, .int o, .int i_wishCount, .int i_owedPlaces]))]) := by
  refine KV.of cX1_addSquare 2 none (by decide) rfl (Nat.le_of_ble_eq_true rfl) ?_
  intro p e s m below meth c A ls ar Q hQ B
  obtain ⟨hx, hb, hr, hml, hts, hown, hlk, hK, hN, hP, hD, hA, hS, hl⟩ := B
  have hown : s.vm.findClass RX1 = some m.cls := hown
  have hF : CallFix p m c cX1_addSquare 2 s ar wsX1_addSquare RX1 := ⟨hx, hb, hml, hown, hts⟩
  have hl : lv_has ls 2 [(0, .ref a), (1, .int x1)] := hl
  refine lv_aload_n hx hb dX1_addSquare_0 rfl (lv_at hl 0 rfl) ?_
  refine lv_dup hx hb dX1_addSquare_1 rfl ?_
  refine va_get (D := D) (ci := 1) (v := .int i_squares) (C := RX1) (T := TX1) (N := 11) hx hb hts (fun _ h => List.mem_cons_of_mem _ (List.mem_append_right _ (h))) hown hK hP 0 rfl rfl 8 (by decide) (hts _ (List.mem_of_getElem? (i := 1) rfl)) (fun _ h9 => h9) rfl dX1_addSquare_2 ?_
  refine lv_iconst (v := 1) hx hb dX1_addSquare_5 rfl ?_
  refine lv_iload_n hx hb dX1_addSquare_6 rfl (lv_at hl 1 rfl) ?_
  refine lv_ishl hx hb dX1_addSquare_7 ?_
  refine lv_ior hx hb dX1_addSquare_8 ?_
  refine lv_topi (fun w_9 hw_9 => ?_)
  refine va_put (D := D) (ci := 1) (v := .int w_9) (ty := .int) (C := RX1) (T := TX1) (N := 11) hx hb hts (fun _ h => List.mem_cons_of_mem _ (List.mem_append_right _ (h))) tyX1 tyX1_ok nmX1 hown hK hP (va_Dsame hD rfl) hS 0 rfl rfl 8 (by decide) (hts _ (List.mem_of_getElem? (i := 1) rfl)) (fun _ h9 => h9) rfl (tyX1_ok 8 (by decide)) rfl rfl (Nat.le_of_ble_eq_true rfl) dX1_addSquare_9 (fun H locs hP _ hS => ?_)
  have hP : va_P D vwCl [(a, .inr (1, [.ref a_places, .ref a_firstHours, .ref a_spans, .ref a_values, .ref a_cells, .ref a_needs, .ref a_owed, .ref a_room, .int w_9, .int i_wishCount, .int i_owedPlaces]))] H := hP
  have e9 : v_X1_addSquare x1 i_squares = w_9 := by
    refine (bnd_eq hw_9).trans ?_
    rfl
  rw [hQ]; exact retV w_9 hx hb hr hlk e9 hP hS dX1_addSquare_12
def v_X7_cellAbove (x0 : Int32) (x1 : Int32) : Int32 :=
  ((x0 - (x0 - x0 / 6 * 6)) + ((((x0 - x0 / 6 * 6) + 6) - x1) - (((x0 - x0 / 6 * 6) + 6) - x1) / 6 * 6))
abbrev rm_X7_cellAbove : Room := { frames := 0, cells := 0, slots := 0, locals := 0 }
set_option maxHeartbeats 4000000 in
set_option maxRecDepth 100000 in
theorem k_X7_cellAbove (l : Launch) (D : va_G) (cI cZ : ClassId) (x0 : Int32) (x1 : Int32) : KI l D cI cZ yX7_cellAbove wsX7_cellAbove rm_X7_cellAbove [.int x0, .int x1] [] (v_X7_cellAbove x0 x1) (fun o : Int32 => o) (fun _ : Int32 => []) := by
  refine KI.of cX7_cellAbove 3 (some .int) (by decide) rfl (Nat.le_of_ble_eq_true rfl) ?_
  intro p e s m below meth c A ls ar Q hQ B
  obtain ⟨hx, hb, hr, hml, hts, hown, hlk, hK, hN, hP, hD, hA, hS, hl⟩ := B
  have hown : s.vm.findClass RX7 = some m.cls := hown
  have hF : CallFix p m c cX7_cellAbove 3 s ar wsX7_cellAbove RX7 := ⟨hx, hb, hml, hown, hts⟩
  have hl : lv_has ls 3 [(0, .int x0), (1, .int x1)] := hl
  refine lv_iload_n hx hb dX7_cellAbove_0 rfl (lv_at hl 0 rfl) ?_
  refine lv_bipush (v := 6) hx hb dX7_cellAbove_1 rfl ?_
  refine lv_irem hx hb dX7_cellAbove_3 (by decide) ?_
  refine lv_istore_n (lv' := [(2, .int (x0 - x0 / 6 * 6)), (0, .int x0), (1, .int x1)]) hx hb dX7_cellAbove_4 rfl hl (by decide) rfl (fun ls hl => ?_)
  refine lv_iload_n hx hb dX7_cellAbove_5 rfl (lv_at hl 1 rfl) ?_
  refine lv_iload_n hx hb dX7_cellAbove_6 rfl (lv_at hl 0 rfl) ?_
  refine lv_isub hx hb dX7_cellAbove_7 ?_
  refine lv_iload_n hx hb dX7_cellAbove_8 rfl (lv_at hl 0 rfl) ?_
  refine lv_bipush (v := 6) hx hb dX7_cellAbove_9 rfl ?_
  refine lv_iadd hx hb dX7_cellAbove_11 ?_
  refine lv_iload_n hx hb dX7_cellAbove_12 rfl (lv_at hl 2 rfl) ?_
  refine lv_isub hx hb dX7_cellAbove_13 ?_
  refine lv_bipush (v := 6) hx hb dX7_cellAbove_14 rfl ?_
  refine lv_irem hx hb dX7_cellAbove_16 (by decide) ?_
  refine lv_iadd hx hb dX7_cellAbove_17 ?_
  have e9 : v_X7_cellAbove x0 x1 = ((x0 - (x0 - x0 / 6 * 6)) + ((((x0 - x0 / 6 * 6) + 6) - x1) - (((x0 - x0 / 6 * 6) + 6) - x1) / 6 * 6)) := by
    rfl
  rw [hQ]; exact retI ((x0 - (x0 - x0 / 6 * 6)) + ((((x0 - x0 / 6 * 6) + 6) - x1) - (((x0 - x0 / 6 * 6) + 6) - x1) / 6 * 6)) hx hb hr hlk e9 hP rfl hS dX7_cellAbove_18
def v_X1_addWish_L6 (x1 : Int32) (x2 : Int32) (i6 : Nat) (z6 : Int32) : Int32 :=
  bnd (v_X7_cellAbove x1 ((x2 + nI i6) - (x2 + nI i6) / 6 * 6)) fun o_23 =>
  (z6 ||| ((1 : Int32) <<< (o_23 &&& 31)))
def v_X1_addWish (x1 : Int32) (x2 : Int32) (x3 : Int32) (x4 : Int32) (b5 : Bool) (i_wishCount : Int32) (f_places : Nat → Int32) (f_firstHours : Nat → Int32) (f_spans : Nat → Int32) (f_values : Nat → Int32) (f_cells : Nat → Int32) (f_needs : Nat → Int32) : Int32 × (Nat → Int32) × (Nat → Int32) × (Nat → Int32) × (Nat → Int32) × (Nat → Int32) × (Nat → Int32) :=
  bnd (it (v_X1_addWish_L6 x1 x2) x3.toNatClampNeg 0 0) fun o_L6 =>
  (bnd (v_X4_put i_wishCount x1 f_places 5) fun o_45 =>
  (bnd (v_X4_put i_wishCount x2 f_firstHours 5) fun o_57 =>
  (bnd (v_X4_put i_wishCount x3 f_spans 5) fun o_69 =>
  (bnd (v_X4_put i_wishCount x4 f_values 5) fun o_82 =>
  (bnd (v_X4_put i_wishCount o_L6 f_cells 5) fun o_95 =>
  (if bI b5 = 0 then (bnd (v_X4_put i_wishCount 0 f_needs 5) fun o_117 =>
    ((i_wishCount + 1), o_95, o_117, o_45, o_57, o_69, o_82))
  else (bnd (v_X4_put i_wishCount o_L6 f_needs 5) fun o_117 =>
  ((i_wishCount + 1), o_95, o_117, o_45, o_57, o_69, o_82))))))))
abbrev rm_X1_addWish : Room := { frames := 1, cells := 0, slots := 0, locals := 22 }
set_option maxHeartbeats 4000000 in
set_option maxRecDepth 100000 in
theorem k_X1_addWish (l : Launch) (D : va_G) (cI cZ : ClassId) (a a_places a_firstHours a_spans a_values a_cells a_needs a_owed a_room n_places n_firstHours n_spans n_values n_cells n_needs : Nat) (x1 : Int32) (x2 : Int32) (x3 : Int32) (x4 : Int32) (b5 : Bool) (i_squares : Int32) (i_wishCount : Int32) (i_owedPlaces : Int32) (f_places : Nat → Int32) (f_firstHours : Nat → Int32) (f_spans : Nat → Int32) (f_values : Nat → Int32) (f_cells : Nat → Int32) (f_needs : Nat → Int32) : KV l D cI cZ yX1_addWish wsX1_addWish rm_X1_addWish [.ref a, .int x1, .int x2, .int x3, .int x4, .int (bI b5)] [(a, .inr (1, [.ref a_places, .ref a_firstHours, .ref a_spans, .ref a_values, .ref a_cells, .ref a_needs, .ref a_owed, .ref a_room, .int i_squares, .int i_wishCount, .int i_owedPlaces])), (a_places, .inr (4, [.ref n_places])), (n_places, .inl (cI, 5, .inl f_places)), (a_firstHours, .inr (4, [.ref n_firstHours])), (n_firstHours, .inl (cI, 5, .inl f_firstHours)), (a_spans, .inr (4, [.ref n_spans])), (n_spans, .inl (cI, 5, .inl f_spans)), (a_values, .inr (4, [.ref n_values])), (n_values, .inl (cI, 5, .inl f_values)), (a_cells, .inr (4, [.ref n_cells])), (n_cells, .inl (cI, 5, .inl f_cells)), (a_needs, .inr (4, [.ref n_needs])), (n_needs, .inl (cI, 5, .inl f_needs))] (v_X1_addWish x1 x2 x3 x4 b5 i_wishCount f_places f_firstHours f_spans f_values f_cells f_needs) (fun o : Int32 × (Nat → Int32) × (Nat → Int32) × (Nat → Int32) × (Nat → Int32) × (Nat → Int32) × (Nat → Int32) => [(a, .inr (1, [.ref a_places, .ref a_firstHours, .ref a_spans, .ref a_values, .ref a_cells, .ref a_needs, .ref a_owed, .ref a_room, .int i_squares, .int o.1, .int i_owedPlaces])), (a_places, .inr (4, [.ref n_places])), (n_places, .inl (cI, 5, .inl o.2.2.2.1)), (a_firstHours, .inr (4, [.ref n_firstHours])), (n_firstHours, .inl (cI, 5, .inl o.2.2.2.2.1)), (a_spans, .inr (4, [.ref n_spans])), (n_spans, .inl (cI, 5, .inl o.2.2.2.2.2.1)), (a_values, .inr (4, [.ref n_values])), (n_values, .inl (cI, 5, .inl o.2.2.2.2.2.2)), (a_cells, .inr (4, [.ref n_cells])), (n_cells, .inl (cI, 5, .inl o.2.1)), (a_needs, .inr (4, [.ref n_needs])), (n_needs, .inl (cI, 5, .inl o.2.2.1))]) := by
  refine KV.of cX1_addWish 8 none (by decide) rfl (Nat.le_of_ble_eq_true rfl) ?_
  intro p e s m below meth c A ls ar Q hQ B
  obtain ⟨hx, hb, hr, hml, hts, hown, hlk, hK, hN, hP, hD, hA, hS, hl⟩ := B
  have hown : s.vm.findClass RX1 = some m.cls := hown
  have hF : CallFix p m c cX1_addWish 8 s ar wsX1_addWish RX1 := ⟨hx, hb, hml, hown, hts⟩
  have hl : lv_has ls 8 [(0, .ref a), (1, .int x1), (2, .int x2), (3, .int x3), (4, .int x4), (5, .int (bI b5))] := hl
  refine lv_iconst (v := 0) hx hb dX1_addWish_0 rfl ?_
  refine lv_istore (lv' := [(6, .int 0), (0, .ref a), (1, .int x1), (2, .int x2), (3, .int x3), (4, .int x4), (5, .int (bI b5))]) hx hb dX1_addWish_1 hl (by decide) rfl (fun ls hl => ?_)
  refine lv_iconst (v := 0) hx hb dX1_addWish_3 rfl ?_
  refine lv_istore (lv' := [(7, .int 0), (6, .int 0), (0, .ref a), (1, .int x1), (2, .int x2), (3, .int x3), (4, .int x4), (5, .int (bI b5))]) hx hb dX1_addWish_4 hl (by decide) rfl (fun ls hl => ?_)
  obtain ⟨o_L6, ho_L6⟩ : ∃ z : Int32, z = it (v_X1_addWish_L6 x1 x2) x3.toNatClampNeg 0 0 := ⟨_, rfl⟩
  have kE6 : ∀ (H : Heap) (locs : List Loc) (ls : Array Slot), va_P D vwCl [(a, .inr (1, [.ref a_places, .ref a_firstHours, .ref a_spans, .ref a_values, .ref a_cells, .ref a_needs, .ref a_owed, .ref a_room, .int i_squares, .int i_wishCount, .int i_owedPlaces])), (a_places, .inr (4, [.ref n_places])), (n_places, .inl (cI, 5, .inl f_places)), (a_firstHours, .inr (4, [.ref n_firstHours])), (n_firstHours, .inl (cI, 5, .inl f_firstHours)), (a_spans, .inr (4, [.ref n_spans])), (n_spans, .inl (cI, 5, .inl f_spans)), (a_values, .inr (4, [.ref n_values])), (n_values, .inl (cI, 5, .inl f_values)), (a_cells, .inr (4, [.ref n_cells])), (n_cells, .inl (cI, 5, .inl f_cells)), (a_needs, .inr (4, [.ref n_needs])), (n_needs, .inl (cI, 5, .inl f_needs))] H → va_S A s.heap H locs → lv_has ls 8 [(6, .int o_L6), (0, .ref a), (1, .int x1), (2, .int x2), (3, .int x3), (4, .int x4), (5, .int (bI b5))] → W p l e rm_X1_addWish s m ar below meth c H locs 0 0 Q (F0 m 36 ls []) := by
    intro H locs ls hP hS hl
    refine lv_aload_n hx hb dX1_addWish_36 rfl (lv_at hl 1 rfl) ?_
    refine va_get (D := D) (ci := 1) (v := .ref a_places) (C := RX1) (T := TX1) (N := 11) hx hb hts (fun _ h => List.mem_cons_of_mem _ (List.mem_append_left _ (List.mem_append_right _ (h)))) hown hK hP 0 rfl rfl 0 (by decide) (hts _ (List.mem_of_getElem? (i := 1) rfl)) (fun _ h9 => h9) rfl dX1_addWish_37 ?_
    refine lv_aload_n hx hb dX1_addWish_40 rfl (lv_at hl 1 rfl) ?_
    refine va_get (D := D) (ci := 1) (v := .int i_wishCount) (C := RX1) (T := TX1) (N := 11) hx hb hts (fun _ h => List.mem_cons_of_mem _ (List.mem_append_left _ (List.mem_append_right _ (h)))) hown hK hP 0 rfl rfl 9 (by decide) (hts _ (List.mem_of_getElem? (i := 2) rfl)) (fun _ h9 => h9) rfl dX1_addWish_41 ?_
    refine lv_iload_n hx hb dX1_addWish_44 rfl (lv_at hl 2 rfl) ?_
    obtain ⟨o_45, ho_45⟩ : ∃ z : Nat → Int32, z = v_X4_put i_wishCount x1 f_places 5 := ⟨_, rfl⟩
    refine callVV (As := [.int i_wishCount, .int x1]) (rest := []) o_45 ho_45 hF (k_X4_put l D cI cZ a_places n_places i_wishCount x1 f_places 5 (by decide)) (cwV 2 hts gX1_addWish_X4_put rfl rfl rfl (by decide +kernel) ⟨Nat.le_of_ble_eq_true rfl, Nat.le_of_ble_eq_true rfl⟩) hK hN hP (va_Dsame hD rfl) hS hA [1, 2] rfl rfl 1 4 (T := TX4) (N := 1) rfl rfl rfl hl.1 rfl (Nat.le_of_ble_eq_true rfl) dX1_addWish_45 ⟨Nat.zero_le _, Nat.zero_le _⟩ [none, some 0, some 1, none, none, none, none, none, none, none, none, none, none] 2 [(a, .inr (1, [.ref a_places, .ref a_firstHours, .ref a_spans, .ref a_values, .ref a_cells, .ref a_needs, .ref a_owed, .ref a_room, .int i_squares, .int i_wishCount, .int i_owedPlaces])), (a_places, .inr (4, [.ref n_places])), (n_places, .inl (cI, 5, .inl o_45)), (a_firstHours, .inr (4, [.ref n_firstHours])), (n_firstHours, .inl (cI, 5, .inl f_firstHours)), (a_spans, .inr (4, [.ref n_spans])), (n_spans, .inl (cI, 5, .inl f_spans)), (a_values, .inr (4, [.ref n_values])), (n_values, .inl (cI, 5, .inl f_values)), (a_cells, .inr (4, [.ref n_cells])), (n_cells, .inl (cI, 5, .inl f_cells)), (a_needs, .inr (4, [.ref n_needs])), (n_needs, .inl (cI, 5, .inl f_needs))] rfl rfl (by decide) (fun H locs hP hS => ?_)
    refine lv_aload_n hx hb dX1_addWish_48 rfl (lv_at hl 1 rfl) ?_
    refine va_get (D := D) (ci := 1) (v := .ref a_firstHours) (C := RX1) (T := TX1) (N := 11) hx hb hts (fun _ h => List.mem_cons_of_mem _ (List.mem_append_left _ (List.mem_append_right _ (h)))) hown hK hP 0 rfl rfl 1 (by decide) (hts _ (List.mem_of_getElem? (i := 3) rfl)) (fun _ h9 => h9) rfl dX1_addWish_49 ?_
    refine lv_aload_n hx hb dX1_addWish_52 rfl (lv_at hl 1 rfl) ?_
    refine va_get (D := D) (ci := 1) (v := .int i_wishCount) (C := RX1) (T := TX1) (N := 11) hx hb hts (fun _ h => List.mem_cons_of_mem _ (List.mem_append_left _ (List.mem_append_right _ (h)))) hown hK hP 0 rfl rfl 9 (by decide) (hts _ (List.mem_of_getElem? (i := 2) rfl)) (fun _ h9 => h9) rfl dX1_addWish_53 ?_
    refine lv_iload_n hx hb dX1_addWish_56 rfl (lv_at hl 3 rfl) ?_
    obtain ⟨o_57, ho_57⟩ : ∃ z : Nat → Int32, z = v_X4_put i_wishCount x2 f_firstHours 5 := ⟨_, rfl⟩
    refine callVV (As := [.int i_wishCount, .int x2]) (rest := []) o_57 ho_57 hF (k_X4_put l D cI cZ a_firstHours n_firstHours i_wishCount x2 f_firstHours 5 (by decide)) (cwV 2 hts gX1_addWish_X4_put rfl rfl rfl (by decide +kernel) ⟨Nat.le_of_ble_eq_true rfl, Nat.le_of_ble_eq_true rfl⟩) hK hN hP (va_Dsame hD rfl) hS hA [3, 4] rfl rfl 3 4 (T := TX4) (N := 1) rfl rfl rfl hl.1 rfl (Nat.le_of_ble_eq_true rfl) dX1_addWish_57 ⟨Nat.zero_le _, Nat.zero_le _⟩ [none, none, none, some 0, some 1, none, none, none, none, none, none, none, none] 2 [(a, .inr (1, [.ref a_places, .ref a_firstHours, .ref a_spans, .ref a_values, .ref a_cells, .ref a_needs, .ref a_owed, .ref a_room, .int i_squares, .int i_wishCount, .int i_owedPlaces])), (a_places, .inr (4, [.ref n_places])), (n_places, .inl (cI, 5, .inl o_45)), (a_firstHours, .inr (4, [.ref n_firstHours])), (n_firstHours, .inl (cI, 5, .inl o_57)), (a_spans, .inr (4, [.ref n_spans])), (n_spans, .inl (cI, 5, .inl f_spans)), (a_values, .inr (4, [.ref n_values])), (n_values, .inl (cI, 5, .inl f_values)), (a_cells, .inr (4, [.ref n_cells])), (n_cells, .inl (cI, 5, .inl f_cells)), (a_needs, .inr (4, [.ref n_needs])), (n_needs, .inl (cI, 5, .inl f_needs))] rfl rfl (by decide) (fun H locs hP hS => ?_)
    refine lv_aload_n hx hb dX1_addWish_60 rfl (lv_at hl 1 rfl) ?_
    refine va_get (D := D) (ci := 1) (v := .ref a_spans) (C := RX1) (T := TX1) (N := 11) hx hb hts (fun _ h => List.mem_cons_of_mem _ (List.mem_append_left _ (List.mem_append_right _ (h)))) hown hK hP 0 rfl rfl 2 (by decide) (hts _ (List.mem_of_getElem? (i := 4) rfl)) (fun _ h9 => h9) rfl dX1_addWish_61 ?_
    refine lv_aload_n hx hb dX1_addWish_64 rfl (lv_at hl 1 rfl) ?_
    refine va_get (D := D) (ci := 1) (v := .int i_wishCount) (C := RX1) (T := TX1) (N := 11) hx hb hts (fun _ h => List.mem_cons_of_mem _ (List.mem_append_left _ (List.mem_append_right _ (h)))) hown hK hP 0 rfl rfl 9 (by decide) (hts _ (List.mem_of_getElem? (i := 2) rfl)) (fun _ h9 => h9) rfl dX1_addWish_65 ?_
    refine lv_iload_n hx hb dX1_addWish_68 rfl (lv_at hl 4 rfl) ?_
    obtain ⟨o_69, ho_69⟩ : ∃ z : Nat → Int32, z = v_X4_put i_wishCount x3 f_spans 5 := ⟨_, rfl⟩
    refine callVV (As := [.int i_wishCount, .int x3]) (rest := []) o_69 ho_69 hF (k_X4_put l D cI cZ a_spans n_spans i_wishCount x3 f_spans 5 (by decide)) (cwV 2 hts gX1_addWish_X4_put rfl rfl rfl (by decide +kernel) ⟨Nat.le_of_ble_eq_true rfl, Nat.le_of_ble_eq_true rfl⟩) hK hN hP (va_Dsame hD rfl) hS hA [5, 6] rfl rfl 5 4 (T := TX4) (N := 1) rfl rfl rfl hl.1 rfl (Nat.le_of_ble_eq_true rfl) dX1_addWish_69 ⟨Nat.zero_le _, Nat.zero_le _⟩ [none, none, none, none, none, some 0, some 1, none, none, none, none, none, none] 2 [(a, .inr (1, [.ref a_places, .ref a_firstHours, .ref a_spans, .ref a_values, .ref a_cells, .ref a_needs, .ref a_owed, .ref a_room, .int i_squares, .int i_wishCount, .int i_owedPlaces])), (a_places, .inr (4, [.ref n_places])), (n_places, .inl (cI, 5, .inl o_45)), (a_firstHours, .inr (4, [.ref n_firstHours])), (n_firstHours, .inl (cI, 5, .inl o_57)), (a_spans, .inr (4, [.ref n_spans])), (n_spans, .inl (cI, 5, .inl o_69)), (a_values, .inr (4, [.ref n_values])), (n_values, .inl (cI, 5, .inl f_values)), (a_cells, .inr (4, [.ref n_cells])), (n_cells, .inl (cI, 5, .inl f_cells)), (a_needs, .inr (4, [.ref n_needs])), (n_needs, .inl (cI, 5, .inl f_needs))] rfl rfl (by decide) (fun H locs hP hS => ?_)
    refine lv_aload_n hx hb dX1_addWish_72 rfl (lv_at hl 1 rfl) ?_
    refine va_get (D := D) (ci := 1) (v := .ref a_values) (C := RX1) (T := TX1) (N := 11) hx hb hts (fun _ h => List.mem_cons_of_mem _ (List.mem_append_left _ (List.mem_append_right _ (h)))) hown hK hP 0 rfl rfl 3 (by decide) (hts _ (List.mem_of_getElem? (i := 5) rfl)) (fun _ h9 => h9) rfl dX1_addWish_73 ?_
    refine lv_aload_n hx hb dX1_addWish_76 rfl (lv_at hl 1 rfl) ?_
    refine va_get (D := D) (ci := 1) (v := .int i_wishCount) (C := RX1) (T := TX1) (N := 11) hx hb hts (fun _ h => List.mem_cons_of_mem _ (List.mem_append_left _ (List.mem_append_right _ (h)))) hown hK hP 0 rfl rfl 9 (by decide) (hts _ (List.mem_of_getElem? (i := 2) rfl)) (fun _ h9 => h9) rfl dX1_addWish_77 ?_
    refine lv_iload hx hb dX1_addWish_80 (lv_at hl 5 rfl) ?_
    obtain ⟨o_82, ho_82⟩ : ∃ z : Nat → Int32, z = v_X4_put i_wishCount x4 f_values 5 := ⟨_, rfl⟩
    refine callVV (As := [.int i_wishCount, .int x4]) (rest := []) o_82 ho_82 hF (k_X4_put l D cI cZ a_values n_values i_wishCount x4 f_values 5 (by decide)) (cwV 2 hts gX1_addWish_X4_put rfl rfl rfl (by decide +kernel) ⟨Nat.le_of_ble_eq_true rfl, Nat.le_of_ble_eq_true rfl⟩) hK hN hP (va_Dsame hD rfl) hS hA [7, 8] rfl rfl 7 4 (T := TX4) (N := 1) rfl rfl rfl hl.1 rfl (Nat.le_of_ble_eq_true rfl) dX1_addWish_82 ⟨Nat.zero_le _, Nat.zero_le _⟩ [none, none, none, none, none, none, none, some 0, some 1, none, none, none, none] 2 [(a, .inr (1, [.ref a_places, .ref a_firstHours, .ref a_spans, .ref a_values, .ref a_cells, .ref a_needs, .ref a_owed, .ref a_room, .int i_squares, .int i_wishCount, .int i_owedPlaces])), (a_places, .inr (4, [.ref n_places])), (n_places, .inl (cI, 5, .inl o_45)), (a_firstHours, .inr (4, [.ref n_firstHours])), (n_firstHours, .inl (cI, 5, .inl o_57)), (a_spans, .inr (4, [.ref n_spans])), (n_spans, .inl (cI, 5, .inl o_69)), (a_values, .inr (4, [.ref n_values])), (n_values, .inl (cI, 5, .inl o_82)), (a_cells, .inr (4, [.ref n_cells])), (n_cells, .inl (cI, 5, .inl f_cells)), (a_needs, .inr (4, [.ref n_needs])), (n_needs, .inl (cI, 5, .inl f_needs))] rfl rfl (by decide) (fun H locs hP hS => ?_)
    refine lv_aload_n hx hb dX1_addWish_85 rfl (lv_at hl 1 rfl) ?_
    refine va_get (D := D) (ci := 1) (v := .ref a_cells) (C := RX1) (T := TX1) (N := 11) hx hb hts (fun _ h => List.mem_cons_of_mem _ (List.mem_append_left _ (List.mem_append_right _ (h)))) hown hK hP 0 rfl rfl 4 (by decide) (hts _ (List.mem_of_getElem? (i := 6) rfl)) (fun _ h9 => h9) rfl dX1_addWish_86 ?_
    refine lv_aload_n hx hb dX1_addWish_89 rfl (lv_at hl 1 rfl) ?_
    refine va_get (D := D) (ci := 1) (v := .int i_wishCount) (C := RX1) (T := TX1) (N := 11) hx hb hts (fun _ h => List.mem_cons_of_mem _ (List.mem_append_left _ (List.mem_append_right _ (h)))) hown hK hP 0 rfl rfl 9 (by decide) (hts _ (List.mem_of_getElem? (i := 2) rfl)) (fun _ h9 => h9) rfl dX1_addWish_90 ?_
    refine lv_iload hx hb dX1_addWish_93 (lv_at hl 0 rfl) ?_
    obtain ⟨o_95, ho_95⟩ : ∃ z : Nat → Int32, z = v_X4_put i_wishCount o_L6 f_cells 5 := ⟨_, rfl⟩
    refine callVV (As := [.int i_wishCount, .int o_L6]) (rest := []) o_95 ho_95 hF (k_X4_put l D cI cZ a_cells n_cells i_wishCount o_L6 f_cells 5 (by decide)) (cwV 2 hts gX1_addWish_X4_put rfl rfl rfl (by decide +kernel) ⟨Nat.le_of_ble_eq_true rfl, Nat.le_of_ble_eq_true rfl⟩) hK hN hP (va_Dsame hD rfl) hS hA [9, 10] rfl rfl 9 4 (T := TX4) (N := 1) rfl rfl rfl hl.1 rfl (Nat.le_of_ble_eq_true rfl) dX1_addWish_95 ⟨Nat.zero_le _, Nat.zero_le _⟩ [none, none, none, none, none, none, none, none, none, some 0, some 1, none, none] 2 [(a, .inr (1, [.ref a_places, .ref a_firstHours, .ref a_spans, .ref a_values, .ref a_cells, .ref a_needs, .ref a_owed, .ref a_room, .int i_squares, .int i_wishCount, .int i_owedPlaces])), (a_places, .inr (4, [.ref n_places])), (n_places, .inl (cI, 5, .inl o_45)), (a_firstHours, .inr (4, [.ref n_firstHours])), (n_firstHours, .inl (cI, 5, .inl o_57)), (a_spans, .inr (4, [.ref n_spans])), (n_spans, .inl (cI, 5, .inl o_69)), (a_values, .inr (4, [.ref n_values])), (n_values, .inl (cI, 5, .inl o_82)), (a_cells, .inr (4, [.ref n_cells])), (n_cells, .inl (cI, 5, .inl o_95)), (a_needs, .inr (4, [.ref n_needs])), (n_needs, .inl (cI, 5, .inl f_needs))] rfl rfl (by decide) (fun H locs hP hS => ?_)
    refine lv_aload_n hx hb dX1_addWish_98 rfl (lv_at hl 1 rfl) ?_
    refine va_get (D := D) (ci := 1) (v := .ref a_needs) (C := RX1) (T := TX1) (N := 11) hx hb hts (fun _ h => List.mem_cons_of_mem _ (List.mem_append_left _ (List.mem_append_right _ (h)))) hown hK hP 0 rfl rfl 5 (by decide) (hts _ (List.mem_of_getElem? (i := 7) rfl)) (fun _ h9 => h9) rfl dX1_addWish_99 ?_
    refine lv_aload_n hx hb dX1_addWish_102 rfl (lv_at hl 1 rfl) ?_
    refine va_get (D := D) (ci := 1) (v := .int i_wishCount) (C := RX1) (T := TX1) (N := 11) hx hb hts (fun _ h => List.mem_cons_of_mem _ (List.mem_append_left _ (List.mem_append_right _ (h)))) hown hK hP 0 rfl rfl 9 (by decide) (hts _ (List.mem_of_getElem? (i := 2) rfl)) (fun _ h9 => h9) rfl dX1_addWish_103 ?_
    refine lv_iload hx hb dX1_addWish_106 (lv_at hl 6 rfl) ?_
    refine lv_if_eq (tgt := 116) hx hb dX1_addWish_108 (by decide) (fun c_108 => ?_) (fun c_108 => ?_)
    · refine lv_iconst (v := 0) hx hb dX1_addWish_116 rfl ?_
      obtain ⟨o_117, ho_117⟩ : ∃ z : Nat → Int32, z = v_X4_put i_wishCount 0 f_needs 5 := ⟨_, rfl⟩
      refine callVV (As := [.int i_wishCount, .int 0]) (rest := []) o_117 ho_117 hF (k_X4_put l D cI cZ a_needs n_needs i_wishCount 0 f_needs 5 (by decide)) (cwV 2 hts gX1_addWish_X4_put rfl rfl rfl (by decide +kernel) ⟨Nat.le_of_ble_eq_true rfl, Nat.le_of_ble_eq_true rfl⟩) hK hN hP (va_Dsame hD rfl) hS hA [11, 12] rfl rfl 11 4 (T := TX4) (N := 1) rfl rfl rfl hl.1 rfl (Nat.le_of_ble_eq_true rfl) dX1_addWish_117 ⟨Nat.zero_le _, Nat.zero_le _⟩ [none, none, none, none, none, none, none, none, none, none, none, some 0, some 1] 2 [(a, .inr (1, [.ref a_places, .ref a_firstHours, .ref a_spans, .ref a_values, .ref a_cells, .ref a_needs, .ref a_owed, .ref a_room, .int i_squares, .int i_wishCount, .int i_owedPlaces])), (a_places, .inr (4, [.ref n_places])), (n_places, .inl (cI, 5, .inl o_45)), (a_firstHours, .inr (4, [.ref n_firstHours])), (n_firstHours, .inl (cI, 5, .inl o_57)), (a_spans, .inr (4, [.ref n_spans])), (n_spans, .inl (cI, 5, .inl o_69)), (a_values, .inr (4, [.ref n_values])), (n_values, .inl (cI, 5, .inl o_82)), (a_cells, .inr (4, [.ref n_cells])), (n_cells, .inl (cI, 5, .inl o_95)), (a_needs, .inr (4, [.ref n_needs])), (n_needs, .inl (cI, 5, .inl o_117))] rfl rfl (by decide) (fun H locs hP hS => ?_)
      refine lv_aload_n hx hb dX1_addWish_120 rfl (lv_at hl 1 rfl) ?_
      refine lv_dup hx hb dX1_addWish_121 rfl ?_
      refine va_get (D := D) (ci := 1) (v := .int i_wishCount) (C := RX1) (T := TX1) (N := 11) hx hb hts (fun _ h => List.mem_cons_of_mem _ (List.mem_append_left _ (List.mem_append_right _ (h)))) hown hK hP 0 rfl rfl 9 (by decide) (hts _ (List.mem_of_getElem? (i := 2) rfl)) (fun _ h9 => h9) rfl dX1_addWish_122 ?_
      refine lv_iconst (v := 1) hx hb dX1_addWish_125 rfl ?_
      refine lv_iadd hx hb dX1_addWish_126 ?_
      refine va_put (D := D) (ci := 1) (v := .int (i_wishCount + 1)) (ty := .int) (C := RX1) (T := TX1) (N := 11) hx hb hts (fun _ h => List.mem_cons_of_mem _ (List.mem_append_left _ (List.mem_append_right _ (h)))) tyX1 tyX1_ok nmX1 hown hK hP (va_Dsame hD rfl) hS 0 rfl rfl 9 (by decide) (hts _ (List.mem_of_getElem? (i := 2) rfl)) (fun _ h9 => h9) rfl (tyX1_ok 9 (by decide)) rfl rfl (Nat.le_of_ble_eq_true rfl) dX1_addWish_127 (fun H locs hP _ hS => ?_)
      have hP : va_P D vwCl [(a, .inr (1, [.ref a_places, .ref a_firstHours, .ref a_spans, .ref a_values, .ref a_cells, .ref a_needs, .ref a_owed, .ref a_room, .int i_squares, .int (i_wishCount + 1), .int i_owedPlaces])), (a_places, .inr (4, [.ref n_places])), (n_places, .inl (cI, 5, .inl o_45)), (a_firstHours, .inr (4, [.ref n_firstHours])), (n_firstHours, .inl (cI, 5, .inl o_57)), (a_spans, .inr (4, [.ref n_spans])), (n_spans, .inl (cI, 5, .inl o_69)), (a_values, .inr (4, [.ref n_values])), (n_values, .inl (cI, 5, .inl o_82)), (a_cells, .inr (4, [.ref n_cells])), (n_cells, .inl (cI, 5, .inl o_95)), (a_needs, .inr (4, [.ref n_needs])), (n_needs, .inl (cI, 5, .inl o_117))] H := hP
      have e9 : v_X1_addWish x1 x2 x3 x4 b5 i_wishCount f_places f_firstHours f_spans f_values f_cells f_needs = ((i_wishCount + 1), o_95, o_117, o_45, o_57, o_69, o_82) := by
        refine (bnd_eq ho_L6).trans ?_
        refine (bnd_eq ho_45).trans ?_
        refine (bnd_eq ho_57).trans ?_
        refine (bnd_eq ho_69).trans ?_
        refine (bnd_eq ho_82).trans ?_
        refine (bnd_eq ho_95).trans ?_
        refine (if_pos c_108).trans ?_
        refine (bnd_eq ho_117).trans ?_
        rfl
      rw [hQ]; exact retV ((i_wishCount + 1), o_95, o_117, o_45, o_57, o_69, o_82) hx hb hr hlk e9 hP hS dX1_addWish_130
    · refine lv_iload hx hb dX1_addWish_111 (lv_at hl 0 rfl) ?_
      refine lv_goto (tgt := 117) hx hb dX1_addWish_113 (by decide) ?_
      obtain ⟨o_117, ho_117⟩ : ∃ z : Nat → Int32, z = v_X4_put i_wishCount o_L6 f_needs 5 := ⟨_, rfl⟩
      refine callVV (As := [.int i_wishCount, .int o_L6]) (rest := []) o_117 ho_117 hF (k_X4_put l D cI cZ a_needs n_needs i_wishCount o_L6 f_needs 5 (by decide)) (cwV 2 hts gX1_addWish_X4_put rfl rfl rfl (by decide +kernel) ⟨Nat.le_of_ble_eq_true rfl, Nat.le_of_ble_eq_true rfl⟩) hK hN hP (va_Dsame hD rfl) hS hA [11, 12] rfl rfl 11 4 (T := TX4) (N := 1) rfl rfl rfl hl.1 rfl (Nat.le_of_ble_eq_true rfl) dX1_addWish_117 ⟨Nat.zero_le _, Nat.zero_le _⟩ [none, none, none, none, none, none, none, none, none, none, none, some 0, some 1] 2 [(a, .inr (1, [.ref a_places, .ref a_firstHours, .ref a_spans, .ref a_values, .ref a_cells, .ref a_needs, .ref a_owed, .ref a_room, .int i_squares, .int i_wishCount, .int i_owedPlaces])), (a_places, .inr (4, [.ref n_places])), (n_places, .inl (cI, 5, .inl o_45)), (a_firstHours, .inr (4, [.ref n_firstHours])), (n_firstHours, .inl (cI, 5, .inl o_57)), (a_spans, .inr (4, [.ref n_spans])), (n_spans, .inl (cI, 5, .inl o_69)), (a_values, .inr (4, [.ref n_values])), (n_values, .inl (cI, 5, .inl o_82)), (a_cells, .inr (4, [.ref n_cells])), (n_cells, .inl (cI, 5, .inl o_95)), (a_needs, .inr (4, [.ref n_needs])), (n_needs, .inl (cI, 5, .inl o_117))] rfl rfl (by decide) (fun H locs hP hS => ?_)
      refine lv_aload_n hx hb dX1_addWish_120 rfl (lv_at hl 1 rfl) ?_
      refine lv_dup hx hb dX1_addWish_121 rfl ?_
      refine va_get (D := D) (ci := 1) (v := .int i_wishCount) (C := RX1) (T := TX1) (N := 11) hx hb hts (fun _ h => List.mem_cons_of_mem _ (List.mem_append_left _ (List.mem_append_right _ (h)))) hown hK hP 0 rfl rfl 9 (by decide) (hts _ (List.mem_of_getElem? (i := 2) rfl)) (fun _ h9 => h9) rfl dX1_addWish_122 ?_
      refine lv_iconst (v := 1) hx hb dX1_addWish_125 rfl ?_
      refine lv_iadd hx hb dX1_addWish_126 ?_
      refine va_put (D := D) (ci := 1) (v := .int (i_wishCount + 1)) (ty := .int) (C := RX1) (T := TX1) (N := 11) hx hb hts (fun _ h => List.mem_cons_of_mem _ (List.mem_append_left _ (List.mem_append_right _ (h)))) tyX1 tyX1_ok nmX1 hown hK hP (va_Dsame hD rfl) hS 0 rfl rfl 9 (by decide) (hts _ (List.mem_of_getElem? (i := 2) rfl)) (fun _ h9 => h9) rfl (tyX1_ok 9 (by decide)) rfl rfl (Nat.le_of_ble_eq_true rfl) dX1_addWish_127 (fun H locs hP _ hS => ?_)
      have hP : va_P D vwCl [(a, .inr (1, [.ref a_places, .ref a_firstHours, .ref a_spans, .ref a_values, .ref a_cells, .ref a_needs, .ref a_owed, .ref a_room, .int i_squares, .int (i_wishCount + 1), .int i_owedPlaces])), (a_places, .inr (4, [.ref n_places])), (n_places, .inl (cI, 5, .inl o_45)), (a_firstHours, .inr (4, [.ref n_firstHours])), (n_firstHours, .inl (cI, 5, .inl o_57)), (a_spans, .inr (4, [.ref n_spans])), (n_spans, .inl (cI, 5, .inl o_69)), (a_values, .inr (4, [.ref n_values])), (n_values, .inl (cI, 5, .inl o_82)), (a_cells, .inr (4, [.ref n_cells])), (n_cells, .inl (cI, 5, .inl o_95)), (a_needs, .inr (4, [.ref n_needs])), (n_needs, .inl (cI, 5, .inl o_117))] H := hP
      have e9 : v_X1_addWish x1 x2 x3 x4 b5 i_wishCount f_places f_firstHours f_spans f_values f_cells f_needs = ((i_wishCount + 1), o_95, o_117, o_45, o_57, o_69, o_82) := by
        refine (bnd_eq ho_L6).trans ?_
        refine (bnd_eq ho_45).trans ?_
        refine (bnd_eq ho_57).trans ?_
        refine (bnd_eq ho_69).trans ?_
        refine (bnd_eq ho_82).trans ?_
        refine (bnd_eq ho_95).trans ?_
        refine (if_neg c_108).trans ?_
        refine (bnd_eq ho_117).trans ?_
        rfl
      rw [hQ]; exact retV ((i_wishCount + 1), o_95, o_117, o_45, o_57, o_69, o_82) hx hb hr hlk e9 hP hS dX1_addWish_130
  have loop6 : ∀ (k i6 : Nat) (z6 : Int32), 0 ≤ i6 → i6 + k = 0 + x3.toNatClampNeg → it (v_X1_addWish_L6 x1 x2) k i6 z6 = o_L6 → ∀ (H : Heap) (locs : List Loc) (ls : Array Slot), va_P D vwCl [(a, .inr (1, [.ref a_places, .ref a_firstHours, .ref a_spans, .ref a_values, .ref a_cells, .ref a_needs, .ref a_owed, .ref a_room, .int i_squares, .int i_wishCount, .int i_owedPlaces])), (a_places, .inr (4, [.ref n_places])), (n_places, .inl (cI, 5, .inl f_places)), (a_firstHours, .inr (4, [.ref n_firstHours])), (n_firstHours, .inl (cI, 5, .inl f_firstHours)), (a_spans, .inr (4, [.ref n_spans])), (n_spans, .inl (cI, 5, .inl f_spans)), (a_values, .inr (4, [.ref n_values])), (n_values, .inl (cI, 5, .inl f_values)), (a_cells, .inr (4, [.ref n_cells])), (n_cells, .inl (cI, 5, .inl f_cells)), (a_needs, .inr (4, [.ref n_needs])), (n_needs, .inl (cI, 5, .inl f_needs))] H → va_S A s.heap H locs → lv_has ls 8 [(7, .int (nI i6)), (6, .int z6), (0, .ref a), (1, .int x1), (2, .int x2), (3, .int x3), (4, .int x4), (5, .int (bI b5))] → W p l e rm_X1_addWish s m ar below meth c H locs 0 0 Q (F0 m 6 ls []) := by
    intro k
    induction k with
    | zero =>
      intro i6 z6 hi0 hik hz H locs ls hP hS hl
      have hz : z6 = o_L6 := it_0 hz
      subst z6
      refine lv_iload hx hb dX1_addWish_6 (lv_at hl 0 rfl) ?_
      refine lv_iload_n hx hb dX1_addWish_8 rfl (lv_at hl 5 rfl) ?_
      refine lv_icmp_ge (tgt := 36) hx hb dX1_addWish_9 (by decide) (fun _ => ?_) (fun c => absurd (cb_ge (by omega) (by have := cb_lt31 x3; omega)) c)
      exact kE6 _ _ _ hP hS (lv_sub hl [1, 2, 3, 4, 5, 6, 7] rfl)
    | succ k ih =>
      intro i6 z6 hi0 hik hz H locs ls hP hS hl
      refine lv_iload hx hb dX1_addWish_6 (lv_at hl 0 rfl) ?_
      refine lv_iload_n hx hb dX1_addWish_8 rfl (lv_at hl 5 rfl) ?_
      refine lv_icmp_ge (tgt := 36) hx hb dX1_addWish_9 (by decide) (fun c => absurd c (cb_lt (by omega))) (fun _ => ?_)
      refine lv_iload hx hb dX1_addWish_12 (lv_at hl 1 rfl) ?_
      refine lv_iconst (v := 1) hx hb dX1_addWish_14 rfl ?_
      refine lv_iload_n hx hb dX1_addWish_15 rfl (lv_at hl 3 rfl) ?_
      refine lv_iload_n hx hb dX1_addWish_16 rfl (lv_at hl 4 rfl) ?_
      refine lv_iload hx hb dX1_addWish_17 (lv_at hl 0 rfl) ?_
      refine lv_iadd hx hb dX1_addWish_19 ?_
      refine lv_bipush (v := 6) hx hb dX1_addWish_20 rfl ?_
      refine lv_irem hx hb dX1_addWish_22 (by decide) ?_
      obtain ⟨o_23, ho_23⟩ : ∃ z : Int32, z = v_X7_cellAbove x1 ((x2 + nI i6) - (x2 + nI i6) / 6 * 6) := ⟨_, rfl⟩
      refine callNIs (As := [.int x1, .int ((x2 + nI i6) - (x2 + nI i6) / 6 * 6)]) (rest := [.int 1, .int z6]) o_23 ho_23 hF (k_X7_cellAbove l D cI cZ x1 ((x2 + nI i6) - (x2 + nI i6) / 6 * 6)) ⟨va_cnB 2 hts gX1_addWish_X7_cellAbove_n57 rfl rfl rfl hN.2.2.2.2.1 (hts _ (List.mem_of_getElem? (i := 9) rfl)) (by decide +kernel) ⟨Nat.le_of_ble_eq_true rfl, Nat.le_of_ble_eq_true rfl⟩, (hts _ (List.mem_of_getElem? (i := 8) rfl)), trivial⟩ hK hN hP (va_Dsame hD rfl) hS hA [] rfl rfl rfl hl.1 rfl (Nat.le_of_ble_eq_true rfl) dX1_addWish_23 ⟨Nat.zero_le _, Nat.zero_le _⟩ o_23 rfl rfl (fun H locs hP hS => ?_)
      refine lv_ishl hx hb dX1_addWish_26 ?_
      refine lv_ior hx hb dX1_addWish_27 ?_
      refine lv_istore (lv' := [(6, .int (z6 ||| ((1 : Int32) <<< (o_23 &&& 31)))), (7, .int (nI i6)), (0, .ref a), (1, .int x1), (2, .int x2), (3, .int x3), (4, .int x4), (5, .int (bI b5))]) hx hb dX1_addWish_28 hl (by decide) rfl (fun ls hl => ?_)
      refine lv_iinc (v := (nI (i6 + 1))) (lv' := [(7, .int (nI (i6 + 1))), (6, .int (z6 ||| ((1 : Int32) <<< (o_23 &&& 31)))), (0, .ref a), (1, .int x1), (2, .int x2), (3, .int x3), (4, .int x4), (5, .int (bI b5))]) hx hb dX1_addWish_30 hl (k := 1) rfl (nI_1 _) (by decide) rfl (fun ls hl => ?_)
      refine lv_goto (tgt := 6) hx hb dX1_addWish_33 (by decide) ?_
      have e8 : v_X1_addWish_L6 x1 x2 i6 z6 = (z6 ||| ((1 : Int32) <<< (o_23 &&& 31))) := by
        refine (bnd_eq ho_23).trans ?_
        rfl
      exact ih (i6 + 1) (z6 ||| ((1 : Int32) <<< (o_23 &&& 31))) (by omega) (by omega) (it_go e8 hz) _ _ _ hP hS (lv_sub hl [0, 1, 2, 3, 4, 5, 6, 7] rfl)
  exact loop6 x3.toNatClampNeg 0 0 (Nat.le_refl _) rfl ho_L6.symm _ _ _ hP hS (lv_sub hl [0, 1, 2, 3, 4, 5, 6, 7] rfl)
def v_X1_addOwed (x1 : Int32) (x2 : Int32) (i_owedPlaces : Int32) (f_owed : Nat → Int32) (f_room : Nat → Int32) : Int32 × (Nat → Int32) × (Nat → Int32) :=
  bnd ((i_owedPlaces ||| ((1 : Int32) <<< (x1 &&& 31)))) fun w_14 =>
  (bnd (v_X4_put x1 x2 f_owed 12) fun o_23 =>
  (bnd (v_X4_at (x1 / 6) f_room 2) fun o_36 =>
  (bnd (v_X4_put (x1 / 6) (if (6 - x2) < o_36 then (6 - x2) else o_36) f_room 2) fun o_46 =>
  (w_14, o_23, o_46))))
abbrev rm_X1_addOwed : Room := { frames := 1, cells := 0, slots := 0, locals := 22 }
set_option maxHeartbeats 4000000 in
set_option maxRecDepth 100000 in
theorem k_X1_addOwed (l : Launch) (D : va_G) (cI cZ : ClassId) (a a_places a_firstHours a_spans a_values a_cells a_needs a_owed a_room n_owed n_room : Nat) (x1 : Int32) (x2 : Int32) (i_squares : Int32) (i_wishCount : Int32) (i_owedPlaces : Int32) (f_owed : Nat → Int32) (f_room : Nat → Int32) : KV l D cI cZ yX1_addOwed wsX1_addOwed rm_X1_addOwed [.ref a, .int x1, .int x2] [(a, .inr (1, [.ref a_places, .ref a_firstHours, .ref a_spans, .ref a_values, .ref a_cells, .ref a_needs, .ref a_owed, .ref a_room, .int i_squares, .int i_wishCount, .int i_owedPlaces])), (a_owed, .inr (4, [.ref n_owed])), (n_owed, .inl (cI, 12, .inl f_owed)), (a_room, .inr (4, [.ref n_room])), (n_room, .inl (cI, 2, .inl f_room))] (v_X1_addOwed x1 x2 i_owedPlaces f_owed f_room) (fun o : Int32 × (Nat → Int32) × (Nat → Int32) => [(a, .inr (1, [.ref a_places, .ref a_firstHours, .ref a_spans, .ref a_values, .ref a_cells, .ref a_needs, .ref a_owed, .ref a_room, .int i_squares, .int i_wishCount, .int o.1])), (a_owed, .inr (4, [.ref n_owed])), (n_owed, .inl (cI, 12, .inl o.2.1)), (a_room, .inr (4, [.ref n_room])), (n_room, .inl (cI, 2, .inl o.2.2))]) := by
  refine KV.of cX1_addOwed 4 none (by decide) rfl (Nat.le_of_ble_eq_true rfl) ?_
  intro p e s m below meth c A ls ar Q hQ B
  obtain ⟨hx, hb, hr, hml, hts, hown, hlk, hK, hN, hP, hD, hA, hS, hl⟩ := B
  have hown : s.vm.findClass RX1 = some m.cls := hown
  have hF : CallFix p m c cX1_addOwed 4 s ar wsX1_addOwed RX1 := ⟨hx, hb, hml, hown, hts⟩
  have hl : lv_has ls 4 [(0, .ref a), (1, .int x1), (2, .int x2)] := hl
  refine lv_iload_n hx hb dX1_addOwed_0 rfl (lv_at hl 1 rfl) ?_
  refine lv_bipush (v := 6) hx hb dX1_addOwed_1 rfl ?_
  refine lv_idiv hx hb dX1_addOwed_3 (by decide) ?_
  refine lv_istore_n (lv' := [(3, .int (x1 / 6)), (0, .ref a), (1, .int x1), (2, .int x2)]) hx hb dX1_addOwed_4 rfl hl (by decide) rfl (fun ls hl => ?_)
  refine lv_aload_n hx hb dX1_addOwed_5 rfl (lv_at hl 1 rfl) ?_
  refine lv_dup hx hb dX1_addOwed_6 rfl ?_
  refine va_get (D := D) (ci := 1) (v := .int i_owedPlaces) (C := RX1) (T := TX1) (N := 11) hx hb hts (fun _ h => List.mem_cons_of_mem _ (List.mem_append_left _ (List.mem_append_right _ (h)))) hown hK hP 0 rfl rfl 10 (by decide) (hts _ (List.mem_of_getElem? (i := 1) rfl)) (fun _ h9 => h9) rfl dX1_addOwed_7 ?_
  refine lv_iconst (v := 1) hx hb dX1_addOwed_10 rfl ?_
  refine lv_iload_n hx hb dX1_addOwed_11 rfl (lv_at hl 2 rfl) ?_
  refine lv_ishl hx hb dX1_addOwed_12 ?_
  refine lv_ior hx hb dX1_addOwed_13 ?_
  refine lv_topi (fun w_14 hw_14 => ?_)
  refine va_put (D := D) (ci := 1) (v := .int w_14) (ty := .int) (C := RX1) (T := TX1) (N := 11) hx hb hts (fun _ h => List.mem_cons_of_mem _ (List.mem_append_left _ (List.mem_append_right _ (h)))) tyX1 tyX1_ok nmX1 hown hK hP (va_Dsame hD rfl) hS 0 rfl rfl 10 (by decide) (hts _ (List.mem_of_getElem? (i := 1) rfl)) (fun _ h9 => h9) rfl (tyX1_ok 10 (by decide)) rfl rfl (Nat.le_of_ble_eq_true rfl) dX1_addOwed_14 (fun H locs hP _ hS => ?_)
  have hP : va_P D vwCl [(a, .inr (1, [.ref a_places, .ref a_firstHours, .ref a_spans, .ref a_values, .ref a_cells, .ref a_needs, .ref a_owed, .ref a_room, .int i_squares, .int i_wishCount, .int w_14])), (a_owed, .inr (4, [.ref n_owed])), (n_owed, .inl (cI, 12, .inl f_owed)), (a_room, .inr (4, [.ref n_room])), (n_room, .inl (cI, 2, .inl f_room))] H := hP
  refine lv_aload_n hx hb dX1_addOwed_17 rfl (lv_at hl 1 rfl) ?_
  refine va_get (D := D) (ci := 1) (v := .ref a_owed) (C := RX1) (T := TX1) (N := 11) hx hb hts (fun _ h => List.mem_cons_of_mem _ (List.mem_append_left _ (List.mem_append_right _ (h)))) hown hK hP 0 rfl rfl 6 (by decide) (hts _ (List.mem_of_getElem? (i := 2) rfl)) (fun _ h9 => h9) rfl dX1_addOwed_18 ?_
  refine lv_iload_n hx hb dX1_addOwed_21 rfl (lv_at hl 2 rfl) ?_
  refine lv_iload_n hx hb dX1_addOwed_22 rfl (lv_at hl 3 rfl) ?_
  obtain ⟨o_23, ho_23⟩ : ∃ z : Nat → Int32, z = v_X4_put x1 x2 f_owed 12 := ⟨_, rfl⟩
  refine callVV (As := [.int x1, .int x2]) (rest := []) o_23 ho_23 hF (k_X4_put l D cI cZ a_owed n_owed x1 x2 f_owed 12 (by decide)) (cwV 2 hts gX1_addOwed_X4_put rfl rfl rfl (by decide +kernel) ⟨Nat.le_of_ble_eq_true rfl, Nat.le_of_ble_eq_true rfl⟩) hK hN hP (va_Dsame hD rfl) hS hA [1, 2] rfl rfl 1 4 (T := TX4) (N := 1) rfl rfl rfl hl.1 rfl (Nat.le_of_ble_eq_true rfl) dX1_addOwed_23 ⟨Nat.zero_le _, Nat.zero_le _⟩ [none, some 0, some 1, none, none] 2 [(a, .inr (1, [.ref a_places, .ref a_firstHours, .ref a_spans, .ref a_values, .ref a_cells, .ref a_needs, .ref a_owed, .ref a_room, .int i_squares, .int i_wishCount, .int w_14])), (a_owed, .inr (4, [.ref n_owed])), (n_owed, .inl (cI, 12, .inl o_23)), (a_room, .inr (4, [.ref n_room])), (n_room, .inl (cI, 2, .inl f_room))] rfl rfl (by decide) (fun H locs hP hS => ?_)
  refine lv_aload_n hx hb dX1_addOwed_26 rfl (lv_at hl 1 rfl) ?_
  refine va_get (D := D) (ci := 1) (v := .ref a_room) (C := RX1) (T := TX1) (N := 11) hx hb hts (fun _ h => List.mem_cons_of_mem _ (List.mem_append_left _ (List.mem_append_right _ (h)))) hown hK hP 0 rfl rfl 7 (by decide) (hts _ (List.mem_of_getElem? (i := 3) rfl)) (fun _ h9 => h9) rfl dX1_addOwed_27 ?_
  refine lv_iload_n hx hb dX1_addOwed_30 rfl (lv_at hl 0 rfl) ?_
  refine lv_aload_n hx hb dX1_addOwed_31 rfl (lv_at hl 1 rfl) ?_
  refine va_get (D := D) (ci := 1) (v := .ref a_room) (C := RX1) (T := TX1) (N := 11) hx hb hts (fun _ h => List.mem_cons_of_mem _ (List.mem_append_left _ (List.mem_append_right _ (h)))) hown hK hP 0 rfl rfl 7 (by decide) (hts _ (List.mem_of_getElem? (i := 3) rfl)) (fun _ h9 => h9) rfl dX1_addOwed_32 ?_
  refine lv_iload_n hx hb dX1_addOwed_35 rfl (lv_at hl 0 rfl) ?_
  obtain ⟨o_36, ho_36⟩ : ∃ z : Int32, z = v_X4_at (x1 / 6) f_room 2 := ⟨_, rfl⟩
  refine callVIs (As := [.int (x1 / 6)]) (rest := [.int (x1 / 6), .ref a_room]) o_36 ho_36 hF (k_X4_at l D cI cZ a_room n_room (x1 / 6) f_room 2 (by decide)) (cwV 1 hts gX1_addOwed_X4_at rfl rfl rfl (by decide +kernel) ⟨Nat.le_of_ble_eq_true rfl, Nat.le_of_ble_eq_true rfl⟩) hK hN hP (va_Dsame hD rfl) hS hA [3, 4] rfl rfl 3 4 (T := TX4) (N := 1) rfl rfl rfl hl.1 rfl (Nat.le_of_ble_eq_true rfl) dX1_addOwed_36 ⟨Nat.zero_le _, Nat.zero_le _⟩ o_36 rfl rfl (fun H locs hP hS => ?_)
  refine lv_bipush (v := 6) hx hb dX1_addOwed_39 rfl ?_
  refine lv_iload_n hx hb dX1_addOwed_41 rfl (lv_at hl 3 rfl) ?_
  refine lv_isub hx hb dX1_addOwed_42 ?_
  refine va_mmin hx hb (by rw [hml]; exact hl.1.symm) hown (hts _ (List.mem_of_getElem? (i := 4) rfl)) (hts _ (List.mem_of_getElem? (i := 5) rfl)) (hts _ (List.mem_of_getElem? (i := 6) rfl)) (hts _ (List.mem_of_getElem? (i := 7) rfl)) (Nat.le_of_ble_eq_true rfl) (Nat.le_of_ble_eq_true rfl) (Nat.zero_le _) (Nat.zero_le _) dX1_addOwed_43 ?_
  obtain ⟨o_46, ho_46⟩ : ∃ z : Nat → Int32, z = v_X4_put (x1 / 6) (if (6 - x2) < o_36 then (6 - x2) else o_36) f_room 2 := ⟨_, rfl⟩
  refine callVV (As := [.int (x1 / 6), .int (if (6 - x2) < o_36 then (6 - x2) else o_36)]) (rest := []) o_46 ho_46 hF (k_X4_put l D cI cZ a_room n_room (x1 / 6) (if (6 - x2) < o_36 then (6 - x2) else o_36) f_room 2 (by decide)) (cwV 2 hts gX1_addOwed_X4_put rfl rfl rfl (by decide +kernel) ⟨Nat.le_of_ble_eq_true rfl, Nat.le_of_ble_eq_true rfl⟩) hK hN hP (va_Dsame hD rfl) hS hA [3, 4] rfl rfl 3 4 (T := TX4) (N := 1) rfl rfl rfl hl.1 rfl (Nat.le_of_ble_eq_true rfl) dX1_addOwed_46 ⟨Nat.zero_le _, Nat.zero_le _⟩ [none, none, none, some 0, some 1] 2 [(a, .inr (1, [.ref a_places, .ref a_firstHours, .ref a_spans, .ref a_values, .ref a_cells, .ref a_needs, .ref a_owed, .ref a_room, .int i_squares, .int i_wishCount, .int w_14])), (a_owed, .inr (4, [.ref n_owed])), (n_owed, .inl (cI, 12, .inl o_23)), (a_room, .inr (4, [.ref n_room])), (n_room, .inl (cI, 2, .inl o_46))] rfl rfl (by decide) (fun H locs hP hS => ?_)
  have e9 : v_X1_addOwed x1 x2 i_owedPlaces f_owed f_room = (w_14, o_23, o_46) := by
    refine (bnd_eq hw_14).trans ?_
    refine (bnd_eq ho_23).trans ?_
    refine (bnd_eq ho_36).trans ?_
    refine (bnd_eq ho_46).trans ?_
    rfl
  rw [hQ]; exact retV (w_14, o_23, o_46) hx hb hr hlk e9 hP hS dX1_addOwed_49
def v_X1_squares (i_squares : Int32) : Int32 :=
  i_squares
abbrev rm_X1_squares : Room := { frames := 0, cells := 0, slots := 0, locals := 0 }
set_option maxHeartbeats 4000000 in
set_option maxRecDepth 100000 in
theorem k_X1_squares (l : Launch) (D : va_G) (cI cZ : ClassId) (a a_places a_firstHours a_spans a_values a_cells a_needs a_owed a_room : Nat) (i_squares : Int32) (i_wishCount : Int32) (i_owedPlaces : Int32) : KI l D cI cZ yX1_squares wsX1_squares rm_X1_squares [.ref a] [(a, .inr (1, [.ref a_places, .ref a_firstHours, .ref a_spans, .ref a_values, .ref a_cells, .ref a_needs, .ref a_owed, .ref a_room, .int i_squares, .int i_wishCount, .int i_owedPlaces]))] (v_X1_squares i_squares) (fun o : Int32 => o) (fun _ : Int32 => [(a, .inr (1, [.ref a_places, .ref a_firstHours, .ref a_spans, .ref a_values, .ref a_cells, .ref a_needs, .ref a_owed, .ref a_room, .int i_squares, .int i_wishCount, .int i_owedPlaces]))]) := by
  refine KI.of cX1_squares 1 (some .int) (by decide) rfl (Nat.le_of_ble_eq_true rfl) ?_
  intro p e s m below meth c A ls ar Q hQ B
  obtain ⟨hx, hb, hr, hml, hts, hown, hlk, hK, hN, hP, hD, hA, hS, hl⟩ := B
  have hown : s.vm.findClass RX1 = some m.cls := hown
  have hF : CallFix p m c cX1_squares 1 s ar wsX1_squares RX1 := ⟨hx, hb, hml, hown, hts⟩
  have hl : lv_has ls 1 [(0, .ref a)] := hl
  refine lv_aload_n hx hb dX1_squares_0 rfl (lv_at hl 0 rfl) ?_
  refine va_get (D := D) (ci := 1) (v := .int i_squares) (C := RX1) (T := TX1) (N := 11) hx hb hts (fun _ h => List.mem_cons_of_mem _ (List.mem_append_right _ (h))) hown hK hP 0 rfl rfl 8 (by decide) (hts _ (List.mem_of_getElem? (i := 1) rfl)) (fun _ h9 => h9) rfl dX1_squares_1 ?_
  have e9 : v_X1_squares i_squares = i_squares := by
    rfl
  rw [hQ]; exact retI i_squares hx hb hr hlk e9 hP rfl hS dX1_squares_4
def v_X1_wishCount (i_wishCount : Int32) : Int32 :=
  i_wishCount
abbrev rm_X1_wishCount : Room := { frames := 0, cells := 0, slots := 0, locals := 0 }
set_option maxHeartbeats 4000000 in
set_option maxRecDepth 100000 in
theorem k_X1_wishCount (l : Launch) (D : va_G) (cI cZ : ClassId) (a a_places a_firstHours a_spans a_values a_cells a_needs a_owed a_room : Nat) (i_squares : Int32) (i_wishCount : Int32) (i_owedPlaces : Int32) : KI l D cI cZ yX1_wishCount wsX1_wishCount rm_X1_wishCount [.ref a] [(a, .inr (1, [.ref a_places, .ref a_firstHours, .ref a_spans, .ref a_values, .ref a_cells, .ref a_needs, .ref a_owed, .ref a_room, .int i_squares, .int i_wishCount, .int i_owedPlaces]))] (v_X1_wishCount i_wishCount) (fun o : Int32 => o) (fun _ : Int32 => [(a, .inr (1, [.ref a_places, .ref a_firstHours, .ref a_spans, .ref a_values, .ref a_cells, .ref a_needs, .ref a_owed, .ref a_room, .int i_squares, .int i_wishCount, .int i_owedPlaces]))]) := by
  refine KI.of cX1_wishCount 1 (some .int) (by decide) rfl (Nat.le_of_ble_eq_true rfl) ?_
  intro p e s m below meth c A ls ar Q hQ B
  obtain ⟨hx, hb, hr, hml, hts, hown, hlk, hK, hN, hP, hD, hA, hS, hl⟩ := B
  have hown : s.vm.findClass RX1 = some m.cls := hown
  have hF : CallFix p m c cX1_wishCount 1 s ar wsX1_wishCount RX1 := ⟨hx, hb, hml, hown, hts⟩
  have hl : lv_has ls 1 [(0, .ref a)] := hl
  refine lv_aload_n hx hb dX1_wishCount_0 rfl (lv_at hl 0 rfl) ?_
  refine va_get (D := D) (ci := 1) (v := .int i_wishCount) (C := RX1) (T := TX1) (N := 11) hx hb hts (fun _ h => List.mem_cons_of_mem _ (List.mem_append_right _ (h))) hown hK hP 0 rfl rfl 9 (by decide) (hts _ (List.mem_of_getElem? (i := 1) rfl)) (fun _ h9 => h9) rfl dX1_wishCount_1 ?_
  have e9 : v_X1_wishCount i_wishCount = i_wishCount := by
    rfl
  rw [hQ]; exact retI i_wishCount hx hb hr hlk e9 hP rfl hS dX1_wishCount_4
def v_X1_allWishes (i_wishCount : Int32) : Int32 :=
  (((1 : Int32) <<< (i_wishCount &&& 31)) - 1)
abbrev rm_X1_allWishes : Room := { frames := 0, cells := 0, slots := 0, locals := 0 }
set_option maxHeartbeats 4000000 in
set_option maxRecDepth 100000 in
theorem k_X1_allWishes (l : Launch) (D : va_G) (cI cZ : ClassId) (a a_places a_firstHours a_spans a_values a_cells a_needs a_owed a_room : Nat) (i_squares : Int32) (i_wishCount : Int32) (i_owedPlaces : Int32) : KI l D cI cZ yX1_allWishes wsX1_allWishes rm_X1_allWishes [.ref a] [(a, .inr (1, [.ref a_places, .ref a_firstHours, .ref a_spans, .ref a_values, .ref a_cells, .ref a_needs, .ref a_owed, .ref a_room, .int i_squares, .int i_wishCount, .int i_owedPlaces]))] (v_X1_allWishes i_wishCount) (fun o : Int32 => o) (fun _ : Int32 => [(a, .inr (1, [.ref a_places, .ref a_firstHours, .ref a_spans, .ref a_values, .ref a_cells, .ref a_needs, .ref a_owed, .ref a_room, .int i_squares, .int i_wishCount, .int i_owedPlaces]))]) := by
  refine KI.of cX1_allWishes 1 (some .int) (by decide) rfl (Nat.le_of_ble_eq_true rfl) ?_
  intro p e s m below meth c A ls ar Q hQ B
  obtain ⟨hx, hb, hr, hml, hts, hown, hlk, hK, hN, hP, hD, hA, hS, hl⟩ := B
  have hown : s.vm.findClass RX1 = some m.cls := hown
  have hF : CallFix p m c cX1_allWishes 1 s ar wsX1_allWishes RX1 := ⟨hx, hb, hml, hown, hts⟩
  have hl : lv_has ls 1 [(0, .ref a)] := hl
  refine lv_iconst (v := 1) hx hb dX1_allWishes_0 rfl ?_
  refine lv_aload_n hx hb dX1_allWishes_1 rfl (lv_at hl 0 rfl) ?_
  refine va_get (D := D) (ci := 1) (v := .int i_wishCount) (C := RX1) (T := TX1) (N := 11) hx hb hts (fun _ h => List.mem_cons_of_mem _ (List.mem_append_right _ (h))) hown hK hP 0 rfl rfl 9 (by decide) (hts _ (List.mem_of_getElem? (i := 1) rfl)) (fun _ h9 => h9) rfl dX1_allWishes_2 ?_
  refine lv_ishl hx hb dX1_allWishes_5 ?_
  refine lv_iconst (v := 1) hx hb dX1_allWishes_6 rfl ?_
  refine lv_isub hx hb dX1_allWishes_7 ?_
  have e9 : v_X1_allWishes i_wishCount = (((1 : Int32) <<< (i_wishCount &&& 31)) - 1) := by
    rfl
  rw [hQ]; exact retI (((1 : Int32) <<< (i_wishCount &&& 31)) - 1) hx hb hr hlk e9 hP rfl hS dX1_allWishes_8
def v_X1_owedPlaces (i_owedPlaces : Int32) : Int32 :=
  i_owedPlaces
abbrev rm_X1_owedPlaces : Room := { frames := 0, cells := 0, slots := 0, locals := 0 }
set_option maxHeartbeats 4000000 in
set_option maxRecDepth 100000 in
theorem k_X1_owedPlaces (l : Launch) (D : va_G) (cI cZ : ClassId) (a a_places a_firstHours a_spans a_values a_cells a_needs a_owed a_room : Nat) (i_squares : Int32) (i_wishCount : Int32) (i_owedPlaces : Int32) : KI l D cI cZ yX1_owedPlaces wsX1_owedPlaces rm_X1_owedPlaces [.ref a] [(a, .inr (1, [.ref a_places, .ref a_firstHours, .ref a_spans, .ref a_values, .ref a_cells, .ref a_needs, .ref a_owed, .ref a_room, .int i_squares, .int i_wishCount, .int i_owedPlaces]))] (v_X1_owedPlaces i_owedPlaces) (fun o : Int32 => o) (fun _ : Int32 => [(a, .inr (1, [.ref a_places, .ref a_firstHours, .ref a_spans, .ref a_values, .ref a_cells, .ref a_needs, .ref a_owed, .ref a_room, .int i_squares, .int i_wishCount, .int i_owedPlaces]))]) := by
  refine KI.of cX1_owedPlaces 1 (some .int) (by decide) rfl (Nat.le_of_ble_eq_true rfl) ?_
  intro p e s m below meth c A ls ar Q hQ B
  obtain ⟨hx, hb, hr, hml, hts, hown, hlk, hK, hN, hP, hD, hA, hS, hl⟩ := B
  have hown : s.vm.findClass RX1 = some m.cls := hown
  have hF : CallFix p m c cX1_owedPlaces 1 s ar wsX1_owedPlaces RX1 := ⟨hx, hb, hml, hown, hts⟩
  have hl : lv_has ls 1 [(0, .ref a)] := hl
  refine lv_aload_n hx hb dX1_owedPlaces_0 rfl (lv_at hl 0 rfl) ?_
  refine va_get (D := D) (ci := 1) (v := .int i_owedPlaces) (C := RX1) (T := TX1) (N := 11) hx hb hts (fun _ h => List.mem_cons_of_mem _ (List.mem_append_right _ (h))) hown hK hP 0 rfl rfl 10 (by decide) (hts _ (List.mem_of_getElem? (i := 1) rfl)) (fun _ h9 => h9) rfl dX1_owedPlaces_1 ?_
  have e9 : v_X1_owedPlaces i_owedPlaces = i_owedPlaces := by
    rfl
  rw [hQ]; exact retI i_owedPlaces hx hb hr hlk e9 hP rfl hS dX1_owedPlaces_4
def v_J6_bitCount_0f7a4 (x0 : Int32) : Int32 :=
  bnd ((((x0 - ((uS x0 1) &&& 1431655765)) &&& 858993459) + ((uS (x0 - ((uS x0 1) &&& 1431655765)) 2) &&& 858993459))) fun w_23 =>
  (bnd ((((w_23 + (uS w_23 4)) &&& 252645135) + (uS ((w_23 + (uS w_23 4)) &&& 252645135) 8))) fun w_40 =>
  ((w_40 + (uS w_40 16)) &&& 63))
abbrev rm_J6_bitCount_0f7a4 : Room := { frames := 0, cells := 0, slots := 0, locals := 0 }
set_option maxHeartbeats 4000000 in
set_option maxRecDepth 100000 in
theorem k_J6_bitCount_0f7a4 (l : Launch) (D : va_G) (cI cZ : ClassId) (x0 : Int32) : KI l D cI cZ yJ6_bitCount_0f7a4 wsJ6_bitCount_0f7a4 rm_J6_bitCount_0f7a4 [.int x0] [] (v_J6_bitCount_0f7a4 x0) (fun o : Int32 => o) (fun _ : Int32 => []) := by
  refine KI.of cJ6_bitCount_0f7a4 1 (some .int) (by decide) rfl (Nat.le_of_ble_eq_true rfl) ?_
  intro p e s m below meth c A ls ar Q hQ B
  obtain ⟨hx, hb, hr, hml, hts, hown, hlk, hK, hN, hP, hD, hA, hS, hl⟩ := B
  have hown : s.vm.findClass RJ6 = some m.cls := hown
  have hF : CallFix p m c cJ6_bitCount_0f7a4 1 s ar wsJ6_bitCount_0f7a4 RJ6 := ⟨hx, hb, hml, hown, hts⟩
  have hl : lv_has ls 1 [(0, .int x0)] := hl
  refine lv_iload_n hx hb dJ6_bitCount_0f7a4_0 rfl (lv_at hl 0 rfl) ?_
  refine lv_iload_n hx hb dJ6_bitCount_0f7a4_1 rfl (lv_at hl 0 rfl) ?_
  refine lv_iconst (v := 1) hx hb dJ6_bitCount_0f7a4_2 rfl ?_
  refine lv_iushr (v := (uS x0 1)) hx hb dJ6_bitCount_0f7a4_3 rfl ?_
  refine lv_ldcw (v := 1431655765) hx hb hown (hts _ (List.mem_of_getElem? (i := 1) rfl)) dJ6_bitCount_0f7a4_4 ?_
  refine lv_iand hx hb dJ6_bitCount_0f7a4_7 ?_
  refine lv_isub hx hb dJ6_bitCount_0f7a4_8 ?_
  refine lv_istore_n (lv' := [(0, .int (x0 - ((uS x0 1) &&& 1431655765)))]) hx hb dJ6_bitCount_0f7a4_9 rfl hl (by decide) rfl (fun ls hl => ?_)
  refine lv_iload_n hx hb dJ6_bitCount_0f7a4_10 rfl (lv_at hl 0 rfl) ?_
  refine lv_ldcw (v := 858993459) hx hb hown (hts _ (List.mem_of_getElem? (i := 2) rfl)) dJ6_bitCount_0f7a4_11 ?_
  refine lv_iand hx hb dJ6_bitCount_0f7a4_14 ?_
  refine lv_iload_n hx hb dJ6_bitCount_0f7a4_15 rfl (lv_at hl 0 rfl) ?_
  refine lv_iconst (v := 2) hx hb dJ6_bitCount_0f7a4_16 rfl ?_
  refine lv_iushr (v := (uS (x0 - ((uS x0 1) &&& 1431655765)) 2)) hx hb dJ6_bitCount_0f7a4_17 rfl ?_
  refine lv_ldcw (v := 858993459) hx hb hown (hts _ (List.mem_of_getElem? (i := 2) rfl)) dJ6_bitCount_0f7a4_18 ?_
  refine lv_iand hx hb dJ6_bitCount_0f7a4_21 ?_
  refine lv_iadd hx hb dJ6_bitCount_0f7a4_22 ?_
  refine lv_topi (fun w_23 hw_23 => ?_)
  refine lv_istore_n (lv' := [(0, .int w_23)]) hx hb dJ6_bitCount_0f7a4_23 rfl hl (by decide) rfl (fun ls hl => ?_)
  refine lv_iload_n hx hb dJ6_bitCount_0f7a4_24 rfl (lv_at hl 0 rfl) ?_
  refine lv_iload_n hx hb dJ6_bitCount_0f7a4_25 rfl (lv_at hl 0 rfl) ?_
  refine lv_iconst (v := 4) hx hb dJ6_bitCount_0f7a4_26 rfl ?_
  refine lv_iushr (v := (uS w_23 4)) hx hb dJ6_bitCount_0f7a4_27 rfl ?_
  refine lv_iadd hx hb dJ6_bitCount_0f7a4_28 ?_
  refine lv_ldcw (v := 252645135) hx hb hown (hts _ (List.mem_of_getElem? (i := 3) rfl)) dJ6_bitCount_0f7a4_29 ?_
  refine lv_iand hx hb dJ6_bitCount_0f7a4_32 ?_
  refine lv_istore_n (lv' := [(0, .int ((w_23 + (uS w_23 4)) &&& 252645135))]) hx hb dJ6_bitCount_0f7a4_33 rfl hl (by decide) rfl (fun ls hl => ?_)
  refine lv_iload_n hx hb dJ6_bitCount_0f7a4_34 rfl (lv_at hl 0 rfl) ?_
  refine lv_iload_n hx hb dJ6_bitCount_0f7a4_35 rfl (lv_at hl 0 rfl) ?_
  refine lv_bipush (v := 8) hx hb dJ6_bitCount_0f7a4_36 rfl ?_
  refine lv_iushr (v := (uS ((w_23 + (uS w_23 4)) &&& 252645135) 8)) hx hb dJ6_bitCount_0f7a4_38 rfl ?_
  refine lv_iadd hx hb dJ6_bitCount_0f7a4_39 ?_
  refine lv_topi (fun w_40 hw_40 => ?_)
  refine lv_istore_n (lv' := [(0, .int w_40)]) hx hb dJ6_bitCount_0f7a4_40 rfl hl (by decide) rfl (fun ls hl => ?_)
  refine lv_iload_n hx hb dJ6_bitCount_0f7a4_41 rfl (lv_at hl 0 rfl) ?_
  refine lv_iload_n hx hb dJ6_bitCount_0f7a4_42 rfl (lv_at hl 0 rfl) ?_
  refine lv_bipush (v := 16) hx hb dJ6_bitCount_0f7a4_43 rfl ?_
  refine lv_iushr (v := (uS w_40 16)) hx hb dJ6_bitCount_0f7a4_45 rfl ?_
  refine lv_iadd hx hb dJ6_bitCount_0f7a4_46 ?_
  refine lv_istore_n (lv' := [(0, .int (w_40 + (uS w_40 16)))]) hx hb dJ6_bitCount_0f7a4_47 rfl hl (by decide) rfl (fun ls hl => ?_)
  refine lv_iload_n hx hb dJ6_bitCount_0f7a4_48 rfl (lv_at hl 0 rfl) ?_
  refine lv_bipush (v := 63) hx hb dJ6_bitCount_0f7a4_49 rfl ?_
  refine lv_iand hx hb dJ6_bitCount_0f7a4_51 ?_
  have e9 : v_J6_bitCount_0f7a4 x0 = ((w_40 + (uS w_40 16)) &&& 63) := by
    refine (bnd_eq hw_23).trans ?_
    refine (bnd_eq hw_40).trans ?_
    rfl
  rw [hQ]; exact retI ((w_40 + (uS w_40 16)) &&& 63) hx hb hr hlk e9 hP rfl hS dJ6_bitCount_0f7a4_52
theorem bc_63 (x : Int32) : ∃ j : Nat, j < 64 ∧ v_J6_bitCount_0f7a4 x = nI j := pk_andE _ 6 rfl
def v_X1_owedCount (i_owedPlaces : Int32) : Int32 :=
  bnd (v_J6_bitCount_0f7a4 i_owedPlaces) fun o_4 =>
  o_4
abbrev rm_X1_owedCount : Room := { frames := 1, cells := 0, slots := 0, locals := 20 }
set_option maxHeartbeats 4000000 in
set_option maxRecDepth 100000 in
theorem k_X1_owedCount (l : Launch) (D : va_G) (cI cZ : ClassId) (a a_places a_firstHours a_spans a_values a_cells a_needs a_owed a_room : Nat) (i_squares : Int32) (i_wishCount : Int32) (i_owedPlaces : Int32) : KI l D cI cZ yX1_owedCount wsX1_owedCount rm_X1_owedCount [.ref a] [(a, .inr (1, [.ref a_places, .ref a_firstHours, .ref a_spans, .ref a_values, .ref a_cells, .ref a_needs, .ref a_owed, .ref a_room, .int i_squares, .int i_wishCount, .int i_owedPlaces]))] (v_X1_owedCount i_owedPlaces) (fun o : Int32 => o) (fun _ : Int32 => [(a, .inr (1, [.ref a_places, .ref a_firstHours, .ref a_spans, .ref a_values, .ref a_cells, .ref a_needs, .ref a_owed, .ref a_room, .int i_squares, .int i_wishCount, .int i_owedPlaces]))]) := by
  refine KI.of cX1_owedCount 1 (some .int) (by decide) rfl (Nat.le_of_ble_eq_true rfl) ?_
  intro p e s m below meth c A ls ar Q hQ B
  obtain ⟨hx, hb, hr, hml, hts, hown, hlk, hK, hN, hP, hD, hA, hS, hl⟩ := B
  have hown : s.vm.findClass RX1 = some m.cls := hown
  have hF : CallFix p m c cX1_owedCount 1 s ar wsX1_owedCount RX1 := ⟨hx, hb, hml, hown, hts⟩
  have hl : lv_has ls 1 [(0, .ref a)] := hl
  refine lv_aload_n hx hb dX1_owedCount_0 rfl (lv_at hl 0 rfl) ?_
  refine va_get (D := D) (ci := 1) (v := .int i_owedPlaces) (C := RX1) (T := TX1) (N := 11) hx hb hts (fun _ h => List.mem_cons_of_mem _ (List.mem_append_right _ (h))) hown hK hP 0 rfl rfl 10 (by decide) (hts _ (List.mem_of_getElem? (i := 1) rfl)) (fun _ h9 => h9) rfl dX1_owedCount_1 ?_
  obtain ⟨o_4, ho_4⟩ : ∃ z : Int32, z = v_J6_bitCount_0f7a4 i_owedPlaces := ⟨_, rfl⟩
  refine callSIs (As := [.int i_owedPlaces]) (rest := []) o_4 ho_4 hF (k_J6_bitCount_0f7a4 l D cI cZ i_owedPlaces) (va_cwS 1 hts gX1_owedCount_J6_bitCount_0f7a4 rfl rfl rfl (by decide +kernel) ⟨Nat.le_of_ble_eq_true rfl, Nat.le_of_ble_eq_true rfl⟩) hK hN hP (va_Dsame hD rfl) hS hA [] rfl rfl rfl hl.1 rfl (Nat.le_of_ble_eq_true rfl) dX1_owedCount_4 ⟨Nat.zero_le _, Nat.zero_le _⟩ o_4 rfl rfl (fun H locs hP hS => ?_)
  have e9 : v_X1_owedCount i_owedPlaces = o_4 := by
    refine (bnd_eq ho_4).trans ?_
    rfl
  rw [hQ]; exact retI o_4 hx hb hr hlk e9 hP rfl hS dX1_owedCount_7
def v_X1_owedTo (x1 : Int32) (f_owed : Nat → Int32) : Int32 :=
  bnd (v_X4_at x1 f_owed 12) fun o_5 =>
  o_5
abbrev rm_X1_owedTo : Room := { frames := 1, cells := 0, slots := 0, locals := 21 }
set_option maxHeartbeats 4000000 in
set_option maxRecDepth 100000 in
theorem k_X1_owedTo (l : Launch) (D : va_G) (cI cZ : ClassId) (a a_places a_firstHours a_spans a_values a_cells a_needs a_owed a_room n_owed : Nat) (x1 : Int32) (i_squares : Int32) (i_wishCount : Int32) (i_owedPlaces : Int32) (f_owed : Nat → Int32) : KI l D cI cZ yX1_owedTo wsX1_owedTo rm_X1_owedTo [.ref a, .int x1] [(a, .inr (1, [.ref a_places, .ref a_firstHours, .ref a_spans, .ref a_values, .ref a_cells, .ref a_needs, .ref a_owed, .ref a_room, .int i_squares, .int i_wishCount, .int i_owedPlaces])), (a_owed, .inr (4, [.ref n_owed])), (n_owed, .inl (cI, 12, .inl f_owed))] (v_X1_owedTo x1 f_owed) (fun o : Int32 => o) (fun _ : Int32 => [(a, .inr (1, [.ref a_places, .ref a_firstHours, .ref a_spans, .ref a_values, .ref a_cells, .ref a_needs, .ref a_owed, .ref a_room, .int i_squares, .int i_wishCount, .int i_owedPlaces])), (a_owed, .inr (4, [.ref n_owed])), (n_owed, .inl (cI, 12, .inl f_owed))]) := by
  refine KI.of cX1_owedTo 2 (some .int) (by decide) rfl (Nat.le_of_ble_eq_true rfl) ?_
  intro p e s m below meth c A ls ar Q hQ B
  obtain ⟨hx, hb, hr, hml, hts, hown, hlk, hK, hN, hP, hD, hA, hS, hl⟩ := B
  have hown : s.vm.findClass RX1 = some m.cls := hown
  have hF : CallFix p m c cX1_owedTo 2 s ar wsX1_owedTo RX1 := ⟨hx, hb, hml, hown, hts⟩
  have hl : lv_has ls 2 [(0, .ref a), (1, .int x1)] := hl
  refine lv_aload_n hx hb dX1_owedTo_0 rfl (lv_at hl 0 rfl) ?_
  refine va_get (D := D) (ci := 1) (v := .ref a_owed) (C := RX1) (T := TX1) (N := 11) hx hb hts (fun _ h => List.mem_cons_of_mem _ (List.mem_append_left _ (List.mem_append_right _ (h)))) hown hK hP 0 rfl rfl 6 (by decide) (hts _ (List.mem_of_getElem? (i := 1) rfl)) (fun _ h9 => h9) rfl dX1_owedTo_1 ?_
  refine lv_iload_n hx hb dX1_owedTo_4 rfl (lv_at hl 1 rfl) ?_
  obtain ⟨o_5, ho_5⟩ : ∃ z : Int32, z = v_X4_at x1 f_owed 12 := ⟨_, rfl⟩
  refine callVIs (As := [.int x1]) (rest := []) o_5 ho_5 hF (k_X4_at l D cI cZ a_owed n_owed x1 f_owed 12 (by decide)) (cwV 1 hts gX1_owedTo_X4_at rfl rfl rfl (by decide +kernel) ⟨Nat.le_of_ble_eq_true rfl, Nat.le_of_ble_eq_true rfl⟩) hK hN hP (va_Dsame hD rfl) hS hA [1, 2] rfl rfl 1 4 (T := TX4) (N := 1) rfl rfl rfl hl.1 rfl (Nat.le_of_ble_eq_true rfl) dX1_owedTo_5 ⟨Nat.zero_le _, Nat.zero_le _⟩ o_5 rfl rfl (fun H locs hP hS => ?_)
  have e9 : v_X1_owedTo x1 f_owed = o_5 := by
    refine (bnd_eq ho_5).trans ?_
    rfl
  rw [hQ]; exact retI o_5 hx hb hr hlk e9 hP rfl hS dX1_owedTo_8
def v_X1_placeOf (x1 : Int32) (f_places : Nat → Int32) : Int32 :=
  bnd (v_X4_at x1 f_places 5) fun o_5 =>
  o_5
abbrev rm_X1_placeOf : Room := { frames := 1, cells := 0, slots := 0, locals := 21 }
set_option maxHeartbeats 4000000 in
set_option maxRecDepth 100000 in
theorem k_X1_placeOf (l : Launch) (D : va_G) (cI cZ : ClassId) (a a_places a_firstHours a_spans a_values a_cells a_needs a_owed a_room n_places : Nat) (x1 : Int32) (i_squares : Int32) (i_wishCount : Int32) (i_owedPlaces : Int32) (f_places : Nat → Int32) : KI l D cI cZ yX1_placeOf wsX1_placeOf rm_X1_placeOf [.ref a, .int x1] [(a, .inr (1, [.ref a_places, .ref a_firstHours, .ref a_spans, .ref a_values, .ref a_cells, .ref a_needs, .ref a_owed, .ref a_room, .int i_squares, .int i_wishCount, .int i_owedPlaces])), (a_places, .inr (4, [.ref n_places])), (n_places, .inl (cI, 5, .inl f_places))] (v_X1_placeOf x1 f_places) (fun o : Int32 => o) (fun _ : Int32 => [(a, .inr (1, [.ref a_places, .ref a_firstHours, .ref a_spans, .ref a_values, .ref a_cells, .ref a_needs, .ref a_owed, .ref a_room, .int i_squares, .int i_wishCount, .int i_owedPlaces])), (a_places, .inr (4, [.ref n_places])), (n_places, .inl (cI, 5, .inl f_places))]) := by
  refine KI.of cX1_placeOf 2 (some .int) (by decide) rfl (Nat.le_of_ble_eq_true rfl) ?_
  intro p e s m below meth c A ls ar Q hQ B
  obtain ⟨hx, hb, hr, hml, hts, hown, hlk, hK, hN, hP, hD, hA, hS, hl⟩ := B
  have hown : s.vm.findClass RX1 = some m.cls := hown
  have hF : CallFix p m c cX1_placeOf 2 s ar wsX1_placeOf RX1 := ⟨hx, hb, hml, hown, hts⟩
  have hl : lv_has ls 2 [(0, .ref a), (1, .int x1)] := hl
  refine lv_aload_n hx hb dX1_placeOf_0 rfl (lv_at hl 0 rfl) ?_
  refine va_get (D := D) (ci := 1) (v := .ref a_places) (C := RX1) (T := TX1) (N := 11) hx hb hts (fun _ h => List.mem_cons_of_mem _ (List.mem_append_left _ (List.mem_append_right _ (h)))) hown hK hP 0 rfl rfl 0 (by decide) (hts _ (List.mem_of_getElem? (i := 1) rfl)) (fun _ h9 => h9) rfl dX1_placeOf_1 ?_
  refine lv_iload_n hx hb dX1_placeOf_4 rfl (lv_at hl 1 rfl) ?_
  obtain ⟨o_5, ho_5⟩ : ∃ z : Int32, z = v_X4_at x1 f_places 5 := ⟨_, rfl⟩
  refine callVIs (As := [.int x1]) (rest := []) o_5 ho_5 hF (k_X4_at l D cI cZ a_places n_places x1 f_places 5 (by decide)) (cwV 1 hts gX1_placeOf_X4_at rfl rfl rfl (by decide +kernel) ⟨Nat.le_of_ble_eq_true rfl, Nat.le_of_ble_eq_true rfl⟩) hK hN hP (va_Dsame hD rfl) hS hA [1, 2] rfl rfl 1 4 (T := TX4) (N := 1) rfl rfl rfl hl.1 rfl (Nat.le_of_ble_eq_true rfl) dX1_placeOf_5 ⟨Nat.zero_le _, Nat.zero_le _⟩ o_5 rfl rfl (fun H locs hP hS => ?_)
  have e9 : v_X1_placeOf x1 f_places = o_5 := by
    refine (bnd_eq ho_5).trans ?_
    rfl
  rw [hQ]; exact retI o_5 hx hb hr hlk e9 hP rfl hS dX1_placeOf_8
def v_X1_firstHourOf (x1 : Int32) (f_firstHours : Nat → Int32) : Int32 :=
  bnd (v_X4_at x1 f_firstHours 5) fun o_5 =>
  o_5
abbrev rm_X1_firstHourOf : Room := { frames := 1, cells := 0, slots := 0, locals := 21 }
set_option maxHeartbeats 4000000 in
set_option maxRecDepth 100000 in
theorem k_X1_firstHourOf (l : Launch) (D : va_G) (cI cZ : ClassId) (a a_places a_firstHours a_spans a_values a_cells a_needs a_owed a_room n_firstHours : Nat) (x1 : Int32) (i_squares : Int32) (i_wishCount : Int32) (i_owedPlaces : Int32) (f_firstHours : Nat → Int32) : KI l D cI cZ yX1_firstHourOf wsX1_firstHourOf rm_X1_firstHourOf [.ref a, .int x1] [(a, .inr (1, [.ref a_places, .ref a_firstHours, .ref a_spans, .ref a_values, .ref a_cells, .ref a_needs, .ref a_owed, .ref a_room, .int i_squares, .int i_wishCount, .int i_owedPlaces])), (a_firstHours, .inr (4, [.ref n_firstHours])), (n_firstHours, .inl (cI, 5, .inl f_firstHours))] (v_X1_firstHourOf x1 f_firstHours) (fun o : Int32 => o) (fun _ : Int32 => [(a, .inr (1, [.ref a_places, .ref a_firstHours, .ref a_spans, .ref a_values, .ref a_cells, .ref a_needs, .ref a_owed, .ref a_room, .int i_squares, .int i_wishCount, .int i_owedPlaces])), (a_firstHours, .inr (4, [.ref n_firstHours])), (n_firstHours, .inl (cI, 5, .inl f_firstHours))]) := by
  refine KI.of cX1_firstHourOf 2 (some .int) (by decide) rfl (Nat.le_of_ble_eq_true rfl) ?_
  intro p e s m below meth c A ls ar Q hQ B
  obtain ⟨hx, hb, hr, hml, hts, hown, hlk, hK, hN, hP, hD, hA, hS, hl⟩ := B
  have hown : s.vm.findClass RX1 = some m.cls := hown
  have hF : CallFix p m c cX1_firstHourOf 2 s ar wsX1_firstHourOf RX1 := ⟨hx, hb, hml, hown, hts⟩
  have hl : lv_has ls 2 [(0, .ref a), (1, .int x1)] := hl
  refine lv_aload_n hx hb dX1_firstHourOf_0 rfl (lv_at hl 0 rfl) ?_
  refine va_get (D := D) (ci := 1) (v := .ref a_firstHours) (C := RX1) (T := TX1) (N := 11) hx hb hts (fun _ h => List.mem_cons_of_mem _ (List.mem_append_left _ (List.mem_append_right _ (h)))) hown hK hP 0 rfl rfl 1 (by decide) (hts _ (List.mem_of_getElem? (i := 1) rfl)) (fun _ h9 => h9) rfl dX1_firstHourOf_1 ?_
  refine lv_iload_n hx hb dX1_firstHourOf_4 rfl (lv_at hl 1 rfl) ?_
  obtain ⟨o_5, ho_5⟩ : ∃ z : Int32, z = v_X4_at x1 f_firstHours 5 := ⟨_, rfl⟩
  refine callVIs (As := [.int x1]) (rest := []) o_5 ho_5 hF (k_X4_at l D cI cZ a_firstHours n_firstHours x1 f_firstHours 5 (by decide)) (cwV 1 hts gX1_firstHourOf_X4_at rfl rfl rfl (by decide +kernel) ⟨Nat.le_of_ble_eq_true rfl, Nat.le_of_ble_eq_true rfl⟩) hK hN hP (va_Dsame hD rfl) hS hA [1, 2] rfl rfl 1 4 (T := TX4) (N := 1) rfl rfl rfl hl.1 rfl (Nat.le_of_ble_eq_true rfl) dX1_firstHourOf_5 ⟨Nat.zero_le _, Nat.zero_le _⟩ o_5 rfl rfl (fun H locs hP hS => ?_)
  have e9 : v_X1_firstHourOf x1 f_firstHours = o_5 := by
    refine (bnd_eq ho_5).trans ?_
    rfl
  rw [hQ]; exact retI o_5 hx hb hr hlk e9 hP rfl hS dX1_firstHourOf_8
def v_X1_spanOf (x1 : Int32) (f_spans : Nat → Int32) : Int32 :=
  bnd (v_X4_at x1 f_spans 5) fun o_5 =>
  o_5
abbrev rm_X1_spanOf : Room := { frames := 1, cells := 0, slots := 0, locals := 21 }
set_option maxHeartbeats 4000000 in
set_option maxRecDepth 100000 in
theorem k_X1_spanOf (l : Launch) (D : va_G) (cI cZ : ClassId) (a a_places a_firstHours a_spans a_values a_cells a_needs a_owed a_room n_spans : Nat) (x1 : Int32) (i_squares : Int32) (i_wishCount : Int32) (i_owedPlaces : Int32) (f_spans : Nat → Int32) : KI l D cI cZ yX1_spanOf wsX1_spanOf rm_X1_spanOf [.ref a, .int x1] [(a, .inr (1, [.ref a_places, .ref a_firstHours, .ref a_spans, .ref a_values, .ref a_cells, .ref a_needs, .ref a_owed, .ref a_room, .int i_squares, .int i_wishCount, .int i_owedPlaces])), (a_spans, .inr (4, [.ref n_spans])), (n_spans, .inl (cI, 5, .inl f_spans))] (v_X1_spanOf x1 f_spans) (fun o : Int32 => o) (fun _ : Int32 => [(a, .inr (1, [.ref a_places, .ref a_firstHours, .ref a_spans, .ref a_values, .ref a_cells, .ref a_needs, .ref a_owed, .ref a_room, .int i_squares, .int i_wishCount, .int i_owedPlaces])), (a_spans, .inr (4, [.ref n_spans])), (n_spans, .inl (cI, 5, .inl f_spans))]) := by
  refine KI.of cX1_spanOf 2 (some .int) (by decide) rfl (Nat.le_of_ble_eq_true rfl) ?_
  intro p e s m below meth c A ls ar Q hQ B
  obtain ⟨hx, hb, hr, hml, hts, hown, hlk, hK, hN, hP, hD, hA, hS, hl⟩ := B
  have hown : s.vm.findClass RX1 = some m.cls := hown
  have hF : CallFix p m c cX1_spanOf 2 s ar wsX1_spanOf RX1 := ⟨hx, hb, hml, hown, hts⟩
  have hl : lv_has ls 2 [(0, .ref a), (1, .int x1)] := hl
  refine lv_aload_n hx hb dX1_spanOf_0 rfl (lv_at hl 0 rfl) ?_
  refine va_get (D := D) (ci := 1) (v := .ref a_spans) (C := RX1) (T := TX1) (N := 11) hx hb hts (fun _ h => List.mem_cons_of_mem _ (List.mem_append_left _ (List.mem_append_right _ (h)))) hown hK hP 0 rfl rfl 2 (by decide) (hts _ (List.mem_of_getElem? (i := 1) rfl)) (fun _ h9 => h9) rfl dX1_spanOf_1 ?_
  refine lv_iload_n hx hb dX1_spanOf_4 rfl (lv_at hl 1 rfl) ?_
  obtain ⟨o_5, ho_5⟩ : ∃ z : Int32, z = v_X4_at x1 f_spans 5 := ⟨_, rfl⟩
  refine callVIs (As := [.int x1]) (rest := []) o_5 ho_5 hF (k_X4_at l D cI cZ a_spans n_spans x1 f_spans 5 (by decide)) (cwV 1 hts gX1_spanOf_X4_at rfl rfl rfl (by decide +kernel) ⟨Nat.le_of_ble_eq_true rfl, Nat.le_of_ble_eq_true rfl⟩) hK hN hP (va_Dsame hD rfl) hS hA [1, 2] rfl rfl 1 4 (T := TX4) (N := 1) rfl rfl rfl hl.1 rfl (Nat.le_of_ble_eq_true rfl) dX1_spanOf_5 ⟨Nat.zero_le _, Nat.zero_le _⟩ o_5 rfl rfl (fun H locs hP hS => ?_)
  have e9 : v_X1_spanOf x1 f_spans = o_5 := by
    refine (bnd_eq ho_5).trans ?_
    rfl
  rw [hQ]; exact retI o_5 hx hb hr hlk e9 hP rfl hS dX1_spanOf_8
def v_X1_valueOf (x1 : Int32) (f_values : Nat → Int32) : Int32 :=
  bnd (v_X4_at x1 f_values 5) fun o_5 =>
  o_5
abbrev rm_X1_valueOf : Room := { frames := 1, cells := 0, slots := 0, locals := 21 }
set_option maxHeartbeats 4000000 in
set_option maxRecDepth 100000 in
theorem k_X1_valueOf (l : Launch) (D : va_G) (cI cZ : ClassId) (a a_places a_firstHours a_spans a_values a_cells a_needs a_owed a_room n_values : Nat) (x1 : Int32) (i_squares : Int32) (i_wishCount : Int32) (i_owedPlaces : Int32) (f_values : Nat → Int32) : KI l D cI cZ yX1_valueOf wsX1_valueOf rm_X1_valueOf [.ref a, .int x1] [(a, .inr (1, [.ref a_places, .ref a_firstHours, .ref a_spans, .ref a_values, .ref a_cells, .ref a_needs, .ref a_owed, .ref a_room, .int i_squares, .int i_wishCount, .int i_owedPlaces])), (a_values, .inr (4, [.ref n_values])), (n_values, .inl (cI, 5, .inl f_values))] (v_X1_valueOf x1 f_values) (fun o : Int32 => o) (fun _ : Int32 => [(a, .inr (1, [.ref a_places, .ref a_firstHours, .ref a_spans, .ref a_values, .ref a_cells, .ref a_needs, .ref a_owed, .ref a_room, .int i_squares, .int i_wishCount, .int i_owedPlaces])), (a_values, .inr (4, [.ref n_values])), (n_values, .inl (cI, 5, .inl f_values))]) := by
  refine KI.of cX1_valueOf 2 (some .int) (by decide) rfl (Nat.le_of_ble_eq_true rfl) ?_
  intro p e s m below meth c A ls ar Q hQ B
  obtain ⟨hx, hb, hr, hml, hts, hown, hlk, hK, hN, hP, hD, hA, hS, hl⟩ := B
  have hown : s.vm.findClass RX1 = some m.cls := hown
  have hF : CallFix p m c cX1_valueOf 2 s ar wsX1_valueOf RX1 := ⟨hx, hb, hml, hown, hts⟩
  have hl : lv_has ls 2 [(0, .ref a), (1, .int x1)] := hl
  refine lv_aload_n hx hb dX1_valueOf_0 rfl (lv_at hl 0 rfl) ?_
  refine va_get (D := D) (ci := 1) (v := .ref a_values) (C := RX1) (T := TX1) (N := 11) hx hb hts (fun _ h => List.mem_cons_of_mem _ (List.mem_append_left _ (List.mem_append_right _ (h)))) hown hK hP 0 rfl rfl 3 (by decide) (hts _ (List.mem_of_getElem? (i := 1) rfl)) (fun _ h9 => h9) rfl dX1_valueOf_1 ?_
  refine lv_iload_n hx hb dX1_valueOf_4 rfl (lv_at hl 1 rfl) ?_
  obtain ⟨o_5, ho_5⟩ : ∃ z : Int32, z = v_X4_at x1 f_values 5 := ⟨_, rfl⟩
  refine callVIs (As := [.int x1]) (rest := []) o_5 ho_5 hF (k_X4_at l D cI cZ a_values n_values x1 f_values 5 (by decide)) (cwV 1 hts gX1_valueOf_X4_at rfl rfl rfl (by decide +kernel) ⟨Nat.le_of_ble_eq_true rfl, Nat.le_of_ble_eq_true rfl⟩) hK hN hP (va_Dsame hD rfl) hS hA [1, 2] rfl rfl 1 4 (T := TX4) (N := 1) rfl rfl rfl hl.1 rfl (Nat.le_of_ble_eq_true rfl) dX1_valueOf_5 ⟨Nat.zero_le _, Nat.zero_le _⟩ o_5 rfl rfl (fun H locs hP hS => ?_)
  have e9 : v_X1_valueOf x1 f_values = o_5 := by
    refine (bnd_eq ho_5).trans ?_
    rfl
  rw [hQ]; exact retI o_5 hx hb hr hlk e9 hP rfl hS dX1_valueOf_8
def v_X1_wantsDark (x1 : Int32) (f_needs : Nat → Int32) : Bool :=
  bnd (v_X4_at x1 f_needs 5) fun o_5 =>
  (if o_5 = 0 then false
  else true)
abbrev rm_X1_wantsDark : Room := { frames := 1, cells := 0, slots := 0, locals := 21 }
set_option maxHeartbeats 4000000 in
set_option maxRecDepth 100000 in
theorem k_X1_wantsDark (l : Launch) (D : va_G) (cI cZ : ClassId) (a a_places a_firstHours a_spans a_values a_cells a_needs a_owed a_room n_needs : Nat) (x1 : Int32) (i_squares : Int32) (i_wishCount : Int32) (i_owedPlaces : Int32) (f_needs : Nat → Int32) : KI l D cI cZ yX1_wantsDark wsX1_wantsDark rm_X1_wantsDark [.ref a, .int x1] [(a, .inr (1, [.ref a_places, .ref a_firstHours, .ref a_spans, .ref a_values, .ref a_cells, .ref a_needs, .ref a_owed, .ref a_room, .int i_squares, .int i_wishCount, .int i_owedPlaces])), (a_needs, .inr (4, [.ref n_needs])), (n_needs, .inl (cI, 5, .inl f_needs))] (v_X1_wantsDark x1 f_needs) (fun o : Bool => bI o) (fun _ : Bool => [(a, .inr (1, [.ref a_places, .ref a_firstHours, .ref a_spans, .ref a_values, .ref a_cells, .ref a_needs, .ref a_owed, .ref a_room, .int i_squares, .int i_wishCount, .int i_owedPlaces])), (a_needs, .inr (4, [.ref n_needs])), (n_needs, .inl (cI, 5, .inl f_needs))]) := by
  refine KI.of cX1_wantsDark 2 (some .boolean) (by decide) rfl (Nat.le_of_ble_eq_true rfl) ?_
  intro p e s m below meth c A ls ar Q hQ B
  obtain ⟨hx, hb, hr, hml, hts, hown, hlk, hK, hN, hP, hD, hA, hS, hl⟩ := B
  have hown : s.vm.findClass RX1 = some m.cls := hown
  have hF : CallFix p m c cX1_wantsDark 2 s ar wsX1_wantsDark RX1 := ⟨hx, hb, hml, hown, hts⟩
  have hl : lv_has ls 2 [(0, .ref a), (1, .int x1)] := hl
  refine lv_aload_n hx hb dX1_wantsDark_0 rfl (lv_at hl 0 rfl) ?_
  refine va_get (D := D) (ci := 1) (v := .ref a_needs) (C := RX1) (T := TX1) (N := 11) hx hb hts (fun _ h => List.mem_cons_of_mem _ (List.mem_append_left _ (List.mem_append_right _ (h)))) hown hK hP 0 rfl rfl 5 (by decide) (hts _ (List.mem_of_getElem? (i := 1) rfl)) (fun _ h9 => h9) rfl dX1_wantsDark_1 ?_
  refine lv_iload_n hx hb dX1_wantsDark_4 rfl (lv_at hl 1 rfl) ?_
  obtain ⟨o_5, ho_5⟩ : ∃ z : Int32, z = v_X4_at x1 f_needs 5 := ⟨_, rfl⟩
  refine callVIs (As := [.int x1]) (rest := []) o_5 ho_5 hF (k_X4_at l D cI cZ a_needs n_needs x1 f_needs 5 (by decide)) (cwV 1 hts gX1_wantsDark_X4_at rfl rfl rfl (by decide +kernel) ⟨Nat.le_of_ble_eq_true rfl, Nat.le_of_ble_eq_true rfl⟩) hK hN hP (va_Dsame hD rfl) hS hA [1, 2] rfl rfl 1 4 (T := TX4) (N := 1) rfl rfl rfl hl.1 rfl (Nat.le_of_ble_eq_true rfl) dX1_wantsDark_5 ⟨Nat.zero_le _, Nat.zero_le _⟩ o_5 rfl rfl (fun H locs hP hS => ?_)
  refine lv_if_eq (tgt := 15) hx hb dX1_wantsDark_8 (by decide) (fun c_8 => ?_) (fun c_8 => ?_)
  · refine lv_iconst (v := 0) hx hb dX1_wantsDark_15 rfl ?_
    have e9 : v_X1_wantsDark x1 f_needs = false := by
      refine (bnd_eq ho_5).trans ?_
      refine (if_pos c_8).trans ?_
      rfl
    rw [hQ]; exact retZ (v := fun o : Bool => o) false hx hb hr hlk e9 hP rfl hS dX1_wantsDark_16
  · refine lv_iconst (v := 1) hx hb dX1_wantsDark_11 rfl ?_
    refine lv_goto (tgt := 16) hx hb dX1_wantsDark_12 (by decide) ?_
    have e9 : v_X1_wantsDark x1 f_needs = true := by
      refine (bnd_eq ho_5).trans ?_
      refine (if_neg c_8).trans ?_
      rfl
    rw [hQ]; exact retZ (v := fun o : Bool => o) true hx hb hr hlk e9 hP rfl hS dX1_wantsDark_16
def v_X1_hoursOf_L4 (x1 : Int32) (f_spans : Nat → Int32) (f_firstHours : Nat → Int32) (i4 : Nat) (z4 : Int32) : Int32 :=
  bnd (v_X4_at x1 f_spans 5) fun o_10 =>
  (bnd (v_X4_at x1 f_firstHours 5) fun o_23 =>
  (bnd ((z4 ||| ((1 : Int32) <<< (((o_23 + nI i4) - (o_23 + nI i4) / 6 * 6) &&& 31)))) fun w_33 =>
  w_33))
def v_X1_hoursOf (x1 : Int32) (f_spans : Nat → Int32) (f_firstHours : Nat → Int32) : Int32 :=
  bnd (it (v_X1_hoursOf_L4 x1 f_spans f_firstHours) (v_X4_at x1 f_spans 5).toNatClampNeg 0 0) fun o_L4 =>
  o_L4
abbrev rm_X1_hoursOf : Room := { frames := 1, cells := 0, slots := 0, locals := 21 }
set_option maxHeartbeats 4000000 in
set_option maxRecDepth 100000 in
theorem k_X1_hoursOf (l : Launch) (D : va_G) (cI cZ : ClassId) (a a_places a_firstHours a_spans a_values a_cells a_needs a_owed a_room n_spans n_firstHours : Nat) (x1 : Int32) (i_squares : Int32) (i_wishCount : Int32) (i_owedPlaces : Int32) (f_spans : Nat → Int32) (f_firstHours : Nat → Int32) : KI l D cI cZ yX1_hoursOf wsX1_hoursOf rm_X1_hoursOf [.ref a, .int x1] [(a, .inr (1, [.ref a_places, .ref a_firstHours, .ref a_spans, .ref a_values, .ref a_cells, .ref a_needs, .ref a_owed, .ref a_room, .int i_squares, .int i_wishCount, .int i_owedPlaces])), (a_spans, .inr (4, [.ref n_spans])), (n_spans, .inl (cI, 5, .inl f_spans)), (a_firstHours, .inr (4, [.ref n_firstHours])), (n_firstHours, .inl (cI, 5, .inl f_firstHours))] (v_X1_hoursOf x1 f_spans f_firstHours) (fun o : Int32 => o) (fun _ : Int32 => [(a, .inr (1, [.ref a_places, .ref a_firstHours, .ref a_spans, .ref a_values, .ref a_cells, .ref a_needs, .ref a_owed, .ref a_room, .int i_squares, .int i_wishCount, .int i_owedPlaces])), (a_spans, .inr (4, [.ref n_spans])), (n_spans, .inl (cI, 5, .inl f_spans)), (a_firstHours, .inr (4, [.ref n_firstHours])), (n_firstHours, .inl (cI, 5, .inl f_firstHours))]) := by
  refine KI.of cX1_hoursOf 4 (some .int) (by decide) rfl (Nat.le_of_ble_eq_true rfl) ?_
  intro p e s m below meth c A ls ar Q hQ B
  obtain ⟨hx, hb, hr, hml, hts, hown, hlk, hK, hN, hP, hD, hA, hS, hl⟩ := B
  have hown : s.vm.findClass RX1 = some m.cls := hown
  have hF : CallFix p m c cX1_hoursOf 4 s ar wsX1_hoursOf RX1 := ⟨hx, hb, hml, hown, hts⟩
  have hl : lv_has ls 4 [(0, .ref a), (1, .int x1)] := hl
  refine lv_iconst (v := 0) hx hb dX1_hoursOf_0 rfl ?_
  refine lv_istore_n (lv' := [(2, .int 0), (0, .ref a), (1, .int x1)]) hx hb dX1_hoursOf_1 rfl hl (by decide) rfl (fun ls hl => ?_)
  refine lv_iconst (v := 0) hx hb dX1_hoursOf_2 rfl ?_
  refine lv_istore_n (lv' := [(3, .int 0), (2, .int 0), (0, .ref a), (1, .int x1)]) hx hb dX1_hoursOf_3 rfl hl (by decide) rfl (fun ls hl => ?_)
  obtain ⟨o_L4, ho_L4⟩ : ∃ z : Int32, z = it (v_X1_hoursOf_L4 x1 f_spans f_firstHours) (v_X4_at x1 f_spans 5).toNatClampNeg 0 0 := ⟨_, rfl⟩
  have kE4 : ∀ (H : Heap) (locs : List Loc) (ls : Array Slot), va_P D vwCl [(a, .inr (1, [.ref a_places, .ref a_firstHours, .ref a_spans, .ref a_values, .ref a_cells, .ref a_needs, .ref a_owed, .ref a_room, .int i_squares, .int i_wishCount, .int i_owedPlaces])), (a_spans, .inr (4, [.ref n_spans])), (n_spans, .inl (cI, 5, .inl f_spans)), (a_firstHours, .inr (4, [.ref n_firstHours])), (n_firstHours, .inl (cI, 5, .inl f_firstHours))] H → va_S A s.heap H locs → lv_has ls 4 [(2, .int o_L4)] → W p l e rm_X1_hoursOf s m ar below meth c H locs 0 0 Q (F0 m 40 ls []) := by
    intro H locs ls hP hS hl
    refine lv_iload_n hx hb dX1_hoursOf_40 rfl (lv_at hl 0 rfl) ?_
    have e9 : v_X1_hoursOf x1 f_spans f_firstHours = o_L4 := by
      refine (bnd_eq ho_L4).trans ?_
      rfl
    rw [hQ]; exact retI o_L4 hx hb hr hlk e9 hP rfl hS dX1_hoursOf_41
  have loop4 : ∀ (k i4 : Nat) (z4 : Int32), 0 ≤ i4 → i4 + k = 0 + (v_X4_at x1 f_spans 5).toNatClampNeg → it (v_X1_hoursOf_L4 x1 f_spans f_firstHours) k i4 z4 = o_L4 → ∀ (H : Heap) (locs : List Loc) (ls : Array Slot), va_P D vwCl [(a, .inr (1, [.ref a_places, .ref a_firstHours, .ref a_spans, .ref a_values, .ref a_cells, .ref a_needs, .ref a_owed, .ref a_room, .int i_squares, .int i_wishCount, .int i_owedPlaces])), (a_spans, .inr (4, [.ref n_spans])), (n_spans, .inl (cI, 5, .inl f_spans)), (a_firstHours, .inr (4, [.ref n_firstHours])), (n_firstHours, .inl (cI, 5, .inl f_firstHours))] H → va_S A s.heap H locs → lv_has ls 4 [(3, .int (nI i4)), (2, .int z4), (0, .ref a), (1, .int x1)] → W p l e rm_X1_hoursOf s m ar below meth c H locs 0 0 Q (F0 m 4 ls []) := by
    intro k
    induction k with
    | zero =>
      intro i4 z4 hi0 hik hz H locs ls hP hS hl
      have hz : z4 = o_L4 := it_0 hz
      subst z4
      refine lv_iload_n hx hb dX1_hoursOf_4 rfl (lv_at hl 0 rfl) ?_
      refine lv_aload_n hx hb dX1_hoursOf_5 rfl (lv_at hl 2 rfl) ?_
      refine va_get (D := D) (ci := 1) (v := .ref a_spans) (C := RX1) (T := TX1) (N := 11) hx hb hts (fun _ h => List.mem_cons_of_mem _ (List.mem_append_left _ (List.mem_append_right _ (h)))) hown hK hP 0 rfl rfl 2 (by decide) (hts _ (List.mem_of_getElem? (i := 1) rfl)) (fun _ h9 => h9) rfl dX1_hoursOf_6 ?_
      refine lv_iload_n hx hb dX1_hoursOf_9 rfl (lv_at hl 3 rfl) ?_
      obtain ⟨o_10, ho_10⟩ : ∃ z : Int32, z = v_X4_at x1 f_spans 5 := ⟨_, rfl⟩
      refine callVIs (As := [.int x1]) (rest := [.int (nI i4)]) o_10 ho_10 hF (k_X4_at l D cI cZ a_spans n_spans x1 f_spans 5 (by decide)) (cwV 1 hts gX1_hoursOf_X4_at rfl rfl rfl (by decide +kernel) ⟨Nat.le_of_ble_eq_true rfl, Nat.le_of_ble_eq_true rfl⟩) hK hN hP (va_Dsame hD rfl) hS hA [1, 2] rfl rfl 1 4 (T := TX4) (N := 1) rfl rfl rfl hl.1 rfl (Nat.le_of_ble_eq_true rfl) dX1_hoursOf_10 ⟨Nat.zero_le _, Nat.zero_le _⟩ o_10 rfl rfl (fun H locs hP hS => ?_)
      refine lv_icmp_ge (tgt := 40) hx hb dX1_hoursOf_13 (by decide) (fun _ => ?_) (fun c => absurd (by rw [ho_10]; exact (cb_ge (by omega) (by have := cb_lt31 (v_X4_at x1 f_spans 5); omega))) c)
      exact kE4 _ _ _ hP hS (lv_sub hl [1] rfl)
    | succ k ih =>
      intro i4 z4 hi0 hik hz H locs ls hP hS hl
      refine lv_iload_n hx hb dX1_hoursOf_4 rfl (lv_at hl 0 rfl) ?_
      refine lv_aload_n hx hb dX1_hoursOf_5 rfl (lv_at hl 2 rfl) ?_
      refine va_get (D := D) (ci := 1) (v := .ref a_spans) (C := RX1) (T := TX1) (N := 11) hx hb hts (fun _ h => List.mem_cons_of_mem _ (List.mem_append_left _ (List.mem_append_right _ (h)))) hown hK hP 0 rfl rfl 2 (by decide) (hts _ (List.mem_of_getElem? (i := 1) rfl)) (fun _ h9 => h9) rfl dX1_hoursOf_6 ?_
      refine lv_iload_n hx hb dX1_hoursOf_9 rfl (lv_at hl 3 rfl) ?_
      obtain ⟨o_10, ho_10⟩ : ∃ z : Int32, z = v_X4_at x1 f_spans 5 := ⟨_, rfl⟩
      refine callVIs (As := [.int x1]) (rest := [.int (nI i4)]) o_10 ho_10 hF (k_X4_at l D cI cZ a_spans n_spans x1 f_spans 5 (by decide)) (cwV 1 hts gX1_hoursOf_X4_at rfl rfl rfl (by decide +kernel) ⟨Nat.le_of_ble_eq_true rfl, Nat.le_of_ble_eq_true rfl⟩) hK hN hP (va_Dsame hD rfl) hS hA [1, 2] rfl rfl 1 4 (T := TX4) (N := 1) rfl rfl rfl hl.1 rfl (Nat.le_of_ble_eq_true rfl) dX1_hoursOf_10 ⟨Nat.zero_le _, Nat.zero_le _⟩ o_10 rfl rfl (fun H locs hP hS => ?_)
      refine lv_icmp_ge (tgt := 40) hx hb dX1_hoursOf_13 (by decide) (fun c => absurd c (by rw [ho_10]; exact (cb_lt (by omega)))) (fun _ => ?_)
      refine lv_iload_n hx hb dX1_hoursOf_16 rfl (lv_at hl 1 rfl) ?_
      refine lv_iconst (v := 1) hx hb dX1_hoursOf_17 rfl ?_
      refine lv_aload_n hx hb dX1_hoursOf_18 rfl (lv_at hl 2 rfl) ?_
      refine va_get (D := D) (ci := 1) (v := .ref a_firstHours) (C := RX1) (T := TX1) (N := 11) hx hb hts (fun _ h => List.mem_cons_of_mem _ (List.mem_append_left _ (List.mem_append_right _ (h)))) hown hK hP 0 rfl rfl 1 (by decide) (hts _ (List.mem_of_getElem? (i := 2) rfl)) (fun _ h9 => h9) rfl dX1_hoursOf_19 ?_
      refine lv_iload_n hx hb dX1_hoursOf_22 rfl (lv_at hl 3 rfl) ?_
      obtain ⟨o_23, ho_23⟩ : ∃ z : Int32, z = v_X4_at x1 f_firstHours 5 := ⟨_, rfl⟩
      refine callVIs (As := [.int x1]) (rest := [.int 1, .int z4]) o_23 ho_23 hF (k_X4_at l D cI cZ a_firstHours n_firstHours x1 f_firstHours 5 (by decide)) (cwV 1 hts gX1_hoursOf_X4_at rfl rfl rfl (by decide +kernel) ⟨Nat.le_of_ble_eq_true rfl, Nat.le_of_ble_eq_true rfl⟩) hK hN hP (va_Dsame hD rfl) hS hA [3, 4] rfl rfl 3 4 (T := TX4) (N := 1) rfl rfl rfl hl.1 rfl (Nat.le_of_ble_eq_true rfl) dX1_hoursOf_23 ⟨Nat.zero_le _, Nat.zero_le _⟩ o_23 rfl rfl (fun H locs hP hS => ?_)
      refine lv_iload_n hx hb dX1_hoursOf_26 rfl (lv_at hl 0 rfl) ?_
      refine lv_iadd hx hb dX1_hoursOf_27 ?_
      refine lv_bipush (v := 6) hx hb dX1_hoursOf_28 rfl ?_
      refine lv_irem hx hb dX1_hoursOf_30 (by decide) ?_
      refine lv_ishl hx hb dX1_hoursOf_31 ?_
      refine lv_ior hx hb dX1_hoursOf_32 ?_
      refine lv_topi (fun w_33 hw_33 => ?_)
      refine lv_istore_n (lv' := [(2, .int w_33), (3, .int (nI i4)), (0, .ref a), (1, .int x1)]) hx hb dX1_hoursOf_33 rfl hl (by decide) rfl (fun ls hl => ?_)
      refine lv_iinc (v := (nI (i4 + 1))) (lv' := [(3, .int (nI (i4 + 1))), (2, .int w_33), (0, .ref a), (1, .int x1)]) hx hb dX1_hoursOf_34 hl (k := 1) rfl (nI_1 _) (by decide) rfl (fun ls hl => ?_)
      refine lv_goto (tgt := 4) hx hb dX1_hoursOf_37 (by decide) ?_
      have e8 : v_X1_hoursOf_L4 x1 f_spans f_firstHours i4 z4 = w_33 := by
        refine (bnd_eq ho_10).trans ?_
        refine (bnd_eq ho_23).trans ?_
        refine (bnd_eq hw_33).trans ?_
        rfl
      exact ih (i4 + 1) w_33 (by omega) (by omega) (it_go e8 hz) _ _ _ hP hS (lv_sub hl [0, 1, 2, 3] rfl)
  exact loop4 (v_X4_at x1 f_spans 5).toNatClampNeg 0 0 (Nat.le_refl _) rfl ho_L4.symm _ _ _ hP hS (lv_sub hl [0, 1, 2, 3] rfl)
def v_X1_grantedBy_L4 (x1 : Int32) (f_cells : Nat → Int32) (f_needs : Nat → Int32) (i4 : Nat) (z4 : Int32) : Int32 :=
  bnd (v_X4_at (nI i4) f_cells 5) fun o_18 =>
  (bnd (v_X4_at (nI i4) f_needs 5) fun o_27 =>
  (if (x1 &&& o_18) = o_27 then (z4 ||| ((1 : Int32) <<< (nI i4 &&& 31)))
  else z4))
def v_X1_grantedBy (x1 : Int32) (i_wishCount : Int32) (f_cells : Nat → Int32) (f_needs : Nat → Int32) : Int32 :=
  bnd (it (v_X1_grantedBy_L4 x1 f_cells f_needs) i_wishCount.toNatClampNeg 0 0) fun o_L4 =>
  o_L4
abbrev rm_X1_grantedBy : Room := { frames := 1, cells := 0, slots := 0, locals := 21 }
set_option maxHeartbeats 4000000 in
set_option maxRecDepth 100000 in
theorem k_X1_grantedBy (l : Launch) (D : va_G) (cI cZ : ClassId) (a a_places a_firstHours a_spans a_values a_cells a_needs a_owed a_room n_cells n_needs : Nat) (x1 : Int32) (i_squares : Int32) (i_wishCount : Int32) (i_owedPlaces : Int32) (f_cells : Nat → Int32) (f_needs : Nat → Int32) : KI l D cI cZ yX1_grantedBy wsX1_grantedBy rm_X1_grantedBy [.ref a, .int x1] [(a, .inr (1, [.ref a_places, .ref a_firstHours, .ref a_spans, .ref a_values, .ref a_cells, .ref a_needs, .ref a_owed, .ref a_room, .int i_squares, .int i_wishCount, .int i_owedPlaces])), (a_cells, .inr (4, [.ref n_cells])), (n_cells, .inl (cI, 5, .inl f_cells)), (a_needs, .inr (4, [.ref n_needs])), (n_needs, .inl (cI, 5, .inl f_needs))] (v_X1_grantedBy x1 i_wishCount f_cells f_needs) (fun o : Int32 => o) (fun _ : Int32 => [(a, .inr (1, [.ref a_places, .ref a_firstHours, .ref a_spans, .ref a_values, .ref a_cells, .ref a_needs, .ref a_owed, .ref a_room, .int i_squares, .int i_wishCount, .int i_owedPlaces])), (a_cells, .inr (4, [.ref n_cells])), (n_cells, .inl (cI, 5, .inl f_cells)), (a_needs, .inr (4, [.ref n_needs])), (n_needs, .inl (cI, 5, .inl f_needs))]) := by
  refine KI.of cX1_grantedBy 4 (some .int) (by decide) rfl (Nat.le_of_ble_eq_true rfl) ?_
  intro p e s m below meth c A ls ar Q hQ B
  obtain ⟨hx, hb, hr, hml, hts, hown, hlk, hK, hN, hP, hD, hA, hS, hl⟩ := B
  have hown : s.vm.findClass RX1 = some m.cls := hown
  have hF : CallFix p m c cX1_grantedBy 4 s ar wsX1_grantedBy RX1 := ⟨hx, hb, hml, hown, hts⟩
  have hl : lv_has ls 4 [(0, .ref a), (1, .int x1)] := hl
  refine lv_iconst (v := 0) hx hb dX1_grantedBy_0 rfl ?_
  refine lv_istore_n (lv' := [(2, .int 0), (0, .ref a), (1, .int x1)]) hx hb dX1_grantedBy_1 rfl hl (by decide) rfl (fun ls hl => ?_)
  refine lv_iconst (v := 0) hx hb dX1_grantedBy_2 rfl ?_
  refine lv_istore_n (lv' := [(3, .int 0), (2, .int 0), (0, .ref a), (1, .int x1)]) hx hb dX1_grantedBy_3 rfl hl (by decide) rfl (fun ls hl => ?_)
  obtain ⟨o_L4, ho_L4⟩ : ∃ z : Int32, z = it (v_X1_grantedBy_L4 x1 f_cells f_needs) i_wishCount.toNatClampNeg 0 0 := ⟨_, rfl⟩
  have kE4 : ∀ (H : Heap) (locs : List Loc) (ls : Array Slot), va_P D vwCl [(a, .inr (1, [.ref a_places, .ref a_firstHours, .ref a_spans, .ref a_values, .ref a_cells, .ref a_needs, .ref a_owed, .ref a_room, .int i_squares, .int i_wishCount, .int i_owedPlaces])), (a_cells, .inr (4, [.ref n_cells])), (n_cells, .inl (cI, 5, .inl f_cells)), (a_needs, .inr (4, [.ref n_needs])), (n_needs, .inl (cI, 5, .inl f_needs))] H → va_S A s.heap H locs → lv_has ls 4 [(2, .int o_L4)] → W p l e rm_X1_grantedBy s m ar below meth c H locs 0 0 Q (F0 m 45 ls []) := by
    intro H locs ls hP hS hl
    refine lv_iload_n hx hb dX1_grantedBy_45 rfl (lv_at hl 0 rfl) ?_
    have e9 : v_X1_grantedBy x1 i_wishCount f_cells f_needs = o_L4 := by
      refine (bnd_eq ho_L4).trans ?_
      rfl
    rw [hQ]; exact retI o_L4 hx hb hr hlk e9 hP rfl hS dX1_grantedBy_46
  have loop4 : ∀ (k i4 : Nat) (z4 : Int32), 0 ≤ i4 → i4 + k = 0 + i_wishCount.toNatClampNeg → it (v_X1_grantedBy_L4 x1 f_cells f_needs) k i4 z4 = o_L4 → ∀ (H : Heap) (locs : List Loc) (ls : Array Slot), va_P D vwCl [(a, .inr (1, [.ref a_places, .ref a_firstHours, .ref a_spans, .ref a_values, .ref a_cells, .ref a_needs, .ref a_owed, .ref a_room, .int i_squares, .int i_wishCount, .int i_owedPlaces])), (a_cells, .inr (4, [.ref n_cells])), (n_cells, .inl (cI, 5, .inl f_cells)), (a_needs, .inr (4, [.ref n_needs])), (n_needs, .inl (cI, 5, .inl f_needs))] H → va_S A s.heap H locs → lv_has ls 4 [(3, .int (nI i4)), (2, .int z4), (0, .ref a), (1, .int x1)] → W p l e rm_X1_grantedBy s m ar below meth c H locs 0 0 Q (F0 m 4 ls []) := by
    intro k
    induction k with
    | zero =>
      intro i4 z4 hi0 hik hz H locs ls hP hS hl
      have hz : z4 = o_L4 := it_0 hz
      subst z4
      refine lv_iload_n hx hb dX1_grantedBy_4 rfl (lv_at hl 0 rfl) ?_
      refine lv_aload_n hx hb dX1_grantedBy_5 rfl (lv_at hl 2 rfl) ?_
      refine va_get (D := D) (ci := 1) (v := .int i_wishCount) (C := RX1) (T := TX1) (N := 11) hx hb hts (fun _ h => List.mem_cons_of_mem _ (List.mem_append_left _ (List.mem_append_right _ (h)))) hown hK hP 0 rfl rfl 9 (by decide) (hts _ (List.mem_of_getElem? (i := 1) rfl)) (fun _ h9 => h9) rfl dX1_grantedBy_6 ?_
      refine lv_icmp_ge (tgt := 45) hx hb dX1_grantedBy_9 (by decide) (fun _ => ?_) (fun c => absurd (cb_ge (by omega) (by have := cb_lt31 i_wishCount; omega)) c)
      exact kE4 _ _ _ hP hS (lv_sub hl [1] rfl)
    | succ k ih =>
      intro i4 z4 hi0 hik hz H locs ls hP hS hl
      refine lv_iload_n hx hb dX1_grantedBy_4 rfl (lv_at hl 0 rfl) ?_
      refine lv_aload_n hx hb dX1_grantedBy_5 rfl (lv_at hl 2 rfl) ?_
      refine va_get (D := D) (ci := 1) (v := .int i_wishCount) (C := RX1) (T := TX1) (N := 11) hx hb hts (fun _ h => List.mem_cons_of_mem _ (List.mem_append_left _ (List.mem_append_right _ (h)))) hown hK hP 0 rfl rfl 9 (by decide) (hts _ (List.mem_of_getElem? (i := 1) rfl)) (fun _ h9 => h9) rfl dX1_grantedBy_6 ?_
      refine lv_icmp_ge (tgt := 45) hx hb dX1_grantedBy_9 (by decide) (fun c => absurd c (cb_lt (by omega))) (fun _ => ?_)
      refine lv_iload_n hx hb dX1_grantedBy_12 rfl (lv_at hl 3 rfl) ?_
      refine lv_aload_n hx hb dX1_grantedBy_13 rfl (lv_at hl 2 rfl) ?_
      refine va_get (D := D) (ci := 1) (v := .ref a_cells) (C := RX1) (T := TX1) (N := 11) hx hb hts (fun _ h => List.mem_cons_of_mem _ (List.mem_append_left _ (List.mem_append_right _ (h)))) hown hK hP 0 rfl rfl 4 (by decide) (hts _ (List.mem_of_getElem? (i := 2) rfl)) (fun _ h9 => h9) rfl dX1_grantedBy_14 ?_
      refine lv_iload_n hx hb dX1_grantedBy_17 rfl (lv_at hl 0 rfl) ?_
      obtain ⟨o_18, ho_18⟩ : ∃ z : Int32, z = v_X4_at (nI i4) f_cells 5 := ⟨_, rfl⟩
      refine callVIs (As := [.int (nI i4)]) (rest := [.int x1]) o_18 ho_18 hF (k_X4_at l D cI cZ a_cells n_cells (nI i4) f_cells 5 (by decide)) (cwV 1 hts gX1_grantedBy_X4_at rfl rfl rfl (by decide +kernel) ⟨Nat.le_of_ble_eq_true rfl, Nat.le_of_ble_eq_true rfl⟩) hK hN hP (va_Dsame hD rfl) hS hA [1, 2] rfl rfl 1 4 (T := TX4) (N := 1) rfl rfl rfl hl.1 rfl (Nat.le_of_ble_eq_true rfl) dX1_grantedBy_18 ⟨Nat.zero_le _, Nat.zero_le _⟩ o_18 rfl rfl (fun H locs hP hS => ?_)
      refine lv_iand hx hb dX1_grantedBy_21 ?_
      refine lv_aload_n hx hb dX1_grantedBy_22 rfl (lv_at hl 2 rfl) ?_
      refine va_get (D := D) (ci := 1) (v := .ref a_needs) (C := RX1) (T := TX1) (N := 11) hx hb hts (fun _ h => List.mem_cons_of_mem _ (List.mem_append_left _ (List.mem_append_right _ (h)))) hown hK hP 0 rfl rfl 5 (by decide) (hts _ (List.mem_of_getElem? (i := 3) rfl)) (fun _ h9 => h9) rfl dX1_grantedBy_23 ?_
      refine lv_iload_n hx hb dX1_grantedBy_26 rfl (lv_at hl 0 rfl) ?_
      obtain ⟨o_27, ho_27⟩ : ∃ z : Int32, z = v_X4_at (nI i4) f_needs 5 := ⟨_, rfl⟩
      refine callVIs (As := [.int (nI i4)]) (rest := [.int (x1 &&& o_18)]) o_27 ho_27 hF (k_X4_at l D cI cZ a_needs n_needs (nI i4) f_needs 5 (by decide)) (cwV 1 hts gX1_grantedBy_X4_at rfl rfl rfl (by decide +kernel) ⟨Nat.le_of_ble_eq_true rfl, Nat.le_of_ble_eq_true rfl⟩) hK hN hP (va_Dsame hD rfl) hS hA [3, 4] rfl rfl 3 4 (T := TX4) (N := 1) rfl rfl rfl hl.1 rfl (Nat.le_of_ble_eq_true rfl) dX1_grantedBy_27 ⟨Nat.zero_le _, Nat.zero_le _⟩ o_27 rfl rfl (fun H locs hP hS => ?_)
      refine lv_icmp_ne (tgt := 39) hx hb dX1_grantedBy_30 (by decide) (fun c_30 => ?_) (fun c_30 => ?_)
      · refine lv_iinc (v := (nI (i4 + 1))) (lv' := [(3, .int (nI (i4 + 1))), (2, .int z4), (0, .ref a), (1, .int x1)]) hx hb dX1_grantedBy_39 hl (k := 0) rfl (nI_1 _) (by decide) rfl (fun ls hl => ?_)
        refine lv_goto (tgt := 4) hx hb dX1_grantedBy_42 (by decide) ?_
        have e8 : v_X1_grantedBy_L4 x1 f_cells f_needs i4 z4 = z4 := by
          refine (bnd_eq ho_18).trans ?_
          refine (bnd_eq ho_27).trans ?_
          refine (if_neg c_30).trans ?_
          rfl
        exact ih (i4 + 1) z4 (by omega) (by omega) (it_go e8 hz) _ _ _ hP hS (lv_sub hl [0, 1, 2, 3] rfl)
      · refine lv_iload_n hx hb dX1_grantedBy_33 rfl (lv_at hl 1 rfl) ?_
        refine lv_iconst (v := 1) hx hb dX1_grantedBy_34 rfl ?_
        refine lv_iload_n hx hb dX1_grantedBy_35 rfl (lv_at hl 0 rfl) ?_
        refine lv_ishl hx hb dX1_grantedBy_36 ?_
        refine lv_ior hx hb dX1_grantedBy_37 ?_
        refine lv_istore_n (lv' := [(2, .int (z4 ||| ((1 : Int32) <<< (nI i4 &&& 31)))), (3, .int (nI i4)), (0, .ref a), (1, .int x1)]) hx hb dX1_grantedBy_38 rfl hl (by decide) rfl (fun ls hl => ?_)
        refine lv_iinc (v := (nI (i4 + 1))) (lv' := [(3, .int (nI (i4 + 1))), (2, .int (z4 ||| ((1 : Int32) <<< (nI i4 &&& 31)))), (0, .ref a), (1, .int x1)]) hx hb dX1_grantedBy_39 hl (k := 1) rfl (nI_1 _) (by decide) rfl (fun ls hl => ?_)
        refine lv_goto (tgt := 4) hx hb dX1_grantedBy_42 (by decide) ?_
        have e8 : v_X1_grantedBy_L4 x1 f_cells f_needs i4 z4 = (z4 ||| ((1 : Int32) <<< (nI i4 &&& 31))) := by
          refine (bnd_eq ho_18).trans ?_
          refine (bnd_eq ho_27).trans ?_
          refine (if_pos c_30).trans ?_
          rfl
        exact ih (i4 + 1) (z4 ||| ((1 : Int32) <<< (nI i4 &&& 31))) (by omega) (by omega) (it_go e8 hz) _ _ _ hP hS (lv_sub hl [0, 1, 2, 3] rfl)
  exact loop4 i_wishCount.toNatClampNeg 0 0 (Nat.le_refl _) rfl ho_L4.symm _ _ _ hP hS (lv_sub hl [0, 1, 2, 3] rfl)
def v_X7_has (x0 : Int32) (x1 : Int32) : Bool :=
  if ((x0 >>> (x1 &&& 31)) &&& 1) = 1 then true
  else false
abbrev rm_X7_has : Room := { frames := 0, cells := 0, slots := 0, locals := 0 }
set_option maxHeartbeats 4000000 in
set_option maxRecDepth 100000 in
theorem k_X7_has (l : Launch) (D : va_G) (cI cZ : ClassId) (x0 : Int32) (x1 : Int32) : KI l D cI cZ yX7_has wsX7_has rm_X7_has [.int x0, .int x1] [] (v_X7_has x0 x1) (fun o : Bool => bI o) (fun _ : Bool => []) := by
  refine KI.of cX7_has 2 (some .boolean) (by decide) rfl (Nat.le_of_ble_eq_true rfl) ?_
  intro p e s m below meth c A ls ar Q hQ B
  obtain ⟨hx, hb, hr, hml, hts, hown, hlk, hK, hN, hP, hD, hA, hS, hl⟩ := B
  have hown : s.vm.findClass RX7 = some m.cls := hown
  have hF : CallFix p m c cX7_has 2 s ar wsX7_has RX7 := ⟨hx, hb, hml, hown, hts⟩
  have hl : lv_has ls 2 [(0, .int x0), (1, .int x1)] := hl
  refine lv_iload_n hx hb dX7_has_0 rfl (lv_at hl 0 rfl) ?_
  refine lv_iload_n hx hb dX7_has_1 rfl (lv_at hl 1 rfl) ?_
  refine lv_ishr hx hb dX7_has_2 ?_
  refine lv_iconst (v := 1) hx hb dX7_has_3 rfl ?_
  refine lv_iand hx hb dX7_has_4 ?_
  refine lv_iconst (v := 1) hx hb dX7_has_5 rfl ?_
  refine lv_icmp_ne (tgt := 13) hx hb dX7_has_6 (by decide) (fun c_6 => ?_) (fun c_6 => ?_)
  · refine lv_iconst (v := 0) hx hb dX7_has_13 rfl ?_
    have e9 : v_X7_has x0 x1 = false := by
      refine (if_neg c_6).trans ?_
      rfl
    rw [hQ]; exact retZ (v := fun o : Bool => o) false hx hb hr hlk e9 hP rfl hS dX7_has_14
  · refine lv_iconst (v := 1) hx hb dX7_has_9 rfl ?_
    refine lv_goto (tgt := 14) hx hb dX7_has_10 (by decide) ?_
    have e9 : v_X7_has x0 x1 = true := by
      refine (if_pos c_6).trans ?_
      rfl
    rw [hQ]; exact retZ (v := fun o : Bool => o) true hx hb hr hlk e9 hP rfl hS dX7_has_14
def v_X1_sumOf_L4 (x1 : Int32) (f_values : Nat → Int32) (i4 : Nat) (z4 : Int32) : Int32 :=
  bnd (v_X7_has x1 (nI i4)) fun o_15 =>
  (if bI o_15 = 0 then (z4 + 0)
  else (bnd (v_X4_at (nI i4) f_values 5) fun o_26 =>
  (z4 + o_26)))
def v_X1_sumOf (x1 : Int32) (i_wishCount : Int32) (f_values : Nat → Int32) : Int32 :=
  bnd (it (v_X1_sumOf_L4 x1 f_values) i_wishCount.toNatClampNeg 0 0) fun o_L4 =>
  o_L4
abbrev rm_X1_sumOf : Room := { frames := 1, cells := 0, slots := 0, locals := 21 }
set_option maxHeartbeats 4000000 in
set_option maxRecDepth 100000 in
theorem k_X1_sumOf (l : Launch) (D : va_G) (cI cZ : ClassId) (a a_places a_firstHours a_spans a_values a_cells a_needs a_owed a_room n_values : Nat) (x1 : Int32) (i_squares : Int32) (i_wishCount : Int32) (i_owedPlaces : Int32) (f_values : Nat → Int32) : KI l D cI cZ yX1_sumOf wsX1_sumOf rm_X1_sumOf [.ref a, .int x1] [(a, .inr (1, [.ref a_places, .ref a_firstHours, .ref a_spans, .ref a_values, .ref a_cells, .ref a_needs, .ref a_owed, .ref a_room, .int i_squares, .int i_wishCount, .int i_owedPlaces])), (a_values, .inr (4, [.ref n_values])), (n_values, .inl (cI, 5, .inl f_values))] (v_X1_sumOf x1 i_wishCount f_values) (fun o : Int32 => o) (fun _ : Int32 => [(a, .inr (1, [.ref a_places, .ref a_firstHours, .ref a_spans, .ref a_values, .ref a_cells, .ref a_needs, .ref a_owed, .ref a_room, .int i_squares, .int i_wishCount, .int i_owedPlaces])), (a_values, .inr (4, [.ref n_values])), (n_values, .inl (cI, 5, .inl f_values))]) := by
  refine KI.of cX1_sumOf 4 (some .int) (by decide) rfl (Nat.le_of_ble_eq_true rfl) ?_
  intro p e s m below meth c A ls ar Q hQ B
  obtain ⟨hx, hb, hr, hml, hts, hown, hlk, hK, hN, hP, hD, hA, hS, hl⟩ := B
  have hown : s.vm.findClass RX1 = some m.cls := hown
  have hF : CallFix p m c cX1_sumOf 4 s ar wsX1_sumOf RX1 := ⟨hx, hb, hml, hown, hts⟩
  have hl : lv_has ls 4 [(0, .ref a), (1, .int x1)] := hl
  refine lv_iconst (v := 0) hx hb dX1_sumOf_0 rfl ?_
  refine lv_istore_n (lv' := [(2, .int 0), (0, .ref a), (1, .int x1)]) hx hb dX1_sumOf_1 rfl hl (by decide) rfl (fun ls hl => ?_)
  refine lv_iconst (v := 0) hx hb dX1_sumOf_2 rfl ?_
  refine lv_istore_n (lv' := [(3, .int 0), (2, .int 0), (0, .ref a), (1, .int x1)]) hx hb dX1_sumOf_3 rfl hl (by decide) rfl (fun ls hl => ?_)
  obtain ⟨o_L4, ho_L4⟩ : ∃ z : Int32, z = it (v_X1_sumOf_L4 x1 f_values) i_wishCount.toNatClampNeg 0 0 := ⟨_, rfl⟩
  have kE4 : ∀ (H : Heap) (locs : List Loc) (ls : Array Slot), va_P D vwCl [(a, .inr (1, [.ref a_places, .ref a_firstHours, .ref a_spans, .ref a_values, .ref a_cells, .ref a_needs, .ref a_owed, .ref a_room, .int i_squares, .int i_wishCount, .int i_owedPlaces])), (a_values, .inr (4, [.ref n_values])), (n_values, .inl (cI, 5, .inl f_values))] H → va_S A s.heap H locs → lv_has ls 4 [(2, .int o_L4)] → W p l e rm_X1_sumOf s m ar below meth c H locs 0 0 Q (F0 m 41 ls []) := by
    intro H locs ls hP hS hl
    refine lv_iload_n hx hb dX1_sumOf_41 rfl (lv_at hl 0 rfl) ?_
    have e9 : v_X1_sumOf x1 i_wishCount f_values = o_L4 := by
      refine (bnd_eq ho_L4).trans ?_
      rfl
    rw [hQ]; exact retI o_L4 hx hb hr hlk e9 hP rfl hS dX1_sumOf_42
  have loop4 : ∀ (k i4 : Nat) (z4 : Int32), 0 ≤ i4 → i4 + k = 0 + i_wishCount.toNatClampNeg → it (v_X1_sumOf_L4 x1 f_values) k i4 z4 = o_L4 → ∀ (H : Heap) (locs : List Loc) (ls : Array Slot), va_P D vwCl [(a, .inr (1, [.ref a_places, .ref a_firstHours, .ref a_spans, .ref a_values, .ref a_cells, .ref a_needs, .ref a_owed, .ref a_room, .int i_squares, .int i_wishCount, .int i_owedPlaces])), (a_values, .inr (4, [.ref n_values])), (n_values, .inl (cI, 5, .inl f_values))] H → va_S A s.heap H locs → lv_has ls 4 [(3, .int (nI i4)), (2, .int z4), (0, .ref a), (1, .int x1)] → W p l e rm_X1_sumOf s m ar below meth c H locs 0 0 Q (F0 m 4 ls []) := by
    intro k
    induction k with
    | zero =>
      intro i4 z4 hi0 hik hz H locs ls hP hS hl
      have hz : z4 = o_L4 := it_0 hz
      subst z4
      refine lv_iload_n hx hb dX1_sumOf_4 rfl (lv_at hl 0 rfl) ?_
      refine lv_aload_n hx hb dX1_sumOf_5 rfl (lv_at hl 2 rfl) ?_
      refine va_get (D := D) (ci := 1) (v := .int i_wishCount) (C := RX1) (T := TX1) (N := 11) hx hb hts (fun _ h => List.mem_cons_of_mem _ (List.mem_append_left _ (List.mem_append_right _ (h)))) hown hK hP 0 rfl rfl 9 (by decide) (hts _ (List.mem_of_getElem? (i := 1) rfl)) (fun _ h9 => h9) rfl dX1_sumOf_6 ?_
      refine lv_icmp_ge (tgt := 41) hx hb dX1_sumOf_9 (by decide) (fun _ => ?_) (fun c => absurd (cb_ge (by omega) (by have := cb_lt31 i_wishCount; omega)) c)
      exact kE4 _ _ _ hP hS (lv_sub hl [1] rfl)
    | succ k ih =>
      intro i4 z4 hi0 hik hz H locs ls hP hS hl
      refine lv_iload_n hx hb dX1_sumOf_4 rfl (lv_at hl 0 rfl) ?_
      refine lv_aload_n hx hb dX1_sumOf_5 rfl (lv_at hl 2 rfl) ?_
      refine va_get (D := D) (ci := 1) (v := .int i_wishCount) (C := RX1) (T := TX1) (N := 11) hx hb hts (fun _ h => List.mem_cons_of_mem _ (List.mem_append_left _ (List.mem_append_right _ (h)))) hown hK hP 0 rfl rfl 9 (by decide) (hts _ (List.mem_of_getElem? (i := 1) rfl)) (fun _ h9 => h9) rfl dX1_sumOf_6 ?_
      refine lv_icmp_ge (tgt := 41) hx hb dX1_sumOf_9 (by decide) (fun c => absurd c (cb_lt (by omega))) (fun _ => ?_)
      refine lv_iload_n hx hb dX1_sumOf_12 rfl (lv_at hl 1 rfl) ?_
      refine lv_iload_n hx hb dX1_sumOf_13 rfl (lv_at hl 3 rfl) ?_
      refine lv_iload_n hx hb dX1_sumOf_14 rfl (lv_at hl 0 rfl) ?_
      obtain ⟨o_15, ho_15⟩ : ∃ z : Bool, z = v_X7_has x1 (nI i4) := ⟨_, rfl⟩
      refine callNIs (As := [.int x1, .int (nI i4)]) (rest := [.int z4]) o_15 ho_15 hF (k_X7_has l D cI cZ x1 (nI i4)) ⟨va_cnB 2 hts gX1_sumOf_X7_has_n79 rfl rfl rfl hN.2.2.2.2.2.1 (hts _ (List.mem_of_getElem? (i := 4) rfl)) (by decide +kernel) ⟨Nat.le_of_ble_eq_true rfl, Nat.le_of_ble_eq_true rfl⟩, (hts _ (List.mem_of_getElem? (i := 3) rfl)), trivial⟩ hK hN hP (va_Dsame hD rfl) hS hA [] rfl rfl rfl hl.1 rfl (Nat.le_of_ble_eq_true rfl) dX1_sumOf_15 ⟨Nat.zero_le _, Nat.zero_le _⟩ (bI o_15) rfl rfl (fun H locs hP hS => ?_)
      refine lv_if_eq (tgt := 32) hx hb dX1_sumOf_18 (by decide) (fun c_18 => ?_) (fun c_18 => ?_)
      · refine lv_iconst (v := 0) hx hb dX1_sumOf_32 rfl ?_
        refine lv_iadd hx hb dX1_sumOf_33 ?_
        refine lv_istore_n (lv' := [(2, .int (z4 + 0)), (3, .int (nI i4)), (0, .ref a), (1, .int x1)]) hx hb dX1_sumOf_34 rfl hl (by decide) rfl (fun ls hl => ?_)
        refine lv_iinc (v := (nI (i4 + 1))) (lv' := [(3, .int (nI (i4 + 1))), (2, .int (z4 + 0)), (0, .ref a), (1, .int x1)]) hx hb dX1_sumOf_35 hl (k := 1) rfl (nI_1 _) (by decide) rfl (fun ls hl => ?_)
        refine lv_goto (tgt := 4) hx hb dX1_sumOf_38 (by decide) ?_
        have e8 : v_X1_sumOf_L4 x1 f_values i4 z4 = (z4 + 0) := by
          refine (bnd_eq ho_15).trans ?_
          refine (if_pos c_18).trans ?_
          rfl
        exact ih (i4 + 1) (z4 + 0) (by omega) (by omega) (it_go e8 hz) _ _ _ hP hS (lv_sub hl [0, 1, 2, 3] rfl)
      · refine lv_aload_n hx hb dX1_sumOf_21 rfl (lv_at hl 2 rfl) ?_
        refine va_get (D := D) (ci := 1) (v := .ref a_values) (C := RX1) (T := TX1) (N := 11) hx hb hts (fun _ h => List.mem_cons_of_mem _ (List.mem_append_left _ (List.mem_append_right _ (h)))) hown hK hP 0 rfl rfl 3 (by decide) (hts _ (List.mem_of_getElem? (i := 2) rfl)) (fun _ h9 => h9) rfl dX1_sumOf_22 ?_
        refine lv_iload_n hx hb dX1_sumOf_25 rfl (lv_at hl 0 rfl) ?_
        obtain ⟨o_26, ho_26⟩ : ∃ z : Int32, z = v_X4_at (nI i4) f_values 5 := ⟨_, rfl⟩
        refine callVIs (As := [.int (nI i4)]) (rest := [.int z4]) o_26 ho_26 hF (k_X4_at l D cI cZ a_values n_values (nI i4) f_values 5 (by decide)) (cwV 1 hts gX1_sumOf_X4_at rfl rfl rfl (by decide +kernel) ⟨Nat.le_of_ble_eq_true rfl, Nat.le_of_ble_eq_true rfl⟩) hK hN hP (va_Dsame hD rfl) hS hA [1, 2] rfl rfl 1 4 (T := TX4) (N := 1) rfl rfl rfl hl.1 rfl (Nat.le_of_ble_eq_true rfl) dX1_sumOf_26 ⟨Nat.zero_le _, Nat.zero_le _⟩ o_26 rfl rfl (fun H locs hP hS => ?_)
        refine lv_goto (tgt := 33) hx hb dX1_sumOf_29 (by decide) ?_
        refine lv_iadd hx hb dX1_sumOf_33 ?_
        refine lv_istore_n (lv' := [(2, .int (z4 + o_26)), (3, .int (nI i4)), (0, .ref a), (1, .int x1)]) hx hb dX1_sumOf_34 rfl hl (by decide) rfl (fun ls hl => ?_)
        refine lv_iinc (v := (nI (i4 + 1))) (lv' := [(3, .int (nI (i4 + 1))), (2, .int (z4 + o_26)), (0, .ref a), (1, .int x1)]) hx hb dX1_sumOf_35 hl (k := 1) rfl (nI_1 _) (by decide) rfl (fun ls hl => ?_)
        refine lv_goto (tgt := 4) hx hb dX1_sumOf_38 (by decide) ?_
        have e8 : v_X1_sumOf_L4 x1 f_values i4 z4 = (z4 + o_26) := by
          refine (bnd_eq ho_15).trans ?_
          refine (if_neg c_18).trans ?_
          refine (bnd_eq ho_26).trans ?_
          rfl
        exact ih (i4 + 1) (z4 + o_26) (by omega) (by omega) (it_go e8 hz) _ _ _ hP hS (lv_sub hl [0, 1, 2, 3] rfl)
  exact loop4 i_wishCount.toNatClampNeg 0 0 (Nat.le_refl _) rfl ho_L4.symm _ _ _ hP hS (lv_sub hl [0, 1, 2, 3] rfl)
def v_X1_worthOf (x1 : Int32) (i_wishCount : Int32) (f_cells : Nat → Int32) (f_needs : Nat → Int32) (f_values : Nat → Int32) : Int32 :=
  bnd (v_X1_grantedBy x1 i_wishCount f_cells f_needs) fun o_3 =>
  (bnd (v_X1_sumOf o_3 i_wishCount f_values) fun o_6 =>
  o_6)
abbrev rm_X1_worthOf : Room := { frames := 2, cells := 0, slots := 0, locals := 44 }
set_option maxHeartbeats 4000000 in
set_option maxRecDepth 100000 in
theorem k_X1_worthOf (l : Launch) (D : va_G) (cI cZ : ClassId) (a a_places a_firstHours a_spans a_values a_cells a_needs a_owed a_room n_cells n_needs n_values : Nat) (x1 : Int32) (i_squares : Int32) (i_wishCount : Int32) (i_owedPlaces : Int32) (f_cells : Nat → Int32) (f_needs : Nat → Int32) (f_values : Nat → Int32) : KI l D cI cZ yX1_worthOf wsX1_worthOf rm_X1_worthOf [.ref a, .int x1] [(a, .inr (1, [.ref a_places, .ref a_firstHours, .ref a_spans, .ref a_values, .ref a_cells, .ref a_needs, .ref a_owed, .ref a_room, .int i_squares, .int i_wishCount, .int i_owedPlaces])), (a_cells, .inr (4, [.ref n_cells])), (n_cells, .inl (cI, 5, .inl f_cells)), (a_needs, .inr (4, [.ref n_needs])), (n_needs, .inl (cI, 5, .inl f_needs)), (a_values, .inr (4, [.ref n_values])), (n_values, .inl (cI, 5, .inl f_values))] (v_X1_worthOf x1 i_wishCount f_cells f_needs f_values) (fun o : Int32 => o) (fun _ : Int32 => [(a, .inr (1, [.ref a_places, .ref a_firstHours, .ref a_spans, .ref a_values, .ref a_cells, .ref a_needs, .ref a_owed, .ref a_room, .int i_squares, .int i_wishCount, .int i_owedPlaces])), (a_cells, .inr (4, [.ref n_cells])), (n_cells, .inl (cI, 5, .inl f_cells)), (a_needs, .inr (4, [.ref n_needs])), (n_needs, .inl (cI, 5, .inl f_needs)), (a_values, .inr (4, [.ref n_values])), (n_values, .inl (cI, 5, .inl f_values))]) := by
  refine KI.of cX1_worthOf 2 (some .int) (by decide) rfl (Nat.le_of_ble_eq_true rfl) ?_
  intro p e s m below meth c A ls ar Q hQ B
  obtain ⟨hx, hb, hr, hml, hts, hown, hlk, hK, hN, hP, hD, hA, hS, hl⟩ := B
  have hown : s.vm.findClass RX1 = some m.cls := hown
  have hF : CallFix p m c cX1_worthOf 2 s ar wsX1_worthOf RX1 := ⟨hx, hb, hml, hown, hts⟩
  have hl : lv_has ls 2 [(0, .ref a), (1, .int x1)] := hl
  refine lv_aload_n hx hb dX1_worthOf_0 rfl (lv_at hl 0 rfl) ?_
  refine lv_aload_n hx hb dX1_worthOf_1 rfl (lv_at hl 0 rfl) ?_
  refine lv_iload_n hx hb dX1_worthOf_2 rfl (lv_at hl 1 rfl) ?_
  obtain ⟨o_3, ho_3⟩ : ∃ z : Int32, z = v_X1_grantedBy x1 i_wishCount f_cells f_needs := ⟨_, rfl⟩
  refine callVIs (As := [.int x1]) (rest := [.ref a]) o_3 ho_3 hF (k_X1_grantedBy l D cI cZ a a_places a_firstHours a_spans a_values a_cells a_needs a_owed a_room n_cells n_needs x1 i_squares i_wishCount i_owedPlaces f_cells f_needs) (cwV 1 hts gX1_worthOf_X1_grantedBy rfl rfl rfl (by decide +kernel) ⟨Nat.le_of_ble_eq_true rfl, Nat.le_of_ble_eq_true rfl⟩) hK hN hP (va_Dsame hD rfl) hS hA [0, 1, 2, 3, 4] rfl rfl 0 1 (T := TX1) (N := 11) rfl rfl rfl hl.1 rfl (Nat.le_of_ble_eq_true rfl) dX1_worthOf_3 ⟨Nat.zero_le _, Nat.zero_le _⟩ o_3 rfl rfl (fun H locs hP hS => ?_)
  obtain ⟨o_6, ho_6⟩ : ∃ z : Int32, z = v_X1_sumOf o_3 i_wishCount f_values := ⟨_, rfl⟩
  refine callVIs (As := [.int o_3]) (rest := []) o_6 ho_6 hF (k_X1_sumOf l D cI cZ a a_places a_firstHours a_spans a_values a_cells a_needs a_owed a_room n_values o_3 i_squares i_wishCount i_owedPlaces f_values) (cwV 1 hts gX1_worthOf_X1_sumOf rfl rfl rfl (by decide +kernel) ⟨Nat.le_of_ble_eq_true rfl, Nat.le_of_ble_eq_true rfl⟩) hK hN hP (va_Dsame hD rfl) hS hA [0, 5, 6] rfl rfl 0 1 (T := TX1) (N := 11) rfl rfl rfl hl.1 rfl (Nat.le_of_ble_eq_true rfl) dX1_worthOf_6 ⟨Nat.zero_le _, Nat.zero_le _⟩ o_6 rfl rfl (fun H locs hP hS => ?_)
  have e9 : v_X1_worthOf x1 i_wishCount f_cells f_needs f_values = o_6 := by
    refine (bnd_eq ho_3).trans ?_
    refine (bnd_eq ho_6).trans ?_
    rfl
  rw [hQ]; exact retI o_6 hx hb hr hlk e9 hP rfl hS dX1_worthOf_9
def v_X1_allows (x1 : Int32) (f_room : Nat → Int32) : Bool :=
  bnd (v_J6_bitCount_0f7a4 (x1 &&& 63)) fun o_4 =>
  (bnd (v_X4_at 0 f_room 2) fun o_12 =>
  (if o_12 < o_4 then false
  else (bnd (v_J6_bitCount_0f7a4 (x1 >>> ((6 : Int32) &&& 31))) fun o_22 =>
  (bnd (v_X4_at 1 f_room 2) fun o_30 =>
  (if o_30 < o_22 then false
  else true)))))
abbrev rm_X1_allows : Room := { frames := 1, cells := 0, slots := 0, locals := 21 }
set_option maxHeartbeats 4000000 in
set_option maxRecDepth 100000 in
theorem k_X1_allows (l : Launch) (D : va_G) (cI cZ : ClassId) (a a_places a_firstHours a_spans a_values a_cells a_needs a_owed a_room n_room : Nat) (x1 : Int32) (i_squares : Int32) (i_wishCount : Int32) (i_owedPlaces : Int32) (f_room : Nat → Int32) : KI l D cI cZ yX1_allows wsX1_allows rm_X1_allows [.ref a, .int x1] [(a, .inr (1, [.ref a_places, .ref a_firstHours, .ref a_spans, .ref a_values, .ref a_cells, .ref a_needs, .ref a_owed, .ref a_room, .int i_squares, .int i_wishCount, .int i_owedPlaces])), (a_room, .inr (4, [.ref n_room])), (n_room, .inl (cI, 2, .inl f_room))] (v_X1_allows x1 f_room) (fun o : Bool => bI o) (fun _ : Bool => [(a, .inr (1, [.ref a_places, .ref a_firstHours, .ref a_spans, .ref a_values, .ref a_cells, .ref a_needs, .ref a_owed, .ref a_room, .int i_squares, .int i_wishCount, .int i_owedPlaces])), (a_room, .inr (4, [.ref n_room])), (n_room, .inl (cI, 2, .inl f_room))]) := by
  refine KI.of cX1_allows 2 (some .boolean) (by decide) rfl (Nat.le_of_ble_eq_true rfl) ?_
  intro p e s m below meth c A ls ar Q hQ B
  obtain ⟨hx, hb, hr, hml, hts, hown, hlk, hK, hN, hP, hD, hA, hS, hl⟩ := B
  have hown : s.vm.findClass RX1 = some m.cls := hown
  have hF : CallFix p m c cX1_allows 2 s ar wsX1_allows RX1 := ⟨hx, hb, hml, hown, hts⟩
  have hl : lv_has ls 2 [(0, .ref a), (1, .int x1)] := hl
  refine lv_iload_n hx hb dX1_allows_0 rfl (lv_at hl 1 rfl) ?_
  refine lv_bipush (v := 63) hx hb dX1_allows_1 rfl ?_
  refine lv_iand hx hb dX1_allows_3 ?_
  obtain ⟨o_4, ho_4⟩ : ∃ z : Int32, z = v_J6_bitCount_0f7a4 (x1 &&& 63) := ⟨_, rfl⟩
  refine callSIs (As := [.int (x1 &&& 63)]) (rest := []) o_4 ho_4 hF (k_J6_bitCount_0f7a4 l D cI cZ (x1 &&& 63)) (va_cwS 1 hts gX1_allows_J6_bitCount_0f7a4 rfl rfl rfl (by decide +kernel) ⟨Nat.le_of_ble_eq_true rfl, Nat.le_of_ble_eq_true rfl⟩) hK hN hP (va_Dsame hD rfl) hS hA [] rfl rfl rfl hl.1 rfl (Nat.le_of_ble_eq_true rfl) dX1_allows_4 ⟨Nat.zero_le _, Nat.zero_le _⟩ o_4 rfl rfl (fun H locs hP hS => ?_)
  refine lv_aload_n hx hb dX1_allows_7 rfl (lv_at hl 0 rfl) ?_
  refine va_get (D := D) (ci := 1) (v := .ref a_room) (C := RX1) (T := TX1) (N := 11) hx hb hts (fun _ h => List.mem_cons_of_mem _ (List.mem_append_left _ (List.mem_append_right _ (h)))) hown hK hP 0 rfl rfl 7 (by decide) (hts _ (List.mem_of_getElem? (i := 1) rfl)) (fun _ h9 => h9) rfl dX1_allows_8 ?_
  refine lv_iconst (v := 0) hx hb dX1_allows_11 rfl ?_
  obtain ⟨o_12, ho_12⟩ : ∃ z : Int32, z = v_X4_at 0 f_room 2 := ⟨_, rfl⟩
  refine callVIs (As := [.int 0]) (rest := [.int o_4]) o_12 ho_12 hF (k_X4_at l D cI cZ a_room n_room 0 f_room 2 (by decide)) (cwV 1 hts gX1_allows_X4_at rfl rfl rfl (by decide +kernel) ⟨Nat.le_of_ble_eq_true rfl, Nat.le_of_ble_eq_true rfl⟩) hK hN hP (va_Dsame hD rfl) hS hA [1, 2] rfl rfl 1 4 (T := TX4) (N := 1) rfl rfl rfl hl.1 rfl (Nat.le_of_ble_eq_true rfl) dX1_allows_12 ⟨Nat.zero_le _, Nat.zero_le _⟩ o_12 rfl rfl (fun H locs hP hS => ?_)
  refine lv_icmp_gt (tgt := 40) hx hb dX1_allows_15 (by decide) (fun c_15 => ?_) (fun c_15 => ?_)
  · refine lv_iconst (v := 0) hx hb dX1_allows_40 rfl ?_
    have e9 : v_X1_allows x1 f_room = false := by
      refine (bnd_eq ho_4).trans ?_
      refine (bnd_eq ho_12).trans ?_
      refine (if_pos c_15).trans ?_
      rfl
    rw [hQ]; exact retZ (v := fun o : Bool => o) false hx hb hr hlk e9 hP rfl hS dX1_allows_41
  · refine lv_iload_n hx hb dX1_allows_18 rfl (lv_at hl 1 rfl) ?_
    refine lv_bipush (v := 6) hx hb dX1_allows_19 rfl ?_
    refine lv_ishr hx hb dX1_allows_21 ?_
    obtain ⟨o_22, ho_22⟩ : ∃ z : Int32, z = v_J6_bitCount_0f7a4 (x1 >>> ((6 : Int32) &&& 31)) := ⟨_, rfl⟩
    refine callSIs (As := [.int (x1 >>> ((6 : Int32) &&& 31))]) (rest := []) o_22 ho_22 hF (k_J6_bitCount_0f7a4 l D cI cZ (x1 >>> ((6 : Int32) &&& 31))) (va_cwS 1 hts gX1_allows_J6_bitCount_0f7a4 rfl rfl rfl (by decide +kernel) ⟨Nat.le_of_ble_eq_true rfl, Nat.le_of_ble_eq_true rfl⟩) hK hN hP (va_Dsame hD rfl) hS hA [] rfl rfl rfl hl.1 rfl (Nat.le_of_ble_eq_true rfl) dX1_allows_22 ⟨Nat.zero_le _, Nat.zero_le _⟩ o_22 rfl rfl (fun H locs hP hS => ?_)
    refine lv_aload_n hx hb dX1_allows_25 rfl (lv_at hl 0 rfl) ?_
    refine va_get (D := D) (ci := 1) (v := .ref a_room) (C := RX1) (T := TX1) (N := 11) hx hb hts (fun _ h => List.mem_cons_of_mem _ (List.mem_append_left _ (List.mem_append_right _ (h)))) hown hK hP 0 rfl rfl 7 (by decide) (hts _ (List.mem_of_getElem? (i := 1) rfl)) (fun _ h9 => h9) rfl dX1_allows_26 ?_
    refine lv_iconst (v := 1) hx hb dX1_allows_29 rfl ?_
    obtain ⟨o_30, ho_30⟩ : ∃ z : Int32, z = v_X4_at 1 f_room 2 := ⟨_, rfl⟩
    refine callVIs (As := [.int 1]) (rest := [.int o_22]) o_30 ho_30 hF (k_X4_at l D cI cZ a_room n_room 1 f_room 2 (by decide)) (cwV 1 hts gX1_allows_X4_at rfl rfl rfl (by decide +kernel) ⟨Nat.le_of_ble_eq_true rfl, Nat.le_of_ble_eq_true rfl⟩) hK hN hP (va_Dsame hD rfl) hS hA [1, 2] rfl rfl 1 4 (T := TX4) (N := 1) rfl rfl rfl hl.1 rfl (Nat.le_of_ble_eq_true rfl) dX1_allows_30 ⟨Nat.zero_le _, Nat.zero_le _⟩ o_30 rfl rfl (fun H locs hP hS => ?_)
    refine lv_icmp_gt (tgt := 40) hx hb dX1_allows_33 (by decide) (fun c_33 => ?_) (fun c_33 => ?_)
    · refine lv_iconst (v := 0) hx hb dX1_allows_40 rfl ?_
      have e9 : v_X1_allows x1 f_room = false := by
        refine (bnd_eq ho_4).trans ?_
        refine (bnd_eq ho_12).trans ?_
        refine (if_neg c_15).trans ?_
        refine (bnd_eq ho_22).trans ?_
        refine (bnd_eq ho_30).trans ?_
        refine (if_pos c_33).trans ?_
        rfl
      rw [hQ]; exact retZ (v := fun o : Bool => o) false hx hb hr hlk e9 hP rfl hS dX1_allows_41
    · refine lv_iconst (v := 1) hx hb dX1_allows_36 rfl ?_
      refine lv_goto (tgt := 41) hx hb dX1_allows_37 (by decide) ?_
      have e9 : v_X1_allows x1 f_room = true := by
        refine (bnd_eq ho_4).trans ?_
        refine (bnd_eq ho_12).trans ?_
        refine (if_neg c_15).trans ?_
        refine (bnd_eq ho_22).trans ?_
        refine (bnd_eq ho_30).trans ?_
        refine (if_neg c_33).trans ?_
        rfl
      rw [hQ]; exact retZ (v := fun o : Bool => o) true hx hb hr hlk e9 hP rfl hS dX1_allows_41
def v_X2_list_L4c (x0 : Int32) (lenr1 : Nat) (i4 : Nat) (z4_1 : Int32) (z4_2 : Nat → Int32) : Int32 × (Nat → Int32) :=
  bnd (v_X7_has x0 (nI i4)) fun o_12 =>
  (if bI o_12 = 0 then (z4_1, z4_2)
  else (bnd (v_X4_put z4_1 (nI i4) z4_2 lenr1) fun o_21 =>
  ((z4_1 + 1), o_21)))
def v_X2_list_L4 (x0 : Int32) (lenr1 : Nat) (i4 : Nat) (z4 : Int32 × (Nat → Int32)) : Int32 × (Nat → Int32) := v_X2_list_L4c x0 lenr1 i4 z4.1 z4.2
def v_X2_list (x0 : Int32) (fr1 : Nat → Int32) (lenr1 : Nat) : Int32 × (Nat → Int32) :=
  bnd2 (it (v_X2_list_L4 x0 lenr1) 12 0 (0, fr1)) fun o_L4_1 o_L4_2 =>
  (o_L4_1, o_L4_2)
abbrev rm_X2_list : Room := { frames := 1, cells := 0, slots := 0, locals := 22 }
set_option maxHeartbeats 4000000 in
set_option maxRecDepth 100000 in
theorem k_X2_list (l : Launch) (D : va_G) (cI cZ : ClassId) (ar1 nr1 : Nat) (x0 : Int32) (fr1 : Nat → Int32) (lenr1 : Nat) (hlenr1 : lenr1 < 2 ^ 31) : KI l D cI cZ yX2_list wsX2_list rm_X2_list [.int x0, .ref ar1] [(ar1, .inr (4, [.ref nr1])), (nr1, .inl (cI, lenr1, .inl fr1))] (v_X2_list x0 fr1 lenr1) (fun o : Int32 × (Nat → Int32) => o.1) (fun o : Int32 × (Nat → Int32) => [(ar1, .inr (4, [.ref nr1])), (nr1, .inl (cI, lenr1, .inl o.2))]) := by
  refine KI.of cX2_list 4 (some .int) (by decide) rfl (Nat.le_of_ble_eq_true rfl) ?_
  intro p e s m below meth c A ls ar Q hQ B
  obtain ⟨hx, hb, hr, hml, hts, hown, hlk, hK, hN, hP, hD, hA, hS, hl⟩ := B
  have hown : s.vm.findClass RX2 = some m.cls := hown
  have hF : CallFix p m c cX2_list 4 s ar wsX2_list RX2 := ⟨hx, hb, hml, hown, hts⟩
  have hl : lv_has ls 4 [(0, .int x0), (1, .ref ar1)] := hl
  refine lv_iconst (v := 0) hx hb dX2_list_0 rfl ?_
  refine lv_istore_n (lv' := [(2, .int 0), (0, .int x0), (1, .ref ar1)]) hx hb dX2_list_1 rfl hl (by decide) rfl (fun ls hl => ?_)
  refine lv_iconst (v := 0) hx hb dX2_list_2 rfl ?_
  refine lv_istore_n (lv' := [(3, .int 0), (2, .int 0), (0, .int x0), (1, .ref ar1)]) hx hb dX2_list_3 rfl hl (by decide) rfl (fun ls hl => ?_)
  obtain ⟨o_L4_1, o_L4_2, ho_L4⟩ := ex2 (it (v_X2_list_L4 x0 lenr1) 12 0 (0, fr1))
  have kE4 : ∀ (H : Heap) (locs : List Loc) (ls : Array Slot), va_P D vwCl [(ar1, .inr (4, [.ref nr1])), (nr1, .inl (cI, lenr1, .inl o_L4_2))] H → va_S A s.heap H locs → lv_has ls 4 [(2, .int o_L4_1)] → W p l e rm_X2_list s m ar below meth c H locs 0 0 Q (F0 m 33 ls []) := by
    intro H locs ls hP hS hl
    refine lv_iload_n hx hb dX2_list_33 rfl (lv_at hl 0 rfl) ?_
    have e9 : v_X2_list x0 fr1 lenr1 = (o_L4_1, o_L4_2) := by
      refine (bnd2_eq ho_L4).trans ?_
      rfl
    rw [hQ]; exact retI (o_L4_1, o_L4_2) hx hb hr hlk e9 hP rfl hS dX2_list_34
  have loop4 : ∀ (k i4 : Nat) (z4 : Int32 × (Nat → Int32)), 0 ≤ i4 → i4 + k = 0 + 12 → it (v_X2_list_L4 x0 lenr1) k i4 z4 = (o_L4_1, o_L4_2) → ∀ (H : Heap) (locs : List Loc) (ls : Array Slot), va_P D vwCl [(ar1, .inr (4, [.ref nr1])), (nr1, .inl (cI, lenr1, .inl z4.2))] H → va_S A s.heap H locs → lv_has ls 4 [(3, .int (nI i4)), (2, .int z4.1), (0, .int x0), (1, .ref ar1)] → W p l e rm_X2_list s m ar below meth c H locs 0 0 Q (F0 m 4 ls []) := by
    intro k
    induction k with
    | zero =>
      intro i4 z4 hi0 hik hz H locs ls hP hS hl
      have hz : z4 = (o_L4_1, o_L4_2) := it_0 hz
      subst z4
      have hP : va_P D vwCl [(ar1, .inr (4, [.ref nr1])), (nr1, .inl (cI, lenr1, .inl o_L4_2))] H := hP
      have hl : lv_has ls 4 [(3, .int (nI i4)), (2, .int o_L4_1), (0, .int x0), (1, .ref ar1)] := hl
      refine lv_iload_n hx hb dX2_list_4 rfl (lv_at hl 0 rfl) ?_
      refine lv_bipush (v := 12) hx hb dX2_list_5 rfl ?_
      refine lv_icmp_ge (tgt := 33) hx hb dX2_list_7 (by decide) (fun _ => ?_) (fun c => absurd (nI_le (a := 12) (by omega) (by omega)) c)
      exact kE4 _ _ _ hP hS (lv_sub hl [1] rfl)
    | succ k ih =>
      intro i4 z4 hi0 hik hz H locs ls hP hS hl
      obtain ⟨z4_1, z4_2⟩ := z4
      have hP : va_P D vwCl [(ar1, .inr (4, [.ref nr1])), (nr1, .inl (cI, lenr1, .inl z4_2))] H := hP
      have hl : lv_has ls 4 [(3, .int (nI i4)), (2, .int z4_1), (0, .int x0), (1, .ref ar1)] := hl
      refine lv_iload_n hx hb dX2_list_4 rfl (lv_at hl 0 rfl) ?_
      refine lv_bipush (v := 12) hx hb dX2_list_5 rfl ?_
      refine lv_icmp_ge (tgt := 33) hx hb dX2_list_7 (by decide) (fun c => absurd c (nI_ge (b := 12) (by omega) (by decide))) (fun _ => ?_)
      refine lv_iload_n hx hb dX2_list_10 rfl (lv_at hl 2 rfl) ?_
      refine lv_iload_n hx hb dX2_list_11 rfl (lv_at hl 0 rfl) ?_
      obtain ⟨o_12, ho_12⟩ : ∃ z : Bool, z = v_X7_has x0 (nI i4) := ⟨_, rfl⟩
      refine callNIs (As := [.int x0, .int (nI i4)]) (rest := []) o_12 ho_12 hF (k_X7_has l D cI cZ x0 (nI i4)) ⟨va_cnB 2 hts gX2_list_X7_has_n47 rfl rfl rfl hN.2.2.2.2.2.2.2.2 (hts _ (List.mem_of_getElem? (i := 2) rfl)) (by decide +kernel) ⟨Nat.le_of_ble_eq_true rfl, Nat.le_of_ble_eq_true rfl⟩, (hts _ (List.mem_of_getElem? (i := 1) rfl)), trivial⟩ hK hN hP (va_Dsame hD rfl) hS hA [] rfl rfl rfl hl.1 rfl (Nat.le_of_ble_eq_true rfl) dX2_list_12 ⟨Nat.zero_le _, Nat.zero_le _⟩ (bI o_12) rfl rfl (fun H locs hP hS => ?_)
      refine lv_if_eq (tgt := 27) hx hb dX2_list_15 (by decide) (fun c_15 => ?_) (fun c_15 => ?_)
      · refine lv_iinc (v := (nI (i4 + 1))) (lv' := [(3, .int (nI (i4 + 1))), (2, .int z4_1), (0, .int x0), (1, .ref ar1)]) hx hb dX2_list_27 hl (k := 0) rfl (nI_1 _) (by decide) rfl (fun ls hl => ?_)
        refine lv_goto (tgt := 4) hx hb dX2_list_30 (by decide) ?_
        have e8 : v_X2_list_L4 x0 lenr1 i4 (z4_1, z4_2) = (z4_1, z4_2) := by
          show v_X2_list_L4c x0 lenr1 i4 z4_1 z4_2 = (z4_1, z4_2)
          refine (bnd_eq ho_12).trans ?_
          refine (if_pos c_15).trans ?_
          rfl
        exact ih (i4 + 1) (z4_1, z4_2) (by omega) (by omega) (it_go e8 hz) _ _ _ hP hS (lv_sub hl [0, 1, 2, 3] rfl)
      · refine lv_aload_n hx hb dX2_list_18 rfl (lv_at hl 3 rfl) ?_
        refine lv_iload_n hx hb dX2_list_19 rfl (lv_at hl 1 rfl) ?_
        refine lv_iload_n hx hb dX2_list_20 rfl (lv_at hl 0 rfl) ?_
        obtain ⟨o_21, ho_21⟩ : ∃ z : Nat → Int32, z = v_X4_put z4_1 (nI i4) z4_2 lenr1 := ⟨_, rfl⟩
        refine callVV (As := [.int z4_1, .int (nI i4)]) (rest := []) o_21 ho_21 hF (k_X4_put l D cI cZ ar1 nr1 z4_1 (nI i4) z4_2 lenr1 (hlenr1)) (cwV 2 hts gX2_list_X4_put rfl rfl rfl (by decide +kernel) ⟨Nat.le_of_ble_eq_true rfl, Nat.le_of_ble_eq_true rfl⟩) hK hN hP (va_Dsame hD rfl) hS hA [0, 1] rfl rfl 0 4 (T := TX4) (N := 1) rfl rfl rfl hl.1 rfl (Nat.le_of_ble_eq_true rfl) dX2_list_21 ⟨Nat.zero_le _, Nat.zero_le _⟩ [some 0, some 1] 2 [(ar1, .inr (4, [.ref nr1])), (nr1, .inl (cI, lenr1, .inl o_21))] rfl rfl (by decide) (fun H locs hP hS => ?_)
        refine lv_iinc (v := (z4_1 + 1)) (lv' := [(2, .int (z4_1 + 1)), (3, .int (nI i4)), (0, .int x0), (1, .ref ar1)]) hx hb dX2_list_24 hl (k := 1) rfl rfl (by decide) rfl (fun ls hl => ?_)
        refine lv_iinc (v := (nI (i4 + 1))) (lv' := [(3, .int (nI (i4 + 1))), (2, .int (z4_1 + 1)), (0, .int x0), (1, .ref ar1)]) hx hb dX2_list_27 hl (k := 1) rfl (nI_1 _) (by decide) rfl (fun ls hl => ?_)
        refine lv_goto (tgt := 4) hx hb dX2_list_30 (by decide) ?_
        have e8 : v_X2_list_L4 x0 lenr1 i4 (z4_1, z4_2) = ((z4_1 + 1), o_21) := by
          show v_X2_list_L4c x0 lenr1 i4 z4_1 z4_2 = ((z4_1 + 1), o_21)
          refine (bnd_eq ho_12).trans ?_
          refine (if_neg c_15).trans ?_
          refine (bnd_eq ho_21).trans ?_
          rfl
        exact ih (i4 + 1) ((z4_1 + 1), o_21) (by omega) (by omega) (it_go e8 hz) _ _ _ hP hS (lv_sub hl [0, 1, 2, 3] rfl)
  exact loop4 12 0 (0, fr1) (Nat.le_refl _) rfl ho_L4.symm _ _ _ hP hS (lv_sub hl [0, 1, 2, 3] rfl)
theorem list_le (x : Int32) (f : Nat → Int32) (n : Nat) : ∃ c : Nat, c ≤ 12 ∧ (v_X2_list x f n).1 = nI c := by
  have h := it_inv (f := v_X2_list_L4 x n) (fun i z => ∃ c : Nat, c ≤ i ∧ z.1 = nI c) (fun i s hs => by
    obtain ⟨c, hc, e⟩ := hs
    show ∃ c' : Nat, c' ≤ i + 1 ∧ (if bI (v_X7_has x (nI i)) = 0 then (s.1, s.2) else ((s.1 + 1), v_X4_put s.1 (nI i) s.2 n)).1 = nI c'
    split
    · exact ⟨c, by omega, e⟩
    · exact ⟨c + 1, by omega, by show s.1 + 1 = _; rw [e, nI_1]⟩) 12 0 (0, f) ⟨0, Nat.le_refl _, rfl⟩
  exact h
theorem list_le2 {x : Int32} {f : Nat → Int32} {n : Nat} {o : Int32 × (Nat → Int32)} (ho : o = v_X2_list x f n) : ∃ c : Nat, c ≤ 12 ∧ o.1 = nI c := by
  rw [ho]; exact list_le _ _ _
def v_X2_distance (x0 : Int32) (x1 : Int32) : Int32 :=
  bnd ((if 0 ≤ ((x0 - x0 / 6 * 6) - (x1 - x1 / 6 * 6)) then ((x0 - x0 / 6 * 6) - (x1 - x1 / 6 * 6)) else 0 - ((x0 - x0 / 6 * 6) - (x1 - x1 / 6 * 6)))) fun w_12 =>
  (bnd ((if 0 ≤ ((x0 / 6) - (x1 / 6)) then ((x0 / 6) - (x1 / 6)) else 0 - ((x0 / 6) - (x1 / 6)))) fun w_25 =>
  ((if (6 - w_12) < w_12 then (6 - w_12) else w_12) + w_25))
abbrev rm_X2_distance : Room := { frames := 1, cells := 0, slots := 0, locals := 21 }
set_option maxHeartbeats 4000000 in
set_option maxRecDepth 100000 in
theorem k_X2_distance (l : Launch) (D : va_G) (cI cZ : ClassId) (x0 : Int32) (x1 : Int32) : KI l D cI cZ yX2_distance wsX2_distance rm_X2_distance [.int x0, .int x1] [] (v_X2_distance x0 x1) (fun o : Int32 => o) (fun _ : Int32 => []) := by
  refine KI.of cX2_distance 4 (some .int) (by decide) rfl (Nat.le_of_ble_eq_true rfl) ?_
  intro p e s m below meth c A ls ar Q hQ B
  obtain ⟨hx, hb, hr, hml, hts, hown, hlk, hK, hN, hP, hD, hA, hS, hl⟩ := B
  have hown : s.vm.findClass RX2 = some m.cls := hown
  have hF : CallFix p m c cX2_distance 4 s ar wsX2_distance RX2 := ⟨hx, hb, hml, hown, hts⟩
  have hl : lv_has ls 4 [(0, .int x0), (1, .int x1)] := hl
  refine lv_iload_n hx hb dX2_distance_0 rfl (lv_at hl 0 rfl) ?_
  refine lv_bipush (v := 6) hx hb dX2_distance_1 rfl ?_
  refine lv_irem hx hb dX2_distance_3 (by decide) ?_
  refine lv_iload_n hx hb dX2_distance_4 rfl (lv_at hl 1 rfl) ?_
  refine lv_bipush (v := 6) hx hb dX2_distance_5 rfl ?_
  refine lv_irem hx hb dX2_distance_7 (by decide) ?_
  refine lv_isub hx hb dX2_distance_8 ?_
  refine va_mabs hx hb (by rw [hml]; exact hl.1.symm) hown (hts _ (List.mem_of_getElem? (i := 1) rfl)) (hts _ (List.mem_of_getElem? (i := 2) rfl)) (hts _ (List.mem_of_getElem? (i := 3) rfl)) (hts _ (List.mem_of_getElem? (i := 4) rfl)) (Nat.le_of_ble_eq_true rfl) (Nat.le_of_ble_eq_true rfl) (Nat.zero_le _) (Nat.zero_le _) dX2_distance_9 ?_
  refine lv_topi (fun w_12 hw_12 => ?_)
  refine lv_istore_n (lv' := [(2, .int w_12), (0, .int x0), (1, .int x1)]) hx hb dX2_distance_12 rfl hl (by decide) rfl (fun ls hl => ?_)
  refine lv_iload_n hx hb dX2_distance_13 rfl (lv_at hl 1 rfl) ?_
  refine lv_bipush (v := 6) hx hb dX2_distance_14 rfl ?_
  refine lv_idiv hx hb dX2_distance_16 (by decide) ?_
  refine lv_iload_n hx hb dX2_distance_17 rfl (lv_at hl 2 rfl) ?_
  refine lv_bipush (v := 6) hx hb dX2_distance_18 rfl ?_
  refine lv_idiv hx hb dX2_distance_20 (by decide) ?_
  refine lv_isub hx hb dX2_distance_21 ?_
  refine va_mabs hx hb (by rw [hml]; exact hl.1.symm) hown (hts _ (List.mem_of_getElem? (i := 1) rfl)) (hts _ (List.mem_of_getElem? (i := 2) rfl)) (hts _ (List.mem_of_getElem? (i := 3) rfl)) (hts _ (List.mem_of_getElem? (i := 4) rfl)) (Nat.le_of_ble_eq_true rfl) (Nat.le_of_ble_eq_true rfl) (Nat.zero_le _) (Nat.zero_le _) dX2_distance_22 ?_
  refine lv_topi (fun w_25 hw_25 => ?_)
  refine lv_istore_n (lv' := [(3, .int w_25), (2, .int w_12), (0, .int x0), (1, .int x1)]) hx hb dX2_distance_25 rfl hl (by decide) rfl (fun ls hl => ?_)
  refine lv_iload_n hx hb dX2_distance_26 rfl (lv_at hl 1 rfl) ?_
  refine lv_bipush (v := 6) hx hb dX2_distance_27 rfl ?_
  refine lv_iload_n hx hb dX2_distance_29 rfl (lv_at hl 1 rfl) ?_
  refine lv_isub hx hb dX2_distance_30 ?_
  refine va_mmin hx hb (by rw [hml]; exact hl.1.symm) hown (hts _ (List.mem_of_getElem? (i := 5) rfl)) (hts _ (List.mem_of_getElem? (i := 6) rfl)) (hts _ (List.mem_of_getElem? (i := 3) rfl)) (hts _ (List.mem_of_getElem? (i := 7) rfl)) (Nat.le_of_ble_eq_true rfl) (Nat.le_of_ble_eq_true rfl) (Nat.zero_le _) (Nat.zero_le _) dX2_distance_31 ?_
  refine lv_iload_n hx hb dX2_distance_34 rfl (lv_at hl 0 rfl) ?_
  refine lv_iadd hx hb dX2_distance_35 ?_
  have e9 : v_X2_distance x0 x1 = ((if (6 - w_12) < w_12 then (6 - w_12) else w_12) + w_25) := by
    refine (bnd_eq hw_12).trans ?_
    refine (bnd_eq hw_25).trans ?_
    rfl
  rw [hQ]; exact retI ((if (6 - w_12) < w_12 then (6 - w_12) else w_12) + w_25) hx hb hr hlk e9 hP rfl hS dX2_distance_36
def v_X2_fewestWith_L8 (x1 : Int32) (x2 : Int32) (f_fewest : Nat → Int32) (f_goals : Nat → Int32) (i8 : Nat) (z8 : Int32) : Int32 :=
  bnd (v_X7_has x2 (nI i8)) fun o_17 =>
  (if bI o_17 = 0 then z8
  else (bnd (v_X4_at (x2 &&& (((1 : Int32) <<< (nI i8 &&& 31)) ^^^ (-1))) f_fewest 32) fun o_35 =>
  (bnd (v_X4_at (nI i8) f_goals 5) fun o_51 =>
  (bnd (v_X2_distance x1 o_51) fun o_54 =>
  (bnd ((if (o_35 + o_54) < z8 then (o_35 + o_54) else z8)) fun w_61 =>
  w_61)))))
def v_X2_fewestWith (x1 : Int32) (x2 : Int32) (x3 : Int32) (f_fewest : Nat → Int32) (f_goals : Nat → Int32) : Int32 :=
  bnd (it (v_X2_fewestWith_L8 x1 x2 f_fewest f_goals) x3.toNatClampNeg 0 1000) fun o_L8 =>
  o_L8
abbrev rm_X2_fewestWith : Room := { frames := 2, cells := 0, slots := 0, locals := 44 }
set_option maxHeartbeats 4000000 in
set_option maxRecDepth 100000 in
theorem k_X2_fewestWith (l : Launch) (D : va_G) (cI cZ : ClassId) (a a_starts a_goals a_fewest n_fewest n_goals : Nat) (x1 : Int32) (x2 : Int32) (x3 : Int32) (f_fewest : Nat → Int32) (f_goals : Nat → Int32) : KI l D cI cZ yX2_fewestWith wsX2_fewestWith rm_X2_fewestWith [.ref a, .int x1, .int x2, .int x3] [(a, .inr (2, [.ref a_starts, .ref a_goals, .ref a_fewest])), (a_fewest, .inr (4, [.ref n_fewest])), (n_fewest, .inl (cI, 32, .inl f_fewest)), (a_goals, .inr (4, [.ref n_goals])), (n_goals, .inl (cI, 5, .inl f_goals))] (v_X2_fewestWith x1 x2 x3 f_fewest f_goals) (fun o : Int32 => o) (fun _ : Int32 => [(a, .inr (2, [.ref a_starts, .ref a_goals, .ref a_fewest])), (a_fewest, .inr (4, [.ref n_fewest])), (n_fewest, .inl (cI, 32, .inl f_fewest)), (a_goals, .inr (4, [.ref n_goals])), (n_goals, .inl (cI, 5, .inl f_goals))]) := by
  refine KI.of cX2_fewestWith 7 (some .int) (by decide) rfl (Nat.le_of_ble_eq_true rfl) ?_
  intro p e s m below meth c A ls ar Q hQ B
  obtain ⟨hx, hb, hr, hml, hts, hown, hlk, hK, hN, hP, hD, hA, hS, hl⟩ := B
  have hown : s.vm.findClass RX2 = some m.cls := hown
  have hF : CallFix p m c cX2_fewestWith 7 s ar wsX2_fewestWith RX2 := ⟨hx, hb, hml, hown, hts⟩
  have hl : lv_has ls 7 [(0, .ref a), (1, .int x1), (2, .int x2), (3, .int x3)] := hl
  refine lv_sipush (v := 1000) hx hb dX2_fewestWith_0 rfl ?_
  refine lv_istore (lv' := [(4, .int 1000), (0, .ref a), (1, .int x1), (2, .int x2), (3, .int x3)]) hx hb dX2_fewestWith_3 hl (by decide) rfl (fun ls hl => ?_)
  refine lv_iconst (v := 0) hx hb dX2_fewestWith_5 rfl ?_
  refine lv_istore (lv' := [(5, .int 0), (4, .int 1000), (0, .ref a), (1, .int x1), (2, .int x2), (3, .int x3)]) hx hb dX2_fewestWith_6 hl (by decide) rfl (fun ls hl => ?_)
  obtain ⟨o_L8, ho_L8⟩ : ∃ z : Int32, z = it (v_X2_fewestWith_L8 x1 x2 f_fewest f_goals) x3.toNatClampNeg 0 1000 := ⟨_, rfl⟩
  have kE8 : ∀ (H : Heap) (locs : List Loc) (ls : Array Slot), va_P D vwCl [(a, .inr (2, [.ref a_starts, .ref a_goals, .ref a_fewest])), (a_fewest, .inr (4, [.ref n_fewest])), (n_fewest, .inl (cI, 32, .inl f_fewest)), (a_goals, .inr (4, [.ref n_goals])), (n_goals, .inl (cI, 5, .inl f_goals))] H → va_S A s.heap H locs → lv_has ls 7 [(4, .int o_L8)] → W p l e rm_X2_fewestWith s m ar below meth c H locs 0 0 Q (F0 m 69 ls []) := by
    intro H locs ls hP hS hl
    refine lv_iload hx hb dX2_fewestWith_69 (lv_at hl 0 rfl) ?_
    have e9 : v_X2_fewestWith x1 x2 x3 f_fewest f_goals = o_L8 := by
      refine (bnd_eq ho_L8).trans ?_
      rfl
    rw [hQ]; exact retI o_L8 hx hb hr hlk e9 hP rfl hS dX2_fewestWith_71
  have loop8 : ∀ (k i8 : Nat) (z8 : Int32), 0 ≤ i8 → i8 + k = 0 + x3.toNatClampNeg → it (v_X2_fewestWith_L8 x1 x2 f_fewest f_goals) k i8 z8 = o_L8 → ∀ (H : Heap) (locs : List Loc) (ls : Array Slot), va_P D vwCl [(a, .inr (2, [.ref a_starts, .ref a_goals, .ref a_fewest])), (a_fewest, .inr (4, [.ref n_fewest])), (n_fewest, .inl (cI, 32, .inl f_fewest)), (a_goals, .inr (4, [.ref n_goals])), (n_goals, .inl (cI, 5, .inl f_goals))] H → va_S A s.heap H locs → lv_has ls 7 [(5, .int (nI i8)), (4, .int z8), (0, .ref a), (1, .int x1), (2, .int x2), (3, .int x3)] → W p l e rm_X2_fewestWith s m ar below meth c H locs 0 0 Q (F0 m 8 ls []) := by
    intro k
    induction k with
    | zero =>
      intro i8 z8 hi0 hik hz H locs ls hP hS hl
      have hz : z8 = o_L8 := it_0 hz
      subst z8
      refine lv_iload hx hb dX2_fewestWith_8 (lv_at hl 0 rfl) ?_
      refine lv_iload_n hx hb dX2_fewestWith_10 rfl (lv_at hl 5 rfl) ?_
      refine lv_icmp_ge (tgt := 69) hx hb dX2_fewestWith_11 (by decide) (fun _ => ?_) (fun c => absurd (cb_ge (by omega) (by have := cb_lt31 x3; omega)) c)
      exact kE8 _ _ _ hP hS (lv_sub hl [1] rfl)
    | succ k ih =>
      intro i8 z8 hi0 hik hz H locs ls hP hS hl
      refine lv_iload hx hb dX2_fewestWith_8 (lv_at hl 0 rfl) ?_
      refine lv_iload_n hx hb dX2_fewestWith_10 rfl (lv_at hl 5 rfl) ?_
      refine lv_icmp_ge (tgt := 69) hx hb dX2_fewestWith_11 (by decide) (fun c => absurd c (cb_lt (by omega))) (fun _ => ?_)
      refine lv_iload_n hx hb dX2_fewestWith_14 rfl (lv_at hl 4 rfl) ?_
      refine lv_iload hx hb dX2_fewestWith_15 (lv_at hl 0 rfl) ?_
      obtain ⟨o_17, ho_17⟩ : ∃ z : Bool, z = v_X7_has x2 (nI i8) := ⟨_, rfl⟩
      refine callNIs (As := [.int x2, .int (nI i8)]) (rest := []) o_17 ho_17 hF (k_X7_has l D cI cZ x2 (nI i8)) ⟨va_cnB 2 hts gX2_fewestWith_X7_has_n47 rfl rfl rfl hN.2.2.2.2.2.2.2.2 (hts _ (List.mem_of_getElem? (i := 8) rfl)) (by decide +kernel) ⟨Nat.le_of_ble_eq_true rfl, Nat.le_of_ble_eq_true rfl⟩, (hts _ (List.mem_of_getElem? (i := 7) rfl)), trivial⟩ hK hN hP (va_Dsame hD rfl) hS hA [] rfl rfl rfl hl.1 rfl (Nat.le_of_ble_eq_true rfl) dX2_fewestWith_17 ⟨Nat.zero_le _, Nat.zero_le _⟩ (bI o_17) rfl rfl (fun H locs hP hS => ?_)
      refine lv_if_eq (tgt := 63) hx hb dX2_fewestWith_20 (by decide) (fun c_20 => ?_) (fun c_20 => ?_)
      · refine lv_iinc (v := (nI (i8 + 1))) (lv' := [(5, .int (nI (i8 + 1))), (4, .int z8), (0, .ref a), (1, .int x1), (2, .int x2), (3, .int x3)]) hx hb dX2_fewestWith_63 hl (k := 0) rfl (nI_1 _) (by decide) rfl (fun ls hl => ?_)
        refine lv_goto (tgt := 8) hx hb dX2_fewestWith_66 (by decide) ?_
        have e8 : v_X2_fewestWith_L8 x1 x2 f_fewest f_goals i8 z8 = z8 := by
          refine (bnd_eq ho_17).trans ?_
          refine (if_pos c_20).trans ?_
          rfl
        exact ih (i8 + 1) z8 (by omega) (by omega) (it_go e8 hz) _ _ _ hP hS (lv_sub hl [0, 1, 2, 3, 4, 5] rfl)
      · refine lv_aload_n hx hb dX2_fewestWith_23 rfl (lv_at hl 2 rfl) ?_
        refine va_get (D := D) (ci := 2) (v := .ref a_fewest) (C := RX2) (T := TX2) (N := 3) hx hb hts (fun _ h => List.mem_cons_of_mem _ (List.mem_append_left _ (List.mem_append_right _ (h)))) hown hK hP 0 rfl rfl 2 (by decide) (hts _ (List.mem_of_getElem? (i := 1) rfl)) (fun _ h9 => h9) rfl dX2_fewestWith_24 ?_
        refine lv_iload_n hx hb dX2_fewestWith_27 rfl (lv_at hl 4 rfl) ?_
        refine lv_iconst (v := 1) hx hb dX2_fewestWith_28 rfl ?_
        refine lv_iload hx hb dX2_fewestWith_29 (lv_at hl 0 rfl) ?_
        refine lv_ishl hx hb dX2_fewestWith_31 ?_
        refine lv_iconst (v := (-1)) hx hb dX2_fewestWith_32 rfl ?_
        refine lv_ixor hx hb dX2_fewestWith_33 ?_
        refine lv_iand hx hb dX2_fewestWith_34 ?_
        obtain ⟨o_35, ho_35⟩ : ∃ z : Int32, z = v_X4_at (x2 &&& (((1 : Int32) <<< (nI i8 &&& 31)) ^^^ (-1))) f_fewest 32 := ⟨_, rfl⟩
        refine callVIs (As := [.int (x2 &&& (((1 : Int32) <<< (nI i8 &&& 31)) ^^^ (-1)))]) (rest := []) o_35 ho_35 hF (k_X4_at l D cI cZ a_fewest n_fewest (x2 &&& (((1 : Int32) <<< (nI i8 &&& 31)) ^^^ (-1))) f_fewest 32 (by decide)) (cwV 1 hts gX2_fewestWith_X4_at rfl rfl rfl (by decide +kernel) ⟨Nat.le_of_ble_eq_true rfl, Nat.le_of_ble_eq_true rfl⟩) hK hN hP (va_Dsame hD rfl) hS hA [1, 2] rfl rfl 1 4 (T := TX4) (N := 1) rfl rfl rfl hl.1 rfl (Nat.le_of_ble_eq_true rfl) dX2_fewestWith_35 ⟨Nat.zero_le _, Nat.zero_le _⟩ o_35 rfl rfl (fun H locs hP hS => ?_)
        refine lv_istore (lv' := [(6, .int o_35), (5, .int (nI i8)), (4, .int z8), (0, .ref a), (1, .int x1), (2, .int x2), (3, .int x3)]) hx hb dX2_fewestWith_38 hl (by decide) rfl (fun ls hl => ?_)
        refine lv_iload hx hb dX2_fewestWith_40 (lv_at hl 2 rfl) ?_
        refine lv_iload hx hb dX2_fewestWith_42 (lv_at hl 0 rfl) ?_
        refine lv_iload_n hx hb dX2_fewestWith_44 rfl (lv_at hl 4 rfl) ?_
        refine lv_aload_n hx hb dX2_fewestWith_45 rfl (lv_at hl 3 rfl) ?_
        refine va_get (D := D) (ci := 2) (v := .ref a_goals) (C := RX2) (T := TX2) (N := 3) hx hb hts (fun _ h => List.mem_cons_of_mem _ (List.mem_append_left _ (List.mem_append_right _ (h)))) hown hK hP 0 rfl rfl 1 (by decide) (hts _ (List.mem_of_getElem? (i := 2) rfl)) (fun _ h9 => h9) rfl dX2_fewestWith_46 ?_
        refine lv_iload hx hb dX2_fewestWith_49 (lv_at hl 1 rfl) ?_
        obtain ⟨o_51, ho_51⟩ : ∃ z : Int32, z = v_X4_at (nI i8) f_goals 5 := ⟨_, rfl⟩
        refine callVIs (As := [.int (nI i8)]) (rest := [.int x1, .int o_35, .int z8]) o_51 ho_51 hF (k_X4_at l D cI cZ a_goals n_goals (nI i8) f_goals 5 (by decide)) (cwV 1 hts gX2_fewestWith_X4_at rfl rfl rfl (by decide +kernel) ⟨Nat.le_of_ble_eq_true rfl, Nat.le_of_ble_eq_true rfl⟩) hK hN hP (va_Dsame hD rfl) hS hA [3, 4] rfl rfl 3 4 (T := TX4) (N := 1) rfl rfl rfl hl.1 rfl (Nat.le_of_ble_eq_true rfl) dX2_fewestWith_51 ⟨Nat.zero_le _, Nat.zero_le _⟩ o_51 rfl rfl (fun H locs hP hS => ?_)
        obtain ⟨o_54, ho_54⟩ : ∃ z : Int32, z = v_X2_distance x1 o_51 := ⟨_, rfl⟩
        refine callSIs (As := [.int x1, .int o_51]) (rest := [.int o_35, .int z8]) o_54 ho_54 hF (k_X2_distance l D cI cZ x1 o_51) (va_cwS 2 hts gX2_fewestWith_X2_distance rfl rfl rfl (by decide +kernel) ⟨Nat.le_of_ble_eq_true rfl, Nat.le_of_ble_eq_true rfl⟩) hK hN hP (va_Dsame hD rfl) hS hA [] rfl rfl rfl hl.1 rfl (Nat.le_of_ble_eq_true rfl) dX2_fewestWith_54 ⟨Nat.zero_le _, Nat.zero_le _⟩ o_54 rfl rfl (fun H locs hP hS => ?_)
        refine lv_iadd hx hb dX2_fewestWith_57 ?_
        refine va_mmin hx hb (by rw [hml]; exact hl.1.symm) hown (hts _ (List.mem_of_getElem? (i := 3) rfl)) (hts _ (List.mem_of_getElem? (i := 4) rfl)) (hts _ (List.mem_of_getElem? (i := 5) rfl)) (hts _ (List.mem_of_getElem? (i := 6) rfl)) (Nat.le_of_ble_eq_true rfl) (Nat.le_of_ble_eq_true rfl) (Nat.zero_le _) (Nat.zero_le _) dX2_fewestWith_58 ?_
        refine lv_topi (fun w_61 hw_61 => ?_)
        refine lv_istore (lv' := [(4, .int w_61), (6, .int o_35), (5, .int (nI i8)), (0, .ref a), (1, .int x1), (2, .int x2), (3, .int x3)]) hx hb dX2_fewestWith_61 hl (by decide) rfl (fun ls hl => ?_)
        refine lv_iinc (v := (nI (i8 + 1))) (lv' := [(5, .int (nI (i8 + 1))), (4, .int w_61), (6, .int o_35), (0, .ref a), (1, .int x1), (2, .int x2), (3, .int x3)]) hx hb dX2_fewestWith_63 hl (k := 2) rfl (nI_1 _) (by decide) rfl (fun ls hl => ?_)
        refine lv_goto (tgt := 8) hx hb dX2_fewestWith_66 (by decide) ?_
        have e8 : v_X2_fewestWith_L8 x1 x2 f_fewest f_goals i8 z8 = w_61 := by
          refine (bnd_eq ho_17).trans ?_
          refine (if_neg c_20).trans ?_
          refine (bnd_eq ho_35).trans ?_
          refine (bnd_eq ho_51).trans ?_
          refine (bnd_eq ho_54).trans ?_
          refine (bnd_eq hw_61).trans ?_
          rfl
        exact ih (i8 + 1) w_61 (by omega) (by omega) (it_go e8 hz) _ _ _ hP hS (lv_sub hl [0, 1, 3, 4, 5, 6] rfl)
  exact loop8 x3.toNatClampNeg 0 1000 (Nat.le_refl _) rfl ho_L8.symm _ _ _ hP hS (lv_sub hl [0, 1, 2, 3, 4, 5] rfl)
def v_X2_fewestMoves_L37 (o_5_1 : Int32) (o_5_2 : Nat → Int32) (o_14_2 : Nat → Int32) (i37 : Nat) (z37 : Nat → Int32) : Nat → Int32 :=
  bnd (v_J6_bitCount_0f7a4 (nI i37)) fun o_50 =>
  (bnd (v_X4_at (o_50 - 1) o_5_2 5) fun o_55 =>
  (bnd (v_X2_fewestWith o_55 (nI i37) o_5_1 z37 o_14_2) fun o_72 =>
  (bnd (v_X4_put (nI i37) o_72 z37 32) fun o_75 =>
  o_75)))
def v_X2_fewestMoves (x1 : Int32) (x2 : Int32) (f_starts : Nat → Int32) (f_goals : Nat → Int32) (f_fewest : Nat → Int32) : Int32 × (Nat → Int32) × (Nat → Int32) × (Nat → Int32) :=
  bnd2 (v_X2_list x1 f_starts 5) fun o_5_1 o_5_2 =>
  (bnd2 (v_X2_list x2 f_goals 5) fun o_14_1 o_14_2 =>
  (bnd (v_X4_put 0 0 f_fewest 32) fun o_31 =>
  (bnd (it (v_X2_fewestMoves_L37 o_5_1 o_5_2 o_14_2) (((((1 : Int32) <<< (o_5_1 &&& 31)) - 1).toNatClampNeg + 1) - 1) 1 o_31) fun o_L37 =>
  (bnd (v_X4_at (((1 : Int32) <<< (o_5_1 &&& 31)) - 1) o_L37 32) fun o_90 =>
  (o_90, o_5_2, o_14_2, o_L37)))))
abbrev rm_X2_fewestMoves : Room := { frames := 3, cells := 0, slots := 0, locals := 70 }
set_option maxHeartbeats 4000000 in
set_option maxRecDepth 100000 in
theorem k_X2_fewestMoves (l : Launch) (D : va_G) (cI cZ : ClassId) (a a_starts a_goals a_fewest n_starts n_goals n_fewest : Nat) (x1 : Int32) (x2 : Int32) (f_starts : Nat → Int32) (f_goals : Nat → Int32) (f_fewest : Nat → Int32) : KI l D cI cZ yX2_fewestMoves wsX2_fewestMoves rm_X2_fewestMoves [.ref a, .int x1, .int x2] [(a, .inr (2, [.ref a_starts, .ref a_goals, .ref a_fewest])), (a_starts, .inr (4, [.ref n_starts])), (n_starts, .inl (cI, 5, .inl f_starts)), (a_goals, .inr (4, [.ref n_goals])), (n_goals, .inl (cI, 5, .inl f_goals)), (a_fewest, .inr (4, [.ref n_fewest])), (n_fewest, .inl (cI, 32, .inl f_fewest))] (v_X2_fewestMoves x1 x2 f_starts f_goals f_fewest) (fun o : Int32 × (Nat → Int32) × (Nat → Int32) × (Nat → Int32) => o.1) (fun o : Int32 × (Nat → Int32) × (Nat → Int32) × (Nat → Int32) => [(a, .inr (2, [.ref a_starts, .ref a_goals, .ref a_fewest])), (a_starts, .inr (4, [.ref n_starts])), (n_starts, .inl (cI, 5, .inl o.2.1)), (a_goals, .inr (4, [.ref n_goals])), (n_goals, .inl (cI, 5, .inl o.2.2.1)), (a_fewest, .inr (4, [.ref n_fewest])), (n_fewest, .inl (cI, 32, .inl o.2.2.2))]) := by
  refine KI.of cX2_fewestMoves 7 (some .int) (by decide) rfl (Nat.le_of_ble_eq_true rfl) ?_
  intro p e s m below meth c A ls ar Q hQ B
  obtain ⟨hx, hb, hr, hml, hts, hown, hlk, hK, hN, hP, hD, hA, hS, hl⟩ := B
  have hown : s.vm.findClass RX2 = some m.cls := hown
  have hF : CallFix p m c cX2_fewestMoves 7 s ar wsX2_fewestMoves RX2 := ⟨hx, hb, hml, hown, hts⟩
  have hl : lv_has ls 7 [(0, .ref a), (1, .int x1), (2, .int x2)] := hl
  refine lv_iload_n hx hb dX2_fewestMoves_0 rfl (lv_at hl 1 rfl) ?_
  refine lv_aload_n hx hb dX2_fewestMoves_1 rfl (lv_at hl 0 rfl) ?_
  refine va_get (D := D) (ci := 2) (v := .ref a_starts) (C := RX2) (T := TX2) (N := 3) hx hb hts (fun _ h => List.mem_cons_of_mem _ (List.mem_append_left _ (List.mem_append_right _ (h)))) hown hK hP 0 rfl rfl 0 (by decide) (hts _ (List.mem_of_getElem? (i := 1) rfl)) (fun _ h9 => h9) rfl dX2_fewestMoves_2 ?_
  obtain ⟨o_5_1, o_5_2, ho_5⟩ := ex2 (v_X2_list x1 f_starts 5)
  refine callSI (As := [.int x1, .ref a_starts]) (rest := []) (o_5_1, o_5_2) ho_5 hF (k_X2_list l D cI cZ a_starts n_starts x1 f_starts 5 (by decide)) (va_cwS 2 hts gX2_fewestMoves_X2_list rfl rfl rfl (by decide +kernel) ⟨Nat.le_of_ble_eq_true rfl, Nat.le_of_ble_eq_true rfl⟩) hK hN hP (va_Dsame hD rfl) hS hA [1, 2] rfl rfl rfl hl.1 rfl (Nat.le_of_ble_eq_true rfl) dX2_fewestMoves_5 ⟨Nat.zero_le _, Nat.zero_le _⟩ o_5_1 rfl [none, some 0, some 1, none, none, none, none] 2 [(a, .inr (2, [.ref a_starts, .ref a_goals, .ref a_fewest])), (a_starts, .inr (4, [.ref n_starts])), (n_starts, .inl (cI, 5, .inl o_5_2)), (a_goals, .inr (4, [.ref n_goals])), (n_goals, .inl (cI, 5, .inl f_goals)), (a_fewest, .inr (4, [.ref n_fewest])), (n_fewest, .inl (cI, 32, .inl f_fewest))] rfl rfl (by decide) (fun H locs hP hS => ?_)
  refine lv_istore_n (lv' := [(3, .int o_5_1), (0, .ref a), (1, .int x1), (2, .int x2)]) hx hb dX2_fewestMoves_8 rfl hl (by decide) rfl (fun ls hl => ?_)
  refine lv_iload_n hx hb dX2_fewestMoves_9 rfl (lv_at hl 3 rfl) ?_
  refine lv_aload_n hx hb dX2_fewestMoves_10 rfl (lv_at hl 1 rfl) ?_
  refine va_get (D := D) (ci := 2) (v := .ref a_goals) (C := RX2) (T := TX2) (N := 3) hx hb hts (fun _ h => List.mem_cons_of_mem _ (List.mem_append_left _ (List.mem_append_right _ (h)))) hown hK hP 0 rfl rfl 1 (by decide) (hts _ (List.mem_of_getElem? (i := 2) rfl)) (fun _ h9 => h9) rfl dX2_fewestMoves_11 ?_
  obtain ⟨o_14_1, o_14_2, ho_14⟩ := ex2 (v_X2_list x2 f_goals 5)
  refine callSI (As := [.int x2, .ref a_goals]) (rest := []) (o_14_1, o_14_2) ho_14 hF (k_X2_list l D cI cZ a_goals n_goals x2 f_goals 5 (by decide)) (va_cwS 2 hts gX2_fewestMoves_X2_list rfl rfl rfl (by decide +kernel) ⟨Nat.le_of_ble_eq_true rfl, Nat.le_of_ble_eq_true rfl⟩) hK hN hP (va_Dsame hD rfl) hS hA [3, 4] rfl rfl rfl hl.1 rfl (Nat.le_of_ble_eq_true rfl) dX2_fewestMoves_14 ⟨Nat.zero_le _, Nat.zero_le _⟩ o_14_1 rfl [none, none, none, some 0, some 1, none, none] 2 [(a, .inr (2, [.ref a_starts, .ref a_goals, .ref a_fewest])), (a_starts, .inr (4, [.ref n_starts])), (n_starts, .inl (cI, 5, .inl o_5_2)), (a_goals, .inr (4, [.ref n_goals])), (n_goals, .inl (cI, 5, .inl o_14_2)), (a_fewest, .inr (4, [.ref n_fewest])), (n_fewest, .inl (cI, 32, .inl f_fewest))] rfl rfl (by decide) (fun H locs hP hS => ?_)
  refine lv_pop hx hb dX2_fewestMoves_17 rfl ?_
  refine lv_iconst (v := 1) hx hb dX2_fewestMoves_18 rfl ?_
  refine lv_iload_n hx hb dX2_fewestMoves_19 rfl (lv_at hl 0 rfl) ?_
  refine lv_ishl hx hb dX2_fewestMoves_20 ?_
  refine lv_iconst (v := 1) hx hb dX2_fewestMoves_21 rfl ?_
  refine lv_isub hx hb dX2_fewestMoves_22 ?_
  refine lv_istore (lv' := [(4, .int (((1 : Int32) <<< (o_5_1 &&& 31)) - 1)), (3, .int o_5_1), (0, .ref a), (1, .int x1), (2, .int x2)]) hx hb dX2_fewestMoves_23 hl (by decide) rfl (fun ls hl => ?_)
  refine lv_aload_n hx hb dX2_fewestMoves_25 rfl (lv_at hl 2 rfl) ?_
  refine va_get (D := D) (ci := 2) (v := .ref a_fewest) (C := RX2) (T := TX2) (N := 3) hx hb hts (fun _ h => List.mem_cons_of_mem _ (List.mem_append_left _ (List.mem_append_right _ (h)))) hown hK hP 0 rfl rfl 2 (by decide) (hts _ (List.mem_of_getElem? (i := 3) rfl)) (fun _ h9 => h9) rfl dX2_fewestMoves_26 ?_
  refine lv_iconst (v := 0) hx hb dX2_fewestMoves_29 rfl ?_
  refine lv_iconst (v := 0) hx hb dX2_fewestMoves_30 rfl ?_
  obtain ⟨o_31, ho_31⟩ : ∃ z : Nat → Int32, z = v_X4_put 0 0 f_fewest 32 := ⟨_, rfl⟩
  refine callVV (As := [.int 0, .int 0]) (rest := []) o_31 ho_31 hF (k_X4_put l D cI cZ a_fewest n_fewest 0 0 f_fewest 32 (by decide)) (cwV 2 hts gX2_fewestMoves_X4_put rfl rfl rfl (by decide +kernel) ⟨Nat.le_of_ble_eq_true rfl, Nat.le_of_ble_eq_true rfl⟩) hK hN hP (va_Dsame hD rfl) hS hA [5, 6] rfl rfl 5 4 (T := TX4) (N := 1) rfl rfl rfl hl.1 rfl (Nat.le_of_ble_eq_true rfl) dX2_fewestMoves_31 ⟨Nat.zero_le _, Nat.zero_le _⟩ [none, none, none, none, none, some 0, some 1] 2 [(a, .inr (2, [.ref a_starts, .ref a_goals, .ref a_fewest])), (a_starts, .inr (4, [.ref n_starts])), (n_starts, .inl (cI, 5, .inl o_5_2)), (a_goals, .inr (4, [.ref n_goals])), (n_goals, .inl (cI, 5, .inl o_14_2)), (a_fewest, .inr (4, [.ref n_fewest])), (n_fewest, .inl (cI, 32, .inl o_31))] rfl rfl (by decide) (fun H locs hP hS => ?_)
  refine lv_iconst (v := 1) hx hb dX2_fewestMoves_34 rfl ?_
  refine lv_istore (lv' := [(5, .int 1), (4, .int (((1 : Int32) <<< (o_5_1 &&& 31)) - 1)), (3, .int o_5_1), (0, .ref a), (1, .int x1), (2, .int x2)]) hx hb dX2_fewestMoves_35 hl (by decide) rfl (fun ls hl => ?_)
  have hNlt : (((1 : Int32) <<< (o_5_1 &&& 31)) - 1).toNatClampNeg + 1 < 2 ^ 31 := (all_lt (list_le2 ho_5))
  obtain ⟨o_L37, ho_L37⟩ : ∃ z : Nat → Int32, z = it (v_X2_fewestMoves_L37 o_5_1 o_5_2 o_14_2) (((((1 : Int32) <<< (o_5_1 &&& 31)) - 1).toNatClampNeg + 1) - 1) 1 o_31 := ⟨_, rfl⟩
  have kE37 : ∀ (H : Heap) (locs : List Loc) (ls : Array Slot), va_P D vwCl [(a, .inr (2, [.ref a_starts, .ref a_goals, .ref a_fewest])), (a_starts, .inr (4, [.ref n_starts])), (n_starts, .inl (cI, 5, .inl o_5_2)), (a_goals, .inr (4, [.ref n_goals])), (n_goals, .inl (cI, 5, .inl o_14_2)), (a_fewest, .inr (4, [.ref n_fewest])), (n_fewest, .inl (cI, 32, .inl o_L37))] H → va_S A s.heap H locs → lv_has ls 7 [(4, .int (((1 : Int32) <<< (o_5_1 &&& 31)) - 1)), (0, .ref a)] → W p l e rm_X2_fewestMoves s m ar below meth c H locs 0 0 Q (F0 m 84 ls []) := by
    intro H locs ls hP hS hl
    refine lv_aload_n hx hb dX2_fewestMoves_84 rfl (lv_at hl 1 rfl) ?_
    refine va_get (D := D) (ci := 2) (v := .ref a_fewest) (C := RX2) (T := TX2) (N := 3) hx hb hts (fun _ h => List.mem_cons_of_mem _ (List.mem_append_left _ (List.mem_append_right _ (h)))) hown hK hP 0 rfl rfl 2 (by decide) (hts _ (List.mem_of_getElem? (i := 3) rfl)) (fun _ h9 => h9) rfl dX2_fewestMoves_85 ?_
    refine lv_iload hx hb dX2_fewestMoves_88 (lv_at hl 0 rfl) ?_
    obtain ⟨o_90, ho_90⟩ : ∃ z : Int32, z = v_X4_at (((1 : Int32) <<< (o_5_1 &&& 31)) - 1) o_L37 32 := ⟨_, rfl⟩
    refine callVIs (As := [.int (((1 : Int32) <<< (o_5_1 &&& 31)) - 1)]) (rest := []) o_90 ho_90 hF (k_X4_at l D cI cZ a_fewest n_fewest (((1 : Int32) <<< (o_5_1 &&& 31)) - 1) o_L37 32 (by decide)) (cwV 1 hts gX2_fewestMoves_X4_at rfl rfl rfl (by decide +kernel) ⟨Nat.le_of_ble_eq_true rfl, Nat.le_of_ble_eq_true rfl⟩) hK hN hP (va_Dsame hD rfl) hS hA [5, 6] rfl rfl 5 4 (T := TX4) (N := 1) rfl rfl rfl hl.1 rfl (Nat.le_of_ble_eq_true rfl) dX2_fewestMoves_90 ⟨Nat.zero_le _, Nat.zero_le _⟩ o_90 rfl rfl (fun H locs hP hS => ?_)
    have e9 : v_X2_fewestMoves x1 x2 f_starts f_goals f_fewest = (o_90, o_5_2, o_14_2, o_L37) := by
      refine (bnd2_eq ho_5).trans ?_
      refine (bnd2_eq ho_14).trans ?_
      refine (bnd_eq ho_31).trans ?_
      refine (bnd_eq ho_L37).trans ?_
      refine (bnd_eq ho_90).trans ?_
      rfl
    rw [hQ]; exact retI (o_90, o_5_2, o_14_2, o_L37) hx hb hr hlk e9 hP rfl hS dX2_fewestMoves_93
  have loop37 : ∀ (k i37 : Nat) (z37 : Nat → Int32), 1 ≤ i37 → i37 + k = 1 + (((((1 : Int32) <<< (o_5_1 &&& 31)) - 1).toNatClampNeg + 1) - 1) → it (v_X2_fewestMoves_L37 o_5_1 o_5_2 o_14_2) k i37 z37 = o_L37 → ∀ (H : Heap) (locs : List Loc) (ls : Array Slot), va_P D vwCl [(a, .inr (2, [.ref a_starts, .ref a_goals, .ref a_fewest])), (a_starts, .inr (4, [.ref n_starts])), (n_starts, .inl (cI, 5, .inl o_5_2)), (a_goals, .inr (4, [.ref n_goals])), (n_goals, .inl (cI, 5, .inl o_14_2)), (a_fewest, .inr (4, [.ref n_fewest])), (n_fewest, .inl (cI, 32, .inl z37))] H → va_S A s.heap H locs → lv_has ls 7 [(5, .int (nI i37)), (4, .int (((1 : Int32) <<< (o_5_1 &&& 31)) - 1)), (3, .int o_5_1), (0, .ref a)] → W p l e rm_X2_fewestMoves s m ar below meth c H locs 0 0 Q (F0 m 37 ls []) := by
    intro k
    induction k with
    | zero =>
      intro i37 z37 hi0 hik hz H locs ls hP hS hl
      have hz : z37 = o_L37 := it_0 hz
      subst z37
      refine lv_iload hx hb dX2_fewestMoves_37 (lv_at hl 0 rfl) ?_
      refine lv_iload hx hb dX2_fewestMoves_39 (lv_at hl 1 rfl) ?_
      refine lv_icmp_gt (tgt := 84) hx hb dX2_fewestMoves_41 (by decide) (fun _ => ?_) (fun c => absurd (cb_gt (by omega) (by omega)) c)
      exact kE37 _ _ _ hP hS (lv_sub hl [1, 3] rfl)
    | succ k ih =>
      intro i37 z37 hi0 hik hz H locs ls hP hS hl
      refine lv_iload hx hb dX2_fewestMoves_37 (lv_at hl 0 rfl) ?_
      refine lv_iload hx hb dX2_fewestMoves_39 (lv_at hl 1 rfl) ?_
      refine lv_icmp_gt (tgt := 84) hx hb dX2_fewestMoves_41 (by decide) (fun c => absurd c (cb_le (by omega) (by omega))) (fun _ => ?_)
      refine lv_aload_n hx hb dX2_fewestMoves_44 rfl (lv_at hl 3 rfl) ?_
      refine va_get (D := D) (ci := 2) (v := .ref a_starts) (C := RX2) (T := TX2) (N := 3) hx hb hts (fun _ h => List.mem_cons_of_mem _ (List.mem_append_left _ (List.mem_append_right _ (h)))) hown hK hP 0 rfl rfl 0 (by decide) (hts _ (List.mem_of_getElem? (i := 1) rfl)) (fun _ h9 => h9) rfl dX2_fewestMoves_45 ?_
      refine lv_iload hx hb dX2_fewestMoves_48 (lv_at hl 0 rfl) ?_
      obtain ⟨o_50, ho_50⟩ : ∃ z : Int32, z = v_J6_bitCount_0f7a4 (nI i37) := ⟨_, rfl⟩
      refine callSIs (As := [.int (nI i37)]) (rest := [.ref a_starts]) o_50 ho_50 hF (k_J6_bitCount_0f7a4 l D cI cZ (nI i37)) (va_cwS 1 hts gX2_fewestMoves_J6_bitCount_0f7a4 rfl rfl rfl (by decide +kernel) ⟨Nat.le_of_ble_eq_true rfl, Nat.le_of_ble_eq_true rfl⟩) hK hN hP (va_Dsame hD rfl) hS hA [] rfl rfl rfl hl.1 rfl (Nat.le_of_ble_eq_true rfl) dX2_fewestMoves_50 ⟨Nat.zero_le _, Nat.zero_le _⟩ o_50 rfl rfl (fun H locs hP hS => ?_)
      refine lv_iconst (v := 1) hx hb dX2_fewestMoves_53 rfl ?_
      refine lv_isub hx hb dX2_fewestMoves_54 ?_
      obtain ⟨o_55, ho_55⟩ : ∃ z : Int32, z = v_X4_at (o_50 - 1) o_5_2 5 := ⟨_, rfl⟩
      refine callVIs (As := [.int (o_50 - 1)]) (rest := []) o_55 ho_55 hF (k_X4_at l D cI cZ a_starts n_starts (o_50 - 1) o_5_2 5 (by decide)) (cwV 1 hts gX2_fewestMoves_X4_at rfl rfl rfl (by decide +kernel) ⟨Nat.le_of_ble_eq_true rfl, Nat.le_of_ble_eq_true rfl⟩) hK hN hP (va_Dsame hD rfl) hS hA [1, 2] rfl rfl 1 4 (T := TX4) (N := 1) rfl rfl rfl hl.1 rfl (Nat.le_of_ble_eq_true rfl) dX2_fewestMoves_55 ⟨Nat.zero_le _, Nat.zero_le _⟩ o_55 rfl rfl (fun H locs hP hS => ?_)
      refine lv_istore (lv' := [(6, .int o_55), (5, .int (nI i37)), (4, .int (((1 : Int32) <<< (o_5_1 &&& 31)) - 1)), (3, .int o_5_1), (0, .ref a)]) hx hb dX2_fewestMoves_58 hl (by decide) rfl (fun ls hl => ?_)
      refine lv_aload_n hx hb dX2_fewestMoves_60 rfl (lv_at hl 4 rfl) ?_
      refine va_get (D := D) (ci := 2) (v := .ref a_fewest) (C := RX2) (T := TX2) (N := 3) hx hb hts (fun _ h => List.mem_cons_of_mem _ (List.mem_append_left _ (List.mem_append_right _ (h)))) hown hK hP 0 rfl rfl 2 (by decide) (hts _ (List.mem_of_getElem? (i := 3) rfl)) (fun _ h9 => h9) rfl dX2_fewestMoves_61 ?_
      refine lv_iload hx hb dX2_fewestMoves_64 (lv_at hl 1 rfl) ?_
      refine lv_aload_n hx hb dX2_fewestMoves_66 rfl (lv_at hl 4 rfl) ?_
      refine lv_iload hx hb dX2_fewestMoves_67 (lv_at hl 0 rfl) ?_
      refine lv_iload hx hb dX2_fewestMoves_69 (lv_at hl 1 rfl) ?_
      refine lv_iload_n hx hb dX2_fewestMoves_71 rfl (lv_at hl 3 rfl) ?_
      obtain ⟨o_72, ho_72⟩ : ∃ z : Int32, z = v_X2_fewestWith o_55 (nI i37) o_5_1 z37 o_14_2 := ⟨_, rfl⟩
      refine callVIs (As := [.int o_55, .int (nI i37), .int o_5_1]) (rest := [.int (nI i37), .ref a_fewest]) o_72 ho_72 hF (k_X2_fewestWith l D cI cZ a a_starts a_goals a_fewest n_fewest n_goals o_55 (nI i37) o_5_1 z37 o_14_2) (cwV 3 hts gX2_fewestMoves_X2_fewestWith rfl rfl rfl (by decide +kernel) ⟨Nat.le_of_ble_eq_true rfl, Nat.le_of_ble_eq_true rfl⟩) hK hN hP (va_Dsame hD rfl) hS hA [0, 5, 6, 3, 4] rfl rfl 0 2 (T := TX2) (N := 3) rfl rfl rfl hl.1 rfl (Nat.le_of_ble_eq_true rfl) dX2_fewestMoves_72 ⟨Nat.zero_le _, Nat.zero_le _⟩ o_72 rfl rfl (fun H locs hP hS => ?_)
      obtain ⟨o_75, ho_75⟩ : ∃ z : Nat → Int32, z = v_X4_put (nI i37) o_72 z37 32 := ⟨_, rfl⟩
      refine callVV (As := [.int (nI i37), .int o_72]) (rest := []) o_75 ho_75 hF (k_X4_put l D cI cZ a_fewest n_fewest (nI i37) o_72 z37 32 (by decide)) (cwV 2 hts gX2_fewestMoves_X4_put rfl rfl rfl (by decide +kernel) ⟨Nat.le_of_ble_eq_true rfl, Nat.le_of_ble_eq_true rfl⟩) hK hN hP (va_Dsame hD rfl) hS hA [5, 6] rfl rfl 5 4 (T := TX4) (N := 1) rfl rfl rfl hl.1 rfl (Nat.le_of_ble_eq_true rfl) dX2_fewestMoves_75 ⟨Nat.zero_le _, Nat.zero_le _⟩ [none, none, none, none, none, some 0, some 1] 2 [(a, .inr (2, [.ref a_starts, .ref a_goals, .ref a_fewest])), (a_starts, .inr (4, [.ref n_starts])), (n_starts, .inl (cI, 5, .inl o_5_2)), (a_goals, .inr (4, [.ref n_goals])), (n_goals, .inl (cI, 5, .inl o_14_2)), (a_fewest, .inr (4, [.ref n_fewest])), (n_fewest, .inl (cI, 32, .inl o_75))] rfl rfl (by decide) (fun H locs hP hS => ?_)
      refine lv_iinc (v := (nI (i37 + 1))) (lv' := [(5, .int (nI (i37 + 1))), (6, .int o_55), (4, .int (((1 : Int32) <<< (o_5_1 &&& 31)) - 1)), (3, .int o_5_1), (0, .ref a)]) hx hb dX2_fewestMoves_78 hl (k := 1) rfl (nI_1 _) (by decide) rfl (fun ls hl => ?_)
      refine lv_goto (tgt := 37) hx hb dX2_fewestMoves_81 (by decide) ?_
      have e8 : v_X2_fewestMoves_L37 o_5_1 o_5_2 o_14_2 i37 z37 = o_75 := by
        refine (bnd_eq ho_50).trans ?_
        refine (bnd_eq ho_55).trans ?_
        refine (bnd_eq ho_72).trans ?_
        refine (bnd_eq ho_75).trans ?_
        rfl
      exact ih (i37 + 1) o_75 (by omega) (by omega) (it_go e8 hz) _ _ _ hP hS (lv_sub hl [0, 2, 3, 4] rfl)
  exact loop37 (((((1 : Int32) <<< (o_5_1 &&& 31)) - 1).toNatClampNeg + 1) - 1) 1 o_31 (Nat.le_refl _) rfl ho_L37.symm _ _ _ hP hS (lv_sub hl [0, 1, 2, 3] rfl)
def v_X6_length (i_length : Int32) : Int32 :=
  i_length
abbrev rm_X6_length : Room := { frames := 0, cells := 0, slots := 0, locals := 0 }
set_option maxHeartbeats 4000000 in
set_option maxRecDepth 100000 in
theorem k_X6_length (l : Launch) (D : va_G) (cI cZ : ClassId) (a a_letters : Nat) (i_length : Int32) : KI l D cI cZ yX6_length wsX6_length rm_X6_length [.ref a] [(a, .inr (6, [.ref a_letters, .int i_length]))] (v_X6_length i_length) (fun o : Int32 => o) (fun _ : Int32 => [(a, .inr (6, [.ref a_letters, .int i_length]))]) := by
  refine KI.of cX6_length 1 (some .int) (by decide) rfl (Nat.le_of_ble_eq_true rfl) ?_
  intro p e s m below meth c A ls ar Q hQ B
  obtain ⟨hx, hb, hr, hml, hts, hown, hlk, hK, hN, hP, hD, hA, hS, hl⟩ := B
  have hown : s.vm.findClass RX6 = some m.cls := hown
  have hF : CallFix p m c cX6_length 1 s ar wsX6_length RX6 := ⟨hx, hb, hml, hown, hts⟩
  have hl : lv_has ls 1 [(0, .ref a)] := hl
  refine lv_aload_n hx hb dX6_length_0 rfl (lv_at hl 0 rfl) ?_
  refine va_get (D := D) (ci := 6) (v := .int i_length) (C := RX6) (T := TX6) (N := 2) hx hb hts (fun _ h => List.mem_cons_of_mem _ (List.mem_append_right _ (h))) hown hK hP 0 rfl rfl 1 (by decide) (hts _ (List.mem_of_getElem? (i := 1) rfl)) (fun _ h9 => h9) rfl dX6_length_1 ?_
  have e9 : v_X6_length i_length = i_length := by
    rfl
  rw [hQ]; exact retI i_length hx hb hr hlk e9 hP rfl hS dX6_length_4
def v_X6_letterAt (x1 : Int32) (f_letters : Nat → Int32) : Int32 :=
  bnd (v_X4_at x1 f_letters 72) fun o_5 =>
  o_5
abbrev rm_X6_letterAt : Room := { frames := 1, cells := 0, slots := 0, locals := 21 }
set_option maxHeartbeats 4000000 in
set_option maxRecDepth 100000 in
theorem k_X6_letterAt (l : Launch) (D : va_G) (cI cZ : ClassId) (a a_letters n_letters : Nat) (x1 : Int32) (i_length : Int32) (f_letters : Nat → Int32) : KI l D cI cZ yX6_letterAt wsX6_letterAt rm_X6_letterAt [.ref a, .int x1] [(a, .inr (6, [.ref a_letters, .int i_length])), (a_letters, .inr (4, [.ref n_letters])), (n_letters, .inl (cI, 72, .inl f_letters))] (v_X6_letterAt x1 f_letters) (fun o : Int32 => o) (fun _ : Int32 => [(a, .inr (6, [.ref a_letters, .int i_length])), (a_letters, .inr (4, [.ref n_letters])), (n_letters, .inl (cI, 72, .inl f_letters))]) := by
  refine KI.of cX6_letterAt 2 (some .int) (by decide) rfl (Nat.le_of_ble_eq_true rfl) ?_
  intro p e s m below meth c A ls ar Q hQ B
  obtain ⟨hx, hb, hr, hml, hts, hown, hlk, hK, hN, hP, hD, hA, hS, hl⟩ := B
  have hown : s.vm.findClass RX6 = some m.cls := hown
  have hF : CallFix p m c cX6_letterAt 2 s ar wsX6_letterAt RX6 := ⟨hx, hb, hml, hown, hts⟩
  have hl : lv_has ls 2 [(0, .ref a), (1, .int x1)] := hl
  refine lv_aload_n hx hb dX6_letterAt_0 rfl (lv_at hl 0 rfl) ?_
  refine va_get (D := D) (ci := 6) (v := .ref a_letters) (C := RX6) (T := TX6) (N := 2) hx hb hts (fun _ h => List.mem_cons_of_mem _ (List.mem_append_left _ (List.mem_append_right _ (h)))) hown hK hP 0 rfl rfl 0 (by decide) (hts _ (List.mem_of_getElem? (i := 1) rfl)) (fun _ h9 => h9) rfl dX6_letterAt_1 ?_
  refine lv_iload_n hx hb dX6_letterAt_4 rfl (lv_at hl 1 rfl) ?_
  obtain ⟨o_5, ho_5⟩ : ∃ z : Int32, z = v_X4_at x1 f_letters 72 := ⟨_, rfl⟩
  refine callVIs (As := [.int x1]) (rest := []) o_5 ho_5 hF (k_X4_at l D cI cZ a_letters n_letters x1 f_letters 72 (by decide)) (cwV 1 hts gX6_letterAt_X4_at rfl rfl rfl (by decide +kernel) ⟨Nat.le_of_ble_eq_true rfl, Nat.le_of_ble_eq_true rfl⟩) hK hN hP (va_Dsame hD rfl) hS hA [1, 2] rfl rfl 1 4 (T := TX4) (N := 1) rfl rfl rfl hl.1 rfl (Nat.le_of_ble_eq_true rfl) dX6_letterAt_5 ⟨Nat.zero_le _, Nat.zero_le _⟩ o_5 rfl rfl (fun H locs hP hS => ?_)
  have e9 : v_X6_letterAt x1 f_letters = o_5 := by
    refine (bnd_eq ho_5).trans ?_
    rfl
  rw [hQ]; exact retI o_5 hx hb hr hlk e9 hP rfl hS dX6_letterAt_8
def v_X3_takesFirst (x1 : Int32) (i_part : Int32) (i_lease_squares : Int32) (i_lease_wishCount : Int32) (i_lease_owedPlaces : Int32) : Bool × Int32 :=
  if x1 = 72 then (bnd (v_X1_squares i_lease_squares) fun o_45 =>
    (bnd (v_J6_bitCount_0f7a4 o_45) fun o_48 =>
    (if 5 ≤ o_48 then (false, 2)
    else (true, 2))))
  else (if x1 = 79 then (bnd (v_X1_owedCount i_lease_owedPlaces) fun o_92 =>
    (if 4 ≤ o_92 then (false, 4)
    else (true, 4)))
  else (if x1 = 87 then (bnd (v_X1_wishCount i_lease_wishCount) fun o_70 =>
    (if 5 ≤ o_70 then (false, 3)
    else (true, 3)))
  else (false, i_part)))
abbrev rm_X3_takesFirst : Room := { frames := 2, cells := 0, slots := 0, locals := 40 }
set_option maxHeartbeats 4000000 in
set_option maxRecDepth 100000 in
theorem k_X3_takesFirst (l : Launch) (D : va_G) (cI cZ : ClassId) (a a_lease a_lease_places a_lease_firstHours a_lease_spans a_lease_values a_lease_cells a_lease_needs a_lease_owed a_lease_room : Nat) (x1 : Int32) (i_part : Int32) (i_come : Int32) (i_number : Int32) (i_firstHour : Int32) (i_span : Int32) (i_value : Int32) (i_lease_squares : Int32) (i_lease_wishCount : Int32) (i_lease_owedPlaces : Int32) : KI l D cI cZ yX3_takesFirst wsX3_takesFirst rm_X3_takesFirst [.ref a, .int x1] [(a, .inr (3, [.ref a_lease, .int i_part, .int i_come, .int i_number, .int i_firstHour, .int i_span, .int i_value])), (a_lease, .inr (1, [.ref a_lease_places, .ref a_lease_firstHours, .ref a_lease_spans, .ref a_lease_values, .ref a_lease_cells, .ref a_lease_needs, .ref a_lease_owed, .ref a_lease_room, .int i_lease_squares, .int i_lease_wishCount, .int i_lease_owedPlaces]))] (v_X3_takesFirst x1 i_part i_lease_squares i_lease_wishCount i_lease_owedPlaces) (fun o : Bool × Int32 => bI o.1) (fun o : Bool × Int32 => [(a, .inr (3, [.ref a_lease, .int o.2, .int i_come, .int i_number, .int i_firstHour, .int i_span, .int i_value])), (a_lease, .inr (1, [.ref a_lease_places, .ref a_lease_firstHours, .ref a_lease_spans, .ref a_lease_values, .ref a_lease_cells, .ref a_lease_needs, .ref a_lease_owed, .ref a_lease_room, .int i_lease_squares, .int i_lease_wishCount, .int i_lease_owedPlaces]))]) := by
  refine KI.of cX3_takesFirst 2 (some .boolean) (by decide) rfl (Nat.le_of_ble_eq_true rfl) ?_
  intro p e s m below meth c A ls ar Q hQ B
  obtain ⟨hx, hb, hr, hml, hts, hown, hlk, hK, hN, hP, hD, hA, hS, hl⟩ := B
  have hown : s.vm.findClass RX3 = some m.cls := hown
  have hF : CallFix p m c cX3_takesFirst 2 s ar wsX3_takesFirst RX3 := ⟨hx, hb, hml, hown, hts⟩
  have hl : lv_has ls 2 [(0, .ref a), (1, .int x1)] := hl
  refine lv_iload_n hx hb dX3_takesFirst_0 rfl (lv_at hl 1 rfl) ?_
  by_cases c_1_72 : x1 = 72
  · have hxI : (x1).toInt = 72 := by rw [c_1_72]; rfl
    refine lv_lookup (off := 35) (tgt := 36) hx hb dX3_takesFirst_1 (by decide) (by rw [hxI]; rfl) (by decide) ?_
    refine lv_aload_n hx hb dX3_takesFirst_36 rfl (lv_at hl 0 rfl) ?_
    refine lv_iconst (v := 2) hx hb dX3_takesFirst_37 rfl ?_
    refine va_put (D := D) (ci := 3) (v := .int 2) (ty := .int) (C := RX3) (T := TX3) (N := 7) hx hb hts (fun _ h => List.mem_cons_of_mem _ (List.mem_append_left _ (List.mem_append_right _ (h)))) tyX3 tyX3_ok nmX3 hown hK hP (va_Dsame hD rfl) hS 0 rfl rfl 1 (by decide) (hts _ (List.mem_of_getElem? (i := 1) rfl)) (fun _ h9 => h9) rfl (tyX3_ok 1 (by decide)) rfl rfl (Nat.le_of_ble_eq_true rfl) dX3_takesFirst_38 (fun H locs hP _ hS => ?_)
    have hP : va_P D vwCl [(a, .inr (3, [.ref a_lease, .int 2, .int i_come, .int i_number, .int i_firstHour, .int i_span, .int i_value])), (a_lease, .inr (1, [.ref a_lease_places, .ref a_lease_firstHours, .ref a_lease_spans, .ref a_lease_values, .ref a_lease_cells, .ref a_lease_needs, .ref a_lease_owed, .ref a_lease_room, .int i_lease_squares, .int i_lease_wishCount, .int i_lease_owedPlaces]))] H := hP
    refine lv_aload_n hx hb dX3_takesFirst_41 rfl (lv_at hl 0 rfl) ?_
    refine va_get (D := D) (ci := 3) (v := .ref a_lease) (C := RX3) (T := TX3) (N := 7) hx hb hts (fun _ h => List.mem_cons_of_mem _ (List.mem_append_left _ (List.mem_append_right _ (h)))) hown hK hP 0 rfl rfl 0 (by decide) (hts _ (List.mem_of_getElem? (i := 2) rfl)) (fun _ h9 => h9) rfl dX3_takesFirst_42 ?_
    obtain ⟨o_45, ho_45⟩ : ∃ z : Int32, z = v_X1_squares i_lease_squares := ⟨_, rfl⟩
    refine callVIs (As := []) (rest := []) o_45 ho_45 hF (k_X1_squares l D cI cZ a_lease a_lease_places a_lease_firstHours a_lease_spans a_lease_values a_lease_cells a_lease_needs a_lease_owed a_lease_room i_lease_squares i_lease_wishCount i_lease_owedPlaces) (cwV 0 hts gX3_takesFirst_X1_squares rfl rfl rfl (by decide +kernel) ⟨Nat.le_of_ble_eq_true rfl, Nat.le_of_ble_eq_true rfl⟩) hK hN hP (va_Dsame hD rfl) hS hA [1] rfl rfl 1 1 (T := TX1) (N := 11) rfl rfl rfl hl.1 rfl (Nat.le_of_ble_eq_true rfl) dX3_takesFirst_45 ⟨Nat.zero_le _, Nat.zero_le _⟩ o_45 rfl rfl (fun H locs hP hS => ?_)
    obtain ⟨o_48, ho_48⟩ : ∃ z : Int32, z = v_J6_bitCount_0f7a4 o_45 := ⟨_, rfl⟩
    refine callSIs (As := [.int o_45]) (rest := []) o_48 ho_48 hF (k_J6_bitCount_0f7a4 l D cI cZ o_45) (va_cwS 1 hts gX3_takesFirst_J6_bitCount_0f7a4 rfl rfl rfl (by decide +kernel) ⟨Nat.le_of_ble_eq_true rfl, Nat.le_of_ble_eq_true rfl⟩) hK hN hP (va_Dsame hD rfl) hS hA [] rfl rfl rfl hl.1 rfl (Nat.le_of_ble_eq_true rfl) dX3_takesFirst_48 ⟨Nat.zero_le _, Nat.zero_le _⟩ o_48 rfl rfl (fun H locs hP hS => ?_)
    refine lv_iconst (v := 5) hx hb dX3_takesFirst_51 rfl ?_
    refine lv_icmp_ge (tgt := 59) hx hb dX3_takesFirst_52 (by decide) (fun c_52 => ?_) (fun c_52 => ?_)
    · refine lv_iconst (v := 0) hx hb dX3_takesFirst_59 rfl ?_
      have e9 : v_X3_takesFirst x1 i_part i_lease_squares i_lease_wishCount i_lease_owedPlaces = (false, 2) := by
        refine (if_pos c_1_72).trans ?_
        refine (bnd_eq ho_45).trans ?_
        refine (bnd_eq ho_48).trans ?_
        refine (if_pos c_52).trans ?_
        rfl
      rw [hQ]; exact retZ (v := fun o : Bool × Int32 => o.1) (false, 2) hx hb hr hlk e9 hP rfl hS dX3_takesFirst_60
    · refine lv_iconst (v := 1) hx hb dX3_takesFirst_55 rfl ?_
      refine lv_goto (tgt := 60) hx hb dX3_takesFirst_56 (by decide) ?_
      have e9 : v_X3_takesFirst x1 i_part i_lease_squares i_lease_wishCount i_lease_owedPlaces = (true, 2) := by
        refine (if_pos c_1_72).trans ?_
        refine (bnd_eq ho_45).trans ?_
        refine (bnd_eq ho_48).trans ?_
        refine (if_neg c_52).trans ?_
        rfl
      rw [hQ]; exact retZ (v := fun o : Bool × Int32 => o.1) (true, 2) hx hb hr hlk e9 hP rfl hS dX3_takesFirst_60
  by_cases c_1_79 : x1 = 79
  · have hxI : (x1).toInt = 79 := by rw [c_1_79]; rfl
    refine lv_lookup (off := 82) (tgt := 83) hx hb dX3_takesFirst_1 (by decide) (by rw [hxI]; rfl) (by decide) ?_
    refine lv_aload_n hx hb dX3_takesFirst_83 rfl (lv_at hl 0 rfl) ?_
    refine lv_iconst (v := 4) hx hb dX3_takesFirst_84 rfl ?_
    refine va_put (D := D) (ci := 3) (v := .int 4) (ty := .int) (C := RX3) (T := TX3) (N := 7) hx hb hts (fun _ h => List.mem_cons_of_mem _ (List.mem_append_left _ (List.mem_append_right _ (h)))) tyX3 tyX3_ok nmX3 hown hK hP (va_Dsame hD rfl) hS 0 rfl rfl 1 (by decide) (hts _ (List.mem_of_getElem? (i := 1) rfl)) (fun _ h9 => h9) rfl (tyX3_ok 1 (by decide)) rfl rfl (Nat.le_of_ble_eq_true rfl) dX3_takesFirst_85 (fun H locs hP _ hS => ?_)
    have hP : va_P D vwCl [(a, .inr (3, [.ref a_lease, .int 4, .int i_come, .int i_number, .int i_firstHour, .int i_span, .int i_value])), (a_lease, .inr (1, [.ref a_lease_places, .ref a_lease_firstHours, .ref a_lease_spans, .ref a_lease_values, .ref a_lease_cells, .ref a_lease_needs, .ref a_lease_owed, .ref a_lease_room, .int i_lease_squares, .int i_lease_wishCount, .int i_lease_owedPlaces]))] H := hP
    refine lv_aload_n hx hb dX3_takesFirst_88 rfl (lv_at hl 0 rfl) ?_
    refine va_get (D := D) (ci := 3) (v := .ref a_lease) (C := RX3) (T := TX3) (N := 7) hx hb hts (fun _ h => List.mem_cons_of_mem _ (List.mem_append_left _ (List.mem_append_right _ (h)))) hown hK hP 0 rfl rfl 0 (by decide) (hts _ (List.mem_of_getElem? (i := 2) rfl)) (fun _ h9 => h9) rfl dX3_takesFirst_89 ?_
    obtain ⟨o_92, ho_92⟩ : ∃ z : Int32, z = v_X1_owedCount i_lease_owedPlaces := ⟨_, rfl⟩
    refine callVIs (As := []) (rest := []) o_92 ho_92 hF (k_X1_owedCount l D cI cZ a_lease a_lease_places a_lease_firstHours a_lease_spans a_lease_values a_lease_cells a_lease_needs a_lease_owed a_lease_room i_lease_squares i_lease_wishCount i_lease_owedPlaces) (cwV 0 hts gX3_takesFirst_X1_owedCount rfl rfl rfl (by decide +kernel) ⟨Nat.le_of_ble_eq_true rfl, Nat.le_of_ble_eq_true rfl⟩) hK hN hP (va_Dsame hD rfl) hS hA [1] rfl rfl 1 1 (T := TX1) (N := 11) rfl rfl rfl hl.1 rfl (Nat.le_of_ble_eq_true rfl) dX3_takesFirst_92 ⟨Nat.zero_le _, Nat.zero_le _⟩ o_92 rfl rfl (fun H locs hP hS => ?_)
    refine lv_iconst (v := 4) hx hb dX3_takesFirst_95 rfl ?_
    refine lv_icmp_ge (tgt := 103) hx hb dX3_takesFirst_96 (by decide) (fun c_96 => ?_) (fun c_96 => ?_)
    · refine lv_iconst (v := 0) hx hb dX3_takesFirst_103 rfl ?_
      have e9 : v_X3_takesFirst x1 i_part i_lease_squares i_lease_wishCount i_lease_owedPlaces = (false, 4) := by
        refine (if_neg c_1_72).trans ?_
        refine (if_pos c_1_79).trans ?_
        refine (bnd_eq ho_92).trans ?_
        refine (if_pos c_96).trans ?_
        rfl
      rw [hQ]; exact retZ (v := fun o : Bool × Int32 => o.1) (false, 4) hx hb hr hlk e9 hP rfl hS dX3_takesFirst_104
    · refine lv_iconst (v := 1) hx hb dX3_takesFirst_99 rfl ?_
      refine lv_goto (tgt := 104) hx hb dX3_takesFirst_100 (by decide) ?_
      have e9 : v_X3_takesFirst x1 i_part i_lease_squares i_lease_wishCount i_lease_owedPlaces = (true, 4) := by
        refine (if_neg c_1_72).trans ?_
        refine (if_pos c_1_79).trans ?_
        refine (bnd_eq ho_92).trans ?_
        refine (if_neg c_96).trans ?_
        rfl
      rw [hQ]; exact retZ (v := fun o : Bool × Int32 => o.1) (true, 4) hx hb hr hlk e9 hP rfl hS dX3_takesFirst_104
  by_cases c_1_87 : x1 = 87
  · have hxI : (x1).toInt = 87 := by rw [c_1_87]; rfl
    refine lv_lookup (off := 60) (tgt := 61) hx hb dX3_takesFirst_1 (by decide) (by rw [hxI]; rfl) (by decide) ?_
    refine lv_aload_n hx hb dX3_takesFirst_61 rfl (lv_at hl 0 rfl) ?_
    refine lv_iconst (v := 3) hx hb dX3_takesFirst_62 rfl ?_
    refine va_put (D := D) (ci := 3) (v := .int 3) (ty := .int) (C := RX3) (T := TX3) (N := 7) hx hb hts (fun _ h => List.mem_cons_of_mem _ (List.mem_append_left _ (List.mem_append_right _ (h)))) tyX3 tyX3_ok nmX3 hown hK hP (va_Dsame hD rfl) hS 0 rfl rfl 1 (by decide) (hts _ (List.mem_of_getElem? (i := 1) rfl)) (fun _ h9 => h9) rfl (tyX3_ok 1 (by decide)) rfl rfl (Nat.le_of_ble_eq_true rfl) dX3_takesFirst_63 (fun H locs hP _ hS => ?_)
    have hP : va_P D vwCl [(a, .inr (3, [.ref a_lease, .int 3, .int i_come, .int i_number, .int i_firstHour, .int i_span, .int i_value])), (a_lease, .inr (1, [.ref a_lease_places, .ref a_lease_firstHours, .ref a_lease_spans, .ref a_lease_values, .ref a_lease_cells, .ref a_lease_needs, .ref a_lease_owed, .ref a_lease_room, .int i_lease_squares, .int i_lease_wishCount, .int i_lease_owedPlaces]))] H := hP
    refine lv_aload_n hx hb dX3_takesFirst_66 rfl (lv_at hl 0 rfl) ?_
    refine va_get (D := D) (ci := 3) (v := .ref a_lease) (C := RX3) (T := TX3) (N := 7) hx hb hts (fun _ h => List.mem_cons_of_mem _ (List.mem_append_left _ (List.mem_append_right _ (h)))) hown hK hP 0 rfl rfl 0 (by decide) (hts _ (List.mem_of_getElem? (i := 2) rfl)) (fun _ h9 => h9) rfl dX3_takesFirst_67 ?_
    obtain ⟨o_70, ho_70⟩ : ∃ z : Int32, z = v_X1_wishCount i_lease_wishCount := ⟨_, rfl⟩
    refine callVIs (As := []) (rest := []) o_70 ho_70 hF (k_X1_wishCount l D cI cZ a_lease a_lease_places a_lease_firstHours a_lease_spans a_lease_values a_lease_cells a_lease_needs a_lease_owed a_lease_room i_lease_squares i_lease_wishCount i_lease_owedPlaces) (cwV 0 hts gX3_takesFirst_X1_wishCount rfl rfl rfl (by decide +kernel) ⟨Nat.le_of_ble_eq_true rfl, Nat.le_of_ble_eq_true rfl⟩) hK hN hP (va_Dsame hD rfl) hS hA [1] rfl rfl 1 1 (T := TX1) (N := 11) rfl rfl rfl hl.1 rfl (Nat.le_of_ble_eq_true rfl) dX3_takesFirst_70 ⟨Nat.zero_le _, Nat.zero_le _⟩ o_70 rfl rfl (fun H locs hP hS => ?_)
    refine lv_iconst (v := 5) hx hb dX3_takesFirst_73 rfl ?_
    refine lv_icmp_ge (tgt := 81) hx hb dX3_takesFirst_74 (by decide) (fun c_74 => ?_) (fun c_74 => ?_)
    · refine lv_iconst (v := 0) hx hb dX3_takesFirst_81 rfl ?_
      have e9 : v_X3_takesFirst x1 i_part i_lease_squares i_lease_wishCount i_lease_owedPlaces = (false, 3) := by
        refine (if_neg c_1_72).trans ?_
        refine (if_neg c_1_79).trans ?_
        refine (if_pos c_1_87).trans ?_
        refine (bnd_eq ho_70).trans ?_
        refine (if_pos c_74).trans ?_
        rfl
      rw [hQ]; exact retZ (v := fun o : Bool × Int32 => o.1) (false, 3) hx hb hr hlk e9 hP rfl hS dX3_takesFirst_82
    · refine lv_iconst (v := 1) hx hb dX3_takesFirst_77 rfl ?_
      refine lv_goto (tgt := 82) hx hb dX3_takesFirst_78 (by decide) ?_
      have e9 : v_X3_takesFirst x1 i_part i_lease_squares i_lease_wishCount i_lease_owedPlaces = (true, 3) := by
        refine (if_neg c_1_72).trans ?_
        refine (if_neg c_1_79).trans ?_
        refine (if_pos c_1_87).trans ?_
        refine (bnd_eq ho_70).trans ?_
        refine (if_neg c_74).trans ?_
        rfl
      rw [hQ]; exact retZ (v := fun o : Bool × Int32 => o.1) (true, 3) hx hb hr hlk e9 hP rfl hS dX3_takesFirst_82
  refine lv_lookup (off := 104) (tgt := 105) hx hb dX3_takesFirst_1 (by decide) (by show Op.lookupswitch.offset [(72, 35), (79, 82), (87, 60)] _ _ = _; rw [lv_osw c_1_72 (show (72 : Int32).toInt = 72 from rfl)]; rw [lv_osw c_1_79 (show (79 : Int32).toInt = 79 from rfl)]; rw [lv_osw c_1_87 (show (87 : Int32).toInt = 87 from rfl)]; rfl) (by decide) ?_
  refine lv_iconst (v := 0) hx hb dX3_takesFirst_105 rfl ?_
  have e9 : v_X3_takesFirst x1 i_part i_lease_squares i_lease_wishCount i_lease_owedPlaces = (false, i_part) := by
    refine (if_neg c_1_72).trans ?_
    refine (if_neg c_1_79).trans ?_
    refine (if_neg c_1_87).trans ?_
    rfl
  rw [hQ]; exact retZ (v := fun o : Bool × Int32 => o.1) (false, i_part) hx hb hr hlk e9 hP rfl hS dX3_takesFirst_106
def v_X3_takesOfNumber (x1 : Int32) (x2 : Int32) (i_come : Int32) (i_number : Int32) : Bool × Int32 :=
  if i_come = 1 then (if (x1 - 48) = 0 then (if (1023 &&& (x2 ^^^ (-1))) = 0 then (false, (10 * (x1 - 48)))
      else (true, (10 * (x1 - 48))))
    else (if (x1 - 48) = 1 then (if (3072 &&& (x2 ^^^ (-1))) = 0 then (false, (10 * (x1 - 48)))
      else (true, (10 * (x1 - 48))))
    else (if (0 &&& (x2 ^^^ (-1))) = 0 then (false, (10 * (x1 - 48)))
    else (true, (10 * (x1 - 48))))))
  else (if (x1 - 48) < 0 then (false, (i_number + (x1 - 48)))
  else (if 9 < (x1 - 48) then (false, (i_number + (x1 - 48)))
  else (if 12 ≤ (i_number + (x1 - 48)) then (false, (i_number + (x1 - 48)))
  else (bnd (v_X7_has x2 (i_number + (x1 - 48))) fun o_94 =>
  (if bI o_94 = 0 then (true, (i_number + (x1 - 48)))
  else (false, (i_number + (x1 - 48))))))))
abbrev rm_X3_takesOfNumber : Room := { frames := 1, cells := 0, slots := 0, locals := 21 }
set_option maxHeartbeats 4000000 in
set_option maxRecDepth 100000 in
theorem k_X3_takesOfNumber (l : Launch) (D : va_G) (cI cZ : ClassId) (a a_lease : Nat) (x1 : Int32) (x2 : Int32) (i_part : Int32) (i_come : Int32) (i_number : Int32) (i_firstHour : Int32) (i_span : Int32) (i_value : Int32) : KI l D cI cZ yX3_takesOfNumber wsX3_takesOfNumber rm_X3_takesOfNumber [.ref a, .int x1, .int x2] [(a, .inr (3, [.ref a_lease, .int i_part, .int i_come, .int i_number, .int i_firstHour, .int i_span, .int i_value]))] (v_X3_takesOfNumber x1 x2 i_come i_number) (fun o : Bool × Int32 => bI o.1) (fun o : Bool × Int32 => [(a, .inr (3, [.ref a_lease, .int i_part, .int i_come, .int o.2, .int i_firstHour, .int i_span, .int i_value]))]) := by
  refine KI.of cX3_takesOfNumber 5 (some .boolean) (by decide) rfl (Nat.le_of_ble_eq_true rfl) ?_
  intro p e s m below meth c A ls ar Q hQ B
  obtain ⟨hx, hb, hr, hml, hts, hown, hlk, hK, hN, hP, hD, hA, hS, hl⟩ := B
  have hown : s.vm.findClass RX3 = some m.cls := hown
  have hF : CallFix p m c cX3_takesOfNumber 5 s ar wsX3_takesOfNumber RX3 := ⟨hx, hb, hml, hown, hts⟩
  have hl : lv_has ls 5 [(0, .ref a), (1, .int x1), (2, .int x2)] := hl
  refine lv_iload_n hx hb dX3_takesOfNumber_0 rfl (lv_at hl 1 rfl) ?_
  refine lv_bipush (v := 48) hx hb dX3_takesOfNumber_1 rfl ?_
  refine lv_isub hx hb dX3_takesOfNumber_3 ?_
  refine lv_istore_n (lv' := [(3, .int (x1 - 48)), (0, .ref a), (1, .int x1), (2, .int x2)]) hx hb dX3_takesOfNumber_4 rfl hl (by decide) rfl (fun ls hl => ?_)
  refine lv_aload_n hx hb dX3_takesOfNumber_5 rfl (lv_at hl 1 rfl) ?_
  refine va_get (D := D) (ci := 3) (v := .int i_come) (C := RX3) (T := TX3) (N := 7) hx hb hts (fun _ h => List.mem_cons_of_mem _ (List.mem_append_right _ (h))) hown hK hP 0 rfl rfl 2 (by decide) (hts _ (List.mem_of_getElem? (i := 1) rfl)) (fun _ h9 => h9) rfl dX3_takesOfNumber_6 ?_
  refine lv_iconst (v := 1) hx hb dX3_takesOfNumber_9 rfl ?_
  refine lv_icmp_ne (tgt := 60) hx hb dX3_takesOfNumber_10 (by decide) (fun c_10 => ?_) (fun c_10 => ?_)
  · refine lv_aload_n hx hb dX3_takesOfNumber_60 rfl (lv_at hl 1 rfl) ?_
    refine lv_dup hx hb dX3_takesOfNumber_61 rfl ?_
    refine va_get (D := D) (ci := 3) (v := .int i_number) (C := RX3) (T := TX3) (N := 7) hx hb hts (fun _ h => List.mem_cons_of_mem _ (List.mem_append_right _ (h))) hown hK hP 0 rfl rfl 3 (by decide) (hts _ (List.mem_of_getElem? (i := 2) rfl)) (fun _ h9 => h9) rfl dX3_takesOfNumber_62 ?_
    refine lv_iload_n hx hb dX3_takesOfNumber_65 rfl (lv_at hl 0 rfl) ?_
    refine lv_iadd hx hb dX3_takesOfNumber_66 ?_
    refine va_put (D := D) (ci := 3) (v := .int (i_number + (x1 - 48))) (ty := .int) (C := RX3) (T := TX3) (N := 7) hx hb hts (fun _ h => List.mem_cons_of_mem _ (List.mem_append_right _ (h))) tyX3 tyX3_ok nmX3 hown hK hP (va_Dsame hD rfl) hS 0 rfl rfl 3 (by decide) (hts _ (List.mem_of_getElem? (i := 2) rfl)) (fun _ h9 => h9) rfl (tyX3_ok 3 (by decide)) rfl rfl (Nat.le_of_ble_eq_true rfl) dX3_takesOfNumber_67 (fun H locs hP _ hS => ?_)
    have hP : va_P D vwCl [(a, .inr (3, [.ref a_lease, .int i_part, .int i_come, .int (i_number + (x1 - 48)), .int i_firstHour, .int i_span, .int i_value]))] H := hP
    refine lv_iload_n hx hb dX3_takesOfNumber_70 rfl (lv_at hl 0 rfl) ?_
    refine lv_if_lt (tgt := 104) hx hb dX3_takesOfNumber_71 (by decide) (fun c_71 => ?_) (fun c_71 => ?_)
    · refine lv_iconst (v := 0) hx hb dX3_takesOfNumber_104 rfl ?_
      have e9 : v_X3_takesOfNumber x1 x2 i_come i_number = (false, (i_number + (x1 - 48))) := by
        refine (if_neg c_10).trans ?_
        refine (if_pos c_71).trans ?_
        rfl
      rw [hQ]; exact retZ (v := fun o : Bool × Int32 => o.1) (false, (i_number + (x1 - 48))) hx hb hr hlk e9 hP rfl hS dX3_takesOfNumber_105
    · refine lv_iload_n hx hb dX3_takesOfNumber_74 rfl (lv_at hl 0 rfl) ?_
      refine lv_bipush (v := 9) hx hb dX3_takesOfNumber_75 rfl ?_
      refine lv_icmp_gt (tgt := 104) hx hb dX3_takesOfNumber_77 (by decide) (fun c_77 => ?_) (fun c_77 => ?_)
      · refine lv_iconst (v := 0) hx hb dX3_takesOfNumber_104 rfl ?_
        have e9 : v_X3_takesOfNumber x1 x2 i_come i_number = (false, (i_number + (x1 - 48))) := by
          refine (if_neg c_10).trans ?_
          refine (if_neg c_71).trans ?_
          refine (if_pos c_77).trans ?_
          rfl
        rw [hQ]; exact retZ (v := fun o : Bool × Int32 => o.1) (false, (i_number + (x1 - 48))) hx hb hr hlk e9 hP rfl hS dX3_takesOfNumber_105
      · refine lv_aload_n hx hb dX3_takesOfNumber_80 rfl (lv_at hl 1 rfl) ?_
        refine va_get (D := D) (ci := 3) (v := .int (i_number + (x1 - 48))) (C := RX3) (T := TX3) (N := 7) hx hb hts (fun _ h => List.mem_cons_of_mem _ (List.mem_append_right _ (h))) hown hK hP 0 rfl rfl 3 (by decide) (hts _ (List.mem_of_getElem? (i := 2) rfl)) (fun _ h9 => h9) rfl dX3_takesOfNumber_81 ?_
        refine lv_bipush (v := 12) hx hb dX3_takesOfNumber_84 rfl ?_
        refine lv_icmp_ge (tgt := 104) hx hb dX3_takesOfNumber_86 (by decide) (fun c_86 => ?_) (fun c_86 => ?_)
        · refine lv_iconst (v := 0) hx hb dX3_takesOfNumber_104 rfl ?_
          have e9 : v_X3_takesOfNumber x1 x2 i_come i_number = (false, (i_number + (x1 - 48))) := by
            refine (if_neg c_10).trans ?_
            refine (if_neg c_71).trans ?_
            refine (if_neg c_77).trans ?_
            refine (if_pos c_86).trans ?_
            rfl
          rw [hQ]; exact retZ (v := fun o : Bool × Int32 => o.1) (false, (i_number + (x1 - 48))) hx hb hr hlk e9 hP rfl hS dX3_takesOfNumber_105
        · refine lv_iload_n hx hb dX3_takesOfNumber_89 rfl (lv_at hl 3 rfl) ?_
          refine lv_aload_n hx hb dX3_takesOfNumber_90 rfl (lv_at hl 1 rfl) ?_
          refine va_get (D := D) (ci := 3) (v := .int (i_number + (x1 - 48))) (C := RX3) (T := TX3) (N := 7) hx hb hts (fun _ h => List.mem_cons_of_mem _ (List.mem_append_right _ (h))) hown hK hP 0 rfl rfl 3 (by decide) (hts _ (List.mem_of_getElem? (i := 2) rfl)) (fun _ h9 => h9) rfl dX3_takesOfNumber_91 ?_
          obtain ⟨o_94, ho_94⟩ : ∃ z : Bool, z = v_X7_has x2 (i_number + (x1 - 48)) := ⟨_, rfl⟩
          refine callNIs (As := [.int x2, .int (i_number + (x1 - 48))]) (rest := []) o_94 ho_94 hF (k_X7_has l D cI cZ x2 (i_number + (x1 - 48))) ⟨va_cnB 2 hts gX3_takesOfNumber_X7_has_n101 rfl rfl rfl hN.2.2.2.1 (hts _ (List.mem_of_getElem? (i := 4) rfl)) (by decide +kernel) ⟨Nat.le_of_ble_eq_true rfl, Nat.le_of_ble_eq_true rfl⟩, (hts _ (List.mem_of_getElem? (i := 3) rfl)), trivial⟩ hK hN hP (va_Dsame hD rfl) hS hA [] rfl rfl rfl hl.1 rfl (Nat.le_of_ble_eq_true rfl) dX3_takesOfNumber_94 ⟨Nat.zero_le _, Nat.zero_le _⟩ (bI o_94) rfl rfl (fun H locs hP hS => ?_)
          refine lv_if_ne (tgt := 104) hx hb dX3_takesOfNumber_97 (by decide) (fun c_97 => ?_) (fun c_97 => ?_)
          · refine lv_iconst (v := 0) hx hb dX3_takesOfNumber_104 rfl ?_
            have e9 : v_X3_takesOfNumber x1 x2 i_come i_number = (false, (i_number + (x1 - 48))) := by
              refine (if_neg c_10).trans ?_
              refine (if_neg c_71).trans ?_
              refine (if_neg c_77).trans ?_
              refine (if_neg c_86).trans ?_
              refine (bnd_eq ho_94).trans ?_
              refine (if_neg c_97).trans ?_
              rfl
            rw [hQ]; exact retZ (v := fun o : Bool × Int32 => o.1) (false, (i_number + (x1 - 48))) hx hb hr hlk e9 hP rfl hS dX3_takesOfNumber_105
          · refine lv_iconst (v := 1) hx hb dX3_takesOfNumber_100 rfl ?_
            refine lv_goto (tgt := 105) hx hb dX3_takesOfNumber_101 (by decide) ?_
            have e9 : v_X3_takesOfNumber x1 x2 i_come i_number = (true, (i_number + (x1 - 48))) := by
              refine (if_neg c_10).trans ?_
              refine (if_neg c_71).trans ?_
              refine (if_neg c_77).trans ?_
              refine (if_neg c_86).trans ?_
              refine (bnd_eq ho_94).trans ?_
              refine (if_pos c_97).trans ?_
              rfl
            rw [hQ]; exact retZ (v := fun o : Bool × Int32 => o.1) (true, (i_number + (x1 - 48))) hx hb hr hlk e9 hP rfl hS dX3_takesOfNumber_105
  · refine lv_iload_n hx hb dX3_takesOfNumber_13 rfl (lv_at hl 0 rfl) ?_
    refine lv_if_ne (tgt := 23) hx hb dX3_takesOfNumber_14 (by decide) (fun c_14 => ?_) (fun c_14 => ?_)
    · refine lv_iload_n hx hb dX3_takesOfNumber_23 rfl (lv_at hl 0 rfl) ?_
      refine lv_iconst (v := 1) hx hb dX3_takesOfNumber_24 rfl ?_
      refine lv_icmp_ne (tgt := 34) hx hb dX3_takesOfNumber_25 (by decide) (fun c_25 => ?_) (fun c_25 => ?_)
      · refine lv_iconst (v := 0) hx hb dX3_takesOfNumber_34 rfl ?_
        refine lv_istore (lv' := [(4, .int 0), (3, .int (x1 - 48)), (0, .ref a), (1, .int x1), (2, .int x2)]) hx hb dX3_takesOfNumber_35 hl (by decide) rfl (fun ls hl => ?_)
        refine lv_aload_n hx hb dX3_takesOfNumber_37 rfl (lv_at hl 2 rfl) ?_
        refine lv_bipush (v := 10) hx hb dX3_takesOfNumber_38 rfl ?_
        refine lv_iload_n hx hb dX3_takesOfNumber_40 rfl (lv_at hl 1 rfl) ?_
        refine lv_imul hx hb dX3_takesOfNumber_41 ?_
        refine va_put (D := D) (ci := 3) (v := .int (10 * (x1 - 48))) (ty := .int) (C := RX3) (T := TX3) (N := 7) hx hb hts (fun _ h => List.mem_cons_of_mem _ (List.mem_append_right _ (h))) tyX3 tyX3_ok nmX3 hown hK hP (va_Dsame hD rfl) hS 0 rfl rfl 3 (by decide) (hts _ (List.mem_of_getElem? (i := 2) rfl)) (fun _ h9 => h9) rfl (tyX3_ok 3 (by decide)) rfl rfl (Nat.le_of_ble_eq_true rfl) dX3_takesOfNumber_42 (fun H locs hP _ hS => ?_)
        have hP : va_P D vwCl [(a, .inr (3, [.ref a_lease, .int i_part, .int i_come, .int (10 * (x1 - 48)), .int i_firstHour, .int i_span, .int i_value]))] H := hP
        refine lv_iload hx hb dX3_takesOfNumber_45 (lv_at hl 0 rfl) ?_
        refine lv_iload_n hx hb dX3_takesOfNumber_47 rfl (lv_at hl 4 rfl) ?_
        refine lv_iconst (v := (-1)) hx hb dX3_takesOfNumber_48 rfl ?_
        refine lv_ixor hx hb dX3_takesOfNumber_49 ?_
        refine lv_iand hx hb dX3_takesOfNumber_50 ?_
        refine lv_if_eq (tgt := 58) hx hb dX3_takesOfNumber_51 (by decide) (fun c_51 => ?_) (fun c_51 => ?_)
        · refine lv_iconst (v := 0) hx hb dX3_takesOfNumber_58 rfl ?_
          have e9 : v_X3_takesOfNumber x1 x2 i_come i_number = (false, (10 * (x1 - 48))) := by
            refine (if_pos c_10).trans ?_
            refine (if_neg c_14).trans ?_
            refine (if_neg c_25).trans ?_
            refine (if_pos c_51).trans ?_
            rfl
          rw [hQ]; exact retZ (v := fun o : Bool × Int32 => o.1) (false, (10 * (x1 - 48))) hx hb hr hlk e9 hP rfl hS dX3_takesOfNumber_59
        · refine lv_iconst (v := 1) hx hb dX3_takesOfNumber_54 rfl ?_
          refine lv_goto (tgt := 59) hx hb dX3_takesOfNumber_55 (by decide) ?_
          have e9 : v_X3_takesOfNumber x1 x2 i_come i_number = (true, (10 * (x1 - 48))) := by
            refine (if_pos c_10).trans ?_
            refine (if_neg c_14).trans ?_
            refine (if_neg c_25).trans ?_
            refine (if_neg c_51).trans ?_
            rfl
          rw [hQ]; exact retZ (v := fun o : Bool × Int32 => o.1) (true, (10 * (x1 - 48))) hx hb hr hlk e9 hP rfl hS dX3_takesOfNumber_59
      · refine lv_sipush (v := 3072) hx hb dX3_takesOfNumber_28 rfl ?_
        refine lv_goto (tgt := 35) hx hb dX3_takesOfNumber_31 (by decide) ?_
        refine lv_istore (lv' := [(4, .int 3072), (3, .int (x1 - 48)), (0, .ref a), (1, .int x1), (2, .int x2)]) hx hb dX3_takesOfNumber_35 hl (by decide) rfl (fun ls hl => ?_)
        refine lv_aload_n hx hb dX3_takesOfNumber_37 rfl (lv_at hl 2 rfl) ?_
        refine lv_bipush (v := 10) hx hb dX3_takesOfNumber_38 rfl ?_
        refine lv_iload_n hx hb dX3_takesOfNumber_40 rfl (lv_at hl 1 rfl) ?_
        refine lv_imul hx hb dX3_takesOfNumber_41 ?_
        refine va_put (D := D) (ci := 3) (v := .int (10 * (x1 - 48))) (ty := .int) (C := RX3) (T := TX3) (N := 7) hx hb hts (fun _ h => List.mem_cons_of_mem _ (List.mem_append_right _ (h))) tyX3 tyX3_ok nmX3 hown hK hP (va_Dsame hD rfl) hS 0 rfl rfl 3 (by decide) (hts _ (List.mem_of_getElem? (i := 2) rfl)) (fun _ h9 => h9) rfl (tyX3_ok 3 (by decide)) rfl rfl (Nat.le_of_ble_eq_true rfl) dX3_takesOfNumber_42 (fun H locs hP _ hS => ?_)
        have hP : va_P D vwCl [(a, .inr (3, [.ref a_lease, .int i_part, .int i_come, .int (10 * (x1 - 48)), .int i_firstHour, .int i_span, .int i_value]))] H := hP
        refine lv_iload hx hb dX3_takesOfNumber_45 (lv_at hl 0 rfl) ?_
        refine lv_iload_n hx hb dX3_takesOfNumber_47 rfl (lv_at hl 4 rfl) ?_
        refine lv_iconst (v := (-1)) hx hb dX3_takesOfNumber_48 rfl ?_
        refine lv_ixor hx hb dX3_takesOfNumber_49 ?_
        refine lv_iand hx hb dX3_takesOfNumber_50 ?_
        refine lv_if_eq (tgt := 58) hx hb dX3_takesOfNumber_51 (by decide) (fun c_51 => ?_) (fun c_51 => ?_)
        · refine lv_iconst (v := 0) hx hb dX3_takesOfNumber_58 rfl ?_
          have e9 : v_X3_takesOfNumber x1 x2 i_come i_number = (false, (10 * (x1 - 48))) := by
            refine (if_pos c_10).trans ?_
            refine (if_neg c_14).trans ?_
            refine (if_pos c_25).trans ?_
            refine (if_pos c_51).trans ?_
            rfl
          rw [hQ]; exact retZ (v := fun o : Bool × Int32 => o.1) (false, (10 * (x1 - 48))) hx hb hr hlk e9 hP rfl hS dX3_takesOfNumber_59
        · refine lv_iconst (v := 1) hx hb dX3_takesOfNumber_54 rfl ?_
          refine lv_goto (tgt := 59) hx hb dX3_takesOfNumber_55 (by decide) ?_
          have e9 : v_X3_takesOfNumber x1 x2 i_come i_number = (true, (10 * (x1 - 48))) := by
            refine (if_pos c_10).trans ?_
            refine (if_neg c_14).trans ?_
            refine (if_pos c_25).trans ?_
            refine (if_neg c_51).trans ?_
            rfl
          rw [hQ]; exact retZ (v := fun o : Bool × Int32 => o.1) (true, (10 * (x1 - 48))) hx hb hr hlk e9 hP rfl hS dX3_takesOfNumber_59
    · refine lv_sipush (v := 1023) hx hb dX3_takesOfNumber_17 rfl ?_
      refine lv_goto (tgt := 35) hx hb dX3_takesOfNumber_20 (by decide) ?_
      refine lv_istore (lv' := [(4, .int 1023), (3, .int (x1 - 48)), (0, .ref a), (1, .int x1), (2, .int x2)]) hx hb dX3_takesOfNumber_35 hl (by decide) rfl (fun ls hl => ?_)
      refine lv_aload_n hx hb dX3_takesOfNumber_37 rfl (lv_at hl 2 rfl) ?_
      refine lv_bipush (v := 10) hx hb dX3_takesOfNumber_38 rfl ?_
      refine lv_iload_n hx hb dX3_takesOfNumber_40 rfl (lv_at hl 1 rfl) ?_
      refine lv_imul hx hb dX3_takesOfNumber_41 ?_
      refine va_put (D := D) (ci := 3) (v := .int (10 * (x1 - 48))) (ty := .int) (C := RX3) (T := TX3) (N := 7) hx hb hts (fun _ h => List.mem_cons_of_mem _ (List.mem_append_right _ (h))) tyX3 tyX3_ok nmX3 hown hK hP (va_Dsame hD rfl) hS 0 rfl rfl 3 (by decide) (hts _ (List.mem_of_getElem? (i := 2) rfl)) (fun _ h9 => h9) rfl (tyX3_ok 3 (by decide)) rfl rfl (Nat.le_of_ble_eq_true rfl) dX3_takesOfNumber_42 (fun H locs hP _ hS => ?_)
      have hP : va_P D vwCl [(a, .inr (3, [.ref a_lease, .int i_part, .int i_come, .int (10 * (x1 - 48)), .int i_firstHour, .int i_span, .int i_value]))] H := hP
      refine lv_iload hx hb dX3_takesOfNumber_45 (lv_at hl 0 rfl) ?_
      refine lv_iload_n hx hb dX3_takesOfNumber_47 rfl (lv_at hl 4 rfl) ?_
      refine lv_iconst (v := (-1)) hx hb dX3_takesOfNumber_48 rfl ?_
      refine lv_ixor hx hb dX3_takesOfNumber_49 ?_
      refine lv_iand hx hb dX3_takesOfNumber_50 ?_
      refine lv_if_eq (tgt := 58) hx hb dX3_takesOfNumber_51 (by decide) (fun c_51 => ?_) (fun c_51 => ?_)
      · refine lv_iconst (v := 0) hx hb dX3_takesOfNumber_58 rfl ?_
        have e9 : v_X3_takesOfNumber x1 x2 i_come i_number = (false, (10 * (x1 - 48))) := by
          refine (if_pos c_10).trans ?_
          refine (if_pos c_14).trans ?_
          refine (if_pos c_51).trans ?_
          rfl
        rw [hQ]; exact retZ (v := fun o : Bool × Int32 => o.1) (false, (10 * (x1 - 48))) hx hb hr hlk e9 hP rfl hS dX3_takesOfNumber_59
      · refine lv_iconst (v := 1) hx hb dX3_takesOfNumber_54 rfl ?_
        refine lv_goto (tgt := 59) hx hb dX3_takesOfNumber_55 (by decide) ?_
        have e9 : v_X3_takesOfNumber x1 x2 i_come i_number = (true, (10 * (x1 - 48))) := by
          refine (if_pos c_10).trans ?_
          refine (if_pos c_14).trans ?_
          refine (if_neg c_51).trans ?_
          rfl
        rw [hQ]; exact retZ (v := fun o : Bool × Int32 => o.1) (true, (10 * (x1 - 48))) hx hb hr hlk e9 hP rfl hS dX3_takesOfNumber_59
def v_X3_takesOfSquare (x1 : Int32) (i_part : Int32) (i_come : Int32) (i_number : Int32) (i_lease_squares : Int32) : Bool × Int32 × Int32 × Int32 :=
  bnd (v_X1_squares i_lease_squares) fun o_6 =>
  (bnd2 (v_X3_takesOfNumber x1 o_6 i_come i_number) fun o_9_1 o_9_2 =>
  (if bI o_9_1 = 0 then (false, i_part, o_9_2, i_lease_squares)
  else (if i_come = 2 then (bnd (v_X1_addSquare o_9_2 i_lease_squares) fun o_33 =>
    (true, 1, o_9_2, o_33))
  else (true, i_part, o_9_2, i_lease_squares))))
abbrev rm_X3_takesOfSquare : Room := { frames := 2, cells := 0, slots := 0, locals := 45 }
set_option maxHeartbeats 4000000 in
set_option maxRecDepth 100000 in
theorem k_X3_takesOfSquare (l : Launch) (D : va_G) (cI cZ : ClassId) (a a_lease a_lease_places a_lease_firstHours a_lease_spans a_lease_values a_lease_cells a_lease_needs a_lease_owed a_lease_room : Nat) (x1 : Int32) (i_part : Int32) (i_come : Int32) (i_number : Int32) (i_firstHour : Int32) (i_span : Int32) (i_value : Int32) (i_lease_squares : Int32) (i_lease_wishCount : Int32) (i_lease_owedPlaces : Int32) : KI l D cI cZ yX3_takesOfSquare wsX3_takesOfSquare rm_X3_takesOfSquare [.ref a, .int x1] [(a, .inr (3, [.ref a_lease, .int i_part, .int i_come, .int i_number, .int i_firstHour, .int i_span, .int i_value])), (a_lease, .inr (1, [.ref a_lease_places, .ref a_lease_firstHours, .ref a_lease_spans, .ref a_lease_values, .ref a_lease_cells, .ref a_lease_needs, .ref a_lease_owed, .ref a_lease_room, .int i_lease_squares, .int i_lease_wishCount, .int i_lease_owedPlaces]))] (v_X3_takesOfSquare x1 i_part i_come i_number i_lease_squares) (fun o : Bool × Int32 × Int32 × Int32 => bI o.1) (fun o : Bool × Int32 × Int32 × Int32 => [(a, .inr (3, [.ref a_lease, .int o.2.1, .int i_come, .int o.2.2.1, .int i_firstHour, .int i_span, .int i_value])), (a_lease, .inr (1, [.ref a_lease_places, .ref a_lease_firstHours, .ref a_lease_spans, .ref a_lease_values, .ref a_lease_cells, .ref a_lease_needs, .ref a_lease_owed, .ref a_lease_room, .int o.2.2.2, .int i_lease_wishCount, .int i_lease_owedPlaces]))]) := by
  refine KI.of cX3_takesOfSquare 2 (some .boolean) (by decide) rfl (Nat.le_of_ble_eq_true rfl) ?_
  intro p e s m below meth c A ls ar Q hQ B
  obtain ⟨hx, hb, hr, hml, hts, hown, hlk, hK, hN, hP, hD, hA, hS, hl⟩ := B
  have hown : s.vm.findClass RX3 = some m.cls := hown
  have hF : CallFix p m c cX3_takesOfSquare 2 s ar wsX3_takesOfSquare RX3 := ⟨hx, hb, hml, hown, hts⟩
  have hl : lv_has ls 2 [(0, .ref a), (1, .int x1)] := hl
  refine lv_aload_n hx hb dX3_takesOfSquare_0 rfl (lv_at hl 0 rfl) ?_
  refine lv_iload_n hx hb dX3_takesOfSquare_1 rfl (lv_at hl 1 rfl) ?_
  refine lv_aload_n hx hb dX3_takesOfSquare_2 rfl (lv_at hl 0 rfl) ?_
  refine va_get (D := D) (ci := 3) (v := .ref a_lease) (C := RX3) (T := TX3) (N := 7) hx hb hts (fun _ h => List.mem_cons_of_mem _ (List.mem_append_left _ (List.mem_append_right _ (h)))) hown hK hP 0 rfl rfl 0 (by decide) (hts _ (List.mem_of_getElem? (i := 1) rfl)) (fun _ h9 => h9) rfl dX3_takesOfSquare_3 ?_
  obtain ⟨o_6, ho_6⟩ : ∃ z : Int32, z = v_X1_squares i_lease_squares := ⟨_, rfl⟩
  refine callVIs (As := []) (rest := [.int x1, .ref a]) o_6 ho_6 hF (k_X1_squares l D cI cZ a_lease a_lease_places a_lease_firstHours a_lease_spans a_lease_values a_lease_cells a_lease_needs a_lease_owed a_lease_room i_lease_squares i_lease_wishCount i_lease_owedPlaces) (cwV 0 hts gX3_takesOfSquare_X1_squares rfl rfl rfl (by decide +kernel) ⟨Nat.le_of_ble_eq_true rfl, Nat.le_of_ble_eq_true rfl⟩) hK hN hP (va_Dsame hD rfl) hS hA [1] rfl rfl 1 1 (T := TX1) (N := 11) rfl rfl rfl hl.1 rfl (Nat.le_of_ble_eq_true rfl) dX3_takesOfSquare_6 ⟨Nat.zero_le _, Nat.zero_le _⟩ o_6 rfl rfl (fun H locs hP hS => ?_)
  obtain ⟨o_9_1, o_9_2, ho_9⟩ := ex2 (v_X3_takesOfNumber x1 o_6 i_come i_number)
  refine callVI (As := [.int x1, .int o_6]) (rest := []) (o_9_1, o_9_2) ho_9 hF (k_X3_takesOfNumber l D cI cZ a a_lease x1 o_6 i_part i_come i_number i_firstHour i_span i_value) (cwV 2 hts gX3_takesOfSquare_X3_takesOfNumber rfl rfl rfl (by decide +kernel) ⟨Nat.le_of_ble_eq_true rfl, Nat.le_of_ble_eq_true rfl⟩) hK hN hP (va_Dsame hD rfl) hS hA [0] rfl rfl 0 3 (T := TX3) (N := 7) rfl rfl rfl hl.1 rfl (Nat.le_of_ble_eq_true rfl) dX3_takesOfSquare_9 ⟨Nat.zero_le _, Nat.zero_le _⟩ (bI o_9_1) rfl [some 0, none] 1 [(a, .inr (3, [.ref a_lease, .int i_part, .int i_come, .int o_9_2, .int i_firstHour, .int i_span, .int i_value])), (a_lease, .inr (1, [.ref a_lease_places, .ref a_lease_firstHours, .ref a_lease_spans, .ref a_lease_values, .ref a_lease_cells, .ref a_lease_needs, .ref a_lease_owed, .ref a_lease_room, .int i_lease_squares, .int i_lease_wishCount, .int i_lease_owedPlaces]))] rfl rfl (by decide) (fun H locs hP hS => ?_)
  refine lv_if_ne (tgt := 17) hx hb dX3_takesOfSquare_12 (by decide) (fun c_12 => ?_) (fun c_12 => ?_)
  · refine lv_aload_n hx hb dX3_takesOfSquare_17 rfl (lv_at hl 0 rfl) ?_
    refine va_get (D := D) (ci := 3) (v := .int i_come) (C := RX3) (T := TX3) (N := 7) hx hb hts (fun _ h => List.mem_cons_of_mem _ (List.mem_append_left _ (List.mem_append_right _ (h)))) hown hK hP 0 rfl rfl 2 (by decide) (hts _ (List.mem_of_getElem? (i := 2) rfl)) (fun _ h9 => h9) rfl dX3_takesOfSquare_18 ?_
    refine lv_iconst (v := 2) hx hb dX3_takesOfSquare_21 rfl ?_
    refine lv_icmp_ne (tgt := 41) hx hb dX3_takesOfSquare_22 (by decide) (fun c_22 => ?_) (fun c_22 => ?_)
    · refine lv_iconst (v := 1) hx hb dX3_takesOfSquare_41 rfl ?_
      have e9 : v_X3_takesOfSquare x1 i_part i_come i_number i_lease_squares = (true, i_part, o_9_2, i_lease_squares) := by
        refine (bnd_eq ho_6).trans ?_
        refine (bnd2_eq ho_9).trans ?_
        refine (if_neg c_12).trans ?_
        refine (if_neg c_22).trans ?_
        rfl
      rw [hQ]; exact retZ (v := fun o : Bool × Int32 × Int32 × Int32 => o.1) (true, i_part, o_9_2, i_lease_squares) hx hb hr hlk e9 hP rfl hS dX3_takesOfSquare_42
    · refine lv_aload_n hx hb dX3_takesOfSquare_25 rfl (lv_at hl 0 rfl) ?_
      refine va_get (D := D) (ci := 3) (v := .ref a_lease) (C := RX3) (T := TX3) (N := 7) hx hb hts (fun _ h => List.mem_cons_of_mem _ (List.mem_append_left _ (List.mem_append_right _ (h)))) hown hK hP 0 rfl rfl 0 (by decide) (hts _ (List.mem_of_getElem? (i := 1) rfl)) (fun _ h9 => h9) rfl dX3_takesOfSquare_26 ?_
      refine lv_aload_n hx hb dX3_takesOfSquare_29 rfl (lv_at hl 0 rfl) ?_
      refine va_get (D := D) (ci := 3) (v := .int o_9_2) (C := RX3) (T := TX3) (N := 7) hx hb hts (fun _ h => List.mem_cons_of_mem _ (List.mem_append_left _ (List.mem_append_right _ (h)))) hown hK hP 0 rfl rfl 3 (by decide) (hts _ (List.mem_of_getElem? (i := 3) rfl)) (fun _ h9 => h9) rfl dX3_takesOfSquare_30 ?_
      obtain ⟨o_33, ho_33⟩ : ∃ z : Int32, z = v_X1_addSquare o_9_2 i_lease_squares := ⟨_, rfl⟩
      refine callVV (As := [.int o_9_2]) (rest := []) o_33 ho_33 hF (k_X1_addSquare l D cI cZ a_lease a_lease_places a_lease_firstHours a_lease_spans a_lease_values a_lease_cells a_lease_needs a_lease_owed a_lease_room o_9_2 i_lease_squares i_lease_wishCount i_lease_owedPlaces) (cwV 1 hts gX3_takesOfSquare_X1_addSquare rfl rfl rfl (by decide +kernel) ⟨Nat.le_of_ble_eq_true rfl, Nat.le_of_ble_eq_true rfl⟩) hK hN hP (va_Dsame hD rfl) hS hA [1] rfl rfl 1 1 (T := TX1) (N := 11) rfl rfl rfl hl.1 rfl (Nat.le_of_ble_eq_true rfl) dX3_takesOfSquare_33 ⟨Nat.zero_le _, Nat.zero_le _⟩ [none, some 0] 1 [(a, .inr (3, [.ref a_lease, .int i_part, .int i_come, .int o_9_2, .int i_firstHour, .int i_span, .int i_value])), (a_lease, .inr (1, [.ref a_lease_places, .ref a_lease_firstHours, .ref a_lease_spans, .ref a_lease_values, .ref a_lease_cells, .ref a_lease_needs, .ref a_lease_owed, .ref a_lease_room, .int o_33, .int i_lease_wishCount, .int i_lease_owedPlaces]))] rfl rfl (by decide) (fun H locs hP hS => ?_)
      refine lv_aload_n hx hb dX3_takesOfSquare_36 rfl (lv_at hl 0 rfl) ?_
      refine lv_iconst (v := 1) hx hb dX3_takesOfSquare_37 rfl ?_
      refine va_put (D := D) (ci := 3) (v := .int 1) (ty := .int) (C := RX3) (T := TX3) (N := 7) hx hb hts (fun _ h => List.mem_cons_of_mem _ (List.mem_append_left _ (List.mem_append_right _ (h)))) tyX3 tyX3_ok nmX3 hown hK hP (va_Dsame hD rfl) hS 0 rfl rfl 1 (by decide) (hts _ (List.mem_of_getElem? (i := 4) rfl)) (fun _ h9 => h9) rfl (tyX3_ok 1 (by decide)) rfl rfl (Nat.le_of_ble_eq_true rfl) dX3_takesOfSquare_38 (fun H locs hP _ hS => ?_)
      have hP : va_P D vwCl [(a, .inr (3, [.ref a_lease, .int 1, .int i_come, .int o_9_2, .int i_firstHour, .int i_span, .int i_value])), (a_lease, .inr (1, [.ref a_lease_places, .ref a_lease_firstHours, .ref a_lease_spans, .ref a_lease_values, .ref a_lease_cells, .ref a_lease_needs, .ref a_lease_owed, .ref a_lease_room, .int o_33, .int i_lease_wishCount, .int i_lease_owedPlaces]))] H := hP
      refine lv_iconst (v := 1) hx hb dX3_takesOfSquare_41 rfl ?_
      have e9 : v_X3_takesOfSquare x1 i_part i_come i_number i_lease_squares = (true, 1, o_9_2, o_33) := by
        refine (bnd_eq ho_6).trans ?_
        refine (bnd2_eq ho_9).trans ?_
        refine (if_neg c_12).trans ?_
        refine (if_pos c_22).trans ?_
        refine (bnd_eq ho_33).trans ?_
        rfl
      rw [hQ]; exact retZ (v := fun o : Bool × Int32 × Int32 × Int32 => o.1) (true, 1, o_9_2, o_33) hx hb hr hlk e9 hP rfl hS dX3_takesOfSquare_42
  · refine lv_iconst (v := 0) hx hb dX3_takesOfSquare_15 rfl ?_
    have e9 : v_X3_takesOfSquare x1 i_part i_come i_number i_lease_squares = (false, i_part, o_9_2, i_lease_squares) := by
      refine (bnd_eq ho_6).trans ?_
      refine (bnd2_eq ho_9).trans ?_
      refine (if_pos c_12).trans ?_
      rfl
    rw [hQ]; exact retZ (v := fun o : Bool × Int32 × Int32 × Int32 => o.1) (false, i_part, o_9_2, i_lease_squares) hx hb hr hlk e9 hP rfl hS dX3_takesOfSquare_16
def v_X3_takesLastOfWish (x1 : Int32) (i_part : Int32) (i_number : Int32) (i_firstHour : Int32) (i_span : Int32) (i_value : Int32) (i_lease_wishCount : Int32) (f_lease_places : Nat → Int32) (f_lease_firstHours : Nat → Int32) (f_lease_spans : Nat → Int32) (f_lease_values : Nat → Int32) (f_lease_cells : Nat → Int32) (f_lease_needs : Nat → Int32) : Bool × Int32 × Int32 × (Nat → Int32) × (Nat → Int32) × (Nat → Int32) × (Nat → Int32) × (Nat → Int32) × (Nat → Int32) :=
  if x1 = 100 then (bnd7 (v_X1_addWish i_number i_firstHour i_span i_value true i_lease_wishCount f_lease_places f_lease_firstHours f_lease_spans f_lease_values f_lease_cells f_lease_needs) fun o_45_1 o_45_2 o_45_3 o_45_4 o_45_5 o_45_6 o_45_7 =>
    (true, 1, o_45_1, o_45_2, o_45_3, o_45_4, o_45_5, o_45_6, o_45_7))
  else (if x1 = 108 then (bnd7 (v_X1_addWish i_number i_firstHour i_span i_value false i_lease_wishCount f_lease_places f_lease_firstHours f_lease_spans f_lease_values f_lease_cells f_lease_needs) fun o_45_1 o_45_2 o_45_3 o_45_4 o_45_5 o_45_6 o_45_7 =>
    (true, 1, o_45_1, o_45_2, o_45_3, o_45_4, o_45_5, o_45_6, o_45_7))
  else (false, i_part, i_lease_wishCount, f_lease_cells, f_lease_needs, f_lease_places, f_lease_firstHours, f_lease_spans, f_lease_values))
abbrev rm_X3_takesLastOfWish : Room := { frames := 2, cells := 0, slots := 0, locals := 49 }
set_option maxHeartbeats 4000000 in
set_option maxRecDepth 100000 in
theorem k_X3_takesLastOfWish (l : Launch) (D : va_G) (cI cZ : ClassId) (a a_lease a_lease_places a_lease_firstHours a_lease_spans a_lease_values a_lease_cells a_lease_needs a_lease_owed a_lease_room n_lease_places n_lease_firstHours n_lease_spans n_lease_values n_lease_cells n_lease_needs : Nat) (x1 : Int32) (i_part : Int32) (i_come : Int32) (i_number : Int32) (i_firstHour : Int32) (i_span : Int32) (i_value : Int32) (i_lease_squares : Int32) (i_lease_wishCount : Int32) (i_lease_owedPlaces : Int32) (f_lease_places : Nat → Int32) (f_lease_firstHours : Nat → Int32) (f_lease_spans : Nat → Int32) (f_lease_values : Nat → Int32) (f_lease_cells : Nat → Int32) (f_lease_needs : Nat → Int32) : KI l D cI cZ yX3_takesLastOfWish wsX3_takesLastOfWish rm_X3_takesLastOfWish [.ref a, .int x1] [(a, .inr (3, [.ref a_lease, .int i_part, .int i_come, .int i_number, .int i_firstHour, .int i_span, .int i_value])), (a_lease, .inr (1, [.ref a_lease_places, .ref a_lease_firstHours, .ref a_lease_spans, .ref a_lease_values, .ref a_lease_cells, .ref a_lease_needs, .ref a_lease_owed, .ref a_lease_room, .int i_lease_squares, .int i_lease_wishCount, .int i_lease_owedPlaces])), (a_lease_places, .inr (4, [.ref n_lease_places])), (n_lease_places, .inl (cI, 5, .inl f_lease_places)), (a_lease_firstHours, .inr (4, [.ref n_lease_firstHours])), (n_lease_firstHours, .inl (cI, 5, .inl f_lease_firstHours)), (a_lease_spans, .inr (4, [.ref n_lease_spans])), (n_lease_spans, .inl (cI, 5, .inl f_lease_spans)), (a_lease_values, .inr (4, [.ref n_lease_values])), (n_lease_values, .inl (cI, 5, .inl f_lease_values)), (a_lease_cells, .inr (4, [.ref n_lease_cells])), (n_lease_cells, .inl (cI, 5, .inl f_lease_cells)), (a_lease_needs, .inr (4, [.ref n_lease_needs])), (n_lease_needs, .inl (cI, 5, .inl f_lease_needs))] (v_X3_takesLastOfWish x1 i_part i_number i_firstHour i_span i_value i_lease_wishCount f_lease_places f_lease_firstHours f_lease_spans f_lease_values f_lease_cells f_lease_needs) (fun o : Bool × Int32 × Int32 × (Nat → Int32) × (Nat → Int32) × (Nat → Int32) × (Nat → Int32) × (Nat → Int32) × (Nat → Int32) => bI o.1) (fun o : Bool × Int32 × Int32 × (Nat → Int32) × (Nat → Int32) × (Nat → Int32) × (Nat → Int32) × (Nat → Int32) × (Nat → Int32) => [(a, .inr (3, [.ref a_lease, .int o.2.1, .int i_come, .int i_number, .int i_firstHour, .int i_span, .int i_value])), (a_lease, .inr (1, [.ref a_lease_places, .ref a_lease_firstHours, .ref a_lease_spans, .ref a_lease_values, .ref a_lease_cells, .ref a_lease_needs, .ref a_lease_owed, .ref a_lease_room, .int i_lease_squares, .int o.2.2.1, .int i_lease_owedPlaces])), (a_lease_places, .inr (4, [.ref n_lease_places])), (n_lease_places, .inl (cI, 5, .inl o.2.2.2.2.2.1)), (a_lease_firstHours, .inr (4, [.ref n_lease_firstHours])), (n_lease_firstHours, .inl (cI, 5, .inl o.2.2.2.2.2.2.1)), (a_lease_spans, .inr (4, [.ref n_lease_spans])), (n_lease_spans, .inl (cI, 5, .inl o.2.2.2.2.2.2.2.1)), (a_lease_values, .inr (4, [.ref n_lease_values])), (n_lease_values, .inl (cI, 5, .inl o.2.2.2.2.2.2.2.2)), (a_lease_cells, .inr (4, [.ref n_lease_cells])), (n_lease_cells, .inl (cI, 5, .inl o.2.2.2.1)), (a_lease_needs, .inr (4, [.ref n_lease_needs])), (n_lease_needs, .inl (cI, 5, .inl o.2.2.2.2.1))]) := by
  refine KI.of cX3_takesLastOfWish 2 (some .boolean) (by decide) rfl (Nat.le_of_ble_eq_true rfl) ?_
  intro p e s m below meth c A ls ar Q hQ B
  obtain ⟨hx, hb, hr, hml, hts, hown, hlk, hK, hN, hP, hD, hA, hS, hl⟩ := B
  have hown : s.vm.findClass RX3 = some m.cls := hown
  have hF : CallFix p m c cX3_takesLastOfWish 2 s ar wsX3_takesLastOfWish RX3 := ⟨hx, hb, hml, hown, hts⟩
  have hl : lv_has ls 2 [(0, .ref a), (1, .int x1)] := hl
  refine lv_iload_n hx hb dX3_takesLastOfWish_0 rfl (lv_at hl 1 rfl) ?_
  refine lv_bipush (v := 100) hx hb dX3_takesLastOfWish_1 rfl ?_
  refine lv_icmp_eq (tgt := 14) hx hb dX3_takesLastOfWish_3 (by decide) (fun c_3 => ?_) (fun c_3 => ?_)
  · refine lv_aload_n hx hb dX3_takesLastOfWish_14 rfl (lv_at hl 0 rfl) ?_
    refine va_get (D := D) (ci := 3) (v := .ref a_lease) (C := RX3) (T := TX3) (N := 7) hx hb hts (fun _ h => List.mem_cons_of_mem _ (List.mem_append_left _ (List.mem_append_left _ (List.mem_append_right _ (h))))) hown hK hP 0 rfl rfl 0 (by decide) (hts _ (List.mem_of_getElem? (i := 1) rfl)) (fun _ h9 => h9) rfl dX3_takesLastOfWish_15 ?_
    refine lv_aload_n hx hb dX3_takesLastOfWish_18 rfl (lv_at hl 0 rfl) ?_
    refine va_get (D := D) (ci := 3) (v := .int i_number) (C := RX3) (T := TX3) (N := 7) hx hb hts (fun _ h => List.mem_cons_of_mem _ (List.mem_append_left _ (List.mem_append_left _ (List.mem_append_right _ (h))))) hown hK hP 0 rfl rfl 3 (by decide) (hts _ (List.mem_of_getElem? (i := 2) rfl)) (fun _ h9 => h9) rfl dX3_takesLastOfWish_19 ?_
    refine lv_aload_n hx hb dX3_takesLastOfWish_22 rfl (lv_at hl 0 rfl) ?_
    refine va_get (D := D) (ci := 3) (v := .int i_firstHour) (C := RX3) (T := TX3) (N := 7) hx hb hts (fun _ h => List.mem_cons_of_mem _ (List.mem_append_left _ (List.mem_append_left _ (List.mem_append_right _ (h))))) hown hK hP 0 rfl rfl 4 (by decide) (hts _ (List.mem_of_getElem? (i := 3) rfl)) (fun _ h9 => h9) rfl dX3_takesLastOfWish_23 ?_
    refine lv_aload_n hx hb dX3_takesLastOfWish_26 rfl (lv_at hl 0 rfl) ?_
    refine va_get (D := D) (ci := 3) (v := .int i_span) (C := RX3) (T := TX3) (N := 7) hx hb hts (fun _ h => List.mem_cons_of_mem _ (List.mem_append_left _ (List.mem_append_left _ (List.mem_append_right _ (h))))) hown hK hP 0 rfl rfl 5 (by decide) (hts _ (List.mem_of_getElem? (i := 4) rfl)) (fun _ h9 => h9) rfl dX3_takesLastOfWish_27 ?_
    refine lv_aload_n hx hb dX3_takesLastOfWish_30 rfl (lv_at hl 0 rfl) ?_
    refine va_get (D := D) (ci := 3) (v := .int i_value) (C := RX3) (T := TX3) (N := 7) hx hb hts (fun _ h => List.mem_cons_of_mem _ (List.mem_append_left _ (List.mem_append_left _ (List.mem_append_right _ (h))))) hown hK hP 0 rfl rfl 6 (by decide) (hts _ (List.mem_of_getElem? (i := 5) rfl)) (fun _ h9 => h9) rfl dX3_takesLastOfWish_31 ?_
    refine lv_iload_n hx hb dX3_takesLastOfWish_34 rfl (lv_at hl 1 rfl) ?_
    refine lv_bipush (v := 100) hx hb dX3_takesLastOfWish_35 rfl ?_
    refine lv_icmp_ne (tgt := 44) hx hb dX3_takesLastOfWish_37 (by decide) (fun c => absurd c_3 c) (fun _ => ?_)
    refine lv_iconst (v := 1) hx hb dX3_takesLastOfWish_40 rfl ?_
    refine lv_goto (tgt := 45) hx hb dX3_takesLastOfWish_41 (by decide) ?_
    obtain ⟨o_45_1, o_45_2, o_45_3, o_45_4, o_45_5, o_45_6, o_45_7, ho_45⟩ := ex7 (v_X1_addWish i_number i_firstHour i_span i_value true i_lease_wishCount f_lease_places f_lease_firstHours f_lease_spans f_lease_values f_lease_cells f_lease_needs)
    refine callVV (As := [.int i_number, .int i_firstHour, .int i_span, .int i_value, .int 1]) (rest := []) (o_45_1, o_45_2, o_45_3, o_45_4, o_45_5, o_45_6, o_45_7) ho_45 hF (k_X1_addWish l D cI cZ a_lease a_lease_places a_lease_firstHours a_lease_spans a_lease_values a_lease_cells a_lease_needs a_lease_owed a_lease_room n_lease_places n_lease_firstHours n_lease_spans n_lease_values n_lease_cells n_lease_needs i_number i_firstHour i_span i_value true i_lease_squares i_lease_wishCount i_lease_owedPlaces f_lease_places f_lease_firstHours f_lease_spans f_lease_values f_lease_cells f_lease_needs) (cwV 5 hts gX3_takesLastOfWish_X1_addWish rfl rfl rfl (by decide +kernel) ⟨Nat.le_of_ble_eq_true rfl, Nat.le_of_ble_eq_true rfl⟩) hK hN hP (va_Dsame hD rfl) hS hA [1, 2, 3, 4, 5, 6, 7, 8, 9, 10, 11, 12, 13] rfl rfl 1 1 (T := TX1) (N := 11) rfl rfl rfl hl.1 rfl (Nat.le_of_ble_eq_true rfl) dX3_takesLastOfWish_45 ⟨Nat.zero_le _, Nat.zero_le _⟩ [none, some 0, some 1, some 2, some 3, some 4, some 5, some 6, some 7, some 8, some 9, some 10, some 11, some 12] 13 [(a, .inr (3, [.ref a_lease, .int i_part, .int i_come, .int i_number, .int i_firstHour, .int i_span, .int i_value])), (a_lease, .inr (1, [.ref a_lease_places, .ref a_lease_firstHours, .ref a_lease_spans, .ref a_lease_values, .ref a_lease_cells, .ref a_lease_needs, .ref a_lease_owed, .ref a_lease_room, .int i_lease_squares, .int o_45_1, .int i_lease_owedPlaces])), (a_lease_places, .inr (4, [.ref n_lease_places])), (n_lease_places, .inl (cI, 5, .inl o_45_4)), (a_lease_firstHours, .inr (4, [.ref n_lease_firstHours])), (n_lease_firstHours, .inl (cI, 5, .inl o_45_5)), (a_lease_spans, .inr (4, [.ref n_lease_spans])), (n_lease_spans, .inl (cI, 5, .inl o_45_6)), (a_lease_values, .inr (4, [.ref n_lease_values])), (n_lease_values, .inl (cI, 5, .inl o_45_7)), (a_lease_cells, .inr (4, [.ref n_lease_cells])), (n_lease_cells, .inl (cI, 5, .inl o_45_2)), (a_lease_needs, .inr (4, [.ref n_lease_needs])), (n_lease_needs, .inl (cI, 5, .inl o_45_3))] rfl rfl (by decide) (fun H locs hP hS => ?_)
    refine lv_aload_n hx hb dX3_takesLastOfWish_48 rfl (lv_at hl 0 rfl) ?_
    refine lv_iconst (v := 1) hx hb dX3_takesLastOfWish_49 rfl ?_
    refine va_put (D := D) (ci := 3) (v := .int 1) (ty := .int) (C := RX3) (T := TX3) (N := 7) hx hb hts (fun _ h => List.mem_cons_of_mem _ (List.mem_append_left _ (List.mem_append_left _ (List.mem_append_right _ (h))))) tyX3 tyX3_ok nmX3 hown hK hP (va_Dsame hD rfl) hS 0 rfl rfl 1 (by decide) (hts _ (List.mem_of_getElem? (i := 6) rfl)) (fun _ h9 => h9) rfl (tyX3_ok 1 (by decide)) rfl rfl (Nat.le_of_ble_eq_true rfl) dX3_takesLastOfWish_50 (fun H locs hP _ hS => ?_)
    have hP : va_P D vwCl [(a, .inr (3, [.ref a_lease, .int 1, .int i_come, .int i_number, .int i_firstHour, .int i_span, .int i_value])), (a_lease, .inr (1, [.ref a_lease_places, .ref a_lease_firstHours, .ref a_lease_spans, .ref a_lease_values, .ref a_lease_cells, .ref a_lease_needs, .ref a_lease_owed, .ref a_lease_room, .int i_lease_squares, .int o_45_1, .int i_lease_owedPlaces])), (a_lease_places, .inr (4, [.ref n_lease_places])), (n_lease_places, .inl (cI, 5, .inl o_45_4)), (a_lease_firstHours, .inr (4, [.ref n_lease_firstHours])), (n_lease_firstHours, .inl (cI, 5, .inl o_45_5)), (a_lease_spans, .inr (4, [.ref n_lease_spans])), (n_lease_spans, .inl (cI, 5, .inl o_45_6)), (a_lease_values, .inr (4, [.ref n_lease_values])), (n_lease_values, .inl (cI, 5, .inl o_45_7)), (a_lease_cells, .inr (4, [.ref n_lease_cells])), (n_lease_cells, .inl (cI, 5, .inl o_45_2)), (a_lease_needs, .inr (4, [.ref n_lease_needs])), (n_lease_needs, .inl (cI, 5, .inl o_45_3))] H := hP
    refine lv_iconst (v := 1) hx hb dX3_takesLastOfWish_53 rfl ?_
    have e9 : v_X3_takesLastOfWish x1 i_part i_number i_firstHour i_span i_value i_lease_wishCount f_lease_places f_lease_firstHours f_lease_spans f_lease_values f_lease_cells f_lease_needs = (true, 1, o_45_1, o_45_2, o_45_3, o_45_4, o_45_5, o_45_6, o_45_7) := by
      refine (if_pos c_3).trans ?_
      refine (bnd7_eq ho_45).trans ?_
      rfl
    rw [hQ]; exact retZ (v := fun o : Bool × Int32 × Int32 × (Nat → Int32) × (Nat → Int32) × (Nat → Int32) × (Nat → Int32) × (Nat → Int32) × (Nat → Int32) => o.1) (true, 1, o_45_1, o_45_2, o_45_3, o_45_4, o_45_5, o_45_6, o_45_7) hx hb hr hlk e9 hP rfl hS dX3_takesLastOfWish_54
  · refine lv_iload_n hx hb dX3_takesLastOfWish_6 rfl (lv_at hl 1 rfl) ?_
    refine lv_bipush (v := 108) hx hb dX3_takesLastOfWish_7 rfl ?_
    refine lv_icmp_eq (tgt := 14) hx hb dX3_takesLastOfWish_9 (by decide) (fun c_9 => ?_) (fun c_9 => ?_)
    · refine lv_aload_n hx hb dX3_takesLastOfWish_14 rfl (lv_at hl 0 rfl) ?_
      refine va_get (D := D) (ci := 3) (v := .ref a_lease) (C := RX3) (T := TX3) (N := 7) hx hb hts (fun _ h => List.mem_cons_of_mem _ (List.mem_append_left _ (List.mem_append_left _ (List.mem_append_right _ (h))))) hown hK hP 0 rfl rfl 0 (by decide) (hts _ (List.mem_of_getElem? (i := 1) rfl)) (fun _ h9 => h9) rfl dX3_takesLastOfWish_15 ?_
      refine lv_aload_n hx hb dX3_takesLastOfWish_18 rfl (lv_at hl 0 rfl) ?_
      refine va_get (D := D) (ci := 3) (v := .int i_number) (C := RX3) (T := TX3) (N := 7) hx hb hts (fun _ h => List.mem_cons_of_mem _ (List.mem_append_left _ (List.mem_append_left _ (List.mem_append_right _ (h))))) hown hK hP 0 rfl rfl 3 (by decide) (hts _ (List.mem_of_getElem? (i := 2) rfl)) (fun _ h9 => h9) rfl dX3_takesLastOfWish_19 ?_
      refine lv_aload_n hx hb dX3_takesLastOfWish_22 rfl (lv_at hl 0 rfl) ?_
      refine va_get (D := D) (ci := 3) (v := .int i_firstHour) (C := RX3) (T := TX3) (N := 7) hx hb hts (fun _ h => List.mem_cons_of_mem _ (List.mem_append_left _ (List.mem_append_left _ (List.mem_append_right _ (h))))) hown hK hP 0 rfl rfl 4 (by decide) (hts _ (List.mem_of_getElem? (i := 3) rfl)) (fun _ h9 => h9) rfl dX3_takesLastOfWish_23 ?_
      refine lv_aload_n hx hb dX3_takesLastOfWish_26 rfl (lv_at hl 0 rfl) ?_
      refine va_get (D := D) (ci := 3) (v := .int i_span) (C := RX3) (T := TX3) (N := 7) hx hb hts (fun _ h => List.mem_cons_of_mem _ (List.mem_append_left _ (List.mem_append_left _ (List.mem_append_right _ (h))))) hown hK hP 0 rfl rfl 5 (by decide) (hts _ (List.mem_of_getElem? (i := 4) rfl)) (fun _ h9 => h9) rfl dX3_takesLastOfWish_27 ?_
      refine lv_aload_n hx hb dX3_takesLastOfWish_30 rfl (lv_at hl 0 rfl) ?_
      refine va_get (D := D) (ci := 3) (v := .int i_value) (C := RX3) (T := TX3) (N := 7) hx hb hts (fun _ h => List.mem_cons_of_mem _ (List.mem_append_left _ (List.mem_append_left _ (List.mem_append_right _ (h))))) hown hK hP 0 rfl rfl 6 (by decide) (hts _ (List.mem_of_getElem? (i := 5) rfl)) (fun _ h9 => h9) rfl dX3_takesLastOfWish_31 ?_
      refine lv_iload_n hx hb dX3_takesLastOfWish_34 rfl (lv_at hl 1 rfl) ?_
      refine lv_bipush (v := 100) hx hb dX3_takesLastOfWish_35 rfl ?_
      refine lv_icmp_ne (tgt := 44) hx hb dX3_takesLastOfWish_37 (by decide) (fun _ => ?_) (fun c => absurd c c_3)
      refine lv_iconst (v := 0) hx hb dX3_takesLastOfWish_44 rfl ?_
      obtain ⟨o_45_1, o_45_2, o_45_3, o_45_4, o_45_5, o_45_6, o_45_7, ho_45⟩ := ex7 (v_X1_addWish i_number i_firstHour i_span i_value false i_lease_wishCount f_lease_places f_lease_firstHours f_lease_spans f_lease_values f_lease_cells f_lease_needs)
      refine callVV (As := [.int i_number, .int i_firstHour, .int i_span, .int i_value, .int 0]) (rest := []) (o_45_1, o_45_2, o_45_3, o_45_4, o_45_5, o_45_6, o_45_7) ho_45 hF (k_X1_addWish l D cI cZ a_lease a_lease_places a_lease_firstHours a_lease_spans a_lease_values a_lease_cells a_lease_needs a_lease_owed a_lease_room n_lease_places n_lease_firstHours n_lease_spans n_lease_values n_lease_cells n_lease_needs i_number i_firstHour i_span i_value false i_lease_squares i_lease_wishCount i_lease_owedPlaces f_lease_places f_lease_firstHours f_lease_spans f_lease_values f_lease_cells f_lease_needs) (cwV 5 hts gX3_takesLastOfWish_X1_addWish rfl rfl rfl (by decide +kernel) ⟨Nat.le_of_ble_eq_true rfl, Nat.le_of_ble_eq_true rfl⟩) hK hN hP (va_Dsame hD rfl) hS hA [1, 2, 3, 4, 5, 6, 7, 8, 9, 10, 11, 12, 13] rfl rfl 1 1 (T := TX1) (N := 11) rfl rfl rfl hl.1 rfl (Nat.le_of_ble_eq_true rfl) dX3_takesLastOfWish_45 ⟨Nat.zero_le _, Nat.zero_le _⟩ [none, some 0, some 1, some 2, some 3, some 4, some 5, some 6, some 7, some 8, some 9, some 10, some 11, some 12] 13 [(a, .inr (3, [.ref a_lease, .int i_part, .int i_come, .int i_number, .int i_firstHour, .int i_span, .int i_value])), (a_lease, .inr (1, [.ref a_lease_places, .ref a_lease_firstHours, .ref a_lease_spans, .ref a_lease_values, .ref a_lease_cells, .ref a_lease_needs, .ref a_lease_owed, .ref a_lease_room, .int i_lease_squares, .int o_45_1, .int i_lease_owedPlaces])), (a_lease_places, .inr (4, [.ref n_lease_places])), (n_lease_places, .inl (cI, 5, .inl o_45_4)), (a_lease_firstHours, .inr (4, [.ref n_lease_firstHours])), (n_lease_firstHours, .inl (cI, 5, .inl o_45_5)), (a_lease_spans, .inr (4, [.ref n_lease_spans])), (n_lease_spans, .inl (cI, 5, .inl o_45_6)), (a_lease_values, .inr (4, [.ref n_lease_values])), (n_lease_values, .inl (cI, 5, .inl o_45_7)), (a_lease_cells, .inr (4, [.ref n_lease_cells])), (n_lease_cells, .inl (cI, 5, .inl o_45_2)), (a_lease_needs, .inr (4, [.ref n_lease_needs])), (n_lease_needs, .inl (cI, 5, .inl o_45_3))] rfl rfl (by decide) (fun H locs hP hS => ?_)
      refine lv_aload_n hx hb dX3_takesLastOfWish_48 rfl (lv_at hl 0 rfl) ?_
      refine lv_iconst (v := 1) hx hb dX3_takesLastOfWish_49 rfl ?_
      refine va_put (D := D) (ci := 3) (v := .int 1) (ty := .int) (C := RX3) (T := TX3) (N := 7) hx hb hts (fun _ h => List.mem_cons_of_mem _ (List.mem_append_left _ (List.mem_append_left _ (List.mem_append_right _ (h))))) tyX3 tyX3_ok nmX3 hown hK hP (va_Dsame hD rfl) hS 0 rfl rfl 1 (by decide) (hts _ (List.mem_of_getElem? (i := 6) rfl)) (fun _ h9 => h9) rfl (tyX3_ok 1 (by decide)) rfl rfl (Nat.le_of_ble_eq_true rfl) dX3_takesLastOfWish_50 (fun H locs hP _ hS => ?_)
      have hP : va_P D vwCl [(a, .inr (3, [.ref a_lease, .int 1, .int i_come, .int i_number, .int i_firstHour, .int i_span, .int i_value])), (a_lease, .inr (1, [.ref a_lease_places, .ref a_lease_firstHours, .ref a_lease_spans, .ref a_lease_values, .ref a_lease_cells, .ref a_lease_needs, .ref a_lease_owed, .ref a_lease_room, .int i_lease_squares, .int o_45_1, .int i_lease_owedPlaces])), (a_lease_places, .inr (4, [.ref n_lease_places])), (n_lease_places, .inl (cI, 5, .inl o_45_4)), (a_lease_firstHours, .inr (4, [.ref n_lease_firstHours])), (n_lease_firstHours, .inl (cI, 5, .inl o_45_5)), (a_lease_spans, .inr (4, [.ref n_lease_spans])), (n_lease_spans, .inl (cI, 5, .inl o_45_6)), (a_lease_values, .inr (4, [.ref n_lease_values])), (n_lease_values, .inl (cI, 5, .inl o_45_7)), (a_lease_cells, .inr (4, [.ref n_lease_cells])), (n_lease_cells, .inl (cI, 5, .inl o_45_2)), (a_lease_needs, .inr (4, [.ref n_lease_needs])), (n_lease_needs, .inl (cI, 5, .inl o_45_3))] H := hP
      refine lv_iconst (v := 1) hx hb dX3_takesLastOfWish_53 rfl ?_
      have e9 : v_X3_takesLastOfWish x1 i_part i_number i_firstHour i_span i_value i_lease_wishCount f_lease_places f_lease_firstHours f_lease_spans f_lease_values f_lease_cells f_lease_needs = (true, 1, o_45_1, o_45_2, o_45_3, o_45_4, o_45_5, o_45_6, o_45_7) := by
        refine (if_neg c_3).trans ?_
        refine (if_pos c_9).trans ?_
        refine (bnd7_eq ho_45).trans ?_
        rfl
      rw [hQ]; exact retZ (v := fun o : Bool × Int32 × Int32 × (Nat → Int32) × (Nat → Int32) × (Nat → Int32) × (Nat → Int32) × (Nat → Int32) × (Nat → Int32) => o.1) (true, 1, o_45_1, o_45_2, o_45_3, o_45_4, o_45_5, o_45_6, o_45_7) hx hb hr hlk e9 hP rfl hS dX3_takesLastOfWish_54
    · refine lv_iconst (v := 0) hx hb dX3_takesLastOfWish_12 rfl ?_
      have e9 : v_X3_takesLastOfWish x1 i_part i_number i_firstHour i_span i_value i_lease_wishCount f_lease_places f_lease_firstHours f_lease_spans f_lease_values f_lease_cells f_lease_needs = (false, i_part, i_lease_wishCount, f_lease_cells, f_lease_needs, f_lease_places, f_lease_firstHours, f_lease_spans, f_lease_values) := by
        refine (if_neg c_3).trans ?_
        refine (if_neg c_9).trans ?_
        rfl
      rw [hQ]; exact retZ (v := fun o : Bool × Int32 × Int32 × (Nat → Int32) × (Nat → Int32) × (Nat → Int32) × (Nat → Int32) × (Nat → Int32) × (Nat → Int32) => o.1) (false, i_part, i_lease_wishCount, f_lease_cells, f_lease_needs, f_lease_places, f_lease_firstHours, f_lease_spans, f_lease_values) hx hb hr hlk e9 hP rfl hS dX3_takesLastOfWish_13
def v_X3_takesOfWish (x1 : Int32) (i_part : Int32) (i_come : Int32) (i_number : Int32) (i_firstHour : Int32) (i_span : Int32) (i_value : Int32) (i_lease_wishCount : Int32) (f_lease_places : Nat → Int32) (f_lease_firstHours : Nat → Int32) (f_lease_spans : Nat → Int32) (f_lease_values : Nat → Int32) (f_lease_cells : Nat → Int32) (f_lease_needs : Nat → Int32) : Bool × Int32 × Int32 × Int32 × Int32 × Int32 × Int32 × (Nat → Int32) × (Nat → Int32) × (Nat → Int32) × (Nat → Int32) × (Nat → Int32) × (Nat → Int32) :=
  if i_come = 1 then (bnd2 (v_X3_takesOfNumber x1 0 i_come i_number) fun o_47_1 o_47_2 =>
    (o_47_1, i_part, o_47_2, i_firstHour, i_span, i_value, i_lease_wishCount, f_lease_cells, f_lease_needs, f_lease_places, f_lease_firstHours, f_lease_spans, f_lease_values))
  else (if i_come = 2 then (bnd2 (v_X3_takesOfNumber x1 0 i_come i_number) fun o_47_1 o_47_2 =>
    (o_47_1, i_part, o_47_2, i_firstHour, i_span, i_value, i_lease_wishCount, f_lease_cells, f_lease_needs, f_lease_places, f_lease_firstHours, f_lease_spans, f_lease_values))
  else (if i_come = 3 then (if (x1 - 48) < 0 then (false, i_part, i_number, (x1 - 48), i_span, i_value, i_lease_wishCount, f_lease_cells, f_lease_needs, f_lease_places, f_lease_firstHours, f_lease_spans, f_lease_values)
    else (if 5 < (x1 - 48) then (false, i_part, i_number, (x1 - 48), i_span, i_value, i_lease_wishCount, f_lease_cells, f_lease_needs, f_lease_places, f_lease_firstHours, f_lease_spans, f_lease_values)
    else (true, i_part, i_number, (x1 - 48), i_span, i_value, i_lease_wishCount, f_lease_cells, f_lease_needs, f_lease_places, f_lease_firstHours, f_lease_spans, f_lease_values)))
  else (if i_come = 4 then (if (x1 - 48) < 1 then (false, i_part, i_number, i_firstHour, (x1 - 48), i_value, i_lease_wishCount, f_lease_cells, f_lease_needs, f_lease_places, f_lease_firstHours, f_lease_spans, f_lease_values)
    else (if 6 < (x1 - 48) then (false, i_part, i_number, i_firstHour, (x1 - 48), i_value, i_lease_wishCount, f_lease_cells, f_lease_needs, f_lease_places, f_lease_firstHours, f_lease_spans, f_lease_values)
    else (true, i_part, i_number, i_firstHour, (x1 - 48), i_value, i_lease_wishCount, f_lease_cells, f_lease_needs, f_lease_places, f_lease_firstHours, f_lease_spans, f_lease_values)))
  else (if i_come = 5 then (if (x1 - 48) < 1 then (false, i_part, i_number, i_firstHour, i_span, (x1 - 48), i_lease_wishCount, f_lease_cells, f_lease_needs, f_lease_places, f_lease_firstHours, f_lease_spans, f_lease_values)
    else (if 9 < (x1 - 48) then (false, i_part, i_number, i_firstHour, i_span, (x1 - 48), i_lease_wishCount, f_lease_cells, f_lease_needs, f_lease_places, f_lease_firstHours, f_lease_spans, f_lease_values)
    else (true, i_part, i_number, i_firstHour, i_span, (x1 - 48), i_lease_wishCount, f_lease_cells, f_lease_needs, f_lease_places, f_lease_firstHours, f_lease_spans, f_lease_values)))
  else (bnd9 (v_X3_takesLastOfWish x1 i_part i_number i_firstHour i_span i_value i_lease_wishCount f_lease_places f_lease_firstHours f_lease_spans f_lease_values f_lease_cells f_lease_needs) fun o_117_1 o_117_2 o_117_3 o_117_4 o_117_5 o_117_6 o_117_7 o_117_8 o_117_9 =>
  (o_117_1, o_117_2, i_number, i_firstHour, i_span, i_value, o_117_3, o_117_4, o_117_5, o_117_6, o_117_7, o_117_8, o_117_9))))))
abbrev rm_X3_takesOfWish : Room := { frames := 3, cells := 0, slots := 0, locals := 70 }
set_option maxHeartbeats 4000000 in
set_option maxRecDepth 100000 in
theorem k_X3_takesOfWish (l : Launch) (D : va_G) (cI cZ : ClassId) (a a_lease a_lease_places a_lease_firstHours a_lease_spans a_lease_values a_lease_cells a_lease_needs a_lease_owed a_lease_room n_lease_places n_lease_firstHours n_lease_spans n_lease_values n_lease_cells n_lease_needs : Nat) (x1 : Int32) (i_part : Int32) (i_come : Int32) (i_number : Int32) (i_firstHour : Int32) (i_span : Int32) (i_value : Int32) (i_lease_squares : Int32) (i_lease_wishCount : Int32) (i_lease_owedPlaces : Int32) (f_lease_places : Nat → Int32) (f_lease_firstHours : Nat → Int32) (f_lease_spans : Nat → Int32) (f_lease_values : Nat → Int32) (f_lease_cells : Nat → Int32) (f_lease_needs : Nat → Int32) : KI l D cI cZ yX3_takesOfWish wsX3_takesOfWish rm_X3_takesOfWish [.ref a, .int x1] [(a, .inr (3, [.ref a_lease, .int i_part, .int i_come, .int i_number, .int i_firstHour, .int i_span, .int i_value])), (a_lease, .inr (1, [.ref a_lease_places, .ref a_lease_firstHours, .ref a_lease_spans, .ref a_lease_values, .ref a_lease_cells, .ref a_lease_needs, .ref a_lease_owed, .ref a_lease_room, .int i_lease_squares, .int i_lease_wishCount, .int i_lease_owedPlaces])), (a_lease_places, .inr (4, [.ref n_lease_places])), (n_lease_places, .inl (cI, 5, .inl f_lease_places)), (a_lease_firstHours, .inr (4, [.ref n_lease_firstHours])), (n_lease_firstHours, .inl (cI, 5, .inl f_lease_firstHours)), (a_lease_spans, .inr (4, [.ref n_lease_spans])), (n_lease_spans, .inl (cI, 5, .inl f_lease_spans)), (a_lease_values, .inr (4, [.ref n_lease_values])), (n_lease_values, .inl (cI, 5, .inl f_lease_values)), (a_lease_cells, .inr (4, [.ref n_lease_cells])), (n_lease_cells, .inl (cI, 5, .inl f_lease_cells)), (a_lease_needs, .inr (4, [.ref n_lease_needs])), (n_lease_needs, .inl (cI, 5, .inl f_lease_needs))] (v_X3_takesOfWish x1 i_part i_come i_number i_firstHour i_span i_value i_lease_wishCount f_lease_places f_lease_firstHours f_lease_spans f_lease_values f_lease_cells f_lease_needs) (fun o : Bool × Int32 × Int32 × Int32 × Int32 × Int32 × Int32 × (Nat → Int32) × (Nat → Int32) × (Nat → Int32) × (Nat → Int32) × (Nat → Int32) × (Nat → Int32) => bI o.1) (fun o : Bool × Int32 × Int32 × Int32 × Int32 × Int32 × Int32 × (Nat → Int32) × (Nat → Int32) × (Nat → Int32) × (Nat → Int32) × (Nat → Int32) × (Nat → Int32) => [(a, .inr (3, [.ref a_lease, .int o.2.1, .int i_come, .int o.2.2.1, .int o.2.2.2.1, .int o.2.2.2.2.1, .int o.2.2.2.2.2.1])), (a_lease, .inr (1, [.ref a_lease_places, .ref a_lease_firstHours, .ref a_lease_spans, .ref a_lease_values, .ref a_lease_cells, .ref a_lease_needs, .ref a_lease_owed, .ref a_lease_room, .int i_lease_squares, .int o.2.2.2.2.2.2.1, .int i_lease_owedPlaces])), (a_lease_places, .inr (4, [.ref n_lease_places])), (n_lease_places, .inl (cI, 5, .inl o.2.2.2.2.2.2.2.2.2.1)), (a_lease_firstHours, .inr (4, [.ref n_lease_firstHours])), (n_lease_firstHours, .inl (cI, 5, .inl o.2.2.2.2.2.2.2.2.2.2.1)), (a_lease_spans, .inr (4, [.ref n_lease_spans])), (n_lease_spans, .inl (cI, 5, .inl o.2.2.2.2.2.2.2.2.2.2.2.1)), (a_lease_values, .inr (4, [.ref n_lease_values])), (n_lease_values, .inl (cI, 5, .inl o.2.2.2.2.2.2.2.2.2.2.2.2)), (a_lease_cells, .inr (4, [.ref n_lease_cells])), (n_lease_cells, .inl (cI, 5, .inl o.2.2.2.2.2.2.2.1)), (a_lease_needs, .inr (4, [.ref n_lease_needs])), (n_lease_needs, .inl (cI, 5, .inl o.2.2.2.2.2.2.2.2.1))]) := by
  refine KI.of cX3_takesOfWish 3 (some .boolean) (by decide) rfl (Nat.le_of_ble_eq_true rfl) ?_
  intro p e s m below meth c A ls ar Q hQ B
  obtain ⟨hx, hb, hr, hml, hts, hown, hlk, hK, hN, hP, hD, hA, hS, hl⟩ := B
  have hown : s.vm.findClass RX3 = some m.cls := hown
  have hF : CallFix p m c cX3_takesOfWish 3 s ar wsX3_takesOfWish RX3 := ⟨hx, hb, hml, hown, hts⟩
  have hl : lv_has ls 3 [(0, .ref a), (1, .int x1)] := hl
  refine lv_iload_n hx hb dX3_takesOfWish_0 rfl (lv_at hl 1 rfl) ?_
  refine lv_bipush (v := 48) hx hb dX3_takesOfWish_1 rfl ?_
  refine lv_isub hx hb dX3_takesOfWish_3 ?_
  refine lv_istore_n (lv' := [(2, .int (x1 - 48)), (0, .ref a), (1, .int x1)]) hx hb dX3_takesOfWish_4 rfl hl (by decide) rfl (fun ls hl => ?_)
  refine lv_aload_n hx hb dX3_takesOfWish_5 rfl (lv_at hl 1 rfl) ?_
  refine va_get (D := D) (ci := 3) (v := .int i_come) (C := RX3) (T := TX3) (N := 7) hx hb hts (fun _ h => List.mem_cons_of_mem _ (List.mem_append_left _ (List.mem_append_left _ (List.mem_append_right _ (h))))) hown hK hP 0 rfl rfl 2 (by decide) (hts _ (List.mem_of_getElem? (i := 1) rfl)) (fun _ h9 => h9) rfl dX3_takesOfWish_6 ?_
  by_cases c_9_1 : i_come = 1
  · have hxI : (i_come).toInt = 1 := by rw [c_9_1]; rfl
    refine lv_tableIn (off := 35) (tgt := 44) hx hb dX3_takesOfWish_9 (by rw [hxI]; decide) (by rw [hxI]; decide) (by rw [hxI]; rfl) (by decide) ?_
    refine lv_aload_n hx hb dX3_takesOfWish_44 rfl (lv_at hl 1 rfl) ?_
    refine lv_iload_n hx hb dX3_takesOfWish_45 rfl (lv_at hl 2 rfl) ?_
    refine lv_iconst (v := 0) hx hb dX3_takesOfWish_46 rfl ?_
    obtain ⟨o_47_1, o_47_2, ho_47⟩ := ex2 (v_X3_takesOfNumber x1 0 i_come i_number)
    refine callVI (As := [.int x1, .int 0]) (rest := []) (o_47_1, o_47_2) ho_47 hF (k_X3_takesOfNumber l D cI cZ a a_lease x1 0 i_part i_come i_number i_firstHour i_span i_value) (cwV 2 hts gX3_takesOfWish_X3_takesOfNumber rfl rfl rfl (by decide +kernel) ⟨Nat.le_of_ble_eq_true rfl, Nat.le_of_ble_eq_true rfl⟩) hK hN hP (va_Dsame hD rfl) hS hA [0] rfl rfl 0 3 (T := TX3) (N := 7) rfl rfl rfl hl.1 rfl (Nat.le_of_ble_eq_true rfl) dX3_takesOfWish_47 ⟨Nat.zero_le _, Nat.zero_le _⟩ (bI o_47_1) rfl [some 0, none, none, none, none, none, none, none, none, none, none, none, none, none] 1 [(a, .inr (3, [.ref a_lease, .int i_part, .int i_come, .int o_47_2, .int i_firstHour, .int i_span, .int i_value])), (a_lease, .inr (1, [.ref a_lease_places, .ref a_lease_firstHours, .ref a_lease_spans, .ref a_lease_values, .ref a_lease_cells, .ref a_lease_needs, .ref a_lease_owed, .ref a_lease_room, .int i_lease_squares, .int i_lease_wishCount, .int i_lease_owedPlaces])), (a_lease_places, .inr (4, [.ref n_lease_places])), (n_lease_places, .inl (cI, 5, .inl f_lease_places)), (a_lease_firstHours, .inr (4, [.ref n_lease_firstHours])), (n_lease_firstHours, .inl (cI, 5, .inl f_lease_firstHours)), (a_lease_spans, .inr (4, [.ref n_lease_spans])), (n_lease_spans, .inl (cI, 5, .inl f_lease_spans)), (a_lease_values, .inr (4, [.ref n_lease_values])), (n_lease_values, .inl (cI, 5, .inl f_lease_values)), (a_lease_cells, .inr (4, [.ref n_lease_cells])), (n_lease_cells, .inl (cI, 5, .inl f_lease_cells)), (a_lease_needs, .inr (4, [.ref n_lease_needs])), (n_lease_needs, .inl (cI, 5, .inl f_lease_needs))] rfl rfl (by decide) (fun H locs hP hS => ?_)
    have e9 : v_X3_takesOfWish x1 i_part i_come i_number i_firstHour i_span i_value i_lease_wishCount f_lease_places f_lease_firstHours f_lease_spans f_lease_values f_lease_cells f_lease_needs = (o_47_1, i_part, o_47_2, i_firstHour, i_span, i_value, i_lease_wishCount, f_lease_cells, f_lease_needs, f_lease_places, f_lease_firstHours, f_lease_spans, f_lease_values) := by
      refine (if_pos c_9_1).trans ?_
      refine (bnd2_eq ho_47).trans ?_
      rfl
    rw [hQ]; exact retZ (v := fun o : Bool × Int32 × Int32 × Int32 × Int32 × Int32 × Int32 × (Nat → Int32) × (Nat → Int32) × (Nat → Int32) × (Nat → Int32) × (Nat → Int32) × (Nat → Int32) => o.1) (o_47_1, i_part, o_47_2, i_firstHour, i_span, i_value, i_lease_wishCount, f_lease_cells, f_lease_needs, f_lease_places, f_lease_firstHours, f_lease_spans, f_lease_values) hx hb hr hlk e9 hP rfl hS dX3_takesOfWish_50
  by_cases c_9_2 : i_come = 2
  · have hxI : (i_come).toInt = 2 := by rw [c_9_2]; rfl
    refine lv_tableIn (off := 35) (tgt := 44) hx hb dX3_takesOfWish_9 (by rw [hxI]; decide) (by rw [hxI]; decide) (by rw [hxI]; rfl) (by decide) ?_
    refine lv_aload_n hx hb dX3_takesOfWish_44 rfl (lv_at hl 1 rfl) ?_
    refine lv_iload_n hx hb dX3_takesOfWish_45 rfl (lv_at hl 2 rfl) ?_
    refine lv_iconst (v := 0) hx hb dX3_takesOfWish_46 rfl ?_
    obtain ⟨o_47_1, o_47_2, ho_47⟩ := ex2 (v_X3_takesOfNumber x1 0 i_come i_number)
    refine callVI (As := [.int x1, .int 0]) (rest := []) (o_47_1, o_47_2) ho_47 hF (k_X3_takesOfNumber l D cI cZ a a_lease x1 0 i_part i_come i_number i_firstHour i_span i_value) (cwV 2 hts gX3_takesOfWish_X3_takesOfNumber rfl rfl rfl (by decide +kernel) ⟨Nat.le_of_ble_eq_true rfl, Nat.le_of_ble_eq_true rfl⟩) hK hN hP (va_Dsame hD rfl) hS hA [0] rfl rfl 0 3 (T := TX3) (N := 7) rfl rfl rfl hl.1 rfl (Nat.le_of_ble_eq_true rfl) dX3_takesOfWish_47 ⟨Nat.zero_le _, Nat.zero_le _⟩ (bI o_47_1) rfl [some 0, none, none, none, none, none, none, none, none, none, none, none, none, none] 1 [(a, .inr (3, [.ref a_lease, .int i_part, .int i_come, .int o_47_2, .int i_firstHour, .int i_span, .int i_value])), (a_lease, .inr (1, [.ref a_lease_places, .ref a_lease_firstHours, .ref a_lease_spans, .ref a_lease_values, .ref a_lease_cells, .ref a_lease_needs, .ref a_lease_owed, .ref a_lease_room, .int i_lease_squares, .int i_lease_wishCount, .int i_lease_owedPlaces])), (a_lease_places, .inr (4, [.ref n_lease_places])), (n_lease_places, .inl (cI, 5, .inl f_lease_places)), (a_lease_firstHours, .inr (4, [.ref n_lease_firstHours])), (n_lease_firstHours, .inl (cI, 5, .inl f_lease_firstHours)), (a_lease_spans, .inr (4, [.ref n_lease_spans])), (n_lease_spans, .inl (cI, 5, .inl f_lease_spans)), (a_lease_values, .inr (4, [.ref n_lease_values])), (n_lease_values, .inl (cI, 5, .inl f_lease_values)), (a_lease_cells, .inr (4, [.ref n_lease_cells])), (n_lease_cells, .inl (cI, 5, .inl f_lease_cells)), (a_lease_needs, .inr (4, [.ref n_lease_needs])), (n_lease_needs, .inl (cI, 5, .inl f_lease_needs))] rfl rfl (by decide) (fun H locs hP hS => ?_)
    have e9 : v_X3_takesOfWish x1 i_part i_come i_number i_firstHour i_span i_value i_lease_wishCount f_lease_places f_lease_firstHours f_lease_spans f_lease_values f_lease_cells f_lease_needs = (o_47_1, i_part, o_47_2, i_firstHour, i_span, i_value, i_lease_wishCount, f_lease_cells, f_lease_needs, f_lease_places, f_lease_firstHours, f_lease_spans, f_lease_values) := by
      refine (if_neg c_9_1).trans ?_
      refine (if_pos c_9_2).trans ?_
      refine (bnd2_eq ho_47).trans ?_
      rfl
    rw [hQ]; exact retZ (v := fun o : Bool × Int32 × Int32 × Int32 × Int32 × Int32 × Int32 × (Nat → Int32) × (Nat → Int32) × (Nat → Int32) × (Nat → Int32) × (Nat → Int32) × (Nat → Int32) => o.1) (o_47_1, i_part, o_47_2, i_firstHour, i_span, i_value, i_lease_wishCount, f_lease_cells, f_lease_needs, f_lease_places, f_lease_firstHours, f_lease_spans, f_lease_values) hx hb hr hlk e9 hP rfl hS dX3_takesOfWish_50
  by_cases c_9_3 : i_come = 3
  · have hxI : (i_come).toInt = 3 := by rw [c_9_3]; rfl
    refine lv_tableIn (off := 42) (tgt := 51) hx hb dX3_takesOfWish_9 (by rw [hxI]; decide) (by rw [hxI]; decide) (by rw [hxI]; rfl) (by decide) ?_
    refine lv_aload_n hx hb dX3_takesOfWish_51 rfl (lv_at hl 1 rfl) ?_
    refine lv_iload_n hx hb dX3_takesOfWish_52 rfl (lv_at hl 0 rfl) ?_
    refine va_put (D := D) (ci := 3) (v := .int (x1 - 48)) (ty := .int) (C := RX3) (T := TX3) (N := 7) hx hb hts (fun _ h => List.mem_cons_of_mem _ (List.mem_append_left _ (List.mem_append_left _ (List.mem_append_right _ (h))))) tyX3 tyX3_ok nmX3 hown hK hP (va_Dsame hD rfl) hS 0 rfl rfl 4 (by decide) (hts _ (List.mem_of_getElem? (i := 2) rfl)) (fun _ h9 => h9) rfl (tyX3_ok 4 (by decide)) rfl rfl (Nat.le_of_ble_eq_true rfl) dX3_takesOfWish_53 (fun H locs hP _ hS => ?_)
    have hP : va_P D vwCl [(a, .inr (3, [.ref a_lease, .int i_part, .int i_come, .int i_number, .int (x1 - 48), .int i_span, .int i_value])), (a_lease, .inr (1, [.ref a_lease_places, .ref a_lease_firstHours, .ref a_lease_spans, .ref a_lease_values, .ref a_lease_cells, .ref a_lease_needs, .ref a_lease_owed, .ref a_lease_room, .int i_lease_squares, .int i_lease_wishCount, .int i_lease_owedPlaces])), (a_lease_places, .inr (4, [.ref n_lease_places])), (n_lease_places, .inl (cI, 5, .inl f_lease_places)), (a_lease_firstHours, .inr (4, [.ref n_lease_firstHours])), (n_lease_firstHours, .inl (cI, 5, .inl f_lease_firstHours)), (a_lease_spans, .inr (4, [.ref n_lease_spans])), (n_lease_spans, .inl (cI, 5, .inl f_lease_spans)), (a_lease_values, .inr (4, [.ref n_lease_values])), (n_lease_values, .inl (cI, 5, .inl f_lease_values)), (a_lease_cells, .inr (4, [.ref n_lease_cells])), (n_lease_cells, .inl (cI, 5, .inl f_lease_cells)), (a_lease_needs, .inr (4, [.ref n_lease_needs])), (n_lease_needs, .inl (cI, 5, .inl f_lease_needs))] H := hP
    refine lv_iload_n hx hb dX3_takesOfWish_56 rfl (lv_at hl 0 rfl) ?_
    refine lv_if_lt (tgt := 69) hx hb dX3_takesOfWish_57 (by decide) (fun c_57 => ?_) (fun c_57 => ?_)
    · refine lv_iconst (v := 0) hx hb dX3_takesOfWish_69 rfl ?_
      have e9 : v_X3_takesOfWish x1 i_part i_come i_number i_firstHour i_span i_value i_lease_wishCount f_lease_places f_lease_firstHours f_lease_spans f_lease_values f_lease_cells f_lease_needs = (false, i_part, i_number, (x1 - 48), i_span, i_value, i_lease_wishCount, f_lease_cells, f_lease_needs, f_lease_places, f_lease_firstHours, f_lease_spans, f_lease_values) := by
        refine (if_neg c_9_1).trans ?_
        refine (if_neg c_9_2).trans ?_
        refine (if_pos c_9_3).trans ?_
        refine (if_pos c_57).trans ?_
        rfl
      rw [hQ]; exact retZ (v := fun o : Bool × Int32 × Int32 × Int32 × Int32 × Int32 × Int32 × (Nat → Int32) × (Nat → Int32) × (Nat → Int32) × (Nat → Int32) × (Nat → Int32) × (Nat → Int32) => o.1) (false, i_part, i_number, (x1 - 48), i_span, i_value, i_lease_wishCount, f_lease_cells, f_lease_needs, f_lease_places, f_lease_firstHours, f_lease_spans, f_lease_values) hx hb hr hlk e9 hP rfl hS dX3_takesOfWish_70
    · refine lv_iload_n hx hb dX3_takesOfWish_60 rfl (lv_at hl 0 rfl) ?_
      refine lv_iconst (v := 5) hx hb dX3_takesOfWish_61 rfl ?_
      refine lv_icmp_gt (tgt := 69) hx hb dX3_takesOfWish_62 (by decide) (fun c_62 => ?_) (fun c_62 => ?_)
      · refine lv_iconst (v := 0) hx hb dX3_takesOfWish_69 rfl ?_
        have e9 : v_X3_takesOfWish x1 i_part i_come i_number i_firstHour i_span i_value i_lease_wishCount f_lease_places f_lease_firstHours f_lease_spans f_lease_values f_lease_cells f_lease_needs = (false, i_part, i_number, (x1 - 48), i_span, i_value, i_lease_wishCount, f_lease_cells, f_lease_needs, f_lease_places, f_lease_firstHours, f_lease_spans, f_lease_values) := by
          refine (if_neg c_9_1).trans ?_
          refine (if_neg c_9_2).trans ?_
          refine (if_pos c_9_3).trans ?_
          refine (if_neg c_57).trans ?_
          refine (if_pos c_62).trans ?_
          rfl
        rw [hQ]; exact retZ (v := fun o : Bool × Int32 × Int32 × Int32 × Int32 × Int32 × Int32 × (Nat → Int32) × (Nat → Int32) × (Nat → Int32) × (Nat → Int32) × (Nat → Int32) × (Nat → Int32) => o.1) (false, i_part, i_number, (x1 - 48), i_span, i_value, i_lease_wishCount, f_lease_cells, f_lease_needs, f_lease_places, f_lease_firstHours, f_lease_spans, f_lease_values) hx hb hr hlk e9 hP rfl hS dX3_takesOfWish_70
      · refine lv_iconst (v := 1) hx hb dX3_takesOfWish_65 rfl ?_
        refine lv_goto (tgt := 70) hx hb dX3_takesOfWish_66 (by decide) ?_
        have e9 : v_X3_takesOfWish x1 i_part i_come i_number i_firstHour i_span i_value i_lease_wishCount f_lease_places f_lease_firstHours f_lease_spans f_lease_values f_lease_cells f_lease_needs = (true, i_part, i_number, (x1 - 48), i_span, i_value, i_lease_wishCount, f_lease_cells, f_lease_needs, f_lease_places, f_lease_firstHours, f_lease_spans, f_lease_values) := by
          refine (if_neg c_9_1).trans ?_
          refine (if_neg c_9_2).trans ?_
          refine (if_pos c_9_3).trans ?_
          refine (if_neg c_57).trans ?_
          refine (if_neg c_62).trans ?_
          rfl
        rw [hQ]; exact retZ (v := fun o : Bool × Int32 × Int32 × Int32 × Int32 × Int32 × Int32 × (Nat → Int32) × (Nat → Int32) × (Nat → Int32) × (Nat → Int32) × (Nat → Int32) × (Nat → Int32) => o.1) (true, i_part, i_number, (x1 - 48), i_span, i_value, i_lease_wishCount, f_lease_cells, f_lease_needs, f_lease_places, f_lease_firstHours, f_lease_spans, f_lease_values) hx hb hr hlk e9 hP rfl hS dX3_takesOfWish_70
  by_cases c_9_4 : i_come = 4
  · have hxI : (i_come).toInt = 4 := by rw [c_9_4]; rfl
    refine lv_tableIn (off := 62) (tgt := 71) hx hb dX3_takesOfWish_9 (by rw [hxI]; decide) (by rw [hxI]; decide) (by rw [hxI]; rfl) (by decide) ?_
    refine lv_aload_n hx hb dX3_takesOfWish_71 rfl (lv_at hl 1 rfl) ?_
    refine lv_iload_n hx hb dX3_takesOfWish_72 rfl (lv_at hl 0 rfl) ?_
    refine va_put (D := D) (ci := 3) (v := .int (x1 - 48)) (ty := .int) (C := RX3) (T := TX3) (N := 7) hx hb hts (fun _ h => List.mem_cons_of_mem _ (List.mem_append_left _ (List.mem_append_left _ (List.mem_append_right _ (h))))) tyX3 tyX3_ok nmX3 hown hK hP (va_Dsame hD rfl) hS 0 rfl rfl 5 (by decide) (hts _ (List.mem_of_getElem? (i := 3) rfl)) (fun _ h9 => h9) rfl (tyX3_ok 5 (by decide)) rfl rfl (Nat.le_of_ble_eq_true rfl) dX3_takesOfWish_73 (fun H locs hP _ hS => ?_)
    have hP : va_P D vwCl [(a, .inr (3, [.ref a_lease, .int i_part, .int i_come, .int i_number, .int i_firstHour, .int (x1 - 48), .int i_value])), (a_lease, .inr (1, [.ref a_lease_places, .ref a_lease_firstHours, .ref a_lease_spans, .ref a_lease_values, .ref a_lease_cells, .ref a_lease_needs, .ref a_lease_owed, .ref a_lease_room, .int i_lease_squares, .int i_lease_wishCount, .int i_lease_owedPlaces])), (a_lease_places, .inr (4, [.ref n_lease_places])), (n_lease_places, .inl (cI, 5, .inl f_lease_places)), (a_lease_firstHours, .inr (4, [.ref n_lease_firstHours])), (n_lease_firstHours, .inl (cI, 5, .inl f_lease_firstHours)), (a_lease_spans, .inr (4, [.ref n_lease_spans])), (n_lease_spans, .inl (cI, 5, .inl f_lease_spans)), (a_lease_values, .inr (4, [.ref n_lease_values])), (n_lease_values, .inl (cI, 5, .inl f_lease_values)), (a_lease_cells, .inr (4, [.ref n_lease_cells])), (n_lease_cells, .inl (cI, 5, .inl f_lease_cells)), (a_lease_needs, .inr (4, [.ref n_lease_needs])), (n_lease_needs, .inl (cI, 5, .inl f_lease_needs))] H := hP
    refine lv_iload_n hx hb dX3_takesOfWish_76 rfl (lv_at hl 0 rfl) ?_
    refine lv_iconst (v := 1) hx hb dX3_takesOfWish_77 rfl ?_
    refine lv_icmp_lt (tgt := 91) hx hb dX3_takesOfWish_78 (by decide) (fun c_78 => ?_) (fun c_78 => ?_)
    · refine lv_iconst (v := 0) hx hb dX3_takesOfWish_91 rfl ?_
      have e9 : v_X3_takesOfWish x1 i_part i_come i_number i_firstHour i_span i_value i_lease_wishCount f_lease_places f_lease_firstHours f_lease_spans f_lease_values f_lease_cells f_lease_needs = (false, i_part, i_number, i_firstHour, (x1 - 48), i_value, i_lease_wishCount, f_lease_cells, f_lease_needs, f_lease_places, f_lease_firstHours, f_lease_spans, f_lease_values) := by
        refine (if_neg c_9_1).trans ?_
        refine (if_neg c_9_2).trans ?_
        refine (if_neg c_9_3).trans ?_
        refine (if_pos c_9_4).trans ?_
        refine (if_pos c_78).trans ?_
        rfl
      rw [hQ]; exact retZ (v := fun o : Bool × Int32 × Int32 × Int32 × Int32 × Int32 × Int32 × (Nat → Int32) × (Nat → Int32) × (Nat → Int32) × (Nat → Int32) × (Nat → Int32) × (Nat → Int32) => o.1) (false, i_part, i_number, i_firstHour, (x1 - 48), i_value, i_lease_wishCount, f_lease_cells, f_lease_needs, f_lease_places, f_lease_firstHours, f_lease_spans, f_lease_values) hx hb hr hlk e9 hP rfl hS dX3_takesOfWish_92
    · refine lv_iload_n hx hb dX3_takesOfWish_81 rfl (lv_at hl 0 rfl) ?_
      refine lv_bipush (v := 6) hx hb dX3_takesOfWish_82 rfl ?_
      refine lv_icmp_gt (tgt := 91) hx hb dX3_takesOfWish_84 (by decide) (fun c_84 => ?_) (fun c_84 => ?_)
      · refine lv_iconst (v := 0) hx hb dX3_takesOfWish_91 rfl ?_
        have e9 : v_X3_takesOfWish x1 i_part i_come i_number i_firstHour i_span i_value i_lease_wishCount f_lease_places f_lease_firstHours f_lease_spans f_lease_values f_lease_cells f_lease_needs = (false, i_part, i_number, i_firstHour, (x1 - 48), i_value, i_lease_wishCount, f_lease_cells, f_lease_needs, f_lease_places, f_lease_firstHours, f_lease_spans, f_lease_values) := by
          refine (if_neg c_9_1).trans ?_
          refine (if_neg c_9_2).trans ?_
          refine (if_neg c_9_3).trans ?_
          refine (if_pos c_9_4).trans ?_
          refine (if_neg c_78).trans ?_
          refine (if_pos c_84).trans ?_
          rfl
        rw [hQ]; exact retZ (v := fun o : Bool × Int32 × Int32 × Int32 × Int32 × Int32 × Int32 × (Nat → Int32) × (Nat → Int32) × (Nat → Int32) × (Nat → Int32) × (Nat → Int32) × (Nat → Int32) => o.1) (false, i_part, i_number, i_firstHour, (x1 - 48), i_value, i_lease_wishCount, f_lease_cells, f_lease_needs, f_lease_places, f_lease_firstHours, f_lease_spans, f_lease_values) hx hb hr hlk e9 hP rfl hS dX3_takesOfWish_92
      · refine lv_iconst (v := 1) hx hb dX3_takesOfWish_87 rfl ?_
        refine lv_goto (tgt := 92) hx hb dX3_takesOfWish_88 (by decide) ?_
        have e9 : v_X3_takesOfWish x1 i_part i_come i_number i_firstHour i_span i_value i_lease_wishCount f_lease_places f_lease_firstHours f_lease_spans f_lease_values f_lease_cells f_lease_needs = (true, i_part, i_number, i_firstHour, (x1 - 48), i_value, i_lease_wishCount, f_lease_cells, f_lease_needs, f_lease_places, f_lease_firstHours, f_lease_spans, f_lease_values) := by
          refine (if_neg c_9_1).trans ?_
          refine (if_neg c_9_2).trans ?_
          refine (if_neg c_9_3).trans ?_
          refine (if_pos c_9_4).trans ?_
          refine (if_neg c_78).trans ?_
          refine (if_neg c_84).trans ?_
          rfl
        rw [hQ]; exact retZ (v := fun o : Bool × Int32 × Int32 × Int32 × Int32 × Int32 × Int32 × (Nat → Int32) × (Nat → Int32) × (Nat → Int32) × (Nat → Int32) × (Nat → Int32) × (Nat → Int32) => o.1) (true, i_part, i_number, i_firstHour, (x1 - 48), i_value, i_lease_wishCount, f_lease_cells, f_lease_needs, f_lease_places, f_lease_firstHours, f_lease_spans, f_lease_values) hx hb hr hlk e9 hP rfl hS dX3_takesOfWish_92
  by_cases c_9_5 : i_come = 5
  · have hxI : (i_come).toInt = 5 := by rw [c_9_5]; rfl
    refine lv_tableIn (off := 84) (tgt := 93) hx hb dX3_takesOfWish_9 (by rw [hxI]; decide) (by rw [hxI]; decide) (by rw [hxI]; rfl) (by decide) ?_
    refine lv_aload_n hx hb dX3_takesOfWish_93 rfl (lv_at hl 1 rfl) ?_
    refine lv_iload_n hx hb dX3_takesOfWish_94 rfl (lv_at hl 0 rfl) ?_
    refine va_put (D := D) (ci := 3) (v := .int (x1 - 48)) (ty := .int) (C := RX3) (T := TX3) (N := 7) hx hb hts (fun _ h => List.mem_cons_of_mem _ (List.mem_append_left _ (List.mem_append_left _ (List.mem_append_right _ (h))))) tyX3 tyX3_ok nmX3 hown hK hP (va_Dsame hD rfl) hS 0 rfl rfl 6 (by decide) (hts _ (List.mem_of_getElem? (i := 4) rfl)) (fun _ h9 => h9) rfl (tyX3_ok 6 (by decide)) rfl rfl (Nat.le_of_ble_eq_true rfl) dX3_takesOfWish_95 (fun H locs hP _ hS => ?_)
    have hP : va_P D vwCl [(a, .inr (3, [.ref a_lease, .int i_part, .int i_come, .int i_number, .int i_firstHour, .int i_span, .int (x1 - 48)])), (a_lease, .inr (1, [.ref a_lease_places, .ref a_lease_firstHours, .ref a_lease_spans, .ref a_lease_values, .ref a_lease_cells, .ref a_lease_needs, .ref a_lease_owed, .ref a_lease_room, .int i_lease_squares, .int i_lease_wishCount, .int i_lease_owedPlaces])), (a_lease_places, .inr (4, [.ref n_lease_places])), (n_lease_places, .inl (cI, 5, .inl f_lease_places)), (a_lease_firstHours, .inr (4, [.ref n_lease_firstHours])), (n_lease_firstHours, .inl (cI, 5, .inl f_lease_firstHours)), (a_lease_spans, .inr (4, [.ref n_lease_spans])), (n_lease_spans, .inl (cI, 5, .inl f_lease_spans)), (a_lease_values, .inr (4, [.ref n_lease_values])), (n_lease_values, .inl (cI, 5, .inl f_lease_values)), (a_lease_cells, .inr (4, [.ref n_lease_cells])), (n_lease_cells, .inl (cI, 5, .inl f_lease_cells)), (a_lease_needs, .inr (4, [.ref n_lease_needs])), (n_lease_needs, .inl (cI, 5, .inl f_lease_needs))] H := hP
    refine lv_iload_n hx hb dX3_takesOfWish_98 rfl (lv_at hl 0 rfl) ?_
    refine lv_iconst (v := 1) hx hb dX3_takesOfWish_99 rfl ?_
    refine lv_icmp_lt (tgt := 113) hx hb dX3_takesOfWish_100 (by decide) (fun c_100 => ?_) (fun c_100 => ?_)
    · refine lv_iconst (v := 0) hx hb dX3_takesOfWish_113 rfl ?_
      have e9 : v_X3_takesOfWish x1 i_part i_come i_number i_firstHour i_span i_value i_lease_wishCount f_lease_places f_lease_firstHours f_lease_spans f_lease_values f_lease_cells f_lease_needs = (false, i_part, i_number, i_firstHour, i_span, (x1 - 48), i_lease_wishCount, f_lease_cells, f_lease_needs, f_lease_places, f_lease_firstHours, f_lease_spans, f_lease_values) := by
        refine (if_neg c_9_1).trans ?_
        refine (if_neg c_9_2).trans ?_
        refine (if_neg c_9_3).trans ?_
        refine (if_neg c_9_4).trans ?_
        refine (if_pos c_9_5).trans ?_
        refine (if_pos c_100).trans ?_
        rfl
      rw [hQ]; exact retZ (v := fun o : Bool × Int32 × Int32 × Int32 × Int32 × Int32 × Int32 × (Nat → Int32) × (Nat → Int32) × (Nat → Int32) × (Nat → Int32) × (Nat → Int32) × (Nat → Int32) => o.1) (false, i_part, i_number, i_firstHour, i_span, (x1 - 48), i_lease_wishCount, f_lease_cells, f_lease_needs, f_lease_places, f_lease_firstHours, f_lease_spans, f_lease_values) hx hb hr hlk e9 hP rfl hS dX3_takesOfWish_114
    · refine lv_iload_n hx hb dX3_takesOfWish_103 rfl (lv_at hl 0 rfl) ?_
      refine lv_bipush (v := 9) hx hb dX3_takesOfWish_104 rfl ?_
      refine lv_icmp_gt (tgt := 113) hx hb dX3_takesOfWish_106 (by decide) (fun c_106 => ?_) (fun c_106 => ?_)
      · refine lv_iconst (v := 0) hx hb dX3_takesOfWish_113 rfl ?_
        have e9 : v_X3_takesOfWish x1 i_part i_come i_number i_firstHour i_span i_value i_lease_wishCount f_lease_places f_lease_firstHours f_lease_spans f_lease_values f_lease_cells f_lease_needs = (false, i_part, i_number, i_firstHour, i_span, (x1 - 48), i_lease_wishCount, f_lease_cells, f_lease_needs, f_lease_places, f_lease_firstHours, f_lease_spans, f_lease_values) := by
          refine (if_neg c_9_1).trans ?_
          refine (if_neg c_9_2).trans ?_
          refine (if_neg c_9_3).trans ?_
          refine (if_neg c_9_4).trans ?_
          refine (if_pos c_9_5).trans ?_
          refine (if_neg c_100).trans ?_
          refine (if_pos c_106).trans ?_
          rfl
        rw [hQ]; exact retZ (v := fun o : Bool × Int32 × Int32 × Int32 × Int32 × Int32 × Int32 × (Nat → Int32) × (Nat → Int32) × (Nat → Int32) × (Nat → Int32) × (Nat → Int32) × (Nat → Int32) => o.1) (false, i_part, i_number, i_firstHour, i_span, (x1 - 48), i_lease_wishCount, f_lease_cells, f_lease_needs, f_lease_places, f_lease_firstHours, f_lease_spans, f_lease_values) hx hb hr hlk e9 hP rfl hS dX3_takesOfWish_114
      · refine lv_iconst (v := 1) hx hb dX3_takesOfWish_109 rfl ?_
        refine lv_goto (tgt := 114) hx hb dX3_takesOfWish_110 (by decide) ?_
        have e9 : v_X3_takesOfWish x1 i_part i_come i_number i_firstHour i_span i_value i_lease_wishCount f_lease_places f_lease_firstHours f_lease_spans f_lease_values f_lease_cells f_lease_needs = (true, i_part, i_number, i_firstHour, i_span, (x1 - 48), i_lease_wishCount, f_lease_cells, f_lease_needs, f_lease_places, f_lease_firstHours, f_lease_spans, f_lease_values) := by
          refine (if_neg c_9_1).trans ?_
          refine (if_neg c_9_2).trans ?_
          refine (if_neg c_9_3).trans ?_
          refine (if_neg c_9_4).trans ?_
          refine (if_pos c_9_5).trans ?_
          refine (if_neg c_100).trans ?_
          refine (if_neg c_106).trans ?_
          rfl
        rw [hQ]; exact retZ (v := fun o : Bool × Int32 × Int32 × Int32 × Int32 × Int32 × Int32 × (Nat → Int32) × (Nat → Int32) × (Nat → Int32) × (Nat → Int32) × (Nat → Int32) × (Nat → Int32) => o.1) (true, i_part, i_number, i_firstHour, i_span, (x1 - 48), i_lease_wishCount, f_lease_cells, f_lease_needs, f_lease_places, f_lease_firstHours, f_lease_spans, f_lease_values) hx hb hr hlk e9 hP rfl hS dX3_takesOfWish_114
  have nc_9_1 := lv_neT c_9_1 (show (1 : Int32).toInt = 1 from rfl)
  have nc_9_2 := lv_neT c_9_2 (show (2 : Int32).toInt = 2 from rfl)
  have nc_9_3 := lv_neT c_9_3 (show (3 : Int32).toInt = 3 from rfl)
  have nc_9_4 := lv_neT c_9_4 (show (4 : Int32).toInt = 4 from rfl)
  have nc_9_5 := lv_neT c_9_5 (show (5 : Int32).toInt = 5 from rfl)
  refine lv_tableOut (tgt := 115) hx hb dX3_takesOfWish_9 (by omega) (by decide) ?_
  refine lv_aload_n hx hb dX3_takesOfWish_115 rfl (lv_at hl 1 rfl) ?_
  refine lv_iload_n hx hb dX3_takesOfWish_116 rfl (lv_at hl 2 rfl) ?_
  obtain ⟨o_117_1, o_117_2, o_117_3, o_117_4, o_117_5, o_117_6, o_117_7, o_117_8, o_117_9, ho_117⟩ := ex9 (v_X3_takesLastOfWish x1 i_part i_number i_firstHour i_span i_value i_lease_wishCount f_lease_places f_lease_firstHours f_lease_spans f_lease_values f_lease_cells f_lease_needs)
  refine callVI (As := [.int x1]) (rest := []) (o_117_1, o_117_2, o_117_3, o_117_4, o_117_5, o_117_6, o_117_7, o_117_8, o_117_9) ho_117 hF (k_X3_takesLastOfWish l D cI cZ a a_lease a_lease_places a_lease_firstHours a_lease_spans a_lease_values a_lease_cells a_lease_needs a_lease_owed a_lease_room n_lease_places n_lease_firstHours n_lease_spans n_lease_values n_lease_cells n_lease_needs x1 i_part i_come i_number i_firstHour i_span i_value i_lease_squares i_lease_wishCount i_lease_owedPlaces f_lease_places f_lease_firstHours f_lease_spans f_lease_values f_lease_cells f_lease_needs) (cwV 1 hts gX3_takesOfWish_X3_takesLastOfWish rfl rfl rfl (by decide +kernel) ⟨Nat.le_of_ble_eq_true rfl, Nat.le_of_ble_eq_true rfl⟩) hK hN hP (va_Dsame hD rfl) hS hA [0, 1, 2, 3, 4, 5, 6, 7, 8, 9, 10, 11, 12, 13] rfl rfl 0 3 (T := TX3) (N := 7) rfl rfl rfl hl.1 rfl (Nat.le_of_ble_eq_true rfl) dX3_takesOfWish_117 ⟨Nat.zero_le _, Nat.zero_le _⟩ (bI o_117_1) rfl [some 0, some 1, some 2, some 3, some 4, some 5, some 6, some 7, some 8, some 9, some 10, some 11, some 12, some 13] 14 [(a, .inr (3, [.ref a_lease, .int o_117_2, .int i_come, .int i_number, .int i_firstHour, .int i_span, .int i_value])), (a_lease, .inr (1, [.ref a_lease_places, .ref a_lease_firstHours, .ref a_lease_spans, .ref a_lease_values, .ref a_lease_cells, .ref a_lease_needs, .ref a_lease_owed, .ref a_lease_room, .int i_lease_squares, .int o_117_3, .int i_lease_owedPlaces])), (a_lease_places, .inr (4, [.ref n_lease_places])), (n_lease_places, .inl (cI, 5, .inl o_117_6)), (a_lease_firstHours, .inr (4, [.ref n_lease_firstHours])), (n_lease_firstHours, .inl (cI, 5, .inl o_117_7)), (a_lease_spans, .inr (4, [.ref n_lease_spans])), (n_lease_spans, .inl (cI, 5, .inl o_117_8)), (a_lease_values, .inr (4, [.ref n_lease_values])), (n_lease_values, .inl (cI, 5, .inl o_117_9)), (a_lease_cells, .inr (4, [.ref n_lease_cells])), (n_lease_cells, .inl (cI, 5, .inl o_117_4)), (a_lease_needs, .inr (4, [.ref n_lease_needs])), (n_lease_needs, .inl (cI, 5, .inl o_117_5))] rfl rfl (by decide) (fun H locs hP hS => ?_)
  have e9 : v_X3_takesOfWish x1 i_part i_come i_number i_firstHour i_span i_value i_lease_wishCount f_lease_places f_lease_firstHours f_lease_spans f_lease_values f_lease_cells f_lease_needs = (o_117_1, o_117_2, i_number, i_firstHour, i_span, i_value, o_117_3, o_117_4, o_117_5, o_117_6, o_117_7, o_117_8, o_117_9) := by
    refine (if_neg c_9_1).trans ?_
    refine (if_neg c_9_2).trans ?_
    refine (if_neg c_9_3).trans ?_
    refine (if_neg c_9_4).trans ?_
    refine (if_neg c_9_5).trans ?_
    refine (bnd9_eq ho_117).trans ?_
    rfl
  rw [hQ]; exact retZ (v := fun o : Bool × Int32 × Int32 × Int32 × Int32 × Int32 × Int32 × (Nat → Int32) × (Nat → Int32) × (Nat → Int32) × (Nat → Int32) × (Nat → Int32) × (Nat → Int32) => o.1) (o_117_1, o_117_2, i_number, i_firstHour, i_span, i_value, o_117_3, o_117_4, o_117_5, o_117_6, o_117_7, o_117_8, o_117_9) hx hb hr hlk e9 hP rfl hS dX3_takesOfWish_120
def v_X3_takesOfOwed (x1 : Int32) (i_part : Int32) (i_come : Int32) (i_number : Int32) (i_lease_owedPlaces : Int32) (f_lease_owed : Nat → Int32) (f_lease_room : Nat → Int32) : Bool × Int32 × Int32 × Int32 × (Nat → Int32) × (Nat → Int32) :=
  if 3 ≤ i_come then (if (x1 - 48) < 1 then (false, i_part, i_number, i_lease_owedPlaces, f_lease_owed, f_lease_room)
    else (if (x1 - 48) ≤ 6 then (bnd3 (v_X1_addOwed i_number (x1 - 48) i_lease_owedPlaces f_lease_owed f_lease_room) fun o_48_1 o_48_2 o_48_3 =>
      (true, 1, i_number, o_48_1, o_48_2, o_48_3))
    else (false, i_part, i_number, i_lease_owedPlaces, f_lease_owed, f_lease_room)))
  else (bnd (v_X1_owedPlaces i_lease_owedPlaces) fun o_14 =>
  (bnd2 (v_X3_takesOfNumber x1 o_14 i_come i_number) fun o_17_1 o_17_2 =>
  (o_17_1, i_part, o_17_2, i_lease_owedPlaces, f_lease_owed, f_lease_room)))
abbrev rm_X3_takesOfOwed : Room := { frames := 2, cells := 0, slots := 0, locals := 45 }
set_option maxHeartbeats 4000000 in
set_option maxRecDepth 100000 in
theorem k_X3_takesOfOwed (l : Launch) (D : va_G) (cI cZ : ClassId) (a a_lease a_lease_places a_lease_firstHours a_lease_spans a_lease_values a_lease_cells a_lease_needs a_lease_owed a_lease_room n_lease_owed n_lease_room : Nat) (x1 : Int32) (i_part : Int32) (i_come : Int32) (i_number : Int32) (i_firstHour : Int32) (i_span : Int32) (i_value : Int32) (i_lease_squares : Int32) (i_lease_wishCount : Int32) (i_lease_owedPlaces : Int32) (f_lease_owed : Nat → Int32) (f_lease_room : Nat → Int32) : KI l D cI cZ yX3_takesOfOwed wsX3_takesOfOwed rm_X3_takesOfOwed [.ref a, .int x1] [(a, .inr (3, [.ref a_lease, .int i_part, .int i_come, .int i_number, .int i_firstHour, .int i_span, .int i_value])), (a_lease, .inr (1, [.ref a_lease_places, .ref a_lease_firstHours, .ref a_lease_spans, .ref a_lease_values, .ref a_lease_cells, .ref a_lease_needs, .ref a_lease_owed, .ref a_lease_room, .int i_lease_squares, .int i_lease_wishCount, .int i_lease_owedPlaces])), (a_lease_owed, .inr (4, [.ref n_lease_owed])), (n_lease_owed, .inl (cI, 12, .inl f_lease_owed)), (a_lease_room, .inr (4, [.ref n_lease_room])), (n_lease_room, .inl (cI, 2, .inl f_lease_room))] (v_X3_takesOfOwed x1 i_part i_come i_number i_lease_owedPlaces f_lease_owed f_lease_room) (fun o : Bool × Int32 × Int32 × Int32 × (Nat → Int32) × (Nat → Int32) => bI o.1) (fun o : Bool × Int32 × Int32 × Int32 × (Nat → Int32) × (Nat → Int32) => [(a, .inr (3, [.ref a_lease, .int o.2.1, .int i_come, .int o.2.2.1, .int i_firstHour, .int i_span, .int i_value])), (a_lease, .inr (1, [.ref a_lease_places, .ref a_lease_firstHours, .ref a_lease_spans, .ref a_lease_values, .ref a_lease_cells, .ref a_lease_needs, .ref a_lease_owed, .ref a_lease_room, .int i_lease_squares, .int i_lease_wishCount, .int o.2.2.2.1])), (a_lease_owed, .inr (4, [.ref n_lease_owed])), (n_lease_owed, .inl (cI, 12, .inl o.2.2.2.2.1)), (a_lease_room, .inr (4, [.ref n_lease_room])), (n_lease_room, .inl (cI, 2, .inl o.2.2.2.2.2))]) := by
  refine KI.of cX3_takesOfOwed 3 (some .boolean) (by decide) rfl (Nat.le_of_ble_eq_true rfl) ?_
  intro p e s m below meth c A ls ar Q hQ B
  obtain ⟨hx, hb, hr, hml, hts, hown, hlk, hK, hN, hP, hD, hA, hS, hl⟩ := B
  have hown : s.vm.findClass RX3 = some m.cls := hown
  have hF : CallFix p m c cX3_takesOfOwed 3 s ar wsX3_takesOfOwed RX3 := ⟨hx, hb, hml, hown, hts⟩
  have hl : lv_has ls 3 [(0, .ref a), (1, .int x1)] := hl
  refine lv_aload_n hx hb dX3_takesOfOwed_0 rfl (lv_at hl 0 rfl) ?_
  refine va_get (D := D) (ci := 3) (v := .int i_come) (C := RX3) (T := TX3) (N := 7) hx hb hts (fun _ h => List.mem_cons_of_mem _ (List.mem_append_left _ (List.mem_append_left _ (List.mem_append_right _ (h))))) hown hK hP 0 rfl rfl 2 (by decide) (hts _ (List.mem_of_getElem? (i := 1) rfl)) (fun _ h9 => h9) rfl dX3_takesOfOwed_1 ?_
  refine lv_iconst (v := 3) hx hb dX3_takesOfOwed_4 rfl ?_
  refine lv_icmp_ge (tgt := 21) hx hb dX3_takesOfOwed_5 (by decide) (fun c_5 => ?_) (fun c_5 => ?_)
  · refine lv_iload_n hx hb dX3_takesOfOwed_21 rfl (lv_at hl 1 rfl) ?_
    refine lv_bipush (v := 48) hx hb dX3_takesOfOwed_22 rfl ?_
    refine lv_isub hx hb dX3_takesOfOwed_24 ?_
    refine lv_istore_n (lv' := [(2, .int (x1 - 48)), (0, .ref a), (1, .int x1)]) hx hb dX3_takesOfOwed_25 rfl hl (by decide) rfl (fun ls hl => ?_)
    refine lv_iload_n hx hb dX3_takesOfOwed_26 rfl (lv_at hl 0 rfl) ?_
    refine lv_iconst (v := 1) hx hb dX3_takesOfOwed_27 rfl ?_
    refine lv_icmp_lt (tgt := 37) hx hb dX3_takesOfOwed_28 (by decide) (fun c_28 => ?_) (fun c_28 => ?_)
    · refine lv_iconst (v := 0) hx hb dX3_takesOfOwed_37 rfl ?_
      have e9 : v_X3_takesOfOwed x1 i_part i_come i_number i_lease_owedPlaces f_lease_owed f_lease_room = (false, i_part, i_number, i_lease_owedPlaces, f_lease_owed, f_lease_room) := by
        refine (if_pos c_5).trans ?_
        refine (if_pos c_28).trans ?_
        rfl
      rw [hQ]; exact retZ (v := fun o : Bool × Int32 × Int32 × Int32 × (Nat → Int32) × (Nat → Int32) => o.1) (false, i_part, i_number, i_lease_owedPlaces, f_lease_owed, f_lease_room) hx hb hr hlk e9 hP rfl hS dX3_takesOfOwed_38
    · refine lv_iload_n hx hb dX3_takesOfOwed_31 rfl (lv_at hl 0 rfl) ?_
      refine lv_bipush (v := 6) hx hb dX3_takesOfOwed_32 rfl ?_
      refine lv_icmp_le (tgt := 39) hx hb dX3_takesOfOwed_34 (by decide) (fun c_34 => ?_) (fun c_34 => ?_)
      · refine lv_aload_n hx hb dX3_takesOfOwed_39 rfl (lv_at hl 1 rfl) ?_
        refine va_get (D := D) (ci := 3) (v := .ref a_lease) (C := RX3) (T := TX3) (N := 7) hx hb hts (fun _ h => List.mem_cons_of_mem _ (List.mem_append_left _ (List.mem_append_left _ (List.mem_append_right _ (h))))) hown hK hP 0 rfl rfl 0 (by decide) (hts _ (List.mem_of_getElem? (i := 2) rfl)) (fun _ h9 => h9) rfl dX3_takesOfOwed_40 ?_
        refine lv_aload_n hx hb dX3_takesOfOwed_43 rfl (lv_at hl 1 rfl) ?_
        refine va_get (D := D) (ci := 3) (v := .int i_number) (C := RX3) (T := TX3) (N := 7) hx hb hts (fun _ h => List.mem_cons_of_mem _ (List.mem_append_left _ (List.mem_append_left _ (List.mem_append_right _ (h))))) hown hK hP 0 rfl rfl 3 (by decide) (hts _ (List.mem_of_getElem? (i := 3) rfl)) (fun _ h9 => h9) rfl dX3_takesOfOwed_44 ?_
        refine lv_iload_n hx hb dX3_takesOfOwed_47 rfl (lv_at hl 0 rfl) ?_
        obtain ⟨o_48_1, o_48_2, o_48_3, ho_48⟩ := ex3 (v_X1_addOwed i_number (x1 - 48) i_lease_owedPlaces f_lease_owed f_lease_room)
        refine callVV (As := [.int i_number, .int (x1 - 48)]) (rest := []) (o_48_1, o_48_2, o_48_3) ho_48 hF (k_X1_addOwed l D cI cZ a_lease a_lease_places a_lease_firstHours a_lease_spans a_lease_values a_lease_cells a_lease_needs a_lease_owed a_lease_room n_lease_owed n_lease_room i_number (x1 - 48) i_lease_squares i_lease_wishCount i_lease_owedPlaces f_lease_owed f_lease_room) (cwV 2 hts gX3_takesOfOwed_X1_addOwed rfl rfl rfl (by decide +kernel) ⟨Nat.le_of_ble_eq_true rfl, Nat.le_of_ble_eq_true rfl⟩) hK hN hP (va_Dsame hD rfl) hS hA [1, 2, 3, 4, 5] rfl rfl 1 1 (T := TX1) (N := 11) rfl rfl rfl hl.1 rfl (Nat.le_of_ble_eq_true rfl) dX3_takesOfOwed_48 ⟨Nat.zero_le _, Nat.zero_le _⟩ [none, some 0, some 1, some 2, some 3, some 4] 5 [(a, .inr (3, [.ref a_lease, .int i_part, .int i_come, .int i_number, .int i_firstHour, .int i_span, .int i_value])), (a_lease, .inr (1, [.ref a_lease_places, .ref a_lease_firstHours, .ref a_lease_spans, .ref a_lease_values, .ref a_lease_cells, .ref a_lease_needs, .ref a_lease_owed, .ref a_lease_room, .int i_lease_squares, .int i_lease_wishCount, .int o_48_1])), (a_lease_owed, .inr (4, [.ref n_lease_owed])), (n_lease_owed, .inl (cI, 12, .inl o_48_2)), (a_lease_room, .inr (4, [.ref n_lease_room])), (n_lease_room, .inl (cI, 2, .inl o_48_3))] rfl rfl (by decide) (fun H locs hP hS => ?_)
        refine lv_aload_n hx hb dX3_takesOfOwed_51 rfl (lv_at hl 1 rfl) ?_
        refine lv_iconst (v := 1) hx hb dX3_takesOfOwed_52 rfl ?_
        refine va_put (D := D) (ci := 3) (v := .int 1) (ty := .int) (C := RX3) (T := TX3) (N := 7) hx hb hts (fun _ h => List.mem_cons_of_mem _ (List.mem_append_left _ (List.mem_append_left _ (List.mem_append_right _ (h))))) tyX3 tyX3_ok nmX3 hown hK hP (va_Dsame hD rfl) hS 0 rfl rfl 1 (by decide) (hts _ (List.mem_of_getElem? (i := 4) rfl)) (fun _ h9 => h9) rfl (tyX3_ok 1 (by decide)) rfl rfl (Nat.le_of_ble_eq_true rfl) dX3_takesOfOwed_53 (fun H locs hP _ hS => ?_)
        have hP : va_P D vwCl [(a, .inr (3, [.ref a_lease, .int 1, .int i_come, .int i_number, .int i_firstHour, .int i_span, .int i_value])), (a_lease, .inr (1, [.ref a_lease_places, .ref a_lease_firstHours, .ref a_lease_spans, .ref a_lease_values, .ref a_lease_cells, .ref a_lease_needs, .ref a_lease_owed, .ref a_lease_room, .int i_lease_squares, .int i_lease_wishCount, .int o_48_1])), (a_lease_owed, .inr (4, [.ref n_lease_owed])), (n_lease_owed, .inl (cI, 12, .inl o_48_2)), (a_lease_room, .inr (4, [.ref n_lease_room])), (n_lease_room, .inl (cI, 2, .inl o_48_3))] H := hP
        refine lv_iconst (v := 1) hx hb dX3_takesOfOwed_56 rfl ?_
        have e9 : v_X3_takesOfOwed x1 i_part i_come i_number i_lease_owedPlaces f_lease_owed f_lease_room = (true, 1, i_number, o_48_1, o_48_2, o_48_3) := by
          refine (if_pos c_5).trans ?_
          refine (if_neg c_28).trans ?_
          refine (if_pos c_34).trans ?_
          refine (bnd3_eq ho_48).trans ?_
          rfl
        rw [hQ]; exact retZ (v := fun o : Bool × Int32 × Int32 × Int32 × (Nat → Int32) × (Nat → Int32) => o.1) (true, 1, i_number, o_48_1, o_48_2, o_48_3) hx hb hr hlk e9 hP rfl hS dX3_takesOfOwed_57
      · refine lv_iconst (v := 0) hx hb dX3_takesOfOwed_37 rfl ?_
        have e9 : v_X3_takesOfOwed x1 i_part i_come i_number i_lease_owedPlaces f_lease_owed f_lease_room = (false, i_part, i_number, i_lease_owedPlaces, f_lease_owed, f_lease_room) := by
          refine (if_pos c_5).trans ?_
          refine (if_neg c_28).trans ?_
          refine (if_neg c_34).trans ?_
          rfl
        rw [hQ]; exact retZ (v := fun o : Bool × Int32 × Int32 × Int32 × (Nat → Int32) × (Nat → Int32) => o.1) (false, i_part, i_number, i_lease_owedPlaces, f_lease_owed, f_lease_room) hx hb hr hlk e9 hP rfl hS dX3_takesOfOwed_38
  · refine lv_aload_n hx hb dX3_takesOfOwed_8 rfl (lv_at hl 0 rfl) ?_
    refine lv_iload_n hx hb dX3_takesOfOwed_9 rfl (lv_at hl 1 rfl) ?_
    refine lv_aload_n hx hb dX3_takesOfOwed_10 rfl (lv_at hl 0 rfl) ?_
    refine va_get (D := D) (ci := 3) (v := .ref a_lease) (C := RX3) (T := TX3) (N := 7) hx hb hts (fun _ h => List.mem_cons_of_mem _ (List.mem_append_left _ (List.mem_append_left _ (List.mem_append_right _ (h))))) hown hK hP 0 rfl rfl 0 (by decide) (hts _ (List.mem_of_getElem? (i := 2) rfl)) (fun _ h9 => h9) rfl dX3_takesOfOwed_11 ?_
    obtain ⟨o_14, ho_14⟩ : ∃ z : Int32, z = v_X1_owedPlaces i_lease_owedPlaces := ⟨_, rfl⟩
    refine callVIs (As := []) (rest := [.int x1, .ref a]) o_14 ho_14 hF (k_X1_owedPlaces l D cI cZ a_lease a_lease_places a_lease_firstHours a_lease_spans a_lease_values a_lease_cells a_lease_needs a_lease_owed a_lease_room i_lease_squares i_lease_wishCount i_lease_owedPlaces) (cwV 0 hts gX3_takesOfOwed_X1_owedPlaces rfl rfl rfl (by decide +kernel) ⟨Nat.le_of_ble_eq_true rfl, Nat.le_of_ble_eq_true rfl⟩) hK hN hP (va_Dsame hD rfl) hS hA [1] rfl rfl 1 1 (T := TX1) (N := 11) rfl rfl rfl hl.1 rfl (Nat.le_of_ble_eq_true rfl) dX3_takesOfOwed_14 ⟨Nat.zero_le _, Nat.zero_le _⟩ o_14 rfl rfl (fun H locs hP hS => ?_)
    obtain ⟨o_17_1, o_17_2, ho_17⟩ := ex2 (v_X3_takesOfNumber x1 o_14 i_come i_number)
    refine callVI (As := [.int x1, .int o_14]) (rest := []) (o_17_1, o_17_2) ho_17 hF (k_X3_takesOfNumber l D cI cZ a a_lease x1 o_14 i_part i_come i_number i_firstHour i_span i_value) (cwV 2 hts gX3_takesOfOwed_X3_takesOfNumber rfl rfl rfl (by decide +kernel) ⟨Nat.le_of_ble_eq_true rfl, Nat.le_of_ble_eq_true rfl⟩) hK hN hP (va_Dsame hD rfl) hS hA [0] rfl rfl 0 3 (T := TX3) (N := 7) rfl rfl rfl hl.1 rfl (Nat.le_of_ble_eq_true rfl) dX3_takesOfOwed_17 ⟨Nat.zero_le _, Nat.zero_le _⟩ (bI o_17_1) rfl [some 0, none, none, none, none, none] 1 [(a, .inr (3, [.ref a_lease, .int i_part, .int i_come, .int o_17_2, .int i_firstHour, .int i_span, .int i_value])), (a_lease, .inr (1, [.ref a_lease_places, .ref a_lease_firstHours, .ref a_lease_spans, .ref a_lease_values, .ref a_lease_cells, .ref a_lease_needs, .ref a_lease_owed, .ref a_lease_room, .int i_lease_squares, .int i_lease_wishCount, .int i_lease_owedPlaces])), (a_lease_owed, .inr (4, [.ref n_lease_owed])), (n_lease_owed, .inl (cI, 12, .inl f_lease_owed)), (a_lease_room, .inr (4, [.ref n_lease_room])), (n_lease_room, .inl (cI, 2, .inl f_lease_room))] rfl rfl (by decide) (fun H locs hP hS => ?_)
    have e9 : v_X3_takesOfOwed x1 i_part i_come i_number i_lease_owedPlaces f_lease_owed f_lease_room = (o_17_1, i_part, o_17_2, i_lease_owedPlaces, f_lease_owed, f_lease_room) := by
      refine (if_neg c_5).trans ?_
      refine (bnd_eq ho_14).trans ?_
      refine (bnd2_eq ho_17).trans ?_
      rfl
    rw [hQ]; exact retZ (v := fun o : Bool × Int32 × Int32 × Int32 × (Nat → Int32) × (Nat → Int32) => o.1) (o_17_1, i_part, o_17_2, i_lease_owedPlaces, f_lease_owed, f_lease_room) hx hb hr hlk e9 hP rfl hS dX3_takesOfOwed_20
def v_X3_takes (x1 : Int32) (i_part : Int32) (i_come : Int32) (i_number : Int32) (i_firstHour : Int32) (i_span : Int32) (i_value : Int32) (i_lease_squares : Int32) (i_lease_wishCount : Int32) (i_lease_owedPlaces : Int32) (f_lease_places : Nat → Int32) (f_lease_firstHours : Nat → Int32) (f_lease_spans : Nat → Int32) (f_lease_values : Nat → Int32) (f_lease_cells : Nat → Int32) (f_lease_needs : Nat → Int32) (f_lease_owed : Nat → Int32) (f_lease_room : Nat → Int32) : Bool × Int32 × Int32 × Int32 × Int32 × Int32 × Int32 × Int32 × Int32 × Int32 × (Nat → Int32) × (Nat → Int32) × (Nat → Int32) × (Nat → Int32) × (Nat → Int32) × (Nat → Int32) × (Nat → Int32) × (Nat → Int32) :=
  if i_part = 0 then (if x1 = 78 then (true, 1, i_come, i_number, i_firstHour, i_span, i_value, i_lease_owedPlaces, i_lease_squares, i_lease_wishCount, f_lease_cells, f_lease_needs, f_lease_owed, f_lease_room, f_lease_places, f_lease_firstHours, f_lease_spans, f_lease_values)
    else (false, 1, i_come, i_number, i_firstHour, i_span, i_value, i_lease_owedPlaces, i_lease_squares, i_lease_wishCount, f_lease_cells, f_lease_needs, f_lease_owed, f_lease_room, f_lease_places, f_lease_firstHours, f_lease_spans, f_lease_values))
  else (if i_part = 1 then (bnd2 (v_X3_takesFirst x1 i_part i_lease_squares i_lease_wishCount i_lease_owedPlaces) fun o_60_1 o_60_2 =>
    (o_60_1, o_60_2, 0, i_number, i_firstHour, i_span, i_value, i_lease_owedPlaces, i_lease_squares, i_lease_wishCount, f_lease_cells, f_lease_needs, f_lease_owed, f_lease_room, f_lease_places, f_lease_firstHours, f_lease_spans, f_lease_values))
  else (if i_part = 2 then (bnd4 (v_X3_takesOfSquare x1 i_part (i_come + 1) i_number i_lease_squares) fun o_76_1 o_76_2 o_76_3 o_76_4 =>
    (o_76_1, o_76_2, (i_come + 1), o_76_3, i_firstHour, i_span, i_value, i_lease_owedPlaces, o_76_4, i_lease_wishCount, f_lease_cells, f_lease_needs, f_lease_owed, f_lease_room, f_lease_places, f_lease_firstHours, f_lease_spans, f_lease_values))
  else (if i_part = 3 then (bnd13 (v_X3_takesOfWish x1 i_part (i_come + 1) i_number i_firstHour i_span i_value i_lease_wishCount f_lease_places f_lease_firstHours f_lease_spans f_lease_values f_lease_cells f_lease_needs) fun o_92_1 o_92_2 o_92_3 o_92_4 o_92_5 o_92_6 o_92_7 o_92_8 o_92_9 o_92_10 o_92_11 o_92_12 o_92_13 =>
    (o_92_1, o_92_2, (i_come + 1), o_92_3, o_92_4, o_92_5, o_92_6, i_lease_owedPlaces, i_lease_squares, o_92_7, o_92_8, o_92_9, f_lease_owed, f_lease_room, o_92_10, o_92_11, o_92_12, o_92_13))
  else (bnd6 (v_X3_takesOfOwed x1 i_part (i_come + 1) i_number i_lease_owedPlaces f_lease_owed f_lease_room) fun o_108_1 o_108_2 o_108_3 o_108_4 o_108_5 o_108_6 =>
  (o_108_1, o_108_2, (i_come + 1), o_108_3, i_firstHour, i_span, i_value, o_108_4, i_lease_squares, i_lease_wishCount, f_lease_cells, f_lease_needs, o_108_5, o_108_6, f_lease_places, f_lease_firstHours, f_lease_spans, f_lease_values)))))
abbrev rm_X3_takes : Room := { frames := 4, cells := 0, slots := 0, locals := 92 }
set_option maxHeartbeats 4000000 in
set_option maxRecDepth 100000 in
theorem k_X3_takes (l : Launch) (D : va_G) (cI cZ : ClassId) (a a_lease a_lease_places a_lease_firstHours a_lease_spans a_lease_values a_lease_cells a_lease_needs a_lease_owed a_lease_room n_lease_places n_lease_firstHours n_lease_spans n_lease_values n_lease_cells n_lease_needs n_lease_owed n_lease_room : Nat) (x1 : Int32) (i_part : Int32) (i_come : Int32) (i_number : Int32) (i_firstHour : Int32) (i_span : Int32) (i_value : Int32) (i_lease_squares : Int32) (i_lease_wishCount : Int32) (i_lease_owedPlaces : Int32) (f_lease_places : Nat → Int32) (f_lease_firstHours : Nat → Int32) (f_lease_spans : Nat → Int32) (f_lease_values : Nat → Int32) (f_lease_cells : Nat → Int32) (f_lease_needs : Nat → Int32) (f_lease_owed : Nat → Int32) (f_lease_room : Nat → Int32) : KI l D cI cZ yX3_takes wsX3_takes rm_X3_takes [.ref a, .int x1] [(a, .inr (3, [.ref a_lease, .int i_part, .int i_come, .int i_number, .int i_firstHour, .int i_span, .int i_value])), (a_lease, .inr (1, [.ref a_lease_places, .ref a_lease_firstHours, .ref a_lease_spans, .ref a_lease_values, .ref a_lease_cells, .ref a_lease_needs, .ref a_lease_owed, .ref a_lease_room, .int i_lease_squares, .int i_lease_wishCount, .int i_lease_owedPlaces])), (a_lease_places, .inr (4, [.ref n_lease_places])), (n_lease_places, .inl (cI, 5, .inl f_lease_places)), (a_lease_firstHours, .inr (4, [.ref n_lease_firstHours])), (n_lease_firstHours, .inl (cI, 5, .inl f_lease_firstHours)), (a_lease_spans, .inr (4, [.ref n_lease_spans])), (n_lease_spans, .inl (cI, 5, .inl f_lease_spans)), (a_lease_values, .inr (4, [.ref n_lease_values])), (n_lease_values, .inl (cI, 5, .inl f_lease_values)), (a_lease_cells, .inr (4, [.ref n_lease_cells])), (n_lease_cells, .inl (cI, 5, .inl f_lease_cells)), (a_lease_needs, .inr (4, [.ref n_lease_needs])), (n_lease_needs, .inl (cI, 5, .inl f_lease_needs)), (a_lease_owed, .inr (4, [.ref n_lease_owed])), (n_lease_owed, .inl (cI, 12, .inl f_lease_owed)), (a_lease_room, .inr (4, [.ref n_lease_room])), (n_lease_room, .inl (cI, 2, .inl f_lease_room))] (v_X3_takes x1 i_part i_come i_number i_firstHour i_span i_value i_lease_squares i_lease_wishCount i_lease_owedPlaces f_lease_places f_lease_firstHours f_lease_spans f_lease_values f_lease_cells f_lease_needs f_lease_owed f_lease_room) (fun o : Bool × Int32 × Int32 × Int32 × Int32 × Int32 × Int32 × Int32 × Int32 × Int32 × (Nat → Int32) × (Nat → Int32) × (Nat → Int32) × (Nat → Int32) × (Nat → Int32) × (Nat → Int32) × (Nat → Int32) × (Nat → Int32) => bI o.1) (fun o : Bool × Int32 × Int32 × Int32 × Int32 × Int32 × Int32 × Int32 × Int32 × Int32 × (Nat → Int32) × (Nat → Int32) × (Nat → Int32) × (Nat → Int32) × (Nat → Int32) × (Nat → Int32) × (Nat → Int32) × (Nat → Int32) => [(a, .inr (3, [.ref a_lease, .int o.2.1, .int o.2.2.1, .int o.2.2.2.1, .int o.2.2.2.2.1, .int o.2.2.2.2.2.1, .int o.2.2.2.2.2.2.1])), (a_lease, .inr (1, [.ref a_lease_places, .ref a_lease_firstHours, .ref a_lease_spans, .ref a_lease_values, .ref a_lease_cells, .ref a_lease_needs, .ref a_lease_owed, .ref a_lease_room, .int o.2.2.2.2.2.2.2.2.1, .int o.2.2.2.2.2.2.2.2.2.1, .int o.2.2.2.2.2.2.2.1])), (a_lease_places, .inr (4, [.ref n_lease_places])), (n_lease_places, .inl (cI, 5, .inl o.2.2.2.2.2.2.2.2.2.2.2.2.2.2.1)), (a_lease_firstHours, .inr (4, [.ref n_lease_firstHours])), (n_lease_firstHours, .inl (cI, 5, .inl o.2.2.2.2.2.2.2.2.2.2.2.2.2.2.2.1)), (a_lease_spans, .inr (4, [.ref n_lease_spans])), (n_lease_spans, .inl (cI, 5, .inl o.2.2.2.2.2.2.2.2.2.2.2.2.2.2.2.2.1)), (a_lease_values, .inr (4, [.ref n_lease_values])), (n_lease_values, .inl (cI, 5, .inl o.2.2.2.2.2.2.2.2.2.2.2.2.2.2.2.2.2)), (a_lease_cells, .inr (4, [.ref n_lease_cells])), (n_lease_cells, .inl (cI, 5, .inl o.2.2.2.2.2.2.2.2.2.2.1)), (a_lease_needs, .inr (4, [.ref n_lease_needs])), (n_lease_needs, .inl (cI, 5, .inl o.2.2.2.2.2.2.2.2.2.2.2.1)), (a_lease_owed, .inr (4, [.ref n_lease_owed])), (n_lease_owed, .inl (cI, 12, .inl o.2.2.2.2.2.2.2.2.2.2.2.2.1)), (a_lease_room, .inr (4, [.ref n_lease_room])), (n_lease_room, .inl (cI, 2, .inl o.2.2.2.2.2.2.2.2.2.2.2.2.2.1))]) := by
  refine KI.of cX3_takes 2 (some .boolean) (by decide) rfl (Nat.le_of_ble_eq_true rfl) ?_
  intro p e s m below meth c A ls ar Q hQ B
  obtain ⟨hx, hb, hr, hml, hts, hown, hlk, hK, hN, hP, hD, hA, hS, hl⟩ := B
  have hown : s.vm.findClass RX3 = some m.cls := hown
  have hF : CallFix p m c cX3_takes 2 s ar wsX3_takes RX3 := ⟨hx, hb, hml, hown, hts⟩
  have hl : lv_has ls 2 [(0, .ref a), (1, .int x1)] := hl
  refine lv_aload_n hx hb dX3_takes_0 rfl (lv_at hl 0 rfl) ?_
  refine va_get (D := D) (ci := 3) (v := .int i_part) (C := RX3) (T := TX3) (N := 7) hx hb hts (fun _ h => List.mem_cons_of_mem _ (List.mem_append_left _ (List.mem_append_left _ (List.mem_append_right _ (h))))) hown hK hP 0 rfl rfl 1 (by decide) (hts _ (List.mem_of_getElem? (i := 1) rfl)) (fun _ h9 => h9) rfl dX3_takes_1 ?_
  by_cases c_4_0 : i_part = 0
  · have hxI : (i_part).toInt = 0 := by rw [c_4_0]; rfl
    refine lv_tableIn (off := 32) (tgt := 36) hx hb dX3_takes_4 (by rw [hxI]; decide) (by rw [hxI]; decide) (by rw [hxI]; rfl) (by decide) ?_
    refine lv_aload_n hx hb dX3_takes_36 rfl (lv_at hl 0 rfl) ?_
    refine lv_iconst (v := 1) hx hb dX3_takes_37 rfl ?_
    refine va_put (D := D) (ci := 3) (v := .int 1) (ty := .int) (C := RX3) (T := TX3) (N := 7) hx hb hts (fun _ h => List.mem_cons_of_mem _ (List.mem_append_left _ (List.mem_append_left _ (List.mem_append_right _ (h))))) tyX3 tyX3_ok nmX3 hown hK hP (va_Dsame hD rfl) hS 0 rfl rfl 1 (by decide) (hts _ (List.mem_of_getElem? (i := 1) rfl)) (fun _ h9 => h9) rfl (tyX3_ok 1 (by decide)) rfl rfl (Nat.le_of_ble_eq_true rfl) dX3_takes_38 (fun H locs hP _ hS => ?_)
    have hP : va_P D vwCl [(a, .inr (3, [.ref a_lease, .int 1, .int i_come, .int i_number, .int i_firstHour, .int i_span, .int i_value])), (a_lease, .inr (1, [.ref a_lease_places, .ref a_lease_firstHours, .ref a_lease_spans, .ref a_lease_values, .ref a_lease_cells, .ref a_lease_needs, .ref a_lease_owed, .ref a_lease_room, .int i_lease_squares, .int i_lease_wishCount, .int i_lease_owedPlaces])), (a_lease_places, .inr (4, [.ref n_lease_places])), (n_lease_places, .inl (cI, 5, .inl f_lease_places)), (a_lease_firstHours, .inr (4, [.ref n_lease_firstHours])), (n_lease_firstHours, .inl (cI, 5, .inl f_lease_firstHours)), (a_lease_spans, .inr (4, [.ref n_lease_spans])), (n_lease_spans, .inl (cI, 5, .inl f_lease_spans)), (a_lease_values, .inr (4, [.ref n_lease_values])), (n_lease_values, .inl (cI, 5, .inl f_lease_values)), (a_lease_cells, .inr (4, [.ref n_lease_cells])), (n_lease_cells, .inl (cI, 5, .inl f_lease_cells)), (a_lease_needs, .inr (4, [.ref n_lease_needs])), (n_lease_needs, .inl (cI, 5, .inl f_lease_needs)), (a_lease_owed, .inr (4, [.ref n_lease_owed])), (n_lease_owed, .inl (cI, 12, .inl f_lease_owed)), (a_lease_room, .inr (4, [.ref n_lease_room])), (n_lease_room, .inl (cI, 2, .inl f_lease_room))] H := hP
    refine lv_iload_n hx hb dX3_takes_41 rfl (lv_at hl 1 rfl) ?_
    refine lv_bipush (v := 78) hx hb dX3_takes_42 rfl ?_
    refine lv_icmp_ne (tgt := 51) hx hb dX3_takes_44 (by decide) (fun c_44 => ?_) (fun c_44 => ?_)
    · refine lv_iconst (v := 0) hx hb dX3_takes_51 rfl ?_
      have e9 : v_X3_takes x1 i_part i_come i_number i_firstHour i_span i_value i_lease_squares i_lease_wishCount i_lease_owedPlaces f_lease_places f_lease_firstHours f_lease_spans f_lease_values f_lease_cells f_lease_needs f_lease_owed f_lease_room = (false, 1, i_come, i_number, i_firstHour, i_span, i_value, i_lease_owedPlaces, i_lease_squares, i_lease_wishCount, f_lease_cells, f_lease_needs, f_lease_owed, f_lease_room, f_lease_places, f_lease_firstHours, f_lease_spans, f_lease_values) := by
        refine (if_pos c_4_0).trans ?_
        refine (if_neg c_44).trans ?_
        rfl
      rw [hQ]; exact retZ (v := fun o : Bool × Int32 × Int32 × Int32 × Int32 × Int32 × Int32 × Int32 × Int32 × Int32 × (Nat → Int32) × (Nat → Int32) × (Nat → Int32) × (Nat → Int32) × (Nat → Int32) × (Nat → Int32) × (Nat → Int32) × (Nat → Int32) => o.1) (false, 1, i_come, i_number, i_firstHour, i_span, i_value, i_lease_owedPlaces, i_lease_squares, i_lease_wishCount, f_lease_cells, f_lease_needs, f_lease_owed, f_lease_room, f_lease_places, f_lease_firstHours, f_lease_spans, f_lease_values) hx hb hr hlk e9 hP rfl hS dX3_takes_52
    · refine lv_iconst (v := 1) hx hb dX3_takes_47 rfl ?_
      refine lv_goto (tgt := 52) hx hb dX3_takes_48 (by decide) ?_
      have e9 : v_X3_takes x1 i_part i_come i_number i_firstHour i_span i_value i_lease_squares i_lease_wishCount i_lease_owedPlaces f_lease_places f_lease_firstHours f_lease_spans f_lease_values f_lease_cells f_lease_needs f_lease_owed f_lease_room = (true, 1, i_come, i_number, i_firstHour, i_span, i_value, i_lease_owedPlaces, i_lease_squares, i_lease_wishCount, f_lease_cells, f_lease_needs, f_lease_owed, f_lease_room, f_lease_places, f_lease_firstHours, f_lease_spans, f_lease_values) := by
        refine (if_pos c_4_0).trans ?_
        refine (if_pos c_44).trans ?_
        rfl
      rw [hQ]; exact retZ (v := fun o : Bool × Int32 × Int32 × Int32 × Int32 × Int32 × Int32 × Int32 × Int32 × Int32 × (Nat → Int32) × (Nat → Int32) × (Nat → Int32) × (Nat → Int32) × (Nat → Int32) × (Nat → Int32) × (Nat → Int32) × (Nat → Int32) => o.1) (true, 1, i_come, i_number, i_firstHour, i_span, i_value, i_lease_owedPlaces, i_lease_squares, i_lease_wishCount, f_lease_cells, f_lease_needs, f_lease_owed, f_lease_room, f_lease_places, f_lease_firstHours, f_lease_spans, f_lease_values) hx hb hr hlk e9 hP rfl hS dX3_takes_52
  by_cases c_4_1 : i_part = 1
  · have hxI : (i_part).toInt = 1 := by rw [c_4_1]; rfl
    refine lv_tableIn (off := 49) (tgt := 53) hx hb dX3_takes_4 (by rw [hxI]; decide) (by rw [hxI]; decide) (by rw [hxI]; rfl) (by decide) ?_
    refine lv_aload_n hx hb dX3_takes_53 rfl (lv_at hl 0 rfl) ?_
    refine lv_iconst (v := 0) hx hb dX3_takes_54 rfl ?_
    refine va_put (D := D) (ci := 3) (v := .int 0) (ty := .int) (C := RX3) (T := TX3) (N := 7) hx hb hts (fun _ h => List.mem_cons_of_mem _ (List.mem_append_left _ (List.mem_append_left _ (List.mem_append_right _ (h))))) tyX3 tyX3_ok nmX3 hown hK hP (va_Dsame hD rfl) hS 0 rfl rfl 2 (by decide) (hts _ (List.mem_of_getElem? (i := 2) rfl)) (fun _ h9 => h9) rfl (tyX3_ok 2 (by decide)) rfl rfl (Nat.le_of_ble_eq_true rfl) dX3_takes_55 (fun H locs hP _ hS => ?_)
    have hP : va_P D vwCl [(a, .inr (3, [.ref a_lease, .int i_part, .int 0, .int i_number, .int i_firstHour, .int i_span, .int i_value])), (a_lease, .inr (1, [.ref a_lease_places, .ref a_lease_firstHours, .ref a_lease_spans, .ref a_lease_values, .ref a_lease_cells, .ref a_lease_needs, .ref a_lease_owed, .ref a_lease_room, .int i_lease_squares, .int i_lease_wishCount, .int i_lease_owedPlaces])), (a_lease_places, .inr (4, [.ref n_lease_places])), (n_lease_places, .inl (cI, 5, .inl f_lease_places)), (a_lease_firstHours, .inr (4, [.ref n_lease_firstHours])), (n_lease_firstHours, .inl (cI, 5, .inl f_lease_firstHours)), (a_lease_spans, .inr (4, [.ref n_lease_spans])), (n_lease_spans, .inl (cI, 5, .inl f_lease_spans)), (a_lease_values, .inr (4, [.ref n_lease_values])), (n_lease_values, .inl (cI, 5, .inl f_lease_values)), (a_lease_cells, .inr (4, [.ref n_lease_cells])), (n_lease_cells, .inl (cI, 5, .inl f_lease_cells)), (a_lease_needs, .inr (4, [.ref n_lease_needs])), (n_lease_needs, .inl (cI, 5, .inl f_lease_needs)), (a_lease_owed, .inr (4, [.ref n_lease_owed])), (n_lease_owed, .inl (cI, 12, .inl f_lease_owed)), (a_lease_room, .inr (4, [.ref n_lease_room])), (n_lease_room, .inl (cI, 2, .inl f_lease_room))] H := hP
    refine lv_aload_n hx hb dX3_takes_58 rfl (lv_at hl 0 rfl) ?_
    refine lv_iload_n hx hb dX3_takes_59 rfl (lv_at hl 1 rfl) ?_
    obtain ⟨o_60_1, o_60_2, ho_60⟩ := ex2 (v_X3_takesFirst x1 i_part i_lease_squares i_lease_wishCount i_lease_owedPlaces)
    refine callVI (As := [.int x1]) (rest := []) (o_60_1, o_60_2) ho_60 hF (k_X3_takesFirst l D cI cZ a a_lease a_lease_places a_lease_firstHours a_lease_spans a_lease_values a_lease_cells a_lease_needs a_lease_owed a_lease_room x1 i_part 0 i_number i_firstHour i_span i_value i_lease_squares i_lease_wishCount i_lease_owedPlaces) (cwV 1 hts gX3_takes_X3_takesFirst rfl rfl rfl (by decide +kernel) ⟨Nat.le_of_ble_eq_true rfl, Nat.le_of_ble_eq_true rfl⟩) hK hN hP (va_Dsame hD rfl) hS hA [0, 1] rfl rfl 0 3 (T := TX3) (N := 7) rfl rfl rfl hl.1 rfl (Nat.le_of_ble_eq_true rfl) dX3_takes_60 ⟨Nat.zero_le _, Nat.zero_le _⟩ (bI o_60_1) rfl [some 0, some 1, none, none, none, none, none, none, none, none, none, none, none, none, none, none, none, none] 2 [(a, .inr (3, [.ref a_lease, .int o_60_2, .int 0, .int i_number, .int i_firstHour, .int i_span, .int i_value])), (a_lease, .inr (1, [.ref a_lease_places, .ref a_lease_firstHours, .ref a_lease_spans, .ref a_lease_values, .ref a_lease_cells, .ref a_lease_needs, .ref a_lease_owed, .ref a_lease_room, .int i_lease_squares, .int i_lease_wishCount, .int i_lease_owedPlaces])), (a_lease_places, .inr (4, [.ref n_lease_places])), (n_lease_places, .inl (cI, 5, .inl f_lease_places)), (a_lease_firstHours, .inr (4, [.ref n_lease_firstHours])), (n_lease_firstHours, .inl (cI, 5, .inl f_lease_firstHours)), (a_lease_spans, .inr (4, [.ref n_lease_spans])), (n_lease_spans, .inl (cI, 5, .inl f_lease_spans)), (a_lease_values, .inr (4, [.ref n_lease_values])), (n_lease_values, .inl (cI, 5, .inl f_lease_values)), (a_lease_cells, .inr (4, [.ref n_lease_cells])), (n_lease_cells, .inl (cI, 5, .inl f_lease_cells)), (a_lease_needs, .inr (4, [.ref n_lease_needs])), (n_lease_needs, .inl (cI, 5, .inl f_lease_needs)), (a_lease_owed, .inr (4, [.ref n_lease_owed])), (n_lease_owed, .inl (cI, 12, .inl f_lease_owed)), (a_lease_room, .inr (4, [.ref n_lease_room])), (n_lease_room, .inl (cI, 2, .inl f_lease_room))] rfl rfl (by decide) (fun H locs hP hS => ?_)
    have e9 : v_X3_takes x1 i_part i_come i_number i_firstHour i_span i_value i_lease_squares i_lease_wishCount i_lease_owedPlaces f_lease_places f_lease_firstHours f_lease_spans f_lease_values f_lease_cells f_lease_needs f_lease_owed f_lease_room = (o_60_1, o_60_2, 0, i_number, i_firstHour, i_span, i_value, i_lease_owedPlaces, i_lease_squares, i_lease_wishCount, f_lease_cells, f_lease_needs, f_lease_owed, f_lease_room, f_lease_places, f_lease_firstHours, f_lease_spans, f_lease_values) := by
      refine (if_neg c_4_0).trans ?_
      refine (if_pos c_4_1).trans ?_
      refine (bnd2_eq ho_60).trans ?_
      rfl
    rw [hQ]; exact retZ (v := fun o : Bool × Int32 × Int32 × Int32 × Int32 × Int32 × Int32 × Int32 × Int32 × Int32 × (Nat → Int32) × (Nat → Int32) × (Nat → Int32) × (Nat → Int32) × (Nat → Int32) × (Nat → Int32) × (Nat → Int32) × (Nat → Int32) => o.1) (o_60_1, o_60_2, 0, i_number, i_firstHour, i_span, i_value, i_lease_owedPlaces, i_lease_squares, i_lease_wishCount, f_lease_cells, f_lease_needs, f_lease_owed, f_lease_room, f_lease_places, f_lease_firstHours, f_lease_spans, f_lease_values) hx hb hr hlk e9 hP rfl hS dX3_takes_63
  by_cases c_4_2 : i_part = 2
  · have hxI : (i_part).toInt = 2 := by rw [c_4_2]; rfl
    refine lv_tableIn (off := 60) (tgt := 64) hx hb dX3_takes_4 (by rw [hxI]; decide) (by rw [hxI]; decide) (by rw [hxI]; rfl) (by decide) ?_
    refine lv_aload_n hx hb dX3_takes_64 rfl (lv_at hl 0 rfl) ?_
    refine lv_dup hx hb dX3_takes_65 rfl ?_
    refine va_get (D := D) (ci := 3) (v := .int i_come) (C := RX3) (T := TX3) (N := 7) hx hb hts (fun _ h => List.mem_cons_of_mem _ (List.mem_append_left _ (List.mem_append_left _ (List.mem_append_right _ (h))))) hown hK hP 0 rfl rfl 2 (by decide) (hts _ (List.mem_of_getElem? (i := 2) rfl)) (fun _ h9 => h9) rfl dX3_takes_66 ?_
    refine lv_iconst (v := 1) hx hb dX3_takes_69 rfl ?_
    refine lv_iadd hx hb dX3_takes_70 ?_
    refine va_put (D := D) (ci := 3) (v := .int (i_come + 1)) (ty := .int) (C := RX3) (T := TX3) (N := 7) hx hb hts (fun _ h => List.mem_cons_of_mem _ (List.mem_append_left _ (List.mem_append_left _ (List.mem_append_right _ (h))))) tyX3 tyX3_ok nmX3 hown hK hP (va_Dsame hD rfl) hS 0 rfl rfl 2 (by decide) (hts _ (List.mem_of_getElem? (i := 2) rfl)) (fun _ h9 => h9) rfl (tyX3_ok 2 (by decide)) rfl rfl (Nat.le_of_ble_eq_true rfl) dX3_takes_71 (fun H locs hP _ hS => ?_)
    have hP : va_P D vwCl [(a, .inr (3, [.ref a_lease, .int i_part, .int (i_come + 1), .int i_number, .int i_firstHour, .int i_span, .int i_value])), (a_lease, .inr (1, [.ref a_lease_places, .ref a_lease_firstHours, .ref a_lease_spans, .ref a_lease_values, .ref a_lease_cells, .ref a_lease_needs, .ref a_lease_owed, .ref a_lease_room, .int i_lease_squares, .int i_lease_wishCount, .int i_lease_owedPlaces])), (a_lease_places, .inr (4, [.ref n_lease_places])), (n_lease_places, .inl (cI, 5, .inl f_lease_places)), (a_lease_firstHours, .inr (4, [.ref n_lease_firstHours])), (n_lease_firstHours, .inl (cI, 5, .inl f_lease_firstHours)), (a_lease_spans, .inr (4, [.ref n_lease_spans])), (n_lease_spans, .inl (cI, 5, .inl f_lease_spans)), (a_lease_values, .inr (4, [.ref n_lease_values])), (n_lease_values, .inl (cI, 5, .inl f_lease_values)), (a_lease_cells, .inr (4, [.ref n_lease_cells])), (n_lease_cells, .inl (cI, 5, .inl f_lease_cells)), (a_lease_needs, .inr (4, [.ref n_lease_needs])), (n_lease_needs, .inl (cI, 5, .inl f_lease_needs)), (a_lease_owed, .inr (4, [.ref n_lease_owed])), (n_lease_owed, .inl (cI, 12, .inl f_lease_owed)), (a_lease_room, .inr (4, [.ref n_lease_room])), (n_lease_room, .inl (cI, 2, .inl f_lease_room))] H := hP
    refine lv_aload_n hx hb dX3_takes_74 rfl (lv_at hl 0 rfl) ?_
    refine lv_iload_n hx hb dX3_takes_75 rfl (lv_at hl 1 rfl) ?_
    obtain ⟨o_76_1, o_76_2, o_76_3, o_76_4, ho_76⟩ := ex4 (v_X3_takesOfSquare x1 i_part (i_come + 1) i_number i_lease_squares)
    refine callVI (As := [.int x1]) (rest := []) (o_76_1, o_76_2, o_76_3, o_76_4) ho_76 hF (k_X3_takesOfSquare l D cI cZ a a_lease a_lease_places a_lease_firstHours a_lease_spans a_lease_values a_lease_cells a_lease_needs a_lease_owed a_lease_room x1 i_part (i_come + 1) i_number i_firstHour i_span i_value i_lease_squares i_lease_wishCount i_lease_owedPlaces) (cwV 1 hts gX3_takes_X3_takesOfSquare rfl rfl rfl (by decide +kernel) ⟨Nat.le_of_ble_eq_true rfl, Nat.le_of_ble_eq_true rfl⟩) hK hN hP (va_Dsame hD rfl) hS hA [0, 1] rfl rfl 0 3 (T := TX3) (N := 7) rfl rfl rfl hl.1 rfl (Nat.le_of_ble_eq_true rfl) dX3_takes_76 ⟨Nat.zero_le _, Nat.zero_le _⟩ (bI o_76_1) rfl [some 0, some 1, none, none, none, none, none, none, none, none, none, none, none, none, none, none, none, none] 2 [(a, .inr (3, [.ref a_lease, .int o_76_2, .int (i_come + 1), .int o_76_3, .int i_firstHour, .int i_span, .int i_value])), (a_lease, .inr (1, [.ref a_lease_places, .ref a_lease_firstHours, .ref a_lease_spans, .ref a_lease_values, .ref a_lease_cells, .ref a_lease_needs, .ref a_lease_owed, .ref a_lease_room, .int o_76_4, .int i_lease_wishCount, .int i_lease_owedPlaces])), (a_lease_places, .inr (4, [.ref n_lease_places])), (n_lease_places, .inl (cI, 5, .inl f_lease_places)), (a_lease_firstHours, .inr (4, [.ref n_lease_firstHours])), (n_lease_firstHours, .inl (cI, 5, .inl f_lease_firstHours)), (a_lease_spans, .inr (4, [.ref n_lease_spans])), (n_lease_spans, .inl (cI, 5, .inl f_lease_spans)), (a_lease_values, .inr (4, [.ref n_lease_values])), (n_lease_values, .inl (cI, 5, .inl f_lease_values)), (a_lease_cells, .inr (4, [.ref n_lease_cells])), (n_lease_cells, .inl (cI, 5, .inl f_lease_cells)), (a_lease_needs, .inr (4, [.ref n_lease_needs])), (n_lease_needs, .inl (cI, 5, .inl f_lease_needs)), (a_lease_owed, .inr (4, [.ref n_lease_owed])), (n_lease_owed, .inl (cI, 12, .inl f_lease_owed)), (a_lease_room, .inr (4, [.ref n_lease_room])), (n_lease_room, .inl (cI, 2, .inl f_lease_room))] rfl rfl (by decide) (fun H locs hP hS => ?_)
    have e9 : v_X3_takes x1 i_part i_come i_number i_firstHour i_span i_value i_lease_squares i_lease_wishCount i_lease_owedPlaces f_lease_places f_lease_firstHours f_lease_spans f_lease_values f_lease_cells f_lease_needs f_lease_owed f_lease_room = (o_76_1, o_76_2, (i_come + 1), o_76_3, i_firstHour, i_span, i_value, i_lease_owedPlaces, o_76_4, i_lease_wishCount, f_lease_cells, f_lease_needs, f_lease_owed, f_lease_room, f_lease_places, f_lease_firstHours, f_lease_spans, f_lease_values) := by
      refine (if_neg c_4_0).trans ?_
      refine (if_neg c_4_1).trans ?_
      refine (if_pos c_4_2).trans ?_
      refine (bnd4_eq ho_76).trans ?_
      rfl
    rw [hQ]; exact retZ (v := fun o : Bool × Int32 × Int32 × Int32 × Int32 × Int32 × Int32 × Int32 × Int32 × Int32 × (Nat → Int32) × (Nat → Int32) × (Nat → Int32) × (Nat → Int32) × (Nat → Int32) × (Nat → Int32) × (Nat → Int32) × (Nat → Int32) => o.1) (o_76_1, o_76_2, (i_come + 1), o_76_3, i_firstHour, i_span, i_value, i_lease_owedPlaces, o_76_4, i_lease_wishCount, f_lease_cells, f_lease_needs, f_lease_owed, f_lease_room, f_lease_places, f_lease_firstHours, f_lease_spans, f_lease_values) hx hb hr hlk e9 hP rfl hS dX3_takes_79
  by_cases c_4_3 : i_part = 3
  · have hxI : (i_part).toInt = 3 := by rw [c_4_3]; rfl
    refine lv_tableIn (off := 76) (tgt := 80) hx hb dX3_takes_4 (by rw [hxI]; decide) (by rw [hxI]; decide) (by rw [hxI]; rfl) (by decide) ?_
    refine lv_aload_n hx hb dX3_takes_80 rfl (lv_at hl 0 rfl) ?_
    refine lv_dup hx hb dX3_takes_81 rfl ?_
    refine va_get (D := D) (ci := 3) (v := .int i_come) (C := RX3) (T := TX3) (N := 7) hx hb hts (fun _ h => List.mem_cons_of_mem _ (List.mem_append_left _ (List.mem_append_left _ (List.mem_append_right _ (h))))) hown hK hP 0 rfl rfl 2 (by decide) (hts _ (List.mem_of_getElem? (i := 2) rfl)) (fun _ h9 => h9) rfl dX3_takes_82 ?_
    refine lv_iconst (v := 1) hx hb dX3_takes_85 rfl ?_
    refine lv_iadd hx hb dX3_takes_86 ?_
    refine va_put (D := D) (ci := 3) (v := .int (i_come + 1)) (ty := .int) (C := RX3) (T := TX3) (N := 7) hx hb hts (fun _ h => List.mem_cons_of_mem _ (List.mem_append_left _ (List.mem_append_left _ (List.mem_append_right _ (h))))) tyX3 tyX3_ok nmX3 hown hK hP (va_Dsame hD rfl) hS 0 rfl rfl 2 (by decide) (hts _ (List.mem_of_getElem? (i := 2) rfl)) (fun _ h9 => h9) rfl (tyX3_ok 2 (by decide)) rfl rfl (Nat.le_of_ble_eq_true rfl) dX3_takes_87 (fun H locs hP _ hS => ?_)
    have hP : va_P D vwCl [(a, .inr (3, [.ref a_lease, .int i_part, .int (i_come + 1), .int i_number, .int i_firstHour, .int i_span, .int i_value])), (a_lease, .inr (1, [.ref a_lease_places, .ref a_lease_firstHours, .ref a_lease_spans, .ref a_lease_values, .ref a_lease_cells, .ref a_lease_needs, .ref a_lease_owed, .ref a_lease_room, .int i_lease_squares, .int i_lease_wishCount, .int i_lease_owedPlaces])), (a_lease_places, .inr (4, [.ref n_lease_places])), (n_lease_places, .inl (cI, 5, .inl f_lease_places)), (a_lease_firstHours, .inr (4, [.ref n_lease_firstHours])), (n_lease_firstHours, .inl (cI, 5, .inl f_lease_firstHours)), (a_lease_spans, .inr (4, [.ref n_lease_spans])), (n_lease_spans, .inl (cI, 5, .inl f_lease_spans)), (a_lease_values, .inr (4, [.ref n_lease_values])), (n_lease_values, .inl (cI, 5, .inl f_lease_values)), (a_lease_cells, .inr (4, [.ref n_lease_cells])), (n_lease_cells, .inl (cI, 5, .inl f_lease_cells)), (a_lease_needs, .inr (4, [.ref n_lease_needs])), (n_lease_needs, .inl (cI, 5, .inl f_lease_needs)), (a_lease_owed, .inr (4, [.ref n_lease_owed])), (n_lease_owed, .inl (cI, 12, .inl f_lease_owed)), (a_lease_room, .inr (4, [.ref n_lease_room])), (n_lease_room, .inl (cI, 2, .inl f_lease_room))] H := hP
    refine lv_aload_n hx hb dX3_takes_90 rfl (lv_at hl 0 rfl) ?_
    refine lv_iload_n hx hb dX3_takes_91 rfl (lv_at hl 1 rfl) ?_
    obtain ⟨o_92_1, o_92_2, o_92_3, o_92_4, o_92_5, o_92_6, o_92_7, o_92_8, o_92_9, o_92_10, o_92_11, o_92_12, o_92_13, ho_92⟩ := ex13 (v_X3_takesOfWish x1 i_part (i_come + 1) i_number i_firstHour i_span i_value i_lease_wishCount f_lease_places f_lease_firstHours f_lease_spans f_lease_values f_lease_cells f_lease_needs)
    refine callVI (As := [.int x1]) (rest := []) (o_92_1, o_92_2, o_92_3, o_92_4, o_92_5, o_92_6, o_92_7, o_92_8, o_92_9, o_92_10, o_92_11, o_92_12, o_92_13) ho_92 hF (k_X3_takesOfWish l D cI cZ a a_lease a_lease_places a_lease_firstHours a_lease_spans a_lease_values a_lease_cells a_lease_needs a_lease_owed a_lease_room n_lease_places n_lease_firstHours n_lease_spans n_lease_values n_lease_cells n_lease_needs x1 i_part (i_come + 1) i_number i_firstHour i_span i_value i_lease_squares i_lease_wishCount i_lease_owedPlaces f_lease_places f_lease_firstHours f_lease_spans f_lease_values f_lease_cells f_lease_needs) (cwV 1 hts gX3_takes_X3_takesOfWish rfl rfl rfl (by decide +kernel) ⟨Nat.le_of_ble_eq_true rfl, Nat.le_of_ble_eq_true rfl⟩) hK hN hP (va_Dsame hD rfl) hS hA [0, 1, 2, 3, 4, 5, 6, 7, 8, 9, 10, 11, 12, 13] rfl rfl 0 3 (T := TX3) (N := 7) rfl rfl rfl hl.1 rfl (Nat.le_of_ble_eq_true rfl) dX3_takes_92 ⟨Nat.zero_le _, Nat.zero_le _⟩ (bI o_92_1) rfl [some 0, some 1, some 2, some 3, some 4, some 5, some 6, some 7, some 8, some 9, some 10, some 11, some 12, some 13, none, none, none, none] 14 [(a, .inr (3, [.ref a_lease, .int o_92_2, .int (i_come + 1), .int o_92_3, .int o_92_4, .int o_92_5, .int o_92_6])), (a_lease, .inr (1, [.ref a_lease_places, .ref a_lease_firstHours, .ref a_lease_spans, .ref a_lease_values, .ref a_lease_cells, .ref a_lease_needs, .ref a_lease_owed, .ref a_lease_room, .int i_lease_squares, .int o_92_7, .int i_lease_owedPlaces])), (a_lease_places, .inr (4, [.ref n_lease_places])), (n_lease_places, .inl (cI, 5, .inl o_92_10)), (a_lease_firstHours, .inr (4, [.ref n_lease_firstHours])), (n_lease_firstHours, .inl (cI, 5, .inl o_92_11)), (a_lease_spans, .inr (4, [.ref n_lease_spans])), (n_lease_spans, .inl (cI, 5, .inl o_92_12)), (a_lease_values, .inr (4, [.ref n_lease_values])), (n_lease_values, .inl (cI, 5, .inl o_92_13)), (a_lease_cells, .inr (4, [.ref n_lease_cells])), (n_lease_cells, .inl (cI, 5, .inl o_92_8)), (a_lease_needs, .inr (4, [.ref n_lease_needs])), (n_lease_needs, .inl (cI, 5, .inl o_92_9)), (a_lease_owed, .inr (4, [.ref n_lease_owed])), (n_lease_owed, .inl (cI, 12, .inl f_lease_owed)), (a_lease_room, .inr (4, [.ref n_lease_room])), (n_lease_room, .inl (cI, 2, .inl f_lease_room))] rfl rfl (by decide) (fun H locs hP hS => ?_)
    have e9 : v_X3_takes x1 i_part i_come i_number i_firstHour i_span i_value i_lease_squares i_lease_wishCount i_lease_owedPlaces f_lease_places f_lease_firstHours f_lease_spans f_lease_values f_lease_cells f_lease_needs f_lease_owed f_lease_room = (o_92_1, o_92_2, (i_come + 1), o_92_3, o_92_4, o_92_5, o_92_6, i_lease_owedPlaces, i_lease_squares, o_92_7, o_92_8, o_92_9, f_lease_owed, f_lease_room, o_92_10, o_92_11, o_92_12, o_92_13) := by
      refine (if_neg c_4_0).trans ?_
      refine (if_neg c_4_1).trans ?_
      refine (if_neg c_4_2).trans ?_
      refine (if_pos c_4_3).trans ?_
      refine (bnd13_eq ho_92).trans ?_
      rfl
    rw [hQ]; exact retZ (v := fun o : Bool × Int32 × Int32 × Int32 × Int32 × Int32 × Int32 × Int32 × Int32 × Int32 × (Nat → Int32) × (Nat → Int32) × (Nat → Int32) × (Nat → Int32) × (Nat → Int32) × (Nat → Int32) × (Nat → Int32) × (Nat → Int32) => o.1) (o_92_1, o_92_2, (i_come + 1), o_92_3, o_92_4, o_92_5, o_92_6, i_lease_owedPlaces, i_lease_squares, o_92_7, o_92_8, o_92_9, f_lease_owed, f_lease_room, o_92_10, o_92_11, o_92_12, o_92_13) hx hb hr hlk e9 hP rfl hS dX3_takes_95
  have nc_4_0 := lv_neT c_4_0 (show (0 : Int32).toInt = 0 from rfl)
  have nc_4_1 := lv_neT c_4_1 (show (1 : Int32).toInt = 1 from rfl)
  have nc_4_2 := lv_neT c_4_2 (show (2 : Int32).toInt = 2 from rfl)
  have nc_4_3 := lv_neT c_4_3 (show (3 : Int32).toInt = 3 from rfl)
  refine lv_tableOut (tgt := 96) hx hb dX3_takes_4 (by omega) (by decide) ?_
  refine lv_aload_n hx hb dX3_takes_96 rfl (lv_at hl 0 rfl) ?_
  refine lv_dup hx hb dX3_takes_97 rfl ?_
  refine va_get (D := D) (ci := 3) (v := .int i_come) (C := RX3) (T := TX3) (N := 7) hx hb hts (fun _ h => List.mem_cons_of_mem _ (List.mem_append_left _ (List.mem_append_left _ (List.mem_append_right _ (h))))) hown hK hP 0 rfl rfl 2 (by decide) (hts _ (List.mem_of_getElem? (i := 2) rfl)) (fun _ h9 => h9) rfl dX3_takes_98 ?_
  refine lv_iconst (v := 1) hx hb dX3_takes_101 rfl ?_
  refine lv_iadd hx hb dX3_takes_102 ?_
  refine va_put (D := D) (ci := 3) (v := .int (i_come + 1)) (ty := .int) (C := RX3) (T := TX3) (N := 7) hx hb hts (fun _ h => List.mem_cons_of_mem _ (List.mem_append_left _ (List.mem_append_left _ (List.mem_append_right _ (h))))) tyX3 tyX3_ok nmX3 hown hK hP (va_Dsame hD rfl) hS 0 rfl rfl 2 (by decide) (hts _ (List.mem_of_getElem? (i := 2) rfl)) (fun _ h9 => h9) rfl (tyX3_ok 2 (by decide)) rfl rfl (Nat.le_of_ble_eq_true rfl) dX3_takes_103 (fun H locs hP _ hS => ?_)
  have hP : va_P D vwCl [(a, .inr (3, [.ref a_lease, .int i_part, .int (i_come + 1), .int i_number, .int i_firstHour, .int i_span, .int i_value])), (a_lease, .inr (1, [.ref a_lease_places, .ref a_lease_firstHours, .ref a_lease_spans, .ref a_lease_values, .ref a_lease_cells, .ref a_lease_needs, .ref a_lease_owed, .ref a_lease_room, .int i_lease_squares, .int i_lease_wishCount, .int i_lease_owedPlaces])), (a_lease_places, .inr (4, [.ref n_lease_places])), (n_lease_places, .inl (cI, 5, .inl f_lease_places)), (a_lease_firstHours, .inr (4, [.ref n_lease_firstHours])), (n_lease_firstHours, .inl (cI, 5, .inl f_lease_firstHours)), (a_lease_spans, .inr (4, [.ref n_lease_spans])), (n_lease_spans, .inl (cI, 5, .inl f_lease_spans)), (a_lease_values, .inr (4, [.ref n_lease_values])), (n_lease_values, .inl (cI, 5, .inl f_lease_values)), (a_lease_cells, .inr (4, [.ref n_lease_cells])), (n_lease_cells, .inl (cI, 5, .inl f_lease_cells)), (a_lease_needs, .inr (4, [.ref n_lease_needs])), (n_lease_needs, .inl (cI, 5, .inl f_lease_needs)), (a_lease_owed, .inr (4, [.ref n_lease_owed])), (n_lease_owed, .inl (cI, 12, .inl f_lease_owed)), (a_lease_room, .inr (4, [.ref n_lease_room])), (n_lease_room, .inl (cI, 2, .inl f_lease_room))] H := hP
  refine lv_aload_n hx hb dX3_takes_106 rfl (lv_at hl 0 rfl) ?_
  refine lv_iload_n hx hb dX3_takes_107 rfl (lv_at hl 1 rfl) ?_
  obtain ⟨o_108_1, o_108_2, o_108_3, o_108_4, o_108_5, o_108_6, ho_108⟩ := ex6 (v_X3_takesOfOwed x1 i_part (i_come + 1) i_number i_lease_owedPlaces f_lease_owed f_lease_room)
  refine callVI (As := [.int x1]) (rest := []) (o_108_1, o_108_2, o_108_3, o_108_4, o_108_5, o_108_6) ho_108 hF (k_X3_takesOfOwed l D cI cZ a a_lease a_lease_places a_lease_firstHours a_lease_spans a_lease_values a_lease_cells a_lease_needs a_lease_owed a_lease_room n_lease_owed n_lease_room x1 i_part (i_come + 1) i_number i_firstHour i_span i_value i_lease_squares i_lease_wishCount i_lease_owedPlaces f_lease_owed f_lease_room) (cwV 1 hts gX3_takes_X3_takesOfOwed rfl rfl rfl (by decide +kernel) ⟨Nat.le_of_ble_eq_true rfl, Nat.le_of_ble_eq_true rfl⟩) hK hN hP (va_Dsame hD rfl) hS hA [0, 1, 14, 15, 16, 17] rfl rfl 0 3 (T := TX3) (N := 7) rfl rfl rfl hl.1 rfl (Nat.le_of_ble_eq_true rfl) dX3_takes_108 ⟨Nat.zero_le _, Nat.zero_le _⟩ (bI o_108_1) rfl [some 0, some 1, none, none, none, none, none, none, none, none, none, none, none, none, some 2, some 3, some 4, some 5] 6 [(a, .inr (3, [.ref a_lease, .int o_108_2, .int (i_come + 1), .int o_108_3, .int i_firstHour, .int i_span, .int i_value])), (a_lease, .inr (1, [.ref a_lease_places, .ref a_lease_firstHours, .ref a_lease_spans, .ref a_lease_values, .ref a_lease_cells, .ref a_lease_needs, .ref a_lease_owed, .ref a_lease_room, .int i_lease_squares, .int i_lease_wishCount, .int o_108_4])), (a_lease_places, .inr (4, [.ref n_lease_places])), (n_lease_places, .inl (cI, 5, .inl f_lease_places)), (a_lease_firstHours, .inr (4, [.ref n_lease_firstHours])), (n_lease_firstHours, .inl (cI, 5, .inl f_lease_firstHours)), (a_lease_spans, .inr (4, [.ref n_lease_spans])), (n_lease_spans, .inl (cI, 5, .inl f_lease_spans)), (a_lease_values, .inr (4, [.ref n_lease_values])), (n_lease_values, .inl (cI, 5, .inl f_lease_values)), (a_lease_cells, .inr (4, [.ref n_lease_cells])), (n_lease_cells, .inl (cI, 5, .inl f_lease_cells)), (a_lease_needs, .inr (4, [.ref n_lease_needs])), (n_lease_needs, .inl (cI, 5, .inl f_lease_needs)), (a_lease_owed, .inr (4, [.ref n_lease_owed])), (n_lease_owed, .inl (cI, 12, .inl o_108_5)), (a_lease_room, .inr (4, [.ref n_lease_room])), (n_lease_room, .inl (cI, 2, .inl o_108_6))] rfl rfl (by decide) (fun H locs hP hS => ?_)
  have e9 : v_X3_takes x1 i_part i_come i_number i_firstHour i_span i_value i_lease_squares i_lease_wishCount i_lease_owedPlaces f_lease_places f_lease_firstHours f_lease_spans f_lease_values f_lease_cells f_lease_needs f_lease_owed f_lease_room = (o_108_1, o_108_2, (i_come + 1), o_108_3, i_firstHour, i_span, i_value, o_108_4, i_lease_squares, i_lease_wishCount, f_lease_cells, f_lease_needs, o_108_5, o_108_6, f_lease_places, f_lease_firstHours, f_lease_spans, f_lease_values) := by
    refine (if_neg c_4_0).trans ?_
    refine (if_neg c_4_1).trans ?_
    refine (if_neg c_4_2).trans ?_
    refine (if_neg c_4_3).trans ?_
    refine (bnd6_eq ho_108).trans ?_
    rfl
  rw [hQ]; exact retZ (v := fun o : Bool × Int32 × Int32 × Int32 × Int32 × Int32 × Int32 × Int32 × Int32 × Int32 × (Nat → Int32) × (Nat → Int32) × (Nat → Int32) × (Nat → Int32) × (Nat → Int32) × (Nat → Int32) × (Nat → Int32) × (Nat → Int32) => o.1) (o_108_1, o_108_2, (i_come + 1), o_108_3, i_firstHour, i_span, i_value, o_108_4, i_lease_squares, i_lease_wishCount, f_lease_cells, f_lease_needs, o_108_5, o_108_6, f_lease_places, f_lease_firstHours, f_lease_spans, f_lease_values) hx hb hr hlk e9 hP rfl hS dX3_takes_111
