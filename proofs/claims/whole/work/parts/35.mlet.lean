/-! own words, pure: a text's parts, net and model side by side -/
def LQ (sq wc op : Int32) (ow ro pl fhs sps vas ce ne : Nat → Int32) (H many owes : Int32) (rO rW : Nat → Int32) : Prop := sq = H ∧ sm sq ∧ cnt sq ≤ 5 ∧ (∃ k : Nat, k ≤ 5 ∧ wc = nI k ∧ many = nI k ∧ ∀ w, w < k → RW pl fhs sps vas ce ne rW w) ∧ RD op ow ro rO ∧ owes = nI (cnt op) ∧ cnt op ≤ 4
theorem rngN (v : Int32) (lo hi : Nat) (h31 : hi < 2 ^ 31) (hlo : lo ≤ hi) : (∃ d, lo ≤ d ∧ d ≤ hi ∧ v = nI d) ∨ (v < nI lo) ∨ (¬ v < nI lo ∧ nI hi < v) := by
  by_cases a : v < nI lo
  · exact Or.inr (Or.inl a)
  · by_cases b : nI hi < v
    · exact Or.inr (Or.inr ⟨a, b⟩)
    · refine Or.inl ?_
      rw [Int32.lt_iff_toInt_lt, nI_toInt (by omega)] at a b
      have h0 : ¬ v < 0 := by
        rw [Int32.lt_iff_toInt_lt, show (0 : Int32).toInt = 0 from rfl]
        omega
      obtain ⟨j, hj, rfl⟩ := nI_of h0
      rw [nI_toInt hj] at a b
      exact ⟨j, by omega, by omega, rfl⟩
section Trans
variable {sq wc op H many owes : Int32} {ow ro pl fhs sps vas ce ne rO rW : Nat → Int32}
theorem LQ_H (h : LQ sq wc op ow ro pl fhs sps vas ce ne H many owes rO rW) {c : Nat} (hc : c < 12) (hb0 : hb sq c = false) (h5 : cnt sq < 5) : LQ (sq ||| ((1 : Int32) <<< (nI c &&& 31))) wc op ow ro pl fhs sps vas ce ne (H ||| ((1 : Int32) <<< (nI c &&& 31))) many owes rO rW := by
  obtain ⟨rfl, h1, h2, h3⟩ := h
  exact ⟨rfl, sm_or h1 (sm_sh hc), by rw [cnt_set hc hb0]; omega, h3⟩
def W5 (rW : Nat → Int32) (k P A B C : Nat) (d : Int32) : Nat → Int32 := upd (upd (upd (upd (upd rW (5 * k) (nI P)) (5 * k + 1) (nI A)) (5 * k + 2) (nI B)) (5 * k + 3) (nI C)) (5 * k + 4) d
theorem W5_un {k P A B C j : Nat} {d : Int32} (h : j < 5 * k) : W5 rW k P A B C d j = rW j := by
  unfold W5
  rw [pk_un (by omega), pk_un (by omega), pk_un (by omega), pk_un (by omega), pk_un (by omega)]
theorem LQ_W {k P A B C : Nat} (d : Bool) (h : LQ sq (nI k) op ow ro pl fhs sps vas ce ne H (nI k) owes rO rW) (hk : k < 5) (hP : P < 12) (hA : A < 6) (hB1 : 1 ≤ B) (hB : B ≤ 6) (hC1 : 1 ≤ C) (hC : C ≤ 9) : LQ sq (nI (k + 1)) op ow ro (upd pl k (nI P)) (upd fhs k (nI A)) (upd sps k (nI B)) (upd vas k (nI C)) (upd ce k (cl P A B)) (upd ne k (if d = true then cl P A B else 0)) H (nI (k + 1)) owes rO (W5 rW k P A B C (bI d)) := by
  obtain ⟨e, h1, h2, ⟨k', hk', w1, w2, h3⟩, h4⟩ := h
  rw [nI_eq (by omega) (by omega)] at w1
  subst w1
  refine ⟨e, h1, h2, ⟨k + 1, by omega, rfl, rfl, fun w hw => ?_⟩, h4⟩
  by_cases q : w = k
  · subst q
    refine ⟨P, A, B, C, d, hP, hA, hB1, hB, hC1, hC, pk_us, pk_us, pk_us, pk_us, pk_us, pk_us, ?_, ?_, ?_, ?_, pk_us⟩
    · unfold W5
      rw [pk_un (by omega), pk_un (by omega), pk_un (by omega), pk_un (by omega), pk_us]
    · unfold W5
      rw [pk_un (by omega), pk_un (by omega), pk_un (by omega), pk_us]
    · unfold W5
      rw [pk_un (by omega), pk_un (by omega), pk_us]
    · unfold W5
      rw [pk_un (by omega), pk_us]
  · have := h3 w (by omega)
    unfold RW at this ⊢
    rw [pk_un q, pk_un q, pk_un q, pk_un q, pk_un q, pk_un q, W5_un (by omega), W5_un (by omega), W5_un (by omega), W5_un (by omega), W5_un (by omega)]
    exact this
theorem LQ_O {P n : Nat} (h : LQ sq wc op ow ro pl fhs sps vas ce ne H many owes rO rW) (hP : P < 12) (hb0 : hb op P = false) (hn1 : 1 ≤ n) (hn : n ≤ 6) (h4 : cnt op < 4) : LQ sq wc (op ||| ((1 : Int32) <<< (nI P &&& 31))) (upd ow P (nI n)) (upd ro (P / 6) (if (6 - nI n) < ro (P / 6) then (6 - nI n) else ro (P / 6))) pl fhs sps vas ce ne H many (owes + 1) (upd rO P (nI n)) rW := by
  obtain ⟨e, h1, h2, h3, ⟨d1, d2, d3⟩, eo, h5⟩ := h
  have ec := cnt_set hP hb0
  refine ⟨e, h1, h2, h3, ⟨sm_or d1 (sm_sh hP), fun p hp => ?_, fun r hr => ?_⟩, by rw [eo, nI_1, ec], by omega⟩
  · obtain ⟨a, m, hm, em, eb⟩ := d2 p hp
    have eh : hb (op ||| ((1 : Int32) <<< (nI P &&& 31))) p = (hb op p || decide (p = P)) := by
      rw [hb_or, hb_sh P (by omega) p (by omega)]
    rw [eh]
    by_cases q : p = P
    · subst q
      rw [pk_us, pk_us, decide_eq_true rfl, Bool.or_true]
      exact ⟨rfl, n, hn, rfl, (decide_eq_true (by omega)).symm⟩
    · rw [pk_un q, pk_un q, decide_eq_false q, Bool.or_false]
      exact ⟨a, m, hm, em, eb⟩
  · obtain ⟨m, hm, em, ha, hw⟩ := d3 r hr
    have e0 : rO P = nI 0 := by
      obtain ⟨_, m', hm', em', eb'⟩ := d2 P hP
      rw [hb0] at eb'
      have : m' = 0 := by
        by_cases q : m' = 0
        · exact q
        · rw [decide_eq_true q] at eb'; cases eb'
      rw [em', this]
    by_cases q : r = P / 6
    · subst q
      rw [pk_us, em, show (6 : Int32) = nI 6 from rfl, pk_sub hn]
      by_cases l : 6 - n < m
      · rw [if_pos (nI_lt l (by omega))]
        refine ⟨6 - n, by omega, rfl, fun p hp hpr x hx ex => ?_, Or.inr ⟨P, hP, rfl, by rw [pk_us, show 6 - (6 - n) = n by omega]⟩⟩
        by_cases w : p = P
        · subst w
          rw [pk_us, nI_eq (by omega) (by omega)] at ex
          omega
        · rw [pk_un w] at ex
          have := ha p hp hpr x hx ex
          omega
      · rw [if_neg (nI_nlt (by omega) (by omega))]
        refine ⟨m, hm, rfl, fun p hp hpr x hx ex => ?_, ?_⟩
        · by_cases w : p = P
          · subst w
            rw [pk_us, nI_eq (by omega) (by omega)] at ex
            omega
          · rw [pk_un w] at ex
            exact ha p hp hpr x hx ex
        · rcases hw with w | ⟨p, hp, hpr, ep⟩
          · omega
          · refine Or.inr ⟨p, hp, hpr, ?_⟩
            by_cases w : p = P
            · subst w
              rw [e0, nI_eq (by omega) (by omega)] at ep
              omega
            · rw [pk_un w]; exact ep
    · rw [pk_un q]
      refine ⟨m, hm, em, fun p hp hpr x hx ex => ?_, ?_⟩
      · rw [pk_un (show ¬ p = P from fun w => q (by rw [← hpr, w]))] at ex
        exact ha p hp hpr x hx ex
      · rcases hw with w | ⟨p, hp, hpr, ep⟩
        · exact Or.inl w
        · refine Or.inr ⟨p, hp, hpr, ?_⟩
          rw [pk_un (show ¬ p = P from fun w => q (by rw [← hpr, w]))]
          exact ep
end Trans
section Phase
variable {len : Nat} {f : Nat → Int32} {co nu fh sp va sq wc op H many owes : Int32} {ow ro pl fhs sps vas ce ne rO rW : Nat → Int32}
theorem Fails_eq {r i r' i' p : Nat} {T T' : TT} (e : itx (LT len f) r i T = itx (LT len f) r' i' T') : Fails len f r i T p ↔ Fails len f r' i' T' p := by
  unfold Fails
  rw [e]
theorem first_H (hs : sm sq) (h5 : cnt sq < 5) : v_X3_takesFirst 72 1 sq wc op = (true, 2) := by
  unfold v_X3_takesFirst
  rw [if_pos rfl, bnd_eq rfl, bnd_eq (show nI (cnt sq) = v_J6_bitCount_0f7a4 (v_X1_squares sq) from (sm_bc hs).symm), if_neg (show ¬ 5 ≤ nI (cnt sq) from nI_ge (b := 5) h5 (by decide))]
theorem first_W {k : Nat} (h5 : k < 5) : v_X3_takesFirst 87 1 sq (nI k) op = (true, 3) := by
  unfold v_X3_takesFirst
  rw [if_neg (by decide), if_neg (by decide), if_pos rfl, bnd_eq (show nI k = v_X1_wishCount (nI k) from rfl), if_neg (show ¬ 5 ≤ nI k from nI_ge (b := 5) h5 (by decide))]
theorem first_O (hs : sm op) (h4 : cnt op < 4) : v_X3_takesFirst 79 1 sq wc op = (true, 4) := by
  unfold v_X3_takesFirst
  rw [if_neg (by decide), if_pos rfl, bnd_eq (show nI (cnt op) = v_X1_owedCount op from by unfold v_X1_owedCount; rw [bnd_eq rfl, sm_bc hs]), if_neg (show ¬ 4 ≤ nI (cnt op) from nI_ge (b := 4) h4 (by decide))]
theorem first_no {x : Int32} {k : Nat} (hs : sm sq) (ho : sm op) (hk : k ≤ 5) (h1 : ¬ (x = 72 ∧ cnt sq < 5)) (h2 : ¬ (x = 87 ∧ k < 5)) (h3 : ¬ (x = 79 ∧ cnt op < 4)) : ∃ p, v_X3_takesFirst x 1 sq (nI k) op = (false, p) := by
  have c1 := cnt_le sq
  have c2 := cnt_le op
  unfold v_X3_takesFirst
  rw [bnd_eq rfl, bnd_eq (show nI (cnt sq) = v_J6_bitCount_0f7a4 (v_X1_squares sq) from (sm_bc hs).symm), bnd_eq (show nI (cnt op) = v_X1_owedCount op from by unfold v_X1_owedCount; rw [bnd_eq rfl, sm_bc ho]), bnd_eq (show nI k = v_X1_wishCount (nI k) from rfl)]
  by_cases q : x = 72
  · have g1 : 5 ≤ cnt sq := Nat.le_of_not_lt (fun w => h1 ⟨q, w⟩)
    rw [if_pos q, if_pos (show 5 ≤ nI (cnt sq) from nI_le (a := 5) (by omega) (by omega))]
    exact ⟨2, rfl⟩
  · rw [if_neg q]
    by_cases q : x = 79
    · have g1 : 4 ≤ cnt op := Nat.le_of_not_lt (fun w => h3 ⟨q, w⟩)
      rw [if_pos q, if_pos (show 4 ≤ nI (cnt op) from nI_le (a := 4) (by omega) (by omega))]
      exact ⟨4, rfl⟩
    · rw [if_neg q]
      by_cases q : x = 87
      · have g1 : 5 ≤ k := Nat.le_of_not_lt (fun w => h2 ⟨q, w⟩)
        rw [if_pos q, if_pos (show 5 ≤ nI k from nI_le (a := 5) (by omega) (by omega))]
        exact ⟨3, rfl⟩
      · rw [if_neg q]
        exact ⟨1, rfl⟩
theorem z1 : (0 : Int32) + 1 = 1 := by decide
theorem z2 : (1 : Int32) + 1 = 2 := by decide
theorem z3 : (2 : Int32) + 1 = 3 := by decide
theorem z4 : (3 : Int32) + 1 = 4 := by decide
theorem z5 : (4 : Int32) + 1 = 5 := by decide
theorem z6 : (5 : Int32) + 1 = 6 := by decide
theorem ph_H {i r : Nat} (hl : len ≤ 72) (hr : i + r = len) (hi : i < len) (hx : f i = 72) (hs : sm sq) (h5 : cnt sq < 5) : (∃ c r' : Nat, c < 12 ∧ hb sq c = false ∧ v_X8_two (4095 &&& (sq ^^^ (-1))) (nI len) (nI (i + 1)) (-9) f = (nI c, nI (i + 3), -9) ∧ i + 3 + r' = len ∧ r = r' + 3 ∧ itx (LT len f) r i (1, co, nu, fh, sp, va, sq, wc, op, ow, ro, pl, fhs, sps, vas, ce, ne) = itx (LT len f) r' (i + 3) (1, 2, nI c, fh, sp, va, sq ||| ((1 : Int32) <<< (nI c &&& 31)), wc, op, ow, ro, pl, fhs, sps, vas, ce, ne)) ∨ (∃ (p : Nat) (r1 : Int32), p ≤ len ∧ v_X8_two (4095 &&& (sq ^^^ (-1))) (nI len) (nI (i + 1)) (-9) f = (r1, nI p, nI p) ∧ Fails len f r i (1, co, nu, fh, sp, va, sq, wc, op, ow, ro, pl, fhs, sps, vas, ce, ne) p) := by
  have st : LT len f i (1, co, nu, fh, sp, va, sq, wc, op, ow, ro, pl, fhs, sps, vas, ce, ne) = .inl (2, 0, nu, fh, sp, va, sq, wc, op, ow, ro, pl, fhs, sps, vas, ce, ne) := LT_t (by omega) (by rw [hx]; exact tk1 (first_H hs h5))
  have key := two_sim (len := len) (f := f) (i := i + 1) (r := r - 1) (T0 := (2, 0, nu, fh, sp, va, sq, wc, op, ow, ro, pl, fhs, sps, vas, ce, ne)) (T1 := fun t => (2, 1, nI (10 * t), fh, sp, va, sq, wc, op, ow, ro, pl, fhs, sps, vas, ce, ne)) (T2 := fun t v => (1, 2, nI (10 * t + v), fh, sp, va, sq ||| ((1 : Int32) <<< (nI (10 * t + v) &&& 31)), wc, op, ow, ro, pl, fhs, sps, vas, ce, ne)) (AL_not sq) hl (by omega) (show ¬ (2 : Int32) = 1 by decide) (fun t => show ¬ (2 : Int32) = 1 by decide)
    (fun t hi1 e hF => LT_t (by omega) (by rw [tk2 (co := 0) (a := true) (b := nI (10 * t)) (by rw [z1]; exact tn1_ok e hF), ifT, z1, if_neg (by decide)]))
    (fun hi1 hno => LT_n (by omega) (by
      obtain ⟨n', hn'⟩ := tn1_no (nu := nu) hno
      exact ⟨_, _, _, _, _, _, _, _, _, _, _, _, _, _, _, _, _, by rw [tk2 (co := 0) (a := false) (b := n') (by rw [z1]; exact hn'), ifF]⟩))
    (fun t v hi1 ht hv e h1 h2 => LT_t (by omega) (by rw [tk2 (co := 1) (a := true) (b := nI (10 * t + v)) (by rw [z2]; exact tn2_ok (by decide) ht hv e h1 h2), ifT, z2, if_pos rfl]))
    (fun t hi1 ht hno => LT_n (by omega) (by
      obtain ⟨n', hn'⟩ := tn2_no (co := 2) (by decide) ht hno
      exact ⟨_, _, _, _, _, _, _, _, _, _, _, _, _, _, _, _, _, by rw [tk2 (co := 1) (a := false) (b := n') (by rw [z2]; exact hn'), ifF]⟩))
  rcases key with ⟨t, v, r', h1, h2, h3, h4, h6, h7⟩ | ⟨p, r1, h1, h2, h3⟩
  · refine Or.inl ⟨10 * t + v, r', h1, h2, h3, by omega, by omega, ?_⟩
    rw [show r = (r - 1) + 1 by omega, itx_go st]
    exact h7
  · refine Or.inr ⟨p, r1, h1, h2, ?_⟩
    rw [show r = (r - 1) + 1 by omega]
    exact fails_step st h3
theorem m126 : ∀ d, d < 10 → (hb 126 d = true ↔ 1 ≤ d ∧ d ≤ 6) := by decide +kernel
theorem m63 : ∀ d, d < 10 → (hb 63 d = true ↔ 0 ≤ d ∧ d ≤ 5) := by decide +kernel
theorem m1022 : ∀ d, d < 10 → (hb 1022 d = true ↔ 1 ≤ d ∧ d ≤ 9) := by decide +kernel
theorem ph_O {i r : Nat} {al : Int32} (hA : AL op al) (hl : len ≤ 72) (hr : i + r = len) (hi : i < len) (hx : f i = 79) (hs : sm op) (h4 : cnt op < 4) : (∃ c n r' : Nat, c < 12 ∧ hb op c = false ∧ 1 ≤ n ∧ n ≤ 6 ∧ v_X8_two al (nI len) (nI (i + 1)) (-9) f = (nI c, nI (i + 3), -9) ∧ v_X8_figure 126 (nI len) (nI (i + 3)) (-9) f = (nI n, nI (i + 4), -9) ∧ i + 4 + r' = len ∧ r = r' + 4 ∧ itx (LT len f) r i (1, co, nu, fh, sp, va, sq, wc, op, ow, ro, pl, fhs, sps, vas, ce, ne) = itx (LT len f) r' (i + 4) (1, 3, nI c, fh, sp, va, sq, wc, op ||| ((1 : Int32) <<< (nI c &&& 31)), upd ow c (nI n), upd ro (c / 6) (if (6 - nI n) < ro (c / 6) then (6 - nI n) else ro (c / 6)), pl, fhs, sps, vas, ce, ne)) ∨ (∃ p : Nat, p ≤ len ∧ (∃ r1 a1 f1 r2 b1 : Int32, v_X8_two al (nI len) (nI (i + 1)) (-9) f = (r1, a1, f1) ∧ v_X8_figure 126 (nI len) a1 f1 f = (r2, b1, nI p)) ∧ Fails len f r i (1, co, nu, fh, sp, va, sq, wc, op, ow, ro, pl, fhs, sps, vas, ce, ne) p) := by
  have st : LT len f i (1, co, nu, fh, sp, va, sq, wc, op, ow, ro, pl, fhs, sps, vas, ce, ne) = .inl (4, 0, nu, fh, sp, va, sq, wc, op, ow, ro, pl, fhs, sps, vas, ce, ne) := LT_t (by omega) (by rw [hx]; exact tk1 (first_O hs h4))
  have key := two_sim (len := len) (f := f) (i := i + 1) (r := r - 1) (T0 := (4, 0, nu, fh, sp, va, sq, wc, op, ow, ro, pl, fhs, sps, vas, ce, ne)) (T1 := fun t => (4, 1, nI (10 * t), fh, sp, va, sq, wc, op, ow, ro, pl, fhs, sps, vas, ce, ne)) (T2 := fun t v => (4, 2, nI (10 * t + v), fh, sp, va, sq, wc, op, ow, ro, pl, fhs, sps, vas, ce, ne)) hA hl (by omega) (show ¬ (4 : Int32) = 1 by decide) (fun t => show ¬ (4 : Int32) = 1 by decide)
    (fun t hi1 e hF => LT_t (by omega) (by rw [tk4_12 (co := 0) (a := true) (b := nI (10 * t)) (Or.inl z1) (by rw [z1]; exact tn1_ok e hF), z1]))
    (fun hi1 hno => LT_n (by omega) (by
      obtain ⟨n', hn'⟩ := tn1_no (nu := nu) hno
      exact ⟨_, _, _, _, _, _, _, _, _, _, _, _, _, _, _, _, _, by rw [tk4_12 (co := 0) (a := false) (b := n') (Or.inl z1) (by rw [z1]; exact hn')]⟩))
    (fun t v hi1 ht hv e h1 h2 => LT_t (by omega) (by rw [tk4_12 (co := 1) (a := true) (b := nI (10 * t + v)) (Or.inr z2) (by rw [z2]; exact tn2_ok (by decide) ht hv e h1 h2), z2]))
    (fun t hi1 ht hno => LT_n (by omega) (by
      obtain ⟨n', hn'⟩ := tn2_no (co := 2) (by decide) ht hno
      exact ⟨_, _, _, _, _, _, _, _, _, _, _, _, _, _, _, _, _, by rw [tk4_12 (co := 1) (a := false) (b := n') (Or.inr z2) (by rw [z2]; exact hn')]⟩))
  rcases key with ⟨t, v, r', h1, h2, h3, h6, h8, h7⟩ | ⟨p, r1, h1, h2, h3⟩
  · generalize 10 * t + v = c at h1 h2 h3 h7
    have h7 : itx (LT len f) (r - 1) (i + 1) (4, 0, nu, fh, sp, va, sq, wc, op, ow, ro, pl, fhs, sps, vas, ce, ne) = itx (LT len f) r' (i + 1 + 2) (4, 2, nI c, fh, sp, va, sq, wc, op, ow, ro, pl, fhs, sps, vas, ce, ne) := h7
    have e7 : itx (LT len f) r i (1, co, nu, fh, sp, va, sq, wc, op, ow, ro, pl, fhs, sps, vas, ce, ne) = itx (LT len f) r' (i + 3) (4, 2, nI c, fh, sp, va, sq, wc, op, ow, ro, pl, fhs, sps, vas, ce, ne) := by
      rw [show r = (r - 1) + 1 by omega, itx_go st]
      exact h7
    have k2 := fig_sim (len := len) (f := f) (i := i + 3) (r := r') (lo := 1) (hi9 := 6) (m := 126) (T0 := (4, 2, nI c, fh, sp, va, sq, wc, op, ow, ro, pl, fhs, sps, vas, ce, ne)) (T1 := fun n => (1, 3, nI c, fh, sp, va, sq, wc, op ||| ((1 : Int32) <<< (nI c &&& 31)), upd ow c (nI n), upd ro (c / 6) (if (6 - nI n) < ro (c / 6) then (6 - nI n) else ro (c / 6)), pl, fhs, sps, vas, ce, ne)) (fun d hd => m126 d (by omega)) (by decide) hl (by omega) (show ¬ (4 : Int32) = 1 by decide)
      (fun d hi1 d1 d2 e => LT_t (by omega) (by rw [tk4_3 h1, e, if_neg (show ¬ nI d < 1 from nI_nlt (b := 1) d1 (by omega)), if_pos (show nI d ≤ 6 from nI_le (b := 6) d2 (by decide)), bnd3_eq (own_f h1 d1 d2).symm]))
      (fun hi1 hno => LT_n (by omega) (by
        rcases rngN (f (i + 3) - 48) 1 6 (by decide) (by decide) with q | q | ⟨q1, q2⟩
        · obtain ⟨d, d1, d2, d3⟩ := q
          exact absurd ⟨d, d1, d2, d3⟩ hno
        · exact ⟨_, _, _, _, _, _, _, _, _, _, _, _, _, _, _, _, _, by rw [tk4_3 h1, if_pos (show f (i + 3) - 48 < 1 from q)]⟩
        · have q3 : ¬ f (i + 3) - 48 ≤ 6 := by
            rw [Int32.le_iff_toInt_le]
            have q2 : (6 : Int32) < f (i + 3) - 48 := q2
            rw [Int32.lt_iff_toInt_lt] at q2
            omega
          exact ⟨_, _, _, _, _, _, _, _, _, _, _, _, _, _, _, _, _, by rw [tk4_3 h1, if_neg (show ¬ f (i + 3) - 48 < 1 from q1), if_neg q3]⟩))
    rcases k2 with ⟨n, r2, d1, d2, d3, d4, d5, d6⟩ | ⟨p, d1, d2, d3⟩
    · refine Or.inl ⟨c, n, r2, h1, h2, d1, d2, h3, d3, by omega, by omega, ?_⟩
      rw [e7]; exact d6
    · refine Or.inr ⟨p, d1, ⟨nI c, nI (i + 3), -9, 0, nI p, h3, d2⟩, ?_⟩
      exact (Fails_eq e7).mpr d3
  · refine Or.inr ⟨p, h1, ⟨r1, nI p, nI p, 0, nI p, h2, fig_dead (by omega)⟩, ?_⟩
    rw [show r = (r - 1) + 1 by omega]
    exact fails_step st h3
end Phase
