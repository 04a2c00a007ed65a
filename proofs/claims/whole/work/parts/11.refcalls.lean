/-! the reference: its calls -/
def slM (N cap : Nat) (bl : Bool) (f : Nat → Nat) (mm j k : Nat) : Nat → Nat := fun i => if cap < psum (fun j => f (N * mm + j)) N - f (N * mm + j) + k then f i else if bl then f i else if i = N * mm + j then k else f i
theorem slM_no {N cap : Nat} {bl : Bool} {f : Nat → Nat} {mm j k : Nat} (h : cap < psum (fun j => f (N * mm + j)) N - f (N * mm + j) + k ∨ bl = true) (i : Nat) : slM N cap bl f mm j k i = f i := by
  unfold slM
  rcases h with h | h
  · rw [if_pos h]
  · rw [h]; split <;> rfl
theorem slM_ok {N cap : Nat} {bl : Bool} {f : Nat → Nat} {mm j k : Nat} (h : ¬ cap < psum (fun j => f (N * mm + j)) N - f (N * mm + j) + k) (h2 : bl = false) (i : Nat) : slM N cap bl f mm j k i = if i = N * mm + j then k else f i := by
  unfold slM
  rw [if_neg h, h2, if_neg (by decide)]
theorem ge_gtI {a : Nat} (ha : a < 2 ^ 30) {x : Int32} (h : nI (a + 1) ≤ x) : nI a < x := by
  rw [Int32.le_iff_toInt_le, nI_toInt (by omega)] at h
  rw [Int32.lt_iff_toInt_lt, nI_toInt (by omega)]
  omega
theorem ceil_eq {x d : Nat} (hd : 0 < d) : (x + d - 1) / d = if x / d * d < x then x / d + 1 else x / d := by
  have h := Nat.div_add_mod x d
  have hr := Nat.mod_lt x hd
  rw [Nat.mul_comm] at h
  generalize x / d = q at h ⊢
  generalize x % d = r at h hr
  by_cases hz : r = 0
  · rw [if_neg (by omega)]
    exact (dm_uniq (n := x + d - 1) (B := d) (q := q) (r := d - 1) (by rw [Nat.mul_comm]; omega) (by omega)).1
  · rw [if_pos (by omega)]
    have e : (q + 1) * d = q * d + d := by rw [Nat.add_mul, Nat.one_mul]
    exact (dm_uniq (n := x + d - 1) (B := d) (q := q + 1) (r := r - 1) (by rw [Nat.mul_comm]; omega) (by omega)).1
theorem vd_range (it w dr t : Nat) : vd it w dr t = 1 ∨ vd it w dr t = 2 ∨ vd it w dr t = 3 := by
  unfold vd
  split
  · exact Or.inl rfl
  · split
    · exact Or.inr (Or.inr rfl)
    · exact Or.inr (Or.inl rfl)
theorem in_X4_isMailing_X4 : ∀ w ∈ wsX40, w ∈ wsX4_isMailing := by decide +kernel
theorem fl_X4_isMailing_51 : Cond.fieldLink RX4 51 "BulkSamplesModel" "mailings" "I" ∈ wsX4_isMailing := by decide +kernel
set_option maxHeartbeats 4000000 in
set_option maxRecDepth 100000 in
/-- isMailing: no -/
theorem d_is_no (l : Launch) (D : va_G) (cI cL cM : ClassId) (sz : Nat) (h0 yI yD yN yW yP yG yR yS yA yL yT tz cnt te tr : Nat) (x : Int32) (hno : x ≤ 0 ∨ nI cnt < x) : Met l yX4_isMailing wsX4_isMailing ({ frames := 0, cells := 0, slots := 0, locals := 0 } : Room) (va_Pc [.ref h0, .int x] (PreB D (gT cI cL cM) sz [(h0, .inr (4, [.int (nI (tz)), .int (nI (cnt)), .ref yI, .ref yD, .ref yN, .ref yW, .int (nI (te)), .int (nI (tr)), .ref yP, .ref yG, .ref yR, .ref yS, .ref yA, .ref yL, .ref yT]))])) (va_Qi (fun r _ => r = nI 0) (fun (_ : Unit) => PostB D (gT cI cL cM) (va_A [(h0, .inr (4, [.int (nI (tz)), .int (nI (cnt)), .ref yI, .ref yD, .ref yN, .ref yW, .int (nI (te)), .int (nI (tr)), .ref yP, .ref yG, .ref yR, .ref yS, .ref yA, .ref yL, .ref yT]))] sz) [(h0, .inr (4, [.int (nI (tz)), .int (nI (cnt)), .ref yI, .ref yD, .ref yN, .ref yW, .int (nI (te)), .int (nI (tr)), .ref yP, .ref yG, .ref yR, .ref yS, .ref yA, .ref yL, .ref yT]))]) (va_A [(h0, .inr (4, [.int (nI (tz)), .int (nI (cnt)), .ref yI, .ref yD, .ref yN, .ref yW, .int (nI (te)), .int (nI (tr)), .ref yP, .ref yG, .ref yR, .ref yS, .ref yA, .ref yL, .ref yT]))] sz)) 0 0 (va_A [(h0, .inr (4, [.int (nI (tz)), .int (nI (cnt)), .ref yI, .ref yD, .ref yN, .ref yW, .int (nI (te)), .int (nI (tr)), .ref yP, .ref yG, .ref yR, .ref yS, .ref yA, .ref yL, .ref yT]))] sz) := by
  refine k_start (fun A => (va_Qi (fun r _ => r = nI 0) (fun (_ : Unit) => PostB D (gT cI cL cM) A [(h0, .inr (4, [.int (nI (tz)), .int (nI (cnt)), .ref yI, .ref yD, .ref yN, .ref yW, .int (nI (te)), .int (nI (tr)), .ref yP, .ref yG, .ref yR, .ref yS, .ref yA, .ref yL, .ref yT]))]) A)) (cc := cX4_isMailing) (maxL := 2) (ret := (some .boolean)) (by decide) rfl (Nat.le_of_ble_eq_true rfl) ?_
  intro p e s m below meth c A ls hx hb hr hts hown hlocks hin hml hP hK hD hA hS hl
  have hl : lv_has ls 2 [(0, .ref h0), (1, .int x)] := hl
  have hown : s.vm.findClass RX4 = some m.cls := hown
  refine lv_iload_n hx hb dX4_isMailing_0 rfl (lv_at hl 1 rfl) ?_
  refine lv_if_le (tgt := 16) hx hb dX4_isMailing_1 (by decide) (fun c_1 => ?_) (fun c_1 => ?_)
  · refine lv_iconst (v := nI (0)) hx hb dX4_isMailing_16 (by decide) ?_
    exact k_zret (v := nI (0)) hx hb hr rfl hlocks hP hD hK hS [0] () rfl (by decide) rfl dX4_isMailing_17
  · have h9 : nI cnt < x := hno.resolve_left c_1
    refine lv_iload_n hx hb dX4_isMailing_4 rfl (lv_at hl 1 rfl) ?_
    refine lv_aload_n hx hb dX4_isMailing_5 rfl (lv_at hl 0 rfl) ?_
    refine va_get (D := D) (cl := vwCl) (ci := 4) (v := .int (nI (cnt))) (C := RX4) (T := TX4) (N := 15) hx hb hts in_X4_isMailing_X4 hown hK hP 0 rfl rfl 1 (by decide) (hts (.fieldLink RX4 51 "BulkSamplesModel" "mailings" "I") fl_X4_isMailing_51) (fun _ h9 => h9) rfl dX4_isMailing_6 ?_
    refine lv_icmp_gt (tgt := 16) hx hb dX4_isMailing_9 (by decide) (fun c_2 => ?_) (fun c => absurd h9 c)
    refine lv_iconst (v := nI (0)) hx hb dX4_isMailing_16 (by decide) ?_
    exact k_zret (v := nI (0)) hx hb hr rfl hlocks hP hD hK hS [0] () rfl (by decide) rfl dX4_isMailing_17
set_option maxHeartbeats 4000000 in
set_option maxRecDepth 100000 in
/-- isMailing: yes -/
theorem d_is_yes (l : Launch) (D : va_G) (cI cL cM : ClassId) (sz : Nat) (h0 yI yD yN yW yP yG yR yS yA yL yT tz cnt te tr : Nat) (mm : Nat) (h1m : 1 ≤ mm) (hmm : mm ≤ cnt) (hc : cnt ≤ 20) : Met l yX4_isMailing wsX4_isMailing ({ frames := 0, cells := 0, slots := 0, locals := 0 } : Room) (va_Pc [.ref h0, .int (nI (mm))] (PreB D (gT cI cL cM) sz [(h0, .inr (4, [.int (nI (tz)), .int (nI (cnt)), .ref yI, .ref yD, .ref yN, .ref yW, .int (nI (te)), .int (nI (tr)), .ref yP, .ref yG, .ref yR, .ref yS, .ref yA, .ref yL, .ref yT]))])) (va_Qi (fun r _ => r = nI 1) (fun (_ : Unit) => PostB D (gT cI cL cM) (va_A [(h0, .inr (4, [.int (nI (tz)), .int (nI (cnt)), .ref yI, .ref yD, .ref yN, .ref yW, .int (nI (te)), .int (nI (tr)), .ref yP, .ref yG, .ref yR, .ref yS, .ref yA, .ref yL, .ref yT]))] sz) [(h0, .inr (4, [.int (nI (tz)), .int (nI (cnt)), .ref yI, .ref yD, .ref yN, .ref yW, .int (nI (te)), .int (nI (tr)), .ref yP, .ref yG, .ref yR, .ref yS, .ref yA, .ref yL, .ref yT]))]) (va_A [(h0, .inr (4, [.int (nI (tz)), .int (nI (cnt)), .ref yI, .ref yD, .ref yN, .ref yW, .int (nI (te)), .int (nI (tr)), .ref yP, .ref yG, .ref yR, .ref yS, .ref yA, .ref yL, .ref yT]))] sz)) 0 0 (va_A [(h0, .inr (4, [.int (nI (tz)), .int (nI (cnt)), .ref yI, .ref yD, .ref yN, .ref yW, .int (nI (te)), .int (nI (tr)), .ref yP, .ref yG, .ref yR, .ref yS, .ref yA, .ref yL, .ref yT]))] sz) := by
  refine k_start (fun A => (va_Qi (fun r _ => r = nI 1) (fun (_ : Unit) => PostB D (gT cI cL cM) A [(h0, .inr (4, [.int (nI (tz)), .int (nI (cnt)), .ref yI, .ref yD, .ref yN, .ref yW, .int (nI (te)), .int (nI (tr)), .ref yP, .ref yG, .ref yR, .ref yS, .ref yA, .ref yL, .ref yT]))]) A)) (cc := cX4_isMailing) (maxL := 2) (ret := (some .boolean)) (by decide) rfl (Nat.le_of_ble_eq_true rfl) ?_
  intro p e s m below meth c A ls hx hb hr hts hown hlocks hin hml hP hK hD hA hS hl
  have hl : lv_has ls 2 [(0, .ref h0), (1, .int (nI (mm)))] := hl
  have hown : s.vm.findClass RX4 = some m.cls := hown
  refine lv_iload_n hx hb dX4_isMailing_0 rfl (lv_at hl 1 rfl) ?_
  refine n_if_le (tgt := 16) hx hb (by omega) dX4_isMailing_1 (by decide) (fun c_1 => False.elim (by omega)) (fun c_1 => ?_)
  refine lv_iload_n hx hb dX4_isMailing_4 rfl (lv_at hl 1 rfl) ?_
  refine lv_aload_n hx hb dX4_isMailing_5 rfl (lv_at hl 0 rfl) ?_
  refine va_get (D := D) (cl := vwCl) (ci := 4) (v := .int (nI (cnt))) (C := RX4) (T := TX4) (N := 15) hx hb hts in_X4_isMailing_X4 hown hK hP 0 rfl rfl 1 (by decide) (hts (.fieldLink RX4 51 "BulkSamplesModel" "mailings" "I") fl_X4_isMailing_51) (fun _ h9 => h9) rfl dX4_isMailing_6 ?_
  refine n_icmp_gt (tgt := 16) hx hb (by omega) (by omega) dX4_isMailing_9 (by decide) (fun c_2 => False.elim (by omega)) (fun c_2 => ?_)
  refine lv_iconst (v := nI (1)) hx hb dX4_isMailing_12 (by decide) ?_
  refine lv_goto (tgt := 17) hx hb dX4_isMailing_13 (by decide) ?_
  exact k_zret (v := nI (1)) hx hb hr rfl hlocks hP hD hK hS [0] () rfl (by decide) rfl dX4_isMailing_17
theorem in_X4_thrown_X4 : ∀ w ∈ wsX40, w ∈ wsX4_thrown := by decide +kernel
theorem fl_X4_thrown_48 : Cond.fieldLink RX4 48 "BulkSamplesModel" "thrown" "I" ∈ wsX4_thrown := by decide +kernel
set_option maxHeartbeats 4000000 in
set_option maxRecDepth 100000 in
/-- thrown -/
theorem d_thr (l : Launch) (D : va_G) (cI cL cM : ClassId) (sz : Nat) (h0 yI yD yN yW yP yG yR yS yA yL yT tz cnt te tr : Nat) : Met l yX4_thrown wsX4_thrown ({ frames := 0, cells := 0, slots := 0, locals := 0 } : Room) (va_Pc [.ref h0] (PreB D (gT cI cL cM) sz [(h0, .inr (4, [.int (nI (tz)), .int (nI (cnt)), .ref yI, .ref yD, .ref yN, .ref yW, .int (nI (te)), .int (nI (tr)), .ref yP, .ref yG, .ref yR, .ref yS, .ref yA, .ref yL, .ref yT]))])) (va_Qi (fun r _ => r = nI tz) (fun (_ : Unit) => PostB D (gT cI cL cM) (va_A [(h0, .inr (4, [.int (nI (tz)), .int (nI (cnt)), .ref yI, .ref yD, .ref yN, .ref yW, .int (nI (te)), .int (nI (tr)), .ref yP, .ref yG, .ref yR, .ref yS, .ref yA, .ref yL, .ref yT]))] sz) [(h0, .inr (4, [.int (nI (tz)), .int (nI (cnt)), .ref yI, .ref yD, .ref yN, .ref yW, .int (nI (te)), .int (nI (tr)), .ref yP, .ref yG, .ref yR, .ref yS, .ref yA, .ref yL, .ref yT]))]) (va_A [(h0, .inr (4, [.int (nI (tz)), .int (nI (cnt)), .ref yI, .ref yD, .ref yN, .ref yW, .int (nI (te)), .int (nI (tr)), .ref yP, .ref yG, .ref yR, .ref yS, .ref yA, .ref yL, .ref yT]))] sz)) 0 0 (va_A [(h0, .inr (4, [.int (nI (tz)), .int (nI (cnt)), .ref yI, .ref yD, .ref yN, .ref yW, .int (nI (te)), .int (nI (tr)), .ref yP, .ref yG, .ref yR, .ref yS, .ref yA, .ref yL, .ref yT]))] sz) := by
  refine k_start (fun A => (va_Qi (fun r _ => r = nI tz) (fun (_ : Unit) => PostB D (gT cI cL cM) A [(h0, .inr (4, [.int (nI (tz)), .int (nI (cnt)), .ref yI, .ref yD, .ref yN, .ref yW, .int (nI (te)), .int (nI (tr)), .ref yP, .ref yG, .ref yR, .ref yS, .ref yA, .ref yL, .ref yT]))]) A)) (cc := cX4_thrown) (maxL := 1) (ret := (some .int)) (by decide) rfl (Nat.le_of_ble_eq_true rfl) ?_
  intro p e s m below meth c A ls hx hb hr hts hown hlocks hin hml hP hK hD hA hS hl
  have hl : lv_has ls 1 [(0, .ref h0)] := hl
  have hown : s.vm.findClass RX4 = some m.cls := hown
  refine lv_aload_n hx hb dX4_thrown_0 rfl (lv_at hl 0 rfl) ?_
  refine va_get (D := D) (cl := vwCl) (ci := 4) (v := .int (nI (tz))) (C := RX4) (T := TX4) (N := 15) hx hb hts in_X4_thrown_X4 hown hK hP 0 rfl rfl 0 (by decide) (hts (.fieldLink RX4 48 "BulkSamplesModel" "thrown" "I") fl_X4_thrown_48) (fun _ h9 => h9) rfl dX4_thrown_1 ?_
  exact k_iret (v := nI (tz)) hx hb hr hlocks hP hD hK hS [0] () rfl (by decide) rfl dX4_thrown_4
theorem in_X4_mailing_X4 : ∀ w ∈ wsX40, w ∈ wsX4_mailing := by decide +kernel
theorem fl_X4_mailing_48 : Cond.fieldLink RX4 48 "BulkSamplesModel" "thrown" "I" ∈ wsX4_mailing := by decide +kernel
theorem fl_X4_mailing_51 : Cond.fieldLink RX4 51 "BulkSamplesModel" "mailings" "I" ∈ wsX4_mailing := by decide +kernel
theorem fl_X4_mailing_7 : Cond.fieldLink RX4 7 "BulkSamplesModel" "items" "[I" ∈ wsX4_mailing := by decide +kernel
set_option maxHeartbeats 4000000 in
set_option maxRecDepth 100000 in
/-- mailing: OUTSIDE -/
theorem d_m_bad (l : Launch) (D : va_G) (cI cL cM : ClassId) (sz : Nat) (h0 yI yD yN yW yP yG yR yS yA yL yT tz cnt te tr : Nat) (x : Int32) (hbad : x < 0 ∨ nI 200 < x) : Met l yX4_mailing wsX4_mailing ({ frames := 0, cells := 0, slots := 0, locals := 0 } : Room) (va_Pc [.ref h0, .int x] (PreB D (gT cI cL cM) sz [(h0, .inr (4, [.int (nI (tz)), .int (nI (cnt)), .ref yI, .ref yD, .ref yN, .ref yW, .int (nI (te)), .int (nI (tr)), .ref yP, .ref yG, .ref yR, .ref yS, .ref yA, .ref yL, .ref yT]))])) (va_Qi (fun r _ => r = -12) (fun (_ : Unit) => PostB D (gT cI cL cM) (va_A [(h0, .inr (4, [.int (nI (tz)), .int (nI (cnt)), .ref yI, .ref yD, .ref yN, .ref yW, .int (nI (te)), .int (nI (tr)), .ref yP, .ref yG, .ref yR, .ref yS, .ref yA, .ref yL, .ref yT]))] sz) [(h0, .inr (4, [.int (nI (0)), .int (nI (cnt)), .ref yI, .ref yD, .ref yN, .ref yW, .int (nI (te)), .int (nI (tr)), .ref yP, .ref yG, .ref yR, .ref yS, .ref yA, .ref yL, .ref yT]))]) (va_A [(h0, .inr (4, [.int (nI (tz)), .int (nI (cnt)), .ref yI, .ref yD, .ref yN, .ref yW, .int (nI (te)), .int (nI (tr)), .ref yP, .ref yG, .ref yR, .ref yS, .ref yA, .ref yL, .ref yT]))] sz)) 0 0 (va_A [(h0, .inr (4, [.int (nI (tz)), .int (nI (cnt)), .ref yI, .ref yD, .ref yN, .ref yW, .int (nI (te)), .int (nI (tr)), .ref yP, .ref yG, .ref yR, .ref yS, .ref yA, .ref yL, .ref yT]))] sz) := by
  refine k_start (fun A => (va_Qi (fun r _ => r = -12) (fun (_ : Unit) => PostB D (gT cI cL cM) A [(h0, .inr (4, [.int (nI (0)), .int (nI (cnt)), .ref yI, .ref yD, .ref yN, .ref yW, .int (nI (te)), .int (nI (tr)), .ref yP, .ref yG, .ref yR, .ref yS, .ref yA, .ref yL, .ref yT]))]) A)) (cc := cX4_mailing) (maxL := 2) (ret := (some .int)) (by decide) rfl (Nat.le_of_ble_eq_true rfl) ?_
  intro p e s m below meth c A ls hx hb hr hts hown hlocks hin hml hP hK hD hA hS hl
  have hl : lv_has ls 2 [(0, .ref h0), (1, .int x)] := hl
  have hown : s.vm.findClass RX4 = some m.cls := hown
  refine lv_aload_n hx hb dX4_mailing_0 rfl (lv_at hl 0 rfl) ?_
  refine lv_iconst (v := nI (0)) hx hb dX4_mailing_1 (by decide) ?_
  refine va_put (D := D) (cl := vwCl) (ci := 4) (v := .int (nI (0))) (ty := tyX4 0) (C := RX4) (T := TX4) (N := 15) hx hb hts in_X4_mailing_X4 tyX4 tyX4_ok nmX4 hown hK hP hD hS 0 rfl rfl 0 (by decide) (hts (.fieldLink RX4 48 "BulkSamplesModel" "thrown" "I") fl_X4_mailing_48) (fun _ h9 => h9) rfl (by decide +kernel) rfl rfl (Nat.le_of_ble_eq_true rfl) dX4_mailing_2 (fun H locs hP hD hS => ?_)
  have hP : va_P D vwCl [(h0, .inr (4, [.int (nI (0)), .int (nI (cnt)), .ref yI, .ref yD, .ref yN, .ref yW, .int (nI (te)), .int (nI (tr)), .ref yP, .ref yG, .ref yR, .ref yS, .ref yA, .ref yL, .ref yT]))] H := hP
  have hD : va_D A [(h0, .inr (4, [.int (nI (0)), .int (nI (cnt)), .ref yI, .ref yD, .ref yN, .ref yW, .int (nI (te)), .int (nI (tr)), .ref yP, .ref yG, .ref yR, .ref yS, .ref yA, .ref yL, .ref yT]))] := hD
  refine lv_iload_n hx hb dX4_mailing_5 rfl (lv_at hl 1 rfl) ?_
  refine lv_if_lt (tgt := 16) hx hb dX4_mailing_6 (by decide) (fun c_1 => ?_) (fun c_1 => ?_)
  · refine lv_bipush (v := (-12)) hx hb dX4_mailing_16 (by decide) ?_
    exact k_iret (v := (-12)) hx hb hr hlocks hP hD hK hS [0] () rfl (by decide) rfl dX4_mailing_18
  · have h9 : nI 200 < x := hbad.resolve_left c_1
    refine lv_iload_n hx hb dX4_mailing_9 rfl (lv_at hl 1 rfl) ?_
    refine lv_sipush (v := nI (200)) hx hb dX4_mailing_10 (by decide) ?_
    refine lv_icmp_le (tgt := 19) hx hb dX4_mailing_13 (by decide) (fun c => absurd h9 (Int32.not_lt.mpr c)) (fun c_2 => ?_)
    refine lv_bipush (v := (-12)) hx hb dX4_mailing_16 (by decide) ?_
    exact k_iret (v := (-12)) hx hb hr hlocks hP hD hK hS [0] () rfl (by decide) rfl dX4_mailing_18
set_option maxHeartbeats 4000000 in
set_option maxRecDepth 100000 in
/-- mailing: none, or ROOM -/
theorem d_m_no (l : Launch) (D : va_G) (cI cL cM : ClassId) (sz : Nat) (h0 yI yD yN yW yP yG yR yS yA yL yT tz cnt te tr : Nat) (k : Nat) (hk : k ≤ 200) (hno : k = 0 ∨ cnt = 20) (hc : cnt ≤ 20) : Met l yX4_mailing wsX4_mailing ({ frames := 0, cells := 0, slots := 0, locals := 0 } : Room) (va_Pc [.ref h0, .int (nI (k))] (PreB D (gT cI cL cM) sz [(h0, .inr (4, [.int (nI (tz)), .int (nI (cnt)), .ref yI, .ref yD, .ref yN, .ref yW, .int (nI (te)), .int (nI (tr)), .ref yP, .ref yG, .ref yR, .ref yS, .ref yA, .ref yL, .ref yT]))])) (va_Qi (fun r _ => r = if k = 0 then nI 0 else -14) (fun (_ : Unit) => PostB D (gT cI cL cM) (va_A [(h0, .inr (4, [.int (nI (tz)), .int (nI (cnt)), .ref yI, .ref yD, .ref yN, .ref yW, .int (nI (te)), .int (nI (tr)), .ref yP, .ref yG, .ref yR, .ref yS, .ref yA, .ref yL, .ref yT]))] sz) [(h0, .inr (4, [.int (nI (0)), .int (nI (cnt)), .ref yI, .ref yD, .ref yN, .ref yW, .int (nI (te)), .int (nI (tr)), .ref yP, .ref yG, .ref yR, .ref yS, .ref yA, .ref yL, .ref yT]))]) (va_A [(h0, .inr (4, [.int (nI (tz)), .int (nI (cnt)), .ref yI, .ref yD, .ref yN, .ref yW, .int (nI (te)), .int (nI (tr)), .ref yP, .ref yG, .ref yR, .ref yS, .ref yA, .ref yL, .ref yT]))] sz)) 0 0 (va_A [(h0, .inr (4, [.int (nI (tz)), .int (nI (cnt)), .ref yI, .ref yD, .ref yN, .ref yW, .int (nI (te)), .int (nI (tr)), .ref yP, .ref yG, .ref yR, .ref yS, .ref yA, .ref yL, .ref yT]))] sz) := by
  refine k_start (fun A => (va_Qi (fun r _ => r = if k = 0 then nI 0 else -14) (fun (_ : Unit) => PostB D (gT cI cL cM) A [(h0, .inr (4, [.int (nI (0)), .int (nI (cnt)), .ref yI, .ref yD, .ref yN, .ref yW, .int (nI (te)), .int (nI (tr)), .ref yP, .ref yG, .ref yR, .ref yS, .ref yA, .ref yL, .ref yT]))]) A)) (cc := cX4_mailing) (maxL := 2) (ret := (some .int)) (by decide) rfl (Nat.le_of_ble_eq_true rfl) ?_
  intro p e s m below meth c A ls hx hb hr hts hown hlocks hin hml hP hK hD hA hS hl
  have hl : lv_has ls 2 [(0, .ref h0), (1, .int (nI (k)))] := hl
  have hown : s.vm.findClass RX4 = some m.cls := hown
  refine lv_aload_n hx hb dX4_mailing_0 rfl (lv_at hl 0 rfl) ?_
  refine lv_iconst (v := nI (0)) hx hb dX4_mailing_1 (by decide) ?_
  refine va_put (D := D) (cl := vwCl) (ci := 4) (v := .int (nI (0))) (ty := tyX4 0) (C := RX4) (T := TX4) (N := 15) hx hb hts in_X4_mailing_X4 tyX4 tyX4_ok nmX4 hown hK hP hD hS 0 rfl rfl 0 (by decide) (hts (.fieldLink RX4 48 "BulkSamplesModel" "thrown" "I") fl_X4_mailing_48) (fun _ h9 => h9) rfl (by decide +kernel) rfl rfl (Nat.le_of_ble_eq_true rfl) dX4_mailing_2 (fun H locs hP hD hS => ?_)
  have hP : va_P D vwCl [(h0, .inr (4, [.int (nI (0)), .int (nI (cnt)), .ref yI, .ref yD, .ref yN, .ref yW, .int (nI (te)), .int (nI (tr)), .ref yP, .ref yG, .ref yR, .ref yS, .ref yA, .ref yL, .ref yT]))] H := hP
  have hD : va_D A [(h0, .inr (4, [.int (nI (0)), .int (nI (cnt)), .ref yI, .ref yD, .ref yN, .ref yW, .int (nI (te)), .int (nI (tr)), .ref yP, .ref yG, .ref yR, .ref yS, .ref yA, .ref yL, .ref yT]))] := hD
  refine lv_iload_n hx hb dX4_mailing_5 rfl (lv_at hl 1 rfl) ?_
  refine n_if_lt (tgt := 16) hx hb (by omega) dX4_mailing_6 (by decide) ?_
  refine lv_iload_n hx hb dX4_mailing_9 rfl (lv_at hl 1 rfl) ?_
  refine lv_sipush (v := nI (200)) hx hb dX4_mailing_10 (by decide) ?_
  refine n_icmp_le (tgt := 19) hx hb (by omega) (by omega) dX4_mailing_13 (by decide) (fun c_2 => ?_) (fun c_2 => False.elim (by omega))
  refine lv_iload_n hx hb dX4_mailing_19 rfl (lv_at hl 1 rfl) ?_
  refine n_if_ne (tgt := 25) hx hb (by omega) dX4_mailing_20 (by decide) (fun c_3 => ?_) (fun c_3 => ?_)
  · refine lv_aload_n hx hb dX4_mailing_25 rfl (lv_at hl 0 rfl) ?_
    refine va_get (D := D) (cl := vwCl) (ci := 4) (v := .int (nI (cnt))) (C := RX4) (T := TX4) (N := 15) hx hb hts in_X4_mailing_X4 hown hK hP 0 rfl rfl 1 (by decide) (hts (.fieldLink RX4 51 "BulkSamplesModel" "mailings" "I") fl_X4_mailing_51) (fun _ h9 => h9) rfl dX4_mailing_26 ?_
    refine lv_bipush (v := nI (20)) hx hb dX4_mailing_29 (by decide) ?_
    refine n_icmp_ne (tgt := 37) hx hb (by omega) (by omega) dX4_mailing_31 (by decide) (fun c_4 => False.elim (by omega)) (fun c_4 => ?_)
    refine lv_bipush (v := (-14)) hx hb dX4_mailing_34 (by decide) ?_
    exact k_iret (v := (-14)) hx hb hr hlocks hP hD hK hS [0] () rfl (by decide) (by rw [if_neg (by omega)]) dX4_mailing_36
  · refine lv_iconst (v := nI (0)) hx hb dX4_mailing_23 (by decide) ?_
    exact k_iret (v := nI (0)) hx hb hr hlocks hP hD hK hS [0] () rfl (by decide) (by rw [if_pos (by omega)]) dX4_mailing_24
set_option maxHeartbeats 4000000 in
set_option maxRecDepth 100000 in
/-- mailing: a new one -/
theorem d_m_ok (l : Launch) (D : va_G) (cI cL cM : ClassId) (sz : Nat) (h0 yI yD yN yW yP yG yR yS yA yL yT tz cnt te tr : Nat) (iv : Nat → Nat) (k : Nat) (hk : k ≤ 200) (hk0 : 0 < k) (hc : cnt < 20) : Met l yX4_mailing wsX4_mailing ({ frames := 0, cells := 0, slots := 0, locals := 0 } : Room) (va_Pc [.ref h0, .int (nI (k))] (PreB D (gT cI cL cM) sz [(h0, .inr (4, [.int (nI (tz)), .int (nI (cnt)), .ref yI, .ref yD, .ref yN, .ref yW, .int (nI (te)), .int (nI (tr)), .ref yP, .ref yG, .ref yR, .ref yS, .ref yA, .ref yL, .ref yT])), (yI, .inl (cI, 21, .inl (fun j => nI (iv j))))])) (va_Qi (fun r _ => r = nI (cnt + 1)) (fun (_ : Unit) => PostB D (gT cI cL cM) (va_A [(h0, .inr (4, [.int (nI (tz)), .int (nI (cnt)), .ref yI, .ref yD, .ref yN, .ref yW, .int (nI (te)), .int (nI (tr)), .ref yP, .ref yG, .ref yR, .ref yS, .ref yA, .ref yL, .ref yT])), (yI, .inl (cI, 21, .inl (fun j => nI (iv j))))] sz) [(h0, .inr (4, [.int (nI (0)), .int (nI (cnt + 1)), .ref yI, .ref yD, .ref yN, .ref yW, .int (nI (te)), .int (nI (tr)), .ref yP, .ref yG, .ref yR, .ref yS, .ref yA, .ref yL, .ref yT])), (yI, .inl (cI, 21, .inl (fun j => nI (if j = cnt + 1 then k else iv j))))]) (va_A [(h0, .inr (4, [.int (nI (tz)), .int (nI (cnt)), .ref yI, .ref yD, .ref yN, .ref yW, .int (nI (te)), .int (nI (tr)), .ref yP, .ref yG, .ref yR, .ref yS, .ref yA, .ref yL, .ref yT])), (yI, .inl (cI, 21, .inl (fun j => nI (iv j))))] sz)) 0 0 (va_A [(h0, .inr (4, [.int (nI (tz)), .int (nI (cnt)), .ref yI, .ref yD, .ref yN, .ref yW, .int (nI (te)), .int (nI (tr)), .ref yP, .ref yG, .ref yR, .ref yS, .ref yA, .ref yL, .ref yT])), (yI, .inl (cI, 21, .inl (fun j => nI (iv j))))] sz) := by
  refine k_start (fun A => (va_Qi (fun r _ => r = nI (cnt + 1)) (fun (_ : Unit) => PostB D (gT cI cL cM) A [(h0, .inr (4, [.int (nI (0)), .int (nI (cnt + 1)), .ref yI, .ref yD, .ref yN, .ref yW, .int (nI (te)), .int (nI (tr)), .ref yP, .ref yG, .ref yR, .ref yS, .ref yA, .ref yL, .ref yT])), (yI, .inl (cI, 21, .inl (fun j => nI (if j = cnt + 1 then k else iv j))))]) A)) (cc := cX4_mailing) (maxL := 2) (ret := (some .int)) (by decide) rfl (Nat.le_of_ble_eq_true rfl) ?_
  intro p e s m below meth c A ls hx hb hr hts hown hlocks hin hml hP hK hD hA hS hl
  have hl : lv_has ls 2 [(0, .ref h0), (1, .int (nI (k)))] := hl
  have hown : s.vm.findClass RX4 = some m.cls := hown
  refine lv_aload_n hx hb dX4_mailing_0 rfl (lv_at hl 0 rfl) ?_
  refine lv_iconst (v := nI (0)) hx hb dX4_mailing_1 (by decide) ?_
  refine va_put (D := D) (cl := vwCl) (ci := 4) (v := .int (nI (0))) (ty := tyX4 0) (C := RX4) (T := TX4) (N := 15) hx hb hts in_X4_mailing_X4 tyX4 tyX4_ok nmX4 hown hK hP hD hS 0 rfl rfl 0 (by decide) (hts (.fieldLink RX4 48 "BulkSamplesModel" "thrown" "I") fl_X4_mailing_48) (fun _ h9 => h9) rfl (by decide +kernel) rfl rfl (Nat.le_of_ble_eq_true rfl) dX4_mailing_2 (fun H locs hP hD hS => ?_)
  have hP : va_P D vwCl [(h0, .inr (4, [.int (nI (0)), .int (nI (cnt)), .ref yI, .ref yD, .ref yN, .ref yW, .int (nI (te)), .int (nI (tr)), .ref yP, .ref yG, .ref yR, .ref yS, .ref yA, .ref yL, .ref yT])), (yI, .inl (cI, 21, .inl (fun j => nI (iv j))))] H := hP
  have hD : va_D A [(h0, .inr (4, [.int (nI (0)), .int (nI (cnt)), .ref yI, .ref yD, .ref yN, .ref yW, .int (nI (te)), .int (nI (tr)), .ref yP, .ref yG, .ref yR, .ref yS, .ref yA, .ref yL, .ref yT])), (yI, .inl (cI, 21, .inl (fun j => nI (iv j))))] := hD
  refine lv_iload_n hx hb dX4_mailing_5 rfl (lv_at hl 1 rfl) ?_
  refine n_if_lt (tgt := 16) hx hb (by omega) dX4_mailing_6 (by decide) ?_
  refine lv_iload_n hx hb dX4_mailing_9 rfl (lv_at hl 1 rfl) ?_
  refine lv_sipush (v := nI (200)) hx hb dX4_mailing_10 (by decide) ?_
  refine n_icmp_le (tgt := 19) hx hb (by omega) (by omega) dX4_mailing_13 (by decide) (fun c_2 => ?_) (fun c_2 => False.elim (by omega))
  refine lv_iload_n hx hb dX4_mailing_19 rfl (lv_at hl 1 rfl) ?_
  refine n_if_ne (tgt := 25) hx hb (by omega) dX4_mailing_20 (by decide) (fun c_3 => ?_) (fun c_3 => False.elim (by omega))
  refine lv_aload_n hx hb dX4_mailing_25 rfl (lv_at hl 0 rfl) ?_
  refine va_get (D := D) (cl := vwCl) (ci := 4) (v := .int (nI (cnt))) (C := RX4) (T := TX4) (N := 15) hx hb hts in_X4_mailing_X4 hown hK hP 0 rfl rfl 1 (by decide) (hts (.fieldLink RX4 51 "BulkSamplesModel" "mailings" "I") fl_X4_mailing_51) (fun _ h9 => h9) rfl dX4_mailing_26 ?_
  refine lv_bipush (v := nI (20)) hx hb dX4_mailing_29 (by decide) ?_
  refine n_icmp_ne (tgt := 37) hx hb (by omega) (by omega) dX4_mailing_31 (by decide) (fun c_4 => ?_) (fun c_4 => False.elim (by omega))
  refine lv_aload_n hx hb dX4_mailing_37 rfl (lv_at hl 0 rfl) ?_
  refine lv_dup hx hb dX4_mailing_38 rfl ?_
  refine va_get (D := D) (cl := vwCl) (ci := 4) (v := .int (nI (cnt))) (C := RX4) (T := TX4) (N := 15) hx hb hts in_X4_mailing_X4 hown hK hP 0 rfl rfl 1 (by decide) (hts (.fieldLink RX4 51 "BulkSamplesModel" "mailings" "I") fl_X4_mailing_51) (fun _ h9 => h9) rfl dX4_mailing_39 ?_
  refine lv_iconst (v := nI (1)) hx hb dX4_mailing_42 (by decide) ?_
  refine n_iadd (r := cnt + 1) hx hb dX4_mailing_43 rfl ?_
  refine va_put (D := D) (cl := vwCl) (ci := 4) (v := .int (nI (cnt + 1))) (ty := tyX4 1) (C := RX4) (T := TX4) (N := 15) hx hb hts in_X4_mailing_X4 tyX4 tyX4_ok nmX4 hown hK hP hD hS 0 rfl rfl 1 (by decide) (hts (.fieldLink RX4 51 "BulkSamplesModel" "mailings" "I") fl_X4_mailing_51) (fun _ h9 => h9) rfl (by decide +kernel) rfl rfl (Nat.le_of_ble_eq_true rfl) dX4_mailing_44 (fun H locs hP hD hS => ?_)
  have hP : va_P D vwCl [(h0, .inr (4, [.int (nI (0)), .int (nI (cnt + 1)), .ref yI, .ref yD, .ref yN, .ref yW, .int (nI (te)), .int (nI (tr)), .ref yP, .ref yG, .ref yR, .ref yS, .ref yA, .ref yL, .ref yT])), (yI, .inl (cI, 21, .inl (fun j => nI (iv j))))] H := hP
  have hD : va_D A [(h0, .inr (4, [.int (nI (0)), .int (nI (cnt + 1)), .ref yI, .ref yD, .ref yN, .ref yW, .int (nI (te)), .int (nI (tr)), .ref yP, .ref yG, .ref yR, .ref yS, .ref yA, .ref yL, .ref yT])), (yI, .inl (cI, 21, .inl (fun j => nI (iv j))))] := hD
  refine lv_aload_n hx hb dX4_mailing_47 rfl (lv_at hl 0 rfl) ?_
  refine va_get (D := D) (cl := vwCl) (ci := 4) (v := .ref yI) (C := RX4) (T := TX4) (N := 15) hx hb hts in_X4_mailing_X4 hown hK hP 0 rfl rfl 2 (by decide) (hts (.fieldLink RX4 7 "BulkSamplesModel" "items" "[I") fl_X4_mailing_7) (fun _ h9 => h9) rfl dX4_mailing_48 ?_
  refine lv_aload_n hx hb dX4_mailing_51 rfl (lv_at hl 0 rfl) ?_
  refine va_get (D := D) (cl := vwCl) (ci := 4) (v := .int (nI (cnt + 1))) (C := RX4) (T := TX4) (N := 15) hx hb hts in_X4_mailing_X4 hown hK hP 0 rfl rfl 1 (by decide) (hts (.fieldLink RX4 51 "BulkSamplesModel" "mailings" "I") fl_X4_mailing_51) (fun _ h9 => h9) rfl dX4_mailing_52 ?_
  refine lv_iload_n hx hb dX4_mailing_55 rfl (lv_at hl 1 rfl) ?_
  refine n_iast (f' := fun j => nI (if j = cnt + 1 then k else iv j)) (ws' := [(h0, .inr (4, [.int (nI (0)), .int (nI (cnt + 1)), .ref yI, .ref yD, .ref yN, .ref yW, .int (nI (te)), .int (nI (tr)), .ref yP, .ref yG, .ref yR, .ref yS, .ref yA, .ref yL, .ref yT])), (yI, .inl (cI, 21, .inl (fun j => nI (if j = cnt + 1 then k else iv j))))]) hx hb hK hP hD hS 1 0 rfl rfl (by omega) (by omega) (fun j _ => by split <;> rfl) rfl dX4_mailing_56 (fun H locs hP hD hS => ?_)
  refine lv_aload_n hx hb dX4_mailing_57 rfl (lv_at hl 0 rfl) ?_
  refine va_get (D := D) (cl := vwCl) (ci := 4) (v := .int (nI (cnt + 1))) (C := RX4) (T := TX4) (N := 15) hx hb hts in_X4_mailing_X4 hown hK hP 0 rfl rfl 1 (by decide) (hts (.fieldLink RX4 51 "BulkSamplesModel" "mailings" "I") fl_X4_mailing_51) (fun _ h9 => h9) rfl dX4_mailing_58 ?_
  exact k_iret (v := nI (cnt + 1)) hx hb hr hlocks hP hD hK hS [0, 1] () rfl (by decide) rfl dX4_mailing_61
theorem in_X4_tape_X4 : ∀ w ∈ wsX40, w ∈ wsX4_tape := by decide +kernel
theorem fl_X4_tape_48 : Cond.fieldLink RX4 48 "BulkSamplesModel" "thrown" "I" ∈ wsX4_tape := by decide +kernel
theorem fl_X4_tape_62 : Cond.fieldLink RX4 62 "BulkSamplesModel" "taped" "I" ∈ wsX4_tape := by decide +kernel
set_option maxHeartbeats 4000000 in
set_option maxRecDepth 100000 in
/-- tape: full -/
theorem d_t_full (l : Launch) (D : va_G) (cI cL cM : ClassId) (sz : Nat) (h0 yI yD yN yW yP yG yR yS yA yL yT tz cnt te tr : Nat) (x : Int32) (h3 : 300 ≤ te) (h3b : te ≤ 300) : Met l yX4_tape wsX4_tape ({ frames := 0, cells := 0, slots := 0, locals := 0 } : Room) (va_Pc [.ref h0, .int x] (PreB D (gT cI cL cM) sz [(h0, .inr (4, [.int (nI (tz)), .int (nI (cnt)), .ref yI, .ref yD, .ref yN, .ref yW, .int (nI (te)), .int (nI (tr)), .ref yP, .ref yG, .ref yR, .ref yS, .ref yA, .ref yL, .ref yT]))])) (va_Qv (fun _ => True) (fun (_ : Unit) => PostB D (gT cI cL cM) (va_A [(h0, .inr (4, [.int (nI (tz)), .int (nI (cnt)), .ref yI, .ref yD, .ref yN, .ref yW, .int (nI (te)), .int (nI (tr)), .ref yP, .ref yG, .ref yR, .ref yS, .ref yA, .ref yL, .ref yT]))] sz) [(h0, .inr (4, [.int (nI (0)), .int (nI (cnt)), .ref yI, .ref yD, .ref yN, .ref yW, .int (nI (te)), .int (nI (tr)), .ref yP, .ref yG, .ref yR, .ref yS, .ref yA, .ref yL, .ref yT]))]) (va_A [(h0, .inr (4, [.int (nI (tz)), .int (nI (cnt)), .ref yI, .ref yD, .ref yN, .ref yW, .int (nI (te)), .int (nI (tr)), .ref yP, .ref yG, .ref yR, .ref yS, .ref yA, .ref yL, .ref yT]))] sz)) 0 0 (va_A [(h0, .inr (4, [.int (nI (tz)), .int (nI (cnt)), .ref yI, .ref yD, .ref yN, .ref yW, .int (nI (te)), .int (nI (tr)), .ref yP, .ref yG, .ref yR, .ref yS, .ref yA, .ref yL, .ref yT]))] sz) := by
  refine k_start (fun A => (va_Qv (fun _ => True) (fun (_ : Unit) => PostB D (gT cI cL cM) A [(h0, .inr (4, [.int (nI (0)), .int (nI (cnt)), .ref yI, .ref yD, .ref yN, .ref yW, .int (nI (te)), .int (nI (tr)), .ref yP, .ref yG, .ref yR, .ref yS, .ref yA, .ref yL, .ref yT]))]) A)) (cc := cX4_tape) (maxL := 2) (ret := none) (by decide) rfl (Nat.le_of_ble_eq_true rfl) ?_
  intro p e s m below meth c A ls hx hb hr hts hown hlocks hin hml hP hK hD hA hS hl
  have hl : lv_has ls 2 [(0, .ref h0), (1, .int x)] := hl
  have hown : s.vm.findClass RX4 = some m.cls := hown
  refine lv_aload_n hx hb dX4_tape_0 rfl (lv_at hl 0 rfl) ?_
  refine lv_iconst (v := nI (0)) hx hb dX4_tape_1 (by decide) ?_
  refine va_put (D := D) (cl := vwCl) (ci := 4) (v := .int (nI (0))) (ty := tyX4 0) (C := RX4) (T := TX4) (N := 15) hx hb hts in_X4_tape_X4 tyX4 tyX4_ok nmX4 hown hK hP hD hS 0 rfl rfl 0 (by decide) (hts (.fieldLink RX4 48 "BulkSamplesModel" "thrown" "I") fl_X4_tape_48) (fun _ h9 => h9) rfl (by decide +kernel) rfl rfl (Nat.le_of_ble_eq_true rfl) dX4_tape_2 (fun H locs hP hD hS => ?_)
  have hP : va_P D vwCl [(h0, .inr (4, [.int (nI (0)), .int (nI (cnt)), .ref yI, .ref yD, .ref yN, .ref yW, .int (nI (te)), .int (nI (tr)), .ref yP, .ref yG, .ref yR, .ref yS, .ref yA, .ref yL, .ref yT]))] H := hP
  have hD : va_D A [(h0, .inr (4, [.int (nI (0)), .int (nI (cnt)), .ref yI, .ref yD, .ref yN, .ref yW, .int (nI (te)), .int (nI (tr)), .ref yP, .ref yG, .ref yR, .ref yS, .ref yA, .ref yL, .ref yT]))] := hD
  refine lv_aload_n hx hb dX4_tape_5 rfl (lv_at hl 0 rfl) ?_
  refine va_get (D := D) (cl := vwCl) (ci := 4) (v := .int (nI (te))) (C := RX4) (T := TX4) (N := 15) hx hb hts in_X4_tape_X4 hown hK hP 0 rfl rfl 6 (by decide) (hts (.fieldLink RX4 62 "BulkSamplesModel" "taped" "I") fl_X4_tape_62) (fun _ h9 => h9) rfl dX4_tape_6 ?_
  refine lv_sipush (v := nI (300)) hx hb dX4_tape_9 (by decide) ?_
  refine n_icmp_ge (tgt := 25) hx hb (by omega) (by omega) dX4_tape_12 (by decide) (fun c_1 => ?_) (fun c_1 => False.elim (by omega))
  exact k_vret hx hb hr hlocks hP hD hK hS [0] () rfl (by decide) trivial dX4_tape_25
set_option maxHeartbeats 4000000 in
set_option maxRecDepth 100000 in
/-- tape -/
theorem d_t_ok (l : Launch) (D : va_G) (cI cL cM : ClassId) (sz : Nat) (h0 yI yD yN yW yP yG yR yS yA yL yT tz cnt te tr : Nat) (x : Int32) (h3 : te < 300) : Met l yX4_tape wsX4_tape ({ frames := 0, cells := 0, slots := 0, locals := 0 } : Room) (va_Pc [.ref h0, .int x] (PreB D (gT cI cL cM) sz [(h0, .inr (4, [.int (nI (tz)), .int (nI (cnt)), .ref yI, .ref yD, .ref yN, .ref yW, .int (nI (te)), .int (nI (tr)), .ref yP, .ref yG, .ref yR, .ref yS, .ref yA, .ref yL, .ref yT]))])) (va_Qv (fun _ => True) (fun (_ : Unit) => PostB D (gT cI cL cM) (va_A [(h0, .inr (4, [.int (nI (tz)), .int (nI (cnt)), .ref yI, .ref yD, .ref yN, .ref yW, .int (nI (te)), .int (nI (tr)), .ref yP, .ref yG, .ref yR, .ref yS, .ref yA, .ref yL, .ref yT]))] sz) [(h0, .inr (4, [.int (nI (0)), .int (nI (cnt)), .ref yI, .ref yD, .ref yN, .ref yW, .int (nI (te + 1)), .int (nI (tr)), .ref yP, .ref yG, .ref yR, .ref yS, .ref yA, .ref yL, .ref yT]))]) (va_A [(h0, .inr (4, [.int (nI (tz)), .int (nI (cnt)), .ref yI, .ref yD, .ref yN, .ref yW, .int (nI (te)), .int (nI (tr)), .ref yP, .ref yG, .ref yR, .ref yS, .ref yA, .ref yL, .ref yT]))] sz)) 0 0 (va_A [(h0, .inr (4, [.int (nI (tz)), .int (nI (cnt)), .ref yI, .ref yD, .ref yN, .ref yW, .int (nI (te)), .int (nI (tr)), .ref yP, .ref yG, .ref yR, .ref yS, .ref yA, .ref yL, .ref yT]))] sz) := by
  refine k_start (fun A => (va_Qv (fun _ => True) (fun (_ : Unit) => PostB D (gT cI cL cM) A [(h0, .inr (4, [.int (nI (0)), .int (nI (cnt)), .ref yI, .ref yD, .ref yN, .ref yW, .int (nI (te + 1)), .int (nI (tr)), .ref yP, .ref yG, .ref yR, .ref yS, .ref yA, .ref yL, .ref yT]))]) A)) (cc := cX4_tape) (maxL := 2) (ret := none) (by decide) rfl (Nat.le_of_ble_eq_true rfl) ?_
  intro p e s m below meth c A ls hx hb hr hts hown hlocks hin hml hP hK hD hA hS hl
  have hl : lv_has ls 2 [(0, .ref h0), (1, .int x)] := hl
  have hown : s.vm.findClass RX4 = some m.cls := hown
  refine lv_aload_n hx hb dX4_tape_0 rfl (lv_at hl 0 rfl) ?_
  refine lv_iconst (v := nI (0)) hx hb dX4_tape_1 (by decide) ?_
  refine va_put (D := D) (cl := vwCl) (ci := 4) (v := .int (nI (0))) (ty := tyX4 0) (C := RX4) (T := TX4) (N := 15) hx hb hts in_X4_tape_X4 tyX4 tyX4_ok nmX4 hown hK hP hD hS 0 rfl rfl 0 (by decide) (hts (.fieldLink RX4 48 "BulkSamplesModel" "thrown" "I") fl_X4_tape_48) (fun _ h9 => h9) rfl (by decide +kernel) rfl rfl (Nat.le_of_ble_eq_true rfl) dX4_tape_2 (fun H locs hP hD hS => ?_)
  have hP : va_P D vwCl [(h0, .inr (4, [.int (nI (0)), .int (nI (cnt)), .ref yI, .ref yD, .ref yN, .ref yW, .int (nI (te)), .int (nI (tr)), .ref yP, .ref yG, .ref yR, .ref yS, .ref yA, .ref yL, .ref yT]))] H := hP
  have hD : va_D A [(h0, .inr (4, [.int (nI (0)), .int (nI (cnt)), .ref yI, .ref yD, .ref yN, .ref yW, .int (nI (te)), .int (nI (tr)), .ref yP, .ref yG, .ref yR, .ref yS, .ref yA, .ref yL, .ref yT]))] := hD
  refine lv_aload_n hx hb dX4_tape_5 rfl (lv_at hl 0 rfl) ?_
  refine va_get (D := D) (cl := vwCl) (ci := 4) (v := .int (nI (te))) (C := RX4) (T := TX4) (N := 15) hx hb hts in_X4_tape_X4 hown hK hP 0 rfl rfl 6 (by decide) (hts (.fieldLink RX4 62 "BulkSamplesModel" "taped" "I") fl_X4_tape_62) (fun _ h9 => h9) rfl dX4_tape_6 ?_
  refine lv_sipush (v := nI (300)) hx hb dX4_tape_9 (by decide) ?_
  refine n_icmp_ge (tgt := 25) hx hb (by omega) (by omega) dX4_tape_12 (by decide) (fun c_1 => False.elim (by omega)) (fun c_1 => ?_)
  refine lv_aload_n hx hb dX4_tape_15 rfl (lv_at hl 0 rfl) ?_
  refine lv_dup hx hb dX4_tape_16 rfl ?_
  refine va_get (D := D) (cl := vwCl) (ci := 4) (v := .int (nI (te))) (C := RX4) (T := TX4) (N := 15) hx hb hts in_X4_tape_X4 hown hK hP 0 rfl rfl 6 (by decide) (hts (.fieldLink RX4 62 "BulkSamplesModel" "taped" "I") fl_X4_tape_62) (fun _ h9 => h9) rfl dX4_tape_17 ?_
  refine lv_iconst (v := nI (1)) hx hb dX4_tape_20 (by decide) ?_
  refine n_iadd (r := te + 1) hx hb dX4_tape_21 rfl ?_
  refine va_put (D := D) (cl := vwCl) (ci := 4) (v := .int (nI (te + 1))) (ty := tyX4 6) (C := RX4) (T := TX4) (N := 15) hx hb hts in_X4_tape_X4 tyX4 tyX4_ok nmX4 hown hK hP hD hS 0 rfl rfl 6 (by decide) (hts (.fieldLink RX4 62 "BulkSamplesModel" "taped" "I") fl_X4_tape_62) (fun _ h9 => h9) rfl (by decide +kernel) rfl rfl (Nat.le_of_ble_eq_true rfl) dX4_tape_22 (fun H locs hP hD hS => ?_)
  have hP : va_P D vwCl [(h0, .inr (4, [.int (nI (0)), .int (nI (cnt)), .ref yI, .ref yD, .ref yN, .ref yW, .int (nI (te + 1)), .int (nI (tr)), .ref yP, .ref yG, .ref yR, .ref yS, .ref yA, .ref yL, .ref yT]))] H := hP
  have hD : va_D A [(h0, .inr (4, [.int (nI (0)), .int (nI (cnt)), .ref yI, .ref yD, .ref yN, .ref yW, .int (nI (te + 1)), .int (nI (tr)), .ref yP, .ref yG, .ref yR, .ref yS, .ref yA, .ref yL, .ref yT]))] := hD
  exact k_vret hx hb hr hlocks hP hD hK hS [0] () rfl (by decide) trivial dX4_tape_25
theorem in_X4_declared_X4 : ∀ w ∈ wsX40, w ∈ wsX4_declared := by decide +kernel
theorem fl_X4_declared_13 : Cond.fieldLink RX4 13 "BulkSamplesModel" "depths" "[I" ∈ wsX4_declared := by decide +kernel
set_option maxHeartbeats 4000000 in
set_option maxRecDepth 100000 in
/-- a sum -/
theorem d_decl (l : Launch) (D : va_G) (cI cL cM : ClassId) (sz : Nat) (h0 yI yD yN yW yP yG yR yS yA yL yT tz cnt te tr : Nat) (dv : Nat → Nat) (mm : Nat) (hmm : mm ≤ 20) : Met l yX4_declared wsX4_declared ({ frames := 0, cells := 0, slots := 0, locals := 0 } : Room) (va_Pc [.ref h0, .int (nI (mm))] (PreB D (gT cI cL cM) sz [(h0, .inr (4, [.int (nI (tz)), .int (nI (cnt)), .ref yI, .ref yD, .ref yN, .ref yW, .int (nI (te)), .int (nI (tr)), .ref yP, .ref yG, .ref yR, .ref yS, .ref yA, .ref yL, .ref yT])), (yD, .inl (cI, 84, .inl (fun j => nI (dv j))))])) (va_Qi (fun r _ => r = nI (psum (fun j => dv (4 * mm + j)) 4)) (fun (_ : Unit) => PostB D (gT cI cL cM) (va_A [(h0, .inr (4, [.int (nI (tz)), .int (nI (cnt)), .ref yI, .ref yD, .ref yN, .ref yW, .int (nI (te)), .int (nI (tr)), .ref yP, .ref yG, .ref yR, .ref yS, .ref yA, .ref yL, .ref yT])), (yD, .inl (cI, 84, .inl (fun j => nI (dv j))))] sz) [(h0, .inr (4, [.int (nI (tz)), .int (nI (cnt)), .ref yI, .ref yD, .ref yN, .ref yW, .int (nI (te)), .int (nI (tr)), .ref yP, .ref yG, .ref yR, .ref yS, .ref yA, .ref yL, .ref yT])), (yD, .inl (cI, 84, .inl (fun j => nI (dv j))))]) (va_A [(h0, .inr (4, [.int (nI (tz)), .int (nI (cnt)), .ref yI, .ref yD, .ref yN, .ref yW, .int (nI (te)), .int (nI (tr)), .ref yP, .ref yG, .ref yR, .ref yS, .ref yA, .ref yL, .ref yT])), (yD, .inl (cI, 84, .inl (fun j => nI (dv j))))] sz)) 0 0 (va_A [(h0, .inr (4, [.int (nI (tz)), .int (nI (cnt)), .ref yI, .ref yD, .ref yN, .ref yW, .int (nI (te)), .int (nI (tr)), .ref yP, .ref yG, .ref yR, .ref yS, .ref yA, .ref yL, .ref yT])), (yD, .inl (cI, 84, .inl (fun j => nI (dv j))))] sz) := by
  refine k_start (fun A => (va_Qi (fun r _ => r = nI (psum (fun j => dv (4 * mm + j)) 4)) (fun (_ : Unit) => PostB D (gT cI cL cM) A [(h0, .inr (4, [.int (nI (tz)), .int (nI (cnt)), .ref yI, .ref yD, .ref yN, .ref yW, .int (nI (te)), .int (nI (tr)), .ref yP, .ref yG, .ref yR, .ref yS, .ref yA, .ref yL, .ref yT])), (yD, .inl (cI, 84, .inl (fun j => nI (dv j))))]) A)) (cc := cX4_declared) (maxL := 2) (ret := (some .int)) (by decide) rfl (Nat.le_of_ble_eq_true rfl) ?_
  intro p e s m below meth c A ls hx hb hr hts hown hlocks hin hml hP hK hD hA hS hl
  have hl : lv_has ls 2 [(0, .ref h0), (1, .int (nI (mm)))] := hl
  have hown : s.vm.findClass RX4 = some m.cls := hown
  refine lv_aload_n hx hb dX4_declared_0 rfl (lv_at hl 0 rfl) ?_
  refine va_get (D := D) (cl := vwCl) (ci := 4) (v := .ref yD) (C := RX4) (T := TX4) (N := 15) hx hb hts in_X4_declared_X4 hown hK hP 0 rfl rfl 3 (by decide) (hts (.fieldLink RX4 13 "BulkSamplesModel" "depths" "[I") fl_X4_declared_13) (fun _ h9 => h9) rfl dX4_declared_1 ?_
  refine lv_iconst (v := nI (4)) hx hb dX4_declared_4 (by decide) ?_
  refine lv_iload_n hx hb dX4_declared_5 rfl (lv_at hl 1 rfl) ?_
  refine n_imul (r := 4 * mm) hx hb dX4_declared_6 rfl ?_
  refine n_iald (x := nI (dv (4 * mm))) hx hb hK hP 1 0 rfl rfl (by omega) (by omega) rfl dX4_declared_7 ?_
  refine lv_aload_n hx hb dX4_declared_8 rfl (lv_at hl 0 rfl) ?_
  refine va_get (D := D) (cl := vwCl) (ci := 4) (v := .ref yD) (C := RX4) (T := TX4) (N := 15) hx hb hts in_X4_declared_X4 hown hK hP 0 rfl rfl 3 (by decide) (hts (.fieldLink RX4 13 "BulkSamplesModel" "depths" "[I") fl_X4_declared_13) (fun _ h9 => h9) rfl dX4_declared_9 ?_
  refine lv_iconst (v := nI (4)) hx hb dX4_declared_12 (by decide) ?_
  refine lv_iload_n hx hb dX4_declared_13 rfl (lv_at hl 1 rfl) ?_
  refine n_imul (r := 4 * mm) hx hb dX4_declared_14 rfl ?_
  refine lv_iconst (v := nI (1)) hx hb dX4_declared_15 (by decide) ?_
  refine n_iadd (r := (4 * mm) + 1) hx hb dX4_declared_16 rfl ?_
  refine n_iald (x := nI (dv ((4 * mm) + 1))) hx hb hK hP 1 0 rfl rfl (by omega) (by omega) rfl dX4_declared_17 ?_
  refine n_iadd (r := (dv (4 * mm)) + (dv ((4 * mm) + 1))) hx hb dX4_declared_18 rfl ?_
  refine lv_aload_n hx hb dX4_declared_19 rfl (lv_at hl 0 rfl) ?_
  refine va_get (D := D) (cl := vwCl) (ci := 4) (v := .ref yD) (C := RX4) (T := TX4) (N := 15) hx hb hts in_X4_declared_X4 hown hK hP 0 rfl rfl 3 (by decide) (hts (.fieldLink RX4 13 "BulkSamplesModel" "depths" "[I") fl_X4_declared_13) (fun _ h9 => h9) rfl dX4_declared_20 ?_
  refine lv_iconst (v := nI (4)) hx hb dX4_declared_23 (by decide) ?_
  refine lv_iload_n hx hb dX4_declared_24 rfl (lv_at hl 1 rfl) ?_
  refine n_imul (r := 4 * mm) hx hb dX4_declared_25 rfl ?_
  refine lv_iconst (v := nI (2)) hx hb dX4_declared_26 (by decide) ?_
  refine n_iadd (r := (4 * mm) + 2) hx hb dX4_declared_27 rfl ?_
  refine n_iald (x := nI (dv ((4 * mm) + 2))) hx hb hK hP 1 0 rfl rfl (by omega) (by omega) rfl dX4_declared_28 ?_
  refine n_iadd (r := ((dv (4 * mm)) + (dv ((4 * mm) + 1))) + (dv ((4 * mm) + 2))) hx hb dX4_declared_29 rfl ?_
  refine lv_aload_n hx hb dX4_declared_30 rfl (lv_at hl 0 rfl) ?_
  refine va_get (D := D) (cl := vwCl) (ci := 4) (v := .ref yD) (C := RX4) (T := TX4) (N := 15) hx hb hts in_X4_declared_X4 hown hK hP 0 rfl rfl 3 (by decide) (hts (.fieldLink RX4 13 "BulkSamplesModel" "depths" "[I") fl_X4_declared_13) (fun _ h9 => h9) rfl dX4_declared_31 ?_
  refine lv_iconst (v := nI (4)) hx hb dX4_declared_34 (by decide) ?_
  refine lv_iload_n hx hb dX4_declared_35 rfl (lv_at hl 1 rfl) ?_
  refine n_imul (r := 4 * mm) hx hb dX4_declared_36 rfl ?_
  refine lv_iconst (v := nI (3)) hx hb dX4_declared_37 (by decide) ?_
  refine n_iadd (r := (4 * mm) + 3) hx hb dX4_declared_38 rfl ?_
  refine n_iald (x := nI (dv ((4 * mm) + 3))) hx hb hK hP 1 0 rfl rfl (by omega) (by omega) rfl dX4_declared_39 ?_
  refine n_iadd (r := psum (fun j => dv (4 * mm + j)) 4) hx hb dX4_declared_40 (by simp [psum]) ?_
  exact k_iret (v := nI (psum (fun j => dv (4 * mm + j)) 4)) hx hb hr hlocks hP hD hK hS [0, 1] () rfl (by decide) rfl dX4_declared_41
theorem in_X4_wrongOf_X4 : ∀ w ∈ wsX40, w ∈ wsX4_wrongOf := by decide +kernel
theorem fl_X4_wrongOf_19 : Cond.fieldLink RX4 19 "BulkSamplesModel" "wrongs" "[I" ∈ wsX4_wrongOf := by decide +kernel
set_option maxHeartbeats 4000000 in
set_option maxRecDepth 100000 in
/-- a sum -/
theorem d_wof (l : Launch) (D : va_G) (cI cL cM : ClassId) (sz : Nat) (h0 yI yD yN yW yP yG yR yS yA yL yT tz cnt te tr : Nat) (wv : Nat → Nat) (mm : Nat) (hmm : mm ≤ 20) : Met l yX4_wrongOf wsX4_wrongOf ({ frames := 0, cells := 0, slots := 0, locals := 0 } : Room) (va_Pc [.ref h0, .int (nI (mm))] (PreB D (gT cI cL cM) sz [(h0, .inr (4, [.int (nI (tz)), .int (nI (cnt)), .ref yI, .ref yD, .ref yN, .ref yW, .int (nI (te)), .int (nI (tr)), .ref yP, .ref yG, .ref yR, .ref yS, .ref yA, .ref yL, .ref yT])), (yW, .inl (cI, 63, .inl (fun j => nI (wv j))))])) (va_Qi (fun r _ => r = nI (psum (fun j => wv (3 * mm + j)) 3)) (fun (_ : Unit) => PostB D (gT cI cL cM) (va_A [(h0, .inr (4, [.int (nI (tz)), .int (nI (cnt)), .ref yI, .ref yD, .ref yN, .ref yW, .int (nI (te)), .int (nI (tr)), .ref yP, .ref yG, .ref yR, .ref yS, .ref yA, .ref yL, .ref yT])), (yW, .inl (cI, 63, .inl (fun j => nI (wv j))))] sz) [(h0, .inr (4, [.int (nI (tz)), .int (nI (cnt)), .ref yI, .ref yD, .ref yN, .ref yW, .int (nI (te)), .int (nI (tr)), .ref yP, .ref yG, .ref yR, .ref yS, .ref yA, .ref yL, .ref yT])), (yW, .inl (cI, 63, .inl (fun j => nI (wv j))))]) (va_A [(h0, .inr (4, [.int (nI (tz)), .int (nI (cnt)), .ref yI, .ref yD, .ref yN, .ref yW, .int (nI (te)), .int (nI (tr)), .ref yP, .ref yG, .ref yR, .ref yS, .ref yA, .ref yL, .ref yT])), (yW, .inl (cI, 63, .inl (fun j => nI (wv j))))] sz)) 0 0 (va_A [(h0, .inr (4, [.int (nI (tz)), .int (nI (cnt)), .ref yI, .ref yD, .ref yN, .ref yW, .int (nI (te)), .int (nI (tr)), .ref yP, .ref yG, .ref yR, .ref yS, .ref yA, .ref yL, .ref yT])), (yW, .inl (cI, 63, .inl (fun j => nI (wv j))))] sz) := by
  refine k_start (fun A => (va_Qi (fun r _ => r = nI (psum (fun j => wv (3 * mm + j)) 3)) (fun (_ : Unit) => PostB D (gT cI cL cM) A [(h0, .inr (4, [.int (nI (tz)), .int (nI (cnt)), .ref yI, .ref yD, .ref yN, .ref yW, .int (nI (te)), .int (nI (tr)), .ref yP, .ref yG, .ref yR, .ref yS, .ref yA, .ref yL, .ref yT])), (yW, .inl (cI, 63, .inl (fun j => nI (wv j))))]) A)) (cc := cX4_wrongOf) (maxL := 2) (ret := (some .int)) (by decide) rfl (Nat.le_of_ble_eq_true rfl) ?_
  intro p e s m below meth c A ls hx hb hr hts hown hlocks hin hml hP hK hD hA hS hl
  have hl : lv_has ls 2 [(0, .ref h0), (1, .int (nI (mm)))] := hl
  have hown : s.vm.findClass RX4 = some m.cls := hown
  refine lv_aload_n hx hb dX4_wrongOf_0 rfl (lv_at hl 0 rfl) ?_
  refine va_get (D := D) (cl := vwCl) (ci := 4) (v := .ref yW) (C := RX4) (T := TX4) (N := 15) hx hb hts in_X4_wrongOf_X4 hown hK hP 0 rfl rfl 5 (by decide) (hts (.fieldLink RX4 19 "BulkSamplesModel" "wrongs" "[I") fl_X4_wrongOf_19) (fun _ h9 => h9) rfl dX4_wrongOf_1 ?_
  refine lv_iconst (v := nI (3)) hx hb dX4_wrongOf_4 (by decide) ?_
  refine lv_iload_n hx hb dX4_wrongOf_5 rfl (lv_at hl 1 rfl) ?_
  refine n_imul (r := 3 * mm) hx hb dX4_wrongOf_6 rfl ?_
  refine n_iald (x := nI (wv (3 * mm))) hx hb hK hP 1 0 rfl rfl (by omega) (by omega) rfl dX4_wrongOf_7 ?_
  refine lv_aload_n hx hb dX4_wrongOf_8 rfl (lv_at hl 0 rfl) ?_
  refine va_get (D := D) (cl := vwCl) (ci := 4) (v := .ref yW) (C := RX4) (T := TX4) (N := 15) hx hb hts in_X4_wrongOf_X4 hown hK hP 0 rfl rfl 5 (by decide) (hts (.fieldLink RX4 19 "BulkSamplesModel" "wrongs" "[I") fl_X4_wrongOf_19) (fun _ h9 => h9) rfl dX4_wrongOf_9 ?_
  refine lv_iconst (v := nI (3)) hx hb dX4_wrongOf_12 (by decide) ?_
  refine lv_iload_n hx hb dX4_wrongOf_13 rfl (lv_at hl 1 rfl) ?_
  refine n_imul (r := 3 * mm) hx hb dX4_wrongOf_14 rfl ?_
  refine lv_iconst (v := nI (1)) hx hb dX4_wrongOf_15 (by decide) ?_
  refine n_iadd (r := (3 * mm) + 1) hx hb dX4_wrongOf_16 rfl ?_
  refine n_iald (x := nI (wv ((3 * mm) + 1))) hx hb hK hP 1 0 rfl rfl (by omega) (by omega) rfl dX4_wrongOf_17 ?_
  refine n_iadd (r := (wv (3 * mm)) + (wv ((3 * mm) + 1))) hx hb dX4_wrongOf_18 rfl ?_
  refine lv_aload_n hx hb dX4_wrongOf_19 rfl (lv_at hl 0 rfl) ?_
  refine va_get (D := D) (cl := vwCl) (ci := 4) (v := .ref yW) (C := RX4) (T := TX4) (N := 15) hx hb hts in_X4_wrongOf_X4 hown hK hP 0 rfl rfl 5 (by decide) (hts (.fieldLink RX4 19 "BulkSamplesModel" "wrongs" "[I") fl_X4_wrongOf_19) (fun _ h9 => h9) rfl dX4_wrongOf_20 ?_
  refine lv_iconst (v := nI (3)) hx hb dX4_wrongOf_23 (by decide) ?_
  refine lv_iload_n hx hb dX4_wrongOf_24 rfl (lv_at hl 1 rfl) ?_
  refine n_imul (r := 3 * mm) hx hb dX4_wrongOf_25 rfl ?_
  refine lv_iconst (v := nI (2)) hx hb dX4_wrongOf_26 (by decide) ?_
  refine n_iadd (r := (3 * mm) + 2) hx hb dX4_wrongOf_27 rfl ?_
  refine n_iald (x := nI (wv ((3 * mm) + 2))) hx hb hK hP 1 0 rfl rfl (by omega) (by omega) rfl dX4_wrongOf_28 ?_
  refine n_iadd (r := psum (fun j => wv (3 * mm + j)) 3) hx hb dX4_wrongOf_29 (by simp [psum]) ?_
  exact k_iret (v := nI (psum (fun j => wv (3 * mm + j)) 3)) hx hb hr hlocks hP hD hK hS [0, 1] () rfl (by decide) rfl dX4_wrongOf_30
theorem in_X4_depth_X4 : ∀ w ∈ wsX40, w ∈ wsX4_depth := by decide +kernel
theorem fl_X4_depth_13 : Cond.fieldLink RX4 13 "BulkSamplesModel" "depths" "[I" ∈ wsX4_depth := by decide +kernel
theorem fl_X4_depth_16 : Cond.fieldLink RX4 16 "BulkSamplesModel" "drawn" "[I" ∈ wsX4_depth := by decide +kernel
theorem fl_X4_depth_48 : Cond.fieldLink RX4 48 "BulkSamplesModel" "thrown" "I" ∈ wsX4_depth := by decide +kernel
theorem fl_X4_depth_51 : Cond.fieldLink RX4 51 "BulkSamplesModel" "mailings" "I" ∈ wsX4_depth := by decide +kernel
theorem fl_X4_depth_7 : Cond.fieldLink RX4 7 "BulkSamplesModel" "items" "[I" ∈ wsX4_depth := by decide +kernel
set_option maxHeartbeats 4000000 in
set_option maxRecDepth 100000 in
/-- no such mailing -/
theorem d_d_un (l : Launch) (D : va_G) (cI cL cM : ClassId) (sz : Nat) (h0 yI yD yN yW yP yG yR yS yA yL yT tz cnt te tr : Nat) (x : Int32) (d9 n9 : Int32) (hno : x ≤ 0 ∨ nI cnt < x) : Met l yX4_depth wsX4_depth ({ frames := 1, cells := 0, slots := 0, locals := 21 } : Room) (va_Pc [.ref h0, .int x, .int d9, .int n9] (PreB D (gT cI cL cM) sz [(h0, .inr (4, [.int (nI (tz)), .int (nI (cnt)), .ref yI, .ref yD, .ref yN, .ref yW, .int (nI (te)), .int (nI (tr)), .ref yP, .ref yG, .ref yR, .ref yS, .ref yA, .ref yL, .ref yT]))])) (va_Qi (fun r _ => r = -11) (fun (_ : Unit) => PostB D (gT cI cL cM) (va_A [(h0, .inr (4, [.int (nI (tz)), .int (nI (cnt)), .ref yI, .ref yD, .ref yN, .ref yW, .int (nI (te)), .int (nI (tr)), .ref yP, .ref yG, .ref yR, .ref yS, .ref yA, .ref yL, .ref yT]))] sz) [(h0, .inr (4, [.int (nI (0)), .int (nI (cnt)), .ref yI, .ref yD, .ref yN, .ref yW, .int (nI (te)), .int (nI (tr)), .ref yP, .ref yG, .ref yR, .ref yS, .ref yA, .ref yL, .ref yT]))]) (va_A [(h0, .inr (4, [.int (nI (tz)), .int (nI (cnt)), .ref yI, .ref yD, .ref yN, .ref yW, .int (nI (te)), .int (nI (tr)), .ref yP, .ref yG, .ref yR, .ref yS, .ref yA, .ref yL, .ref yT]))] sz)) 0 0 (va_A [(h0, .inr (4, [.int (nI (tz)), .int (nI (cnt)), .ref yI, .ref yD, .ref yN, .ref yW, .int (nI (te)), .int (nI (tr)), .ref yP, .ref yG, .ref yR, .ref yS, .ref yA, .ref yL, .ref yT]))] sz) := by
  refine k_start (fun A => (va_Qi (fun r _ => r = -11) (fun (_ : Unit) => PostB D (gT cI cL cM) A [(h0, .inr (4, [.int (nI (0)), .int (nI (cnt)), .ref yI, .ref yD, .ref yN, .ref yW, .int (nI (te)), .int (nI (tr)), .ref yP, .ref yG, .ref yR, .ref yS, .ref yA, .ref yL, .ref yT]))]) A)) (cc := cX4_depth) (maxL := 5) (ret := (some .int)) (by decide) rfl (Nat.le_of_ble_eq_true rfl) ?_
  intro p e s m below meth c A ls hx hb hr hts hown hlocks hin hml hP hK hD hA hS hl
  have hl : lv_has ls 5 [(0, .ref h0), (1, .int x), (2, .int d9), (3, .int n9)] := hl
  have hown : s.vm.findClass RX4 = some m.cls := hown
  refine lv_aload_n hx hb dX4_depth_0 rfl (lv_at hl 0 rfl) ?_
  refine lv_iconst (v := nI (0)) hx hb dX4_depth_1 (by decide) ?_
  refine va_put (D := D) (cl := vwCl) (ci := 4) (v := .int (nI (0))) (ty := tyX4 0) (C := RX4) (T := TX4) (N := 15) hx hb hts in_X4_depth_X4 tyX4 tyX4_ok nmX4 hown hK hP hD hS 0 rfl rfl 0 (by decide) (hts (.fieldLink RX4 48 "BulkSamplesModel" "thrown" "I") fl_X4_depth_48) (fun _ h9 => h9) rfl (by decide +kernel) rfl rfl (Nat.le_of_ble_eq_true rfl) dX4_depth_2 (fun H locs hP hD hS => ?_)
  have hP : va_P D vwCl [(h0, .inr (4, [.int (nI (0)), .int (nI (cnt)), .ref yI, .ref yD, .ref yN, .ref yW, .int (nI (te)), .int (nI (tr)), .ref yP, .ref yG, .ref yR, .ref yS, .ref yA, .ref yL, .ref yT]))] H := hP
  have hD : va_D A [(h0, .inr (4, [.int (nI (0)), .int (nI (cnt)), .ref yI, .ref yD, .ref yN, .ref yW, .int (nI (te)), .int (nI (tr)), .ref yP, .ref yG, .ref yR, .ref yS, .ref yA, .ref yL, .ref yT]))] := hD
  refine lv_aload_n hx hb dX4_depth_5 rfl (lv_at hl 0 rfl) ?_
  refine lv_iload_n hx hb dX4_depth_6 rfl (lv_at hl 1 rfl) ?_
  refine k_calli (wc := [(h0, .inr (4, [.int (nI (0)), .int (nI (cnt)), .ref yI, .ref yD, .ref yN, .ref yW, .int (nI (te)), .int (nI (tr)), .ref yP, .ref yG, .ref yR, .ref yS, .ref yA, .ref yL, .ref yT]))]) (wr := []) (W1 := fun _ => [(h0, .inr (4, [.int (nI (0)), .int (nI (cnt)), .ref yI, .ref yD, .ref yN, .ref yW, .int (nI (te)), .int (nI (tr)), .ref yP, .ref yG, .ref yR, .ref yS, .ref yA, .ref yL, .ref yT]))]) hP hD hS hA [0] [] [0] rfl rfl (by decide) (by decide) (fun _ => rfl) (by decide) (va_runV (As := [.int x]) (rest := []) ⟨hx, hb, hml, hown, hts⟩ (d_is_no l D cI cL cM H.size h0 yI yD yN yW yP yG yR yS yA yL yT 0 cnt te tr x hno) (cwV 1 hts gX4_depth_X4_isMailing rfl rfl rfl (by decide +kernel) ⟨Nat.le_of_ble_eq_true rfl, Nat.le_of_ble_eq_true rfl⟩) (k_preV hP hD hK [0] rfl (by decide) 0 rfl rfl rfl) rfl rfl hl.1 rfl (lv_room (Nat.le_of_ble_eq_true rfl)) dX4_depth_7 ⟨Nat.le_of_ble_eq_true rfl, Nat.le_of_ble_eq_true rfl⟩) (fun r_1 _ H locs hw hP hD hS => ?_)
  obtain rfl : r_1 = nI (0) := hw
  refine n_if_ne (tgt := 16) hx hb (by omega) dX4_depth_10 (by decide) (fun c_2 => False.elim (by omega)) (fun c_2 => ?_)
  refine lv_bipush (v := (-11)) hx hb dX4_depth_13 (by decide) ?_
  refine W.widen (k := 0) (n := 0) (Nat.le_of_ble_eq_true rfl) (Nat.le_of_ble_eq_true rfl) ?_
  exact k_iret (v := (-11)) hx hb hr hlocks hP hD hK hS [0] () rfl (by decide) rfl dX4_depth_15
theorem in_X4_wrong_X4 : ∀ w ∈ wsX40, w ∈ wsX4_wrong := by decide +kernel
theorem fl_X4_wrong_16 : Cond.fieldLink RX4 16 "BulkSamplesModel" "drawn" "[I" ∈ wsX4_wrong := by decide +kernel
theorem fl_X4_wrong_19 : Cond.fieldLink RX4 19 "BulkSamplesModel" "wrongs" "[I" ∈ wsX4_wrong := by decide +kernel
theorem fl_X4_wrong_48 : Cond.fieldLink RX4 48 "BulkSamplesModel" "thrown" "I" ∈ wsX4_wrong := by decide +kernel
theorem fl_X4_wrong_51 : Cond.fieldLink RX4 51 "BulkSamplesModel" "mailings" "I" ∈ wsX4_wrong := by decide +kernel
set_option maxHeartbeats 4000000 in
set_option maxRecDepth 100000 in
/-- no such mailing -/
theorem d_w_un (l : Launch) (D : va_G) (cI cL cM : ClassId) (sz : Nat) (h0 yI yD yN yW yP yG yR yS yA yL yT tz cnt te tr : Nat) (x : Int32) (d9 n9 : Int32) (hno : x ≤ 0 ∨ nI cnt < x) : Met l yX4_wrong wsX4_wrong ({ frames := 1, cells := 0, slots := 0, locals := 21 } : Room) (va_Pc [.ref h0, .int x, .int d9, .int n9] (PreB D (gT cI cL cM) sz [(h0, .inr (4, [.int (nI (tz)), .int (nI (cnt)), .ref yI, .ref yD, .ref yN, .ref yW, .int (nI (te)), .int (nI (tr)), .ref yP, .ref yG, .ref yR, .ref yS, .ref yA, .ref yL, .ref yT]))])) (va_Qi (fun r _ => r = -11) (fun (_ : Unit) => PostB D (gT cI cL cM) (va_A [(h0, .inr (4, [.int (nI (tz)), .int (nI (cnt)), .ref yI, .ref yD, .ref yN, .ref yW, .int (nI (te)), .int (nI (tr)), .ref yP, .ref yG, .ref yR, .ref yS, .ref yA, .ref yL, .ref yT]))] sz) [(h0, .inr (4, [.int (nI (0)), .int (nI (cnt)), .ref yI, .ref yD, .ref yN, .ref yW, .int (nI (te)), .int (nI (tr)), .ref yP, .ref yG, .ref yR, .ref yS, .ref yA, .ref yL, .ref yT]))]) (va_A [(h0, .inr (4, [.int (nI (tz)), .int (nI (cnt)), .ref yI, .ref yD, .ref yN, .ref yW, .int (nI (te)), .int (nI (tr)), .ref yP, .ref yG, .ref yR, .ref yS, .ref yA, .ref yL, .ref yT]))] sz)) 0 0 (va_A [(h0, .inr (4, [.int (nI (tz)), .int (nI (cnt)), .ref yI, .ref yD, .ref yN, .ref yW, .int (nI (te)), .int (nI (tr)), .ref yP, .ref yG, .ref yR, .ref yS, .ref yA, .ref yL, .ref yT]))] sz) := by
  refine k_start (fun A => (va_Qi (fun r _ => r = -11) (fun (_ : Unit) => PostB D (gT cI cL cM) A [(h0, .inr (4, [.int (nI (0)), .int (nI (cnt)), .ref yI, .ref yD, .ref yN, .ref yW, .int (nI (te)), .int (nI (tr)), .ref yP, .ref yG, .ref yR, .ref yS, .ref yA, .ref yL, .ref yT]))]) A)) (cc := cX4_wrong) (maxL := 5) (ret := (some .int)) (by decide) rfl (Nat.le_of_ble_eq_true rfl) ?_
  intro p e s m below meth c A ls hx hb hr hts hown hlocks hin hml hP hK hD hA hS hl
  have hl : lv_has ls 5 [(0, .ref h0), (1, .int x), (2, .int d9), (3, .int n9)] := hl
  have hown : s.vm.findClass RX4 = some m.cls := hown
  refine lv_aload_n hx hb dX4_wrong_0 rfl (lv_at hl 0 rfl) ?_
  refine lv_iconst (v := nI (0)) hx hb dX4_wrong_1 (by decide) ?_
  refine va_put (D := D) (cl := vwCl) (ci := 4) (v := .int (nI (0))) (ty := tyX4 0) (C := RX4) (T := TX4) (N := 15) hx hb hts in_X4_wrong_X4 tyX4 tyX4_ok nmX4 hown hK hP hD hS 0 rfl rfl 0 (by decide) (hts (.fieldLink RX4 48 "BulkSamplesModel" "thrown" "I") fl_X4_wrong_48) (fun _ h9 => h9) rfl (by decide +kernel) rfl rfl (Nat.le_of_ble_eq_true rfl) dX4_wrong_2 (fun H locs hP hD hS => ?_)
  have hP : va_P D vwCl [(h0, .inr (4, [.int (nI (0)), .int (nI (cnt)), .ref yI, .ref yD, .ref yN, .ref yW, .int (nI (te)), .int (nI (tr)), .ref yP, .ref yG, .ref yR, .ref yS, .ref yA, .ref yL, .ref yT]))] H := hP
  have hD : va_D A [(h0, .inr (4, [.int (nI (0)), .int (nI (cnt)), .ref yI, .ref yD, .ref yN, .ref yW, .int (nI (te)), .int (nI (tr)), .ref yP, .ref yG, .ref yR, .ref yS, .ref yA, .ref yL, .ref yT]))] := hD
  refine lv_aload_n hx hb dX4_wrong_5 rfl (lv_at hl 0 rfl) ?_
  refine lv_iload_n hx hb dX4_wrong_6 rfl (lv_at hl 1 rfl) ?_
  refine k_calli (wc := [(h0, .inr (4, [.int (nI (0)), .int (nI (cnt)), .ref yI, .ref yD, .ref yN, .ref yW, .int (nI (te)), .int (nI (tr)), .ref yP, .ref yG, .ref yR, .ref yS, .ref yA, .ref yL, .ref yT]))]) (wr := []) (W1 := fun _ => [(h0, .inr (4, [.int (nI (0)), .int (nI (cnt)), .ref yI, .ref yD, .ref yN, .ref yW, .int (nI (te)), .int (nI (tr)), .ref yP, .ref yG, .ref yR, .ref yS, .ref yA, .ref yL, .ref yT]))]) hP hD hS hA [0] [] [0] rfl rfl (by decide) (by decide) (fun _ => rfl) (by decide) (va_runV (As := [.int x]) (rest := []) ⟨hx, hb, hml, hown, hts⟩ (d_is_no l D cI cL cM H.size h0 yI yD yN yW yP yG yR yS yA yL yT 0 cnt te tr x hno) (cwV 1 hts gX4_wrong_X4_isMailing rfl rfl rfl (by decide +kernel) ⟨Nat.le_of_ble_eq_true rfl, Nat.le_of_ble_eq_true rfl⟩) (k_preV hP hD hK [0] rfl (by decide) 0 rfl rfl rfl) rfl rfl hl.1 rfl (lv_room (Nat.le_of_ble_eq_true rfl)) dX4_wrong_7 ⟨Nat.le_of_ble_eq_true rfl, Nat.le_of_ble_eq_true rfl⟩) (fun r_1 _ H locs hw hP hD hS => ?_)
  obtain rfl : r_1 = nI (0) := hw
  refine n_if_ne (tgt := 16) hx hb (by omega) dX4_wrong_10 (by decide) (fun c_2 => False.elim (by omega)) (fun c_2 => ?_)
  refine lv_bipush (v := (-11)) hx hb dX4_wrong_13 (by decide) ?_
  refine W.widen (k := 0) (n := 0) (Nat.le_of_ble_eq_true rfl) (Nat.le_of_ble_eq_true rfl) ?_
  exact k_iret (v := (-11)) hx hb hr hlocks hP hD hK hS [0] () rfl (by decide) rfl dX4_wrong_15
theorem in_X4_sample_X4 : ∀ w ∈ wsX40, w ∈ wsX4_sample := by decide +kernel
theorem fl_X4_sample_16 : Cond.fieldLink RX4 16 "BulkSamplesModel" "drawn" "[I" ∈ wsX4_sample := by decide +kernel
theorem fl_X4_sample_48 : Cond.fieldLink RX4 48 "BulkSamplesModel" "thrown" "I" ∈ wsX4_sample := by decide +kernel
theorem fl_X4_sample_51 : Cond.fieldLink RX4 51 "BulkSamplesModel" "mailings" "I" ∈ wsX4_sample := by decide +kernel
theorem fl_X4_sample_62 : Cond.fieldLink RX4 62 "BulkSamplesModel" "taped" "I" ∈ wsX4_sample := by decide +kernel
theorem fl_X4_sample_7 : Cond.fieldLink RX4 7 "BulkSamplesModel" "items" "[I" ∈ wsX4_sample := by decide +kernel
set_option maxHeartbeats 4000000 in
set_option maxRecDepth 100000 in
/-- no such mailing -/
theorem d_s_un (l : Launch) (D : va_G) (cI cL cM : ClassId) (sz : Nat) (h0 yI yD yN yW yP yG yR yS yA yL yT tz cnt te tr : Nat) (x : Int32) (n9 : Int32) (hno : x ≤ 0 ∨ nI cnt < x) : Met l yX4_sample wsX4_sample ({ frames := 1, cells := 0, slots := 0, locals := 21 } : Room) (va_Pc [.ref h0, .int x, .int n9] (PreB D (gT cI cL cM) sz [(h0, .inr (4, [.int (nI (tz)), .int (nI (cnt)), .ref yI, .ref yD, .ref yN, .ref yW, .int (nI (te)), .int (nI (tr)), .ref yP, .ref yG, .ref yR, .ref yS, .ref yA, .ref yL, .ref yT]))])) (va_Qi (fun r _ => r = -11) (fun (_ : Unit) => PostB D (gT cI cL cM) (va_A [(h0, .inr (4, [.int (nI (tz)), .int (nI (cnt)), .ref yI, .ref yD, .ref yN, .ref yW, .int (nI (te)), .int (nI (tr)), .ref yP, .ref yG, .ref yR, .ref yS, .ref yA, .ref yL, .ref yT]))] sz) [(h0, .inr (4, [.int (nI (0)), .int (nI (cnt)), .ref yI, .ref yD, .ref yN, .ref yW, .int (nI (te)), .int (nI (tr)), .ref yP, .ref yG, .ref yR, .ref yS, .ref yA, .ref yL, .ref yT]))]) (va_A [(h0, .inr (4, [.int (nI (tz)), .int (nI (cnt)), .ref yI, .ref yD, .ref yN, .ref yW, .int (nI (te)), .int (nI (tr)), .ref yP, .ref yG, .ref yR, .ref yS, .ref yA, .ref yL, .ref yT]))] sz)) 0 0 (va_A [(h0, .inr (4, [.int (nI (tz)), .int (nI (cnt)), .ref yI, .ref yD, .ref yN, .ref yW, .int (nI (te)), .int (nI (tr)), .ref yP, .ref yG, .ref yR, .ref yS, .ref yA, .ref yL, .ref yT]))] sz) := by
  refine k_start (fun A => (va_Qi (fun r _ => r = -11) (fun (_ : Unit) => PostB D (gT cI cL cM) A [(h0, .inr (4, [.int (nI (0)), .int (nI (cnt)), .ref yI, .ref yD, .ref yN, .ref yW, .int (nI (te)), .int (nI (tr)), .ref yP, .ref yG, .ref yR, .ref yS, .ref yA, .ref yL, .ref yT]))]) A)) (cc := cX4_sample) (maxL := 4) (ret := (some .int)) (by decide) rfl (Nat.le_of_ble_eq_true rfl) ?_
  intro p e s m below meth c A ls hx hb hr hts hown hlocks hin hml hP hK hD hA hS hl
  have hl : lv_has ls 4 [(0, .ref h0), (1, .int x), (2, .int n9)] := hl
  have hown : s.vm.findClass RX4 = some m.cls := hown
  refine lv_aload_n hx hb dX4_sample_0 rfl (lv_at hl 0 rfl) ?_
  refine lv_iconst (v := nI (0)) hx hb dX4_sample_1 (by decide) ?_
  refine va_put (D := D) (cl := vwCl) (ci := 4) (v := .int (nI (0))) (ty := tyX4 0) (C := RX4) (T := TX4) (N := 15) hx hb hts in_X4_sample_X4 tyX4 tyX4_ok nmX4 hown hK hP hD hS 0 rfl rfl 0 (by decide) (hts (.fieldLink RX4 48 "BulkSamplesModel" "thrown" "I") fl_X4_sample_48) (fun _ h9 => h9) rfl (by decide +kernel) rfl rfl (Nat.le_of_ble_eq_true rfl) dX4_sample_2 (fun H locs hP hD hS => ?_)
  have hP : va_P D vwCl [(h0, .inr (4, [.int (nI (0)), .int (nI (cnt)), .ref yI, .ref yD, .ref yN, .ref yW, .int (nI (te)), .int (nI (tr)), .ref yP, .ref yG, .ref yR, .ref yS, .ref yA, .ref yL, .ref yT]))] H := hP
  have hD : va_D A [(h0, .inr (4, [.int (nI (0)), .int (nI (cnt)), .ref yI, .ref yD, .ref yN, .ref yW, .int (nI (te)), .int (nI (tr)), .ref yP, .ref yG, .ref yR, .ref yS, .ref yA, .ref yL, .ref yT]))] := hD
  refine lv_aload_n hx hb dX4_sample_5 rfl (lv_at hl 0 rfl) ?_
  refine lv_iload_n hx hb dX4_sample_6 rfl (lv_at hl 1 rfl) ?_
  refine k_calli (wc := [(h0, .inr (4, [.int (nI (0)), .int (nI (cnt)), .ref yI, .ref yD, .ref yN, .ref yW, .int (nI (te)), .int (nI (tr)), .ref yP, .ref yG, .ref yR, .ref yS, .ref yA, .ref yL, .ref yT]))]) (wr := []) (W1 := fun _ => [(h0, .inr (4, [.int (nI (0)), .int (nI (cnt)), .ref yI, .ref yD, .ref yN, .ref yW, .int (nI (te)), .int (nI (tr)), .ref yP, .ref yG, .ref yR, .ref yS, .ref yA, .ref yL, .ref yT]))]) hP hD hS hA [0] [] [0] rfl rfl (by decide) (by decide) (fun _ => rfl) (by decide) (va_runV (As := [.int x]) (rest := []) ⟨hx, hb, hml, hown, hts⟩ (d_is_no l D cI cL cM H.size h0 yI yD yN yW yP yG yR yS yA yL yT 0 cnt te tr x hno) (cwV 1 hts gX4_sample_X4_isMailing rfl rfl rfl (by decide +kernel) ⟨Nat.le_of_ble_eq_true rfl, Nat.le_of_ble_eq_true rfl⟩) (k_preV hP hD hK [0] rfl (by decide) 0 rfl rfl rfl) rfl rfl hl.1 rfl (lv_room (Nat.le_of_ble_eq_true rfl)) dX4_sample_7 ⟨Nat.le_of_ble_eq_true rfl, Nat.le_of_ble_eq_true rfl⟩) (fun r_1 _ H locs hw hP hD hS => ?_)
  obtain rfl : r_1 = nI (0) := hw
  refine n_if_ne (tgt := 16) hx hb (by omega) dX4_sample_10 (by decide) (fun c_2 => False.elim (by omega)) (fun c_2 => ?_)
  refine lv_bipush (v := (-11)) hx hb dX4_sample_13 (by decide) ?_
  refine W.widen (k := 0) (n := 0) (Nat.le_of_ble_eq_true rfl) (Nat.le_of_ble_eq_true rfl) ?_
  exact k_iret (v := (-11)) hx hb hr hlocks hP hD hK hS [0] () rfl (by decide) rfl dX4_sample_15
set_option maxHeartbeats 4000000 in
set_option maxRecDepth 100000 in
/-- OUTSIDE by its numbers -/
theorem d_d_bad (l : Launch) (D : va_G) (cI cL cM : ClassId) (sz : Nat) (h0 yI yD yN yW yP yG yR yS yA yL yT tz cnt te tr : Nat) (mm : Nat) (h1m : 1 ≤ mm) (hmm : mm ≤ cnt) (hc : cnt ≤ 20) (d9 n9 : Int32) (hbad : d9 < 0 ∨ nI (3 + 1) ≤ d9 ∨ n9 < 0) : Met l yX4_depth wsX4_depth ({ frames := 1, cells := 0, slots := 0, locals := 21 } : Room) (va_Pc [.ref h0, .int (nI (mm)), .int d9, .int n9] (PreB D (gT cI cL cM) sz [(h0, .inr (4, [.int (nI (tz)), .int (nI (cnt)), .ref yI, .ref yD, .ref yN, .ref yW, .int (nI (te)), .int (nI (tr)), .ref yP, .ref yG, .ref yR, .ref yS, .ref yA, .ref yL, .ref yT]))])) (va_Qi (fun r _ => r = -12) (fun (_ : Unit) => PostB D (gT cI cL cM) (va_A [(h0, .inr (4, [.int (nI (tz)), .int (nI (cnt)), .ref yI, .ref yD, .ref yN, .ref yW, .int (nI (te)), .int (nI (tr)), .ref yP, .ref yG, .ref yR, .ref yS, .ref yA, .ref yL, .ref yT]))] sz) [(h0, .inr (4, [.int (nI (0)), .int (nI (cnt)), .ref yI, .ref yD, .ref yN, .ref yW, .int (nI (te)), .int (nI (tr)), .ref yP, .ref yG, .ref yR, .ref yS, .ref yA, .ref yL, .ref yT]))]) (va_A [(h0, .inr (4, [.int (nI (tz)), .int (nI (cnt)), .ref yI, .ref yD, .ref yN, .ref yW, .int (nI (te)), .int (nI (tr)), .ref yP, .ref yG, .ref yR, .ref yS, .ref yA, .ref yL, .ref yT]))] sz)) 0 0 (va_A [(h0, .inr (4, [.int (nI (tz)), .int (nI (cnt)), .ref yI, .ref yD, .ref yN, .ref yW, .int (nI (te)), .int (nI (tr)), .ref yP, .ref yG, .ref yR, .ref yS, .ref yA, .ref yL, .ref yT]))] sz) := by
  refine k_start (fun A => (va_Qi (fun r _ => r = -12) (fun (_ : Unit) => PostB D (gT cI cL cM) A [(h0, .inr (4, [.int (nI (0)), .int (nI (cnt)), .ref yI, .ref yD, .ref yN, .ref yW, .int (nI (te)), .int (nI (tr)), .ref yP, .ref yG, .ref yR, .ref yS, .ref yA, .ref yL, .ref yT]))]) A)) (cc := cX4_depth) (maxL := 5) (ret := (some .int)) (by decide) rfl (Nat.le_of_ble_eq_true rfl) ?_
  intro p e s m below meth c A ls hx hb hr hts hown hlocks hin hml hP hK hD hA hS hl
  have hl : lv_has ls 5 [(0, .ref h0), (1, .int (nI (mm))), (2, .int d9), (3, .int n9)] := hl
  have hown : s.vm.findClass RX4 = some m.cls := hown
  refine lv_aload_n hx hb dX4_depth_0 rfl (lv_at hl 0 rfl) ?_
  refine lv_iconst (v := nI (0)) hx hb dX4_depth_1 (by decide) ?_
  refine va_put (D := D) (cl := vwCl) (ci := 4) (v := .int (nI (0))) (ty := tyX4 0) (C := RX4) (T := TX4) (N := 15) hx hb hts in_X4_depth_X4 tyX4 tyX4_ok nmX4 hown hK hP hD hS 0 rfl rfl 0 (by decide) (hts (.fieldLink RX4 48 "BulkSamplesModel" "thrown" "I") fl_X4_depth_48) (fun _ h9 => h9) rfl (by decide +kernel) rfl rfl (Nat.le_of_ble_eq_true rfl) dX4_depth_2 (fun H locs hP hD hS => ?_)
  have hP : va_P D vwCl [(h0, .inr (4, [.int (nI (0)), .int (nI (cnt)), .ref yI, .ref yD, .ref yN, .ref yW, .int (nI (te)), .int (nI (tr)), .ref yP, .ref yG, .ref yR, .ref yS, .ref yA, .ref yL, .ref yT]))] H := hP
  have hD : va_D A [(h0, .inr (4, [.int (nI (0)), .int (nI (cnt)), .ref yI, .ref yD, .ref yN, .ref yW, .int (nI (te)), .int (nI (tr)), .ref yP, .ref yG, .ref yR, .ref yS, .ref yA, .ref yL, .ref yT]))] := hD
  refine lv_aload_n hx hb dX4_depth_5 rfl (lv_at hl 0 rfl) ?_
  refine lv_iload_n hx hb dX4_depth_6 rfl (lv_at hl 1 rfl) ?_
  refine k_calli (wc := [(h0, .inr (4, [.int (nI (0)), .int (nI (cnt)), .ref yI, .ref yD, .ref yN, .ref yW, .int (nI (te)), .int (nI (tr)), .ref yP, .ref yG, .ref yR, .ref yS, .ref yA, .ref yL, .ref yT]))]) (wr := []) (W1 := fun _ => [(h0, .inr (4, [.int (nI (0)), .int (nI (cnt)), .ref yI, .ref yD, .ref yN, .ref yW, .int (nI (te)), .int (nI (tr)), .ref yP, .ref yG, .ref yR, .ref yS, .ref yA, .ref yL, .ref yT]))]) hP hD hS hA [0] [] [0] rfl rfl (by decide) (by decide) (fun _ => rfl) (by decide) (va_runV (As := [.int (nI (mm))]) (rest := []) ⟨hx, hb, hml, hown, hts⟩ (d_is_yes l D cI cL cM H.size h0 yI yD yN yW yP yG yR yS yA yL yT 0 cnt te tr mm h1m hmm hc) (cwV 1 hts gX4_depth_X4_isMailing rfl rfl rfl (by decide +kernel) ⟨Nat.le_of_ble_eq_true rfl, Nat.le_of_ble_eq_true rfl⟩) (k_preV hP hD hK [0] rfl (by decide) 0 rfl rfl rfl) rfl rfl hl.1 rfl (lv_room (Nat.le_of_ble_eq_true rfl)) dX4_depth_7 ⟨Nat.le_of_ble_eq_true rfl, Nat.le_of_ble_eq_true rfl⟩) (fun r_1 _ H locs hw hP hD hS => ?_)
  obtain rfl : r_1 = nI (1) := hw
  refine n_if_ne (tgt := 16) hx hb (by omega) dX4_depth_10 (by decide) (fun c_2 => ?_) (fun c_2 => False.elim (by omega))
  refine lv_iload_n hx hb dX4_depth_16 rfl (lv_at hl 2 rfl) ?_
  refine lv_if_lt (tgt := 29) hx hb dX4_depth_17 (by decide) (fun c_3 => ?_) (fun c_3 => ?_)
  · refine lv_bipush (v := (-12)) hx hb dX4_depth_29 (by decide) ?_
    refine W.widen (k := 0) (n := 0) (Nat.le_of_ble_eq_true rfl) (Nat.le_of_ble_eq_true rfl) ?_
    exact k_iret (v := (-12)) hx hb hr hlocks hP hD hK hS [0] () rfl (by decide) rfl dX4_depth_31
  · refine lv_iload_n hx hb dX4_depth_20 rfl (lv_at hl 2 rfl) ?_
    refine lv_iconst (v := nI (3)) hx hb dX4_depth_21 (by decide) ?_
    refine lv_icmp_gt (tgt := 29) hx hb dX4_depth_22 (by decide) (fun c_4 => ?_) (fun c_4 => ?_)
    · refine lv_bipush (v := (-12)) hx hb dX4_depth_29 (by decide) ?_
      refine W.widen (k := 0) (n := 0) (Nat.le_of_ble_eq_true rfl) (Nat.le_of_ble_eq_true rfl) ?_
      exact k_iret (v := (-12)) hx hb hr hlocks hP hD hK hS [0] () rfl (by decide) rfl dX4_depth_31
    · have h0 : n9 < 0 := (hbad.resolve_left c_3).resolve_left (fun q => absurd (ge_gtI (by omega) q) c_4)
      refine lv_iload_n hx hb dX4_depth_25 rfl (lv_at hl 3 rfl) ?_
      refine lv_if_ge (tgt := 32) hx hb dX4_depth_26 (by decide) (fun c => absurd h0 (Int32.not_lt.mpr c)) (fun c_5 => ?_)
      refine lv_bipush (v := (-12)) hx hb dX4_depth_29 (by decide) ?_
      refine W.widen (k := 0) (n := 0) (Nat.le_of_ble_eq_true rfl) (Nat.le_of_ble_eq_true rfl) ?_
      exact k_iret (v := (-12)) hx hb hr hlocks hP hD hK hS [0] () rfl (by decide) rfl dX4_depth_31
set_option maxHeartbeats 4000000 in
set_option maxRecDepth 100000 in
/-- OUTSIDE by its numbers -/
theorem d_w_bad (l : Launch) (D : va_G) (cI cL cM : ClassId) (sz : Nat) (h0 yI yD yN yW yP yG yR yS yA yL yT tz cnt te tr : Nat) (mm : Nat) (h1m : 1 ≤ mm) (hmm : mm ≤ cnt) (hc : cnt ≤ 20) (d9 n9 : Int32) (hbad : d9 < 0 ∨ nI (2 + 1) ≤ d9 ∨ n9 < 0) : Met l yX4_wrong wsX4_wrong ({ frames := 1, cells := 0, slots := 0, locals := 21 } : Room) (va_Pc [.ref h0, .int (nI (mm)), .int d9, .int n9] (PreB D (gT cI cL cM) sz [(h0, .inr (4, [.int (nI (tz)), .int (nI (cnt)), .ref yI, .ref yD, .ref yN, .ref yW, .int (nI (te)), .int (nI (tr)), .ref yP, .ref yG, .ref yR, .ref yS, .ref yA, .ref yL, .ref yT]))])) (va_Qi (fun r _ => r = -12) (fun (_ : Unit) => PostB D (gT cI cL cM) (va_A [(h0, .inr (4, [.int (nI (tz)), .int (nI (cnt)), .ref yI, .ref yD, .ref yN, .ref yW, .int (nI (te)), .int (nI (tr)), .ref yP, .ref yG, .ref yR, .ref yS, .ref yA, .ref yL, .ref yT]))] sz) [(h0, .inr (4, [.int (nI (0)), .int (nI (cnt)), .ref yI, .ref yD, .ref yN, .ref yW, .int (nI (te)), .int (nI (tr)), .ref yP, .ref yG, .ref yR, .ref yS, .ref yA, .ref yL, .ref yT]))]) (va_A [(h0, .inr (4, [.int (nI (tz)), .int (nI (cnt)), .ref yI, .ref yD, .ref yN, .ref yW, .int (nI (te)), .int (nI (tr)), .ref yP, .ref yG, .ref yR, .ref yS, .ref yA, .ref yL, .ref yT]))] sz)) 0 0 (va_A [(h0, .inr (4, [.int (nI (tz)), .int (nI (cnt)), .ref yI, .ref yD, .ref yN, .ref yW, .int (nI (te)), .int (nI (tr)), .ref yP, .ref yG, .ref yR, .ref yS, .ref yA, .ref yL, .ref yT]))] sz) := by
  refine k_start (fun A => (va_Qi (fun r _ => r = -12) (fun (_ : Unit) => PostB D (gT cI cL cM) A [(h0, .inr (4, [.int (nI (0)), .int (nI (cnt)), .ref yI, .ref yD, .ref yN, .ref yW, .int (nI (te)), .int (nI (tr)), .ref yP, .ref yG, .ref yR, .ref yS, .ref yA, .ref yL, .ref yT]))]) A)) (cc := cX4_wrong) (maxL := 5) (ret := (some .int)) (by decide) rfl (Nat.le_of_ble_eq_true rfl) ?_
  intro p e s m below meth c A ls hx hb hr hts hown hlocks hin hml hP hK hD hA hS hl
  have hl : lv_has ls 5 [(0, .ref h0), (1, .int (nI (mm))), (2, .int d9), (3, .int n9)] := hl
  have hown : s.vm.findClass RX4 = some m.cls := hown
  refine lv_aload_n hx hb dX4_wrong_0 rfl (lv_at hl 0 rfl) ?_
  refine lv_iconst (v := nI (0)) hx hb dX4_wrong_1 (by decide) ?_
  refine va_put (D := D) (cl := vwCl) (ci := 4) (v := .int (nI (0))) (ty := tyX4 0) (C := RX4) (T := TX4) (N := 15) hx hb hts in_X4_wrong_X4 tyX4 tyX4_ok nmX4 hown hK hP hD hS 0 rfl rfl 0 (by decide) (hts (.fieldLink RX4 48 "BulkSamplesModel" "thrown" "I") fl_X4_wrong_48) (fun _ h9 => h9) rfl (by decide +kernel) rfl rfl (Nat.le_of_ble_eq_true rfl) dX4_wrong_2 (fun H locs hP hD hS => ?_)
  have hP : va_P D vwCl [(h0, .inr (4, [.int (nI (0)), .int (nI (cnt)), .ref yI, .ref yD, .ref yN, .ref yW, .int (nI (te)), .int (nI (tr)), .ref yP, .ref yG, .ref yR, .ref yS, .ref yA, .ref yL, .ref yT]))] H := hP
  have hD : va_D A [(h0, .inr (4, [.int (nI (0)), .int (nI (cnt)), .ref yI, .ref yD, .ref yN, .ref yW, .int (nI (te)), .int (nI (tr)), .ref yP, .ref yG, .ref yR, .ref yS, .ref yA, .ref yL, .ref yT]))] := hD
  refine lv_aload_n hx hb dX4_wrong_5 rfl (lv_at hl 0 rfl) ?_
  refine lv_iload_n hx hb dX4_wrong_6 rfl (lv_at hl 1 rfl) ?_
  refine k_calli (wc := [(h0, .inr (4, [.int (nI (0)), .int (nI (cnt)), .ref yI, .ref yD, .ref yN, .ref yW, .int (nI (te)), .int (nI (tr)), .ref yP, .ref yG, .ref yR, .ref yS, .ref yA, .ref yL, .ref yT]))]) (wr := []) (W1 := fun _ => [(h0, .inr (4, [.int (nI (0)), .int (nI (cnt)), .ref yI, .ref yD, .ref yN, .ref yW, .int (nI (te)), .int (nI (tr)), .ref yP, .ref yG, .ref yR, .ref yS, .ref yA, .ref yL, .ref yT]))]) hP hD hS hA [0] [] [0] rfl rfl (by decide) (by decide) (fun _ => rfl) (by decide) (va_runV (As := [.int (nI (mm))]) (rest := []) ⟨hx, hb, hml, hown, hts⟩ (d_is_yes l D cI cL cM H.size h0 yI yD yN yW yP yG yR yS yA yL yT 0 cnt te tr mm h1m hmm hc) (cwV 1 hts gX4_wrong_X4_isMailing rfl rfl rfl (by decide +kernel) ⟨Nat.le_of_ble_eq_true rfl, Nat.le_of_ble_eq_true rfl⟩) (k_preV hP hD hK [0] rfl (by decide) 0 rfl rfl rfl) rfl rfl hl.1 rfl (lv_room (Nat.le_of_ble_eq_true rfl)) dX4_wrong_7 ⟨Nat.le_of_ble_eq_true rfl, Nat.le_of_ble_eq_true rfl⟩) (fun r_1 _ H locs hw hP hD hS => ?_)
  obtain rfl : r_1 = nI (1) := hw
  refine n_if_ne (tgt := 16) hx hb (by omega) dX4_wrong_10 (by decide) (fun c_2 => ?_) (fun c_2 => False.elim (by omega))
  refine lv_iload_n hx hb dX4_wrong_16 rfl (lv_at hl 2 rfl) ?_
  refine lv_if_lt (tgt := 29) hx hb dX4_wrong_17 (by decide) (fun c_3 => ?_) (fun c_3 => ?_)
  · refine lv_bipush (v := (-12)) hx hb dX4_wrong_29 (by decide) ?_
    refine W.widen (k := 0) (n := 0) (Nat.le_of_ble_eq_true rfl) (Nat.le_of_ble_eq_true rfl) ?_
    exact k_iret (v := (-12)) hx hb hr hlocks hP hD hK hS [0] () rfl (by decide) rfl dX4_wrong_31
  · refine lv_iload_n hx hb dX4_wrong_20 rfl (lv_at hl 2 rfl) ?_
    refine lv_iconst (v := nI (2)) hx hb dX4_wrong_21 (by decide) ?_
    refine lv_icmp_gt (tgt := 29) hx hb dX4_wrong_22 (by decide) (fun c_4 => ?_) (fun c_4 => ?_)
    · refine lv_bipush (v := (-12)) hx hb dX4_wrong_29 (by decide) ?_
      refine W.widen (k := 0) (n := 0) (Nat.le_of_ble_eq_true rfl) (Nat.le_of_ble_eq_true rfl) ?_
      exact k_iret (v := (-12)) hx hb hr hlocks hP hD hK hS [0] () rfl (by decide) rfl dX4_wrong_31
    · have h0 : n9 < 0 := (hbad.resolve_left c_3).resolve_left (fun q => absurd (ge_gtI (by omega) q) c_4)
      refine lv_iload_n hx hb dX4_wrong_25 rfl (lv_at hl 3 rfl) ?_
      refine lv_if_ge (tgt := 32) hx hb dX4_wrong_26 (by decide) (fun c => absurd h0 (Int32.not_lt.mpr c)) (fun c_5 => ?_)
      refine lv_bipush (v := (-12)) hx hb dX4_wrong_29 (by decide) ?_
      refine W.widen (k := 0) (n := 0) (Nat.le_of_ble_eq_true rfl) (Nat.le_of_ble_eq_true rfl) ?_
      exact k_iret (v := (-12)) hx hb hr hlocks hP hD hK hS [0] () rfl (by decide) rfl dX4_wrong_31
set_option maxHeartbeats 4000000 in
set_option maxRecDepth 100000 in
/-- a number at a place -/
theorem d_d_in (l : Launch) (D : va_G) (cI cL cM : ClassId) (sz : Nat) (h0 yI yD yN yW yP yG yR yS yA yL yT tz cnt te tr : Nat) (mm : Nat) (h1m : 1 ≤ mm) (hmm : mm ≤ cnt) (hc : cnt ≤ 20) (iv nv dv : Nat → Nat) (j9 k9 : Nat) (hj9 : j9 < 4) (hk9 : k9 < 2 ^ 31) (hsum : psum (fun j => dv (4 * mm + j)) 4 ≤ iv mm) (hit : iv mm ≤ 200) (hdr : nv mm ≤ 200) : Met l yX4_depth wsX4_depth ({ frames := 1, cells := 0, slots := 0, locals := 21 } : Room) (va_Pc [.ref h0, .int (nI (mm)), .int (nI (j9)), .int (nI (k9))] (PreB D (gT cI cL cM) sz [(h0, .inr (4, [.int (nI (tz)), .int (nI (cnt)), .ref yI, .ref yD, .ref yN, .ref yW, .int (nI (te)), .int (nI (tr)), .ref yP, .ref yG, .ref yR, .ref yS, .ref yA, .ref yL, .ref yT])), (yI, .inl (cI, 21, .inl (fun j => nI (iv j)))), (yN, .inl (cI, 21, .inl (fun j => nI (nv j)))), (yD, .inl (cI, 84, .inl (fun j => nI (dv j))))])) (va_Qi (fun r _ => r = slR 4 (iv mm) (decide (0 < nv mm)) (fun j => dv (4 * mm + j)) j9 k9) (fun (_ : Unit) => PostB D (gT cI cL cM) (va_A [(h0, .inr (4, [.int (nI (tz)), .int (nI (cnt)), .ref yI, .ref yD, .ref yN, .ref yW, .int (nI (te)), .int (nI (tr)), .ref yP, .ref yG, .ref yR, .ref yS, .ref yA, .ref yL, .ref yT])), (yI, .inl (cI, 21, .inl (fun j => nI (iv j)))), (yN, .inl (cI, 21, .inl (fun j => nI (nv j)))), (yD, .inl (cI, 84, .inl (fun j => nI (dv j))))] sz) [(h0, .inr (4, [.int (nI (0)), .int (nI (cnt)), .ref yI, .ref yD, .ref yN, .ref yW, .int (nI (te)), .int (nI (tr)), .ref yP, .ref yG, .ref yR, .ref yS, .ref yA, .ref yL, .ref yT])), (yI, .inl (cI, 21, .inl (fun j => nI (iv j)))), (yN, .inl (cI, 21, .inl (fun j => nI (nv j)))), (yD, .inl (cI, 84, .inl (fun j => nI ((slM 4 (iv mm) (decide (0 < nv mm)) dv mm j9 k9) j))))]) (va_A [(h0, .inr (4, [.int (nI (tz)), .int (nI (cnt)), .ref yI, .ref yD, .ref yN, .ref yW, .int (nI (te)), .int (nI (tr)), .ref yP, .ref yG, .ref yR, .ref yS, .ref yA, .ref yL, .ref yT])), (yI, .inl (cI, 21, .inl (fun j => nI (iv j)))), (yN, .inl (cI, 21, .inl (fun j => nI (nv j)))), (yD, .inl (cI, 84, .inl (fun j => nI (dv j))))] sz)) 0 0 (va_A [(h0, .inr (4, [.int (nI (tz)), .int (nI (cnt)), .ref yI, .ref yD, .ref yN, .ref yW, .int (nI (te)), .int (nI (tr)), .ref yP, .ref yG, .ref yR, .ref yS, .ref yA, .ref yL, .ref yT])), (yI, .inl (cI, 21, .inl (fun j => nI (iv j)))), (yN, .inl (cI, 21, .inl (fun j => nI (nv j)))), (yD, .inl (cI, 84, .inl (fun j => nI (dv j))))] sz) := by
  refine k_start (fun A => (va_Qi (fun r _ => r = slR 4 (iv mm) (decide (0 < nv mm)) (fun j => dv (4 * mm + j)) j9 k9) (fun (_ : Unit) => PostB D (gT cI cL cM) A [(h0, .inr (4, [.int (nI (0)), .int (nI (cnt)), .ref yI, .ref yD, .ref yN, .ref yW, .int (nI (te)), .int (nI (tr)), .ref yP, .ref yG, .ref yR, .ref yS, .ref yA, .ref yL, .ref yT])), (yI, .inl (cI, 21, .inl (fun j => nI (iv j)))), (yN, .inl (cI, 21, .inl (fun j => nI (nv j)))), (yD, .inl (cI, 84, .inl (fun j => nI ((slM 4 (iv mm) (decide (0 < nv mm)) dv mm j9 k9) j))))]) A)) (cc := cX4_depth) (maxL := 5) (ret := (some .int)) (by decide) rfl (Nat.le_of_ble_eq_true rfl) ?_
  intro p e s m below meth c A ls hx hb hr hts hown hlocks hin hml hP hK hD hA hS hl
  have hl : lv_has ls 5 [(0, .ref h0), (1, .int (nI (mm))), (2, .int (nI (j9))), (3, .int (nI (k9)))] := hl
  have hown : s.vm.findClass RX4 = some m.cls := hown
  refine lv_aload_n hx hb dX4_depth_0 rfl (lv_at hl 0 rfl) ?_
  refine lv_iconst (v := nI (0)) hx hb dX4_depth_1 (by decide) ?_
  refine va_put (D := D) (cl := vwCl) (ci := 4) (v := .int (nI (0))) (ty := tyX4 0) (C := RX4) (T := TX4) (N := 15) hx hb hts in_X4_depth_X4 tyX4 tyX4_ok nmX4 hown hK hP hD hS 0 rfl rfl 0 (by decide) (hts (.fieldLink RX4 48 "BulkSamplesModel" "thrown" "I") fl_X4_depth_48) (fun _ h9 => h9) rfl (by decide +kernel) rfl rfl (Nat.le_of_ble_eq_true rfl) dX4_depth_2 (fun H locs hP hD hS => ?_)
  have hP : va_P D vwCl [(h0, .inr (4, [.int (nI (0)), .int (nI (cnt)), .ref yI, .ref yD, .ref yN, .ref yW, .int (nI (te)), .int (nI (tr)), .ref yP, .ref yG, .ref yR, .ref yS, .ref yA, .ref yL, .ref yT])), (yI, .inl (cI, 21, .inl (fun j => nI (iv j)))), (yN, .inl (cI, 21, .inl (fun j => nI (nv j)))), (yD, .inl (cI, 84, .inl (fun j => nI (dv j))))] H := hP
  have hD : va_D A [(h0, .inr (4, [.int (nI (0)), .int (nI (cnt)), .ref yI, .ref yD, .ref yN, .ref yW, .int (nI (te)), .int (nI (tr)), .ref yP, .ref yG, .ref yR, .ref yS, .ref yA, .ref yL, .ref yT])), (yI, .inl (cI, 21, .inl (fun j => nI (iv j)))), (yN, .inl (cI, 21, .inl (fun j => nI (nv j)))), (yD, .inl (cI, 84, .inl (fun j => nI (dv j))))] := hD
  refine lv_aload_n hx hb dX4_depth_5 rfl (lv_at hl 0 rfl) ?_
  refine lv_iload_n hx hb dX4_depth_6 rfl (lv_at hl 1 rfl) ?_
  refine k_calli (wc := [(h0, .inr (4, [.int (nI (0)), .int (nI (cnt)), .ref yI, .ref yD, .ref yN, .ref yW, .int (nI (te)), .int (nI (tr)), .ref yP, .ref yG, .ref yR, .ref yS, .ref yA, .ref yL, .ref yT]))]) (wr := [(yI, .inl (cI, 21, .inl (fun j => nI (iv j)))), (yN, .inl (cI, 21, .inl (fun j => nI (nv j)))), (yD, .inl (cI, 84, .inl (fun j => nI (dv j))))]) (W1 := fun _ => [(h0, .inr (4, [.int (nI (0)), .int (nI (cnt)), .ref yI, .ref yD, .ref yN, .ref yW, .int (nI (te)), .int (nI (tr)), .ref yP, .ref yG, .ref yR, .ref yS, .ref yA, .ref yL, .ref yT])), (yI, .inl (cI, 21, .inl (fun j => nI (iv j)))), (yN, .inl (cI, 21, .inl (fun j => nI (nv j)))), (yD, .inl (cI, 84, .inl (fun j => nI (dv j))))]) hP hD hS hA [0] [1, 2, 3] [3, 0, 1, 2] rfl rfl (by decide) (by decide) (fun _ => rfl) (by decide) (va_runV (As := [.int (nI (mm))]) (rest := []) ⟨hx, hb, hml, hown, hts⟩ (d_is_yes l D cI cL cM H.size h0 yI yD yN yW yP yG yR yS yA yL yT 0 cnt te tr mm h1m hmm hc) (cwV 1 hts gX4_depth_X4_isMailing rfl rfl rfl (by decide +kernel) ⟨Nat.le_of_ble_eq_true rfl, Nat.le_of_ble_eq_true rfl⟩) (k_preV hP hD hK [0] rfl (by decide) 0 rfl rfl rfl) rfl rfl hl.1 rfl (lv_room (Nat.le_of_ble_eq_true rfl)) dX4_depth_7 ⟨Nat.le_of_ble_eq_true rfl, Nat.le_of_ble_eq_true rfl⟩) (fun r_1 _ H locs hw hP hD hS => ?_)
  obtain rfl : r_1 = nI (1) := hw
  refine n_if_ne (tgt := 16) hx hb (by omega) dX4_depth_10 (by decide) (fun c_2 => ?_) (fun c_2 => False.elim (by omega))
  have hfj := psum_ge (fun j => dv (4 * mm + j)) hj9
  refine lv_iload_n hx hb dX4_depth_16 rfl (lv_at hl 2 rfl) ?_
  refine n_if_lt (tgt := 29) hx hb (by omega) dX4_depth_17 (by decide) ?_
  refine lv_iload_n hx hb dX4_depth_20 rfl (lv_at hl 2 rfl) ?_
  refine lv_iconst (v := nI (3)) hx hb dX4_depth_21 (by decide) ?_
  refine n_icmp_gt (tgt := 29) hx hb (by omega) (by omega) dX4_depth_22 (by decide) (fun c_4 => False.elim (by omega)) (fun c_4 => ?_)
  refine lv_iload_n hx hb dX4_depth_25 rfl (lv_at hl 3 rfl) ?_
  refine n_if_ge (tgt := 32) hx hb (by omega) dX4_depth_26 (by decide) ?_
  refine lv_aload_n hx hb dX4_depth_32 rfl (lv_at hl 0 rfl) ?_
  refine lv_iload_n hx hb dX4_depth_33 rfl (lv_at hl 1 rfl) ?_
  refine k_calli (wc := [(h0, .inr (4, [.int (nI (0)), .int (nI (cnt)), .ref yI, .ref yD, .ref yN, .ref yW, .int (nI (te)), .int (nI (tr)), .ref yP, .ref yG, .ref yR, .ref yS, .ref yA, .ref yL, .ref yT])), (yD, .inl (cI, 84, .inl (fun j => nI (dv j))))]) (wr := [(yI, .inl (cI, 21, .inl (fun j => nI (iv j)))), (yN, .inl (cI, 21, .inl (fun j => nI (nv j))))]) (W1 := fun _ => [(h0, .inr (4, [.int (nI (0)), .int (nI (cnt)), .ref yI, .ref yD, .ref yN, .ref yW, .int (nI (te)), .int (nI (tr)), .ref yP, .ref yG, .ref yR, .ref yS, .ref yA, .ref yL, .ref yT])), (yI, .inl (cI, 21, .inl (fun j => nI (iv j)))), (yN, .inl (cI, 21, .inl (fun j => nI (nv j)))), (yD, .inl (cI, 84, .inl (fun j => nI (dv j))))]) hP hD hS hA [0, 3] [1, 2] [2, 0, 1, 3] rfl rfl (by decide) (by decide) (fun _ => rfl) (by decide) (va_runV (As := [.int (nI (mm))]) (rest := []) ⟨hx, hb, hml, hown, hts⟩ (d_decl l D cI cL cM H.size h0 yI yD yN yW yP yG yR yS yA yL yT 0 cnt te tr dv mm (by omega)) (cwV 1 hts gX4_depth_X4_declared rfl rfl rfl (by decide +kernel) ⟨Nat.le_of_ble_eq_true rfl, Nat.le_of_ble_eq_true rfl⟩) (k_preV hP hD hK [0, 3] rfl (by decide) 0 rfl rfl rfl) rfl rfl hl.1 rfl (lv_room (Nat.le_of_ble_eq_true rfl)) dX4_depth_34 ⟨Nat.le_of_ble_eq_true rfl, Nat.le_of_ble_eq_true rfl⟩) (fun r_6 _ H locs hw hP hD hS => ?_)
  obtain rfl : r_6 = nI (psum (fun j => dv (4 * mm + j)) 4) := hw
  refine lv_aload_n hx hb dX4_depth_37 rfl (lv_at hl 0 rfl) ?_
  refine va_get (D := D) (cl := vwCl) (ci := 4) (v := .ref yD) (C := RX4) (T := TX4) (N := 15) hx hb hts in_X4_depth_X4 hown hK hP 0 rfl rfl 3 (by decide) (hts (.fieldLink RX4 13 "BulkSamplesModel" "depths" "[I") fl_X4_depth_13) (fun _ h9 => h9) rfl dX4_depth_38 ?_
  refine lv_iconst (v := nI (4)) hx hb dX4_depth_41 (by decide) ?_
  refine lv_iload_n hx hb dX4_depth_42 rfl (lv_at hl 1 rfl) ?_
  refine n_imul (r := 4 * mm) hx hb dX4_depth_43 rfl ?_
  refine lv_iload_n hx hb dX4_depth_44 rfl (lv_at hl 2 rfl) ?_
  refine n_iadd (r := (4 * mm) + j9) hx hb dX4_depth_45 rfl ?_
  refine n_iald (x := nI (dv ((4 * mm) + j9))) hx hb hK hP 3 0 rfl rfl (by omega) (by omega) rfl dX4_depth_46 ?_
  refine n_isub (r := (psum (fun j => dv (4 * mm + j)) 4) - (dv ((4 * mm) + j9))) hx hb dX4_depth_47 (by omega) rfl ?_
  refine lv_istore (lv' := [(4, .int (nI ((psum (fun j => dv (4 * mm + j)) 4) - (dv ((4 * mm) + j9))))), (0, .ref h0), (1, .int (nI (mm))), (2, .int (nI (j9))), (3, .int (nI (k9)))]) hx hb dX4_depth_48 hl (by decide) rfl (fun ls hl => ?_)
  refine lv_iload_n hx hb dX4_depth_50 rfl (lv_at hl 4 rfl) ?_
  refine lv_aload_n hx hb dX4_depth_51 rfl (lv_at hl 1 rfl) ?_
  refine va_get (D := D) (cl := vwCl) (ci := 4) (v := .ref yI) (C := RX4) (T := TX4) (N := 15) hx hb hts in_X4_depth_X4 hown hK hP 0 rfl rfl 2 (by decide) (hts (.fieldLink RX4 7 "BulkSamplesModel" "items" "[I") fl_X4_depth_7) (fun _ h9 => h9) rfl dX4_depth_52 ?_
  refine lv_iload_n hx hb dX4_depth_55 rfl (lv_at hl 2 rfl) ?_
  refine n_iald (x := nI (iv mm)) hx hb hK hP 1 0 rfl rfl (by omega) (by omega) rfl dX4_depth_56 ?_
  refine lv_iload hx hb dX4_depth_57 (lv_at hl 0 rfl) ?_
  refine n_isub (r := (iv mm) - ((psum (fun j => dv (4 * mm + j)) 4) - (dv ((4 * mm) + j9)))) hx hb dX4_depth_59 (by omega) rfl ?_
  refine n_icmp_le (tgt := 66) hx hb (by omega) (by omega) dX4_depth_60 (by decide) (fun c_7 => ?_) (fun c_7 => ?_)
  · refine lv_aload_n hx hb dX4_depth_66 rfl (lv_at hl 1 rfl) ?_
    refine va_get (D := D) (cl := vwCl) (ci := 4) (v := .ref yN) (C := RX4) (T := TX4) (N := 15) hx hb hts in_X4_depth_X4 hown hK hP 0 rfl rfl 4 (by decide) (hts (.fieldLink RX4 16 "BulkSamplesModel" "drawn" "[I") fl_X4_depth_16) (fun _ h9 => h9) rfl dX4_depth_67 ?_
    refine lv_iload_n hx hb dX4_depth_70 rfl (lv_at hl 2 rfl) ?_
    refine n_iald (x := nI (nv mm)) hx hb hK hP 2 0 rfl rfl (by omega) (by omega) rfl dX4_depth_71 ?_
    refine n_if_le (tgt := 78) hx hb (by omega) dX4_depth_72 (by decide) (fun c_8 => ?_) (fun c_8 => ?_)
    · have hbl : (decide (0 < nv mm)) = false := decide_eq_false (by omega)
      refine lv_aload_n hx hb dX4_depth_78 rfl (lv_at hl 1 rfl) ?_
      refine va_get (D := D) (cl := vwCl) (ci := 4) (v := .ref yD) (C := RX4) (T := TX4) (N := 15) hx hb hts in_X4_depth_X4 hown hK hP 0 rfl rfl 3 (by decide) (hts (.fieldLink RX4 13 "BulkSamplesModel" "depths" "[I") fl_X4_depth_13) (fun _ h9 => h9) rfl dX4_depth_79 ?_
      refine lv_iconst (v := nI (4)) hx hb dX4_depth_82 (by decide) ?_
      refine lv_iload_n hx hb dX4_depth_83 rfl (lv_at hl 2 rfl) ?_
      refine n_imul (r := 4 * mm) hx hb dX4_depth_84 rfl ?_
      refine lv_iload_n hx hb dX4_depth_85 rfl (lv_at hl 3 rfl) ?_
      refine n_iadd (r := (4 * mm) + j9) hx hb dX4_depth_86 rfl ?_
      refine lv_iload_n hx hb dX4_depth_87 rfl (lv_at hl 4 rfl) ?_
      refine n_iast (f' := fun j => nI ((slM 4 (iv mm) (decide (0 < nv mm)) dv mm j9 k9) j)) (ws' := [(h0, .inr (4, [.int (nI (0)), .int (nI (cnt)), .ref yI, .ref yD, .ref yN, .ref yW, .int (nI (te)), .int (nI (tr)), .ref yP, .ref yG, .ref yR, .ref yS, .ref yA, .ref yL, .ref yT])), (yI, .inl (cI, 21, .inl (fun j => nI (iv j)))), (yN, .inl (cI, 21, .inl (fun j => nI (nv j)))), (yD, .inl (cI, 84, .inl (fun j => nI ((slM 4 (iv mm) (decide (0 < nv mm)) dv mm j9 k9) j))))]) hx hb hK hP hD hS 3 0 rfl rfl (by omega) (by omega) (fun i _ => by rw [slM_ok (by omega) hbl]; split <;> rfl) rfl dX4_depth_88 (fun H locs hP hD hS => ?_)
      refine lv_iload hx hb dX4_depth_89 (lv_at hl 0 rfl) ?_
      refine lv_iload_n hx hb dX4_depth_91 rfl (lv_at hl 4 rfl) ?_
      refine n_iadd (r := ((psum (fun j => dv (4 * mm + j)) 4) - (dv ((4 * mm) + j9))) + k9) hx hb dX4_depth_92 rfl ?_
      refine W.widen (k := 0) (n := 0) (Nat.le_of_ble_eq_true rfl) (Nat.le_of_ble_eq_true rfl) ?_
      exact k_iret (v := nI (((psum (fun j => dv (4 * mm + j)) 4) - (dv ((4 * mm) + j9))) + k9)) hx hb hr hlocks hP hD hK hS [0, 1, 2, 3] () rfl (by decide) (by rw [slR, if_neg (by omega), hbl, if_neg (by decide)]) dX4_depth_93
    · have hbl : (decide (0 < nv mm)) = true := decide_eq_true (by omega)
      refine lv_bipush (v := (-13)) hx hb dX4_depth_75 (by decide) ?_
      have hP : va_P D vwCl [(h0, .inr (4, [.int (nI (0)), .int (nI (cnt)), .ref yI, .ref yD, .ref yN, .ref yW, .int (nI (te)), .int (nI (tr)), .ref yP, .ref yG, .ref yR, .ref yS, .ref yA, .ref yL, .ref yT])), (yI, .inl (cI, 21, .inl (fun j => nI (iv j)))), (yN, .inl (cI, 21, .inl (fun j => nI (nv j)))), (yD, .inl (cI, 84, .inl (fun j => nI ((slM 4 (iv mm) (decide (0 < nv mm)) dv mm j9 k9) j))))] H := P_altI _ hP 3 rfl rfl (fun i _ => congrArg nI (slM_no (Or.inr hbl) i).symm)
      have hD : va_D A [(h0, .inr (4, [.int (nI (0)), .int (nI (cnt)), .ref yI, .ref yD, .ref yN, .ref yW, .int (nI (te)), .int (nI (tr)), .ref yP, .ref yG, .ref yR, .ref yS, .ref yA, .ref yL, .ref yT])), (yI, .inl (cI, 21, .inl (fun j => nI (iv j)))), (yN, .inl (cI, 21, .inl (fun j => nI (nv j)))), (yD, .inl (cI, 84, .inl (fun j => nI ((slM 4 (iv mm) (decide (0 < nv mm)) dv mm j9 k9) j))))] := D_alt hD (q0 := 3) rfl rfl
      refine W.widen (k := 0) (n := 0) (Nat.le_of_ble_eq_true rfl) (Nat.le_of_ble_eq_true rfl) ?_
      exact k_iret (v := (-13)) hx hb hr hlocks hP hD hK hS [0, 1, 2, 3] () rfl (by decide) (by rw [slR, if_neg (by omega), hbl, if_pos rfl]) dX4_depth_77
  · refine lv_bipush (v := (-12)) hx hb dX4_depth_63 (by decide) ?_
    have hP : va_P D vwCl [(h0, .inr (4, [.int (nI (0)), .int (nI (cnt)), .ref yI, .ref yD, .ref yN, .ref yW, .int (nI (te)), .int (nI (tr)), .ref yP, .ref yG, .ref yR, .ref yS, .ref yA, .ref yL, .ref yT])), (yI, .inl (cI, 21, .inl (fun j => nI (iv j)))), (yN, .inl (cI, 21, .inl (fun j => nI (nv j)))), (yD, .inl (cI, 84, .inl (fun j => nI ((slM 4 (iv mm) (decide (0 < nv mm)) dv mm j9 k9) j))))] H := P_altI _ hP 3 rfl rfl (fun i _ => congrArg nI (slM_no (Or.inl (by omega)) i).symm)
    have hD : va_D A [(h0, .inr (4, [.int (nI (0)), .int (nI (cnt)), .ref yI, .ref yD, .ref yN, .ref yW, .int (nI (te)), .int (nI (tr)), .ref yP, .ref yG, .ref yR, .ref yS, .ref yA, .ref yL, .ref yT])), (yI, .inl (cI, 21, .inl (fun j => nI (iv j)))), (yN, .inl (cI, 21, .inl (fun j => nI (nv j)))), (yD, .inl (cI, 84, .inl (fun j => nI ((slM 4 (iv mm) (decide (0 < nv mm)) dv mm j9 k9) j))))] := D_alt hD (q0 := 3) rfl rfl
    refine W.widen (k := 0) (n := 0) (Nat.le_of_ble_eq_true rfl) (Nat.le_of_ble_eq_true rfl) ?_
    exact k_iret (v := (-12)) hx hb hr hlocks hP hD hK hS [0, 1, 2, 3] () rfl (by decide) (by rw [slR, if_pos (by omega)]) dX4_depth_65
set_option maxHeartbeats 4000000 in
set_option maxRecDepth 100000 in
/-- a number at a place -/
theorem d_w_in (l : Launch) (D : va_G) (cI cL cM : ClassId) (sz : Nat) (h0 yI yD yN yW yP yG yR yS yA yL yT tz cnt te tr : Nat) (mm : Nat) (h1m : 1 ≤ mm) (hmm : mm ≤ cnt) (hc : cnt ≤ 20) (iv nv wv : Nat → Nat) (j9 k9 : Nat) (hj9 : j9 < 3) (hk9 : k9 < 2 ^ 31) (hsum : psum (fun j => wv (3 * mm + j)) 3 ≤ nv mm) (hit : iv mm ≤ 200) (hdr : nv mm ≤ 200) : Met l yX4_wrong wsX4_wrong ({ frames := 1, cells := 0, slots := 0, locals := 21 } : Room) (va_Pc [.ref h0, .int (nI (mm)), .int (nI (j9)), .int (nI (k9))] (PreB D (gT cI cL cM) sz [(h0, .inr (4, [.int (nI (tz)), .int (nI (cnt)), .ref yI, .ref yD, .ref yN, .ref yW, .int (nI (te)), .int (nI (tr)), .ref yP, .ref yG, .ref yR, .ref yS, .ref yA, .ref yL, .ref yT])), (yN, .inl (cI, 21, .inl (fun j => nI (nv j)))), (yW, .inl (cI, 63, .inl (fun j => nI (wv j))))])) (va_Qi (fun r _ => r = slR 3 (nv mm) (decide (nv mm = 0)) (fun j => wv (3 * mm + j)) j9 k9) (fun (_ : Unit) => PostB D (gT cI cL cM) (va_A [(h0, .inr (4, [.int (nI (tz)), .int (nI (cnt)), .ref yI, .ref yD, .ref yN, .ref yW, .int (nI (te)), .int (nI (tr)), .ref yP, .ref yG, .ref yR, .ref yS, .ref yA, .ref yL, .ref yT])), (yN, .inl (cI, 21, .inl (fun j => nI (nv j)))), (yW, .inl (cI, 63, .inl (fun j => nI (wv j))))] sz) [(h0, .inr (4, [.int (nI (0)), .int (nI (cnt)), .ref yI, .ref yD, .ref yN, .ref yW, .int (nI (te)), .int (nI (tr)), .ref yP, .ref yG, .ref yR, .ref yS, .ref yA, .ref yL, .ref yT])), (yN, .inl (cI, 21, .inl (fun j => nI (nv j)))), (yW, .inl (cI, 63, .inl (fun j => nI ((slM 3 (nv mm) (decide (nv mm = 0)) wv mm j9 k9) j))))]) (va_A [(h0, .inr (4, [.int (nI (tz)), .int (nI (cnt)), .ref yI, .ref yD, .ref yN, .ref yW, .int (nI (te)), .int (nI (tr)), .ref yP, .ref yG, .ref yR, .ref yS, .ref yA, .ref yL, .ref yT])), (yN, .inl (cI, 21, .inl (fun j => nI (nv j)))), (yW, .inl (cI, 63, .inl (fun j => nI (wv j))))] sz)) 0 0 (va_A [(h0, .inr (4, [.int (nI (tz)), .int (nI (cnt)), .ref yI, .ref yD, .ref yN, .ref yW, .int (nI (te)), .int (nI (tr)), .ref yP, .ref yG, .ref yR, .ref yS, .ref yA, .ref yL, .ref yT])), (yN, .inl (cI, 21, .inl (fun j => nI (nv j)))), (yW, .inl (cI, 63, .inl (fun j => nI (wv j))))] sz) := by
  refine k_start (fun A => (va_Qi (fun r _ => r = slR 3 (nv mm) (decide (nv mm = 0)) (fun j => wv (3 * mm + j)) j9 k9) (fun (_ : Unit) => PostB D (gT cI cL cM) A [(h0, .inr (4, [.int (nI (0)), .int (nI (cnt)), .ref yI, .ref yD, .ref yN, .ref yW, .int (nI (te)), .int (nI (tr)), .ref yP, .ref yG, .ref yR, .ref yS, .ref yA, .ref yL, .ref yT])), (yN, .inl (cI, 21, .inl (fun j => nI (nv j)))), (yW, .inl (cI, 63, .inl (fun j => nI ((slM 3 (nv mm) (decide (nv mm = 0)) wv mm j9 k9) j))))]) A)) (cc := cX4_wrong) (maxL := 5) (ret := (some .int)) (by decide) rfl (Nat.le_of_ble_eq_true rfl) ?_
  intro p e s m below meth c A ls hx hb hr hts hown hlocks hin hml hP hK hD hA hS hl
  have hl : lv_has ls 5 [(0, .ref h0), (1, .int (nI (mm))), (2, .int (nI (j9))), (3, .int (nI (k9)))] := hl
  have hown : s.vm.findClass RX4 = some m.cls := hown
  refine lv_aload_n hx hb dX4_wrong_0 rfl (lv_at hl 0 rfl) ?_
  refine lv_iconst (v := nI (0)) hx hb dX4_wrong_1 (by decide) ?_
  refine va_put (D := D) (cl := vwCl) (ci := 4) (v := .int (nI (0))) (ty := tyX4 0) (C := RX4) (T := TX4) (N := 15) hx hb hts in_X4_wrong_X4 tyX4 tyX4_ok nmX4 hown hK hP hD hS 0 rfl rfl 0 (by decide) (hts (.fieldLink RX4 48 "BulkSamplesModel" "thrown" "I") fl_X4_wrong_48) (fun _ h9 => h9) rfl (by decide +kernel) rfl rfl (Nat.le_of_ble_eq_true rfl) dX4_wrong_2 (fun H locs hP hD hS => ?_)
  have hP : va_P D vwCl [(h0, .inr (4, [.int (nI (0)), .int (nI (cnt)), .ref yI, .ref yD, .ref yN, .ref yW, .int (nI (te)), .int (nI (tr)), .ref yP, .ref yG, .ref yR, .ref yS, .ref yA, .ref yL, .ref yT])), (yN, .inl (cI, 21, .inl (fun j => nI (nv j)))), (yW, .inl (cI, 63, .inl (fun j => nI (wv j))))] H := hP
  have hD : va_D A [(h0, .inr (4, [.int (nI (0)), .int (nI (cnt)), .ref yI, .ref yD, .ref yN, .ref yW, .int (nI (te)), .int (nI (tr)), .ref yP, .ref yG, .ref yR, .ref yS, .ref yA, .ref yL, .ref yT])), (yN, .inl (cI, 21, .inl (fun j => nI (nv j)))), (yW, .inl (cI, 63, .inl (fun j => nI (wv j))))] := hD
  refine lv_aload_n hx hb dX4_wrong_5 rfl (lv_at hl 0 rfl) ?_
  refine lv_iload_n hx hb dX4_wrong_6 rfl (lv_at hl 1 rfl) ?_
  refine k_calli (wc := [(h0, .inr (4, [.int (nI (0)), .int (nI (cnt)), .ref yI, .ref yD, .ref yN, .ref yW, .int (nI (te)), .int (nI (tr)), .ref yP, .ref yG, .ref yR, .ref yS, .ref yA, .ref yL, .ref yT]))]) (wr := [(yN, .inl (cI, 21, .inl (fun j => nI (nv j)))), (yW, .inl (cI, 63, .inl (fun j => nI (wv j))))]) (W1 := fun _ => [(h0, .inr (4, [.int (nI (0)), .int (nI (cnt)), .ref yI, .ref yD, .ref yN, .ref yW, .int (nI (te)), .int (nI (tr)), .ref yP, .ref yG, .ref yR, .ref yS, .ref yA, .ref yL, .ref yT])), (yN, .inl (cI, 21, .inl (fun j => nI (nv j)))), (yW, .inl (cI, 63, .inl (fun j => nI (wv j))))]) hP hD hS hA [0] [1, 2] [2, 0, 1] rfl rfl (by decide) (by decide) (fun _ => rfl) (by decide) (va_runV (As := [.int (nI (mm))]) (rest := []) ⟨hx, hb, hml, hown, hts⟩ (d_is_yes l D cI cL cM H.size h0 yI yD yN yW yP yG yR yS yA yL yT 0 cnt te tr mm h1m hmm hc) (cwV 1 hts gX4_wrong_X4_isMailing rfl rfl rfl (by decide +kernel) ⟨Nat.le_of_ble_eq_true rfl, Nat.le_of_ble_eq_true rfl⟩) (k_preV hP hD hK [0] rfl (by decide) 0 rfl rfl rfl) rfl rfl hl.1 rfl (lv_room (Nat.le_of_ble_eq_true rfl)) dX4_wrong_7 ⟨Nat.le_of_ble_eq_true rfl, Nat.le_of_ble_eq_true rfl⟩) (fun r_1 _ H locs hw hP hD hS => ?_)
  obtain rfl : r_1 = nI (1) := hw
  refine n_if_ne (tgt := 16) hx hb (by omega) dX4_wrong_10 (by decide) (fun c_2 => ?_) (fun c_2 => False.elim (by omega))
  have hfj := psum_ge (fun j => wv (3 * mm + j)) hj9
  refine lv_iload_n hx hb dX4_wrong_16 rfl (lv_at hl 2 rfl) ?_
  refine n_if_lt (tgt := 29) hx hb (by omega) dX4_wrong_17 (by decide) ?_
  refine lv_iload_n hx hb dX4_wrong_20 rfl (lv_at hl 2 rfl) ?_
  refine lv_iconst (v := nI (2)) hx hb dX4_wrong_21 (by decide) ?_
  refine n_icmp_gt (tgt := 29) hx hb (by omega) (by omega) dX4_wrong_22 (by decide) (fun c_4 => False.elim (by omega)) (fun c_4 => ?_)
  refine lv_iload_n hx hb dX4_wrong_25 rfl (lv_at hl 3 rfl) ?_
  refine n_if_ge (tgt := 32) hx hb (by omega) dX4_wrong_26 (by decide) ?_
  refine lv_aload_n hx hb dX4_wrong_32 rfl (lv_at hl 0 rfl) ?_
  refine lv_iload_n hx hb dX4_wrong_33 rfl (lv_at hl 1 rfl) ?_
  refine k_calli (wc := [(h0, .inr (4, [.int (nI (0)), .int (nI (cnt)), .ref yI, .ref yD, .ref yN, .ref yW, .int (nI (te)), .int (nI (tr)), .ref yP, .ref yG, .ref yR, .ref yS, .ref yA, .ref yL, .ref yT])), (yW, .inl (cI, 63, .inl (fun j => nI (wv j))))]) (wr := [(yN, .inl (cI, 21, .inl (fun j => nI (nv j))))]) (W1 := fun _ => [(h0, .inr (4, [.int (nI (0)), .int (nI (cnt)), .ref yI, .ref yD, .ref yN, .ref yW, .int (nI (te)), .int (nI (tr)), .ref yP, .ref yG, .ref yR, .ref yS, .ref yA, .ref yL, .ref yT])), (yN, .inl (cI, 21, .inl (fun j => nI (nv j)))), (yW, .inl (cI, 63, .inl (fun j => nI (wv j))))]) hP hD hS hA [0, 2] [1] [1, 0, 2] rfl rfl (by decide) (by decide) (fun _ => rfl) (by decide) (va_runV (As := [.int (nI (mm))]) (rest := []) ⟨hx, hb, hml, hown, hts⟩ (d_wof l D cI cL cM H.size h0 yI yD yN yW yP yG yR yS yA yL yT 0 cnt te tr wv mm (by omega)) (cwV 1 hts gX4_wrong_X4_wrongOf rfl rfl rfl (by decide +kernel) ⟨Nat.le_of_ble_eq_true rfl, Nat.le_of_ble_eq_true rfl⟩) (k_preV hP hD hK [0, 2] rfl (by decide) 0 rfl rfl rfl) rfl rfl hl.1 rfl (lv_room (Nat.le_of_ble_eq_true rfl)) dX4_wrong_34 ⟨Nat.le_of_ble_eq_true rfl, Nat.le_of_ble_eq_true rfl⟩) (fun r_6 _ H locs hw hP hD hS => ?_)
  obtain rfl : r_6 = nI (psum (fun j => wv (3 * mm + j)) 3) := hw
  refine lv_aload_n hx hb dX4_wrong_37 rfl (lv_at hl 0 rfl) ?_
  refine va_get (D := D) (cl := vwCl) (ci := 4) (v := .ref yW) (C := RX4) (T := TX4) (N := 15) hx hb hts in_X4_wrong_X4 hown hK hP 0 rfl rfl 5 (by decide) (hts (.fieldLink RX4 19 "BulkSamplesModel" "wrongs" "[I") fl_X4_wrong_19) (fun _ h9 => h9) rfl dX4_wrong_38 ?_
  refine lv_iconst (v := nI (3)) hx hb dX4_wrong_41 (by decide) ?_
  refine lv_iload_n hx hb dX4_wrong_42 rfl (lv_at hl 1 rfl) ?_
  refine n_imul (r := 3 * mm) hx hb dX4_wrong_43 rfl ?_
  refine lv_iload_n hx hb dX4_wrong_44 rfl (lv_at hl 2 rfl) ?_
  refine n_iadd (r := (3 * mm) + j9) hx hb dX4_wrong_45 rfl ?_
  refine n_iald (x := nI (wv ((3 * mm) + j9))) hx hb hK hP 2 0 rfl rfl (by omega) (by omega) rfl dX4_wrong_46 ?_
  refine n_isub (r := (psum (fun j => wv (3 * mm + j)) 3) - (wv ((3 * mm) + j9))) hx hb dX4_wrong_47 (by omega) rfl ?_
  refine lv_istore (lv' := [(4, .int (nI ((psum (fun j => wv (3 * mm + j)) 3) - (wv ((3 * mm) + j9))))), (0, .ref h0), (1, .int (nI (mm))), (2, .int (nI (j9))), (3, .int (nI (k9)))]) hx hb dX4_wrong_48 hl (by decide) rfl (fun ls hl => ?_)
  refine lv_iload_n hx hb dX4_wrong_50 rfl (lv_at hl 4 rfl) ?_
  refine lv_aload_n hx hb dX4_wrong_51 rfl (lv_at hl 1 rfl) ?_
  refine va_get (D := D) (cl := vwCl) (ci := 4) (v := .ref yN) (C := RX4) (T := TX4) (N := 15) hx hb hts in_X4_wrong_X4 hown hK hP 0 rfl rfl 4 (by decide) (hts (.fieldLink RX4 16 "BulkSamplesModel" "drawn" "[I") fl_X4_wrong_16) (fun _ h9 => h9) rfl dX4_wrong_52 ?_
  refine lv_iload_n hx hb dX4_wrong_55 rfl (lv_at hl 2 rfl) ?_
  refine n_iald (x := nI (nv mm)) hx hb hK hP 1 0 rfl rfl (by omega) (by omega) rfl dX4_wrong_56 ?_
  refine lv_iload hx hb dX4_wrong_57 (lv_at hl 0 rfl) ?_
  refine n_isub (r := (nv mm) - ((psum (fun j => wv (3 * mm + j)) 3) - (wv ((3 * mm) + j9)))) hx hb dX4_wrong_59 (by omega) rfl ?_
  refine n_icmp_le (tgt := 66) hx hb (by omega) (by omega) dX4_wrong_60 (by decide) (fun c_7 => ?_) (fun c_7 => ?_)
  · refine lv_aload_n hx hb dX4_wrong_66 rfl (lv_at hl 1 rfl) ?_
    refine va_get (D := D) (cl := vwCl) (ci := 4) (v := .ref yN) (C := RX4) (T := TX4) (N := 15) hx hb hts in_X4_wrong_X4 hown hK hP 0 rfl rfl 4 (by decide) (hts (.fieldLink RX4 16 "BulkSamplesModel" "drawn" "[I") fl_X4_wrong_16) (fun _ h9 => h9) rfl dX4_wrong_67 ?_
    refine lv_iload_n hx hb dX4_wrong_70 rfl (lv_at hl 2 rfl) ?_
    refine n_iald (x := nI (nv mm)) hx hb hK hP 1 0 rfl rfl (by omega) (by omega) rfl dX4_wrong_71 ?_
    refine n_if_ne (tgt := 78) hx hb (by omega) dX4_wrong_72 (by decide) (fun c_8 => ?_) (fun c_8 => ?_)
    · have hbl : (decide (nv mm = 0)) = false := decide_eq_false (by omega)
      refine lv_aload_n hx hb dX4_wrong_78 rfl (lv_at hl 1 rfl) ?_
      refine va_get (D := D) (cl := vwCl) (ci := 4) (v := .ref yW) (C := RX4) (T := TX4) (N := 15) hx hb hts in_X4_wrong_X4 hown hK hP 0 rfl rfl 5 (by decide) (hts (.fieldLink RX4 19 "BulkSamplesModel" "wrongs" "[I") fl_X4_wrong_19) (fun _ h9 => h9) rfl dX4_wrong_79 ?_
      refine lv_iconst (v := nI (3)) hx hb dX4_wrong_82 (by decide) ?_
      refine lv_iload_n hx hb dX4_wrong_83 rfl (lv_at hl 2 rfl) ?_
      refine n_imul (r := 3 * mm) hx hb dX4_wrong_84 rfl ?_
      refine lv_iload_n hx hb dX4_wrong_85 rfl (lv_at hl 3 rfl) ?_
      refine n_iadd (r := (3 * mm) + j9) hx hb dX4_wrong_86 rfl ?_
      refine lv_iload_n hx hb dX4_wrong_87 rfl (lv_at hl 4 rfl) ?_
      refine n_iast (f' := fun j => nI ((slM 3 (nv mm) (decide (nv mm = 0)) wv mm j9 k9) j)) (ws' := [(h0, .inr (4, [.int (nI (0)), .int (nI (cnt)), .ref yI, .ref yD, .ref yN, .ref yW, .int (nI (te)), .int (nI (tr)), .ref yP, .ref yG, .ref yR, .ref yS, .ref yA, .ref yL, .ref yT])), (yN, .inl (cI, 21, .inl (fun j => nI (nv j)))), (yW, .inl (cI, 63, .inl (fun j => nI ((slM 3 (nv mm) (decide (nv mm = 0)) wv mm j9 k9) j))))]) hx hb hK hP hD hS 2 0 rfl rfl (by omega) (by omega) (fun i _ => by rw [slM_ok (by omega) hbl]; split <;> rfl) rfl dX4_wrong_88 (fun H locs hP hD hS => ?_)
      refine lv_iload hx hb dX4_wrong_89 (lv_at hl 0 rfl) ?_
      refine lv_iload_n hx hb dX4_wrong_91 rfl (lv_at hl 4 rfl) ?_
      refine n_iadd (r := ((psum (fun j => wv (3 * mm + j)) 3) - (wv ((3 * mm) + j9))) + k9) hx hb dX4_wrong_92 rfl ?_
      refine W.widen (k := 0) (n := 0) (Nat.le_of_ble_eq_true rfl) (Nat.le_of_ble_eq_true rfl) ?_
      exact k_iret (v := nI (((psum (fun j => wv (3 * mm + j)) 3) - (wv ((3 * mm) + j9))) + k9)) hx hb hr hlocks hP hD hK hS [0, 1, 2] () rfl (by decide) (by rw [slR, if_neg (by omega), hbl, if_neg (by decide)]) dX4_wrong_93
    · have hbl : (decide (nv mm = 0)) = true := decide_eq_true (by omega)
      refine lv_bipush (v := (-13)) hx hb dX4_wrong_75 (by decide) ?_
      have hP : va_P D vwCl [(h0, .inr (4, [.int (nI (0)), .int (nI (cnt)), .ref yI, .ref yD, .ref yN, .ref yW, .int (nI (te)), .int (nI (tr)), .ref yP, .ref yG, .ref yR, .ref yS, .ref yA, .ref yL, .ref yT])), (yN, .inl (cI, 21, .inl (fun j => nI (nv j)))), (yW, .inl (cI, 63, .inl (fun j => nI ((slM 3 (nv mm) (decide (nv mm = 0)) wv mm j9 k9) j))))] H := P_altI _ hP 2 rfl rfl (fun i _ => congrArg nI (slM_no (Or.inr hbl) i).symm)
      have hD : va_D A [(h0, .inr (4, [.int (nI (0)), .int (nI (cnt)), .ref yI, .ref yD, .ref yN, .ref yW, .int (nI (te)), .int (nI (tr)), .ref yP, .ref yG, .ref yR, .ref yS, .ref yA, .ref yL, .ref yT])), (yN, .inl (cI, 21, .inl (fun j => nI (nv j)))), (yW, .inl (cI, 63, .inl (fun j => nI ((slM 3 (nv mm) (decide (nv mm = 0)) wv mm j9 k9) j))))] := D_alt hD (q0 := 2) rfl rfl
      refine W.widen (k := 0) (n := 0) (Nat.le_of_ble_eq_true rfl) (Nat.le_of_ble_eq_true rfl) ?_
      exact k_iret (v := (-13)) hx hb hr hlocks hP hD hK hS [0, 1, 2] () rfl (by decide) (by rw [slR, if_neg (by omega), hbl, if_pos rfl]) dX4_wrong_77
  · refine lv_bipush (v := (-12)) hx hb dX4_wrong_63 (by decide) ?_
    have hP : va_P D vwCl [(h0, .inr (4, [.int (nI (0)), .int (nI (cnt)), .ref yI, .ref yD, .ref yN, .ref yW, .int (nI (te)), .int (nI (tr)), .ref yP, .ref yG, .ref yR, .ref yS, .ref yA, .ref yL, .ref yT])), (yN, .inl (cI, 21, .inl (fun j => nI (nv j)))), (yW, .inl (cI, 63, .inl (fun j => nI ((slM 3 (nv mm) (decide (nv mm = 0)) wv mm j9 k9) j))))] H := P_altI _ hP 2 rfl rfl (fun i _ => congrArg nI (slM_no (Or.inl (by omega)) i).symm)
    have hD : va_D A [(h0, .inr (4, [.int (nI (0)), .int (nI (cnt)), .ref yI, .ref yD, .ref yN, .ref yW, .int (nI (te)), .int (nI (tr)), .ref yP, .ref yG, .ref yR, .ref yS, .ref yA, .ref yL, .ref yT])), (yN, .inl (cI, 21, .inl (fun j => nI (nv j)))), (yW, .inl (cI, 63, .inl (fun j => nI ((slM 3 (nv mm) (decide (nv mm = 0)) wv mm j9 k9) j))))] := D_alt hD (q0 := 2) rfl rfl
    refine W.widen (k := 0) (n := 0) (Nat.le_of_ble_eq_true rfl) (Nat.le_of_ble_eq_true rfl) ?_
    exact k_iret (v := (-12)) hx hb hr hlocks hP hD hK hS [0, 1, 2] () rfl (by decide) (by rw [slR, if_pos (by omega)]) dX4_wrong_65
set_option maxHeartbeats 4000000 in
set_option maxRecDepth 100000 in
/-- sample: OUTSIDE -/
theorem d_s_bad (l : Launch) (D : va_G) (cI cL cM : ClassId) (sz : Nat) (h0 yI yD yN yW yP yG yR yS yA yL yT tz cnt te tr : Nat) (mm : Nat) (h1m : 1 ≤ mm) (hmm : mm ≤ cnt) (hc : cnt ≤ 20) (n9 : Int32) (hbad : n9 < nI 1) : Met l yX4_sample wsX4_sample ({ frames := 1, cells := 0, slots := 0, locals := 21 } : Room) (va_Pc [.ref h0, .int (nI (mm)), .int n9] (PreB D (gT cI cL cM) sz [(h0, .inr (4, [.int (nI (tz)), .int (nI (cnt)), .ref yI, .ref yD, .ref yN, .ref yW, .int (nI (te)), .int (nI (tr)), .ref yP, .ref yG, .ref yR, .ref yS, .ref yA, .ref yL, .ref yT]))])) (va_Qi (fun r _ => r = -12) (fun (_ : Unit) => PostB D (gT cI cL cM) (va_A [(h0, .inr (4, [.int (nI (tz)), .int (nI (cnt)), .ref yI, .ref yD, .ref yN, .ref yW, .int (nI (te)), .int (nI (tr)), .ref yP, .ref yG, .ref yR, .ref yS, .ref yA, .ref yL, .ref yT]))] sz) [(h0, .inr (4, [.int (nI (0)), .int (nI (cnt)), .ref yI, .ref yD, .ref yN, .ref yW, .int (nI (te)), .int (nI (tr)), .ref yP, .ref yG, .ref yR, .ref yS, .ref yA, .ref yL, .ref yT]))]) (va_A [(h0, .inr (4, [.int (nI (tz)), .int (nI (cnt)), .ref yI, .ref yD, .ref yN, .ref yW, .int (nI (te)), .int (nI (tr)), .ref yP, .ref yG, .ref yR, .ref yS, .ref yA, .ref yL, .ref yT]))] sz)) 0 0 (va_A [(h0, .inr (4, [.int (nI (tz)), .int (nI (cnt)), .ref yI, .ref yD, .ref yN, .ref yW, .int (nI (te)), .int (nI (tr)), .ref yP, .ref yG, .ref yR, .ref yS, .ref yA, .ref yL, .ref yT]))] sz) := by
  refine k_start (fun A => (va_Qi (fun r _ => r = -12) (fun (_ : Unit) => PostB D (gT cI cL cM) A [(h0, .inr (4, [.int (nI (0)), .int (nI (cnt)), .ref yI, .ref yD, .ref yN, .ref yW, .int (nI (te)), .int (nI (tr)), .ref yP, .ref yG, .ref yR, .ref yS, .ref yA, .ref yL, .ref yT]))]) A)) (cc := cX4_sample) (maxL := 4) (ret := (some .int)) (by decide) rfl (Nat.le_of_ble_eq_true rfl) ?_
  intro p e s m below meth c A ls hx hb hr hts hown hlocks hin hml hP hK hD hA hS hl
  have hl : lv_has ls 4 [(0, .ref h0), (1, .int (nI (mm))), (2, .int n9)] := hl
  have hown : s.vm.findClass RX4 = some m.cls := hown
  refine lv_aload_n hx hb dX4_sample_0 rfl (lv_at hl 0 rfl) ?_
  refine lv_iconst (v := nI (0)) hx hb dX4_sample_1 (by decide) ?_
  refine va_put (D := D) (cl := vwCl) (ci := 4) (v := .int (nI (0))) (ty := tyX4 0) (C := RX4) (T := TX4) (N := 15) hx hb hts in_X4_sample_X4 tyX4 tyX4_ok nmX4 hown hK hP hD hS 0 rfl rfl 0 (by decide) (hts (.fieldLink RX4 48 "BulkSamplesModel" "thrown" "I") fl_X4_sample_48) (fun _ h9 => h9) rfl (by decide +kernel) rfl rfl (Nat.le_of_ble_eq_true rfl) dX4_sample_2 (fun H locs hP hD hS => ?_)
  have hP : va_P D vwCl [(h0, .inr (4, [.int (nI (0)), .int (nI (cnt)), .ref yI, .ref yD, .ref yN, .ref yW, .int (nI (te)), .int (nI (tr)), .ref yP, .ref yG, .ref yR, .ref yS, .ref yA, .ref yL, .ref yT]))] H := hP
  have hD : va_D A [(h0, .inr (4, [.int (nI (0)), .int (nI (cnt)), .ref yI, .ref yD, .ref yN, .ref yW, .int (nI (te)), .int (nI (tr)), .ref yP, .ref yG, .ref yR, .ref yS, .ref yA, .ref yL, .ref yT]))] := hD
  refine lv_aload_n hx hb dX4_sample_5 rfl (lv_at hl 0 rfl) ?_
  refine lv_iload_n hx hb dX4_sample_6 rfl (lv_at hl 1 rfl) ?_
  refine k_calli (wc := [(h0, .inr (4, [.int (nI (0)), .int (nI (cnt)), .ref yI, .ref yD, .ref yN, .ref yW, .int (nI (te)), .int (nI (tr)), .ref yP, .ref yG, .ref yR, .ref yS, .ref yA, .ref yL, .ref yT]))]) (wr := []) (W1 := fun _ => [(h0, .inr (4, [.int (nI (0)), .int (nI (cnt)), .ref yI, .ref yD, .ref yN, .ref yW, .int (nI (te)), .int (nI (tr)), .ref yP, .ref yG, .ref yR, .ref yS, .ref yA, .ref yL, .ref yT]))]) hP hD hS hA [0] [] [0] rfl rfl (by decide) (by decide) (fun _ => rfl) (by decide) (va_runV (As := [.int (nI (mm))]) (rest := []) ⟨hx, hb, hml, hown, hts⟩ (d_is_yes l D cI cL cM H.size h0 yI yD yN yW yP yG yR yS yA yL yT 0 cnt te tr mm h1m hmm hc) (cwV 1 hts gX4_sample_X4_isMailing rfl rfl rfl (by decide +kernel) ⟨Nat.le_of_ble_eq_true rfl, Nat.le_of_ble_eq_true rfl⟩) (k_preV hP hD hK [0] rfl (by decide) 0 rfl rfl rfl) rfl rfl hl.1 rfl (lv_room (Nat.le_of_ble_eq_true rfl)) dX4_sample_7 ⟨Nat.le_of_ble_eq_true rfl, Nat.le_of_ble_eq_true rfl⟩) (fun r_1 _ H locs hw hP hD hS => ?_)
  obtain rfl : r_1 = nI (1) := hw
  refine n_if_ne (tgt := 16) hx hb (by omega) dX4_sample_10 (by decide) (fun c_2 => ?_) (fun c_2 => False.elim (by omega))
  refine lv_iload_n hx hb dX4_sample_16 rfl (lv_at hl 2 rfl) ?_
  refine lv_iconst (v := nI (1)) hx hb dX4_sample_17 (by decide) ?_
  refine lv_icmp_ge (tgt := 24) hx hb dX4_sample_18 (by decide) (fun c => absurd hbad (Int32.not_lt.mpr c)) (fun c_3 => ?_)
  refine lv_bipush (v := (-12)) hx hb dX4_sample_21 (by decide) ?_
  refine W.widen (k := 0) (n := 0) (Nat.le_of_ble_eq_true rfl) (Nat.le_of_ble_eq_true rfl) ?_
  exact k_iret (v := (-12)) hx hb hr hlocks hP hD hK hS [0] () rfl (by decide) rfl dX4_sample_23
set_option maxHeartbeats 4000000 in
set_option maxRecDepth 100000 in
/-- sample -/
theorem d_s_in (l : Launch) (D : va_G) (cI cL cM : ClassId) (sz : Nat) (h0 yI yD yN yW yP yG yR yS yA yL yT tz cnt te tr : Nat) (mm : Nat) (h1m : 1 ≤ mm) (hmm : mm ≤ cnt) (hc : cnt ≤ 20) (iv nv : Nat → Nat) (k9 : Nat) (hk1 : 1 ≤ k9) (hk9 : k9 < 2 ^ 31) (hit : iv mm ≤ 200) (hdr : nv mm ≤ 200) (hte : te ≤ 300) : Met l yX4_sample wsX4_sample ({ frames := 1, cells := 0, slots := 0, locals := 21 } : Room) (va_Pc [.ref h0, .int (nI (mm)), .int (nI (k9))] (PreB D (gT cI cL cM) sz [(h0, .inr (4, [.int (nI (tz)), .int (nI (cnt)), .ref yI, .ref yD, .ref yN, .ref yW, .int (nI (te)), .int (nI (tr)), .ref yP, .ref yG, .ref yR, .ref yS, .ref yA, .ref yL, .ref yT])), (yI, .inl (cI, 21, .inl (fun j => nI (iv j)))), (yN, .inl (cI, 21, .inl (fun j => nI (nv j))))])) (va_Qi (fun r _ => r = saR (iv mm) (nv mm) te k9) (fun (_ : Unit) => PostB D (gT cI cL cM) (va_A [(h0, .inr (4, [.int (nI (tz)), .int (nI (cnt)), .ref yI, .ref yD, .ref yN, .ref yW, .int (nI (te)), .int (nI (tr)), .ref yP, .ref yG, .ref yR, .ref yS, .ref yA, .ref yL, .ref yT])), (yI, .inl (cI, 21, .inl (fun j => nI (iv j)))), (yN, .inl (cI, 21, .inl (fun j => nI (nv j))))] sz) [(h0, .inr (4, [.int (nI (0)), .int (nI (cnt)), .ref yI, .ref yD, .ref yN, .ref yW, .int (nI (te - saT (iv mm) (nv mm) te k9)), .int (nI (tr)), .ref yP, .ref yG, .ref yR, .ref yS, .ref yA, .ref yL, .ref yT])), (yI, .inl (cI, 21, .inl (fun j => nI (iv j)))), (yN, .inl (cI, 21, .inl (fun j => nI (if j = mm then nv mm + saT (iv mm) (nv mm) te k9 else nv j))))]) (va_A [(h0, .inr (4, [.int (nI (tz)), .int (nI (cnt)), .ref yI, .ref yD, .ref yN, .ref yW, .int (nI (te)), .int (nI (tr)), .ref yP, .ref yG, .ref yR, .ref yS, .ref yA, .ref yL, .ref yT])), (yI, .inl (cI, 21, .inl (fun j => nI (iv j)))), (yN, .inl (cI, 21, .inl (fun j => nI (nv j))))] sz)) 0 0 (va_A [(h0, .inr (4, [.int (nI (tz)), .int (nI (cnt)), .ref yI, .ref yD, .ref yN, .ref yW, .int (nI (te)), .int (nI (tr)), .ref yP, .ref yG, .ref yR, .ref yS, .ref yA, .ref yL, .ref yT])), (yI, .inl (cI, 21, .inl (fun j => nI (iv j)))), (yN, .inl (cI, 21, .inl (fun j => nI (nv j))))] sz) := by
  refine k_start (fun A => (va_Qi (fun r _ => r = saR (iv mm) (nv mm) te k9) (fun (_ : Unit) => PostB D (gT cI cL cM) A [(h0, .inr (4, [.int (nI (0)), .int (nI (cnt)), .ref yI, .ref yD, .ref yN, .ref yW, .int (nI (te - saT (iv mm) (nv mm) te k9)), .int (nI (tr)), .ref yP, .ref yG, .ref yR, .ref yS, .ref yA, .ref yL, .ref yT])), (yI, .inl (cI, 21, .inl (fun j => nI (iv j)))), (yN, .inl (cI, 21, .inl (fun j => nI (if j = mm then nv mm + saT (iv mm) (nv mm) te k9 else nv j))))]) A)) (cc := cX4_sample) (maxL := 4) (ret := (some .int)) (by decide) rfl (Nat.le_of_ble_eq_true rfl) ?_
  intro p e s m below meth c A ls hx hb hr hts hown hlocks hin hml hP hK hD hA hS hl
  have hl : lv_has ls 4 [(0, .ref h0), (1, .int (nI (mm))), (2, .int (nI (k9)))] := hl
  have hown : s.vm.findClass RX4 = some m.cls := hown
  refine lv_aload_n hx hb dX4_sample_0 rfl (lv_at hl 0 rfl) ?_
  refine lv_iconst (v := nI (0)) hx hb dX4_sample_1 (by decide) ?_
  refine va_put (D := D) (cl := vwCl) (ci := 4) (v := .int (nI (0))) (ty := tyX4 0) (C := RX4) (T := TX4) (N := 15) hx hb hts in_X4_sample_X4 tyX4 tyX4_ok nmX4 hown hK hP hD hS 0 rfl rfl 0 (by decide) (hts (.fieldLink RX4 48 "BulkSamplesModel" "thrown" "I") fl_X4_sample_48) (fun _ h9 => h9) rfl (by decide +kernel) rfl rfl (Nat.le_of_ble_eq_true rfl) dX4_sample_2 (fun H locs hP hD hS => ?_)
  have hP : va_P D vwCl [(h0, .inr (4, [.int (nI (0)), .int (nI (cnt)), .ref yI, .ref yD, .ref yN, .ref yW, .int (nI (te)), .int (nI (tr)), .ref yP, .ref yG, .ref yR, .ref yS, .ref yA, .ref yL, .ref yT])), (yI, .inl (cI, 21, .inl (fun j => nI (iv j)))), (yN, .inl (cI, 21, .inl (fun j => nI (nv j))))] H := hP
  have hD : va_D A [(h0, .inr (4, [.int (nI (0)), .int (nI (cnt)), .ref yI, .ref yD, .ref yN, .ref yW, .int (nI (te)), .int (nI (tr)), .ref yP, .ref yG, .ref yR, .ref yS, .ref yA, .ref yL, .ref yT])), (yI, .inl (cI, 21, .inl (fun j => nI (iv j)))), (yN, .inl (cI, 21, .inl (fun j => nI (nv j))))] := hD
  refine lv_aload_n hx hb dX4_sample_5 rfl (lv_at hl 0 rfl) ?_
  refine lv_iload_n hx hb dX4_sample_6 rfl (lv_at hl 1 rfl) ?_
  refine k_calli (wc := [(h0, .inr (4, [.int (nI (0)), .int (nI (cnt)), .ref yI, .ref yD, .ref yN, .ref yW, .int (nI (te)), .int (nI (tr)), .ref yP, .ref yG, .ref yR, .ref yS, .ref yA, .ref yL, .ref yT]))]) (wr := [(yI, .inl (cI, 21, .inl (fun j => nI (iv j)))), (yN, .inl (cI, 21, .inl (fun j => nI (nv j))))]) (W1 := fun _ => [(h0, .inr (4, [.int (nI (0)), .int (nI (cnt)), .ref yI, .ref yD, .ref yN, .ref yW, .int (nI (te)), .int (nI (tr)), .ref yP, .ref yG, .ref yR, .ref yS, .ref yA, .ref yL, .ref yT])), (yI, .inl (cI, 21, .inl (fun j => nI (iv j)))), (yN, .inl (cI, 21, .inl (fun j => nI (nv j))))]) hP hD hS hA [0] [1, 2] [2, 0, 1] rfl rfl (by decide) (by decide) (fun _ => rfl) (by decide) (va_runV (As := [.int (nI (mm))]) (rest := []) ⟨hx, hb, hml, hown, hts⟩ (d_is_yes l D cI cL cM H.size h0 yI yD yN yW yP yG yR yS yA yL yT 0 cnt te tr mm h1m hmm hc) (cwV 1 hts gX4_sample_X4_isMailing rfl rfl rfl (by decide +kernel) ⟨Nat.le_of_ble_eq_true rfl, Nat.le_of_ble_eq_true rfl⟩) (k_preV hP hD hK [0] rfl (by decide) 0 rfl rfl rfl) rfl rfl hl.1 rfl (lv_room (Nat.le_of_ble_eq_true rfl)) dX4_sample_7 ⟨Nat.le_of_ble_eq_true rfl, Nat.le_of_ble_eq_true rfl⟩) (fun r_1 _ H locs hw hP hD hS => ?_)
  obtain rfl : r_1 = nI (1) := hw
  refine n_if_ne (tgt := 16) hx hb (by omega) dX4_sample_10 (by decide) (fun c_2 => ?_) (fun c_2 => False.elim (by omega))
  refine lv_iload_n hx hb dX4_sample_16 rfl (lv_at hl 2 rfl) ?_
  refine lv_iconst (v := nI (1)) hx hb dX4_sample_17 (by decide) ?_
  refine n_icmp_ge (tgt := 24) hx hb (by omega) (by omega) dX4_sample_18 (by decide) (fun c_3 => ?_) (fun c_3 => False.elim (by omega))
  refine lv_aload_n hx hb dX4_sample_24 rfl (lv_at hl 0 rfl) ?_
  refine va_get (D := D) (cl := vwCl) (ci := 4) (v := .ref yN) (C := RX4) (T := TX4) (N := 15) hx hb hts in_X4_sample_X4 hown hK hP 0 rfl rfl 4 (by decide) (hts (.fieldLink RX4 16 "BulkSamplesModel" "drawn" "[I") fl_X4_sample_16) (fun _ h9 => h9) rfl dX4_sample_25 ?_
  refine lv_iload_n hx hb dX4_sample_28 rfl (lv_at hl 1 rfl) ?_
  refine n_iald (x := nI (nv mm)) hx hb hK hP 2 0 rfl rfl (by omega) (by omega) rfl dX4_sample_29 ?_
  refine n_if_le (tgt := 36) hx hb (by omega) dX4_sample_30 (by decide) (fun c_4 => ?_) (fun c_4 => ?_)
  · refine lv_iload_n hx hb dX4_sample_36 rfl (lv_at hl 2 rfl) ?_
    refine lv_aload_n hx hb dX4_sample_37 rfl (lv_at hl 0 rfl) ?_
    refine va_get (D := D) (cl := vwCl) (ci := 4) (v := .ref yI) (C := RX4) (T := TX4) (N := 15) hx hb hts in_X4_sample_X4 hown hK hP 0 rfl rfl 2 (by decide) (hts (.fieldLink RX4 7 "BulkSamplesModel" "items" "[I") fl_X4_sample_7) (fun _ h9 => h9) rfl dX4_sample_38 ?_
    refine lv_iload_n hx hb dX4_sample_41 rfl (lv_at hl 1 rfl) ?_
    refine n_iald (x := nI (iv mm)) hx hb hK hP 1 0 rfl rfl (by omega) (by omega) rfl dX4_sample_42 ?_
    refine n_icmp_le (tgt := 55) hx hb (by omega) (by omega) dX4_sample_43 (by decide) (fun c_5 => ?_) (fun c_5 => ?_)
    · have hmin : min k9 (iv mm) = k9 := by omega
      refine lv_iload_n hx hb dX4_sample_55 rfl (lv_at hl 2 rfl) ?_
      refine lv_istore_n (lv' := [(3, .int (nI (k9))), (0, .ref h0), (1, .int (nI (mm))), (2, .int (nI (k9)))]) hx hb dX4_sample_56 rfl hl (by decide) rfl (fun ls hl => ?_)
      refine lv_iload_n hx hb dX4_sample_57 rfl (lv_at hl 0 rfl) ?_
      refine lv_aload_n hx hb dX4_sample_58 rfl (lv_at hl 1 rfl) ?_
      refine va_get (D := D) (cl := vwCl) (ci := 4) (v := .int (nI (te))) (C := RX4) (T := TX4) (N := 15) hx hb hts in_X4_sample_X4 hown hK hP 0 rfl rfl 6 (by decide) (hts (.fieldLink RX4 62 "BulkSamplesModel" "taped" "I") fl_X4_sample_62) (fun _ h9 => h9) rfl dX4_sample_59 ?_
      refine n_icmp_le (tgt := 68) hx hb (by omega) (by omega) dX4_sample_62 (by decide) (fun c_6 => ?_) (fun c_6 => ?_)
      · have hT : saT (iv mm) (nv mm) te k9 = k9 := by rw [saT, if_neg (by omega), if_neg (by omega), hmin]
        refine lv_aload_n hx hb dX4_sample_68 rfl (lv_at hl 1 rfl) ?_
        refine lv_aload_n hx hb dX4_sample_69 rfl (lv_at hl 1 rfl) ?_
        refine va_get (D := D) (cl := vwCl) (ci := 4) (v := .int (nI (te))) (C := RX4) (T := TX4) (N := 15) hx hb hts in_X4_sample_X4 hown hK hP 0 rfl rfl 6 (by decide) (hts (.fieldLink RX4 62 "BulkSamplesModel" "taped" "I") fl_X4_sample_62) (fun _ h9 => h9) rfl dX4_sample_70 ?_
        refine lv_iload_n hx hb dX4_sample_73 rfl (lv_at hl 0 rfl) ?_
        refine n_isub (r := te - k9) hx hb dX4_sample_74 (by omega) rfl ?_
        refine va_put (D := D) (cl := vwCl) (ci := 4) (v := .int (nI (te - k9))) (ty := tyX4 6) (C := RX4) (T := TX4) (N := 15) hx hb hts in_X4_sample_X4 tyX4 tyX4_ok nmX4 hown hK hP hD hS 0 rfl rfl 6 (by decide) (hts (.fieldLink RX4 62 "BulkSamplesModel" "taped" "I") fl_X4_sample_62) (fun _ h9 => h9) rfl (by decide +kernel) rfl rfl (Nat.le_of_ble_eq_true rfl) dX4_sample_75 (fun H locs hP hD hS => ?_)
        have hP : va_P D vwCl [(h0, .inr (4, [.int (nI (0)), .int (nI (cnt)), .ref yI, .ref yD, .ref yN, .ref yW, .int (nI (te - k9)), .int (nI (tr)), .ref yP, .ref yG, .ref yR, .ref yS, .ref yA, .ref yL, .ref yT])), (yI, .inl (cI, 21, .inl (fun j => nI (iv j)))), (yN, .inl (cI, 21, .inl (fun j => nI (nv j))))] H := hP
        have hD : va_D A [(h0, .inr (4, [.int (nI (0)), .int (nI (cnt)), .ref yI, .ref yD, .ref yN, .ref yW, .int (nI (te - k9)), .int (nI (tr)), .ref yP, .ref yG, .ref yR, .ref yS, .ref yA, .ref yL, .ref yT])), (yI, .inl (cI, 21, .inl (fun j => nI (iv j)))), (yN, .inl (cI, 21, .inl (fun j => nI (nv j))))] := hD
        refine lv_aload_n hx hb dX4_sample_78 rfl (lv_at hl 1 rfl) ?_
        refine va_get (D := D) (cl := vwCl) (ci := 4) (v := .ref yN) (C := RX4) (T := TX4) (N := 15) hx hb hts in_X4_sample_X4 hown hK hP 0 rfl rfl 4 (by decide) (hts (.fieldLink RX4 16 "BulkSamplesModel" "drawn" "[I") fl_X4_sample_16) (fun _ h9 => h9) rfl dX4_sample_79 ?_
        refine lv_iload_n hx hb dX4_sample_82 rfl (lv_at hl 2 rfl) ?_
        refine lv_iload_n hx hb dX4_sample_83 rfl (lv_at hl 0 rfl) ?_
        refine n_iast (f' := fun j => nI (if j = mm then k9 else nv j)) (ws' := [(h0, .inr (4, [.int (nI (0)), .int (nI (cnt)), .ref yI, .ref yD, .ref yN, .ref yW, .int (nI (te - k9)), .int (nI (tr)), .ref yP, .ref yG, .ref yR, .ref yS, .ref yA, .ref yL, .ref yT])), (yI, .inl (cI, 21, .inl (fun j => nI (iv j)))), (yN, .inl (cI, 21, .inl (fun j => nI (if j = mm then k9 else nv j))))]) hx hb hK hP hD hS 2 0 rfl rfl (by omega) (by omega) (fun j _ => by split <;> rfl) rfl dX4_sample_84 (fun H locs hP hD hS => ?_)
        refine lv_iload_n hx hb dX4_sample_85 rfl (lv_at hl 0 rfl) ?_
        have e1 : (te - k9) = te - saT (iv mm) (nv mm) te k9 := by omega
        have hP : va_P D vwCl [(h0, .inr (4, [.int (nI (0)), .int (nI (cnt)), .ref yI, .ref yD, .ref yN, .ref yW, .int (nI (te - saT (iv mm) (nv mm) te k9)), .int (nI (tr)), .ref yP, .ref yG, .ref yR, .ref yS, .ref yA, .ref yL, .ref yT])), (yI, .inl (cI, 21, .inl (fun j => nI (iv j)))), (yN, .inl (cI, 21, .inl (fun j => nI (if j = mm then k9 else nv j))))] H := by rw [← e1]; exact hP
        have hD : va_D A [(h0, .inr (4, [.int (nI (0)), .int (nI (cnt)), .ref yI, .ref yD, .ref yN, .ref yW, .int (nI (te - saT (iv mm) (nv mm) te k9)), .int (nI (tr)), .ref yP, .ref yG, .ref yR, .ref yS, .ref yA, .ref yL, .ref yT])), (yI, .inl (cI, 21, .inl (fun j => nI (iv j)))), (yN, .inl (cI, 21, .inl (fun j => nI (if j = mm then k9 else nv j))))] := D_pick hD [0, 1, 2] (by decide) rfl
        have hP : va_P D vwCl [(h0, .inr (4, [.int (nI (0)), .int (nI (cnt)), .ref yI, .ref yD, .ref yN, .ref yW, .int (nI (te - saT (iv mm) (nv mm) te k9)), .int (nI (tr)), .ref yP, .ref yG, .ref yR, .ref yS, .ref yA, .ref yL, .ref yT])), (yI, .inl (cI, 21, .inl (fun j => nI (iv j)))), (yN, .inl (cI, 21, .inl (fun j => nI (if j = mm then nv mm + saT (iv mm) (nv mm) te k9 else nv j))))] H := P_altI _ hP 2 rfl rfl (fun j _ => congrArg nI (by by_cases h : j = mm <;> simp [h, hT] <;> omega))
        have hD : va_D A [(h0, .inr (4, [.int (nI (0)), .int (nI (cnt)), .ref yI, .ref yD, .ref yN, .ref yW, .int (nI (te - saT (iv mm) (nv mm) te k9)), .int (nI (tr)), .ref yP, .ref yG, .ref yR, .ref yS, .ref yA, .ref yL, .ref yT])), (yI, .inl (cI, 21, .inl (fun j => nI (iv j)))), (yN, .inl (cI, 21, .inl (fun j => nI (if j = mm then nv mm + saT (iv mm) (nv mm) te k9 else nv j))))] := D_alt hD (q0 := 2) rfl rfl
        refine W.widen (k := 0) (n := 0) (Nat.le_of_ble_eq_true rfl) (Nat.le_of_ble_eq_true rfl) ?_
        exact k_iret (v := nI (k9)) hx hb hr hlocks hP hD hK hS [0, 1, 2] () rfl (by decide) (by rw [saR, if_neg (by omega), if_neg (by omega), hmin]) dX4_sample_86
      · have hT : saT (iv mm) (nv mm) te k9 = 0 := by rw [saT, if_neg (by omega), if_pos (by omega)]
        refine lv_bipush (v := (-14)) hx hb dX4_sample_65 (by decide) ?_
        have e1 : (te) = te - saT (iv mm) (nv mm) te k9 := by omega
        have hP : va_P D vwCl [(h0, .inr (4, [.int (nI (0)), .int (nI (cnt)), .ref yI, .ref yD, .ref yN, .ref yW, .int (nI (te - saT (iv mm) (nv mm) te k9)), .int (nI (tr)), .ref yP, .ref yG, .ref yR, .ref yS, .ref yA, .ref yL, .ref yT])), (yI, .inl (cI, 21, .inl (fun j => nI (iv j)))), (yN, .inl (cI, 21, .inl (fun j => nI (nv j))))] H := by rw [← e1]; exact hP
        have hD : va_D A [(h0, .inr (4, [.int (nI (0)), .int (nI (cnt)), .ref yI, .ref yD, .ref yN, .ref yW, .int (nI (te - saT (iv mm) (nv mm) te k9)), .int (nI (tr)), .ref yP, .ref yG, .ref yR, .ref yS, .ref yA, .ref yL, .ref yT])), (yI, .inl (cI, 21, .inl (fun j => nI (iv j)))), (yN, .inl (cI, 21, .inl (fun j => nI (nv j))))] := D_pick hD [0, 1, 2] (by decide) rfl
        have hP : va_P D vwCl [(h0, .inr (4, [.int (nI (0)), .int (nI (cnt)), .ref yI, .ref yD, .ref yN, .ref yW, .int (nI (te - saT (iv mm) (nv mm) te k9)), .int (nI (tr)), .ref yP, .ref yG, .ref yR, .ref yS, .ref yA, .ref yL, .ref yT])), (yI, .inl (cI, 21, .inl (fun j => nI (iv j)))), (yN, .inl (cI, 21, .inl (fun j => nI (if j = mm then nv mm + saT (iv mm) (nv mm) te k9 else nv j))))] H := P_altI _ hP 2 rfl rfl (fun j _ => congrArg nI (by by_cases h : j = mm <;> simp [h, hT] <;> omega))
        have hD : va_D A [(h0, .inr (4, [.int (nI (0)), .int (nI (cnt)), .ref yI, .ref yD, .ref yN, .ref yW, .int (nI (te - saT (iv mm) (nv mm) te k9)), .int (nI (tr)), .ref yP, .ref yG, .ref yR, .ref yS, .ref yA, .ref yL, .ref yT])), (yI, .inl (cI, 21, .inl (fun j => nI (iv j)))), (yN, .inl (cI, 21, .inl (fun j => nI (if j = mm then nv mm + saT (iv mm) (nv mm) te k9 else nv j))))] := D_alt hD (q0 := 2) rfl rfl
        refine W.widen (k := 0) (n := 0) (Nat.le_of_ble_eq_true rfl) (Nat.le_of_ble_eq_true rfl) ?_
        exact k_iret (v := (-14)) hx hb hr hlocks hP hD hK hS [0, 1, 2] () rfl (by decide) (by rw [saR, if_neg (by omega), if_pos (by omega)]) dX4_sample_67
    · have hmin : min k9 (iv mm) = (iv mm) := by omega
      refine lv_aload_n hx hb dX4_sample_46 rfl (lv_at hl 0 rfl) ?_
      refine va_get (D := D) (cl := vwCl) (ci := 4) (v := .ref yI) (C := RX4) (T := TX4) (N := 15) hx hb hts in_X4_sample_X4 hown hK hP 0 rfl rfl 2 (by decide) (hts (.fieldLink RX4 7 "BulkSamplesModel" "items" "[I") fl_X4_sample_7) (fun _ h9 => h9) rfl dX4_sample_47 ?_
      refine lv_iload_n hx hb dX4_sample_50 rfl (lv_at hl 1 rfl) ?_
      refine n_iald (x := nI (iv mm)) hx hb hK hP 1 0 rfl rfl (by omega) (by omega) rfl dX4_sample_51 ?_
      refine lv_goto (tgt := 56) hx hb dX4_sample_52 (by decide) ?_
      refine lv_istore_n (lv' := [(3, .int (nI (iv mm))), (0, .ref h0), (1, .int (nI (mm))), (2, .int (nI (k9)))]) hx hb dX4_sample_56 rfl hl (by decide) rfl (fun ls hl => ?_)
      refine lv_iload_n hx hb dX4_sample_57 rfl (lv_at hl 0 rfl) ?_
      refine lv_aload_n hx hb dX4_sample_58 rfl (lv_at hl 1 rfl) ?_
      refine va_get (D := D) (cl := vwCl) (ci := 4) (v := .int (nI (te))) (C := RX4) (T := TX4) (N := 15) hx hb hts in_X4_sample_X4 hown hK hP 0 rfl rfl 6 (by decide) (hts (.fieldLink RX4 62 "BulkSamplesModel" "taped" "I") fl_X4_sample_62) (fun _ h9 => h9) rfl dX4_sample_59 ?_
      refine n_icmp_le (tgt := 68) hx hb (by omega) (by omega) dX4_sample_62 (by decide) (fun c_7 => ?_) (fun c_7 => ?_)
      · have hT : saT (iv mm) (nv mm) te k9 = (iv mm) := by rw [saT, if_neg (by omega), if_neg (by omega), hmin]
        refine lv_aload_n hx hb dX4_sample_68 rfl (lv_at hl 1 rfl) ?_
        refine lv_aload_n hx hb dX4_sample_69 rfl (lv_at hl 1 rfl) ?_
        refine va_get (D := D) (cl := vwCl) (ci := 4) (v := .int (nI (te))) (C := RX4) (T := TX4) (N := 15) hx hb hts in_X4_sample_X4 hown hK hP 0 rfl rfl 6 (by decide) (hts (.fieldLink RX4 62 "BulkSamplesModel" "taped" "I") fl_X4_sample_62) (fun _ h9 => h9) rfl dX4_sample_70 ?_
        refine lv_iload_n hx hb dX4_sample_73 rfl (lv_at hl 0 rfl) ?_
        refine n_isub (r := te - (iv mm)) hx hb dX4_sample_74 (by omega) rfl ?_
        refine va_put (D := D) (cl := vwCl) (ci := 4) (v := .int (nI (te - (iv mm)))) (ty := tyX4 6) (C := RX4) (T := TX4) (N := 15) hx hb hts in_X4_sample_X4 tyX4 tyX4_ok nmX4 hown hK hP hD hS 0 rfl rfl 6 (by decide) (hts (.fieldLink RX4 62 "BulkSamplesModel" "taped" "I") fl_X4_sample_62) (fun _ h9 => h9) rfl (by decide +kernel) rfl rfl (Nat.le_of_ble_eq_true rfl) dX4_sample_75 (fun H locs hP hD hS => ?_)
        have hP : va_P D vwCl [(h0, .inr (4, [.int (nI (0)), .int (nI (cnt)), .ref yI, .ref yD, .ref yN, .ref yW, .int (nI (te - (iv mm))), .int (nI (tr)), .ref yP, .ref yG, .ref yR, .ref yS, .ref yA, .ref yL, .ref yT])), (yI, .inl (cI, 21, .inl (fun j => nI (iv j)))), (yN, .inl (cI, 21, .inl (fun j => nI (nv j))))] H := hP
        have hD : va_D A [(h0, .inr (4, [.int (nI (0)), .int (nI (cnt)), .ref yI, .ref yD, .ref yN, .ref yW, .int (nI (te - (iv mm))), .int (nI (tr)), .ref yP, .ref yG, .ref yR, .ref yS, .ref yA, .ref yL, .ref yT])), (yI, .inl (cI, 21, .inl (fun j => nI (iv j)))), (yN, .inl (cI, 21, .inl (fun j => nI (nv j))))] := hD
        refine lv_aload_n hx hb dX4_sample_78 rfl (lv_at hl 1 rfl) ?_
        refine va_get (D := D) (cl := vwCl) (ci := 4) (v := .ref yN) (C := RX4) (T := TX4) (N := 15) hx hb hts in_X4_sample_X4 hown hK hP 0 rfl rfl 4 (by decide) (hts (.fieldLink RX4 16 "BulkSamplesModel" "drawn" "[I") fl_X4_sample_16) (fun _ h9 => h9) rfl dX4_sample_79 ?_
        refine lv_iload_n hx hb dX4_sample_82 rfl (lv_at hl 2 rfl) ?_
        refine lv_iload_n hx hb dX4_sample_83 rfl (lv_at hl 0 rfl) ?_
        refine n_iast (f' := fun j => nI (if j = mm then iv mm else nv j)) (ws' := [(h0, .inr (4, [.int (nI (0)), .int (nI (cnt)), .ref yI, .ref yD, .ref yN, .ref yW, .int (nI (te - (iv mm))), .int (nI (tr)), .ref yP, .ref yG, .ref yR, .ref yS, .ref yA, .ref yL, .ref yT])), (yI, .inl (cI, 21, .inl (fun j => nI (iv j)))), (yN, .inl (cI, 21, .inl (fun j => nI (if j = mm then iv mm else nv j))))]) hx hb hK hP hD hS 2 0 rfl rfl (by omega) (by omega) (fun j _ => by split <;> rfl) rfl dX4_sample_84 (fun H locs hP hD hS => ?_)
        refine lv_iload_n hx hb dX4_sample_85 rfl (lv_at hl 0 rfl) ?_
        have e1 : (te - (iv mm)) = te - saT (iv mm) (nv mm) te k9 := by omega
        have hP : va_P D vwCl [(h0, .inr (4, [.int (nI (0)), .int (nI (cnt)), .ref yI, .ref yD, .ref yN, .ref yW, .int (nI (te - saT (iv mm) (nv mm) te k9)), .int (nI (tr)), .ref yP, .ref yG, .ref yR, .ref yS, .ref yA, .ref yL, .ref yT])), (yI, .inl (cI, 21, .inl (fun j => nI (iv j)))), (yN, .inl (cI, 21, .inl (fun j => nI (if j = mm then iv mm else nv j))))] H := by rw [← e1]; exact hP
        have hD : va_D A [(h0, .inr (4, [.int (nI (0)), .int (nI (cnt)), .ref yI, .ref yD, .ref yN, .ref yW, .int (nI (te - saT (iv mm) (nv mm) te k9)), .int (nI (tr)), .ref yP, .ref yG, .ref yR, .ref yS, .ref yA, .ref yL, .ref yT])), (yI, .inl (cI, 21, .inl (fun j => nI (iv j)))), (yN, .inl (cI, 21, .inl (fun j => nI (if j = mm then iv mm else nv j))))] := D_pick hD [0, 1, 2] (by decide) rfl
        have hP : va_P D vwCl [(h0, .inr (4, [.int (nI (0)), .int (nI (cnt)), .ref yI, .ref yD, .ref yN, .ref yW, .int (nI (te - saT (iv mm) (nv mm) te k9)), .int (nI (tr)), .ref yP, .ref yG, .ref yR, .ref yS, .ref yA, .ref yL, .ref yT])), (yI, .inl (cI, 21, .inl (fun j => nI (iv j)))), (yN, .inl (cI, 21, .inl (fun j => nI (if j = mm then nv mm + saT (iv mm) (nv mm) te k9 else nv j))))] H := P_altI _ hP 2 rfl rfl (fun j _ => congrArg nI (by by_cases h : j = mm <;> simp [h, hT] <;> omega))
        have hD : va_D A [(h0, .inr (4, [.int (nI (0)), .int (nI (cnt)), .ref yI, .ref yD, .ref yN, .ref yW, .int (nI (te - saT (iv mm) (nv mm) te k9)), .int (nI (tr)), .ref yP, .ref yG, .ref yR, .ref yS, .ref yA, .ref yL, .ref yT])), (yI, .inl (cI, 21, .inl (fun j => nI (iv j)))), (yN, .inl (cI, 21, .inl (fun j => nI (if j = mm then nv mm + saT (iv mm) (nv mm) te k9 else nv j))))] := D_alt hD (q0 := 2) rfl rfl
        refine W.widen (k := 0) (n := 0) (Nat.le_of_ble_eq_true rfl) (Nat.le_of_ble_eq_true rfl) ?_
        exact k_iret (v := nI (iv mm)) hx hb hr hlocks hP hD hK hS [0, 1, 2] () rfl (by decide) (by rw [saR, if_neg (by omega), if_neg (by omega), hmin]) dX4_sample_86
      · have hT : saT (iv mm) (nv mm) te k9 = 0 := by rw [saT, if_neg (by omega), if_pos (by omega)]
        refine lv_bipush (v := (-14)) hx hb dX4_sample_65 (by decide) ?_
        have e1 : (te) = te - saT (iv mm) (nv mm) te k9 := by omega
        have hP : va_P D vwCl [(h0, .inr (4, [.int (nI (0)), .int (nI (cnt)), .ref yI, .ref yD, .ref yN, .ref yW, .int (nI (te - saT (iv mm) (nv mm) te k9)), .int (nI (tr)), .ref yP, .ref yG, .ref yR, .ref yS, .ref yA, .ref yL, .ref yT])), (yI, .inl (cI, 21, .inl (fun j => nI (iv j)))), (yN, .inl (cI, 21, .inl (fun j => nI (nv j))))] H := by rw [← e1]; exact hP
        have hD : va_D A [(h0, .inr (4, [.int (nI (0)), .int (nI (cnt)), .ref yI, .ref yD, .ref yN, .ref yW, .int (nI (te - saT (iv mm) (nv mm) te k9)), .int (nI (tr)), .ref yP, .ref yG, .ref yR, .ref yS, .ref yA, .ref yL, .ref yT])), (yI, .inl (cI, 21, .inl (fun j => nI (iv j)))), (yN, .inl (cI, 21, .inl (fun j => nI (nv j))))] := D_pick hD [0, 1, 2] (by decide) rfl
        have hP : va_P D vwCl [(h0, .inr (4, [.int (nI (0)), .int (nI (cnt)), .ref yI, .ref yD, .ref yN, .ref yW, .int (nI (te - saT (iv mm) (nv mm) te k9)), .int (nI (tr)), .ref yP, .ref yG, .ref yR, .ref yS, .ref yA, .ref yL, .ref yT])), (yI, .inl (cI, 21, .inl (fun j => nI (iv j)))), (yN, .inl (cI, 21, .inl (fun j => nI (if j = mm then nv mm + saT (iv mm) (nv mm) te k9 else nv j))))] H := P_altI _ hP 2 rfl rfl (fun j _ => congrArg nI (by by_cases h : j = mm <;> simp [h, hT] <;> omega))
        have hD : va_D A [(h0, .inr (4, [.int (nI (0)), .int (nI (cnt)), .ref yI, .ref yD, .ref yN, .ref yW, .int (nI (te - saT (iv mm) (nv mm) te k9)), .int (nI (tr)), .ref yP, .ref yG, .ref yR, .ref yS, .ref yA, .ref yL, .ref yT])), (yI, .inl (cI, 21, .inl (fun j => nI (iv j)))), (yN, .inl (cI, 21, .inl (fun j => nI (if j = mm then nv mm + saT (iv mm) (nv mm) te k9 else nv j))))] := D_alt hD (q0 := 2) rfl rfl
        refine W.widen (k := 0) (n := 0) (Nat.le_of_ble_eq_true rfl) (Nat.le_of_ble_eq_true rfl) ?_
        exact k_iret (v := (-14)) hx hb hr hlocks hP hD hK hS [0, 1, 2] () rfl (by decide) (by rw [saR, if_neg (by omega), if_pos (by omega)]) dX4_sample_67
  · have hT : saT (iv mm) (nv mm) te k9 = 0 := by rw [saT, if_pos (by omega)]
    refine lv_bipush (v := (-13)) hx hb dX4_sample_33 (by decide) ?_
    have e1 : (te) = te - saT (iv mm) (nv mm) te k9 := by omega
    have hP : va_P D vwCl [(h0, .inr (4, [.int (nI (0)), .int (nI (cnt)), .ref yI, .ref yD, .ref yN, .ref yW, .int (nI (te - saT (iv mm) (nv mm) te k9)), .int (nI (tr)), .ref yP, .ref yG, .ref yR, .ref yS, .ref yA, .ref yL, .ref yT])), (yI, .inl (cI, 21, .inl (fun j => nI (iv j)))), (yN, .inl (cI, 21, .inl (fun j => nI (nv j))))] H := by rw [← e1]; exact hP
    have hD : va_D A [(h0, .inr (4, [.int (nI (0)), .int (nI (cnt)), .ref yI, .ref yD, .ref yN, .ref yW, .int (nI (te - saT (iv mm) (nv mm) te k9)), .int (nI (tr)), .ref yP, .ref yG, .ref yR, .ref yS, .ref yA, .ref yL, .ref yT])), (yI, .inl (cI, 21, .inl (fun j => nI (iv j)))), (yN, .inl (cI, 21, .inl (fun j => nI (nv j))))] := D_pick hD [0, 1, 2] (by decide) rfl
    have hP : va_P D vwCl [(h0, .inr (4, [.int (nI (0)), .int (nI (cnt)), .ref yI, .ref yD, .ref yN, .ref yW, .int (nI (te - saT (iv mm) (nv mm) te k9)), .int (nI (tr)), .ref yP, .ref yG, .ref yR, .ref yS, .ref yA, .ref yL, .ref yT])), (yI, .inl (cI, 21, .inl (fun j => nI (iv j)))), (yN, .inl (cI, 21, .inl (fun j => nI (if j = mm then nv mm + saT (iv mm) (nv mm) te k9 else nv j))))] H := P_altI _ hP 2 rfl rfl (fun j _ => congrArg nI (by by_cases h : j = mm <;> simp [h, hT] <;> omega))
    have hD : va_D A [(h0, .inr (4, [.int (nI (0)), .int (nI (cnt)), .ref yI, .ref yD, .ref yN, .ref yW, .int (nI (te - saT (iv mm) (nv mm) te k9)), .int (nI (tr)), .ref yP, .ref yG, .ref yR, .ref yS, .ref yA, .ref yL, .ref yT])), (yI, .inl (cI, 21, .inl (fun j => nI (iv j)))), (yN, .inl (cI, 21, .inl (fun j => nI (if j = mm then nv mm + saT (iv mm) (nv mm) te k9 else nv j))))] := D_alt hD (q0 := 2) rfl rfl
    refine W.widen (k := 0) (n := 0) (Nat.le_of_ble_eq_true rfl) (Nat.le_of_ble_eq_true rfl) ?_
    exact k_iret (v := (-13)) hx hb hr hlocks hP hD hK hS [0, 1, 2] () rfl (by decide) (by rw [saR, if_pos (by omega)]) dX4_sample_35
theorem in_X4_bound_X4 : ∀ w ∈ wsX40, w ∈ wsX4_bound := by decide +kernel
theorem fl_X4_bound_22 : Cond.fieldLink RX4 22 "BulkSamplesModel" "trust" "I" ∈ wsX4_bound := by decide +kernel
theorem fl_X4_bound_48 : Cond.fieldLink RX4 48 "BulkSamplesModel" "thrown" "I" ∈ wsX4_bound := by decide +kernel
set_option maxHeartbeats 4000000 in
set_option maxRecDepth 100000 in
/-- bound: no -/
theorem d_b_no (l : Launch) (D : va_G) (cI cL cM : ClassId) (sz : Nat) (h0 yI yD yN yW yP yG yR yS yA yL yT tz cnt te tr : Nat) (x : Int32) (hbad : x < nI 500 ∨ nI 999 < x) : Met l yX4_bound wsX4_bound ({ frames := 0, cells := 0, slots := 0, locals := 0 } : Room) (va_Pc [.ref h0, .int x] (PreB D (gT cI cL cM) sz [(h0, .inr (4, [.int (nI (tz)), .int (nI (cnt)), .ref yI, .ref yD, .ref yN, .ref yW, .int (nI (te)), .int (nI (tr)), .ref yP, .ref yG, .ref yR, .ref yS, .ref yA, .ref yL, .ref yT]))])) (va_Qi (fun r _ => r = nI 0) (fun (_ : Unit) => PostB D (gT cI cL cM) (va_A [(h0, .inr (4, [.int (nI (tz)), .int (nI (cnt)), .ref yI, .ref yD, .ref yN, .ref yW, .int (nI (te)), .int (nI (tr)), .ref yP, .ref yG, .ref yR, .ref yS, .ref yA, .ref yL, .ref yT]))] sz) [(h0, .inr (4, [.int (nI (0)), .int (nI (cnt)), .ref yI, .ref yD, .ref yN, .ref yW, .int (nI (te)), .int (nI (tr)), .ref yP, .ref yG, .ref yR, .ref yS, .ref yA, .ref yL, .ref yT]))]) (va_A [(h0, .inr (4, [.int (nI (tz)), .int (nI (cnt)), .ref yI, .ref yD, .ref yN, .ref yW, .int (nI (te)), .int (nI (tr)), .ref yP, .ref yG, .ref yR, .ref yS, .ref yA, .ref yL, .ref yT]))] sz)) 0 0 (va_A [(h0, .inr (4, [.int (nI (tz)), .int (nI (cnt)), .ref yI, .ref yD, .ref yN, .ref yW, .int (nI (te)), .int (nI (tr)), .ref yP, .ref yG, .ref yR, .ref yS, .ref yA, .ref yL, .ref yT]))] sz) := by
  refine k_start (fun A => (va_Qi (fun r _ => r = nI 0) (fun (_ : Unit) => PostB D (gT cI cL cM) A [(h0, .inr (4, [.int (nI (0)), .int (nI (cnt)), .ref yI, .ref yD, .ref yN, .ref yW, .int (nI (te)), .int (nI (tr)), .ref yP, .ref yG, .ref yR, .ref yS, .ref yA, .ref yL, .ref yT]))]) A)) (cc := cX4_bound) (maxL := 2) (ret := (some .boolean)) (by decide) rfl (Nat.le_of_ble_eq_true rfl) ?_
  intro p e s m below meth c A ls hx hb hr hts hown hlocks hin hml hP hK hD hA hS hl
  have hl : lv_has ls 2 [(0, .ref h0), (1, .int x)] := hl
  have hown : s.vm.findClass RX4 = some m.cls := hown
  refine lv_aload_n hx hb dX4_bound_0 rfl (lv_at hl 0 rfl) ?_
  refine lv_iconst (v := nI (0)) hx hb dX4_bound_1 (by decide) ?_
  refine va_put (D := D) (cl := vwCl) (ci := 4) (v := .int (nI (0))) (ty := tyX4 0) (C := RX4) (T := TX4) (N := 15) hx hb hts in_X4_bound_X4 tyX4 tyX4_ok nmX4 hown hK hP hD hS 0 rfl rfl 0 (by decide) (hts (.fieldLink RX4 48 "BulkSamplesModel" "thrown" "I") fl_X4_bound_48) (fun _ h9 => h9) rfl (by decide +kernel) rfl rfl (Nat.le_of_ble_eq_true rfl) dX4_bound_2 (fun H locs hP hD hS => ?_)
  have hP : va_P D vwCl [(h0, .inr (4, [.int (nI (0)), .int (nI (cnt)), .ref yI, .ref yD, .ref yN, .ref yW, .int (nI (te)), .int (nI (tr)), .ref yP, .ref yG, .ref yR, .ref yS, .ref yA, .ref yL, .ref yT]))] H := hP
  have hD : va_D A [(h0, .inr (4, [.int (nI (0)), .int (nI (cnt)), .ref yI, .ref yD, .ref yN, .ref yW, .int (nI (te)), .int (nI (tr)), .ref yP, .ref yG, .ref yR, .ref yS, .ref yA, .ref yL, .ref yT]))] := hD
  refine lv_iload_n hx hb dX4_bound_5 rfl (lv_at hl 1 rfl) ?_
  refine lv_sipush (v := nI (500)) hx hb dX4_bound_6 (by decide) ?_
  refine lv_icmp_lt (tgt := 19) hx hb dX4_bound_9 (by decide) (fun c_1 => ?_) (fun c_1 => ?_)
  · refine lv_iconst (v := nI (0)) hx hb dX4_bound_19 (by decide) ?_
    exact k_zret (v := nI (0)) hx hb hr rfl hlocks hP hD hK hS [0] () rfl (by decide) rfl dX4_bound_20
  · have h9 : nI 999 < x := hbad.resolve_left c_1
    refine lv_iload_n hx hb dX4_bound_12 rfl (lv_at hl 1 rfl) ?_
    refine lv_sipush (v := nI (999)) hx hb dX4_bound_13 (by decide) ?_
    refine lv_icmp_le (tgt := 21) hx hb dX4_bound_16 (by decide) (fun c => absurd h9 (Int32.not_lt.mpr c)) (fun c_2 => ?_)
    refine lv_iconst (v := nI (0)) hx hb dX4_bound_19 (by decide) ?_
    exact k_zret (v := nI (0)) hx hb hr rfl hlocks hP hD hK hS [0] () rfl (by decide) rfl dX4_bound_20
set_option maxHeartbeats 4000000 in
set_option maxRecDepth 100000 in
/-- bound -/
theorem d_b_ok (l : Launch) (D : va_G) (cI cL cM : ClassId) (sz : Nat) (h0 yI yD yN yW yP yG yR yS yA yL yT tz cnt te tr : Nat) (k : Nat) (h5 : 500 ≤ k) (h9 : k ≤ 999) : Met l yX4_bound wsX4_bound ({ frames := 0, cells := 0, slots := 0, locals := 0 } : Room) (va_Pc [.ref h0, .int (nI (k))] (PreB D (gT cI cL cM) sz [(h0, .inr (4, [.int (nI (tz)), .int (nI (cnt)), .ref yI, .ref yD, .ref yN, .ref yW, .int (nI (te)), .int (nI (tr)), .ref yP, .ref yG, .ref yR, .ref yS, .ref yA, .ref yL, .ref yT]))])) (va_Qi (fun r _ => r = nI 1) (fun (_ : Unit) => PostB D (gT cI cL cM) (va_A [(h0, .inr (4, [.int (nI (tz)), .int (nI (cnt)), .ref yI, .ref yD, .ref yN, .ref yW, .int (nI (te)), .int (nI (tr)), .ref yP, .ref yG, .ref yR, .ref yS, .ref yA, .ref yL, .ref yT]))] sz) [(h0, .inr (4, [.int (nI (0)), .int (nI (cnt)), .ref yI, .ref yD, .ref yN, .ref yW, .int (nI (te)), .int (nI (k)), .ref yP, .ref yG, .ref yR, .ref yS, .ref yA, .ref yL, .ref yT]))]) (va_A [(h0, .inr (4, [.int (nI (tz)), .int (nI (cnt)), .ref yI, .ref yD, .ref yN, .ref yW, .int (nI (te)), .int (nI (tr)), .ref yP, .ref yG, .ref yR, .ref yS, .ref yA, .ref yL, .ref yT]))] sz)) 0 0 (va_A [(h0, .inr (4, [.int (nI (tz)), .int (nI (cnt)), .ref yI, .ref yD, .ref yN, .ref yW, .int (nI (te)), .int (nI (tr)), .ref yP, .ref yG, .ref yR, .ref yS, .ref yA, .ref yL, .ref yT]))] sz) := by
  refine k_start (fun A => (va_Qi (fun r _ => r = nI 1) (fun (_ : Unit) => PostB D (gT cI cL cM) A [(h0, .inr (4, [.int (nI (0)), .int (nI (cnt)), .ref yI, .ref yD, .ref yN, .ref yW, .int (nI (te)), .int (nI (k)), .ref yP, .ref yG, .ref yR, .ref yS, .ref yA, .ref yL, .ref yT]))]) A)) (cc := cX4_bound) (maxL := 2) (ret := (some .boolean)) (by decide) rfl (Nat.le_of_ble_eq_true rfl) ?_
  intro p e s m below meth c A ls hx hb hr hts hown hlocks hin hml hP hK hD hA hS hl
  have hl : lv_has ls 2 [(0, .ref h0), (1, .int (nI (k)))] := hl
  have hown : s.vm.findClass RX4 = some m.cls := hown
  refine lv_aload_n hx hb dX4_bound_0 rfl (lv_at hl 0 rfl) ?_
  refine lv_iconst (v := nI (0)) hx hb dX4_bound_1 (by decide) ?_
  refine va_put (D := D) (cl := vwCl) (ci := 4) (v := .int (nI (0))) (ty := tyX4 0) (C := RX4) (T := TX4) (N := 15) hx hb hts in_X4_bound_X4 tyX4 tyX4_ok nmX4 hown hK hP hD hS 0 rfl rfl 0 (by decide) (hts (.fieldLink RX4 48 "BulkSamplesModel" "thrown" "I") fl_X4_bound_48) (fun _ h9 => h9) rfl (by decide +kernel) rfl rfl (Nat.le_of_ble_eq_true rfl) dX4_bound_2 (fun H locs hP hD hS => ?_)
  have hP : va_P D vwCl [(h0, .inr (4, [.int (nI (0)), .int (nI (cnt)), .ref yI, .ref yD, .ref yN, .ref yW, .int (nI (te)), .int (nI (tr)), .ref yP, .ref yG, .ref yR, .ref yS, .ref yA, .ref yL, .ref yT]))] H := hP
  have hD : va_D A [(h0, .inr (4, [.int (nI (0)), .int (nI (cnt)), .ref yI, .ref yD, .ref yN, .ref yW, .int (nI (te)), .int (nI (tr)), .ref yP, .ref yG, .ref yR, .ref yS, .ref yA, .ref yL, .ref yT]))] := hD
  refine lv_iload_n hx hb dX4_bound_5 rfl (lv_at hl 1 rfl) ?_
  refine lv_sipush (v := nI (500)) hx hb dX4_bound_6 (by decide) ?_
  refine n_icmp_lt (tgt := 19) hx hb (by omega) (by omega) dX4_bound_9 (by decide) (fun c_1 => False.elim (by omega)) (fun c_1 => ?_)
  refine lv_iload_n hx hb dX4_bound_12 rfl (lv_at hl 1 rfl) ?_
  refine lv_sipush (v := nI (999)) hx hb dX4_bound_13 (by decide) ?_
  refine n_icmp_le (tgt := 21) hx hb (by omega) (by omega) dX4_bound_16 (by decide) (fun c_2 => ?_) (fun c_2 => False.elim (by omega))
  refine lv_aload_n hx hb dX4_bound_21 rfl (lv_at hl 0 rfl) ?_
  refine lv_iload_n hx hb dX4_bound_22 rfl (lv_at hl 1 rfl) ?_
  refine va_put (D := D) (cl := vwCl) (ci := 4) (v := .int (nI (k))) (ty := tyX4 7) (C := RX4) (T := TX4) (N := 15) hx hb hts in_X4_bound_X4 tyX4 tyX4_ok nmX4 hown hK hP hD hS 0 rfl rfl 7 (by decide) (hts (.fieldLink RX4 22 "BulkSamplesModel" "trust" "I") fl_X4_bound_22) (fun _ h9 => h9) rfl (by decide +kernel) rfl rfl (Nat.le_of_ble_eq_true rfl) dX4_bound_23 (fun H locs hP hD hS => ?_)
  have hP : va_P D vwCl [(h0, .inr (4, [.int (nI (0)), .int (nI (cnt)), .ref yI, .ref yD, .ref yN, .ref yW, .int (nI (te)), .int (nI (k)), .ref yP, .ref yG, .ref yR, .ref yS, .ref yA, .ref yL, .ref yT]))] H := hP
  have hD : va_D A [(h0, .inr (4, [.int (nI (0)), .int (nI (cnt)), .ref yI, .ref yD, .ref yN, .ref yW, .int (nI (te)), .int (nI (k)), .ref yP, .ref yG, .ref yR, .ref yS, .ref yA, .ref yL, .ref yT]))] := hD
  refine lv_iconst (v := nI (1)) hx hb dX4_bound_26 (by decide) ?_
  exact k_zret (v := nI (1)) hx hb hr rfl hlocks hP hD hK hS [0] () rfl (by decide) rfl dX4_bound_27
theorem in_X4_plan_X4 : ∀ w ∈ wsX40, w ∈ wsX4_plan := by decide +kernel
theorem fl_X4_plan_26 : Cond.fieldLink RX4 26 "BulkSamplesModel" "plans" "[I" ∈ wsX4_plan := by decide +kernel
theorem fl_X4_plan_29 : Cond.fieldLink RX4 29 "BulkSamplesModel" "goods" "[I" ∈ wsX4_plan := by decide +kernel
theorem fl_X4_plan_48 : Cond.fieldLink RX4 48 "BulkSamplesModel" "thrown" "I" ∈ wsX4_plan := by decide +kernel
set_option maxHeartbeats 4000000 in
set_option maxRecDepth 100000 in
/-- plan: OUTSIDE -/
theorem d_p_bad (l : Launch) (D : va_G) (cI cL cM : ClassId) (sz : Nat) (h0 yI yD yN yW yP yG yR yS yA yL yT tz cnt te tr : Nat) (c9 g9 : Int32) (hbad : c9 < 0 ∨ nI (49 + 1) ≤ c9 ∨ g9 < 0 ∨ nI 2 < g9) : Met l yX4_plan wsX4_plan ({ frames := 0, cells := 0, slots := 0, locals := 0 } : Room) (va_Pc [.ref h0, .int c9, .int g9] (PreB D (gT cI cL cM) sz [(h0, .inr (4, [.int (nI (tz)), .int (nI (cnt)), .ref yI, .ref yD, .ref yN, .ref yW, .int (nI (te)), .int (nI (tr)), .ref yP, .ref yG, .ref yR, .ref yS, .ref yA, .ref yL, .ref yT]))])) (va_Qi (fun r _ => r = -12) (fun (_ : Unit) => PostB D (gT cI cL cM) (va_A [(h0, .inr (4, [.int (nI (tz)), .int (nI (cnt)), .ref yI, .ref yD, .ref yN, .ref yW, .int (nI (te)), .int (nI (tr)), .ref yP, .ref yG, .ref yR, .ref yS, .ref yA, .ref yL, .ref yT]))] sz) [(h0, .inr (4, [.int (nI (0)), .int (nI (cnt)), .ref yI, .ref yD, .ref yN, .ref yW, .int (nI (te)), .int (nI (tr)), .ref yP, .ref yG, .ref yR, .ref yS, .ref yA, .ref yL, .ref yT]))]) (va_A [(h0, .inr (4, [.int (nI (tz)), .int (nI (cnt)), .ref yI, .ref yD, .ref yN, .ref yW, .int (nI (te)), .int (nI (tr)), .ref yP, .ref yG, .ref yR, .ref yS, .ref yA, .ref yL, .ref yT]))] sz)) 0 0 (va_A [(h0, .inr (4, [.int (nI (tz)), .int (nI (cnt)), .ref yI, .ref yD, .ref yN, .ref yW, .int (nI (te)), .int (nI (tr)), .ref yP, .ref yG, .ref yR, .ref yS, .ref yA, .ref yL, .ref yT]))] sz) := by
  refine k_start (fun A => (va_Qi (fun r _ => r = -12) (fun (_ : Unit) => PostB D (gT cI cL cM) A [(h0, .inr (4, [.int (nI (0)), .int (nI (cnt)), .ref yI, .ref yD, .ref yN, .ref yW, .int (nI (te)), .int (nI (tr)), .ref yP, .ref yG, .ref yR, .ref yS, .ref yA, .ref yL, .ref yT]))]) A)) (cc := cX4_plan) (maxL := 3) (ret := (some .int)) (by decide) rfl (Nat.le_of_ble_eq_true rfl) ?_
  intro p e s m below meth c A ls hx hb hr hts hown hlocks hin hml hP hK hD hA hS hl
  have hl : lv_has ls 3 [(0, .ref h0), (1, .int c9), (2, .int g9)] := hl
  have hown : s.vm.findClass RX4 = some m.cls := hown
  refine lv_aload_n hx hb dX4_plan_0 rfl (lv_at hl 0 rfl) ?_
  refine lv_iconst (v := nI (0)) hx hb dX4_plan_1 (by decide) ?_
  refine va_put (D := D) (cl := vwCl) (ci := 4) (v := .int (nI (0))) (ty := tyX4 0) (C := RX4) (T := TX4) (N := 15) hx hb hts in_X4_plan_X4 tyX4 tyX4_ok nmX4 hown hK hP hD hS 0 rfl rfl 0 (by decide) (hts (.fieldLink RX4 48 "BulkSamplesModel" "thrown" "I") fl_X4_plan_48) (fun _ h9 => h9) rfl (by decide +kernel) rfl rfl (Nat.le_of_ble_eq_true rfl) dX4_plan_2 (fun H locs hP hD hS => ?_)
  have hP : va_P D vwCl [(h0, .inr (4, [.int (nI (0)), .int (nI (cnt)), .ref yI, .ref yD, .ref yN, .ref yW, .int (nI (te)), .int (nI (tr)), .ref yP, .ref yG, .ref yR, .ref yS, .ref yA, .ref yL, .ref yT]))] H := hP
  have hD : va_D A [(h0, .inr (4, [.int (nI (0)), .int (nI (cnt)), .ref yI, .ref yD, .ref yN, .ref yW, .int (nI (te)), .int (nI (tr)), .ref yP, .ref yG, .ref yR, .ref yS, .ref yA, .ref yL, .ref yT]))] := hD
  refine lv_iload_n hx hb dX4_plan_5 rfl (lv_at hl 1 rfl) ?_
  refine lv_if_lt (tgt := 24) hx hb dX4_plan_6 (by decide) (fun c_1 => ?_) (fun c_1 => ?_)
  · refine lv_bipush (v := (-12)) hx hb dX4_plan_24 (by decide) ?_
    exact k_iret (v := (-12)) hx hb hr hlocks hP hD hK hS [0] () rfl (by decide) rfl dX4_plan_26
  · refine lv_iload_n hx hb dX4_plan_9 rfl (lv_at hl 1 rfl) ?_
    refine lv_bipush (v := nI (49)) hx hb dX4_plan_10 (by decide) ?_
    refine lv_icmp_gt (tgt := 24) hx hb dX4_plan_12 (by decide) (fun c_2 => ?_) (fun c_2 => ?_)
    · refine lv_bipush (v := (-12)) hx hb dX4_plan_24 (by decide) ?_
      exact k_iret (v := (-12)) hx hb hr hlocks hP hD hK hS [0] () rfl (by decide) rfl dX4_plan_26
    · refine lv_iload_n hx hb dX4_plan_15 rfl (lv_at hl 2 rfl) ?_
      refine lv_if_lt (tgt := 24) hx hb dX4_plan_16 (by decide) (fun c_3 => ?_) (fun c_3 => ?_)
      · refine lv_bipush (v := (-12)) hx hb dX4_plan_24 (by decide) ?_
        exact k_iret (v := (-12)) hx hb hr hlocks hP hD hK hS [0] () rfl (by decide) rfl dX4_plan_26
      · have h0 : nI 2 < g9 := ((hbad.resolve_left c_1).resolve_left (fun q => absurd (ge_gtI (by omega) q) c_2)).resolve_left c_3
        refine lv_iload_n hx hb dX4_plan_19 rfl (lv_at hl 2 rfl) ?_
        refine lv_iconst (v := nI (2)) hx hb dX4_plan_20 (by decide) ?_
        refine lv_icmp_le (tgt := 27) hx hb dX4_plan_21 (by decide) (fun c => absurd h0 (Int32.not_lt.mpr c)) (fun c_4 => ?_)
        refine lv_bipush (v := (-12)) hx hb dX4_plan_24 (by decide) ?_
        exact k_iret (v := (-12)) hx hb hr hlocks hP hD hK hS [0] () rfl (by decide) rfl dX4_plan_26
set_option maxHeartbeats 4000000 in
set_option maxRecDepth 100000 in
/-- plan -/
theorem d_p_in (l : Launch) (D : va_G) (cI cL cM : ClassId) (sz : Nat) (h0 yI yD yN yW yP yG yR yS yA yL yT tz cnt te tr : Nat) (pl go : Nat → Nat) (j9 g : Nat) (hj9 : j9 < 50) (hg : g ≤ 2) (hpl : ∀ j, j < 50 → pl j ≤ 60) (hgo : ∀ j, j < 50 → go j ≤ 2) : Met l yX4_plan wsX4_plan ({ frames := 0, cells := 0, slots := 0, locals := 0 } : Room) (va_Pc [.ref h0, .int (nI (j9)), .int (nI (g))] (PreB D (gT cI cL cM) sz [(h0, .inr (4, [.int (nI (tz)), .int (nI (cnt)), .ref yI, .ref yD, .ref yN, .ref yW, .int (nI (te)), .int (nI (tr)), .ref yP, .ref yG, .ref yR, .ref yS, .ref yA, .ref yL, .ref yT])), (yP, .inl (cI, 50, .inl (fun j => nI (pl j)))), (yG, .inl (cI, 50, .inl (fun j => nI (go j))))])) (va_Qi (fun r _ => r = nI (plP (pl j9) (go j9) g)) (fun (_ : Unit) => PostB D (gT cI cL cM) (va_A [(h0, .inr (4, [.int (nI (tz)), .int (nI (cnt)), .ref yI, .ref yD, .ref yN, .ref yW, .int (nI (te)), .int (nI (tr)), .ref yP, .ref yG, .ref yR, .ref yS, .ref yA, .ref yL, .ref yT])), (yP, .inl (cI, 50, .inl (fun j => nI (pl j)))), (yG, .inl (cI, 50, .inl (fun j => nI (go j))))] sz) [(h0, .inr (4, [.int (nI (0)), .int (nI (cnt)), .ref yI, .ref yD, .ref yN, .ref yW, .int (nI (te)), .int (nI (tr)), .ref yP, .ref yG, .ref yR, .ref yS, .ref yA, .ref yL, .ref yT])), (yP, .inl (cI, 50, .inl (fun j => nI (if j = j9 then plP (pl j9) (go j9) g else pl j)))), (yG, .inl (cI, 50, .inl (fun j => nI (if j = j9 then plG (go j9) g else go j))))]) (va_A [(h0, .inr (4, [.int (nI (tz)), .int (nI (cnt)), .ref yI, .ref yD, .ref yN, .ref yW, .int (nI (te)), .int (nI (tr)), .ref yP, .ref yG, .ref yR, .ref yS, .ref yA, .ref yL, .ref yT])), (yP, .inl (cI, 50, .inl (fun j => nI (pl j)))), (yG, .inl (cI, 50, .inl (fun j => nI (go j))))] sz)) 0 0 (va_A [(h0, .inr (4, [.int (nI (tz)), .int (nI (cnt)), .ref yI, .ref yD, .ref yN, .ref yW, .int (nI (te)), .int (nI (tr)), .ref yP, .ref yG, .ref yR, .ref yS, .ref yA, .ref yL, .ref yT])), (yP, .inl (cI, 50, .inl (fun j => nI (pl j)))), (yG, .inl (cI, 50, .inl (fun j => nI (go j))))] sz) := by
  refine k_start (fun A => (va_Qi (fun r _ => r = nI (plP (pl j9) (go j9) g)) (fun (_ : Unit) => PostB D (gT cI cL cM) A [(h0, .inr (4, [.int (nI (0)), .int (nI (cnt)), .ref yI, .ref yD, .ref yN, .ref yW, .int (nI (te)), .int (nI (tr)), .ref yP, .ref yG, .ref yR, .ref yS, .ref yA, .ref yL, .ref yT])), (yP, .inl (cI, 50, .inl (fun j => nI (if j = j9 then plP (pl j9) (go j9) g else pl j)))), (yG, .inl (cI, 50, .inl (fun j => nI (if j = j9 then plG (go j9) g else go j))))]) A)) (cc := cX4_plan) (maxL := 3) (ret := (some .int)) (by decide) rfl (Nat.le_of_ble_eq_true rfl) ?_
  intro p e s m below meth c A ls hx hb hr hts hown hlocks hin hml hP hK hD hA hS hl
  have hl : lv_has ls 3 [(0, .ref h0), (1, .int (nI (j9))), (2, .int (nI (g)))] := hl
  have hown : s.vm.findClass RX4 = some m.cls := hown
  have hpj := hpl j9 hj9
  have hgj := hgo j9 hj9
  refine lv_aload_n hx hb dX4_plan_0 rfl (lv_at hl 0 rfl) ?_
  refine lv_iconst (v := nI (0)) hx hb dX4_plan_1 (by decide) ?_
  refine va_put (D := D) (cl := vwCl) (ci := 4) (v := .int (nI (0))) (ty := tyX4 0) (C := RX4) (T := TX4) (N := 15) hx hb hts in_X4_plan_X4 tyX4 tyX4_ok nmX4 hown hK hP hD hS 0 rfl rfl 0 (by decide) (hts (.fieldLink RX4 48 "BulkSamplesModel" "thrown" "I") fl_X4_plan_48) (fun _ h9 => h9) rfl (by decide +kernel) rfl rfl (Nat.le_of_ble_eq_true rfl) dX4_plan_2 (fun H locs hP hD hS => ?_)
  have hP : va_P D vwCl [(h0, .inr (4, [.int (nI (0)), .int (nI (cnt)), .ref yI, .ref yD, .ref yN, .ref yW, .int (nI (te)), .int (nI (tr)), .ref yP, .ref yG, .ref yR, .ref yS, .ref yA, .ref yL, .ref yT])), (yP, .inl (cI, 50, .inl (fun j => nI (pl j)))), (yG, .inl (cI, 50, .inl (fun j => nI (go j))))] H := hP
  have hD : va_D A [(h0, .inr (4, [.int (nI (0)), .int (nI (cnt)), .ref yI, .ref yD, .ref yN, .ref yW, .int (nI (te)), .int (nI (tr)), .ref yP, .ref yG, .ref yR, .ref yS, .ref yA, .ref yL, .ref yT])), (yP, .inl (cI, 50, .inl (fun j => nI (pl j)))), (yG, .inl (cI, 50, .inl (fun j => nI (go j))))] := hD
  refine lv_iload_n hx hb dX4_plan_5 rfl (lv_at hl 1 rfl) ?_
  refine n_if_lt (tgt := 24) hx hb (by omega) dX4_plan_6 (by decide) ?_
  refine lv_iload_n hx hb dX4_plan_9 rfl (lv_at hl 1 rfl) ?_
  refine lv_bipush (v := nI (49)) hx hb dX4_plan_10 (by decide) ?_
  refine n_icmp_gt (tgt := 24) hx hb (by omega) (by omega) dX4_plan_12 (by decide) (fun c_2 => False.elim (by omega)) (fun c_2 => ?_)
  refine lv_iload_n hx hb dX4_plan_15 rfl (lv_at hl 2 rfl) ?_
  refine n_if_lt (tgt := 24) hx hb (by omega) dX4_plan_16 (by decide) ?_
  refine lv_iload_n hx hb dX4_plan_19 rfl (lv_at hl 2 rfl) ?_
  refine lv_iconst (v := nI (2)) hx hb dX4_plan_20 (by decide) ?_
  refine n_icmp_le (tgt := 27) hx hb (by omega) (by omega) dX4_plan_21 (by decide) (fun c_4 => ?_) (fun c_4 => False.elim (by omega))
  refine lv_iload_n hx hb dX4_plan_27 rfl (lv_at hl 2 rfl) ?_
  refine n_if_ne (tgt := 72) hx hb (by omega) dX4_plan_28 (by decide) (fun c_5 => ?_) (fun c_5 => ?_)
  · refine lv_iload_n hx hb dX4_plan_72 rfl (lv_at hl 2 rfl) ?_
    refine lv_iconst (v := nI (1)) hx hb dX4_plan_73 (by decide) ?_
    refine n_icmp_ne (tgt := 134) hx hb (by omega) (by omega) dX4_plan_74 (by decide) (fun c_6 => ?_) (fun c_6 => ?_)
    · obtain rfl : 2 = g := by omega
      refine lv_aload_n hx hb dX4_plan_134 rfl (lv_at hl 0 rfl) ?_
      refine va_get (D := D) (cl := vwCl) (ci := 4) (v := .ref yP) (C := RX4) (T := TX4) (N := 15) hx hb hts in_X4_plan_X4 hown hK hP 0 rfl rfl 8 (by decide) (hts (.fieldLink RX4 26 "BulkSamplesModel" "plans" "[I") fl_X4_plan_26) (fun _ h9 => h9) rfl dX4_plan_135 ?_
      refine lv_iload_n hx hb dX4_plan_138 rfl (lv_at hl 1 rfl) ?_
      refine n_iald (x := nI (pl j9)) hx hb hK hP 1 0 rfl rfl (by omega) (by omega) rfl dX4_plan_139 ?_
      have eg : plG (go j9) 2 = go j9 := rfl
      have ep : plP (pl j9) (go j9) 2 = pl j9 := rfl
      have hP : va_P D vwCl [(h0, .inr (4, [.int (nI (0)), .int (nI (cnt)), .ref yI, .ref yD, .ref yN, .ref yW, .int (nI (te)), .int (nI (tr)), .ref yP, .ref yG, .ref yR, .ref yS, .ref yA, .ref yL, .ref yT])), (yP, .inl (cI, 50, .inl (fun j => nI (pl j)))), (yG, .inl (cI, 50, .inl (fun j => nI (if j = j9 then plG (go j9) 2 else go j))))] H := P_altI _ hP 2 rfl rfl (fun j _ => by rw [eg]; try (by_cases h : j = j9 <;> simp [h]))
      have hD : va_D A [(h0, .inr (4, [.int (nI (0)), .int (nI (cnt)), .ref yI, .ref yD, .ref yN, .ref yW, .int (nI (te)), .int (nI (tr)), .ref yP, .ref yG, .ref yR, .ref yS, .ref yA, .ref yL, .ref yT])), (yP, .inl (cI, 50, .inl (fun j => nI (pl j)))), (yG, .inl (cI, 50, .inl (fun j => nI (if j = j9 then plG (go j9) 2 else go j))))] := D_alt hD (q0 := 2) rfl rfl
      have hP : va_P D vwCl [(h0, .inr (4, [.int (nI (0)), .int (nI (cnt)), .ref yI, .ref yD, .ref yN, .ref yW, .int (nI (te)), .int (nI (tr)), .ref yP, .ref yG, .ref yR, .ref yS, .ref yA, .ref yL, .ref yT])), (yP, .inl (cI, 50, .inl (fun j => nI (if j = j9 then plP (pl j9) (go j9) 2 else pl j)))), (yG, .inl (cI, 50, .inl (fun j => nI (if j = j9 then plG (go j9) 2 else go j))))] H := P_altI _ hP 1 rfl rfl (fun j _ => by rw [ep]; try (by_cases h : j = j9 <;> simp [h]))
      have hD : va_D A [(h0, .inr (4, [.int (nI (0)), .int (nI (cnt)), .ref yI, .ref yD, .ref yN, .ref yW, .int (nI (te)), .int (nI (tr)), .ref yP, .ref yG, .ref yR, .ref yS, .ref yA, .ref yL, .ref yT])), (yP, .inl (cI, 50, .inl (fun j => nI (if j = j9 then plP (pl j9) (go j9) 2 else pl j)))), (yG, .inl (cI, 50, .inl (fun j => nI (if j = j9 then plG (go j9) 2 else go j))))] := D_alt hD (q0 := 1) rfl rfl
      exact k_iret (v := nI (pl j9)) hx hb hr hlocks hP hD hK hS [0, 1, 2] () rfl (by decide) (by rw [ep]) dX4_plan_140
    · obtain rfl : 1 = g := by omega
      refine lv_aload_n hx hb dX4_plan_77 rfl (lv_at hl 0 rfl) ?_
      refine va_get (D := D) (cl := vwCl) (ci := 4) (v := .ref yG) (C := RX4) (T := TX4) (N := 15) hx hb hts in_X4_plan_X4 hown hK hP 0 rfl rfl 9 (by decide) (hts (.fieldLink RX4 29 "BulkSamplesModel" "goods" "[I") fl_X4_plan_29) (fun _ h9 => h9) rfl dX4_plan_78 ?_
      refine lv_iload_n hx hb dX4_plan_81 rfl (lv_at hl 1 rfl) ?_
      refine lv_dup2_11 hx hb dX4_plan_82 rfl rfl ?_
      refine n_iald (x := nI (go j9)) hx hb hK hP 2 0 rfl rfl (by omega) (by omega) rfl dX4_plan_83 ?_
      refine lv_iconst (v := nI (1)) hx hb dX4_plan_84 (by decide) ?_
      refine n_iadd (r := (go j9) + 1) hx hb dX4_plan_85 rfl ?_
      refine n_iast (f' := fun j => nI (if j = j9 then (go j9) + 1 else go j)) (ws' := [(h0, .inr (4, [.int (nI (0)), .int (nI (cnt)), .ref yI, .ref yD, .ref yN, .ref yW, .int (nI (te)), .int (nI (tr)), .ref yP, .ref yG, .ref yR, .ref yS, .ref yA, .ref yL, .ref yT])), (yP, .inl (cI, 50, .inl (fun j => nI (pl j)))), (yG, .inl (cI, 50, .inl (fun j => nI (if j = j9 then (go j9) + 1 else go j))))]) hx hb hK hP hD hS 2 0 rfl rfl (by omega) (by omega) (fun j _ => by split <;> rfl) rfl dX4_plan_86 (fun H locs hP hD hS => ?_)
      refine lv_aload_n hx hb dX4_plan_87 rfl (lv_at hl 0 rfl) ?_
      refine va_get (D := D) (cl := vwCl) (ci := 4) (v := .ref yG) (C := RX4) (T := TX4) (N := 15) hx hb hts in_X4_plan_X4 hown hK hP 0 rfl rfl 9 (by decide) (hts (.fieldLink RX4 29 "BulkSamplesModel" "goods" "[I") fl_X4_plan_29) (fun _ h9 => h9) rfl dX4_plan_88 ?_
      refine lv_iload_n hx hb dX4_plan_91 rfl (lv_at hl 1 rfl) ?_
      refine n_iald (x := nI (go j9 + 1)) hx hb hK hP 2 0 rfl rfl (by omega) (by omega) (by simp) dX4_plan_92 ?_
      refine lv_iconst (v := nI (3)) hx hb dX4_plan_93 (by decide) ?_
      refine n_icmp_ne (tgt := 134) hx hb (by omega) (by omega) dX4_plan_94 (by decide) (fun c_7 => ?_) (fun c_7 => ?_)
      · refine lv_aload_n hx hb dX4_plan_134 rfl (lv_at hl 0 rfl) ?_
        refine va_get (D := D) (cl := vwCl) (ci := 4) (v := .ref yP) (C := RX4) (T := TX4) (N := 15) hx hb hts in_X4_plan_X4 hown hK hP 0 rfl rfl 8 (by decide) (hts (.fieldLink RX4 26 "BulkSamplesModel" "plans" "[I") fl_X4_plan_26) (fun _ h9 => h9) rfl dX4_plan_135 ?_
        refine lv_iload_n hx hb dX4_plan_138 rfl (lv_at hl 1 rfl) ?_
        refine n_iald (x := nI (pl j9)) hx hb hK hP 1 0 rfl rfl (by omega) (by omega) rfl dX4_plan_139 ?_
        have eg : plG (go j9) 1 = go j9 + 1 := by rw [plG, if_neg (by omega), if_pos rfl, if_neg (by omega)]
        have ep : plP (pl j9) (go j9) 1 = pl j9 := by rw [plP, if_neg (by omega), if_pos rfl, if_neg (by omega)]
        have hP : va_P D vwCl [(h0, .inr (4, [.int (nI (0)), .int (nI (cnt)), .ref yI, .ref yD, .ref yN, .ref yW, .int (nI (te)), .int (nI (tr)), .ref yP, .ref yG, .ref yR, .ref yS, .ref yA, .ref yL, .ref yT])), (yP, .inl (cI, 50, .inl (fun j => nI (pl j)))), (yG, .inl (cI, 50, .inl (fun j => nI (if j = j9 then plG (go j9) 1 else go j))))] H := P_altI _ hP 2 rfl rfl (fun j _ => by rw [eg]; try (by_cases h : j = j9 <;> simp [h]))
        have hD : va_D A [(h0, .inr (4, [.int (nI (0)), .int (nI (cnt)), .ref yI, .ref yD, .ref yN, .ref yW, .int (nI (te)), .int (nI (tr)), .ref yP, .ref yG, .ref yR, .ref yS, .ref yA, .ref yL, .ref yT])), (yP, .inl (cI, 50, .inl (fun j => nI (pl j)))), (yG, .inl (cI, 50, .inl (fun j => nI (if j = j9 then plG (go j9) 1 else go j))))] := D_alt hD (q0 := 2) rfl rfl
        have hP : va_P D vwCl [(h0, .inr (4, [.int (nI (0)), .int (nI (cnt)), .ref yI, .ref yD, .ref yN, .ref yW, .int (nI (te)), .int (nI (tr)), .ref yP, .ref yG, .ref yR, .ref yS, .ref yA, .ref yL, .ref yT])), (yP, .inl (cI, 50, .inl (fun j => nI (if j = j9 then plP (pl j9) (go j9) 1 else pl j)))), (yG, .inl (cI, 50, .inl (fun j => nI (if j = j9 then plG (go j9) 1 else go j))))] H := P_altI _ hP 1 rfl rfl (fun j _ => by rw [ep]; try (by_cases h : j = j9 <;> simp [h]))
        have hD : va_D A [(h0, .inr (4, [.int (nI (0)), .int (nI (cnt)), .ref yI, .ref yD, .ref yN, .ref yW, .int (nI (te)), .int (nI (tr)), .ref yP, .ref yG, .ref yR, .ref yS, .ref yA, .ref yL, .ref yT])), (yP, .inl (cI, 50, .inl (fun j => nI (if j = j9 then plP (pl j9) (go j9) 1 else pl j)))), (yG, .inl (cI, 50, .inl (fun j => nI (if j = j9 then plG (go j9) 1 else go j))))] := D_alt hD (q0 := 1) rfl rfl
        exact k_iret (v := nI (pl j9)) hx hb hr hlocks hP hD hK hS [0, 1, 2] () rfl (by decide) (by rw [ep]) dX4_plan_140
      · refine lv_aload_n hx hb dX4_plan_97 rfl (lv_at hl 0 rfl) ?_
        refine va_get (D := D) (cl := vwCl) (ci := 4) (v := .ref yG) (C := RX4) (T := TX4) (N := 15) hx hb hts in_X4_plan_X4 hown hK hP 0 rfl rfl 9 (by decide) (hts (.fieldLink RX4 29 "BulkSamplesModel" "goods" "[I") fl_X4_plan_29) (fun _ h9 => h9) rfl dX4_plan_98 ?_
        refine lv_iload_n hx hb dX4_plan_101 rfl (lv_at hl 1 rfl) ?_
        refine lv_iconst (v := nI (0)) hx hb dX4_plan_102 (by decide) ?_
        refine n_iast (f' := fun j => nI (if j = j9 then 0 else if j = j9 then (go j9) + 1 else go j)) (ws' := [(h0, .inr (4, [.int (nI (0)), .int (nI (cnt)), .ref yI, .ref yD, .ref yN, .ref yW, .int (nI (te)), .int (nI (tr)), .ref yP, .ref yG, .ref yR, .ref yS, .ref yA, .ref yL, .ref yT])), (yP, .inl (cI, 50, .inl (fun j => nI (pl j)))), (yG, .inl (cI, 50, .inl (fun j => nI (if j = j9 then 0 else if j = j9 then (go j9) + 1 else go j))))]) hx hb hK hP hD hS 2 0 rfl rfl (by omega) (by omega) (fun j _ => by split <;> rfl) rfl dX4_plan_103 (fun H locs hP hD hS => ?_)
        refine lv_aload_n hx hb dX4_plan_104 rfl (lv_at hl 0 rfl) ?_
        refine va_get (D := D) (cl := vwCl) (ci := 4) (v := .ref yP) (C := RX4) (T := TX4) (N := 15) hx hb hts in_X4_plan_X4 hown hK hP 0 rfl rfl 8 (by decide) (hts (.fieldLink RX4 26 "BulkSamplesModel" "plans" "[I") fl_X4_plan_26) (fun _ h9 => h9) rfl dX4_plan_105 ?_
        refine lv_iload_n hx hb dX4_plan_108 rfl (lv_at hl 1 rfl) ?_
        refine lv_aload_n hx hb dX4_plan_109 rfl (lv_at hl 0 rfl) ?_
        refine va_get (D := D) (cl := vwCl) (ci := 4) (v := .ref yP) (C := RX4) (T := TX4) (N := 15) hx hb hts in_X4_plan_X4 hown hK hP 0 rfl rfl 8 (by decide) (hts (.fieldLink RX4 26 "BulkSamplesModel" "plans" "[I") fl_X4_plan_26) (fun _ h9 => h9) rfl dX4_plan_110 ?_
        refine lv_iload_n hx hb dX4_plan_113 rfl (lv_at hl 1 rfl) ?_
        refine n_iald (x := nI (pl j9)) hx hb hK hP 1 0 rfl rfl (by omega) (by omega) rfl dX4_plan_114 ?_
        refine lv_iconst (v := nI (5)) hx hb dX4_plan_115 (by decide) ?_
        refine lv_isub hx hb dX4_plan_116 ?_
        refine lv_iconst (v := nI (5)) hx hb dX4_plan_117 (by decide) ?_
        refine lv_icmp_ge (tgt := 125) hx hb dX4_plan_118 (by decide) (fun c_8 => ?_) (fun c_8 => ?_)
        · have h10 : 10 ≤ pl j9 := by
            have q := Int32.le_iff_toInt_le.mp c_8
            rw [pk_sub_toInt (by omega) (by omega), nI_toInt (by omega)] at q
            omega
          refine lv_aload_n hx hb dX4_plan_125 rfl (lv_at hl 0 rfl) ?_
          refine va_get (D := D) (cl := vwCl) (ci := 4) (v := .ref yP) (C := RX4) (T := TX4) (N := 15) hx hb hts in_X4_plan_X4 hown hK hP 0 rfl rfl 8 (by decide) (hts (.fieldLink RX4 26 "BulkSamplesModel" "plans" "[I") fl_X4_plan_26) (fun _ h9 => h9) rfl dX4_plan_126 ?_
          refine lv_iload_n hx hb dX4_plan_129 rfl (lv_at hl 1 rfl) ?_
          refine n_iald (x := nI (pl j9)) hx hb hK hP 1 0 rfl rfl (by omega) (by omega) rfl dX4_plan_130 ?_
          refine lv_iconst (v := nI (5)) hx hb dX4_plan_131 (by decide) ?_
          refine n_isub (r := (pl j9) - 5) hx hb dX4_plan_132 (by omega) rfl ?_
          refine n_iast (f' := fun j => nI (if j = j9 then (pl j9) - 5 else pl j)) (ws' := [(h0, .inr (4, [.int (nI (0)), .int (nI (cnt)), .ref yI, .ref yD, .ref yN, .ref yW, .int (nI (te)), .int (nI (tr)), .ref yP, .ref yG, .ref yR, .ref yS, .ref yA, .ref yL, .ref yT])), (yP, .inl (cI, 50, .inl (fun j => nI (if j = j9 then (pl j9) - 5 else pl j)))), (yG, .inl (cI, 50, .inl (fun j => nI (if j = j9 then 0 else if j = j9 then (go j9) + 1 else go j))))]) hx hb hK hP hD hS 1 0 rfl rfl (by omega) (by omega) (fun j _ => by split <;> rfl) rfl dX4_plan_133 (fun H locs hP hD hS => ?_)
          refine lv_aload_n hx hb dX4_plan_134 rfl (lv_at hl 0 rfl) ?_
          refine va_get (D := D) (cl := vwCl) (ci := 4) (v := .ref yP) (C := RX4) (T := TX4) (N := 15) hx hb hts in_X4_plan_X4 hown hK hP 0 rfl rfl 8 (by decide) (hts (.fieldLink RX4 26 "BulkSamplesModel" "plans" "[I") fl_X4_plan_26) (fun _ h9 => h9) rfl dX4_plan_135 ?_
          refine lv_iload_n hx hb dX4_plan_138 rfl (lv_at hl 1 rfl) ?_
          refine n_iald (x := nI (pl j9 - 5)) hx hb hK hP 1 0 rfl rfl (by omega) (by omega) (by simp) dX4_plan_139 ?_
          have eg : plG (go j9) 1 = 0 := by rw [plG, if_neg (by omega), if_pos rfl, if_pos (by omega)]
          have ep : plP (pl j9) (go j9) 1 = pl j9 - 5 := by rw [plP, if_neg (by omega), if_pos rfl, if_pos (by omega)]; omega
          have hP : va_P D vwCl [(h0, .inr (4, [.int (nI (0)), .int (nI (cnt)), .ref yI, .ref yD, .ref yN, .ref yW, .int (nI (te)), .int (nI (tr)), .ref yP, .ref yG, .ref yR, .ref yS, .ref yA, .ref yL, .ref yT])), (yP, .inl (cI, 50, .inl (fun j => nI (if j = j9 then (pl j9) - 5 else pl j)))), (yG, .inl (cI, 50, .inl (fun j => nI (if j = j9 then plG (go j9) 1 else go j))))] H := P_altI _ hP 2 rfl rfl (fun j _ => by rw [eg]; try (by_cases h : j = j9 <;> simp [h]))
          have hD : va_D A [(h0, .inr (4, [.int (nI (0)), .int (nI (cnt)), .ref yI, .ref yD, .ref yN, .ref yW, .int (nI (te)), .int (nI (tr)), .ref yP, .ref yG, .ref yR, .ref yS, .ref yA, .ref yL, .ref yT])), (yP, .inl (cI, 50, .inl (fun j => nI (if j = j9 then (pl j9) - 5 else pl j)))), (yG, .inl (cI, 50, .inl (fun j => nI (if j = j9 then plG (go j9) 1 else go j))))] := D_alt hD (q0 := 2) rfl rfl
          have hP : va_P D vwCl [(h0, .inr (4, [.int (nI (0)), .int (nI (cnt)), .ref yI, .ref yD, .ref yN, .ref yW, .int (nI (te)), .int (nI (tr)), .ref yP, .ref yG, .ref yR, .ref yS, .ref yA, .ref yL, .ref yT])), (yP, .inl (cI, 50, .inl (fun j => nI (if j = j9 then plP (pl j9) (go j9) 1 else pl j)))), (yG, .inl (cI, 50, .inl (fun j => nI (if j = j9 then plG (go j9) 1 else go j))))] H := P_altI _ hP 1 rfl rfl (fun j _ => by rw [ep]; try (by_cases h : j = j9 <;> simp [h]))
          have hD : va_D A [(h0, .inr (4, [.int (nI (0)), .int (nI (cnt)), .ref yI, .ref yD, .ref yN, .ref yW, .int (nI (te)), .int (nI (tr)), .ref yP, .ref yG, .ref yR, .ref yS, .ref yA, .ref yL, .ref yT])), (yP, .inl (cI, 50, .inl (fun j => nI (if j = j9 then plP (pl j9) (go j9) 1 else pl j)))), (yG, .inl (cI, 50, .inl (fun j => nI (if j = j9 then plG (go j9) 1 else go j))))] := D_alt hD (q0 := 1) rfl rfl
          exact k_iret (v := nI (pl j9 - 5)) hx hb hr hlocks hP hD hK hS [0, 1, 2] () rfl (by decide) (by rw [ep]) dX4_plan_140
        · have h10 : pl j9 < 10 := by
            refine Nat.not_le.mp (fun q => c_8 (Int32.le_iff_toInt_le.mpr ?_))
            rw [pk_sub_toInt (by omega) (by omega), nI_toInt (by omega)]
            omega
          refine lv_iconst (v := nI (5)) hx hb dX4_plan_121 (by decide) ?_
          refine lv_goto (tgt := 133) hx hb dX4_plan_122 (by decide) ?_
          refine n_iast (f' := fun j => nI (if j = j9 then 5 else pl j)) (ws' := [(h0, .inr (4, [.int (nI (0)), .int (nI (cnt)), .ref yI, .ref yD, .ref yN, .ref yW, .int (nI (te)), .int (nI (tr)), .ref yP, .ref yG, .ref yR, .ref yS, .ref yA, .ref yL, .ref yT])), (yP, .inl (cI, 50, .inl (fun j => nI (if j = j9 then 5 else pl j)))), (yG, .inl (cI, 50, .inl (fun j => nI (if j = j9 then 0 else if j = j9 then (go j9) + 1 else go j))))]) hx hb hK hP hD hS 1 0 rfl rfl (by omega) (by omega) (fun j _ => by split <;> rfl) rfl dX4_plan_133 (fun H locs hP hD hS => ?_)
          refine lv_aload_n hx hb dX4_plan_134 rfl (lv_at hl 0 rfl) ?_
          refine va_get (D := D) (cl := vwCl) (ci := 4) (v := .ref yP) (C := RX4) (T := TX4) (N := 15) hx hb hts in_X4_plan_X4 hown hK hP 0 rfl rfl 8 (by decide) (hts (.fieldLink RX4 26 "BulkSamplesModel" "plans" "[I") fl_X4_plan_26) (fun _ h9 => h9) rfl dX4_plan_135 ?_
          refine lv_iload_n hx hb dX4_plan_138 rfl (lv_at hl 1 rfl) ?_
          refine n_iald (x := nI (5)) hx hb hK hP 1 0 rfl rfl (by omega) (by omega) (by simp) dX4_plan_139 ?_
          have eg : plG (go j9) 1 = 0 := by rw [plG, if_neg (by omega), if_pos rfl, if_pos (by omega)]
          have ep : plP (pl j9) (go j9) 1 = 5 := by rw [plP, if_neg (by omega), if_pos rfl, if_pos (by omega)]; omega
          have hP : va_P D vwCl [(h0, .inr (4, [.int (nI (0)), .int (nI (cnt)), .ref yI, .ref yD, .ref yN, .ref yW, .int (nI (te)), .int (nI (tr)), .ref yP, .ref yG, .ref yR, .ref yS, .ref yA, .ref yL, .ref yT])), (yP, .inl (cI, 50, .inl (fun j => nI (if j = j9 then 5 else pl j)))), (yG, .inl (cI, 50, .inl (fun j => nI (if j = j9 then plG (go j9) 1 else go j))))] H := P_altI _ hP 2 rfl rfl (fun j _ => by rw [eg]; try (by_cases h : j = j9 <;> simp [h]))
          have hD : va_D A [(h0, .inr (4, [.int (nI (0)), .int (nI (cnt)), .ref yI, .ref yD, .ref yN, .ref yW, .int (nI (te)), .int (nI (tr)), .ref yP, .ref yG, .ref yR, .ref yS, .ref yA, .ref yL, .ref yT])), (yP, .inl (cI, 50, .inl (fun j => nI (if j = j9 then 5 else pl j)))), (yG, .inl (cI, 50, .inl (fun j => nI (if j = j9 then plG (go j9) 1 else go j))))] := D_alt hD (q0 := 2) rfl rfl
          have hP : va_P D vwCl [(h0, .inr (4, [.int (nI (0)), .int (nI (cnt)), .ref yI, .ref yD, .ref yN, .ref yW, .int (nI (te)), .int (nI (tr)), .ref yP, .ref yG, .ref yR, .ref yS, .ref yA, .ref yL, .ref yT])), (yP, .inl (cI, 50, .inl (fun j => nI (if j = j9 then plP (pl j9) (go j9) 1 else pl j)))), (yG, .inl (cI, 50, .inl (fun j => nI (if j = j9 then plG (go j9) 1 else go j))))] H := P_altI _ hP 1 rfl rfl (fun j _ => by rw [ep]; try (by_cases h : j = j9 <;> simp [h]))
          have hD : va_D A [(h0, .inr (4, [.int (nI (0)), .int (nI (cnt)), .ref yI, .ref yD, .ref yN, .ref yW, .int (nI (te)), .int (nI (tr)), .ref yP, .ref yG, .ref yR, .ref yS, .ref yA, .ref yL, .ref yT])), (yP, .inl (cI, 50, .inl (fun j => nI (if j = j9 then plP (pl j9) (go j9) 1 else pl j)))), (yG, .inl (cI, 50, .inl (fun j => nI (if j = j9 then plG (go j9) 1 else go j))))] := D_alt hD (q0 := 1) rfl rfl
          exact k_iret (v := nI (5)) hx hb hr hlocks hP hD hK hS [0, 1, 2] () rfl (by decide) (by rw [ep]) dX4_plan_140
  · obtain rfl : 0 = g := by omega
    refine lv_aload_n hx hb dX4_plan_31 rfl (lv_at hl 0 rfl) ?_
    refine va_get (D := D) (cl := vwCl) (ci := 4) (v := .ref yG) (C := RX4) (T := TX4) (N := 15) hx hb hts in_X4_plan_X4 hown hK hP 0 rfl rfl 9 (by decide) (hts (.fieldLink RX4 29 "BulkSamplesModel" "goods" "[I") fl_X4_plan_29) (fun _ h9 => h9) rfl dX4_plan_32 ?_
    refine lv_iload_n hx hb dX4_plan_35 rfl (lv_at hl 1 rfl) ?_
    refine lv_iconst (v := nI (0)) hx hb dX4_plan_36 (by decide) ?_
    refine n_iast (f' := fun j => nI (if j = j9 then 0 else go j)) (ws' := [(h0, .inr (4, [.int (nI (0)), .int (nI (cnt)), .ref yI, .ref yD, .ref yN, .ref yW, .int (nI (te)), .int (nI (tr)), .ref yP, .ref yG, .ref yR, .ref yS, .ref yA, .ref yL, .ref yT])), (yP, .inl (cI, 50, .inl (fun j => nI (pl j)))), (yG, .inl (cI, 50, .inl (fun j => nI (if j = j9 then 0 else go j))))]) hx hb hK hP hD hS 2 0 rfl rfl (by omega) (by omega) (fun j _ => by split <;> rfl) rfl dX4_plan_37 (fun H locs hP hD hS => ?_)
    refine lv_aload_n hx hb dX4_plan_38 rfl (lv_at hl 0 rfl) ?_
    refine va_get (D := D) (cl := vwCl) (ci := 4) (v := .ref yP) (C := RX4) (T := TX4) (N := 15) hx hb hts in_X4_plan_X4 hown hK hP 0 rfl rfl 8 (by decide) (hts (.fieldLink RX4 26 "BulkSamplesModel" "plans" "[I") fl_X4_plan_26) (fun _ h9 => h9) rfl dX4_plan_39 ?_
    refine lv_iload_n hx hb dX4_plan_42 rfl (lv_at hl 1 rfl) ?_
    refine lv_aload_n hx hb dX4_plan_43 rfl (lv_at hl 0 rfl) ?_
    refine va_get (D := D) (cl := vwCl) (ci := 4) (v := .ref yP) (C := RX4) (T := TX4) (N := 15) hx hb hts in_X4_plan_X4 hown hK hP 0 rfl rfl 8 (by decide) (hts (.fieldLink RX4 26 "BulkSamplesModel" "plans" "[I") fl_X4_plan_26) (fun _ h9 => h9) rfl dX4_plan_44 ?_
    refine lv_iload_n hx hb dX4_plan_47 rfl (lv_at hl 1 rfl) ?_
    refine n_iald (x := nI (pl j9)) hx hb hK hP 1 0 rfl rfl (by omega) (by omega) rfl dX4_plan_48 ?_
    refine lv_bipush (v := nI (10)) hx hb dX4_plan_49 (by decide) ?_
    refine n_iadd (r := (pl j9) + 10) hx hb dX4_plan_51 rfl ?_
    refine lv_bipush (v := nI (60)) hx hb dX4_plan_52 (by decide) ?_
    refine n_icmp_le (tgt := 62) hx hb (by omega) (by omega) dX4_plan_54 (by decide) (fun c_9 => ?_) (fun c_9 => ?_)
    · have hmin : min (pl j9 + 10) 60 = pl j9 + 10 := by omega
      refine lv_aload_n hx hb dX4_plan_62 rfl (lv_at hl 0 rfl) ?_
      refine va_get (D := D) (cl := vwCl) (ci := 4) (v := .ref yP) (C := RX4) (T := TX4) (N := 15) hx hb hts in_X4_plan_X4 hown hK hP 0 rfl rfl 8 (by decide) (hts (.fieldLink RX4 26 "BulkSamplesModel" "plans" "[I") fl_X4_plan_26) (fun _ h9 => h9) rfl dX4_plan_63 ?_
      refine lv_iload_n hx hb dX4_plan_66 rfl (lv_at hl 1 rfl) ?_
      refine n_iald (x := nI (pl j9)) hx hb hK hP 1 0 rfl rfl (by omega) (by omega) rfl dX4_plan_67 ?_
      refine lv_bipush (v := nI (10)) hx hb dX4_plan_68 (by decide) ?_
      refine n_iadd (r := (pl j9) + 10) hx hb dX4_plan_70 rfl ?_
      refine n_iast (f' := fun j => nI (if j = j9 then (pl j9) + 10 else pl j)) (ws' := [(h0, .inr (4, [.int (nI (0)), .int (nI (cnt)), .ref yI, .ref yD, .ref yN, .ref yW, .int (nI (te)), .int (nI (tr)), .ref yP, .ref yG, .ref yR, .ref yS, .ref yA, .ref yL, .ref yT])), (yP, .inl (cI, 50, .inl (fun j => nI (if j = j9 then (pl j9) + 10 else pl j)))), (yG, .inl (cI, 50, .inl (fun j => nI (if j = j9 then 0 else go j))))]) hx hb hK hP hD hS 1 0 rfl rfl (by omega) (by omega) (fun j _ => by split <;> rfl) rfl dX4_plan_71 (fun H locs hP hD hS => ?_)
      refine lv_iload_n hx hb dX4_plan_72 rfl (lv_at hl 2 rfl) ?_
      refine lv_iconst (v := nI (1)) hx hb dX4_plan_73 (by decide) ?_
      refine n_icmp_ne (tgt := 134) hx hb (by omega) (by omega) dX4_plan_74 (by decide) (fun c_10 => ?_) (fun c_10 => False.elim (by omega))
      refine lv_aload_n hx hb dX4_plan_134 rfl (lv_at hl 0 rfl) ?_
      refine va_get (D := D) (cl := vwCl) (ci := 4) (v := .ref yP) (C := RX4) (T := TX4) (N := 15) hx hb hts in_X4_plan_X4 hown hK hP 0 rfl rfl 8 (by decide) (hts (.fieldLink RX4 26 "BulkSamplesModel" "plans" "[I") fl_X4_plan_26) (fun _ h9 => h9) rfl dX4_plan_135 ?_
      refine lv_iload_n hx hb dX4_plan_138 rfl (lv_at hl 1 rfl) ?_
      refine n_iald (x := nI (pl j9 + 10)) hx hb hK hP 1 0 rfl rfl (by omega) (by omega) (by simp) dX4_plan_139 ?_
      have eg : plG (go j9) 0 = 0 := rfl
      have ep : plP (pl j9) (go j9) 0 = pl j9 + 10 := hmin
      have hP : va_P D vwCl [(h0, .inr (4, [.int (nI (0)), .int (nI (cnt)), .ref yI, .ref yD, .ref yN, .ref yW, .int (nI (te)), .int (nI (tr)), .ref yP, .ref yG, .ref yR, .ref yS, .ref yA, .ref yL, .ref yT])), (yP, .inl (cI, 50, .inl (fun j => nI (if j = j9 then (pl j9) + 10 else pl j)))), (yG, .inl (cI, 50, .inl (fun j => nI (if j = j9 then plG (go j9) 0 else go j))))] H := P_altI _ hP 2 rfl rfl (fun j _ => by rw [eg]; try (by_cases h : j = j9 <;> simp [h]))
      have hD : va_D A [(h0, .inr (4, [.int (nI (0)), .int (nI (cnt)), .ref yI, .ref yD, .ref yN, .ref yW, .int (nI (te)), .int (nI (tr)), .ref yP, .ref yG, .ref yR, .ref yS, .ref yA, .ref yL, .ref yT])), (yP, .inl (cI, 50, .inl (fun j => nI (if j = j9 then (pl j9) + 10 else pl j)))), (yG, .inl (cI, 50, .inl (fun j => nI (if j = j9 then plG (go j9) 0 else go j))))] := D_alt hD (q0 := 2) rfl rfl
      have hP : va_P D vwCl [(h0, .inr (4, [.int (nI (0)), .int (nI (cnt)), .ref yI, .ref yD, .ref yN, .ref yW, .int (nI (te)), .int (nI (tr)), .ref yP, .ref yG, .ref yR, .ref yS, .ref yA, .ref yL, .ref yT])), (yP, .inl (cI, 50, .inl (fun j => nI (if j = j9 then plP (pl j9) (go j9) 0 else pl j)))), (yG, .inl (cI, 50, .inl (fun j => nI (if j = j9 then plG (go j9) 0 else go j))))] H := P_altI _ hP 1 rfl rfl (fun j _ => by rw [ep]; try (by_cases h : j = j9 <;> simp [h]))
      have hD : va_D A [(h0, .inr (4, [.int (nI (0)), .int (nI (cnt)), .ref yI, .ref yD, .ref yN, .ref yW, .int (nI (te)), .int (nI (tr)), .ref yP, .ref yG, .ref yR, .ref yS, .ref yA, .ref yL, .ref yT])), (yP, .inl (cI, 50, .inl (fun j => nI (if j = j9 then plP (pl j9) (go j9) 0 else pl j)))), (yG, .inl (cI, 50, .inl (fun j => nI (if j = j9 then plG (go j9) 0 else go j))))] := D_alt hD (q0 := 1) rfl rfl
      exact k_iret (v := nI (pl j9 + 10)) hx hb hr hlocks hP hD hK hS [0, 1, 2] () rfl (by decide) (by rw [ep]) dX4_plan_140
    · have hmin : min (pl j9 + 10) 60 = 60 := by omega
      refine lv_bipush (v := nI (60)) hx hb dX4_plan_57 (by decide) ?_
      refine lv_goto (tgt := 71) hx hb dX4_plan_59 (by decide) ?_
      refine n_iast (f' := fun j => nI (if j = j9 then 60 else pl j)) (ws' := [(h0, .inr (4, [.int (nI (0)), .int (nI (cnt)), .ref yI, .ref yD, .ref yN, .ref yW, .int (nI (te)), .int (nI (tr)), .ref yP, .ref yG, .ref yR, .ref yS, .ref yA, .ref yL, .ref yT])), (yP, .inl (cI, 50, .inl (fun j => nI (if j = j9 then 60 else pl j)))), (yG, .inl (cI, 50, .inl (fun j => nI (if j = j9 then 0 else go j))))]) hx hb hK hP hD hS 1 0 rfl rfl (by omega) (by omega) (fun j _ => by split <;> rfl) rfl dX4_plan_71 (fun H locs hP hD hS => ?_)
      refine lv_iload_n hx hb dX4_plan_72 rfl (lv_at hl 2 rfl) ?_
      refine lv_iconst (v := nI (1)) hx hb dX4_plan_73 (by decide) ?_
      refine n_icmp_ne (tgt := 134) hx hb (by omega) (by omega) dX4_plan_74 (by decide) (fun c_11 => ?_) (fun c_11 => False.elim (by omega))
      refine lv_aload_n hx hb dX4_plan_134 rfl (lv_at hl 0 rfl) ?_
      refine va_get (D := D) (cl := vwCl) (ci := 4) (v := .ref yP) (C := RX4) (T := TX4) (N := 15) hx hb hts in_X4_plan_X4 hown hK hP 0 rfl rfl 8 (by decide) (hts (.fieldLink RX4 26 "BulkSamplesModel" "plans" "[I") fl_X4_plan_26) (fun _ h9 => h9) rfl dX4_plan_135 ?_
      refine lv_iload_n hx hb dX4_plan_138 rfl (lv_at hl 1 rfl) ?_
      refine n_iald (x := nI (60)) hx hb hK hP 1 0 rfl rfl (by omega) (by omega) (by simp) dX4_plan_139 ?_
      have eg : plG (go j9) 0 = 0 := rfl
      have ep : plP (pl j9) (go j9) 0 = 60 := hmin
      have hP : va_P D vwCl [(h0, .inr (4, [.int (nI (0)), .int (nI (cnt)), .ref yI, .ref yD, .ref yN, .ref yW, .int (nI (te)), .int (nI (tr)), .ref yP, .ref yG, .ref yR, .ref yS, .ref yA, .ref yL, .ref yT])), (yP, .inl (cI, 50, .inl (fun j => nI (if j = j9 then 60 else pl j)))), (yG, .inl (cI, 50, .inl (fun j => nI (if j = j9 then plG (go j9) 0 else go j))))] H := P_altI _ hP 2 rfl rfl (fun j _ => by rw [eg]; try (by_cases h : j = j9 <;> simp [h]))
      have hD : va_D A [(h0, .inr (4, [.int (nI (0)), .int (nI (cnt)), .ref yI, .ref yD, .ref yN, .ref yW, .int (nI (te)), .int (nI (tr)), .ref yP, .ref yG, .ref yR, .ref yS, .ref yA, .ref yL, .ref yT])), (yP, .inl (cI, 50, .inl (fun j => nI (if j = j9 then 60 else pl j)))), (yG, .inl (cI, 50, .inl (fun j => nI (if j = j9 then plG (go j9) 0 else go j))))] := D_alt hD (q0 := 2) rfl rfl
      have hP : va_P D vwCl [(h0, .inr (4, [.int (nI (0)), .int (nI (cnt)), .ref yI, .ref yD, .ref yN, .ref yW, .int (nI (te)), .int (nI (tr)), .ref yP, .ref yG, .ref yR, .ref yS, .ref yA, .ref yL, .ref yT])), (yP, .inl (cI, 50, .inl (fun j => nI (if j = j9 then plP (pl j9) (go j9) 0 else pl j)))), (yG, .inl (cI, 50, .inl (fun j => nI (if j = j9 then plG (go j9) 0 else go j))))] H := P_altI _ hP 1 rfl rfl (fun j _ => by rw [ep]; try (by_cases h : j = j9 <;> simp [h]))
      have hD : va_D A [(h0, .inr (4, [.int (nI (0)), .int (nI (cnt)), .ref yI, .ref yD, .ref yN, .ref yW, .int (nI (te)), .int (nI (tr)), .ref yP, .ref yG, .ref yR, .ref yS, .ref yA, .ref yL, .ref yT])), (yP, .inl (cI, 50, .inl (fun j => nI (if j = j9 then plP (pl j9) (go j9) 0 else pl j)))), (yG, .inl (cI, 50, .inl (fun j => nI (if j = j9 then plG (go j9) 0 else go j))))] := D_alt hD (q0 := 1) rfl rfl
      exact k_iret (v := nI (60)) hx hb hr hlocks hP hD hK hS [0, 1, 2] () rfl (by decide) (by rw [ep]) dX4_plan_140
