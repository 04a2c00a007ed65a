/-! class BulkSamples: the methods without chances -/
theorem psum_ge (f : Nat → Nat) {j N : Nat} (h : j < N) : f j ≤ psum f N := by
  have h1 := psum_mono f (j + 1) (N - (j + 1))
  rw [show j + 1 + (N - (j + 1)) = N by omega] at h1
  have h2 : psum f (j + 1) = psum f j + f j := rfl
  omega
/-- a number put at a place of N, all of them cap at most; bl: it is not the time -/
def slR (N cap : Nat) (bl : Bool) (f : Nat → Nat) (j k : Nat) : Int32 := if cap < psum f N - f j + k then -12 else if bl then -13 else nI (psum f N - f j + k)
def slF (N cap : Nat) (bl : Bool) (f : Nat → Nat) (j k : Nat) : Nat → Nat := fun i => if cap < psum f N - f j + k then f i else if bl then f i else if i = j then k else f i
def saT (it dr te k : Nat) : Nat := if 0 < dr then 0 else if te < min k it then 0 else min k it
def saR (it dr te k : Nat) : Int32 := if 0 < dr then -13 else if te < min k it then -14 else nI (min k it)
def plG (go g : Nat) : Nat := if g = 0 then 0 else if g = 1 then (if go + 1 = 3 then 0 else go + 1) else go
def plP (pl go g : Nat) : Nat := if g = 0 then min (pl + 10) 60 else if g = 1 then (if go + 1 = 3 then max (pl - 5) 5 else pl) else pl
section N3
variable {p : Program} {l : Launch} {e : Env} {R : Room} {s : State} {m : MethodId} {args : Array Value} {below : List Frame} {meth : Method} {c : Code} {H : Heap} {locs : List Loc} {cells slots : Nat} {Q : State → Prop}
variable {cc : ByteArray} {pc : Nat} {ls : Array Slot} {rest : List Value} {D : va_G} {cl : List vw_C} {A : Nat → Prop} {tys : List (ClassId × FieldType)} {ws ws' : va_W} {H0 : Heap}
theorem n_newQ {cI cL cM : ClassId} (hx : p.tables.exec = Jvm.exec) (hb : c.code = cc) {own : String} {index : Nat} (hown : s.vm.findClass own = some m.cls) (hclink : (Cond.classLink own index RX0).before args s = true) (hover : va_AO RX0 s) (hK : va_K D cl (gT cI cL cM) s) (hP : va_P D cl ws H) (hD : va_D A ws) (hS : va_S A H0 H locs) (hA : ∀ q, H0.size ≤ q → A q) {n : Nat} (hn : n < 65536) (hcells : cells + 1 ≤ R.cells) (hslots : slots + n ≤ R.slots) (hdg : decode cc pc = .ok (.anewarray index, 3))
    (kk : ∀ (q : Nat) (H1 : Heap), va_P D cl (ws ++ [(q, .inl (cM, n, .inr (.inr (.inr (.inr (fun _ => none))))))]) H1 → va_D A (ws ++ [(q, .inl (cM, n, .inr (.inr (.inr (.inr (fun _ => none))))))]) → va_S A H0 H1 locs → W p l e R s m args below meth c H1 locs (cells + 1) (slots + n) Q (F0 m (pc + 3) ls (.ref q :: rest))) : W p l e R s m args below meth c H locs cells slots Q (F0 m (pc) ls (.int (nI n) :: rest)) :=
  va_newq hx hb hown hclink hover hK hP hD hS hA (nI_pos (by omega)) (nI_clamp (by omega)) (by omega) hcells hslots hdg (fun q cA H1 k1 h1 h2 h3 => by
    obtain rfl : cM = cA := K_one k1 (i := 2) (j := 3) rfl rfl
    exact kk q H1 h1 h2 h3)
end N3
abbrev eX3 : State → Prop := fun U => va_Nw (.methodLinkNest RX1 11 yX2_init RX3) U ∧ va_Nw (.methodLinkNest RX3 24 yX1_init RX3) U ∧ va_AO RX0 U
theorem slF_no {N cap : Nat} {bl : Bool} {f : Nat → Nat} {j k : Nat} (h : cap < psum f N - f j + k ∨ bl = true) (i : Nat) : slF N cap bl f j k i = f i := by
  unfold slF
  rcases h with h | h
  · rw [if_pos h]
  · rw [h]; split <;> rfl
theorem slF_ok {N cap : Nat} {bl : Bool} {f : Nat → Nat} {j k : Nat} (h : ¬ cap < psum f N - f j + k) (h2 : bl = false) (i : Nat) : slF N cap bl f j k i = if i = j then k else f i := by
  unfold slF
  rw [if_neg h, h2, if_neg (by decide)]
theorem in_X3_mailing_X0 : ∀ w ∈ wsX00, w ∈ wsX3_mailing := by decide +kernel
theorem in_X3_mailing_X3 : ∀ w ∈ wsX30, w ∈ wsX3_mailing := by decide +kernel
theorem fl_X3_mailing_11 : Cond.fieldLink RX3 11 "BulkSamples" "mailings" "[LBulkSamples$Mailing;" ∈ wsX3_mailing := by decide +kernel
theorem fl_X3_mailing_33 : Cond.fieldLink RX3 33 "BulkSamples" "mailingCount" "I" ∈ wsX3_mailing := by decide +kernel
set_option maxHeartbeats 4000000 in
set_option maxRecDepth 100000 in
/-- mailing: OUTSIDE -/
theorem c_m_bad (l : Launch) (D : va_G) (cI cL cM : ClassId) (sz : Nat) (h0 xM xP xG xO cnt te tr : Nat) (mf : Nat → Option Nat) (x : Int32) (hbad : x < 0 ∨ nI 200 < x) : Met l yX3_mailing wsX3_mailing ({ frames := 2, cells := 3, slots := 11, locals := 60 } : Room) (va_Pc [.ref h0, .int x] (PreB D (gT cI cL cM) sz [(h0, .inr (3, [.ref xM, .ref xP, .ref xG, .ref xO, .int (nI (cnt)), .int (nI (te)), .int (nI (tr))])), (xM, .inl (cM, 20, .inr (.inr (.inr (.inr (mf))))))])) (va_Qi (fun r _ => r = -12) (fun (_ : Unit) => PostB D (gT cI cL cM) (va_A [(h0, .inr (3, [.ref xM, .ref xP, .ref xG, .ref xO, .int (nI (cnt)), .int (nI (te)), .int (nI (tr))])), (xM, .inl (cM, 20, .inr (.inr (.inr (.inr (mf))))))] sz) [(h0, .inr (3, [.ref xM, .ref xP, .ref xG, .ref xO, .int (nI (cnt)), .int (nI (te)), .int (nI (tr))])), (xM, .inl (cM, 20, .inr (.inr (.inr (.inr (mf))))))]) (va_A [(h0, .inr (3, [.ref xM, .ref xP, .ref xG, .ref xO, .int (nI (cnt)), .int (nI (te)), .int (nI (tr))])), (xM, .inl (cM, 20, .inr (.inr (.inr (.inr (mf))))))] sz)) 3 11 (va_A [(h0, .inr (3, [.ref xM, .ref xP, .ref xG, .ref xO, .int (nI (cnt)), .int (nI (te)), .int (nI (tr))])), (xM, .inl (cM, 20, .inr (.inr (.inr (.inr (mf))))))] sz) := by
  refine k_start (fun A => (va_Qi (fun r _ => r = -12) (fun (_ : Unit) => PostB D (gT cI cL cM) A [(h0, .inr (3, [.ref xM, .ref xP, .ref xG, .ref xO, .int (nI (cnt)), .int (nI (te)), .int (nI (tr))])), (xM, .inl (cM, 20, .inr (.inr (.inr (.inr (mf))))))]) A)) (cc := cX3_mailing) (maxL := 2) (ret := (some .int)) (by decide) rfl (Nat.le_of_ble_eq_true rfl) ?_
  intro p e s m below meth c A ls hx hb hr hts hown hlocks hin hml hP hK hD hA hS hl
  have hl : lv_has ls 2 [(0, .ref h0), (1, .int x)] := hl
  have hown : s.vm.findClass RX3 = some m.cls := hown
  refine lv_iload_n hx hb dX3_mailing_0 rfl (lv_at hl 1 rfl) ?_
  refine lv_if_lt (tgt := 11) hx hb dX3_mailing_1 (by decide) (fun c_1 => ?_) (fun c_1 => ?_)
  · refine lv_bipush (v := (-12)) hx hb dX3_mailing_11 (by decide) ?_
    refine W.widen (k := 3) (n := 11) (Nat.le_of_ble_eq_true rfl) (Nat.le_of_ble_eq_true rfl) ?_
    exact k_iret (v := (-12)) hx hb hr hlocks hP hD hK hS [0, 1] () rfl (by decide) rfl dX3_mailing_13
  · have h200 : nI 200 < x := hbad.resolve_left c_1
    refine lv_iload_n hx hb dX3_mailing_4 rfl (lv_at hl 1 rfl) ?_
    refine lv_sipush (v := nI (200)) hx hb dX3_mailing_5 (by decide) ?_
    refine lv_icmp_le (tgt := 14) hx hb dX3_mailing_8 (by decide) (fun c => absurd h200 (Int32.not_lt.mpr c)) (fun c_2 => ?_)
    refine lv_bipush (v := (-12)) hx hb dX3_mailing_11 (by decide) ?_
    refine W.widen (k := 3) (n := 11) (Nat.le_of_ble_eq_true rfl) (Nat.le_of_ble_eq_true rfl) ?_
    exact k_iret (v := (-12)) hx hb hr hlocks hP hD hK hS [0, 1] () rfl (by decide) rfl dX3_mailing_13
set_option maxHeartbeats 4000000 in
set_option maxRecDepth 100000 in
/-- mailing: none, or ROOM -/
theorem c_m_no (l : Launch) (D : va_G) (cI cL cM : ClassId) (sz : Nat) (h0 xM xP xG xO cnt te tr : Nat) (mf : Nat → Option Nat) (k : Nat) (hk : k ≤ 200) (hno : k = 0 ∨ cnt = 20) (hc : cnt ≤ 20) : Met l yX3_mailing wsX3_mailing ({ frames := 2, cells := 3, slots := 11, locals := 60 } : Room) (va_Pc [.ref h0, .int (nI (k))] (PreB D (gT cI cL cM) sz [(h0, .inr (3, [.ref xM, .ref xP, .ref xG, .ref xO, .int (nI (cnt)), .int (nI (te)), .int (nI (tr))])), (xM, .inl (cM, 20, .inr (.inr (.inr (.inr (mf))))))])) (va_Qi (fun r _ => r = if k = 0 then nI 0 else -14) (fun (_ : Unit) => PostB D (gT cI cL cM) (va_A [(h0, .inr (3, [.ref xM, .ref xP, .ref xG, .ref xO, .int (nI (cnt)), .int (nI (te)), .int (nI (tr))])), (xM, .inl (cM, 20, .inr (.inr (.inr (.inr (mf))))))] sz) [(h0, .inr (3, [.ref xM, .ref xP, .ref xG, .ref xO, .int (nI (cnt)), .int (nI (te)), .int (nI (tr))])), (xM, .inl (cM, 20, .inr (.inr (.inr (.inr (mf))))))]) (va_A [(h0, .inr (3, [.ref xM, .ref xP, .ref xG, .ref xO, .int (nI (cnt)), .int (nI (te)), .int (nI (tr))])), (xM, .inl (cM, 20, .inr (.inr (.inr (.inr (mf))))))] sz)) 3 11 (va_A [(h0, .inr (3, [.ref xM, .ref xP, .ref xG, .ref xO, .int (nI (cnt)), .int (nI (te)), .int (nI (tr))])), (xM, .inl (cM, 20, .inr (.inr (.inr (.inr (mf))))))] sz) := by
  refine k_start (fun A => (va_Qi (fun r _ => r = if k = 0 then nI 0 else -14) (fun (_ : Unit) => PostB D (gT cI cL cM) A [(h0, .inr (3, [.ref xM, .ref xP, .ref xG, .ref xO, .int (nI (cnt)), .int (nI (te)), .int (nI (tr))])), (xM, .inl (cM, 20, .inr (.inr (.inr (.inr (mf))))))]) A)) (cc := cX3_mailing) (maxL := 2) (ret := (some .int)) (by decide) rfl (Nat.le_of_ble_eq_true rfl) ?_
  intro p e s m below meth c A ls hx hb hr hts hown hlocks hin hml hP hK hD hA hS hl
  have hl : lv_has ls 2 [(0, .ref h0), (1, .int (nI (k)))] := hl
  have hown : s.vm.findClass RX3 = some m.cls := hown
  refine lv_iload_n hx hb dX3_mailing_0 rfl (lv_at hl 1 rfl) ?_
  refine n_if_lt (tgt := 11) hx hb (by omega) dX3_mailing_1 (by decide) ?_
  refine lv_iload_n hx hb dX3_mailing_4 rfl (lv_at hl 1 rfl) ?_
  refine lv_sipush (v := nI (200)) hx hb dX3_mailing_5 (by decide) ?_
  refine n_icmp_le (tgt := 14) hx hb (by omega) (by omega) dX3_mailing_8 (by decide) (fun c_2 => ?_) (fun c_2 => False.elim (by omega))
  refine lv_iload_n hx hb dX3_mailing_14 rfl (lv_at hl 1 rfl) ?_
  refine n_if_ne (tgt := 20) hx hb (by omega) dX3_mailing_15 (by decide) (fun c_3 => ?_) (fun c_3 => ?_)
  · refine lv_aload_n hx hb dX3_mailing_20 rfl (lv_at hl 0 rfl) ?_
    refine va_get (D := D) (cl := vwCl) (ci := 3) (v := .int (nI (cnt))) (C := RX3) (T := TX3) (N := 7) hx hb hts in_X3_mailing_X3 hown hK hP 0 rfl rfl 4 (by decide) (hts (.fieldLink RX3 33 "BulkSamples" "mailingCount" "I") fl_X3_mailing_33) (fun _ h9 => h9) rfl dX3_mailing_21 ?_
    refine lv_bipush (v := nI (20)) hx hb dX3_mailing_24 (by decide) ?_
    refine n_icmp_lt (tgt := 32) hx hb (by omega) (by omega) dX3_mailing_26 (by decide) (fun c_4 => False.elim (by omega)) (fun c_4 => ?_)
    refine lv_bipush (v := (-14)) hx hb dX3_mailing_29 (by decide) ?_
    refine W.widen (k := 3) (n := 11) (Nat.le_of_ble_eq_true rfl) (Nat.le_of_ble_eq_true rfl) ?_
    exact k_iret (v := (-14)) hx hb hr hlocks hP hD hK hS [0, 1] () rfl (by decide) (by rw [if_neg (by omega)]) dX3_mailing_31
  · refine lv_iconst (v := nI (0)) hx hb dX3_mailing_18 (by decide) ?_
    refine W.widen (k := 3) (n := 11) (Nat.le_of_ble_eq_true rfl) (Nat.le_of_ble_eq_true rfl) ?_
    exact k_iret (v := nI (0)) hx hb hr hlocks hP hD hK hS [0, 1] () rfl (by decide) (by rw [if_pos (by omega)]) dX3_mailing_19
set_option maxHeartbeats 4000000 in
set_option maxRecDepth 100000 in
/-- mailing: a new one -/
theorem c_m_ok (l : Launch) (D : va_G) (cI cL cM : ClassId) (sz : Nat) (h0 xM xP xG xO cnt te tr : Nat) (mf : Nat → Option Nat) (k : Nat) (hk : k ≤ 200) (hk0 : 0 < k) (hc : cnt < 20) : Met l yX3_mailing wsX3_mailing ({ frames := 2, cells := 3, slots := 11, locals := 41 } : Room) (va_Pc [.ref h0, .int (nI (k))] (PreB D (gT cI cL cM) sz [(h0, .inr (3, [.ref xM, .ref xP, .ref xG, .ref xO, .int (nI (cnt)), .int (nI (te)), .int (nI (tr))])), (xM, .inl (cM, 20, .inr (.inr (.inr (.inr (mf))))))])) (va_Qi (fun r _ => r = nI (cnt + 1)) (fun (u : Nat × Nat × Nat) => PostB D (gT cI cL cM) (va_A [(h0, .inr (3, [.ref xM, .ref xP, .ref xG, .ref xO, .int (nI (cnt)), .int (nI (te)), .int (nI (tr))])), (xM, .inl (cM, 20, .inr (.inr (.inr (.inr (mf))))))] sz) [(h0, .inr (3, [.ref xM, .ref xP, .ref xG, .ref xO, .int (nI (cnt + 1)), .int (nI (te)), .int (nI (tr))])), (xM, .inl (cM, 20, .inr (.inr (.inr (.inr (fun j => if j = cnt then some (u.1) else mf j)))))), (u.1, .inr (0, [.int (nI (k)), .ref u.2.1, .ref u.2.2, .int (nI (0))])), (u.2.1, .inl (cI, 4, .inl (fun j => nI (0)))), (u.2.2, .inl (cI, 3, .inl (fun j => nI (0))))]) (va_A [(h0, .inr (3, [.ref xM, .ref xP, .ref xG, .ref xO, .int (nI (cnt)), .int (nI (te)), .int (nI (tr))])), (xM, .inl (cM, 20, .inr (.inr (.inr (.inr (mf))))))] sz)) 3 11 (va_A [(h0, .inr (3, [.ref xM, .ref xP, .ref xG, .ref xO, .int (nI (cnt)), .int (nI (te)), .int (nI (tr))])), (xM, .inl (cM, 20, .inr (.inr (.inr (.inr (mf))))))] sz) := by
  refine k_start (fun A => (va_Qi (fun r _ => r = nI (cnt + 1)) (fun (u : Nat × Nat × Nat) => PostB D (gT cI cL cM) A [(h0, .inr (3, [.ref xM, .ref xP, .ref xG, .ref xO, .int (nI (cnt + 1)), .int (nI (te)), .int (nI (tr))])), (xM, .inl (cM, 20, .inr (.inr (.inr (.inr (fun j => if j = cnt then some (u.1) else mf j)))))), (u.1, .inr (0, [.int (nI (k)), .ref u.2.1, .ref u.2.2, .int (nI (0))])), (u.2.1, .inl (cI, 4, .inl (fun j => nI (0)))), (u.2.2, .inl (cI, 3, .inl (fun j => nI (0))))]) A)) (cc := cX3_mailing) (maxL := 2) (ret := (some .int)) (by decide) rfl (Nat.le_of_ble_eq_true rfl) ?_
  intro p e s m below meth c A ls hx hb hr hts hown hlocks hin hml hP hK hD hA hS hl
  have hl : lv_has ls 2 [(0, .ref h0), (1, .int (nI (k)))] := hl
  have hown : s.vm.findClass RX3 = some m.cls := hown
  refine lv_iload_n hx hb dX3_mailing_0 rfl (lv_at hl 1 rfl) ?_
  refine n_if_lt (tgt := 11) hx hb (by omega) dX3_mailing_1 (by decide) ?_
  refine lv_iload_n hx hb dX3_mailing_4 rfl (lv_at hl 1 rfl) ?_
  refine lv_sipush (v := nI (200)) hx hb dX3_mailing_5 (by decide) ?_
  refine n_icmp_le (tgt := 14) hx hb (by omega) (by omega) dX3_mailing_8 (by decide) (fun c_2 => ?_) (fun c_2 => False.elim (by omega))
  refine lv_iload_n hx hb dX3_mailing_14 rfl (lv_at hl 1 rfl) ?_
  refine n_if_ne (tgt := 20) hx hb (by omega) dX3_mailing_15 (by decide) (fun c_3 => ?_) (fun c_3 => False.elim (by omega))
  refine lv_aload_n hx hb dX3_mailing_20 rfl (lv_at hl 0 rfl) ?_
  refine va_get (D := D) (cl := vwCl) (ci := 3) (v := .int (nI (cnt))) (C := RX3) (T := TX3) (N := 7) hx hb hts in_X3_mailing_X3 hown hK hP 0 rfl rfl 4 (by decide) (hts (.fieldLink RX3 33 "BulkSamples" "mailingCount" "I") fl_X3_mailing_33) (fun _ h9 => h9) rfl dX3_mailing_21 ?_
  refine lv_bipush (v := nI (20)) hx hb dX3_mailing_24 (by decide) ?_
  refine n_icmp_lt (tgt := 32) hx hb (by omega) (by omega) dX3_mailing_26 (by decide) (fun c_4 => ?_) (fun c_4 => False.elim (by omega))
  refine lv_aload_n hx hb dX3_mailing_32 rfl (lv_at hl 0 rfl) ?_
  refine va_get (D := D) (cl := vwCl) (ci := 3) (v := .ref xM) (C := RX3) (T := TX3) (N := 7) hx hb hts in_X3_mailing_X3 hown hK hP 0 rfl rfl 0 (by decide) (hts (.fieldLink RX3 11 "BulkSamples" "mailings" "[LBulkSamples$Mailing;") fl_X3_mailing_11) (fun _ h9 => h9) rfl dX3_mailing_33 ?_
  refine lv_aload_n hx hb dX3_mailing_36 rfl (lv_at hl 0 rfl) ?_
  refine va_get (D := D) (cl := vwCl) (ci := 3) (v := .int (nI (cnt))) (C := RX3) (T := TX3) (N := 7) hx hb hts in_X3_mailing_X3 hown hK hP 0 rfl rfl 4 (by decide) (hts (.fieldLink RX3 33 "BulkSamples" "mailingCount" "I") fl_X3_mailing_33) (fun _ h9 => h9) rfl dX3_mailing_37 ?_
  refine va_new (D := D) (cl := vwCl) (ci := 0) (fs := [.int (nI (0)), .null, .null, .int (nI (0))]) (C := RX0) (T := TX0) (N := 4) hx hb hts in_X3_mailing_X0 tyX0 tyX0_ok hown (hts (.classLink RX3 9 RX0) (by decide +kernel)) (hts (.instantiable RX0 4) (by decide +kernel)) (hts (.initialized RX0) (by decide +kernel)) hK hP hD hS hA rfl (fun j hj => by rcases (show j = 0 ∨ j = 1 ∨ j = 2 ∨ j = 3 by omega) with rfl | rfl | rfl | rfl <;> rfl) (by decide) (by decide) dX3_mailing_40 (fun q_5 H hP hD hS => ?_)
  have hP : va_P D vwCl [(h0, .inr (3, [.ref xM, .ref xP, .ref xG, .ref xO, .int (nI (cnt)), .int (nI (te)), .int (nI (tr))])), (xM, .inl (cM, 20, .inr (.inr (.inr (.inr (mf)))))), (q_5, .inr (0, [.int (nI (0)), .null, .null, .int (nI (0))]))] H := hP
  have hD : va_D A [(h0, .inr (3, [.ref xM, .ref xP, .ref xG, .ref xO, .int (nI (cnt)), .int (nI (te)), .int (nI (tr))])), (xM, .inl (cM, 20, .inr (.inr (.inr (.inr (mf)))))), (q_5, .inr (0, [.int (nI (0)), .null, .null, .int (nI (0))]))] := hD
  refine lv_dup hx hb dX3_mailing_43 rfl ?_
  refine lv_iload_n hx hb dX3_mailing_44 rfl (lv_at hl 1 rfl) ?_
  refine k_callv (wc := [(q_5, .inr (0, [.int (nI (0)), .null, .null, .int (nI (0))]))]) (wr := [(h0, .inr (3, [.ref xM, .ref xP, .ref xG, .ref xO, .int (nI (cnt)), .int (nI (te)), .int (nI (tr))])), (xM, .inl (cM, 20, .inr (.inr (.inr (.inr (mf))))))]) (W1 := fun u_6 => [(h0, .inr (3, [.ref xM, .ref xP, .ref xG, .ref xO, .int (nI (cnt)), .int (nI (te)), .int (nI (tr))])), (xM, .inl (cM, 20, .inr (.inr (.inr (.inr (mf)))))), (q_5, .inr (0, [.int (nI (k)), .ref u_6.1, .ref u_6.2, .int (nI (0))])), (u_6.1, .inl (cI, 4, .inl (fun j => nI (0)))), (u_6.2, .inl (cI, 3, .inl (fun j => nI (0))))]) hP hD hS hA [2] [0, 1] [0, 1, 2, 3, 4] rfl rfl (by decide) (by decide) (fun _ => rfl) (by decide) (va_runI (As := [.int (nI (k))]) (rest := [.ref q_5, .int (nI (cnt)), .ref xM]) ⟨hx, hb, hml, hown, hts⟩ (c_mi l D cI cL cM H.size q_5 k) (cwI 1 hts gX3_mailing_X0_init rfl rfl rfl (hts (.initialized RX0) (by decide +kernel)) (hts (.methodLink RX3 36 yX0_init) (by decide +kernel)) (hts (.instanceMethod yX0_init) (by decide +kernel)) rfl (by decide +kernel) ⟨Nat.le_of_ble_eq_true rfl, Nat.le_of_ble_eq_true rfl⟩) (k_preS hP hD hK [2] rfl (by decide)) rfl rfl hl.1 rfl (lv_room (Nat.le_of_ble_eq_true rfl)) dX3_mailing_45 ⟨Nat.le_of_ble_eq_true rfl, Nat.le_of_ble_eq_true rfl⟩) (fun u_6 H locs hw hP hD hS => ?_)
  refine n_aast (r := (RX0, TX0, 4)) (f' := fun j => if j = cnt then some (q_5) else mf j) (ws' := [(h0, .inr (3, [.ref xM, .ref xP, .ref xG, .ref xO, .int (nI (cnt)), .int (nI (te)), .int (nI (tr))])), (xM, .inl (cM, 20, .inr (.inr (.inr (.inr (fun j => if j = cnt then some (q_5) else mf j)))))), (q_5, .inr (0, [.int (nI (k)), .ref u_6.1, .ref u_6.2, .int (nI (0))])), (u_6.1, .inl (cI, 4, .inl (fun j => nI (0)))), (u_6.2, .inl (cI, 3, .inl (fun j => nI (0))))]) hx hb hK hP hD hS 1 2 2 0 rfl rfl rfl rfl (by omega) (by omega) (fun j _ => rfl) rfl dX3_mailing_48 (fun H locs hP hD hS => ?_)
  refine lv_aload_n hx hb dX3_mailing_49 rfl (lv_at hl 0 rfl) ?_
  refine lv_dup hx hb dX3_mailing_50 rfl ?_
  refine va_get (D := D) (cl := vwCl) (ci := 3) (v := .int (nI (cnt))) (C := RX3) (T := TX3) (N := 7) hx hb hts in_X3_mailing_X3 hown hK hP 0 rfl rfl 4 (by decide) (hts (.fieldLink RX3 33 "BulkSamples" "mailingCount" "I") fl_X3_mailing_33) (fun _ h9 => h9) rfl dX3_mailing_51 ?_
  refine lv_iconst (v := nI (1)) hx hb dX3_mailing_54 (by decide) ?_
  refine n_iadd (r := cnt + 1) hx hb dX3_mailing_55 rfl ?_
  refine va_put (D := D) (cl := vwCl) (ci := 3) (v := .int (nI (cnt + 1))) (ty := tyX3 4) (C := RX3) (T := TX3) (N := 7) hx hb hts in_X3_mailing_X3 tyX3 tyX3_ok nmX3 hown hK hP hD hS 0 rfl rfl 4 (by decide) (hts (.fieldLink RX3 33 "BulkSamples" "mailingCount" "I") fl_X3_mailing_33) (fun _ h9 => h9) rfl (by decide +kernel) rfl rfl (Nat.le_of_ble_eq_true rfl) dX3_mailing_56 (fun H locs hP hD hS => ?_)
  have hP : va_P D vwCl [(h0, .inr (3, [.ref xM, .ref xP, .ref xG, .ref xO, .int (nI (cnt + 1)), .int (nI (te)), .int (nI (tr))])), (xM, .inl (cM, 20, .inr (.inr (.inr (.inr (fun j => if j = cnt then some (q_5) else mf j)))))), (q_5, .inr (0, [.int (nI (k)), .ref u_6.1, .ref u_6.2, .int (nI (0))])), (u_6.1, .inl (cI, 4, .inl (fun j => nI (0)))), (u_6.2, .inl (cI, 3, .inl (fun j => nI (0))))] H := hP
  have hD : va_D A [(h0, .inr (3, [.ref xM, .ref xP, .ref xG, .ref xO, .int (nI (cnt + 1)), .int (nI (te)), .int (nI (tr))])), (xM, .inl (cM, 20, .inr (.inr (.inr (.inr (fun j => if j = cnt then some (q_5) else mf j)))))), (q_5, .inr (0, [.int (nI (k)), .ref u_6.1, .ref u_6.2, .int (nI (0))])), (u_6.1, .inl (cI, 4, .inl (fun j => nI (0)))), (u_6.2, .inl (cI, 3, .inl (fun j => nI (0))))] := hD
  refine lv_aload_n hx hb dX3_mailing_59 rfl (lv_at hl 0 rfl) ?_
  refine va_get (D := D) (cl := vwCl) (ci := 3) (v := .int (nI (cnt + 1))) (C := RX3) (T := TX3) (N := 7) hx hb hts in_X3_mailing_X3 hown hK hP 0 rfl rfl 4 (by decide) (hts (.fieldLink RX3 33 "BulkSamples" "mailingCount" "I") fl_X3_mailing_33) (fun _ h9 => h9) rfl dX3_mailing_60 ?_
  refine W.widen (k := 3) (n := 11) (Nat.le_of_ble_eq_true rfl) (Nat.le_of_ble_eq_true rfl) ?_
  exact k_iret (v := nI (cnt + 1)) hx hb hr hlocks hP hD hK hS [0, 1, 2, 3, 4] (q_5, u_6.1, u_6.2) rfl (by decide) rfl dX3_mailing_63
theorem in_X3_tape_X3 : ∀ w ∈ wsX30, w ∈ wsX3_tape := by decide +kernel
theorem fl_X3_tape_57 : Cond.fieldLink RX3 57 "BulkSamples" "tapeLength" "I" ∈ wsX3_tape := by decide +kernel
set_option maxHeartbeats 4000000 in
set_option maxRecDepth 100000 in
/-- tape: full -/
theorem c_t_full (l : Launch) (D : va_G) (cI cL cM : ClassId) (sz : Nat) (h0 xM xP xG xO cnt te tr : Nat) (x : Int32) (h3 : 300 ≤ te) (h3b : te ≤ 300) : Met l yX3_tape wsX3_tape ({ frames := 0, cells := 0, slots := 0, locals := 0 } : Room) (va_Pc [.ref h0, .int x] (PreB D (gT cI cL cM) sz [(h0, .inr (3, [.ref xM, .ref xP, .ref xG, .ref xO, .int (nI (cnt)), .int (nI (te)), .int (nI (tr))]))])) (va_Qv (fun _ => True) (fun (_ : Unit) => PostB D (gT cI cL cM) (va_A [(h0, .inr (3, [.ref xM, .ref xP, .ref xG, .ref xO, .int (nI (cnt)), .int (nI (te)), .int (nI (tr))]))] sz) [(h0, .inr (3, [.ref xM, .ref xP, .ref xG, .ref xO, .int (nI (cnt)), .int (nI (te)), .int (nI (tr))]))]) (va_A [(h0, .inr (3, [.ref xM, .ref xP, .ref xG, .ref xO, .int (nI (cnt)), .int (nI (te)), .int (nI (tr))]))] sz)) 0 0 (va_A [(h0, .inr (3, [.ref xM, .ref xP, .ref xG, .ref xO, .int (nI (cnt)), .int (nI (te)), .int (nI (tr))]))] sz) := by
  refine k_start (fun A => (va_Qv (fun _ => True) (fun (_ : Unit) => PostB D (gT cI cL cM) A [(h0, .inr (3, [.ref xM, .ref xP, .ref xG, .ref xO, .int (nI (cnt)), .int (nI (te)), .int (nI (tr))]))]) A)) (cc := cX3_tape) (maxL := 2) (ret := none) (by decide) rfl (Nat.le_of_ble_eq_true rfl) ?_
  intro p e s m below meth c A ls hx hb hr hts hown hlocks hin hml hP hK hD hA hS hl
  have hl : lv_has ls 2 [(0, .ref h0), (1, .int x)] := hl
  have hown : s.vm.findClass RX3 = some m.cls := hown
  refine lv_aload_n hx hb dX3_tape_0 rfl (lv_at hl 0 rfl) ?_
  refine va_get (D := D) (cl := vwCl) (ci := 3) (v := .int (nI (te))) (C := RX3) (T := TX3) (N := 7) hx hb hts in_X3_tape_X3 hown hK hP 0 rfl rfl 5 (by decide) (hts (.fieldLink RX3 57 "BulkSamples" "tapeLength" "I") fl_X3_tape_57) (fun _ h9 => h9) rfl dX3_tape_1 ?_
  refine lv_sipush (v := nI (300)) hx hb dX3_tape_4 (by decide) ?_
  refine n_icmp_ge (tgt := 20) hx hb (by omega) (by omega) dX3_tape_7 (by decide) (fun c_1 => ?_) (fun c_1 => False.elim (by omega))
  exact k_vret hx hb hr hlocks hP hD hK hS [0] () rfl (by decide) trivial dX3_tape_20
set_option maxHeartbeats 4000000 in
set_option maxRecDepth 100000 in
/-- tape -/
theorem c_t_ok (l : Launch) (D : va_G) (cI cL cM : ClassId) (sz : Nat) (h0 xM xP xG xO cnt te tr : Nat) (x : Int32) (h3 : te < 300) : Met l yX3_tape wsX3_tape ({ frames := 0, cells := 0, slots := 0, locals := 0 } : Room) (va_Pc [.ref h0, .int x] (PreB D (gT cI cL cM) sz [(h0, .inr (3, [.ref xM, .ref xP, .ref xG, .ref xO, .int (nI (cnt)), .int (nI (te)), .int (nI (tr))]))])) (va_Qv (fun _ => True) (fun (_ : Unit) => PostB D (gT cI cL cM) (va_A [(h0, .inr (3, [.ref xM, .ref xP, .ref xG, .ref xO, .int (nI (cnt)), .int (nI (te)), .int (nI (tr))]))] sz) [(h0, .inr (3, [.ref xM, .ref xP, .ref xG, .ref xO, .int (nI (cnt)), .int (nI (te + 1)), .int (nI (tr))]))]) (va_A [(h0, .inr (3, [.ref xM, .ref xP, .ref xG, .ref xO, .int (nI (cnt)), .int (nI (te)), .int (nI (tr))]))] sz)) 0 0 (va_A [(h0, .inr (3, [.ref xM, .ref xP, .ref xG, .ref xO, .int (nI (cnt)), .int (nI (te)), .int (nI (tr))]))] sz) := by
  refine k_start (fun A => (va_Qv (fun _ => True) (fun (_ : Unit) => PostB D (gT cI cL cM) A [(h0, .inr (3, [.ref xM, .ref xP, .ref xG, .ref xO, .int (nI (cnt)), .int (nI (te + 1)), .int (nI (tr))]))]) A)) (cc := cX3_tape) (maxL := 2) (ret := none) (by decide) rfl (Nat.le_of_ble_eq_true rfl) ?_
  intro p e s m below meth c A ls hx hb hr hts hown hlocks hin hml hP hK hD hA hS hl
  have hl : lv_has ls 2 [(0, .ref h0), (1, .int x)] := hl
  have hown : s.vm.findClass RX3 = some m.cls := hown
  refine lv_aload_n hx hb dX3_tape_0 rfl (lv_at hl 0 rfl) ?_
  refine va_get (D := D) (cl := vwCl) (ci := 3) (v := .int (nI (te))) (C := RX3) (T := TX3) (N := 7) hx hb hts in_X3_tape_X3 hown hK hP 0 rfl rfl 5 (by decide) (hts (.fieldLink RX3 57 "BulkSamples" "tapeLength" "I") fl_X3_tape_57) (fun _ h9 => h9) rfl dX3_tape_1 ?_
  refine lv_sipush (v := nI (300)) hx hb dX3_tape_4 (by decide) ?_
  refine n_icmp_ge (tgt := 20) hx hb (by omega) (by omega) dX3_tape_7 (by decide) (fun c_1 => False.elim (by omega)) (fun c_1 => ?_)
  refine lv_aload_n hx hb dX3_tape_10 rfl (lv_at hl 0 rfl) ?_
  refine lv_dup hx hb dX3_tape_11 rfl ?_
  refine va_get (D := D) (cl := vwCl) (ci := 3) (v := .int (nI (te))) (C := RX3) (T := TX3) (N := 7) hx hb hts in_X3_tape_X3 hown hK hP 0 rfl rfl 5 (by decide) (hts (.fieldLink RX3 57 "BulkSamples" "tapeLength" "I") fl_X3_tape_57) (fun _ h9 => h9) rfl dX3_tape_12 ?_
  refine lv_iconst (v := nI (1)) hx hb dX3_tape_15 (by decide) ?_
  refine n_iadd (r := te + 1) hx hb dX3_tape_16 rfl ?_
  refine va_put (D := D) (cl := vwCl) (ci := 3) (v := .int (nI (te + 1))) (ty := tyX3 5) (C := RX3) (T := TX3) (N := 7) hx hb hts in_X3_tape_X3 tyX3 tyX3_ok nmX3 hown hK hP hD hS 0 rfl rfl 5 (by decide) (hts (.fieldLink RX3 57 "BulkSamples" "tapeLength" "I") fl_X3_tape_57) (fun _ h9 => h9) rfl (by decide +kernel) rfl rfl (Nat.le_of_ble_eq_true rfl) dX3_tape_17 (fun H locs hP hD hS => ?_)
  have hP : va_P D vwCl [(h0, .inr (3, [.ref xM, .ref xP, .ref xG, .ref xO, .int (nI (cnt)), .int (nI (te + 1)), .int (nI (tr))]))] H := hP
  have hD : va_D A [(h0, .inr (3, [.ref xM, .ref xP, .ref xG, .ref xO, .int (nI (cnt)), .int (nI (te + 1)), .int (nI (tr))]))] := hD
  exact k_vret hx hb hr hlocks hP hD hK hS [0] () rfl (by decide) trivial dX3_tape_20
theorem in_X3_depth_X0 : ∀ w ∈ wsX00, w ∈ wsX3_depth := by decide +kernel
theorem in_X3_depth_X3 : ∀ w ∈ wsX30, w ∈ wsX3_depth := by decide +kernel
theorem fl_X3_depth_11 : Cond.fieldLink RX3 11 "BulkSamples" "mailings" "[LBulkSamples$Mailing;" ∈ wsX3_depth := by decide +kernel
theorem fl_X3_depth_43 : Cond.fieldLink RX3 43 "BulkSamples$Mailing" "declared" "[I" ∈ wsX3_depth := by decide +kernel
theorem fl_X3_depth_50 : Cond.fieldLink RX3 50 "BulkSamples$Mailing" "items" "I" ∈ wsX3_depth := by decide +kernel
set_option maxHeartbeats 4000000 in
set_option maxRecDepth 100000 in
/-- no such mailing -/
theorem c_d_un (l : Launch) (D : va_G) (cI cL cM : ClassId) (sz : Nat) (h0 xM xP xG xO cnt te tr : Nat) (mf : Nat → Option Nat) (x : Int32) (d9 n9 : Int32) (hnone : fnd mf x = none) : Met l yX3_depth wsX3_depth ({ frames := 1, cells := 0, slots := 0, locals := 22 } : Room) (va_Pc [.ref h0, .int x, .int d9, .int n9] (PreB D (gT cI cL cM) sz [(h0, .inr (3, [.ref xM, .ref xP, .ref xG, .ref xO, .int (nI (cnt)), .int (nI (te)), .int (nI (tr))])), (xM, .inl (cM, 20, .inr (.inr (.inr (.inr (mf))))))])) (va_Qi (fun r _ => r = -11) (fun (_ : Unit) => PostB D (gT cI cL cM) (va_A [(h0, .inr (3, [.ref xM, .ref xP, .ref xG, .ref xO, .int (nI (cnt)), .int (nI (te)), .int (nI (tr))])), (xM, .inl (cM, 20, .inr (.inr (.inr (.inr (mf))))))] sz) [(h0, .inr (3, [.ref xM, .ref xP, .ref xG, .ref xO, .int (nI (cnt)), .int (nI (te)), .int (nI (tr))])), (xM, .inl (cM, 20, .inr (.inr (.inr (.inr (mf))))))]) (va_A [(h0, .inr (3, [.ref xM, .ref xP, .ref xG, .ref xO, .int (nI (cnt)), .int (nI (te)), .int (nI (tr))])), (xM, .inl (cM, 20, .inr (.inr (.inr (.inr (mf))))))] sz)) 0 0 (va_A [(h0, .inr (3, [.ref xM, .ref xP, .ref xG, .ref xO, .int (nI (cnt)), .int (nI (te)), .int (nI (tr))])), (xM, .inl (cM, 20, .inr (.inr (.inr (.inr (mf))))))] sz) := by
  refine k_start (fun A => (va_Qi (fun r _ => r = -11) (fun (_ : Unit) => PostB D (gT cI cL cM) A [(h0, .inr (3, [.ref xM, .ref xP, .ref xG, .ref xO, .int (nI (cnt)), .int (nI (te)), .int (nI (tr))])), (xM, .inl (cM, 20, .inr (.inr (.inr (.inr (mf))))))]) A)) (cc := cX3_depth) (maxL := 6) (ret := (some .int)) (by decide) rfl (Nat.le_of_ble_eq_true rfl) ?_
  intro p e s m below meth c A ls hx hb hr hts hown hlocks hin hml hP hK hD hA hS hl
  have hl : lv_has ls 6 [(0, .ref h0), (1, .int x), (2, .int d9), (3, .int n9)] := hl
  have hown : s.vm.findClass RX3 = some m.cls := hown
  refine lv_aload_n hx hb dX3_depth_0 rfl (lv_at hl 0 rfl) ?_
  refine lv_iload_n hx hb dX3_depth_1 rfl (lv_at hl 1 rfl) ?_
  refine k_callq (wc := [(h0, .inr (3, [.ref xM, .ref xP, .ref xG, .ref xO, .int (nI (cnt)), .int (nI (te)), .int (nI (tr))])), (xM, .inl (cM, 20, .inr (.inr (.inr (.inr (mf))))))]) (wr := []) (W1 := fun _ => [(h0, .inr (3, [.ref xM, .ref xP, .ref xG, .ref xO, .int (nI (cnt)), .int (nI (te)), .int (nI (tr))])), (xM, .inl (cM, 20, .inr (.inr (.inr (.inr (mf))))))]) hP hD hS hA [0, 1] [] [0, 1] rfl rfl (by decide) (by decide) (fun _ => rfl) (by decide) (va_runV (As := [.int x]) (rest := []) ⟨hx, hb, hml, hown, hts⟩ (c_find l D cI cL cM s.heap.size h0 xM xP xG xO cnt te tr mf x) (cwV 1 hts gX3_depth_X3_find rfl rfl rfl (by decide +kernel) ⟨Nat.le_of_ble_eq_true rfl, Nat.le_of_ble_eq_true rfl⟩) (k_preV hP hD hK [0, 1] rfl (by decide) 0 rfl rfl rfl) rfl rfl hl.1 rfl (lv_room (Nat.le_of_ble_eq_true rfl)) dX3_depth_2 ⟨Nat.le_of_ble_eq_true rfl, Nat.le_of_ble_eq_true rfl⟩) (fun r_1 _ H locs hw hP hD hS => ?_)
  obtain rfl : r_1 = none := hw.trans hnone
  refine W.eq (g2 := F0 m 5 ls [.null]) rfl ?_
  refine lv_astoreN (lv' := [(4, .null), (0, .ref h0), (1, .int x), (2, .int d9), (3, .int n9)]) hx hb dX3_depth_5 hl (by decide) rfl (fun ls hl => ?_)
  refine lv_aloadN hx hb dX3_depth_7 (lv_at hl 0 rfl) ?_
  refine lv_ifnonnullN hx hb dX3_depth_9 ?_
  refine lv_bipush (v := (-11)) hx hb dX3_depth_12 (by decide) ?_
  refine W.widen (k := 0) (n := 0) (Nat.le_of_ble_eq_true rfl) (Nat.le_of_ble_eq_true rfl) ?_
  exact k_iret (v := (-11)) hx hb hr hlocks hP hD hK hS [0, 1] () rfl (by decide) rfl dX3_depth_14
theorem in_X3_wrong_X0 : ∀ w ∈ wsX00, w ∈ wsX3_wrong := by decide +kernel
theorem in_X3_wrong_X3 : ∀ w ∈ wsX30, w ∈ wsX3_wrong := by decide +kernel
theorem fl_X3_wrong_11 : Cond.fieldLink RX3 11 "BulkSamples" "mailings" "[LBulkSamples$Mailing;" ∈ wsX3_wrong := by decide +kernel
theorem fl_X3_wrong_66 : Cond.fieldLink RX3 66 "BulkSamples$Mailing" "drawn" "I" ∈ wsX3_wrong := by decide +kernel
theorem fl_X3_wrong_69 : Cond.fieldLink RX3 69 "BulkSamples$Mailing" "found" "[I" ∈ wsX3_wrong := by decide +kernel
set_option maxHeartbeats 4000000 in
set_option maxRecDepth 100000 in
/-- no such mailing -/
theorem c_w_un (l : Launch) (D : va_G) (cI cL cM : ClassId) (sz : Nat) (h0 xM xP xG xO cnt te tr : Nat) (mf : Nat → Option Nat) (x : Int32) (d9 n9 : Int32) (hnone : fnd mf x = none) : Met l yX3_wrong wsX3_wrong ({ frames := 1, cells := 0, slots := 0, locals := 22 } : Room) (va_Pc [.ref h0, .int x, .int d9, .int n9] (PreB D (gT cI cL cM) sz [(h0, .inr (3, [.ref xM, .ref xP, .ref xG, .ref xO, .int (nI (cnt)), .int (nI (te)), .int (nI (tr))])), (xM, .inl (cM, 20, .inr (.inr (.inr (.inr (mf))))))])) (va_Qi (fun r _ => r = -11) (fun (_ : Unit) => PostB D (gT cI cL cM) (va_A [(h0, .inr (3, [.ref xM, .ref xP, .ref xG, .ref xO, .int (nI (cnt)), .int (nI (te)), .int (nI (tr))])), (xM, .inl (cM, 20, .inr (.inr (.inr (.inr (mf))))))] sz) [(h0, .inr (3, [.ref xM, .ref xP, .ref xG, .ref xO, .int (nI (cnt)), .int (nI (te)), .int (nI (tr))])), (xM, .inl (cM, 20, .inr (.inr (.inr (.inr (mf))))))]) (va_A [(h0, .inr (3, [.ref xM, .ref xP, .ref xG, .ref xO, .int (nI (cnt)), .int (nI (te)), .int (nI (tr))])), (xM, .inl (cM, 20, .inr (.inr (.inr (.inr (mf))))))] sz)) 0 0 (va_A [(h0, .inr (3, [.ref xM, .ref xP, .ref xG, .ref xO, .int (nI (cnt)), .int (nI (te)), .int (nI (tr))])), (xM, .inl (cM, 20, .inr (.inr (.inr (.inr (mf))))))] sz) := by
  refine k_start (fun A => (va_Qi (fun r _ => r = -11) (fun (_ : Unit) => PostB D (gT cI cL cM) A [(h0, .inr (3, [.ref xM, .ref xP, .ref xG, .ref xO, .int (nI (cnt)), .int (nI (te)), .int (nI (tr))])), (xM, .inl (cM, 20, .inr (.inr (.inr (.inr (mf))))))]) A)) (cc := cX3_wrong) (maxL := 6) (ret := (some .int)) (by decide) rfl (Nat.le_of_ble_eq_true rfl) ?_
  intro p e s m below meth c A ls hx hb hr hts hown hlocks hin hml hP hK hD hA hS hl
  have hl : lv_has ls 6 [(0, .ref h0), (1, .int x), (2, .int d9), (3, .int n9)] := hl
  have hown : s.vm.findClass RX3 = some m.cls := hown
  refine lv_aload_n hx hb dX3_wrong_0 rfl (lv_at hl 0 rfl) ?_
  refine lv_iload_n hx hb dX3_wrong_1 rfl (lv_at hl 1 rfl) ?_
  refine k_callq (wc := [(h0, .inr (3, [.ref xM, .ref xP, .ref xG, .ref xO, .int (nI (cnt)), .int (nI (te)), .int (nI (tr))])), (xM, .inl (cM, 20, .inr (.inr (.inr (.inr (mf))))))]) (wr := []) (W1 := fun _ => [(h0, .inr (3, [.ref xM, .ref xP, .ref xG, .ref xO, .int (nI (cnt)), .int (nI (te)), .int (nI (tr))])), (xM, .inl (cM, 20, .inr (.inr (.inr (.inr (mf))))))]) hP hD hS hA [0, 1] [] [0, 1] rfl rfl (by decide) (by decide) (fun _ => rfl) (by decide) (va_runV (As := [.int x]) (rest := []) ⟨hx, hb, hml, hown, hts⟩ (c_find l D cI cL cM s.heap.size h0 xM xP xG xO cnt te tr mf x) (cwV 1 hts gX3_wrong_X3_find rfl rfl rfl (by decide +kernel) ⟨Nat.le_of_ble_eq_true rfl, Nat.le_of_ble_eq_true rfl⟩) (k_preV hP hD hK [0, 1] rfl (by decide) 0 rfl rfl rfl) rfl rfl hl.1 rfl (lv_room (Nat.le_of_ble_eq_true rfl)) dX3_wrong_2 ⟨Nat.le_of_ble_eq_true rfl, Nat.le_of_ble_eq_true rfl⟩) (fun r_1 _ H locs hw hP hD hS => ?_)
  obtain rfl : r_1 = none := hw.trans hnone
  refine W.eq (g2 := F0 m 5 ls [.null]) rfl ?_
  refine lv_astoreN (lv' := [(4, .null), (0, .ref h0), (1, .int x), (2, .int d9), (3, .int n9)]) hx hb dX3_wrong_5 hl (by decide) rfl (fun ls hl => ?_)
  refine lv_aloadN hx hb dX3_wrong_7 (lv_at hl 0 rfl) ?_
  refine lv_ifnonnullN hx hb dX3_wrong_9 ?_
  refine lv_bipush (v := (-11)) hx hb dX3_wrong_12 (by decide) ?_
  refine W.widen (k := 0) (n := 0) (Nat.le_of_ble_eq_true rfl) (Nat.le_of_ble_eq_true rfl) ?_
  exact k_iret (v := (-11)) hx hb hr hlocks hP hD hK hS [0, 1] () rfl (by decide) rfl dX3_wrong_14
theorem in_X3_sample_X0 : ∀ w ∈ wsX00, w ∈ wsX3_sample := by decide +kernel
theorem in_X3_sample_X3 : ∀ w ∈ wsX30, w ∈ wsX3_sample := by decide +kernel
theorem fl_X3_sample_11 : Cond.fieldLink RX3 11 "BulkSamples" "mailings" "[LBulkSamples$Mailing;" ∈ wsX3_sample := by decide +kernel
theorem fl_X3_sample_50 : Cond.fieldLink RX3 50 "BulkSamples$Mailing" "items" "I" ∈ wsX3_sample := by decide +kernel
theorem fl_X3_sample_57 : Cond.fieldLink RX3 57 "BulkSamples" "tapeLength" "I" ∈ wsX3_sample := by decide +kernel
theorem fl_X3_sample_66 : Cond.fieldLink RX3 66 "BulkSamples$Mailing" "drawn" "I" ∈ wsX3_sample := by decide +kernel
set_option maxHeartbeats 4000000 in
set_option maxRecDepth 100000 in
/-- no such mailing -/
theorem c_s_un (l : Launch) (D : va_G) (cI cL cM : ClassId) (sz : Nat) (h0 xM xP xG xO cnt te tr : Nat) (mf : Nat → Option Nat) (x : Int32) (n9 : Int32) (hnone : fnd mf x = none) : Met l yX3_sample wsX3_sample ({ frames := 1, cells := 0, slots := 0, locals := 22 } : Room) (va_Pc [.ref h0, .int x, .int n9] (PreB D (gT cI cL cM) sz [(h0, .inr (3, [.ref xM, .ref xP, .ref xG, .ref xO, .int (nI (cnt)), .int (nI (te)), .int (nI (tr))])), (xM, .inl (cM, 20, .inr (.inr (.inr (.inr (mf))))))])) (va_Qi (fun r _ => r = -11) (fun (_ : Unit) => PostB D (gT cI cL cM) (va_A [(h0, .inr (3, [.ref xM, .ref xP, .ref xG, .ref xO, .int (nI (cnt)), .int (nI (te)), .int (nI (tr))])), (xM, .inl (cM, 20, .inr (.inr (.inr (.inr (mf))))))] sz) [(h0, .inr (3, [.ref xM, .ref xP, .ref xG, .ref xO, .int (nI (cnt)), .int (nI (te)), .int (nI (tr))])), (xM, .inl (cM, 20, .inr (.inr (.inr (.inr (mf))))))]) (va_A [(h0, .inr (3, [.ref xM, .ref xP, .ref xG, .ref xO, .int (nI (cnt)), .int (nI (te)), .int (nI (tr))])), (xM, .inl (cM, 20, .inr (.inr (.inr (.inr (mf))))))] sz)) 0 0 (va_A [(h0, .inr (3, [.ref xM, .ref xP, .ref xG, .ref xO, .int (nI (cnt)), .int (nI (te)), .int (nI (tr))])), (xM, .inl (cM, 20, .inr (.inr (.inr (.inr (mf))))))] sz) := by
  refine k_start (fun A => (va_Qi (fun r _ => r = -11) (fun (_ : Unit) => PostB D (gT cI cL cM) A [(h0, .inr (3, [.ref xM, .ref xP, .ref xG, .ref xO, .int (nI (cnt)), .int (nI (te)), .int (nI (tr))])), (xM, .inl (cM, 20, .inr (.inr (.inr (.inr (mf))))))]) A)) (cc := cX3_sample) (maxL := 5) (ret := (some .int)) (by decide) rfl (Nat.le_of_ble_eq_true rfl) ?_
  intro p e s m below meth c A ls hx hb hr hts hown hlocks hin hml hP hK hD hA hS hl
  have hl : lv_has ls 5 [(0, .ref h0), (1, .int x), (2, .int n9)] := hl
  have hown : s.vm.findClass RX3 = some m.cls := hown
  refine lv_aload_n hx hb dX3_sample_0 rfl (lv_at hl 0 rfl) ?_
  refine lv_iload_n hx hb dX3_sample_1 rfl (lv_at hl 1 rfl) ?_
  refine k_callq (wc := [(h0, .inr (3, [.ref xM, .ref xP, .ref xG, .ref xO, .int (nI (cnt)), .int (nI (te)), .int (nI (tr))])), (xM, .inl (cM, 20, .inr (.inr (.inr (.inr (mf))))))]) (wr := []) (W1 := fun _ => [(h0, .inr (3, [.ref xM, .ref xP, .ref xG, .ref xO, .int (nI (cnt)), .int (nI (te)), .int (nI (tr))])), (xM, .inl (cM, 20, .inr (.inr (.inr (.inr (mf))))))]) hP hD hS hA [0, 1] [] [0, 1] rfl rfl (by decide) (by decide) (fun _ => rfl) (by decide) (va_runV (As := [.int x]) (rest := []) ⟨hx, hb, hml, hown, hts⟩ (c_find l D cI cL cM s.heap.size h0 xM xP xG xO cnt te tr mf x) (cwV 1 hts gX3_sample_X3_find rfl rfl rfl (by decide +kernel) ⟨Nat.le_of_ble_eq_true rfl, Nat.le_of_ble_eq_true rfl⟩) (k_preV hP hD hK [0, 1] rfl (by decide) 0 rfl rfl rfl) rfl rfl hl.1 rfl (lv_room (Nat.le_of_ble_eq_true rfl)) dX3_sample_2 ⟨Nat.le_of_ble_eq_true rfl, Nat.le_of_ble_eq_true rfl⟩) (fun r_1 _ H locs hw hP hD hS => ?_)
  obtain rfl : r_1 = none := hw.trans hnone
  refine W.eq (g2 := F0 m 5 ls [.null]) rfl ?_
  refine lv_astore_nN (lv' := [(3, .null), (0, .ref h0), (1, .int x), (2, .int n9)]) hx hb dX3_sample_5 rfl hl (by decide) rfl (fun ls hl => ?_)
  refine lv_aload_nN hx hb dX3_sample_6 rfl (lv_at hl 0 rfl) ?_
  refine lv_ifnonnullN hx hb dX3_sample_7 ?_
  refine lv_bipush (v := (-11)) hx hb dX3_sample_10 (by decide) ?_
  refine W.widen (k := 0) (n := 0) (Nat.le_of_ble_eq_true rfl) (Nat.le_of_ble_eq_true rfl) ?_
  exact k_iret (v := (-11)) hx hb hr hlocks hP hD hK hS [0, 1] () rfl (by decide) rfl dX3_sample_12
set_option maxHeartbeats 4000000 in
set_option maxRecDepth 100000 in
/-- OUTSIDE by its numbers alone -/
theorem c_d_bad (l : Launch) (D : va_G) (cI cL cM : ClassId) (sz : Nat) (h0 xM xP xG xO cnt te tr : Nat) (mf : Nat → Option Nat) (x : Int32) (am ad af it dr : Nat) (hsome : fnd mf x = some am) (d9 n9 : Int32) (hbad : d9 < 0 ∨ nI 4 ≤ d9 ∨ n9 < 0) : Met l yX3_depth wsX3_depth ({ frames := 1, cells := 0, slots := 0, locals := 22 } : Room) (va_Pc [.ref h0, .int x, .int d9, .int n9] (PreB D (gT cI cL cM) sz [(h0, .inr (3, [.ref xM, .ref xP, .ref xG, .ref xO, .int (nI (cnt)), .int (nI (te)), .int (nI (tr))])), (xM, .inl (cM, 20, .inr (.inr (.inr (.inr (mf))))))])) (va_Qi (fun r _ => r = -12) (fun (_ : Unit) => PostB D (gT cI cL cM) (va_A [(h0, .inr (3, [.ref xM, .ref xP, .ref xG, .ref xO, .int (nI (cnt)), .int (nI (te)), .int (nI (tr))])), (xM, .inl (cM, 20, .inr (.inr (.inr (.inr (mf))))))] sz) [(h0, .inr (3, [.ref xM, .ref xP, .ref xG, .ref xO, .int (nI (cnt)), .int (nI (te)), .int (nI (tr))])), (xM, .inl (cM, 20, .inr (.inr (.inr (.inr (mf))))))]) (va_A [(h0, .inr (3, [.ref xM, .ref xP, .ref xG, .ref xO, .int (nI (cnt)), .int (nI (te)), .int (nI (tr))])), (xM, .inl (cM, 20, .inr (.inr (.inr (.inr (mf))))))] sz)) 0 0 (va_A [(h0, .inr (3, [.ref xM, .ref xP, .ref xG, .ref xO, .int (nI (cnt)), .int (nI (te)), .int (nI (tr))])), (xM, .inl (cM, 20, .inr (.inr (.inr (.inr (mf))))))] sz) := by
  refine k_start (fun A => (va_Qi (fun r _ => r = -12) (fun (_ : Unit) => PostB D (gT cI cL cM) A [(h0, .inr (3, [.ref xM, .ref xP, .ref xG, .ref xO, .int (nI (cnt)), .int (nI (te)), .int (nI (tr))])), (xM, .inl (cM, 20, .inr (.inr (.inr (.inr (mf))))))]) A)) (cc := cX3_depth) (maxL := 6) (ret := (some .int)) (by decide) rfl (Nat.le_of_ble_eq_true rfl) ?_
  intro p e s m below meth c A ls hx hb hr hts hown hlocks hin hml hP hK hD hA hS hl
  have hl : lv_has ls 6 [(0, .ref h0), (1, .int x), (2, .int d9), (3, .int n9)] := hl
  have hown : s.vm.findClass RX3 = some m.cls := hown
  refine lv_aload_n hx hb dX3_depth_0 rfl (lv_at hl 0 rfl) ?_
  refine lv_iload_n hx hb dX3_depth_1 rfl (lv_at hl 1 rfl) ?_
  refine k_callq (wc := [(h0, .inr (3, [.ref xM, .ref xP, .ref xG, .ref xO, .int (nI (cnt)), .int (nI (te)), .int (nI (tr))])), (xM, .inl (cM, 20, .inr (.inr (.inr (.inr (mf))))))]) (wr := []) (W1 := fun _ => [(h0, .inr (3, [.ref xM, .ref xP, .ref xG, .ref xO, .int (nI (cnt)), .int (nI (te)), .int (nI (tr))])), (xM, .inl (cM, 20, .inr (.inr (.inr (.inr (mf))))))]) hP hD hS hA [0, 1] [] [0, 1] rfl rfl (by decide) (by decide) (fun _ => rfl) (by decide) (va_runV (As := [.int x]) (rest := []) ⟨hx, hb, hml, hown, hts⟩ (c_find l D cI cL cM s.heap.size h0 xM xP xG xO cnt te tr mf x) (cwV 1 hts gX3_depth_X3_find rfl rfl rfl (by decide +kernel) ⟨Nat.le_of_ble_eq_true rfl, Nat.le_of_ble_eq_true rfl⟩) (k_preV hP hD hK [0, 1] rfl (by decide) 0 rfl rfl rfl) rfl rfl hl.1 rfl (lv_room (Nat.le_of_ble_eq_true rfl)) dX3_depth_2 ⟨Nat.le_of_ble_eq_true rfl, Nat.le_of_ble_eq_true rfl⟩) (fun r_1 _ H locs hw hP hD hS => ?_)
  obtain rfl : r_1 = some am := hw.trans hsome
  refine W.eq (g2 := F0 m 5 ls [.ref am]) rfl ?_
  refine lv_astore (lv' := [(4, .ref am), (0, .ref h0), (1, .int x), (2, .int d9), (3, .int n9)]) hx hb dX3_depth_5 hl (by decide) rfl (fun ls hl => ?_)
  refine lv_aload hx hb dX3_depth_7 (lv_at hl 0 rfl) ?_
  refine lv_ifnonnull (tgt := 15) hx hb dX3_depth_9 (by decide) ?_
  refine lv_iload_n hx hb dX3_depth_15 rfl (lv_at hl 3 rfl) ?_
  refine lv_if_lt (tgt := 28) hx hb dX3_depth_16 (by decide) (fun c_3 => ?_) (fun c_3 => ?_)
  · refine lv_bipush (v := (-12)) hx hb dX3_depth_28 (by decide) ?_
    refine W.widen (k := 0) (n := 0) (Nat.le_of_ble_eq_true rfl) (Nat.le_of_ble_eq_true rfl) ?_
    exact k_iret (v := (-12)) hx hb hr hlocks hP hD hK hS [0, 1] () rfl (by decide) rfl dX3_depth_30
  · refine lv_iload_n hx hb dX3_depth_19 rfl (lv_at hl 3 rfl) ?_
    refine lv_iconst (v := nI (4)) hx hb dX3_depth_20 (by decide) ?_
    refine lv_icmp_ge (tgt := 28) hx hb dX3_depth_21 (by decide) (fun c_4 => ?_) (fun c_4 => ?_)
    · refine lv_bipush (v := (-12)) hx hb dX3_depth_28 (by decide) ?_
      refine W.widen (k := 0) (n := 0) (Nat.le_of_ble_eq_true rfl) (Nat.le_of_ble_eq_true rfl) ?_
      exact k_iret (v := (-12)) hx hb hr hlocks hP hD hK hS [0, 1] () rfl (by decide) rfl dX3_depth_30
    · have h0 : n9 < 0 := (hbad.resolve_left c_3).resolve_left c_4
      refine lv_iload_n hx hb dX3_depth_24 rfl (lv_at hl 4 rfl) ?_
      refine lv_if_ge (tgt := 31) hx hb dX3_depth_25 (by decide) (fun c => absurd h0 (Int32.not_lt.mpr c)) (fun c_5 => ?_)
      refine lv_bipush (v := (-12)) hx hb dX3_depth_28 (by decide) ?_
      refine W.widen (k := 0) (n := 0) (Nat.le_of_ble_eq_true rfl) (Nat.le_of_ble_eq_true rfl) ?_
      exact k_iret (v := (-12)) hx hb hr hlocks hP hD hK hS [0, 1] () rfl (by decide) rfl dX3_depth_30
set_option maxHeartbeats 4000000 in
set_option maxRecDepth 100000 in
/-- OUTSIDE by its numbers alone -/
theorem c_w_bad (l : Launch) (D : va_G) (cI cL cM : ClassId) (sz : Nat) (h0 xM xP xG xO cnt te tr : Nat) (mf : Nat → Option Nat) (x : Int32) (am ad af it dr : Nat) (hsome : fnd mf x = some am) (d9 n9 : Int32) (hbad : d9 < 0 ∨ nI 3 ≤ d9 ∨ n9 < 0) : Met l yX3_wrong wsX3_wrong ({ frames := 1, cells := 0, slots := 0, locals := 22 } : Room) (va_Pc [.ref h0, .int x, .int d9, .int n9] (PreB D (gT cI cL cM) sz [(h0, .inr (3, [.ref xM, .ref xP, .ref xG, .ref xO, .int (nI (cnt)), .int (nI (te)), .int (nI (tr))])), (xM, .inl (cM, 20, .inr (.inr (.inr (.inr (mf))))))])) (va_Qi (fun r _ => r = -12) (fun (_ : Unit) => PostB D (gT cI cL cM) (va_A [(h0, .inr (3, [.ref xM, .ref xP, .ref xG, .ref xO, .int (nI (cnt)), .int (nI (te)), .int (nI (tr))])), (xM, .inl (cM, 20, .inr (.inr (.inr (.inr (mf))))))] sz) [(h0, .inr (3, [.ref xM, .ref xP, .ref xG, .ref xO, .int (nI (cnt)), .int (nI (te)), .int (nI (tr))])), (xM, .inl (cM, 20, .inr (.inr (.inr (.inr (mf))))))]) (va_A [(h0, .inr (3, [.ref xM, .ref xP, .ref xG, .ref xO, .int (nI (cnt)), .int (nI (te)), .int (nI (tr))])), (xM, .inl (cM, 20, .inr (.inr (.inr (.inr (mf))))))] sz)) 0 0 (va_A [(h0, .inr (3, [.ref xM, .ref xP, .ref xG, .ref xO, .int (nI (cnt)), .int (nI (te)), .int (nI (tr))])), (xM, .inl (cM, 20, .inr (.inr (.inr (.inr (mf))))))] sz) := by
  refine k_start (fun A => (va_Qi (fun r _ => r = -12) (fun (_ : Unit) => PostB D (gT cI cL cM) A [(h0, .inr (3, [.ref xM, .ref xP, .ref xG, .ref xO, .int (nI (cnt)), .int (nI (te)), .int (nI (tr))])), (xM, .inl (cM, 20, .inr (.inr (.inr (.inr (mf))))))]) A)) (cc := cX3_wrong) (maxL := 6) (ret := (some .int)) (by decide) rfl (Nat.le_of_ble_eq_true rfl) ?_
  intro p e s m below meth c A ls hx hb hr hts hown hlocks hin hml hP hK hD hA hS hl
  have hl : lv_has ls 6 [(0, .ref h0), (1, .int x), (2, .int d9), (3, .int n9)] := hl
  have hown : s.vm.findClass RX3 = some m.cls := hown
  refine lv_aload_n hx hb dX3_wrong_0 rfl (lv_at hl 0 rfl) ?_
  refine lv_iload_n hx hb dX3_wrong_1 rfl (lv_at hl 1 rfl) ?_
  refine k_callq (wc := [(h0, .inr (3, [.ref xM, .ref xP, .ref xG, .ref xO, .int (nI (cnt)), .int (nI (te)), .int (nI (tr))])), (xM, .inl (cM, 20, .inr (.inr (.inr (.inr (mf))))))]) (wr := []) (W1 := fun _ => [(h0, .inr (3, [.ref xM, .ref xP, .ref xG, .ref xO, .int (nI (cnt)), .int (nI (te)), .int (nI (tr))])), (xM, .inl (cM, 20, .inr (.inr (.inr (.inr (mf))))))]) hP hD hS hA [0, 1] [] [0, 1] rfl rfl (by decide) (by decide) (fun _ => rfl) (by decide) (va_runV (As := [.int x]) (rest := []) ⟨hx, hb, hml, hown, hts⟩ (c_find l D cI cL cM s.heap.size h0 xM xP xG xO cnt te tr mf x) (cwV 1 hts gX3_wrong_X3_find rfl rfl rfl (by decide +kernel) ⟨Nat.le_of_ble_eq_true rfl, Nat.le_of_ble_eq_true rfl⟩) (k_preV hP hD hK [0, 1] rfl (by decide) 0 rfl rfl rfl) rfl rfl hl.1 rfl (lv_room (Nat.le_of_ble_eq_true rfl)) dX3_wrong_2 ⟨Nat.le_of_ble_eq_true rfl, Nat.le_of_ble_eq_true rfl⟩) (fun r_1 _ H locs hw hP hD hS => ?_)
  obtain rfl : r_1 = some am := hw.trans hsome
  refine W.eq (g2 := F0 m 5 ls [.ref am]) rfl ?_
  refine lv_astore (lv' := [(4, .ref am), (0, .ref h0), (1, .int x), (2, .int d9), (3, .int n9)]) hx hb dX3_wrong_5 hl (by decide) rfl (fun ls hl => ?_)
  refine lv_aload hx hb dX3_wrong_7 (lv_at hl 0 rfl) ?_
  refine lv_ifnonnull (tgt := 15) hx hb dX3_wrong_9 (by decide) ?_
  refine lv_iload_n hx hb dX3_wrong_15 rfl (lv_at hl 3 rfl) ?_
  refine lv_if_lt (tgt := 28) hx hb dX3_wrong_16 (by decide) (fun c_3 => ?_) (fun c_3 => ?_)
  · refine lv_bipush (v := (-12)) hx hb dX3_wrong_28 (by decide) ?_
    refine W.widen (k := 0) (n := 0) (Nat.le_of_ble_eq_true rfl) (Nat.le_of_ble_eq_true rfl) ?_
    exact k_iret (v := (-12)) hx hb hr hlocks hP hD hK hS [0, 1] () rfl (by decide) rfl dX3_wrong_30
  · refine lv_iload_n hx hb dX3_wrong_19 rfl (lv_at hl 3 rfl) ?_
    refine lv_iconst (v := nI (3)) hx hb dX3_wrong_20 (by decide) ?_
    refine lv_icmp_ge (tgt := 28) hx hb dX3_wrong_21 (by decide) (fun c_4 => ?_) (fun c_4 => ?_)
    · refine lv_bipush (v := (-12)) hx hb dX3_wrong_28 (by decide) ?_
      refine W.widen (k := 0) (n := 0) (Nat.le_of_ble_eq_true rfl) (Nat.le_of_ble_eq_true rfl) ?_
      exact k_iret (v := (-12)) hx hb hr hlocks hP hD hK hS [0, 1] () rfl (by decide) rfl dX3_wrong_30
    · have h0 : n9 < 0 := (hbad.resolve_left c_3).resolve_left c_4
      refine lv_iload_n hx hb dX3_wrong_24 rfl (lv_at hl 4 rfl) ?_
      refine lv_if_ge (tgt := 31) hx hb dX3_wrong_25 (by decide) (fun c => absurd h0 (Int32.not_lt.mpr c)) (fun c_5 => ?_)
      refine lv_bipush (v := (-12)) hx hb dX3_wrong_28 (by decide) ?_
      refine W.widen (k := 0) (n := 0) (Nat.le_of_ble_eq_true rfl) (Nat.le_of_ble_eq_true rfl) ?_
      exact k_iret (v := (-12)) hx hb hr hlocks hP hD hK hS [0, 1] () rfl (by decide) rfl dX3_wrong_30
set_option maxHeartbeats 4000000 in
set_option maxRecDepth 100000 in
/-- a number at a place -/
theorem c_d_in (l : Launch) (D : va_G) (cI cL cM : ClassId) (sz : Nat) (h0 xM xP xG xO cnt te tr : Nat) (mf : Nat → Option Nat) (x : Int32) (am ad af it dr : Nat) (hsome : fnd mf x = some am) (dp : Nat → Nat) (j9 k9 : Nat) (hj9 : j9 < 4) (hk9 : k9 < 2 ^ 31) (hsum : psum dp 4 ≤ it) (hit : it ≤ 200) (hdr : dr ≤ 200) : Met l yX3_depth wsX3_depth ({ frames := 1, cells := 0, slots := 0, locals := 22 } : Room) (va_Pc [.ref h0, .int x, .int (nI (j9)), .int (nI (k9))] (PreB D (gT cI cL cM) sz [(h0, .inr (3, [.ref xM, .ref xP, .ref xG, .ref xO, .int (nI (cnt)), .int (nI (te)), .int (nI (tr))])), (xM, .inl (cM, 20, .inr (.inr (.inr (.inr (mf)))))), (am, .inr (0, [.int (nI (it)), .ref ad, .ref af, .int (nI (dr))])), (ad, .inl (cI, 4, .inl (fun j => nI (dp j))))])) (va_Qi (fun r _ => r = slR 4 it (decide (0 < dr)) dp j9 k9) (fun (_ : Unit) => PostB D (gT cI cL cM) (va_A [(h0, .inr (3, [.ref xM, .ref xP, .ref xG, .ref xO, .int (nI (cnt)), .int (nI (te)), .int (nI (tr))])), (xM, .inl (cM, 20, .inr (.inr (.inr (.inr (mf)))))), (am, .inr (0, [.int (nI (it)), .ref ad, .ref af, .int (nI (dr))])), (ad, .inl (cI, 4, .inl (fun j => nI (dp j))))] sz) [(h0, .inr (3, [.ref xM, .ref xP, .ref xG, .ref xO, .int (nI (cnt)), .int (nI (te)), .int (nI (tr))])), (xM, .inl (cM, 20, .inr (.inr (.inr (.inr (mf)))))), (am, .inr (0, [.int (nI (it)), .ref ad, .ref af, .int (nI (dr))])), (ad, .inl (cI, 4, .inl (fun j => nI ((slF 4 it (decide (0 < dr)) dp j9 k9) j))))]) (va_A [(h0, .inr (3, [.ref xM, .ref xP, .ref xG, .ref xO, .int (nI (cnt)), .int (nI (te)), .int (nI (tr))])), (xM, .inl (cM, 20, .inr (.inr (.inr (.inr (mf)))))), (am, .inr (0, [.int (nI (it)), .ref ad, .ref af, .int (nI (dr))])), (ad, .inl (cI, 4, .inl (fun j => nI (dp j))))] sz)) 0 0 (va_A [(h0, .inr (3, [.ref xM, .ref xP, .ref xG, .ref xO, .int (nI (cnt)), .int (nI (te)), .int (nI (tr))])), (xM, .inl (cM, 20, .inr (.inr (.inr (.inr (mf)))))), (am, .inr (0, [.int (nI (it)), .ref ad, .ref af, .int (nI (dr))])), (ad, .inl (cI, 4, .inl (fun j => nI (dp j))))] sz) := by
  refine k_start (fun A => (va_Qi (fun r _ => r = slR 4 it (decide (0 < dr)) dp j9 k9) (fun (_ : Unit) => PostB D (gT cI cL cM) A [(h0, .inr (3, [.ref xM, .ref xP, .ref xG, .ref xO, .int (nI (cnt)), .int (nI (te)), .int (nI (tr))])), (xM, .inl (cM, 20, .inr (.inr (.inr (.inr (mf)))))), (am, .inr (0, [.int (nI (it)), .ref ad, .ref af, .int (nI (dr))])), (ad, .inl (cI, 4, .inl (fun j => nI ((slF 4 it (decide (0 < dr)) dp j9 k9) j))))]) A)) (cc := cX3_depth) (maxL := 6) (ret := (some .int)) (by decide) rfl (Nat.le_of_ble_eq_true rfl) ?_
  intro p e s m below meth c A ls hx hb hr hts hown hlocks hin hml hP hK hD hA hS hl
  have hl : lv_has ls 6 [(0, .ref h0), (1, .int x), (2, .int (nI (j9))), (3, .int (nI (k9)))] := hl
  have hown : s.vm.findClass RX3 = some m.cls := hown
  refine lv_aload_n hx hb dX3_depth_0 rfl (lv_at hl 0 rfl) ?_
  refine lv_iload_n hx hb dX3_depth_1 rfl (lv_at hl 1 rfl) ?_
  refine k_callq (wc := [(h0, .inr (3, [.ref xM, .ref xP, .ref xG, .ref xO, .int (nI (cnt)), .int (nI (te)), .int (nI (tr))])), (xM, .inl (cM, 20, .inr (.inr (.inr (.inr (mf))))))]) (wr := [(am, .inr (0, [.int (nI (it)), .ref ad, .ref af, .int (nI (dr))])), (ad, .inl (cI, 4, .inl (fun j => nI (dp j))))]) (W1 := fun _ => [(h0, .inr (3, [.ref xM, .ref xP, .ref xG, .ref xO, .int (nI (cnt)), .int (nI (te)), .int (nI (tr))])), (xM, .inl (cM, 20, .inr (.inr (.inr (.inr (mf)))))), (am, .inr (0, [.int (nI (it)), .ref ad, .ref af, .int (nI (dr))])), (ad, .inl (cI, 4, .inl (fun j => nI (dp j))))]) hP hD hS hA [0, 1] [2, 3] [2, 3, 0, 1] rfl rfl (by decide) (by decide) (fun _ => rfl) (by decide) (va_runV (As := [.int x]) (rest := []) ⟨hx, hb, hml, hown, hts⟩ (c_find l D cI cL cM s.heap.size h0 xM xP xG xO cnt te tr mf x) (cwV 1 hts gX3_depth_X3_find rfl rfl rfl (by decide +kernel) ⟨Nat.le_of_ble_eq_true rfl, Nat.le_of_ble_eq_true rfl⟩) (k_preV hP hD hK [0, 1] rfl (by decide) 0 rfl rfl rfl) rfl rfl hl.1 rfl (lv_room (Nat.le_of_ble_eq_true rfl)) dX3_depth_2 ⟨Nat.le_of_ble_eq_true rfl, Nat.le_of_ble_eq_true rfl⟩) (fun r_1 _ H locs hw hP hD hS => ?_)
  obtain rfl : r_1 = some am := hw.trans hsome
  refine W.eq (g2 := F0 m 5 ls [.ref am]) rfl ?_
  refine lv_astore (lv' := [(4, .ref am), (0, .ref h0), (1, .int x), (2, .int (nI (j9))), (3, .int (nI (k9)))]) hx hb dX3_depth_5 hl (by decide) rfl (fun ls hl => ?_)
  refine lv_aload hx hb dX3_depth_7 (lv_at hl 0 rfl) ?_
  have hfj := psum_ge dp hj9
  refine lv_ifnonnull (tgt := 15) hx hb dX3_depth_9 (by decide) ?_
  refine lv_iload_n hx hb dX3_depth_15 rfl (lv_at hl 3 rfl) ?_
  refine n_if_lt (tgt := 28) hx hb (by omega) dX3_depth_16 (by decide) ?_
  refine lv_iload_n hx hb dX3_depth_19 rfl (lv_at hl 3 rfl) ?_
  refine lv_iconst (v := nI (4)) hx hb dX3_depth_20 (by decide) ?_
  refine n_icmp_ge (tgt := 28) hx hb (by omega) (by omega) dX3_depth_21 (by decide) (fun c_4 => False.elim (by omega)) (fun c_4 => ?_)
  refine lv_iload_n hx hb dX3_depth_24 rfl (lv_at hl 4 rfl) ?_
  refine n_if_ge (tgt := 31) hx hb (by omega) dX3_depth_25 (by decide) ?_
  refine lv_aload hx hb dX3_depth_31 (lv_at hl 0 rfl) ?_
  refine va_get (D := D) (cl := vwCl) (ci := 0) (v := .ref ad) (C := RX0) (T := TX0) (N := 4) hx hb hts in_X3_depth_X0 hown hK hP 2 rfl rfl 1 (by decide) (hts (.fieldLink RX3 43 "BulkSamples$Mailing" "declared" "[I") fl_X3_depth_43) (fun _ h9 => h9) rfl dX3_depth_33 ?_
  refine k_calli (wc := [(ad, .inl (cI, 4, .inl (fun j => nI (dp j))))]) (wr := [(h0, .inr (3, [.ref xM, .ref xP, .ref xG, .ref xO, .int (nI (cnt)), .int (nI (te)), .int (nI (tr))])), (xM, .inl (cM, 20, .inr (.inr (.inr (.inr (mf)))))), (am, .inr (0, [.int (nI (it)), .ref ad, .ref af, .int (nI (dr))]))]) (W1 := fun _ => [(h0, .inr (3, [.ref xM, .ref xP, .ref xG, .ref xO, .int (nI (cnt)), .int (nI (te)), .int (nI (tr))])), (xM, .inl (cM, 20, .inr (.inr (.inr (.inr (mf)))))), (am, .inr (0, [.int (nI (it)), .ref ad, .ref af, .int (nI (dr))])), (ad, .inl (cI, 4, .inl (fun j => nI (dp j))))]) hP hD hS hA [3] [0, 1, 2] [0, 1, 2, 3] rfl rfl (by decide) (by decide) (fun _ => rfl) (by decide) (va_runS (As := [.ref ad]) (rest := []) ⟨hx, hb, hml, hown, hts⟩ (c_sum l D cI cL cM H.size ad 4 dp (by omega)) (va_cwS 1 hts gX3_depth_X3_sum rfl rfl rfl (by decide +kernel) ⟨Nat.le_of_ble_eq_true rfl, Nat.le_of_ble_eq_true rfl⟩) (k_preS hP hD hK [3] rfl (by decide)) rfl rfl hl.1 rfl (lv_room (Nat.le_of_ble_eq_true rfl)) dX3_depth_36 ⟨Nat.le_of_ble_eq_true rfl, Nat.le_of_ble_eq_true rfl⟩) (fun r_6 _ H locs hw hP hD hS => ?_)
  obtain rfl : r_6 = nI (psum dp 4) := hw
  refine lv_aload hx hb dX3_depth_39 (lv_at hl 0 rfl) ?_
  refine va_get (D := D) (cl := vwCl) (ci := 0) (v := .ref ad) (C := RX0) (T := TX0) (N := 4) hx hb hts in_X3_depth_X0 hown hK hP 2 rfl rfl 1 (by decide) (hts (.fieldLink RX3 43 "BulkSamples$Mailing" "declared" "[I") fl_X3_depth_43) (fun _ h9 => h9) rfl dX3_depth_41 ?_
  refine lv_iload_n hx hb dX3_depth_44 rfl (lv_at hl 3 rfl) ?_
  refine n_iald (x := nI (dp j9)) hx hb hK hP 3 0 rfl rfl (by omega) (by omega) rfl dX3_depth_45 ?_
  refine n_isub (r := (psum dp 4) - (dp j9)) hx hb dX3_depth_46 (by omega) rfl ?_
  refine lv_istore (lv' := [(5, .int (nI ((psum dp 4) - (dp j9)))), (4, .ref am), (0, .ref h0), (1, .int x), (2, .int (nI (j9))), (3, .int (nI (k9)))]) hx hb dX3_depth_47 hl (by decide) rfl (fun ls hl => ?_)
  refine lv_iload_n hx hb dX3_depth_49 rfl (lv_at hl 5 rfl) ?_
  refine lv_aload hx hb dX3_depth_50 (lv_at hl 1 rfl) ?_
  refine va_get (D := D) (cl := vwCl) (ci := 0) (v := .int (nI (it))) (C := RX0) (T := TX0) (N := 4) hx hb hts in_X3_depth_X0 hown hK hP 2 rfl rfl 0 (by decide) (hts (.fieldLink RX3 50 "BulkSamples$Mailing" "items" "I") fl_X3_depth_50) (fun _ h9 => h9) rfl dX3_depth_52 ?_
  refine lv_iload hx hb dX3_depth_55 (lv_at hl 0 rfl) ?_
  refine n_isub (r := it - ((psum dp 4) - (dp j9))) hx hb dX3_depth_57 (by omega) rfl ?_
  refine n_icmp_le (tgt := 64) hx hb (by omega) (by omega) dX3_depth_58 (by decide) (fun c_7 => ?_) (fun c_7 => ?_)
  · refine lv_aload hx hb dX3_depth_64 (lv_at hl 1 rfl) ?_
    refine k_calli (wc := [(am, .inr (0, [.int (nI (it)), .ref ad, .ref af, .int (nI (dr))]))]) (wr := [(h0, .inr (3, [.ref xM, .ref xP, .ref xG, .ref xO, .int (nI (cnt)), .int (nI (te)), .int (nI (tr))])), (xM, .inl (cM, 20, .inr (.inr (.inr (.inr (mf)))))), (ad, .inl (cI, 4, .inl (fun j => nI (dp j))))]) (W1 := fun _ => [(h0, .inr (3, [.ref xM, .ref xP, .ref xG, .ref xO, .int (nI (cnt)), .int (nI (te)), .int (nI (tr))])), (xM, .inl (cM, 20, .inr (.inr (.inr (.inr (mf)))))), (am, .inr (0, [.int (nI (it)), .ref ad, .ref af, .int (nI (dr))])), (ad, .inl (cI, 4, .inl (fun j => nI (dp j))))]) hP hD hS hA [2] [0, 1, 3] [0, 1, 3, 2] rfl rfl (by decide) (by decide) (fun _ => rfl) (by decide) (va_runV (As := []) (rest := []) ⟨hx, hb, hml, hown, hts⟩ (c_samp l D cI cL cM H.size am ad af it dr (by omega)) (cwV 0 hts gX3_depth_X0_isSampled rfl rfl rfl (by decide +kernel) ⟨Nat.le_of_ble_eq_true rfl, Nat.le_of_ble_eq_true rfl⟩) (k_preV hP hD hK [2] rfl (by decide) 0 rfl rfl rfl) rfl rfl hl.1 rfl (lv_room (Nat.le_of_ble_eq_true rfl)) dX3_depth_66 ⟨Nat.le_of_ble_eq_true rfl, Nat.le_of_ble_eq_true rfl⟩) (fun r_8 _ H locs hw hP hD hS => ?_)
    obtain rfl : r_8 = nI (b2 (0 < dr)) := hw
    refine n_if_eq (tgt := 75) hx hb (Nat.lt_of_le_of_lt (b2_le _) (by omega)) dX3_depth_69 (by decide) (fun c_9 => ?_) (fun c_9 => ?_)
    · have hbl : (decide (0 < dr)) = false := decide_eq_false (b2_0 c_9)
      refine lv_aload hx hb dX3_depth_75 (lv_at hl 1 rfl) ?_
      refine va_get (D := D) (cl := vwCl) (ci := 0) (v := .ref ad) (C := RX0) (T := TX0) (N := 4) hx hb hts in_X3_depth_X0 hown hK hP 2 rfl rfl 1 (by decide) (hts (.fieldLink RX3 43 "BulkSamples$Mailing" "declared" "[I") fl_X3_depth_43) (fun _ h9 => h9) rfl dX3_depth_77 ?_
      refine lv_iload_n hx hb dX3_depth_80 rfl (lv_at hl 4 rfl) ?_
      refine lv_iload_n hx hb dX3_depth_81 rfl (lv_at hl 5 rfl) ?_
      refine n_iast (f' := fun j => nI ((slF 4 it (decide (0 < dr)) dp j9 k9) j)) (ws' := [(h0, .inr (3, [.ref xM, .ref xP, .ref xG, .ref xO, .int (nI (cnt)), .int (nI (te)), .int (nI (tr))])), (xM, .inl (cM, 20, .inr (.inr (.inr (.inr (mf)))))), (am, .inr (0, [.int (nI (it)), .ref ad, .ref af, .int (nI (dr))])), (ad, .inl (cI, 4, .inl (fun j => nI ((slF 4 it (decide (0 < dr)) dp j9 k9) j))))]) hx hb hK hP hD hS 3 0 rfl rfl (by omega) (by omega) (fun i _ => by rw [slF_ok (by omega) hbl]; split <;> rfl) rfl dX3_depth_82 (fun H locs hP hD hS => ?_)
      refine lv_iload hx hb dX3_depth_83 (lv_at hl 0 rfl) ?_
      refine lv_iload_n hx hb dX3_depth_85 rfl (lv_at hl 5 rfl) ?_
      refine n_iadd (r := ((psum dp 4) - (dp j9)) + k9) hx hb dX3_depth_86 rfl ?_
      refine W.widen (k := 0) (n := 0) (Nat.le_of_ble_eq_true rfl) (Nat.le_of_ble_eq_true rfl) ?_
      exact k_iret (v := nI (((psum dp 4) - (dp j9)) + k9)) hx hb hr hlocks hP hD hK hS [0, 1, 2, 3] () rfl (by decide) (by rw [slR, if_neg (by omega), hbl, if_neg (by decide)]) dX3_depth_87
    · have hbl : (decide (0 < dr)) = true := decide_eq_true (b2_pos c_9)
      refine lv_bipush (v := (-13)) hx hb dX3_depth_72 (by decide) ?_
      have hP : va_P D vwCl [(h0, .inr (3, [.ref xM, .ref xP, .ref xG, .ref xO, .int (nI (cnt)), .int (nI (te)), .int (nI (tr))])), (xM, .inl (cM, 20, .inr (.inr (.inr (.inr (mf)))))), (am, .inr (0, [.int (nI (it)), .ref ad, .ref af, .int (nI (dr))])), (ad, .inl (cI, 4, .inl (fun j => nI ((slF 4 it (decide (0 < dr)) dp j9 k9) j))))] H := P_altI _ hP 3 rfl rfl (fun i _ => congrArg nI (slF_no (Or.inr hbl) i).symm)
      have hD : va_D A [(h0, .inr (3, [.ref xM, .ref xP, .ref xG, .ref xO, .int (nI (cnt)), .int (nI (te)), .int (nI (tr))])), (xM, .inl (cM, 20, .inr (.inr (.inr (.inr (mf)))))), (am, .inr (0, [.int (nI (it)), .ref ad, .ref af, .int (nI (dr))])), (ad, .inl (cI, 4, .inl (fun j => nI ((slF 4 it (decide (0 < dr)) dp j9 k9) j))))] := D_alt hD (q0 := 3) rfl rfl
      refine W.widen (k := 0) (n := 0) (Nat.le_of_ble_eq_true rfl) (Nat.le_of_ble_eq_true rfl) ?_
      exact k_iret (v := (-13)) hx hb hr hlocks hP hD hK hS [0, 1, 2, 3] () rfl (by decide) (by rw [slR, if_neg (by omega), hbl, if_pos rfl]) dX3_depth_74
  · refine lv_bipush (v := (-12)) hx hb dX3_depth_61 (by decide) ?_
    have hP : va_P D vwCl [(h0, .inr (3, [.ref xM, .ref xP, .ref xG, .ref xO, .int (nI (cnt)), .int (nI (te)), .int (nI (tr))])), (xM, .inl (cM, 20, .inr (.inr (.inr (.inr (mf)))))), (am, .inr (0, [.int (nI (it)), .ref ad, .ref af, .int (nI (dr))])), (ad, .inl (cI, 4, .inl (fun j => nI ((slF 4 it (decide (0 < dr)) dp j9 k9) j))))] H := P_altI _ hP 3 rfl rfl (fun i _ => congrArg nI (slF_no (Or.inl (by omega)) i).symm)
    have hD : va_D A [(h0, .inr (3, [.ref xM, .ref xP, .ref xG, .ref xO, .int (nI (cnt)), .int (nI (te)), .int (nI (tr))])), (xM, .inl (cM, 20, .inr (.inr (.inr (.inr (mf)))))), (am, .inr (0, [.int (nI (it)), .ref ad, .ref af, .int (nI (dr))])), (ad, .inl (cI, 4, .inl (fun j => nI ((slF 4 it (decide (0 < dr)) dp j9 k9) j))))] := D_alt hD (q0 := 3) rfl rfl
    refine W.widen (k := 0) (n := 0) (Nat.le_of_ble_eq_true rfl) (Nat.le_of_ble_eq_true rfl) ?_
    exact k_iret (v := (-12)) hx hb hr hlocks hP hD hK hS [0, 1, 2, 3] () rfl (by decide) (by rw [slR, if_pos (by omega)]) dX3_depth_63
set_option maxHeartbeats 4000000 in
set_option maxRecDepth 100000 in
/-- a number at a place -/
theorem c_w_in (l : Launch) (D : va_G) (cI cL cM : ClassId) (sz : Nat) (h0 xM xP xG xO cnt te tr : Nat) (mf : Nat → Option Nat) (x : Int32) (am ad af it dr : Nat) (hsome : fnd mf x = some am) (fd : Nat → Nat) (j9 k9 : Nat) (hj9 : j9 < 3) (hk9 : k9 < 2 ^ 31) (hsum : psum fd 3 ≤ dr) (hit : it ≤ 200) (hdr : dr ≤ 200) : Met l yX3_wrong wsX3_wrong ({ frames := 1, cells := 0, slots := 0, locals := 22 } : Room) (va_Pc [.ref h0, .int x, .int (nI (j9)), .int (nI (k9))] (PreB D (gT cI cL cM) sz [(h0, .inr (3, [.ref xM, .ref xP, .ref xG, .ref xO, .int (nI (cnt)), .int (nI (te)), .int (nI (tr))])), (xM, .inl (cM, 20, .inr (.inr (.inr (.inr (mf)))))), (am, .inr (0, [.int (nI (it)), .ref ad, .ref af, .int (nI (dr))])), (af, .inl (cI, 3, .inl (fun j => nI (fd j))))])) (va_Qi (fun r _ => r = slR 3 dr (decide (dr = 0)) fd j9 k9) (fun (_ : Unit) => PostB D (gT cI cL cM) (va_A [(h0, .inr (3, [.ref xM, .ref xP, .ref xG, .ref xO, .int (nI (cnt)), .int (nI (te)), .int (nI (tr))])), (xM, .inl (cM, 20, .inr (.inr (.inr (.inr (mf)))))), (am, .inr (0, [.int (nI (it)), .ref ad, .ref af, .int (nI (dr))])), (af, .inl (cI, 3, .inl (fun j => nI (fd j))))] sz) [(h0, .inr (3, [.ref xM, .ref xP, .ref xG, .ref xO, .int (nI (cnt)), .int (nI (te)), .int (nI (tr))])), (xM, .inl (cM, 20, .inr (.inr (.inr (.inr (mf)))))), (am, .inr (0, [.int (nI (it)), .ref ad, .ref af, .int (nI (dr))])), (af, .inl (cI, 3, .inl (fun j => nI ((slF 3 dr (decide (dr = 0)) fd j9 k9) j))))]) (va_A [(h0, .inr (3, [.ref xM, .ref xP, .ref xG, .ref xO, .int (nI (cnt)), .int (nI (te)), .int (nI (tr))])), (xM, .inl (cM, 20, .inr (.inr (.inr (.inr (mf)))))), (am, .inr (0, [.int (nI (it)), .ref ad, .ref af, .int (nI (dr))])), (af, .inl (cI, 3, .inl (fun j => nI (fd j))))] sz)) 0 0 (va_A [(h0, .inr (3, [.ref xM, .ref xP, .ref xG, .ref xO, .int (nI (cnt)), .int (nI (te)), .int (nI (tr))])), (xM, .inl (cM, 20, .inr (.inr (.inr (.inr (mf)))))), (am, .inr (0, [.int (nI (it)), .ref ad, .ref af, .int (nI (dr))])), (af, .inl (cI, 3, .inl (fun j => nI (fd j))))] sz) := by
  refine k_start (fun A => (va_Qi (fun r _ => r = slR 3 dr (decide (dr = 0)) fd j9 k9) (fun (_ : Unit) => PostB D (gT cI cL cM) A [(h0, .inr (3, [.ref xM, .ref xP, .ref xG, .ref xO, .int (nI (cnt)), .int (nI (te)), .int (nI (tr))])), (xM, .inl (cM, 20, .inr (.inr (.inr (.inr (mf)))))), (am, .inr (0, [.int (nI (it)), .ref ad, .ref af, .int (nI (dr))])), (af, .inl (cI, 3, .inl (fun j => nI ((slF 3 dr (decide (dr = 0)) fd j9 k9) j))))]) A)) (cc := cX3_wrong) (maxL := 6) (ret := (some .int)) (by decide) rfl (Nat.le_of_ble_eq_true rfl) ?_
  intro p e s m below meth c A ls hx hb hr hts hown hlocks hin hml hP hK hD hA hS hl
  have hl : lv_has ls 6 [(0, .ref h0), (1, .int x), (2, .int (nI (j9))), (3, .int (nI (k9)))] := hl
  have hown : s.vm.findClass RX3 = some m.cls := hown
  refine lv_aload_n hx hb dX3_wrong_0 rfl (lv_at hl 0 rfl) ?_
  refine lv_iload_n hx hb dX3_wrong_1 rfl (lv_at hl 1 rfl) ?_
  refine k_callq (wc := [(h0, .inr (3, [.ref xM, .ref xP, .ref xG, .ref xO, .int (nI (cnt)), .int (nI (te)), .int (nI (tr))])), (xM, .inl (cM, 20, .inr (.inr (.inr (.inr (mf))))))]) (wr := [(am, .inr (0, [.int (nI (it)), .ref ad, .ref af, .int (nI (dr))])), (af, .inl (cI, 3, .inl (fun j => nI (fd j))))]) (W1 := fun _ => [(h0, .inr (3, [.ref xM, .ref xP, .ref xG, .ref xO, .int (nI (cnt)), .int (nI (te)), .int (nI (tr))])), (xM, .inl (cM, 20, .inr (.inr (.inr (.inr (mf)))))), (am, .inr (0, [.int (nI (it)), .ref ad, .ref af, .int (nI (dr))])), (af, .inl (cI, 3, .inl (fun j => nI (fd j))))]) hP hD hS hA [0, 1] [2, 3] [2, 3, 0, 1] rfl rfl (by decide) (by decide) (fun _ => rfl) (by decide) (va_runV (As := [.int x]) (rest := []) ⟨hx, hb, hml, hown, hts⟩ (c_find l D cI cL cM s.heap.size h0 xM xP xG xO cnt te tr mf x) (cwV 1 hts gX3_wrong_X3_find rfl rfl rfl (by decide +kernel) ⟨Nat.le_of_ble_eq_true rfl, Nat.le_of_ble_eq_true rfl⟩) (k_preV hP hD hK [0, 1] rfl (by decide) 0 rfl rfl rfl) rfl rfl hl.1 rfl (lv_room (Nat.le_of_ble_eq_true rfl)) dX3_wrong_2 ⟨Nat.le_of_ble_eq_true rfl, Nat.le_of_ble_eq_true rfl⟩) (fun r_1 _ H locs hw hP hD hS => ?_)
  obtain rfl : r_1 = some am := hw.trans hsome
  refine W.eq (g2 := F0 m 5 ls [.ref am]) rfl ?_
  refine lv_astore (lv' := [(4, .ref am), (0, .ref h0), (1, .int x), (2, .int (nI (j9))), (3, .int (nI (k9)))]) hx hb dX3_wrong_5 hl (by decide) rfl (fun ls hl => ?_)
  refine lv_aload hx hb dX3_wrong_7 (lv_at hl 0 rfl) ?_
  have hfj := psum_ge fd hj9
  refine lv_ifnonnull (tgt := 15) hx hb dX3_wrong_9 (by decide) ?_
  refine lv_iload_n hx hb dX3_wrong_15 rfl (lv_at hl 3 rfl) ?_
  refine n_if_lt (tgt := 28) hx hb (by omega) dX3_wrong_16 (by decide) ?_
  refine lv_iload_n hx hb dX3_wrong_19 rfl (lv_at hl 3 rfl) ?_
  refine lv_iconst (v := nI (3)) hx hb dX3_wrong_20 (by decide) ?_
  refine n_icmp_ge (tgt := 28) hx hb (by omega) (by omega) dX3_wrong_21 (by decide) (fun c_4 => False.elim (by omega)) (fun c_4 => ?_)
  refine lv_iload_n hx hb dX3_wrong_24 rfl (lv_at hl 4 rfl) ?_
  refine n_if_ge (tgt := 31) hx hb (by omega) dX3_wrong_25 (by decide) ?_
  refine lv_aload hx hb dX3_wrong_31 (lv_at hl 0 rfl) ?_
  refine va_get (D := D) (cl := vwCl) (ci := 0) (v := .ref af) (C := RX0) (T := TX0) (N := 4) hx hb hts in_X3_wrong_X0 hown hK hP 2 rfl rfl 2 (by decide) (hts (.fieldLink RX3 69 "BulkSamples$Mailing" "found" "[I") fl_X3_wrong_69) (fun _ h9 => h9) rfl dX3_wrong_33 ?_
  refine k_calli (wc := [(af, .inl (cI, 3, .inl (fun j => nI (fd j))))]) (wr := [(h0, .inr (3, [.ref xM, .ref xP, .ref xG, .ref xO, .int (nI (cnt)), .int (nI (te)), .int (nI (tr))])), (xM, .inl (cM, 20, .inr (.inr (.inr (.inr (mf)))))), (am, .inr (0, [.int (nI (it)), .ref ad, .ref af, .int (nI (dr))]))]) (W1 := fun _ => [(h0, .inr (3, [.ref xM, .ref xP, .ref xG, .ref xO, .int (nI (cnt)), .int (nI (te)), .int (nI (tr))])), (xM, .inl (cM, 20, .inr (.inr (.inr (.inr (mf)))))), (am, .inr (0, [.int (nI (it)), .ref ad, .ref af, .int (nI (dr))])), (af, .inl (cI, 3, .inl (fun j => nI (fd j))))]) hP hD hS hA [3] [0, 1, 2] [0, 1, 2, 3] rfl rfl (by decide) (by decide) (fun _ => rfl) (by decide) (va_runS (As := [.ref af]) (rest := []) ⟨hx, hb, hml, hown, hts⟩ (c_sum l D cI cL cM H.size af 3 fd (by omega)) (va_cwS 1 hts gX3_wrong_X3_sum rfl rfl rfl (by decide +kernel) ⟨Nat.le_of_ble_eq_true rfl, Nat.le_of_ble_eq_true rfl⟩) (k_preS hP hD hK [3] rfl (by decide)) rfl rfl hl.1 rfl (lv_room (Nat.le_of_ble_eq_true rfl)) dX3_wrong_36 ⟨Nat.le_of_ble_eq_true rfl, Nat.le_of_ble_eq_true rfl⟩) (fun r_6 _ H locs hw hP hD hS => ?_)
  obtain rfl : r_6 = nI (psum fd 3) := hw
  refine lv_aload hx hb dX3_wrong_39 (lv_at hl 0 rfl) ?_
  refine va_get (D := D) (cl := vwCl) (ci := 0) (v := .ref af) (C := RX0) (T := TX0) (N := 4) hx hb hts in_X3_wrong_X0 hown hK hP 2 rfl rfl 2 (by decide) (hts (.fieldLink RX3 69 "BulkSamples$Mailing" "found" "[I") fl_X3_wrong_69) (fun _ h9 => h9) rfl dX3_wrong_41 ?_
  refine lv_iload_n hx hb dX3_wrong_44 rfl (lv_at hl 3 rfl) ?_
  refine n_iald (x := nI (fd j9)) hx hb hK hP 3 0 rfl rfl (by omega) (by omega) rfl dX3_wrong_45 ?_
  refine n_isub (r := (psum fd 3) - (fd j9)) hx hb dX3_wrong_46 (by omega) rfl ?_
  refine lv_istore (lv' := [(5, .int (nI ((psum fd 3) - (fd j9)))), (4, .ref am), (0, .ref h0), (1, .int x), (2, .int (nI (j9))), (3, .int (nI (k9)))]) hx hb dX3_wrong_47 hl (by decide) rfl (fun ls hl => ?_)
  refine lv_iload_n hx hb dX3_wrong_49 rfl (lv_at hl 5 rfl) ?_
  refine lv_aload hx hb dX3_wrong_50 (lv_at hl 1 rfl) ?_
  refine va_get (D := D) (cl := vwCl) (ci := 0) (v := .int (nI (dr))) (C := RX0) (T := TX0) (N := 4) hx hb hts in_X3_wrong_X0 hown hK hP 2 rfl rfl 3 (by decide) (hts (.fieldLink RX3 66 "BulkSamples$Mailing" "drawn" "I") fl_X3_wrong_66) (fun _ h9 => h9) rfl dX3_wrong_52 ?_
  refine lv_iload hx hb dX3_wrong_55 (lv_at hl 0 rfl) ?_
  refine n_isub (r := dr - ((psum fd 3) - (fd j9))) hx hb dX3_wrong_57 (by omega) rfl ?_
  refine n_icmp_le (tgt := 64) hx hb (by omega) (by omega) dX3_wrong_58 (by decide) (fun c_7 => ?_) (fun c_7 => ?_)
  · refine lv_aload hx hb dX3_wrong_64 (lv_at hl 1 rfl) ?_
    refine k_calli (wc := [(am, .inr (0, [.int (nI (it)), .ref ad, .ref af, .int (nI (dr))]))]) (wr := [(h0, .inr (3, [.ref xM, .ref xP, .ref xG, .ref xO, .int (nI (cnt)), .int (nI (te)), .int (nI (tr))])), (xM, .inl (cM, 20, .inr (.inr (.inr (.inr (mf)))))), (af, .inl (cI, 3, .inl (fun j => nI (fd j))))]) (W1 := fun _ => [(h0, .inr (3, [.ref xM, .ref xP, .ref xG, .ref xO, .int (nI (cnt)), .int (nI (te)), .int (nI (tr))])), (xM, .inl (cM, 20, .inr (.inr (.inr (.inr (mf)))))), (am, .inr (0, [.int (nI (it)), .ref ad, .ref af, .int (nI (dr))])), (af, .inl (cI, 3, .inl (fun j => nI (fd j))))]) hP hD hS hA [2] [0, 1, 3] [0, 1, 3, 2] rfl rfl (by decide) (by decide) (fun _ => rfl) (by decide) (va_runV (As := []) (rest := []) ⟨hx, hb, hml, hown, hts⟩ (c_samp l D cI cL cM H.size am ad af it dr (by omega)) (cwV 0 hts gX3_wrong_X0_isSampled rfl rfl rfl (by decide +kernel) ⟨Nat.le_of_ble_eq_true rfl, Nat.le_of_ble_eq_true rfl⟩) (k_preV hP hD hK [2] rfl (by decide) 0 rfl rfl rfl) rfl rfl hl.1 rfl (lv_room (Nat.le_of_ble_eq_true rfl)) dX3_wrong_66 ⟨Nat.le_of_ble_eq_true rfl, Nat.le_of_ble_eq_true rfl⟩) (fun r_8 _ H locs hw hP hD hS => ?_)
    obtain rfl : r_8 = nI (b2 (0 < dr)) := hw
    refine n_if_ne (tgt := 75) hx hb (Nat.lt_of_le_of_lt (b2_le _) (by omega)) dX3_wrong_69 (by decide) (fun c_9 => ?_) (fun c_9 => ?_)
    · have hbl : (decide (dr = 0)) = false := decide_eq_false (by have := b2_pos c_9; omega)
      refine lv_aload hx hb dX3_wrong_75 (lv_at hl 1 rfl) ?_
      refine va_get (D := D) (cl := vwCl) (ci := 0) (v := .ref af) (C := RX0) (T := TX0) (N := 4) hx hb hts in_X3_wrong_X0 hown hK hP 2 rfl rfl 2 (by decide) (hts (.fieldLink RX3 69 "BulkSamples$Mailing" "found" "[I") fl_X3_wrong_69) (fun _ h9 => h9) rfl dX3_wrong_77 ?_
      refine lv_iload_n hx hb dX3_wrong_80 rfl (lv_at hl 4 rfl) ?_
      refine lv_iload_n hx hb dX3_wrong_81 rfl (lv_at hl 5 rfl) ?_
      refine n_iast (f' := fun j => nI ((slF 3 dr (decide (dr = 0)) fd j9 k9) j)) (ws' := [(h0, .inr (3, [.ref xM, .ref xP, .ref xG, .ref xO, .int (nI (cnt)), .int (nI (te)), .int (nI (tr))])), (xM, .inl (cM, 20, .inr (.inr (.inr (.inr (mf)))))), (am, .inr (0, [.int (nI (it)), .ref ad, .ref af, .int (nI (dr))])), (af, .inl (cI, 3, .inl (fun j => nI ((slF 3 dr (decide (dr = 0)) fd j9 k9) j))))]) hx hb hK hP hD hS 3 0 rfl rfl (by omega) (by omega) (fun i _ => by rw [slF_ok (by omega) hbl]; split <;> rfl) rfl dX3_wrong_82 (fun H locs hP hD hS => ?_)
      refine lv_iload hx hb dX3_wrong_83 (lv_at hl 0 rfl) ?_
      refine lv_iload_n hx hb dX3_wrong_85 rfl (lv_at hl 5 rfl) ?_
      refine n_iadd (r := ((psum fd 3) - (fd j9)) + k9) hx hb dX3_wrong_86 rfl ?_
      refine W.widen (k := 0) (n := 0) (Nat.le_of_ble_eq_true rfl) (Nat.le_of_ble_eq_true rfl) ?_
      exact k_iret (v := nI (((psum fd 3) - (fd j9)) + k9)) hx hb hr hlocks hP hD hK hS [0, 1, 2, 3] () rfl (by decide) (by rw [slR, if_neg (by omega), hbl, if_neg (by decide)]) dX3_wrong_87
    · have hbl : (decide (dr = 0)) = true := decide_eq_true (by have := b2_0 c_9; omega)
      refine lv_bipush (v := (-13)) hx hb dX3_wrong_72 (by decide) ?_
      have hP : va_P D vwCl [(h0, .inr (3, [.ref xM, .ref xP, .ref xG, .ref xO, .int (nI (cnt)), .int (nI (te)), .int (nI (tr))])), (xM, .inl (cM, 20, .inr (.inr (.inr (.inr (mf)))))), (am, .inr (0, [.int (nI (it)), .ref ad, .ref af, .int (nI (dr))])), (af, .inl (cI, 3, .inl (fun j => nI ((slF 3 dr (decide (dr = 0)) fd j9 k9) j))))] H := P_altI _ hP 3 rfl rfl (fun i _ => congrArg nI (slF_no (Or.inr hbl) i).symm)
      have hD : va_D A [(h0, .inr (3, [.ref xM, .ref xP, .ref xG, .ref xO, .int (nI (cnt)), .int (nI (te)), .int (nI (tr))])), (xM, .inl (cM, 20, .inr (.inr (.inr (.inr (mf)))))), (am, .inr (0, [.int (nI (it)), .ref ad, .ref af, .int (nI (dr))])), (af, .inl (cI, 3, .inl (fun j => nI ((slF 3 dr (decide (dr = 0)) fd j9 k9) j))))] := D_alt hD (q0 := 3) rfl rfl
      refine W.widen (k := 0) (n := 0) (Nat.le_of_ble_eq_true rfl) (Nat.le_of_ble_eq_true rfl) ?_
      exact k_iret (v := (-13)) hx hb hr hlocks hP hD hK hS [0, 1, 2, 3] () rfl (by decide) (by rw [slR, if_neg (by omega), hbl, if_pos rfl]) dX3_wrong_74
  · refine lv_bipush (v := (-12)) hx hb dX3_wrong_61 (by decide) ?_
    have hP : va_P D vwCl [(h0, .inr (3, [.ref xM, .ref xP, .ref xG, .ref xO, .int (nI (cnt)), .int (nI (te)), .int (nI (tr))])), (xM, .inl (cM, 20, .inr (.inr (.inr (.inr (mf)))))), (am, .inr (0, [.int (nI (it)), .ref ad, .ref af, .int (nI (dr))])), (af, .inl (cI, 3, .inl (fun j => nI ((slF 3 dr (decide (dr = 0)) fd j9 k9) j))))] H := P_altI _ hP 3 rfl rfl (fun i _ => congrArg nI (slF_no (Or.inl (by omega)) i).symm)
    have hD : va_D A [(h0, .inr (3, [.ref xM, .ref xP, .ref xG, .ref xO, .int (nI (cnt)), .int (nI (te)), .int (nI (tr))])), (xM, .inl (cM, 20, .inr (.inr (.inr (.inr (mf)))))), (am, .inr (0, [.int (nI (it)), .ref ad, .ref af, .int (nI (dr))])), (af, .inl (cI, 3, .inl (fun j => nI ((slF 3 dr (decide (dr = 0)) fd j9 k9) j))))] := D_alt hD (q0 := 3) rfl rfl
    refine W.widen (k := 0) (n := 0) (Nat.le_of_ble_eq_true rfl) (Nat.le_of_ble_eq_true rfl) ?_
    exact k_iret (v := (-12)) hx hb hr hlocks hP hD hK hS [0, 1, 2, 3] () rfl (by decide) (by rw [slR, if_pos (by omega)]) dX3_wrong_63
set_option maxHeartbeats 4000000 in
set_option maxRecDepth 100000 in
/-- sample: OUTSIDE -/
theorem c_s_bad (l : Launch) (D : va_G) (cI cL cM : ClassId) (sz : Nat) (h0 xM xP xG xO cnt te tr : Nat) (mf : Nat → Option Nat) (x : Int32) (am ad af it dr : Nat) (hsome : fnd mf x = some am) (n9 : Int32) (hbad : n9 < nI 1) : Met l yX3_sample wsX3_sample ({ frames := 1, cells := 0, slots := 0, locals := 22 } : Room) (va_Pc [.ref h0, .int x, .int n9] (PreB D (gT cI cL cM) sz [(h0, .inr (3, [.ref xM, .ref xP, .ref xG, .ref xO, .int (nI (cnt)), .int (nI (te)), .int (nI (tr))])), (xM, .inl (cM, 20, .inr (.inr (.inr (.inr (mf))))))])) (va_Qi (fun r _ => r = -12) (fun (_ : Unit) => PostB D (gT cI cL cM) (va_A [(h0, .inr (3, [.ref xM, .ref xP, .ref xG, .ref xO, .int (nI (cnt)), .int (nI (te)), .int (nI (tr))])), (xM, .inl (cM, 20, .inr (.inr (.inr (.inr (mf))))))] sz) [(h0, .inr (3, [.ref xM, .ref xP, .ref xG, .ref xO, .int (nI (cnt)), .int (nI (te)), .int (nI (tr))])), (xM, .inl (cM, 20, .inr (.inr (.inr (.inr (mf))))))]) (va_A [(h0, .inr (3, [.ref xM, .ref xP, .ref xG, .ref xO, .int (nI (cnt)), .int (nI (te)), .int (nI (tr))])), (xM, .inl (cM, 20, .inr (.inr (.inr (.inr (mf))))))] sz)) 0 0 (va_A [(h0, .inr (3, [.ref xM, .ref xP, .ref xG, .ref xO, .int (nI (cnt)), .int (nI (te)), .int (nI (tr))])), (xM, .inl (cM, 20, .inr (.inr (.inr (.inr (mf))))))] sz) := by
  refine k_start (fun A => (va_Qi (fun r _ => r = -12) (fun (_ : Unit) => PostB D (gT cI cL cM) A [(h0, .inr (3, [.ref xM, .ref xP, .ref xG, .ref xO, .int (nI (cnt)), .int (nI (te)), .int (nI (tr))])), (xM, .inl (cM, 20, .inr (.inr (.inr (.inr (mf))))))]) A)) (cc := cX3_sample) (maxL := 5) (ret := (some .int)) (by decide) rfl (Nat.le_of_ble_eq_true rfl) ?_
  intro p e s m below meth c A ls hx hb hr hts hown hlocks hin hml hP hK hD hA hS hl
  have hl : lv_has ls 5 [(0, .ref h0), (1, .int x), (2, .int n9)] := hl
  have hown : s.vm.findClass RX3 = some m.cls := hown
  refine lv_aload_n hx hb dX3_sample_0 rfl (lv_at hl 0 rfl) ?_
  refine lv_iload_n hx hb dX3_sample_1 rfl (lv_at hl 1 rfl) ?_
  refine k_callq (wc := [(h0, .inr (3, [.ref xM, .ref xP, .ref xG, .ref xO, .int (nI (cnt)), .int (nI (te)), .int (nI (tr))])), (xM, .inl (cM, 20, .inr (.inr (.inr (.inr (mf))))))]) (wr := []) (W1 := fun _ => [(h0, .inr (3, [.ref xM, .ref xP, .ref xG, .ref xO, .int (nI (cnt)), .int (nI (te)), .int (nI (tr))])), (xM, .inl (cM, 20, .inr (.inr (.inr (.inr (mf))))))]) hP hD hS hA [0, 1] [] [0, 1] rfl rfl (by decide) (by decide) (fun _ => rfl) (by decide) (va_runV (As := [.int x]) (rest := []) ⟨hx, hb, hml, hown, hts⟩ (c_find l D cI cL cM s.heap.size h0 xM xP xG xO cnt te tr mf x) (cwV 1 hts gX3_sample_X3_find rfl rfl rfl (by decide +kernel) ⟨Nat.le_of_ble_eq_true rfl, Nat.le_of_ble_eq_true rfl⟩) (k_preV hP hD hK [0, 1] rfl (by decide) 0 rfl rfl rfl) rfl rfl hl.1 rfl (lv_room (Nat.le_of_ble_eq_true rfl)) dX3_sample_2 ⟨Nat.le_of_ble_eq_true rfl, Nat.le_of_ble_eq_true rfl⟩) (fun r_1 _ H locs hw hP hD hS => ?_)
  obtain rfl : r_1 = some am := hw.trans hsome
  refine W.eq (g2 := F0 m 5 ls [.ref am]) rfl ?_
  refine lv_astore_n (lv' := [(3, .ref am), (0, .ref h0), (1, .int x), (2, .int n9)]) hx hb dX3_sample_5 rfl hl (by decide) rfl (fun ls hl => ?_)
  refine lv_aload_n hx hb dX3_sample_6 rfl (lv_at hl 0 rfl) ?_
  refine lv_ifnonnull (tgt := 13) hx hb dX3_sample_7 (by decide) ?_
  refine lv_iload_n hx hb dX3_sample_13 rfl (lv_at hl 3 rfl) ?_
  refine lv_iconst (v := nI (1)) hx hb dX3_sample_14 (by decide) ?_
  refine lv_icmp_ge (tgt := 21) hx hb dX3_sample_15 (by decide) (fun c => absurd hbad (Int32.not_lt.mpr c)) (fun c_3 => ?_)
  refine lv_bipush (v := (-12)) hx hb dX3_sample_18 (by decide) ?_
  refine W.widen (k := 0) (n := 0) (Nat.le_of_ble_eq_true rfl) (Nat.le_of_ble_eq_true rfl) ?_
  exact k_iret (v := (-12)) hx hb hr hlocks hP hD hK hS [0, 1] () rfl (by decide) rfl dX3_sample_20
set_option maxHeartbeats 4000000 in
set_option maxRecDepth 100000 in
/-- sample -/
theorem c_s_in (l : Launch) (D : va_G) (cI cL cM : ClassId) (sz : Nat) (h0 xM xP xG xO cnt te tr : Nat) (mf : Nat → Option Nat) (x : Int32) (am ad af it dr : Nat) (hsome : fnd mf x = some am) (k9 : Nat) (hk1 : 1 ≤ k9) (hk9 : k9 < 2 ^ 31) (hit : it ≤ 200) (hdr : dr ≤ 200) (hte : te ≤ 300) : Met l yX3_sample wsX3_sample ({ frames := 1, cells := 0, slots := 0, locals := 22 } : Room) (va_Pc [.ref h0, .int x, .int (nI (k9))] (PreB D (gT cI cL cM) sz [(h0, .inr (3, [.ref xM, .ref xP, .ref xG, .ref xO, .int (nI (cnt)), .int (nI (te)), .int (nI (tr))])), (xM, .inl (cM, 20, .inr (.inr (.inr (.inr (mf)))))), (am, .inr (0, [.int (nI (it)), .ref ad, .ref af, .int (nI (dr))]))])) (va_Qi (fun r _ => r = saR it dr te k9) (fun (_ : Unit) => PostB D (gT cI cL cM) (va_A [(h0, .inr (3, [.ref xM, .ref xP, .ref xG, .ref xO, .int (nI (cnt)), .int (nI (te)), .int (nI (tr))])), (xM, .inl (cM, 20, .inr (.inr (.inr (.inr (mf)))))), (am, .inr (0, [.int (nI (it)), .ref ad, .ref af, .int (nI (dr))]))] sz) [(h0, .inr (3, [.ref xM, .ref xP, .ref xG, .ref xO, .int (nI (cnt)), .int (nI (te - saT it dr te k9)), .int (nI (tr))])), (xM, .inl (cM, 20, .inr (.inr (.inr (.inr (mf)))))), (am, .inr (0, [.int (nI (it)), .ref ad, .ref af, .int (nI (dr + saT it dr te k9))]))]) (va_A [(h0, .inr (3, [.ref xM, .ref xP, .ref xG, .ref xO, .int (nI (cnt)), .int (nI (te)), .int (nI (tr))])), (xM, .inl (cM, 20, .inr (.inr (.inr (.inr (mf)))))), (am, .inr (0, [.int (nI (it)), .ref ad, .ref af, .int (nI (dr))]))] sz)) 0 0 (va_A [(h0, .inr (3, [.ref xM, .ref xP, .ref xG, .ref xO, .int (nI (cnt)), .int (nI (te)), .int (nI (tr))])), (xM, .inl (cM, 20, .inr (.inr (.inr (.inr (mf)))))), (am, .inr (0, [.int (nI (it)), .ref ad, .ref af, .int (nI (dr))]))] sz) := by
  refine k_start (fun A => (va_Qi (fun r _ => r = saR it dr te k9) (fun (_ : Unit) => PostB D (gT cI cL cM) A [(h0, .inr (3, [.ref xM, .ref xP, .ref xG, .ref xO, .int (nI (cnt)), .int (nI (te - saT it dr te k9)), .int (nI (tr))])), (xM, .inl (cM, 20, .inr (.inr (.inr (.inr (mf)))))), (am, .inr (0, [.int (nI (it)), .ref ad, .ref af, .int (nI (dr + saT it dr te k9))]))]) A)) (cc := cX3_sample) (maxL := 5) (ret := (some .int)) (by decide) rfl (Nat.le_of_ble_eq_true rfl) ?_
  intro p e s m below meth c A ls hx hb hr hts hown hlocks hin hml hP hK hD hA hS hl
  have hl : lv_has ls 5 [(0, .ref h0), (1, .int x), (2, .int (nI (k9)))] := hl
  have hown : s.vm.findClass RX3 = some m.cls := hown
  refine lv_aload_n hx hb dX3_sample_0 rfl (lv_at hl 0 rfl) ?_
  refine lv_iload_n hx hb dX3_sample_1 rfl (lv_at hl 1 rfl) ?_
  refine k_callq (wc := [(h0, .inr (3, [.ref xM, .ref xP, .ref xG, .ref xO, .int (nI (cnt)), .int (nI (te)), .int (nI (tr))])), (xM, .inl (cM, 20, .inr (.inr (.inr (.inr (mf))))))]) (wr := [(am, .inr (0, [.int (nI (it)), .ref ad, .ref af, .int (nI (dr))]))]) (W1 := fun _ => [(h0, .inr (3, [.ref xM, .ref xP, .ref xG, .ref xO, .int (nI (cnt)), .int (nI (te)), .int (nI (tr))])), (xM, .inl (cM, 20, .inr (.inr (.inr (.inr (mf)))))), (am, .inr (0, [.int (nI (it)), .ref ad, .ref af, .int (nI (dr))]))]) hP hD hS hA [0, 1] [2] [1, 2, 0] rfl rfl (by decide) (by decide) (fun _ => rfl) (by decide) (va_runV (As := [.int x]) (rest := []) ⟨hx, hb, hml, hown, hts⟩ (c_find l D cI cL cM s.heap.size h0 xM xP xG xO cnt te tr mf x) (cwV 1 hts gX3_sample_X3_find rfl rfl rfl (by decide +kernel) ⟨Nat.le_of_ble_eq_true rfl, Nat.le_of_ble_eq_true rfl⟩) (k_preV hP hD hK [0, 1] rfl (by decide) 0 rfl rfl rfl) rfl rfl hl.1 rfl (lv_room (Nat.le_of_ble_eq_true rfl)) dX3_sample_2 ⟨Nat.le_of_ble_eq_true rfl, Nat.le_of_ble_eq_true rfl⟩) (fun r_1 _ H locs hw hP hD hS => ?_)
  obtain rfl : r_1 = some am := hw.trans hsome
  refine W.eq (g2 := F0 m 5 ls [.ref am]) rfl ?_
  refine lv_astore_n (lv' := [(3, .ref am), (0, .ref h0), (1, .int x), (2, .int (nI (k9)))]) hx hb dX3_sample_5 rfl hl (by decide) rfl (fun ls hl => ?_)
  refine lv_aload_n hx hb dX3_sample_6 rfl (lv_at hl 0 rfl) ?_
  refine lv_ifnonnull (tgt := 13) hx hb dX3_sample_7 (by decide) ?_
  refine lv_iload_n hx hb dX3_sample_13 rfl (lv_at hl 3 rfl) ?_
  refine lv_iconst (v := nI (1)) hx hb dX3_sample_14 (by decide) ?_
  refine n_icmp_ge (tgt := 21) hx hb (by omega) (by omega) dX3_sample_15 (by decide) (fun c_3 => ?_) (fun c_3 => False.elim (by omega))
  refine lv_aload_n hx hb dX3_sample_21 rfl (lv_at hl 0 rfl) ?_
  refine k_calli (wc := [(am, .inr (0, [.int (nI (it)), .ref ad, .ref af, .int (nI (dr))]))]) (wr := [(h0, .inr (3, [.ref xM, .ref xP, .ref xG, .ref xO, .int (nI (cnt)), .int (nI (te)), .int (nI (tr))])), (xM, .inl (cM, 20, .inr (.inr (.inr (.inr (mf))))))]) (W1 := fun _ => [(h0, .inr (3, [.ref xM, .ref xP, .ref xG, .ref xO, .int (nI (cnt)), .int (nI (te)), .int (nI (tr))])), (xM, .inl (cM, 20, .inr (.inr (.inr (.inr (mf)))))), (am, .inr (0, [.int (nI (it)), .ref ad, .ref af, .int (nI (dr))]))]) hP hD hS hA [2] [0, 1] [0, 1, 2] rfl rfl (by decide) (by decide) (fun _ => rfl) (by decide) (va_runV (As := []) (rest := []) ⟨hx, hb, hml, hown, hts⟩ (c_samp l D cI cL cM H.size am ad af it dr (by omega)) (cwV 0 hts gX3_sample_X0_isSampled rfl rfl rfl (by decide +kernel) ⟨Nat.le_of_ble_eq_true rfl, Nat.le_of_ble_eq_true rfl⟩) (k_preV hP hD hK [2] rfl (by decide) 0 rfl rfl rfl) rfl rfl hl.1 rfl (lv_room (Nat.le_of_ble_eq_true rfl)) dX3_sample_22 ⟨Nat.le_of_ble_eq_true rfl, Nat.le_of_ble_eq_true rfl⟩) (fun r_4 _ H locs hw hP hD hS => ?_)
  obtain rfl : r_4 = nI (b2 (0 < dr)) := hw
  refine n_if_eq (tgt := 31) hx hb (Nat.lt_of_le_of_lt (b2_le _) (by omega)) dX3_sample_25 (by decide) (fun c_5 => ?_) (fun c_5 => ?_)
  · have hd0 : dr = 0 := by have := b2_0 c_5; omega
    refine lv_iload_n hx hb dX3_sample_31 rfl (lv_at hl 3 rfl) ?_
    refine lv_aload_n hx hb dX3_sample_32 rfl (lv_at hl 0 rfl) ?_
    refine va_get (D := D) (cl := vwCl) (ci := 0) (v := .int (nI (it))) (C := RX0) (T := TX0) (N := 4) hx hb hts in_X3_sample_X0 hown hK hP 2 rfl rfl 0 (by decide) (hts (.fieldLink RX3 50 "BulkSamples$Mailing" "items" "I") fl_X3_sample_50) (fun _ h9 => h9) rfl dX3_sample_33 ?_
    refine va_mmin hx hb (hml.trans hl.1.symm) hown (hts (.methodLink RX3 60 Lib.Math.min.name) (by decide +kernel)) (hts (.static Lib.Math.min.name) (by decide +kernel)) (hts (.initialized "java/lang/Math") (by decide +kernel)) (hts (.code Lib.Math.min.name Lib.Math.min.code 2 (some .int)) (by decide +kernel)) (Nat.le_of_ble_eq_true rfl) (Nat.le_of_ble_eq_true rfl) (by decide) (by decide) dX3_sample_36 ?_
    rw [show (if nI (it) < nI (k9) then nI (it) else nI (k9)) = nI (min k9 it) from minI (by omega) (by omega)]
    refine lv_istore (lv' := [(4, .int (nI (min k9 it))), (3, .ref am), (0, .ref h0), (1, .int x), (2, .int (nI (k9)))]) hx hb dX3_sample_39 hl (by decide) rfl (fun ls hl => ?_)
    refine lv_aload_n hx hb dX3_sample_41 rfl (lv_at hl 2 rfl) ?_
    refine va_get (D := D) (cl := vwCl) (ci := 3) (v := .int (nI (te))) (C := RX3) (T := TX3) (N := 7) hx hb hts in_X3_sample_X3 hown hK hP 0 rfl rfl 5 (by decide) (hts (.fieldLink RX3 57 "BulkSamples" "tapeLength" "I") fl_X3_sample_57) (fun _ h9 => h9) rfl dX3_sample_42 ?_
    refine lv_iload hx hb dX3_sample_45 (lv_at hl 0 rfl) ?_
    refine n_icmp_ge (tgt := 53) hx hb (by omega) (by omega) dX3_sample_47 (by decide) (fun c_6 => ?_) (fun c_6 => ?_)
    · have hT : saT it dr te k9 = min k9 it := by rw [saT, if_neg (by omega), if_neg (by omega)]
      refine lv_aload_n hx hb dX3_sample_53 rfl (lv_at hl 2 rfl) ?_
      refine lv_dup hx hb dX3_sample_54 rfl ?_
      refine va_get (D := D) (cl := vwCl) (ci := 3) (v := .int (nI (te))) (C := RX3) (T := TX3) (N := 7) hx hb hts in_X3_sample_X3 hown hK hP 0 rfl rfl 5 (by decide) (hts (.fieldLink RX3 57 "BulkSamples" "tapeLength" "I") fl_X3_sample_57) (fun _ h9 => h9) rfl dX3_sample_55 ?_
      refine lv_iload hx hb dX3_sample_58 (lv_at hl 0 rfl) ?_
      refine n_isub (r := te - (min k9 it)) hx hb dX3_sample_60 (by omega) rfl ?_
      refine va_put (D := D) (cl := vwCl) (ci := 3) (v := .int (nI (te - (min k9 it)))) (ty := tyX3 5) (C := RX3) (T := TX3) (N := 7) hx hb hts in_X3_sample_X3 tyX3 tyX3_ok nmX3 hown hK hP hD hS 0 rfl rfl 5 (by decide) (hts (.fieldLink RX3 57 "BulkSamples" "tapeLength" "I") fl_X3_sample_57) (fun _ h9 => h9) rfl (by decide +kernel) rfl rfl (Nat.le_of_ble_eq_true rfl) dX3_sample_61 (fun H locs hP hD hS => ?_)
      have hP : va_P D vwCl [(h0, .inr (3, [.ref xM, .ref xP, .ref xG, .ref xO, .int (nI (cnt)), .int (nI (te - (min k9 it))), .int (nI (tr))])), (xM, .inl (cM, 20, .inr (.inr (.inr (.inr (mf)))))), (am, .inr (0, [.int (nI (it)), .ref ad, .ref af, .int (nI (dr))]))] H := hP
      have hD : va_D A [(h0, .inr (3, [.ref xM, .ref xP, .ref xG, .ref xO, .int (nI (cnt)), .int (nI (te - (min k9 it))), .int (nI (tr))])), (xM, .inl (cM, 20, .inr (.inr (.inr (.inr (mf)))))), (am, .inr (0, [.int (nI (it)), .ref ad, .ref af, .int (nI (dr))]))] := hD
      refine lv_aload_n hx hb dX3_sample_64 rfl (lv_at hl 1 rfl) ?_
      refine lv_iload hx hb dX3_sample_65 (lv_at hl 0 rfl) ?_
      refine va_put (D := D) (cl := vwCl) (ci := 0) (v := .int (nI (min k9 it))) (ty := tyX0 3) (C := RX0) (T := TX0) (N := 4) hx hb hts in_X3_sample_X0 tyX0 tyX0_ok nmX0 hown hK hP hD hS 2 rfl rfl 3 (by decide) (hts (.fieldLink RX3 66 "BulkSamples$Mailing" "drawn" "I") fl_X3_sample_66) (fun _ h9 => h9) rfl (by decide +kernel) rfl rfl (Nat.le_of_ble_eq_true rfl) dX3_sample_67 (fun H locs hP hD hS => ?_)
      have hP : va_P D vwCl [(h0, .inr (3, [.ref xM, .ref xP, .ref xG, .ref xO, .int (nI (cnt)), .int (nI (te - (min k9 it))), .int (nI (tr))])), (xM, .inl (cM, 20, .inr (.inr (.inr (.inr (mf)))))), (am, .inr (0, [.int (nI (it)), .ref ad, .ref af, .int (nI (min k9 it))]))] H := hP
      have hD : va_D A [(h0, .inr (3, [.ref xM, .ref xP, .ref xG, .ref xO, .int (nI (cnt)), .int (nI (te - (min k9 it))), .int (nI (tr))])), (xM, .inl (cM, 20, .inr (.inr (.inr (.inr (mf)))))), (am, .inr (0, [.int (nI (it)), .ref ad, .ref af, .int (nI (min k9 it))]))] := hD
      refine lv_iload hx hb dX3_sample_70 (lv_at hl 0 rfl) ?_
      have e1 : (te - (min k9 it)) = te - saT it dr te k9 := by omega
      have e2 : (min k9 it) = dr + saT it dr te k9 := by omega
      have hP : va_P D vwCl [(h0, .inr (3, [.ref xM, .ref xP, .ref xG, .ref xO, .int (nI (cnt)), .int (nI (te - saT it dr te k9)), .int (nI (tr))])), (xM, .inl (cM, 20, .inr (.inr (.inr (.inr (mf)))))), (am, .inr (0, [.int (nI (it)), .ref ad, .ref af, .int (nI (dr + saT it dr te k9))]))] H := by rw [← e1, ← e2]; exact hP
      have hD : va_D A [(h0, .inr (3, [.ref xM, .ref xP, .ref xG, .ref xO, .int (nI (cnt)), .int (nI (te - saT it dr te k9)), .int (nI (tr))])), (xM, .inl (cM, 20, .inr (.inr (.inr (.inr (mf)))))), (am, .inr (0, [.int (nI (it)), .ref ad, .ref af, .int (nI (dr + saT it dr te k9))]))] := D_pick hD [0, 1, 2] (by decide) rfl
      refine W.widen (k := 0) (n := 0) (Nat.le_of_ble_eq_true rfl) (Nat.le_of_ble_eq_true rfl) ?_
      exact k_iret (v := nI (min k9 it)) hx hb hr hlocks hP hD hK hS [0, 1, 2] () rfl (by decide) (by rw [saR, if_neg (by omega), if_neg (by omega)]) dX3_sample_72
    · have hT : saT it dr te k9 = 0 := by rw [saT, if_neg (by omega), if_pos (by omega)]
      refine lv_bipush (v := (-14)) hx hb dX3_sample_50 (by decide) ?_
      have e1 : (te) = te - saT it dr te k9 := by omega
      have e2 : (dr) = dr + saT it dr te k9 := by omega
      have hP : va_P D vwCl [(h0, .inr (3, [.ref xM, .ref xP, .ref xG, .ref xO, .int (nI (cnt)), .int (nI (te - saT it dr te k9)), .int (nI (tr))])), (xM, .inl (cM, 20, .inr (.inr (.inr (.inr (mf)))))), (am, .inr (0, [.int (nI (it)), .ref ad, .ref af, .int (nI (dr + saT it dr te k9))]))] H := by rw [← e1, ← e2]; exact hP
      have hD : va_D A [(h0, .inr (3, [.ref xM, .ref xP, .ref xG, .ref xO, .int (nI (cnt)), .int (nI (te - saT it dr te k9)), .int (nI (tr))])), (xM, .inl (cM, 20, .inr (.inr (.inr (.inr (mf)))))), (am, .inr (0, [.int (nI (it)), .ref ad, .ref af, .int (nI (dr + saT it dr te k9))]))] := D_pick hD [0, 1, 2] (by decide) rfl
      refine W.widen (k := 0) (n := 0) (Nat.le_of_ble_eq_true rfl) (Nat.le_of_ble_eq_true rfl) ?_
      exact k_iret (v := (-14)) hx hb hr hlocks hP hD hK hS [0, 1, 2] () rfl (by decide) (by rw [saR, if_neg (by omega), if_pos (by omega)]) dX3_sample_52
  · have hd0 := b2_pos c_5
    have hT : saT it dr te k9 = 0 := by rw [saT, if_pos hd0]
    refine lv_bipush (v := (-13)) hx hb dX3_sample_28 (by decide) ?_
    have e1 : (te) = te - saT it dr te k9 := by omega
    have e2 : (dr) = dr + saT it dr te k9 := by omega
    have hP : va_P D vwCl [(h0, .inr (3, [.ref xM, .ref xP, .ref xG, .ref xO, .int (nI (cnt)), .int (nI (te - saT it dr te k9)), .int (nI (tr))])), (xM, .inl (cM, 20, .inr (.inr (.inr (.inr (mf)))))), (am, .inr (0, [.int (nI (it)), .ref ad, .ref af, .int (nI (dr + saT it dr te k9))]))] H := by rw [← e1, ← e2]; exact hP
    have hD : va_D A [(h0, .inr (3, [.ref xM, .ref xP, .ref xG, .ref xO, .int (nI (cnt)), .int (nI (te - saT it dr te k9)), .int (nI (tr))])), (xM, .inl (cM, 20, .inr (.inr (.inr (.inr (mf)))))), (am, .inr (0, [.int (nI (it)), .ref ad, .ref af, .int (nI (dr + saT it dr te k9))]))] := D_pick hD [0, 1, 2] (by decide) rfl
    refine W.widen (k := 0) (n := 0) (Nat.le_of_ble_eq_true rfl) (Nat.le_of_ble_eq_true rfl) ?_
    exact k_iret (v := (-13)) hx hb hr hlocks hP hD hK hS [0, 1, 2] () rfl (by decide) (by rw [saR, if_pos hd0]) dX3_sample_30
theorem in_X3_bound_X3 : ∀ w ∈ wsX30, w ∈ wsX3_bound := by decide +kernel
theorem fl_X3_bound_29 : Cond.fieldLink RX3 29 "BulkSamples" "trust" "I" ∈ wsX3_bound := by decide +kernel
set_option maxHeartbeats 4000000 in
set_option maxRecDepth 100000 in
/-- bound: no -/
theorem c_b_no (l : Launch) (D : va_G) (cI cL cM : ClassId) (sz : Nat) (h0 xM xP xG xO cnt te tr : Nat) (x : Int32) (hbad : x < nI 500 ∨ nI 999 < x) : Met l yX3_bound wsX3_bound ({ frames := 0, cells := 0, slots := 0, locals := 0 } : Room) (va_Pc [.ref h0, .int x] (PreB D (gT cI cL cM) sz [(h0, .inr (3, [.ref xM, .ref xP, .ref xG, .ref xO, .int (nI (cnt)), .int (nI (te)), .int (nI (tr))]))])) (va_Qi (fun r _ => r = nI 0) (fun (_ : Unit) => PostB D (gT cI cL cM) (va_A [(h0, .inr (3, [.ref xM, .ref xP, .ref xG, .ref xO, .int (nI (cnt)), .int (nI (te)), .int (nI (tr))]))] sz) [(h0, .inr (3, [.ref xM, .ref xP, .ref xG, .ref xO, .int (nI (cnt)), .int (nI (te)), .int (nI (tr))]))]) (va_A [(h0, .inr (3, [.ref xM, .ref xP, .ref xG, .ref xO, .int (nI (cnt)), .int (nI (te)), .int (nI (tr))]))] sz)) 0 0 (va_A [(h0, .inr (3, [.ref xM, .ref xP, .ref xG, .ref xO, .int (nI (cnt)), .int (nI (te)), .int (nI (tr))]))] sz) := by
  refine k_start (fun A => (va_Qi (fun r _ => r = nI 0) (fun (_ : Unit) => PostB D (gT cI cL cM) A [(h0, .inr (3, [.ref xM, .ref xP, .ref xG, .ref xO, .int (nI (cnt)), .int (nI (te)), .int (nI (tr))]))]) A)) (cc := cX3_bound) (maxL := 2) (ret := (some .boolean)) (by decide) rfl (Nat.le_of_ble_eq_true rfl) ?_
  intro p e s m below meth c A ls hx hb hr hts hown hlocks hin hml hP hK hD hA hS hl
  have hl : lv_has ls 2 [(0, .ref h0), (1, .int x)] := hl
  have hown : s.vm.findClass RX3 = some m.cls := hown
  refine lv_iload_n hx hb dX3_bound_0 rfl (lv_at hl 1 rfl) ?_
  refine lv_sipush (v := nI (500)) hx hb dX3_bound_1 (by decide) ?_
  refine lv_icmp_lt (tgt := 14) hx hb dX3_bound_4 (by decide) (fun c_1 => ?_) (fun c_1 => ?_)
  · refine lv_iconst (v := nI (0)) hx hb dX3_bound_14 (by decide) ?_
    exact k_zret (v := nI (0)) hx hb hr rfl hlocks hP hD hK hS [0] () rfl (by decide) rfl dX3_bound_15
  · have h9 : nI 999 < x := hbad.resolve_left c_1
    refine lv_iload_n hx hb dX3_bound_7 rfl (lv_at hl 1 rfl) ?_
    refine lv_sipush (v := nI (999)) hx hb dX3_bound_8 (by decide) ?_
    refine lv_icmp_le (tgt := 16) hx hb dX3_bound_11 (by decide) (fun c => absurd h9 (Int32.not_lt.mpr c)) (fun c_2 => ?_)
    refine lv_iconst (v := nI (0)) hx hb dX3_bound_14 (by decide) ?_
    exact k_zret (v := nI (0)) hx hb hr rfl hlocks hP hD hK hS [0] () rfl (by decide) rfl dX3_bound_15
set_option maxHeartbeats 4000000 in
set_option maxRecDepth 100000 in
/-- bound -/
theorem c_b_ok (l : Launch) (D : va_G) (cI cL cM : ClassId) (sz : Nat) (h0 xM xP xG xO cnt te tr : Nat) (k : Nat) (h5 : 500 ≤ k) (h9 : k ≤ 999) : Met l yX3_bound wsX3_bound ({ frames := 0, cells := 0, slots := 0, locals := 0 } : Room) (va_Pc [.ref h0, .int (nI (k))] (PreB D (gT cI cL cM) sz [(h0, .inr (3, [.ref xM, .ref xP, .ref xG, .ref xO, .int (nI (cnt)), .int (nI (te)), .int (nI (tr))]))])) (va_Qi (fun r _ => r = nI 1) (fun (_ : Unit) => PostB D (gT cI cL cM) (va_A [(h0, .inr (3, [.ref xM, .ref xP, .ref xG, .ref xO, .int (nI (cnt)), .int (nI (te)), .int (nI (tr))]))] sz) [(h0, .inr (3, [.ref xM, .ref xP, .ref xG, .ref xO, .int (nI (cnt)), .int (nI (te)), .int (nI (k))]))]) (va_A [(h0, .inr (3, [.ref xM, .ref xP, .ref xG, .ref xO, .int (nI (cnt)), .int (nI (te)), .int (nI (tr))]))] sz)) 0 0 (va_A [(h0, .inr (3, [.ref xM, .ref xP, .ref xG, .ref xO, .int (nI (cnt)), .int (nI (te)), .int (nI (tr))]))] sz) := by
  refine k_start (fun A => (va_Qi (fun r _ => r = nI 1) (fun (_ : Unit) => PostB D (gT cI cL cM) A [(h0, .inr (3, [.ref xM, .ref xP, .ref xG, .ref xO, .int (nI (cnt)), .int (nI (te)), .int (nI (k))]))]) A)) (cc := cX3_bound) (maxL := 2) (ret := (some .boolean)) (by decide) rfl (Nat.le_of_ble_eq_true rfl) ?_
  intro p e s m below meth c A ls hx hb hr hts hown hlocks hin hml hP hK hD hA hS hl
  have hl : lv_has ls 2 [(0, .ref h0), (1, .int (nI (k)))] := hl
  have hown : s.vm.findClass RX3 = some m.cls := hown
  refine lv_iload_n hx hb dX3_bound_0 rfl (lv_at hl 1 rfl) ?_
  refine lv_sipush (v := nI (500)) hx hb dX3_bound_1 (by decide) ?_
  refine n_icmp_lt (tgt := 14) hx hb (by omega) (by omega) dX3_bound_4 (by decide) (fun c_1 => False.elim (by omega)) (fun c_1 => ?_)
  refine lv_iload_n hx hb dX3_bound_7 rfl (lv_at hl 1 rfl) ?_
  refine lv_sipush (v := nI (999)) hx hb dX3_bound_8 (by decide) ?_
  refine n_icmp_le (tgt := 16) hx hb (by omega) (by omega) dX3_bound_11 (by decide) (fun c_2 => ?_) (fun c_2 => False.elim (by omega))
  refine lv_aload_n hx hb dX3_bound_16 rfl (lv_at hl 0 rfl) ?_
  refine lv_iload_n hx hb dX3_bound_17 rfl (lv_at hl 1 rfl) ?_
  refine va_put (D := D) (cl := vwCl) (ci := 3) (v := .int (nI (k))) (ty := tyX3 6) (C := RX3) (T := TX3) (N := 7) hx hb hts in_X3_bound_X3 tyX3 tyX3_ok nmX3 hown hK hP hD hS 0 rfl rfl 6 (by decide) (hts (.fieldLink RX3 29 "BulkSamples" "trust" "I") fl_X3_bound_29) (fun _ h9 => h9) rfl (by decide +kernel) rfl rfl (Nat.le_of_ble_eq_true rfl) dX3_bound_18 (fun H locs hP hD hS => ?_)
  have hP : va_P D vwCl [(h0, .inr (3, [.ref xM, .ref xP, .ref xG, .ref xO, .int (nI (cnt)), .int (nI (te)), .int (nI (k))]))] H := hP
  have hD : va_D A [(h0, .inr (3, [.ref xM, .ref xP, .ref xG, .ref xO, .int (nI (cnt)), .int (nI (te)), .int (nI (k))]))] := hD
  refine lv_iconst (v := nI (1)) hx hb dX3_bound_21 (by decide) ?_
  exact k_zret (v := nI (1)) hx hb hr rfl hlocks hP hD hK hS [0] () rfl (by decide) rfl dX3_bound_22
theorem in_X3_plan_X3 : ∀ w ∈ wsX30, w ∈ wsX3_plan := by decide +kernel
theorem fl_X3_plan_15 : Cond.fieldLink RX3 15 "BulkSamples" "plans" "[I" ∈ wsX3_plan := by decide +kernel
theorem fl_X3_plan_19 : Cond.fieldLink RX3 19 "BulkSamples" "goodRows" "[I" ∈ wsX3_plan := by decide +kernel
set_option maxHeartbeats 4000000 in
set_option maxRecDepth 100000 in
/-- plan: OUTSIDE -/
theorem c_p_bad (l : Launch) (D : va_G) (cI cL cM : ClassId) (sz : Nat) (h0 xM xP xG xO cnt te tr : Nat) (c9 g9 : Int32) (hbad : c9 < 0 ∨ nI 50 ≤ c9 ∨ g9 < 0 ∨ nI 2 < g9) : Met l yX3_plan wsX3_plan ({ frames := 1, cells := 0, slots := 0, locals := 20 } : Room) (va_Pc [.ref h0, .int c9, .int g9] (PreB D (gT cI cL cM) sz [(h0, .inr (3, [.ref xM, .ref xP, .ref xG, .ref xO, .int (nI (cnt)), .int (nI (te)), .int (nI (tr))]))])) (va_Qi (fun r _ => r = -12) (fun (_ : Unit) => PostB D (gT cI cL cM) (va_A [(h0, .inr (3, [.ref xM, .ref xP, .ref xG, .ref xO, .int (nI (cnt)), .int (nI (te)), .int (nI (tr))]))] sz) [(h0, .inr (3, [.ref xM, .ref xP, .ref xG, .ref xO, .int (nI (cnt)), .int (nI (te)), .int (nI (tr))]))]) (va_A [(h0, .inr (3, [.ref xM, .ref xP, .ref xG, .ref xO, .int (nI (cnt)), .int (nI (te)), .int (nI (tr))]))] sz)) 0 0 (va_A [(h0, .inr (3, [.ref xM, .ref xP, .ref xG, .ref xO, .int (nI (cnt)), .int (nI (te)), .int (nI (tr))]))] sz) := by
  refine k_start (fun A => (va_Qi (fun r _ => r = -12) (fun (_ : Unit) => PostB D (gT cI cL cM) A [(h0, .inr (3, [.ref xM, .ref xP, .ref xG, .ref xO, .int (nI (cnt)), .int (nI (te)), .int (nI (tr))]))]) A)) (cc := cX3_plan) (maxL := 3) (ret := (some .int)) (by decide) rfl (Nat.le_of_ble_eq_true rfl) ?_
  intro p e s m below meth c A ls hx hb hr hts hown hlocks hin hml hP hK hD hA hS hl
  have hl : lv_has ls 3 [(0, .ref h0), (1, .int c9), (2, .int g9)] := hl
  have hown : s.vm.findClass RX3 = some m.cls := hown
  refine lv_iload_n hx hb dX3_plan_0 rfl (lv_at hl 1 rfl) ?_
  refine lv_if_lt (tgt := 19) hx hb dX3_plan_1 (by decide) (fun c_1 => ?_) (fun c_1 => ?_)
  · refine lv_bipush (v := (-12)) hx hb dX3_plan_19 (by decide) ?_
    exact k_iret (v := (-12)) hx hb hr hlocks hP hD hK hS [0] () rfl (by decide) rfl dX3_plan_21
  · refine lv_iload_n hx hb dX3_plan_4 rfl (lv_at hl 1 rfl) ?_
    refine lv_bipush (v := nI (50)) hx hb dX3_plan_5 (by decide) ?_
    refine lv_icmp_ge (tgt := 19) hx hb dX3_plan_7 (by decide) (fun c_2 => ?_) (fun c_2 => ?_)
    · refine lv_bipush (v := (-12)) hx hb dX3_plan_19 (by decide) ?_
      exact k_iret (v := (-12)) hx hb hr hlocks hP hD hK hS [0] () rfl (by decide) rfl dX3_plan_21
    · refine lv_iload_n hx hb dX3_plan_10 rfl (lv_at hl 2 rfl) ?_
      refine lv_if_lt (tgt := 19) hx hb dX3_plan_11 (by decide) (fun c_3 => ?_) (fun c_3 => ?_)
      · refine lv_bipush (v := (-12)) hx hb dX3_plan_19 (by decide) ?_
        exact k_iret (v := (-12)) hx hb hr hlocks hP hD hK hS [0] () rfl (by decide) rfl dX3_plan_21
      · have h0 : nI 2 < g9 := ((hbad.resolve_left c_1).resolve_left c_2).resolve_left c_3
        refine lv_iload_n hx hb dX3_plan_14 rfl (lv_at hl 2 rfl) ?_
        refine lv_iconst (v := nI (2)) hx hb dX3_plan_15 (by decide) ?_
        refine lv_icmp_le (tgt := 22) hx hb dX3_plan_16 (by decide) (fun c => absurd h0 (Int32.not_lt.mpr c)) (fun c_4 => ?_)
        refine lv_bipush (v := (-12)) hx hb dX3_plan_19 (by decide) ?_
        exact k_iret (v := (-12)) hx hb hr hlocks hP hD hK hS [0] () rfl (by decide) rfl dX3_plan_21
theorem max5 {a : Nat} (ha : a < 2 ^ 20) : (if nI a - nI 5 < nI 5 then nI 5 else nI a - nI 5) = nI (max (a - 5) 5) := by
  have e := pk_sub_toInt (a := a) (b := 5) (by omega) (by omega)
  have e5 : (nI 5).toInt = 5 := nI_toInt (by omega)
  by_cases h : a < 10
  · rw [if_pos (Int32.lt_iff_toInt_lt.mpr (by rw [e, e5]; omega)), Nat.max_eq_right (by omega)]
  · rw [if_neg (fun q => by have q2 := Int32.lt_iff_toInt_lt.mp q; rw [e, e5] at q2; omega), Nat.max_eq_left (by omega), pk_sub (by omega)]
set_option maxHeartbeats 4000000 in
set_option maxRecDepth 100000 in
/-- plan -/
theorem c_p_in (l : Launch) (D : va_G) (cI cL cM : ClassId) (sz : Nat) (h0 xM xP xG xO cnt te tr : Nat) (pl go : Nat → Nat) (j9 g : Nat) (hj9 : j9 < 50) (hg : g ≤ 2) (hpl : ∀ j, j < 50 → pl j ≤ 60) (hgo : ∀ j, j < 50 → go j ≤ 2) : Met l yX3_plan wsX3_plan ({ frames := 1, cells := 0, slots := 0, locals := 20 } : Room) (va_Pc [.ref h0, .int (nI (j9)), .int (nI (g))] (PreB D (gT cI cL cM) sz [(h0, .inr (3, [.ref xM, .ref xP, .ref xG, .ref xO, .int (nI (cnt)), .int (nI (te)), .int (nI (tr))])), (xP, .inl (cI, 50, .inl (fun j => nI (pl j)))), (xG, .inl (cI, 50, .inl (fun j => nI (go j))))])) (va_Qi (fun r _ => r = nI (plP (pl j9) (go j9) g)) (fun (_ : Unit) => PostB D (gT cI cL cM) (va_A [(h0, .inr (3, [.ref xM, .ref xP, .ref xG, .ref xO, .int (nI (cnt)), .int (nI (te)), .int (nI (tr))])), (xP, .inl (cI, 50, .inl (fun j => nI (pl j)))), (xG, .inl (cI, 50, .inl (fun j => nI (go j))))] sz) [(h0, .inr (3, [.ref xM, .ref xP, .ref xG, .ref xO, .int (nI (cnt)), .int (nI (te)), .int (nI (tr))])), (xP, .inl (cI, 50, .inl (fun j => nI (if j = j9 then plP (pl j9) (go j9) g else pl j)))), (xG, .inl (cI, 50, .inl (fun j => nI (if j = j9 then plG (go j9) g else go j))))]) (va_A [(h0, .inr (3, [.ref xM, .ref xP, .ref xG, .ref xO, .int (nI (cnt)), .int (nI (te)), .int (nI (tr))])), (xP, .inl (cI, 50, .inl (fun j => nI (pl j)))), (xG, .inl (cI, 50, .inl (fun j => nI (go j))))] sz)) 0 0 (va_A [(h0, .inr (3, [.ref xM, .ref xP, .ref xG, .ref xO, .int (nI (cnt)), .int (nI (te)), .int (nI (tr))])), (xP, .inl (cI, 50, .inl (fun j => nI (pl j)))), (xG, .inl (cI, 50, .inl (fun j => nI (go j))))] sz) := by
  refine k_start (fun A => (va_Qi (fun r _ => r = nI (plP (pl j9) (go j9) g)) (fun (_ : Unit) => PostB D (gT cI cL cM) A [(h0, .inr (3, [.ref xM, .ref xP, .ref xG, .ref xO, .int (nI (cnt)), .int (nI (te)), .int (nI (tr))])), (xP, .inl (cI, 50, .inl (fun j => nI (if j = j9 then plP (pl j9) (go j9) g else pl j)))), (xG, .inl (cI, 50, .inl (fun j => nI (if j = j9 then plG (go j9) g else go j))))]) A)) (cc := cX3_plan) (maxL := 3) (ret := (some .int)) (by decide) rfl (Nat.le_of_ble_eq_true rfl) ?_
  intro p e s m below meth c A ls hx hb hr hts hown hlocks hin hml hP hK hD hA hS hl
  have hl : lv_has ls 3 [(0, .ref h0), (1, .int (nI (j9))), (2, .int (nI (g)))] := hl
  have hown : s.vm.findClass RX3 = some m.cls := hown
  have hpj := hpl j9 hj9
  have hgj := hgo j9 hj9
  refine lv_iload_n hx hb dX3_plan_0 rfl (lv_at hl 1 rfl) ?_
  refine n_if_lt (tgt := 19) hx hb (by omega) dX3_plan_1 (by decide) ?_
  refine lv_iload_n hx hb dX3_plan_4 rfl (lv_at hl 1 rfl) ?_
  refine lv_bipush (v := nI (50)) hx hb dX3_plan_5 (by decide) ?_
  refine n_icmp_ge (tgt := 19) hx hb (by omega) (by omega) dX3_plan_7 (by decide) (fun c_2 => False.elim (by omega)) (fun c_2 => ?_)
  refine lv_iload_n hx hb dX3_plan_10 rfl (lv_at hl 2 rfl) ?_
  refine n_if_lt (tgt := 19) hx hb (by omega) dX3_plan_11 (by decide) ?_
  refine lv_iload_n hx hb dX3_plan_14 rfl (lv_at hl 2 rfl) ?_
  refine lv_iconst (v := nI (2)) hx hb dX3_plan_15 (by decide) ?_
  refine n_icmp_le (tgt := 22) hx hb (by omega) (by omega) dX3_plan_16 (by decide) (fun c_4 => ?_) (fun c_4 => False.elim (by omega))
  refine lv_iload_n hx hb dX3_plan_22 rfl (lv_at hl 2 rfl) ?_
  refine n_if_ne (tgt := 53) hx hb (by omega) dX3_plan_23 (by decide) (fun c_5 => ?_) (fun c_5 => ?_)
  · refine lv_iload_n hx hb dX3_plan_53 rfl (lv_at hl 2 rfl) ?_
    refine lv_iconst (v := nI (1)) hx hb dX3_plan_54 (by decide) ?_
    refine n_icmp_ne (tgt := 68) hx hb (by omega) (by omega) dX3_plan_55 (by decide) (fun c_6 => ?_) (fun c_6 => ?_)
    · obtain rfl : 2 = g := by omega
      refine lv_aload_n hx hb dX3_plan_68 rfl (lv_at hl 0 rfl) ?_
      refine va_get (D := D) (cl := vwCl) (ci := 3) (v := .ref xG) (C := RX3) (T := TX3) (N := 7) hx hb hts in_X3_plan_X3 hown hK hP 0 rfl rfl 2 (by decide) (hts (.fieldLink RX3 19 "BulkSamples" "goodRows" "[I") fl_X3_plan_19) (fun _ h9 => h9) rfl dX3_plan_69 ?_
      refine lv_iload_n hx hb dX3_plan_72 rfl (lv_at hl 1 rfl) ?_
      refine n_iald (x := nI (go j9)) hx hb hK hP 2 0 rfl rfl (by omega) (by omega) rfl dX3_plan_73 ?_
      refine lv_iconst (v := nI (3)) hx hb dX3_plan_74 (by decide) ?_
      refine n_icmp_ne (tgt := 103) hx hb (by omega) (by omega) dX3_plan_75 (by decide) (fun c_7 => ?_) (fun c_7 => False.elim (by omega))
      refine lv_aload_n hx hb dX3_plan_103 rfl (lv_at hl 0 rfl) ?_
      refine va_get (D := D) (cl := vwCl) (ci := 3) (v := .ref xP) (C := RX3) (T := TX3) (N := 7) hx hb hts in_X3_plan_X3 hown hK hP 0 rfl rfl 1 (by decide) (hts (.fieldLink RX3 15 "BulkSamples" "plans" "[I") fl_X3_plan_15) (fun _ h9 => h9) rfl dX3_plan_104 ?_
      refine lv_iload_n hx hb dX3_plan_107 rfl (lv_at hl 1 rfl) ?_
      refine n_iald (x := nI (pl j9)) hx hb hK hP 1 0 rfl rfl (by omega) (by omega) rfl dX3_plan_108 ?_
      have eg : plG (go j9) 2 = go j9 := rfl
      have ep : plP (pl j9) (go j9) 2 = pl j9 := rfl
      have hP : va_P D vwCl [(h0, .inr (3, [.ref xM, .ref xP, .ref xG, .ref xO, .int (nI (cnt)), .int (nI (te)), .int (nI (tr))])), (xP, .inl (cI, 50, .inl (fun j => nI (pl j)))), (xG, .inl (cI, 50, .inl (fun j => nI (if j = j9 then plG (go j9) 2 else go j))))] s.heap := P_altI _ hP 2 rfl rfl (fun j _ => by rw [eg]; try (by_cases h : j = j9 <;> simp [h]))
      have hD : va_D A [(h0, .inr (3, [.ref xM, .ref xP, .ref xG, .ref xO, .int (nI (cnt)), .int (nI (te)), .int (nI (tr))])), (xP, .inl (cI, 50, .inl (fun j => nI (pl j)))), (xG, .inl (cI, 50, .inl (fun j => nI (if j = j9 then plG (go j9) 2 else go j))))] := D_alt hD (q0 := 2) rfl rfl
      have hP : va_P D vwCl [(h0, .inr (3, [.ref xM, .ref xP, .ref xG, .ref xO, .int (nI (cnt)), .int (nI (te)), .int (nI (tr))])), (xP, .inl (cI, 50, .inl (fun j => nI (if j = j9 then plP (pl j9) (go j9) 2 else pl j)))), (xG, .inl (cI, 50, .inl (fun j => nI (if j = j9 then plG (go j9) 2 else go j))))] s.heap := P_altI _ hP 1 rfl rfl (fun j _ => by rw [ep]; try (by_cases h : j = j9 <;> simp [h]))
      have hD : va_D A [(h0, .inr (3, [.ref xM, .ref xP, .ref xG, .ref xO, .int (nI (cnt)), .int (nI (te)), .int (nI (tr))])), (xP, .inl (cI, 50, .inl (fun j => nI (if j = j9 then plP (pl j9) (go j9) 2 else pl j)))), (xG, .inl (cI, 50, .inl (fun j => nI (if j = j9 then plG (go j9) 2 else go j))))] := D_alt hD (q0 := 1) rfl rfl
      exact k_iret (v := nI (pl j9)) hx hb hr hlocks hP hD hK hS [0, 1, 2] () rfl (by decide) (by rw [ep]) dX3_plan_109
    · obtain rfl : 1 = g := by omega
      refine lv_aload_n hx hb dX3_plan_58 rfl (lv_at hl 0 rfl) ?_
      refine va_get (D := D) (cl := vwCl) (ci := 3) (v := .ref xG) (C := RX3) (T := TX3) (N := 7) hx hb hts in_X3_plan_X3 hown hK hP 0 rfl rfl 2 (by decide) (hts (.fieldLink RX3 19 "BulkSamples" "goodRows" "[I") fl_X3_plan_19) (fun _ h9 => h9) rfl dX3_plan_59 ?_
      refine lv_iload_n hx hb dX3_plan_62 rfl (lv_at hl 1 rfl) ?_
      refine lv_dup2_11 hx hb dX3_plan_63 rfl rfl ?_
      refine n_iald (x := nI (go j9)) hx hb hK hP 2 0 rfl rfl (by omega) (by omega) rfl dX3_plan_64 ?_
      refine lv_iconst (v := nI (1)) hx hb dX3_plan_65 (by decide) ?_
      refine n_iadd (r := (go j9) + 1) hx hb dX3_plan_66 rfl ?_
      refine n_iast (f' := fun j => nI (if j = j9 then (go j9) + 1 else go j)) (ws' := [(h0, .inr (3, [.ref xM, .ref xP, .ref xG, .ref xO, .int (nI (cnt)), .int (nI (te)), .int (nI (tr))])), (xP, .inl (cI, 50, .inl (fun j => nI (pl j)))), (xG, .inl (cI, 50, .inl (fun j => nI (if j = j9 then (go j9) + 1 else go j))))]) hx hb hK hP hD hS 2 0 rfl rfl (by omega) (by omega) (fun j _ => by split <;> rfl) rfl dX3_plan_67 (fun H locs hP hD hS => ?_)
      refine lv_aload_n hx hb dX3_plan_68 rfl (lv_at hl 0 rfl) ?_
      refine va_get (D := D) (cl := vwCl) (ci := 3) (v := .ref xG) (C := RX3) (T := TX3) (N := 7) hx hb hts in_X3_plan_X3 hown hK hP 0 rfl rfl 2 (by decide) (hts (.fieldLink RX3 19 "BulkSamples" "goodRows" "[I") fl_X3_plan_19) (fun _ h9 => h9) rfl dX3_plan_69 ?_
      refine lv_iload_n hx hb dX3_plan_72 rfl (lv_at hl 1 rfl) ?_
      refine n_iald (x := nI (go j9 + 1)) hx hb hK hP 2 0 rfl rfl (by omega) (by omega) (by simp) dX3_plan_73 ?_
      refine lv_iconst (v := nI (3)) hx hb dX3_plan_74 (by decide) ?_
      refine n_icmp_ne (tgt := 103) hx hb (by omega) (by omega) dX3_plan_75 (by decide) (fun c_8 => ?_) (fun c_8 => ?_)
      · refine lv_aload_n hx hb dX3_plan_103 rfl (lv_at hl 0 rfl) ?_
        refine va_get (D := D) (cl := vwCl) (ci := 3) (v := .ref xP) (C := RX3) (T := TX3) (N := 7) hx hb hts in_X3_plan_X3 hown hK hP 0 rfl rfl 1 (by decide) (hts (.fieldLink RX3 15 "BulkSamples" "plans" "[I") fl_X3_plan_15) (fun _ h9 => h9) rfl dX3_plan_104 ?_
        refine lv_iload_n hx hb dX3_plan_107 rfl (lv_at hl 1 rfl) ?_
        refine n_iald (x := nI (pl j9)) hx hb hK hP 1 0 rfl rfl (by omega) (by omega) rfl dX3_plan_108 ?_
        have eg : plG (go j9) 1 = go j9 + 1 := by rw [plG, if_neg (by omega), if_pos rfl, if_neg (by omega)]
        have ep : plP (pl j9) (go j9) 1 = pl j9 := by rw [plP, if_neg (by omega), if_pos rfl, if_neg (by omega)]
        have hP : va_P D vwCl [(h0, .inr (3, [.ref xM, .ref xP, .ref xG, .ref xO, .int (nI (cnt)), .int (nI (te)), .int (nI (tr))])), (xP, .inl (cI, 50, .inl (fun j => nI (pl j)))), (xG, .inl (cI, 50, .inl (fun j => nI (if j = j9 then plG (go j9) 1 else go j))))] H := P_altI _ hP 2 rfl rfl (fun j _ => by rw [eg]; try (by_cases h : j = j9 <;> simp [h]))
        have hD : va_D A [(h0, .inr (3, [.ref xM, .ref xP, .ref xG, .ref xO, .int (nI (cnt)), .int (nI (te)), .int (nI (tr))])), (xP, .inl (cI, 50, .inl (fun j => nI (pl j)))), (xG, .inl (cI, 50, .inl (fun j => nI (if j = j9 then plG (go j9) 1 else go j))))] := D_alt hD (q0 := 2) rfl rfl
        have hP : va_P D vwCl [(h0, .inr (3, [.ref xM, .ref xP, .ref xG, .ref xO, .int (nI (cnt)), .int (nI (te)), .int (nI (tr))])), (xP, .inl (cI, 50, .inl (fun j => nI (if j = j9 then plP (pl j9) (go j9) 1 else pl j)))), (xG, .inl (cI, 50, .inl (fun j => nI (if j = j9 then plG (go j9) 1 else go j))))] H := P_altI _ hP 1 rfl rfl (fun j _ => by rw [ep]; try (by_cases h : j = j9 <;> simp [h]))
        have hD : va_D A [(h0, .inr (3, [.ref xM, .ref xP, .ref xG, .ref xO, .int (nI (cnt)), .int (nI (te)), .int (nI (tr))])), (xP, .inl (cI, 50, .inl (fun j => nI (if j = j9 then plP (pl j9) (go j9) 1 else pl j)))), (xG, .inl (cI, 50, .inl (fun j => nI (if j = j9 then plG (go j9) 1 else go j))))] := D_alt hD (q0 := 1) rfl rfl
        exact k_iret (v := nI (pl j9)) hx hb hr hlocks hP hD hK hS [0, 1, 2] () rfl (by decide) (by rw [ep]) dX3_plan_109
      · refine lv_aload_n hx hb dX3_plan_78 rfl (lv_at hl 0 rfl) ?_
        refine va_get (D := D) (cl := vwCl) (ci := 3) (v := .ref xG) (C := RX3) (T := TX3) (N := 7) hx hb hts in_X3_plan_X3 hown hK hP 0 rfl rfl 2 (by decide) (hts (.fieldLink RX3 19 "BulkSamples" "goodRows" "[I") fl_X3_plan_19) (fun _ h9 => h9) rfl dX3_plan_79 ?_
        refine lv_iload_n hx hb dX3_plan_82 rfl (lv_at hl 1 rfl) ?_
        refine lv_iconst (v := nI (0)) hx hb dX3_plan_83 (by decide) ?_
        refine n_iast (f' := fun j => nI (if j = j9 then 0 else if j = j9 then (go j9) + 1 else go j)) (ws' := [(h0, .inr (3, [.ref xM, .ref xP, .ref xG, .ref xO, .int (nI (cnt)), .int (nI (te)), .int (nI (tr))])), (xP, .inl (cI, 50, .inl (fun j => nI (pl j)))), (xG, .inl (cI, 50, .inl (fun j => nI (if j = j9 then 0 else if j = j9 then (go j9) + 1 else go j))))]) hx hb hK hP hD hS 2 0 rfl rfl (by omega) (by omega) (fun j _ => by split <;> rfl) rfl dX3_plan_84 (fun H locs hP hD hS => ?_)
        refine lv_aload_n hx hb dX3_plan_85 rfl (lv_at hl 0 rfl) ?_
        refine va_get (D := D) (cl := vwCl) (ci := 3) (v := .ref xP) (C := RX3) (T := TX3) (N := 7) hx hb hts in_X3_plan_X3 hown hK hP 0 rfl rfl 1 (by decide) (hts (.fieldLink RX3 15 "BulkSamples" "plans" "[I") fl_X3_plan_15) (fun _ h9 => h9) rfl dX3_plan_86 ?_
        refine lv_iload_n hx hb dX3_plan_89 rfl (lv_at hl 1 rfl) ?_
        refine lv_aload_n hx hb dX3_plan_90 rfl (lv_at hl 0 rfl) ?_
        refine va_get (D := D) (cl := vwCl) (ci := 3) (v := .ref xP) (C := RX3) (T := TX3) (N := 7) hx hb hts in_X3_plan_X3 hown hK hP 0 rfl rfl 1 (by decide) (hts (.fieldLink RX3 15 "BulkSamples" "plans" "[I") fl_X3_plan_15) (fun _ h9 => h9) rfl dX3_plan_91 ?_
        refine lv_iload_n hx hb dX3_plan_94 rfl (lv_at hl 1 rfl) ?_
        refine n_iald (x := nI (pl j9)) hx hb hK hP 1 0 rfl rfl (by omega) (by omega) rfl dX3_plan_95 ?_
        refine lv_iconst (v := nI (5)) hx hb dX3_plan_96 (by decide) ?_
        refine lv_isub hx hb dX3_plan_97 ?_
        refine lv_iconst (v := nI (5)) hx hb dX3_plan_98 (by decide) ?_
        refine va_mmax hx hb (hml.trans hl.1.symm) hown (hts (.methodLink RX3 97 Lib.Math.max.name) (by decide +kernel)) (hts (.static Lib.Math.max.name) (by decide +kernel)) (hts (.initialized "java/lang/Math") (by decide +kernel)) (hts (.code Lib.Math.max.name Lib.Math.max.code 2 (some .int)) (by decide +kernel)) (Nat.le_of_ble_eq_true rfl) (Nat.le_of_ble_eq_true rfl) (by decide) (by decide) dX3_plan_99 ?_
        rw [show (if (nI (pl j9)) - (nI (5)) < nI (5) then nI (5) else (nI (pl j9)) - (nI (5))) = nI (max (pl j9 - 5) 5) from max5 (by omega)]
        refine n_iast (f' := fun j => nI (if j = j9 then max (pl j9 - 5) 5 else pl j)) (ws' := [(h0, .inr (3, [.ref xM, .ref xP, .ref xG, .ref xO, .int (nI (cnt)), .int (nI (te)), .int (nI (tr))])), (xP, .inl (cI, 50, .inl (fun j => nI (if j = j9 then max (pl j9 - 5) 5 else pl j)))), (xG, .inl (cI, 50, .inl (fun j => nI (if j = j9 then 0 else if j = j9 then (go j9) + 1 else go j))))]) hx hb hK hP hD hS 1 0 rfl rfl (by omega) (by omega) (fun j _ => by split <;> rfl) rfl dX3_plan_102 (fun H locs hP hD hS => ?_)
        refine lv_aload_n hx hb dX3_plan_103 rfl (lv_at hl 0 rfl) ?_
        refine va_get (D := D) (cl := vwCl) (ci := 3) (v := .ref xP) (C := RX3) (T := TX3) (N := 7) hx hb hts in_X3_plan_X3 hown hK hP 0 rfl rfl 1 (by decide) (hts (.fieldLink RX3 15 "BulkSamples" "plans" "[I") fl_X3_plan_15) (fun _ h9 => h9) rfl dX3_plan_104 ?_
        refine lv_iload_n hx hb dX3_plan_107 rfl (lv_at hl 1 rfl) ?_
        refine n_iald (x := nI (max (pl j9 - 5) 5)) hx hb hK hP 1 0 rfl rfl (by omega) (by omega) (by simp) dX3_plan_108 ?_
        have eg : plG (go j9) 1 = 0 := by rw [plG, if_neg (by omega), if_pos rfl, if_pos (by omega)]
        have ep : plP (pl j9) (go j9) 1 = max (pl j9 - 5) 5 := by rw [plP, if_neg (by omega), if_pos rfl, if_pos (by omega)]
        have hP : va_P D vwCl [(h0, .inr (3, [.ref xM, .ref xP, .ref xG, .ref xO, .int (nI (cnt)), .int (nI (te)), .int (nI (tr))])), (xP, .inl (cI, 50, .inl (fun j => nI (if j = j9 then max (pl j9 - 5) 5 else pl j)))), (xG, .inl (cI, 50, .inl (fun j => nI (if j = j9 then plG (go j9) 1 else go j))))] H := P_altI _ hP 2 rfl rfl (fun j _ => by rw [eg]; try (by_cases h : j = j9 <;> simp [h]))
        have hD : va_D A [(h0, .inr (3, [.ref xM, .ref xP, .ref xG, .ref xO, .int (nI (cnt)), .int (nI (te)), .int (nI (tr))])), (xP, .inl (cI, 50, .inl (fun j => nI (if j = j9 then max (pl j9 - 5) 5 else pl j)))), (xG, .inl (cI, 50, .inl (fun j => nI (if j = j9 then plG (go j9) 1 else go j))))] := D_alt hD (q0 := 2) rfl rfl
        have hP : va_P D vwCl [(h0, .inr (3, [.ref xM, .ref xP, .ref xG, .ref xO, .int (nI (cnt)), .int (nI (te)), .int (nI (tr))])), (xP, .inl (cI, 50, .inl (fun j => nI (if j = j9 then plP (pl j9) (go j9) 1 else pl j)))), (xG, .inl (cI, 50, .inl (fun j => nI (if j = j9 then plG (go j9) 1 else go j))))] H := P_altI _ hP 1 rfl rfl (fun j _ => by rw [ep]; try (by_cases h : j = j9 <;> simp [h]))
        have hD : va_D A [(h0, .inr (3, [.ref xM, .ref xP, .ref xG, .ref xO, .int (nI (cnt)), .int (nI (te)), .int (nI (tr))])), (xP, .inl (cI, 50, .inl (fun j => nI (if j = j9 then plP (pl j9) (go j9) 1 else pl j)))), (xG, .inl (cI, 50, .inl (fun j => nI (if j = j9 then plG (go j9) 1 else go j))))] := D_alt hD (q0 := 1) rfl rfl
        exact k_iret (v := nI (max (pl j9 - 5) 5)) hx hb hr hlocks hP hD hK hS [0, 1, 2] () rfl (by decide) (by rw [ep]) dX3_plan_109
  · refine lv_aload_n hx hb dX3_plan_26 rfl (lv_at hl 0 rfl) ?_
    refine va_get (D := D) (cl := vwCl) (ci := 3) (v := .ref xG) (C := RX3) (T := TX3) (N := 7) hx hb hts in_X3_plan_X3 hown hK hP 0 rfl rfl 2 (by decide) (hts (.fieldLink RX3 19 "BulkSamples" "goodRows" "[I") fl_X3_plan_19) (fun _ h9 => h9) rfl dX3_plan_27 ?_
    refine lv_iload_n hx hb dX3_plan_30 rfl (lv_at hl 1 rfl) ?_
    refine lv_iconst (v := nI (0)) hx hb dX3_plan_31 (by decide) ?_
    refine n_iast (f' := fun j => nI (if j = j9 then 0 else go j)) (ws' := [(h0, .inr (3, [.ref xM, .ref xP, .ref xG, .ref xO, .int (nI (cnt)), .int (nI (te)), .int (nI (tr))])), (xP, .inl (cI, 50, .inl (fun j => nI (pl j)))), (xG, .inl (cI, 50, .inl (fun j => nI (if j = j9 then 0 else go j))))]) hx hb hK hP hD hS 2 0 rfl rfl (by omega) (by omega) (fun j _ => by split <;> rfl) rfl dX3_plan_32 (fun H locs hP hD hS => ?_)
    refine lv_aload_n hx hb dX3_plan_33 rfl (lv_at hl 0 rfl) ?_
    refine va_get (D := D) (cl := vwCl) (ci := 3) (v := .ref xP) (C := RX3) (T := TX3) (N := 7) hx hb hts in_X3_plan_X3 hown hK hP 0 rfl rfl 1 (by decide) (hts (.fieldLink RX3 15 "BulkSamples" "plans" "[I") fl_X3_plan_15) (fun _ h9 => h9) rfl dX3_plan_34 ?_
    refine lv_iload_n hx hb dX3_plan_37 rfl (lv_at hl 1 rfl) ?_
    refine lv_aload_n hx hb dX3_plan_38 rfl (lv_at hl 0 rfl) ?_
    refine va_get (D := D) (cl := vwCl) (ci := 3) (v := .ref xP) (C := RX3) (T := TX3) (N := 7) hx hb hts in_X3_plan_X3 hown hK hP 0 rfl rfl 1 (by decide) (hts (.fieldLink RX3 15 "BulkSamples" "plans" "[I") fl_X3_plan_15) (fun _ h9 => h9) rfl dX3_plan_39 ?_
    refine lv_iload_n hx hb dX3_plan_42 rfl (lv_at hl 1 rfl) ?_
    refine n_iald (x := nI (pl j9)) hx hb hK hP 1 0 rfl rfl (by omega) (by omega) rfl dX3_plan_43 ?_
    refine lv_bipush (v := nI (10)) hx hb dX3_plan_44 (by decide) ?_
    refine n_iadd (r := (pl j9) + 10) hx hb dX3_plan_46 rfl ?_
    refine lv_bipush (v := nI (60)) hx hb dX3_plan_47 (by decide) ?_
    refine va_mmin hx hb (hml.trans hl.1.symm) hown (hts (.methodLink RX3 60 Lib.Math.min.name) (by decide +kernel)) (hts (.static Lib.Math.min.name) (by decide +kernel)) (hts (.initialized "java/lang/Math") (by decide +kernel)) (hts (.code Lib.Math.min.name Lib.Math.min.code 2 (some .int)) (by decide +kernel)) (Nat.le_of_ble_eq_true rfl) (Nat.le_of_ble_eq_true rfl) (by decide) (by decide) dX3_plan_49 ?_
    rw [show (if nI (60) < nI ((pl j9) + 10) then nI (60) else nI ((pl j9) + 10)) = nI (min (pl j9 + 10) 60) from minI (by omega) (by omega)]
    refine n_iast (f' := fun j => nI (if j = j9 then min (pl j9 + 10) 60 else pl j)) (ws' := [(h0, .inr (3, [.ref xM, .ref xP, .ref xG, .ref xO, .int (nI (cnt)), .int (nI (te)), .int (nI (tr))])), (xP, .inl (cI, 50, .inl (fun j => nI (if j = j9 then min (pl j9 + 10) 60 else pl j)))), (xG, .inl (cI, 50, .inl (fun j => nI (if j = j9 then 0 else go j))))]) hx hb hK hP hD hS 1 0 rfl rfl (by omega) (by omega) (fun j _ => by split <;> rfl) rfl dX3_plan_52 (fun H locs hP hD hS => ?_)
    refine lv_iload_n hx hb dX3_plan_53 rfl (lv_at hl 2 rfl) ?_
    refine lv_iconst (v := nI (1)) hx hb dX3_plan_54 (by decide) ?_
    refine n_icmp_ne (tgt := 68) hx hb (by omega) (by omega) dX3_plan_55 (by decide) (fun c_9 => ?_) (fun c_9 => False.elim (by omega))
    refine lv_aload_n hx hb dX3_plan_68 rfl (lv_at hl 0 rfl) ?_
    refine va_get (D := D) (cl := vwCl) (ci := 3) (v := .ref xG) (C := RX3) (T := TX3) (N := 7) hx hb hts in_X3_plan_X3 hown hK hP 0 rfl rfl 2 (by decide) (hts (.fieldLink RX3 19 "BulkSamples" "goodRows" "[I") fl_X3_plan_19) (fun _ h9 => h9) rfl dX3_plan_69 ?_
    refine lv_iload_n hx hb dX3_plan_72 rfl (lv_at hl 1 rfl) ?_
    refine n_iald (x := nI (0)) hx hb hK hP 2 0 rfl rfl (by omega) (by omega) (by simp) dX3_plan_73 ?_
    refine lv_iconst (v := nI (3)) hx hb dX3_plan_74 (by decide) ?_
    refine n_icmp_ne (tgt := 103) hx hb (by omega) (by omega) dX3_plan_75 (by decide) (fun c_10 => ?_) (fun c_10 => False.elim (by omega))
    refine lv_aload_n hx hb dX3_plan_103 rfl (lv_at hl 0 rfl) ?_
    refine va_get (D := D) (cl := vwCl) (ci := 3) (v := .ref xP) (C := RX3) (T := TX3) (N := 7) hx hb hts in_X3_plan_X3 hown hK hP 0 rfl rfl 1 (by decide) (hts (.fieldLink RX3 15 "BulkSamples" "plans" "[I") fl_X3_plan_15) (fun _ h9 => h9) rfl dX3_plan_104 ?_
    refine lv_iload_n hx hb dX3_plan_107 rfl (lv_at hl 1 rfl) ?_
    refine n_iald (x := nI (min (pl j9 + 10) 60)) hx hb hK hP 1 0 rfl rfl (by omega) (by omega) (by simp) dX3_plan_108 ?_
    obtain rfl : 0 = g := by omega
    have eg : plG (go j9) 0 = 0 := rfl
    have ep : plP (pl j9) (go j9) 0 = min (pl j9 + 10) 60 := rfl
    have hP : va_P D vwCl [(h0, .inr (3, [.ref xM, .ref xP, .ref xG, .ref xO, .int (nI (cnt)), .int (nI (te)), .int (nI (tr))])), (xP, .inl (cI, 50, .inl (fun j => nI (if j = j9 then min (pl j9 + 10) 60 else pl j)))), (xG, .inl (cI, 50, .inl (fun j => nI (if j = j9 then plG (go j9) 0 else go j))))] H := P_altI _ hP 2 rfl rfl (fun j _ => by rw [eg]; try (by_cases h : j = j9 <;> simp [h]))
    have hD : va_D A [(h0, .inr (3, [.ref xM, .ref xP, .ref xG, .ref xO, .int (nI (cnt)), .int (nI (te)), .int (nI (tr))])), (xP, .inl (cI, 50, .inl (fun j => nI (if j = j9 then min (pl j9 + 10) 60 else pl j)))), (xG, .inl (cI, 50, .inl (fun j => nI (if j = j9 then plG (go j9) 0 else go j))))] := D_alt hD (q0 := 2) rfl rfl
    have hP : va_P D vwCl [(h0, .inr (3, [.ref xM, .ref xP, .ref xG, .ref xO, .int (nI (cnt)), .int (nI (te)), .int (nI (tr))])), (xP, .inl (cI, 50, .inl (fun j => nI (if j = j9 then plP (pl j9) (go j9) 0 else pl j)))), (xG, .inl (cI, 50, .inl (fun j => nI (if j = j9 then plG (go j9) 0 else go j))))] H := P_altI _ hP 1 rfl rfl (fun j _ => by rw [ep]; try (by_cases h : j = j9 <;> simp [h]))
    have hD : va_D A [(h0, .inr (3, [.ref xM, .ref xP, .ref xG, .ref xO, .int (nI (cnt)), .int (nI (te)), .int (nI (tr))])), (xP, .inl (cI, 50, .inl (fun j => nI (if j = j9 then plP (pl j9) (go j9) 0 else pl j)))), (xG, .inl (cI, 50, .inl (fun j => nI (if j = j9 then plG (go j9) 0 else go j))))] := D_alt hD (q0 := 1) rfl rfl
    exact k_iret (v := nI (min (pl j9 + 10) 60)) hx hb hr hlocks hP hD hK hS [0, 1, 2] () rfl (by decide) (by rw [ep]) dX3_plan_109
