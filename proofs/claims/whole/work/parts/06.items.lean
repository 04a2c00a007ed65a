/-! class Mailing; the small methods of BulkSamples -/
def fnd (mf : Nat → Option Nat) (x : Int32) : Option Nat := if x < nI 1 then none else if x ≤ nI 20 then mf (x.toNatClampNeg - 1) else none
theorem rngI {x : Int32} {N : Nat} (hN : N < 2 ^ 31) (h1 : ¬ x < nI 1) (h2 : x ≤ nI N) : ∃ k : Nat, k < N ∧ x = nI (k + 1) := by
  have a := Int32.le_iff_toInt_le.mp h2
  rw [nI_toInt hN] at a
  have b : ¬ x.toInt < 1 := fun q => h1 (Int32.lt_iff_toInt_lt.mpr (by rw [nI_toInt (by omega)]; omega))
  refine ⟨x.toInt.toNat - 1, by omega, ?_⟩
  rw [← Int32.toInt_inj, nI_toInt (by omega)]
  omega
theorem rng0 {x : Int32} {N : Nat} (hN : N < 2 ^ 31) (h1 : ¬ x < 0) (h2 : x ≤ nI N) : ∃ k : Nat, k ≤ N ∧ x = nI k := by
  have a := Int32.le_iff_toInt_le.mp h2
  rw [nI_toInt hN] at a
  have b : ¬ x.toInt < 0 := fun q => h1 (Int32.lt_iff_toInt_lt.mpr (by rw [Int32.toInt_zero]; exact q))
  refine ⟨x.toInt.toNat, by omega, ?_⟩
  rw [← Int32.toInt_inj, nI_toInt (by omega)]
  omega
theorem fnd_at (mf : Nat → Option Nat) {k : Nat} (hk : k < 20) : fnd mf (nI (k + 1)) = mf k := by
  unfold fnd
  rw [if_neg (nI_nlt (by omega) (by omega)), if_pos (nI_le (by omega) (by omega)), nI_clamp (by omega), Nat.add_sub_cancel]
section N2
variable {p : Program} {l : Launch} {e : Env} {R : Room} {s : State} {m : MethodId} {args : Array Value} {below : List Frame} {meth : Method} {c : Code} {H : Heap} {locs : List Loc} {cells slots : Nat} {Q : State → Prop}
variable {cc : ByteArray} {pc : Nat} {ls : Array Slot} {rest : List Value} {D : va_G} {cl : List vw_C} {A : Nat → Prop} {tys : List (ClassId × FieldType)} {ws ws' : va_W} {H0 : Heap}
theorem n_aald (hx : p.tables.exec = Jvm.exec) (hb : c.code = cc) (hK : va_K D cl tys s) (hP : va_P D cl ws H) (q0 t0 : Nat) {a : Nat} {cA : ClassId} {n i : Nat} {C : String} {f : Nat → Option Nat} {x : Option Nat} (ha : ws[q0]? = some (a, .inl (cA, n, .inr (.inr (.inr (.inr f)))))) (ht : tys[t0]? = some (cA, .object C)) (hi : i < n) (hn : n < 2 ^ 31) (hxv : f i = x) (hdg : decode cc pc = .ok (.aaload, 1))
    (kk : W p l e R s m args below meth c H locs cells slots Q (F0 m (pc + 1) ls (va_rf x :: rest))) : W p l e R s m args below meth c H locs cells slots Q (F0 m (pc) ls (.int (nI i) :: .ref a :: rest)) :=
  va_aldq hx hb hK hP q0 t0 ha ht (vp_in_nI hi hn) hdg (by rw [nI_clamp (Nat.lt_trans hi hn), hxv]; exact kk)
theorem n_aast (hx : p.tables.exec = Jvm.exec) (hb : c.code = cc) (hK : va_K D cl tys s) (hP : va_P D cl ws H) (hD : va_D A ws) (hS : va_S A H0 H locs) (q0 t0 qk ci : Nat) {a : Nat} {cA : ClassId} {r : vw_C} {n v i : Nat} {vs : List Value} {f : Nat → Option Nat} (f' : Nat → Option Nat) (ha : ws[q0]? = some (a, .inl (cA, n, .inr (.inr (.inr (.inr f)))))) (ht : tys[t0]? = some (cA, .object r.1)) (hv : ws[qk]? = some (v, .inr (ci, vs))) (hc : cl[ci]? = some r) (hi : i < n) (hn : n < 2 ^ 31) (hf : ∀ j, j < n → (if j = i then some v else f j) = f' j) (hw : ws.set q0 (a, .inl (cA, n, .inr (.inr (.inr (.inr f'))))) = ws') (hdg : decode cc pc = .ok (.aastore, 1))
    (kk : ∀ (H1 : Heap) (locs1 : List Loc), va_P D cl ws' H1 → va_D A ws' → va_S A H0 H1 locs1 → W p l e R s m args below meth c H1 locs1 cells slots Q (F0 m (pc + 1) ls (rest))) : W p l e R s m args below meth c H locs cells slots Q (F0 m (pc) ls (.ref v :: .int (nI i) :: .ref a :: rest)) :=
  va_astq hx hb hK hP hD hS q0 t0 qk ci ha ht hv hc (vp_in_nI hi hn) hdg (fun H1 locs1 h1 h2 h3 => kk H1 locs1 (P_altQ f' h1 q0 (List.getElem?_set_self (List.getElem?_eq_some_iff.mp ha).1) (by rw [List.set_set]; exact hw) (fun j hj => by rw [nI_clamp (Nat.lt_trans hi hn)]; exact hf j hj)) (by rw [← hw]; exact hD.set ha) h3)
end N2
def disc (dp : Nat → Nat) : Nat := psum (fun i => i * dp i) 4
theorem in_X0_init_X0 : ∀ w ∈ wsX00, w ∈ wsX0_init := by decide +kernel
theorem fl_X0_init_15 : Cond.fieldLink RX0 15 "BulkSamples$Mailing" "found" "[I" ∈ wsX0_init := by decide +kernel
theorem fl_X0_init_18 : Cond.fieldLink RX0 18 "BulkSamples$Mailing" "items" "I" ∈ wsX0_init := by decide +kernel
theorem fl_X0_init_9 : Cond.fieldLink RX0 9 "BulkSamples$Mailing" "declared" "[I" ∈ wsX0_init := by decide +kernel
set_option maxHeartbeats 4000000 in
set_option maxRecDepth 100000 in
/-- Mailing(items) -/
theorem c_mi (l : Launch) (D : va_G) (cI cL cM : ClassId) (sz : Nat) (h0 k : Nat) : Met l yX0_init wsX0_init ({ frames := 1, cells := 2, slots := 7, locals := 20 } : Room) (va_Pc [.ref h0, .int (nI (k))] (PreB D (gT cI cL cM) sz [(h0, .inr (0, [.int (nI (0)), .null, .null, .int (nI (0))]))])) (va_Qv (fun _ => True) (fun (u : Nat × Nat) => PostB D (gT cI cL cM) (va_A [(h0, .inr (0, [.int (nI (0)), .null, .null, .int (nI (0))]))] sz) [(h0, .inr (0, [.int (nI (k)), .ref u.1, .ref u.2, .int (nI (0))])), (u.1, .inl (cI, 4, .inl (fun j => nI (0)))), (u.2, .inl (cI, 3, .inl (fun j => nI (0))))]) (va_A [(h0, .inr (0, [.int (nI (0)), .null, .null, .int (nI (0))]))] sz)) 2 7 (va_A [(h0, .inr (0, [.int (nI (0)), .null, .null, .int (nI (0))]))] sz) := by
  refine k_start (fun A => (va_Qv (fun _ => True) (fun (u : Nat × Nat) => PostB D (gT cI cL cM) A [(h0, .inr (0, [.int (nI (k)), .ref u.1, .ref u.2, .int (nI (0))])), (u.1, .inl (cI, 4, .inl (fun j => nI (0)))), (u.2, .inl (cI, 3, .inl (fun j => nI (0))))]) A)) (cc := cX0_init) (maxL := 2) (ret := none) (by decide) rfl (Nat.le_of_ble_eq_true rfl) ?_
  intro p e s m below meth c A ls hx hb hr hts hown hlocks hin hml hP hK hD hA hS hl
  have hl : lv_has ls 2 [(0, .ref h0), (1, .int (nI (k)))] := hl
  have hown : s.vm.findClass RX0 = some m.cls := hown
  refine lv_aload_n hx hb dX0_init_0 rfl (lv_at hl 0 rfl) ?_
  refine W.objInit hx hb hown (hts (.methodLink RX0 3 objectInit) (by decide +kernel)) (hts (.instanceMethod objectInit) (by decide +kernel)) (hts (.code objectInit ⟨#[0xb1]⟩ 1 none) (by decide +kernel)) rfl (by rw [hml]; exact hl.1) rfl dX0_init_1 (Nat.le_of_ble_eq_true rfl) (Nat.le_of_ble_eq_true rfl) ?_
  refine W.eq (g2 := F0 m 4 ls []) rfl ?_
  refine lv_aload_n hx hb dX0_init_4 rfl (lv_at hl 0 rfl) ?_
  refine lv_iconst (v := nI (4)) hx hb dX0_init_5 (by decide) ?_
  refine n_newI hx hb (hts (.arrayClass .int) (by decide +kernel)) hK hP hD hS hA (by omega) (by decide) (by decide) dX0_init_6 (fun q_1 H hP hD hS => ?_)
  have hP : va_P D vwCl [(h0, .inr (0, [.int (nI (0)), .null, .null, .int (nI (0))])), (q_1, .inl (cI, 4, .inl (fun j => nI (0))))] H := hP
  have hD : va_D A [(h0, .inr (0, [.int (nI (0)), .null, .null, .int (nI (0))])), (q_1, .inl (cI, 4, .inl (fun j => nI (0))))] := hD
  refine va_putF (D := D) (cl := vwCl) (ci := 0) (v := .ref q_1) (ty := tyX0 1) (C := RX0) (T := TX0) (N := 4) hx hb hts in_X0_init_X0 tyX0 tyX0_ok nmX0 hown hK hP hD hS 0 rfl rfl 1 (by decide) (hts (.fieldLink RX0 9 "BulkSamples$Mailing" "declared" "[I") fl_X0_init_9) (fun _ h9 => h9) rfl hin rfl (by decide +kernel) rfl rfl (Nat.le_of_ble_eq_true rfl) dX0_init_8 (fun H locs hP hD hS => ?_)
  have hP : va_P D vwCl [(h0, .inr (0, [.int (nI (0)), .ref q_1, .null, .int (nI (0))])), (q_1, .inl (cI, 4, .inl (fun j => nI (0))))] H := hP
  have hD : va_D A [(h0, .inr (0, [.int (nI (0)), .ref q_1, .null, .int (nI (0))])), (q_1, .inl (cI, 4, .inl (fun j => nI (0))))] := hD
  refine lv_aload_n hx hb dX0_init_11 rfl (lv_at hl 0 rfl) ?_
  refine lv_iconst (v := nI (3)) hx hb dX0_init_12 (by decide) ?_
  refine n_newI hx hb (hts (.arrayClass .int) (by decide +kernel)) hK hP hD hS hA (by omega) (by decide) (by decide) dX0_init_13 (fun q_2 H hP hD hS => ?_)
  have hP : va_P D vwCl [(h0, .inr (0, [.int (nI (0)), .ref q_1, .null, .int (nI (0))])), (q_1, .inl (cI, 4, .inl (fun j => nI (0)))), (q_2, .inl (cI, 3, .inl (fun j => nI (0))))] H := hP
  have hD : va_D A [(h0, .inr (0, [.int (nI (0)), .ref q_1, .null, .int (nI (0))])), (q_1, .inl (cI, 4, .inl (fun j => nI (0)))), (q_2, .inl (cI, 3, .inl (fun j => nI (0))))] := hD
  refine va_putF (D := D) (cl := vwCl) (ci := 0) (v := .ref q_2) (ty := tyX0 2) (C := RX0) (T := TX0) (N := 4) hx hb hts in_X0_init_X0 tyX0 tyX0_ok nmX0 hown hK hP hD hS 0 rfl rfl 2 (by decide) (hts (.fieldLink RX0 15 "BulkSamples$Mailing" "found" "[I") fl_X0_init_15) (fun _ h9 => h9) rfl hin rfl (by decide +kernel) rfl rfl (Nat.le_of_ble_eq_true rfl) dX0_init_15 (fun H locs hP hD hS => ?_)
  have hP : va_P D vwCl [(h0, .inr (0, [.int (nI (0)), .ref q_1, .ref q_2, .int (nI (0))])), (q_1, .inl (cI, 4, .inl (fun j => nI (0)))), (q_2, .inl (cI, 3, .inl (fun j => nI (0))))] H := hP
  have hD : va_D A [(h0, .inr (0, [.int (nI (0)), .ref q_1, .ref q_2, .int (nI (0))])), (q_1, .inl (cI, 4, .inl (fun j => nI (0)))), (q_2, .inl (cI, 3, .inl (fun j => nI (0))))] := hD
  refine lv_aload_n hx hb dX0_init_18 rfl (lv_at hl 0 rfl) ?_
  refine lv_iload_n hx hb dX0_init_19 rfl (lv_at hl 1 rfl) ?_
  refine va_putF (D := D) (cl := vwCl) (ci := 0) (v := .int (nI (k))) (ty := tyX0 0) (C := RX0) (T := TX0) (N := 4) hx hb hts in_X0_init_X0 tyX0 tyX0_ok nmX0 hown hK hP hD hS 0 rfl rfl 0 (by decide) (hts (.fieldLink RX0 18 "BulkSamples$Mailing" "items" "I") fl_X0_init_18) (fun _ h9 => h9) rfl hin rfl (by decide +kernel) rfl rfl (Nat.le_of_ble_eq_true rfl) dX0_init_20 (fun H locs hP hD hS => ?_)
  have hP : va_P D vwCl [(h0, .inr (0, [.int (nI (k)), .ref q_1, .ref q_2, .int (nI (0))])), (q_1, .inl (cI, 4, .inl (fun j => nI (0)))), (q_2, .inl (cI, 3, .inl (fun j => nI (0))))] H := hP
  have hD : va_D A [(h0, .inr (0, [.int (nI (k)), .ref q_1, .ref q_2, .int (nI (0))])), (q_1, .inl (cI, 4, .inl (fun j => nI (0)))), (q_2, .inl (cI, 3, .inl (fun j => nI (0))))] := hD
  refine W.widen (k := 2) (n := 7) (Nat.le_of_ble_eq_true rfl) (Nat.le_of_ble_eq_true rfl) ?_
  exact k_vret hx hb hr hlocks hP hD hK hS [0, 1, 2] (q_1, q_2) rfl (by decide) trivial dX0_init_23
theorem in_X0_isSampled_X0 : ∀ w ∈ wsX00, w ∈ wsX0_isSampled := by decide +kernel
theorem fl_X0_isSampled_22 : Cond.fieldLink RX0 22 "BulkSamples$Mailing" "drawn" "I" ∈ wsX0_isSampled := by decide +kernel
set_option maxHeartbeats 4000000 in
set_option maxRecDepth 100000 in
/-- isSampled -/
theorem c_samp (l : Launch) (D : va_G) (cI cL cM : ClassId) (sz : Nat) (h0 ad af it dr : Nat) (hdr : dr ≤ 200) : Met l yX0_isSampled wsX0_isSampled ({ frames := 0, cells := 0, slots := 0, locals := 0 } : Room) (va_Pc [.ref h0] (PreB D (gT cI cL cM) sz [(h0, .inr (0, [.int (nI (it)), .ref ad, .ref af, .int (nI (dr))]))])) (va_Qi (fun r _ => r = nI (b2 (0 < dr))) (fun (_ : Unit) => PostB D (gT cI cL cM) (va_A [(h0, .inr (0, [.int (nI (it)), .ref ad, .ref af, .int (nI (dr))]))] sz) [(h0, .inr (0, [.int (nI (it)), .ref ad, .ref af, .int (nI (dr))]))]) (va_A [(h0, .inr (0, [.int (nI (it)), .ref ad, .ref af, .int (nI (dr))]))] sz)) 0 0 (va_A [(h0, .inr (0, [.int (nI (it)), .ref ad, .ref af, .int (nI (dr))]))] sz) := by
  refine k_start (fun A => (va_Qi (fun r _ => r = nI (b2 (0 < dr))) (fun (_ : Unit) => PostB D (gT cI cL cM) A [(h0, .inr (0, [.int (nI (it)), .ref ad, .ref af, .int (nI (dr))]))]) A)) (cc := cX0_isSampled) (maxL := 1) (ret := (some .boolean)) (by decide) rfl (Nat.le_of_ble_eq_true rfl) ?_
  intro p e s m below meth c A ls hx hb hr hts hown hlocks hin hml hP hK hD hA hS hl
  have hl : lv_has ls 1 [(0, .ref h0)] := hl
  have hown : s.vm.findClass RX0 = some m.cls := hown
  refine lv_aload_n hx hb dX0_isSampled_0 rfl (lv_at hl 0 rfl) ?_
  refine va_get (D := D) (cl := vwCl) (ci := 0) (v := .int (nI (dr))) (C := RX0) (T := TX0) (N := 4) hx hb hts in_X0_isSampled_X0 hown hK hP 0 rfl rfl 3 (by decide) (hts (.fieldLink RX0 22 "BulkSamples$Mailing" "drawn" "I") fl_X0_isSampled_22) (fun _ h9 => h9) rfl dX0_isSampled_1 ?_
  refine n_if_le (tgt := 11) hx hb (by omega) dX0_isSampled_4 (by decide) (fun c_1 => ?_) (fun c_1 => ?_)
  · refine lv_iconst (v := nI (0)) hx hb dX0_isSampled_11 (by decide) ?_
    exact k_zret (v := nI (0)) hx hb hr rfl hlocks hP hD hK hS [0] () rfl (by decide) (by rw [b2_f (by omega)]) dX0_isSampled_12
  · refine lv_iconst (v := nI (1)) hx hb dX0_isSampled_7 (by decide) ?_
    refine lv_goto (tgt := 12) hx hb dX0_isSampled_8 (by decide) ?_
    exact k_zret (v := nI (1)) hx hb hr rfl hlocks hP hD hK hS [0] () rfl (by decide) (by rw [b2_t (by omega)]) dX0_isSampled_12
theorem in_X0_discount_X0 : ∀ w ∈ wsX00, w ∈ wsX0_discount := by decide +kernel
theorem fl_X0_discount_9 : Cond.fieldLink RX0 9 "BulkSamples$Mailing" "declared" "[I" ∈ wsX0_discount := by decide +kernel
set_option maxHeartbeats 4000000 in
set_option maxRecDepth 100000 in
/-- discount -/
theorem c_disc (l : Launch) (D : va_G) (cI cL cM : ClassId) (sz : Nat) (h0 ad af it dr : Nat) (dp : Nat → Nat) (hdp : ∀ i, i < 4 → dp i ≤ 200) : Met l yX0_discount wsX0_discount ({ frames := 0, cells := 0, slots := 0, locals := 0 } : Room) (va_Pc [.ref h0] (PreB D (gT cI cL cM) sz [(h0, .inr (0, [.int (nI (it)), .ref ad, .ref af, .int (nI (dr))])), (ad, .inl (cI, 4, .inl (fun j => nI (dp j))))])) (va_Ql (fun r _ => r = lN (disc dp)) (fun (_ : Unit) => PostB D (gT cI cL cM) (va_A [(h0, .inr (0, [.int (nI (it)), .ref ad, .ref af, .int (nI (dr))])), (ad, .inl (cI, 4, .inl (fun j => nI (dp j))))] sz) [(h0, .inr (0, [.int (nI (it)), .ref ad, .ref af, .int (nI (dr))])), (ad, .inl (cI, 4, .inl (fun j => nI (dp j))))]) (va_A [(h0, .inr (0, [.int (nI (it)), .ref ad, .ref af, .int (nI (dr))])), (ad, .inl (cI, 4, .inl (fun j => nI (dp j))))] sz)) 0 0 (va_A [(h0, .inr (0, [.int (nI (it)), .ref ad, .ref af, .int (nI (dr))])), (ad, .inl (cI, 4, .inl (fun j => nI (dp j))))] sz) := by
  refine k_start (fun A => (va_Ql (fun r _ => r = lN (disc dp)) (fun (_ : Unit) => PostB D (gT cI cL cM) A [(h0, .inr (0, [.int (nI (it)), .ref ad, .ref af, .int (nI (dr))])), (ad, .inl (cI, 4, .inl (fun j => nI (dp j))))]) A)) (cc := cX0_discount) (maxL := 4) (ret := (some .long)) (by decide) rfl (Nat.le_of_ble_eq_true rfl) ?_
  intro p e s m below meth c A ls hx hb hr hts hown hlocks hin hml hP hK hD hA hS hl
  have hl : lv_has ls 4 [(0, .ref h0)] := hl
  have hown : s.vm.findClass RX0 = some m.cls := hown
  refine lv_lconst (v := lN (psum (fun i => i * dp i) 0)) hx hb dX0_discount_0 rfl ?_
  refine lv_lstore_n (lv' := [(1, .long (lN (psum (fun i => i * dp i) 0))), (0, .ref h0)]) hx hb dX0_discount_1 rfl hl (by decide) rfl (fun ls hl => ?_)
  refine lv_iconst (v := nI (0)) hx hb dX0_discount_2 (by decide) ?_
  refine lv_istore_n (lv' := [(3, .int (nI (0))), (1, .long (lN (psum (fun i => i * dp i) 0))), (0, .ref h0)]) hx hb dX0_discount_3 rfl hl (by decide) rfl (fun ls hl => ?_)
  have L_1 : ∀ (nn9 i : Nat), i + nn9 = 4 → ∀ (H : Heap) (locs : List Loc) (ls : Array Slot), va_P D vwCl [(h0, .inr (0, [.int (nI (it)), .ref ad, .ref af, .int (nI (dr))])), (ad, .inl (cI, 4, .inl (fun j => nI (dp j))))] H → va_D A [(h0, .inr (0, [.int (nI (it)), .ref ad, .ref af, .int (nI (dr))])), (ad, .inl (cI, 4, .inl (fun j => nI (dp j))))] → va_S A s.heap H locs → lv_has ls 4 [(0, .ref h0), (1, .long (lN (psum (fun i => i * dp i) i))), (3, .int (nI (i)))] → W p l e ({ frames := 0, cells := 0, slots := 0, locals := 0 } : Room) s m (List.toArray [.ref h0]) below meth c H locs 0 0 (MQ below (va_Ql (fun r _ => r = lN (disc dp)) (fun (_ : Unit) => PostB D (gT cI cL cM) A [(h0, .inr (0, [.int (nI (it)), .ref ad, .ref af, .int (nI (dr))])), (ad, .inl (cI, 4, .inl (fun j => nI (dp j))))]) A) (List.toArray [.ref h0]) s 0 0 A) (F0 m 4 ls []) := by
    intro nn9
    induction nn9 with
    | zero =>
      intro i hii H locs ls hP hD hS hl
      obtain rfl : 4 = i := by omega
      refine lv_iload_n hx hb dX0_discount_4 rfl (lv_at hl 2 rfl) ?_
      refine lv_aload_n hx hb dX0_discount_5 rfl (lv_at hl 0 rfl) ?_
      refine va_get (D := D) (cl := vwCl) (ci := 0) (v := .ref ad) (C := RX0) (T := TX0) (N := 4) hx hb hts in_X0_discount_X0 hown hK hP 0 rfl rfl 1 (by decide) (hts (.fieldLink RX0 9 "BulkSamples$Mailing" "declared" "[I") fl_X0_discount_9) (fun _ h9 => h9) rfl dX0_discount_6 ?_
      refine va_alen (v := nI (4)) hx hb hK hP 1 0 rfl rfl rfl dX0_discount_9 ?_
      refine n_icmp_ge (tgt := 32) hx hb (by omega) (by omega) dX0_discount_10 (by decide) (fun c_2 => ?_) (fun c_2 => False.elim (by omega))
      refine lv_lload_n hx hb dX0_discount_32 rfl (lv_at hl 1 rfl) ?_
      exact k_lret (v := lN (psum (fun i => i * dp i) 4)) hx hb hr hlocks hP hD hK hS [0, 1] () rfl (by decide) rfl dX0_discount_33
    | succ nn9 ih =>
      intro i hii H locs ls hP hD hS hl
      refine lv_iload_n hx hb dX0_discount_4 rfl (lv_at hl 2 rfl) ?_
      refine lv_aload_n hx hb dX0_discount_5 rfl (lv_at hl 0 rfl) ?_
      refine va_get (D := D) (cl := vwCl) (ci := 0) (v := .ref ad) (C := RX0) (T := TX0) (N := 4) hx hb hts in_X0_discount_X0 hown hK hP 0 rfl rfl 1 (by decide) (hts (.fieldLink RX0 9 "BulkSamples$Mailing" "declared" "[I") fl_X0_discount_9) (fun _ h9 => h9) rfl dX0_discount_6 ?_
      refine va_alen (v := nI (4)) hx hb hK hP 1 0 rfl rfl rfl dX0_discount_9 ?_
      refine n_icmp_ge (tgt := 32) hx hb (by omega) (by omega) dX0_discount_10 (by decide) (fun c_3 => False.elim (by omega)) (fun c_3 => ?_)
      refine lv_lload_n hx hb dX0_discount_13 rfl (lv_at hl 1 rfl) ?_
      refine lv_iload_n hx hb dX0_discount_14 rfl (lv_at hl 2 rfl) ?_
      refine n_i2l hx hb (by omega) dX0_discount_15 ?_
      refine lv_aload_n hx hb dX0_discount_16 rfl (lv_at hl 0 rfl) ?_
      refine va_get (D := D) (cl := vwCl) (ci := 0) (v := .ref ad) (C := RX0) (T := TX0) (N := 4) hx hb hts in_X0_discount_X0 hown hK hP 0 rfl rfl 1 (by decide) (hts (.fieldLink RX0 9 "BulkSamples$Mailing" "declared" "[I") fl_X0_discount_9) (fun _ h9 => h9) rfl dX0_discount_17 ?_
      refine lv_iload_n hx hb dX0_discount_20 rfl (lv_at hl 2 rfl) ?_
      refine n_iald (x := nI (dp i)) hx hb hK hP 1 0 rfl rfl (by omega) (by omega) rfl dX0_discount_21 ?_
      refine n_i2l hx hb (Nat.lt_of_le_of_lt (hdp i (by omega)) (by omega)) dX0_discount_22 ?_
      refine n_lmul (r := i * (dp i)) hx hb dX0_discount_23 rfl ?_
      refine n_ladd (r := (psum (fun i => i * dp i) i) + (i * (dp i))) hx hb dX0_discount_24 rfl ?_
      refine lv_lstore_n (lv' := [(1, .long (lN ((psum (fun i => i * dp i) i) + (i * (dp i))))), (0, .ref h0), (3, .int (nI (i)))]) hx hb dX0_discount_25 rfl hl (by decide) rfl (fun ls hl => ?_)
      refine lv_iinc (v := nI (i + 1)) (lv' := [(3, .int (nI (i + 1))), (1, .long (lN ((psum (fun i => i * dp i) i) + (i * (dp i))))), (0, .ref h0)]) hx hb dX0_discount_26 hl (k := 2) rfl (nI_add i 1) (by decide) rfl (fun ls hl => ?_)
      refine lv_goto (tgt := 4) hx hb dX0_discount_29 (by decide) ?_
      exact ih (i + 1) (by omega) _ _ _ (P_pick hP [0, 1] rfl) (D_pick hD [0, 1] (by decide) rfl) hS (lv_sub hl [2, 1, 0] rfl)
  exact L_1 4 0 (by omega) _ _ _ (P_pick hP [0, 1] rfl) (D_pick hD [0, 1] (by decide) rfl) hS (lv_sub hl [2, 1, 0] rfl)
set_option maxHeartbeats 4000000 in
set_option maxRecDepth 100000 in
/-- sum -/
theorem c_sum (l : Launch) (D : va_G) (cI cL cM : ClassId) (sz : Nat) (h0 N : Nat) (f : Nat → Nat) (hN : N < 65536) : Met l yX3_sum wsX3_sum ({ frames := 0, cells := 0, slots := 0, locals := 0 } : Room) (va_Pc [.ref h0] (PreB D (gT cI cL cM) sz [(h0, .inl (cI, N, .inl (fun j => nI (f j))))])) (va_Qi (fun r _ => r = nI (psum f N)) (fun (_ : Unit) => PostB D (gT cI cL cM) (va_A [(h0, .inl (cI, N, .inl (fun j => nI (f j))))] sz) [(h0, .inl (cI, N, .inl (fun j => nI (f j))))]) (va_A [(h0, .inl (cI, N, .inl (fun j => nI (f j))))] sz)) 0 0 (va_A [(h0, .inl (cI, N, .inl (fun j => nI (f j))))] sz) := by
  refine k_start (fun A => (va_Qi (fun r _ => r = nI (psum f N)) (fun (_ : Unit) => PostB D (gT cI cL cM) A [(h0, .inl (cI, N, .inl (fun j => nI (f j))))]) A)) (cc := cX3_sum) (maxL := 3) (ret := (some .int)) (by decide) rfl (Nat.le_of_ble_eq_true rfl) ?_
  intro p e s m below meth c A ls hx hb hr hts hown hlocks hin hml hP hK hD hA hS hl
  have hl : lv_has ls 3 [(0, .ref h0)] := hl
  have hown : s.vm.findClass RX3 = some m.cls := hown
  refine lv_iconst (v := nI (psum f 0)) hx hb dX3_sum_0 rfl ?_
  refine lv_istore_n (lv' := [(1, .int (nI (psum f 0))), (0, .ref h0)]) hx hb dX3_sum_1 rfl hl (by decide) rfl (fun ls hl => ?_)
  refine lv_iconst (v := nI (0)) hx hb dX3_sum_2 (by decide) ?_
  refine lv_istore_n (lv' := [(2, .int (nI (0))), (1, .int (nI (psum f 0))), (0, .ref h0)]) hx hb dX3_sum_3 rfl hl (by decide) rfl (fun ls hl => ?_)
  have L_1 : ∀ (nn9 i : Nat), i + nn9 = N → ∀ (H : Heap) (locs : List Loc) (ls : Array Slot), va_P D vwCl [(h0, .inl (cI, N, .inl (fun j => nI (f j))))] H → va_D A [(h0, .inl (cI, N, .inl (fun j => nI (f j))))] → va_S A s.heap H locs → lv_has ls 3 [(0, .ref h0), (1, .int (nI (psum f i))), (2, .int (nI (i)))] → W p l e ({ frames := 0, cells := 0, slots := 0, locals := 0 } : Room) s m (List.toArray [.ref h0]) below meth c H locs 0 0 (MQ below (va_Qi (fun r _ => r = nI (psum f N)) (fun (_ : Unit) => PostB D (gT cI cL cM) A [(h0, .inl (cI, N, .inl (fun j => nI (f j))))]) A) (List.toArray [.ref h0]) s 0 0 A) (F0 m 4 ls []) := by
    intro nn9
    induction nn9 with
    | zero =>
      intro i hii H locs ls hP hD hS hl
      obtain rfl : N = i := by omega
      refine lv_iload_n hx hb dX3_sum_4 rfl (lv_at hl 2 rfl) ?_
      refine lv_aload_n hx hb dX3_sum_5 rfl (lv_at hl 0 rfl) ?_
      refine va_alen (v := nI (N)) hx hb hK hP 0 0 rfl rfl rfl dX3_sum_6 ?_
      refine n_icmp_ge (tgt := 22) hx hb (by omega) (by omega) dX3_sum_7 (by decide) (fun c_2 => ?_) (fun c_2 => False.elim (by omega))
      refine lv_iload_n hx hb dX3_sum_22 rfl (lv_at hl 1 rfl) ?_
      exact k_iret (v := nI (psum f N)) hx hb hr hlocks hP hD hK hS [0] () rfl (by decide) rfl dX3_sum_23
    | succ nn9 ih =>
      intro i hii H locs ls hP hD hS hl
      refine lv_iload_n hx hb dX3_sum_4 rfl (lv_at hl 2 rfl) ?_
      refine lv_aload_n hx hb dX3_sum_5 rfl (lv_at hl 0 rfl) ?_
      refine va_alen (v := nI (N)) hx hb hK hP 0 0 rfl rfl rfl dX3_sum_6 ?_
      refine n_icmp_ge (tgt := 22) hx hb (by omega) (by omega) dX3_sum_7 (by decide) (fun c_3 => False.elim (by omega)) (fun c_3 => ?_)
      refine lv_iload_n hx hb dX3_sum_10 rfl (lv_at hl 1 rfl) ?_
      refine lv_aload_n hx hb dX3_sum_11 rfl (lv_at hl 0 rfl) ?_
      refine lv_iload_n hx hb dX3_sum_12 rfl (lv_at hl 2 rfl) ?_
      refine n_iald (x := nI (f i)) hx hb hK hP 0 0 rfl rfl (by omega) (by omega) rfl dX3_sum_13 ?_
      refine n_iadd (r := (psum f i) + (f i)) hx hb dX3_sum_14 rfl ?_
      refine lv_istore_n (lv' := [(1, .int (nI ((psum f i) + (f i)))), (0, .ref h0), (2, .int (nI (i)))]) hx hb dX3_sum_15 rfl hl (by decide) rfl (fun ls hl => ?_)
      refine lv_iinc (v := nI (i + 1)) (lv' := [(2, .int (nI (i + 1))), (1, .int (nI ((psum f i) + (f i)))), (0, .ref h0)]) hx hb dX3_sum_16 hl (k := 2) rfl (nI_add i 1) (by decide) rfl (fun ls hl => ?_)
      refine lv_goto (tgt := 4) hx hb dX3_sum_19 (by decide) ?_
      exact ih (i + 1) (by omega) _ _ _ (P_pick hP [0] rfl) (D_pick hD [0] (by decide) rfl) hS (lv_sub hl [2, 1, 0] rfl)
  exact L_1 N 0 (by omega) _ _ _ (P_pick hP [0] rfl) (D_pick hD [0] (by decide) rfl) hS (lv_sub hl [2, 1, 0] rfl)
theorem in_X3_find_X3 : ∀ w ∈ wsX30, w ∈ wsX3_find := by decide +kernel
theorem fl_X3_find_11 : Cond.fieldLink RX3 11 "BulkSamples" "mailings" "[LBulkSamples$Mailing;" ∈ wsX3_find := by decide +kernel
set_option maxHeartbeats 4000000 in
set_option maxRecDepth 100000 in
/-- find -/
theorem c_find (l : Launch) (D : va_G) (cI cL cM : ClassId) (sz : Nat) (h0 xM xP xG xO cnt te tr : Nat) (mf : Nat → Option Nat) (x : Int32) : Met l yX3_find wsX3_find ({ frames := 0, cells := 0, slots := 0, locals := 0 } : Room) (va_Pc [.ref h0, .int x] (PreB D (gT cI cL cM) sz [(h0, .inr (3, [.ref xM, .ref xP, .ref xG, .ref xO, .int (nI (cnt)), .int (nI (te)), .int (nI (tr))])), (xM, .inl (cM, 20, .inr (.inr (.inr (.inr (mf))))))])) (va_Qq (fun r _ => r = fnd mf x) (fun (_ : Unit) => PostB D (gT cI cL cM) (va_A [(h0, .inr (3, [.ref xM, .ref xP, .ref xG, .ref xO, .int (nI (cnt)), .int (nI (te)), .int (nI (tr))])), (xM, .inl (cM, 20, .inr (.inr (.inr (.inr (mf))))))] sz) [(h0, .inr (3, [.ref xM, .ref xP, .ref xG, .ref xO, .int (nI (cnt)), .int (nI (te)), .int (nI (tr))])), (xM, .inl (cM, 20, .inr (.inr (.inr (.inr (mf))))))]) (va_A [(h0, .inr (3, [.ref xM, .ref xP, .ref xG, .ref xO, .int (nI (cnt)), .int (nI (te)), .int (nI (tr))])), (xM, .inl (cM, 20, .inr (.inr (.inr (.inr (mf))))))] sz)) 0 0 (va_A [(h0, .inr (3, [.ref xM, .ref xP, .ref xG, .ref xO, .int (nI (cnt)), .int (nI (te)), .int (nI (tr))])), (xM, .inl (cM, 20, .inr (.inr (.inr (.inr (mf))))))] sz) := by
  refine k_start (fun A => (va_Qq (fun r _ => r = fnd mf x) (fun (_ : Unit) => PostB D (gT cI cL cM) A [(h0, .inr (3, [.ref xM, .ref xP, .ref xG, .ref xO, .int (nI (cnt)), .int (nI (te)), .int (nI (tr))])), (xM, .inl (cM, 20, .inr (.inr (.inr (.inr (mf))))))]) A)) (cc := cX3_find) (maxL := 2) (ret := (some (.object "BulkSamples$Mailing"))) (by decide) rfl (Nat.le_of_ble_eq_true rfl) ?_
  intro p e s m below meth c A ls hx hb hr hts hown hlocks hin hml hP hK hD hA hS hl
  have hl : lv_has ls 2 [(0, .ref h0), (1, .int x)] := hl
  have hown : s.vm.findClass RX3 = some m.cls := hown
  refine lv_iload_n hx hb dX3_find_0 rfl (lv_at hl 1 rfl) ?_
  refine lv_iconst (v := nI (1)) hx hb dX3_find_1 (by decide) ?_
  refine lv_icmp_lt (tgt := 11) hx hb dX3_find_2 (by decide) (fun c_1 => ?_) (fun c_1 => ?_)
  · have hf : fnd mf x = none := by rw [fnd, if_pos c_1]
    refine lv_null hx hb dX3_find_11 ?_
    exact k_qret (v := none) hx hb hr (Or.inl ⟨_, rfl⟩) hlocks hP hD hK hS [0, 1] () rfl (by decide) (hf.symm) dX3_find_12
  · refine lv_iload_n hx hb dX3_find_5 rfl (lv_at hl 1 rfl) ?_
    refine lv_bipush (v := nI (20)) hx hb dX3_find_6 (by decide) ?_
    refine lv_icmp_le (tgt := 13) hx hb dX3_find_8 (by decide) (fun c_2 => ?_) (fun c_2 => ?_)
    · have hf := rngI (N := 20) (by omega) c_1 c_2
      obtain ⟨k, hk, rfl⟩ := hf
      refine lv_aload_n hx hb dX3_find_13 rfl (lv_at hl 0 rfl) ?_
      refine va_get (D := D) (cl := vwCl) (ci := 3) (v := .ref xM) (C := RX3) (T := TX3) (N := 7) hx hb hts in_X3_find_X3 hown hK hP 0 rfl rfl 0 (by decide) (hts (.fieldLink RX3 11 "BulkSamples" "mailings" "[LBulkSamples$Mailing;") fl_X3_find_11) (fun _ h9 => h9) rfl dX3_find_14 ?_
      refine lv_iload_n hx hb dX3_find_17 rfl (lv_at hl 1 rfl) ?_
      refine lv_iconst (v := nI (1)) hx hb dX3_find_18 (by decide) ?_
      refine n_isub (r := k) hx hb dX3_find_19 (by omega) (by omega) ?_
      refine n_aald (x := mf k) hx hb hK hP 1 2 rfl rfl hk (by omega) rfl dX3_find_20 ?_
      exact k_qret (v := mf k) hx hb hr (Or.inl ⟨_, rfl⟩) hlocks hP hD hK hS [0, 1] () rfl (by decide) ((fnd_at mf hk).symm) dX3_find_21
    · have hf : fnd mf x = none := by rw [fnd, if_neg c_1, if_neg c_2]
      refine lv_null hx hb dX3_find_11 ?_
      exact k_qret (v := none) hx hb hr (Or.inl ⟨_, rfl⟩) hlocks hP hD hK hS [0, 1] () rfl (by decide) (hf.symm) dX3_find_12
