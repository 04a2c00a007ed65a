/-! class Whole: numbers in eight parts to the base 10^9 -/
theorem B9 : 0 < 1000000000 := by decide
theorem in_X2_set_X2 : ∀ w ∈ wsX20, w ∈ wsX2_set := by decide +kernel
theorem fl_X2_set_9 : Cond.fieldLink RX2 9 "BulkSamples$Whole" "parts" "[J" ∈ wsX2_set := by decide +kernel
set_option maxHeartbeats 4000000 in
set_option maxRecDepth 100000 in
/-- set: the number is x -/
theorem c_set (l : Launch) (D : va_G) (cI cL cM : ClassId) (sz : Nat) (h0 p0 v x : Nat) (hx9 : x < 1000000000) : Met l yX2_set wsX2_set ({ frames := 0, cells := 0, slots := 0, locals := 0 } : Room) (va_Pc [.ref h0, .int (nI (x))] (PreB D (gT cI cL cM) sz [(h0, .inr (2, [.ref p0])), (p0, .inl (cL, 8, .inr (.inl (fun j => lN (dg 1000000000 v (j))))))])) (va_Qv (fun _ => True) (fun (_ : Unit) => PostB D (gT cI cL cM) (va_A [(h0, .inr (2, [.ref p0])), (p0, .inl (cL, 8, .inr (.inl (fun j => lN (dg 1000000000 v (j))))))] sz) [(h0, .inr (2, [.ref p0])), (p0, .inl (cL, 8, .inr (.inl (fun j => lN (dg 1000000000 x (j))))))]) (va_A [(h0, .inr (2, [.ref p0])), (p0, .inl (cL, 8, .inr (.inl (fun j => lN (dg 1000000000 v (j))))))] sz)) 0 0 (va_A [(h0, .inr (2, [.ref p0])), (p0, .inl (cL, 8, .inr (.inl (fun j => lN (dg 1000000000 v (j))))))] sz) := by
  refine k_start (fun A => (va_Qv (fun _ => True) (fun (_ : Unit) => PostB D (gT cI cL cM) A [(h0, .inr (2, [.ref p0])), (p0, .inl (cL, 8, .inr (.inl (fun j => lN (dg 1000000000 x (j))))))]) A)) (cc := cX2_set) (maxL := 3) (ret := none) (by decide) rfl (Nat.le_of_ble_eq_true rfl) ?_
  intro p e s m below meth c A ls hx hb hr hts hown hlocks hin hml hP hK hD hA hS hl
  have hl : lv_has ls 3 [(0, .ref h0), (1, .int (nI (x)))] := hl
  have hown : s.vm.findClass RX2 = some m.cls := hown
  refine lv_iconst (v := nI (0)) hx hb dX2_set_0 (by decide) ?_
  refine lv_istore_n (lv' := [(2, .int (nI (0))), (0, .ref h0), (1, .int (nI (x)))]) hx hb dX2_set_1 rfl hl (by decide) rfl (fun ls hl => ?_)
  have L_1 : ∀ (n i : Nat), i + n = 8 → ∀ (H : Heap) (locs : List Loc) (ls : Array Slot), va_P D vwCl [(h0, .inr (2, [.ref p0])), (p0, .inl (cL, 8, .inr (.inl (fun j => lN (if j < i then 0 else dg 1000000000 v (j))))))] H → va_D A [(h0, .inr (2, [.ref p0])), (p0, .inl (cL, 8, .inr (.inl (fun j => lN (if j < i then 0 else dg 1000000000 v (j))))))] → va_S A s.heap H locs → lv_has ls 3 [(0, .ref h0), (1, .int (nI (x))), (2, .int (nI (i)))] → W p l e ({ frames := 0, cells := 0, slots := 0, locals := 0 } : Room) s m (List.toArray [.ref h0, .int (nI (x))]) below meth c H locs 0 0 (MQ below (va_Qv (fun _ => True) (fun (_ : Unit) => PostB D (gT cI cL cM) A [(h0, .inr (2, [.ref p0])), (p0, .inl (cL, 8, .inr (.inl (fun j => lN (dg 1000000000 x (j))))))]) A) (List.toArray [.ref h0, .int (nI (x))]) s 0 0 A) (F0 m 2 ls []) := by
    intro n
    induction n with
    | zero =>
      intro i hii H locs ls hP hD hS hl
      obtain rfl : i = 8 := by omega
      refine lv_iload_n hx hb dX2_set_2 rfl (lv_at hl 2 rfl) ?_
      refine lv_bipush (v := nI (8)) hx hb dX2_set_3 (by decide) ?_
      refine n_icmp_ge (tgt := 21) hx hb (by omega) (by omega) dX2_set_5 (by decide) (fun c_2 => ?_) (fun c_2 => False.elim (by omega))
      refine lv_aload_n hx hb dX2_set_21 rfl (lv_at hl 0 rfl) ?_
      refine va_get (D := D) (cl := vwCl) (ci := 2) (v := .ref p0) (C := RX2) (T := TX2) (N := 1) hx hb hts in_X2_set_X2 hown hK hP 0 rfl rfl 0 (by decide) (hts (.fieldLink RX2 9 "BulkSamples$Whole" "parts" "[J") fl_X2_set_9) (fun _ h9 => h9) rfl dX2_set_22 ?_
      refine lv_iconst (v := nI (0)) hx hb dX2_set_25 (by decide) ?_
      refine lv_iload_n hx hb dX2_set_26 rfl (lv_at hl 1 rfl) ?_
      refine n_i2l hx hb (by omega) dX2_set_27 ?_
      refine n_last (f' := fun j => lN (dg 1000000000 x (j))) (ws' := [(h0, .inr (2, [.ref p0])), (p0, .inl (cL, 8, .inr (.inl (fun j => lN (dg 1000000000 x (j))))))]) hx hb hK hP hD hS 1 1 rfl rfl (by omega) (by omega) (fun j hj => by rw [dg_small hx9]; by_cases h1 : j = 0 <;> simp [h1, hj]) rfl dX2_set_28 (fun H locs hP hD hS => ?_)
      exact k_vret hx hb hr hlocks hP hD hK hS [0, 1] () rfl (by decide) trivial dX2_set_29
    | succ n ih =>
      intro i hii H locs ls hP hD hS hl
      refine lv_iload_n hx hb dX2_set_2 rfl (lv_at hl 2 rfl) ?_
      refine lv_bipush (v := nI (8)) hx hb dX2_set_3 (by decide) ?_
      refine n_icmp_ge (tgt := 21) hx hb (by omega) (by omega) dX2_set_5 (by decide) (fun c_3 => False.elim (by omega)) (fun c_3 => ?_)
      refine lv_aload_n hx hb dX2_set_8 rfl (lv_at hl 0 rfl) ?_
      refine va_get (D := D) (cl := vwCl) (ci := 2) (v := .ref p0) (C := RX2) (T := TX2) (N := 1) hx hb hts in_X2_set_X2 hown hK hP 0 rfl rfl 0 (by decide) (hts (.fieldLink RX2 9 "BulkSamples$Whole" "parts" "[J") fl_X2_set_9) (fun _ h9 => h9) rfl dX2_set_9 ?_
      refine lv_iload_n hx hb dX2_set_12 rfl (lv_at hl 2 rfl) ?_
      refine lv_lconst (v := lN (0)) hx hb dX2_set_13 (by decide) ?_
      refine n_last (f' := fun j => lN (if j < i + 1 then 0 else dg 1000000000 v (j))) (ws' := [(h0, .inr (2, [.ref p0])), (p0, .inl (cL, 8, .inr (.inl (fun j => lN (if j < i + 1 then 0 else dg 1000000000 v (j))))))]) hx hb hK hP hD hS 1 1 rfl rfl (by omega) (by omega) (fun j hj => by by_cases h1 : j = i <;> by_cases h2 : j < i <;> simp [h1, h2] <;> (try rw [if_pos (by omega)]) <;> (try rw [if_neg (by omega)]) <;> (try omega)) rfl dX2_set_14 (fun H locs hP hD hS => ?_)
      refine lv_iinc (v := nI (i + 1)) (lv' := [(2, .int (nI (i + 1))), (0, .ref h0), (1, .int (nI (x)))]) hx hb dX2_set_15 hl (k := 2) rfl (nI_add i 1) (by decide) rfl (fun ls hl => ?_)
      refine lv_goto (tgt := 2) hx hb dX2_set_18 (by decide) ?_
      exact ih (i + 1) (by omega) _ _ _ (P_pick hP [0, 1] rfl) (hD.sub [0, 1] (by decide) rfl) hS (lv_sub hl [1, 2, 0] rfl)
  exact L_1 8 0 (by omega) _ _ _ (P_altL _ hP 1 rfl rfl (fun j _ => by simp)) (hD.sub [0, 1] (by decide) rfl) hS (lv_sub hl [1, 2, 0] rfl)
