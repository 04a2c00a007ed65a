/-! the reference: big numbers, counting in order -/
theorem B28 : 0 < 268435456 := by decide
def rowF (V : Nat → Nat) (i : Nat) : Nat := dg 268435456 (V (i / 48)) (i % 48)
def upN (V : Nat → Nat) (k x : Nat) : Nat → Nat := fun j => if j = k then x else V j
def stV (V : Nat → Nat) (k f g : Nat) : Nat := V k * f + (if k = 0 then 0 else V (k - 1) * g)
theorem room2 {v w f g i M : Nat} (hf : f ≤ M) (hg : g ≤ M) : dg 268435456 v i * f + dg 268435456 w i * g + car 268435456 v f w g i ≤ 268435456 * (M + M) := by
  have a := dg_lt B28 v i
  have b := dg_lt B28 w i
  have c := car_le B28 v f w g i
  have d : (dg 268435456 v i + 1) * f ≤ 268435456 * M := Nat.mul_le_mul a hf
  have e : (dg 268435456 w i + 1) * g ≤ 268435456 * M := Nat.mul_le_mul b hg
  rw [Nat.add_mul] at d e
  omega
theorem st_row (F : Nat → Nat) (G : Nat → Nat) (k q i : Nat) (hq : q < 48) : (if i = 48 * k + q then lN (F q) else lN (if i / 48 = k ∧ i % 48 < q then F (i % 48) else G i)) = lN (if i / 48 = k ∧ i % 48 < q + 1 then F (i % 48) else G i) := by
  by_cases h : i = 48 * k + q
  · have h1 : i / 48 = k := by omega
    have h2 : i % 48 = q := by omega
    rw [if_pos h, if_pos ⟨h1, by omega⟩, h2]
  · rw [if_neg h]
    by_cases h3 : i / 48 = k ∧ i % 48 < q
    · rw [if_pos h3, if_pos ⟨h3.1, by omega⟩]
    · rw [if_neg h3, if_neg (fun h4 => h3 ⟨h4.1, by omega⟩)]
theorem row_end (V : Nat → Nat) (k x i : Nat) : (if i / 48 = k ∧ i % 48 < 48 then dg 268435456 x (i % 48) else rowF V i) = rowF (upN V k x) i := by
  unfold rowF upN
  by_cases h : i / 48 = k
  · rw [if_pos ⟨h, by omega⟩, if_pos h]
  · rw [if_neg (fun h2 => h h2.1), if_neg h]
theorem fac200 {n f : Nat} (hn : n ≤ 200) (hf : f ≤ 10000) : fac n * f < 268435456 ^ 48 := by
  have h1 := fac_le n (200 - n)
  rw [show n + (200 - n) = 200 by omega] at h1
  exact Nat.lt_of_le_of_lt (Nat.mul_le_mul h1 hf) (by decide +kernel)
theorem subsub {a b c : Nat} (ha : a < 2 ^ 20) (hb : b < 2 ^ 20) (hc : c < 2 ^ 20) : (nI a - (nI b - nI c)).toInt = (a : Int) + c - b := by
  rw [Int32.toInt_sub, pk_sub_toInt (by omega) (by omega), nI_toInt (by omega), Int.bmod_eq_of_le (by omega) (by omega)]
  omega
theorem subsub0 {a b c : Nat} (ha : a < 2 ^ 20) (hb : b < 2 ^ 20) (hc : c < 2 ^ 20) (h : nI a - (nI b - nI c) ≤ 0) : a + c - b = 0 := by
  have h2 := Int32.le_iff_toInt_le.mp h
  rw [subsub ha hb hc, Int32.toInt_zero] at h2
  omega
theorem subsub1 {a b c : Nat} (ha : a < 2 ^ 20) (hb : b < 2 ^ 20) (hc : c < 2 ^ 20) (h : ¬ nI a - (nI b - nI c) ≤ 0) : nI a - (nI b - nI c) = nI (a + c - b) := by
  have h2 : ¬ (nI a - (nI b - nI c)).toInt ≤ 0 := fun q => h (Int32.le_iff_toInt_le.mpr (by rw [Int32.toInt_zero]; exact q))
  rw [subsub ha hb hc] at h2
  rw [← Int32.toInt_inj, subsub ha hb hc, nI_toInt (by omega)]
  omega
set_option maxHeartbeats 4000000 in
set_option maxRecDepth 100000 in
/-- clear -/
theorem d_clear (l : Launch) (D : va_G) (cI cL cM : ClassId) (sz : Nat) (h0 : Nat) (f : Nat → Nat) : Met l yX4_clear wsX4_clear ({ frames := 0, cells := 0, slots := 0, locals := 0 } : Room) (va_Pc [.ref h0] (PreB D (gT cI cL cM) sz [(h0, .inl (cL, 48, .inr (.inl (fun j => lN (f j)))))])) (va_Qv (fun _ => True) (fun (_ : Unit) => PostB D (gT cI cL cM) (va_A [(h0, .inl (cL, 48, .inr (.inl (fun j => lN (f j)))))] sz) [(h0, .inl (cL, 48, .inr (.inl (fun j => lN (dg 268435456 0 (j))))))]) (va_A [(h0, .inl (cL, 48, .inr (.inl (fun j => lN (f j)))))] sz)) 0 0 (va_A [(h0, .inl (cL, 48, .inr (.inl (fun j => lN (f j)))))] sz) := by
  refine k_start (fun A => (va_Qv (fun _ => True) (fun (_ : Unit) => PostB D (gT cI cL cM) A [(h0, .inl (cL, 48, .inr (.inl (fun j => lN (dg 268435456 0 (j))))))]) A)) (cc := cX4_clear) (maxL := 2) (ret := none) (by decide) rfl (Nat.le_of_ble_eq_true rfl) ?_
  intro p e s m below meth c A ls hx hb hr hts hown hlocks hin hml hP hK hD hA hS hl
  have hl : lv_has ls 2 [(0, .ref h0)] := hl
  have hown : s.vm.findClass RX4 = some m.cls := hown
  refine lv_iconst (v := nI (0)) hx hb dX4_clear_0 (by decide) ?_
  refine lv_istore_n (lv' := [(1, .int (nI (0))), (0, .ref h0)]) hx hb dX4_clear_1 rfl hl (by decide) rfl (fun ls hl => ?_)
  have L_1 : ∀ (nn9 i : Nat), i + nn9 = 48 → ∀ (H : Heap) (locs : List Loc) (ls : Array Slot), va_P D vwCl [(h0, .inl (cL, 48, .inr (.inl (fun j => lN (if j < i then 0 else f j)))))] H → va_D A [(h0, .inl (cL, 48, .inr (.inl (fun j => lN (if j < i then 0 else f j)))))] → va_S A s.heap H locs → lv_has ls 2 [(0, .ref h0), (1, .int (nI (i)))] → W p l e ({ frames := 0, cells := 0, slots := 0, locals := 0 } : Room) s m (List.toArray [.ref h0]) below meth c H locs 0 0 (MQ below (va_Qv (fun _ => True) (fun (_ : Unit) => PostB D (gT cI cL cM) A [(h0, .inl (cL, 48, .inr (.inl (fun j => lN (dg 268435456 0 (j))))))]) A) (List.toArray [.ref h0]) s 0 0 A) (F0 m 2 ls []) := by
    intro nn9
    induction nn9 with
    | zero =>
      intro i hii H locs ls hP hD hS hl
      obtain rfl : 48 = i := by omega
      refine lv_iload_n hx hb dX4_clear_2 rfl (lv_at hl 1 rfl) ?_
      refine lv_bipush (v := nI (48)) hx hb dX4_clear_3 (by decide) ?_
      refine n_icmp_ge (tgt := 18) hx hb (by omega) (by omega) dX4_clear_5 (by decide) (fun c_2 => ?_) (fun c_2 => False.elim (by omega))
      have hP : va_P D vwCl [(h0, .inl (cL, 48, .inr (.inl (fun j => lN (dg 268435456 0 (j))))))] H := P_altL _ hP 0 rfl rfl (fun j hj => by rw [if_pos hj, dg_zero])
      have hD : va_D A [(h0, .inl (cL, 48, .inr (.inl (fun j => lN (dg 268435456 0 (j))))))] := D_alt hD (q0 := 0) rfl rfl
      exact k_vret hx hb hr hlocks hP hD hK hS [0] () rfl (by decide) trivial dX4_clear_18
    | succ nn9 ih =>
      intro i hii H locs ls hP hD hS hl
      refine lv_iload_n hx hb dX4_clear_2 rfl (lv_at hl 1 rfl) ?_
      refine lv_bipush (v := nI (48)) hx hb dX4_clear_3 (by decide) ?_
      refine n_icmp_ge (tgt := 18) hx hb (by omega) (by omega) dX4_clear_5 (by decide) (fun c_3 => False.elim (by omega)) (fun c_3 => ?_)
      refine lv_aload_n hx hb dX4_clear_8 rfl (lv_at hl 0 rfl) ?_
      refine lv_iload_n hx hb dX4_clear_9 rfl (lv_at hl 1 rfl) ?_
      refine lv_lconst (v := lN (0)) hx hb dX4_clear_10 (by decide) ?_
      refine n_last (f' := fun j => lN (if j < i + 1 then 0 else f j)) (ws' := [(h0, .inl (cL, 48, .inr (.inl (fun j => lN (if j < i + 1 then 0 else f j)))))]) hx hb hK hP hD hS 0 1 rfl rfl (by omega) (by omega) (fun j _ => st_upL (fun _ => 0) f i j) rfl dX4_clear_11 (fun H locs hP hD hS => ?_)
      refine lv_iinc (v := nI (i + 1)) (lv' := [(1, .int (nI (i + 1))), (0, .ref h0)]) hx hb dX4_clear_12 hl (k := 1) rfl (nI_add i 1) (by decide) rfl (fun ls hl => ?_)
      refine lv_goto (tgt := 2) hx hb dX4_clear_15 (by decide) ?_
      exact ih (i + 1) (by omega) _ _ _ (P_pick hP [0] rfl) (D_pick hD [0] (by decide) rfl) hS (lv_sub hl [1, 0] rfl)
  exact L_1 48 0 (by omega) _ _ _ (P_altL _ hP 0 rfl rfl (fun j _ => by simp)) (D_pick hD [0] (by decide) rfl) hS (lv_sub hl [1, 0] rfl)
set_option maxHeartbeats 4000000 in
set_option maxRecDepth 100000 in
/-- copy -/
theorem d_copy (l : Launch) (D : va_G) (cI cL cM : ClassId) (sz : Nat) (h0 h1 : Nat) (f g : Nat → Nat) : Met l yX4_copy wsX4_copy ({ frames := 0, cells := 0, slots := 0, locals := 0 } : Room) (va_Pc [.ref h0, .ref h1] (PreB D (gT cI cL cM) sz [(h0, .inl (cL, 48, .inr (.inl (fun j => lN (f j))))), (h1, .inl (cL, 48, .inr (.inl (fun j => lN (g j)))))])) (va_Qv (fun _ => True) (fun (_ : Unit) => PostB D (gT cI cL cM) (va_A [(h0, .inl (cL, 48, .inr (.inl (fun j => lN (f j))))), (h1, .inl (cL, 48, .inr (.inl (fun j => lN (g j)))))] sz) [(h0, .inl (cL, 48, .inr (.inl (fun j => lN (f j))))), (h1, .inl (cL, 48, .inr (.inl (fun j => lN (f j)))))]) (va_A [(h0, .inl (cL, 48, .inr (.inl (fun j => lN (f j))))), (h1, .inl (cL, 48, .inr (.inl (fun j => lN (g j)))))] sz)) 0 0 (va_A [(h0, .inl (cL, 48, .inr (.inl (fun j => lN (f j))))), (h1, .inl (cL, 48, .inr (.inl (fun j => lN (g j)))))] sz) := by
  refine k_start (fun A => (va_Qv (fun _ => True) (fun (_ : Unit) => PostB D (gT cI cL cM) A [(h0, .inl (cL, 48, .inr (.inl (fun j => lN (f j))))), (h1, .inl (cL, 48, .inr (.inl (fun j => lN (f j)))))]) A)) (cc := cX4_copy) (maxL := 3) (ret := none) (by decide) rfl (Nat.le_of_ble_eq_true rfl) ?_
  intro p e s m below meth c A ls hx hb hr hts hown hlocks hin hml hP hK hD hA hS hl
  have hl : lv_has ls 3 [(0, .ref h0), (1, .ref h1)] := hl
  have hown : s.vm.findClass RX4 = some m.cls := hown
  refine lv_iconst (v := nI (0)) hx hb dX4_copy_0 (by decide) ?_
  refine lv_istore_n (lv' := [(2, .int (nI (0))), (0, .ref h0), (1, .ref h1)]) hx hb dX4_copy_1 rfl hl (by decide) rfl (fun ls hl => ?_)
  have L_1 : ∀ (nn9 i : Nat), i + nn9 = 48 → ∀ (H : Heap) (locs : List Loc) (ls : Array Slot), va_P D vwCl [(h0, .inl (cL, 48, .inr (.inl (fun j => lN (f j))))), (h1, .inl (cL, 48, .inr (.inl (fun j => lN (if j < i then f j else g j)))))] H → va_D A [(h0, .inl (cL, 48, .inr (.inl (fun j => lN (f j))))), (h1, .inl (cL, 48, .inr (.inl (fun j => lN (if j < i then f j else g j)))))] → va_S A s.heap H locs → lv_has ls 3 [(0, .ref h0), (1, .ref h1), (2, .int (nI (i)))] → W p l e ({ frames := 0, cells := 0, slots := 0, locals := 0 } : Room) s m (List.toArray [.ref h0, .ref h1]) below meth c H locs 0 0 (MQ below (va_Qv (fun _ => True) (fun (_ : Unit) => PostB D (gT cI cL cM) A [(h0, .inl (cL, 48, .inr (.inl (fun j => lN (f j))))), (h1, .inl (cL, 48, .inr (.inl (fun j => lN (f j)))))]) A) (List.toArray [.ref h0, .ref h1]) s 0 0 A) (F0 m 2 ls []) := by
    intro nn9
    induction nn9 with
    | zero =>
      intro i hii H locs ls hP hD hS hl
      obtain rfl : 48 = i := by omega
      refine lv_iload_n hx hb dX4_copy_2 rfl (lv_at hl 2 rfl) ?_
      refine lv_bipush (v := nI (48)) hx hb dX4_copy_3 (by decide) ?_
      refine n_icmp_ge (tgt := 20) hx hb (by omega) (by omega) dX4_copy_5 (by decide) (fun c_2 => ?_) (fun c_2 => False.elim (by omega))
      have hP : va_P D vwCl [(h0, .inl (cL, 48, .inr (.inl (fun j => lN (f j))))), (h1, .inl (cL, 48, .inr (.inl (fun j => lN (f j)))))] H := P_altL _ hP 1 rfl rfl (fun j hj => by rw [if_pos hj])
      have hD : va_D A [(h0, .inl (cL, 48, .inr (.inl (fun j => lN (f j))))), (h1, .inl (cL, 48, .inr (.inl (fun j => lN (f j)))))] := D_alt hD (q0 := 1) rfl rfl
      exact k_vret hx hb hr hlocks hP hD hK hS [0, 1] () rfl (by decide) trivial dX4_copy_20
    | succ nn9 ih =>
      intro i hii H locs ls hP hD hS hl
      refine lv_iload_n hx hb dX4_copy_2 rfl (lv_at hl 2 rfl) ?_
      refine lv_bipush (v := nI (48)) hx hb dX4_copy_3 (by decide) ?_
      refine n_icmp_ge (tgt := 20) hx hb (by omega) (by omega) dX4_copy_5 (by decide) (fun c_3 => False.elim (by omega)) (fun c_3 => ?_)
      refine lv_aload_n hx hb dX4_copy_8 rfl (lv_at hl 1 rfl) ?_
      refine lv_iload_n hx hb dX4_copy_9 rfl (lv_at hl 2 rfl) ?_
      refine lv_aload_n hx hb dX4_copy_10 rfl (lv_at hl 0 rfl) ?_
      refine lv_iload_n hx hb dX4_copy_11 rfl (lv_at hl 2 rfl) ?_
      refine n_lald (x := lN (f i)) hx hb hK hP 0 1 rfl rfl (by omega) (by omega) rfl dX4_copy_12 ?_
      refine n_last (f' := fun j => lN (if j < i + 1 then f j else g j)) (ws' := [(h0, .inl (cL, 48, .inr (.inl (fun j => lN (f j))))), (h1, .inl (cL, 48, .inr (.inl (fun j => lN (if j < i + 1 then f j else g j)))))]) hx hb hK hP hD hS 1 1 rfl rfl (by omega) (by omega) (fun j _ => st_upL f g i j) rfl dX4_copy_13 (fun H locs hP hD hS => ?_)
      refine lv_iinc (v := nI (i + 1)) (lv' := [(2, .int (nI (i + 1))), (0, .ref h0), (1, .ref h1)]) hx hb dX4_copy_14 hl (k := 2) rfl (nI_add i 1) (by decide) rfl (fun ls hl => ?_)
      refine lv_goto (tgt := 2) hx hb dX4_copy_17 (by decide) ?_
      exact ih (i + 1) (by omega) _ _ _ (P_pick hP [0, 1] rfl) (D_pick hD [0, 1] (by decide) rfl) hS (lv_sub hl [1, 2, 0] rfl)
  exact L_1 48 0 (by omega) _ _ _ (P_altL _ hP 1 rfl rfl (fun j _ => by simp)) (D_pick hD [0, 1] (by decide) rfl) hS (lv_sub hl [1, 2, 0] rfl)
set_option maxHeartbeats 4000000 in
set_option maxRecDepth 100000 in
/-- multiply -/
theorem d_mul (l : Launch) (D : va_G) (cI cL cM : ClassId) (sz : Nat) (h0 v f : Nat) (hf4 : f ≤ 40000) : Met l yX4_multiply wsX4_multiply ({ frames := 0, cells := 0, slots := 0, locals := 0 } : Room) (va_Pc [.ref h0, .long (lN (f))] (PreB D (gT cI cL cM) sz [(h0, .inl (cL, 48, .inr (.inl (fun j => lN (dg 268435456 v (j))))))])) (va_Qv (fun _ => True) (fun (_ : Unit) => PostB D (gT cI cL cM) (va_A [(h0, .inl (cL, 48, .inr (.inl (fun j => lN (dg 268435456 v (j))))))] sz) [(h0, .inl (cL, 48, .inr (.inl (fun j => lN (dg 268435456 (v * f) (j))))))]) (va_A [(h0, .inl (cL, 48, .inr (.inl (fun j => lN (dg 268435456 v (j))))))] sz)) 0 0 (va_A [(h0, .inl (cL, 48, .inr (.inl (fun j => lN (dg 268435456 v (j))))))] sz) := by
  refine k_start (fun A => (va_Qv (fun _ => True) (fun (_ : Unit) => PostB D (gT cI cL cM) A [(h0, .inl (cL, 48, .inr (.inl (fun j => lN (dg 268435456 (v * f) (j))))))]) A)) (cc := cX4_multiply) (maxL := 6) (ret := none) (by decide) rfl (Nat.le_of_ble_eq_true rfl) ?_
  intro p e s m below meth c A ls hx hb hr hts hown hlocks hin hml hP hK hD hA hS hl
  have hl : lv_has ls 6 [(0, .ref h0), (1, .long (lN (f)))] := hl
  have hown : s.vm.findClass RX4 = some m.cls := hown
  refine lv_lconst (v := lN (car 268435456 v f 0 0 0)) hx hb dX4_multiply_0 (by rw [car_0]; decide) ?_
  refine lv_lstore_n (lv' := [(3, .long (lN (car 268435456 v f 0 0 0))), (0, .ref h0), (1, .long (lN (f)))]) hx hb dX4_multiply_1 rfl hl (by decide) rfl (fun ls hl => ?_)
  refine lv_iconst (v := nI (0)) hx hb dX4_multiply_2 (by decide) ?_
  refine lv_istore (lv' := [(5, .int (nI (0))), (3, .long (lN (car 268435456 v f 0 0 0))), (0, .ref h0), (1, .long (lN (f)))]) hx hb dX4_multiply_3 hl (by decide) rfl (fun ls hl => ?_)
  have L_1 : ∀ (nn9 i : Nat), i + nn9 = 48 → ∀ (H : Heap) (locs : List Loc) (ls : Array Slot), va_P D vwCl [(h0, .inl (cL, 48, .inr (.inl (fun j => lN (if j < i then dg 268435456 (v * f) (j) else dg 268435456 v (j))))))] H → va_D A [(h0, .inl (cL, 48, .inr (.inl (fun j => lN (if j < i then dg 268435456 (v * f) (j) else dg 268435456 v (j))))))] → va_S A s.heap H locs → lv_has ls 6 [(0, .ref h0), (1, .long (lN (f))), (3, .long (lN (car 268435456 v f 0 0 (i)))), (5, .int (nI (i)))] → W p l e ({ frames := 0, cells := 0, slots := 0, locals := 0 } : Room) s m (List.toArray [.ref h0, .long (lN (f))]) below meth c H locs 0 0 (MQ below (va_Qv (fun _ => True) (fun (_ : Unit) => PostB D (gT cI cL cM) A [(h0, .inl (cL, 48, .inr (.inl (fun j => lN (dg 268435456 (v * f) (j))))))]) A) (List.toArray [.ref h0, .long (lN (f))]) s 0 0 A) (F0 m 5 ls []) := by
    intro nn9
    induction nn9 with
    | zero =>
      intro i hii H locs ls hP hD hS hl
      obtain rfl : 48 = i := by omega
      refine lv_iload hx hb dX4_multiply_5 (lv_at hl 3 rfl) ?_
      refine lv_bipush (v := nI (48)) hx hb dX4_multiply_7 (by decide) ?_
      refine n_icmp_ge (tgt := 42) hx hb (by omega) (by omega) dX4_multiply_9 (by decide) (fun c_2 => ?_) (fun c_2 => False.elim (by omega))
      have hP : va_P D vwCl [(h0, .inl (cL, 48, .inr (.inl (fun j => lN (dg 268435456 (v * f) (j))))))] H := P_altL _ hP 0 rfl rfl (fun j hj => by rw [if_pos hj])
      have hD : va_D A [(h0, .inl (cL, 48, .inr (.inl (fun j => lN (dg 268435456 (v * f) (j))))))] := D_alt hD (q0 := 0) rfl rfl
      exact k_vret hx hb hr hlocks hP hD hK hS [0] () rfl (by decide) trivial dX4_multiply_42
    | succ nn9 ih =>
      intro i hii H locs ls hP hD hS hl
      have hm := mul_room (v := v) (i := i) B28 hf4
      refine lv_iload hx hb dX4_multiply_5 (lv_at hl 3 rfl) ?_
      refine lv_bipush (v := nI (48)) hx hb dX4_multiply_7 (by decide) ?_
      refine n_icmp_ge (tgt := 42) hx hb (by omega) (by omega) dX4_multiply_9 (by decide) (fun c_3 => False.elim (by omega)) (fun c_3 => ?_)
      refine lv_lload_n hx hb dX4_multiply_12 rfl (lv_at hl 2 rfl) ?_
      refine lv_aload_n hx hb dX4_multiply_13 rfl (lv_at hl 0 rfl) ?_
      refine lv_iload hx hb dX4_multiply_14 (lv_at hl 3 rfl) ?_
      refine n_lald (x := lN (dg 268435456 v i)) hx hb hK hP 0 1 rfl rfl (by omega) (by omega) (by simp) dX4_multiply_16 ?_
      refine lv_lload_n hx hb dX4_multiply_17 rfl (lv_at hl 1 rfl) ?_
      refine n_lmul (r := (dg 268435456 v i) * f) hx hb dX4_multiply_18 rfl ?_
      refine n_ladd (r := (car 268435456 v f 0 0 (i)) + ((dg 268435456 v i) * f)) hx hb dX4_multiply_19 rfl ?_
      refine lv_lstore_n (lv' := [(3, .long (lN ((car 268435456 v f 0 0 (i)) + ((dg 268435456 v i) * f)))), (0, .ref h0), (1, .long (lN (f))), (5, .int (nI (i)))]) hx hb dX4_multiply_20 rfl hl (by decide) rfl (fun ls hl => ?_)
      refine lv_aload_n hx hb dX4_multiply_21 rfl (lv_at hl 1 rfl) ?_
      refine lv_iload hx hb dX4_multiply_22 (lv_at hl 3 rfl) ?_
      refine lv_lload_n hx hb dX4_multiply_24 rfl (lv_at hl 0 rfl) ?_
      refine lv_ldc2 hx hb hown (hts (.constantLong RX4 68 (268435456)) (by decide +kernel)) dX4_multiply_25 ?_
      rw [show (268435456 : Int64) = lN 268435456 from rfl]
      refine n_lrem (r := dg 268435456 (v * f) i) hx hb dX4_multiply_28 (by omega) (by omega) (by omega) (by rw [Nat.add_comm]; exact mul_dig B28 v f i) ?_
      refine n_last (f' := fun j => lN (if j < i + 1 then dg 268435456 (v * f) (j) else dg 268435456 v (j))) (ws' := [(h0, .inl (cL, 48, .inr (.inl (fun j => lN (if j < i + 1 then dg 268435456 (v * f) (j) else dg 268435456 v (j))))))]) hx hb hK hP hD hS 0 1 rfl rfl (by omega) (by omega) (fun j _ => st_upL (fun j => dg 268435456 (v * f) j) (fun j => dg 268435456 v j) i j) rfl dX4_multiply_29 (fun H locs hP hD hS => ?_)
      refine lv_lload_n hx hb dX4_multiply_30 rfl (lv_at hl 0 rfl) ?_
      refine lv_ldc2 hx hb hown (hts (.constantLong RX4 68 (268435456)) (by decide +kernel)) dX4_multiply_31 ?_
      rw [show (268435456 : Int64) = lN 268435456 from rfl]
      refine n_ldiv (r := car 268435456 v f 0 0 (i + 1)) hx hb dX4_multiply_34 (by omega) (by omega) (by omega) (by rw [Nat.add_comm]; exact mul_step B28 v f i) ?_
      refine lv_lstore_n (lv' := [(3, .long (lN (car 268435456 v f 0 0 (i + 1)))), (0, .ref h0), (1, .long (lN (f))), (5, .int (nI (i)))]) hx hb dX4_multiply_35 rfl hl (by decide) rfl (fun ls hl => ?_)
      refine lv_iinc (v := nI (i + 1)) (lv' := [(5, .int (nI (i + 1))), (3, .long (lN (car 268435456 v f 0 0 (i + 1)))), (0, .ref h0), (1, .long (lN (f)))]) hx hb dX4_multiply_36 hl (k := 3) rfl (nI_add i 1) (by decide) rfl (fun ls hl => ?_)
      refine lv_goto (tgt := 5) hx hb dX4_multiply_39 (by decide) ?_
      exact ih (i + 1) (by omega) _ _ _ (P_pick hP [0] rfl) (D_pick hD [0] (by decide) rfl) hS (lv_sub hl [2, 3, 1, 0] rfl)
  exact L_1 48 0 (by omega) _ _ _ (P_altL _ hP 0 rfl rfl (fun j _ => by simp)) (D_pick hD [0] (by decide) rfl) hS (lv_sub hl [2, 3, 1, 0] rfl)
set_option maxHeartbeats 4000000 in
set_option maxRecDepth 100000 in
/-- isWithin -/
theorem d_wi (l : Launch) (D : va_G) (cI cL cM : ClassId) (sz : Nat) (h0 h1 v w : Nat) (hv8 : v < 268435456 ^ 48) (hw8 : w < 268435456 ^ 48) : Met l yX4_isWithin wsX4_isWithin ({ frames := 0, cells := 0, slots := 0, locals := 0 } : Room) (va_Pc [.ref h0, .ref h1] (PreB D (gT cI cL cM) sz [(h0, .inl (cL, 48, .inr (.inl (fun j => lN (dg 268435456 v (j)))))), (h1, .inl (cL, 48, .inr (.inl (fun j => lN (dg 268435456 w (j))))))])) (va_Qi (fun r _ => r = nI (b2 (v ≤ w))) (fun (_ : Unit) => PostB D (gT cI cL cM) (va_A [(h0, .inl (cL, 48, .inr (.inl (fun j => lN (dg 268435456 v (j)))))), (h1, .inl (cL, 48, .inr (.inl (fun j => lN (dg 268435456 w (j))))))] sz) [(h0, .inl (cL, 48, .inr (.inl (fun j => lN (dg 268435456 v (j)))))), (h1, .inl (cL, 48, .inr (.inl (fun j => lN (dg 268435456 w (j))))))]) (va_A [(h0, .inl (cL, 48, .inr (.inl (fun j => lN (dg 268435456 v (j)))))), (h1, .inl (cL, 48, .inr (.inl (fun j => lN (dg 268435456 w (j))))))] sz)) 0 0 (va_A [(h0, .inl (cL, 48, .inr (.inl (fun j => lN (dg 268435456 v (j)))))), (h1, .inl (cL, 48, .inr (.inl (fun j => lN (dg 268435456 w (j))))))] sz) := by
  refine k_start (fun A => (va_Qi (fun r _ => r = nI (b2 (v ≤ w))) (fun (_ : Unit) => PostB D (gT cI cL cM) A [(h0, .inl (cL, 48, .inr (.inl (fun j => lN (dg 268435456 v (j)))))), (h1, .inl (cL, 48, .inr (.inl (fun j => lN (dg 268435456 w (j))))))]) A)) (cc := cX4_isWithin) (maxL := 3) (ret := (some .boolean)) (by decide) rfl (Nat.le_of_ble_eq_true rfl) ?_
  intro p e s m below meth c A ls hx hb hr hts hown hlocks hin hml hP hK hD hA hS hl
  have hl : lv_has ls 3 [(0, .ref h0), (1, .ref h1)] := hl
  have hown : s.vm.findClass RX4 = some m.cls := hown
  refine lv_bipush (v := nI (47)) hx hb dX4_isWithin_0 (by decide) ?_
  refine lv_istore_n (lv' := [(2, .int (nI (47))), (0, .ref h0), (1, .ref h1)]) hx hb dX4_isWithin_2 rfl hl (by decide) rfl (fun ls hl => ?_)
  have L_1 : ∀ k : Nat, k ≤ 47 → v / 268435456 ^ (k + 1) = w / 268435456 ^ (k + 1) → ∀ (H : Heap) (locs : List Loc) (ls : Array Slot), va_P D vwCl [(h0, .inl (cL, 48, .inr (.inl (fun j => lN (dg 268435456 v (j)))))), (h1, .inl (cL, 48, .inr (.inl (fun j => lN (dg 268435456 w (j))))))] H → va_D A [(h0, .inl (cL, 48, .inr (.inl (fun j => lN (dg 268435456 v (j)))))), (h1, .inl (cL, 48, .inr (.inl (fun j => lN (dg 268435456 w (j))))))] → va_S A s.heap H locs → lv_has ls 3 [(0, .ref h0), (1, .ref h1), (2, .int (nI (k)))] → W p l e ({ frames := 0, cells := 0, slots := 0, locals := 0 } : Room) s m (List.toArray [.ref h0, .ref h1]) below meth c H locs 0 0 (MQ below (va_Qi (fun r _ => r = nI (b2 (v ≤ w))) (fun (_ : Unit) => PostB D (gT cI cL cM) A [(h0, .inl (cL, 48, .inr (.inl (fun j => lN (dg 268435456 v (j)))))), (h1, .inl (cL, 48, .inr (.inl (fun j => lN (dg 268435456 w (j))))))]) A) (List.toArray [.ref h0, .ref h1]) s 0 0 A) (F0 m 3 ls []) := by
    intro k
    induction k with
    | zero =>
      intro hik hf H locs ls hP hD hS hl
      refine lv_iload_n hx hb dX4_isWithin_3 rfl (lv_at hl 2 rfl) ?_
      refine n_if_le (tgt := 23) hx hb (by omega) dX4_isWithin_4 (by decide) (fun c_2 => ?_) (fun c_2 => False.elim (by omega))
      have hq9 := cmp_dig hf
      have z1 := dg_lt B28 v 0
      have z2 := dg_lt B28 w 0
      refine lv_aload_n hx hb dX4_isWithin_23 rfl (lv_at hl 0 rfl) ?_
      refine lv_iload_n hx hb dX4_isWithin_24 rfl (lv_at hl 2 rfl) ?_
      refine n_lald (x := lN (dg 268435456 v (0))) hx hb hK hP 0 1 rfl rfl (by omega) (by omega) rfl dX4_isWithin_25 ?_
      refine lv_aload_n hx hb dX4_isWithin_26 rfl (lv_at hl 1 rfl) ?_
      refine lv_iload_n hx hb dX4_isWithin_27 rfl (lv_at hl 2 rfl) ?_
      refine n_lald (x := lN (dg 268435456 w (0))) hx hb hK hP 1 1 rfl rfl (by omega) (by omega) rfl dX4_isWithin_28 ?_
      refine n_lcmp_gt (tgt := 37) hx hb (by omega) (by omega) dX4_isWithin_29 dX4_isWithin_30 (by decide) (fun c_3 => ?_) (fun c_3 => ?_)
      · refine lv_iconst (v := nI (0)) hx hb dX4_isWithin_37 (by decide) ?_
        exact k_zret (v := nI (0)) hx hb hr rfl hlocks hP hD hK hS [0, 1] () rfl (by decide) (by rw [b2_f (Nat.not_le.mpr (hq9.2.1 c_3))]) dX4_isWithin_38
      · have hle : v ≤ w := by
          rcases Nat.lt_or_ge (dg 268435456 v 0) (dg 268435456 w 0) with q9 | q9
          · exact Nat.le_of_lt (hq9.2.2 q9)
          · exact Nat.le_of_eq (cmp_end (hq9.1 (by omega)))
        refine lv_iconst (v := nI (1)) hx hb dX4_isWithin_33 (by decide) ?_
        refine lv_goto (tgt := 38) hx hb dX4_isWithin_34 (by decide) ?_
        exact k_zret (v := nI (1)) hx hb hr rfl hlocks hP hD hK hS [0, 1] () rfl (by decide) (by rw [b2_t hle]) dX4_isWithin_38
    | succ k ih =>
      intro hik hf H locs ls hP hD hS hl
      have hq8 := cmp_dig hf
      have z3 := dg_lt B28 v (k + 1)
      have z4 := dg_lt B28 w (k + 1)
      refine lv_iload_n hx hb dX4_isWithin_3 rfl (lv_at hl 2 rfl) ?_
      refine n_if_le (tgt := 23) hx hb (by omega) dX4_isWithin_4 (by decide) (fun c_4 => False.elim (by omega)) (fun c_4 => ?_)
      refine lv_aload_n hx hb dX4_isWithin_7 rfl (lv_at hl 0 rfl) ?_
      refine lv_iload_n hx hb dX4_isWithin_8 rfl (lv_at hl 2 rfl) ?_
      refine n_lald (x := lN (dg 268435456 v ((k + 1)))) hx hb hK hP 0 1 rfl rfl (by omega) (by omega) rfl dX4_isWithin_9 ?_
      refine lv_aload_n hx hb dX4_isWithin_10 rfl (lv_at hl 1 rfl) ?_
      refine lv_iload_n hx hb dX4_isWithin_11 rfl (lv_at hl 2 rfl) ?_
      refine n_lald (x := lN (dg 268435456 w ((k + 1)))) hx hb hK hP 1 1 rfl rfl (by omega) (by omega) rfl dX4_isWithin_12 ?_
      refine n_lcmp_ne (tgt := 23) hx hb (by omega) (by omega) dX4_isWithin_13 dX4_isWithin_14 (by decide) (fun c_5 => ?_) (fun c_5 => ?_)
      · have hq9 := cmp_dig hf
        have z1 := dg_lt B28 v (k + 1)
        have z2 := dg_lt B28 w (k + 1)
        refine lv_aload_n hx hb dX4_isWithin_23 rfl (lv_at hl 0 rfl) ?_
        refine lv_iload_n hx hb dX4_isWithin_24 rfl (lv_at hl 2 rfl) ?_
        refine n_lald (x := lN (dg 268435456 v ((k + 1)))) hx hb hK hP 0 1 rfl rfl (by omega) (by omega) rfl dX4_isWithin_25 ?_
        refine lv_aload_n hx hb dX4_isWithin_26 rfl (lv_at hl 1 rfl) ?_
        refine lv_iload_n hx hb dX4_isWithin_27 rfl (lv_at hl 2 rfl) ?_
        refine n_lald (x := lN (dg 268435456 w ((k + 1)))) hx hb hK hP 1 1 rfl rfl (by omega) (by omega) rfl dX4_isWithin_28 ?_
        refine n_lcmp_gt (tgt := 37) hx hb (by omega) (by omega) dX4_isWithin_29 dX4_isWithin_30 (by decide) (fun c_6 => ?_) (fun c_6 => ?_)
        · refine lv_iconst (v := nI (0)) hx hb dX4_isWithin_37 (by decide) ?_
          exact k_zret (v := nI (0)) hx hb hr rfl hlocks hP hD hK hS [0, 1] () rfl (by decide) (by rw [b2_f (Nat.not_le.mpr (hq9.2.1 c_6))]) dX4_isWithin_38
        · have hle : v ≤ w := by
            rcases Nat.lt_or_ge (dg 268435456 v (k + 1)) (dg 268435456 w (k + 1)) with q9 | q9
            · exact Nat.le_of_lt (hq9.2.2 q9)
            · omega
          refine lv_iconst (v := nI (1)) hx hb dX4_isWithin_33 (by decide) ?_
          refine lv_goto (tgt := 38) hx hb dX4_isWithin_34 (by decide) ?_
          exact k_zret (v := nI (1)) hx hb hr rfl hlocks hP hD hK hS [0, 1] () rfl (by decide) (by rw [b2_t hle]) dX4_isWithin_38
      · refine lv_iinc (v := nI (k)) (lv' := [(2, .int (nI (k))), (0, .ref h0), (1, .ref h1)]) hx hb dX4_isWithin_17 hl (k := 2) rfl (by rw [show Int32.ofInt (-1) = (-1 : Int32) from by decide]; exact pk_m1 k) (by decide) rfl (fun ls hl => ?_)
        refine lv_goto (tgt := 3) hx hb dX4_isWithin_20 (by decide) ?_
        exact ih (by omega) (hq8.1 c_5) _ _ _ (P_pick hP [0, 1] rfl) (D_pick hD [0, 1] (by decide) rfl) hS (lv_sub hl [1, 2, 0] rfl)
  exact L_1 47 (Nat.le_refl _) (cmp_start hv8 hw8) _ _ _ (P_pick hP [0, 1] rfl) (D_pick hD [0, 1] (by decide) rfl) hS (lv_sub hl [1, 2, 0] rfl)
set_option maxHeartbeats 4000000 in
set_option maxRecDepth 100000 in
/-- subtract -/
theorem d_sub (l : Launch) (D : va_G) (cI cL cM : ClassId) (sz : Nat) (h0 h1 v w : Nat) (hwv : w ≤ v) : Met l yX4_subtract wsX4_subtract ({ frames := 0, cells := 0, slots := 0, locals := 0 } : Room) (va_Pc [.ref h0, .ref h1] (PreB D (gT cI cL cM) sz [(h0, .inl (cL, 48, .inr (.inl (fun j => lN (dg 268435456 v (j)))))), (h1, .inl (cL, 48, .inr (.inl (fun j => lN (dg 268435456 w (j))))))])) (va_Qv (fun _ => True) (fun (_ : Unit) => PostB D (gT cI cL cM) (va_A [(h0, .inl (cL, 48, .inr (.inl (fun j => lN (dg 268435456 v (j)))))), (h1, .inl (cL, 48, .inr (.inl (fun j => lN (dg 268435456 w (j))))))] sz) [(h0, .inl (cL, 48, .inr (.inl (fun j => lN (dg 268435456 (v - w) (j)))))), (h1, .inl (cL, 48, .inr (.inl (fun j => lN (dg 268435456 w (j))))))]) (va_A [(h0, .inl (cL, 48, .inr (.inl (fun j => lN (dg 268435456 v (j)))))), (h1, .inl (cL, 48, .inr (.inl (fun j => lN (dg 268435456 w (j))))))] sz)) 0 0 (va_A [(h0, .inl (cL, 48, .inr (.inl (fun j => lN (dg 268435456 v (j)))))), (h1, .inl (cL, 48, .inr (.inl (fun j => lN (dg 268435456 w (j))))))] sz) := by
  refine k_start (fun A => (va_Qv (fun _ => True) (fun (_ : Unit) => PostB D (gT cI cL cM) A [(h0, .inl (cL, 48, .inr (.inl (fun j => lN (dg 268435456 (v - w) (j)))))), (h1, .inl (cL, 48, .inr (.inl (fun j => lN (dg 268435456 w (j))))))]) A)) (cc := cX4_subtract) (maxL := 7) (ret := none) (by decide) rfl (Nat.le_of_ble_eq_true rfl) ?_
  intro p e s m below meth c A ls hx hb hr hts hown hlocks hin hml hP hK hD hA hS hl
  have hl : lv_has ls 7 [(0, .ref h0), (1, .ref h1)] := hl
  have hown : s.vm.findClass RX4 = some m.cls := hown
  refine lv_lconst (v := lN (bor 268435456 v w 0)) hx hb dX4_subtract_0 (by rw [bor_0]; decide) ?_
  refine lv_lstore_n (lv' := [(2, .long (lN (bor 268435456 v w 0))), (0, .ref h0), (1, .ref h1)]) hx hb dX4_subtract_1 rfl hl (by decide) rfl (fun ls hl => ?_)
  refine lv_iconst (v := nI (0)) hx hb dX4_subtract_2 (by decide) ?_
  refine lv_istore (lv' := [(4, .int (nI (0))), (2, .long (lN (bor 268435456 v w 0))), (0, .ref h0), (1, .ref h1)]) hx hb dX4_subtract_3 hl (by decide) rfl (fun ls hl => ?_)
  have L_1 : ∀ (nn9 i : Nat), i + nn9 = 48 → ∀ (H : Heap) (locs : List Loc) (ls : Array Slot), va_P D vwCl [(h0, .inl (cL, 48, .inr (.inl (fun j => lN (if j < i then dg 268435456 (v - w) (j) else dg 268435456 v (j)))))), (h1, .inl (cL, 48, .inr (.inl (fun j => lN (dg 268435456 w (j))))))] H → va_D A [(h0, .inl (cL, 48, .inr (.inl (fun j => lN (if j < i then dg 268435456 (v - w) (j) else dg 268435456 v (j)))))), (h1, .inl (cL, 48, .inr (.inl (fun j => lN (dg 268435456 w (j))))))] → va_S A s.heap H locs → lv_has ls 7 [(0, .ref h0), (1, .ref h1), (2, .long (lN (bor 268435456 v w (i)))), (4, .int (nI (i)))] → W p l e ({ frames := 0, cells := 0, slots := 0, locals := 0 } : Room) s m (List.toArray [.ref h0, .ref h1]) below meth c H locs 0 0 (MQ below (va_Qv (fun _ => True) (fun (_ : Unit) => PostB D (gT cI cL cM) A [(h0, .inl (cL, 48, .inr (.inl (fun j => lN (dg 268435456 (v - w) (j)))))), (h1, .inl (cL, 48, .inr (.inl (fun j => lN (dg 268435456 w (j))))))]) A) (List.toArray [.ref h0, .ref h1]) s 0 0 A) (F0 m 5 ls []) := by
    intro nn9
    induction nn9 with
    | zero =>
      intro i hii H locs ls hP hD hS hl
      obtain rfl : 48 = i := by omega
      refine lv_iload hx hb dX4_subtract_5 (lv_at hl 3 rfl) ?_
      refine lv_bipush (v := nI (48)) hx hb dX4_subtract_7 (by decide) ?_
      refine n_icmp_ge (tgt := 56) hx hb (by omega) (by omega) dX4_subtract_9 (by decide) (fun c_2 => ?_) (fun c_2 => False.elim (by omega))
      have hP : va_P D vwCl [(h0, .inl (cL, 48, .inr (.inl (fun j => lN (dg 268435456 (v - w) (j)))))), (h1, .inl (cL, 48, .inr (.inl (fun j => lN (dg 268435456 w (j))))))] H := P_altL _ hP 0 rfl rfl (fun j hj => by rw [if_pos hj])
      have hD : va_D A [(h0, .inl (cL, 48, .inr (.inl (fun j => lN (dg 268435456 (v - w) (j)))))), (h1, .inl (cL, 48, .inr (.inl (fun j => lN (dg 268435456 w (j))))))] := D_alt hD (q0 := 0) rfl rfl
      exact k_vret hx hb hr hlocks hP hD hK hS [0, 1] () rfl (by decide) trivial dX4_subtract_56
    | succ nn9 ih =>
      intro i hii H locs ls hP hD hS hl
      have z1 := dg_lt B28 v i
      have z2 := dg_lt B28 w i
      have z3 := bor_le 268435456 v w i
      have z4 := dg_lt B28 (v - w) i
      have z5 := bor_step B28 v w i
      have z6 := sub_dig B28 hwv i
      refine lv_iload hx hb dX4_subtract_5 (lv_at hl 3 rfl) ?_
      refine lv_bipush (v := nI (48)) hx hb dX4_subtract_7 (by decide) ?_
      refine n_icmp_ge (tgt := 56) hx hb (by omega) (by omega) dX4_subtract_9 (by decide) (fun c_3 => False.elim (by omega)) (fun c_3 => ?_)
      by_cases hc : dg 268435456 w i + bor 268435456 v w i ≤ dg 268435456 v i
      · rw [if_pos hc] at z5 z6
        refine lv_aload_n hx hb dX4_subtract_12 rfl (lv_at hl 0 rfl) ?_
        refine lv_iload hx hb dX4_subtract_13 (lv_at hl 3 rfl) ?_
        refine n_lald (x := lN (dg 268435456 v i)) hx hb hK hP 0 1 rfl rfl (by omega) (by omega) (by simp) dX4_subtract_15 ?_
        refine lv_aload_n hx hb dX4_subtract_16 rfl (lv_at hl 1 rfl) ?_
        refine lv_iload hx hb dX4_subtract_17 (lv_at hl 3 rfl) ?_
        refine n_lald (x := lN (dg 268435456 w (i))) hx hb hK hP 1 1 rfl rfl (by omega) (by omega) rfl dX4_subtract_19 ?_
        refine n_lsub (r := (dg 268435456 v i) - (dg 268435456 w (i))) hx hb dX4_subtract_20 (by omega) rfl ?_
        refine lv_lload_n hx hb dX4_subtract_21 rfl (lv_at hl 2 rfl) ?_
        refine n_lsub (r := ((dg 268435456 v i) - (dg 268435456 w (i))) - (bor 268435456 v w (i))) hx hb dX4_subtract_22 (by omega) rfl ?_
        refine lv_lstore (lv' := [(5, .long (lN (((dg 268435456 v i) - (dg 268435456 w (i))) - (bor 268435456 v w (i))))), (0, .ref h0), (1, .ref h1), (2, .long (lN (bor 268435456 v w (i)))), (4, .int (nI (i)))]) hx hb dX4_subtract_23 hl (by decide) rfl (fun ls hl => ?_)
        refine lv_lload hx hb dX4_subtract_25 (lv_at hl 0 rfl) ?_
        refine lv_lconst (v := lN (0)) hx hb dX4_subtract_27 (by decide) ?_
        refine n_lcmp_ge (tgt := 36) hx hb (by omega) (by omega) dX4_subtract_28 dX4_subtract_29 (by decide) (fun c_4 => ?_) (fun c_4 => False.elim (by omega))
        refine lv_lconst (v := lN (bor 268435456 v w (i + 1))) hx hb dX4_subtract_36 (by rw [z5]; decide) ?_
        refine lv_lstore_n (lv' := [(2, .long (lN (bor 268435456 v w (i + 1)))), (5, .long (lN (((dg 268435456 v i) - (dg 268435456 w (i))) - (bor 268435456 v w (i))))), (0, .ref h0), (1, .ref h1), (4, .int (nI (i)))]) hx hb dX4_subtract_37 rfl hl (by decide) rfl (fun ls hl => ?_)
        refine lv_aload_n hx hb dX4_subtract_38 rfl (lv_at hl 2 rfl) ?_
        refine lv_iload hx hb dX4_subtract_39 (lv_at hl 4 rfl) ?_
        refine lv_lload hx hb dX4_subtract_41 (lv_at hl 1 rfl) ?_
        refine lv_lload_n hx hb dX4_subtract_43 rfl (lv_at hl 0 rfl) ?_
        refine lv_ldc2 hx hb hown (hts (.constantLong RX4 68 (268435456)) (by decide +kernel)) dX4_subtract_44 ?_
        rw [show (268435456 : Int64) = lN 268435456 from rfl]
        refine n_lmul (r := (bor 268435456 v w (i + 1)) * 268435456) hx hb dX4_subtract_47 rfl ?_
        refine n_ladd (r := dg 268435456 (v - w) i) hx hb dX4_subtract_48 (by omega) ?_
        refine n_last (f' := fun j => lN (if j < i + 1 then dg 268435456 (v - w) (j) else dg 268435456 v (j))) (ws' := [(h0, .inl (cL, 48, .inr (.inl (fun j => lN (if j < i + 1 then dg 268435456 (v - w) (j) else dg 268435456 v (j)))))), (h1, .inl (cL, 48, .inr (.inl (fun j => lN (dg 268435456 w (j))))))]) hx hb hK hP hD hS 0 1 rfl rfl (by omega) (by omega) (fun j _ => st_upL (fun j => dg 268435456 (v - w) j) (fun j => dg 268435456 v j) i j) rfl dX4_subtract_49 (fun H locs hP hD hS => ?_)
        refine lv_iinc (v := nI (i + 1)) (lv' := [(4, .int (nI (i + 1))), (2, .long (lN (bor 268435456 v w (i + 1)))), (5, .long (lN (((dg 268435456 v i) - (dg 268435456 w (i))) - (bor 268435456 v w (i))))), (0, .ref h0), (1, .ref h1)]) hx hb dX4_subtract_50 hl (k := 4) rfl (nI_add i 1) (by decide) rfl (fun ls hl => ?_)
        refine lv_goto (tgt := 5) hx hb dX4_subtract_53 (by decide) ?_
        exact ih (i + 1) (by omega) _ _ _ (P_pick hP [0, 1] rfl) (D_pick hD [0, 1] (by decide) rfl) hS (lv_sub hl [3, 4, 1, 0] rfl)
      · rw [if_neg hc] at z5 z6
        refine lv_aload_n hx hb dX4_subtract_12 rfl (lv_at hl 0 rfl) ?_
        refine lv_iload hx hb dX4_subtract_13 (lv_at hl 3 rfl) ?_
        refine n_lald (x := lN (dg 268435456 v i)) hx hb hK hP 0 1 rfl rfl (by omega) (by omega) (by simp) dX4_subtract_15 ?_
        refine lv_aload_n hx hb dX4_subtract_16 rfl (lv_at hl 1 rfl) ?_
        refine lv_iload hx hb dX4_subtract_17 (lv_at hl 3 rfl) ?_
        refine n_lald (x := lN (dg 268435456 w (i))) hx hb hK hP 1 1 rfl rfl (by omega) (by omega) rfl dX4_subtract_19 ?_
        refine lv_lsub hx hb dX4_subtract_20 ?_
        refine lv_lload_n hx hb dX4_subtract_21 rfl (lv_at hl 2 rfl) ?_
        refine lv_lsub hx hb dX4_subtract_22 ?_
        refine lv_lstore (lv' := [(5, .long (((lN (dg 268435456 v i)) - (lN (dg 268435456 w (i)))) - (lN (bor 268435456 v w (i))))), (0, .ref h0), (1, .ref h1), (2, .long (lN (bor 268435456 v w (i)))), (4, .int (nI (i)))]) hx hb dX4_subtract_23 hl (by decide) rfl (fun ls hl => ?_)
        refine lv_lload hx hb dX4_subtract_25 (lv_at hl 0 rfl) ?_
        refine lv_lconst (v := lN (0)) hx hb dX4_subtract_27 (by decide) ?_
        refine r_lcmp_ge (tgt := 36) hx hb dX4_subtract_28 dX4_subtract_29 (by decide) (fun c => absurd (Int64.le_iff_toInt_le.mp c) (by have q := Int64.lt_iff_toInt_lt.mp (lN3_neg (x := dg 268435456 v i) (y := dg 268435456 w i) (b := bor 268435456 v w i) (by omega) (by omega) (by omega) (by omega)); omega)) (fun c_5 => ?_)
        refine lv_lconst (v := lN (bor 268435456 v w (i + 1))) hx hb dX4_subtract_32 (by rw [z5]; decide) ?_
        refine lv_goto (tgt := 37) hx hb dX4_subtract_33 (by decide) ?_
        refine lv_lstore_n (lv' := [(2, .long (lN (bor 268435456 v w (i + 1)))), (5, .long (((lN (dg 268435456 v i)) - (lN (dg 268435456 w (i)))) - (lN (bor 268435456 v w (i))))), (0, .ref h0), (1, .ref h1), (4, .int (nI (i)))]) hx hb dX4_subtract_37 rfl hl (by decide) rfl (fun ls hl => ?_)
        refine lv_aload_n hx hb dX4_subtract_38 rfl (lv_at hl 2 rfl) ?_
        refine lv_iload hx hb dX4_subtract_39 (lv_at hl 4 rfl) ?_
        refine lv_lload hx hb dX4_subtract_41 (lv_at hl 1 rfl) ?_
        refine lv_lload_n hx hb dX4_subtract_43 rfl (lv_at hl 0 rfl) ?_
        refine lv_ldc2 hx hb hown (hts (.constantLong RX4 68 (268435456)) (by decide +kernel)) dX4_subtract_44 ?_
        rw [show (268435456 : Int64) = lN 268435456 from rfl]
        refine n_lmul (r := 268435456) hx hb dX4_subtract_47 (by omega) ?_
        refine lv_ladd hx hb dX4_subtract_48 ?_
        rw [show (((lN (dg 268435456 v i)) - (lN (dg 268435456 w (i)))) - (lN (bor 268435456 v w (i)))) + (lN (268435456)) = lN (dg 268435456 (v - w) i) from (by rw [lN3_fix (by omega) (by omega) (by omega) (by omega) (by omega), z6])]
        refine n_last (f' := fun j => lN (if j < i + 1 then dg 268435456 (v - w) (j) else dg 268435456 v (j))) (ws' := [(h0, .inl (cL, 48, .inr (.inl (fun j => lN (if j < i + 1 then dg 268435456 (v - w) (j) else dg 268435456 v (j)))))), (h1, .inl (cL, 48, .inr (.inl (fun j => lN (dg 268435456 w (j))))))]) hx hb hK hP hD hS 0 1 rfl rfl (by omega) (by omega) (fun j _ => st_upL (fun j => dg 268435456 (v - w) j) (fun j => dg 268435456 v j) i j) rfl dX4_subtract_49 (fun H locs hP hD hS => ?_)
        refine lv_iinc (v := nI (i + 1)) (lv' := [(4, .int (nI (i + 1))), (2, .long (lN (bor 268435456 v w (i + 1)))), (5, .long (((lN (dg 268435456 v i)) - (lN (dg 268435456 w (i)))) - (lN (bor 268435456 v w (i))))), (0, .ref h0), (1, .ref h1)]) hx hb dX4_subtract_50 hl (k := 4) rfl (nI_add i 1) (by decide) rfl (fun ls hl => ?_)
        refine lv_goto (tgt := 5) hx hb dX4_subtract_53 (by decide) ?_
        exact ih (i + 1) (by omega) _ _ _ (P_pick hP [0, 1] rfl) (D_pick hD [0, 1] (by decide) rfl) hS (lv_sub hl [3, 4, 1, 0] rfl)
  exact L_1 48 0 (by omega) _ _ _ (P_altL _ hP 0 rfl rfl (fun j _ => by simp)) (D_pick hD [0, 1] (by decide) rfl) hS (lv_sub hl [2, 3, 1, 0] rfl)
theorem in_X4_step_X4 : ∀ w ∈ wsX40, w ∈ wsX4_step := by decide +kernel
theorem fl_X4_step_32 : Cond.fieldLink RX4 32 "BulkSamplesModel" "rows" "[J" ∈ wsX4_step := by decide +kernel
set_option maxHeartbeats 4000000 in
set_option maxRecDepth 100000 in
/-- step -/
theorem d_step (l : Launch) (D : va_G) (cI cL cM : ClassId) (sz : Nat) (h0 yI yD yN yW yP yG yR yS yA yL yT tz cnt te tr : Nat) (V : Nat → Nat) (k f g : Nat) (hk : k ≤ 201) (hf2 : f ≤ 201) (hg2 : g ≤ 201) : Met l yX4_step wsX4_step ({ frames := 0, cells := 0, slots := 0, locals := 0 } : Room) (va_Pc [.ref h0, .int (nI (k)), .long (lN (f)), .long (lN (g))] (PreB D (gT cI cL cM) sz [(h0, .inr (4, [.int (nI (tz)), .int (nI (cnt)), .ref yI, .ref yD, .ref yN, .ref yW, .int (nI (te)), .int (nI (tr)), .ref yP, .ref yG, .ref yR, .ref yS, .ref yA, .ref yL, .ref yT])), (yR, .inl (cL, 9696, .inr (.inl (fun j => lN (rowF V (j))))))])) (va_Qv (fun _ => True) (fun (_ : Unit) => PostB D (gT cI cL cM) (va_A [(h0, .inr (4, [.int (nI (tz)), .int (nI (cnt)), .ref yI, .ref yD, .ref yN, .ref yW, .int (nI (te)), .int (nI (tr)), .ref yP, .ref yG, .ref yR, .ref yS, .ref yA, .ref yL, .ref yT])), (yR, .inl (cL, 9696, .inr (.inl (fun j => lN (rowF V (j))))))] sz) [(h0, .inr (4, [.int (nI (tz)), .int (nI (cnt)), .ref yI, .ref yD, .ref yN, .ref yW, .int (nI (te)), .int (nI (tr)), .ref yP, .ref yG, .ref yR, .ref yS, .ref yA, .ref yL, .ref yT])), (yR, .inl (cL, 9696, .inr (.inl (fun j => lN (rowF (upN V k (stV V k f g)) (j))))))]) (va_A [(h0, .inr (4, [.int (nI (tz)), .int (nI (cnt)), .ref yI, .ref yD, .ref yN, .ref yW, .int (nI (te)), .int (nI (tr)), .ref yP, .ref yG, .ref yR, .ref yS, .ref yA, .ref yL, .ref yT])), (yR, .inl (cL, 9696, .inr (.inl (fun j => lN (rowF V (j))))))] sz)) 0 0 (va_A [(h0, .inr (4, [.int (nI (tz)), .int (nI (cnt)), .ref yI, .ref yD, .ref yN, .ref yW, .int (nI (te)), .int (nI (tr)), .ref yP, .ref yG, .ref yR, .ref yS, .ref yA, .ref yL, .ref yT])), (yR, .inl (cL, 9696, .inr (.inl (fun j => lN (rowF V (j))))))] sz) := by
  refine k_start (fun A => (va_Qv (fun _ => True) (fun (_ : Unit) => PostB D (gT cI cL cM) A [(h0, .inr (4, [.int (nI (tz)), .int (nI (cnt)), .ref yI, .ref yD, .ref yN, .ref yW, .int (nI (te)), .int (nI (tr)), .ref yP, .ref yG, .ref yR, .ref yS, .ref yA, .ref yL, .ref yT])), (yR, .inl (cL, 9696, .inr (.inl (fun j => lN (rowF (upN V k (stV V k f g)) (j))))))]) A)) (cc := cX4_step) (maxL := 11) (ret := none) (by decide) rfl (Nat.le_of_ble_eq_true rfl) ?_
  intro p e s m below meth c A ls hx hb hr hts hown hlocks hin hml hP hK hD hA hS hl
  have hl : lv_has ls 11 [(0, .ref h0), (1, .int (nI (k))), (2, .long (lN (f))), (4, .long (lN (g)))] := hl
  have hown : s.vm.findClass RX4 = some m.cls := hown
  by_cases hk0 : k = 0
  · have hnv : stV V k f g = V k * f := by rw [stV, if_pos hk0, Nat.add_zero]
    refine lv_lconst (v := lN (car 268435456 (V k) f 0 0 (0))) hx hb dX4_step_0 (by rw [car_0]; decide) ?_
    refine lv_lstore (lv' := [(6, .long (lN (car 268435456 (V k) f 0 0 (0)))), (0, .ref h0), (1, .int (nI (k))), (2, .long (lN (f))), (4, .long (lN (g)))]) hx hb dX4_step_1 hl (by decide) rfl (fun ls hl => ?_)
    refine lv_iconst (v := nI (0)) hx hb dX4_step_3 (by decide) ?_
    refine lv_istore (lv' := [(8, .int (nI (0))), (6, .long (lN (car 268435456 (V k) f 0 0 (0)))), (0, .ref h0), (1, .int (nI (k))), (2, .long (lN (f))), (4, .long (lN (g)))]) hx hb dX4_step_4 hl (by decide) rfl (fun ls hl => ?_)
    have L_1 : ∀ (nn9 i : Nat), i + nn9 = 48 → ∀ (H : Heap) (locs : List Loc) (ls : Array Slot), va_P D vwCl [(h0, .inr (4, [.int (nI (tz)), .int (nI (cnt)), .ref yI, .ref yD, .ref yN, .ref yW, .int (nI (te)), .int (nI (tr)), .ref yP, .ref yG, .ref yR, .ref yS, .ref yA, .ref yL, .ref yT])), (yR, .inl (cL, 9696, .inr (.inl (fun j => lN (if (j) / 48 = k ∧ (j) % 48 < i then dg 268435456 (stV V k f g) ((j) % 48) else rowF V (j))))))] H → va_D A [(h0, .inr (4, [.int (nI (tz)), .int (nI (cnt)), .ref yI, .ref yD, .ref yN, .ref yW, .int (nI (te)), .int (nI (tr)), .ref yP, .ref yG, .ref yR, .ref yS, .ref yA, .ref yL, .ref yT])), (yR, .inl (cL, 9696, .inr (.inl (fun j => lN (if (j) / 48 = k ∧ (j) % 48 < i then dg 268435456 (stV V k f g) ((j) % 48) else rowF V (j))))))] → va_S A s.heap H locs → lv_has ls 11 [(0, .ref h0), (1, .int (nI (k))), (2, .long (lN (f))), (4, .long (lN (g))), (6, .long (lN (car 268435456 (V k) f 0 0 (i)))), (8, .int (nI (i)))] → W p l e ({ frames := 0, cells := 0, slots := 0, locals := 0 } : Room) s m (List.toArray [.ref h0, .int (nI (k)), .long (lN (f)), .long (lN (g))]) below meth c H locs 0 0 (MQ below (va_Qv (fun _ => True) (fun (_ : Unit) => PostB D (gT cI cL cM) A [(h0, .inr (4, [.int (nI (tz)), .int (nI (cnt)), .ref yI, .ref yD, .ref yN, .ref yW, .int (nI (te)), .int (nI (tr)), .ref yP, .ref yG, .ref yR, .ref yS, .ref yA, .ref yL, .ref yT])), (yR, .inl (cL, 9696, .inr (.inl (fun j => lN (rowF (upN V k (stV V k f g)) (j))))))]) A) (List.toArray [.ref h0, .int (nI (k)), .long (lN (f)), .long (lN (g))]) s 0 0 A) (F0 m 6 ls []) := by
      intro nn9
      induction nn9 with
      | zero =>
        intro i hii H locs ls hP hD hS hl
        obtain rfl : 48 = i := by omega
        refine lv_iload hx hb dX4_step_6 (lv_at hl 5 rfl) ?_
        refine lv_bipush (v := nI (48)) hx hb dX4_step_8 (by decide) ?_
        refine n_icmp_ge (tgt := 94) hx hb (by omega) (by omega) dX4_step_10 (by decide) (fun c_2 => ?_) (fun c_2 => False.elim (by omega))
        have hP : va_P D vwCl [(h0, .inr (4, [.int (nI (tz)), .int (nI (cnt)), .ref yI, .ref yD, .ref yN, .ref yW, .int (nI (te)), .int (nI (tr)), .ref yP, .ref yG, .ref yR, .ref yS, .ref yA, .ref yL, .ref yT])), (yR, .inl (cL, 9696, .inr (.inl (fun j => lN (rowF (upN V k (stV V k f g)) (j))))))] H := P_altL _ hP 1 rfl rfl (fun j _ => congrArg lN (row_end V k _ j))
        have hD : va_D A [(h0, .inr (4, [.int (nI (tz)), .int (nI (cnt)), .ref yI, .ref yD, .ref yN, .ref yW, .int (nI (te)), .int (nI (tr)), .ref yP, .ref yG, .ref yR, .ref yS, .ref yA, .ref yL, .ref yT])), (yR, .inl (cL, 9696, .inr (.inl (fun j => lN (rowF (upN V k (stV V k f g)) (j))))))] := D_alt hD (q0 := 1) rfl rfl
        exact k_vret hx hb hr hlocks hP hD hK hS [0, 1] () rfl (by decide) trivial dX4_step_94
      | succ nn9 ih =>
        intro i hii H locs ls hP hD hS hl
        have hf8 : f ≤ 40000 := by omega
        have hm := mul_room (v := V k) (i := i) B28 hf8
        have e1 : (48 * k + i) / 48 = k := by omega
        have e2 : (48 * k + i) % 48 = i := by omega
        have e3 : 48 * k + i < 9696 := by omega
        refine lv_iload hx hb dX4_step_6 (lv_at hl 5 rfl) ?_
        refine lv_bipush (v := nI (48)) hx hb dX4_step_8 (by decide) ?_
        refine n_icmp_ge (tgt := 94) hx hb (by omega) (by omega) dX4_step_10 (by decide) (fun c_3 => False.elim (by omega)) (fun c_3 => ?_)
        refine lv_aload_n hx hb dX4_step_13 rfl (lv_at hl 0 rfl) ?_
        refine va_get (D := D) (cl := vwCl) (ci := 4) (v := .ref yR) (C := RX4) (T := TX4) (N := 15) hx hb hts in_X4_step_X4 hown hK hP 0 rfl rfl 10 (by decide) (hts (.fieldLink RX4 32 "BulkSamplesModel" "rows" "[J") fl_X4_step_32) (fun _ h9 => h9) rfl dX4_step_14 ?_
        refine lv_bipush (v := nI (48)) hx hb dX4_step_17 (by decide) ?_
        refine lv_iload_n hx hb dX4_step_19 rfl (lv_at hl 1 rfl) ?_
        refine n_imul (r := 48 * k) hx hb dX4_step_20 rfl ?_
        refine lv_iload hx hb dX4_step_21 (lv_at hl 5 rfl) ?_
        refine n_iadd (r := (48 * k) + i) hx hb dX4_step_23 rfl ?_
        refine n_lald (x := lN (dg 268435456 (V k) i)) hx hb hK hP 1 1 rfl rfl e3 (by omega) (by rw [if_neg (by omega), rowF, e1, e2]) dX4_step_24 ?_
        refine lv_lload_n hx hb dX4_step_25 rfl (lv_at hl 2 rfl) ?_
        refine n_lmul (r := (dg 268435456 (V k) i) * f) hx hb dX4_step_26 rfl ?_
        refine lv_lstore (lv' := [(9, .long (lN ((dg 268435456 (V k) i) * f))), (0, .ref h0), (1, .int (nI (k))), (2, .long (lN (f))), (4, .long (lN (g))), (6, .long (lN (car 268435456 (V k) f 0 0 (i)))), (8, .int (nI (i)))]) hx hb dX4_step_27 hl (by decide) rfl (fun ls hl => ?_)
        refine lv_iload_n hx hb dX4_step_29 rfl (lv_at hl 2 rfl) ?_
        refine n_if_le (tgt := 55) hx hb (by omega) dX4_step_30 (by decide) (fun c_4 => ?_) (fun c_4 => False.elim (by omega))
        refine lv_lload hx hb dX4_step_55 (lv_at hl 5 rfl) ?_
        refine lv_lload hx hb dX4_step_57 (lv_at hl 0 rfl) ?_
        refine n_ladd (r := (car 268435456 (V k) f 0 0 (i)) + ((dg 268435456 (V k) i) * f)) hx hb dX4_step_59 rfl ?_
        refine lv_lstore (lv' := [(6, .long (lN ((car 268435456 (V k) f 0 0 (i)) + ((dg 268435456 (V k) i) * f)))), (9, .long (lN ((dg 268435456 (V k) i) * f))), (0, .ref h0), (1, .int (nI (k))), (2, .long (lN (f))), (4, .long (lN (g))), (8, .int (nI (i)))]) hx hb dX4_step_60 hl (by decide) rfl (fun ls hl => ?_)
        refine lv_aload_n hx hb dX4_step_62 rfl (lv_at hl 2 rfl) ?_
        refine va_get (D := D) (cl := vwCl) (ci := 4) (v := .ref yR) (C := RX4) (T := TX4) (N := 15) hx hb hts in_X4_step_X4 hown hK hP 0 rfl rfl 10 (by decide) (hts (.fieldLink RX4 32 "BulkSamplesModel" "rows" "[J") fl_X4_step_32) (fun _ h9 => h9) rfl dX4_step_63 ?_
        refine lv_bipush (v := nI (48)) hx hb dX4_step_66 (by decide) ?_
        refine lv_iload_n hx hb dX4_step_68 rfl (lv_at hl 3 rfl) ?_
        refine n_imul (r := 48 * k) hx hb dX4_step_69 rfl ?_
        refine lv_iload hx hb dX4_step_70 (lv_at hl 6 rfl) ?_
        refine n_iadd (r := (48 * k) + i) hx hb dX4_step_72 rfl ?_
        refine lv_lload hx hb dX4_step_73 (lv_at hl 0 rfl) ?_
        refine lv_ldc2 hx hb hown (hts (.constantLong RX4 68 (268435456)) (by decide +kernel)) dX4_step_75 ?_
        rw [show (268435456 : Int64) = lN 268435456 from rfl]
        refine n_lrem (r := dg 268435456 (stV V k f g) i) hx hb dX4_step_78 (by omega) (by omega) (by omega) (by rw [hnv]; rw [Nat.add_comm]; exact mul_dig B28 (V k) f i) ?_
        refine n_last (f' := fun j => lN (if (j) / 48 = k ∧ (j) % 48 < i + 1 then dg 268435456 (stV V k f g) ((j) % 48) else rowF V (j))) (ws' := [(h0, .inr (4, [.int (nI (tz)), .int (nI (cnt)), .ref yI, .ref yD, .ref yN, .ref yW, .int (nI (te)), .int (nI (tr)), .ref yP, .ref yG, .ref yR, .ref yS, .ref yA, .ref yL, .ref yT])), (yR, .inl (cL, 9696, .inr (.inl (fun j => lN (if (j) / 48 = k ∧ (j) % 48 < i + 1 then dg 268435456 (stV V k f g) ((j) % 48) else rowF V (j))))))]) hx hb hK hP hD hS 1 1 rfl rfl e3 (by omega) (fun j _ => st_row (fun j => dg 268435456 (stV V k f g) j) (fun j => rowF V j) k i j (by omega)) rfl dX4_step_79 (fun H locs hP hD hS => ?_)
        refine lv_lload hx hb dX4_step_80 (lv_at hl 0 rfl) ?_
        refine lv_ldc2 hx hb hown (hts (.constantLong RX4 68 (268435456)) (by decide +kernel)) dX4_step_82 ?_
        rw [show (268435456 : Int64) = lN 268435456 from rfl]
        refine n_ldiv (r := car 268435456 (V k) f 0 0 (i + 1)) hx hb dX4_step_85 (by omega) (by omega) (by omega) (by rw [Nat.add_comm]; exact mul_step B28 (V k) f i) ?_
        refine lv_lstore (lv' := [(6, .long (lN (car 268435456 (V k) f 0 0 (i + 1)))), (9, .long (lN ((dg 268435456 (V k) i) * f))), (0, .ref h0), (1, .int (nI (k))), (2, .long (lN (f))), (4, .long (lN (g))), (8, .int (nI (i)))]) hx hb dX4_step_86 hl (by decide) rfl (fun ls hl => ?_)
        refine lv_iinc (v := nI (i + 1)) (lv' := [(8, .int (nI (i + 1))), (6, .long (lN (car 268435456 (V k) f 0 0 (i + 1)))), (9, .long (lN ((dg 268435456 (V k) i) * f))), (0, .ref h0), (1, .int (nI (k))), (2, .long (lN (f))), (4, .long (lN (g)))]) hx hb dX4_step_88 hl (k := 6) rfl (nI_add i 1) (by decide) rfl (fun ls hl => ?_)
        refine lv_goto (tgt := 6) hx hb dX4_step_91 (by decide) ?_
        exact ih (i + 1) (by omega) _ _ _ (P_pick hP [0, 1] rfl) (D_pick hD [0, 1] (by decide) rfl) hS (lv_sub hl [3, 4, 5, 6, 1, 0] rfl)
    exact L_1 48 0 (by omega) _ _ _ (P_altL _ hP 1 rfl rfl (fun j _ => by simp)) (D_pick hD [0, 1] (by decide) rfl) hS (lv_sub hl [2, 3, 4, 5, 1, 0] rfl)
  · have hnv : stV V k f g = V k * f + V (k - 1) * g := by rw [stV, if_neg hk0]
    refine lv_lconst (v := lN (car 268435456 (V k) f (V (k - 1)) g (0))) hx hb dX4_step_0 (by rw [car_0]; decide) ?_
    refine lv_lstore (lv' := [(6, .long (lN (car 268435456 (V k) f (V (k - 1)) g (0)))), (0, .ref h0), (1, .int (nI (k))), (2, .long (lN (f))), (4, .long (lN (g)))]) hx hb dX4_step_1 hl (by decide) rfl (fun ls hl => ?_)
    refine lv_iconst (v := nI (0)) hx hb dX4_step_3 (by decide) ?_
    refine lv_istore (lv' := [(8, .int (nI (0))), (6, .long (lN (car 268435456 (V k) f (V (k - 1)) g (0)))), (0, .ref h0), (1, .int (nI (k))), (2, .long (lN (f))), (4, .long (lN (g)))]) hx hb dX4_step_4 hl (by decide) rfl (fun ls hl => ?_)
    have L_5 : ∀ (nn9 i : Nat), i + nn9 = 48 → ∀ (H : Heap) (locs : List Loc) (ls : Array Slot), va_P D vwCl [(h0, .inr (4, [.int (nI (tz)), .int (nI (cnt)), .ref yI, .ref yD, .ref yN, .ref yW, .int (nI (te)), .int (nI (tr)), .ref yP, .ref yG, .ref yR, .ref yS, .ref yA, .ref yL, .ref yT])), (yR, .inl (cL, 9696, .inr (.inl (fun j => lN (if (j) / 48 = k ∧ (j) % 48 < i then dg 268435456 (stV V k f g) ((j) % 48) else rowF V (j))))))] H → va_D A [(h0, .inr (4, [.int (nI (tz)), .int (nI (cnt)), .ref yI, .ref yD, .ref yN, .ref yW, .int (nI (te)), .int (nI (tr)), .ref yP, .ref yG, .ref yR, .ref yS, .ref yA, .ref yL, .ref yT])), (yR, .inl (cL, 9696, .inr (.inl (fun j => lN (if (j) / 48 = k ∧ (j) % 48 < i then dg 268435456 (stV V k f g) ((j) % 48) else rowF V (j))))))] → va_S A s.heap H locs → lv_has ls 11 [(0, .ref h0), (1, .int (nI (k))), (2, .long (lN (f))), (4, .long (lN (g))), (6, .long (lN (car 268435456 (V k) f (V (k - 1)) g (i)))), (8, .int (nI (i)))] → W p l e ({ frames := 0, cells := 0, slots := 0, locals := 0 } : Room) s m (List.toArray [.ref h0, .int (nI (k)), .long (lN (f)), .long (lN (g))]) below meth c H locs 0 0 (MQ below (va_Qv (fun _ => True) (fun (_ : Unit) => PostB D (gT cI cL cM) A [(h0, .inr (4, [.int (nI (tz)), .int (nI (cnt)), .ref yI, .ref yD, .ref yN, .ref yW, .int (nI (te)), .int (nI (tr)), .ref yP, .ref yG, .ref yR, .ref yS, .ref yA, .ref yL, .ref yT])), (yR, .inl (cL, 9696, .inr (.inl (fun j => lN (rowF (upN V k (stV V k f g)) (j))))))]) A) (List.toArray [.ref h0, .int (nI (k)), .long (lN (f)), .long (lN (g))]) s 0 0 A) (F0 m 6 ls []) := by
      intro nn9
      induction nn9 with
      | zero =>
        intro i hii H locs ls hP hD hS hl
        obtain rfl : 48 = i := by omega
        refine lv_iload hx hb dX4_step_6 (lv_at hl 5 rfl) ?_
        refine lv_bipush (v := nI (48)) hx hb dX4_step_8 (by decide) ?_
        refine n_icmp_ge (tgt := 94) hx hb (by omega) (by omega) dX4_step_10 (by decide) (fun c_6 => ?_) (fun c_6 => False.elim (by omega))
        have hP : va_P D vwCl [(h0, .inr (4, [.int (nI (tz)), .int (nI (cnt)), .ref yI, .ref yD, .ref yN, .ref yW, .int (nI (te)), .int (nI (tr)), .ref yP, .ref yG, .ref yR, .ref yS, .ref yA, .ref yL, .ref yT])), (yR, .inl (cL, 9696, .inr (.inl (fun j => lN (rowF (upN V k (stV V k f g)) (j))))))] H := P_altL _ hP 1 rfl rfl (fun j _ => congrArg lN (row_end V k _ j))
        have hD : va_D A [(h0, .inr (4, [.int (nI (tz)), .int (nI (cnt)), .ref yI, .ref yD, .ref yN, .ref yW, .int (nI (te)), .int (nI (tr)), .ref yP, .ref yG, .ref yR, .ref yS, .ref yA, .ref yL, .ref yT])), (yR, .inl (cL, 9696, .inr (.inl (fun j => lN (rowF (upN V k (stV V k f g)) (j))))))] := D_alt hD (q0 := 1) rfl rfl
        exact k_vret hx hb hr hlocks hP hD hK hS [0, 1] () rfl (by decide) trivial dX4_step_94
      | succ nn9 ih =>
        intro i hii H locs ls hP hD hS hl
        have hf8 : f ≤ 40000 := by omega
        have hm := room2 (v := V k) (w := V (k - 1)) (i := i) hf2 hg2
        have e1 : (48 * k + i) / 48 = k := by omega
        have e2 : (48 * k + i) % 48 = i := by omega
        have e3 : 48 * k + i < 9696 := by omega
        have e4 : (48 * (k - 1) + i) / 48 = k - 1 := by omega
        have e5 : (48 * (k - 1) + i) % 48 = i := by omega
        have e6 : 48 * (k - 1) + i < 9696 := by omega
        refine lv_iload hx hb dX4_step_6 (lv_at hl 5 rfl) ?_
        refine lv_bipush (v := nI (48)) hx hb dX4_step_8 (by decide) ?_
        refine n_icmp_ge (tgt := 94) hx hb (by omega) (by omega) dX4_step_10 (by decide) (fun c_7 => False.elim (by omega)) (fun c_7 => ?_)
        refine lv_aload_n hx hb dX4_step_13 rfl (lv_at hl 0 rfl) ?_
        refine va_get (D := D) (cl := vwCl) (ci := 4) (v := .ref yR) (C := RX4) (T := TX4) (N := 15) hx hb hts in_X4_step_X4 hown hK hP 0 rfl rfl 10 (by decide) (hts (.fieldLink RX4 32 "BulkSamplesModel" "rows" "[J") fl_X4_step_32) (fun _ h9 => h9) rfl dX4_step_14 ?_
        refine lv_bipush (v := nI (48)) hx hb dX4_step_17 (by decide) ?_
        refine lv_iload_n hx hb dX4_step_19 rfl (lv_at hl 1 rfl) ?_
        refine n_imul (r := 48 * k) hx hb dX4_step_20 rfl ?_
        refine lv_iload hx hb dX4_step_21 (lv_at hl 5 rfl) ?_
        refine n_iadd (r := (48 * k) + i) hx hb dX4_step_23 rfl ?_
        refine n_lald (x := lN (dg 268435456 (V k) i)) hx hb hK hP 1 1 rfl rfl e3 (by omega) (by rw [if_neg (by omega), rowF, e1, e2]) dX4_step_24 ?_
        refine lv_lload_n hx hb dX4_step_25 rfl (lv_at hl 2 rfl) ?_
        refine n_lmul (r := (dg 268435456 (V k) i) * f) hx hb dX4_step_26 rfl ?_
        refine lv_lstore (lv' := [(9, .long (lN ((dg 268435456 (V k) i) * f))), (0, .ref h0), (1, .int (nI (k))), (2, .long (lN (f))), (4, .long (lN (g))), (6, .long (lN (car 268435456 (V k) f (V (k - 1)) g (i)))), (8, .int (nI (i)))]) hx hb dX4_step_27 hl (by decide) rfl (fun ls hl => ?_)
        refine lv_iload_n hx hb dX4_step_29 rfl (lv_at hl 2 rfl) ?_
        refine n_if_le (tgt := 55) hx hb (by omega) dX4_step_30 (by decide) (fun c_8 => False.elim (by omega)) (fun c_8 => ?_)
        refine lv_lload hx hb dX4_step_33 (lv_at hl 0 rfl) ?_
        refine lv_aload_n hx hb dX4_step_35 rfl (lv_at hl 1 rfl) ?_
        refine va_get (D := D) (cl := vwCl) (ci := 4) (v := .ref yR) (C := RX4) (T := TX4) (N := 15) hx hb hts in_X4_step_X4 hown hK hP 0 rfl rfl 10 (by decide) (hts (.fieldLink RX4 32 "BulkSamplesModel" "rows" "[J") fl_X4_step_32) (fun _ h9 => h9) rfl dX4_step_36 ?_
        refine lv_bipush (v := nI (48)) hx hb dX4_step_39 (by decide) ?_
        refine lv_iload_n hx hb dX4_step_41 rfl (lv_at hl 2 rfl) ?_
        refine lv_iconst (v := nI (1)) hx hb dX4_step_42 (by decide) ?_
        refine n_isub (r := k - 1) hx hb dX4_step_43 (by omega) rfl ?_
        refine n_imul (r := 48 * (k - 1)) hx hb dX4_step_44 rfl ?_
        refine lv_iload hx hb dX4_step_45 (lv_at hl 6 rfl) ?_
        refine n_iadd (r := (48 * (k - 1)) + i) hx hb dX4_step_47 rfl ?_
        refine n_lald (x := lN (dg 268435456 (V (k - 1)) i)) hx hb hK hP 1 1 rfl rfl e6 (by omega) (by rw [if_neg (by omega), rowF, e4, e5]) dX4_step_48 ?_
        refine lv_lload hx hb dX4_step_49 (lv_at hl 4 rfl) ?_
        refine n_lmul (r := (dg 268435456 (V (k - 1)) i) * g) hx hb dX4_step_51 rfl ?_
        refine n_ladd (r := ((dg 268435456 (V k) i) * f) + ((dg 268435456 (V (k - 1)) i) * g)) hx hb dX4_step_52 rfl ?_
        refine lv_lstore (lv' := [(9, .long (lN (((dg 268435456 (V k) i) * f) + ((dg 268435456 (V (k - 1)) i) * g)))), (0, .ref h0), (1, .int (nI (k))), (2, .long (lN (f))), (4, .long (lN (g))), (6, .long (lN (car 268435456 (V k) f (V (k - 1)) g (i)))), (8, .int (nI (i)))]) hx hb dX4_step_53 hl (by decide) rfl (fun ls hl => ?_)
        refine lv_lload hx hb dX4_step_55 (lv_at hl 5 rfl) ?_
        refine lv_lload hx hb dX4_step_57 (lv_at hl 0 rfl) ?_
        refine n_ladd (r := (car 268435456 (V k) f (V (k - 1)) g (i)) + (((dg 268435456 (V k) i) * f) + ((dg 268435456 (V (k - 1)) i) * g))) hx hb dX4_step_59 rfl ?_
        refine lv_lstore (lv' := [(6, .long (lN ((car 268435456 (V k) f (V (k - 1)) g (i)) + (((dg 268435456 (V k) i) * f) + ((dg 268435456 (V (k - 1)) i) * g))))), (9, .long (lN (((dg 268435456 (V k) i) * f) + ((dg 268435456 (V (k - 1)) i) * g)))), (0, .ref h0), (1, .int (nI (k))), (2, .long (lN (f))), (4, .long (lN (g))), (8, .int (nI (i)))]) hx hb dX4_step_60 hl (by decide) rfl (fun ls hl => ?_)
        refine lv_aload_n hx hb dX4_step_62 rfl (lv_at hl 2 rfl) ?_
        refine va_get (D := D) (cl := vwCl) (ci := 4) (v := .ref yR) (C := RX4) (T := TX4) (N := 15) hx hb hts in_X4_step_X4 hown hK hP 0 rfl rfl 10 (by decide) (hts (.fieldLink RX4 32 "BulkSamplesModel" "rows" "[J") fl_X4_step_32) (fun _ h9 => h9) rfl dX4_step_63 ?_
        refine lv_bipush (v := nI (48)) hx hb dX4_step_66 (by decide) ?_
        refine lv_iload_n hx hb dX4_step_68 rfl (lv_at hl 3 rfl) ?_
        refine n_imul (r := 48 * k) hx hb dX4_step_69 rfl ?_
        refine lv_iload hx hb dX4_step_70 (lv_at hl 6 rfl) ?_
        refine n_iadd (r := (48 * k) + i) hx hb dX4_step_72 rfl ?_
        refine lv_lload hx hb dX4_step_73 (lv_at hl 0 rfl) ?_
        refine lv_ldc2 hx hb hown (hts (.constantLong RX4 68 (268435456)) (by decide +kernel)) dX4_step_75 ?_
        rw [show (268435456 : Int64) = lN 268435456 from rfl]
        refine n_lrem (r := dg 268435456 (stV V k f g) i) hx hb dX4_step_78 (by omega) (by omega) (by omega) (by rw [hnv]; rw [Nat.add_comm]; exact car_dig B28 (V k) f (V (k - 1)) g i) ?_
        refine n_last (f' := fun j => lN (if (j) / 48 = k ∧ (j) % 48 < i + 1 then dg 268435456 (stV V k f g) ((j) % 48) else rowF V (j))) (ws' := [(h0, .inr (4, [.int (nI (tz)), .int (nI (cnt)), .ref yI, .ref yD, .ref yN, .ref yW, .int (nI (te)), .int (nI (tr)), .ref yP, .ref yG, .ref yR, .ref yS, .ref yA, .ref yL, .ref yT])), (yR, .inl (cL, 9696, .inr (.inl (fun j => lN (if (j) / 48 = k ∧ (j) % 48 < i + 1 then dg 268435456 (stV V k f g) ((j) % 48) else rowF V (j))))))]) hx hb hK hP hD hS 1 1 rfl rfl e3 (by omega) (fun j _ => st_row (fun j => dg 268435456 (stV V k f g) j) (fun j => rowF V j) k i j (by omega)) rfl dX4_step_79 (fun H locs hP hD hS => ?_)
        refine lv_lload hx hb dX4_step_80 (lv_at hl 0 rfl) ?_
        refine lv_ldc2 hx hb hown (hts (.constantLong RX4 68 (268435456)) (by decide +kernel)) dX4_step_82 ?_
        rw [show (268435456 : Int64) = lN 268435456 from rfl]
        refine n_ldiv (r := car 268435456 (V k) f (V (k - 1)) g (i + 1)) hx hb dX4_step_85 (by omega) (by omega) (by omega) (by rw [Nat.add_comm]; exact car_step B28 (V k) f (V (k - 1)) g i) ?_
        refine lv_lstore (lv' := [(6, .long (lN (car 268435456 (V k) f (V (k - 1)) g (i + 1)))), (9, .long (lN (((dg 268435456 (V k) i) * f) + ((dg 268435456 (V (k - 1)) i) * g)))), (0, .ref h0), (1, .int (nI (k))), (2, .long (lN (f))), (4, .long (lN (g))), (8, .int (nI (i)))]) hx hb dX4_step_86 hl (by decide) rfl (fun ls hl => ?_)
        refine lv_iinc (v := nI (i + 1)) (lv' := [(8, .int (nI (i + 1))), (6, .long (lN (car 268435456 (V k) f (V (k - 1)) g (i + 1)))), (9, .long (lN (((dg 268435456 (V k) i) * f) + ((dg 268435456 (V (k - 1)) i) * g)))), (0, .ref h0), (1, .int (nI (k))), (2, .long (lN (f))), (4, .long (lN (g)))]) hx hb dX4_step_88 hl (k := 6) rfl (nI_add i 1) (by decide) rfl (fun ls hl => ?_)
        refine lv_goto (tgt := 6) hx hb dX4_step_91 (by decide) ?_
        exact ih (i + 1) (by omega) _ _ _ (P_pick hP [0, 1] rfl) (D_pick hD [0, 1] (by decide) rfl) hS (lv_sub hl [3, 4, 5, 6, 1, 0] rfl)
    exact L_5 48 0 (by omega) _ _ _ (P_altL _ hP 1 rfl rfl (fun j _ => by simp)) (D_pick hD [0, 1] (by decide) rfl) hS (lv_sub hl [2, 3, 4, 5, 1, 0] rfl)
theorem in_X4_addRow_X4 : ∀ w ∈ wsX40, w ∈ wsX4_addRow := by decide +kernel
theorem fl_X4_addRow_32 : Cond.fieldLink RX4 32 "BulkSamplesModel" "rows" "[J" ∈ wsX4_addRow := by decide +kernel
theorem fl_X4_addRow_36 : Cond.fieldLink RX4 36 "BulkSamplesModel" "some" "[J" ∈ wsX4_addRow := by decide +kernel
set_option maxHeartbeats 4000000 in
set_option maxRecDepth 100000 in
/-- addRow -/
theorem d_addrow (l : Launch) (D : va_G) (cI cL cM : ClassId) (sz : Nat) (h0 yI yD yN yW yP yG yR yS yA yL yT tz cnt te tr : Nat) (V : Nat → Nat) (k v : Nat) (hk : k ≤ 201) : Met l yX4_addRow wsX4_addRow ({ frames := 0, cells := 0, slots := 0, locals := 0 } : Room) (va_Pc [.ref h0, .int (nI (k))] (PreB D (gT cI cL cM) sz [(h0, .inr (4, [.int (nI (tz)), .int (nI (cnt)), .ref yI, .ref yD, .ref yN, .ref yW, .int (nI (te)), .int (nI (tr)), .ref yP, .ref yG, .ref yR, .ref yS, .ref yA, .ref yL, .ref yT])), (yR, .inl (cL, 9696, .inr (.inl (fun j => lN (rowF V (j)))))), (yS, .inl (cL, 48, .inr (.inl (fun j => lN (dg 268435456 v (j))))))])) (va_Qv (fun _ => True) (fun (_ : Unit) => PostB D (gT cI cL cM) (va_A [(h0, .inr (4, [.int (nI (tz)), .int (nI (cnt)), .ref yI, .ref yD, .ref yN, .ref yW, .int (nI (te)), .int (nI (tr)), .ref yP, .ref yG, .ref yR, .ref yS, .ref yA, .ref yL, .ref yT])), (yR, .inl (cL, 9696, .inr (.inl (fun j => lN (rowF V (j)))))), (yS, .inl (cL, 48, .inr (.inl (fun j => lN (dg 268435456 v (j))))))] sz) [(h0, .inr (4, [.int (nI (tz)), .int (nI (cnt)), .ref yI, .ref yD, .ref yN, .ref yW, .int (nI (te)), .int (nI (tr)), .ref yP, .ref yG, .ref yR, .ref yS, .ref yA, .ref yL, .ref yT])), (yR, .inl (cL, 9696, .inr (.inl (fun j => lN (rowF V (j)))))), (yS, .inl (cL, 48, .inr (.inl (fun j => lN (dg 268435456 (v + V k) (j))))))]) (va_A [(h0, .inr (4, [.int (nI (tz)), .int (nI (cnt)), .ref yI, .ref yD, .ref yN, .ref yW, .int (nI (te)), .int (nI (tr)), .ref yP, .ref yG, .ref yR, .ref yS, .ref yA, .ref yL, .ref yT])), (yR, .inl (cL, 9696, .inr (.inl (fun j => lN (rowF V (j)))))), (yS, .inl (cL, 48, .inr (.inl (fun j => lN (dg 268435456 v (j))))))] sz)) 0 0 (va_A [(h0, .inr (4, [.int (nI (tz)), .int (nI (cnt)), .ref yI, .ref yD, .ref yN, .ref yW, .int (nI (te)), .int (nI (tr)), .ref yP, .ref yG, .ref yR, .ref yS, .ref yA, .ref yL, .ref yT])), (yR, .inl (cL, 9696, .inr (.inl (fun j => lN (rowF V (j)))))), (yS, .inl (cL, 48, .inr (.inl (fun j => lN (dg 268435456 v (j))))))] sz) := by
  refine k_start (fun A => (va_Qv (fun _ => True) (fun (_ : Unit) => PostB D (gT cI cL cM) A [(h0, .inr (4, [.int (nI (tz)), .int (nI (cnt)), .ref yI, .ref yD, .ref yN, .ref yW, .int (nI (te)), .int (nI (tr)), .ref yP, .ref yG, .ref yR, .ref yS, .ref yA, .ref yL, .ref yT])), (yR, .inl (cL, 9696, .inr (.inl (fun j => lN (rowF V (j)))))), (yS, .inl (cL, 48, .inr (.inl (fun j => lN (dg 268435456 (v + V k) (j))))))]) A)) (cc := cX4_addRow) (maxL := 5) (ret := none) (by decide) rfl (Nat.le_of_ble_eq_true rfl) ?_
  intro p e s m below meth c A ls hx hb hr hts hown hlocks hin hml hP hK hD hA hS hl
  have hl : lv_has ls 5 [(0, .ref h0), (1, .int (nI (k)))] := hl
  have hown : s.vm.findClass RX4 = some m.cls := hown
  refine lv_lconst (v := lN (car 268435456 v 1 (V k) 1 0)) hx hb dX4_addRow_0 (by rw [car_0]; decide) ?_
  refine lv_lstore_n (lv' := [(2, .long (lN (car 268435456 v 1 (V k) 1 0))), (0, .ref h0), (1, .int (nI (k)))]) hx hb dX4_addRow_1 rfl hl (by decide) rfl (fun ls hl => ?_)
  refine lv_iconst (v := nI (0)) hx hb dX4_addRow_2 (by decide) ?_
  refine lv_istore (lv' := [(4, .int (nI (0))), (2, .long (lN (car 268435456 v 1 (V k) 1 0))), (0, .ref h0), (1, .int (nI (k)))]) hx hb dX4_addRow_3 hl (by decide) rfl (fun ls hl => ?_)
  have L_1 : ∀ (nn9 i : Nat), i + nn9 = 48 → ∀ (H : Heap) (locs : List Loc) (ls : Array Slot), va_P D vwCl [(h0, .inr (4, [.int (nI (tz)), .int (nI (cnt)), .ref yI, .ref yD, .ref yN, .ref yW, .int (nI (te)), .int (nI (tr)), .ref yP, .ref yG, .ref yR, .ref yS, .ref yA, .ref yL, .ref yT])), (yR, .inl (cL, 9696, .inr (.inl (fun j => lN (rowF V (j)))))), (yS, .inl (cL, 48, .inr (.inl (fun j => lN (if j < i then dg 268435456 (v + V k) (j) else dg 268435456 v (j))))))] H → va_D A [(h0, .inr (4, [.int (nI (tz)), .int (nI (cnt)), .ref yI, .ref yD, .ref yN, .ref yW, .int (nI (te)), .int (nI (tr)), .ref yP, .ref yG, .ref yR, .ref yS, .ref yA, .ref yL, .ref yT])), (yR, .inl (cL, 9696, .inr (.inl (fun j => lN (rowF V (j)))))), (yS, .inl (cL, 48, .inr (.inl (fun j => lN (if j < i then dg 268435456 (v + V k) (j) else dg 268435456 v (j))))))] → va_S A s.heap H locs → lv_has ls 5 [(0, .ref h0), (1, .int (nI (k))), (2, .long (lN (car 268435456 v 1 (V k) 1 (i)))), (4, .int (nI (i)))] → W p l e ({ frames := 0, cells := 0, slots := 0, locals := 0 } : Room) s m (List.toArray [.ref h0, .int (nI (k))]) below meth c H locs 0 0 (MQ below (va_Qv (fun _ => True) (fun (_ : Unit) => PostB D (gT cI cL cM) A [(h0, .inr (4, [.int (nI (tz)), .int (nI (cnt)), .ref yI, .ref yD, .ref yN, .ref yW, .int (nI (te)), .int (nI (tr)), .ref yP, .ref yG, .ref yR, .ref yS, .ref yA, .ref yL, .ref yT])), (yR, .inl (cL, 9696, .inr (.inl (fun j => lN (rowF V (j)))))), (yS, .inl (cL, 48, .inr (.inl (fun j => lN (dg 268435456 (v + V k) (j))))))]) A) (List.toArray [.ref h0, .int (nI (k))]) s 0 0 A) (F0 m 5 ls []) := by
    intro nn9
    induction nn9 with
    | zero =>
      intro i hii H locs ls hP hD hS hl
      obtain rfl : 48 = i := by omega
      refine lv_iload hx hb dX4_addRow_5 (lv_at hl 3 rfl) ?_
      refine lv_bipush (v := nI (48)) hx hb dX4_addRow_7 (by decide) ?_
      refine n_icmp_ge (tgt := 59) hx hb (by omega) (by omega) dX4_addRow_9 (by decide) (fun c_2 => ?_) (fun c_2 => False.elim (by omega))
      have hP : va_P D vwCl [(h0, .inr (4, [.int (nI (tz)), .int (nI (cnt)), .ref yI, .ref yD, .ref yN, .ref yW, .int (nI (te)), .int (nI (tr)), .ref yP, .ref yG, .ref yR, .ref yS, .ref yA, .ref yL, .ref yT])), (yR, .inl (cL, 9696, .inr (.inl (fun j => lN (rowF V (j)))))), (yS, .inl (cL, 48, .inr (.inl (fun j => lN (dg 268435456 (v + V k) (j))))))] H := P_altL _ hP 2 rfl rfl (fun j hj => by rw [if_pos hj])
      have hD : va_D A [(h0, .inr (4, [.int (nI (tz)), .int (nI (cnt)), .ref yI, .ref yD, .ref yN, .ref yW, .int (nI (te)), .int (nI (tr)), .ref yP, .ref yG, .ref yR, .ref yS, .ref yA, .ref yL, .ref yT])), (yR, .inl (cL, 9696, .inr (.inl (fun j => lN (rowF V (j)))))), (yS, .inl (cL, 48, .inr (.inl (fun j => lN (dg 268435456 (v + V k) (j))))))] := D_alt hD (q0 := 2) rfl rfl
      exact k_vret hx hb hr hlocks hP hD hK hS [0, 1, 2] () rfl (by decide) trivial dX4_addRow_59
    | succ nn9 ih =>
      intro i hii H locs ls hP hD hS hl
      have z1 := dg_lt B28 v i
      have z2 := dg_lt B28 (V k) i
      have z3 := car_1 B28 v (V k) i
      have e1 : (48 * k + i) / 48 = k := by omega
      have e2 : (48 * k + i) % 48 = i := by omega
      have e3 : 48 * k + i < 9696 := by omega
      refine lv_iload hx hb dX4_addRow_5 (lv_at hl 3 rfl) ?_
      refine lv_bipush (v := nI (48)) hx hb dX4_addRow_7 (by decide) ?_
      refine n_icmp_ge (tgt := 59) hx hb (by omega) (by omega) dX4_addRow_9 (by decide) (fun c_3 => False.elim (by omega)) (fun c_3 => ?_)
      refine lv_lload_n hx hb dX4_addRow_12 rfl (lv_at hl 2 rfl) ?_
      refine lv_aload_n hx hb dX4_addRow_13 rfl (lv_at hl 0 rfl) ?_
      refine va_get (D := D) (cl := vwCl) (ci := 4) (v := .ref yS) (C := RX4) (T := TX4) (N := 15) hx hb hts in_X4_addRow_X4 hown hK hP 0 rfl rfl 11 (by decide) (hts (.fieldLink RX4 36 "BulkSamplesModel" "some" "[J") fl_X4_addRow_36) (fun _ h9 => h9) rfl dX4_addRow_14 ?_
      refine lv_iload hx hb dX4_addRow_17 (lv_at hl 3 rfl) ?_
      refine n_lald (x := lN (dg 268435456 v i)) hx hb hK hP 2 1 rfl rfl (by omega) (by omega) (by simp) dX4_addRow_19 ?_
      refine n_ladd (r := (car 268435456 v 1 (V k) 1 (i)) + (dg 268435456 v i)) hx hb dX4_addRow_20 rfl ?_
      refine lv_aload_n hx hb dX4_addRow_21 rfl (lv_at hl 0 rfl) ?_
      refine va_get (D := D) (cl := vwCl) (ci := 4) (v := .ref yR) (C := RX4) (T := TX4) (N := 15) hx hb hts in_X4_addRow_X4 hown hK hP 0 rfl rfl 10 (by decide) (hts (.fieldLink RX4 32 "BulkSamplesModel" "rows" "[J") fl_X4_addRow_32) (fun _ h9 => h9) rfl dX4_addRow_22 ?_
      refine lv_bipush (v := nI (48)) hx hb dX4_addRow_25 (by decide) ?_
      refine lv_iload_n hx hb dX4_addRow_27 rfl (lv_at hl 1 rfl) ?_
      refine n_imul (r := 48 * k) hx hb dX4_addRow_28 rfl ?_
      refine lv_iload hx hb dX4_addRow_29 (lv_at hl 3 rfl) ?_
      refine n_iadd (r := (48 * k) + i) hx hb dX4_addRow_31 rfl ?_
      refine n_lald (x := lN (dg 268435456 (V k) i)) hx hb hK hP 1 1 rfl rfl e3 (by omega) (by rw [rowF, e1, e2]) dX4_addRow_32 ?_
      refine n_ladd (r := ((car 268435456 v 1 (V k) 1 (i)) + (dg 268435456 v i)) + (dg 268435456 (V k) i)) hx hb dX4_addRow_33 rfl ?_
      refine lv_lstore_n (lv' := [(2, .long (lN (((car 268435456 v 1 (V k) 1 (i)) + (dg 268435456 v i)) + (dg 268435456 (V k) i)))), (0, .ref h0), (1, .int (nI (k))), (4, .int (nI (i)))]) hx hb dX4_addRow_34 rfl hl (by decide) rfl (fun ls hl => ?_)
      refine lv_aload_n hx hb dX4_addRow_35 rfl (lv_at hl 1 rfl) ?_
      refine va_get (D := D) (cl := vwCl) (ci := 4) (v := .ref yS) (C := RX4) (T := TX4) (N := 15) hx hb hts in_X4_addRow_X4 hown hK hP 0 rfl rfl 11 (by decide) (hts (.fieldLink RX4 36 "BulkSamplesModel" "some" "[J") fl_X4_addRow_36) (fun _ h9 => h9) rfl dX4_addRow_36 ?_
      refine lv_iload hx hb dX4_addRow_39 (lv_at hl 3 rfl) ?_
      refine lv_lload_n hx hb dX4_addRow_41 rfl (lv_at hl 0 rfl) ?_
      refine lv_ldc2 hx hb hown (hts (.constantLong RX4 68 (268435456)) (by decide +kernel)) dX4_addRow_42 ?_
      rw [show (268435456 : Int64) = lN 268435456 from rfl]
      refine n_lrem (r := dg 268435456 (v + V k) i) hx hb dX4_addRow_45 (by omega) (by omega) (by omega) (by rw [show car 268435456 v 1 (V k) 1 i + dg 268435456 v i + dg 268435456 (V k) i = dg 268435456 v i + dg 268435456 (V k) i + car 268435456 v 1 (V k) 1 i by omega]; exact add_dig B28 v (V k) i) ?_
      refine n_last (f' := fun j => lN (if j < i + 1 then dg 268435456 (v + V k) (j) else dg 268435456 v (j))) (ws' := [(h0, .inr (4, [.int (nI (tz)), .int (nI (cnt)), .ref yI, .ref yD, .ref yN, .ref yW, .int (nI (te)), .int (nI (tr)), .ref yP, .ref yG, .ref yR, .ref yS, .ref yA, .ref yL, .ref yT])), (yR, .inl (cL, 9696, .inr (.inl (fun j => lN (rowF V (j)))))), (yS, .inl (cL, 48, .inr (.inl (fun j => lN (if j < i + 1 then dg 268435456 (v + V k) (j) else dg 268435456 v (j))))))]) hx hb hK hP hD hS 2 1 rfl rfl (by omega) (by omega) (fun j _ => st_upL (fun j => dg 268435456 (v + V k) j) (fun j => dg 268435456 v j) i j) rfl dX4_addRow_46 (fun H locs hP hD hS => ?_)
      refine lv_lload_n hx hb dX4_addRow_47 rfl (lv_at hl 0 rfl) ?_
      refine lv_ldc2 hx hb hown (hts (.constantLong RX4 68 (268435456)) (by decide +kernel)) dX4_addRow_48 ?_
      rw [show (268435456 : Int64) = lN 268435456 from rfl]
      refine n_ldiv (r := car 268435456 v 1 (V k) 1 (i + 1)) hx hb dX4_addRow_51 (by omega) (by omega) (by omega) (by rw [show car 268435456 v 1 (V k) 1 i + dg 268435456 v i + dg 268435456 (V k) i = dg 268435456 v i + dg 268435456 (V k) i + car 268435456 v 1 (V k) 1 i by omega]; exact add_step B28 v (V k) i) ?_
      refine lv_lstore_n (lv' := [(2, .long (lN (car 268435456 v 1 (V k) 1 (i + 1)))), (0, .ref h0), (1, .int (nI (k))), (4, .int (nI (i)))]) hx hb dX4_addRow_52 rfl hl (by decide) rfl (fun ls hl => ?_)
      refine lv_iinc (v := nI (i + 1)) (lv' := [(4, .int (nI (i + 1))), (2, .long (lN (car 268435456 v 1 (V k) 1 (i + 1)))), (0, .ref h0), (1, .int (nI (k)))]) hx hb dX4_addRow_53 hl (k := 3) rfl (nI_add i 1) (by decide) rfl (fun ls hl => ?_)
      refine lv_goto (tgt := 5) hx hb dX4_addRow_56 (by decide) ?_
      exact ih (i + 1) (by omega) _ _ _ (P_pick hP [0, 1, 2] rfl) (D_pick hD [0, 1, 2] (by decide) rfl) hS (lv_sub hl [2, 3, 1, 0] rfl)
  exact L_1 48 0 (by omega) _ _ _ (P_altL _ hP 2 rfl rfl (fun j _ => by simp)) (D_pick hD [0, 1, 2] (by decide) rfl) hS (lv_sub hl [2, 3, 1, 0] rfl)
theorem in_X4_isAtMost_X4 : ∀ w ∈ wsX40, w ∈ wsX4_isAtMost := by decide +kernel
theorem fl_X4_isAtMost_36 : Cond.fieldLink RX4 36 "BulkSamplesModel" "some" "[J" ∈ wsX4_isAtMost := by decide +kernel
theorem fl_X4_isAtMost_39 : Cond.fieldLink RX4 39 "BulkSamplesModel" "all" "[J" ∈ wsX4_isAtMost := by decide +kernel
theorem fl_X4_isAtMost_42 : Cond.fieldLink RX4 42 "BulkSamplesModel" "left" "[J" ∈ wsX4_isAtMost := by decide +kernel
theorem fl_X4_isAtMost_45 : Cond.fieldLink RX4 45 "BulkSamplesModel" "right" "[J" ∈ wsX4_isAtMost := by decide +kernel
set_option maxHeartbeats 4000000 in
set_option maxRecDepth 100000 in
/-- isAtMost -/
theorem d_iam (l : Launch) (D : va_G) (cI cL cM : ClassId) (sz : Nat) (h0 yI yD yN yW yP yG yR yS yA yL yT tz cnt te tr : Nat) (S T q : Nat) (fL fT : Nat → Nat) (hq : q ≤ 1000) (ha8 : S * 1000 < 268435456 ^ 48) (hb8 : T * q < 268435456 ^ 48) : Met l yX4_isAtMost wsX4_isAtMost ({ frames := 1, cells := 0, slots := 0, locals := 25 } : Room) (va_Pc [.ref h0, .int (nI (q))] (PreB D (gT cI cL cM) sz [(h0, .inr (4, [.int (nI (tz)), .int (nI (cnt)), .ref yI, .ref yD, .ref yN, .ref yW, .int (nI (te)), .int (nI (tr)), .ref yP, .ref yG, .ref yR, .ref yS, .ref yA, .ref yL, .ref yT])), (yS, .inl (cL, 48, .inr (.inl (fun j => lN (dg 268435456 S (j)))))), (yA, .inl (cL, 48, .inr (.inl (fun j => lN (dg 268435456 T (j)))))), (yL, .inl (cL, 48, .inr (.inl (fun j => lN (fL j))))), (yT, .inl (cL, 48, .inr (.inl (fun j => lN (fT j)))))])) (va_Qi (fun r _ => r = nI (b2 (S * 1000 ≤ T * q))) (fun (_ : Unit) => PostB D (gT cI cL cM) (va_A [(h0, .inr (4, [.int (nI (tz)), .int (nI (cnt)), .ref yI, .ref yD, .ref yN, .ref yW, .int (nI (te)), .int (nI (tr)), .ref yP, .ref yG, .ref yR, .ref yS, .ref yA, .ref yL, .ref yT])), (yS, .inl (cL, 48, .inr (.inl (fun j => lN (dg 268435456 S (j)))))), (yA, .inl (cL, 48, .inr (.inl (fun j => lN (dg 268435456 T (j)))))), (yL, .inl (cL, 48, .inr (.inl (fun j => lN (fL j))))), (yT, .inl (cL, 48, .inr (.inl (fun j => lN (fT j)))))] sz) [(h0, .inr (4, [.int (nI (tz)), .int (nI (cnt)), .ref yI, .ref yD, .ref yN, .ref yW, .int (nI (te)), .int (nI (tr)), .ref yP, .ref yG, .ref yR, .ref yS, .ref yA, .ref yL, .ref yT])), (yS, .inl (cL, 48, .inr (.inl (fun j => lN (dg 268435456 S (j)))))), (yA, .inl (cL, 48, .inr (.inl (fun j => lN (dg 268435456 T (j)))))), (yL, .inl (cL, 48, .inr (.inl (fun j => lN (dg 268435456 (S * 1000) (j)))))), (yT, .inl (cL, 48, .inr (.inl (fun j => lN (dg 268435456 (T * q) (j))))))]) (va_A [(h0, .inr (4, [.int (nI (tz)), .int (nI (cnt)), .ref yI, .ref yD, .ref yN, .ref yW, .int (nI (te)), .int (nI (tr)), .ref yP, .ref yG, .ref yR, .ref yS, .ref yA, .ref yL, .ref yT])), (yS, .inl (cL, 48, .inr (.inl (fun j => lN (dg 268435456 S (j)))))), (yA, .inl (cL, 48, .inr (.inl (fun j => lN (dg 268435456 T (j)))))), (yL, .inl (cL, 48, .inr (.inl (fun j => lN (fL j))))), (yT, .inl (cL, 48, .inr (.inl (fun j => lN (fT j)))))] sz)) 0 0 (va_A [(h0, .inr (4, [.int (nI (tz)), .int (nI (cnt)), .ref yI, .ref yD, .ref yN, .ref yW, .int (nI (te)), .int (nI (tr)), .ref yP, .ref yG, .ref yR, .ref yS, .ref yA, .ref yL, .ref yT])), (yS, .inl (cL, 48, .inr (.inl (fun j => lN (dg 268435456 S (j)))))), (yA, .inl (cL, 48, .inr (.inl (fun j => lN (dg 268435456 T (j)))))), (yL, .inl (cL, 48, .inr (.inl (fun j => lN (fL j))))), (yT, .inl (cL, 48, .inr (.inl (fun j => lN (fT j)))))] sz) := by
  refine k_start (fun A => (va_Qi (fun r _ => r = nI (b2 (S * 1000 ≤ T * q))) (fun (_ : Unit) => PostB D (gT cI cL cM) A [(h0, .inr (4, [.int (nI (tz)), .int (nI (cnt)), .ref yI, .ref yD, .ref yN, .ref yW, .int (nI (te)), .int (nI (tr)), .ref yP, .ref yG, .ref yR, .ref yS, .ref yA, .ref yL, .ref yT])), (yS, .inl (cL, 48, .inr (.inl (fun j => lN (dg 268435456 S (j)))))), (yA, .inl (cL, 48, .inr (.inl (fun j => lN (dg 268435456 T (j)))))), (yL, .inl (cL, 48, .inr (.inl (fun j => lN (dg 268435456 (S * 1000) (j)))))), (yT, .inl (cL, 48, .inr (.inl (fun j => lN (dg 268435456 (T * q) (j))))))]) A)) (cc := cX4_isAtMost) (maxL := 2) (ret := (some .boolean)) (by decide) rfl (Nat.le_of_ble_eq_true rfl) ?_
  intro p e s m below meth c A ls hx hb hr hts hown hlocks hin hml hP hK hD hA hS hl
  have hl : lv_has ls 2 [(0, .ref h0), (1, .int (nI (q)))] := hl
  have hown : s.vm.findClass RX4 = some m.cls := hown
  refine lv_aload_n hx hb dX4_isAtMost_0 rfl (lv_at hl 0 rfl) ?_
  refine va_get (D := D) (cl := vwCl) (ci := 4) (v := .ref yS) (C := RX4) (T := TX4) (N := 15) hx hb hts in_X4_isAtMost_X4 hown hK hP 0 rfl rfl 11 (by decide) (hts (.fieldLink RX4 36 "BulkSamplesModel" "some" "[J") fl_X4_isAtMost_36) (fun _ h9 => h9) rfl dX4_isAtMost_1 ?_
  refine lv_aload_n hx hb dX4_isAtMost_4 rfl (lv_at hl 0 rfl) ?_
  refine va_get (D := D) (cl := vwCl) (ci := 4) (v := .ref yL) (C := RX4) (T := TX4) (N := 15) hx hb hts in_X4_isAtMost_X4 hown hK hP 0 rfl rfl 13 (by decide) (hts (.fieldLink RX4 42 "BulkSamplesModel" "left" "[J") fl_X4_isAtMost_42) (fun _ h9 => h9) rfl dX4_isAtMost_5 ?_
  refine k_callv (wc := [(yS, .inl (cL, 48, .inr (.inl (fun j => lN ((fun j => dg 268435456 S j) j))))), (yL, .inl (cL, 48, .inr (.inl (fun j => lN (fL j)))))]) (wr := [(h0, .inr (4, [.int (nI (tz)), .int (nI (cnt)), .ref yI, .ref yD, .ref yN, .ref yW, .int (nI (te)), .int (nI (tr)), .ref yP, .ref yG, .ref yR, .ref yS, .ref yA, .ref yL, .ref yT])), (yA, .inl (cL, 48, .inr (.inl (fun j => lN (dg 268435456 T (j)))))), (yT, .inl (cL, 48, .inr (.inl (fun j => lN (fT j)))))]) (W1 := fun _ => [(h0, .inr (4, [.int (nI (tz)), .int (nI (cnt)), .ref yI, .ref yD, .ref yN, .ref yW, .int (nI (te)), .int (nI (tr)), .ref yP, .ref yG, .ref yR, .ref yS, .ref yA, .ref yL, .ref yT])), (yS, .inl (cL, 48, .inr (.inl (fun j => lN ((fun j => dg 268435456 S j) j))))), (yA, .inl (cL, 48, .inr (.inl (fun j => lN (dg 268435456 T (j)))))), (yL, .inl (cL, 48, .inr (.inl (fun j => lN ((fun j => dg 268435456 S j) j))))), (yT, .inl (cL, 48, .inr (.inl (fun j => lN (fT j)))))]) hP hD hS hA [1, 3] [0, 2, 4] [0, 3, 1, 4, 2] rfl rfl (by decide) (by decide) (fun _ => rfl) (by decide) (va_runS (As := [.ref yS, .ref yL]) (rest := []) ⟨hx, hb, hml, hown, hts⟩ (d_copy l D cI cL cM s.heap.size yS yL (fun j => dg 268435456 S j) fL) (va_cwS 2 hts gX4_isAtMost_X4_copy rfl rfl rfl (by decide +kernel) ⟨Nat.le_of_ble_eq_true rfl, Nat.le_of_ble_eq_true rfl⟩) (k_preS hP hD hK [1, 3] rfl (by decide)) rfl rfl hl.1 rfl (lv_room (Nat.le_of_ble_eq_true rfl)) dX4_isAtMost_8 ⟨Nat.le_of_ble_eq_true rfl, Nat.le_of_ble_eq_true rfl⟩) (fun _ H locs hw hP hD hS => ?_)
  have hP : va_P D vwCl [(h0, .inr (4, [.int (nI (tz)), .int (nI (cnt)), .ref yI, .ref yD, .ref yN, .ref yW, .int (nI (te)), .int (nI (tr)), .ref yP, .ref yG, .ref yR, .ref yS, .ref yA, .ref yL, .ref yT])), (yS, .inl (cL, 48, .inr (.inl (fun j => lN (dg 268435456 S (j)))))), (yA, .inl (cL, 48, .inr (.inl (fun j => lN (dg 268435456 T (j)))))), (yL, .inl (cL, 48, .inr (.inl (fun j => lN (dg 268435456 S (j)))))), (yT, .inl (cL, 48, .inr (.inl (fun j => lN (fT j)))))] H := hP
  have hD : va_D A [(h0, .inr (4, [.int (nI (tz)), .int (nI (cnt)), .ref yI, .ref yD, .ref yN, .ref yW, .int (nI (te)), .int (nI (tr)), .ref yP, .ref yG, .ref yR, .ref yS, .ref yA, .ref yL, .ref yT])), (yS, .inl (cL, 48, .inr (.inl (fun j => lN (dg 268435456 S (j)))))), (yA, .inl (cL, 48, .inr (.inl (fun j => lN (dg 268435456 T (j)))))), (yL, .inl (cL, 48, .inr (.inl (fun j => lN (dg 268435456 S (j)))))), (yT, .inl (cL, 48, .inr (.inl (fun j => lN (fT j)))))] := hD
  refine lv_aload_n hx hb dX4_isAtMost_11 rfl (lv_at hl 0 rfl) ?_
  refine va_get (D := D) (cl := vwCl) (ci := 4) (v := .ref yL) (C := RX4) (T := TX4) (N := 15) hx hb hts in_X4_isAtMost_X4 hown hK hP 0 rfl rfl 13 (by decide) (hts (.fieldLink RX4 42 "BulkSamplesModel" "left" "[J") fl_X4_isAtMost_42) (fun _ h9 => h9) rfl dX4_isAtMost_12 ?_
  refine lv_ldc2 hx hb hown (hts (.constantLong RX4 90 (1000)) (by decide +kernel)) dX4_isAtMost_15 ?_
  rw [show (1000 : Int64) = lN 1000 from rfl]
  refine k_callv (wc := [(yL, .inl (cL, 48, .inr (.inl (fun j => lN (dg 268435456 S (j))))))]) (wr := [(h0, .inr (4, [.int (nI (tz)), .int (nI (cnt)), .ref yI, .ref yD, .ref yN, .ref yW, .int (nI (te)), .int (nI (tr)), .ref yP, .ref yG, .ref yR, .ref yS, .ref yA, .ref yL, .ref yT])), (yS, .inl (cL, 48, .inr (.inl (fun j => lN (dg 268435456 S (j)))))), (yA, .inl (cL, 48, .inr (.inl (fun j => lN (dg 268435456 T (j)))))), (yT, .inl (cL, 48, .inr (.inl (fun j => lN (fT j)))))]) (W1 := fun _ => [(h0, .inr (4, [.int (nI (tz)), .int (nI (cnt)), .ref yI, .ref yD, .ref yN, .ref yW, .int (nI (te)), .int (nI (tr)), .ref yP, .ref yG, .ref yR, .ref yS, .ref yA, .ref yL, .ref yT])), (yS, .inl (cL, 48, .inr (.inl (fun j => lN (dg 268435456 S (j)))))), (yA, .inl (cL, 48, .inr (.inl (fun j => lN (dg 268435456 T (j)))))), (yL, .inl (cL, 48, .inr (.inl (fun j => lN (dg 268435456 (S * 1000) (j)))))), (yT, .inl (cL, 48, .inr (.inl (fun j => lN (fT j)))))]) hP hD hS hA [3] [0, 1, 2, 4] [0, 1, 2, 4, 3] rfl rfl (by decide) (by decide) (fun _ => rfl) (by decide) (va_runS (As := [.ref yL, .long (lN (1000))]) (rest := []) ⟨hx, hb, hml, hown, hts⟩ (d_mul l D cI cL cM H.size yL S 1000 (by omega)) (va_cwS 2 hts gX4_isAtMost_X4_multiply rfl rfl rfl (by decide +kernel) ⟨Nat.le_of_ble_eq_true rfl, Nat.le_of_ble_eq_true rfl⟩) (k_preS hP hD hK [3] rfl (by decide)) rfl rfl hl.1 rfl (lv_room (Nat.le_of_ble_eq_true rfl)) dX4_isAtMost_18 ⟨Nat.le_of_ble_eq_true rfl, Nat.le_of_ble_eq_true rfl⟩) (fun _ H locs hw hP hD hS => ?_)
  refine lv_aload_n hx hb dX4_isAtMost_21 rfl (lv_at hl 0 rfl) ?_
  refine va_get (D := D) (cl := vwCl) (ci := 4) (v := .ref yA) (C := RX4) (T := TX4) (N := 15) hx hb hts in_X4_isAtMost_X4 hown hK hP 0 rfl rfl 12 (by decide) (hts (.fieldLink RX4 39 "BulkSamplesModel" "all" "[J") fl_X4_isAtMost_39) (fun _ h9 => h9) rfl dX4_isAtMost_22 ?_
  refine lv_aload_n hx hb dX4_isAtMost_25 rfl (lv_at hl 0 rfl) ?_
  refine va_get (D := D) (cl := vwCl) (ci := 4) (v := .ref yT) (C := RX4) (T := TX4) (N := 15) hx hb hts in_X4_isAtMost_X4 hown hK hP 0 rfl rfl 14 (by decide) (hts (.fieldLink RX4 45 "BulkSamplesModel" "right" "[J") fl_X4_isAtMost_45) (fun _ h9 => h9) rfl dX4_isAtMost_26 ?_
  refine k_callv (wc := [(yA, .inl (cL, 48, .inr (.inl (fun j => lN ((fun j => dg 268435456 T j) j))))), (yT, .inl (cL, 48, .inr (.inl (fun j => lN (fT j)))))]) (wr := [(h0, .inr (4, [.int (nI (tz)), .int (nI (cnt)), .ref yI, .ref yD, .ref yN, .ref yW, .int (nI (te)), .int (nI (tr)), .ref yP, .ref yG, .ref yR, .ref yS, .ref yA, .ref yL, .ref yT])), (yS, .inl (cL, 48, .inr (.inl (fun j => lN (dg 268435456 S (j)))))), (yL, .inl (cL, 48, .inr (.inl (fun j => lN (dg 268435456 (S * 1000) (j))))))]) (W1 := fun _ => [(h0, .inr (4, [.int (nI (tz)), .int (nI (cnt)), .ref yI, .ref yD, .ref yN, .ref yW, .int (nI (te)), .int (nI (tr)), .ref yP, .ref yG, .ref yR, .ref yS, .ref yA, .ref yL, .ref yT])), (yS, .inl (cL, 48, .inr (.inl (fun j => lN (dg 268435456 S (j)))))), (yA, .inl (cL, 48, .inr (.inl (fun j => lN ((fun j => dg 268435456 T j) j))))), (yL, .inl (cL, 48, .inr (.inl (fun j => lN (dg 268435456 (S * 1000) (j)))))), (yT, .inl (cL, 48, .inr (.inl (fun j => lN ((fun j => dg 268435456 T j) j)))))]) hP hD hS hA [2, 4] [0, 1, 3] [0, 1, 3, 2, 4] rfl rfl (by decide) (by decide) (fun _ => rfl) (by decide) (va_runS (As := [.ref yA, .ref yT]) (rest := []) ⟨hx, hb, hml, hown, hts⟩ (d_copy l D cI cL cM H.size yA yT (fun j => dg 268435456 T j) fT) (va_cwS 2 hts gX4_isAtMost_X4_copy rfl rfl rfl (by decide +kernel) ⟨Nat.le_of_ble_eq_true rfl, Nat.le_of_ble_eq_true rfl⟩) (k_preS hP hD hK [2, 4] rfl (by decide)) rfl rfl hl.1 rfl (lv_room (Nat.le_of_ble_eq_true rfl)) dX4_isAtMost_29 ⟨Nat.le_of_ble_eq_true rfl, Nat.le_of_ble_eq_true rfl⟩) (fun _ H locs hw hP hD hS => ?_)
  have hP : va_P D vwCl [(h0, .inr (4, [.int (nI (tz)), .int (nI (cnt)), .ref yI, .ref yD, .ref yN, .ref yW, .int (nI (te)), .int (nI (tr)), .ref yP, .ref yG, .ref yR, .ref yS, .ref yA, .ref yL, .ref yT])), (yS, .inl (cL, 48, .inr (.inl (fun j => lN (dg 268435456 S (j)))))), (yA, .inl (cL, 48, .inr (.inl (fun j => lN (dg 268435456 T (j)))))), (yL, .inl (cL, 48, .inr (.inl (fun j => lN (dg 268435456 (S * 1000) (j)))))), (yT, .inl (cL, 48, .inr (.inl (fun j => lN (dg 268435456 T (j))))))] H := hP
  have hD : va_D A [(h0, .inr (4, [.int (nI (tz)), .int (nI (cnt)), .ref yI, .ref yD, .ref yN, .ref yW, .int (nI (te)), .int (nI (tr)), .ref yP, .ref yG, .ref yR, .ref yS, .ref yA, .ref yL, .ref yT])), (yS, .inl (cL, 48, .inr (.inl (fun j => lN (dg 268435456 S (j)))))), (yA, .inl (cL, 48, .inr (.inl (fun j => lN (dg 268435456 T (j)))))), (yL, .inl (cL, 48, .inr (.inl (fun j => lN (dg 268435456 (S * 1000) (j)))))), (yT, .inl (cL, 48, .inr (.inl (fun j => lN (dg 268435456 T (j))))))] := hD
  refine lv_aload_n hx hb dX4_isAtMost_32 rfl (lv_at hl 0 rfl) ?_
  refine va_get (D := D) (cl := vwCl) (ci := 4) (v := .ref yT) (C := RX4) (T := TX4) (N := 15) hx hb hts in_X4_isAtMost_X4 hown hK hP 0 rfl rfl 14 (by decide) (hts (.fieldLink RX4 45 "BulkSamplesModel" "right" "[J") fl_X4_isAtMost_45) (fun _ h9 => h9) rfl dX4_isAtMost_33 ?_
  refine lv_iload_n hx hb dX4_isAtMost_36 rfl (lv_at hl 1 rfl) ?_
  refine n_i2l hx hb (by omega) dX4_isAtMost_37 ?_
  refine k_callv (wc := [(yT, .inl (cL, 48, .inr (.inl (fun j => lN (dg 268435456 T (j))))))]) (wr := [(h0, .inr (4, [.int (nI (tz)), .int (nI (cnt)), .ref yI, .ref yD, .ref yN, .ref yW, .int (nI (te)), .int (nI (tr)), .ref yP, .ref yG, .ref yR, .ref yS, .ref yA, .ref yL, .ref yT])), (yS, .inl (cL, 48, .inr (.inl (fun j => lN (dg 268435456 S (j)))))), (yA, .inl (cL, 48, .inr (.inl (fun j => lN (dg 268435456 T (j)))))), (yL, .inl (cL, 48, .inr (.inl (fun j => lN (dg 268435456 (S * 1000) (j))))))]) (W1 := fun _ => [(h0, .inr (4, [.int (nI (tz)), .int (nI (cnt)), .ref yI, .ref yD, .ref yN, .ref yW, .int (nI (te)), .int (nI (tr)), .ref yP, .ref yG, .ref yR, .ref yS, .ref yA, .ref yL, .ref yT])), (yS, .inl (cL, 48, .inr (.inl (fun j => lN (dg 268435456 S (j)))))), (yA, .inl (cL, 48, .inr (.inl (fun j => lN (dg 268435456 T (j)))))), (yL, .inl (cL, 48, .inr (.inl (fun j => lN (dg 268435456 (S * 1000) (j)))))), (yT, .inl (cL, 48, .inr (.inl (fun j => lN (dg 268435456 (T * q) (j))))))]) hP hD hS hA [4] [0, 1, 2, 3] [0, 1, 2, 3, 4] rfl rfl (by decide) (by decide) (fun _ => rfl) (by decide) (va_runS (As := [.ref yT, .long (lN (q))]) (rest := []) ⟨hx, hb, hml, hown, hts⟩ (d_mul l D cI cL cM H.size yT T q (by omega)) (va_cwS 2 hts gX4_isAtMost_X4_multiply rfl rfl rfl (by decide +kernel) ⟨Nat.le_of_ble_eq_true rfl, Nat.le_of_ble_eq_true rfl⟩) (k_preS hP hD hK [4] rfl (by decide)) rfl rfl hl.1 rfl (lv_room (Nat.le_of_ble_eq_true rfl)) dX4_isAtMost_38 ⟨Nat.le_of_ble_eq_true rfl, Nat.le_of_ble_eq_true rfl⟩) (fun _ H locs hw hP hD hS => ?_)
  refine lv_aload_n hx hb dX4_isAtMost_41 rfl (lv_at hl 0 rfl) ?_
  refine va_get (D := D) (cl := vwCl) (ci := 4) (v := .ref yL) (C := RX4) (T := TX4) (N := 15) hx hb hts in_X4_isAtMost_X4 hown hK hP 0 rfl rfl 13 (by decide) (hts (.fieldLink RX4 42 "BulkSamplesModel" "left" "[J") fl_X4_isAtMost_42) (fun _ h9 => h9) rfl dX4_isAtMost_42 ?_
  refine lv_aload_n hx hb dX4_isAtMost_45 rfl (lv_at hl 0 rfl) ?_
  refine va_get (D := D) (cl := vwCl) (ci := 4) (v := .ref yT) (C := RX4) (T := TX4) (N := 15) hx hb hts in_X4_isAtMost_X4 hown hK hP 0 rfl rfl 14 (by decide) (hts (.fieldLink RX4 45 "BulkSamplesModel" "right" "[J") fl_X4_isAtMost_45) (fun _ h9 => h9) rfl dX4_isAtMost_46 ?_
  refine k_calli (wc := [(yL, .inl (cL, 48, .inr (.inl (fun j => lN (dg 268435456 (S * 1000) (j)))))), (yT, .inl (cL, 48, .inr (.inl (fun j => lN (dg 268435456 (T * q) (j))))))]) (wr := [(h0, .inr (4, [.int (nI (tz)), .int (nI (cnt)), .ref yI, .ref yD, .ref yN, .ref yW, .int (nI (te)), .int (nI (tr)), .ref yP, .ref yG, .ref yR, .ref yS, .ref yA, .ref yL, .ref yT])), (yS, .inl (cL, 48, .inr (.inl (fun j => lN (dg 268435456 S (j)))))), (yA, .inl (cL, 48, .inr (.inl (fun j => lN (dg 268435456 T (j))))))]) (W1 := fun _ => [(h0, .inr (4, [.int (nI (tz)), .int (nI (cnt)), .ref yI, .ref yD, .ref yN, .ref yW, .int (nI (te)), .int (nI (tr)), .ref yP, .ref yG, .ref yR, .ref yS, .ref yA, .ref yL, .ref yT])), (yS, .inl (cL, 48, .inr (.inl (fun j => lN (dg 268435456 S (j)))))), (yA, .inl (cL, 48, .inr (.inl (fun j => lN (dg 268435456 T (j)))))), (yL, .inl (cL, 48, .inr (.inl (fun j => lN (dg 268435456 (S * 1000) (j)))))), (yT, .inl (cL, 48, .inr (.inl (fun j => lN (dg 268435456 (T * q) (j))))))]) hP hD hS hA [3, 4] [0, 1, 2] [0, 1, 2, 3, 4] rfl rfl (by decide) (by decide) (fun _ => rfl) (by decide) (va_runS (As := [.ref yL, .ref yT]) (rest := []) ⟨hx, hb, hml, hown, hts⟩ (d_wi l D cI cL cM H.size yL yT (S * 1000) (T * q) ha8 hb8) (va_cwS 2 hts gX4_isAtMost_X4_isWithin rfl rfl rfl (by decide +kernel) ⟨Nat.le_of_ble_eq_true rfl, Nat.le_of_ble_eq_true rfl⟩) (k_preS hP hD hK [3, 4] rfl (by decide)) rfl rfl hl.1 rfl (lv_room (Nat.le_of_ble_eq_true rfl)) dX4_isAtMost_49 ⟨Nat.le_of_ble_eq_true rfl, Nat.le_of_ble_eq_true rfl⟩) (fun r_5 _ H locs hw hP hD hS => ?_)
  obtain rfl : r_5 = nI (b2 (S * 1000 ≤ T * q)) := hw
  refine W.widen (k := 0) (n := 0) (Nat.le_of_ble_eq_true rfl) (Nat.le_of_ble_eq_true rfl) ?_
  exact k_zret (v := nI (b2 (S * 1000 ≤ T * q))) hx hb hr (b2_nz _) hlocks hP hD hK hS [0, 1, 2, 3, 4] () rfl (by decide) rfl dX4_isAtMost_52
