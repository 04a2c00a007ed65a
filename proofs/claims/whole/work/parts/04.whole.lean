/-! class Whole: numbers in eight parts to the base 10^9 -/
theorem D_pick {A : Nat → Prop} {ws ws' : va_W} (hD : va_D A ws) (is : List Nat) (hn : va_nd is = true) (hs : is.map (fun i => (ws[i]?).map (fun q => q.1)) = ws'.map (fun q => some q.1)) : va_D A ws' := by
  have key : ∀ (k : Nat) (q : Nat × va_E), ws'[k]? = some q → ∃ (i : Nat) (q2 : Nat × va_E), is[k]? = some i ∧ ws[i]? = some q2 ∧ q2.1 = q.1 := by
    intro k q hk
    have h1 : (is.map (fun i => (ws[i]?).map (fun q => q.1)))[k]? = some (some q.1) := by rw [hs, List.getElem?_map, hk]; rfl
    rw [List.getElem?_map] at h1
    cases hi : is[k]? with
    | none => rw [hi] at h1; cases h1
    | some i =>
      rw [hi] at h1
      have h2 : (ws[i]?).map (fun q => q.1) = some q.1 := Option.some.inj h1
      cases hw : ws[i]? with
      | none => rw [hw] at h2; cases h2
      | some q2 => rw [hw] at h2; exact ⟨i, q2, rfl, hw, Option.some.inj h2⟩
  refine ⟨fun i j x y hi hj hxy => ?_, fun k q hk => ?_⟩
  · obtain ⟨a, x2, h1, h2, h3⟩ := key i x hi
    obtain ⟨b, y2, h4, h5, h6⟩ := key j y hj
    have hab := hD.1 a b x2 y2 h2 h5 (h3.trans (hxy.trans h6.symm))
    subst hab
    exact va_nd_inj is hn i j a h1 h4
  · obtain ⟨a, q2, -, h2, h3⟩ := key k q hk
    rw [← h3]
    exact hD.2 a q2 h2
theorem B9 : 0 < 1000000000 := by decide
def b2 (c : Prop) [Decidable c] : Nat := if c then 1 else 0
theorem b2_t {c : Prop} [Decidable c] (h : c) : b2 c = 1 := by simp [b2, h]
theorem b2_f {c : Prop} [Decidable c] (h : ¬ c) : b2 c = 0 := by simp [b2, h]
theorem b2_pos {c : Prop} [Decidable c] (h : 0 < b2 c) : c := by
  by_cases q : c
  · exact q
  · rw [b2_f q] at h; omega
theorem b2_0 {c : Prop} [Decidable c] (h : b2 c = 0) : ¬ c := fun q => by
  rw [b2_t q] at h; omega
theorem b2_le (c : Prop) [Decidable c] : b2 c ≤ 1 := by unfold b2; split <;> omega
theorem b2_nz (c : Prop) [Decidable c] : narrow .boolean (.int (nI (b2 c))) = .int (nI (b2 c)) := by unfold b2; split <;> rfl
theorem st_up {X : Type} (F G : Nat → X) (i j : Nat) : (if j = i then F i else if j < i then F j else G j) = if j < i + 1 then F j else G j := by
  by_cases h1 : j = i
  · subst h1; simp
  · by_cases h2 : j < i
    · rw [if_neg h1, if_pos h2, if_pos (by omega)]
    · rw [if_neg h1, if_neg h2, if_neg (by omega)]
theorem st_upL (F G : Nat → Nat) (i j : Nat) : (if j = i then lN (F i) else lN (if j < i then F j else G j)) = lN (if j < i + 1 then F j else G j) := by
  rw [← st_up F G i j]; split <;> rfl
theorem st_dn {X : Type} (F G : Nat → X) (k j : Nat) : (if j = k then F k else if k + 1 ≤ j then F j else G j) = if k ≤ j then F j else G j := by
  by_cases h1 : j = k
  · subst h1; simp
  · by_cases h2 : k + 1 ≤ j
    · rw [if_neg h1, if_pos h2, if_pos (by omega)]
    · rw [if_neg h1, if_neg h2, if_neg (by omega)]
theorem st_dnL (F G : Nat → Nat) (k j : Nat) : (if j = k then lN (F k) else lN (if k + 1 ≤ j then F j else G j)) = lN (if k ≤ j then F j else G j) := by
  rw [← st_dn F G k j]; split <;> rfl
theorem mul_room {B v f i M : Nat} (hB : 0 < B) (hf : f ≤ M) : dg B v i * f + car B v f 0 0 i ≤ B * M := by
  have a := dg_lt hB v i
  have b := car_le hB v f 0 0 i
  have c : (dg B v i + 1) * f ≤ B * M := Nat.mul_le_mul a hf
  rw [Nat.add_mul] at c
  omega
theorem add_hi {B : Nat} (hB : 0 < B) {v w i : Nat} (h : B ≤ dg B v i + dg B w i + car B v 1 w 1 i) : car B v 1 w 1 (i + 1) = 1 ∧ dg B v i + dg B w i + car B v 1 w 1 i - B = dg B (v + w) i := by
  have a := dg_lt hB v i
  have b := dg_lt hB w i
  have c := car_1 hB v w i
  obtain ⟨e1, e2⟩ := dm_uniq (n := dg B v i + dg B w i + car B v 1 w 1 i) (B := B) (q := 1) (r := dg B v i + dg B w i + car B v 1 w 1 i - B) (by omega) (by omega)
  rw [add_step hB] at e1
  rw [add_dig hB] at e2
  exact ⟨e1, e2.symm⟩
theorem add_lo {B : Nat} (hB : 0 < B) {v w i : Nat} (h : dg B v i + dg B w i + car B v 1 w 1 i < B) : car B v 1 w 1 (i + 1) = 0 ∧ dg B v i + dg B w i + car B v 1 w 1 i = dg B (v + w) i := by
  obtain ⟨e1, e2⟩ := dm_uniq (n := dg B v i + dg B w i + car B v 1 w 1 i) (B := B) (q := 0) (r := dg B v i + dg B w i + car B v 1 w 1 i) (by omega) (by omega)
  rw [add_step hB] at e1
  rw [add_dig hB] at e2
  exact ⟨e1, e2.symm⟩
theorem lN3 {x y b : Nat} (hx : x < 2 ^ 60) (hy : y < 2 ^ 60) (hb : b < 2 ^ 60) : (lN x - lN y - lN b).toInt = (x : Int) - y - b := by
  rw [Int64.toInt_sub, Int64.toInt_sub, pk_lT (by omega), pk_lT (by omega), pk_lT (by omega), Int.bmod_eq_of_le (n := (x : Int) - y) (by omega) (by omega), Int.bmod_eq_of_le (by omega) (by omega)]
theorem lN3_neg {x y b : Nat} (hx : x < 2 ^ 60) (hy : y < 2 ^ 60) (hb : b < 2 ^ 60) (h : x < y + b) : lN x - lN y - lN b < lN 0 := by
  rw [Int64.lt_iff_toInt_lt, lN3 hx hy hb, pk_lT (by omega)]
  omega
theorem lN3_fix {x y b B : Nat} (hx : x < 2 ^ 60) (hy : y < 2 ^ 60) (hb : b < 2 ^ 60) (hB : B < 2 ^ 60) (h : y + b ≤ B + x) : lN x - lN y - lN b + lN B = lN (B + x - y - b) := by
  rw [← Int64.toInt_inj, Int64.toInt_add, lN3 hx hy hb, pk_lT (by omega), pk_lT (by omega), Int.bmod_eq_of_le (by omega) (by omega)]
  omega
theorem in_X2_set_X2 : ∀ w ∈ wsX20, w ∈ wsX2_set := by decide +kernel
theorem fl_X2_set_9 : Cond.fieldLink RX2 9 "BulkSamples$Whole" "parts" "[J" ∈ wsX2_set := by decide +kernel
set_option maxHeartbeats 4000000 in
set_option maxRecDepth 100000 in
/-- set: the number is x -/
theorem c_set (l : Launch) (D : va_G) (cI cL cM : ClassId) (sz : Nat) (h0 p0 v x : Nat) (hx9 : x < 1000000000) : Met l yX2_set wsX2_set ({ frames := 0, cells := 0, slots := 0, locals := 0 } : Room) (va_Pc [.ref h0, .int (nI (x))] (PreB D (gT cI cL cM) sz [(h0, .inr (2, [.ref p0])), (p0, .inl (cL, 8, .inr (.inl (fun j => lN (dg 1000000000 v (j))))))])) (va_Qv (fun _ => True) (fun (_ : Unit) => PostB D (gT cI cL cM) (va_A [(h0, .inr (2, [.ref p0])), (p0, .inl (cL, 8, .inr (.inl (fun j => lN (dg 1000000000 v (j))))))] sz) [(h0, .inr (2, [.ref p0])), (p0, .inl (cL, 8, .inr (.inl (fun j => lN (dg 1000000000 x (j))))))]) (va_A [(h0, .inr (2, [.ref p0])), (p0, .inl (cL, 8, .inr (.inl (fun j => lN (dg 1000000000 v (j))))))] sz)) 0 0 (va_A [(h0, .inr (2, [.ref p0])), (p0, .inl (cL, 8, .inr (.inl (fun j => lN (dg 1000000000 v (j))))))] sz) := by
  refine k_start (fun A => (va_Qv (fun _ => True) (fun (_ : Unit) => PostB D (gT cI cL cM) A [(h0, .inr (2, [.ref p0])), (p0, .inl (cL, 8, .inr (.inl (fun j => lN (dg 1000000000 x (j))))))]) A)) (cc := cX2_set) (maxL := 3) (ret := none) (by decide) rfl (Nat.le_of_ble_eq_true rfl) ?_
  intro p e s m below meth c A ls hx hb hr hts hown hlocks hin hml hP hK hD hA hS hl
  have hl : lv_has ls 3 [(0, .ref h0), (1, .int (nI (x)))] := hl
  have hown : s.vm.findClass RX2 = some m.cls := hown
  refine lv_iconst (v := nI (0)) hx hb dX2_set_0 (by decide) ?_
  refine lv_istore_n (lv' := [(2, .int (nI (0))), (0, .ref h0), (1, .int (nI (x)))]) hx hb dX2_set_1 rfl hl (by decide) rfl (fun ls hl => ?_)
  have L_1 : ∀ (nn9 i : Nat), i + nn9 = 8 → ∀ (H : Heap) (locs : List Loc) (ls : Array Slot), va_P D vwCl [(h0, .inr (2, [.ref p0])), (p0, .inl (cL, 8, .inr (.inl (fun j => lN (if j < i then 0 else dg 1000000000 v (j))))))] H → va_D A [(h0, .inr (2, [.ref p0])), (p0, .inl (cL, 8, .inr (.inl (fun j => lN (if j < i then 0 else dg 1000000000 v (j))))))] → va_S A s.heap H locs → lv_has ls 3 [(0, .ref h0), (1, .int (nI (x))), (2, .int (nI (i)))] → W p l e ({ frames := 0, cells := 0, slots := 0, locals := 0 } : Room) s m (List.toArray [.ref h0, .int (nI (x))]) below meth c H locs 0 0 (MQ below (va_Qv (fun _ => True) (fun (_ : Unit) => PostB D (gT cI cL cM) A [(h0, .inr (2, [.ref p0])), (p0, .inl (cL, 8, .inr (.inl (fun j => lN (dg 1000000000 x (j))))))]) A) (List.toArray [.ref h0, .int (nI (x))]) s 0 0 A) (F0 m 2 ls []) := by
    intro nn9
    induction nn9 with
    | zero =>
      intro i hii H locs ls hP hD hS hl
      obtain rfl : 8 = i := by omega
      refine lv_iload_n hx hb dX2_set_2 rfl (lv_at hl 2 rfl) ?_
      refine lv_bipush (v := nI (8)) hx hb dX2_set_3 (by decide) ?_
      refine n_icmp_ge (tgt := 21) hx hb (by omega) (by omega) dX2_set_5 (by decide) (fun c_2 => ?_) (fun c_2 => False.elim (by omega))
      refine lv_aload_n hx hb dX2_set_21 rfl (lv_at hl 0 rfl) ?_
      refine va_get (D := D) (cl := vwCl) (ci := 2) (v := .ref p0) (C := RX2) (T := TX2) (N := 1) hx hb hts in_X2_set_X2 hown hK hP 0 rfl rfl 0 (by decide) (hts (.fieldLink RX2 9 "BulkSamples$Whole" "parts" "[J") fl_X2_set_9) (fun _ h9 => h9) rfl dX2_set_22 ?_
      refine lv_iconst (v := nI (0)) hx hb dX2_set_25 (by decide) ?_
      refine lv_iload_n hx hb dX2_set_26 rfl (lv_at hl 1 rfl) ?_
      refine n_i2l hx hb (by omega) dX2_set_27 ?_
      refine n_last (f' := fun j => lN (dg 1000000000 x (j))) (ws' := [(h0, .inr (2, [.ref p0])), (p0, .inl (cL, 8, .inr (.inl (fun j => lN (dg 1000000000 x (j))))))]) hx hb hK hP hD hS 1 1 rfl rfl (by omega) (by omega) (fun j hj => by rw [dg_small hx9]; by_cases h1 : j = 0 <;> simp [h1, hj]) rfl dX2_set_28 (fun H locs hP hD hS => ?_)
      exact k_vret hx hb hr hlocks hP hD hK hS [0, 1] () rfl (by decide) trivial dX2_set_29
    | succ nn9 ih =>
      intro i hii H locs ls hP hD hS hl
      refine lv_iload_n hx hb dX2_set_2 rfl (lv_at hl 2 rfl) ?_
      refine lv_bipush (v := nI (8)) hx hb dX2_set_3 (by decide) ?_
      refine n_icmp_ge (tgt := 21) hx hb (by omega) (by omega) dX2_set_5 (by decide) (fun c_3 => False.elim (by omega)) (fun c_3 => ?_)
      refine lv_aload_n hx hb dX2_set_8 rfl (lv_at hl 0 rfl) ?_
      refine va_get (D := D) (cl := vwCl) (ci := 2) (v := .ref p0) (C := RX2) (T := TX2) (N := 1) hx hb hts in_X2_set_X2 hown hK hP 0 rfl rfl 0 (by decide) (hts (.fieldLink RX2 9 "BulkSamples$Whole" "parts" "[J") fl_X2_set_9) (fun _ h9 => h9) rfl dX2_set_9 ?_
      refine lv_iload_n hx hb dX2_set_12 rfl (lv_at hl 2 rfl) ?_
      refine lv_lconst (v := lN (0)) hx hb dX2_set_13 (by decide) ?_
      refine n_last (f' := fun j => lN (if j < i + 1 then 0 else dg 1000000000 v (j))) (ws' := [(h0, .inr (2, [.ref p0])), (p0, .inl (cL, 8, .inr (.inl (fun j => lN (if j < i + 1 then 0 else dg 1000000000 v (j))))))]) hx hb hK hP hD hS 1 1 rfl rfl (by omega) (by omega) (fun j _ => st_upL (fun _ => 0) (fun j => dg 1000000000 v j) i j) rfl dX2_set_14 (fun H locs hP hD hS => ?_)
      refine lv_iinc (v := nI (i + 1)) (lv' := [(2, .int (nI (i + 1))), (0, .ref h0), (1, .int (nI (x)))]) hx hb dX2_set_15 hl (k := 2) rfl (nI_add i 1) (by decide) rfl (fun ls hl => ?_)
      refine lv_goto (tgt := 2) hx hb dX2_set_18 (by decide) ?_
      exact ih (i + 1) (by omega) _ _ _ (P_pick hP [0, 1] rfl) (D_pick hD [0, 1] (by decide) rfl) hS (lv_sub hl [1, 2, 0] rfl)
  exact L_1 8 0 (by omega) _ _ _ (P_altL _ hP 1 rfl rfl (fun j _ => by simp)) (D_pick hD [0, 1] (by decide) rfl) hS (lv_sub hl [1, 2, 0] rfl)
theorem in_X2_multiply_X2 : ∀ w ∈ wsX20, w ∈ wsX2_multiply := by decide +kernel
theorem fl_X2_multiply_9 : Cond.fieldLink RX2 9 "BulkSamples$Whole" "parts" "[J" ∈ wsX2_multiply := by decide +kernel
set_option maxHeartbeats 4000000 in
set_option maxRecDepth 100000 in
/-- multiply -/
theorem c_mul (l : Launch) (D : va_G) (cI cL cM : ClassId) (sz : Nat) (h0 p0 v f : Nat) (hf4 : f ≤ 40000) : Met l yX2_multiply wsX2_multiply ({ frames := 0, cells := 0, slots := 0, locals := 0 } : Room) (va_Pc [.ref h0, .int (nI (f))] (PreB D (gT cI cL cM) sz [(h0, .inr (2, [.ref p0])), (p0, .inl (cL, 8, .inr (.inl (fun j => lN (dg 1000000000 v (j))))))])) (va_Qv (fun _ => True) (fun (_ : Unit) => PostB D (gT cI cL cM) (va_A [(h0, .inr (2, [.ref p0])), (p0, .inl (cL, 8, .inr (.inl (fun j => lN (dg 1000000000 v (j))))))] sz) [(h0, .inr (2, [.ref p0])), (p0, .inl (cL, 8, .inr (.inl (fun j => lN (dg 1000000000 (v * f) (j))))))]) (va_A [(h0, .inr (2, [.ref p0])), (p0, .inl (cL, 8, .inr (.inl (fun j => lN (dg 1000000000 v (j))))))] sz)) 0 0 (va_A [(h0, .inr (2, [.ref p0])), (p0, .inl (cL, 8, .inr (.inl (fun j => lN (dg 1000000000 v (j))))))] sz) := by
  refine k_start (fun A => (va_Qv (fun _ => True) (fun (_ : Unit) => PostB D (gT cI cL cM) A [(h0, .inr (2, [.ref p0])), (p0, .inl (cL, 8, .inr (.inl (fun j => lN (dg 1000000000 (v * f) (j))))))]) A)) (cc := cX2_multiply) (maxL := 7) (ret := none) (by decide) rfl (Nat.le_of_ble_eq_true rfl) ?_
  intro p e s m below meth c A ls hx hb hr hts hown hlocks hin hml hP hK hD hA hS hl
  have hl : lv_has ls 7 [(0, .ref h0), (1, .int (nI (f)))] := hl
  have hown : s.vm.findClass RX2 = some m.cls := hown
  refine lv_lconst (v := lN (car 1000000000 v f 0 0 0)) hx hb dX2_multiply_0 (by rw [car_0]; decide) ?_
  refine lv_lstore_n (lv' := [(2, .long (lN (car 1000000000 v f 0 0 0))), (0, .ref h0), (1, .int (nI (f)))]) hx hb dX2_multiply_1 rfl hl (by decide) rfl (fun ls hl => ?_)
  refine lv_iconst (v := nI (0)) hx hb dX2_multiply_2 (by decide) ?_
  refine lv_istore (lv' := [(4, .int (nI (0))), (2, .long (lN (car 1000000000 v f 0 0 0))), (0, .ref h0), (1, .int (nI (f)))]) hx hb dX2_multiply_3 hl (by decide) rfl (fun ls hl => ?_)
  have L_1 : ∀ (nn9 i : Nat), i + nn9 = 8 → ∀ (H : Heap) (locs : List Loc) (ls : Array Slot), va_P D vwCl [(h0, .inr (2, [.ref p0])), (p0, .inl (cL, 8, .inr (.inl (fun j => lN (if j < i then dg 1000000000 (v * f) (j) else dg 1000000000 v (j))))))] H → va_D A [(h0, .inr (2, [.ref p0])), (p0, .inl (cL, 8, .inr (.inl (fun j => lN (if j < i then dg 1000000000 (v * f) (j) else dg 1000000000 v (j))))))] → va_S A s.heap H locs → lv_has ls 7 [(0, .ref h0), (1, .int (nI (f))), (2, .long (lN (car 1000000000 v f 0 0 (i)))), (4, .int (nI (i)))] → W p l e ({ frames := 0, cells := 0, slots := 0, locals := 0 } : Room) s m (List.toArray [.ref h0, .int (nI (f))]) below meth c H locs 0 0 (MQ below (va_Qv (fun _ => True) (fun (_ : Unit) => PostB D (gT cI cL cM) A [(h0, .inr (2, [.ref p0])), (p0, .inl (cL, 8, .inr (.inl (fun j => lN (dg 1000000000 (v * f) (j))))))]) A) (List.toArray [.ref h0, .int (nI (f))]) s 0 0 A) (F0 m 5 ls []) := by
    intro nn9
    induction nn9 with
    | zero =>
      intro i hii H locs ls hP hD hS hl
      obtain rfl : 8 = i := by omega
      refine lv_iload hx hb dX2_multiply_5 (lv_at hl 3 rfl) ?_
      refine lv_bipush (v := nI (8)) hx hb dX2_multiply_7 (by decide) ?_
      refine n_icmp_ge (tgt := 52) hx hb (by omega) (by omega) dX2_multiply_9 (by decide) (fun c_2 => ?_) (fun c_2 => False.elim (by omega))
      have hP : va_P D vwCl [(h0, .inr (2, [.ref p0])), (p0, .inl (cL, 8, .inr (.inl (fun j => lN (dg 1000000000 (v * f) (j))))))] H := P_altL _ hP 1 rfl rfl (fun j hj => by rw [if_pos hj])
      have hD : va_D A [(h0, .inr (2, [.ref p0])), (p0, .inl (cL, 8, .inr (.inl (fun j => lN (dg 1000000000 (v * f) (j))))))] := D_alt hD (q0 := 1) rfl rfl
      exact k_vret hx hb hr hlocks hP hD hK hS [0, 1] () rfl (by decide) trivial dX2_multiply_52
    | succ nn9 ih =>
      intro i hii H locs ls hP hD hS hl
      have hm := mul_room (v := v) (i := i) B9 hf4
      refine lv_iload hx hb dX2_multiply_5 (lv_at hl 3 rfl) ?_
      refine lv_bipush (v := nI (8)) hx hb dX2_multiply_7 (by decide) ?_
      refine n_icmp_ge (tgt := 52) hx hb (by omega) (by omega) dX2_multiply_9 (by decide) (fun c_3 => False.elim (by omega)) (fun c_3 => ?_)
      refine lv_aload_n hx hb dX2_multiply_12 rfl (lv_at hl 0 rfl) ?_
      refine va_get (D := D) (cl := vwCl) (ci := 2) (v := .ref p0) (C := RX2) (T := TX2) (N := 1) hx hb hts in_X2_multiply_X2 hown hK hP 0 rfl rfl 0 (by decide) (hts (.fieldLink RX2 9 "BulkSamples$Whole" "parts" "[J") fl_X2_multiply_9) (fun _ h9 => h9) rfl dX2_multiply_13 ?_
      refine lv_iload hx hb dX2_multiply_16 (lv_at hl 3 rfl) ?_
      refine n_lald (x := lN (dg 1000000000 v i)) hx hb hK hP 1 1 rfl rfl (by omega) (by omega) (by simp) dX2_multiply_18 ?_
      refine lv_iload_n hx hb dX2_multiply_19 rfl (lv_at hl 1 rfl) ?_
      refine n_i2l hx hb (by omega) dX2_multiply_20 ?_
      refine n_lmul (r := (dg 1000000000 v i) * f) hx hb dX2_multiply_21 rfl ?_
      refine lv_lload_n hx hb dX2_multiply_22 rfl (lv_at hl 2 rfl) ?_
      refine n_ladd (r := ((dg 1000000000 v i) * f) + (car 1000000000 v f 0 0 (i))) hx hb dX2_multiply_23 rfl ?_
      refine lv_lstore (lv' := [(5, .long (lN (((dg 1000000000 v i) * f) + (car 1000000000 v f 0 0 (i))))), (0, .ref h0), (1, .int (nI (f))), (2, .long (lN (car 1000000000 v f 0 0 (i)))), (4, .int (nI (i)))]) hx hb dX2_multiply_24 hl (by decide) rfl (fun ls hl => ?_)
      refine lv_lload hx hb dX2_multiply_26 (lv_at hl 0 rfl) ?_
      refine lv_ldc2 hx hb hown (hts (.constantLong RX2 29 (1000000000)) (by decide +kernel)) dX2_multiply_28 ?_
      rw [show (1000000000 : Int64) = lN 1000000000 from rfl]
      refine n_ldiv (r := car 1000000000 v f 0 0 (i + 1)) hx hb dX2_multiply_31 (by omega) (by omega) (by omega) (mul_step B9 v f i) ?_
      refine lv_lstore_n (lv' := [(2, .long (lN (car 1000000000 v f 0 0 (i + 1)))), (5, .long (lN (((dg 1000000000 v i) * f) + (car 1000000000 v f 0 0 (i))))), (0, .ref h0), (1, .int (nI (f))), (4, .int (nI (i)))]) hx hb dX2_multiply_32 rfl hl (by decide) rfl (fun ls hl => ?_)
      refine lv_aload_n hx hb dX2_multiply_33 rfl (lv_at hl 2 rfl) ?_
      refine va_get (D := D) (cl := vwCl) (ci := 2) (v := .ref p0) (C := RX2) (T := TX2) (N := 1) hx hb hts in_X2_multiply_X2 hown hK hP 0 rfl rfl 0 (by decide) (hts (.fieldLink RX2 9 "BulkSamples$Whole" "parts" "[J") fl_X2_multiply_9) (fun _ h9 => h9) rfl dX2_multiply_34 ?_
      refine lv_iload hx hb dX2_multiply_37 (lv_at hl 4 rfl) ?_
      refine lv_lload hx hb dX2_multiply_39 (lv_at hl 1 rfl) ?_
      refine lv_ldc2 hx hb hown (hts (.constantLong RX2 29 (1000000000)) (by decide +kernel)) dX2_multiply_41 ?_
      rw [show (1000000000 : Int64) = lN 1000000000 from rfl]
      refine n_lrem (r := dg 1000000000 (v * f) i) hx hb dX2_multiply_44 (by omega) (by omega) (by omega) (mul_dig B9 v f i) ?_
      refine n_last (f' := fun j => lN (if j < i + 1 then dg 1000000000 (v * f) (j) else dg 1000000000 v (j))) (ws' := [(h0, .inr (2, [.ref p0])), (p0, .inl (cL, 8, .inr (.inl (fun j => lN (if j < i + 1 then dg 1000000000 (v * f) (j) else dg 1000000000 v (j))))))]) hx hb hK hP hD hS 1 1 rfl rfl (by omega) (by omega) (fun j _ => st_upL (fun j => dg 1000000000 (v * f) j) (fun j => dg 1000000000 v j) i j) rfl dX2_multiply_45 (fun H locs hP hD hS => ?_)
      refine lv_iinc (v := nI (i + 1)) (lv' := [(4, .int (nI (i + 1))), (2, .long (lN (car 1000000000 v f 0 0 (i + 1)))), (5, .long (lN (((dg 1000000000 v i) * f) + (car 1000000000 v f 0 0 (i))))), (0, .ref h0), (1, .int (nI (f)))]) hx hb dX2_multiply_46 hl (k := 4) rfl (nI_add i 1) (by decide) rfl (fun ls hl => ?_)
      refine lv_goto (tgt := 5) hx hb dX2_multiply_49 (by decide) ?_
      exact ih (i + 1) (by omega) _ _ _ (P_pick hP [0, 1] rfl) (D_pick hD [0, 1] (by decide) rfl) hS (lv_sub hl [3, 4, 1, 0] rfl)
  exact L_1 8 0 (by omega) _ _ _ (P_altL _ hP 1 rfl rfl (fun j _ => by simp)) (D_pick hD [0, 1] (by decide) rfl) hS (lv_sub hl [2, 3, 1, 0] rfl)
theorem in_X2_divide_X2 : ∀ w ∈ wsX20, w ∈ wsX2_divide := by decide +kernel
theorem fl_X2_divide_9 : Cond.fieldLink RX2 9 "BulkSamples$Whole" "parts" "[J" ∈ wsX2_divide := by decide +kernel
set_option maxHeartbeats 4000000 in
set_option maxRecDepth 100000 in
/-- divide -/
theorem c_div (l : Launch) (D : va_G) (cI cL cM : ClassId) (sz : Nat) (h0 p0 v d : Nat) (hd0 : 0 < d) (hd4 : d ≤ 100000) (hv8 : v < 1000000000 ^ 8) : Met l yX2_divide wsX2_divide ({ frames := 0, cells := 0, slots := 0, locals := 0 } : Room) (va_Pc [.ref h0, .int (nI (d))] (PreB D (gT cI cL cM) sz [(h0, .inr (2, [.ref p0])), (p0, .inl (cL, 8, .inr (.inl (fun j => lN (dg 1000000000 v (j))))))])) (va_Qv (fun _ => True) (fun (_ : Unit) => PostB D (gT cI cL cM) (va_A [(h0, .inr (2, [.ref p0])), (p0, .inl (cL, 8, .inr (.inl (fun j => lN (dg 1000000000 v (j))))))] sz) [(h0, .inr (2, [.ref p0])), (p0, .inl (cL, 8, .inr (.inl (fun j => lN (dg 1000000000 (v / d) (j))))))]) (va_A [(h0, .inr (2, [.ref p0])), (p0, .inl (cL, 8, .inr (.inl (fun j => lN (dg 1000000000 v (j))))))] sz)) 0 0 (va_A [(h0, .inr (2, [.ref p0])), (p0, .inl (cL, 8, .inr (.inl (fun j => lN (dg 1000000000 v (j))))))] sz) := by
  refine k_start (fun A => (va_Qv (fun _ => True) (fun (_ : Unit) => PostB D (gT cI cL cM) A [(h0, .inr (2, [.ref p0])), (p0, .inl (cL, 8, .inr (.inl (fun j => lN (dg 1000000000 (v / d) (j))))))]) A)) (cc := cX2_divide) (maxL := 7) (ret := none) (by decide) rfl (Nat.le_of_ble_eq_true rfl) ?_
  intro p e s m below meth c A ls hx hb hr hts hown hlocks hin hml hP hK hD hA hS hl
  have hl : lv_has ls 7 [(0, .ref h0), (1, .int (nI (d)))] := hl
  have hown : s.vm.findClass RX2 = some m.cls := hown
  refine lv_iload_n hx hb dX2_divide_0 rfl (lv_at hl 1 rfl) ?_
  refine lv_iconst (v := nI (1)) hx hb dX2_divide_1 (by decide) ?_
  refine n_icmp_ge (tgt := 6) hx hb (by omega) (by omega) dX2_divide_2 (by decide) (fun c_1 => ?_) (fun c_1 => False.elim (by omega))
  refine lv_lconst (v := lN (v / 1000000000 ^ 8 % d)) hx hb dX2_divide_6 (by rw [Nat.div_eq_of_lt hv8, Nat.zero_mod]; decide) ?_
  refine lv_lstore_n (lv' := [(2, .long (lN (v / 1000000000 ^ 8 % d))), (0, .ref h0), (1, .int (nI (d)))]) hx hb dX2_divide_7 rfl hl (by decide) rfl (fun ls hl => ?_)
  refine lv_bipush (v := nI (7)) hx hb dX2_divide_8 (by decide) ?_
  refine lv_istore (lv' := [(4, .int (nI (7))), (2, .long (lN (v / 1000000000 ^ 8 % d))), (0, .ref h0), (1, .int (nI (d)))]) hx hb dX2_divide_10 hl (by decide) rfl (fun ls hl => ?_)
  rw [show nI 7 = nI 8 + (-1) from by decide] at hl
  have L_2 : ∀ k : Nat, k ≤ 8 → ∀ (H : Heap) (locs : List Loc) (ls : Array Slot), va_P D vwCl [(h0, .inr (2, [.ref p0])), (p0, .inl (cL, 8, .inr (.inl (fun j => lN (if k ≤ j then dg 1000000000 (v / d) (j) else dg 1000000000 v (j))))))] H → va_D A [(h0, .inr (2, [.ref p0])), (p0, .inl (cL, 8, .inr (.inl (fun j => lN (if k ≤ j then dg 1000000000 (v / d) (j) else dg 1000000000 v (j))))))] → va_S A s.heap H locs → lv_has ls 7 [(0, .ref h0), (1, .int (nI (d))), (2, .long (lN (v / 1000000000 ^ k % d))), (4, .int (nI k + (-1)))] → W p l e ({ frames := 0, cells := 0, slots := 0, locals := 0 } : Room) s m (List.toArray [.ref h0, .int (nI (d))]) below meth c H locs 0 0 (MQ below (va_Qv (fun _ => True) (fun (_ : Unit) => PostB D (gT cI cL cM) A [(h0, .inr (2, [.ref p0])), (p0, .inl (cL, 8, .inr (.inl (fun j => lN (dg 1000000000 (v / d) (j))))))]) A) (List.toArray [.ref h0, .int (nI (d))]) s 0 0 A) (F0 m 12 ls []) := by
    intro k
    induction k with
    | zero =>
      intro hik H locs ls hP hD hS hl
      refine lv_iload hx hb dX2_divide_12 (lv_at hl 3 rfl) ?_
      refine lv_if_lt (tgt := 56) hx hb dX2_divide_14 (by decide) (fun c_3 => ?_) (fun c => absurd (by decide) c)
      have hP : va_P D vwCl [(h0, .inr (2, [.ref p0])), (p0, .inl (cL, 8, .inr (.inl (fun j => lN (dg 1000000000 (v / d) (j))))))] H := P_altL _ hP 1 rfl rfl (fun j hj => by rw [if_pos (Nat.zero_le j)])
      have hD : va_D A [(h0, .inr (2, [.ref p0])), (p0, .inl (cL, 8, .inr (.inl (fun j => lN (dg 1000000000 (v / d) (j))))))] := D_alt hD (q0 := 1) rfl rfl
      exact k_vret hx hb hr hlocks hP hD hK hS [0, 1] () rfl (by decide) trivial dX2_divide_56
    | succ k ih =>
      intro hik H locs ls hP hD hS hl
      rw [pk_m1] at hl
      have hd := div_dig (v := v) B9 hd0 k
      have hr1 := Nat.mod_lt (v / 1000000000 ^ (k + 1)) hd0
      have hr2 := dg_lt B9 v k
      refine lv_iload hx hb dX2_divide_12 (lv_at hl 3 rfl) ?_
      refine n_if_lt (tgt := 56) hx hb (by omega) dX2_divide_14 (by decide) ?_
      refine lv_lload_n hx hb dX2_divide_17 rfl (lv_at hl 2 rfl) ?_
      refine lv_ldc2 hx hb hown (hts (.constantLong RX2 29 (1000000000)) (by decide +kernel)) dX2_divide_18 ?_
      rw [show (1000000000 : Int64) = lN 1000000000 from rfl]
      refine n_lmul (r := (v / 1000000000 ^ (k + 1) % d) * 1000000000) hx hb dX2_divide_21 rfl ?_
      refine lv_aload_n hx hb dX2_divide_22 rfl (lv_at hl 0 rfl) ?_
      refine va_get (D := D) (cl := vwCl) (ci := 2) (v := .ref p0) (C := RX2) (T := TX2) (N := 1) hx hb hts in_X2_divide_X2 hown hK hP 0 rfl rfl 0 (by decide) (hts (.fieldLink RX2 9 "BulkSamples$Whole" "parts" "[J") fl_X2_divide_9) (fun _ h9 => h9) rfl dX2_divide_23 ?_
      refine lv_iload hx hb dX2_divide_26 (lv_at hl 3 rfl) ?_
      refine n_lald (x := lN (dg 1000000000 v k)) hx hb hK hP 1 1 rfl rfl (by omega) (by omega) (by rw [if_neg (by omega)]) dX2_divide_28 ?_
      refine n_ladd (r := ((v / 1000000000 ^ (k + 1) % d) * 1000000000) + (dg 1000000000 v k)) hx hb dX2_divide_29 rfl ?_
      refine lv_lstore (lv' := [(5, .long (lN (((v / 1000000000 ^ (k + 1) % d) * 1000000000) + (dg 1000000000 v k)))), (0, .ref h0), (1, .int (nI (d))), (2, .long (lN (v / 1000000000 ^ (k + 1) % d))), (4, .int (nI (k)))]) hx hb dX2_divide_30 hl (by decide) rfl (fun ls hl => ?_)
      refine lv_aload_n hx hb dX2_divide_32 rfl (lv_at hl 1 rfl) ?_
      refine va_get (D := D) (cl := vwCl) (ci := 2) (v := .ref p0) (C := RX2) (T := TX2) (N := 1) hx hb hts in_X2_divide_X2 hown hK hP 0 rfl rfl 0 (by decide) (hts (.fieldLink RX2 9 "BulkSamples$Whole" "parts" "[J") fl_X2_divide_9) (fun _ h9 => h9) rfl dX2_divide_33 ?_
      refine lv_iload hx hb dX2_divide_36 (lv_at hl 4 rfl) ?_
      refine lv_lload hx hb dX2_divide_38 (lv_at hl 0 rfl) ?_
      refine lv_iload_n hx hb dX2_divide_40 rfl (lv_at hl 2 rfl) ?_
      refine n_i2l hx hb (by omega) dX2_divide_41 ?_
      refine n_ldiv (r := dg 1000000000 (v / d) k) hx hb dX2_divide_42 (by omega) (by omega) (by omega) hd.1 ?_
      refine n_last (f' := fun j => lN (if k ≤ j then dg 1000000000 (v / d) (j) else dg 1000000000 v (j))) (ws' := [(h0, .inr (2, [.ref p0])), (p0, .inl (cL, 8, .inr (.inl (fun j => lN (if k ≤ j then dg 1000000000 (v / d) (j) else dg 1000000000 v (j))))))]) hx hb hK hP hD hS 1 1 rfl rfl (by omega) (by omega) (fun j _ => st_dnL (fun j => dg 1000000000 (v / d) j) (fun j => dg 1000000000 v j) k j) rfl dX2_divide_43 (fun H locs hP hD hS => ?_)
      refine lv_lload hx hb dX2_divide_44 (lv_at hl 0 rfl) ?_
      refine lv_iload_n hx hb dX2_divide_46 rfl (lv_at hl 2 rfl) ?_
      refine n_i2l hx hb (by omega) dX2_divide_47 ?_
      refine n_lrem (r := v / 1000000000 ^ k % d) hx hb dX2_divide_48 (by omega) (by omega) (by omega) hd.2 ?_
      refine lv_lstore_n (lv' := [(2, .long (lN (v / 1000000000 ^ k % d))), (5, .long (lN (((v / 1000000000 ^ (k + 1) % d) * 1000000000) + (dg 1000000000 v k)))), (0, .ref h0), (1, .int (nI (d))), (4, .int (nI (k)))]) hx hb dX2_divide_49 rfl hl (by decide) rfl (fun ls hl => ?_)
      refine lv_iinc (v := nI (k) + (-1)) (lv' := [(4, .int (nI (k) + (-1))), (2, .long (lN (v / 1000000000 ^ k % d))), (5, .long (lN (((v / 1000000000 ^ (k + 1) % d) * 1000000000) + (dg 1000000000 v k)))), (0, .ref h0), (1, .int (nI (d)))]) hx hb dX2_divide_50 hl (k := 4) rfl (by rw [show Int32.ofInt (-1) = (-1 : Int32) from by decide]) (by decide) rfl (fun ls hl => ?_)
      refine lv_goto (tgt := 12) hx hb dX2_divide_53 (by decide) ?_
      exact ih (by omega) _ _ _ (P_pick hP [0, 1] rfl) (D_pick hD [0, 1] (by decide) rfl) hS (lv_sub hl [3, 4, 1, 0] rfl)
  exact L_2 8 (Nat.le_refl _) _ _ _ (P_altL _ hP 1 rfl rfl (fun j hj => by rw [if_neg (by omega)])) (D_pick hD [0, 1] (by decide) rfl) hS (lv_sub hl [2, 3, 1, 0] rfl)
theorem in_X2_add_X2 : ∀ w ∈ wsX20, w ∈ wsX2_add := by decide +kernel
theorem fl_X2_add_9 : Cond.fieldLink RX2 9 "BulkSamples$Whole" "parts" "[J" ∈ wsX2_add := by decide +kernel
set_option maxHeartbeats 4000000 in
set_option maxRecDepth 100000 in
/-- add -/
theorem c_add (l : Launch) (D : va_G) (cI cL cM : ClassId) (sz : Nat) (h0 p0 v h1 p1 w : Nat) : Met l yX2_add wsX2_add ({ frames := 0, cells := 0, slots := 0, locals := 0 } : Room) (va_Pc [.ref h0, .ref h1] (PreB D (gT cI cL cM) sz [(h0, .inr (2, [.ref p0])), (p0, .inl (cL, 8, .inr (.inl (fun j => lN (dg 1000000000 v (j)))))), (h1, .inr (2, [.ref p1])), (p1, .inl (cL, 8, .inr (.inl (fun j => lN (dg 1000000000 w (j))))))])) (va_Qv (fun _ => True) (fun (_ : Unit) => PostB D (gT cI cL cM) (va_A [(h0, .inr (2, [.ref p0])), (p0, .inl (cL, 8, .inr (.inl (fun j => lN (dg 1000000000 v (j)))))), (h1, .inr (2, [.ref p1])), (p1, .inl (cL, 8, .inr (.inl (fun j => lN (dg 1000000000 w (j))))))] sz) [(h0, .inr (2, [.ref p0])), (p0, .inl (cL, 8, .inr (.inl (fun j => lN (dg 1000000000 (v + w) (j)))))), (h1, .inr (2, [.ref p1])), (p1, .inl (cL, 8, .inr (.inl (fun j => lN (dg 1000000000 w (j))))))]) (va_A [(h0, .inr (2, [.ref p0])), (p0, .inl (cL, 8, .inr (.inl (fun j => lN (dg 1000000000 v (j)))))), (h1, .inr (2, [.ref p1])), (p1, .inl (cL, 8, .inr (.inl (fun j => lN (dg 1000000000 w (j))))))] sz)) 0 0 (va_A [(h0, .inr (2, [.ref p0])), (p0, .inl (cL, 8, .inr (.inl (fun j => lN (dg 1000000000 v (j)))))), (h1, .inr (2, [.ref p1])), (p1, .inl (cL, 8, .inr (.inl (fun j => lN (dg 1000000000 w (j))))))] sz) := by
  refine k_start (fun A => (va_Qv (fun _ => True) (fun (_ : Unit) => PostB D (gT cI cL cM) A [(h0, .inr (2, [.ref p0])), (p0, .inl (cL, 8, .inr (.inl (fun j => lN (dg 1000000000 (v + w) (j)))))), (h1, .inr (2, [.ref p1])), (p1, .inl (cL, 8, .inr (.inl (fun j => lN (dg 1000000000 w (j))))))]) A)) (cc := cX2_add) (maxL := 7) (ret := none) (by decide) rfl (Nat.le_of_ble_eq_true rfl) ?_
  intro p e s m below meth c A ls hx hb hr hts hown hlocks hin hml hP hK hD hA hS hl
  have hl : lv_has ls 7 [(0, .ref h0), (1, .ref h1)] := hl
  have hown : s.vm.findClass RX2 = some m.cls := hown
  refine lv_lconst (v := lN (car 1000000000 v 1 w 1 0)) hx hb dX2_add_0 (by rw [car_0]; decide) ?_
  refine lv_lstore_n (lv' := [(2, .long (lN (car 1000000000 v 1 w 1 0))), (0, .ref h0), (1, .ref h1)]) hx hb dX2_add_1 rfl hl (by decide) rfl (fun ls hl => ?_)
  refine lv_iconst (v := nI (0)) hx hb dX2_add_2 (by decide) ?_
  refine lv_istore (lv' := [(4, .int (nI (0))), (2, .long (lN (car 1000000000 v 1 w 1 0))), (0, .ref h0), (1, .ref h1)]) hx hb dX2_add_3 hl (by decide) rfl (fun ls hl => ?_)
  have L_1 : ∀ (nn9 i : Nat), i + nn9 = 8 → ∀ (H : Heap) (locs : List Loc) (ls : Array Slot), va_P D vwCl [(h0, .inr (2, [.ref p0])), (p0, .inl (cL, 8, .inr (.inl (fun j => lN (if j < i then dg 1000000000 (v + w) (j) else dg 1000000000 v (j)))))), (h1, .inr (2, [.ref p1])), (p1, .inl (cL, 8, .inr (.inl (fun j => lN (dg 1000000000 w (j))))))] H → va_D A [(h0, .inr (2, [.ref p0])), (p0, .inl (cL, 8, .inr (.inl (fun j => lN (if j < i then dg 1000000000 (v + w) (j) else dg 1000000000 v (j)))))), (h1, .inr (2, [.ref p1])), (p1, .inl (cL, 8, .inr (.inl (fun j => lN (dg 1000000000 w (j))))))] → va_S A s.heap H locs → lv_has ls 7 [(0, .ref h0), (1, .ref h1), (2, .long (lN (car 1000000000 v 1 w 1 (i)))), (4, .int (nI (i)))] → W p l e ({ frames := 0, cells := 0, slots := 0, locals := 0 } : Room) s m (List.toArray [.ref h0, .ref h1]) below meth c H locs 0 0 (MQ below (va_Qv (fun _ => True) (fun (_ : Unit) => PostB D (gT cI cL cM) A [(h0, .inr (2, [.ref p0])), (p0, .inl (cL, 8, .inr (.inl (fun j => lN (dg 1000000000 (v + w) (j)))))), (h1, .inr (2, [.ref p1])), (p1, .inl (cL, 8, .inr (.inl (fun j => lN (dg 1000000000 w (j))))))]) A) (List.toArray [.ref h0, .ref h1]) s 0 0 A) (F0 m 5 ls []) := by
    intro nn9
    induction nn9 with
    | zero =>
      intro i hii H locs ls hP hD hS hl
      obtain rfl : 8 = i := by omega
      refine lv_iload hx hb dX2_add_5 (lv_at hl 3 rfl) ?_
      refine lv_bipush (v := nI (8)) hx hb dX2_add_7 (by decide) ?_
      refine n_icmp_ge (tgt := 67) hx hb (by omega) (by omega) dX2_add_9 (by decide) (fun c_2 => ?_) (fun c_2 => False.elim (by omega))
      have hP : va_P D vwCl [(h0, .inr (2, [.ref p0])), (p0, .inl (cL, 8, .inr (.inl (fun j => lN (dg 1000000000 (v + w) (j)))))), (h1, .inr (2, [.ref p1])), (p1, .inl (cL, 8, .inr (.inl (fun j => lN (dg 1000000000 w (j))))))] H := P_altL _ hP 1 rfl rfl (fun j hj => by rw [if_pos hj])
      have hD : va_D A [(h0, .inr (2, [.ref p0])), (p0, .inl (cL, 8, .inr (.inl (fun j => lN (dg 1000000000 (v + w) (j)))))), (h1, .inr (2, [.ref p1])), (p1, .inl (cL, 8, .inr (.inl (fun j => lN (dg 1000000000 w (j))))))] := D_alt hD (q0 := 1) rfl rfl
      exact k_vret hx hb hr hlocks hP hD hK hS [0, 1, 2, 3] () rfl (by decide) trivial dX2_add_67
    | succ nn9 ih =>
      intro i hii H locs ls hP hD hS hl
      have z1 := dg_lt B9 v i
      have z2 := dg_lt B9 w i
      have z3 := car_1 B9 v w i
      have z4 := dg_lt B9 (v + w) i
      refine lv_iload hx hb dX2_add_5 (lv_at hl 3 rfl) ?_
      refine lv_bipush (v := nI (8)) hx hb dX2_add_7 (by decide) ?_
      refine n_icmp_ge (tgt := 67) hx hb (by omega) (by omega) dX2_add_9 (by decide) (fun c_3 => False.elim (by omega)) (fun c_3 => ?_)
      refine lv_aload_n hx hb dX2_add_12 rfl (lv_at hl 0 rfl) ?_
      refine va_get (D := D) (cl := vwCl) (ci := 2) (v := .ref p0) (C := RX2) (T := TX2) (N := 1) hx hb hts in_X2_add_X2 hown hK hP 0 rfl rfl 0 (by decide) (hts (.fieldLink RX2 9 "BulkSamples$Whole" "parts" "[J") fl_X2_add_9) (fun _ h9 => h9) rfl dX2_add_13 ?_
      refine lv_iload hx hb dX2_add_16 (lv_at hl 3 rfl) ?_
      refine n_lald (x := lN (dg 1000000000 v i)) hx hb hK hP 1 1 rfl rfl (by omega) (by omega) (by simp) dX2_add_18 ?_
      refine lv_aload_n hx hb dX2_add_19 rfl (lv_at hl 1 rfl) ?_
      refine va_get (D := D) (cl := vwCl) (ci := 2) (v := .ref p1) (C := RX2) (T := TX2) (N := 1) hx hb hts in_X2_add_X2 hown hK hP 2 rfl rfl 0 (by decide) (hts (.fieldLink RX2 9 "BulkSamples$Whole" "parts" "[J") fl_X2_add_9) (fun _ h9 => h9) rfl dX2_add_20 ?_
      refine lv_iload hx hb dX2_add_23 (lv_at hl 3 rfl) ?_
      refine n_lald (x := lN (dg 1000000000 w (i))) hx hb hK hP 3 1 rfl rfl (by omega) (by omega) rfl dX2_add_25 ?_
      refine n_ladd (r := (dg 1000000000 v i) + (dg 1000000000 w (i))) hx hb dX2_add_26 rfl ?_
      refine lv_lload_n hx hb dX2_add_27 rfl (lv_at hl 2 rfl) ?_
      refine n_ladd (r := ((dg 1000000000 v i) + (dg 1000000000 w (i))) + (car 1000000000 v 1 w 1 (i))) hx hb dX2_add_28 rfl ?_
      refine lv_lstore (lv' := [(5, .long (lN (((dg 1000000000 v i) + (dg 1000000000 w (i))) + (car 1000000000 v 1 w 1 (i))))), (0, .ref h0), (1, .ref h1), (2, .long (lN (car 1000000000 v 1 w 1 (i)))), (4, .int (nI (i)))]) hx hb dX2_add_29 hl (by decide) rfl (fun ls hl => ?_)
      refine lv_lload hx hb dX2_add_31 (lv_at hl 0 rfl) ?_
      refine lv_ldc2 hx hb hown (hts (.constantLong RX2 29 (1000000000)) (by decide +kernel)) dX2_add_33 ?_
      rw [show (1000000000 : Int64) = lN 1000000000 from rfl]
      refine n_lcmp_lt (tgt := 44) hx hb (by omega) (by omega) dX2_add_36 dX2_add_37 (by decide) (fun c_4 => ?_) (fun c_4 => ?_)
      · obtain ⟨ha1, ha2⟩ := add_lo B9 c_4
        refine lv_lconst (v := lN (car 1000000000 v 1 w 1 (i + 1))) hx hb dX2_add_44 (by rw [ha1]; decide) ?_
        refine lv_lstore_n (lv' := [(2, .long (lN (car 1000000000 v 1 w 1 (i + 1)))), (5, .long (lN (((dg 1000000000 v i) + (dg 1000000000 w (i))) + (car 1000000000 v 1 w 1 (i))))), (0, .ref h0), (1, .ref h1), (4, .int (nI (i)))]) hx hb dX2_add_45 rfl hl (by decide) rfl (fun ls hl => ?_)
        refine lv_aload_n hx hb dX2_add_46 rfl (lv_at hl 2 rfl) ?_
        refine va_get (D := D) (cl := vwCl) (ci := 2) (v := .ref p0) (C := RX2) (T := TX2) (N := 1) hx hb hts in_X2_add_X2 hown hK hP 0 rfl rfl 0 (by decide) (hts (.fieldLink RX2 9 "BulkSamples$Whole" "parts" "[J") fl_X2_add_9) (fun _ h9 => h9) rfl dX2_add_47 ?_
        refine lv_iload hx hb dX2_add_50 (lv_at hl 4 rfl) ?_
        refine lv_lload hx hb dX2_add_52 (lv_at hl 1 rfl) ?_
        refine lv_lload_n hx hb dX2_add_54 rfl (lv_at hl 0 rfl) ?_
        refine lv_ldc2 hx hb hown (hts (.constantLong RX2 29 (1000000000)) (by decide +kernel)) dX2_add_55 ?_
        rw [show (1000000000 : Int64) = lN 1000000000 from rfl]
        refine n_lmul (r := (car 1000000000 v 1 w 1 (i + 1)) * 1000000000) hx hb dX2_add_58 rfl ?_
        refine n_lsub (r := dg 1000000000 (v + w) i) hx hb dX2_add_59 (by omega) (by omega) ?_
        refine n_last (f' := fun j => lN (if j < i + 1 then dg 1000000000 (v + w) (j) else dg 1000000000 v (j))) (ws' := [(h0, .inr (2, [.ref p0])), (p0, .inl (cL, 8, .inr (.inl (fun j => lN (if j < i + 1 then dg 1000000000 (v + w) (j) else dg 1000000000 v (j)))))), (h1, .inr (2, [.ref p1])), (p1, .inl (cL, 8, .inr (.inl (fun j => lN (dg 1000000000 w (j))))))]) hx hb hK hP hD hS 1 1 rfl rfl (by omega) (by omega) (fun j _ => st_upL (fun j => dg 1000000000 (v + w) j) (fun j => dg 1000000000 v j) i j) rfl dX2_add_60 (fun H locs hP hD hS => ?_)
        refine lv_iinc (v := nI (i + 1)) (lv' := [(4, .int (nI (i + 1))), (2, .long (lN (car 1000000000 v 1 w 1 (i + 1)))), (5, .long (lN (((dg 1000000000 v i) + (dg 1000000000 w (i))) + (car 1000000000 v 1 w 1 (i))))), (0, .ref h0), (1, .ref h1)]) hx hb dX2_add_61 hl (k := 4) rfl (nI_add i 1) (by decide) rfl (fun ls hl => ?_)
        refine lv_goto (tgt := 5) hx hb dX2_add_64 (by decide) ?_
        exact ih (i + 1) (by omega) _ _ _ (P_pick hP [0, 1, 2, 3] rfl) (D_pick hD [0, 1, 2, 3] (by decide) rfl) hS (lv_sub hl [3, 4, 1, 0] rfl)
      · obtain ⟨ha1, ha2⟩ := add_hi B9 c_4
        refine lv_lconst (v := lN (car 1000000000 v 1 w 1 (i + 1))) hx hb dX2_add_40 (by rw [ha1]; decide) ?_
        refine lv_goto (tgt := 45) hx hb dX2_add_41 (by decide) ?_
        refine lv_lstore_n (lv' := [(2, .long (lN (car 1000000000 v 1 w 1 (i + 1)))), (5, .long (lN (((dg 1000000000 v i) + (dg 1000000000 w (i))) + (car 1000000000 v 1 w 1 (i))))), (0, .ref h0), (1, .ref h1), (4, .int (nI (i)))]) hx hb dX2_add_45 rfl hl (by decide) rfl (fun ls hl => ?_)
        refine lv_aload_n hx hb dX2_add_46 rfl (lv_at hl 2 rfl) ?_
        refine va_get (D := D) (cl := vwCl) (ci := 2) (v := .ref p0) (C := RX2) (T := TX2) (N := 1) hx hb hts in_X2_add_X2 hown hK hP 0 rfl rfl 0 (by decide) (hts (.fieldLink RX2 9 "BulkSamples$Whole" "parts" "[J") fl_X2_add_9) (fun _ h9 => h9) rfl dX2_add_47 ?_
        refine lv_iload hx hb dX2_add_50 (lv_at hl 4 rfl) ?_
        refine lv_lload hx hb dX2_add_52 (lv_at hl 1 rfl) ?_
        refine lv_lload_n hx hb dX2_add_54 rfl (lv_at hl 0 rfl) ?_
        refine lv_ldc2 hx hb hown (hts (.constantLong RX2 29 (1000000000)) (by decide +kernel)) dX2_add_55 ?_
        rw [show (1000000000 : Int64) = lN 1000000000 from rfl]
        refine n_lmul (r := (car 1000000000 v 1 w 1 (i + 1)) * 1000000000) hx hb dX2_add_58 rfl ?_
        refine n_lsub (r := dg 1000000000 (v + w) i) hx hb dX2_add_59 (by omega) (by omega) ?_
        refine n_last (f' := fun j => lN (if j < i + 1 then dg 1000000000 (v + w) (j) else dg 1000000000 v (j))) (ws' := [(h0, .inr (2, [.ref p0])), (p0, .inl (cL, 8, .inr (.inl (fun j => lN (if j < i + 1 then dg 1000000000 (v + w) (j) else dg 1000000000 v (j)))))), (h1, .inr (2, [.ref p1])), (p1, .inl (cL, 8, .inr (.inl (fun j => lN (dg 1000000000 w (j))))))]) hx hb hK hP hD hS 1 1 rfl rfl (by omega) (by omega) (fun j _ => st_upL (fun j => dg 1000000000 (v + w) j) (fun j => dg 1000000000 v j) i j) rfl dX2_add_60 (fun H locs hP hD hS => ?_)
        refine lv_iinc (v := nI (i + 1)) (lv' := [(4, .int (nI (i + 1))), (2, .long (lN (car 1000000000 v 1 w 1 (i + 1)))), (5, .long (lN (((dg 1000000000 v i) + (dg 1000000000 w (i))) + (car 1000000000 v 1 w 1 (i))))), (0, .ref h0), (1, .ref h1)]) hx hb dX2_add_61 hl (k := 4) rfl (nI_add i 1) (by decide) rfl (fun ls hl => ?_)
        refine lv_goto (tgt := 5) hx hb dX2_add_64 (by decide) ?_
        exact ih (i + 1) (by omega) _ _ _ (P_pick hP [0, 1, 2, 3] rfl) (D_pick hD [0, 1, 2, 3] (by decide) rfl) hS (lv_sub hl [3, 4, 1, 0] rfl)
  exact L_1 8 0 (by omega) _ _ _ (P_altL _ hP 1 rfl rfl (fun j _ => by simp)) (D_pick hD [0, 1, 2, 3] (by decide) rfl) hS (lv_sub hl [2, 3, 1, 0] rfl)
theorem in_X2_subtract_X2 : ∀ w ∈ wsX20, w ∈ wsX2_subtract := by decide +kernel
theorem fl_X2_subtract_9 : Cond.fieldLink RX2 9 "BulkSamples$Whole" "parts" "[J" ∈ wsX2_subtract := by decide +kernel
set_option maxHeartbeats 4000000 in
set_option maxRecDepth 100000 in
/-- subtract -/
theorem c_sub (l : Launch) (D : va_G) (cI cL cM : ClassId) (sz : Nat) (h0 p0 v h1 p1 w : Nat) (hwv : w ≤ v) : Met l yX2_subtract wsX2_subtract ({ frames := 0, cells := 0, slots := 0, locals := 0 } : Room) (va_Pc [.ref h0, .ref h1] (PreB D (gT cI cL cM) sz [(h0, .inr (2, [.ref p0])), (p0, .inl (cL, 8, .inr (.inl (fun j => lN (dg 1000000000 v (j)))))), (h1, .inr (2, [.ref p1])), (p1, .inl (cL, 8, .inr (.inl (fun j => lN (dg 1000000000 w (j))))))])) (va_Qv (fun _ => True) (fun (_ : Unit) => PostB D (gT cI cL cM) (va_A [(h0, .inr (2, [.ref p0])), (p0, .inl (cL, 8, .inr (.inl (fun j => lN (dg 1000000000 v (j)))))), (h1, .inr (2, [.ref p1])), (p1, .inl (cL, 8, .inr (.inl (fun j => lN (dg 1000000000 w (j))))))] sz) [(h0, .inr (2, [.ref p0])), (p0, .inl (cL, 8, .inr (.inl (fun j => lN (dg 1000000000 (v - w) (j)))))), (h1, .inr (2, [.ref p1])), (p1, .inl (cL, 8, .inr (.inl (fun j => lN (dg 1000000000 w (j))))))]) (va_A [(h0, .inr (2, [.ref p0])), (p0, .inl (cL, 8, .inr (.inl (fun j => lN (dg 1000000000 v (j)))))), (h1, .inr (2, [.ref p1])), (p1, .inl (cL, 8, .inr (.inl (fun j => lN (dg 1000000000 w (j))))))] sz)) 0 0 (va_A [(h0, .inr (2, [.ref p0])), (p0, .inl (cL, 8, .inr (.inl (fun j => lN (dg 1000000000 v (j)))))), (h1, .inr (2, [.ref p1])), (p1, .inl (cL, 8, .inr (.inl (fun j => lN (dg 1000000000 w (j))))))] sz) := by
  refine k_start (fun A => (va_Qv (fun _ => True) (fun (_ : Unit) => PostB D (gT cI cL cM) A [(h0, .inr (2, [.ref p0])), (p0, .inl (cL, 8, .inr (.inl (fun j => lN (dg 1000000000 (v - w) (j)))))), (h1, .inr (2, [.ref p1])), (p1, .inl (cL, 8, .inr (.inl (fun j => lN (dg 1000000000 w (j))))))]) A)) (cc := cX2_subtract) (maxL := 7) (ret := none) (by decide) rfl (Nat.le_of_ble_eq_true rfl) ?_
  intro p e s m below meth c A ls hx hb hr hts hown hlocks hin hml hP hK hD hA hS hl
  have hl : lv_has ls 7 [(0, .ref h0), (1, .ref h1)] := hl
  have hown : s.vm.findClass RX2 = some m.cls := hown
  refine lv_lconst (v := lN (bor 1000000000 v w 0)) hx hb dX2_subtract_0 (by rw [bor_0]; decide) ?_
  refine lv_lstore_n (lv' := [(2, .long (lN (bor 1000000000 v w 0))), (0, .ref h0), (1, .ref h1)]) hx hb dX2_subtract_1 rfl hl (by decide) rfl (fun ls hl => ?_)
  refine lv_iconst (v := nI (0)) hx hb dX2_subtract_2 (by decide) ?_
  refine lv_istore (lv' := [(4, .int (nI (0))), (2, .long (lN (bor 1000000000 v w 0))), (0, .ref h0), (1, .ref h1)]) hx hb dX2_subtract_3 hl (by decide) rfl (fun ls hl => ?_)
  have L_1 : ∀ (nn9 i : Nat), i + nn9 = 8 → ∀ (H : Heap) (locs : List Loc) (ls : Array Slot), va_P D vwCl [(h0, .inr (2, [.ref p0])), (p0, .inl (cL, 8, .inr (.inl (fun j => lN (if j < i then dg 1000000000 (v - w) (j) else dg 1000000000 v (j)))))), (h1, .inr (2, [.ref p1])), (p1, .inl (cL, 8, .inr (.inl (fun j => lN (dg 1000000000 w (j))))))] H → va_D A [(h0, .inr (2, [.ref p0])), (p0, .inl (cL, 8, .inr (.inl (fun j => lN (if j < i then dg 1000000000 (v - w) (j) else dg 1000000000 v (j)))))), (h1, .inr (2, [.ref p1])), (p1, .inl (cL, 8, .inr (.inl (fun j => lN (dg 1000000000 w (j))))))] → va_S A s.heap H locs → lv_has ls 7 [(0, .ref h0), (1, .ref h1), (2, .long (lN (bor 1000000000 v w (i)))), (4, .int (nI (i)))] → W p l e ({ frames := 0, cells := 0, slots := 0, locals := 0 } : Room) s m (List.toArray [.ref h0, .ref h1]) below meth c H locs 0 0 (MQ below (va_Qv (fun _ => True) (fun (_ : Unit) => PostB D (gT cI cL cM) A [(h0, .inr (2, [.ref p0])), (p0, .inl (cL, 8, .inr (.inl (fun j => lN (dg 1000000000 (v - w) (j)))))), (h1, .inr (2, [.ref p1])), (p1, .inl (cL, 8, .inr (.inl (fun j => lN (dg 1000000000 w (j))))))]) A) (List.toArray [.ref h0, .ref h1]) s 0 0 A) (F0 m 5 ls []) := by
    intro nn9
    induction nn9 with
    | zero =>
      intro i hii H locs ls hP hD hS hl
      obtain rfl : 8 = i := by omega
      refine lv_iload hx hb dX2_subtract_5 (lv_at hl 3 rfl) ?_
      refine lv_bipush (v := nI (8)) hx hb dX2_subtract_7 (by decide) ?_
      refine n_icmp_ge (tgt := 65) hx hb (by omega) (by omega) dX2_subtract_9 (by decide) (fun c_2 => ?_) (fun c_2 => False.elim (by omega))
      have hP : va_P D vwCl [(h0, .inr (2, [.ref p0])), (p0, .inl (cL, 8, .inr (.inl (fun j => lN (dg 1000000000 (v - w) (j)))))), (h1, .inr (2, [.ref p1])), (p1, .inl (cL, 8, .inr (.inl (fun j => lN (dg 1000000000 w (j))))))] H := P_altL _ hP 1 rfl rfl (fun j hj => by rw [if_pos hj])
      have hD : va_D A [(h0, .inr (2, [.ref p0])), (p0, .inl (cL, 8, .inr (.inl (fun j => lN (dg 1000000000 (v - w) (j)))))), (h1, .inr (2, [.ref p1])), (p1, .inl (cL, 8, .inr (.inl (fun j => lN (dg 1000000000 w (j))))))] := D_alt hD (q0 := 1) rfl rfl
      exact k_vret hx hb hr hlocks hP hD hK hS [0, 1, 2, 3] () rfl (by decide) trivial dX2_subtract_65
    | succ nn9 ih =>
      intro i hii H locs ls hP hD hS hl
      have z1 := dg_lt B9 v i
      have z2 := dg_lt B9 w i
      have z3 := bor_le 1000000000 v w i
      have z4 := dg_lt B9 (v - w) i
      have z5 := bor_step B9 v w i
      have z6 := sub_dig B9 hwv i
      refine lv_iload hx hb dX2_subtract_5 (lv_at hl 3 rfl) ?_
      refine lv_bipush (v := nI (8)) hx hb dX2_subtract_7 (by decide) ?_
      refine n_icmp_ge (tgt := 65) hx hb (by omega) (by omega) dX2_subtract_9 (by decide) (fun c_3 => False.elim (by omega)) (fun c_3 => ?_)
      by_cases hc : dg 1000000000 w i + bor 1000000000 v w i ≤ dg 1000000000 v i
      · rw [if_pos hc] at z5 z6
        refine lv_aload_n hx hb dX2_subtract_12 rfl (lv_at hl 0 rfl) ?_
        refine va_get (D := D) (cl := vwCl) (ci := 2) (v := .ref p0) (C := RX2) (T := TX2) (N := 1) hx hb hts in_X2_subtract_X2 hown hK hP 0 rfl rfl 0 (by decide) (hts (.fieldLink RX2 9 "BulkSamples$Whole" "parts" "[J") fl_X2_subtract_9) (fun _ h9 => h9) rfl dX2_subtract_13 ?_
        refine lv_iload hx hb dX2_subtract_16 (lv_at hl 3 rfl) ?_
        refine n_lald (x := lN (dg 1000000000 v i)) hx hb hK hP 1 1 rfl rfl (by omega) (by omega) (by simp) dX2_subtract_18 ?_
        refine lv_aload_n hx hb dX2_subtract_19 rfl (lv_at hl 1 rfl) ?_
        refine va_get (D := D) (cl := vwCl) (ci := 2) (v := .ref p1) (C := RX2) (T := TX2) (N := 1) hx hb hts in_X2_subtract_X2 hown hK hP 2 rfl rfl 0 (by decide) (hts (.fieldLink RX2 9 "BulkSamples$Whole" "parts" "[J") fl_X2_subtract_9) (fun _ h9 => h9) rfl dX2_subtract_20 ?_
        refine lv_iload hx hb dX2_subtract_23 (lv_at hl 3 rfl) ?_
        refine n_lald (x := lN (dg 1000000000 w (i))) hx hb hK hP 3 1 rfl rfl (by omega) (by omega) rfl dX2_subtract_25 ?_
        refine n_lsub (r := (dg 1000000000 v i) - (dg 1000000000 w (i))) hx hb dX2_subtract_26 (by omega) rfl ?_
        refine lv_lload_n hx hb dX2_subtract_27 rfl (lv_at hl 2 rfl) ?_
        refine n_lsub (r := ((dg 1000000000 v i) - (dg 1000000000 w (i))) - (bor 1000000000 v w (i))) hx hb dX2_subtract_28 (by omega) rfl ?_
        refine lv_lstore (lv' := [(5, .long (lN (((dg 1000000000 v i) - (dg 1000000000 w (i))) - (bor 1000000000 v w (i))))), (0, .ref h0), (1, .ref h1), (2, .long (lN (bor 1000000000 v w (i)))), (4, .int (nI (i)))]) hx hb dX2_subtract_29 hl (by decide) rfl (fun ls hl => ?_)
        refine lv_lload hx hb dX2_subtract_31 (lv_at hl 0 rfl) ?_
        refine lv_lconst (v := lN (0)) hx hb dX2_subtract_33 (by decide) ?_
        refine n_lcmp_ge (tgt := 42) hx hb (by omega) (by omega) dX2_subtract_34 dX2_subtract_35 (by decide) (fun c_4 => ?_) (fun c_4 => False.elim (by omega))
        refine lv_lconst (v := lN (bor 1000000000 v w (i + 1))) hx hb dX2_subtract_42 (by rw [z5]; decide) ?_
        refine lv_lstore_n (lv' := [(2, .long (lN (bor 1000000000 v w (i + 1)))), (5, .long (lN (((dg 1000000000 v i) - (dg 1000000000 w (i))) - (bor 1000000000 v w (i))))), (0, .ref h0), (1, .ref h1), (4, .int (nI (i)))]) hx hb dX2_subtract_43 rfl hl (by decide) rfl (fun ls hl => ?_)
        refine lv_aload_n hx hb dX2_subtract_44 rfl (lv_at hl 2 rfl) ?_
        refine va_get (D := D) (cl := vwCl) (ci := 2) (v := .ref p0) (C := RX2) (T := TX2) (N := 1) hx hb hts in_X2_subtract_X2 hown hK hP 0 rfl rfl 0 (by decide) (hts (.fieldLink RX2 9 "BulkSamples$Whole" "parts" "[J") fl_X2_subtract_9) (fun _ h9 => h9) rfl dX2_subtract_45 ?_
        refine lv_iload hx hb dX2_subtract_48 (lv_at hl 4 rfl) ?_
        refine lv_lload hx hb dX2_subtract_50 (lv_at hl 1 rfl) ?_
        refine lv_lload_n hx hb dX2_subtract_52 rfl (lv_at hl 0 rfl) ?_
        refine lv_ldc2 hx hb hown (hts (.constantLong RX2 29 (1000000000)) (by decide +kernel)) dX2_subtract_53 ?_
        rw [show (1000000000 : Int64) = lN 1000000000 from rfl]
        refine n_lmul (r := (bor 1000000000 v w (i + 1)) * 1000000000) hx hb dX2_subtract_56 rfl ?_
        refine n_ladd (r := dg 1000000000 (v - w) i) hx hb dX2_subtract_57 (by omega) ?_
        refine n_last (f' := fun j => lN (if j < i + 1 then dg 1000000000 (v - w) (j) else dg 1000000000 v (j))) (ws' := [(h0, .inr (2, [.ref p0])), (p0, .inl (cL, 8, .inr (.inl (fun j => lN (if j < i + 1 then dg 1000000000 (v - w) (j) else dg 1000000000 v (j)))))), (h1, .inr (2, [.ref p1])), (p1, .inl (cL, 8, .inr (.inl (fun j => lN (dg 1000000000 w (j))))))]) hx hb hK hP hD hS 1 1 rfl rfl (by omega) (by omega) (fun j _ => st_upL (fun j => dg 1000000000 (v - w) j) (fun j => dg 1000000000 v j) i j) rfl dX2_subtract_58 (fun H locs hP hD hS => ?_)
        refine lv_iinc (v := nI (i + 1)) (lv' := [(4, .int (nI (i + 1))), (2, .long (lN (bor 1000000000 v w (i + 1)))), (5, .long (lN (((dg 1000000000 v i) - (dg 1000000000 w (i))) - (bor 1000000000 v w (i))))), (0, .ref h0), (1, .ref h1)]) hx hb dX2_subtract_59 hl (k := 4) rfl (nI_add i 1) (by decide) rfl (fun ls hl => ?_)
        refine lv_goto (tgt := 5) hx hb dX2_subtract_62 (by decide) ?_
        exact ih (i + 1) (by omega) _ _ _ (P_pick hP [0, 1, 2, 3] rfl) (D_pick hD [0, 1, 2, 3] (by decide) rfl) hS (lv_sub hl [3, 4, 1, 0] rfl)
      · rw [if_neg hc] at z5 z6
        refine lv_aload_n hx hb dX2_subtract_12 rfl (lv_at hl 0 rfl) ?_
        refine va_get (D := D) (cl := vwCl) (ci := 2) (v := .ref p0) (C := RX2) (T := TX2) (N := 1) hx hb hts in_X2_subtract_X2 hown hK hP 0 rfl rfl 0 (by decide) (hts (.fieldLink RX2 9 "BulkSamples$Whole" "parts" "[J") fl_X2_subtract_9) (fun _ h9 => h9) rfl dX2_subtract_13 ?_
        refine lv_iload hx hb dX2_subtract_16 (lv_at hl 3 rfl) ?_
        refine n_lald (x := lN (dg 1000000000 v i)) hx hb hK hP 1 1 rfl rfl (by omega) (by omega) (by simp) dX2_subtract_18 ?_
        refine lv_aload_n hx hb dX2_subtract_19 rfl (lv_at hl 1 rfl) ?_
        refine va_get (D := D) (cl := vwCl) (ci := 2) (v := .ref p1) (C := RX2) (T := TX2) (N := 1) hx hb hts in_X2_subtract_X2 hown hK hP 2 rfl rfl 0 (by decide) (hts (.fieldLink RX2 9 "BulkSamples$Whole" "parts" "[J") fl_X2_subtract_9) (fun _ h9 => h9) rfl dX2_subtract_20 ?_
        refine lv_iload hx hb dX2_subtract_23 (lv_at hl 3 rfl) ?_
        refine n_lald (x := lN (dg 1000000000 w (i))) hx hb hK hP 3 1 rfl rfl (by omega) (by omega) rfl dX2_subtract_25 ?_
        refine lv_lsub hx hb dX2_subtract_26 ?_
        refine lv_lload_n hx hb dX2_subtract_27 rfl (lv_at hl 2 rfl) ?_
        refine lv_lsub hx hb dX2_subtract_28 ?_
        refine lv_lstore (lv' := [(5, .long (((lN (dg 1000000000 v i)) - (lN (dg 1000000000 w (i)))) - (lN (bor 1000000000 v w (i))))), (0, .ref h0), (1, .ref h1), (2, .long (lN (bor 1000000000 v w (i)))), (4, .int (nI (i)))]) hx hb dX2_subtract_29 hl (by decide) rfl (fun ls hl => ?_)
        refine lv_lload hx hb dX2_subtract_31 (lv_at hl 0 rfl) ?_
        refine lv_lconst (v := lN (0)) hx hb dX2_subtract_33 (by decide) ?_
        refine r_lcmp_ge (tgt := 42) hx hb dX2_subtract_34 dX2_subtract_35 (by decide) (fun c => absurd (Int64.le_iff_toInt_le.mp c) (by have q := Int64.lt_iff_toInt_lt.mp (lN3_neg (x := dg 1000000000 v i) (y := dg 1000000000 w i) (b := bor 1000000000 v w i) (by omega) (by omega) (by omega) (by omega)); omega)) (fun c_5 => ?_)
        refine lv_lconst (v := lN (bor 1000000000 v w (i + 1))) hx hb dX2_subtract_38 (by rw [z5]; decide) ?_
        refine lv_goto (tgt := 43) hx hb dX2_subtract_39 (by decide) ?_
        refine lv_lstore_n (lv' := [(2, .long (lN (bor 1000000000 v w (i + 1)))), (5, .long (((lN (dg 1000000000 v i)) - (lN (dg 1000000000 w (i)))) - (lN (bor 1000000000 v w (i))))), (0, .ref h0), (1, .ref h1), (4, .int (nI (i)))]) hx hb dX2_subtract_43 rfl hl (by decide) rfl (fun ls hl => ?_)
        refine lv_aload_n hx hb dX2_subtract_44 rfl (lv_at hl 2 rfl) ?_
        refine va_get (D := D) (cl := vwCl) (ci := 2) (v := .ref p0) (C := RX2) (T := TX2) (N := 1) hx hb hts in_X2_subtract_X2 hown hK hP 0 rfl rfl 0 (by decide) (hts (.fieldLink RX2 9 "BulkSamples$Whole" "parts" "[J") fl_X2_subtract_9) (fun _ h9 => h9) rfl dX2_subtract_45 ?_
        refine lv_iload hx hb dX2_subtract_48 (lv_at hl 4 rfl) ?_
        refine lv_lload hx hb dX2_subtract_50 (lv_at hl 1 rfl) ?_
        refine lv_lload_n hx hb dX2_subtract_52 rfl (lv_at hl 0 rfl) ?_
        refine lv_ldc2 hx hb hown (hts (.constantLong RX2 29 (1000000000)) (by decide +kernel)) dX2_subtract_53 ?_
        rw [show (1000000000 : Int64) = lN 1000000000 from rfl]
        refine n_lmul (r := 1000000000) hx hb dX2_subtract_56 (by rw [z5]) ?_
        refine lv_ladd hx hb dX2_subtract_57 ?_
        rw [show (((lN (dg 1000000000 v i)) - (lN (dg 1000000000 w (i)))) - (lN (bor 1000000000 v w (i)))) + (lN (1000000000)) = lN (dg 1000000000 (v - w) i) from (by rw [lN3_fix (by omega) (by omega) (by omega) (by omega) (by omega), z6])]
        refine n_last (f' := fun j => lN (if j < i + 1 then dg 1000000000 (v - w) (j) else dg 1000000000 v (j))) (ws' := [(h0, .inr (2, [.ref p0])), (p0, .inl (cL, 8, .inr (.inl (fun j => lN (if j < i + 1 then dg 1000000000 (v - w) (j) else dg 1000000000 v (j)))))), (h1, .inr (2, [.ref p1])), (p1, .inl (cL, 8, .inr (.inl (fun j => lN (dg 1000000000 w (j))))))]) hx hb hK hP hD hS 1 1 rfl rfl (by omega) (by omega) (fun j _ => st_upL (fun j => dg 1000000000 (v - w) j) (fun j => dg 1000000000 v j) i j) rfl dX2_subtract_58 (fun H locs hP hD hS => ?_)
        refine lv_iinc (v := nI (i + 1)) (lv' := [(4, .int (nI (i + 1))), (2, .long (lN (bor 1000000000 v w (i + 1)))), (5, .long (((lN (dg 1000000000 v i)) - (lN (dg 1000000000 w (i)))) - (lN (bor 1000000000 v w (i))))), (0, .ref h0), (1, .ref h1)]) hx hb dX2_subtract_59 hl (k := 4) rfl (nI_add i 1) (by decide) rfl (fun ls hl => ?_)
        refine lv_goto (tgt := 5) hx hb dX2_subtract_62 (by decide) ?_
        exact ih (i + 1) (by omega) _ _ _ (P_pick hP [0, 1, 2, 3] rfl) (D_pick hD [0, 1, 2, 3] (by decide) rfl) hS (lv_sub hl [3, 4, 1, 0] rfl)
  exact L_1 8 0 (by omega) _ _ _ (P_altL _ hP 1 rfl rfl (fun j _ => by simp)) (D_pick hD [0, 1, 2, 3] (by decide) rfl) hS (lv_sub hl [2, 3, 1, 0] rfl)
theorem in_X2_isAtLeast_X2 : ∀ w ∈ wsX20, w ∈ wsX2_isAtLeast := by decide +kernel
theorem fl_X2_isAtLeast_9 : Cond.fieldLink RX2 9 "BulkSamples$Whole" "parts" "[J" ∈ wsX2_isAtLeast := by decide +kernel
set_option maxHeartbeats 4000000 in
set_option maxRecDepth 100000 in
/-- isAtLeast -/
theorem c_ge (l : Launch) (D : va_G) (cI cL cM : ClassId) (sz : Nat) (h0 p0 v h1 p1 w : Nat) (hv8 : v < 1000000000 ^ 8) (hw8 : w < 1000000000 ^ 8) : Met l yX2_isAtLeast wsX2_isAtLeast ({ frames := 0, cells := 0, slots := 0, locals := 0 } : Room) (va_Pc [.ref h0, .ref h1] (PreB D (gT cI cL cM) sz [(h0, .inr (2, [.ref p0])), (p0, .inl (cL, 8, .inr (.inl (fun j => lN (dg 1000000000 v (j)))))), (h1, .inr (2, [.ref p1])), (p1, .inl (cL, 8, .inr (.inl (fun j => lN (dg 1000000000 w (j))))))])) (va_Qi (fun r _ => r = nI (b2 (w ≤ v))) (fun (_ : Unit) => PostB D (gT cI cL cM) (va_A [(h0, .inr (2, [.ref p0])), (p0, .inl (cL, 8, .inr (.inl (fun j => lN (dg 1000000000 v (j)))))), (h1, .inr (2, [.ref p1])), (p1, .inl (cL, 8, .inr (.inl (fun j => lN (dg 1000000000 w (j))))))] sz) [(h0, .inr (2, [.ref p0])), (p0, .inl (cL, 8, .inr (.inl (fun j => lN (dg 1000000000 v (j)))))), (h1, .inr (2, [.ref p1])), (p1, .inl (cL, 8, .inr (.inl (fun j => lN (dg 1000000000 w (j))))))]) (va_A [(h0, .inr (2, [.ref p0])), (p0, .inl (cL, 8, .inr (.inl (fun j => lN (dg 1000000000 v (j)))))), (h1, .inr (2, [.ref p1])), (p1, .inl (cL, 8, .inr (.inl (fun j => lN (dg 1000000000 w (j))))))] sz)) 0 0 (va_A [(h0, .inr (2, [.ref p0])), (p0, .inl (cL, 8, .inr (.inl (fun j => lN (dg 1000000000 v (j)))))), (h1, .inr (2, [.ref p1])), (p1, .inl (cL, 8, .inr (.inl (fun j => lN (dg 1000000000 w (j))))))] sz) := by
  refine k_start (fun A => (va_Qi (fun r _ => r = nI (b2 (w ≤ v))) (fun (_ : Unit) => PostB D (gT cI cL cM) A [(h0, .inr (2, [.ref p0])), (p0, .inl (cL, 8, .inr (.inl (fun j => lN (dg 1000000000 v (j)))))), (h1, .inr (2, [.ref p1])), (p1, .inl (cL, 8, .inr (.inl (fun j => lN (dg 1000000000 w (j))))))]) A)) (cc := cX2_isAtLeast) (maxL := 3) (ret := (some .boolean)) (by decide) rfl (Nat.le_of_ble_eq_true rfl) ?_
  intro p e s m below meth c A ls hx hb hr hts hown hlocks hin hml hP hK hD hA hS hl
  have hl : lv_has ls 3 [(0, .ref h0), (1, .ref h1)] := hl
  have hown : s.vm.findClass RX2 = some m.cls := hown
  refine lv_bipush (v := nI (7)) hx hb dX2_isAtLeast_0 (by decide) ?_
  refine lv_istore_n (lv' := [(2, .int (nI (7))), (0, .ref h0), (1, .ref h1)]) hx hb dX2_isAtLeast_2 rfl hl (by decide) rfl (fun ls hl => ?_)
  rw [show nI 7 = nI 8 + (-1) from by decide] at hl
  have L_1 : ∀ k : Nat, k ≤ 8 → v / 1000000000 ^ k = w / 1000000000 ^ k → ∀ (H : Heap) (locs : List Loc) (ls : Array Slot), va_P D vwCl [(h0, .inr (2, [.ref p0])), (p0, .inl (cL, 8, .inr (.inl (fun j => lN (dg 1000000000 v (j)))))), (h1, .inr (2, [.ref p1])), (p1, .inl (cL, 8, .inr (.inl (fun j => lN (dg 1000000000 w (j))))))] H → va_D A [(h0, .inr (2, [.ref p0])), (p0, .inl (cL, 8, .inr (.inl (fun j => lN (dg 1000000000 v (j)))))), (h1, .inr (2, [.ref p1])), (p1, .inl (cL, 8, .inr (.inl (fun j => lN (dg 1000000000 w (j))))))] → va_S A s.heap H locs → lv_has ls 3 [(0, .ref h0), (1, .ref h1), (2, .int (nI k + (-1)))] → W p l e ({ frames := 0, cells := 0, slots := 0, locals := 0 } : Room) s m (List.toArray [.ref h0, .ref h1]) below meth c H locs 0 0 (MQ below (va_Qi (fun r _ => r = nI (b2 (w ≤ v))) (fun (_ : Unit) => PostB D (gT cI cL cM) A [(h0, .inr (2, [.ref p0])), (p0, .inl (cL, 8, .inr (.inl (fun j => lN (dg 1000000000 v (j)))))), (h1, .inr (2, [.ref p1])), (p1, .inl (cL, 8, .inr (.inl (fun j => lN (dg 1000000000 w (j))))))]) A) (List.toArray [.ref h0, .ref h1]) s 0 0 A) (F0 m 3 ls []) := by
    intro k
    induction k with
    | zero =>
      intro hik hf H locs ls hP hD hS hl
      refine lv_iload_n hx hb dX2_isAtLeast_3 rfl (lv_at hl 2 rfl) ?_
      refine lv_if_lt (tgt := 51) hx hb dX2_isAtLeast_4 (by decide) (fun c_2 => ?_) (fun c => absurd (by decide) c)
      refine lv_iconst (v := nI (1)) hx hb dX2_isAtLeast_51 (by decide) ?_
      exact k_zret (v := nI (1)) hx hb hr rfl hlocks hP hD hK hS [0, 1, 2, 3] () rfl (by decide) (by rw [b2_t (Nat.le_of_eq (cmp_end hf).symm)]) dX2_isAtLeast_52
    | succ k ih =>
      intro hik hf H locs ls hP hD hS hl
      rw [pk_m1] at hl
      have hq := cmp_dig hf
      have z1 := dg_lt B9 v k
      have z2 := dg_lt B9 w k
      refine lv_iload_n hx hb dX2_isAtLeast_3 rfl (lv_at hl 2 rfl) ?_
      refine n_if_lt (tgt := 51) hx hb (by omega) dX2_isAtLeast_4 (by decide) ?_
      refine lv_aload_n hx hb dX2_isAtLeast_7 rfl (lv_at hl 0 rfl) ?_
      refine va_get (D := D) (cl := vwCl) (ci := 2) (v := .ref p0) (C := RX2) (T := TX2) (N := 1) hx hb hts in_X2_isAtLeast_X2 hown hK hP 0 rfl rfl 0 (by decide) (hts (.fieldLink RX2 9 "BulkSamples$Whole" "parts" "[J") fl_X2_isAtLeast_9) (fun _ h9 => h9) rfl dX2_isAtLeast_8 ?_
      refine lv_iload_n hx hb dX2_isAtLeast_11 rfl (lv_at hl 2 rfl) ?_
      refine n_lald (x := lN (dg 1000000000 v (k))) hx hb hK hP 1 1 rfl rfl (by omega) (by omega) rfl dX2_isAtLeast_12 ?_
      refine lv_aload_n hx hb dX2_isAtLeast_13 rfl (lv_at hl 1 rfl) ?_
      refine va_get (D := D) (cl := vwCl) (ci := 2) (v := .ref p1) (C := RX2) (T := TX2) (N := 1) hx hb hts in_X2_isAtLeast_X2 hown hK hP 2 rfl rfl 0 (by decide) (hts (.fieldLink RX2 9 "BulkSamples$Whole" "parts" "[J") fl_X2_isAtLeast_9) (fun _ h9 => h9) rfl dX2_isAtLeast_14 ?_
      refine lv_iload_n hx hb dX2_isAtLeast_17 rfl (lv_at hl 2 rfl) ?_
      refine n_lald (x := lN (dg 1000000000 w (k))) hx hb hK hP 3 1 rfl rfl (by omega) (by omega) rfl dX2_isAtLeast_18 ?_
      refine n_lcmp_eq (tgt := 45) hx hb (by omega) (by omega) dX2_isAtLeast_19 dX2_isAtLeast_20 (by decide) (fun c_4 => ?_) (fun c_4 => ?_)
      · refine lv_iinc (v := nI (k) + (-1)) (lv' := [(2, .int (nI (k) + (-1))), (0, .ref h0), (1, .ref h1)]) hx hb dX2_isAtLeast_45 hl (k := 2) rfl (by rw [show Int32.ofInt (-1) = (-1 : Int32) from by decide]) (by decide) rfl (fun ls hl => ?_)
        refine lv_goto (tgt := 3) hx hb dX2_isAtLeast_48 (by decide) ?_
        exact ih (by omega) (hq.1 c_4) _ _ _ (P_pick hP [0, 1, 2, 3] rfl) (D_pick hD [0, 1, 2, 3] (by decide) rfl) hS (lv_sub hl [1, 2, 0] rfl)
      · refine lv_aload_n hx hb dX2_isAtLeast_23 rfl (lv_at hl 0 rfl) ?_
        refine va_get (D := D) (cl := vwCl) (ci := 2) (v := .ref p0) (C := RX2) (T := TX2) (N := 1) hx hb hts in_X2_isAtLeast_X2 hown hK hP 0 rfl rfl 0 (by decide) (hts (.fieldLink RX2 9 "BulkSamples$Whole" "parts" "[J") fl_X2_isAtLeast_9) (fun _ h9 => h9) rfl dX2_isAtLeast_24 ?_
        refine lv_iload_n hx hb dX2_isAtLeast_27 rfl (lv_at hl 2 rfl) ?_
        refine n_lald (x := lN (dg 1000000000 v (k))) hx hb hK hP 1 1 rfl rfl (by omega) (by omega) rfl dX2_isAtLeast_28 ?_
        refine lv_aload_n hx hb dX2_isAtLeast_29 rfl (lv_at hl 1 rfl) ?_
        refine va_get (D := D) (cl := vwCl) (ci := 2) (v := .ref p1) (C := RX2) (T := TX2) (N := 1) hx hb hts in_X2_isAtLeast_X2 hown hK hP 2 rfl rfl 0 (by decide) (hts (.fieldLink RX2 9 "BulkSamples$Whole" "parts" "[J") fl_X2_isAtLeast_9) (fun _ h9 => h9) rfl dX2_isAtLeast_30 ?_
        refine lv_iload_n hx hb dX2_isAtLeast_33 rfl (lv_at hl 2 rfl) ?_
        refine n_lald (x := lN (dg 1000000000 w (k))) hx hb hK hP 3 1 rfl rfl (by omega) (by omega) rfl dX2_isAtLeast_34 ?_
        refine n_lcmp_le (tgt := 43) hx hb (by omega) (by omega) dX2_isAtLeast_35 dX2_isAtLeast_36 (by decide) (fun c_5 => ?_) (fun c_5 => ?_)
        · refine lv_iconst (v := nI (0)) hx hb dX2_isAtLeast_43 (by decide) ?_
          exact k_zret (v := nI (0)) hx hb hr rfl hlocks hP hD hK hS [0, 1, 2, 3] () rfl (by decide) (by rw [b2_f (Nat.not_le.mpr (hq.2.2 (by omega)))]) dX2_isAtLeast_44
        · refine lv_iconst (v := nI (1)) hx hb dX2_isAtLeast_39 (by decide) ?_
          refine lv_goto (tgt := 44) hx hb dX2_isAtLeast_40 (by decide) ?_
          exact k_zret (v := nI (1)) hx hb hr rfl hlocks hP hD hK hS [0, 1, 2, 3] () rfl (by decide) (by rw [b2_t (Nat.le_of_lt (hq.2.1 (by omega)))]) dX2_isAtLeast_44
  exact L_1 8 (Nat.le_refl _) (cmp_start hv8 hw8) _ _ _ (P_pick hP [0, 1, 2, 3] rfl) (D_pick hD [0, 1, 2, 3] (by decide) rfl) hS (lv_sub hl [1, 2, 0] rfl)
