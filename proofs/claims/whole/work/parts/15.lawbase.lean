/-! the reference's constructor; the mailings of the run; the law's own rows -/
theorem P_mem {D : va_G} {cl : List vw_C} {ws : va_W} {H : Heap} : va_P D cl ws H ↔ ∀ q ∈ ws, va_at D cl q H :=
  ⟨fun h q hq => by
    obtain ⟨i, hi⟩ := List.getElem?_of_mem hq
    exact h i q hi, fun h k q hk => h q (List.mem_of_getElem? hk)⟩
theorem P_perm {D : va_G} {cl : List vw_C} {ws ws' : va_W} {H : Heap} (h : ws.Perm ws') (hP : va_P D cl ws H) : va_P D cl ws' H := P_mem.mpr (fun q hq => P_mem.mp hP q (h.mem_iff.mpr hq))
theorem P_app {D : va_G} {cl : List vw_C} {a b : va_W} {H : Heap} : va_P D cl (a ++ b) H ↔ va_P D cl a H ∧ va_P D cl b H :=
  ⟨fun h => ⟨P_mem.mpr (fun q hq => P_mem.mp h q (List.mem_append_left _ hq)), P_mem.mpr (fun q hq => P_mem.mp h q (List.mem_append_right _ hq))⟩, fun h => va_P.app h.1 h.2⟩
theorem D_cons {A : Nat → Prop} {x : Nat × va_E} {ws : va_W} : va_D A (x :: ws) ↔ A x.1 ∧ (∀ q ∈ ws, q.1 ≠ x.1) ∧ va_D A ws := by
  constructor
  · intro h
    refine ⟨h.2 0 x rfl, fun q hq e => ?_, fun i j y z hi hj hyz => ?_, fun k q hk => h.2 (k + 1) q hk⟩
    · obtain ⟨i, hi⟩ := List.getElem?_of_mem hq
      have := h.1 (i + 1) 0 q x hi rfl e
      omega
    · have := h.1 (i + 1) (j + 1) y z hi hj hyz
      omega
  · rintro ⟨h1, h2, h3⟩
    refine ⟨fun i j y z hi hj hyz => ?_, fun k q hk => ?_⟩
    · cases i with
      | zero =>
        cases j with
        | zero => rfl
        | succ j =>
          rw [List.getElem?_cons_zero] at hi
          rw [List.getElem?_cons_succ] at hj
          cases hi
          exact absurd hyz.symm (h2 z (List.mem_of_getElem? hj))
      | succ i =>
        rw [List.getElem?_cons_succ] at hi
        cases j with
        | zero =>
          rw [List.getElem?_cons_zero] at hj
          cases hj
          exact absurd hyz (h2 y (List.mem_of_getElem? hi))
        | succ j =>
          rw [List.getElem?_cons_succ] at hj
          rw [h3.1 i j y z hi hj hyz]
    · cases k with
      | zero =>
        rw [List.getElem?_cons_zero] at hk
        cases hk
        exact h1
      | succ k => exact h3.2 k q hk
theorem D_perm {A : Nat → Prop} {ws ws' : va_W} (h : ws.Perm ws') : va_D A ws → va_D A ws' := by
  induction h with
  | nil => exact id
  | cons x hp ih =>
    intro hD
    obtain ⟨h1, h2, h3⟩ := D_cons.mp hD
    exact D_cons.mpr ⟨h1, fun q hq => h2 q (hp.mem_iff.mpr hq), ih h3⟩
  | swap x y l9 =>
    intro hD
    obtain ⟨h1, h2, h3⟩ := D_cons.mp hD
    obtain ⟨h4, h5, h6⟩ := D_cons.mp h3
    refine D_cons.mpr ⟨h4, fun q hq => ?_, D_cons.mpr ⟨h1, fun q hq => h2 q (List.mem_cons_of_mem _ hq), h6⟩⟩
    rcases List.mem_cons.mp hq with e | hq
    · rw [e]; exact fun z => h2 x List.mem_cons_self z.symm
    · exact h5 q hq
  | trans _ _ ih1 ih2 => exact fun hD => ih2 (ih1 hD)
theorem D_addr {A : Nat → Prop} : ∀ {ws ws' : va_W}, ws.map (fun q => q.1) = ws'.map (fun q => q.1) → va_D A ws → va_D A ws'
  | [], [], _, hD => hD
  | [], _ :: _, h, _ => by simp at h
  | _ :: _, [], h, _ => by simp at h
  | x :: ws, y :: ws', h, hD => by
    rw [List.map_cons, List.map_cons] at h
    obtain ⟨e1, e2⟩ := List.cons.inj h
    obtain ⟨h1, h2, h3⟩ := D_cons.mp hD
    refine D_cons.mpr ⟨by rw [← e1]; exact h1, fun q hq => ?_, D_addr e2 h3⟩
    have hm : q.1 ∈ ws'.map (fun q => q.1) := List.mem_map.mpr ⟨q, hq, rfl⟩
    rw [← e2] at hm
    obtain ⟨q2, hq2, e3⟩ := List.mem_map.mp hm
    rw [← e3, ← e1]
    exact h2 q2 hq2
def pool (F : Nat → va_W) : Nat → va_W
  | 0 => []
  | n + 1 => pool F n ++ F n
def poolx (F : Nat → va_W) (k : Nat) : Nat → va_W
  | 0 => []
  | n + 1 => if n = k then poolx F k n else poolx F k n ++ F n
theorem poolx_all (F : Nat → va_W) (k : Nat) : ∀ n : Nat, n ≤ k → poolx F k n = pool F n
  | 0, _ => rfl
  | n + 1, h => by
    show (if n = k then poolx F k n else poolx F k n ++ F n) = pool F n ++ F n
    rw [if_neg (by omega), poolx_all F k n (by omega)]
theorem pool_perm (F : Nat → va_W) (k : Nat) : ∀ n : Nat, k < n → (pool F n).Perm (F k ++ poolx F k n)
  | 0, h => absurd h (Nat.not_lt_zero _)
  | n + 1, h => by
    show (pool F n ++ F n).Perm (F k ++ (if n = k then poolx F k n else poolx F k n ++ F n))
    by_cases e : n = k
    · rw [if_pos e]
      subst e
      rw [poolx_all F n n (Nat.le_refl _)]
      exact List.perm_append_comm
    · rw [if_neg e, ← List.append_assoc]
      exact (pool_perm F k n (by omega)).append_right _
/-- one kind of cells told as another -/
def sameW (D : va_G) (a b : va_W) : Prop := a.map (fun q => q.1) = b.map (fun q => q.1) ∧ ∀ H : Heap, va_P D vwCl a H → va_P D vwCl b H
theorem sameW.app {D : va_G} {a b c d : va_W} (h1 : sameW D a b) (h2 : sameW D c d) : sameW D (a ++ c) (b ++ d) := ⟨by rw [List.map_append, List.map_append, h1.1, h2.1], fun H h => P_app.mpr ⟨h1.2 H (P_app.mp h).1, h2.2 H (P_app.mp h).2⟩⟩
theorem sameW.rf {D : va_G} {a : va_W} : sameW D a a := ⟨rfl, fun _ h => h⟩
theorem pool_same {D : va_G} {F F' : Nat → va_W} : ∀ n : Nat, (∀ j, j < n → sameW D (F j) (F' j)) → sameW D (pool F n) (pool F' n)
  | 0, _ => sameW.rf
  | n + 1, h => (pool_same n (fun j hj => h j (by omega))).app (h n (by omega))
theorem poolx_same {D : va_G} {F F' : Nat → va_W} {k : Nat} : ∀ n : Nat, (∀ j, j < n → j ≠ k → sameW D (F j) (F' j)) → sameW D (poolx F k n) (poolx F' k n)
  | 0, _ => sameW.rf
  | n + 1, h => by
    show sameW D (if n = k then poolx F k n else poolx F k n ++ F n) (if n = k then poolx F' k n else poolx F' k n ++ F' n)
    have ih := poolx_same n (fun j hj hk => h j (by omega) hk)
    by_cases e : n = k
    · rw [if_pos e, if_pos e]; exact ih
    · rw [if_neg e, if_neg e]; exact ih.app (h n (by omega) e)
theorem focus {D : va_G} {A : Nat → Prop} {X : va_W} {F : Nat → va_W} {n k : Nat} {H : Heap} (hk : k < n) (hP : va_P D vwCl (X ++ pool F n) H) (hD : va_D A (X ++ pool F n)) : va_P D vwCl ((X ++ F k) ++ poolx F k n) H ∧ va_D A ((X ++ F k) ++ poolx F k n) := by
  have h : (X ++ pool F n).Perm ((X ++ F k) ++ poolx F k n) := by
    rw [List.append_assoc]
    exact (pool_perm F k n hk).append_left X
  exact ⟨P_perm h hP, D_perm h hD⟩
theorem unfocus {D : va_G} {A : Nat → Prop} {X : va_W} {F F' : Nat → va_W} {n k : Nat} {H : Heap} (hk : k < n) (ho : ∀ j, j < n → j ≠ k → sameW D (F j) (F' j)) (hP : va_P D vwCl ((X ++ F' k) ++ poolx F k n) H) (hD : va_D A ((X ++ F' k) ++ poolx F k n)) : va_P D vwCl (X ++ pool F' n) H ∧ va_D A (X ++ pool F' n) := by
  have hs := (sameW.rf (D := D) (a := X ++ F' k)).app (poolx_same n ho)
  have h : ((X ++ F' k) ++ poolx F' k n).Perm (X ++ pool F' n) := by
    rw [List.append_assoc]
    exact ((pool_perm F' k n hk).append_left X).symm
  exact ⟨P_perm h (hs.2 H hP), D_perm h (D_addr hs.1 hD)⟩
theorem pool_add {D : va_G} {A : Nat → Prop} {X : va_W} {F F' : Nat → va_W} {n : Nat} {H : Heap} (ho : ∀ j, j < n → sameW D (F j) (F' j)) (hP : va_P D vwCl ((X ++ F' n) ++ pool F n) H) (hD : va_D A ((X ++ F' n) ++ pool F n)) : va_P D vwCl (X ++ pool F' (n + 1)) H ∧ va_D A (X ++ pool F' (n + 1)) := by
  have hs := (sameW.rf (D := D) (a := X ++ F' n)).app (pool_same n ho)
  have h : ((X ++ F' n) ++ pool F' n).Perm (X ++ pool F' (n + 1)) := by
    rw [List.append_assoc]
    exact (List.perm_append_comm (l₁ := F' n) (l₂ := pool F' n)).append_left X
  exact ⟨P_perm h (hs.2 H hP), D_perm h (D_addr hs.1 hD)⟩
/-- the three cells of mailing k + 1 -/
def mcl (cI : ClassId) (am ad af iv nv dv wv : Nat → Nat) (k : Nat) : va_W := [(am k, .inr (0, [.int (nI (iv (k + 1))), .ref (ad k), .ref (af k), .int (nI (nv (k + 1)))])), (ad k, .inl (cI, 4, .inl (fun j => nI (dv (4 * (k + 1) + j))))), (af k, .inl (cI, 3, .inl (fun j => nI (wv (3 * (k + 1) + j)))))]
theorem mcl_same {D : va_G} {cI : ClassId} {am ad af iv nv dv wv am' ad' af' iv' nv' dv' wv' : Nat → Nat} {k : Nat} (h1 : am k = am' k) (h2 : ad k = ad' k) (h3 : af k = af' k) (h4 : iv (k + 1) = iv' (k + 1)) (h5 : nv (k + 1) = nv' (k + 1)) (h6 : ∀ j, j < 4 → dv (4 * (k + 1) + j) = dv' (4 * (k + 1) + j)) (h7 : ∀ j, j < 3 → wv (3 * (k + 1) + j) = wv' (3 * (k + 1) + j)) : sameW D (mcl cI am ad af iv nv dv wv k) (mcl cI am' ad' af' iv' nv' dv' wv' k) := by
  refine ⟨by simp [mcl, h1, h2, h3], fun H hP => ?_⟩
  unfold mcl at hP ⊢
  rw [← h1, ← h2, ← h3, ← h4, ← h5]
  have hP := P_altI (fun j => nI (dv' (4 * (k + 1) + j))) hP 1 rfl rfl (fun j hj => by rw [h6 j hj])
  exact P_altI (fun j => nI (wv' (3 * (k + 1) + j))) hP 2 rfl rfl (fun j hj => by rw [h7 j hj])
/-- what holds of the run's numbers -/
def LI (n te tr : Nat) (iv nv dv wv pl go : Nat → Nat) : Prop := n ≤ 20 ∧ te ≤ 300 ∧ 500 ≤ tr ∧ tr ≤ 999 ∧ (∀ j, j < 50 → pl j ≤ 60) ∧ (∀ j, j < 50 → go j ≤ 2) ∧ (∀ k, k < n → 1 ≤ iv (k + 1) ∧ iv (k + 1) ≤ 200 ∧ nv (k + 1) ≤ iv (k + 1) ∧ psum (fun j => dv (4 * (k + 1) + j)) 4 ≤ iv (k + 1) ∧ psum (fun j => wv (3 * (k + 1) + j)) 3 ≤ nv (k + 1)) ∧ (∀ i, 4 * (n + 1) ≤ i → dv i = 0) ∧ (∀ i, n < i → nv i = 0) ∧ (∀ i, 3 * (n + 1) ≤ i → wv i = 0)
def mfn (n : Nat) (am : Nat → Nat) (j : Nat) : Option Nat := if j < n then some (am j) else none
theorem mnum {n : Nat} (am : Nat → Nat) (hn : n ≤ 20) (z : Int32) : (∃ k, k < n ∧ z = nI (k + 1)) ∨ ((z ≤ 0 ∨ nI n < z) ∧ fnd (mfn n am) z = none) := by
  by_cases h1 : z < nI 1
  · refine Or.inr ⟨Or.inl ?_, by rw [fnd, if_pos h1]⟩
    rw [Int32.lt_iff_toInt_lt, nI_toInt (by omega)] at h1
    rw [Int32.le_iff_toInt_le, Int32.toInt_zero]
    omega
  · by_cases h2 : z ≤ nI 20
    · obtain ⟨k, hk, rfl⟩ := rngI (by omega) h1 h2
      by_cases h3 : k < n
      · exact Or.inl ⟨k, h3, rfl⟩
      · refine Or.inr ⟨Or.inr (nI_lt (by omega) (by omega)), ?_⟩
        rw [fnd_at _ hk, mfn, if_neg h3]
    · refine Or.inr ⟨Or.inr ?_, by rw [fnd, if_neg h1, if_neg h2]⟩
      have h4 := i32_nle h2
      rw [Int32.lt_iff_toInt_lt, nI_toInt (by omega)] at h4 ⊢
      omega
theorem msome {n k : Nat} (am : Nat → Nat) (hn : n ≤ 20) (hk : k < n) : fnd (mfn n am) (nI (k + 1)) = some (am k) := by
  rw [fnd_at _ (by omega), mfn, if_pos hk]
section NSL
variable {p : Program} {l : Launch} {e : Env} {R : Room} {s : State} {m : MethodId} {args : Array Value} {below : List Frame} {meth : Method} {c : Code} {H : Heap} {locs : List Loc} {cells slots : Nat} {Q : State → Prop} {cc : ByteArray} {pc : Nat} {ls : Array Slot} {rest : List Value} {A : Nat → Prop} {H0 : Heap}
theorem n_sld (hx : p.tables.exec = Jvm.exec) (hb : c.code = cc) {b L i : Nat} {xs : Nat → Int32} {x : Int32} (hX : va_X b L xs s H0) (hbl : b < H0.size) (hbA : ¬ A b) (hS : va_S A H0 H locs) (hi : i < L) (hL : L < 2 ^ 31) (hxv : xs i = x) (hdg : decode cc pc = .ok (.iaload, 1)) (kk : W p l e R s m args below meth c H locs cells slots Q (F0 m (pc + 1) ls (.int x :: rest))) : W p l e R s m args below meth c H locs cells slots Q (F0 m (pc) ls (.int (nI i) :: .ref b :: rest)) :=
  va_sld hx hb hX hbl hbA hS (vp_in_nI hi hL) hdg (by rw [nI_clamp (Nat.lt_trans hi hL), hxv]; exact kk)
end NSL
theorem in_X4_init_X4 : ∀ w ∈ wsX40, w ∈ wsX4_init := by decide +kernel
theorem fl_X4_init_13 : Cond.fieldLink RX4 13 "BulkSamplesModel" "depths" "[I" ∈ wsX4_init := by decide +kernel
theorem fl_X4_init_16 : Cond.fieldLink RX4 16 "BulkSamplesModel" "drawn" "[I" ∈ wsX4_init := by decide +kernel
theorem fl_X4_init_19 : Cond.fieldLink RX4 19 "BulkSamplesModel" "wrongs" "[I" ∈ wsX4_init := by decide +kernel
theorem fl_X4_init_22 : Cond.fieldLink RX4 22 "BulkSamplesModel" "trust" "I" ∈ wsX4_init := by decide +kernel
theorem fl_X4_init_26 : Cond.fieldLink RX4 26 "BulkSamplesModel" "plans" "[I" ∈ wsX4_init := by decide +kernel
theorem fl_X4_init_29 : Cond.fieldLink RX4 29 "BulkSamplesModel" "goods" "[I" ∈ wsX4_init := by decide +kernel
theorem fl_X4_init_32 : Cond.fieldLink RX4 32 "BulkSamplesModel" "rows" "[J" ∈ wsX4_init := by decide +kernel
theorem fl_X4_init_36 : Cond.fieldLink RX4 36 "BulkSamplesModel" "some" "[J" ∈ wsX4_init := by decide +kernel
theorem fl_X4_init_39 : Cond.fieldLink RX4 39 "BulkSamplesModel" "all" "[J" ∈ wsX4_init := by decide +kernel
theorem fl_X4_init_42 : Cond.fieldLink RX4 42 "BulkSamplesModel" "left" "[J" ∈ wsX4_init := by decide +kernel
theorem fl_X4_init_45 : Cond.fieldLink RX4 45 "BulkSamplesModel" "right" "[J" ∈ wsX4_init := by decide +kernel
theorem fl_X4_init_7 : Cond.fieldLink RX4 7 "BulkSamplesModel" "items" "[I" ∈ wsX4_init := by decide +kernel
set_option maxHeartbeats 4000000 in
set_option maxRecDepth 100000 in
/-- the reference, new -/
theorem d_init (l : Launch) (D : va_G) (cI cL cM : ClassId) (sz : Nat) (h0 : Nat) : Met l yX4_init wsX4_init ({ frames := 1, cells := 11, slots := 10177, locals := 20 } : Room) (va_Pc [.ref h0] (PreB D (gT cI cL cM) sz [(h0, .inr (4, [.int (nI (0)), .int (nI (0)), .null, .null, .null, .null, .int (nI (0)), .int (nI (0)), .null, .null, .null, .null, .null, .null, .null]))])) (va_Qv (fun _ => True) (fun (u : Nat × Nat × Nat × Nat × Nat × Nat × Nat × Nat × Nat × Nat × Nat) => PostB D (gT cI cL cM) (va_A [(h0, .inr (4, [.int (nI (0)), .int (nI (0)), .null, .null, .null, .null, .int (nI (0)), .int (nI (0)), .null, .null, .null, .null, .null, .null, .null]))] sz) [(h0, .inr (4, [.int (nI (0)), .int (nI (0)), .ref u.1, .ref u.2.1, .ref u.2.2.1, .ref u.2.2.2.1, .int (nI (0)), .int (nI (950)), .ref u.2.2.2.2.1, .ref u.2.2.2.2.2.1, .ref u.2.2.2.2.2.2.1, .ref u.2.2.2.2.2.2.2.1, .ref u.2.2.2.2.2.2.2.2.1, .ref u.2.2.2.2.2.2.2.2.2.1, .ref u.2.2.2.2.2.2.2.2.2.2])), (u.1, .inl (cI, 21, .inl (fun j => nI (0)))), (u.2.1, .inl (cI, 84, .inl (fun j => nI (0)))), (u.2.2.1, .inl (cI, 21, .inl (fun j => nI (0)))), (u.2.2.2.1, .inl (cI, 63, .inl (fun j => nI (0)))), (u.2.2.2.2.1, .inl (cI, 50, .inl (fun j => nI (20)))), (u.2.2.2.2.2.1, .inl (cI, 50, .inl (fun j => nI (0)))), (u.2.2.2.2.2.2.1, .inl (cL, 9696, .inr (.inl (fun j => lN (0))))), (u.2.2.2.2.2.2.2.1, .inl (cL, 48, .inr (.inl (fun j => lN (0))))), (u.2.2.2.2.2.2.2.2.1, .inl (cL, 48, .inr (.inl (fun j => lN (0))))), (u.2.2.2.2.2.2.2.2.2.1, .inl (cL, 48, .inr (.inl (fun j => lN (0))))), (u.2.2.2.2.2.2.2.2.2.2, .inl (cL, 48, .inr (.inl (fun j => lN (0)))))]) (va_A [(h0, .inr (4, [.int (nI (0)), .int (nI (0)), .null, .null, .null, .null, .int (nI (0)), .int (nI (0)), .null, .null, .null, .null, .null, .null, .null]))] sz)) 11 10177 (va_A [(h0, .inr (4, [.int (nI (0)), .int (nI (0)), .null, .null, .null, .null, .int (nI (0)), .int (nI (0)), .null, .null, .null, .null, .null, .null, .null]))] sz) := by
  refine k_start (fun A => (va_Qv (fun _ => True) (fun (u : Nat × Nat × Nat × Nat × Nat × Nat × Nat × Nat × Nat × Nat × Nat) => PostB D (gT cI cL cM) A [(h0, .inr (4, [.int (nI (0)), .int (nI (0)), .ref u.1, .ref u.2.1, .ref u.2.2.1, .ref u.2.2.2.1, .int (nI (0)), .int (nI (950)), .ref u.2.2.2.2.1, .ref u.2.2.2.2.2.1, .ref u.2.2.2.2.2.2.1, .ref u.2.2.2.2.2.2.2.1, .ref u.2.2.2.2.2.2.2.2.1, .ref u.2.2.2.2.2.2.2.2.2.1, .ref u.2.2.2.2.2.2.2.2.2.2])), (u.1, .inl (cI, 21, .inl (fun j => nI (0)))), (u.2.1, .inl (cI, 84, .inl (fun j => nI (0)))), (u.2.2.1, .inl (cI, 21, .inl (fun j => nI (0)))), (u.2.2.2.1, .inl (cI, 63, .inl (fun j => nI (0)))), (u.2.2.2.2.1, .inl (cI, 50, .inl (fun j => nI (20)))), (u.2.2.2.2.2.1, .inl (cI, 50, .inl (fun j => nI (0)))), (u.2.2.2.2.2.2.1, .inl (cL, 9696, .inr (.inl (fun j => lN (0))))), (u.2.2.2.2.2.2.2.1, .inl (cL, 48, .inr (.inl (fun j => lN (0))))), (u.2.2.2.2.2.2.2.2.1, .inl (cL, 48, .inr (.inl (fun j => lN (0))))), (u.2.2.2.2.2.2.2.2.2.1, .inl (cL, 48, .inr (.inl (fun j => lN (0))))), (u.2.2.2.2.2.2.2.2.2.2, .inl (cL, 48, .inr (.inl (fun j => lN (0)))))]) A)) (cc := cX4_init) (maxL := 2) (ret := none) (by decide) rfl (Nat.le_of_ble_eq_true rfl) ?_
  intro p e s m below meth c A ls hx hb hr hts hown hlocks hin hml hP hK hD hA hS hl
  have hl : lv_has ls 2 [(0, .ref h0)] := hl
  have hown : s.vm.findClass RX4 = some m.cls := hown
  refine lv_aload_n hx hb dX4_init_0 rfl (lv_at hl 0 rfl) ?_
  refine W.objInit hx hb hown (hts (.methodLink RX4 1 objectInit) (by decide +kernel)) (hts (.instanceMethod objectInit) (by decide +kernel)) (hts (.code objectInit ⟨#[0xb1]⟩ 1 none) (by decide +kernel)) rfl (by rw [hml]; exact hl.1) rfl dX4_init_1 (Nat.le_of_ble_eq_true rfl) (Nat.le_of_ble_eq_true rfl) ?_
  refine W.eq (g2 := F0 m 4 ls []) rfl ?_
  refine lv_aload_n hx hb dX4_init_4 rfl (lv_at hl 0 rfl) ?_
  refine lv_bipush (v := nI (21)) hx hb dX4_init_5 (by decide) ?_
  refine n_newI hx hb (hts (.arrayClass .int) (by decide +kernel)) hK hP hD hS hA (by omega) (Nat.le_of_ble_eq_true rfl) (Nat.le_of_ble_eq_true rfl) dX4_init_7 (fun q_1 H hP hD hS => ?_)
  have hP : va_P D vwCl [(h0, .inr (4, [.int (nI (0)), .int (nI (0)), .null, .null, .null, .null, .int (nI (0)), .int (nI (0)), .null, .null, .null, .null, .null, .null, .null])), (q_1, .inl (cI, 21, .inl (fun j => nI (0))))] H := hP
  have hD : va_D A [(h0, .inr (4, [.int (nI (0)), .int (nI (0)), .null, .null, .null, .null, .int (nI (0)), .int (nI (0)), .null, .null, .null, .null, .null, .null, .null])), (q_1, .inl (cI, 21, .inl (fun j => nI (0))))] := hD
  refine va_putF (D := D) (cl := vwCl) (ci := 4) (v := .ref q_1) (ty := tyX4 2) (C := RX4) (T := TX4) (N := 15) hx hb hts in_X4_init_X4 tyX4 tyX4_ok nmX4 hown hK hP hD hS 0 rfl rfl 2 (by decide) (hts (.fieldLink RX4 7 "BulkSamplesModel" "items" "[I") fl_X4_init_7) (fun _ h9 => h9) rfl hin rfl (by decide +kernel) rfl rfl (Nat.le_of_ble_eq_true rfl) dX4_init_9 (fun H locs hP hD hS => ?_)
  have hP : va_P D vwCl [(h0, .inr (4, [.int (nI (0)), .int (nI (0)), .ref q_1, .null, .null, .null, .int (nI (0)), .int (nI (0)), .null, .null, .null, .null, .null, .null, .null])), (q_1, .inl (cI, 21, .inl (fun j => nI (0))))] H := hP
  have hD : va_D A [(h0, .inr (4, [.int (nI (0)), .int (nI (0)), .ref q_1, .null, .null, .null, .int (nI (0)), .int (nI (0)), .null, .null, .null, .null, .null, .null, .null])), (q_1, .inl (cI, 21, .inl (fun j => nI (0))))] := hD
  refine lv_aload_n hx hb dX4_init_12 rfl (lv_at hl 0 rfl) ?_
  refine lv_bipush (v := nI (84)) hx hb dX4_init_13 (by decide) ?_
  refine n_newI hx hb (hts (.arrayClass .int) (by decide +kernel)) hK hP hD hS hA (by omega) (Nat.le_of_ble_eq_true rfl) (Nat.le_of_ble_eq_true rfl) dX4_init_15 (fun q_2 H hP hD hS => ?_)
  have hP : va_P D vwCl [(h0, .inr (4, [.int (nI (0)), .int (nI (0)), .ref q_1, .null, .null, .null, .int (nI (0)), .int (nI (0)), .null, .null, .null, .null, .null, .null, .null])), (q_1, .inl (cI, 21, .inl (fun j => nI (0)))), (q_2, .inl (cI, 84, .inl (fun j => nI (0))))] H := hP
  have hD : va_D A [(h0, .inr (4, [.int (nI (0)), .int (nI (0)), .ref q_1, .null, .null, .null, .int (nI (0)), .int (nI (0)), .null, .null, .null, .null, .null, .null, .null])), (q_1, .inl (cI, 21, .inl (fun j => nI (0)))), (q_2, .inl (cI, 84, .inl (fun j => nI (0))))] := hD
  refine va_putF (D := D) (cl := vwCl) (ci := 4) (v := .ref q_2) (ty := tyX4 3) (C := RX4) (T := TX4) (N := 15) hx hb hts in_X4_init_X4 tyX4 tyX4_ok nmX4 hown hK hP hD hS 0 rfl rfl 3 (by decide) (hts (.fieldLink RX4 13 "BulkSamplesModel" "depths" "[I") fl_X4_init_13) (fun _ h9 => h9) rfl hin rfl (by decide +kernel) rfl rfl (Nat.le_of_ble_eq_true rfl) dX4_init_17 (fun H locs hP hD hS => ?_)
  have hP : va_P D vwCl [(h0, .inr (4, [.int (nI (0)), .int (nI (0)), .ref q_1, .ref q_2, .null, .null, .int (nI (0)), .int (nI (0)), .null, .null, .null, .null, .null, .null, .null])), (q_1, .inl (cI, 21, .inl (fun j => nI (0)))), (q_2, .inl (cI, 84, .inl (fun j => nI (0))))] H := hP
  have hD : va_D A [(h0, .inr (4, [.int (nI (0)), .int (nI (0)), .ref q_1, .ref q_2, .null, .null, .int (nI (0)), .int (nI (0)), .null, .null, .null, .null, .null, .null, .null])), (q_1, .inl (cI, 21, .inl (fun j => nI (0)))), (q_2, .inl (cI, 84, .inl (fun j => nI (0))))] := hD
  refine lv_aload_n hx hb dX4_init_20 rfl (lv_at hl 0 rfl) ?_
  refine lv_bipush (v := nI (21)) hx hb dX4_init_21 (by decide) ?_
  refine n_newI hx hb (hts (.arrayClass .int) (by decide +kernel)) hK hP hD hS hA (by omega) (Nat.le_of_ble_eq_true rfl) (Nat.le_of_ble_eq_true rfl) dX4_init_23 (fun q_3 H hP hD hS => ?_)
  have hP : va_P D vwCl [(h0, .inr (4, [.int (nI (0)), .int (nI (0)), .ref q_1, .ref q_2, .null, .null, .int (nI (0)), .int (nI (0)), .null, .null, .null, .null, .null, .null, .null])), (q_1, .inl (cI, 21, .inl (fun j => nI (0)))), (q_2, .inl (cI, 84, .inl (fun j => nI (0)))), (q_3, .inl (cI, 21, .inl (fun j => nI (0))))] H := hP
  have hD : va_D A [(h0, .inr (4, [.int (nI (0)), .int (nI (0)), .ref q_1, .ref q_2, .null, .null, .int (nI (0)), .int (nI (0)), .null, .null, .null, .null, .null, .null, .null])), (q_1, .inl (cI, 21, .inl (fun j => nI (0)))), (q_2, .inl (cI, 84, .inl (fun j => nI (0)))), (q_3, .inl (cI, 21, .inl (fun j => nI (0))))] := hD
  refine va_putF (D := D) (cl := vwCl) (ci := 4) (v := .ref q_3) (ty := tyX4 4) (C := RX4) (T := TX4) (N := 15) hx hb hts in_X4_init_X4 tyX4 tyX4_ok nmX4 hown hK hP hD hS 0 rfl rfl 4 (by decide) (hts (.fieldLink RX4 16 "BulkSamplesModel" "drawn" "[I") fl_X4_init_16) (fun _ h9 => h9) rfl hin rfl (by decide +kernel) rfl rfl (Nat.le_of_ble_eq_true rfl) dX4_init_25 (fun H locs hP hD hS => ?_)
  have hP : va_P D vwCl [(h0, .inr (4, [.int (nI (0)), .int (nI (0)), .ref q_1, .ref q_2, .ref q_3, .null, .int (nI (0)), .int (nI (0)), .null, .null, .null, .null, .null, .null, .null])), (q_1, .inl (cI, 21, .inl (fun j => nI (0)))), (q_2, .inl (cI, 84, .inl (fun j => nI (0)))), (q_3, .inl (cI, 21, .inl (fun j => nI (0))))] H := hP
  have hD : va_D A [(h0, .inr (4, [.int (nI (0)), .int (nI (0)), .ref q_1, .ref q_2, .ref q_3, .null, .int (nI (0)), .int (nI (0)), .null, .null, .null, .null, .null, .null, .null])), (q_1, .inl (cI, 21, .inl (fun j => nI (0)))), (q_2, .inl (cI, 84, .inl (fun j => nI (0)))), (q_3, .inl (cI, 21, .inl (fun j => nI (0))))] := hD
  refine lv_aload_n hx hb dX4_init_28 rfl (lv_at hl 0 rfl) ?_
  refine lv_bipush (v := nI (63)) hx hb dX4_init_29 (by decide) ?_
  refine n_newI hx hb (hts (.arrayClass .int) (by decide +kernel)) hK hP hD hS hA (by omega) (Nat.le_of_ble_eq_true rfl) (Nat.le_of_ble_eq_true rfl) dX4_init_31 (fun q_4 H hP hD hS => ?_)
  have hP : va_P D vwCl [(h0, .inr (4, [.int (nI (0)), .int (nI (0)), .ref q_1, .ref q_2, .ref q_3, .null, .int (nI (0)), .int (nI (0)), .null, .null, .null, .null, .null, .null, .null])), (q_1, .inl (cI, 21, .inl (fun j => nI (0)))), (q_2, .inl (cI, 84, .inl (fun j => nI (0)))), (q_3, .inl (cI, 21, .inl (fun j => nI (0)))), (q_4, .inl (cI, 63, .inl (fun j => nI (0))))] H := hP
  have hD : va_D A [(h0, .inr (4, [.int (nI (0)), .int (nI (0)), .ref q_1, .ref q_2, .ref q_3, .null, .int (nI (0)), .int (nI (0)), .null, .null, .null, .null, .null, .null, .null])), (q_1, .inl (cI, 21, .inl (fun j => nI (0)))), (q_2, .inl (cI, 84, .inl (fun j => nI (0)))), (q_3, .inl (cI, 21, .inl (fun j => nI (0)))), (q_4, .inl (cI, 63, .inl (fun j => nI (0))))] := hD
  refine va_putF (D := D) (cl := vwCl) (ci := 4) (v := .ref q_4) (ty := tyX4 5) (C := RX4) (T := TX4) (N := 15) hx hb hts in_X4_init_X4 tyX4 tyX4_ok nmX4 hown hK hP hD hS 0 rfl rfl 5 (by decide) (hts (.fieldLink RX4 19 "BulkSamplesModel" "wrongs" "[I") fl_X4_init_19) (fun _ h9 => h9) rfl hin rfl (by decide +kernel) rfl rfl (Nat.le_of_ble_eq_true rfl) dX4_init_33 (fun H locs hP hD hS => ?_)
  have hP : va_P D vwCl [(h0, .inr (4, [.int (nI (0)), .int (nI (0)), .ref q_1, .ref q_2, .ref q_3, .ref q_4, .int (nI (0)), .int (nI (0)), .null, .null, .null, .null, .null, .null, .null])), (q_1, .inl (cI, 21, .inl (fun j => nI (0)))), (q_2, .inl (cI, 84, .inl (fun j => nI (0)))), (q_3, .inl (cI, 21, .inl (fun j => nI (0)))), (q_4, .inl (cI, 63, .inl (fun j => nI (0))))] H := hP
  have hD : va_D A [(h0, .inr (4, [.int (nI (0)), .int (nI (0)), .ref q_1, .ref q_2, .ref q_3, .ref q_4, .int (nI (0)), .int (nI (0)), .null, .null, .null, .null, .null, .null, .null])), (q_1, .inl (cI, 21, .inl (fun j => nI (0)))), (q_2, .inl (cI, 84, .inl (fun j => nI (0)))), (q_3, .inl (cI, 21, .inl (fun j => nI (0)))), (q_4, .inl (cI, 63, .inl (fun j => nI (0))))] := hD
  refine lv_aload_n hx hb dX4_init_36 rfl (lv_at hl 0 rfl) ?_
  refine lv_sipush (v := nI (950)) hx hb dX4_init_37 (by decide) ?_
  refine va_put (D := D) (cl := vwCl) (ci := 4) (v := .int (nI (950))) (ty := tyX4 7) (C := RX4) (T := TX4) (N := 15) hx hb hts in_X4_init_X4 tyX4 tyX4_ok nmX4 hown hK hP hD hS 0 rfl rfl 7 (by decide) (hts (.fieldLink RX4 22 "BulkSamplesModel" "trust" "I") fl_X4_init_22) (fun _ h9 => h9) rfl (by decide +kernel) rfl rfl (Nat.le_of_ble_eq_true rfl) dX4_init_40 (fun H locs hP hD hS => ?_)
  have hP : va_P D vwCl [(h0, .inr (4, [.int (nI (0)), .int (nI (0)), .ref q_1, .ref q_2, .ref q_3, .ref q_4, .int (nI (0)), .int (nI (950)), .null, .null, .null, .null, .null, .null, .null])), (q_1, .inl (cI, 21, .inl (fun j => nI (0)))), (q_2, .inl (cI, 84, .inl (fun j => nI (0)))), (q_3, .inl (cI, 21, .inl (fun j => nI (0)))), (q_4, .inl (cI, 63, .inl (fun j => nI (0))))] H := hP
  have hD : va_D A [(h0, .inr (4, [.int (nI (0)), .int (nI (0)), .ref q_1, .ref q_2, .ref q_3, .ref q_4, .int (nI (0)), .int (nI (950)), .null, .null, .null, .null, .null, .null, .null])), (q_1, .inl (cI, 21, .inl (fun j => nI (0)))), (q_2, .inl (cI, 84, .inl (fun j => nI (0)))), (q_3, .inl (cI, 21, .inl (fun j => nI (0)))), (q_4, .inl (cI, 63, .inl (fun j => nI (0))))] := hD
  refine lv_aload_n hx hb dX4_init_43 rfl (lv_at hl 0 rfl) ?_
  refine lv_bipush (v := nI (50)) hx hb dX4_init_44 (by decide) ?_
  refine n_newI hx hb (hts (.arrayClass .int) (by decide +kernel)) hK hP hD hS hA (by omega) (Nat.le_of_ble_eq_true rfl) (Nat.le_of_ble_eq_true rfl) dX4_init_46 (fun q_5 H hP hD hS => ?_)
  have hP : va_P D vwCl [(h0, .inr (4, [.int (nI (0)), .int (nI (0)), .ref q_1, .ref q_2, .ref q_3, .ref q_4, .int (nI (0)), .int (nI (950)), .null, .null, .null, .null, .null, .null, .null])), (q_1, .inl (cI, 21, .inl (fun j => nI (0)))), (q_2, .inl (cI, 84, .inl (fun j => nI (0)))), (q_3, .inl (cI, 21, .inl (fun j => nI (0)))), (q_4, .inl (cI, 63, .inl (fun j => nI (0)))), (q_5, .inl (cI, 50, .inl (fun j => nI (0))))] H := hP
  have hD : va_D A [(h0, .inr (4, [.int (nI (0)), .int (nI (0)), .ref q_1, .ref q_2, .ref q_3, .ref q_4, .int (nI (0)), .int (nI (950)), .null, .null, .null, .null, .null, .null, .null])), (q_1, .inl (cI, 21, .inl (fun j => nI (0)))), (q_2, .inl (cI, 84, .inl (fun j => nI (0)))), (q_3, .inl (cI, 21, .inl (fun j => nI (0)))), (q_4, .inl (cI, 63, .inl (fun j => nI (0)))), (q_5, .inl (cI, 50, .inl (fun j => nI (0))))] := hD
  refine va_putF (D := D) (cl := vwCl) (ci := 4) (v := .ref q_5) (ty := tyX4 8) (C := RX4) (T := TX4) (N := 15) hx hb hts in_X4_init_X4 tyX4 tyX4_ok nmX4 hown hK hP hD hS 0 rfl rfl 8 (by decide) (hts (.fieldLink RX4 26 "BulkSamplesModel" "plans" "[I") fl_X4_init_26) (fun _ h9 => h9) rfl hin rfl (by decide +kernel) rfl rfl (Nat.le_of_ble_eq_true rfl) dX4_init_48 (fun H locs hP hD hS => ?_)
  have hP : va_P D vwCl [(h0, .inr (4, [.int (nI (0)), .int (nI (0)), .ref q_1, .ref q_2, .ref q_3, .ref q_4, .int (nI (0)), .int (nI (950)), .ref q_5, .null, .null, .null, .null, .null, .null])), (q_1, .inl (cI, 21, .inl (fun j => nI (0)))), (q_2, .inl (cI, 84, .inl (fun j => nI (0)))), (q_3, .inl (cI, 21, .inl (fun j => nI (0)))), (q_4, .inl (cI, 63, .inl (fun j => nI (0)))), (q_5, .inl (cI, 50, .inl (fun j => nI (0))))] H := hP
  have hD : va_D A [(h0, .inr (4, [.int (nI (0)), .int (nI (0)), .ref q_1, .ref q_2, .ref q_3, .ref q_4, .int (nI (0)), .int (nI (950)), .ref q_5, .null, .null, .null, .null, .null, .null])), (q_1, .inl (cI, 21, .inl (fun j => nI (0)))), (q_2, .inl (cI, 84, .inl (fun j => nI (0)))), (q_3, .inl (cI, 21, .inl (fun j => nI (0)))), (q_4, .inl (cI, 63, .inl (fun j => nI (0)))), (q_5, .inl (cI, 50, .inl (fun j => nI (0))))] := hD
  refine lv_aload_n hx hb dX4_init_51 rfl (lv_at hl 0 rfl) ?_
  refine lv_bipush (v := nI (50)) hx hb dX4_init_52 (by decide) ?_
  refine n_newI hx hb (hts (.arrayClass .int) (by decide +kernel)) hK hP hD hS hA (by omega) (Nat.le_of_ble_eq_true rfl) (Nat.le_of_ble_eq_true rfl) dX4_init_54 (fun q_6 H hP hD hS => ?_)
  have hP : va_P D vwCl [(h0, .inr (4, [.int (nI (0)), .int (nI (0)), .ref q_1, .ref q_2, .ref q_3, .ref q_4, .int (nI (0)), .int (nI (950)), .ref q_5, .null, .null, .null, .null, .null, .null])), (q_1, .inl (cI, 21, .inl (fun j => nI (0)))), (q_2, .inl (cI, 84, .inl (fun j => nI (0)))), (q_3, .inl (cI, 21, .inl (fun j => nI (0)))), (q_4, .inl (cI, 63, .inl (fun j => nI (0)))), (q_5, .inl (cI, 50, .inl (fun j => nI (0)))), (q_6, .inl (cI, 50, .inl (fun j => nI (0))))] H := hP
  have hD : va_D A [(h0, .inr (4, [.int (nI (0)), .int (nI (0)), .ref q_1, .ref q_2, .ref q_3, .ref q_4, .int (nI (0)), .int (nI (950)), .ref q_5, .null, .null, .null, .null, .null, .null])), (q_1, .inl (cI, 21, .inl (fun j => nI (0)))), (q_2, .inl (cI, 84, .inl (fun j => nI (0)))), (q_3, .inl (cI, 21, .inl (fun j => nI (0)))), (q_4, .inl (cI, 63, .inl (fun j => nI (0)))), (q_5, .inl (cI, 50, .inl (fun j => nI (0)))), (q_6, .inl (cI, 50, .inl (fun j => nI (0))))] := hD
  refine va_putF (D := D) (cl := vwCl) (ci := 4) (v := .ref q_6) (ty := tyX4 9) (C := RX4) (T := TX4) (N := 15) hx hb hts in_X4_init_X4 tyX4 tyX4_ok nmX4 hown hK hP hD hS 0 rfl rfl 9 (by decide) (hts (.fieldLink RX4 29 "BulkSamplesModel" "goods" "[I") fl_X4_init_29) (fun _ h9 => h9) rfl hin rfl (by decide +kernel) rfl rfl (Nat.le_of_ble_eq_true rfl) dX4_init_56 (fun H locs hP hD hS => ?_)
  have hP : va_P D vwCl [(h0, .inr (4, [.int (nI (0)), .int (nI (0)), .ref q_1, .ref q_2, .ref q_3, .ref q_4, .int (nI (0)), .int (nI (950)), .ref q_5, .ref q_6, .null, .null, .null, .null, .null])), (q_1, .inl (cI, 21, .inl (fun j => nI (0)))), (q_2, .inl (cI, 84, .inl (fun j => nI (0)))), (q_3, .inl (cI, 21, .inl (fun j => nI (0)))), (q_4, .inl (cI, 63, .inl (fun j => nI (0)))), (q_5, .inl (cI, 50, .inl (fun j => nI (0)))), (q_6, .inl (cI, 50, .inl (fun j => nI (0))))] H := hP
  have hD : va_D A [(h0, .inr (4, [.int (nI (0)), .int (nI (0)), .ref q_1, .ref q_2, .ref q_3, .ref q_4, .int (nI (0)), .int (nI (950)), .ref q_5, .ref q_6, .null, .null, .null, .null, .null])), (q_1, .inl (cI, 21, .inl (fun j => nI (0)))), (q_2, .inl (cI, 84, .inl (fun j => nI (0)))), (q_3, .inl (cI, 21, .inl (fun j => nI (0)))), (q_4, .inl (cI, 63, .inl (fun j => nI (0)))), (q_5, .inl (cI, 50, .inl (fun j => nI (0)))), (q_6, .inl (cI, 50, .inl (fun j => nI (0))))] := hD
  refine lv_aload_n hx hb dX4_init_59 rfl (lv_at hl 0 rfl) ?_
  refine lv_sipush (v := nI (9696)) hx hb dX4_init_60 (by decide) ?_
  refine n_newL hx hb (hts (.arrayClass .long) (by decide +kernel)) hK hP hD hS hA (by omega) (Nat.le_of_ble_eq_true rfl) (Nat.le_of_ble_eq_true rfl) dX4_init_63 (fun q_7 H hP hD hS => ?_)
  have hP : va_P D vwCl [(h0, .inr (4, [.int (nI (0)), .int (nI (0)), .ref q_1, .ref q_2, .ref q_3, .ref q_4, .int (nI (0)), .int (nI (950)), .ref q_5, .ref q_6, .null, .null, .null, .null, .null])), (q_1, .inl (cI, 21, .inl (fun j => nI (0)))), (q_2, .inl (cI, 84, .inl (fun j => nI (0)))), (q_3, .inl (cI, 21, .inl (fun j => nI (0)))), (q_4, .inl (cI, 63, .inl (fun j => nI (0)))), (q_5, .inl (cI, 50, .inl (fun j => nI (0)))), (q_6, .inl (cI, 50, .inl (fun j => nI (0)))), (q_7, .inl (cL, 9696, .inr (.inl (fun j => lN (0)))))] H := hP
  have hD : va_D A [(h0, .inr (4, [.int (nI (0)), .int (nI (0)), .ref q_1, .ref q_2, .ref q_3, .ref q_4, .int (nI (0)), .int (nI (950)), .ref q_5, .ref q_6, .null, .null, .null, .null, .null])), (q_1, .inl (cI, 21, .inl (fun j => nI (0)))), (q_2, .inl (cI, 84, .inl (fun j => nI (0)))), (q_3, .inl (cI, 21, .inl (fun j => nI (0)))), (q_4, .inl (cI, 63, .inl (fun j => nI (0)))), (q_5, .inl (cI, 50, .inl (fun j => nI (0)))), (q_6, .inl (cI, 50, .inl (fun j => nI (0)))), (q_7, .inl (cL, 9696, .inr (.inl (fun j => lN (0)))))] := hD
  refine va_putF (D := D) (cl := vwCl) (ci := 4) (v := .ref q_7) (ty := tyX4 10) (C := RX4) (T := TX4) (N := 15) hx hb hts in_X4_init_X4 tyX4 tyX4_ok nmX4 hown hK hP hD hS 0 rfl rfl 10 (by decide) (hts (.fieldLink RX4 32 "BulkSamplesModel" "rows" "[J") fl_X4_init_32) (fun _ h9 => h9) rfl hin rfl (by decide +kernel) rfl rfl (Nat.le_of_ble_eq_true rfl) dX4_init_65 (fun H locs hP hD hS => ?_)
  have hP : va_P D vwCl [(h0, .inr (4, [.int (nI (0)), .int (nI (0)), .ref q_1, .ref q_2, .ref q_3, .ref q_4, .int (nI (0)), .int (nI (950)), .ref q_5, .ref q_6, .ref q_7, .null, .null, .null, .null])), (q_1, .inl (cI, 21, .inl (fun j => nI (0)))), (q_2, .inl (cI, 84, .inl (fun j => nI (0)))), (q_3, .inl (cI, 21, .inl (fun j => nI (0)))), (q_4, .inl (cI, 63, .inl (fun j => nI (0)))), (q_5, .inl (cI, 50, .inl (fun j => nI (0)))), (q_6, .inl (cI, 50, .inl (fun j => nI (0)))), (q_7, .inl (cL, 9696, .inr (.inl (fun j => lN (0)))))] H := hP
  have hD : va_D A [(h0, .inr (4, [.int (nI (0)), .int (nI (0)), .ref q_1, .ref q_2, .ref q_3, .ref q_4, .int (nI (0)), .int (nI (950)), .ref q_5, .ref q_6, .ref q_7, .null, .null, .null, .null])), (q_1, .inl (cI, 21, .inl (fun j => nI (0)))), (q_2, .inl (cI, 84, .inl (fun j => nI (0)))), (q_3, .inl (cI, 21, .inl (fun j => nI (0)))), (q_4, .inl (cI, 63, .inl (fun j => nI (0)))), (q_5, .inl (cI, 50, .inl (fun j => nI (0)))), (q_6, .inl (cI, 50, .inl (fun j => nI (0)))), (q_7, .inl (cL, 9696, .inr (.inl (fun j => lN (0)))))] := hD
  refine lv_aload_n hx hb dX4_init_68 rfl (lv_at hl 0 rfl) ?_
  refine lv_bipush (v := nI (48)) hx hb dX4_init_69 (by decide) ?_
  refine n_newL hx hb (hts (.arrayClass .long) (by decide +kernel)) hK hP hD hS hA (by omega) (Nat.le_of_ble_eq_true rfl) (Nat.le_of_ble_eq_true rfl) dX4_init_71 (fun q_8 H hP hD hS => ?_)
  have hP : va_P D vwCl [(h0, .inr (4, [.int (nI (0)), .int (nI (0)), .ref q_1, .ref q_2, .ref q_3, .ref q_4, .int (nI (0)), .int (nI (950)), .ref q_5, .ref q_6, .ref q_7, .null, .null, .null, .null])), (q_1, .inl (cI, 21, .inl (fun j => nI (0)))), (q_2, .inl (cI, 84, .inl (fun j => nI (0)))), (q_3, .inl (cI, 21, .inl (fun j => nI (0)))), (q_4, .inl (cI, 63, .inl (fun j => nI (0)))), (q_5, .inl (cI, 50, .inl (fun j => nI (0)))), (q_6, .inl (cI, 50, .inl (fun j => nI (0)))), (q_7, .inl (cL, 9696, .inr (.inl (fun j => lN (0))))), (q_8, .inl (cL, 48, .inr (.inl (fun j => lN (0)))))] H := hP
  have hD : va_D A [(h0, .inr (4, [.int (nI (0)), .int (nI (0)), .ref q_1, .ref q_2, .ref q_3, .ref q_4, .int (nI (0)), .int (nI (950)), .ref q_5, .ref q_6, .ref q_7, .null, .null, .null, .null])), (q_1, .inl (cI, 21, .inl (fun j => nI (0)))), (q_2, .inl (cI, 84, .inl (fun j => nI (0)))), (q_3, .inl (cI, 21, .inl (fun j => nI (0)))), (q_4, .inl (cI, 63, .inl (fun j => nI (0)))), (q_5, .inl (cI, 50, .inl (fun j => nI (0)))), (q_6, .inl (cI, 50, .inl (fun j => nI (0)))), (q_7, .inl (cL, 9696, .inr (.inl (fun j => lN (0))))), (q_8, .inl (cL, 48, .inr (.inl (fun j => lN (0)))))] := hD
  refine va_putF (D := D) (cl := vwCl) (ci := 4) (v := .ref q_8) (ty := tyX4 11) (C := RX4) (T := TX4) (N := 15) hx hb hts in_X4_init_X4 tyX4 tyX4_ok nmX4 hown hK hP hD hS 0 rfl rfl 11 (by decide) (hts (.fieldLink RX4 36 "BulkSamplesModel" "some" "[J") fl_X4_init_36) (fun _ h9 => h9) rfl hin rfl (by decide +kernel) rfl rfl (Nat.le_of_ble_eq_true rfl) dX4_init_73 (fun H locs hP hD hS => ?_)
  have hP : va_P D vwCl [(h0, .inr (4, [.int (nI (0)), .int (nI (0)), .ref q_1, .ref q_2, .ref q_3, .ref q_4, .int (nI (0)), .int (nI (950)), .ref q_5, .ref q_6, .ref q_7, .ref q_8, .null, .null, .null])), (q_1, .inl (cI, 21, .inl (fun j => nI (0)))), (q_2, .inl (cI, 84, .inl (fun j => nI (0)))), (q_3, .inl (cI, 21, .inl (fun j => nI (0)))), (q_4, .inl (cI, 63, .inl (fun j => nI (0)))), (q_5, .inl (cI, 50, .inl (fun j => nI (0)))), (q_6, .inl (cI, 50, .inl (fun j => nI (0)))), (q_7, .inl (cL, 9696, .inr (.inl (fun j => lN (0))))), (q_8, .inl (cL, 48, .inr (.inl (fun j => lN (0)))))] H := hP
  have hD : va_D A [(h0, .inr (4, [.int (nI (0)), .int (nI (0)), .ref q_1, .ref q_2, .ref q_3, .ref q_4, .int (nI (0)), .int (nI (950)), .ref q_5, .ref q_6, .ref q_7, .ref q_8, .null, .null, .null])), (q_1, .inl (cI, 21, .inl (fun j => nI (0)))), (q_2, .inl (cI, 84, .inl (fun j => nI (0)))), (q_3, .inl (cI, 21, .inl (fun j => nI (0)))), (q_4, .inl (cI, 63, .inl (fun j => nI (0)))), (q_5, .inl (cI, 50, .inl (fun j => nI (0)))), (q_6, .inl (cI, 50, .inl (fun j => nI (0)))), (q_7, .inl (cL, 9696, .inr (.inl (fun j => lN (0))))), (q_8, .inl (cL, 48, .inr (.inl (fun j => lN (0)))))] := hD
  refine lv_aload_n hx hb dX4_init_76 rfl (lv_at hl 0 rfl) ?_
  refine lv_bipush (v := nI (48)) hx hb dX4_init_77 (by decide) ?_
  refine n_newL hx hb (hts (.arrayClass .long) (by decide +kernel)) hK hP hD hS hA (by omega) (Nat.le_of_ble_eq_true rfl) (Nat.le_of_ble_eq_true rfl) dX4_init_79 (fun q_9 H hP hD hS => ?_)
  have hP : va_P D vwCl [(h0, .inr (4, [.int (nI (0)), .int (nI (0)), .ref q_1, .ref q_2, .ref q_3, .ref q_4, .int (nI (0)), .int (nI (950)), .ref q_5, .ref q_6, .ref q_7, .ref q_8, .null, .null, .null])), (q_1, .inl (cI, 21, .inl (fun j => nI (0)))), (q_2, .inl (cI, 84, .inl (fun j => nI (0)))), (q_3, .inl (cI, 21, .inl (fun j => nI (0)))), (q_4, .inl (cI, 63, .inl (fun j => nI (0)))), (q_5, .inl (cI, 50, .inl (fun j => nI (0)))), (q_6, .inl (cI, 50, .inl (fun j => nI (0)))), (q_7, .inl (cL, 9696, .inr (.inl (fun j => lN (0))))), (q_8, .inl (cL, 48, .inr (.inl (fun j => lN (0))))), (q_9, .inl (cL, 48, .inr (.inl (fun j => lN (0)))))] H := hP
  have hD : va_D A [(h0, .inr (4, [.int (nI (0)), .int (nI (0)), .ref q_1, .ref q_2, .ref q_3, .ref q_4, .int (nI (0)), .int (nI (950)), .ref q_5, .ref q_6, .ref q_7, .ref q_8, .null, .null, .null])), (q_1, .inl (cI, 21, .inl (fun j => nI (0)))), (q_2, .inl (cI, 84, .inl (fun j => nI (0)))), (q_3, .inl (cI, 21, .inl (fun j => nI (0)))), (q_4, .inl (cI, 63, .inl (fun j => nI (0)))), (q_5, .inl (cI, 50, .inl (fun j => nI (0)))), (q_6, .inl (cI, 50, .inl (fun j => nI (0)))), (q_7, .inl (cL, 9696, .inr (.inl (fun j => lN (0))))), (q_8, .inl (cL, 48, .inr (.inl (fun j => lN (0))))), (q_9, .inl (cL, 48, .inr (.inl (fun j => lN (0)))))] := hD
  refine va_putF (D := D) (cl := vwCl) (ci := 4) (v := .ref q_9) (ty := tyX4 12) (C := RX4) (T := TX4) (N := 15) hx hb hts in_X4_init_X4 tyX4 tyX4_ok nmX4 hown hK hP hD hS 0 rfl rfl 12 (by decide) (hts (.fieldLink RX4 39 "BulkSamplesModel" "all" "[J") fl_X4_init_39) (fun _ h9 => h9) rfl hin rfl (by decide +kernel) rfl rfl (Nat.le_of_ble_eq_true rfl) dX4_init_81 (fun H locs hP hD hS => ?_)
  have hP : va_P D vwCl [(h0, .inr (4, [.int (nI (0)), .int (nI (0)), .ref q_1, .ref q_2, .ref q_3, .ref q_4, .int (nI (0)), .int (nI (950)), .ref q_5, .ref q_6, .ref q_7, .ref q_8, .ref q_9, .null, .null])), (q_1, .inl (cI, 21, .inl (fun j => nI (0)))), (q_2, .inl (cI, 84, .inl (fun j => nI (0)))), (q_3, .inl (cI, 21, .inl (fun j => nI (0)))), (q_4, .inl (cI, 63, .inl (fun j => nI (0)))), (q_5, .inl (cI, 50, .inl (fun j => nI (0)))), (q_6, .inl (cI, 50, .inl (fun j => nI (0)))), (q_7, .inl (cL, 9696, .inr (.inl (fun j => lN (0))))), (q_8, .inl (cL, 48, .inr (.inl (fun j => lN (0))))), (q_9, .inl (cL, 48, .inr (.inl (fun j => lN (0)))))] H := hP
  have hD : va_D A [(h0, .inr (4, [.int (nI (0)), .int (nI (0)), .ref q_1, .ref q_2, .ref q_3, .ref q_4, .int (nI (0)), .int (nI (950)), .ref q_5, .ref q_6, .ref q_7, .ref q_8, .ref q_9, .null, .null])), (q_1, .inl (cI, 21, .inl (fun j => nI (0)))), (q_2, .inl (cI, 84, .inl (fun j => nI (0)))), (q_3, .inl (cI, 21, .inl (fun j => nI (0)))), (q_4, .inl (cI, 63, .inl (fun j => nI (0)))), (q_5, .inl (cI, 50, .inl (fun j => nI (0)))), (q_6, .inl (cI, 50, .inl (fun j => nI (0)))), (q_7, .inl (cL, 9696, .inr (.inl (fun j => lN (0))))), (q_8, .inl (cL, 48, .inr (.inl (fun j => lN (0))))), (q_9, .inl (cL, 48, .inr (.inl (fun j => lN (0)))))] := hD
  refine lv_aload_n hx hb dX4_init_84 rfl (lv_at hl 0 rfl) ?_
  refine lv_bipush (v := nI (48)) hx hb dX4_init_85 (by decide) ?_
  refine n_newL hx hb (hts (.arrayClass .long) (by decide +kernel)) hK hP hD hS hA (by omega) (Nat.le_of_ble_eq_true rfl) (Nat.le_of_ble_eq_true rfl) dX4_init_87 (fun q_10 H hP hD hS => ?_)
  have hP : va_P D vwCl [(h0, .inr (4, [.int (nI (0)), .int (nI (0)), .ref q_1, .ref q_2, .ref q_3, .ref q_4, .int (nI (0)), .int (nI (950)), .ref q_5, .ref q_6, .ref q_7, .ref q_8, .ref q_9, .null, .null])), (q_1, .inl (cI, 21, .inl (fun j => nI (0)))), (q_2, .inl (cI, 84, .inl (fun j => nI (0)))), (q_3, .inl (cI, 21, .inl (fun j => nI (0)))), (q_4, .inl (cI, 63, .inl (fun j => nI (0)))), (q_5, .inl (cI, 50, .inl (fun j => nI (0)))), (q_6, .inl (cI, 50, .inl (fun j => nI (0)))), (q_7, .inl (cL, 9696, .inr (.inl (fun j => lN (0))))), (q_8, .inl (cL, 48, .inr (.inl (fun j => lN (0))))), (q_9, .inl (cL, 48, .inr (.inl (fun j => lN (0))))), (q_10, .inl (cL, 48, .inr (.inl (fun j => lN (0)))))] H := hP
  have hD : va_D A [(h0, .inr (4, [.int (nI (0)), .int (nI (0)), .ref q_1, .ref q_2, .ref q_3, .ref q_4, .int (nI (0)), .int (nI (950)), .ref q_5, .ref q_6, .ref q_7, .ref q_8, .ref q_9, .null, .null])), (q_1, .inl (cI, 21, .inl (fun j => nI (0)))), (q_2, .inl (cI, 84, .inl (fun j => nI (0)))), (q_3, .inl (cI, 21, .inl (fun j => nI (0)))), (q_4, .inl (cI, 63, .inl (fun j => nI (0)))), (q_5, .inl (cI, 50, .inl (fun j => nI (0)))), (q_6, .inl (cI, 50, .inl (fun j => nI (0)))), (q_7, .inl (cL, 9696, .inr (.inl (fun j => lN (0))))), (q_8, .inl (cL, 48, .inr (.inl (fun j => lN (0))))), (q_9, .inl (cL, 48, .inr (.inl (fun j => lN (0))))), (q_10, .inl (cL, 48, .inr (.inl (fun j => lN (0)))))] := hD
  refine va_putF (D := D) (cl := vwCl) (ci := 4) (v := .ref q_10) (ty := tyX4 13) (C := RX4) (T := TX4) (N := 15) hx hb hts in_X4_init_X4 tyX4 tyX4_ok nmX4 hown hK hP hD hS 0 rfl rfl 13 (by decide) (hts (.fieldLink RX4 42 "BulkSamplesModel" "left" "[J") fl_X4_init_42) (fun _ h9 => h9) rfl hin rfl (by decide +kernel) rfl rfl (Nat.le_of_ble_eq_true rfl) dX4_init_89 (fun H locs hP hD hS => ?_)
  have hP : va_P D vwCl [(h0, .inr (4, [.int (nI (0)), .int (nI (0)), .ref q_1, .ref q_2, .ref q_3, .ref q_4, .int (nI (0)), .int (nI (950)), .ref q_5, .ref q_6, .ref q_7, .ref q_8, .ref q_9, .ref q_10, .null])), (q_1, .inl (cI, 21, .inl (fun j => nI (0)))), (q_2, .inl (cI, 84, .inl (fun j => nI (0)))), (q_3, .inl (cI, 21, .inl (fun j => nI (0)))), (q_4, .inl (cI, 63, .inl (fun j => nI (0)))), (q_5, .inl (cI, 50, .inl (fun j => nI (0)))), (q_6, .inl (cI, 50, .inl (fun j => nI (0)))), (q_7, .inl (cL, 9696, .inr (.inl (fun j => lN (0))))), (q_8, .inl (cL, 48, .inr (.inl (fun j => lN (0))))), (q_9, .inl (cL, 48, .inr (.inl (fun j => lN (0))))), (q_10, .inl (cL, 48, .inr (.inl (fun j => lN (0)))))] H := hP
  have hD : va_D A [(h0, .inr (4, [.int (nI (0)), .int (nI (0)), .ref q_1, .ref q_2, .ref q_3, .ref q_4, .int (nI (0)), .int (nI (950)), .ref q_5, .ref q_6, .ref q_7, .ref q_8, .ref q_9, .ref q_10, .null])), (q_1, .inl (cI, 21, .inl (fun j => nI (0)))), (q_2, .inl (cI, 84, .inl (fun j => nI (0)))), (q_3, .inl (cI, 21, .inl (fun j => nI (0)))), (q_4, .inl (cI, 63, .inl (fun j => nI (0)))), (q_5, .inl (cI, 50, .inl (fun j => nI (0)))), (q_6, .inl (cI, 50, .inl (fun j => nI (0)))), (q_7, .inl (cL, 9696, .inr (.inl (fun j => lN (0))))), (q_8, .inl (cL, 48, .inr (.inl (fun j => lN (0))))), (q_9, .inl (cL, 48, .inr (.inl (fun j => lN (0))))), (q_10, .inl (cL, 48, .inr (.inl (fun j => lN (0)))))] := hD
  refine lv_aload_n hx hb dX4_init_92 rfl (lv_at hl 0 rfl) ?_
  refine lv_bipush (v := nI (48)) hx hb dX4_init_93 (by decide) ?_
  refine n_newL hx hb (hts (.arrayClass .long) (by decide +kernel)) hK hP hD hS hA (by omega) (Nat.le_of_ble_eq_true rfl) (Nat.le_of_ble_eq_true rfl) dX4_init_95 (fun q_11 H hP hD hS => ?_)
  have hP : va_P D vwCl [(h0, .inr (4, [.int (nI (0)), .int (nI (0)), .ref q_1, .ref q_2, .ref q_3, .ref q_4, .int (nI (0)), .int (nI (950)), .ref q_5, .ref q_6, .ref q_7, .ref q_8, .ref q_9, .ref q_10, .null])), (q_1, .inl (cI, 21, .inl (fun j => nI (0)))), (q_2, .inl (cI, 84, .inl (fun j => nI (0)))), (q_3, .inl (cI, 21, .inl (fun j => nI (0)))), (q_4, .inl (cI, 63, .inl (fun j => nI (0)))), (q_5, .inl (cI, 50, .inl (fun j => nI (0)))), (q_6, .inl (cI, 50, .inl (fun j => nI (0)))), (q_7, .inl (cL, 9696, .inr (.inl (fun j => lN (0))))), (q_8, .inl (cL, 48, .inr (.inl (fun j => lN (0))))), (q_9, .inl (cL, 48, .inr (.inl (fun j => lN (0))))), (q_10, .inl (cL, 48, .inr (.inl (fun j => lN (0))))), (q_11, .inl (cL, 48, .inr (.inl (fun j => lN (0)))))] H := hP
  have hD : va_D A [(h0, .inr (4, [.int (nI (0)), .int (nI (0)), .ref q_1, .ref q_2, .ref q_3, .ref q_4, .int (nI (0)), .int (nI (950)), .ref q_5, .ref q_6, .ref q_7, .ref q_8, .ref q_9, .ref q_10, .null])), (q_1, .inl (cI, 21, .inl (fun j => nI (0)))), (q_2, .inl (cI, 84, .inl (fun j => nI (0)))), (q_3, .inl (cI, 21, .inl (fun j => nI (0)))), (q_4, .inl (cI, 63, .inl (fun j => nI (0)))), (q_5, .inl (cI, 50, .inl (fun j => nI (0)))), (q_6, .inl (cI, 50, .inl (fun j => nI (0)))), (q_7, .inl (cL, 9696, .inr (.inl (fun j => lN (0))))), (q_8, .inl (cL, 48, .inr (.inl (fun j => lN (0))))), (q_9, .inl (cL, 48, .inr (.inl (fun j => lN (0))))), (q_10, .inl (cL, 48, .inr (.inl (fun j => lN (0))))), (q_11, .inl (cL, 48, .inr (.inl (fun j => lN (0)))))] := hD
  refine va_putF (D := D) (cl := vwCl) (ci := 4) (v := .ref q_11) (ty := tyX4 14) (C := RX4) (T := TX4) (N := 15) hx hb hts in_X4_init_X4 tyX4 tyX4_ok nmX4 hown hK hP hD hS 0 rfl rfl 14 (by decide) (hts (.fieldLink RX4 45 "BulkSamplesModel" "right" "[J") fl_X4_init_45) (fun _ h9 => h9) rfl hin rfl (by decide +kernel) rfl rfl (Nat.le_of_ble_eq_true rfl) dX4_init_97 (fun H locs hP hD hS => ?_)
  have hP : va_P D vwCl [(h0, .inr (4, [.int (nI (0)), .int (nI (0)), .ref q_1, .ref q_2, .ref q_3, .ref q_4, .int (nI (0)), .int (nI (950)), .ref q_5, .ref q_6, .ref q_7, .ref q_8, .ref q_9, .ref q_10, .ref q_11])), (q_1, .inl (cI, 21, .inl (fun j => nI (0)))), (q_2, .inl (cI, 84, .inl (fun j => nI (0)))), (q_3, .inl (cI, 21, .inl (fun j => nI (0)))), (q_4, .inl (cI, 63, .inl (fun j => nI (0)))), (q_5, .inl (cI, 50, .inl (fun j => nI (0)))), (q_6, .inl (cI, 50, .inl (fun j => nI (0)))), (q_7, .inl (cL, 9696, .inr (.inl (fun j => lN (0))))), (q_8, .inl (cL, 48, .inr (.inl (fun j => lN (0))))), (q_9, .inl (cL, 48, .inr (.inl (fun j => lN (0))))), (q_10, .inl (cL, 48, .inr (.inl (fun j => lN (0))))), (q_11, .inl (cL, 48, .inr (.inl (fun j => lN (0)))))] H := hP
  have hD : va_D A [(h0, .inr (4, [.int (nI (0)), .int (nI (0)), .ref q_1, .ref q_2, .ref q_3, .ref q_4, .int (nI (0)), .int (nI (950)), .ref q_5, .ref q_6, .ref q_7, .ref q_8, .ref q_9, .ref q_10, .ref q_11])), (q_1, .inl (cI, 21, .inl (fun j => nI (0)))), (q_2, .inl (cI, 84, .inl (fun j => nI (0)))), (q_3, .inl (cI, 21, .inl (fun j => nI (0)))), (q_4, .inl (cI, 63, .inl (fun j => nI (0)))), (q_5, .inl (cI, 50, .inl (fun j => nI (0)))), (q_6, .inl (cI, 50, .inl (fun j => nI (0)))), (q_7, .inl (cL, 9696, .inr (.inl (fun j => lN (0))))), (q_8, .inl (cL, 48, .inr (.inl (fun j => lN (0))))), (q_9, .inl (cL, 48, .inr (.inl (fun j => lN (0))))), (q_10, .inl (cL, 48, .inr (.inl (fun j => lN (0))))), (q_11, .inl (cL, 48, .inr (.inl (fun j => lN (0)))))] := hD
  refine lv_iconst (v := nI (0)) hx hb dX4_init_100 (by decide) ?_
  refine lv_istore_n (lv' := [(1, .int (nI (0))), (0, .ref h0)]) hx hb dX4_init_101 rfl hl (by decide) rfl (fun ls hl => ?_)
  have L_12 : ∀ (nn9 i : Nat), i + nn9 = 50 → ∀ (H : Heap) (locs : List Loc) (ls : Array Slot), va_P D vwCl [(h0, .inr (4, [.int (nI (0)), .int (nI (0)), .ref q_1, .ref q_2, .ref q_3, .ref q_4, .int (nI (0)), .int (nI (950)), .ref q_5, .ref q_6, .ref q_7, .ref q_8, .ref q_9, .ref q_10, .ref q_11])), (q_1, .inl (cI, 21, .inl (fun j => nI (0)))), (q_2, .inl (cI, 84, .inl (fun j => nI (0)))), (q_3, .inl (cI, 21, .inl (fun j => nI (0)))), (q_4, .inl (cI, 63, .inl (fun j => nI (0)))), (q_5, .inl (cI, 50, .inl (fun j => nI (if j < i then 20 else 0)))), (q_6, .inl (cI, 50, .inl (fun j => nI (0)))), (q_7, .inl (cL, 9696, .inr (.inl (fun j => lN (0))))), (q_8, .inl (cL, 48, .inr (.inl (fun j => lN (0))))), (q_9, .inl (cL, 48, .inr (.inl (fun j => lN (0))))), (q_10, .inl (cL, 48, .inr (.inl (fun j => lN (0))))), (q_11, .inl (cL, 48, .inr (.inl (fun j => lN (0)))))] H → va_D A [(h0, .inr (4, [.int (nI (0)), .int (nI (0)), .ref q_1, .ref q_2, .ref q_3, .ref q_4, .int (nI (0)), .int (nI (950)), .ref q_5, .ref q_6, .ref q_7, .ref q_8, .ref q_9, .ref q_10, .ref q_11])), (q_1, .inl (cI, 21, .inl (fun j => nI (0)))), (q_2, .inl (cI, 84, .inl (fun j => nI (0)))), (q_3, .inl (cI, 21, .inl (fun j => nI (0)))), (q_4, .inl (cI, 63, .inl (fun j => nI (0)))), (q_5, .inl (cI, 50, .inl (fun j => nI (if j < i then 20 else 0)))), (q_6, .inl (cI, 50, .inl (fun j => nI (0)))), (q_7, .inl (cL, 9696, .inr (.inl (fun j => lN (0))))), (q_8, .inl (cL, 48, .inr (.inl (fun j => lN (0))))), (q_9, .inl (cL, 48, .inr (.inl (fun j => lN (0))))), (q_10, .inl (cL, 48, .inr (.inl (fun j => lN (0))))), (q_11, .inl (cL, 48, .inr (.inl (fun j => lN (0)))))] → va_S A s.heap H locs → lv_has ls 2 [(0, .ref h0), (1, .int (nI (i)))] → W p l e ({ frames := 1, cells := 11, slots := 10177, locals := 20 } : Room) s m (List.toArray [.ref h0]) below meth c H locs (((((((((((0 + 1) + 1) + 1) + 1) + 1) + 1) + 1) + 1) + 1) + 1) + 1) (((((((((((0 + 21) + 84) + 21) + 63) + 50) + 50) + 9696) + 48) + 48) + 48) + 48) (MQ below (va_Qv (fun _ => True) (fun (u : Nat × Nat × Nat × Nat × Nat × Nat × Nat × Nat × Nat × Nat × Nat) => PostB D (gT cI cL cM) A [(h0, .inr (4, [.int (nI (0)), .int (nI (0)), .ref u.1, .ref u.2.1, .ref u.2.2.1, .ref u.2.2.2.1, .int (nI (0)), .int (nI (950)), .ref u.2.2.2.2.1, .ref u.2.2.2.2.2.1, .ref u.2.2.2.2.2.2.1, .ref u.2.2.2.2.2.2.2.1, .ref u.2.2.2.2.2.2.2.2.1, .ref u.2.2.2.2.2.2.2.2.2.1, .ref u.2.2.2.2.2.2.2.2.2.2])), (u.1, .inl (cI, 21, .inl (fun j => nI (0)))), (u.2.1, .inl (cI, 84, .inl (fun j => nI (0)))), (u.2.2.1, .inl (cI, 21, .inl (fun j => nI (0)))), (u.2.2.2.1, .inl (cI, 63, .inl (fun j => nI (0)))), (u.2.2.2.2.1, .inl (cI, 50, .inl (fun j => nI (20)))), (u.2.2.2.2.2.1, .inl (cI, 50, .inl (fun j => nI (0)))), (u.2.2.2.2.2.2.1, .inl (cL, 9696, .inr (.inl (fun j => lN (0))))), (u.2.2.2.2.2.2.2.1, .inl (cL, 48, .inr (.inl (fun j => lN (0))))), (u.2.2.2.2.2.2.2.2.1, .inl (cL, 48, .inr (.inl (fun j => lN (0))))), (u.2.2.2.2.2.2.2.2.2.1, .inl (cL, 48, .inr (.inl (fun j => lN (0))))), (u.2.2.2.2.2.2.2.2.2.2, .inl (cL, 48, .inr (.inl (fun j => lN (0)))))]) A) (List.toArray [.ref h0]) s 11 10177 A) (F0 m 102 ls []) := by
    intro nn9
    induction nn9 with
    | zero =>
      intro i hii H locs ls hP hD hS hl
      obtain rfl : 50 = i := by omega
      refine lv_iload_n hx hb dX4_init_102 rfl (lv_at hl 1 rfl) ?_
      refine lv_bipush (v := nI (50)) hx hb dX4_init_103 (by decide) ?_
      refine n_icmp_ge (tgt := 122) hx hb (by omega) (by omega) dX4_init_105 (by decide) (fun c_13 => ?_) (fun c_13 => False.elim (by omega))
      have hP : va_P D vwCl [(h0, .inr (4, [.int (nI (0)), .int (nI (0)), .ref q_1, .ref q_2, .ref q_3, .ref q_4, .int (nI (0)), .int (nI (950)), .ref q_5, .ref q_6, .ref q_7, .ref q_8, .ref q_9, .ref q_10, .ref q_11])), (q_1, .inl (cI, 21, .inl (fun j => nI (0)))), (q_2, .inl (cI, 84, .inl (fun j => nI (0)))), (q_3, .inl (cI, 21, .inl (fun j => nI (0)))), (q_4, .inl (cI, 63, .inl (fun j => nI (0)))), (q_5, .inl (cI, 50, .inl (fun j => nI (20)))), (q_6, .inl (cI, 50, .inl (fun j => nI (0)))), (q_7, .inl (cL, 9696, .inr (.inl (fun j => lN (0))))), (q_8, .inl (cL, 48, .inr (.inl (fun j => lN (0))))), (q_9, .inl (cL, 48, .inr (.inl (fun j => lN (0))))), (q_10, .inl (cL, 48, .inr (.inl (fun j => lN (0))))), (q_11, .inl (cL, 48, .inr (.inl (fun j => lN (0)))))] H := P_altI _ hP 5 rfl rfl (fun j hj => by rw [if_pos hj])
      have hD : va_D A [(h0, .inr (4, [.int (nI (0)), .int (nI (0)), .ref q_1, .ref q_2, .ref q_3, .ref q_4, .int (nI (0)), .int (nI (950)), .ref q_5, .ref q_6, .ref q_7, .ref q_8, .ref q_9, .ref q_10, .ref q_11])), (q_1, .inl (cI, 21, .inl (fun j => nI (0)))), (q_2, .inl (cI, 84, .inl (fun j => nI (0)))), (q_3, .inl (cI, 21, .inl (fun j => nI (0)))), (q_4, .inl (cI, 63, .inl (fun j => nI (0)))), (q_5, .inl (cI, 50, .inl (fun j => nI (20)))), (q_6, .inl (cI, 50, .inl (fun j => nI (0)))), (q_7, .inl (cL, 9696, .inr (.inl (fun j => lN (0))))), (q_8, .inl (cL, 48, .inr (.inl (fun j => lN (0))))), (q_9, .inl (cL, 48, .inr (.inl (fun j => lN (0))))), (q_10, .inl (cL, 48, .inr (.inl (fun j => lN (0))))), (q_11, .inl (cL, 48, .inr (.inl (fun j => lN (0)))))] := D_alt hD (q0 := 5) rfl rfl
      refine W.widen (k := 11) (n := 10177) (Nat.le_of_ble_eq_true rfl) (Nat.le_of_ble_eq_true rfl) ?_
      exact k_vret hx hb hr hlocks hP hD hK hS [0, 1, 2, 3, 4, 5, 6, 7, 8, 9, 10, 11] (q_1, q_2, q_3, q_4, q_5, q_6, q_7, q_8, q_9, q_10, q_11) rfl (by decide) trivial dX4_init_122
    | succ nn9 ih =>
      intro i hii H locs ls hP hD hS hl
      refine lv_iload_n hx hb dX4_init_102 rfl (lv_at hl 1 rfl) ?_
      refine lv_bipush (v := nI (50)) hx hb dX4_init_103 (by decide) ?_
      refine n_icmp_ge (tgt := 122) hx hb (by omega) (by omega) dX4_init_105 (by decide) (fun c_14 => False.elim (by omega)) (fun c_14 => ?_)
      refine lv_aload_n hx hb dX4_init_108 rfl (lv_at hl 0 rfl) ?_
      refine va_get (D := D) (cl := vwCl) (ci := 4) (v := .ref q_5) (C := RX4) (T := TX4) (N := 15) hx hb hts in_X4_init_X4 hown hK hP 0 rfl rfl 8 (by decide) (hts (.fieldLink RX4 26 "BulkSamplesModel" "plans" "[I") fl_X4_init_26) (fun _ h9 => h9) rfl dX4_init_109 ?_
      refine lv_iload_n hx hb dX4_init_112 rfl (lv_at hl 1 rfl) ?_
      refine lv_bipush (v := nI (20)) hx hb dX4_init_113 (by decide) ?_
      refine n_iast (f' := fun j => nI (if j < i + 1 then 20 else 0)) (ws' := [(h0, .inr (4, [.int (nI (0)), .int (nI (0)), .ref q_1, .ref q_2, .ref q_3, .ref q_4, .int (nI (0)), .int (nI (950)), .ref q_5, .ref q_6, .ref q_7, .ref q_8, .ref q_9, .ref q_10, .ref q_11])), (q_1, .inl (cI, 21, .inl (fun j => nI (0)))), (q_2, .inl (cI, 84, .inl (fun j => nI (0)))), (q_3, .inl (cI, 21, .inl (fun j => nI (0)))), (q_4, .inl (cI, 63, .inl (fun j => nI (0)))), (q_5, .inl (cI, 50, .inl (fun j => nI (if j < i + 1 then 20 else 0)))), (q_6, .inl (cI, 50, .inl (fun j => nI (0)))), (q_7, .inl (cL, 9696, .inr (.inl (fun j => lN (0))))), (q_8, .inl (cL, 48, .inr (.inl (fun j => lN (0))))), (q_9, .inl (cL, 48, .inr (.inl (fun j => lN (0))))), (q_10, .inl (cL, 48, .inr (.inl (fun j => lN (0))))), (q_11, .inl (cL, 48, .inr (.inl (fun j => lN (0)))))]) hx hb hK hP hD hS 5 0 rfl rfl (by omega) (by omega) (fun j _ => st_upI (fun _ => 20) (fun _ => 0) i j) rfl dX4_init_115 (fun H locs hP hD hS => ?_)
      refine lv_iinc (v := nI (i + 1)) (lv' := [(1, .int (nI (i + 1))), (0, .ref h0)]) hx hb dX4_init_116 hl (k := 1) rfl (nI_add i 1) (by decide) rfl (fun ls hl => ?_)
      refine lv_goto (tgt := 102) hx hb dX4_init_119 (by decide) ?_
      exact ih (i + 1) (by omega) _ _ _ (P_pick hP [0, 1, 2, 3, 4, 5, 6, 7, 8, 9, 10, 11] rfl) (D_pick hD [0, 1, 2, 3, 4, 5, 6, 7, 8, 9, 10, 11] (by decide) rfl) hS (lv_sub hl [1, 0] rfl)
  exact L_12 50 0 (by omega) _ _ _ (P_altI _ hP 5 rfl rfl (fun j _ => by simp)) (D_pick hD [0, 1, 2, 3, 4, 5, 6, 7, 8, 9, 10, 11] (by decide) rfl) hS (lv_sub hl [1, 0] rfl)
