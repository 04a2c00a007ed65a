/-! what is shown and shared -/
theorem fp_key (s : Bool) {X : Nat} (hX : X ≤ 9218868437227405312) : vf_n64 (UInt64.ofNat (s.toNat * 9223372036854775808 + X)) := by
  unfold vf_n64
  rw [UInt64.le_iff_toNat_le, UInt64.toNat_and, UInt64.toNat_ofNat', show (0x7fffffffffffffff : UInt64).toNat = 2 ^ 63 - 1 from rfl, Nat.and_two_pow_sub_one_eq_mod, show (0x7ff0000000000000 : UInt64).toNat = 9218868437227405312 from rfl]
  cases s
  · show (0 * 9223372036854775808 + X) % 2 ^ 64 % 2 ^ 63 ≤ _
    omega
  · show (1 * 9223372036854775808 + X) % 2 ^ 64 % 2 ^ 63 ≤ _
    omega
theorem fp_asm (s : Bool) {E T : Nat} (h : E * 4503599627370496 + T ≤ 9218868437227405312) : vf_n64 (UInt64.ofNat (FP.Core.assemble FP.Core.b64 s E T)) := by
  have e : FP.Core.assemble FP.Core.b64 s E T = s.toNat * 9223372036854775808 + (E * 4503599627370496 + T) := by
    show (s.toNat * 2048 + E) * 4503599627370496 + T = _
    omega
  rw [e]
  exact fp_key s h
theorem fp_fin (s : Bool) {c : Nat} {q : Int} (hc : c < 9007199254740992) (hq : q ≤ 971) : vf_n64 (UInt64.ofNat (FP.Core.encode FP.Core.b64 (.fin s c q))) := by
  show vf_n64 (UInt64.ofNat (if c < 4503599627370496 then FP.Core.assemble FP.Core.b64 s 0 c else FP.Core.assemble FP.Core.b64 s ((q - (-1074)).toNat + 1) (c - 4503599627370496)))
  by_cases h : c < 4503599627370496
  · rw [if_pos h]
    exact fp_asm s (by omega)
  · rw [if_neg h]
    exact fp_asm s (by omega)
theorem fp_inf (s : Bool) : vf_n64 (UInt64.ofNat (FP.Core.encode FP.Core.b64 (.inf s))) := by
  show vf_n64 (UInt64.ofNat (FP.Core.assemble FP.Core.b64 s 2047 0))
  exact fp_asm s (by omega)
theorem fp_bound (s : Bool) {c : Nat} {q : Int} (hc : c < 9007199254740992) : vf_n64 (UInt64.ofNat (FP.Core.encode FP.Core.b64 (FP.Core.bound FP.Core.b64 s c q))) := by
  unfold FP.Core.bound
  by_cases h : q ≤ FP.Core.Fmt.qmax FP.Core.b64
  · rw [if_pos h]
    exact fp_fin s hc h
  · rw [if_neg h]
    exact fp_inf s
theorem fp_round (s : Bool) (c d : Nat) (e : Int) : vf_n64 (UInt64.ofNat (FP.Core.encode FP.Core.b64 (FP.Core.roundRatio FP.Core.b64 s c d e))) := by
  unfold FP.Core.roundRatio
  by_cases h : c = 0
  · rw [if_pos h]
    exact fp_fin s (by omega) (by show (-1074 : Int) ≤ 971; omega)
  · rw [if_neg h]
    unfold FP.Core.roundAt FP.Core.settle
    generalize FP.Core.nearest _ _ = z
    by_cases h2 : z < 2 ^ FP.Core.b64.p
    · rw [if_pos h2]
      exact fp_bound s h2
    · rw [if_neg h2]
      exact fp_bound s (by show 4503599627370496 < 9007199254740992; omega)
def fpc (k : Nat) : Bool := match FP.Core.decode FP.Core.b64 (FP.i2d (nI k)).toNat with
  | .fin _ c _ => (k == 0) || (c != 0)
  | _ => false
theorem fpc_ok : ∀ k, k < 201 → fpc k = true := by decide +kernel
theorem fp_div {a b : Nat} (ha : a ≤ 200) (hb1 : 1 ≤ b) (hb : b ≤ 200) : vf_n64 (FP.ddiv (FP.i2d (nI a)) (FP.i2d (nI b))) := by
  have h1 := fpc_ok a (by omega)
  have h2 := fpc_ok b (by omega)
  unfold fpc at h1 h2
  show vf_n64 (UInt64.ofNat (FP.Core.encode FP.Core.b64 (FP.Core.quotient FP.Core.b64 (FP.Core.decode FP.Core.b64 (FP.i2d (nI a)).toNat) (FP.Core.decode FP.Core.b64 (FP.i2d (nI b)).toNat))))
  generalize FP.Core.decode FP.Core.b64 (FP.i2d (nI a)).toNat = x at h1 ⊢
  generalize FP.Core.decode FP.Core.b64 (FP.i2d (nI b)).toNat = y at h2 ⊢
  cases x with
  | nan => exact Bool.noConfusion (show false = true from h1)
  | inf s => exact Bool.noConfusion (show false = true from h1)
  | fin s c q =>
    cases y with
    | nan => exact Bool.noConfusion (show false = true from h2)
    | inf s => exact Bool.noConfusion (show false = true from h2)
    | fin t d r =>
      have hd : ¬ d = 0 := fun hz => by
        subst hz
        have h3 : ((b == 0) || ((0 : Nat) != 0)) = true := h2
        rw [Bool.or_eq_true] at h3
        rcases h3 with h3 | h3
        · have := eq_of_beq h3
          omega
        · exact absurd h3 (by decide)
      show vf_n64 (UInt64.ofNat (FP.Core.encode FP.Core.b64 (if d = 0 then (if c = 0 then .nan else .inf (s != t)) else FP.Core.roundRatio FP.Core.b64 (s != t) c d (q - r))))
      rw [if_neg hd]
      exact fp_round _ _ _ _
theorem w64 {x : Int32} (h : ¬ x = 0) : ¬ x.toInt64 = 0 := fun q => h (by
  have e : x.toInt64.toInt = (0 : Int64).toInt := by rw [q]
  rw [Int32.toInt_toInt64] at e
  rw [← Int32.toInt_inj]
  exact e)
set_option maxHeartbeats 4000000 in
set_option maxRecDepth 100000 in
/-- shown -/
theorem c_h_ok (l : Launch) (D : va_G) (cI cL cM : ClassId) (sz : Nat) (h0 xM xP xG xO cnt te tr : Nat) (mf : Nat → Option Nat) (x : Int32) (am ad af it dr : Nat) (hsome : fnd mf x = some am) (fd : Nat → Nat) (hit : it ≤ 200) (h1dr : 1 ≤ dr) (hdr : dr ≤ it) (hfd : psum fd 3 ≤ dr) : Met l yX3_shown wsX3_shown ({ frames := 1, cells := 0, slots := 0, locals := 22 } : Room) (va_Pc [.ref h0, .int x] (PreB D (gT cI cL cM) sz [(h0, .inr (3, [.ref xM, .ref xP, .ref xG, .ref xO, .int (nI (cnt)), .int (nI (te)), .int (nI (tr))])), (xM, .inl (cM, 20, .inr (.inr (.inr (.inr (mf)))))), (am, .inr (0, [.int (nI (it)), .ref ad, .ref af, .int (nI (dr))])), (af, .inl (cI, 3, .inl (fun j => nI (fd j))))])) (va_Qd (fun r _ => r = FP.ddiv (FP.i2d (nI (psum fd 3))) (FP.i2d (nI dr))) (fun (_ : Unit) => PostB D (gT cI cL cM) (va_A [(h0, .inr (3, [.ref xM, .ref xP, .ref xG, .ref xO, .int (nI (cnt)), .int (nI (te)), .int (nI (tr))])), (xM, .inl (cM, 20, .inr (.inr (.inr (.inr (mf)))))), (am, .inr (0, [.int (nI (it)), .ref ad, .ref af, .int (nI (dr))])), (af, .inl (cI, 3, .inl (fun j => nI (fd j))))] sz) [(h0, .inr (3, [.ref xM, .ref xP, .ref xG, .ref xO, .int (nI (cnt)), .int (nI (te)), .int (nI (tr))])), (xM, .inl (cM, 20, .inr (.inr (.inr (.inr (mf)))))), (am, .inr (0, [.int (nI (it)), .ref ad, .ref af, .int (nI (dr))])), (af, .inl (cI, 3, .inl (fun j => nI (fd j))))]) (va_A [(h0, .inr (3, [.ref xM, .ref xP, .ref xG, .ref xO, .int (nI (cnt)), .int (nI (te)), .int (nI (tr))])), (xM, .inl (cM, 20, .inr (.inr (.inr (.inr (mf)))))), (am, .inr (0, [.int (nI (it)), .ref ad, .ref af, .int (nI (dr))])), (af, .inl (cI, 3, .inl (fun j => nI (fd j))))] sz)) 0 0 (va_A [(h0, .inr (3, [.ref xM, .ref xP, .ref xG, .ref xO, .int (nI (cnt)), .int (nI (te)), .int (nI (tr))])), (xM, .inl (cM, 20, .inr (.inr (.inr (.inr (mf)))))), (am, .inr (0, [.int (nI (it)), .ref ad, .ref af, .int (nI (dr))])), (af, .inl (cI, 3, .inl (fun j => nI (fd j))))] sz) := by
  refine k_start (fun A => (va_Qd (fun r _ => r = FP.ddiv (FP.i2d (nI (psum fd 3))) (FP.i2d (nI dr))) (fun (_ : Unit) => PostB D (gT cI cL cM) A [(h0, .inr (3, [.ref xM, .ref xP, .ref xG, .ref xO, .int (nI (cnt)), .int (nI (te)), .int (nI (tr))])), (xM, .inl (cM, 20, .inr (.inr (.inr (.inr (mf)))))), (am, .inr (0, [.int (nI (it)), .ref ad, .ref af, .int (nI (dr))])), (af, .inl (cI, 3, .inl (fun j => nI (fd j))))]) A)) (cc := cX3_shown) (maxL := 3) (ret := (some .double)) (by decide) rfl (Nat.le_of_ble_eq_true rfl) ?_
  intro p e s m below meth c A ls hx hb hr hts hown hlocks hin hml hP hK hD hA hS hl
  have hl : lv_has ls 3 [(0, .ref h0), (1, .int x)] := hl
  have hown : s.vm.findClass RX3 = some m.cls := hown
  refine lv_aload_n hx hb dX3_shown_0 rfl (lv_at hl 0 rfl) ?_
  refine lv_iload_n hx hb dX3_shown_1 rfl (lv_at hl 1 rfl) ?_
  refine k_callq (wc := [(h0, .inr (3, [.ref xM, .ref xP, .ref xG, .ref xO, .int (nI (cnt)), .int (nI (te)), .int (nI (tr))])), (xM, .inl (cM, 20, .inr (.inr (.inr (.inr (mf))))))]) (wr := [(am, .inr (0, [.int (nI (it)), .ref ad, .ref af, .int (nI (dr))])), (af, .inl (cI, 3, .inl (fun j => nI (fd j))))]) (W1 := fun _ => [(h0, .inr (3, [.ref xM, .ref xP, .ref xG, .ref xO, .int (nI (cnt)), .int (nI (te)), .int (nI (tr))])), (xM, .inl (cM, 20, .inr (.inr (.inr (.inr (mf)))))), (am, .inr (0, [.int (nI (it)), .ref ad, .ref af, .int (nI (dr))])), (af, .inl (cI, 3, .inl (fun j => nI (fd j))))]) hP hD hS hA [0, 1] [2, 3] [2, 3, 0, 1] rfl rfl (by decide) (by decide) (fun _ => rfl) (by decide) (va_runV (As := [.int x]) (rest := []) ⟨hx, hb, hml, hown, hts⟩ (c_find l D cI cL cM s.heap.size h0 xM xP xG xO cnt te tr mf x) (cwV 1 hts gX3_shown_X3_find rfl rfl rfl (by decide +kernel) ⟨Nat.le_of_ble_eq_true rfl, Nat.le_of_ble_eq_true rfl⟩) (k_preV hP hD hK [0, 1] rfl (by decide) 0 rfl rfl rfl) rfl rfl hl.1 rfl (lv_room (Nat.le_of_ble_eq_true rfl)) dX3_shown_2 ⟨Nat.le_of_ble_eq_true rfl, Nat.le_of_ble_eq_true rfl⟩) (fun r_1 _ H locs hw hP hD hS => ?_)
  obtain rfl : r_1 = some am := hw.trans hsome
  refine W.eq (g2 := F0 m 5 ls [.ref am]) rfl ?_
  refine lv_astore_n (lv' := [(2, .ref am), (0, .ref h0), (1, .int x)]) hx hb dX3_shown_5 rfl hl (by decide) rfl (fun ls hl => ?_)
  refine lv_aload_n hx hb dX3_shown_6 rfl (lv_at hl 0 rfl) ?_
  refine lv_ifnonnull (tgt := 14) hx hb dX3_shown_7 (by decide) ?_
  refine lv_aload_n hx hb dX3_shown_14 rfl (lv_at hl 0 rfl) ?_
  refine k_calli (wc := [(am, .inr (0, [.int (nI (it)), .ref ad, .ref af, .int (nI (dr))]))]) (wr := [(h0, .inr (3, [.ref xM, .ref xP, .ref xG, .ref xO, .int (nI (cnt)), .int (nI (te)), .int (nI (tr))])), (xM, .inl (cM, 20, .inr (.inr (.inr (.inr (mf)))))), (af, .inl (cI, 3, .inl (fun j => nI (fd j))))]) (W1 := fun _ => [(h0, .inr (3, [.ref xM, .ref xP, .ref xG, .ref xO, .int (nI (cnt)), .int (nI (te)), .int (nI (tr))])), (xM, .inl (cM, 20, .inr (.inr (.inr (.inr (mf)))))), (am, .inr (0, [.int (nI (it)), .ref ad, .ref af, .int (nI (dr))])), (af, .inl (cI, 3, .inl (fun j => nI (fd j))))]) hP hD hS hA [2] [0, 1, 3] [0, 1, 3, 2] rfl rfl (by decide) (by decide) (fun _ => rfl) (by decide) (va_runV (As := []) (rest := []) ⟨hx, hb, hml, hown, hts⟩ (c_samp l D cI cL cM H.size am ad af it dr (by omega)) (cwV 0 hts gX3_shown_X0_isSampled rfl rfl rfl (by decide +kernel) ⟨Nat.le_of_ble_eq_true rfl, Nat.le_of_ble_eq_true rfl⟩) (k_preV hP hD hK [2] rfl (by decide) 0 rfl rfl rfl) rfl rfl hl.1 rfl (lv_room (Nat.le_of_ble_eq_true rfl)) dX3_shown_15 ⟨Nat.le_of_ble_eq_true rfl, Nat.le_of_ble_eq_true rfl⟩) (fun r_3 _ H locs hw hP hD hS => ?_)
  obtain rfl : r_3 = nI (b2 (0 < dr)) := hw
  refine n_if_ne (tgt := 23) hx hb (Nat.lt_of_le_of_lt (b2_le _) (by omega)) dX3_shown_18 (by decide) (fun c_4 => ?_) (fun c => absurd (b2_0 c) (by omega))
  refine lv_aload_n hx hb dX3_shown_23 rfl (lv_at hl 0 rfl) ?_
  refine va_get (D := D) (cl := vwCl) (ci := 0) (v := .ref af) (C := RX0) (T := TX0) (N := 4) hx hb hts in_X3_shown_X0 hown hK hP 2 rfl rfl 2 (by decide) (hts (.fieldLink RX3 69 "BulkSamples$Mailing" "found" "[I") fl_X3_shown_69) (fun _ h9 => h9) rfl dX3_shown_24 ?_
  refine k_calli (wc := [(af, .inl (cI, 3, .inl (fun j => nI (fd j))))]) (wr := [(h0, .inr (3, [.ref xM, .ref xP, .ref xG, .ref xO, .int (nI (cnt)), .int (nI (te)), .int (nI (tr))])), (xM, .inl (cM, 20, .inr (.inr (.inr (.inr (mf)))))), (am, .inr (0, [.int (nI (it)), .ref ad, .ref af, .int (nI (dr))]))]) (W1 := fun _ => [(h0, .inr (3, [.ref xM, .ref xP, .ref xG, .ref xO, .int (nI (cnt)), .int (nI (te)), .int (nI (tr))])), (xM, .inl (cM, 20, .inr (.inr (.inr (.inr (mf)))))), (am, .inr (0, [.int (nI (it)), .ref ad, .ref af, .int (nI (dr))])), (af, .inl (cI, 3, .inl (fun j => nI (fd j))))]) hP hD hS hA [3] [0, 1, 2] [0, 1, 2, 3] rfl rfl (by decide) (by decide) (fun _ => rfl) (by decide) (va_runS (As := [.ref af]) (rest := []) ⟨hx, hb, hml, hown, hts⟩ (c_sum l D cI cL cM H.size af 3 fd (by omega)) (va_cwS 1 hts gX3_shown_X3_sum rfl rfl rfl (by decide +kernel) ⟨Nat.le_of_ble_eq_true rfl, Nat.le_of_ble_eq_true rfl⟩) (k_preS hP hD hK [3] rfl (by decide)) rfl rfl hl.1 rfl (lv_room (Nat.le_of_ble_eq_true rfl)) dX3_shown_27 ⟨Nat.le_of_ble_eq_true rfl, Nat.le_of_ble_eq_true rfl⟩) (fun r_5 _ H locs hw hP hD hS => ?_)
  obtain rfl : r_5 = nI (psum fd 3) := hw
  refine lv_i2d hx hb dX3_shown_30 ?_
  refine lv_aload_n hx hb dX3_shown_31 rfl (lv_at hl 0 rfl) ?_
  refine va_get (D := D) (cl := vwCl) (ci := 0) (v := .int (nI (dr))) (C := RX0) (T := TX0) (N := 4) hx hb hts in_X3_shown_X0 hown hK hP 2 rfl rfl 3 (by decide) (hts (.fieldLink RX3 66 "BulkSamples$Mailing" "drawn" "I") fl_X3_shown_66) (fun _ h9 => h9) rfl dX3_shown_32 ?_
  refine lv_i2d hx hb dX3_shown_35 ?_
  refine lv_ddiv hx hb dX3_shown_36 (fp_div (by omega) h1dr (by omega)) ?_
  refine W.widen (k := 0) (n := 0) (Nat.le_of_ble_eq_true rfl) (Nat.le_of_ble_eq_true rfl) ?_
  exact k_dret (v := FP.ddiv (FP.i2d (nI (psum fd 3))) (FP.i2d (nI (dr)))) hx hb hr hlocks hP hD hK hS [0, 1, 2, 3] () rfl (by decide) rfl dX3_shown_37
set_option maxHeartbeats 4000000 in
set_option maxRecDepth 100000 in
/-- shown -/
theorem d_h_ok (l : Launch) (D : va_G) (cI cL cM : ClassId) (sz : Nat) (h0 yI yD yN yW yP yG yR yS yA yL yT tz cnt te tr : Nat) (mm : Nat) (h1m : 1 ≤ mm) (hmm : mm ≤ cnt) (hc : cnt ≤ 20) (iv nv wv : Nat → Nat) (hit : iv mm ≤ 200) (h1dr : 1 ≤ nv mm) (hdr : nv mm ≤ iv mm) (hfd : psum (fun j => wv (3 * mm + j)) 3 ≤ nv mm) : Met l yX4_shown wsX4_shown ({ frames := 1, cells := 0, slots := 0, locals := 21 } : Room) (va_Pc [.ref h0, .int (nI (mm))] (PreB D (gT cI cL cM) sz [(h0, .inr (4, [.int (nI (tz)), .int (nI (cnt)), .ref yI, .ref yD, .ref yN, .ref yW, .int (nI (te)), .int (nI (tr)), .ref yP, .ref yG, .ref yR, .ref yS, .ref yA, .ref yL, .ref yT])), (yN, .inl (cI, 21, .inl (fun j => nI (nv j)))), (yW, .inl (cI, 63, .inl (fun j => nI (wv j))))])) (va_Qd (fun r _ => r = FP.ddiv (FP.i2d (nI (psum (fun j => wv (3 * mm + j)) 3))) (FP.i2d (nI (nv mm)))) (fun (_ : Unit) => PostB D (gT cI cL cM) (va_A [(h0, .inr (4, [.int (nI (tz)), .int (nI (cnt)), .ref yI, .ref yD, .ref yN, .ref yW, .int (nI (te)), .int (nI (tr)), .ref yP, .ref yG, .ref yR, .ref yS, .ref yA, .ref yL, .ref yT])), (yN, .inl (cI, 21, .inl (fun j => nI (nv j)))), (yW, .inl (cI, 63, .inl (fun j => nI (wv j))))] sz) [(h0, .inr (4, [.int (nI (0)), .int (nI (cnt)), .ref yI, .ref yD, .ref yN, .ref yW, .int (nI (te)), .int (nI (tr)), .ref yP, .ref yG, .ref yR, .ref yS, .ref yA, .ref yL, .ref yT])), (yN, .inl (cI, 21, .inl (fun j => nI (nv j)))), (yW, .inl (cI, 63, .inl (fun j => nI (wv j))))]) (va_A [(h0, .inr (4, [.int (nI (tz)), .int (nI (cnt)), .ref yI, .ref yD, .ref yN, .ref yW, .int (nI (te)), .int (nI (tr)), .ref yP, .ref yG, .ref yR, .ref yS, .ref yA, .ref yL, .ref yT])), (yN, .inl (cI, 21, .inl (fun j => nI (nv j)))), (yW, .inl (cI, 63, .inl (fun j => nI (wv j))))] sz)) 0 0 (va_A [(h0, .inr (4, [.int (nI (tz)), .int (nI (cnt)), .ref yI, .ref yD, .ref yN, .ref yW, .int (nI (te)), .int (nI (tr)), .ref yP, .ref yG, .ref yR, .ref yS, .ref yA, .ref yL, .ref yT])), (yN, .inl (cI, 21, .inl (fun j => nI (nv j)))), (yW, .inl (cI, 63, .inl (fun j => nI (wv j))))] sz) := by
  refine k_start (fun A => (va_Qd (fun r _ => r = FP.ddiv (FP.i2d (nI (psum (fun j => wv (3 * mm + j)) 3))) (FP.i2d (nI (nv mm)))) (fun (_ : Unit) => PostB D (gT cI cL cM) A [(h0, .inr (4, [.int (nI (0)), .int (nI (cnt)), .ref yI, .ref yD, .ref yN, .ref yW, .int (nI (te)), .int (nI (tr)), .ref yP, .ref yG, .ref yR, .ref yS, .ref yA, .ref yL, .ref yT])), (yN, .inl (cI, 21, .inl (fun j => nI (nv j)))), (yW, .inl (cI, 63, .inl (fun j => nI (wv j))))]) A)) (cc := cX4_shown) (maxL := 2) (ret := (some .double)) (by decide) rfl (Nat.le_of_ble_eq_true rfl) ?_
  intro p e s m below meth c A ls hx hb hr hts hown hlocks hin hml hP hK hD hA hS hl
  have hl : lv_has ls 2 [(0, .ref h0), (1, .int (nI (mm)))] := hl
  have hown : s.vm.findClass RX4 = some m.cls := hown
  refine lv_aload_n hx hb dX4_shown_0 rfl (lv_at hl 0 rfl) ?_
  refine lv_iconst (v := nI (0)) hx hb dX4_shown_1 (by decide) ?_
  refine va_put (D := D) (cl := vwCl) (ci := 4) (v := .int (nI (0))) (ty := tyX4 0) (C := RX4) (T := TX4) (N := 15) hx hb hts in_X4_shown_X4 tyX4 tyX4_ok nmX4 hown hK hP hD hS 0 rfl rfl 0 (by decide) (hts (.fieldLink RX4 48 "BulkSamplesModel" "thrown" "I") fl_X4_shown_48) (fun _ h9 => h9) rfl (by decide +kernel) rfl rfl (Nat.le_of_ble_eq_true rfl) dX4_shown_2 (fun H locs hP hD hS => ?_)
  have hP : va_P D vwCl [(h0, .inr (4, [.int (nI (0)), .int (nI (cnt)), .ref yI, .ref yD, .ref yN, .ref yW, .int (nI (te)), .int (nI (tr)), .ref yP, .ref yG, .ref yR, .ref yS, .ref yA, .ref yL, .ref yT])), (yN, .inl (cI, 21, .inl (fun j => nI (nv j)))), (yW, .inl (cI, 63, .inl (fun j => nI (wv j))))] H := hP
  have hD : va_D A [(h0, .inr (4, [.int (nI (0)), .int (nI (cnt)), .ref yI, .ref yD, .ref yN, .ref yW, .int (nI (te)), .int (nI (tr)), .ref yP, .ref yG, .ref yR, .ref yS, .ref yA, .ref yL, .ref yT])), (yN, .inl (cI, 21, .inl (fun j => nI (nv j)))), (yW, .inl (cI, 63, .inl (fun j => nI (wv j))))] := hD
  refine lv_aload_n hx hb dX4_shown_5 rfl (lv_at hl 0 rfl) ?_
  refine lv_iload_n hx hb dX4_shown_6 rfl (lv_at hl 1 rfl) ?_
  refine k_calli (wc := [(h0, .inr (4, [.int (nI (0)), .int (nI (cnt)), .ref yI, .ref yD, .ref yN, .ref yW, .int (nI (te)), .int (nI (tr)), .ref yP, .ref yG, .ref yR, .ref yS, .ref yA, .ref yL, .ref yT]))]) (wr := [(yN, .inl (cI, 21, .inl (fun j => nI (nv j)))), (yW, .inl (cI, 63, .inl (fun j => nI (wv j))))]) (W1 := fun _ => [(h0, .inr (4, [.int (nI (0)), .int (nI (cnt)), .ref yI, .ref yD, .ref yN, .ref yW, .int (nI (te)), .int (nI (tr)), .ref yP, .ref yG, .ref yR, .ref yS, .ref yA, .ref yL, .ref yT])), (yN, .inl (cI, 21, .inl (fun j => nI (nv j)))), (yW, .inl (cI, 63, .inl (fun j => nI (wv j))))]) hP hD hS hA [0] [1, 2] [2, 0, 1] rfl rfl (by decide) (by decide) (fun _ => rfl) (by decide) (va_runV (As := [.int (nI (mm))]) (rest := []) ⟨hx, hb, hml, hown, hts⟩ (d_is_yes l D cI cL cM H.size h0 yI yD yN yW yP yG yR yS yA yL yT 0 cnt te tr mm h1m hmm hc) (cwV 1 hts gX4_shown_X4_isMailing rfl rfl rfl (by decide +kernel) ⟨Nat.le_of_ble_eq_true rfl, Nat.le_of_ble_eq_true rfl⟩) (k_preV hP hD hK [0] rfl (by decide) 0 rfl rfl rfl) rfl rfl hl.1 rfl (lv_room (Nat.le_of_ble_eq_true rfl)) dX4_shown_7 ⟨Nat.le_of_ble_eq_true rfl, Nat.le_of_ble_eq_true rfl⟩) (fun r_1 _ H locs hw hP hD hS => ?_)
  obtain rfl : r_1 = nI (1) := hw
  refine n_if_ne (tgt := 17) hx hb (by omega) dX4_shown_10 (by decide) (fun c_2 => ?_) (fun c_2 => False.elim (by omega))
  refine lv_aload_n hx hb dX4_shown_17 rfl (lv_at hl 0 rfl) ?_
  refine va_get (D := D) (cl := vwCl) (ci := 4) (v := .ref yN) (C := RX4) (T := TX4) (N := 15) hx hb hts in_X4_shown_X4 hown hK hP 0 rfl rfl 4 (by decide) (hts (.fieldLink RX4 16 "BulkSamplesModel" "drawn" "[I") fl_X4_shown_16) (fun _ h9 => h9) rfl dX4_shown_18 ?_
  refine lv_iload_n hx hb dX4_shown_21 rfl (lv_at hl 1 rfl) ?_
  refine n_iald (x := nI (nv mm)) hx hb hK hP 1 0 rfl rfl (by omega) (by omega) rfl dX4_shown_22 ?_
  refine n_if_ne (tgt := 30) hx hb (by omega) dX4_shown_23 (by decide) (fun c_3 => ?_) (fun c_3 => False.elim (by omega))
  refine lv_aload_n hx hb dX4_shown_30 rfl (lv_at hl 0 rfl) ?_
  refine lv_iload_n hx hb dX4_shown_31 rfl (lv_at hl 1 rfl) ?_
  refine k_calli (wc := [(h0, .inr (4, [.int (nI (0)), .int (nI (cnt)), .ref yI, .ref yD, .ref yN, .ref yW, .int (nI (te)), .int (nI (tr)), .ref yP, .ref yG, .ref yR, .ref yS, .ref yA, .ref yL, .ref yT])), (yW, .inl (cI, 63, .inl (fun j => nI (wv j))))]) (wr := [(yN, .inl (cI, 21, .inl (fun j => nI (nv j))))]) (W1 := fun _ => [(h0, .inr (4, [.int (nI (0)), .int (nI (cnt)), .ref yI, .ref yD, .ref yN, .ref yW, .int (nI (te)), .int (nI (tr)), .ref yP, .ref yG, .ref yR, .ref yS, .ref yA, .ref yL, .ref yT])), (yN, .inl (cI, 21, .inl (fun j => nI (nv j)))), (yW, .inl (cI, 63, .inl (fun j => nI (wv j))))]) hP hD hS hA [0, 2] [1] [1, 0, 2] rfl rfl (by decide) (by decide) (fun _ => rfl) (by decide) (va_runV (As := [.int (nI (mm))]) (rest := []) ⟨hx, hb, hml, hown, hts⟩ (d_wof l D cI cL cM H.size h0 yI yD yN yW yP yG yR yS yA yL yT 0 cnt te tr wv mm (by omega)) (cwV 1 hts gX4_shown_X4_wrongOf rfl rfl rfl (by decide +kernel) ⟨Nat.le_of_ble_eq_true rfl, Nat.le_of_ble_eq_true rfl⟩) (k_preV hP hD hK [0, 2] rfl (by decide) 0 rfl rfl rfl) rfl rfl hl.1 rfl (lv_room (Nat.le_of_ble_eq_true rfl)) dX4_shown_32 ⟨Nat.le_of_ble_eq_true rfl, Nat.le_of_ble_eq_true rfl⟩) (fun r_4 _ H locs hw hP hD hS => ?_)
  obtain rfl : r_4 = nI (psum (fun j => wv (3 * mm + j)) 3) := hw
  refine lv_i2d hx hb dX4_shown_35 ?_
  refine lv_aload_n hx hb dX4_shown_36 rfl (lv_at hl 0 rfl) ?_
  refine va_get (D := D) (cl := vwCl) (ci := 4) (v := .ref yN) (C := RX4) (T := TX4) (N := 15) hx hb hts in_X4_shown_X4 hown hK hP 0 rfl rfl 4 (by decide) (hts (.fieldLink RX4 16 "BulkSamplesModel" "drawn" "[I") fl_X4_shown_16) (fun _ h9 => h9) rfl dX4_shown_37 ?_
  refine lv_iload_n hx hb dX4_shown_40 rfl (lv_at hl 1 rfl) ?_
  refine n_iald (x := nI (nv mm)) hx hb hK hP 1 0 rfl rfl (by omega) (by omega) rfl dX4_shown_41 ?_
  refine lv_i2d hx hb dX4_shown_42 ?_
  refine lv_ddiv hx hb dX4_shown_43 (fp_div (by omega) h1dr (by omega)) ?_
  refine W.widen (k := 0) (n := 0) (Nat.le_of_ble_eq_true rfl) (Nat.le_of_ble_eq_true rfl) ?_
  exact k_dret (v := FP.ddiv (FP.i2d (nI (psum (fun j => wv (3 * mm + j)) 3))) (FP.i2d (nI (nv mm)))) hx hb hr hlocks hP hD hK hS [0, 1, 2] () rfl (by decide) rfl dX4_shown_44
theorem in_X4_share_X4 : ∀ w ∈ wsX40, w ∈ wsX4_share := by decide +kernel
theorem fl_X4_share_48 : Cond.fieldLink RX4 48 "BulkSamplesModel" "thrown" "I" ∈ wsX4_share := by decide +kernel
set_option maxHeartbeats 4000000 in
set_option maxRecDepth 100000 in
/-- share of nothing -/
theorem d_sh_0 (l : Launch) (D : va_G) (cI cL cM : ClassId) (sz : Nat) (h0 yI yD yN yW yP yG yR yS yA yL yT tz cnt te tr : Nat) (a9 b9 : Int32) (hz : b9 = 0) : Met l yX4_share wsX4_share ({ frames := 0, cells := 0, slots := 0, locals := 0 } : Room) (va_Pc [.ref h0, .int a9, .int b9] (PreB D (gT cI cL cM) sz [(h0, .inr (4, [.int (nI (tz)), .int (nI (cnt)), .ref yI, .ref yD, .ref yN, .ref yW, .int (nI (te)), .int (nI (tr)), .ref yP, .ref yG, .ref yR, .ref yS, .ref yA, .ref yL, .ref yT]))])) (va_Ql (fun r _ => r = lN 0) (fun (_ : Unit) => PostB D (gT cI cL cM) (va_A [(h0, .inr (4, [.int (nI (tz)), .int (nI (cnt)), .ref yI, .ref yD, .ref yN, .ref yW, .int (nI (te)), .int (nI (tr)), .ref yP, .ref yG, .ref yR, .ref yS, .ref yA, .ref yL, .ref yT]))] sz) [(h0, .inr (4, [.int (nI (1)), .int (nI (cnt)), .ref yI, .ref yD, .ref yN, .ref yW, .int (nI (te)), .int (nI (tr)), .ref yP, .ref yG, .ref yR, .ref yS, .ref yA, .ref yL, .ref yT]))]) (va_A [(h0, .inr (4, [.int (nI (tz)), .int (nI (cnt)), .ref yI, .ref yD, .ref yN, .ref yW, .int (nI (te)), .int (nI (tr)), .ref yP, .ref yG, .ref yR, .ref yS, .ref yA, .ref yL, .ref yT]))] sz)) 0 0 (va_A [(h0, .inr (4, [.int (nI (tz)), .int (nI (cnt)), .ref yI, .ref yD, .ref yN, .ref yW, .int (nI (te)), .int (nI (tr)), .ref yP, .ref yG, .ref yR, .ref yS, .ref yA, .ref yL, .ref yT]))] sz) := by
  refine k_start (fun A => (va_Ql (fun r _ => r = lN 0) (fun (_ : Unit) => PostB D (gT cI cL cM) A [(h0, .inr (4, [.int (nI (1)), .int (nI (cnt)), .ref yI, .ref yD, .ref yN, .ref yW, .int (nI (te)), .int (nI (tr)), .ref yP, .ref yG, .ref yR, .ref yS, .ref yA, .ref yL, .ref yT]))]) A)) (cc := cX4_share) (maxL := 3) (ret := (some .long)) (by decide) rfl (Nat.le_of_ble_eq_true rfl) ?_
  intro p e s m below meth c A ls hx hb hr hts hown hlocks hin hml hP hK hD hA hS hl
  have hl : lv_has ls 3 [(0, .ref h0), (1, .int a9), (2, .int b9)] := hl
  have hown : s.vm.findClass RX4 = some m.cls := hown
  refine lv_aload_n hx hb dX4_share_0 rfl (lv_at hl 0 rfl) ?_
  refine lv_iload_n hx hb dX4_share_1 rfl (lv_at hl 2 rfl) ?_
  refine lv_if_ne (tgt := 9) hx hb dX4_share_2 (by decide) (fun c => absurd hz c) (fun c_1 => ?_)
  refine lv_iconst (v := nI (1)) hx hb dX4_share_5 (by decide) ?_
  refine lv_goto (tgt := 10) hx hb dX4_share_6 (by decide) ?_
  refine va_put (D := D) (cl := vwCl) (ci := 4) (v := .int (nI (1))) (ty := tyX4 0) (C := RX4) (T := TX4) (N := 15) hx hb hts in_X4_share_X4 tyX4 tyX4_ok nmX4 hown hK hP hD hS 0 rfl rfl 0 (by decide) (hts (.fieldLink RX4 48 "BulkSamplesModel" "thrown" "I") fl_X4_share_48) (fun _ h9 => h9) rfl (by decide +kernel) rfl rfl (Nat.le_of_ble_eq_true rfl) dX4_share_10 (fun H locs hP hD hS => ?_)
  have hP : va_P D vwCl [(h0, .inr (4, [.int (nI (1)), .int (nI (cnt)), .ref yI, .ref yD, .ref yN, .ref yW, .int (nI (te)), .int (nI (tr)), .ref yP, .ref yG, .ref yR, .ref yS, .ref yA, .ref yL, .ref yT]))] H := hP
  have hD : va_D A [(h0, .inr (4, [.int (nI (1)), .int (nI (cnt)), .ref yI, .ref yD, .ref yN, .ref yW, .int (nI (te)), .int (nI (tr)), .ref yP, .ref yG, .ref yR, .ref yS, .ref yA, .ref yL, .ref yT]))] := hD
  refine lv_aload_n hx hb dX4_share_13 rfl (lv_at hl 0 rfl) ?_
  refine va_get (D := D) (cl := vwCl) (ci := 4) (v := .int (nI (1))) (C := RX4) (T := TX4) (N := 15) hx hb hts in_X4_share_X4 hown hK hP 0 rfl rfl 0 (by decide) (hts (.fieldLink RX4 48 "BulkSamplesModel" "thrown" "I") fl_X4_share_48) (fun _ h9 => h9) rfl dX4_share_14 ?_
  refine n_if_le (tgt := 24) hx hb (by omega) dX4_share_17 (by decide) (fun c_2 => False.elim (by omega)) (fun c_2 => ?_)
  refine lv_lconst (v := lN (0)) hx hb dX4_share_20 (by decide) ?_
  refine lv_goto (tgt := 33) hx hb dX4_share_21 (by decide) ?_
  exact k_lret (v := lN (0)) hx hb hr hlocks hP hD hK hS [0] () rfl (by decide) rfl dX4_share_33
set_option maxHeartbeats 4000000 in
set_option maxRecDepth 100000 in
/-- share -/
theorem d_sh_1 (l : Launch) (D : va_G) (cI cL cM : ClassId) (sz : Nat) (h0 yI yD yN yW yP yG yR yS yA yL yT tz cnt te tr : Nat) (a9 b9 : Int32) (hz : ¬ b9 = 0) : Met l yX4_share wsX4_share ({ frames := 0, cells := 0, slots := 0, locals := 0 } : Room) (va_Pc [.ref h0, .int a9, .int b9] (PreB D (gT cI cL cM) sz [(h0, .inr (4, [.int (nI (tz)), .int (nI (cnt)), .ref yI, .ref yD, .ref yN, .ref yW, .int (nI (te)), .int (nI (tr)), .ref yP, .ref yG, .ref yR, .ref yS, .ref yA, .ref yL, .ref yT]))])) (va_Ql (fun r _ => r = a9.toInt64 * lN 1000000 / b9.toInt64) (fun (_ : Unit) => PostB D (gT cI cL cM) (va_A [(h0, .inr (4, [.int (nI (tz)), .int (nI (cnt)), .ref yI, .ref yD, .ref yN, .ref yW, .int (nI (te)), .int (nI (tr)), .ref yP, .ref yG, .ref yR, .ref yS, .ref yA, .ref yL, .ref yT]))] sz) [(h0, .inr (4, [.int (nI (0)), .int (nI (cnt)), .ref yI, .ref yD, .ref yN, .ref yW, .int (nI (te)), .int (nI (tr)), .ref yP, .ref yG, .ref yR, .ref yS, .ref yA, .ref yL, .ref yT]))]) (va_A [(h0, .inr (4, [.int (nI (tz)), .int (nI (cnt)), .ref yI, .ref yD, .ref yN, .ref yW, .int (nI (te)), .int (nI (tr)), .ref yP, .ref yG, .ref yR, .ref yS, .ref yA, .ref yL, .ref yT]))] sz)) 0 0 (va_A [(h0, .inr (4, [.int (nI (tz)), .int (nI (cnt)), .ref yI, .ref yD, .ref yN, .ref yW, .int (nI (te)), .int (nI (tr)), .ref yP, .ref yG, .ref yR, .ref yS, .ref yA, .ref yL, .ref yT]))] sz) := by
  refine k_start (fun A => (va_Ql (fun r _ => r = a9.toInt64 * lN 1000000 / b9.toInt64) (fun (_ : Unit) => PostB D (gT cI cL cM) A [(h0, .inr (4, [.int (nI (0)), .int (nI (cnt)), .ref yI, .ref yD, .ref yN, .ref yW, .int (nI (te)), .int (nI (tr)), .ref yP, .ref yG, .ref yR, .ref yS, .ref yA, .ref yL, .ref yT]))]) A)) (cc := cX4_share) (maxL := 3) (ret := (some .long)) (by decide) rfl (Nat.le_of_ble_eq_true rfl) ?_
  intro p e s m below meth c A ls hx hb hr hts hown hlocks hin hml hP hK hD hA hS hl
  have hl : lv_has ls 3 [(0, .ref h0), (1, .int a9), (2, .int b9)] := hl
  have hown : s.vm.findClass RX4 = some m.cls := hown
  refine lv_aload_n hx hb dX4_share_0 rfl (lv_at hl 0 rfl) ?_
  refine lv_iload_n hx hb dX4_share_1 rfl (lv_at hl 2 rfl) ?_
  refine lv_if_ne (tgt := 9) hx hb dX4_share_2 (by decide) (fun c_1 => ?_) (fun c => absurd c hz)
  refine lv_iconst (v := nI (0)) hx hb dX4_share_9 (by decide) ?_
  refine va_put (D := D) (cl := vwCl) (ci := 4) (v := .int (nI (0))) (ty := tyX4 0) (C := RX4) (T := TX4) (N := 15) hx hb hts in_X4_share_X4 tyX4 tyX4_ok nmX4 hown hK hP hD hS 0 rfl rfl 0 (by decide) (hts (.fieldLink RX4 48 "BulkSamplesModel" "thrown" "I") fl_X4_share_48) (fun _ h9 => h9) rfl (by decide +kernel) rfl rfl (Nat.le_of_ble_eq_true rfl) dX4_share_10 (fun H locs hP hD hS => ?_)
  have hP : va_P D vwCl [(h0, .inr (4, [.int (nI (0)), .int (nI (cnt)), .ref yI, .ref yD, .ref yN, .ref yW, .int (nI (te)), .int (nI (tr)), .ref yP, .ref yG, .ref yR, .ref yS, .ref yA, .ref yL, .ref yT]))] H := hP
  have hD : va_D A [(h0, .inr (4, [.int (nI (0)), .int (nI (cnt)), .ref yI, .ref yD, .ref yN, .ref yW, .int (nI (te)), .int (nI (tr)), .ref yP, .ref yG, .ref yR, .ref yS, .ref yA, .ref yL, .ref yT]))] := hD
  refine lv_aload_n hx hb dX4_share_13 rfl (lv_at hl 0 rfl) ?_
  refine va_get (D := D) (cl := vwCl) (ci := 4) (v := .int (nI (0))) (C := RX4) (T := TX4) (N := 15) hx hb hts in_X4_share_X4 hown hK hP 0 rfl rfl 0 (by decide) (hts (.fieldLink RX4 48 "BulkSamplesModel" "thrown" "I") fl_X4_share_48) (fun _ h9 => h9) rfl dX4_share_14 ?_
  refine n_if_le (tgt := 24) hx hb (by omega) dX4_share_17 (by decide) (fun c_2 => ?_) (fun c_2 => False.elim (by omega))
  refine lv_iload_n hx hb dX4_share_24 rfl (lv_at hl 1 rfl) ?_
  refine lv_i2l (v := (a9).toInt64) hx hb dX4_share_25 rfl ?_
  refine lv_ldc2 hx hb hown (hts (.constantLong RX4 113 (1000000)) (by decide +kernel)) dX4_share_26 ?_
  rw [show (1000000 : Int64) = lN 1000000 from rfl]
  refine lv_lmul hx hb dX4_share_29 ?_
  refine lv_iload_n hx hb dX4_share_30 rfl (lv_at hl 2 rfl) ?_
  refine lv_i2l (v := (b9).toInt64) hx hb dX4_share_31 rfl ?_
  refine lv_ldiv hx hb dX4_share_32 (w64 hz) ?_
  exact k_lret (v := (((a9).toInt64) * (lN (1000000))) / ((b9).toInt64)) hx hb hr hlocks hP hD hK hS [0] () rfl (by decide) rfl dX4_share_33
set_option maxHeartbeats 4000000 in
set_option maxRecDepth 100000 in
/-- share -/
theorem c_sh_1 (l : Launch) (D : va_G) (cI cL cM : ClassId) (sz : Nat) (h0 xM xP xG xO cnt te tr : Nat) (a9 b9 : Int32) (hz : ¬ b9 = 0) : Met l yX3_share wsX3_share ({ frames := 6, cells := 1, slots := 6, locals := 82 } : Room) (va_Pc [.ref h0, .int a9, .int b9] (PreB D (gT cI cL cM) sz [(h0, .inr (3, [.ref xM, .ref xP, .ref xG, .ref xO, .int (nI (cnt)), .int (nI (te)), .int (nI (tr))]))])) (va_Ql (fun r _ => r = a9.toInt64 * lN 1000000 / b9.toInt64) (fun (_ : Unit) => PostB D (gT cI cL cM) (va_A [(h0, .inr (3, [.ref xM, .ref xP, .ref xG, .ref xO, .int (nI (cnt)), .int (nI (te)), .int (nI (tr))]))] sz) [(h0, .inr (3, [.ref xM, .ref xP, .ref xG, .ref xO, .int (nI (cnt)), .int (nI (te)), .int (nI (tr))]))]) (va_A [(h0, .inr (3, [.ref xM, .ref xP, .ref xG, .ref xO, .int (nI (cnt)), .int (nI (te)), .int (nI (tr))]))] sz)) 1 6 (va_A [(h0, .inr (3, [.ref xM, .ref xP, .ref xG, .ref xO, .int (nI (cnt)), .int (nI (te)), .int (nI (tr))]))] sz) := by
  refine k_start (fun A => (va_Ql (fun r _ => r = a9.toInt64 * lN 1000000 / b9.toInt64) (fun (_ : Unit) => PostB D (gT cI cL cM) A [(h0, .inr (3, [.ref xM, .ref xP, .ref xG, .ref xO, .int (nI (cnt)), .int (nI (te)), .int (nI (tr))]))]) A)) (cc := cX3_share) (maxL := 3) (ret := (some .long)) (by decide) rfl (Nat.le_of_ble_eq_true rfl) ?_
  intro p e s m below meth c A ls hx hb hr hts hown hlocks hin hml hP hK hD hA hS hl
  have hl : lv_has ls 3 [(0, .ref h0), (1, .int a9), (2, .int b9)] := hl
  have hown : s.vm.findClass RX3 = some m.cls := hown
  refine lv_iload_n hx hb dX3_share_0 rfl (lv_at hl 2 rfl) ?_
  refine lv_if_ne (tgt := 14) hx hb dX3_share_1 (by decide) (fun c_1 => ?_) (fun c => absurd c hz)
  refine lv_iload_n hx hb dX3_share_14 rfl (lv_at hl 1 rfl) ?_
  refine lv_i2l (v := (a9).toInt64) hx hb dX3_share_15 rfl ?_
  refine lv_ldc2 hx hb hown (hts (.constantLong RX3 93 (1000000)) (by decide +kernel)) dX3_share_16 ?_
  rw [show (1000000 : Int64) = lN 1000000 from rfl]
  refine lv_lmul hx hb dX3_share_19 ?_
  refine lv_iload_n hx hb dX3_share_20 rfl (lv_at hl 2 rfl) ?_
  refine lv_i2l (v := (b9).toInt64) hx hb dX3_share_21 rfl ?_
  refine lv_ldiv hx hb dX3_share_22 (w64 hz) ?_
  refine W.widen (k := 1) (n := 6) (Nat.le_of_ble_eq_true rfl) (Nat.le_of_ble_eq_true rfl) ?_
  exact k_lret (v := (((a9).toInt64) * (lN (1000000))) / ((b9).toInt64)) hx hb hr hlocks hP hD hK hS [0] () rfl (by decide) rfl dX3_share_23
