/-! share of nothing: the throw, and who catches it -/
abbrev shW : List Cond := [Cond.declares (Bundle.initS "java/lang/RuntimeException"), Cond.declares (Bundle.initS "java/lang/Exception"), Cond.declares (Bundle.initS "java/lang/Throwable"), Cond.castable "java/lang/ArithmeticException" "java/lang/ArithmeticException"]
/-- what a throw takes of the tables and of the JDK's statics, which no cell of A is -/
def eSh (sa : Nat) (A : Nat → Prop) (U : State) : Prop := vx_Zq Bundle.tN "UNASSIGNED_STACK" Bundle.steD A U U.heap ∧ vx_Zq Bundle.tN "SUPPRESSED_SENTINEL" Bundle.listD A U U.heap ∧ va_Nw (.declares (Bundle.initS "java/lang/RuntimeException")) U ∧ va_Nw (.declares (Bundle.initS "java/lang/Exception")) U ∧ va_Nw (.declares (Bundle.initS "java/lang/Throwable")) U ∧ va_Nw (.castable "java/lang/ArithmeticException" "java/lang/ArithmeticException") U ∧ vk_R RX3 88 "no share of nothing" sa U
theorem eSh_blind {sa : Nat} {A : Nat → Prop} {U : State} {g : JFrame} {mk : MethodId} {a : Array Value} (h : eSh sa A U) : eSh sa A (U.calling g mk a) := by
  obtain ⟨h1, h2, h3, h4, h5, h6, h7⟩ := h
  exact ⟨vx_Zq.moved (u := U) (Vm.Alike.refl U.vm) h1, vx_Zq.moved (u := U) (Vm.Alike.refl U.vm) h2, va_Nw.same rfl (u := U) rfl h3, va_Nw.same rfl (u := U) rfl h4, va_Nw.same rfl (u := U) rfl h5, va_Nw.same rfl (u := U) rfl h6, vk_R.same (u := U) rfl h7⟩
theorem eSh_to {sa : Nat} {A B : Nat → Prop} {s U : State} {H : Heap} {locs : List Loc} (h : eSh sa A s) (hS : va_S A s.heap H locs) (hAB : ∀ q, B q → A q) (hU : U.heap = H) (hW : s.WarmedH U.vm) : eSh sa B U := by
  obtain ⟨h1, h2, h3, h4, h5, h6, h7⟩ := h
  subst hU
  exact ⟨vx_Zq.moved hW.alike ((h1.kept (fun a q1 q2 => hS.2.1 a q1 q2)).narrow hAB), vx_Zq.moved hW.alike ((h2.kept (fun a q1 q2 => hS.2.1 a q1 q2)).narrow hAB), va_Nw.warmD hW h3, va_Nw.warmD hW h4, va_Nw.warmD hW h5, va_Nw.warmC hW h6, vk_R.warm hW h7⟩
abbrev PreE (D : va_G) (T : List (ClassId × FieldType)) (sz : Nat) (ws : va_W) (E : State → Prop) : State → Prop := fun U => PreB D T sz ws U ∧ E U
theorem PreE_blind {av : List Value} {D : va_G} {T : List (ClassId × FieldType)} {sz : Nat} {ws : va_W} {E : State → Prop} (hE : ∀ (a : Array Value) (U : State) (g : JFrame) (mk : MethodId), E U → E (U.calling g mk a)) : FrameBlind (va_Pc av (PreE D T sz ws E)) := fun a U g mk q => by
  obtain ⟨q0, ⟨q1, qP, qK, qD⟩, qE⟩ := q
  exact ⟨q0, ⟨q1, qP, va_K.moved (u := U) (U := U.calling g mk a) (Vm.Alike.refl U.vm) qK, qD⟩, hE a U g mk qE⟩
set_option maxHeartbeats 4000000 in
set_option maxRecDepth 100000 in
/-- share of nothing: it throws, and the world is as it was -/
theorem c_sh_x (l : Launch) (hlt : l.stackTraces = false) (D : va_G) (cI cL cM : ClassId) (sz : Nat) (h0 xM xP xG xO cnt te tr : Nat) (a9 b9 : Int32) (hz : b9 = 0) (sa : Nat) : vx_Met l yX3_share wsX3_share ({ frames := 6, cells := 1, slots := 6, locals := 82 } : Room) (va_Pc [.ref h0, .int a9, .int b9] (PreE D (gT cI cL cM) sz [(h0, .inr (3, [.ref xM, .ref xP, .ref xG, .ref xO, .int (nI (cnt)), .int (nI (te)), .int (nI (tr))]))] (eSh sa (va_A [(h0, .inr (3, [.ref xM, .ref xP, .ref xG, .ref xO, .int (nI (cnt)), .int (nI (te)), .int (nI (tr))]))] sz)))) (va_Ql (fun (_ : Int64) (_ : Unit) => False) (fun _ _ => True) (va_A [(h0, .inr (3, [.ref xM, .ref xP, .ref xG, .ref xO, .int (nI (cnt)), .int (nI (te)), .int (nI (tr))]))] sz)) (vx_X (fun _ : Unit => True) (fun E _ t => E = "java/lang/ArithmeticException" ∧ PostB D (gT cI cL cM) (va_A [(h0, .inr (3, [.ref xM, .ref xP, .ref xG, .ref xO, .int (nI (cnt)), .int (nI (te)), .int (nI (tr))]))] sz) [(h0, .inr (3, [.ref xM, .ref xP, .ref xG, .ref xO, .int (nI (cnt)), .int (nI (te)), .int (nI (tr))]))] t) (va_A [(h0, .inr (3, [.ref xM, .ref xP, .ref xG, .ref xO, .int (nI (cnt)), .int (nI (te)), .int (nI (tr))]))] sz)) 1 6 (va_A [(h0, .inr (3, [.ref xM, .ref xP, .ref xG, .ref xO, .int (nI (cnt)), .int (nI (te)), .int (nI (tr))]))] sz) := by
  subst hz
  refine vx_ofW (cc := cX3_share) (maxL := 3) (ret := (some .long)) (by decide) rfl ?_
  intro p e s m args below meth c s₁ B hml hnt hv
  obtain ⟨rfl, ⟨hsz, hP, hK, hD0⟩, hE⟩ := hv
  have hx := B.exec
  have hb := B.bytes
  have hts := atoms_spec (ws := wsX3_share) B.pre
  have hown : s.vm.findClass RX3 = some m.cls := findClass_of_methodNamed B.named
  have hlocks := B.notSynchronized
  subst hsz
  have hD := hD0.self (sz := s.heap.size)
  generalize hAe : va_A [(h0, .inr (3, [.ref xM, .ref xP, .ref xG, .ref xO, .int (nI (cnt)), .int (nI (te)), .int (nI (tr))]))] s.heap.size = A at hD hE ⊢
  have hS : va_S A s.heap s.heap [] := va_S.rf
  rw [lg_entry_eq]
  have hl := lv_entry ([.ref h0, .int a9, .int 0]) (n := 3) (Nat.le_of_ble_eq_true rfl)
  generalize (lg_sl ([.ref h0, .int a9, .int 0]) ++ List.replicate (3 - (lg_sl ([.ref h0, .int a9, .int 0])).length) Slot.unset).toArray = ls at hl ⊢
  have hl : lv_has ls 3 [(0, .ref h0), (1, .int a9), (2, .int 0)] := hl
  obtain ⟨e1, e2, e3, e4, e5, e6, e7⟩ := hE
  have hat := vx_hat (L := vx_atS RX3 90 "java/lang/ArithmeticException" ["java/lang/RuntimeException", "java/lang/Exception"]) (B := shW) (fun w h => hts w (List.mem_cons_of_mem _ (List.mem_append_right _ h))) (by decide +kernel) (vx_c (va_Nw.use rfl e3) (vx_c (va_Nw.use rfl e4) (vx_c (va_Nw.use rfl e5) (vx_c (va_Nw.use rfl e6) vx_n))))
  refine lv_iload_n hx hb dX3_share_0 rfl (lv_at hl 2 rfl) ?_
  refine lv_if_ne (tgt := 14) hx hb dX3_share_1 (by decide) (fun c1 => absurd rfl c1) (fun c1 => ?_)
  exact vx_throwS (names := ["java/lang/RuntimeException", "java/lang/Exception"]) (sa := sa) hx hb hlt hown (by decide +kernel) (by decide +kernel) (hts (.classLink RX3 86 "java/lang/ArithmeticException") (by decide +kernel)) (hts (.initialized "java/lang/ArithmeticException") (by decide +kernel)) e7 hat (by decide +kernel) e1 e2 hS (by rw [hml]; exact hl.1) dX3_share_4 dX3_share_7 dX3_share_8 dX3_share_10 dX3_share_13 (fun x hx => (hnt x hx).elim) (Nat.le_of_ble_eq_true rfl) (Nat.le_of_ble_eq_true rfl) (Nat.le_of_ble_eq_true rfl) (Nat.le_of_ble_eq_true rfl) hlocks (fun t hvm hz2 hk => ⟨(), trivial, ⟨rfl, hP.kept (fun k q hq => hk q.1 (hP k q hq).lt), va_K.moved hvm hK, hD⟩, hz2, fun q h1 _ => hk q h1⟩) hS.2.2 (Nat.le_of_ble_eq_true rfl) (Nat.le_of_ble_eq_true rfl)
/-- a method with a table, from its entry -/
theorem k_startW {l : Launch} {y : MethodName} {wds wds' : List Cond} {rm : Room} {mc ms sz maxL : Nat} {cc : ByteArray} {ret : Option FieldType} {hh : List (Nat × Nat × Nat × Nat)} {av : List Value} {D : va_G} {T : List (ClassId × FieldType)} {W0 : va_W} (EG : (Nat → Prop) → State → Prop) (QG : (Nat → Prop) → Array Value → State → Outcome → State → Prop) (hy : plainName y.cls = true) (hw : wds = Cond.codeWith y cc maxL ret hh :: wds') (hlen : (lg_sl av).length ≤ maxL)
    (body : ∀ (p : Program) (e : Env) (s : State) (m : MethodId) (below : List Frame) (meth : Method) (c : Code) (A : Nat → Prop) (ls : Array Slot), p.tables.exec = Jvm.exec → c.code = cc → meth.sig.returnType = ret → (∀ w ∈ wds, w.before av.toArray s = true) → s.vm.findClass y.cls = some m.cls → meth.locks = false → c.exceptionTable.toList = tableOf hh → c.maxLocals = maxL → va_P D vwCl W0 s.heap → va_K D vwCl T s → va_D A W0 → (∀ q, s.heap.size ≤ q → A q) → va_S A s.heap s.heap [] → lv_has ls maxL (lv_args 0 av) → EG A s →
      W p l e rm s m av.toArray below meth c s.heap [] 0 0 (MQ below (QG A) av.toArray s mc ms A) (F0 m 0 ls [])) :
    Met l y wds rm (va_Pc av (PreE D T sz W0 (EG (va_A W0 sz)))) (QG (va_A W0 sz)) mc ms (va_A W0 sz) := by
  refine va_MetW (cc := cc) (maxL := maxL) (ret := ret) (hh := hh) hy hw ?_
  intro p e s m args below meth c s₁ B hml hv
  obtain ⟨rfl, ⟨hsz, hP, hK, hD0⟩, hE⟩ := hv
  subst hsz
  rw [lg_entry_eq]
  exact body p e s m below meth c _ _ B.exec B.bytes B.returns (atoms_spec (ws := wds) B.pre) (findClass_of_methodNamed B.named) B.notSynchronized (vx_table (x := y) B (atoms_spec (ws := wds) B.pre _ (by rw [hw]; exact List.mem_cons_self))) hml hP hK hD0.self (fun q h => Or.inr h) va_S.rf (lv_entry av hlen) hE

set_option maxHeartbeats 4000000 in
set_option maxRecDepth 100000 in
/-- the law's share of nothing: 1, nothing is written -/
theorem l_sh_x (l : Launch) (hlt : l.stackTraces = false) (D : va_G) (cI cL cM : ClassId) (sz : Nat) (h0 xM xP xG xO cnt te tr : Nat) (xU : Nat) (g9 : Nat → Int64) (a9 b9 : Int32) (hz : b9 = 0) (sa : Nat) : Met l yL_share wsL_share ({ frames := 7, cells := 1, slots := 6, locals := 104 } : Room) (va_Pc [.ref h0, .int a9, .int b9, .ref xU] (PreE D (gT cI cL cM) sz [(h0, .inr (3, [.ref xM, .ref xP, .ref xG, .ref xO, .int (nI (cnt)), .int (nI (te)), .int (nI (tr))])), (xU, .inl (cL, 1, .inr (.inl g9)))] (eSh sa (va_A [(h0, .inr (3, [.ref xM, .ref xP, .ref xG, .ref xO, .int (nI (cnt)), .int (nI (te)), .int (nI (tr))])), (xU, .inl (cL, 1, .inr (.inl g9)))] sz)))) (va_Qi (fun r (_ : Unit) => r = nI 1) (fun _ => PostB D (gT cI cL cM) (va_A [(h0, .inr (3, [.ref xM, .ref xP, .ref xG, .ref xO, .int (nI (cnt)), .int (nI (te)), .int (nI (tr))])), (xU, .inl (cL, 1, .inr (.inl g9)))] sz) [(h0, .inr (3, [.ref xM, .ref xP, .ref xG, .ref xO, .int (nI (cnt)), .int (nI (te)), .int (nI (tr))])), (xU, .inl (cL, 1, .inr (.inl g9)))]) (va_A [(h0, .inr (3, [.ref xM, .ref xP, .ref xG, .ref xO, .int (nI (cnt)), .int (nI (te)), .int (nI (tr))])), (xU, .inl (cL, 1, .inr (.inl g9)))] sz)) 1 6 (va_A [(h0, .inr (3, [.ref xM, .ref xP, .ref xG, .ref xO, .int (nI (cnt)), .int (nI (te)), .int (nI (tr))])), (xU, .inl (cL, 1, .inr (.inl g9)))] sz) := by
  refine k_startW (fun A => eSh sa A) (fun A => (va_Qi (fun r (_ : Unit) => r = nI 1) (fun _ => PostB D (gT cI cL cM) A [(h0, .inr (3, [.ref xM, .ref xP, .ref xG, .ref xO, .int (nI (cnt)), .int (nI (te)), .int (nI (tr))])), (xU, .inl (cL, 1, .inr (.inl g9)))]) A)) (cc := cL_share) (maxL := 5) (ret := (some .int)) (hh := [(0, 9, 12, 13)]) (by decide) rfl (Nat.le_of_ble_eq_true rfl) ?_
  intro p e s m below meth c A ls hx hb hr hts hown hlocks htab hml hP hK hD hA hS hl hE
  have hl : lv_has ls 5 [(0, .ref h0), (1, .int a9), (2, .int b9), (3, .ref xU)] := hl
  have hown : s.vm.findClass RL = some m.cls := hown
  refine lv_aload_n hx hb dL_share_0 rfl (lv_at hl 3 rfl) ?_
  refine lv_iconst (v := nI 0) hx hb dL_share_1 (by decide) ?_
  refine lv_aload_n hx hb dL_share_2 rfl (lv_at hl 0 rfl) ?_
  refine lv_iload_n hx hb dL_share_3 rfl (lv_at hl 1 rfl) ?_
  refine lv_iload_n hx hb dL_share_4 rfl (lv_at hl 2 rfl) ?_
  have hF := va_free (wc := [(h0, .inr (3, [.ref xM, .ref xP, .ref xG, .ref xO, .int (nI (cnt)), .int (nI (te)), .int (nI (tr))]))]) hD hS hA [0] rfl
  have hpre : PreV s s.heap RX3 h0 (va_Pc [.ref h0, .int a9, .int b9] (PreE D (gT cI cL cM) s.heap.size [(h0, .inr (3, [.ref xM, .ref xP, .ref xG, .ref xO, .int (nI (cnt)), .int (nI (te)), .int (nI (tr))]))] (eSh sa (va_A [(h0, .inr (3, [.ref xM, .ref xP, .ref xG, .ref xO, .int (nI (cnt)), .int (nI (te)), .int (nI (tr))]))] s.heap.size)))) [.int a9, .int b9] := ⟨PreE_blind (fun a U g mk q => eSh_blind q), va_recv hK hP (ci := 3) (q0 := 0) rfl rfl, fun U hU hW => ⟨rfl, ⟨by rw [hU], by rw [hU]; exact P_pick hP [0] rfl, va_K.moved hW.alike hK, (hD.sub [0] (by decide) rfl).weaken (fun _ _ _ _ => trivial)⟩, eSh_to hE hS hF hU hW⟩⟩
  refine vx_calll (vx_runV (As := [.int a9, .int b9]) (rest := [.int (nI 0), .ref xU]) ⟨hx, hb, hml, hown, hts⟩ (c_sh_x l hlt D cI cL cM s.heap.size h0 xM xP xG xO cnt te tr a9 b9 hz sa) (cwV 2 hts gL_share_X3_share rfl rfl rfl (by decide +kernel) ⟨Nat.le_of_ble_eq_true rfl, Nat.le_of_ble_eq_true rfl⟩) hpre rfl rfl hl.1 rfl (lv_room (Nat.le_of_ble_eq_true rfl)) dL_share_5 ⟨Nat.le_of_ble_eq_true rfl, Nat.le_of_ble_eq_true rfl⟩) hS (fun q _ h => hF q h) hF (fun q _ h => hF q h) (fun E ce q9 u t H1 locs1 ht hvm hp hB hz1 hk1 hS hce hcv hcl => ?_) (fun r u t H1 locs1 ht hvm hp hB hz1 hk1 hS => hp.elim)
  obtain ⟨rfl, hP1, hK1, hD1⟩ := hB
  rw [ht] at hP1
  obtain ⟨hP, hD⟩ := k_join (W1 := [(h0, .inr (3, [.ref xM, .ref xP, .ref xG, .ref xO, .int (nI (cnt)), .int (nI (te)), .int (nI (tr))])), (xU, .inl (cL, 1, .inr (.inl g9)))]) (wr := [(xU, .inl (cL, 1, .inr (.inl g9)))]) hP hD [0] [1] [1, 0] rfl rfl (by decide) (by decide) rfl (by decide) hk1 hF hP1 hD1
  refine vx_catch hown [] ⟨0, 9, 12, 13⟩ [] htab (fun z h => nomatch h) (by decide) (by decide) (hts (.classLink RL 13 "java/lang/ArithmeticException") (by decide +kernel)) (va_Nw.use rfl hE.2.2.2.2.2.1) hce hcv hcl ?_
  refine lv_astore (lv' := [(4, .ref q9), (0, .ref h0), (1, .int a9), (2, .int b9), (3, .ref xU)]) hx hb dL_share_12 hl (by decide) rfl (fun ls hl => ?_)
  refine lv_iconst (v := nI 1) hx hb dL_share_14 (by decide) ?_
  exact k_iret (v := nI 1) hx hb hr hlocks hP hD hK hS [0, 1] () rfl (by decide) rfl dL_share_15
set_option maxHeartbeats 4000000 in
set_option maxRecDepth 100000 in
/-- the law's share: 0, and the share stands in the row -/
theorem l_sh_1 (l : Launch) (D : va_G) (cI cL cM : ClassId) (sz : Nat) (h0 xM xP xG xO cnt te tr : Nat) (xU : Nat) (g9 : Nat → Int64) (a9 b9 : Int32) (hz : ¬ b9 = 0) : Met l yL_share wsL_share ({ frames := 7, cells := 1, slots := 6, locals := 104 } : Room) (va_Pc [.ref h0, .int a9, .int b9, .ref xU] (PreE D (gT cI cL cM) sz [(h0, .inr (3, [.ref xM, .ref xP, .ref xG, .ref xO, .int (nI (cnt)), .int (nI (te)), .int (nI (tr))])), (xU, .inl (cL, 1, .inr (.inl g9)))] (fun _ => True))) (va_Qi (fun r (_ : Unit) => r = nI 0) (fun _ => PostB D (gT cI cL cM) (va_A [(h0, .inr (3, [.ref xM, .ref xP, .ref xG, .ref xO, .int (nI (cnt)), .int (nI (te)), .int (nI (tr))])), (xU, .inl (cL, 1, .inr (.inl g9)))] sz) [(h0, .inr (3, [.ref xM, .ref xP, .ref xG, .ref xO, .int (nI (cnt)), .int (nI (te)), .int (nI (tr))])), (xU, .inl (cL, 1, .inr (.inl (fun j => if j = 0 then a9.toInt64 * lN 1000000 / b9.toInt64 else g9 j))))]) (va_A [(h0, .inr (3, [.ref xM, .ref xP, .ref xG, .ref xO, .int (nI (cnt)), .int (nI (te)), .int (nI (tr))])), (xU, .inl (cL, 1, .inr (.inl g9)))] sz)) 1 6 (va_A [(h0, .inr (3, [.ref xM, .ref xP, .ref xG, .ref xO, .int (nI (cnt)), .int (nI (te)), .int (nI (tr))])), (xU, .inl (cL, 1, .inr (.inl g9)))] sz) := by
  refine k_startW (fun _ _ => True) (fun A => (va_Qi (fun r (_ : Unit) => r = nI 0) (fun _ => PostB D (gT cI cL cM) A [(h0, .inr (3, [.ref xM, .ref xP, .ref xG, .ref xO, .int (nI (cnt)), .int (nI (te)), .int (nI (tr))])), (xU, .inl (cL, 1, .inr (.inl (fun j => if j = 0 then a9.toInt64 * lN 1000000 / b9.toInt64 else g9 j))))]) A)) (cc := cL_share) (maxL := 5) (ret := (some .int)) (hh := [(0, 9, 12, 13)]) (by decide) rfl (Nat.le_of_ble_eq_true rfl) ?_
  intro p e s m below meth c A ls hx hb hr hts hown hlocks htab hml hP hK hD hA hS hl hE
  have hl : lv_has ls 5 [(0, .ref h0), (1, .int a9), (2, .int b9), (3, .ref xU)] := hl
  have hown : s.vm.findClass RL = some m.cls := hown
  refine lv_aload_n hx hb dL_share_0 rfl (lv_at hl 3 rfl) ?_
  refine lv_iconst (v := nI 0) hx hb dL_share_1 (by decide) ?_
  refine lv_aload_n hx hb dL_share_2 rfl (lv_at hl 0 rfl) ?_
  refine lv_iload_n hx hb dL_share_3 rfl (lv_at hl 1 rfl) ?_
  refine lv_iload_n hx hb dL_share_4 rfl (lv_at hl 2 rfl) ?_
  refine k_calll (wc := [(h0, .inr (3, [.ref xM, .ref xP, .ref xG, .ref xO, .int (nI (cnt)), .int (nI (te)), .int (nI (tr))]))]) (wr := [(xU, .inl (cL, 1, .inr (.inl g9)))]) (W1 := fun _ => [(h0, .inr (3, [.ref xM, .ref xP, .ref xG, .ref xO, .int (nI (cnt)), .int (nI (te)), .int (nI (tr))])), (xU, .inl (cL, 1, .inr (.inl g9)))]) hP hD hS hA [0] [1] [1, 0] rfl rfl (by decide) (by decide) (fun _ => rfl) (by decide) (va_runV (As := [.int a9, .int b9]) (rest := [.int (nI 0), .ref xU]) ⟨hx, hb, hml, hown, hts⟩ (c_sh_1 l D cI cL cM s.heap.size h0 xM xP xG xO cnt te tr a9 b9 hz) (cwV 2 hts gL_share_X3_share rfl rfl rfl (by decide +kernel) ⟨Nat.le_of_ble_eq_true rfl, Nat.le_of_ble_eq_true rfl⟩) (k_preV hP hD hK [0] rfl (by decide) 0 rfl rfl rfl) rfl rfl hl.1 rfl (lv_room (Nat.le_of_ble_eq_true rfl)) dL_share_5 ⟨Nat.le_of_ble_eq_true rfl, Nat.le_of_ble_eq_true rfl⟩) (fun r_1 _ H locs hw hP hD hS => ?_)
  obtain rfl : r_1 = a9.toInt64 * lN 1000000 / b9.toInt64 := hw
  refine n_last (f' := fun j => if j = 0 then a9.toInt64 * lN 1000000 / b9.toInt64 else g9 j) (ws' := [(h0, .inr (3, [.ref xM, .ref xP, .ref xG, .ref xO, .int (nI (cnt)), .int (nI (te)), .int (nI (tr))])), (xU, .inl (cL, 1, .inr (.inl (fun j => if j = 0 then a9.toInt64 * lN 1000000 / b9.toInt64 else g9 j))))]) hx hb hK hP hD hS 1 1 rfl rfl (by omega) (by omega) (fun j _ => rfl) rfl dL_share_8 (fun H locs hP hD hS => ?_)
  refine lv_goto (tgt := 16) hx hb dL_share_9 (by decide) ?_
  refine lv_iconst (v := nI 0) hx hb dL_share_16 (by decide) ?_
  exact k_iret (v := nI 0) hx hb hr hlocks hP hD hK hS [0, 1] () rfl (by decide) rfl dL_share_17

