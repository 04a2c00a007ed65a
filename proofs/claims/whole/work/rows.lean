section
-- ===== PART A: goes FIRST, ahead of the names: the tables' words, and 'selects' of the private methods out of them =====
/-- a private method of a class that the tables say can be made, by its rows of tables_1 -/
def lw_okq (q : MethodName × Nat) : Prop := (q.1.cls ≠ "java/lang/invoke/MethodHandle" ∧ q.1.cls ≠ "java/lang/invoke/VarHandle") ∧ Cond.instantiable q.1.cls q.2 ∈ tables_1 ∧ Cond.privateMethod q.1 ∈ tables_1 ∧ Cond.instanceMethod q.1 ∈ tables_1
theorem lw_p0 : lw_okq (⟨"BulkSamples", "find", "(I)LBulkSamples$Mailing;"⟩, 7) := ⟨⟨by decide +kernel, by decide +kernel⟩, List.mem_of_getElem? (i := 12) (by decide +kernel), List.mem_of_getElem? (i := 102) (by decide +kernel), List.mem_of_getElem? (i := 103) (by decide +kernel)⟩
theorem lw_p1 : lw_okq (⟨"BulkSamples", "judge", "(LBulkSamples$Mailing;)I"⟩, 7) := ⟨⟨by decide +kernel, by decide +kernel⟩, List.mem_of_getElem? (i := 12) (by decide +kernel), List.mem_of_getElem? (i := 132) (by decide +kernel), List.mem_of_getElem? (i := 133) (by decide +kernel)⟩
theorem lw_p2 : lw_okq (⟨"BulkSamples$Odds", "takeAll", "()I"⟩, 3) := ⟨⟨by decide +kernel, by decide +kernel⟩, List.mem_of_getElem? (i := 22) (by decide +kernel), List.mem_of_getElem? (i := 187) (by decide +kernel), List.mem_of_getElem? (i := 188) (by decide +kernel)⟩
theorem lw_p3 : lw_okq (⟨"java/lang/Throwable", "fillInStackTrace", "(I)Ljava/lang/Throwable;"⟩, 6) := ⟨⟨by decide +kernel, by decide +kernel⟩, List.mem_of_getElem? (i := 263) (by decide +kernel), List.mem_of_getElem? (i := 261) (by decide +kernel), List.mem_of_getElem? (i := 262) (by decide +kernel)⟩
theorem lw_p4 : lw_okq (⟨"BulkSamplesModel", "isMailing", "(I)Z"⟩, 15) := ⟨⟨by decide +kernel, by decide +kernel⟩, List.mem_of_getElem? (i := 294) (by decide +kernel), List.mem_of_getElem? (i := 358) (by decide +kernel), List.mem_of_getElem? (i := 359) (by decide +kernel)⟩
theorem lw_p5 : lw_okq (⟨"BulkSamplesModel", "declared", "(I)I"⟩, 15) := ⟨⟨by decide +kernel, by decide +kernel⟩, List.mem_of_getElem? (i := 294) (by decide +kernel), List.mem_of_getElem? (i := 362) (by decide +kernel), List.mem_of_getElem? (i := 363) (by decide +kernel)⟩
theorem lw_p6 : lw_okq (⟨"BulkSamplesModel", "wrongOf", "(I)I"⟩, 15) := ⟨⟨by decide +kernel, by decide +kernel⟩, List.mem_of_getElem? (i := 294) (by decide +kernel), List.mem_of_getElem? (i := 378) (by decide +kernel), List.mem_of_getElem? (i := 379) (by decide +kernel)⟩
theorem lw_p7 : lw_okq (⟨"BulkSamplesModel", "count", "(IIIII)V"⟩, 15) := ⟨⟨by decide +kernel, by decide +kernel⟩, List.mem_of_getElem? (i := 294) (by decide +kernel), List.mem_of_getElem? (i := 387) (by decide +kernel), List.mem_of_getElem? (i := 388) (by decide +kernel)⟩
theorem lw_p8 : lw_okq (⟨"BulkSamplesModel", "step", "(IJJ)V"⟩, 15) := ⟨⟨by decide +kernel, by decide +kernel⟩, List.mem_of_getElem? (i := 294) (by decide +kernel), List.mem_of_getElem? (i := 394) (by decide +kernel), List.mem_of_getElem? (i := 395) (by decide +kernel)⟩
theorem lw_p9 : lw_okq (⟨"BulkSamplesModel", "addRow", "(I)V"⟩, 15) := ⟨⟨by decide +kernel, by decide +kernel⟩, List.mem_of_getElem? (i := 294) (by decide +kernel), List.mem_of_getElem? (i := 402) (by decide +kernel), List.mem_of_getElem? (i := 403) (by decide +kernel)⟩
theorem lw_p10 : lw_okq (⟨"BulkSamplesModel", "judge", "(I)I"⟩, 15) := ⟨⟨by decide +kernel, by decide +kernel⟩, List.mem_of_getElem? (i := 294) (by decide +kernel), List.mem_of_getElem? (i := 420) (by decide +kernel), List.mem_of_getElem? (i := 421) (by decide +kernel)⟩
theorem lw_p11 : lw_okq (⟨"BulkSamplesModel", "isAtMost", "(I)Z"⟩, 15) := ⟨⟨by decide +kernel, by decide +kernel⟩, List.mem_of_getElem? (i := 294) (by decide +kernel), List.mem_of_getElem? (i := 424) (by decide +kernel), List.mem_of_getElem? (i := 425) (by decide +kernel)⟩
def lw_privs_1 : List (MethodName × Nat) := [(⟨"BulkSamples", "find", "(I)LBulkSamples$Mailing;"⟩, 7), (⟨"BulkSamples", "judge", "(LBulkSamples$Mailing;)I"⟩, 7), (⟨"BulkSamples$Odds", "takeAll", "()I"⟩, 3), (⟨"java/lang/Throwable", "fillInStackTrace", "(I)Ljava/lang/Throwable;"⟩, 6), (⟨"BulkSamplesModel", "isMailing", "(I)Z"⟩, 15), (⟨"BulkSamplesModel", "declared", "(I)I"⟩, 15), (⟨"BulkSamplesModel", "wrongOf", "(I)I"⟩, 15), (⟨"BulkSamplesModel", "count", "(IIIII)V"⟩, 15), (⟨"BulkSamplesModel", "step", "(IJJ)V"⟩, 15), (⟨"BulkSamplesModel", "addRow", "(I)V"⟩, 15), (⟨"BulkSamplesModel", "judge", "(I)I"⟩, 15), (⟨"BulkSamplesModel", "isAtMost", "(I)Z"⟩, 15)]
theorem lw_r1 : ∀ q ∈ lw_privs_1, lw_okq q := List.forall_mem_cons.mpr ⟨lw_p0, List.forall_mem_cons.mpr ⟨lw_p1, List.forall_mem_cons.mpr ⟨lw_p2, List.forall_mem_cons.mpr ⟨lw_p3, List.forall_mem_cons.mpr ⟨lw_p4, List.forall_mem_cons.mpr ⟨lw_p5, List.forall_mem_cons.mpr ⟨lw_p6, List.forall_mem_cons.mpr ⟨lw_p7, List.forall_mem_cons.mpr ⟨lw_p8, List.forall_mem_cons.mpr ⟨lw_p9, List.forall_mem_cons.mpr ⟨lw_p10, List.forall_mem_cons.mpr ⟨lw_p11, fun _ h => absurd h List.not_mem_nil⟩⟩⟩⟩⟩⟩⟩⟩⟩⟩⟩⟩
def lw_privs : List (MethodName × Nat) := lw_privs_1
def lw_tbl : List Cond := k2_sels lw_privs ++ tables_1
theorem lw_privs_ok : ∀ q ∈ lw_privs, lw_okq q := lw_r1
/-- the streams that the claim lets the run draw from -/
abbrev lw_cs : List Choice := [Jvm.Choice.named "NaN.bits"]
theorem lw_bits : nanBits ∈ lw_cs := by first | decide | exact List.mem_cons_self | simp [lw_cs, nanBits]
-- ===== end of PART A; then your names; then what follows =====
end
section
/-! ===== BEGIN words of one list among another's, by their places ===== -/
theorem goodIn_r {big : List Cond} (ws : List Cond) (ps : List Nat) (hp : ws = ps.filterMap (fun i => big[i]?)) (h : ws.all goodWord = true) : GoodIn big ws := by
  intro w hw
  have h1 := List.all_eq_true.mp h w hw
  rw [hp] at hw
  obtain ⟨i, -, hi⟩ := List.mem_filterMap.mp hw
  have hm : w ∈ big := by first | exact List.mem_of_getElem? hi | exact List.getElem?_mem hi
  exact ⟨hm, good_of_word h1⟩
theorem goodIn_app {big a b : List Cond} (ha : GoodIn big a) (hb : GoodIn big b) : GoodIn big (a ++ b) := fun w h => (List.mem_append.mp h).elim (ha w) (hb w)
theorem goodIn_ca {big a b : List Cond} {c : Cond} (ha : GoodIn big (c :: a)) (hb : GoodIn big b) : GoodIn big (c :: (a ++ b)) := fun w h => (List.mem_cons.mp h).elim (fun e => ha w (List.mem_cons.mpr (Or.inl e))) (fun h => (List.mem_append.mp h).elim (fun h => ha w (List.mem_cons.mpr (Or.inr h))) (hb w))
theorem goodIn_sub {big ws : List Cond} (hm : ∀ w ∈ ws, w ∈ big) (h : ws.all goodWord = true) : GoodIn big ws := fun w hw => ⟨hm w hw, good_of_word (List.all_eq_true.mp h w hw)⟩
/-! ===== END ===== -/

/-! ===== BEGIN exceptions that leave a method, and their catching by the caller (launches without stack traces) ===== -/
section VXA
/-! The laws vx_back, vx_callV, vx_callS, vx_callSW, vx_throw0, vx_throwS follow proofs of the library, with one case more: JvmDerived/Free/Laws.lean (Back.of_free), Shelf42/LK1.lean (callV, callS), Shelf/KitTraced.lean (throwNew0V, throwNewS). -/
/-- where a method has thrown q: the class by its name, the cell, what was written, the world -/
def vx_T (XC : String → State → State → Prop) (st : State) (q : Addr) (t : State) (mc ms : Nat) (free : Addr → Prop) : Prop :=
  ∃ (E : String) (ce : Cell) (L : List Loc), XC E st t ∧ t.heap[q]? = some ce ∧ ce.vm = .none ∧ st.vm.findClass E = some ce.cls ∧ st.WarmedH t.vm ∧ st.sameButNew ({ t with vm := st.vm } : State) L mc ms ∧ ∀ z ∈ L, free z.base
def vx_Q (Qc : Array Value → State → Outcome → State → Prop) (XC : String → State → State → Prop) (mc ms : Nat) (free : Addr → Prop) : Array Value → State → Outcome → State → Prop := fun a st o t =>
  (Qc a st o t ∧ ∃ L, FrameEnd st o t L mc ms ∧ ∀ q ∈ L, free q.base) ∨ ∃ q, o = .threw q ∧ vx_T XC st q t mc ms free
/-- a callee that returns or throws -/
def vx_Met (l : Launch) (y : MethodName) (ws : List Cond) (rm : Room) (Pc : Array Value → State → Prop) (Qc : Array Value → State → Outcome → State → Prop) (XC : String → State → State → Prop) (mc ms : Nat) (free : Addr → Prop) : Prop :=
  MetFree l y (headSpec ws rm) Pc (fun _ _ _ _ _ => True) (vx_Q Qc XC mc ms free)
def vx_Post (XC : String → State → State → Prop) (mc ms : Nat) (free : Addr → Prop) : Pt → Array Value → Addr → Pt → Prop := fun A a q B =>
  ∃ (g : JFrame) (mk : MethodId) (t : State) (L : List Loc) (E : String) (ce : Cell), B.U.heap = t.heap ∧ B.U.vm = t.vm ∧ XC E (A.U.calling g mk a) t ∧ t.heap[q]? = some ce ∧ ce.vm = .none ∧ A.U.vm.findClass E = some ce.cls ∧ B.locs = A.locs ++ L ∧ (∀ z ∈ L, free z.base) ∧ B.cells = A.cells + mc ∧ B.slots = A.slots + ms
def vx_Back (l : Launch) (R : Room) (p : Program) (e : Env) (below : List Frame) (s : State) (sargs : Array Value) (y : MethodName) (len W9 : Nat)
    (Pre : Pt → Array Value → Prop) (Post : Pt → Array Value → Option Value → Pt → Prop) (PostX : Pt → Array Value → Addr → Pt → Prop) : Prop :=
  ∀ (m : MethodId) (meth : Method) (c : Code) (A : Pt) (g : JFrame) (ig : Instr) (mk : MethodId) (a : Array Value),
    Stand p l e R s m sargs below meth c A.U A.locs A.cells A.slots → g.method = m → g.locals.size = c.maxLocals → decode c.code g.pc = .ok (ig, len) →
    2 * g.monitorRoom + (g.stack.map fun v => v.category).sum ≤ W9 → A.U.methodNamed? y = some mk → Pre A a →
    (∃ (v : Option Value) (B : Pt), Stand p l e R s m sargs below meth c B.U B.locs B.cells B.slots ∧ Post A a v B ∧
      Steps p.tables e below (doInvoke e (A.U.setTop g) [] mk a).1 (B.U.setTop { g with pc := g.pc + len, stack := v.toList ++ g.stack })) ∨
    (∃ (q : Addr) (B : Pt), Stand p l e R s m sargs below meth c B.U B.locs B.cells B.slots ∧ PostX A a q B ∧
      Steps p.tables e below (doInvoke e (A.U.setTop g) [] mk a).1 ((B.U.setTop g).pushFrame (.throwing q)))
section Payer
variable {l : Launch} {R : Room} {p : Program} {e : Env} {below : List Frame} {s : State} {sargs : Array Value} {y : MethodName} {len W9 : Nat}
theorem vx_back {ws : List Cond} {rm : Room} {Pc : Array Value → State → Prop} {Qc : Array Value → State → Outcome → State → Prop} {XC : String → State → State → Prop} {mc ms : Nat} {free : Addr → Prop} {bytes : ByteArray} {maxL : Nat} {ret : Option FieldType}
    (hM : vx_Met l y ws rm Pc Qc XC mc ms free) (hblind : FrameBlind Pc) (hrc : rm.cells = mc) (hrs : rm.slots = ms)
    (hframes : rm.frames + 1 ≤ R.frames) (hlocals : W9 + (maxL + 11) + rm.locals ≤ R.locals)
    (hws : ∀ w ∈ ws, ∀ a' U, s.WarmedH U.vm → w.before a' U = true) (hcode : Cond.code y bytes maxL ret ∈ ws) (hinit : ∀ a' U, s.WarmedH U.vm → (Cond.initialized y.cls).before a' U = true) :
    vx_Back l R p e below s sargs y len W9 (PreOf R mc ms Pc) (PostOf Qc mc ms free) (vx_Post XC mc ms free) := by
  intro m meth c A g ig mk a X hg hsize hdg hW hn hp
  have h1 : (headSpec ws rm).pre.before a A.U = true := atoms_intro fun w hw => hws w hw _ _ X.warmed
  have h2 : (Cond.code y bytes maxL ret).before a A.U = true := hws _ hcode _ _ X.warmed
  have h3 : (Cond.initialized y.cls).before a A.U = true := hinit _ _ X.warmed
  have h4 : A.cells + (headSpec ws rm).room.cells ≤ R.cells := by rw [show (headSpec ws rm).room.cells = mc from hrc]; exact hp.1
  have h5 : A.slots + (headSpec ws rm).room.slots ≤ R.slots := by rw [show (headSpec ws rm).room.slots = ms from hrs]; exact hp.2.1
  have hPc : Pc a (A.U.calling g mk a) := hblind _ _ _ _ hp.2.2
  obtain ⟨U, Ls, c0, s0⟩ := A
  dsimp only [Pt.U, Pt.locs, Pt.cells, Pt.slots] at h1 h2 h3 h4 h5 X hn hPc ⊢
  obtain ⟨methY, cY, hmY, hcY, -, hlY, -, -, -, -⟩ := Cond.code_spec hn h2
  obtain ⟨kY, hkY, -⟩ := className_of_methodNamed hn
  have hinitY : kY.init = .initialized := Cond.initialized_spec (findClass_of_methodNamed hn) hkY h3
  have h : At U g.method c below := by rw [hg]; exact X.here
  have hlocals9 : W9 + (maxL + 11) + (headSpec ws rm).room.locals ≤ R.locals := hlocals
  have happ : (headSpec ws rm).appliesLoose y e.platform (U.calling g mk a) = true :=
    Spec.appliesLoose_calling (g := g) h hdg hn hkY hinitY
      (X.room_calling (g := g) (R' := (headSpec ws rm).room) hsize hmY hcY hframes (by rw [hlY]; omega) h4 h5) h1
  obtain ⟨mid, hmid⟩ := h.above
  have hfr : (U.setTop g).frames = (.java g :: mid) ++ below := by rw [State.frames_setTop' g h.top, hmid]; rfl
  obtain ⟨o, s₂, hsteps, -, hend, hq⟩ := Steps.callFree hM p X.admits X.cas X.clock (acts := []) hfr happ hPc trivial
  have hq' : vx_Q Qc XC mc ms free a (U.calling g mk a) o s₂ := hq
  rw [State.frames_setTop' g h.top] at hend
  obtain ⟨g₀, hg0⟩ := Option.isSome_iff_exists.mp h.top
  obtain ⟨r, hr⟩ := State.topJava?_eq_some.mp hg0
  have hr' : (({ U with heap := s₂.heap, slotsUsed := s₂.slotsUsed } : State).setVm s₂.vm).frames = .java g₀ :: r := hr
  rcases hq' with ⟨hqc, L, hfe, hL⟩ | ⟨q, rfl, E, ce, L, hx, hce, hcv, hcl, hW₂, hsm, hL⟩
  · obtain ⟨⟨v, rfl⟩, hW₂, e2, q2, q3, q4, q5, q6⟩ := id hfe
    have e3 : s₂ = ({ (U.calling g mk a).setFrames s₂.frames with heap := s₂.heap, slotsUsed := s₂.slotsUsed } : State).setVm s₂.vm := by
      have : s₂ = ({ s₂ with vm := (U.calling g mk a).vm } : State).setVm s₂.vm := rfl
      rw [e2] at this
      exact this
    obtain ⟨c₂, i₂, len₂, hc₂, hd₂, hf₂⟩ := hend
    have hW' : U.WarmedH s₂.vm := hW₂
    have hcc : c₂ = c := by
      have h1 : s₂.code? g.method = U.code? g.method := by
        rw [State.code?_eq, State.code?_eq, hW'.alike.method?]
      exact Option.some.inj (hc₂.symm.trans (h1.trans h.code))
    subst hcc
    have hlen : len₂ = len := by rw [hdg] at hd₂; cases hd₂; rfl
    subst hlen
    have hs₂ : s₂ = (({ U with heap := s₂.heap, slotsUsed := s₂.slotsUsed } : State).setVm s₂.vm).setTop { g with pc := g.pc + len₂, stack := v.toList ++ g.stack } := by
      refine e3.trans ?_
      rw [hf₂, State.calling_eq h.top, State.setFrames_setFrames, State.setTop_of_frames _ hr', hr]
      rfl
    have hsame : U.sameButNew ({ U with heap := s₂.heap, slotsUsed := s₂.slotsUsed } : State) L mc ms := by
      refine ⟨?_, q2, q3, q4, q5, q6⟩
      obtain ⟨t, ht, -⟩ := State.frames_cons hr
      show ({ U with heap := s₂.heap, slotsUsed := s₂.slotsUsed } : State) = { U.setFrames U.frames with heap := s₂.heap, slotsUsed := s₂.slotsUsed }
      rw [State.setFrames_self ht]
    subst hg
    refine Or.inl ⟨v, ⟨(({ U with heap := s₂.heap, slotsUsed := s₂.slotsUsed } : State).setVm s₂.vm), Ls ++ L, c0 + mc, s0 + ms⟩,
      ⟨X.admits, X.cas, X.clock, X.frames, X.room, X.hears, X.method, X.code, (X.here.setHeapUsed s₂.heap s₂.slotsUsed).setVm hW'.alike, X.tail, State.WarmedH.trans X.warmed hW', X.limits, X.bytes, X.same.trans (hsame.setVm s.vm)⟩,
      ⟨g, mk, s₂, L, rfl, rfl, hqc, rfl, hL, rfl, rfl⟩, ?_⟩
    show Steps p.tables e below _ ((({ U with heap := s₂.heap, slotsUsed := s₂.slotsUsed } : State).setVm s₂.vm).setTop { g with pc := g.pc + len₂, stack := v.toList ++ g.stack })
    rw [← hs₂]
    exact hsteps
  · obtain ⟨e2, q2, q3, q4, q5, q6⟩ := id hsm
    have e3 : s₂ = ({ (U.calling g mk a).setFrames s₂.frames with heap := s₂.heap, slotsUsed := s₂.slotsUsed } : State).setVm s₂.vm := by
      have : s₂ = ({ s₂ with vm := (U.calling g mk a).vm } : State).setVm s₂.vm := rfl
      rw [e2] at this
      exact this
    have hf₂ : s₂.frames = .throwing q :: .java g :: U.frames.tail := hend
    have hW' : U.WarmedH s₂.vm := hW₂
    have hs₂ : s₂ = ((({ U with heap := s₂.heap, slotsUsed := s₂.slotsUsed } : State).setVm s₂.vm).setTop g).pushFrame (.throwing q) := by
      refine e3.trans ?_
      rw [hf₂, State.calling_eq h.top, State.setFrames_setFrames, State.pushFrame, State.frames_setTop _ hr', State.setTop_of_frames _ hr', State.setFrames_setFrames, hr]
      rfl
    have hsame : U.sameButNew ({ U with heap := s₂.heap, slotsUsed := s₂.slotsUsed } : State) L mc ms := by
      refine ⟨?_, q2, q3, q4, q5, q6⟩
      obtain ⟨t, ht, -⟩ := State.frames_cons hr
      show ({ U with heap := s₂.heap, slotsUsed := s₂.slotsUsed } : State) = { U.setFrames U.frames with heap := s₂.heap, slotsUsed := s₂.slotsUsed }
      rw [State.setFrames_self ht]
    subst hg
    refine Or.inr ⟨q, ⟨(({ U with heap := s₂.heap, slotsUsed := s₂.slotsUsed } : State).setVm s₂.vm), Ls ++ L, c0 + mc, s0 + ms⟩,
      ⟨X.admits, X.cas, X.clock, X.frames, X.room, X.hears, X.method, X.code, (X.here.setHeapUsed s₂.heap s₂.slotsUsed).setVm hW'.alike, X.tail, State.WarmedH.trans X.warmed hW', X.limits, X.bytes, X.same.trans (hsame.setVm s.vm)⟩,
      ⟨g, mk, s₂, L, E, ce, rfl, rfl, hx, hce, hcv, hcl, rfl, hL, rfl, rfl⟩, ?_⟩
    show Steps p.tables e below _ (((({ U with heap := s₂.heap, slotsUsed := s₂.slotsUsed } : State).setVm s₂.vm).setTop g).pushFrame (.throwing q))
    rw [← hs₂]
    exact hsteps
end Payer
section Calls
variable {p : Program} {l : Launch} {e : Env} {R : Room} {s : State} {m : MethodId} {args : Array Value} {below : List Frame} {meth : Method} {c : Code} {T : State} {locs : List Loc} {cells slots : Nat}
theorem vx_callV (X : Stand p l e R s m args below meth c T locs cells slots) (hexec : p.tables.exec = Jvm.exec) {own C : String} {index : Nat} {y : MethodName} {bytes : ByteArray} {maxL : Nat} {ret : Option FieldType}
    (hown : s.vm.findClass own = some m.cls) (hlink : (Cond.methodLink own index y).before args s = true) (hinst : (Cond.instanceMethod y).before args s = true) (hsel : (Cond.selects C y y).before args s = true)
    (hcode : (Cond.code y bytes maxL ret).before args s = true) (hy : y.cls ≠ "java/lang/invoke/MethodHandle" ∧ y.cls ≠ "java/lang/invoke/VarHandle")
    {W9 : Nat} {Pre : Pt → Array Value → Prop} {Post : Pt → Array Value → Option Value → Pt → Prop} {PostX : Pt → Array Value → Addr → Pt → Prop} (hK : vx_Back l R p e below s args y 3 W9 Pre Post PostX)
    {b : Addr} {cellB : Cell} (hcell : T.heap[b]? = some cellB) (hobj : cellB.vm.isStatics = false) (hcls : s.vm.findClass C = some cellB.cls)
    {g : JFrame} (hg : g.method = m) (hsize : g.locals.size = c.maxLocals) {argsL rest : List Value} (hlen : ∀ sig, parseMethodDescriptor y.desc = some sig → argsL.length = sig.parameters.length)
    (hstack : g.stack = argsL.reverse ++ .ref b :: rest) (hW : 2 * g.monitorRoom + (rest.map fun v => v.category).sum ≤ W9) (hdg : decode c.code g.pc = .ok (.invokevirtual index, 3))
    (hpre : ∀ vm₁, s.WarmedH vm₁ → Pre ⟨T.setVm vm₁, locs, cells, slots⟩ (Value.ref b :: argsL).toArray) :
    (∃ (v : Option Value) (vm₁ : Vm) (B : Pt), s.WarmedH vm₁ ∧ Stand p l e R s m args below meth c B.U B.locs B.cells B.slots ∧ Post ⟨T.setVm vm₁, locs, cells, slots⟩ (Value.ref b :: argsL).toArray v B ∧
      ∀ target, Steps p.tables e below (B.U.setTop { g with pc := g.pc + 3, stack := v.toList ++ rest }) target → Steps p.tables e below (T.setTop g) target) ∨
    (∃ (q : Addr) (vm₁ : Vm) (B : Pt), s.WarmedH vm₁ ∧ Stand p l e R s m args below meth c B.U B.locs B.cells B.slots ∧ PostX ⟨T.setVm vm₁, locs, cells, slots⟩ (Value.ref b :: argsL).toArray q B ∧
      Steps p.tables e below (T.setTop g) ((B.U.setTop { g with stack := rest }).pushFrame (.throwing q))) := by
  obtain ⟨mk, methM, hnamed, hmethM, hstM, habM⟩ := Cond.instanceMethod_spec hinst
  obtain ⟨methM', cM, hmethM', -, -, -, -, -, -, hsigM⟩ := Cond.code_spec hnamed hcode
  cases hmethM.symm.trans hmethM'
  obtain ⟨c2, r2, m2, q1, q2, q3, q4, kP, hkP, hkPi⟩ := Cond.selects_spec hsel
  cases hcls.symm.trans q1
  cases (State.methodFound?_of_named hnamed hy).symm.trans q2
  cases hnamed.symm.trans q3
  have hselP : selectMethod e.platform s.vm cellB.cls mk = .method mk := by rw [Launch.admits_selectMethod X.admits]; exact q4
  obtain ⟨vm₁, X₁, hstep₁⟩ := X.invokevirtual hexec hown hlink hnamed hmethM hstM hkP hkPi hy (a := b) (cell := cellB) hcell
    (fun z h => by rw [h] at hobj; cases hobj) hselP hmethM habM hkP hkPi (g := g) hg (argsL := argsL) (rest := rest) (hlen _ hsigM) hstack hdg
  rcases hK m meth c ⟨T.setVm vm₁, locs, cells, slots⟩ { g with stack := rest } (.invokevirtual index) mk (Value.ref b :: argsL).toArray X₁ hg hsize hdg hW (X₁.named hnamed) (hpre vm₁ X₁.warmed) with ⟨v, B, X', hpost, hsteps⟩ | ⟨q, B, X', hpost, hsteps⟩
  · exact Or.inl ⟨v, vm₁, B, X₁.warmed, X', hpost, fun target h => hstep₁ _ fun acts => by rw [doInvoke_state]; exact hsteps.trans h⟩
  · exact Or.inr ⟨q, vm₁, B, X₁.warmed, X', hpost, hstep₁ _ fun acts => by rw [doInvoke_state]; exact hsteps⟩
theorem vx_callS (X : Stand p l e R s m args below meth c T locs cells slots) (hexec : p.tables.exec = Jvm.exec) {own : String} {index : Nat} {y : MethodName} {bytes : ByteArray} {maxL : Nat} {ret : Option FieldType}
    (hown : s.vm.findClass own = some m.cls) (hlink : (Cond.methodLink own index y).before args s = true) (hstat : (Cond.static y).before args s = true) (hinit : (Cond.initialized y.cls).before args s = true)
    (hcode : (Cond.code y bytes maxL ret).before args s = true) (hy : y.cls ≠ "java/lang/invoke/MethodHandle" ∧ y.cls ≠ "java/lang/invoke/VarHandle")
    {W9 : Nat} {Pre : Pt → Array Value → Prop} {Post : Pt → Array Value → Option Value → Pt → Prop} {PostX : Pt → Array Value → Addr → Pt → Prop} (hK : vx_Back l R p e below s args y 3 W9 Pre Post PostX)
    {g : JFrame} (hg : g.method = m) (hsize : g.locals.size = c.maxLocals) {argsL rest : List Value} (hlen : ∀ sig, parseMethodDescriptor y.desc = some sig → argsL.length = sig.parameters.length)
    (hstack : g.stack = argsL.reverse ++ rest) (hW : 2 * g.monitorRoom + (rest.map fun v => v.category).sum ≤ W9) (hdg : decode c.code g.pc = .ok (.invokestatic index, 3))
    (hpre : ∀ vm₁, s.WarmedH vm₁ → Pre ⟨T.setVm vm₁, locs, cells, slots⟩ argsL.toArray) :
    (∃ (v : Option Value) (vm₁ : Vm) (B : Pt), s.WarmedH vm₁ ∧ Stand p l e R s m args below meth c B.U B.locs B.cells B.slots ∧ Post ⟨T.setVm vm₁, locs, cells, slots⟩ argsL.toArray v B ∧
      ∀ target, Steps p.tables e below (B.U.setTop { g with pc := g.pc + 3, stack := v.toList ++ rest }) target → Steps p.tables e below (T.setTop g) target) ∨
    (∃ (q : Addr) (vm₁ : Vm) (B : Pt), s.WarmedH vm₁ ∧ Stand p l e R s m args below meth c B.U B.locs B.cells B.slots ∧ PostX ⟨T.setVm vm₁, locs, cells, slots⟩ argsL.toArray q B ∧
      Steps p.tables e below (T.setTop g) ((B.U.setTop { g with stack := rest }).pushFrame (.throwing q))) := by
  obtain ⟨mk, hnamed⟩ := Cond.code_named hcode
  obtain ⟨methM, cM, hmethM, -, -, -, -, -, -, hsigM⟩ := Cond.code_spec hnamed hcode
  have hstatic : methM.isStatic = true := Cond.static_spec hnamed hmethM hstat
  obtain ⟨kP, hkP, -⟩ := className_of_methodNamed hnamed
  have hinitP : kP.init = .initialized := Cond.initialized_spec (findClass_of_methodNamed hnamed) hkP hinit
  obtain ⟨vm₁, X₁, hstep₁⟩ := X.invokestatic hexec hown hlink hnamed hmethM hstatic hkP hinitP hy (g := g) hg (argsL := argsL) (rest := rest) (hlen _ hsigM) hstack hdg
  rcases hK m meth c ⟨T.setVm vm₁, locs, cells, slots⟩ { g with stack := rest } (.invokestatic index) mk argsL.toArray X₁ hg hsize hdg hW (X₁.named hnamed) (hpre vm₁ X₁.warmed) with ⟨v, B, X', hpost, hsteps⟩ | ⟨q, B, X', hpost, hsteps⟩
  · exact Or.inl ⟨v, vm₁, B, X₁.warmed, X', hpost, fun target h => hstep₁ _ fun acts => by rw [doInvoke_state]; exact hsteps.trans h⟩
  · exact Or.inr ⟨q, vm₁, B, X₁.warmed, X', hpost, hstep₁ _ fun acts => by rw [doInvoke_state]; exact hsteps⟩
end Calls
theorem vx_cls {s : State} {T : State} {vm₁ : Vm} {E : String} {k : ClassId} (hW : s.WarmedH vm₁) (h : (T.setVm vm₁).vm.findClass E = some k) : s.vm.findClass E = some k := by
  have h1 : vm₁.findClass E = some k := h
  rw [hW.alike.findClass] at h1
  exact h1
/-- the method's frame g, with q thrown over it -/
def vx_W (p : Program) (l : Launch) (e : Env) (R : Room) (s : State) (m : MethodId) (args : Array Value) (below : List Frame) (meth : Method) (c : Code) (H : Heap) (locs : List Loc) (cells slots : Nat) (Q : State → Prop) (g : JFrame) (q : Addr) : Prop :=
  ∀ T : State, T.heap = H → Stand p l e R s m args below meth c T locs cells slots → ∃ t, Steps p.tables e below ((T.setTop g).pushFrame (.throwing q)) t ∧ Q t
def vx_Run (p : Program) (l : Launch) (e : Env) (R : Room) (s : State) (m : MethodId) (args : Array Value) (below : List Frame) (meth : Method) (c : Code) (H : Heap) (locs : List Loc) (cells slots mc ms : Nat) (g : JFrame) (rest : List Value) (Qa : State → Outcome → State → Prop) (XC : String → State → State → Prop) (free : Addr → Prop) : Prop :=
  ∀ T : State, T.heap = H → Stand p l e R s m args below meth c T locs cells slots →
    (∃ (v : Option Value) (st₀ t T' : State) (L : List Loc), st₀.heap = H ∧ Stand p l e R s m args below meth c T' (locs ++ L) (cells + mc) (slots + ms) ∧ (∀ q ∈ L, free q.base) ∧ T'.heap = t.heap ∧ T'.vm = t.vm ∧ Qa st₀ (.returned v) t ∧
      Goes p e below T g T' { g with pc := g.pc + 3, stack := v.toList ++ rest }) ∨
    (∃ (q : Addr) (st₀ t T' : State) (L : List Loc) (E : String) (ce : Cell), st₀.heap = H ∧ Stand p l e R s m args below meth c T' (locs ++ L) (cells + mc) (slots + ms) ∧ (∀ z ∈ L, free z.base) ∧ T'.heap = t.heap ∧ T'.vm = t.vm ∧ XC E st₀ t ∧ t.heap[q]? = some ce ∧ ce.vm = .none ∧ s.vm.findClass E = some ce.cls ∧
      Steps p.tables e below (T.setTop g) ((T'.setTop { g with stack := rest }).pushFrame (.throwing q)))
def vx_X {S : Type} (px : S → Prop) (B : String → S → State → Prop) (A : Nat → Prop) : String → State → State → Prop := fun E st t => ∃ u : S, px u ∧ B E u t ∧ va_F A st t
section Runs
variable {p : Program} {l : Launch} {e : Env} {R : Room} {s : State} {m : MethodId} {args : Array Value} {below : List Frame} {meth : Method} {c : Code} {H : Heap} {locs : List Loc} {cells slots : Nat}
variable {y : MethodName} {bytes cc : ByteArray} {maxL nL mc ms n index : Nat} {ret : Option FieldType} {ws : List Cond} {rm : Room} {Pc : Array Value → State → Prop} {Qc : Array Value → State → Outcome → State → Prop} {XC : String → State → State → Prop} {free : Addr → Prop} {Ts : List Cond} {own C : String} {b : Addr} {As rest : List Value} {g : JFrame}
theorem vx_callBack (cb : CallB R s args own index y bytes maxL ret ws rm mc ms n) (hM : vx_Met l y ws rm Pc Qc XC mc ms free) (hbl : FrameBlind Pc) : vx_Back l R p e below s args y 3 8 (PreOf R mc ms Pc) (PostOf Qc mc ms free) (vx_Post XC mc ms free) := by
  obtain ⟨hrc, hrs, hfr, hlo, hws, hcw, -, hini, -⟩ := cb
  exact vx_back (bytes := bytes) (maxL := maxL) (ret := ret) hM hbl hrc hrs hfr hlo hws hcw (fun a' U hW => word_at hW (Or.inl (by first | rfl | simp [Cond.onTables, Cond.keeps, Cond.steady])) hini)
theorem vx_runV (S : CallFix p m c cc nL s args Ts own) (hM : vx_Met l y ws rm Pc Qc XC mc ms free) (cw : CallW R s args own C index y bytes maxL ret ws rm mc ms n) (hp : PreV s H C b Pc As)
    (hg : g.method = m) (hn : As.length = n) (hsize : g.locals.size = nL) (hstack : g.stack = As.reverse ++ .ref b :: rest) (hW : 2 * g.monitorRoom + (rest.map fun v => v.category).sum ≤ 8) (hdg : decode cc g.pc = .ok (.invokevirtual index, 3)) (hf : cells + mc ≤ R.cells ∧ slots + ms ≤ R.slots) :
    vx_Run p l e R s m args below meth c H locs cells slots mc ms g rest (Qc (Value.ref b :: As).toArray) XC free := by
  have hK : vx_Back l R p e below s args y 3 8 (PreOf R mc ms Pc) (PostOf Qc mc ms free) (vx_Post XC mc ms free) := vx_callBack cw.1 hM hp.1
  obtain ⟨⟨-, -, -, -, -, -, hcode, -, hy, hlen, hl⟩, hin, hse⟩ := cw
  obtain ⟨hx, hb, hml, ho, -⟩ := S
  obtain ⟨-, ⟨cellB, hcB, hoB, hclB⟩, hPc⟩ := hp
  intro T hT X
  rcases vx_callV X hx (C := C) (bytes := bytes) (maxL := maxL) (ret := ret) ho hl hin hse hcode hy hK (by rw [hT]; exact hcB) hoB hclB hg (hsize.trans hml.symm) (argsL := As) (rest := rest) (fun sig h => hn.trans (hlen sig h)) hstack hW (by rw [hb]; exact hdg)
    (fun vm₁ hW₁ => ⟨hf.1, hf.2, hPc (T.setVm vm₁) hT hW₁⟩) with ⟨v, vm₁, ⟨U', l2, c2, s2⟩, hW₁, X', ⟨g', mk, t, L, e1, e2, hq, h1, hL, h2, h3⟩, st⟩ | ⟨q, vm₁, ⟨U', l2, c2, s2⟩, hW₁, X', ⟨g', mk, t, L, E, ce, e1, e2, hq, hce, hcv, hcl, h1, hL, h2, h3⟩, st⟩
  · dsimp only [Pt.U, Pt.locs, Pt.cells, Pt.slots] at X' e1 e2 h1 h2 h3 st
    subst h1; subst h2; subst h3
    exact Or.inl ⟨v, (T.setVm vm₁).calling g' mk (Value.ref b :: As).toArray, t, U', L, hT, X', hL, e1, e2, hq, st⟩
  · dsimp only [Pt.U, Pt.locs, Pt.cells, Pt.slots] at X' e1 e2 h1 h2 h3 st hcl
    subst h1; subst h2; subst h3
    exact Or.inr ⟨q, (T.setVm vm₁).calling g' mk (Value.ref b :: As).toArray, t, U', L, E, ce, hT, X', hL, e1, e2, hq, hce, hcv, vx_cls hW₁ hcl, st⟩
theorem vx_runS (S : CallFix p m c cc nL s args Ts own) (hM : vx_Met l y ws rm Pc Qc XC mc ms free) (cw : CallB R s args own index y bytes maxL ret ws rm mc ms n ∧ (Cond.static y).before args s = true) (hp : PreS s H Pc As)
    (hg : g.method = m) (hn : As.length = n) (hsize : g.locals.size = nL) (hstack : g.stack = As.reverse ++ rest) (hW : 2 * g.monitorRoom + (rest.map fun v => v.category).sum ≤ 8) (hdg : decode cc g.pc = .ok (.invokestatic index, 3)) (hf : cells + mc ≤ R.cells ∧ slots + ms ≤ R.slots) :
    vx_Run p l e R s m args below meth c H locs cells slots mc ms g rest (Qc As.toArray) XC free := by
  have hK : vx_Back l R p e below s args y 3 8 (PreOf R mc ms Pc) (PostOf Qc mc ms free) (vx_Post XC mc ms free) := vx_callBack cw.1 hM hp.1
  obtain ⟨⟨-, -, -, -, -, -, hcode, hini, hy, hlen, hl⟩, hstt⟩ := cw
  obtain ⟨hx, hb, hml, ho, -⟩ := S
  intro T hT X
  rcases vx_callS X hx (bytes := bytes) (maxL := maxL) (ret := ret) ho hl hstt hini hcode hy hK hg (hsize.trans hml.symm) (argsL := As) (rest := rest) (fun sig h => hn.trans (hlen sig h)) hstack hW (by rw [hb]; exact hdg)
    (fun vm₁ hW₁ => ⟨hf.1, hf.2, hp.2 (T.setVm vm₁) hT hW₁⟩) with ⟨v, vm₁, ⟨U', l2, c2, s2⟩, hW₁, X', ⟨g', mk, t, L, e1, e2, hq, h1, hL, h2, h3⟩, st⟩ | ⟨q, vm₁, ⟨U', l2, c2, s2⟩, hW₁, X', ⟨g', mk, t, L, E, ce, e1, e2, hq, hce, hcv, hcl, h1, hL, h2, h3⟩, st⟩
  · dsimp only [Pt.U, Pt.locs, Pt.cells, Pt.slots] at X' e1 e2 h1 h2 h3 st
    subst h1; subst h2; subst h3
    exact Or.inl ⟨v, (T.setVm vm₁).calling g' mk As.toArray, t, U', L, hT, X', hL, e1, e2, hq, st⟩
  · dsimp only [Pt.U, Pt.locs, Pt.cells, Pt.slots] at X' e1 e2 h1 h2 h3 st hcl
    subst h1; subst h2; subst h3
    exact Or.inr ⟨q, (T.setVm vm₁).calling g' mk As.toArray, t, U', L, E, ce, hT, X', hL, e1, e2, hq, hce, hcv, vx_cls hW₁ hcl, st⟩
end Runs
section Rows
variable {p : Program} {l : Launch} {e : Env} {R : Room} {s : State} {m : MethodId} {args : Array Value} {below : List Frame} {meth : Method} {c : Code} {H : Heap} {locs : List Loc} {cells slots : Nat} {Q : State → Prop}
variable {mc ms : Nat} {free : Addr → Prop} {A0 A1 : Nat → Prop} {H0 : Heap} {a : Array Value} {pc : Nat} {ls : Array Slot} {st0 rest : List Value}
theorem vx_keep {st₀ t T' : State} {L : List Loc} (h0 : st₀.heap = H) (e1 : T'.heap = t.heap) (hS : va_S A0 H0 H locs) (hA : ∀ q, q < H.size → A1 q → A0 q) (hf : ∀ q, free q → A0 q) (hL : ∀ q ∈ L, free q.base) (hF : va_F A1 st₀ t) :
    H.size ≤ T'.heap.size ∧ (∀ q : Nat, q < H.size → ¬ A1 q → T'.heap[q]? = H[q]?) ∧ va_S A0 H0 T'.heap (locs ++ L) := by
  obtain ⟨hz, hk⟩ := hF
  rw [h0] at hz hk
  exact ⟨by rw [e1]; exact hz, fun q h1 h2 => by rw [e1]; exact hk q h1 h2,
    ⟨Nat.le_trans hS.1 (by rw [e1]; exact hz), fun q h1 h2 => by rw [e1, hk q (Nat.lt_of_lt_of_le h1 hS.1) (fun z => h2 (hA q (Nat.lt_of_lt_of_le h1 hS.1) z))]; exact hS.2.1 q h1 h2, fun q hq => by
      rcases List.mem_append.mp hq with h | h
      · exact hS.2.2 q h
      · exact hf _ (hL q h)⟩⟩
theorem vx_calli {S SX : Type} {post : Int32 → S → Prop} {px : SX → Prop} {B : S → State → Prop} {BX : String → SX → State → Prop} {AX : Nat → Prop} (hr : vx_Run p l e R s m args below meth c H locs cells slots mc ms (F0 m pc ls st0) rest (va_Qi post B A1 a) (vx_X px BX AX) free) (hS : va_S A0 H0 H locs) (hA : ∀ q, q < H.size → A1 q → A0 q) (hf : ∀ q, free q → A0 q) (hAX : ∀ q, q < H.size → AX q → A0 q)
    (kx : ∀ (E : String) (ce : Cell) (q9 : Addr) (u : SX) (t : State) (H1 : Heap) (locs1 : List Loc), t.heap = H1 → s.vm.Alike t.vm → px u → BX E u t → H.size ≤ H1.size → (∀ q : Nat, q < H.size → ¬ AX q → H1[q]? = H[q]?) → va_S A0 H0 H1 locs1 → H1[q9]? = some ce → ce.vm = .none → s.vm.findClass E = some ce.cls → vx_W p l e R s m args below meth c H1 locs1 (cells + mc) (slots + ms) Q (F0 m pc ls rest) q9)
    (kk : ∀ (r : Int32) (u : S) (t : State) (H1 : Heap) (locs1 : List Loc), t.heap = H1 → s.vm.Alike t.vm → post r u → B u t → H.size ≤ H1.size → (∀ q : Nat, q < H.size → ¬ A1 q → H1[q]? = H[q]?) → va_S A0 H0 H1 locs1 → W p l e R s m args below meth c H1 locs1 (cells + mc) (slots + ms) Q (F0 m (pc + 3) ls (.int r :: rest))) : W p l e R s m args below meth c H locs cells slots Q (F0 m pc ls st0) := by
  intro T hT X
  rcases hr T hT X with ⟨v, st₀, t, T', L, h0, X', hL, e1, e2, ⟨⟨r, u, hv, hp, hb⟩, hF⟩, st⟩ | ⟨q, st₀, t, T', L, E, ce, h0, X', hL, e1, e2, ⟨u, hp, hb, hF⟩, hce, hcv, hcl, st⟩
  · cases hv
    obtain ⟨k1, k2, k3⟩ := vx_keep h0 e1 hS hA hf hL hF
    obtain ⟨t2, a1, b1⟩ := kk r u t T'.heap (locs ++ L) e1.symm (by rw [← e2]; exact X'.warmed.alike) hp hb k1 k2 k3 T' rfl X'
    exact ⟨t2, st t2 a1, b1⟩
  · obtain ⟨k1, k2, k3⟩ := vx_keep h0 e1 hS hAX hf hL hF
    obtain ⟨t2, a1, b1⟩ := kx E ce q u t T'.heap (locs ++ L) e1.symm (by rw [← e2]; exact X'.warmed.alike) hp hb k1 k2 k3 (by rw [e1]; exact hce) hcv hcl T' rfl X'
    exact ⟨t2, st.trans a1, b1⟩
theorem vx_calll {S SX : Type} {post : Int64 → S → Prop} {px : SX → Prop} {B : S → State → Prop} {BX : String → SX → State → Prop} {AX : Nat → Prop} (hr : vx_Run p l e R s m args below meth c H locs cells slots mc ms (F0 m pc ls st0) rest (va_Ql post B A1 a) (vx_X px BX AX) free) (hS : va_S A0 H0 H locs) (hA : ∀ q, q < H.size → A1 q → A0 q) (hf : ∀ q, free q → A0 q) (hAX : ∀ q, q < H.size → AX q → A0 q)
    (kx : ∀ (E : String) (ce : Cell) (q9 : Addr) (u : SX) (t : State) (H1 : Heap) (locs1 : List Loc), t.heap = H1 → s.vm.Alike t.vm → px u → BX E u t → H.size ≤ H1.size → (∀ q : Nat, q < H.size → ¬ AX q → H1[q]? = H[q]?) → va_S A0 H0 H1 locs1 → H1[q9]? = some ce → ce.vm = .none → s.vm.findClass E = some ce.cls → vx_W p l e R s m args below meth c H1 locs1 (cells + mc) (slots + ms) Q (F0 m pc ls rest) q9)
    (kk : ∀ (r : Int64) (u : S) (t : State) (H1 : Heap) (locs1 : List Loc), t.heap = H1 → s.vm.Alike t.vm → post r u → B u t → H.size ≤ H1.size → (∀ q : Nat, q < H.size → ¬ A1 q → H1[q]? = H[q]?) → va_S A0 H0 H1 locs1 → W p l e R s m args below meth c H1 locs1 (cells + mc) (slots + ms) Q (F0 m (pc + 3) ls (.long r :: rest))) : W p l e R s m args below meth c H locs cells slots Q (F0 m pc ls st0) := by
  intro T hT X
  rcases hr T hT X with ⟨v, st₀, t, T', L, h0, X', hL, e1, e2, ⟨⟨r, u, hv, hp, hb⟩, hF⟩, st⟩ | ⟨q, st₀, t, T', L, E, ce, h0, X', hL, e1, e2, ⟨u, hp, hb, hF⟩, hce, hcv, hcl, st⟩
  · cases hv
    obtain ⟨k1, k2, k3⟩ := vx_keep h0 e1 hS hA hf hL hF
    obtain ⟨t2, a1, b1⟩ := kk r u t T'.heap (locs ++ L) e1.symm (by rw [← e2]; exact X'.warmed.alike) hp hb k1 k2 k3 T' rfl X'
    exact ⟨t2, st t2 a1, b1⟩
  · obtain ⟨k1, k2, k3⟩ := vx_keep h0 e1 hS hAX hf hL hF
    obtain ⟨t2, a1, b1⟩ := kx E ce q u t T'.heap (locs ++ L) e1.symm (by rw [← e2]; exact X'.warmed.alike) hp hb k1 k2 k3 (by rw [e1]; exact hce) hcv hcl T' rfl X'
    exact ⟨t2, st.trans a1, b1⟩
theorem vx_callf {S SX : Type} {post : UInt32 → S → Prop} {px : SX → Prop} {B : S → State → Prop} {BX : String → SX → State → Prop} {AX : Nat → Prop} (hr : vx_Run p l e R s m args below meth c H locs cells slots mc ms (F0 m pc ls st0) rest (va_Qf post B A1 a) (vx_X px BX AX) free) (hS : va_S A0 H0 H locs) (hA : ∀ q, q < H.size → A1 q → A0 q) (hf : ∀ q, free q → A0 q) (hAX : ∀ q, q < H.size → AX q → A0 q)
    (kx : ∀ (E : String) (ce : Cell) (q9 : Addr) (u : SX) (t : State) (H1 : Heap) (locs1 : List Loc), t.heap = H1 → s.vm.Alike t.vm → px u → BX E u t → H.size ≤ H1.size → (∀ q : Nat, q < H.size → ¬ AX q → H1[q]? = H[q]?) → va_S A0 H0 H1 locs1 → H1[q9]? = some ce → ce.vm = .none → s.vm.findClass E = some ce.cls → vx_W p l e R s m args below meth c H1 locs1 (cells + mc) (slots + ms) Q (F0 m pc ls rest) q9)
    (kk : ∀ (r : UInt32) (u : S) (t : State) (H1 : Heap) (locs1 : List Loc), t.heap = H1 → s.vm.Alike t.vm → post r u → B u t → H.size ≤ H1.size → (∀ q : Nat, q < H.size → ¬ A1 q → H1[q]? = H[q]?) → va_S A0 H0 H1 locs1 → W p l e R s m args below meth c H1 locs1 (cells + mc) (slots + ms) Q (F0 m (pc + 3) ls (.float r :: rest))) : W p l e R s m args below meth c H locs cells slots Q (F0 m pc ls st0) := by
  intro T hT X
  rcases hr T hT X with ⟨v, st₀, t, T', L, h0, X', hL, e1, e2, ⟨⟨r, u, hv, hp, hb⟩, hF⟩, st⟩ | ⟨q, st₀, t, T', L, E, ce, h0, X', hL, e1, e2, ⟨u, hp, hb, hF⟩, hce, hcv, hcl, st⟩
  · cases hv
    obtain ⟨k1, k2, k3⟩ := vx_keep h0 e1 hS hA hf hL hF
    obtain ⟨t2, a1, b1⟩ := kk r u t T'.heap (locs ++ L) e1.symm (by rw [← e2]; exact X'.warmed.alike) hp hb k1 k2 k3 T' rfl X'
    exact ⟨t2, st t2 a1, b1⟩
  · obtain ⟨k1, k2, k3⟩ := vx_keep h0 e1 hS hAX hf hL hF
    obtain ⟨t2, a1, b1⟩ := kx E ce q u t T'.heap (locs ++ L) e1.symm (by rw [← e2]; exact X'.warmed.alike) hp hb k1 k2 k3 (by rw [e1]; exact hce) hcv hcl T' rfl X'
    exact ⟨t2, st.trans a1, b1⟩
theorem vx_calld {S SX : Type} {post : UInt64 → S → Prop} {px : SX → Prop} {B : S → State → Prop} {BX : String → SX → State → Prop} {AX : Nat → Prop} (hr : vx_Run p l e R s m args below meth c H locs cells slots mc ms (F0 m pc ls st0) rest (va_Qd post B A1 a) (vx_X px BX AX) free) (hS : va_S A0 H0 H locs) (hA : ∀ q, q < H.size → A1 q → A0 q) (hf : ∀ q, free q → A0 q) (hAX : ∀ q, q < H.size → AX q → A0 q)
    (kx : ∀ (E : String) (ce : Cell) (q9 : Addr) (u : SX) (t : State) (H1 : Heap) (locs1 : List Loc), t.heap = H1 → s.vm.Alike t.vm → px u → BX E u t → H.size ≤ H1.size → (∀ q : Nat, q < H.size → ¬ AX q → H1[q]? = H[q]?) → va_S A0 H0 H1 locs1 → H1[q9]? = some ce → ce.vm = .none → s.vm.findClass E = some ce.cls → vx_W p l e R s m args below meth c H1 locs1 (cells + mc) (slots + ms) Q (F0 m pc ls rest) q9)
    (kk : ∀ (r : UInt64) (u : S) (t : State) (H1 : Heap) (locs1 : List Loc), t.heap = H1 → s.vm.Alike t.vm → post r u → B u t → H.size ≤ H1.size → (∀ q : Nat, q < H.size → ¬ A1 q → H1[q]? = H[q]?) → va_S A0 H0 H1 locs1 → W p l e R s m args below meth c H1 locs1 (cells + mc) (slots + ms) Q (F0 m (pc + 3) ls (.double r :: rest))) : W p l e R s m args below meth c H locs cells slots Q (F0 m pc ls st0) := by
  intro T hT X
  rcases hr T hT X with ⟨v, st₀, t, T', L, h0, X', hL, e1, e2, ⟨⟨r, u, hv, hp, hb⟩, hF⟩, st⟩ | ⟨q, st₀, t, T', L, E, ce, h0, X', hL, e1, e2, ⟨u, hp, hb, hF⟩, hce, hcv, hcl, st⟩
  · cases hv
    obtain ⟨k1, k2, k3⟩ := vx_keep h0 e1 hS hA hf hL hF
    obtain ⟨t2, a1, b1⟩ := kk r u t T'.heap (locs ++ L) e1.symm (by rw [← e2]; exact X'.warmed.alike) hp hb k1 k2 k3 T' rfl X'
    exact ⟨t2, st t2 a1, b1⟩
  · obtain ⟨k1, k2, k3⟩ := vx_keep h0 e1 hS hAX hf hL hF
    obtain ⟨t2, a1, b1⟩ := kx E ce q u t T'.heap (locs ++ L) e1.symm (by rw [← e2]; exact X'.warmed.alike) hp hb k1 k2 k3 (by rw [e1]; exact hce) hcv hcl T' rfl X'
    exact ⟨t2, st.trans a1, b1⟩
theorem vx_callv {S SX : Type} {post : S → Prop} {px : SX → Prop} {B : S → State → Prop} {BX : String → SX → State → Prop} {AX : Nat → Prop} (hr : vx_Run p l e R s m args below meth c H locs cells slots mc ms (F0 m pc ls st0) rest (va_Qv post B A1 a) (vx_X px BX AX) free) (hS : va_S A0 H0 H locs) (hA : ∀ q, q < H.size → A1 q → A0 q) (hf : ∀ q, free q → A0 q) (hAX : ∀ q, q < H.size → AX q → A0 q)
    (kx : ∀ (E : String) (ce : Cell) (q9 : Addr) (u : SX) (t : State) (H1 : Heap) (locs1 : List Loc), t.heap = H1 → s.vm.Alike t.vm → px u → BX E u t → H.size ≤ H1.size → (∀ q : Nat, q < H.size → ¬ AX q → H1[q]? = H[q]?) → va_S A0 H0 H1 locs1 → H1[q9]? = some ce → ce.vm = .none → s.vm.findClass E = some ce.cls → vx_W p l e R s m args below meth c H1 locs1 (cells + mc) (slots + ms) Q (F0 m pc ls rest) q9)
    (kk : ∀ (u : S) (t : State) (H1 : Heap) (locs1 : List Loc), t.heap = H1 → s.vm.Alike t.vm → post u → B u t → H.size ≤ H1.size → (∀ q : Nat, q < H.size → ¬ A1 q → H1[q]? = H[q]?) → va_S A0 H0 H1 locs1 → W p l e R s m args below meth c H1 locs1 (cells + mc) (slots + ms) Q (F0 m (pc + 3) ls (rest))) : W p l e R s m args below meth c H locs cells slots Q (F0 m pc ls st0) := by
  intro T hT X
  rcases hr T hT X with ⟨v, st₀, t, T', L, h0, X', hL, e1, e2, ⟨⟨u, hv, hp, hb⟩, hF⟩, st⟩ | ⟨q, st₀, t, T', L, E, ce, h0, X', hL, e1, e2, ⟨u, hp, hb, hF⟩, hce, hcv, hcl, st⟩
  · cases hv
    obtain ⟨k1, k2, k3⟩ := vx_keep h0 e1 hS hA hf hL hF
    obtain ⟨t2, a1, b1⟩ := kk u t T'.heap (locs ++ L) e1.symm (by rw [← e2]; exact X'.warmed.alike) hp hb k1 k2 k3 T' rfl X'
    exact ⟨t2, st t2 a1, b1⟩
  · obtain ⟨k1, k2, k3⟩ := vx_keep h0 e1 hS hAX hf hL hF
    obtain ⟨t2, a1, b1⟩ := kx E ce q u t T'.heap (locs ++ L) e1.symm (by rw [← e2]; exact X'.warmed.alike) hp hb k1 k2 k3 (by rw [e1]; exact hce) hcv hcl T' rfl X'
    exact ⟨t2, st.trans a1, b1⟩
/-- caught by the row x of this method's table; the rows ahead don't take it -/
theorem vx_catch {own name : String} {E : String} {ce : Cell} {q : Addr} (hown : s.vm.findClass own = some m.cls) (pre : List ExceptionTableEntry) (x : ExceptionTableEntry) (suf : List ExceptionTableEntry) (hsplit : c.exceptionTable.toList = pre ++ x :: suf)
    (hpass : ∀ z ∈ pre, covers z pc = false ∨ (z.catchType ≠ 0 ∧ ∃ nm : String, (Cond.classLink own z.catchType nm).before args s = true ∧ va_Nc E nm s)) (hx : covers x pc = true) (h0 : x.catchType ≠ 0)
    (hlink : (Cond.classLink own x.catchType name).before args s = true) (hcast : (Cond.castable E name).before args s = true) (hcell : H[q]? = some ce) (hv : ce.vm = .none) (hcl : s.vm.findClass E = some ce.cls)
    (kk : W p l e R s m args below meth c H locs cells slots Q (F0 m x.handlerPc ls [.ref q])) : vx_W p l e R s m args below meth c H locs cells slots Q (F0 m pc ls rest) q := by
  intro T hT X
  have hpl : e.platform.magicAccessors = ({} : Platform).magicAccessors := by rw [X.admits.platform]
  obtain ⟨c3, c4, hc3, hc4, hasg⟩ := Cond.castable_spec hcast
  cases Option.some.inj (hc3.symm.trans hcl)
  obtain ⟨c5, hc5, hcl5⟩ := Cond.classLink_spec hown hlink e.platform hpl
  cases Option.some.inj (hc4.symm.trans hc5)
  obtain ⟨vm', X', st⟩ := X.thenCaughtThrough q (g := F0 m pc ls rest) rfl (Steps.refl _) (by rw [hT]; exact hcell) (by rw [hv]; rfl) (by obtain ⟨k9, h9, -⟩ := Vm.findClass_spec hcl; exact ⟨k9, h9⟩) pre x suf hsplit
    (fun z hz => by
      rcases hpass z hz with h | ⟨hz0, nm, hl1, hn1⟩
      · exact Or.inl h
      · obtain ⟨c6, hc6, hcl6⟩ := Cond.classLink_spec hown hl1 e.platform hpl
        obtain ⟨a8, b8, h1, h2, h3⟩ := hn1
        cases Option.some.inj (h1.symm.trans hcl)
        cases Option.some.inj (h2.symm.trans hc6)
        exact Or.inr ⟨hz0, _, hcl6, h3⟩) hx (Or.inr ⟨h0, c4, hcl5, hasg⟩)
  obtain ⟨t, a1, b1⟩ := kk (T.setVm vm') hT X'
  exact ⟨t, st.trans a1, b1⟩
end Rows
section Ends
variable {p : Program} {l : Launch} {e : Env} {R : Room} {s : State} {m : MethodId} {args : Array Value} {below : List Frame} {meth : Method} {c : Code} {H : Heap} {locs : List Loc} {cells slots : Nat} {Q : State → Prop}
variable {mc ms : Nat} {free : Addr → Prop} {A0 A1 : Nat → Prop} {H0 : Heap} {a : Array Value} {ls : Array Slot} {st0 rest : List Value}
variable {Qc : Array Value → State → Outcome → State → Prop} {XC : String → State → State → Prop}
/-- what a body that may throw owes at its end -/
def vx_MQ (below : List Frame) (Qc : Array Value → State → Outcome → State → Prop) (XC : String → State → State → Prop) (a : Array Value) (s : State) (mc ms : Nat) (free : Addr → Prop) : State → Prop := fun t =>
  ∃ o, t.status = .running ∧ Ended t below o ∧ vx_Q Qc XC mc ms free a s o t
theorem vx_ret {g : JFrame} {mc ms : Nat} (k : W p l e R s m args below meth c H locs cells slots (MQ below Qc args s mc ms free) g) : W p l e R s m args below meth c H locs cells slots (vx_MQ below Qc XC args s mc ms free) g := by
  intro T hT X
  obtain ⟨t, a1, o, b1, b2, b3, b4⟩ := k T hT X
  exact ⟨t, a1, o, b1, b2, Or.inl ⟨b3, b4⟩⟩
/-- not caught here: it goes on to the caller -/
theorem vx_widen {g : JFrame} {q : Addr} {k n : Nat} (h1 : cells ≤ k) (h2 : slots ≤ n) (kk : vx_W p l e R s m args below meth c H locs k n Q g q) : vx_W p l e R s m args below meth c H locs cells slots Q g q := fun T hT X => kk T hT (stand_widen X h1 h2)
theorem vx_out {pc : Nat} {E : String} {ce : Cell} {q : Addr} {mc ms : Nat} (hout : ∀ x ∈ c.exceptionTable.toList, covers x pc = false) (hlocks : meth.locks = false) (hcell : H[q]? = some ce) (hv : ce.vm = .none) (hcl : s.vm.findClass E = some ce.cls)
    (hx : ∀ t : State, t.heap = H → s.vm.Alike t.vm → XC E s t) (hf : ∀ z ∈ locs, free z.base) (hc : cells ≤ mc) (hs : slots ≤ ms) :
    vx_W p l e R s m args below meth c H locs cells slots (vx_MQ below Qc XC args s mc ms free) (F0 m pc ls rest) q := by
  intro T hT X
  obtain ⟨st1, hrun, hend, hW, hsm⟩ := X.leaveThrown q (g := F0 m pc ls rest) rfl rfl rfl hout hlocks
  have hcell9 : (T.setFrames (.throwing q :: below)).heap[q]? = some ce := by
    show T.heap[q]? = some ce
    rw [hT]; exact hcell
  exact ⟨_, st1, .threw q, hrun, hend, Or.inr ⟨q, rfl, E, ce, locs, hx _ hT hW.alike, hcell9, hv, hcl, hW, hsm.mono hc hs, hf⟩⟩
theorem vx_frame {U : State} {k n : Nat} (h : s.sameButNew ({ U with vm := s.vm } : State) locs k n) : s.heap.size ≤ U.heap.size ∧ ∀ q : Nat, q < s.heap.size → (∀ z ∈ locs, z.base ≠ q) → U.heap[q]? = s.heap[q]? := by
  obtain ⟨-, h2, -, -, -, h6⟩ := h
  refine ⟨h2, fun q hq hz => ?_⟩
  obtain ⟨c9, e1, e2, e3, e4⟩ := h6 q _ (Array.getElem?_eq_getElem hq)
  have hs : c9.slots = (s.heap[q]).slots := Array.ext_getElem? fun i => e4 i fun hm => hz _ hm rfl
  have h9 : c9 = s.heap[q] := by
    rw [hs] at e2
    exact e2
  have e5 : U.heap[q]? = some c9 := e1
  rw [e5, h9, Array.getElem?_eq_getElem hq]
/-- the words of a throw but the four that speak of the heap -/
def vx_no (w : Cond) : Bool := decide (w ≠ .isRef (.static Bundle.tN "UNASSIGNED_STACK" Bundle.steD)) && decide (w ≠ .isRef (.static Bundle.tN "SUPPRESSED_SENTINEL" Bundle.listD)) && decide (w ≠ .laysStatic Bundle.tN "UNASSIGNED_STACK" Bundle.steD) && decide (w ≠ .laysStatic Bundle.tN "SUPPRESSED_SENTINEL" Bundle.listD)
def vx_at0 (own : String) (ic : Nat) (X : String) (names : List String) : List Cond := (Bundle.ownAtoms0 own ic X names).filter vx_no
def vx_atS (own : String) (ic : Nat) (X : String) (names : List String) : List Cond := (Bundle.ownAtoms own ic X names).filter vx_no
/-- a word that the tables alone decide, or a good one -/
def vx_ot (w : Cond) : Bool := w.onTables || goodWord w
theorem vx_ot_at {args a' : Array Value} {s U : State} {w : Cond} (hW : s.WarmedH U.vm) (hvm : s.vm = U.vm) (hg : vx_ot w = true) (h : w.before args s = true) : w.before a' U = true := by
  simp only [vx_ot, Bool.or_eq_true] at hg
  rcases hg with hg | hg
  · exact va_tabs hg hvm h
  · exact word_at hW (good_of_word hg) h
/-- a list's words: the good ones out of the method's own list, the others by premises of their own -/
theorem vx_hat {args : Array Value} {s : State} {L B : List Cond} (h1 : ∀ w ∈ L.filter goodWord, w.before args s = true) (h2 : ∀ w ∈ L.filter (fun w => !goodWord w), w ∈ B) (h3 : ∀ w ∈ B, w.before args s = true) : ∀ w ∈ L, w.before args s = true := by
  intro w hw
  by_cases g : goodWord w = true
  · exact h1 w (List.mem_filter.mpr ⟨hw, g⟩)
  · refine h3 w (h2 w (List.mem_filter.mpr ⟨hw, ?_⟩))
    show (!goodWord w) = true
    cases hgw : goodWord w
    · rfl
    · exact absurd hgw g
theorem vx_c {args : Array Value} {s : State} {w : Cond} {B : List Cond} (h : w.before args s = true) (t : ∀ w ∈ B, w.before args s = true) : ∀ w' ∈ w :: B, w'.before args s = true := fun w' h' => (List.mem_cons.mp h').elim (fun e => by rw [e]; exact h) (t w')
theorem vx_n {args : Array Value} {s : State} : ∀ w ∈ ([] : List Cond), w.before args s = true := fun _ h => nomatch h
theorem vx_own {args : Array Value} {s : State} {L : List Cond} (h1 : ∀ w ∈ L.filter vx_no, w.before args s = true)
    (hU : (Cond.isRef (.static Bundle.tN "UNASSIGNED_STACK" Bundle.steD)).before args s = true) (hN : (Cond.isRef (.static Bundle.tN "SUPPRESSED_SENTINEL" Bundle.listD)).before args s = true)
    (lU : (Cond.laysStatic Bundle.tN "UNASSIGNED_STACK" Bundle.steD).before args s = true) (lN : (Cond.laysStatic Bundle.tN "SUPPRESSED_SENTINEL" Bundle.listD).before args s = true) : ∀ w ∈ L, w.before args s = true := by
  intro w hw
  by_cases e1 : w = .isRef (.static Bundle.tN "UNASSIGNED_STACK" Bundle.steD)
  · rw [e1]; exact hU
  · by_cases e2 : w = .isRef (.static Bundle.tN "SUPPRESSED_SENTINEL" Bundle.listD)
    · rw [e2]; exact hN
    · by_cases e3 : w = .laysStatic Bundle.tN "UNASSIGNED_STACK" Bundle.steD
      · rw [e3]; exact lU
      · by_cases e4 : w = .laysStatic Bundle.tN "SUPPRESSED_SENTINEL" Bundle.listD
        · rw [e4]; exact lN
        · exact h1 w (List.mem_filter.mpr ⟨hw, by unfold vx_no; rw [decide_eq_true e1, decide_eq_true e2, decide_eq_true e3, decide_eq_true e4]; rfl⟩)
/-- where a static field lies, its class's statics cell in H -/
def vx_L (C n d : String) (A : Nat → Prop) (U : State) (H : Heap) : Prop := ∃ (c : ClassId) (k : Class) (i : Nat) (f : Field) (a : Nat) (cell : Cell), U.vm.findClass C = some c ∧ U.fieldFound? C n d = some (c, k, i, f) ∧ f.isStatic = true ∧ k.statics = some a ∧ H[a]? = some cell ∧ cell.vm.isStatics = true ∧ cell.cls = c ∧ f.slot < cell.slots.size ∧ k.staticTypes[f.slot]? = some f.type ∧ ¬ A a
theorem vx_L.moved {C n d : String} {A : Nat → Prop} {u U : State} {H : Heap} (hvm : u.vm.Alike U.vm) (h : vx_L C n d A u H) : vx_L C n d A U H := by
  obtain ⟨c, k, i, f, a, cell, h1, h2, h3, h4, h5, h6, h7, h8, h9, h10⟩ := h
  obtain ⟨k', hi', he⟩ := State.fieldFound?_setVm hvm h2
  exact ⟨c, k', i, f, a, cell, by rw [hvm.findClass]; exact h1, hi', h3, by rw [he]; exact h4, h5, h6, h7, h8, by rw [he]; exact h9, h10⟩
theorem vx_L.kept {C n d : String} {A : Nat → Prop} {U : State} {H H1 : Heap} (h : vx_L C n d A U H) (hq : ∀ a : Nat, a < H.size → ¬ A a → H1[a]? = H[a]?) : vx_L C n d A U H1 := by
  obtain ⟨c, k, i, f, a, cell, h1, h2, h3, h4, h5, h6, h7, h8, h9, h10⟩ := h
  exact ⟨c, k, i, f, a, cell, h1, h2, h3, h4, by rw [hq a (Array.getElem?_eq_some_iff.mp h5).1 h10]; exact h5, h6, h7, h8, h9, h10⟩
theorem vx_L.narrow {C n d : String} {A B : Nat → Prop} {U : State} {H : Heap} (h : vx_L C n d A U H) (hAB : ∀ q, B q → A q) : vx_L C n d B U H := by
  obtain ⟨c, k, i, f, a, cell, h1, h2, h3, h4, h5, h6, h7, h8, h9, h10⟩ := h
  exact ⟨c, k, i, f, a, cell, h1, h2, h3, h4, h5, h6, h7, h8, h9, fun z => h10 (hAB _ z)⟩
theorem vx_L.word {C n d : String} {A : Nat → Prop} {s : State} {args : Array Value} (h : vx_L C n d A s s.heap) : (Cond.laysStatic C n d).before args s = true := by
  obtain ⟨c, k, i, f, a, cell, h1, h2, h3, h4, h5, h6, h7, h8, h9, -⟩ := h
  show (Cond.laysStatic C n d).holds args s none s [] = true
  exact Cond.laysStatic_of h1 h2 h3 h4 h5 h6 h7 h8 h9
/-- .. and what it holds: null or some reference -/
def vx_Zq (C n d : String) (A : Nat → Prop) (U : State) (H : Heap) : Prop := va_Zq C n d A U H ∧ vx_L C n d A U H
theorem vx_Zq.moved {C n d : String} {A : Nat → Prop} {u U : State} {H : Heap} (hvm : u.vm.Alike U.vm) (h : vx_Zq C n d A u H) : vx_Zq C n d A U H := ⟨va_Zq.moved hvm h.1, vx_L.moved hvm h.2⟩
theorem vx_Zq.kept {C n d : String} {A : Nat → Prop} {U : State} {H H1 : Heap} (h : vx_Zq C n d A U H) (hq : ∀ a : Nat, a < H.size → ¬ A a → H1[a]? = H[a]?) : vx_Zq C n d A U H1 := ⟨va_Zq.kept h.1 hq, vx_L.kept h.2 hq⟩
theorem vx_Zq.narrow {C n d : String} {A B : Nat → Prop} {U : State} {H : Heap} (h : vx_Zq C n d A U H) (hAB : ∀ q, B q → A q) : vx_Zq C n d B U H := ⟨va_Zq.narrow h.1 hAB, vx_L.narrow h.2 hAB⟩
theorem vx_Zqof {args : Array Value} {s : State} {C n d : String} {A : Nat → Prop} (hl : (Cond.laysStatic C n d).before args s = true) (hini : (Cond.initialized C).before args s = true) (h : (Cond.isRef (.static C n d)).before args s = true) (hA : ∀ a : Nat, a < s.heap.size → ¬ A a) : vx_Zq C n d A s s.heap := by
  refine ⟨va_Zqof hl hini h hA, ?_⟩
  obtain ⟨c, k, i, f, a, cell, h1, h2, h3, h4, h5, h6, h7, h8, h9⟩ := Cond.laysStatic_spec hl
  exact ⟨c, k, i, f, a, cell, h1, h2, h3, h4, h5, h6, h7, h8, h9, hA a (Array.getElem?_eq_some_iff.mp h5).1⟩
theorem vx_isRef {C n d : String} {v : Value} {A : Nat → Prop} {s : State} {args : Array Value} (h : va_Z C n d v A s s.heap) (hv : v.isRef = true) : (Cond.isRef (.static C n d)).before args s = true := by
  obtain ⟨cf, kf, fi, f, a, cell, h1, h2, h3, h4, h5, h6, h7, -⟩ := h
  have he : (Term.static C n d).eval args s none [] s = some v := by
    simp [Term.eval, State.fieldNamed?, h1, h2, h4, h5, h6, h7]
  simp only [Cond.before, Cond.holds, Cond.value, he]
  cases v <;> simp_all [Value.isRef]
theorem vx_isRefq {C n d : String} {A : Nat → Prop} {s : State} {args : Array Value} (h : va_Zq C n d A s s.heap) : (Cond.isRef (.static C n d)).before args s = true := by
  rcases h with h | ⟨t, h⟩
  · exact vx_isRef h rfl
  · exact vx_isRef h rfl
/-- the same frame, seen from here: as if the method were called anew in this heap -/
theorem vx_rebase {T : State} (X : Stand p l e R s m args below meth c T locs cells slots) {R' : Room} (hf : R'.frames ≤ R.frames) (hl : R'.locals ≤ R.locals) (hc : cells + R'.cells ≤ R.cells) (hs : slots + R'.slots ≤ R.slots) :
    Stand p l e R' ((T.setVm s.vm).setFrames (.invoking m args :: below)) m args below meth c T [] 0 0 := by
  have htop : (T.setVm s.vm).topJava?.isSome := X.here.top
  have hF : ((T.setVm s.vm).setFrames (.invoking m args :: below)).frames = .invoking m args :: below := State.frames_setFrames _ (State.cur_lt_of_top htop)
  obtain ⟨g₀, hg0⟩ := Option.isSome_iff_exists.mp htop
  obtain ⟨r, hr⟩ := State.topJava?_eq_some.mp hg0
  have hl9 : e.platform.stackLimits (T.setVm s.vm).me = e.platform.stackLimits s.me := X.limits
  have hb9 : (T.setVm s.vm).me.stackBytes = s.me.stackBytes := X.bytes
  refine ⟨X.admits, X.cas, X.clock, hF, ?_, X.hears, X.method, X.code, X.here, X.tail, X.warmed, ?_, ?_, ?_⟩
  · have h := X.room
    have hU : ((T.setVm s.vm).setFrames (.invoking m args :: below)).localsInUse = s.localsInUse := by
      rw [State.localsInUse_invoking hF (meth := meth) (c := c) X.method X.code, State.localsInUse_invoking X.frames X.method X.code]
    simp only [State.hasRoom, Bool.and_eq_true, decide_eq_true_eq] at h ⊢
    obtain ⟨⟨⟨⟨h1, h2, h3, h4, h5, h6⟩, h7⟩, h8⟩, h9⟩ := h
    rw [X.frames, List.length_cons] at h2 h3
    have q1 := X.heapSize
    have q2 := X.used
    simp only [hF, hU, List.length_cons, State.stackLimits_setFrames, State.stackBytes_setFrames, hl9, hb9]
    refine ⟨⟨⟨⟨by omega, by omega, by omega, by omega, by omega, h6⟩, ?_⟩, ?_⟩, X.book⟩
    · show T.heap.size + R'.cells ≤ e.platform.maxCells
      omega
    · show T.slotsUsed + R'.slots ≤ e.platform.maxSlots
      omega
  · rw [State.stackLimits_setFrames]; rfl
  · rw [State.stackBytes_setFrames]; rfl
  · refine ⟨?_, Nat.le_refl _, Nat.le_refl _, ?_, ?_, fun a c9 h9 => ⟨c9, h9, rfl, rfl, fun _ _ => rfl⟩⟩
    · obtain ⟨t, ht, -⟩ := State.frames_cons hr
      show T.setVm s.vm = { ((T.setVm s.vm).setFrames (.invoking m args :: below)).setFrames (T.setVm s.vm).frames with heap := T.heap, slotsUsed := T.slotsUsed }
      rw [State.setFrames_setFrames, State.setFrames_self ht]
      rfl
    · show T.slotsUsed = T.slotsUsed + ((T.heap.toList.drop T.heap.size).map (·.slots.size)).sum
      rw [List.drop_eq_nil_of_le (Nat.le_of_eq Array.length_toList)]
      rfl
    · show ((T.heap.toList.drop T.heap.size).map (·.slots.size)).sum ≤ 0
      rw [List.drop_eq_nil_of_le (Nat.le_of_eq Array.length_toList)]
      exact Nat.le_refl _
/-- 'throw new E()': new; dup; invokespecial; athrow -/
theorem vx_throw0 {cc : ByteArray} {pc : Nat} (hexec : p.tables.exec = Jvm.exec) (hb : c.code = cc) (hl : l.stackTraces = false) {own cls : String} {names : List String} {ik ic mc ms : Nat} {A : Nat → Prop}
    (hown : s.vm.findClass own = some m.cls) (hcls : Bundle.fit cls = true) (hnames : ∀ n ∈ names, Bundle.fit n = true)
    (hk : (Cond.classLink own ik cls).before args s = true) (hini : (Cond.initialized cls).before args s = true) (hat : ∀ w ∈ vx_at0 own ic cls names, w.before args s = true)
    (hgood : ∀ w ∈ Cond.classLink own ik cls :: Cond.initialized cls :: vx_at0 own ic cls names, vx_ot w = true)
    (hU : vx_Zq Bundle.tN "UNASSIGNED_STACK" Bundle.steD A s s.heap) (hN : vx_Zq Bundle.tN "SUPPRESSED_SENTINEL" Bundle.listD A s s.heap) (hS : va_S A s.heap H locs) (hsize : ls.size = c.maxLocals)
    (d0 : decode cc pc = .ok (.new ik, 3)) (d3 : decode cc (pc + 3) = .ok (.dup, 1)) (d4 : decode cc (pc + 4) = .ok (.invokespecial ic, 3)) (d7 : decode cc (pc + 7) = .ok (.athrow, 1))
    (hout : ∀ x ∈ c.exceptionTable.toList, covers x (pc + 7) = false)
    (hRframes : names.length + 3 < R.frames) (hRlocals : (rest.map fun v => v.category).sum + (13 * (names.length + 1) + 42) ≤ R.locals) (hRcells : cells + 1 ≤ R.cells) (hRslots : slots + 6 ≤ R.slots) (hlocks : meth.locks = false)
    (hx : ∀ t : State, s.vm.Alike t.vm → H.size ≤ t.heap.size → (∀ q : Nat, q < H.size → t.heap[q]? = H[q]?) → XC cls s t)
    (hf : ∀ z ∈ locs, free z.base) (hc : cells + 1 ≤ mc) (hs : slots + 6 ≤ ms) :
    W p l e R s m args below meth c H locs cells slots (vx_MQ below Qc XC args s mc ms free) (F0 m pc ls rest) := by
  intro T hT X
  have htr : e.platform.stackTraces = false := (show e.platform.stackTraces = l.stackTraces by rw [X.admits.platform]).trans hl
  have Y := vx_rebase X (R' := { frames := R.frames, locals := R.locals, cells := 1, slots := 6 }) (Nat.le_refl _) (Nat.le_refl _) hRcells hRslots
  obtain ⟨s', hA⟩ : ∃ z, z = (T.setVm s.vm).setFrames (.invoking m args :: below) := ⟨_, rfl⟩
  rw [← hA] at Y
  have hvm : s'.vm = s.vm := by rw [hA]; rfl
  have hhp : s'.heap = H := by rw [hA]; exact hT
  have hW0 : s.WarmedH s'.vm := by rw [hvm]; exact State.WarmedH.refl s
  have hat' : ∀ w ∈ vx_at0 own ic cls names, w.before args s' = true := fun w hw => vx_ot_at hW0 hvm.symm (hgood w (List.mem_cons_of_mem _ (List.mem_cons_of_mem _ hw))) (hat w hw)
  have hk' : (Cond.classLink own ik cls).before args s' = true := vx_ot_at hW0 hvm.symm (hgood _ List.mem_cons_self) hk
  have hini' : (Cond.initialized cls).before args s' = true := vx_ot_at hW0 hvm.symm (hgood _ (List.mem_cons_of_mem _ List.mem_cons_self)) hini
  have hU' : vx_Zq Bundle.tN "UNASSIGNED_STACK" Bundle.steD A s' s'.heap := by rw [hhp]; exact vx_Zq.moved hW0.alike (hU.kept hS.2.1)
  have hN' : vx_Zq Bundle.tN "SUPPRESSED_SENTINEL" Bundle.listD A s' s'.heap := by rw [hhp]; exact vx_Zq.moved hW0.alike (hN.kept hS.2.1)
  have h : ∀ w ∈ Bundle.ownAtoms0 own ic cls names, w.before args s' = true := vx_own hat' (vx_isRefq hU'.1) (vx_isRefq hN'.1) hU'.2.word hN'.2.word
  have hown' : s'.vm.findClass own = some m.cls := by rw [hvm]; exact hown
  have hins : (Cond.instantiable cls 6).before args s' = true := h _ (by simp [Bundle.ownAtoms0])
  obtain ⟨vm₁, cX, kX, hfX, hkX, -, -, X₁, st1⟩ := Y.newCold hexec (own := own) (C := cls) (index := ik) (n := 6) hown' hk' hins hini'
    (g := F0 m pc ls rest) rfl (by rw [hb]; exact d0) (Nat.le_refl _) (Nat.le_refl _)
  generalize hT1 : (T.setVm vm₁).pushCell { cls := cX, slots := kX.instanceTypes.map defaultValue, vm := .none } = T1 at X₁ st1
  have hcat : (Value.ref T.heap.size).category = 1 := rfl
  have hcellA : T1.heap[T.heap.size]? = some (freshCell cX kX) := by rw [← hT1]; exact State.heap_pushCell_size _ _
  have d3' : decode c.code (pc + 3) = .ok (.dup, 1) := by rw [hb]; exact d3
  obtain ⟨U, hsteps, hrun, hend, hW, hsame, ce, hce, hO⟩ := X₁.ctorThrow0 hexec htr (own := own) (cls := cls) (names := names) (ic := ic) hown' hcls hnames h (fun x hx => nomatch hx) hfX hkX hcellA (by rw [hhp, hT]; exact Nat.le_refl _)
    (g := { method := m, pc := pc + 4, locals := ls, stack := .ref T.heap.size :: .ref T.heap.size :: rest, locked := none }) rfl hsize rfl rfl (rest := rest) rfl
    (by rw [hb]; exact d4) (by rw [hb]; exact d7) hout hRframes (by simp only [List.map_cons, List.sum_cons, hcat]; omega) hlocks
  obtain ⟨f1, f2⟩ := vx_frame hsame
  rw [hhp] at f1 f2
  have hWs : s.WarmedH U.vm := State.WarmedH.trans hW0 hW
  have hcl : s.vm.findClass cls = some ce.cls := by
    have h9 := hO.cls
    rw [hvm] at h9
    exact h9
  have hall : s.sameButNew ({ U with vm := s.vm } : State) locs mc ms := by
    subst hA
    obtain ⟨e1, e2⟩ := hsame
    rw [State.setFrames_setFrames] at e1
    have h2 : (T.setVm s.vm).sameButNew ({ U with vm := s.vm } : State) [] (0 + 1) (0 + 6) := ⟨e1, e2⟩
    have h3 := X.same.trans h2
    rw [List.append_nil] at h3
    exact h3.mono hc hs
  refine ⟨U, ?_, .threw T.heap.size, hrun, hend, Or.inr ⟨T.heap.size, rfl, cls, ce, locs, hx U hWs.alike f1 (fun q hq => f2 q hq (fun z hz => nomatch hz)), hce, hO.vm, hcl, hWs, hall, hf⟩⟩
  refine st1 _ ?_
  show Steps p.tables e below (T1.setTop { method := m, pc := pc + 3, locals := ls, stack := .ref T.heap.size :: rest, locked := none }) _
  jvm_step X₁.here [X₁.here.top, hexec, d3', Value.category]
  exact hsteps
/-- 'throw new E("text")': new; dup; ldc; invokespecial; athrow -/
theorem vx_throwS {cc : ByteArray} {pc : Nat} (hexec : p.tables.exec = Jvm.exec) (hb : c.code = cc) (hl : l.stackTraces = false) {own cls text : String} {names : List String} {ik is ic mc ms sa : Nat} {A : Nat → Prop}
    (hown : s.vm.findClass own = some m.cls) (hcls : Bundle.fit cls = true) (hnames : ∀ n ∈ names, Bundle.fit n = true)
    (hk : (Cond.classLink own ik cls).before args s = true) (hini : (Cond.initialized cls).before args s = true) (hstr : vk_R own is text sa s) (hat : ∀ w ∈ vx_atS own ic cls names, w.before args s = true)
    (hgood : ∀ w ∈ Cond.classLink own ik cls :: Cond.initialized cls :: vx_atS own ic cls names, vx_ot w = true)
    (hU : vx_Zq Bundle.tN "UNASSIGNED_STACK" Bundle.steD A s s.heap) (hN : vx_Zq Bundle.tN "SUPPRESSED_SENTINEL" Bundle.listD A s s.heap) (hS : va_S A s.heap H locs) (hsize : ls.size = c.maxLocals)
    (d0 : decode cc pc = .ok (.new ik, 3)) (d3 : decode cc (pc + 3) = .ok (.dup, 1)) (d4 : decode cc (pc + 4) = .ok (.ldc is, 2)) (d6 : decode cc (pc + 6) = .ok (.invokespecial ic, 3)) (d9 : decode cc (pc + 9) = .ok (.athrow, 1))
    (hout : ∀ x ∈ c.exceptionTable.toList, covers x (pc + 9) = false)
    (hRframes : names.length + 3 < R.frames) (hRlocals : (rest.map fun v => v.category).sum + (13 * (names.length + 1) + 43) ≤ R.locals) (hRcells : cells + 1 ≤ R.cells) (hRslots : slots + 6 ≤ R.slots) (hlocks : meth.locks = false)
    (hx : ∀ t : State, s.vm.Alike t.vm → H.size ≤ t.heap.size → (∀ q : Nat, q < H.size → t.heap[q]? = H[q]?) → XC cls s t)
    (hf : ∀ z ∈ locs, free z.base) (hc : cells + 1 ≤ mc) (hs : slots + 6 ≤ ms) :
    W p l e R s m args below meth c H locs cells slots (vx_MQ below Qc XC args s mc ms free) (F0 m pc ls rest) := by
  intro T hT X
  have htr : e.platform.stackTraces = false := (show e.platform.stackTraces = l.stackTraces by rw [X.admits.platform]).trans hl
  have Y := vx_rebase X (R' := { frames := R.frames, locals := R.locals, cells := 1, slots := 6 }) (Nat.le_refl _) (Nat.le_refl _) hRcells hRslots
  obtain ⟨s', hA⟩ : ∃ z, z = (T.setVm s.vm).setFrames (.invoking m args :: below) := ⟨_, rfl⟩
  rw [← hA] at Y
  have hvm : s'.vm = s.vm := by rw [hA]; rfl
  have hhp : s'.heap = H := by rw [hA]; exact hT
  have hW0 : s.WarmedH s'.vm := by rw [hvm]; exact State.WarmedH.refl s
  have hat' : ∀ w ∈ vx_atS own ic cls names, w.before args s' = true := fun w hw => vx_ot_at hW0 hvm.symm (hgood w (List.mem_cons_of_mem _ (List.mem_cons_of_mem _ hw))) (hat w hw)
  have hk' : (Cond.classLink own ik cls).before args s' = true := vx_ot_at hW0 hvm.symm (hgood _ List.mem_cons_self) hk
  have hini' : (Cond.initialized cls).before args s' = true := vx_ot_at hW0 hvm.symm (hgood _ (List.mem_cons_of_mem _ List.mem_cons_self)) hini
  have hU' : vx_Zq Bundle.tN "UNASSIGNED_STACK" Bundle.steD A s' s'.heap := by rw [hhp]; exact vx_Zq.moved hW0.alike (hU.kept hS.2.1)
  have hN' : vx_Zq Bundle.tN "SUPPRESSED_SENTINEL" Bundle.listD A s' s'.heap := by rw [hhp]; exact vx_Zq.moved hW0.alike (hN.kept hS.2.1)
  have h : ∀ w ∈ Bundle.ownAtoms own ic cls names, w.before args s' = true := vx_own hat' (vx_isRefq hU'.1) (vx_isRefq hN'.1) hU'.2.word hN'.2.word
  have hown' : s'.vm.findClass own = some m.cls := by rw [hvm]; exact hown
  have hins : (Cond.instantiable cls 6).before args s' = true := h _ (by simp [Bundle.ownAtoms])
  obtain ⟨vm₁, cX, kX, hfX, hkX, -, -, X₁, st1⟩ := Y.newCold hexec (own := own) (C := cls) (index := ik) (n := 6) hown' hk' hins hini'
    (g := F0 m pc ls rest) rfl (by rw [hb]; exact d0) (Nat.le_refl _) (Nat.le_refl _)
  generalize hT1 : (T.setVm vm₁).pushCell { cls := cX, slots := kX.instanceTypes.map defaultValue, vm := .none } = T1 at X₁ st1
  have hcat : (Value.ref T.heap.size).category = 1 := rfl
  have hcellA : T1.heap[T.heap.size]? = some (freshCell cX kX) := by rw [← hT1]; exact State.heap_pushCell_size _ _
  have d3' : decode c.code (pc + 3) = .ok (.dup, 1) := by rw [hb]; exact d3
  have d4' : decode c.code (pc + 4) = .ok (.ldc is, 2) := by rw [hb]; exact d4
  have hstr' : vk_R own is text sa s' := vk_R.warm hW0 hstr
  obtain ⟨U, hsteps, hrun, hend, hW, hsame, ce, hce, hO⟩ := X₁.ctorThrowS hexec htr (own := own) (cls := cls) (names := names) (ic := ic) hown' hcls hnames h (fun x hx => nomatch hx) hfX hkX hcellA (by rw [hhp, hT]; exact Nat.le_refl _) (msg := .ref sa) rfl
    (g := { method := m, pc := pc + 6, locals := ls, stack := .ref sa :: .ref T.heap.size :: .ref T.heap.size :: rest, locked := none }) rfl hsize rfl rfl (rest := rest) rfl
    (by rw [hb]; exact d6) (by rw [hb]; exact d9) hout hRframes (by simp only [List.map_cons, List.sum_cons, hcat]; omega) hlocks
  obtain ⟨f1, f2⟩ := vx_frame hsame
  rw [hhp] at f1 f2
  have hWs : s.WarmedH U.vm := State.WarmedH.trans hW0 hW
  have hcl : s.vm.findClass cls = some ce.cls := by
    have h9 := hO.cls
    rw [hvm] at h9
    exact h9
  have hall : s.sameButNew ({ U with vm := s.vm } : State) locs mc ms := by
    subst hA
    obtain ⟨e1, e2⟩ := hsame
    rw [State.setFrames_setFrames] at e1
    have h2 : (T.setVm s.vm).sameButNew ({ U with vm := s.vm } : State) [] (0 + 1) (0 + 6) := ⟨e1, e2⟩
    have h3 := X.same.trans h2
    rw [List.append_nil] at h3
    exact h3.mono hc hs
  refine ⟨U, ?_, .threw T.heap.size, hrun, hend, Or.inr ⟨T.heap.size, rfl, cls, ce, locs, hx U hWs.alike f1 (fun q hq => f2 q hq (fun z hz => nomatch hz)), hce, hO.vm, hcl, hWs, hall, hf⟩⟩
  refine st1 _ ?_
  show Steps p.tables e below (T1.setTop { method := m, pc := pc + 3, locals := ls, stack := .ref T.heap.size :: rest, locked := none }) _
  jvm_step X₁.here [X₁.here.top, hexec, d3', Value.category]
  exact X₁.ldcString hexec (own := own) (text := text) (index := is) (a := sa) hown' hstr'.1 hstr'.2
    (g := { method := m, pc := pc + 4, locals := ls, stack := .ref T.heap.size :: .ref T.heap.size :: rest, locked := none }) rfl d4' _ hsteps
/-- 'throw new E("text")', the text by a wide index -/
theorem vx_throwSW {cc : ByteArray} {pc : Nat} (hexec : p.tables.exec = Jvm.exec) (hb : c.code = cc) (hl : l.stackTraces = false) {own cls text : String} {names : List String} {ik is ic mc ms sa : Nat} {A : Nat → Prop}
    (hown : s.vm.findClass own = some m.cls) (hcls : Bundle.fit cls = true) (hnames : ∀ n ∈ names, Bundle.fit n = true)
    (hk : (Cond.classLink own ik cls).before args s = true) (hini : (Cond.initialized cls).before args s = true) (hstr : vk_R own is text sa s) (hat : ∀ w ∈ vx_atS own ic cls names, w.before args s = true)
    (hgood : ∀ w ∈ Cond.classLink own ik cls :: Cond.initialized cls :: vx_atS own ic cls names, vx_ot w = true)
    (hU : vx_Zq Bundle.tN "UNASSIGNED_STACK" Bundle.steD A s s.heap) (hN : vx_Zq Bundle.tN "SUPPRESSED_SENTINEL" Bundle.listD A s s.heap) (hS : va_S A s.heap H locs) (hsize : ls.size = c.maxLocals)
    (d0 : decode cc pc = .ok (.new ik, 3)) (d3 : decode cc (pc + 3) = .ok (.dup, 1)) (d4 : decode cc (pc + 4) = .ok (.ldc_w is, 3)) (d7 : decode cc (pc + 7) = .ok (.invokespecial ic, 3)) (d10 : decode cc (pc + 10) = .ok (.athrow, 1))
    (hout : ∀ x ∈ c.exceptionTable.toList, covers x (pc + 10) = false)
    (hRframes : names.length + 3 < R.frames) (hRlocals : (rest.map fun v => v.category).sum + (13 * (names.length + 1) + 43) ≤ R.locals) (hRcells : cells + 1 ≤ R.cells) (hRslots : slots + 6 ≤ R.slots) (hlocks : meth.locks = false)
    (hx : ∀ t : State, s.vm.Alike t.vm → H.size ≤ t.heap.size → (∀ q : Nat, q < H.size → t.heap[q]? = H[q]?) → XC cls s t)
    (hf : ∀ z ∈ locs, free z.base) (hc : cells + 1 ≤ mc) (hs : slots + 6 ≤ ms) :
    W p l e R s m args below meth c H locs cells slots (vx_MQ below Qc XC args s mc ms free) (F0 m pc ls rest) := by
  intro T hT X
  have htr : e.platform.stackTraces = false := (show e.platform.stackTraces = l.stackTraces by rw [X.admits.platform]).trans hl
  have Y := vx_rebase X (R' := { frames := R.frames, locals := R.locals, cells := 1, slots := 6 }) (Nat.le_refl _) (Nat.le_refl _) hRcells hRslots
  obtain ⟨s', hA⟩ : ∃ z, z = (T.setVm s.vm).setFrames (.invoking m args :: below) := ⟨_, rfl⟩
  rw [← hA] at Y
  have hvm : s'.vm = s.vm := by rw [hA]; rfl
  have hhp : s'.heap = H := by rw [hA]; exact hT
  have hW0 : s.WarmedH s'.vm := by rw [hvm]; exact State.WarmedH.refl s
  have hat' : ∀ w ∈ vx_atS own ic cls names, w.before args s' = true := fun w hw => vx_ot_at hW0 hvm.symm (hgood w (List.mem_cons_of_mem _ (List.mem_cons_of_mem _ hw))) (hat w hw)
  have hk' : (Cond.classLink own ik cls).before args s' = true := vx_ot_at hW0 hvm.symm (hgood _ List.mem_cons_self) hk
  have hini' : (Cond.initialized cls).before args s' = true := vx_ot_at hW0 hvm.symm (hgood _ (List.mem_cons_of_mem _ List.mem_cons_self)) hini
  have hU' : vx_Zq Bundle.tN "UNASSIGNED_STACK" Bundle.steD A s' s'.heap := by rw [hhp]; exact vx_Zq.moved hW0.alike (hU.kept hS.2.1)
  have hN' : vx_Zq Bundle.tN "SUPPRESSED_SENTINEL" Bundle.listD A s' s'.heap := by rw [hhp]; exact vx_Zq.moved hW0.alike (hN.kept hS.2.1)
  have h : ∀ w ∈ Bundle.ownAtoms own ic cls names, w.before args s' = true := vx_own hat' (vx_isRefq hU'.1) (vx_isRefq hN'.1) hU'.2.word hN'.2.word
  have hown' : s'.vm.findClass own = some m.cls := by rw [hvm]; exact hown
  have hins : (Cond.instantiable cls 6).before args s' = true := h _ (by simp [Bundle.ownAtoms])
  obtain ⟨vm₁, cX, kX, hfX, hkX, -, -, X₁, st1⟩ := Y.newCold hexec (own := own) (C := cls) (index := ik) (n := 6) hown' hk' hins hini'
    (g := F0 m pc ls rest) rfl (by rw [hb]; exact d0) (Nat.le_refl _) (Nat.le_refl _)
  generalize hT1 : (T.setVm vm₁).pushCell { cls := cX, slots := kX.instanceTypes.map defaultValue, vm := .none } = T1 at X₁ st1
  have hcat : (Value.ref T.heap.size).category = 1 := rfl
  have hcellA : T1.heap[T.heap.size]? = some (freshCell cX kX) := by rw [← hT1]; exact State.heap_pushCell_size _ _
  have d3' : decode c.code (pc + 3) = .ok (.dup, 1) := by rw [hb]; exact d3
  have d4' : decode c.code (pc + 4) = .ok (.ldc_w is, 3) := by rw [hb]; exact d4
  have hstr' : vk_R own is text sa s' := vk_R.warm hW0 hstr
  obtain ⟨U, hsteps, hrun, hend, hW, hsame, ce, hce, hO⟩ := X₁.ctorThrowS hexec htr (own := own) (cls := cls) (names := names) (ic := ic) hown' hcls hnames h (fun x hx => nomatch hx) hfX hkX hcellA (by rw [hhp, hT]; exact Nat.le_refl _) (msg := .ref sa) rfl
    (g := { method := m, pc := pc + 7, locals := ls, stack := .ref sa :: .ref T.heap.size :: .ref T.heap.size :: rest, locked := none }) rfl hsize rfl rfl (rest := rest) rfl
    (by rw [hb]; exact d7) (by rw [hb]; exact d10) hout hRframes (by simp only [List.map_cons, List.sum_cons, hcat]; omega) hlocks
  obtain ⟨f1, f2⟩ := vx_frame hsame
  rw [hhp] at f1 f2
  have hWs : s.WarmedH U.vm := State.WarmedH.trans hW0 hW
  have hcl : s.vm.findClass cls = some ce.cls := by
    have h9 := hO.cls
    rw [hvm] at h9
    exact h9
  have hall : s.sameButNew ({ U with vm := s.vm } : State) locs mc ms := by
    subst hA
    obtain ⟨e1, e2⟩ := hsame
    rw [State.setFrames_setFrames] at e1
    have h2 : (T.setVm s.vm).sameButNew ({ U with vm := s.vm } : State) [] (0 + 1) (0 + 6) := ⟨e1, e2⟩
    have h3 := X.same.trans h2
    rw [List.append_nil] at h3
    exact h3.mono hc hs
  refine ⟨U, ?_, .threw T.heap.size, hrun, hend, Or.inr ⟨T.heap.size, rfl, cls, ce, locs, hx U hWs.alike f1 (fun q hq => f2 q hq (fun z hz => nomatch hz)), hce, hO.vm, hcl, hWs, hall, hf⟩⟩
  refine st1 _ ?_
  show Steps p.tables e below (T1.setTop { method := m, pc := pc + 3, locals := ls, stack := .ref T.heap.size :: rest, locked := none }) _
  jvm_step X₁.here [X₁.here.top, hexec, d3', Value.category]
  exact X₁.ldcStringW hexec (own := own) (text := text) (index := is) (a := sa) hown' hstr'.1 hstr'.2
    (g := { method := m, pc := pc + 4, locals := ls, stack := .ref T.heap.size :: .ref T.heap.size :: rest, locked := none }) rfl d4' _ hsteps
end Ends
section Bodies
variable {l : Launch}
theorem vx_ofW {y : MethodName} {ws ws' : List Cond} {rm : Room} {Pc : Array Value → State → Prop} {Qc : Array Value → State → Outcome → State → Prop} {XC : String → State → State → Prop} {mc ms : Nat} {free : Addr → Prop} {cc : ByteArray} {maxL : Nat} {ret : Option FieldType}
    (hy : plainName y.cls = true) (hw : ws = Cond.code y cc maxL ret :: ws')
    (body : ∀ p e s m args below meth c s₁, BodyLoose p l y (headSpec ws rm) cc maxL ret e s m args below meth c s₁ → c.maxLocals = maxL → (∀ x ∈ c.exceptionTable.toList, False) → Pc args s →
      W p l e (headSpec ws rm).room s m args below meth c s.heap [] 0 0 (vx_MQ below Qc XC args s mc ms free) (entryFrame m args maxL)) : vx_Met l y ws rm Pc Qc XC mc ms free := by
  refine MetFree.of_bodyS (code := cc) (maxLocals := maxL) (ret := ret) hy ?_ ?_
  · intro args s m h hn
    obtain ⟨meth, c, h1, h2, h3, h4, h5, h6, -, -⟩ := Cond.code_spec hn (atoms_spec (ws := ws) h _ (by rw [hw]; exact List.mem_cons_self))
    exact ⟨meth, c, h1, h2, h3, h4, h5, h6⟩
  · intro p e s m args below meth c s₁ B hml hP _
    have hh0 : s₁.heap = s.heap := by rw [B.state]; rfl
    have ht : ∀ x ∈ c.exceptionTable.toList, False := by
      obtain ⟨meth9, c9, h1, h2, -, -, -, -, h7, -⟩ := Cond.code_spec B.named (atoms_spec (ws := ws) B.pre _ (by rw [hw]; exact List.mem_cons_self))
      cases Option.some.inj (h1.symm.trans B.method)
      cases Option.some.inj (h2.symm.trans (Stand.of_body B).code)
      intro x hx
      rw [Array.isEmpty_iff.mp h7] at hx
      cases hx
    obtain ⟨t, a1, o, b1, b2, b3⟩ := body p e s m args below meth c s₁ B hml ht hP s₁ hh0 (Stand.of_body B)
    exact ⟨t, o, a1, b1, b2, b3⟩
/-- the table of a body with handlers -/
theorem vx_table {p : Program} {x y : MethodName} {S : Spec} {cc bytes : ByteArray} {maxL maxL' : Nat} {ret ret' : Option FieldType} {e : Env} {s s₁ : State} {m : MethodId} {args : Array Value} {below : List Frame} {meth : Method} {c : Code} {hh : List (Nat × Nat × Nat × Nat)}
    (B : BodyLoose p l y S cc maxL ret e s m args below meth c s₁) (h : (Cond.codeWith y bytes maxL' ret' hh).before args s = true) : c.exceptionTable.toList = tableOf hh := by
  obtain ⟨m9, meth9, c9, hn9, h1, h2, -, -, h6, -⟩ := Cond.codeWith_spec h
  cases Option.some.inj (hn9.symm.trans B.named)
  cases Option.some.inj (h1.symm.trans B.method)
  cases Option.some.inj (h2.symm.trans (Stand.of_body B).code)
  rw [← h6, table_eq]
end Bodies
end VXA
/-! ===== END ===== -/
/-! ===== BEGIN a static call of a method with an exception table ===== -/
section VXS
variable {p : Program} {l : Launch} {e : Env} {R : Room} {s : State} {m : MethodId} {args : Array Value} {below : List Frame} {meth : Method} {c : Code} {T : State} {H : Heap} {locs : List Loc} {cells slots : Nat}
abbrev vx_CSW (R : Room) (s : State) (args : Array Value) (own : String) (index : Nat) (y : MethodName) (bytes : ByteArray) (maxL : Nat) (ret : Option FieldType) (hh : List (Nat × Nat × Nat × Nat)) (ws : List Cond) (rm : Room) (mc ms n : Nat) : Prop :=
  (rm.cells = mc ∧ rm.slots = ms ∧ rm.frames + 1 ≤ R.frames ∧ 8 + (maxL + 11) + rm.locals ≤ R.locals ∧ (∀ w ∈ ws, ∀ (a' : Array Value) (U : State), s.WarmedH U.vm → w.before a' U = true) ∧ Cond.codeWith y bytes maxL ret hh ∈ ws) ∧
  (Cond.codeWith y bytes maxL ret hh).before args s = true ∧ (Cond.initialized y.cls).before args s = true ∧ (y.cls ≠ "java/lang/invoke/MethodHandle" ∧ y.cls ≠ "java/lang/invoke/VarHandle") ∧
  (∀ sig, parseMethodDescriptor y.desc = some sig → n = sig.parameters.length) ∧ (Cond.methodLink own index y).before args s = true ∧ (Cond.static y).before args s = true
theorem vx_cwSW {own : String} {index maxL mc ms : Nat} {y : MethodName} {bytes : ByteArray} {ret : Option FieldType} {hh : List (Nat × Nat × Nat × Nat)} {Ts ws ws' : List Cond} {rm : Room} (n : Nat) (ht : ∀ w ∈ Ts, w.before args s = true) (hT : GoodIn Ts (va_wsS own index y ws)) (hw : ws = Cond.codeWith y bytes maxL ret hh :: ws') (hrc : rm.cells = mc) (hrs : rm.slots = ms)
    (hd : y.cls ≠ "java/lang/invoke/MethodHandle" ∧ y.cls ≠ "java/lang/invoke/VarHandle" ∧ (parseMethodDescriptor y.desc).map (fun d => d.parameters.length) = some n) (hR : rm.frames + 1 ≤ R.frames ∧ 8 + (maxL + 11) + rm.locals ≤ R.locals) :
    vx_CSW R s args own index y bytes maxL ret hh ws rm mc ms n := by
  have ok : ∀ w ∈ va_wsS own index y ws, w.before args s = true := fun w h => ht w (hT w h).1
  have hG : GoodIn Ts ws := fun w h => hT w (by unfold va_wsS; exact List.mem_append_right _ h)
  have hc : Cond.codeWith y bytes maxL ret hh ∈ ws := by rw [hw]; exact List.mem_cons_self
  refine ⟨⟨hrc, hrs, hR.1, hR.2, pay_in ht hG, hc⟩, ht _ (hG _ hc).1, ok _ (by simp [va_wsS]), ⟨hd.1, hd.2.1⟩, fun sig h => ?_, ok _ (by simp [va_wsS]), ok _ (by simp [va_wsS])⟩
  have h2 := hd.2.2
  rw [h] at h2
  exact (Option.some.inj h2).symm
theorem vx_callSW (X : Stand p l e R s m args below meth c T locs cells slots) (hexec : p.tables.exec = Jvm.exec) {own : String} {index : Nat} {y : MethodName} {bytes : ByteArray} {maxL : Nat} {ret : Option FieldType} {hh : List (Nat × Nat × Nat × Nat)}
    (hown : s.vm.findClass own = some m.cls) (hlink : (Cond.methodLink own index y).before args s = true) (hstat : (Cond.static y).before args s = true) (hinit : (Cond.initialized y.cls).before args s = true)
    (hcode : (Cond.codeWith y bytes maxL ret hh).before args s = true) (hy : y.cls ≠ "java/lang/invoke/MethodHandle" ∧ y.cls ≠ "java/lang/invoke/VarHandle")
    {W9 : Nat} {Pre : Pt → Array Value → Prop} {Post : Pt → Array Value → Option Value → Pt → Prop} (hK : Back l R p e below s args y 3 W9 Pre Post)
    {g : JFrame} (hg : g.method = m) (hsize : g.locals.size = c.maxLocals) {argsL rest : List Value} (hlen : ∀ sig, parseMethodDescriptor y.desc = some sig → argsL.length = sig.parameters.length)
    (hstack : g.stack = argsL.reverse ++ rest) (hW : 2 * g.monitorRoom + (rest.map fun v => v.category).sum ≤ W9) (hdg : decode c.code g.pc = .ok (.invokestatic index, 3))
    (hpre : ∀ vm₁, s.WarmedH vm₁ → Pre ⟨T.setVm vm₁, locs, cells, slots⟩ argsL.toArray) :
    ∃ (v : Option Value) (vm₁ : Vm) (B : Pt), s.WarmedH vm₁ ∧ Stand p l e R s m args below meth c B.U B.locs B.cells B.slots ∧ Post ⟨T.setVm vm₁, locs, cells, slots⟩ argsL.toArray v B ∧
      ∀ target, Steps p.tables e below (B.U.setTop { g with pc := g.pc + 3, stack := v.toList ++ rest }) target → Steps p.tables e below (T.setTop g) target := by
  obtain ⟨mk, methM, cM, hnamed, hmethM, -, -, -, -, -, -, hsigM⟩ := Cond.codeWith_spec hcode
  have hstatic : methM.isStatic = true := Cond.static_spec hnamed hmethM hstat
  obtain ⟨kP, hkP, -⟩ := className_of_methodNamed hnamed
  have hinitP : kP.init = .initialized := Cond.initialized_spec (findClass_of_methodNamed hnamed) hkP hinit
  obtain ⟨vm₁, X₁, hstep₁⟩ := X.invokestatic hexec hown hlink hnamed hmethM hstatic hkP hinitP hy (g := g) hg (argsL := argsL) (rest := rest) (hlen _ hsigM) hstack hdg
  obtain ⟨v, B, X', hpost, hsteps⟩ := hK m meth c ⟨T.setVm vm₁, locs, cells, slots⟩ { g with stack := rest } (.invokestatic index) mk argsL.toArray X₁ hg hsize hdg hW (X₁.named hnamed) (hpre vm₁ X₁.warmed)
  exact ⟨v, vm₁, B, X₁.warmed, X', hpost, fun target h => hstep₁ _ fun acts => by rw [doInvoke_state]; exact hsteps.trans h⟩
theorem vx_runSW {y : MethodName} {bytes cc : ByteArray} {maxL nL mc ms n index : Nat} {ret : Option FieldType} {hh : List (Nat × Nat × Nat × Nat)} {ws : List Cond} {rm : Room} {Pc : Array Value → State → Prop} {Qc : Array Value → State → Outcome → State → Prop} {free : Addr → Prop} {Ts : List Cond} {own : String} {As rest : List Value} {g : JFrame}
    (S : CallFix p m c cc nL s args Ts own) (hM : Met l y ws rm Pc Qc mc ms free) (cw : vx_CSW R s args own index y bytes maxL ret hh ws rm mc ms n) (hp : PreS s H Pc As)
    (hg : g.method = m) (hn : As.length = n) (hsize : g.locals.size = nL) (hstack : g.stack = As.reverse ++ rest) (hW : 2 * g.monitorRoom + (rest.map fun v => v.category).sum ≤ 8) (hdg : decode cc g.pc = .ok (.invokestatic index, 3)) (hf : cells + mc ≤ R.cells ∧ slots + ms ≤ R.slots) :
    va_Run p l e R s m args below meth c H locs cells slots mc ms g rest (Qc As.toArray) (free) := by
  obtain ⟨⟨hrc, hrs, hfr, hlo, hws, hcw⟩, hcode, hini, hy, hlen, hl, hstt⟩ := cw
  have hK : Back l R p e below s args y 3 8 (PreOf R mc ms Pc) (PostOf Qc mc ms free) := va_backW (hh := hh) (bytes := bytes) (maxL := maxL) (ret := ret) hM hp.1 hrc hrs hfr hlo hws hcw (fun a' U hW => word_at hW (Or.inl (by first | rfl | simp [Cond.onTables, Cond.keeps, Cond.steady])) hini)
  obtain ⟨hx, hb, hml, ho, -⟩ := S
  intro T hT X
  obtain ⟨v, vm₁, ⟨U', l2, c2, s2⟩, hW₁, X', ⟨g', mk, t, L, e1, e2, hq, h1, hL, h2, h3⟩, st⟩ := vx_callSW X hx (hh := hh) (bytes := bytes) (maxL := maxL) (ret := ret) ho hl hstt hini hcode hy hK hg (hsize.trans hml.symm) (argsL := As) (rest := rest) (fun sig h => hn.trans (hlen sig h)) hstack hW (by rw [hb]; exact hdg)
    (fun vm₁ hW₁ => ⟨hf.1, hf.2, hp.2 (T.setVm vm₁) hT hW₁⟩)
  dsimp only [Pt.U, Pt.locs, Pt.cells, Pt.slots] at X' e1 e2 h1 h2 h3 st
  subst h1; subst h2; subst h3
  exact ⟨v, (T.setVm vm₁).calling g' mk As.toArray, t, U', L, hT, X', hL, e1, e2, hq, st⟩
/-- not caught here, past rows that name other classes: it goes on to the caller -/
theorem vx_outP {p : Program} {l : Launch} {e : Env} {R : Room} {s : State} {m : MethodId} {args : Array Value} {below : List Frame} {meth : Method} {c : Code} {H : Heap} {locs : List Loc} {cells slots : Nat} {free : Addr → Prop} {ls : Array Slot} {rest : List Value} {Qc : Array Value → State → Outcome → State → Prop} {XC : String → State → State → Prop}
    {pc : Nat} {own E : String} {ce : Cell} {q : Addr} {mc ms : Nat} (hown : s.vm.findClass own = some m.cls) (hlocks : meth.locks = false)
    (hpass : ∀ z ∈ c.exceptionTable.toList, covers z pc = false ∨ (z.catchType ≠ 0 ∧ ∃ nm : String, (Cond.classLink own z.catchType nm).before args s = true ∧ va_Nc E nm s)) (hcell : H[q]? = some ce) (hv : ce.vm = .none) (hcl : s.vm.findClass E = some ce.cls)
    (hx : ∀ t : State, t.heap = H → s.vm.Alike t.vm → XC E s t) (hf : ∀ z ∈ locs, free z.base) (hc : cells ≤ mc) (hs : slots ≤ ms) :
    vx_W p l e R s m args below meth c H locs cells slots (vx_MQ below Qc XC args s mc ms free) (F0 m pc ls rest) q := by
  intro T hT X
  have hpl : e.platform.magicAccessors = ({} : Platform).magicAccessors := by rw [X.admits.platform]
  obtain ⟨vm', hW', X', st⟩ := X.outThrough hlocks q (g := F0 m pc ls rest) rfl rfl rfl (cell := ce) (by rw [hT]; exact hcell) (by rw [hv]; rfl)
    (by obtain ⟨k9, h9, -⟩ := Vm.findClass_spec hcl; exact ⟨k9, h9⟩) (fun z hz => by
      rcases hpass z hz with h | ⟨hz0, nm, hl1, hn1⟩
      · exact Or.inl h
      · obtain ⟨c6, hc6, hcl6⟩ := Cond.classLink_spec hown hl1 e.platform hpl
        obtain ⟨a8, b8, h1, h2, h3⟩ := hn1
        cases Option.some.inj (h1.symm.trans hcl)
        cases Option.some.inj (h2.symm.trans hc6)
        exact Or.inr ⟨hz0, _, hcl6, h3⟩)
  obtain ⟨g₀, hfr⟩ := X'.frames_eq
  have hcell9 : ((T.setVm vm').setFrames (.throwing q :: below)).heap[q]? = some ce := by
    show T.heap[q]? = some ce
    rw [hT]; exact hcell
  have hend : Ended ((T.setVm vm').setFrames (.throwing q :: below)) below (.threw q) := State.frames_setFrames _ (State.cur_lt_of_frames hfr)
  refine ⟨(T.setVm vm').setFrames (.throwing q :: below), ?_, .threw q, X'.here.running, hend, Or.inr ⟨q, rfl, E, ce, locs, hx _ hT (X'.ends _).1.alike, hcell9, hv, hcl, (X'.ends _).1, (X'.ends _).2.mono hc hs, hf⟩⟩
  rw [X.pushThrowing_eq]
  exact st
/-- a thing of a world lies in the heap -/
theorem vx_lt {D : va_G} {cl : List vw_C} {ws : va_W} {H1 : Heap} (h : va_P D cl ws H1) {k : Nat} {q : Nat × va_E} (hk : ws[k]? = some q) : q.1 < H1.size := (h k q hk).lt
end VXS
/-! ===== END ===== -/
/-! ===== BEGIN methods with a table of their own: called by a name, returning or throwing ===== -/
section VXH
/-! vx_backW, vx_callVX, vx_callSX, vx_callVW, vx_runVW, vx_runVX, vx_runSX, vx_ofWH follow the same proofs as their sisters above (Free/Laws.lean, Shelf42/LK1.lean); vx_outP calls Shelf42/NT130.lean (outThrough). -/
section
variable {l : Launch} {R : Room} {p : Program} {e : Env} {below : List Frame} {s : State} {sargs : Array Value} {y : MethodName} {len W9 : Nat}
theorem vx_backW {ws : List Cond} {rm : Room} {Pc : Array Value → State → Prop} {Qc : Array Value → State → Outcome → State → Prop} {XC : String → State → State → Prop} {mc ms : Nat} {free : Addr → Prop} {bytes : ByteArray} {maxL : Nat} {ret : Option FieldType} {hh : List (Nat × Nat × Nat × Nat)}
    (hM : vx_Met l y ws rm Pc Qc XC mc ms free) (hblind : FrameBlind Pc) (hrc : rm.cells = mc) (hrs : rm.slots = ms)
    (hframes : rm.frames + 1 ≤ R.frames) (hlocals : W9 + (maxL + 11) + rm.locals ≤ R.locals)
    (hws : ∀ w ∈ ws, ∀ a' U, s.WarmedH U.vm → w.before a' U = true) (hcode : Cond.codeWith y bytes maxL ret hh ∈ ws) (hinit : ∀ a' U, s.WarmedH U.vm → (Cond.initialized y.cls).before a' U = true) :
    vx_Back l R p e below s sargs y len W9 (PreOf R mc ms Pc) (PostOf Qc mc ms free) (vx_Post XC mc ms free) := by
  intro m meth c A g ig mk a X hg hsize hdg hW hn hp
  have h1 : (headSpec ws rm).pre.before a A.U = true := atoms_intro fun w hw => hws w hw _ _ X.warmed
  have h2 : (Cond.codeWith y bytes maxL ret hh).before a A.U = true := hws _ hcode _ _ X.warmed
  have h3 : (Cond.initialized y.cls).before a A.U = true := hinit _ _ X.warmed
  have h4 : A.cells + (headSpec ws rm).room.cells ≤ R.cells := by rw [show (headSpec ws rm).room.cells = mc from hrc]; exact hp.1
  have h5 : A.slots + (headSpec ws rm).room.slots ≤ R.slots := by rw [show (headSpec ws rm).room.slots = ms from hrs]; exact hp.2.1
  have hPc : Pc a (A.U.calling g mk a) := hblind _ _ _ _ hp.2.2
  obtain ⟨U, Ls, c0, s0⟩ := A
  dsimp only [Pt.U, Pt.locs, Pt.cells, Pt.slots] at h1 h2 h3 h4 h5 X hn hPc ⊢
  obtain ⟨m9, methY, cY, hn9, hmY, hcY, -, hlY, -⟩ := Cond.codeWith_spec h2
  cases Option.some.inj (hn9.symm.trans hn)
  obtain ⟨kY, hkY, -⟩ := className_of_methodNamed hn
  have hinitY : kY.init = .initialized := Cond.initialized_spec (findClass_of_methodNamed hn) hkY h3
  have h : At U g.method c below := by rw [hg]; exact X.here
  have hlocals9 : W9 + (maxL + 11) + (headSpec ws rm).room.locals ≤ R.locals := hlocals
  have happ : (headSpec ws rm).appliesLoose y e.platform (U.calling g mk a) = true :=
    Spec.appliesLoose_calling (g := g) h hdg hn hkY hinitY
      (X.room_calling (g := g) (R' := (headSpec ws rm).room) hsize hmY hcY hframes (by rw [hlY]; omega) h4 h5) h1
  obtain ⟨mid, hmid⟩ := h.above
  have hfr : (U.setTop g).frames = (.java g :: mid) ++ below := by rw [State.frames_setTop' g h.top, hmid]; rfl
  obtain ⟨o, s₂, hsteps, -, hend, hq⟩ := Steps.callFree hM p X.admits X.cas X.clock (acts := []) hfr happ hPc trivial
  have hq' : vx_Q Qc XC mc ms free a (U.calling g mk a) o s₂ := hq
  rw [State.frames_setTop' g h.top] at hend
  obtain ⟨g₀, hg0⟩ := Option.isSome_iff_exists.mp h.top
  obtain ⟨r, hr⟩ := State.topJava?_eq_some.mp hg0
  have hr' : (({ U with heap := s₂.heap, slotsUsed := s₂.slotsUsed } : State).setVm s₂.vm).frames = .java g₀ :: r := hr
  rcases hq' with ⟨hqc, L, hfe, hL⟩ | ⟨q, rfl, E, ce, L, hx, hce, hcv, hcl, hW₂, hsm, hL⟩
  · obtain ⟨⟨v, rfl⟩, hW₂, e2, q2, q3, q4, q5, q6⟩ := id hfe
    have e3 : s₂ = ({ (U.calling g mk a).setFrames s₂.frames with heap := s₂.heap, slotsUsed := s₂.slotsUsed } : State).setVm s₂.vm := by
      have : s₂ = ({ s₂ with vm := (U.calling g mk a).vm } : State).setVm s₂.vm := rfl
      rw [e2] at this
      exact this
    obtain ⟨c₂, i₂, len₂, hc₂, hd₂, hf₂⟩ := hend
    have hW' : U.WarmedH s₂.vm := hW₂
    have hcc : c₂ = c := by
      have h1 : s₂.code? g.method = U.code? g.method := by
        rw [State.code?_eq, State.code?_eq, hW'.alike.method?]
      exact Option.some.inj (hc₂.symm.trans (h1.trans h.code))
    subst hcc
    have hlen : len₂ = len := by rw [hdg] at hd₂; cases hd₂; rfl
    subst hlen
    have hs₂ : s₂ = (({ U with heap := s₂.heap, slotsUsed := s₂.slotsUsed } : State).setVm s₂.vm).setTop { g with pc := g.pc + len₂, stack := v.toList ++ g.stack } := by
      refine e3.trans ?_
      rw [hf₂, State.calling_eq h.top, State.setFrames_setFrames, State.setTop_of_frames _ hr', hr]
      rfl
    have hsame : U.sameButNew ({ U with heap := s₂.heap, slotsUsed := s₂.slotsUsed } : State) L mc ms := by
      refine ⟨?_, q2, q3, q4, q5, q6⟩
      obtain ⟨t, ht, -⟩ := State.frames_cons hr
      show ({ U with heap := s₂.heap, slotsUsed := s₂.slotsUsed } : State) = { U.setFrames U.frames with heap := s₂.heap, slotsUsed := s₂.slotsUsed }
      rw [State.setFrames_self ht]
    subst hg
    refine Or.inl ⟨v, ⟨(({ U with heap := s₂.heap, slotsUsed := s₂.slotsUsed } : State).setVm s₂.vm), Ls ++ L, c0 + mc, s0 + ms⟩,
      ⟨X.admits, X.cas, X.clock, X.frames, X.room, X.hears, X.method, X.code, (X.here.setHeapUsed s₂.heap s₂.slotsUsed).setVm hW'.alike, X.tail, State.WarmedH.trans X.warmed hW', X.limits, X.bytes, X.same.trans (hsame.setVm s.vm)⟩,
      ⟨g, mk, s₂, L, rfl, rfl, hqc, rfl, hL, rfl, rfl⟩, ?_⟩
    show Steps p.tables e below _ ((({ U with heap := s₂.heap, slotsUsed := s₂.slotsUsed } : State).setVm s₂.vm).setTop { g with pc := g.pc + len₂, stack := v.toList ++ g.stack })
    rw [← hs₂]
    exact hsteps
  · obtain ⟨e2, q2, q3, q4, q5, q6⟩ := id hsm
    have e3 : s₂ = ({ (U.calling g mk a).setFrames s₂.frames with heap := s₂.heap, slotsUsed := s₂.slotsUsed } : State).setVm s₂.vm := by
      have : s₂ = ({ s₂ with vm := (U.calling g mk a).vm } : State).setVm s₂.vm := rfl
      rw [e2] at this
      exact this
    have hf₂ : s₂.frames = .throwing q :: .java g :: U.frames.tail := hend
    have hW' : U.WarmedH s₂.vm := hW₂
    have hs₂ : s₂ = ((({ U with heap := s₂.heap, slotsUsed := s₂.slotsUsed } : State).setVm s₂.vm).setTop g).pushFrame (.throwing q) := by
      refine e3.trans ?_
      rw [hf₂, State.calling_eq h.top, State.setFrames_setFrames, State.pushFrame, State.frames_setTop _ hr', State.setTop_of_frames _ hr', State.setFrames_setFrames, hr]
      rfl
    have hsame : U.sameButNew ({ U with heap := s₂.heap, slotsUsed := s₂.slotsUsed } : State) L mc ms := by
      refine ⟨?_, q2, q3, q4, q5, q6⟩
      obtain ⟨t, ht, -⟩ := State.frames_cons hr
      show ({ U with heap := s₂.heap, slotsUsed := s₂.slotsUsed } : State) = { U.setFrames U.frames with heap := s₂.heap, slotsUsed := s₂.slotsUsed }
      rw [State.setFrames_self ht]
    subst hg
    refine Or.inr ⟨q, ⟨(({ U with heap := s₂.heap, slotsUsed := s₂.slotsUsed } : State).setVm s₂.vm), Ls ++ L, c0 + mc, s0 + ms⟩,
      ⟨X.admits, X.cas, X.clock, X.frames, X.room, X.hears, X.method, X.code, (X.here.setHeapUsed s₂.heap s₂.slotsUsed).setVm hW'.alike, X.tail, State.WarmedH.trans X.warmed hW', X.limits, X.bytes, X.same.trans (hsame.setVm s.vm)⟩,
      ⟨g, mk, s₂, L, E, ce, rfl, rfl, hx, hce, hcv, hcl, rfl, hL, rfl, rfl⟩, ?_⟩
    show Steps p.tables e below _ (((({ U with heap := s₂.heap, slotsUsed := s₂.slotsUsed } : State).setVm s₂.vm).setTop g).pushFrame (.throwing q))
    rw [← hs₂]
    exact hsteps
end
variable {p : Program} {l : Launch} {e : Env} {R : Room} {s : State} {m : MethodId} {args : Array Value} {below : List Frame} {meth : Method} {c : Code} {T : State} {H : Heap} {locs : List Loc} {cells slots : Nat}
theorem vx_callVX (X : Stand p l e R s m args below meth c T locs cells slots) (hexec : p.tables.exec = Jvm.exec) {own C : String} {index : Nat} {y : MethodName} {bytes : ByteArray} {maxL : Nat} {ret : Option FieldType} {hh : List (Nat × Nat × Nat × Nat)}
    (hown : s.vm.findClass own = some m.cls) (hlink : (Cond.methodLink own index y).before args s = true) (hinst : (Cond.instanceMethod y).before args s = true) (hsel : (Cond.selects C y y).before args s = true)
    (hcode : (Cond.codeWith y bytes maxL ret hh).before args s = true) (hy : y.cls ≠ "java/lang/invoke/MethodHandle" ∧ y.cls ≠ "java/lang/invoke/VarHandle")
    {W9 : Nat} {Pre : Pt → Array Value → Prop} {Post : Pt → Array Value → Option Value → Pt → Prop} {PostX : Pt → Array Value → Addr → Pt → Prop} (hK : vx_Back l R p e below s args y 3 W9 Pre Post PostX)
    {b : Addr} {cellB : Cell} (hcell : T.heap[b]? = some cellB) (hobj : cellB.vm.isStatics = false) (hcls : s.vm.findClass C = some cellB.cls)
    {g : JFrame} (hg : g.method = m) (hsize : g.locals.size = c.maxLocals) {argsL rest : List Value} (hlen : ∀ sig, parseMethodDescriptor y.desc = some sig → argsL.length = sig.parameters.length)
    (hstack : g.stack = argsL.reverse ++ .ref b :: rest) (hW : 2 * g.monitorRoom + (rest.map fun v => v.category).sum ≤ W9) (hdg : decode c.code g.pc = .ok (.invokevirtual index, 3))
    (hpre : ∀ vm₁, s.WarmedH vm₁ → Pre ⟨T.setVm vm₁, locs, cells, slots⟩ (Value.ref b :: argsL).toArray) :
    (∃ (v : Option Value) (vm₁ : Vm) (B : Pt), s.WarmedH vm₁ ∧ Stand p l e R s m args below meth c B.U B.locs B.cells B.slots ∧ Post ⟨T.setVm vm₁, locs, cells, slots⟩ (Value.ref b :: argsL).toArray v B ∧
      ∀ target, Steps p.tables e below (B.U.setTop { g with pc := g.pc + 3, stack := v.toList ++ rest }) target → Steps p.tables e below (T.setTop g) target) ∨
    (∃ (q : Addr) (vm₁ : Vm) (B : Pt), s.WarmedH vm₁ ∧ Stand p l e R s m args below meth c B.U B.locs B.cells B.slots ∧ PostX ⟨T.setVm vm₁, locs, cells, slots⟩ (Value.ref b :: argsL).toArray q B ∧
      Steps p.tables e below (T.setTop g) ((B.U.setTop { g with stack := rest }).pushFrame (.throwing q))) := by
  obtain ⟨mk, methM, hnamed, hmethM, hstM, habM⟩ := Cond.instanceMethod_spec hinst
  obtain ⟨m8, methM', cM, hn8, hmethM', -, -, -, -, -, -, hsigM⟩ := Cond.codeWith_spec hcode
  cases Option.some.inj (hn8.symm.trans hnamed)
  cases hmethM.symm.trans hmethM'
  obtain ⟨c2, r2, m2, q1, q2, q3, q4, kP, hkP, hkPi⟩ := Cond.selects_spec hsel
  cases hcls.symm.trans q1
  cases (State.methodFound?_of_named hnamed hy).symm.trans q2
  cases hnamed.symm.trans q3
  have hselP : selectMethod e.platform s.vm cellB.cls mk = .method mk := by rw [Launch.admits_selectMethod X.admits]; exact q4
  obtain ⟨vm₁, X₁, hstep₁⟩ := X.invokevirtual hexec hown hlink hnamed hmethM hstM hkP hkPi hy (a := b) (cell := cellB) hcell
    (fun z h => by rw [h] at hobj; cases hobj) hselP hmethM habM hkP hkPi (g := g) hg (argsL := argsL) (rest := rest) (hlen _ hsigM) hstack hdg
  rcases hK m meth c ⟨T.setVm vm₁, locs, cells, slots⟩ { g with stack := rest } (.invokevirtual index) mk (Value.ref b :: argsL).toArray X₁ hg hsize hdg hW (X₁.named hnamed) (hpre vm₁ X₁.warmed) with ⟨v, B, X', hpost, hsteps⟩ | ⟨q, B, X', hpost, hsteps⟩
  · exact Or.inl ⟨v, vm₁, B, X₁.warmed, X', hpost, fun target h => hstep₁ _ fun acts => by rw [doInvoke_state]; exact hsteps.trans h⟩
  · exact Or.inr ⟨q, vm₁, B, X₁.warmed, X', hpost, hstep₁ _ fun acts => by rw [doInvoke_state]; exact hsteps⟩
theorem vx_callSX (X : Stand p l e R s m args below meth c T locs cells slots) (hexec : p.tables.exec = Jvm.exec) {own : String} {index : Nat} {y : MethodName} {bytes : ByteArray} {maxL : Nat} {ret : Option FieldType} {hh : List (Nat × Nat × Nat × Nat)}
    (hown : s.vm.findClass own = some m.cls) (hlink : (Cond.methodLink own index y).before args s = true) (hstat : (Cond.static y).before args s = true) (hinit : (Cond.initialized y.cls).before args s = true)
    (hcode : (Cond.codeWith y bytes maxL ret hh).before args s = true) (hy : y.cls ≠ "java/lang/invoke/MethodHandle" ∧ y.cls ≠ "java/lang/invoke/VarHandle")
    {W9 : Nat} {Pre : Pt → Array Value → Prop} {Post : Pt → Array Value → Option Value → Pt → Prop} {PostX : Pt → Array Value → Addr → Pt → Prop} (hK : vx_Back l R p e below s args y 3 W9 Pre Post PostX)
    {g : JFrame} (hg : g.method = m) (hsize : g.locals.size = c.maxLocals) {argsL rest : List Value} (hlen : ∀ sig, parseMethodDescriptor y.desc = some sig → argsL.length = sig.parameters.length)
    (hstack : g.stack = argsL.reverse ++ rest) (hW : 2 * g.monitorRoom + (rest.map fun v => v.category).sum ≤ W9) (hdg : decode c.code g.pc = .ok (.invokestatic index, 3))
    (hpre : ∀ vm₁, s.WarmedH vm₁ → Pre ⟨T.setVm vm₁, locs, cells, slots⟩ argsL.toArray) :
    (∃ (v : Option Value) (vm₁ : Vm) (B : Pt), s.WarmedH vm₁ ∧ Stand p l e R s m args below meth c B.U B.locs B.cells B.slots ∧ Post ⟨T.setVm vm₁, locs, cells, slots⟩ argsL.toArray v B ∧
      ∀ target, Steps p.tables e below (B.U.setTop { g with pc := g.pc + 3, stack := v.toList ++ rest }) target → Steps p.tables e below (T.setTop g) target) ∨
    (∃ (q : Addr) (vm₁ : Vm) (B : Pt), s.WarmedH vm₁ ∧ Stand p l e R s m args below meth c B.U B.locs B.cells B.slots ∧ PostX ⟨T.setVm vm₁, locs, cells, slots⟩ argsL.toArray q B ∧
      Steps p.tables e below (T.setTop g) ((B.U.setTop { g with stack := rest }).pushFrame (.throwing q))) := by
  obtain ⟨mk, methM, cM, hnamed, hmethM, -, -, -, -, -, -, hsigM⟩ := Cond.codeWith_spec hcode
  have hstatic : methM.isStatic = true := Cond.static_spec hnamed hmethM hstat
  obtain ⟨kP, hkP, -⟩ := className_of_methodNamed hnamed
  have hinitP : kP.init = .initialized := Cond.initialized_spec (findClass_of_methodNamed hnamed) hkP hinit
  obtain ⟨vm₁, X₁, hstep₁⟩ := X.invokestatic hexec hown hlink hnamed hmethM hstatic hkP hinitP hy (g := g) hg (argsL := argsL) (rest := rest) (hlen _ hsigM) hstack hdg
  rcases hK m meth c ⟨T.setVm vm₁, locs, cells, slots⟩ { g with stack := rest } (.invokestatic index) mk argsL.toArray X₁ hg hsize hdg hW (X₁.named hnamed) (hpre vm₁ X₁.warmed) with ⟨v, B, X', hpost, hsteps⟩ | ⟨q, B, X', hpost, hsteps⟩
  · exact Or.inl ⟨v, vm₁, B, X₁.warmed, X', hpost, fun target h => hstep₁ _ fun acts => by rw [doInvoke_state]; exact hsteps.trans h⟩
  · exact Or.inr ⟨q, vm₁, B, X₁.warmed, X', hpost, hstep₁ _ fun acts => by rw [doInvoke_state]; exact hsteps⟩
theorem vx_callVW (X : Stand p l e R s m args below meth c T locs cells slots) (hexec : p.tables.exec = Jvm.exec) {own C : String} {index : Nat} {y : MethodName} {bytes : ByteArray} {maxL : Nat} {ret : Option FieldType} {hh : List (Nat × Nat × Nat × Nat)}
    (hown : s.vm.findClass own = some m.cls) (hlink : (Cond.methodLink own index y).before args s = true) (hinst : (Cond.instanceMethod y).before args s = true) (hsel : (Cond.selects C y y).before args s = true)
    (hcode : (Cond.codeWith y bytes maxL ret hh).before args s = true) (hy : y.cls ≠ "java/lang/invoke/MethodHandle" ∧ y.cls ≠ "java/lang/invoke/VarHandle")
    {W9 : Nat} {Pre : Pt → Array Value → Prop} {Post : Pt → Array Value → Option Value → Pt → Prop} (hK : Back l R p e below s args y 3 W9 Pre Post)
    {b : Addr} {cellB : Cell} (hcell : T.heap[b]? = some cellB) (hobj : cellB.vm.isStatics = false) (hcls : s.vm.findClass C = some cellB.cls)
    {g : JFrame} (hg : g.method = m) (hsize : g.locals.size = c.maxLocals) {argsL rest : List Value} (hlen : ∀ sig, parseMethodDescriptor y.desc = some sig → argsL.length = sig.parameters.length)
    (hstack : g.stack = argsL.reverse ++ .ref b :: rest) (hW : 2 * g.monitorRoom + (rest.map fun v => v.category).sum ≤ W9) (hdg : decode c.code g.pc = .ok (.invokevirtual index, 3))
    (hpre : ∀ vm₁, s.WarmedH vm₁ → Pre ⟨T.setVm vm₁, locs, cells, slots⟩ (Value.ref b :: argsL).toArray) :
    ∃ (v : Option Value) (vm₁ : Vm) (B : Pt), s.WarmedH vm₁ ∧ Stand p l e R s m args below meth c B.U B.locs B.cells B.slots ∧ Post ⟨T.setVm vm₁, locs, cells, slots⟩ (Value.ref b :: argsL).toArray v B ∧
      ∀ target, Steps p.tables e below (B.U.setTop { g with pc := g.pc + 3, stack := v.toList ++ rest }) target → Steps p.tables e below (T.setTop g) target := by
  obtain ⟨mk, methM, hnamed, hmethM, hstM, habM⟩ := Cond.instanceMethod_spec hinst
  obtain ⟨m8, methM', cM, hn8, hmethM', -, -, -, -, -, -, hsigM⟩ := Cond.codeWith_spec hcode
  cases Option.some.inj (hn8.symm.trans hnamed)
  cases hmethM.symm.trans hmethM'
  obtain ⟨c2, r2, m2, q1, q2, q3, q4, kP, hkP, hkPi⟩ := Cond.selects_spec hsel
  cases hcls.symm.trans q1
  cases (State.methodFound?_of_named hnamed hy).symm.trans q2
  cases hnamed.symm.trans q3
  have hselP : selectMethod e.platform s.vm cellB.cls mk = .method mk := by rw [Launch.admits_selectMethod X.admits]; exact q4
  obtain ⟨vm₁, X₁, hstep₁⟩ := X.invokevirtual hexec hown hlink hnamed hmethM hstM hkP hkPi hy (a := b) (cell := cellB) hcell
    (fun z h => by rw [h] at hobj; cases hobj) hselP hmethM habM hkP hkPi (g := g) hg (argsL := argsL) (rest := rest) (hlen _ hsigM) hstack hdg
  obtain ⟨v, B, X', hpost, hsteps⟩ := hK m meth c ⟨T.setVm vm₁, locs, cells, slots⟩ { g with stack := rest } (.invokevirtual index) mk (Value.ref b :: argsL).toArray X₁ hg hsize hdg hW (X₁.named hnamed) (hpre vm₁ X₁.warmed)
  exact ⟨v, vm₁, B, X₁.warmed, X', hpost, fun target h => hstep₁ _ fun acts => by rw [doInvoke_state]; exact hsteps.trans h⟩
abbrev vx_CVW (R : Room) (s : State) (args : Array Value) (own C : String) (index : Nat) (y : MethodName) (bytes : ByteArray) (maxL : Nat) (ret : Option FieldType) (hh : List (Nat × Nat × Nat × Nat)) (ws : List Cond) (rm : Room) (mc ms n : Nat) : Prop :=
  (rm.cells = mc ∧ rm.slots = ms ∧ rm.frames + 1 ≤ R.frames ∧ 8 + (maxL + 11) + rm.locals ≤ R.locals ∧ (∀ w ∈ ws, ∀ (a' : Array Value) (U : State), s.WarmedH U.vm → w.before a' U = true) ∧ Cond.codeWith y bytes maxL ret hh ∈ ws) ∧
  (Cond.codeWith y bytes maxL ret hh).before args s = true ∧ (Cond.initialized y.cls).before args s = true ∧ (y.cls ≠ "java/lang/invoke/MethodHandle" ∧ y.cls ≠ "java/lang/invoke/VarHandle") ∧
  (∀ sig, parseMethodDescriptor y.desc = some sig → n = sig.parameters.length) ∧ (Cond.methodLink own index y).before args s = true ∧ (Cond.instanceMethod y).before args s = true ∧ (Cond.selects C y y).before args s = true
theorem vx_cwVW {own C : String} {index maxL mc ms : Nat} {y : MethodName} {bytes : ByteArray} {ret : Option FieldType} {hh : List (Nat × Nat × Nat × Nat)} {Ts ws ws' : List Cond} {rm : Room} (n : Nat) (ht : ∀ w ∈ Ts, w.before args s = true) (hT : GoodIn Ts (wsV own index C y ws)) (hw : ws = Cond.codeWith y bytes maxL ret hh :: ws') (hrc : rm.cells = mc) (hrs : rm.slots = ms)
    (hd : y.cls = C ∧ y.cls ≠ "java/lang/invoke/MethodHandle" ∧ y.cls ≠ "java/lang/invoke/VarHandle" ∧ (parseMethodDescriptor y.desc).map (fun d => d.parameters.length) = some n) (hR : rm.frames + 1 ≤ R.frames ∧ 8 + (maxL + 11) + rm.locals ≤ R.locals) :
    vx_CVW R s args own C index y bytes maxL ret hh ws rm mc ms n := by
  obtain ⟨hC, hd⟩ := hd
  subst hC
  have ok : ∀ w ∈ wsV own index y.cls y ws, w.before args s = true := fun w h => ht w (hT w h).1
  have hG : GoodIn Ts ws := fun w h => hT w (by unfold wsV; exact List.mem_append_right _ h)
  have hc : Cond.codeWith y bytes maxL ret hh ∈ ws := by rw [hw]; exact List.mem_cons_self
  refine ⟨⟨hrc, hrs, hR.1, hR.2, pay_in ht hG, hc⟩, ht _ (hG _ hc).1, ok _ (by simp [wsV]), ⟨hd.1, hd.2.1⟩, fun sig h => ?_, ok _ (by simp [wsV]), ok _ (by simp [wsV]), ok _ (by simp [wsV])⟩
  have h2 := hd.2.2
  rw [h] at h2
  exact (Option.some.inj h2).symm
theorem vx_runVW {y : MethodName} {bytes cc : ByteArray} {maxL nL mc ms n index : Nat} {ret : Option FieldType} {hh : List (Nat × Nat × Nat × Nat)} {ws : List Cond} {rm : Room} {Pc : Array Value → State → Prop} {Qc : Array Value → State → Outcome → State → Prop} {free : Addr → Prop} {Ts : List Cond} {own C : String} {b : Addr} {As rest : List Value} {g : JFrame}
    (S : CallFix p m c cc nL s args Ts own) (hM : Met l y ws rm Pc Qc mc ms free) (cw : vx_CVW R s args own C index y bytes maxL ret hh ws rm mc ms n) (hp : PreV s H C b Pc As)
    (hg : g.method = m) (hn : As.length = n) (hsize : g.locals.size = nL) (hstack : g.stack = As.reverse ++ .ref b :: rest) (hW : 2 * g.monitorRoom + (rest.map fun v => v.category).sum ≤ 8) (hdg : decode cc g.pc = .ok (.invokevirtual index, 3)) (hf : cells + mc ≤ R.cells ∧ slots + ms ≤ R.slots) :
    va_Run p l e R s m args below meth c H locs cells slots mc ms g rest (Qc (Value.ref b :: As).toArray) free := by
  obtain ⟨⟨hrc, hrs, hfr, hlo, hws, hcw⟩, hcode, hini, hy, hlen, hl, hin, hse⟩ := cw
  have hK : Back l R p e below s args y 3 8 (PreOf R mc ms Pc) (PostOf Qc mc ms free) := va_backW (hh := hh) (bytes := bytes) (maxL := maxL) (ret := ret) hM hp.1 hrc hrs hfr hlo hws hcw (fun a' U hW => word_at hW (Or.inl (by first | rfl | simp [Cond.onTables, Cond.keeps, Cond.steady])) hini)
  obtain ⟨hx, hb, hml, ho, -⟩ := S
  obtain ⟨-, ⟨cellB, hcB, hoB, hclB⟩, hPc⟩ := hp
  intro T hT X
  obtain ⟨v, vm₁, ⟨U', l2, c2, s2⟩, hW₁, X', ⟨g', mk, t, L, e1, e2, hq, h1, hL, h2, h3⟩, st⟩ := vx_callVW X hx (C := C) (hh := hh) (bytes := bytes) (maxL := maxL) (ret := ret) ho hl hin hse hcode hy hK (by rw [hT]; exact hcB) hoB hclB hg (hsize.trans hml.symm) (argsL := As) (rest := rest) (fun sig h => hn.trans (hlen sig h)) hstack hW (by rw [hb]; exact hdg)
    (fun vm₁ hW₁ => ⟨hf.1, hf.2, hPc (T.setVm vm₁) hT hW₁⟩)
  dsimp only [Pt.U, Pt.locs, Pt.cells, Pt.slots] at X' e1 e2 h1 h2 h3 st
  subst h1; subst h2; subst h3
  exact ⟨v, (T.setVm vm₁).calling g' mk (Value.ref b :: As).toArray, t, U', L, hT, X', hL, e1, e2, hq, st⟩
section
variable {y : MethodName} {bytes cc : ByteArray} {maxL nL mc ms n index : Nat} {ret : Option FieldType} {ws : List Cond} {rm : Room} {Pc : Array Value → State → Prop} {Qc : Array Value → State → Outcome → State → Prop} {XC : String → State → State → Prop} {free : Addr → Prop} {Ts : List Cond} {own C : String} {b : Addr} {As rest : List Value} {g : JFrame}
theorem vx_runVX {hh : List (Nat × Nat × Nat × Nat)} (S : CallFix p m c cc nL s args Ts own) (hM : vx_Met l y ws rm Pc Qc XC mc ms free) (cw : vx_CVW R s args own C index y bytes maxL ret hh ws rm mc ms n) (hp : PreV s H C b Pc As)
    (hg : g.method = m) (hn : As.length = n) (hsize : g.locals.size = nL) (hstack : g.stack = As.reverse ++ .ref b :: rest) (hW : 2 * g.monitorRoom + (rest.map fun v => v.category).sum ≤ 8) (hdg : decode cc g.pc = .ok (.invokevirtual index, 3)) (hf : cells + mc ≤ R.cells ∧ slots + ms ≤ R.slots) :
    vx_Run p l e R s m args below meth c H locs cells slots mc ms g rest (Qc (Value.ref b :: As).toArray) XC free := by
  obtain ⟨⟨hrc, hrs, hfr, hlo, hws, hcw⟩, hcode, hini, hy, hlen, hl, hin, hse⟩ := cw
  have hK : vx_Back l R p e below s args y 3 8 (PreOf R mc ms Pc) (PostOf Qc mc ms free) (vx_Post XC mc ms free) := vx_backW (hh := hh) (bytes := bytes) (maxL := maxL) (ret := ret) hM hp.1 hrc hrs hfr hlo hws hcw (fun a' U hW => word_at hW (Or.inl (by first | rfl | simp [Cond.onTables, Cond.keeps, Cond.steady])) hini)
  obtain ⟨hx, hb, hml, ho, -⟩ := S
  obtain ⟨-, ⟨cellB, hcB, hoB, hclB⟩, hPc⟩ := hp
  intro T hT X
  rcases vx_callVX X hx (C := C) (hh := hh) (bytes := bytes) (maxL := maxL) (ret := ret) ho hl hin hse hcode hy hK (by rw [hT]; exact hcB) hoB hclB hg (hsize.trans hml.symm) (argsL := As) (rest := rest) (fun sig h => hn.trans (hlen sig h)) hstack hW (by rw [hb]; exact hdg)
    (fun vm₁ hW₁ => ⟨hf.1, hf.2, hPc (T.setVm vm₁) hT hW₁⟩) with ⟨v, vm₁, ⟨U', l2, c2, s2⟩, hW₁, X', ⟨g', mk, t, L, e1, e2, hq, h1, hL, h2, h3⟩, st⟩ | ⟨q, vm₁, ⟨U', l2, c2, s2⟩, hW₁, X', ⟨g', mk, t, L, E, ce, e1, e2, hq, hce, hcv, hcl, h1, hL, h2, h3⟩, st⟩
  · dsimp only [Pt.U, Pt.locs, Pt.cells, Pt.slots] at X' e1 e2 h1 h2 h3 st
    subst h1; subst h2; subst h3
    exact Or.inl ⟨v, (T.setVm vm₁).calling g' mk (Value.ref b :: As).toArray, t, U', L, hT, X', hL, e1, e2, hq, st⟩
  · dsimp only [Pt.U, Pt.locs, Pt.cells, Pt.slots] at X' e1 e2 h1 h2 h3 st hcl
    subst h1; subst h2; subst h3
    exact Or.inr ⟨q, (T.setVm vm₁).calling g' mk (Value.ref b :: As).toArray, t, U', L, E, ce, hT, X', hL, e1, e2, hq, hce, hcv, vx_cls hW₁ hcl, st⟩
theorem vx_runSX {hh : List (Nat × Nat × Nat × Nat)} (S : CallFix p m c cc nL s args Ts own) (hM : vx_Met l y ws rm Pc Qc XC mc ms free) (cw : vx_CSW R s args own index y bytes maxL ret hh ws rm mc ms n) (hp : PreS s H Pc As)
    (hg : g.method = m) (hn : As.length = n) (hsize : g.locals.size = nL) (hstack : g.stack = As.reverse ++ rest) (hW : 2 * g.monitorRoom + (rest.map fun v => v.category).sum ≤ 8) (hdg : decode cc g.pc = .ok (.invokestatic index, 3)) (hf : cells + mc ≤ R.cells ∧ slots + ms ≤ R.slots) :
    vx_Run p l e R s m args below meth c H locs cells slots mc ms g rest (Qc As.toArray) XC free := by
  obtain ⟨⟨hrc, hrs, hfr, hlo, hws, hcw⟩, hcode, hini, hy, hlen, hl, hstt⟩ := cw
  have hK : vx_Back l R p e below s args y 3 8 (PreOf R mc ms Pc) (PostOf Qc mc ms free) (vx_Post XC mc ms free) := vx_backW (hh := hh) (bytes := bytes) (maxL := maxL) (ret := ret) hM hp.1 hrc hrs hfr hlo hws hcw (fun a' U hW => word_at hW (Or.inl (by first | rfl | simp [Cond.onTables, Cond.keeps, Cond.steady])) hini)
  obtain ⟨hx, hb, hml, ho, -⟩ := S
  intro T hT X
  rcases vx_callSX X hx (hh := hh) (bytes := bytes) (maxL := maxL) (ret := ret) ho hl hstt hini hcode hy hK hg (hsize.trans hml.symm) (argsL := As) (rest := rest) (fun sig h => hn.trans (hlen sig h)) hstack hW (by rw [hb]; exact hdg)
    (fun vm₁ hW₁ => ⟨hf.1, hf.2, hp.2 (T.setVm vm₁) hT hW₁⟩) with ⟨v, vm₁, ⟨U', l2, c2, s2⟩, hW₁, X', ⟨g', mk, t, L, e1, e2, hq, h1, hL, h2, h3⟩, st⟩ | ⟨q, vm₁, ⟨U', l2, c2, s2⟩, hW₁, X', ⟨g', mk, t, L, E, ce, e1, e2, hq, hce, hcv, hcl, h1, hL, h2, h3⟩, st⟩
  · dsimp only [Pt.U, Pt.locs, Pt.cells, Pt.slots] at X' e1 e2 h1 h2 h3 st
    subst h1; subst h2; subst h3
    exact Or.inl ⟨v, (T.setVm vm₁).calling g' mk As.toArray, t, U', L, hT, X', hL, e1, e2, hq, st⟩
  · dsimp only [Pt.U, Pt.locs, Pt.cells, Pt.slots] at X' e1 e2 h1 h2 h3 st hcl
    subst h1; subst h2; subst h3
    exact Or.inr ⟨q, (T.setVm vm₁).calling g' mk As.toArray, t, U', L, E, ce, hT, X', hL, e1, e2, hq, hce, hcv, vx_cls hW₁ hcl, st⟩
end
end VXH
theorem vx_ofWH {l : Launch} {y : MethodName} {ws ws' : List Cond} {rm : Room} {Pc : Array Value → State → Prop} {Qc : Array Value → State → Outcome → State → Prop} {XC : String → State → State → Prop} {mc ms : Nat} {free : Addr → Prop} {cc : ByteArray} {maxL : Nat} {ret : Option FieldType} {hh : List (Nat × Nat × Nat × Nat)}
    (hy : plainName y.cls = true) (hw : ws = Cond.codeWith y cc maxL ret hh :: ws')
    (body : ∀ p e s m args below meth c s₁, BodyLoose p l y (headSpec ws rm) cc maxL ret e s m args below meth c s₁ → c.maxLocals = maxL → Pc args s →
      W p l e (headSpec ws rm).room s m args below meth c s.heap [] 0 0 (vx_MQ below Qc XC args s mc ms free) (entryFrame m args maxL)) : vx_Met l y ws rm Pc Qc XC mc ms free := by
  refine MetFree.of_bodyS (code := cc) (maxLocals := maxL) (ret := ret) hy ?_ ?_
  · intro args s m h hn
    obtain ⟨m9, meth, c, hn9, h1, h2, h3, h4, -, h5, h6, -⟩ := Cond.codeWith_spec (atoms_spec (ws := ws) h _ (by rw [hw]; exact List.mem_cons_self))
    cases hn.symm.trans hn9
    exact ⟨meth, c, h1, h2, h3, h4, h5, h6⟩
  · intro p e s m args below meth c s₁ B hml hP _
    have hh0 : s₁.heap = s.heap := by rw [B.state]; rfl
    obtain ⟨t, a1, o, b1, b2, b3⟩ := body p e s m args below meth c s₁ B hml hP s₁ hh0 (Stand.of_body B)
    exact ⟨t, o, a1, b1, b2, b3⟩
/-! ===== END ===== -/

/-! ===== BEGIN printed: names, fields, word lists, decode rows ===== -/
def RX0 : String := "BulkSamples$Mailing"
def TX0 : u_T := fun k => match k with
  | 0 => ("BulkSamples$Mailing", "items", "I", true)
  | 1 => ("BulkSamples$Mailing", "declared", "[I", true)
  | 2 => ("BulkSamples$Mailing", "found", "[I", true)
  | _ => ("BulkSamples$Mailing", "drawn", "I", false)
def tyX0 : Nat → FieldType := fun k => match k with
  | 0 => .int
  | 1 => .array .int
  | 2 => .array .int
  | _ => .int
abbrev wsX00 : List Cond := u_ws RX0 TX0 4
theorem nmX0 : ∀ a, a < 4 → ∀ b, b < 4 → a ≠ b → (TX0 a).2.1 ≠ (TX0 b).2.1 := by decide +kernel
theorem tyX0_ok : ∀ k, k < 4 → parseFieldDescriptor (TX0 k).2.2.1 = some (tyX0 k) := by decide +kernel
abbrev cX0_init : ByteArray := prog_2_method_1_code
def yX0_init : MethodName := ⟨RX0, "<init>", "(I)V"⟩
abbrev cX0_isSampled : ByteArray := prog_2_method_2_code
def yX0_isSampled : MethodName := ⟨RX0, "isSampled", "()Z"⟩
abbrev cX0_discount : ByteArray := prog_2_method_3_code
def yX0_discount : MethodName := ⟨RX0, "discount", "()J"⟩
def RX1 : String := "BulkSamples$Odds"
def TX1 : u_T := fun k => match k with
  | 0 => ("BulkSamples$Odds", "asked", "LBulkSamples$Whole;", true)
  | 1 => ("BulkSamples$Odds", "all", "LBulkSamples$Whole;", true)
  | _ => ("BulkSamples$Odds", "ways", "LBulkSamples$Whole;", true)
def tyX1 : Nat → FieldType := fun k => match k with
  | 0 => .object "BulkSamples$Whole"
  | 1 => .object "BulkSamples$Whole"
  | _ => .object "BulkSamples$Whole"
abbrev wsX10 : List Cond := u_ws RX1 TX1 3
theorem nmX1 : ∀ a, a < 3 → ∀ b, b < 3 → a ≠ b → (TX1 a).2.1 ≠ (TX1 b).2.1 := by decide +kernel
theorem tyX1_ok : ∀ k, k < 3 → parseFieldDescriptor (TX1 k).2.2.1 = some (tyX1 k) := by decide +kernel
abbrev cX1_init : ByteArray := prog_3_method_1_code
def yX1_init : MethodName := ⟨RX1, "<init>", "()V"⟩
abbrev cX1_weigh : ByteArray := prog_3_method_2_code
def yX1_weigh : MethodName := ⟨RX1, "weigh", "(IIIII)V"⟩
abbrev cX1_inThousandMillionths : ByteArray := prog_3_method_3_code
def yX1_inThousandMillionths : MethodName := ⟨RX1, "inThousandMillionths", "()J"⟩
abbrev cX1_takeAll : ByteArray := prog_3_method_4_code
def yX1_takeAll : MethodName := ⟨RX1, "takeAll", "()I"⟩
abbrev cX1_isAtMost : ByteArray := prog_3_method_5_code
def yX1_isAtMost : MethodName := ⟨RX1, "isAtMost", "(I)Z"⟩
def RX2 : String := "BulkSamples$Whole"
def TX2 : u_T := fun k => match k with
  | _ => ("BulkSamples$Whole", "parts", "[J", true)
def tyX2 : Nat → FieldType := fun k => match k with
  | _ => .array .long
abbrev wsX20 : List Cond := u_ws RX2 TX2 1
theorem nmX2 : ∀ a, a < 1 → ∀ b, b < 1 → a ≠ b → (TX2 a).2.1 ≠ (TX2 b).2.1 := by decide +kernel
theorem tyX2_ok : ∀ k, k < 1 → parseFieldDescriptor (TX2 k).2.2.1 = some (tyX2 k) := by decide +kernel
abbrev cX2_init : ByteArray := prog_4_method_1_code
def yX2_init : MethodName := ⟨RX2, "<init>", "()V"⟩
abbrev cX2_set : ByteArray := prog_4_method_2_code
def yX2_set : MethodName := ⟨RX2, "set", "(I)V"⟩
abbrev cX2_setChoices : ByteArray := prog_4_method_3_code
def yX2_setChoices : MethodName := ⟨RX2, "setChoices", "(II)V"⟩
abbrev cX2_add : ByteArray := prog_4_method_4_code
def yX2_add : MethodName := ⟨RX2, "add", "(LBulkSamples$Whole;)V"⟩
abbrev cX2_subtract : ByteArray := prog_4_method_5_code
def yX2_subtract : MethodName := ⟨RX2, "subtract", "(LBulkSamples$Whole;)V"⟩
abbrev cX2_multiply : ByteArray := prog_4_method_6_code
def yX2_multiply : MethodName := ⟨RX2, "multiply", "(I)V"⟩
abbrev cX2_divide : ByteArray := prog_4_method_7_code
def yX2_divide : MethodName := ⟨RX2, "divide", "(I)V"⟩
abbrev cX2_isAtLeast : ByteArray := prog_4_method_8_code
def yX2_isAtLeast : MethodName := ⟨RX2, "isAtLeast", "(LBulkSamples$Whole;)Z"⟩
def RX3 : String := "BulkSamples"
def TX3 : u_T := fun k => match k with
  | 0 => ("BulkSamples", "mailings", "[LBulkSamples$Mailing;", true)
  | 1 => ("BulkSamples", "plans", "[I", true)
  | 2 => ("BulkSamples", "goodRows", "[I", true)
  | 3 => ("BulkSamples", "odds", "LBulkSamples$Odds;", true)
  | 4 => ("BulkSamples", "mailingCount", "I", false)
  | 5 => ("BulkSamples", "tapeLength", "I", false)
  | _ => ("BulkSamples", "trust", "I", false)
def tyX3 : Nat → FieldType := fun k => match k with
  | 0 => .array (.object "BulkSamples$Mailing")
  | 1 => .array .int
  | 2 => .array .int
  | 3 => .object "BulkSamples$Odds"
  | 4 => .int
  | 5 => .int
  | _ => .int
abbrev wsX30 : List Cond := u_ws RX3 TX3 7
theorem nmX3 : ∀ a, a < 7 → ∀ b, b < 7 → a ≠ b → (TX3 a).2.1 ≠ (TX3 b).2.1 := by decide +kernel
theorem tyX3_ok : ∀ k, k < 7 → parseFieldDescriptor (TX3 k).2.2.1 = some (tyX3 k) := by decide +kernel
abbrev cX3_init : ByteArray := prog_1_method_1_code
def yX3_init : MethodName := ⟨RX3, "<init>", "()V"⟩
abbrev cX3_mailing : ByteArray := prog_1_method_2_code
def yX3_mailing : MethodName := ⟨RX3, "mailing", "(I)I"⟩
abbrev cX3_depth : ByteArray := prog_1_method_3_code
def yX3_depth : MethodName := ⟨RX3, "depth", "(III)I"⟩
abbrev cX3_tape : ByteArray := prog_1_method_4_code
def yX3_tape : MethodName := ⟨RX3, "tape", "(I)V"⟩
abbrev cX3_sample : ByteArray := prog_1_method_5_code
def yX3_sample : MethodName := ⟨RX3, "sample", "(II)I"⟩
abbrev cX3_wrong : ByteArray := prog_1_method_6_code
def yX3_wrong : MethodName := ⟨RX3, "wrong", "(III)I"⟩
abbrev cX3_verdict : ByteArray := prog_1_method_7_code
def yX3_verdict : MethodName := ⟨RX3, "verdict", "(I)I"⟩
abbrev cX3_chance : ByteArray := prog_1_method_8_code
def yX3_chance : MethodName := ⟨RX3, "chance", "(IIIII)J"⟩
abbrev cX3_share : ByteArray := prog_1_method_9_code
def yX3_share : MethodName := ⟨RX3, "share", "(II)J"⟩
abbrev cX3_shown : ByteArray := prog_1_method_10_code
def yX3_shown : MethodName := ⟨RX3, "shown", "(I)D"⟩
abbrev cX3_plan : ByteArray := prog_1_method_11_code
def yX3_plan : MethodName := ⟨RX3, "plan", "(II)I"⟩
abbrev cX3_surcharge : ByteArray := prog_1_method_12_code
def yX3_surcharge : MethodName := ⟨RX3, "surcharge", "(I)J"⟩
abbrev cX3_bound : ByteArray := prog_1_method_13_code
def yX3_bound : MethodName := ⟨RX3, "bound", "(I)Z"⟩
abbrev cX3_find : ByteArray := prog_1_method_14_code
def yX3_find : MethodName := ⟨RX3, "find", "(I)LBulkSamples$Mailing;"⟩
abbrev cX3_judge : ByteArray := prog_1_method_15_code
def yX3_judge : MethodName := ⟨RX3, "judge", "(LBulkSamples$Mailing;)I"⟩
abbrev cX3_sum : ByteArray := prog_1_method_16_code
def yX3_sum : MethodName := ⟨RX3, "sum", "([I)I"⟩
def RX4 : String := "BulkSamplesModel"
def TX4 : u_T := fun k => match k with
  | 0 => ("BulkSamplesModel", "thrown", "I", false)
  | 1 => ("BulkSamplesModel", "mailings", "I", false)
  | 2 => ("BulkSamplesModel", "items", "[I", true)
  | 3 => ("BulkSamplesModel", "depths", "[I", true)
  | 4 => ("BulkSamplesModel", "drawn", "[I", true)
  | 5 => ("BulkSamplesModel", "wrongs", "[I", true)
  | 6 => ("BulkSamplesModel", "taped", "I", false)
  | 7 => ("BulkSamplesModel", "trust", "I", false)
  | 8 => ("BulkSamplesModel", "plans", "[I", true)
  | 9 => ("BulkSamplesModel", "goods", "[I", true)
  | 10 => ("BulkSamplesModel", "rows", "[J", true)
  | 11 => ("BulkSamplesModel", "some", "[J", true)
  | 12 => ("BulkSamplesModel", "all", "[J", true)
  | 13 => ("BulkSamplesModel", "left", "[J", true)
  | _ => ("BulkSamplesModel", "right", "[J", true)
def tyX4 : Nat → FieldType := fun k => match k with
  | 0 => .int
  | 1 => .int
  | 2 => .array .int
  | 3 => .array .int
  | 4 => .array .int
  | 5 => .array .int
  | 6 => .int
  | 7 => .int
  | 8 => .array .int
  | 9 => .array .int
  | 10 => .array .long
  | 11 => .array .long
  | 12 => .array .long
  | 13 => .array .long
  | _ => .array .long
abbrev wsX40 : List Cond := u_ws RX4 TX4 15
theorem nmX4 : ∀ a, a < 15 → ∀ b, b < 15 → a ≠ b → (TX4 a).2.1 ≠ (TX4 b).2.1 := by decide +kernel
theorem tyX4_ok : ∀ k, k < 15 → parseFieldDescriptor (TX4 k).2.2.1 = some (tyX4 k) := by decide +kernel
abbrev cX4_init : ByteArray := prog_6_method_1_code
def yX4_init : MethodName := ⟨RX4, "<init>", "()V"⟩
abbrev cX4_thrown : ByteArray := prog_6_method_2_code
def yX4_thrown : MethodName := ⟨RX4, "thrown", "()I"⟩
abbrev cX4_isMailing : ByteArray := prog_6_method_3_code
def yX4_isMailing : MethodName := ⟨RX4, "isMailing", "(I)Z"⟩
abbrev cX4_mailing : ByteArray := prog_6_method_4_code
def yX4_mailing : MethodName := ⟨RX4, "mailing", "(I)I"⟩
abbrev cX4_declared : ByteArray := prog_6_method_5_code
def yX4_declared : MethodName := ⟨RX4, "declared", "(I)I"⟩
abbrev cX4_depth : ByteArray := prog_6_method_6_code
def yX4_depth : MethodName := ⟨RX4, "depth", "(III)I"⟩
abbrev cX4_tape : ByteArray := prog_6_method_7_code
def yX4_tape : MethodName := ⟨RX4, "tape", "(I)V"⟩
abbrev cX4_sample : ByteArray := prog_6_method_8_code
def yX4_sample : MethodName := ⟨RX4, "sample", "(II)I"⟩
abbrev cX4_wrongOf : ByteArray := prog_6_method_9_code
def yX4_wrongOf : MethodName := ⟨RX4, "wrongOf", "(I)I"⟩
abbrev cX4_wrong : ByteArray := prog_6_method_10_code
def yX4_wrong : MethodName := ⟨RX4, "wrong", "(III)I"⟩
abbrev cX4_clear : ByteArray := prog_6_method_11_code
def yX4_clear : MethodName := ⟨RX4, "clear", "([J)V"⟩
abbrev cX4_copy : ByteArray := prog_6_method_12_code
def yX4_copy : MethodName := ⟨RX4, "copy", "([J[J)V"⟩
abbrev cX4_multiply : ByteArray := prog_6_method_13_code
def yX4_multiply : MethodName := ⟨RX4, "multiply", "([JJ)V"⟩
abbrev cX4_isWithin : ByteArray := prog_6_method_14_code
def yX4_isWithin : MethodName := ⟨RX4, "isWithin", "([J[J)Z"⟩
abbrev cX4_subtract : ByteArray := prog_6_method_15_code
def yX4_subtract : MethodName := ⟨RX4, "subtract", "([J[J)V"⟩
abbrev cX4_step : ByteArray := prog_6_method_16_code
def yX4_step : MethodName := ⟨RX4, "step", "(IJJ)V"⟩
abbrev cX4_addRow : ByteArray := prog_6_method_17_code
def yX4_addRow : MethodName := ⟨RX4, "addRow", "(I)V"⟩
abbrev cX4_count : ByteArray := prog_6_method_18_code
def yX4_count : MethodName := ⟨RX4, "count", "(IIIII)V"⟩
abbrev cX4_isAtMost : ByteArray := prog_6_method_19_code
def yX4_isAtMost : MethodName := ⟨RX4, "isAtMost", "(I)Z"⟩
abbrev cX4_chance : ByteArray := prog_6_method_20_code
def yX4_chance : MethodName := ⟨RX4, "chance", "(IIIII)J"⟩
abbrev cX4_judge : ByteArray := prog_6_method_21_code
def yX4_judge : MethodName := ⟨RX4, "judge", "(I)I"⟩
abbrev cX4_verdict : ByteArray := prog_6_method_22_code
def yX4_verdict : MethodName := ⟨RX4, "verdict", "(I)I"⟩
abbrev cX4_share : ByteArray := prog_6_method_23_code
def yX4_share : MethodName := ⟨RX4, "share", "(II)J"⟩
abbrev cX4_shown : ByteArray := prog_6_method_24_code
def yX4_shown : MethodName := ⟨RX4, "shown", "(I)D"⟩
abbrev cX4_plan : ByteArray := prog_6_method_25_code
def yX4_plan : MethodName := ⟨RX4, "plan", "(II)I"⟩
abbrev cX4_surcharge : ByteArray := prog_6_method_26_code
def yX4_surcharge : MethodName := ⟨RX4, "surcharge", "(I)J"⟩
abbrev cX4_bound : ByteArray := prog_6_method_27_code
def yX4_bound : MethodName := ⟨RX4, "bound", "(I)Z"⟩
def RJ9 : String := "java/lang/Math"
def TJ9 : u_T := fun k => match k with
  | _ => ("", "", "", false)
def tyJ9 : Nat → FieldType := fun k => match k with
  | _ => .int
abbrev wsJ90 : List Cond := u_ws RJ9 TJ9 0
theorem nmJ9 : ∀ a, a < 0 → ∀ b, b < 0 → a ≠ b → (TJ9 a).2.1 ≠ (TJ9 b).2.1 := by decide +kernel
theorem tyJ9_ok : ∀ k, k < 0 → parseFieldDescriptor (TJ9 k).2.2.1 = some (tyJ9 k) := by decide +kernel
abbrev cJ9_max_7cf53 : ByteArray := prog_9_method_65_code
def yJ9_max_7cf53 : MethodName := ⟨RJ9, "max", "(II)I"⟩
abbrev cJ9_min_7cf53 : ByteArray := prog_9_method_69_code
def yJ9_min_7cf53 : MethodName := ⟨RJ9, "min", "(II)I"⟩
def RJ0 : String := "java/lang/String"
def TJ0 : u_T := fun k => match k with
  | _ => ("", "", "", false)
def tyJ0 : Nat → FieldType := fun k => match k with
  | _ => .int
abbrev wsJ00 : List Cond := u_ws RJ0 TJ0 0
theorem nmJ0 : ∀ a, a < 0 → ∀ b, b < 0 → a ≠ b → (TJ0 a).2.1 ≠ (TJ0 b).2.1 := by decide +kernel
theorem tyJ0_ok : ∀ k, k < 0 → parseFieldDescriptor (TJ0 k).2.2.1 = some (tyJ0 k) := by decide +kernel
def RL : String := "BulkSamplesLaw"
abbrev cL_share : ByteArray := method_3_code
def yL_share : MethodName := ⟨RL, "share", "(LBulkSamples;II[J)I"⟩
abbrev cL_law : ByteArray := code
def yL_law : MethodName := ⟨RL, "law", "([I)Z"⟩
def wsX0_init : List Cond := .code yX0_init cX0_init 2 none :: ([.methodLink RX0 3 objectInit, .instanceMethod objectInit, .code objectInit ⟨#[0xb1]⟩ 1 none, .arrayClass .int, .fieldLink RX0 9 "BulkSamples$Mailing" "declared" "[I", .fieldLink RX0 15 "BulkSamples$Mailing" "found" "[I", .fieldLink RX0 18 "BulkSamples$Mailing" "items" "I"] ++ wsX00)
def wsX0_isSampled : List Cond := .code yX0_isSampled cX0_isSampled 1 (some .boolean) :: ([.fieldLink RX0 22 "BulkSamples$Mailing" "drawn" "I"] ++ wsX00)
def wsX0_discount : List Cond := .code yX0_discount cX0_discount 4 (some .long) :: ([.fieldLink RX0 9 "BulkSamples$Mailing" "declared" "[I"] ++ wsX00)
def wsX2_init : List Cond := .code yX2_init cX2_init 1 none :: ([.methodLink RX2 1 objectInit, .instanceMethod objectInit, .code objectInit ⟨#[0xb1]⟩ 1 none, .arrayClass .long, .fieldLink RX2 9 "BulkSamples$Whole" "parts" "[J"] ++ wsX20)
def wsX1_init : List Cond := .code yX1_init cX1_init 1 none :: ([.methodLink RX1 3 objectInit, .instanceMethod objectInit, .code objectInit ⟨#[0xb1]⟩ 1 none, .classLink RX1 9 RX2, .instantiable RX2 1, .initialized RX2, .fieldLink RX1 12 "BulkSamples$Odds" "asked" "LBulkSamples$Whole;", .fieldLink RX1 18 "BulkSamples$Odds" "all" "LBulkSamples$Whole;", .fieldLink RX1 21 "BulkSamples$Odds" "ways" "LBulkSamples$Whole;", .instanceMethod yX2_init, .code yX2_init cX2_init 1 none, .methodLink RX2 1 objectInit, .arrayClass .long, .fieldLink RX2 9 "BulkSamples$Whole" "parts" "[J"] ++ wsX20 ++ wsX10)
def wsX2_set : List Cond := .code yX2_set cX2_set 3 none :: ([.fieldLink RX2 9 "BulkSamples$Whole" "parts" "[J"] ++ wsX20)
def wsX2_multiply : List Cond := .code yX2_multiply cX2_multiply 7 none :: ([.fieldLink RX2 9 "BulkSamples$Whole" "parts" "[J", .constantLong RX2 29 (1000000000)] ++ wsX20)
def wsX2_divide : List Cond := .code yX2_divide cX2_divide 7 none :: ([.constantLong RX2 29 (1000000000), .fieldLink RX2 9 "BulkSamples$Whole" "parts" "[J"] ++ wsX20)
def wsX2_setChoices : List Cond := .code yX2_setChoices cX2_setChoices 5 none :: ([.methodLink RX2 13 Lib.Math.min.name, .static Lib.Math.min.name, .initialized "java/lang/Math", .code Lib.Math.min.name Lib.Math.min.code 2 (some .int), .methodLink RX2 19 yX2_set, .instanceMethod yX2_set, .selects RX2 yX2_set yX2_set, .initialized RX2, .code yX2_set cX2_set 3 none, .fieldLink RX2 9 "BulkSamples$Whole" "parts" "[J", .methodLink RX2 23 yX2_multiply, .instanceMethod yX2_multiply, .selects RX2 yX2_multiply yX2_multiply, .code yX2_multiply cX2_multiply 7 none, .constantLong RX2 29 (1000000000), .methodLink RX2 26 yX2_divide, .instanceMethod yX2_divide, .selects RX2 yX2_divide yX2_divide, .code yX2_divide cX2_divide 7 none] ++ wsX20)
def wsX2_add : List Cond := .code yX2_add cX2_add 7 none :: ([.fieldLink RX2 9 "BulkSamples$Whole" "parts" "[J", .constantLong RX2 29 (1000000000)] ++ wsX20)
def wsX1_weigh_r1 : List Cond := [Cond.methodLink RX1 24 Lib.Math.max.name, Cond.static Lib.Math.max.name, Cond.initialized "java/lang/Math", Cond.code Lib.Math.max.name Lib.Math.max.code 2 (some .int), Cond.methodLink RX1 30 Lib.Math.min.name, Cond.static Lib.Math.min.name, Cond.code Lib.Math.min.name Lib.Math.min.code 2 (some .int), Cond.fieldLink RX1 18 "BulkSamples$Odds" "all" "LBulkSamples$Whole;", Cond.fieldLink RX1 21 "BulkSamples$Odds" "ways" "LBulkSamples$Whole;", Cond.fieldLink RX1 12 "BulkSamples$Odds" "asked" "LBulkSamples$Whole;", Cond.methodLink RX1 33 yX2_setChoices, Cond.instanceMethod yX2_setChoices, Cond.selects RX2 yX2_setChoices yX2_setChoices, Cond.initialized RX2, Cond.code yX2_setChoices cX2_setChoices 5 none, Cond.methodLink RX2 13 Lib.Math.min.name, Cond.methodLink RX2 19 yX2_set, Cond.instanceMethod yX2_set, Cond.selects RX2 yX2_set yX2_set, Cond.code yX2_set cX2_set 3 none, Cond.fieldLink RX2 9 "BulkSamples$Whole" "parts" "[J", Cond.methodLink RX2 23 yX2_multiply, Cond.instanceMethod yX2_multiply, Cond.selects RX2 yX2_multiply yX2_multiply]
def wsX1_weigh_r2 : List Cond := [Cond.code yX2_multiply cX2_multiply 7 none, Cond.constantLong RX2 29 (1000000000), Cond.methodLink RX2 26 yX2_divide, Cond.instanceMethod yX2_divide, Cond.selects RX2 yX2_divide yX2_divide, Cond.code yX2_divide cX2_divide 7 none, Cond.methodLink RX1 37 yX2_set, Cond.methodLink RX1 41 yX2_add, Cond.instanceMethod yX2_add, Cond.selects RX2 yX2_add yX2_add, Cond.code yX2_add cX2_add 7 none, Cond.methodLink RX1 45 yX2_multiply, Cond.methodLink RX1 48 yX2_divide]
def wsX1_weigh : List Cond := .code yX1_weigh cX1_weigh 10 none :: ((wsX1_weigh_r1 ++ wsX1_weigh_r2) ++ wsX10 ++ wsX20)
def wsX2_isAtLeast : List Cond := .code yX2_isAtLeast cX2_isAtLeast 3 (some .boolean) :: ([.fieldLink RX2 9 "BulkSamples$Whole" "parts" "[J"] ++ wsX20)
def wsX2_subtract : List Cond := .code yX2_subtract cX2_subtract 7 none :: ([.fieldLink RX2 9 "BulkSamples$Whole" "parts" "[J", .constantLong RX2 29 (1000000000)] ++ wsX20)
def wsX1_takeAll : List Cond := .code yX1_takeAll cX1_takeAll 2 (some .int) :: ([.fieldLink RX1 12 "BulkSamples$Odds" "asked" "LBulkSamples$Whole;", .fieldLink RX1 18 "BulkSamples$Odds" "all" "LBulkSamples$Whole;", .methodLink RX1 57 yX2_isAtLeast, .instanceMethod yX2_isAtLeast, .selects RX2 yX2_isAtLeast yX2_isAtLeast, .initialized RX2, .code yX2_isAtLeast cX2_isAtLeast 3 (some .boolean), .fieldLink RX2 9 "BulkSamples$Whole" "parts" "[J", .methodLink RX1 61 yX2_subtract, .instanceMethod yX2_subtract, .selects RX2 yX2_subtract yX2_subtract, .code yX2_subtract cX2_subtract 7 none, .constantLong RX2 29 (1000000000)] ++ wsX10 ++ wsX20)
def wsX1_inThousandMillionths : List Cond := .code yX1_inThousandMillionths cX1_inThousandMillionths 4 (some .long) :: ([.constantLong RX1 51 (10), .fieldLink RX1 12 "BulkSamples$Odds" "asked" "LBulkSamples$Whole;", .methodLink RX1 53 yX1_takeAll, .instanceMethod yX1_takeAll, .selects RX1 yX1_takeAll yX1_takeAll, .initialized RX1, .code yX1_takeAll cX1_takeAll 2 (some .int), .fieldLink RX1 18 "BulkSamples$Odds" "all" "LBulkSamples$Whole;", .methodLink RX1 57 yX2_isAtLeast, .instanceMethod yX2_isAtLeast, .selects RX2 yX2_isAtLeast yX2_isAtLeast, .initialized RX2, .code yX2_isAtLeast cX2_isAtLeast 3 (some .boolean), .fieldLink RX2 9 "BulkSamples$Whole" "parts" "[J", .methodLink RX1 61 yX2_subtract, .instanceMethod yX2_subtract, .selects RX2 yX2_subtract yX2_subtract, .code yX2_subtract cX2_subtract 7 none, .constantLong RX2 29 (1000000000), .methodLink RX1 45 yX2_multiply, .instanceMethod yX2_multiply, .selects RX2 yX2_multiply yX2_multiply, .code yX2_multiply cX2_multiply 7 none] ++ wsX10 ++ wsX20)
def wsX1_isAtMost : List Cond := .code yX1_isAtMost cX1_isAtMost 2 (some .boolean) :: ([.fieldLink RX1 12 "BulkSamples$Odds" "asked" "LBulkSamples$Whole;", .fieldLink RX1 18 "BulkSamples$Odds" "all" "LBulkSamples$Whole;", .methodLink RX1 45 yX2_multiply, .instanceMethod yX2_multiply, .selects RX2 yX2_multiply yX2_multiply, .initialized RX2, .code yX2_multiply cX2_multiply 7 none, .fieldLink RX2 9 "BulkSamples$Whole" "parts" "[J", .constantLong RX2 29 (1000000000), .methodLink RX1 57 yX2_isAtLeast, .instanceMethod yX2_isAtLeast, .selects RX2 yX2_isAtLeast yX2_isAtLeast, .code yX2_isAtLeast cX2_isAtLeast 3 (some .boolean)] ++ wsX10 ++ wsX20)
def wsX3_init_r1 : List Cond := [Cond.methodLink RX3 1 objectInit, Cond.instanceMethod objectInit, Cond.code objectInit ⟨#[0xb1]⟩ 1 none, Cond.classLink RX3 9 RX0, Cond.fieldLink RX3 11 "BulkSamples" "mailings" "[LBulkSamples$Mailing;", Cond.arrayClass .int, Cond.fieldLink RX3 15 "BulkSamples" "plans" "[I", Cond.fieldLink RX3 19 "BulkSamples" "goodRows" "[I", Cond.classLink RX3 22 RX1, Cond.instantiable RX1 3, Cond.initialized RX1, Cond.fieldLink RX3 25 "BulkSamples" "odds" "LBulkSamples$Odds;", Cond.fieldLink RX3 29 "BulkSamples" "trust" "I", Cond.instanceMethod yX1_init, Cond.code yX1_init cX1_init 1 none, Cond.methodLink RX1 3 objectInit, Cond.classLink RX1 9 RX2, Cond.instantiable RX2 1, Cond.initialized RX2, Cond.fieldLink RX1 12 "BulkSamples$Odds" "asked" "LBulkSamples$Whole;", Cond.fieldLink RX1 18 "BulkSamples$Odds" "all" "LBulkSamples$Whole;", Cond.fieldLink RX1 21 "BulkSamples$Odds" "ways" "LBulkSamples$Whole;", Cond.instanceMethod yX2_init, Cond.code yX2_init cX2_init 1 none]
def wsX3_init_r2 : List Cond := [Cond.methodLink RX2 1 objectInit, Cond.arrayClass .long, Cond.fieldLink RX2 9 "BulkSamples$Whole" "parts" "[J"]
def wsX3_init : List Cond := .code yX3_init cX3_init 2 none :: ((wsX3_init_r1 ++ wsX3_init_r2) ++ wsX30 ++ wsX10 ++ wsX20)
def wsX3_mailing : List Cond := .code yX3_mailing cX3_mailing 2 (some .int) :: ([.fieldLink RX3 33 "BulkSamples" "mailingCount" "I", .fieldLink RX3 11 "BulkSamples" "mailings" "[LBulkSamples$Mailing;", .classLink RX3 9 RX0, .instantiable RX0 4, .initialized RX0, .methodLink RX3 36 yX0_init, .instanceMethod yX0_init, .code yX0_init cX0_init 2 none, .methodLink RX0 3 objectInit, .instanceMethod objectInit, .code objectInit ⟨#[0xb1]⟩ 1 none, .arrayClass .int, .fieldLink RX0 9 "BulkSamples$Mailing" "declared" "[I", .fieldLink RX0 15 "BulkSamples$Mailing" "found" "[I", .fieldLink RX0 18 "BulkSamples$Mailing" "items" "I"] ++ wsX30 ++ wsX00)
def wsX3_find : List Cond := .code yX3_find cX3_find 2 (some (.object "BulkSamples$Mailing")) :: ([.fieldLink RX3 11 "BulkSamples" "mailings" "[LBulkSamples$Mailing;"] ++ wsX30)
def wsX3_sum : List Cond := .code yX3_sum cX3_sum 3 (some .int) :: ([])
def wsX3_depth : List Cond := .code yX3_depth cX3_depth 6 (some .int) :: ([.fieldLink RX3 43 "BulkSamples$Mailing" "declared" "[I", .fieldLink RX3 50 "BulkSamples$Mailing" "items" "I", .methodLink RX3 39 yX3_find, .instanceMethod yX3_find, .selects RX3 yX3_find yX3_find, .initialized RX3, .code yX3_find cX3_find 2 (some (.object "BulkSamples$Mailing")), .fieldLink RX3 11 "BulkSamples" "mailings" "[LBulkSamples$Mailing;", .methodLink RX3 46 yX3_sum, .static yX3_sum, .code yX3_sum cX3_sum 3 (some .int), .methodLink RX3 53 yX0_isSampled, .instanceMethod yX0_isSampled, .selects RX0 yX0_isSampled yX0_isSampled, .initialized RX0, .code yX0_isSampled cX0_isSampled 1 (some .boolean), .fieldLink RX0 22 "BulkSamples$Mailing" "drawn" "I"] ++ wsX00 ++ wsX30)
def wsX3_tape : List Cond := .code yX3_tape cX3_tape 2 none :: ([.fieldLink RX3 57 "BulkSamples" "tapeLength" "I"] ++ wsX30)
def wsX3_sample : List Cond := .code yX3_sample cX3_sample 5 (some .int) :: ([.fieldLink RX3 50 "BulkSamples$Mailing" "items" "I", .methodLink RX3 60 Lib.Math.min.name, .static Lib.Math.min.name, .initialized "java/lang/Math", .code Lib.Math.min.name Lib.Math.min.code 2 (some .int), .fieldLink RX3 57 "BulkSamples" "tapeLength" "I", .fieldLink RX3 66 "BulkSamples$Mailing" "drawn" "I", .methodLink RX3 39 yX3_find, .instanceMethod yX3_find, .selects RX3 yX3_find yX3_find, .initialized RX3, .code yX3_find cX3_find 2 (some (.object "BulkSamples$Mailing")), .fieldLink RX3 11 "BulkSamples" "mailings" "[LBulkSamples$Mailing;", .methodLink RX3 53 yX0_isSampled, .instanceMethod yX0_isSampled, .selects RX0 yX0_isSampled yX0_isSampled, .initialized RX0, .code yX0_isSampled cX0_isSampled 1 (some .boolean), .fieldLink RX0 22 "BulkSamples$Mailing" "drawn" "I"] ++ wsX00 ++ wsX30)
def wsX3_wrong : List Cond := .code yX3_wrong cX3_wrong 6 (some .int) :: ([.fieldLink RX3 69 "BulkSamples$Mailing" "found" "[I", .fieldLink RX3 66 "BulkSamples$Mailing" "drawn" "I", .methodLink RX3 39 yX3_find, .instanceMethod yX3_find, .selects RX3 yX3_find yX3_find, .initialized RX3, .code yX3_find cX3_find 2 (some (.object "BulkSamples$Mailing")), .fieldLink RX3 11 "BulkSamples" "mailings" "[LBulkSamples$Mailing;", .methodLink RX3 46 yX3_sum, .static yX3_sum, .code yX3_sum cX3_sum 3 (some .int), .methodLink RX3 53 yX0_isSampled, .instanceMethod yX0_isSampled, .selects RX0 yX0_isSampled yX0_isSampled, .initialized RX0, .code yX0_isSampled cX0_isSampled 1 (some .boolean), .fieldLink RX0 22 "BulkSamples$Mailing" "drawn" "I"] ++ wsX00 ++ wsX30)
def wsX3_judge_r1 : List Cond := [Cond.fieldLink RX3 50 "BulkSamples$Mailing" "items" "I", Cond.fieldLink RX3 69 "BulkSamples$Mailing" "found" "[I", Cond.fieldLink RX3 25 "BulkSamples" "odds" "LBulkSamples$Odds;", Cond.fieldLink RX3 66 "BulkSamples$Mailing" "drawn" "I", Cond.fieldLink RX3 29 "BulkSamples" "trust" "I", Cond.methodLink RX3 46 yX3_sum, Cond.static yX3_sum, Cond.initialized RX3, Cond.code yX3_sum cX3_sum 3 (some .int), Cond.methodLink RX3 78 yX1_weigh, Cond.instanceMethod yX1_weigh, Cond.selects RX1 yX1_weigh yX1_weigh, Cond.initialized RX1, Cond.code yX1_weigh cX1_weigh 10 none, Cond.methodLink RX1 24 Lib.Math.max.name, Cond.static Lib.Math.max.name, Cond.initialized "java/lang/Math", Cond.code Lib.Math.max.name Lib.Math.max.code 2 (some .int), Cond.methodLink RX1 30 Lib.Math.min.name, Cond.static Lib.Math.min.name, Cond.code Lib.Math.min.name Lib.Math.min.code 2 (some .int), Cond.fieldLink RX1 18 "BulkSamples$Odds" "all" "LBulkSamples$Whole;", Cond.fieldLink RX1 21 "BulkSamples$Odds" "ways" "LBulkSamples$Whole;", Cond.fieldLink RX1 12 "BulkSamples$Odds" "asked" "LBulkSamples$Whole;"]
def wsX3_judge_r2 : List Cond := [Cond.methodLink RX1 33 yX2_setChoices, Cond.instanceMethod yX2_setChoices, Cond.selects RX2 yX2_setChoices yX2_setChoices, Cond.initialized RX2, Cond.code yX2_setChoices cX2_setChoices 5 none, Cond.methodLink RX2 13 Lib.Math.min.name, Cond.methodLink RX2 19 yX2_set, Cond.instanceMethod yX2_set, Cond.selects RX2 yX2_set yX2_set, Cond.code yX2_set cX2_set 3 none, Cond.fieldLink RX2 9 "BulkSamples$Whole" "parts" "[J", Cond.methodLink RX2 23 yX2_multiply, Cond.instanceMethod yX2_multiply, Cond.selects RX2 yX2_multiply yX2_multiply, Cond.code yX2_multiply cX2_multiply 7 none, Cond.constantLong RX2 29 (1000000000), Cond.methodLink RX2 26 yX2_divide, Cond.instanceMethod yX2_divide, Cond.selects RX2 yX2_divide yX2_divide, Cond.code yX2_divide cX2_divide 7 none, Cond.methodLink RX1 37 yX2_set, Cond.methodLink RX1 41 yX2_add, Cond.instanceMethod yX2_add, Cond.selects RX2 yX2_add yX2_add]
def wsX3_judge_r3 : List Cond := [Cond.code yX2_add cX2_add 7 none, Cond.methodLink RX1 45 yX2_multiply, Cond.methodLink RX1 48 yX2_divide, Cond.methodLink RX3 107 yX1_isAtMost, Cond.instanceMethod yX1_isAtMost, Cond.selects RX1 yX1_isAtMost yX1_isAtMost, Cond.code yX1_isAtMost cX1_isAtMost 2 (some .boolean), Cond.methodLink RX1 57 yX2_isAtLeast, Cond.instanceMethod yX2_isAtLeast, Cond.selects RX2 yX2_isAtLeast yX2_isAtLeast, Cond.code yX2_isAtLeast cX2_isAtLeast 3 (some .boolean)]
def wsX3_judge : List Cond := .code yX3_judge cX3_judge 4 (some .int) :: ((wsX3_judge_r1 ++ (wsX3_judge_r2 ++ wsX3_judge_r3)) ++ wsX00 ++ wsX30 ++ wsX10 ++ wsX20)
def wsX3_verdict_r1 : List Cond := [Cond.methodLink RX3 39 yX3_find, Cond.instanceMethod yX3_find, Cond.selects RX3 yX3_find yX3_find, Cond.initialized RX3, Cond.code yX3_find cX3_find 2 (some (.object "BulkSamples$Mailing")), Cond.fieldLink RX3 11 "BulkSamples" "mailings" "[LBulkSamples$Mailing;", Cond.methodLink RX3 53 yX0_isSampled, Cond.instanceMethod yX0_isSampled, Cond.selects RX0 yX0_isSampled yX0_isSampled, Cond.initialized RX0, Cond.code yX0_isSampled cX0_isSampled 1 (some .boolean), Cond.fieldLink RX0 22 "BulkSamples$Mailing" "drawn" "I", Cond.methodLink RX3 72 yX3_judge, Cond.instanceMethod yX3_judge, Cond.selects RX3 yX3_judge yX3_judge, Cond.code yX3_judge cX3_judge 4 (some .int), Cond.fieldLink RX3 50 "BulkSamples$Mailing" "items" "I", Cond.fieldLink RX3 69 "BulkSamples$Mailing" "found" "[I", Cond.fieldLink RX3 25 "BulkSamples" "odds" "LBulkSamples$Odds;", Cond.fieldLink RX3 66 "BulkSamples$Mailing" "drawn" "I", Cond.fieldLink RX3 29 "BulkSamples" "trust" "I", Cond.methodLink RX3 46 yX3_sum, Cond.static yX3_sum, Cond.code yX3_sum cX3_sum 3 (some .int)]
def wsX3_verdict_r2 : List Cond := [Cond.methodLink RX3 78 yX1_weigh, Cond.instanceMethod yX1_weigh, Cond.selects RX1 yX1_weigh yX1_weigh, Cond.initialized RX1, Cond.code yX1_weigh cX1_weigh 10 none, Cond.methodLink RX1 24 Lib.Math.max.name, Cond.static Lib.Math.max.name, Cond.initialized "java/lang/Math", Cond.code Lib.Math.max.name Lib.Math.max.code 2 (some .int), Cond.methodLink RX1 30 Lib.Math.min.name, Cond.static Lib.Math.min.name, Cond.code Lib.Math.min.name Lib.Math.min.code 2 (some .int), Cond.fieldLink RX1 18 "BulkSamples$Odds" "all" "LBulkSamples$Whole;", Cond.fieldLink RX1 21 "BulkSamples$Odds" "ways" "LBulkSamples$Whole;", Cond.fieldLink RX1 12 "BulkSamples$Odds" "asked" "LBulkSamples$Whole;", Cond.methodLink RX1 33 yX2_setChoices, Cond.instanceMethod yX2_setChoices, Cond.selects RX2 yX2_setChoices yX2_setChoices, Cond.initialized RX2, Cond.code yX2_setChoices cX2_setChoices 5 none, Cond.methodLink RX2 13 Lib.Math.min.name, Cond.methodLink RX2 19 yX2_set, Cond.instanceMethod yX2_set, Cond.selects RX2 yX2_set yX2_set]
def wsX3_verdict_r3 : List Cond := [Cond.code yX2_set cX2_set 3 none, Cond.fieldLink RX2 9 "BulkSamples$Whole" "parts" "[J", Cond.methodLink RX2 23 yX2_multiply, Cond.instanceMethod yX2_multiply, Cond.selects RX2 yX2_multiply yX2_multiply, Cond.code yX2_multiply cX2_multiply 7 none, Cond.constantLong RX2 29 (1000000000), Cond.methodLink RX2 26 yX2_divide, Cond.instanceMethod yX2_divide, Cond.selects RX2 yX2_divide yX2_divide, Cond.code yX2_divide cX2_divide 7 none, Cond.methodLink RX1 37 yX2_set, Cond.methodLink RX1 41 yX2_add, Cond.instanceMethod yX2_add, Cond.selects RX2 yX2_add yX2_add, Cond.code yX2_add cX2_add 7 none, Cond.methodLink RX1 45 yX2_multiply, Cond.methodLink RX1 48 yX2_divide, Cond.methodLink RX3 107 yX1_isAtMost, Cond.instanceMethod yX1_isAtMost, Cond.selects RX1 yX1_isAtMost yX1_isAtMost, Cond.code yX1_isAtMost cX1_isAtMost 2 (some .boolean), Cond.methodLink RX1 57 yX2_isAtLeast, Cond.instanceMethod yX2_isAtLeast]
def wsX3_verdict_r4 : List Cond := [Cond.selects RX2 yX2_isAtLeast yX2_isAtLeast, Cond.code yX2_isAtLeast cX2_isAtLeast 3 (some .boolean)]
def wsX3_verdict : List Cond := .code yX3_verdict cX3_verdict 3 (some .int) :: ((wsX3_verdict_r1 ++ (wsX3_verdict_r2 ++ (wsX3_verdict_r3 ++ wsX3_verdict_r4))) ++ wsX30 ++ wsX00 ++ wsX10 ++ wsX20)
def wsX3_chance_r1 : List Cond := [Cond.constantLong RX3 76 (-12), Cond.fieldLink RX3 25 "BulkSamples" "odds" "LBulkSamples$Odds;", Cond.methodLink RX3 78 yX1_weigh, Cond.instanceMethod yX1_weigh, Cond.selects RX1 yX1_weigh yX1_weigh, Cond.initialized RX1, Cond.code yX1_weigh cX1_weigh 10 none, Cond.methodLink RX1 24 Lib.Math.max.name, Cond.static Lib.Math.max.name, Cond.initialized "java/lang/Math", Cond.code Lib.Math.max.name Lib.Math.max.code 2 (some .int), Cond.methodLink RX1 30 Lib.Math.min.name, Cond.static Lib.Math.min.name, Cond.code Lib.Math.min.name Lib.Math.min.code 2 (some .int), Cond.fieldLink RX1 18 "BulkSamples$Odds" "all" "LBulkSamples$Whole;", Cond.fieldLink RX1 21 "BulkSamples$Odds" "ways" "LBulkSamples$Whole;", Cond.fieldLink RX1 12 "BulkSamples$Odds" "asked" "LBulkSamples$Whole;", Cond.methodLink RX1 33 yX2_setChoices, Cond.instanceMethod yX2_setChoices, Cond.selects RX2 yX2_setChoices yX2_setChoices, Cond.initialized RX2, Cond.code yX2_setChoices cX2_setChoices 5 none, Cond.methodLink RX2 13 Lib.Math.min.name, Cond.methodLink RX2 19 yX2_set]
def wsX3_chance_r2 : List Cond := [Cond.instanceMethod yX2_set, Cond.selects RX2 yX2_set yX2_set, Cond.code yX2_set cX2_set 3 none, Cond.fieldLink RX2 9 "BulkSamples$Whole" "parts" "[J", Cond.methodLink RX2 23 yX2_multiply, Cond.instanceMethod yX2_multiply, Cond.selects RX2 yX2_multiply yX2_multiply, Cond.code yX2_multiply cX2_multiply 7 none, Cond.constantLong RX2 29 (1000000000), Cond.methodLink RX2 26 yX2_divide, Cond.instanceMethod yX2_divide, Cond.selects RX2 yX2_divide yX2_divide, Cond.code yX2_divide cX2_divide 7 none, Cond.methodLink RX1 37 yX2_set, Cond.methodLink RX1 41 yX2_add, Cond.instanceMethod yX2_add, Cond.selects RX2 yX2_add yX2_add, Cond.code yX2_add cX2_add 7 none, Cond.methodLink RX1 45 yX2_multiply, Cond.methodLink RX1 48 yX2_divide, Cond.methodLink RX3 82 yX1_inThousandMillionths, Cond.instanceMethod yX1_inThousandMillionths, Cond.selects RX1 yX1_inThousandMillionths yX1_inThousandMillionths, Cond.code yX1_inThousandMillionths cX1_inThousandMillionths 4 (some .long)]
def wsX3_chance_r3 : List Cond := [Cond.constantLong RX1 51 (10), Cond.methodLink RX1 53 yX1_takeAll, Cond.instanceMethod yX1_takeAll, Cond.selects RX1 yX1_takeAll yX1_takeAll, Cond.code yX1_takeAll cX1_takeAll 2 (some .int), Cond.methodLink RX1 57 yX2_isAtLeast, Cond.instanceMethod yX2_isAtLeast, Cond.selects RX2 yX2_isAtLeast yX2_isAtLeast, Cond.code yX2_isAtLeast cX2_isAtLeast 3 (some .boolean), Cond.methodLink RX1 61 yX2_subtract, Cond.instanceMethod yX2_subtract, Cond.selects RX2 yX2_subtract yX2_subtract, Cond.code yX2_subtract cX2_subtract 7 none]
def wsX3_chance : List Cond := .code yX3_chance cX3_chance 6 (some .long) :: ((wsX3_chance_r1 ++ (wsX3_chance_r2 ++ wsX3_chance_r3)) ++ wsX30 ++ wsX10 ++ wsX20)
def wsX3_share : List Cond := .code yX3_share cX3_share 3 (some .long) :: ([.classLink RX3 86 "java/lang/ArithmeticException", .initialized "java/lang/ArithmeticException", .constantLong RX3 93 (1000000)] ++ (vx_atS RX3 90 "java/lang/ArithmeticException" ["java/lang/RuntimeException", "java/lang/Exception"]).filter goodWord)
def wsX3_shown : List Cond := .code yX3_shown cX3_shown 3 (some .double) :: ([.constantDouble RX3 95 (13830554455654793216), .fieldLink RX3 69 "BulkSamples$Mailing" "found" "[I", .fieldLink RX3 66 "BulkSamples$Mailing" "drawn" "I", .methodLink RX3 39 yX3_find, .instanceMethod yX3_find, .selects RX3 yX3_find yX3_find, .initialized RX3, .code yX3_find cX3_find 2 (some (.object "BulkSamples$Mailing")), .fieldLink RX3 11 "BulkSamples" "mailings" "[LBulkSamples$Mailing;", .methodLink RX3 53 yX0_isSampled, .instanceMethod yX0_isSampled, .selects RX0 yX0_isSampled yX0_isSampled, .initialized RX0, .code yX0_isSampled cX0_isSampled 1 (some .boolean), .fieldLink RX0 22 "BulkSamples$Mailing" "drawn" "I", .methodLink RX3 46 yX3_sum, .static yX3_sum, .code yX3_sum cX3_sum 3 (some .int)] ++ wsX00 ++ wsX30)
def wsX3_plan : List Cond := .code yX3_plan cX3_plan 3 (some .int) :: ([.fieldLink RX3 19 "BulkSamples" "goodRows" "[I", .fieldLink RX3 15 "BulkSamples" "plans" "[I", .methodLink RX3 60 Lib.Math.min.name, .static Lib.Math.min.name, .initialized "java/lang/Math", .code Lib.Math.min.name Lib.Math.min.code 2 (some .int), .methodLink RX3 97 Lib.Math.max.name, .static Lib.Math.max.name, .code Lib.Math.max.name Lib.Math.max.code 2 (some .int)] ++ wsX30)
def wsX3_surcharge_r1 : List Cond := [Cond.constantLong RX3 100 (-11), Cond.constantLong RX3 102 (-13), Cond.fieldLink RX3 69 "BulkSamples$Mailing" "found" "[I", Cond.fieldLink RX3 66 "BulkSamples$Mailing" "drawn" "I", Cond.methodLink RX3 39 yX3_find, Cond.instanceMethod yX3_find, Cond.selects RX3 yX3_find yX3_find, Cond.initialized RX3, Cond.code yX3_find cX3_find 2 (some (.object "BulkSamples$Mailing")), Cond.fieldLink RX3 11 "BulkSamples" "mailings" "[LBulkSamples$Mailing;", Cond.methodLink RX3 53 yX0_isSampled, Cond.instanceMethod yX0_isSampled, Cond.selects RX0 yX0_isSampled yX0_isSampled, Cond.initialized RX0, Cond.code yX0_isSampled cX0_isSampled 1 (some .boolean), Cond.fieldLink RX0 22 "BulkSamples$Mailing" "drawn" "I", Cond.methodLink RX3 72 yX3_judge, Cond.instanceMethod yX3_judge, Cond.selects RX3 yX3_judge yX3_judge, Cond.code yX3_judge cX3_judge 4 (some .int), Cond.fieldLink RX3 50 "BulkSamples$Mailing" "items" "I", Cond.fieldLink RX3 25 "BulkSamples" "odds" "LBulkSamples$Odds;", Cond.fieldLink RX3 29 "BulkSamples" "trust" "I", Cond.methodLink RX3 46 yX3_sum]
def wsX3_surcharge_r2 : List Cond := [Cond.static yX3_sum, Cond.code yX3_sum cX3_sum 3 (some .int), Cond.methodLink RX3 78 yX1_weigh, Cond.instanceMethod yX1_weigh, Cond.selects RX1 yX1_weigh yX1_weigh, Cond.initialized RX1, Cond.code yX1_weigh cX1_weigh 10 none, Cond.methodLink RX1 24 Lib.Math.max.name, Cond.static Lib.Math.max.name, Cond.initialized "java/lang/Math", Cond.code Lib.Math.max.name Lib.Math.max.code 2 (some .int), Cond.methodLink RX1 30 Lib.Math.min.name, Cond.static Lib.Math.min.name, Cond.code Lib.Math.min.name Lib.Math.min.code 2 (some .int), Cond.fieldLink RX1 18 "BulkSamples$Odds" "all" "LBulkSamples$Whole;", Cond.fieldLink RX1 21 "BulkSamples$Odds" "ways" "LBulkSamples$Whole;", Cond.fieldLink RX1 12 "BulkSamples$Odds" "asked" "LBulkSamples$Whole;", Cond.methodLink RX1 33 yX2_setChoices, Cond.instanceMethod yX2_setChoices, Cond.selects RX2 yX2_setChoices yX2_setChoices, Cond.initialized RX2, Cond.code yX2_setChoices cX2_setChoices 5 none, Cond.methodLink RX2 13 Lib.Math.min.name, Cond.methodLink RX2 19 yX2_set]
def wsX3_surcharge_r3 : List Cond := [Cond.instanceMethod yX2_set, Cond.selects RX2 yX2_set yX2_set, Cond.code yX2_set cX2_set 3 none, Cond.fieldLink RX2 9 "BulkSamples$Whole" "parts" "[J", Cond.methodLink RX2 23 yX2_multiply, Cond.instanceMethod yX2_multiply, Cond.selects RX2 yX2_multiply yX2_multiply, Cond.code yX2_multiply cX2_multiply 7 none, Cond.constantLong RX2 29 (1000000000), Cond.methodLink RX2 26 yX2_divide, Cond.instanceMethod yX2_divide, Cond.selects RX2 yX2_divide yX2_divide, Cond.code yX2_divide cX2_divide 7 none, Cond.methodLink RX1 37 yX2_set, Cond.methodLink RX1 41 yX2_add, Cond.instanceMethod yX2_add, Cond.selects RX2 yX2_add yX2_add, Cond.code yX2_add cX2_add 7 none, Cond.methodLink RX1 45 yX2_multiply, Cond.methodLink RX1 48 yX2_divide, Cond.methodLink RX3 107 yX1_isAtMost, Cond.instanceMethod yX1_isAtMost, Cond.selects RX1 yX1_isAtMost yX1_isAtMost, Cond.code yX1_isAtMost cX1_isAtMost 2 (some .boolean)]
def wsX3_surcharge_r4 : List Cond := [Cond.methodLink RX1 57 yX2_isAtLeast, Cond.instanceMethod yX2_isAtLeast, Cond.selects RX2 yX2_isAtLeast yX2_isAtLeast, Cond.code yX2_isAtLeast cX2_isAtLeast 3 (some .boolean), Cond.methodLink RX3 104 yX0_discount, Cond.instanceMethod yX0_discount, Cond.selects RX0 yX0_discount yX0_discount, Cond.code yX0_discount cX0_discount 4 (some .long), Cond.fieldLink RX0 9 "BulkSamples$Mailing" "declared" "[I"]
def wsX3_surcharge : List Cond := .code yX3_surcharge cX3_surcharge 4 (some .long) :: ((wsX3_surcharge_r1 ++ (wsX3_surcharge_r2 ++ (wsX3_surcharge_r3 ++ wsX3_surcharge_r4))) ++ wsX00 ++ wsX30 ++ wsX10 ++ wsX20)
def wsX3_bound : List Cond := .code yX3_bound cX3_bound 2 (some .boolean) :: ([.fieldLink RX3 29 "BulkSamples" "trust" "I"] ++ wsX30)
def wsX4_init : List Cond := .code yX4_init cX4_init 2 none :: ([.methodLink RX4 1 objectInit, .instanceMethod objectInit, .code objectInit ⟨#[0xb1]⟩ 1 none, .arrayClass .int, .fieldLink RX4 7 "BulkSamplesModel" "items" "[I", .fieldLink RX4 13 "BulkSamplesModel" "depths" "[I", .fieldLink RX4 16 "BulkSamplesModel" "drawn" "[I", .fieldLink RX4 19 "BulkSamplesModel" "wrongs" "[I", .fieldLink RX4 22 "BulkSamplesModel" "trust" "I", .fieldLink RX4 26 "BulkSamplesModel" "plans" "[I", .fieldLink RX4 29 "BulkSamplesModel" "goods" "[I", .arrayClass .long, .fieldLink RX4 32 "BulkSamplesModel" "rows" "[J", .fieldLink RX4 36 "BulkSamplesModel" "some" "[J", .fieldLink RX4 39 "BulkSamplesModel" "all" "[J", .fieldLink RX4 42 "BulkSamplesModel" "left" "[J", .fieldLink RX4 45 "BulkSamplesModel" "right" "[J"] ++ wsX40)
def wsX4_thrown : List Cond := .code yX4_thrown cX4_thrown 1 (some .int) :: ([.fieldLink RX4 48 "BulkSamplesModel" "thrown" "I"] ++ wsX40)
def wsX4_isMailing : List Cond := .code yX4_isMailing cX4_isMailing 2 (some .boolean) :: ([.fieldLink RX4 51 "BulkSamplesModel" "mailings" "I"] ++ wsX40)
def wsX4_mailing : List Cond := .code yX4_mailing cX4_mailing 2 (some .int) :: ([.fieldLink RX4 48 "BulkSamplesModel" "thrown" "I", .fieldLink RX4 51 "BulkSamplesModel" "mailings" "I", .fieldLink RX4 7 "BulkSamplesModel" "items" "[I"] ++ wsX40)
def wsX4_declared : List Cond := .code yX4_declared cX4_declared 2 (some .int) :: ([.fieldLink RX4 13 "BulkSamplesModel" "depths" "[I"] ++ wsX40)
def wsX4_depth : List Cond := .code yX4_depth cX4_depth 5 (some .int) :: ([.fieldLink RX4 48 "BulkSamplesModel" "thrown" "I", .fieldLink RX4 13 "BulkSamplesModel" "depths" "[I", .fieldLink RX4 7 "BulkSamplesModel" "items" "[I", .fieldLink RX4 16 "BulkSamplesModel" "drawn" "[I", .methodLink RX4 54 yX4_isMailing, .instanceMethod yX4_isMailing, .selects RX4 yX4_isMailing yX4_isMailing, .initialized RX4, .code yX4_isMailing cX4_isMailing 2 (some .boolean), .fieldLink RX4 51 "BulkSamplesModel" "mailings" "I", .methodLink RX4 58 yX4_declared, .instanceMethod yX4_declared, .selects RX4 yX4_declared yX4_declared, .code yX4_declared cX4_declared 2 (some .int)] ++ wsX40)
def wsX4_tape : List Cond := .code yX4_tape cX4_tape 2 none :: ([.fieldLink RX4 48 "BulkSamplesModel" "thrown" "I", .fieldLink RX4 62 "BulkSamplesModel" "taped" "I"] ++ wsX40)
def wsX4_sample : List Cond := .code yX4_sample cX4_sample 4 (some .int) :: ([.fieldLink RX4 48 "BulkSamplesModel" "thrown" "I", .fieldLink RX4 16 "BulkSamplesModel" "drawn" "[I", .fieldLink RX4 7 "BulkSamplesModel" "items" "[I", .fieldLink RX4 62 "BulkSamplesModel" "taped" "I", .methodLink RX4 54 yX4_isMailing, .instanceMethod yX4_isMailing, .selects RX4 yX4_isMailing yX4_isMailing, .initialized RX4, .code yX4_isMailing cX4_isMailing 2 (some .boolean), .fieldLink RX4 51 "BulkSamplesModel" "mailings" "I"] ++ wsX40)
def wsX4_wrongOf : List Cond := .code yX4_wrongOf cX4_wrongOf 2 (some .int) :: ([.fieldLink RX4 19 "BulkSamplesModel" "wrongs" "[I"] ++ wsX40)
def wsX4_wrong : List Cond := .code yX4_wrong cX4_wrong 5 (some .int) :: ([.fieldLink RX4 48 "BulkSamplesModel" "thrown" "I", .fieldLink RX4 19 "BulkSamplesModel" "wrongs" "[I", .fieldLink RX4 16 "BulkSamplesModel" "drawn" "[I", .methodLink RX4 54 yX4_isMailing, .instanceMethod yX4_isMailing, .selects RX4 yX4_isMailing yX4_isMailing, .initialized RX4, .code yX4_isMailing cX4_isMailing 2 (some .boolean), .fieldLink RX4 51 "BulkSamplesModel" "mailings" "I", .methodLink RX4 65 yX4_wrongOf, .instanceMethod yX4_wrongOf, .selects RX4 yX4_wrongOf yX4_wrongOf, .code yX4_wrongOf cX4_wrongOf 2 (some .int)] ++ wsX40)
def wsX4_clear : List Cond := .code yX4_clear cX4_clear 2 none :: ([])
def wsX4_copy : List Cond := .code yX4_copy cX4_copy 3 none :: ([])
def wsX4_multiply : List Cond := .code yX4_multiply cX4_multiply 6 none :: ([.constantLong RX4 68 (268435456)])
def wsX4_isWithin : List Cond := .code yX4_isWithin cX4_isWithin 3 (some .boolean) :: ([])
def wsX4_subtract : List Cond := .code yX4_subtract cX4_subtract 7 none :: ([.constantLong RX4 68 (268435456)])
def wsX4_step : List Cond := .code yX4_step cX4_step 11 none :: ([.fieldLink RX4 32 "BulkSamplesModel" "rows" "[J", .constantLong RX4 68 (268435456)] ++ wsX40)
def wsX4_addRow : List Cond := .code yX4_addRow cX4_addRow 5 none :: ([.fieldLink RX4 36 "BulkSamplesModel" "some" "[J", .fieldLink RX4 32 "BulkSamplesModel" "rows" "[J", .constantLong RX4 68 (268435456)] ++ wsX40)
def wsX4_count : List Cond := .code yX4_count cX4_count 10 none :: ([.fieldLink RX4 32 "BulkSamplesModel" "rows" "[J", .fieldLink RX4 39 "BulkSamplesModel" "all" "[J", .fieldLink RX4 36 "BulkSamplesModel" "some" "[J", .methodLink RX4 70 yX4_clear, .static yX4_clear, .initialized RX4, .code yX4_clear cX4_clear 2 none, .methodLink RX4 74 yX4_step, .instanceMethod yX4_step, .selects RX4 yX4_step yX4_step, .code yX4_step cX4_step 11 none, .constantLong RX4 68 (268435456), .methodLink RX4 78 yX4_multiply, .static yX4_multiply, .code yX4_multiply cX4_multiply 6 none, .methodLink RX4 82 yX4_addRow, .instanceMethod yX4_addRow, .selects RX4 yX4_addRow yX4_addRow, .code yX4_addRow cX4_addRow 5 none] ++ wsX40)
def wsX4_isAtMost : List Cond := .code yX4_isAtMost cX4_isAtMost 2 (some .boolean) :: ([.fieldLink RX4 36 "BulkSamplesModel" "some" "[J", .fieldLink RX4 42 "BulkSamplesModel" "left" "[J", .constantLong RX4 90 (1000), .fieldLink RX4 39 "BulkSamplesModel" "all" "[J", .fieldLink RX4 45 "BulkSamplesModel" "right" "[J", .methodLink RX4 86 yX4_copy, .static yX4_copy, .initialized RX4, .code yX4_copy cX4_copy 3 none, .methodLink RX4 78 yX4_multiply, .static yX4_multiply, .code yX4_multiply cX4_multiply 6 none, .constantLong RX4 68 (268435456), .methodLink RX4 92 yX4_isWithin, .static yX4_isWithin, .code yX4_isWithin cX4_isWithin 3 (some .boolean)] ++ wsX40)
def wsX4_chance_r1 : List Cond := [Cond.fieldLink RX4 48 "BulkSamplesModel" "thrown" "I", Cond.constantLong RX4 96 (-12), Cond.fieldLink RX4 36 "BulkSamplesModel" "some" "[J", Cond.fieldLink RX4 42 "BulkSamplesModel" "left" "[J", Cond.fieldLink RX4 39 "BulkSamplesModel" "all" "[J", Cond.constantLong RX4 105 (10), Cond.methodLink RX4 98 yX4_count, Cond.instanceMethod yX4_count, Cond.selects RX4 yX4_count yX4_count, Cond.initialized RX4, Cond.code yX4_count cX4_count 10 none, Cond.fieldLink RX4 32 "BulkSamplesModel" "rows" "[J", Cond.methodLink RX4 70 yX4_clear, Cond.static yX4_clear, Cond.code yX4_clear cX4_clear 2 none, Cond.methodLink RX4 74 yX4_step, Cond.instanceMethod yX4_step, Cond.selects RX4 yX4_step yX4_step, Cond.code yX4_step cX4_step 11 none, Cond.constantLong RX4 68 (268435456), Cond.methodLink RX4 78 yX4_multiply, Cond.static yX4_multiply, Cond.code yX4_multiply cX4_multiply 6 none, Cond.methodLink RX4 82 yX4_addRow]
def wsX4_chance_r2 : List Cond := [Cond.instanceMethod yX4_addRow, Cond.selects RX4 yX4_addRow yX4_addRow, Cond.code yX4_addRow cX4_addRow 5 none, Cond.methodLink RX4 86 yX4_copy, Cond.static yX4_copy, Cond.code yX4_copy cX4_copy 3 none, Cond.methodLink RX4 92 yX4_isWithin, Cond.static yX4_isWithin, Cond.code yX4_isWithin cX4_isWithin 3 (some .boolean), Cond.methodLink RX4 102 yX4_subtract, Cond.static yX4_subtract, Cond.code yX4_subtract cX4_subtract 7 none]
def wsX4_chance : List Cond := .code yX4_chance cX4_chance 11 (some .long) :: ((wsX4_chance_r1 ++ wsX4_chance_r2) ++ wsX40)
def wsX4_judge_r1 : List Cond := [Cond.fieldLink RX4 7 "BulkSamplesModel" "items" "[I", Cond.fieldLink RX4 16 "BulkSamplesModel" "drawn" "[I", Cond.fieldLink RX4 22 "BulkSamplesModel" "trust" "I", Cond.methodLink RX4 65 yX4_wrongOf, Cond.instanceMethod yX4_wrongOf, Cond.selects RX4 yX4_wrongOf yX4_wrongOf, Cond.initialized RX4, Cond.code yX4_wrongOf cX4_wrongOf 2 (some .int), Cond.fieldLink RX4 19 "BulkSamplesModel" "wrongs" "[I", Cond.methodLink RX4 98 yX4_count, Cond.instanceMethod yX4_count, Cond.selects RX4 yX4_count yX4_count, Cond.code yX4_count cX4_count 10 none, Cond.fieldLink RX4 32 "BulkSamplesModel" "rows" "[J", Cond.fieldLink RX4 39 "BulkSamplesModel" "all" "[J", Cond.fieldLink RX4 36 "BulkSamplesModel" "some" "[J", Cond.methodLink RX4 70 yX4_clear, Cond.static yX4_clear, Cond.code yX4_clear cX4_clear 2 none, Cond.methodLink RX4 74 yX4_step, Cond.instanceMethod yX4_step, Cond.selects RX4 yX4_step yX4_step, Cond.code yX4_step cX4_step 11 none, Cond.constantLong RX4 68 (268435456)]
def wsX4_judge_r2 : List Cond := [Cond.methodLink RX4 78 yX4_multiply, Cond.static yX4_multiply, Cond.code yX4_multiply cX4_multiply 6 none, Cond.methodLink RX4 82 yX4_addRow, Cond.instanceMethod yX4_addRow, Cond.selects RX4 yX4_addRow yX4_addRow, Cond.code yX4_addRow cX4_addRow 5 none, Cond.methodLink RX4 107 yX4_isAtMost, Cond.instanceMethod yX4_isAtMost, Cond.selects RX4 yX4_isAtMost yX4_isAtMost, Cond.code yX4_isAtMost cX4_isAtMost 2 (some .boolean), Cond.fieldLink RX4 42 "BulkSamplesModel" "left" "[J", Cond.constantLong RX4 90 (1000), Cond.fieldLink RX4 45 "BulkSamplesModel" "right" "[J", Cond.methodLink RX4 86 yX4_copy, Cond.static yX4_copy, Cond.code yX4_copy cX4_copy 3 none, Cond.methodLink RX4 92 yX4_isWithin, Cond.static yX4_isWithin, Cond.code yX4_isWithin cX4_isWithin 3 (some .boolean)]
def wsX4_judge : List Cond := .code yX4_judge cX4_judge 4 (some .int) :: ((wsX4_judge_r1 ++ wsX4_judge_r2) ++ wsX40)
def wsX4_verdict_r1 : List Cond := [Cond.fieldLink RX4 48 "BulkSamplesModel" "thrown" "I", Cond.fieldLink RX4 16 "BulkSamplesModel" "drawn" "[I", Cond.methodLink RX4 54 yX4_isMailing, Cond.instanceMethod yX4_isMailing, Cond.selects RX4 yX4_isMailing yX4_isMailing, Cond.initialized RX4, Cond.code yX4_isMailing cX4_isMailing 2 (some .boolean), Cond.fieldLink RX4 51 "BulkSamplesModel" "mailings" "I", Cond.methodLink RX4 110 yX4_judge, Cond.instanceMethod yX4_judge, Cond.selects RX4 yX4_judge yX4_judge, Cond.code yX4_judge cX4_judge 4 (some .int), Cond.fieldLink RX4 7 "BulkSamplesModel" "items" "[I", Cond.fieldLink RX4 22 "BulkSamplesModel" "trust" "I", Cond.methodLink RX4 65 yX4_wrongOf, Cond.instanceMethod yX4_wrongOf, Cond.selects RX4 yX4_wrongOf yX4_wrongOf, Cond.code yX4_wrongOf cX4_wrongOf 2 (some .int), Cond.fieldLink RX4 19 "BulkSamplesModel" "wrongs" "[I", Cond.methodLink RX4 98 yX4_count, Cond.instanceMethod yX4_count, Cond.selects RX4 yX4_count yX4_count, Cond.code yX4_count cX4_count 10 none, Cond.fieldLink RX4 32 "BulkSamplesModel" "rows" "[J"]
def wsX4_verdict_r2 : List Cond := [Cond.fieldLink RX4 39 "BulkSamplesModel" "all" "[J", Cond.fieldLink RX4 36 "BulkSamplesModel" "some" "[J", Cond.methodLink RX4 70 yX4_clear, Cond.static yX4_clear, Cond.code yX4_clear cX4_clear 2 none, Cond.methodLink RX4 74 yX4_step, Cond.instanceMethod yX4_step, Cond.selects RX4 yX4_step yX4_step, Cond.code yX4_step cX4_step 11 none, Cond.constantLong RX4 68 (268435456), Cond.methodLink RX4 78 yX4_multiply, Cond.static yX4_multiply, Cond.code yX4_multiply cX4_multiply 6 none, Cond.methodLink RX4 82 yX4_addRow, Cond.instanceMethod yX4_addRow, Cond.selects RX4 yX4_addRow yX4_addRow, Cond.code yX4_addRow cX4_addRow 5 none, Cond.methodLink RX4 107 yX4_isAtMost, Cond.instanceMethod yX4_isAtMost, Cond.selects RX4 yX4_isAtMost yX4_isAtMost, Cond.code yX4_isAtMost cX4_isAtMost 2 (some .boolean), Cond.fieldLink RX4 42 "BulkSamplesModel" "left" "[J", Cond.constantLong RX4 90 (1000), Cond.fieldLink RX4 45 "BulkSamplesModel" "right" "[J"]
def wsX4_verdict_r3 : List Cond := [Cond.methodLink RX4 86 yX4_copy, Cond.static yX4_copy, Cond.code yX4_copy cX4_copy 3 none, Cond.methodLink RX4 92 yX4_isWithin, Cond.static yX4_isWithin, Cond.code yX4_isWithin cX4_isWithin 3 (some .boolean)]
def wsX4_verdict : List Cond := .code yX4_verdict cX4_verdict 2 (some .int) :: ((wsX4_verdict_r1 ++ (wsX4_verdict_r2 ++ wsX4_verdict_r3)) ++ wsX40)
def wsX4_share : List Cond := .code yX4_share cX4_share 3 (some .long) :: ([.fieldLink RX4 48 "BulkSamplesModel" "thrown" "I", .constantLong RX4 113 (1000000)] ++ wsX40)
def wsX4_shown : List Cond := .code yX4_shown cX4_shown 2 (some .double) :: ([.fieldLink RX4 48 "BulkSamplesModel" "thrown" "I", .constantDouble RX4 115 (13830554455654793216), .fieldLink RX4 16 "BulkSamplesModel" "drawn" "[I", .methodLink RX4 54 yX4_isMailing, .instanceMethod yX4_isMailing, .selects RX4 yX4_isMailing yX4_isMailing, .initialized RX4, .code yX4_isMailing cX4_isMailing 2 (some .boolean), .fieldLink RX4 51 "BulkSamplesModel" "mailings" "I", .methodLink RX4 65 yX4_wrongOf, .instanceMethod yX4_wrongOf, .selects RX4 yX4_wrongOf yX4_wrongOf, .code yX4_wrongOf cX4_wrongOf 2 (some .int), .fieldLink RX4 19 "BulkSamplesModel" "wrongs" "[I"] ++ wsX40)
def wsX4_plan : List Cond := .code yX4_plan cX4_plan 3 (some .int) :: ([.fieldLink RX4 48 "BulkSamplesModel" "thrown" "I", .fieldLink RX4 29 "BulkSamplesModel" "goods" "[I", .fieldLink RX4 26 "BulkSamplesModel" "plans" "[I"] ++ wsX40)
def wsX4_surcharge_r1 : List Cond := [Cond.fieldLink RX4 48 "BulkSamplesModel" "thrown" "I", Cond.constantLong RX4 117 (-11), Cond.fieldLink RX4 16 "BulkSamplesModel" "drawn" "[I", Cond.constantLong RX4 119 (-13), Cond.fieldLink RX4 13 "BulkSamplesModel" "depths" "[I", Cond.methodLink RX4 54 yX4_isMailing, Cond.instanceMethod yX4_isMailing, Cond.selects RX4 yX4_isMailing yX4_isMailing, Cond.initialized RX4, Cond.code yX4_isMailing cX4_isMailing 2 (some .boolean), Cond.fieldLink RX4 51 "BulkSamplesModel" "mailings" "I", Cond.methodLink RX4 110 yX4_judge, Cond.instanceMethod yX4_judge, Cond.selects RX4 yX4_judge yX4_judge, Cond.code yX4_judge cX4_judge 4 (some .int), Cond.fieldLink RX4 7 "BulkSamplesModel" "items" "[I", Cond.fieldLink RX4 22 "BulkSamplesModel" "trust" "I", Cond.methodLink RX4 65 yX4_wrongOf, Cond.instanceMethod yX4_wrongOf, Cond.selects RX4 yX4_wrongOf yX4_wrongOf, Cond.code yX4_wrongOf cX4_wrongOf 2 (some .int), Cond.fieldLink RX4 19 "BulkSamplesModel" "wrongs" "[I", Cond.methodLink RX4 98 yX4_count, Cond.instanceMethod yX4_count]
def wsX4_surcharge_r2 : List Cond := [Cond.selects RX4 yX4_count yX4_count, Cond.code yX4_count cX4_count 10 none, Cond.fieldLink RX4 32 "BulkSamplesModel" "rows" "[J", Cond.fieldLink RX4 39 "BulkSamplesModel" "all" "[J", Cond.fieldLink RX4 36 "BulkSamplesModel" "some" "[J", Cond.methodLink RX4 70 yX4_clear, Cond.static yX4_clear, Cond.code yX4_clear cX4_clear 2 none, Cond.methodLink RX4 74 yX4_step, Cond.instanceMethod yX4_step, Cond.selects RX4 yX4_step yX4_step, Cond.code yX4_step cX4_step 11 none, Cond.constantLong RX4 68 (268435456), Cond.methodLink RX4 78 yX4_multiply, Cond.static yX4_multiply, Cond.code yX4_multiply cX4_multiply 6 none, Cond.methodLink RX4 82 yX4_addRow, Cond.instanceMethod yX4_addRow, Cond.selects RX4 yX4_addRow yX4_addRow, Cond.code yX4_addRow cX4_addRow 5 none, Cond.methodLink RX4 107 yX4_isAtMost, Cond.instanceMethod yX4_isAtMost, Cond.selects RX4 yX4_isAtMost yX4_isAtMost, Cond.code yX4_isAtMost cX4_isAtMost 2 (some .boolean)]
def wsX4_surcharge_r3 : List Cond := [Cond.fieldLink RX4 42 "BulkSamplesModel" "left" "[J", Cond.constantLong RX4 90 (1000), Cond.fieldLink RX4 45 "BulkSamplesModel" "right" "[J", Cond.methodLink RX4 86 yX4_copy, Cond.static yX4_copy, Cond.code yX4_copy cX4_copy 3 none, Cond.methodLink RX4 92 yX4_isWithin, Cond.static yX4_isWithin, Cond.code yX4_isWithin cX4_isWithin 3 (some .boolean)]
def wsX4_surcharge : List Cond := .code yX4_surcharge cX4_surcharge 9 (some .long) :: ((wsX4_surcharge_r1 ++ (wsX4_surcharge_r2 ++ wsX4_surcharge_r3)) ++ wsX40)
def wsX4_bound : List Cond := .code yX4_bound cX4_bound 2 (some .boolean) :: ([.fieldLink RX4 48 "BulkSamplesModel" "thrown" "I", .fieldLink RX4 22 "BulkSamplesModel" "trust" "I"] ++ wsX40)
def wsJ9_max_7cf53 : List Cond := .code yJ9_max_7cf53 cJ9_max_7cf53 2 (some .int) :: ([])
def wsJ9_min_7cf53 : List Cond := .code yJ9_min_7cf53 cJ9_min_7cf53 2 (some .int) :: ([])
def wsL_share : List Cond := .codeWith yL_share cL_share 5 (some .int) [(0, 9, 12, 13)] :: ([.classLink RL 13 "java/lang/ArithmeticException", .methodLink RL 7 yX3_share, .instanceMethod yX3_share, .selects RX3 yX3_share yX3_share, .initialized RX3, .code yX3_share cX3_share 3 (some .long), .classLink RX3 86 "java/lang/ArithmeticException", .initialized "java/lang/ArithmeticException", .constantLong RX3 93 (1000000)] ++ (vx_atS RX3 90 "java/lang/ArithmeticException" ["java/lang/RuntimeException", "java/lang/Exception"]).filter goodWord)
def wsL_law0_r1 : List Cond := [Cond.classLink RL 8 RX3, Cond.instantiable RX3 7, Cond.initialized RX3, Cond.classLink RL 16 RX4, Cond.instantiable RX4 15, Cond.initialized RX4, Cond.arrayClass .long, Cond.methodLink RL 15 yX3_init, Cond.instanceMethod yX3_init, Cond.code yX3_init cX3_init 2 none, Cond.methodLink RX3 1 objectInit, Cond.instanceMethod objectInit, Cond.code objectInit ⟨#[0xb1]⟩ 1 none, Cond.classLink RX3 9 RX0, Cond.fieldLink RX3 11 "BulkSamples" "mailings" "[LBulkSamples$Mailing;", Cond.arrayClass .int, Cond.fieldLink RX3 15 "BulkSamples" "plans" "[I", Cond.fieldLink RX3 19 "BulkSamples" "goodRows" "[I", Cond.classLink RX3 22 RX1, Cond.instantiable RX1 3, Cond.initialized RX1, Cond.fieldLink RX3 25 "BulkSamples" "odds" "LBulkSamples$Odds;", Cond.fieldLink RX3 29 "BulkSamples" "trust" "I", Cond.instanceMethod yX1_init]
def wsL_law0_r2 : List Cond := [Cond.code yX1_init cX1_init 1 none, Cond.methodLink RX1 3 objectInit, Cond.classLink RX1 9 RX2, Cond.instantiable RX2 1, Cond.initialized RX2, Cond.fieldLink RX1 12 "BulkSamples$Odds" "asked" "LBulkSamples$Whole;", Cond.fieldLink RX1 18 "BulkSamples$Odds" "all" "LBulkSamples$Whole;", Cond.fieldLink RX1 21 "BulkSamples$Odds" "ways" "LBulkSamples$Whole;", Cond.instanceMethod yX2_init, Cond.code yX2_init cX2_init 1 none, Cond.methodLink RX2 1 objectInit, Cond.fieldLink RX2 9 "BulkSamples$Whole" "parts" "[J", Cond.methodLink RL 18 yX4_init, Cond.instanceMethod yX4_init, Cond.code yX4_init cX4_init 2 none, Cond.methodLink RX4 1 objectInit, Cond.fieldLink RX4 7 "BulkSamplesModel" "items" "[I", Cond.fieldLink RX4 13 "BulkSamplesModel" "depths" "[I", Cond.fieldLink RX4 16 "BulkSamplesModel" "drawn" "[I", Cond.fieldLink RX4 19 "BulkSamplesModel" "wrongs" "[I", Cond.fieldLink RX4 22 "BulkSamplesModel" "trust" "I", Cond.fieldLink RX4 26 "BulkSamplesModel" "plans" "[I", Cond.fieldLink RX4 29 "BulkSamplesModel" "goods" "[I", Cond.fieldLink RX4 32 "BulkSamplesModel" "rows" "[J"]
def wsL_law0_r3 : List Cond := [Cond.fieldLink RX4 36 "BulkSamplesModel" "some" "[J", Cond.fieldLink RX4 39 "BulkSamplesModel" "all" "[J", Cond.fieldLink RX4 42 "BulkSamplesModel" "left" "[J", Cond.fieldLink RX4 45 "BulkSamplesModel" "right" "[J", Cond.methodLink RL 19 yX3_mailing, Cond.instanceMethod yX3_mailing, Cond.selects RX3 yX3_mailing yX3_mailing, Cond.code yX3_mailing cX3_mailing 2 (some .int), Cond.fieldLink RX3 33 "BulkSamples" "mailingCount" "I", Cond.instantiable RX0 4, Cond.initialized RX0, Cond.methodLink RX3 36 yX0_init, Cond.instanceMethod yX0_init, Cond.code yX0_init cX0_init 2 none, Cond.methodLink RX0 3 objectInit, Cond.fieldLink RX0 9 "BulkSamples$Mailing" "declared" "[I", Cond.fieldLink RX0 15 "BulkSamples$Mailing" "found" "[I", Cond.fieldLink RX0 18 "BulkSamples$Mailing" "items" "I", Cond.methodLink RL 23 yX4_mailing, Cond.instanceMethod yX4_mailing, Cond.selects RX4 yX4_mailing yX4_mailing, Cond.code yX4_mailing cX4_mailing 2 (some .int), Cond.fieldLink RX4 48 "BulkSamplesModel" "thrown" "I", Cond.fieldLink RX4 51 "BulkSamplesModel" "mailings" "I"]
def wsL_law0_r4 : List Cond := [Cond.methodLink RL 24 yX3_depth, Cond.instanceMethod yX3_depth, Cond.selects RX3 yX3_depth yX3_depth, Cond.code yX3_depth cX3_depth 6 (some .int), Cond.fieldLink RX3 43 "BulkSamples$Mailing" "declared" "[I", Cond.fieldLink RX3 50 "BulkSamples$Mailing" "items" "I", Cond.methodLink RX3 39 yX3_find, Cond.instanceMethod yX3_find, Cond.selects RX3 yX3_find yX3_find, Cond.code yX3_find cX3_find 2 (some (.object "BulkSamples$Mailing")), Cond.methodLink RX3 46 yX3_sum, Cond.static yX3_sum, Cond.code yX3_sum cX3_sum 3 (some .int), Cond.methodLink RX3 53 yX0_isSampled, Cond.instanceMethod yX0_isSampled, Cond.selects RX0 yX0_isSampled yX0_isSampled, Cond.code yX0_isSampled cX0_isSampled 1 (some .boolean), Cond.fieldLink RX0 22 "BulkSamples$Mailing" "drawn" "I", Cond.methodLink RL 28 yX4_depth, Cond.instanceMethod yX4_depth, Cond.selects RX4 yX4_depth yX4_depth, Cond.code yX4_depth cX4_depth 5 (some .int), Cond.methodLink RX4 54 yX4_isMailing, Cond.instanceMethod yX4_isMailing]
def wsL_law0_r5 : List Cond := [Cond.selects RX4 yX4_isMailing yX4_isMailing, Cond.code yX4_isMailing cX4_isMailing 2 (some .boolean), Cond.methodLink RX4 58 yX4_declared, Cond.instanceMethod yX4_declared, Cond.selects RX4 yX4_declared yX4_declared, Cond.code yX4_declared cX4_declared 2 (some .int), Cond.methodLink RL 29 yX3_tape, Cond.instanceMethod yX3_tape, Cond.selects RX3 yX3_tape yX3_tape, Cond.code yX3_tape cX3_tape 2 none, Cond.fieldLink RX3 57 "BulkSamples" "tapeLength" "I", Cond.methodLink RL 33 yX4_tape, Cond.instanceMethod yX4_tape, Cond.selects RX4 yX4_tape yX4_tape, Cond.code yX4_tape cX4_tape 2 none, Cond.fieldLink RX4 62 "BulkSamplesModel" "taped" "I", Cond.methodLink RL 34 yX3_sample, Cond.instanceMethod yX3_sample, Cond.selects RX3 yX3_sample yX3_sample, Cond.code yX3_sample cX3_sample 5 (some .int), Cond.methodLink RX3 60 Lib.Math.min.name, Cond.static Lib.Math.min.name, Cond.initialized "java/lang/Math", Cond.code Lib.Math.min.name Lib.Math.min.code 2 (some .int)]
def wsL_law0_r6 : List Cond := [Cond.fieldLink RX3 66 "BulkSamples$Mailing" "drawn" "I", Cond.methodLink RL 38 yX4_sample, Cond.instanceMethod yX4_sample, Cond.selects RX4 yX4_sample yX4_sample, Cond.code yX4_sample cX4_sample 4 (some .int), Cond.methodLink RL 39 yX3_wrong, Cond.instanceMethod yX3_wrong, Cond.selects RX3 yX3_wrong yX3_wrong, Cond.code yX3_wrong cX3_wrong 6 (some .int), Cond.fieldLink RX3 69 "BulkSamples$Mailing" "found" "[I", Cond.methodLink RL 42 yX4_wrong, Cond.instanceMethod yX4_wrong, Cond.selects RX4 yX4_wrong yX4_wrong, Cond.code yX4_wrong cX4_wrong 5 (some .int), Cond.methodLink RX4 65 yX4_wrongOf, Cond.instanceMethod yX4_wrongOf, Cond.selects RX4 yX4_wrongOf yX4_wrongOf, Cond.code yX4_wrongOf cX4_wrongOf 2 (some .int), Cond.methodLink RL 43 yX3_verdict, Cond.instanceMethod yX3_verdict, Cond.selects RX3 yX3_verdict yX3_verdict, Cond.code yX3_verdict cX3_verdict 3 (some .int), Cond.methodLink RX3 72 yX3_judge, Cond.instanceMethod yX3_judge]
def wsL_law0_r7 : List Cond := [Cond.selects RX3 yX3_judge yX3_judge, Cond.code yX3_judge cX3_judge 4 (some .int), Cond.methodLink RX3 78 yX1_weigh, Cond.instanceMethod yX1_weigh, Cond.selects RX1 yX1_weigh yX1_weigh, Cond.code yX1_weigh cX1_weigh 10 none, Cond.methodLink RX1 24 Lib.Math.max.name, Cond.static Lib.Math.max.name, Cond.code Lib.Math.max.name Lib.Math.max.code 2 (some .int), Cond.methodLink RX1 30 Lib.Math.min.name, Cond.methodLink RX1 33 yX2_setChoices, Cond.instanceMethod yX2_setChoices, Cond.selects RX2 yX2_setChoices yX2_setChoices, Cond.code yX2_setChoices cX2_setChoices 5 none, Cond.methodLink RX2 13 Lib.Math.min.name, Cond.methodLink RX2 19 yX2_set, Cond.instanceMethod yX2_set, Cond.selects RX2 yX2_set yX2_set, Cond.code yX2_set cX2_set 3 none, Cond.methodLink RX2 23 yX2_multiply, Cond.instanceMethod yX2_multiply, Cond.selects RX2 yX2_multiply yX2_multiply, Cond.code yX2_multiply cX2_multiply 7 none, Cond.constantLong RX2 29 (1000000000)]
def wsL_law0_r8 : List Cond := [Cond.methodLink RX2 26 yX2_divide, Cond.instanceMethod yX2_divide, Cond.selects RX2 yX2_divide yX2_divide, Cond.code yX2_divide cX2_divide 7 none, Cond.methodLink RX1 37 yX2_set, Cond.methodLink RX1 41 yX2_add, Cond.instanceMethod yX2_add, Cond.selects RX2 yX2_add yX2_add, Cond.code yX2_add cX2_add 7 none, Cond.methodLink RX1 45 yX2_multiply, Cond.methodLink RX1 48 yX2_divide, Cond.methodLink RX3 107 yX1_isAtMost, Cond.instanceMethod yX1_isAtMost, Cond.selects RX1 yX1_isAtMost yX1_isAtMost, Cond.code yX1_isAtMost cX1_isAtMost 2 (some .boolean), Cond.methodLink RX1 57 yX2_isAtLeast, Cond.instanceMethod yX2_isAtLeast, Cond.selects RX2 yX2_isAtLeast yX2_isAtLeast, Cond.code yX2_isAtLeast cX2_isAtLeast 3 (some .boolean), Cond.methodLink RL 46 yX4_verdict, Cond.instanceMethod yX4_verdict, Cond.selects RX4 yX4_verdict yX4_verdict, Cond.code yX4_verdict cX4_verdict 2 (some .int), Cond.methodLink RX4 110 yX4_judge]
def wsL_law0_r9 : List Cond := [Cond.instanceMethod yX4_judge, Cond.selects RX4 yX4_judge yX4_judge, Cond.code yX4_judge cX4_judge 4 (some .int), Cond.methodLink RX4 98 yX4_count, Cond.instanceMethod yX4_count, Cond.selects RX4 yX4_count yX4_count, Cond.code yX4_count cX4_count 10 none, Cond.methodLink RX4 70 yX4_clear, Cond.static yX4_clear, Cond.code yX4_clear cX4_clear 2 none, Cond.methodLink RX4 74 yX4_step, Cond.instanceMethod yX4_step, Cond.selects RX4 yX4_step yX4_step, Cond.code yX4_step cX4_step 11 none, Cond.constantLong RX4 68 (268435456), Cond.methodLink RX4 78 yX4_multiply, Cond.static yX4_multiply, Cond.code yX4_multiply cX4_multiply 6 none, Cond.methodLink RX4 82 yX4_addRow, Cond.instanceMethod yX4_addRow, Cond.selects RX4 yX4_addRow yX4_addRow, Cond.code yX4_addRow cX4_addRow 5 none, Cond.methodLink RX4 107 yX4_isAtMost, Cond.instanceMethod yX4_isAtMost]
def wsL_law0_r10 : List Cond := [Cond.selects RX4 yX4_isAtMost yX4_isAtMost, Cond.code yX4_isAtMost cX4_isAtMost 2 (some .boolean), Cond.constantLong RX4 90 (1000), Cond.methodLink RX4 86 yX4_copy, Cond.static yX4_copy, Cond.code yX4_copy cX4_copy 3 none, Cond.methodLink RX4 92 yX4_isWithin, Cond.static yX4_isWithin, Cond.code yX4_isWithin cX4_isWithin 3 (some .boolean), Cond.methodLink RL 47 yX3_chance, Cond.instanceMethod yX3_chance, Cond.selects RX3 yX3_chance yX3_chance, Cond.code yX3_chance cX3_chance 6 (some .long), Cond.constantLong RX3 76 (-12), Cond.methodLink RX3 82 yX1_inThousandMillionths, Cond.instanceMethod yX1_inThousandMillionths, Cond.selects RX1 yX1_inThousandMillionths yX1_inThousandMillionths, Cond.code yX1_inThousandMillionths cX1_inThousandMillionths 4 (some .long), Cond.constantLong RX1 51 (10), Cond.methodLink RX1 53 yX1_takeAll, Cond.instanceMethod yX1_takeAll, Cond.selects RX1 yX1_takeAll yX1_takeAll, Cond.code yX1_takeAll cX1_takeAll 2 (some .int), Cond.methodLink RX1 61 yX2_subtract]
def wsL_law0_r11 : List Cond := [Cond.instanceMethod yX2_subtract, Cond.selects RX2 yX2_subtract yX2_subtract, Cond.code yX2_subtract cX2_subtract 7 none, Cond.methodLink RL 51 yX4_chance, Cond.instanceMethod yX4_chance, Cond.selects RX4 yX4_chance yX4_chance, Cond.code yX4_chance cX4_chance 11 (some .long), Cond.constantLong RX4 96 (-12), Cond.constantLong RX4 105 (10), Cond.methodLink RX4 102 yX4_subtract, Cond.static yX4_subtract, Cond.code yX4_subtract cX4_subtract 7 none, Cond.methodLink RL 52 yL_share, Cond.static yL_share, Cond.initialized RL, Cond.codeWith yL_share cL_share 5 (some .int) [(0, 9, 12, 13)], Cond.classLink RL 13 "java/lang/ArithmeticException", Cond.methodLink RL 7 yX3_share, Cond.instanceMethod yX3_share, Cond.selects RX3 yX3_share yX3_share, Cond.code yX3_share cX3_share 3 (some .long), Cond.classLink RX3 86 "java/lang/ArithmeticException", Cond.initialized "java/lang/ArithmeticException", Cond.constantLong RX3 93 (1000000)]
def wsL_law0_r12 : List Cond := [Cond.methodLink RL 57 yX4_share, Cond.instanceMethod yX4_share, Cond.selects RX4 yX4_share yX4_share, Cond.code yX4_share cX4_share 3 (some .long), Cond.constantLong RX4 113 (1000000), Cond.methodLink RL 58 yX4_thrown, Cond.instanceMethod yX4_thrown, Cond.selects RX4 yX4_thrown yX4_thrown, Cond.code yX4_thrown cX4_thrown 1 (some .int), Cond.methodLink RL 62 yX3_shown, Cond.instanceMethod yX3_shown, Cond.selects RX3 yX3_shown yX3_shown, Cond.code yX3_shown cX3_shown 3 (some .double), Cond.constantDouble RX3 95 (13830554455654793216), Cond.methodLink RL 66 yX4_shown, Cond.instanceMethod yX4_shown, Cond.selects RX4 yX4_shown yX4_shown, Cond.code yX4_shown cX4_shown 2 (some .double), Cond.constantDouble RX4 115 (13830554455654793216), Cond.methodLink RL 67 yX3_plan, Cond.instanceMethod yX3_plan, Cond.selects RX3 yX3_plan yX3_plan, Cond.code yX3_plan cX3_plan 3 (some .int), Cond.methodLink RX3 97 Lib.Math.max.name]
def wsL_law0_r13 : List Cond := [Cond.methodLink RL 70 yX4_plan, Cond.instanceMethod yX4_plan, Cond.selects RX4 yX4_plan yX4_plan, Cond.code yX4_plan cX4_plan 3 (some .int), Cond.methodLink RL 71 yX3_surcharge, Cond.instanceMethod yX3_surcharge, Cond.selects RX3 yX3_surcharge yX3_surcharge, Cond.code yX3_surcharge cX3_surcharge 4 (some .long), Cond.constantLong RX3 100 (-11), Cond.constantLong RX3 102 (-13), Cond.methodLink RX3 104 yX0_discount, Cond.instanceMethod yX0_discount, Cond.selects RX0 yX0_discount yX0_discount, Cond.code yX0_discount cX0_discount 4 (some .long), Cond.methodLink RL 75 yX4_surcharge, Cond.instanceMethod yX4_surcharge, Cond.selects RX4 yX4_surcharge yX4_surcharge, Cond.code yX4_surcharge cX4_surcharge 9 (some .long), Cond.constantLong RX4 117 (-11), Cond.constantLong RX4 119 (-13), Cond.methodLink RL 76 yX3_bound, Cond.instanceMethod yX3_bound, Cond.selects RX3 yX3_bound yX3_bound, Cond.code yX3_bound cX3_bound 2 (some .boolean)]
def wsL_law0_r14 : List Cond := [Cond.methodLink RL 80 yX4_bound, Cond.instanceMethod yX4_bound, Cond.selects RX4 yX4_bound yX4_bound, Cond.code yX4_bound cX4_bound 2 (some .boolean)]
def wsL_law0 : List Cond := (wsL_law0_r1 ++ (wsL_law0_r2 ++ (wsL_law0_r3 ++ (wsL_law0_r4 ++ (wsL_law0_r5 ++ (wsL_law0_r6 ++ (wsL_law0_r7 ++ (wsL_law0_r8 ++ (wsL_law0_r9 ++ (wsL_law0_r10 ++ (wsL_law0_r11 ++ (wsL_law0_r12 ++ (wsL_law0_r13 ++ wsL_law0_r14))))))))))))) ++ wsX30 ++ wsX40 ++ wsX10 ++ wsX20 ++ wsX00 ++ ([] : List Cond)
def wsL_law : List Cond := wsL_law0 ++ (vx_atS RX3 90 "java/lang/ArithmeticException" ["java/lang/RuntimeException", "java/lang/Exception"]).filter goodWord
set_option maxRecDepth 20000 in
theorem wsL_law_in0 : ∀ w ∈ wsL_law0, w ∈ lw_tbl := fun w h => (goodIn_p wsL_law0 [27, 30, 37, 43, 309, 86, 90, 364, 112, 116, 119, 123, 368, 372, 376, 127, 380, 131, 134, 384, 138, 388, 392, 142, 146, 150, 153, 158, 163, 167, 172, 177, 183, 187, 430, 434, 401, 404, 408, 412, 416, 438, 419, 422, 191, 196, 201, 205, 396, 425, 237, 443, 360, 209, 448, 214, 453, 219, 225, 457, 229, 463] (by decide +kernel) (by decide +kernel) w h).1
theorem wsL_law_x0 : ∀ w ∈ (vx_atS RX3 90 "java/lang/ArithmeticException" ["java/lang/RuntimeException", "java/lang/Exception"]).filter goodWord, w ∈ lw_tbl := by decide +kernel
theorem wsL_law_in : ∀ w ∈ wsL_law, w ∈ lw_tbl := fun w h => (List.mem_append.mp h).elim (fun h => wsL_law_in0 w h) (fun h => wsL_law_x0 w h)
theorem inlX0 : ∀ w ∈ wsX00, w ∈ wsL_law := fun _ h => List.mem_append_left _ (List.mem_append_left _ (List.mem_append_right _ h))
theorem inX0 : ∀ w ∈ wsX00, w ∈ lw_tbl := fun w h => wsL_law_in w (inlX0 w h)
theorem inlX1 : ∀ w ∈ wsX10, w ∈ wsL_law := fun _ h => List.mem_append_left _ (List.mem_append_left _ (List.mem_append_left _ (List.mem_append_left _ (List.mem_append_right _ h))))
theorem inX1 : ∀ w ∈ wsX10, w ∈ lw_tbl := fun w h => wsL_law_in w (inlX1 w h)
theorem inlX2 : ∀ w ∈ wsX20, w ∈ wsL_law := fun _ h => List.mem_append_left _ (List.mem_append_left _ (List.mem_append_left _ (List.mem_append_right _ h)))
theorem inX2 : ∀ w ∈ wsX20, w ∈ lw_tbl := fun w h => wsL_law_in w (inlX2 w h)
theorem inlX3 : ∀ w ∈ wsX30, w ∈ wsL_law := fun _ h => List.mem_append_left _ (List.mem_append_left _ (List.mem_append_left _ (List.mem_append_left _ (List.mem_append_left _ (List.mem_append_left _ (List.mem_append_right _ h))))))
theorem inX3 : ∀ w ∈ wsX30, w ∈ lw_tbl := fun w h => wsL_law_in w (inlX3 w h)
theorem inlX4 : ∀ w ∈ wsX40, w ∈ wsL_law := fun _ h => List.mem_append_left _ (List.mem_append_left _ (List.mem_append_left _ (List.mem_append_left _ (List.mem_append_left _ (List.mem_append_right _ h)))))
theorem inX4 : ∀ w ∈ wsX40, w ∈ lw_tbl := fun w h => wsL_law_in w (inlX4 w h)
theorem inJ9 : ∀ w ∈ wsJ90, w ∈ lw_tbl := by decide +kernel
theorem inJ0 : ∀ w ∈ wsJ00, w ∈ lw_tbl := by decide +kernel
theorem dX0_init_0 : decode cX0_init 0 = .ok (.aload_n 0, 1) := by decide +kernel
theorem dX0_init_1 : decode cX0_init 1 = .ok (.invokespecial 3, 3) := by decide +kernel
theorem dX0_init_4 : decode cX0_init 4 = .ok (.aload_n 0, 1) := by decide +kernel
theorem dX0_init_5 : decode cX0_init 5 = .ok (.iconst 4, 1) := by decide +kernel
theorem dX0_init_6 : decode cX0_init 6 = .ok (.newarray .int, 2) := by decide +kernel
theorem dX0_init_8 : decode cX0_init 8 = .ok (.putfield 9, 3) := by decide +kernel
theorem dX0_init_11 : decode cX0_init 11 = .ok (.aload_n 0, 1) := by decide +kernel
theorem dX0_init_12 : decode cX0_init 12 = .ok (.iconst 3, 1) := by decide +kernel
theorem dX0_init_13 : decode cX0_init 13 = .ok (.newarray .int, 2) := by decide +kernel
theorem dX0_init_15 : decode cX0_init 15 = .ok (.putfield 15, 3) := by decide +kernel
theorem dX0_init_18 : decode cX0_init 18 = .ok (.aload_n 0, 1) := by decide +kernel
theorem dX0_init_19 : decode cX0_init 19 = .ok (.iload_n 1, 1) := by decide +kernel
theorem dX0_init_20 : decode cX0_init 20 = .ok (.putfield 18, 3) := by decide +kernel
theorem dX0_init_23 : decode cX0_init 23 = .ok (.return_, 1) := by decide +kernel
theorem dX0_isSampled_0 : decode cX0_isSampled 0 = .ok (.aload_n 0, 1) := by decide +kernel
theorem dX0_isSampled_1 : decode cX0_isSampled 1 = .ok (.getfield 22, 3) := by decide +kernel
theorem dX0_isSampled_4 : decode cX0_isSampled 4 = .ok (.ifCond .le 7, 3) := by decide +kernel
theorem dX0_isSampled_7 : decode cX0_isSampled 7 = .ok (.iconst 1, 1) := by decide +kernel
theorem dX0_isSampled_8 : decode cX0_isSampled 8 = .ok (.goto 4, 3) := by decide +kernel
theorem dX0_isSampled_11 : decode cX0_isSampled 11 = .ok (.iconst 0, 1) := by decide +kernel
theorem dX0_isSampled_12 : decode cX0_isSampled 12 = .ok (.ireturn, 1) := by decide +kernel
theorem dX0_discount_0 : decode cX0_discount 0 = .ok (.lconst 0, 1) := by decide +kernel
theorem dX0_discount_1 : decode cX0_discount 1 = .ok (.lstore_n 1, 1) := by decide +kernel
theorem dX0_discount_2 : decode cX0_discount 2 = .ok (.iconst 0, 1) := by decide +kernel
theorem dX0_discount_3 : decode cX0_discount 3 = .ok (.istore_n 3, 1) := by decide +kernel
theorem dX0_discount_4 : decode cX0_discount 4 = .ok (.iload_n 3, 1) := by decide +kernel
theorem dX0_discount_5 : decode cX0_discount 5 = .ok (.aload_n 0, 1) := by decide +kernel
theorem dX0_discount_6 : decode cX0_discount 6 = .ok (.getfield 9, 3) := by decide +kernel
theorem dX0_discount_9 : decode cX0_discount 9 = .ok (.arraylength, 1) := by decide +kernel
theorem dX0_discount_10 : decode cX0_discount 10 = .ok (.if_icmp .ge 22, 3) := by decide +kernel
theorem dX0_discount_13 : decode cX0_discount 13 = .ok (.lload_n 1, 1) := by decide +kernel
theorem dX0_discount_14 : decode cX0_discount 14 = .ok (.iload_n 3, 1) := by decide +kernel
theorem dX0_discount_15 : decode cX0_discount 15 = .ok (.i2l, 1) := by decide +kernel
theorem dX0_discount_16 : decode cX0_discount 16 = .ok (.aload_n 0, 1) := by decide +kernel
theorem dX0_discount_17 : decode cX0_discount 17 = .ok (.getfield 9, 3) := by decide +kernel
theorem dX0_discount_20 : decode cX0_discount 20 = .ok (.iload_n 3, 1) := by decide +kernel
theorem dX0_discount_21 : decode cX0_discount 21 = .ok (.iaload, 1) := by decide +kernel
theorem dX0_discount_22 : decode cX0_discount 22 = .ok (.i2l, 1) := by decide +kernel
theorem dX0_discount_23 : decode cX0_discount 23 = .ok (.lmul, 1) := by decide +kernel
theorem dX0_discount_24 : decode cX0_discount 24 = .ok (.ladd, 1) := by decide +kernel
theorem dX0_discount_25 : decode cX0_discount 25 = .ok (.lstore_n 1, 1) := by decide +kernel
theorem dX0_discount_26 : decode cX0_discount 26 = .ok (.iinc 3 1, 3) := by decide +kernel
theorem dX0_discount_29 : decode cX0_discount 29 = .ok (.goto (-25), 3) := by decide +kernel
theorem dX0_discount_32 : decode cX0_discount 32 = .ok (.lload_n 1, 1) := by decide +kernel
theorem dX0_discount_33 : decode cX0_discount 33 = .ok (.lreturn, 1) := by decide +kernel
set_option maxRecDepth 20000 in
theorem ggX1_init_X2_init : GoodIn wsX1_init wsX2_init := goodIn_r _ [11, 12, 2, 3, 13, 14, 15] (by decide +kernel) (by decide +kernel)
set_option maxRecDepth 20000 in
theorem gX1_init_X2_init_n11 : GoodIn wsX1_init (wsX2_init) := ggX1_init_X2_init
theorem dX1_init_0 : decode cX1_init 0 = .ok (.aload_n 0, 1) := by decide +kernel
theorem dX1_init_1 : decode cX1_init 1 = .ok (.invokespecial 3, 3) := by decide +kernel
theorem dX1_init_4 : decode cX1_init 4 = .ok (.aload_n 0, 1) := by decide +kernel
theorem dX1_init_5 : decode cX1_init 5 = .ok (.new 9, 3) := by decide +kernel
theorem dX1_init_8 : decode cX1_init 8 = .ok (.dup, 1) := by decide +kernel
theorem dX1_init_9 : decode cX1_init 9 = .ok (.invokespecial 11, 3) := by decide +kernel
theorem dX1_init_12 : decode cX1_init 12 = .ok (.putfield 12, 3) := by decide +kernel
theorem dX1_init_15 : decode cX1_init 15 = .ok (.aload_n 0, 1) := by decide +kernel
theorem dX1_init_16 : decode cX1_init 16 = .ok (.new 9, 3) := by decide +kernel
theorem dX1_init_19 : decode cX1_init 19 = .ok (.dup, 1) := by decide +kernel
theorem dX1_init_20 : decode cX1_init 20 = .ok (.invokespecial 11, 3) := by decide +kernel
theorem dX1_init_23 : decode cX1_init 23 = .ok (.putfield 18, 3) := by decide +kernel
theorem dX1_init_26 : decode cX1_init 26 = .ok (.aload_n 0, 1) := by decide +kernel
theorem dX1_init_27 : decode cX1_init 27 = .ok (.new 9, 3) := by decide +kernel
theorem dX1_init_30 : decode cX1_init 30 = .ok (.dup, 1) := by decide +kernel
theorem dX1_init_31 : decode cX1_init 31 = .ok (.invokespecial 11, 3) := by decide +kernel
theorem dX1_init_34 : decode cX1_init 34 = .ok (.putfield 21, 3) := by decide +kernel
theorem dX1_init_37 : decode cX1_init 37 = .ok (.return_, 1) := by decide +kernel
set_option maxRecDepth 20000 in
theorem ggX1_weigh_X2_setChoices : GoodIn wsX1_weigh wsX2_setChoices := goodIn_r _ [15, 16, 6, 3, 7, 17, 18, 19, 14, 20, 21, 22, 23, 24, 25, 26, 27, 28, 29, 30, 41] (by decide +kernel) (by decide +kernel)
set_option maxRecDepth 20000 in
theorem gX1_weigh_X2_setChoices : GoodIn wsX1_weigh (wsV RX1 33 RX2 yX2_setChoices wsX2_setChoices) := goodIn_app (goodIn_of _ (by decide +kernel)) ggX1_weigh_X2_setChoices
set_option maxRecDepth 20000 in
theorem ggX1_weigh_X2_set : GoodIn wsX1_weigh wsX2_set := goodIn_r _ [20, 21, 41] (by decide +kernel) (by decide +kernel)
set_option maxRecDepth 20000 in
theorem gX1_weigh_X2_set : GoodIn wsX1_weigh (wsV RX1 37 RX2 yX2_set wsX2_set) := goodIn_app (goodIn_of _ (by decide +kernel)) ggX1_weigh_X2_set
set_option maxRecDepth 20000 in
theorem ggX1_weigh_X2_add : GoodIn wsX1_weigh wsX2_add := goodIn_r _ [35, 21, 26, 41] (by decide +kernel) (by decide +kernel)
set_option maxRecDepth 20000 in
theorem gX1_weigh_X2_add : GoodIn wsX1_weigh (wsV RX1 41 RX2 yX2_add wsX2_add) := goodIn_app (goodIn_of _ (by decide +kernel)) ggX1_weigh_X2_add
set_option maxRecDepth 20000 in
theorem ggX1_weigh_X2_multiply : GoodIn wsX1_weigh wsX2_multiply := goodIn_r _ [25, 21, 26, 41] (by decide +kernel) (by decide +kernel)
set_option maxRecDepth 20000 in
theorem gX1_weigh_X2_multiply : GoodIn wsX1_weigh (wsV RX1 45 RX2 yX2_multiply wsX2_multiply) := goodIn_app (goodIn_of _ (by decide +kernel)) ggX1_weigh_X2_multiply
set_option maxRecDepth 20000 in
theorem ggX1_weigh_X2_divide : GoodIn wsX1_weigh wsX2_divide := goodIn_r _ [30, 26, 21, 41] (by decide +kernel) (by decide +kernel)
set_option maxRecDepth 20000 in
theorem gX1_weigh_X2_divide : GoodIn wsX1_weigh (wsV RX1 48 RX2 yX2_divide wsX2_divide) := goodIn_app (goodIn_of _ (by decide +kernel)) ggX1_weigh_X2_divide
theorem dX1_weigh_0 : decode cX1_weigh 0 = .ok (.iload_n 1, 1) := by decide +kernel
theorem dX1_weigh_1 : decode cX1_weigh 1 = .ok (.iload_n 2, 1) := by decide +kernel
theorem dX1_weigh_2 : decode cX1_weigh 2 = .ok (.isub, 1) := by decide +kernel
theorem dX1_weigh_3 : decode cX1_weigh 3 = .ok (.istore 6, 2) := by decide +kernel
theorem dX1_weigh_5 : decode cX1_weigh 5 = .ok (.iconst 0, 1) := by decide +kernel
theorem dX1_weigh_6 : decode cX1_weigh 6 = .ok (.iload_n 3, 1) := by decide +kernel
theorem dX1_weigh_7 : decode cX1_weigh 7 = .ok (.iload 6, 2) := by decide +kernel
theorem dX1_weigh_9 : decode cX1_weigh 9 = .ok (.isub, 1) := by decide +kernel
theorem dX1_weigh_10 : decode cX1_weigh 10 = .ok (.invokestatic 24, 3) := by decide +kernel
theorem dX1_weigh_13 : decode cX1_weigh 13 = .ok (.istore 7, 2) := by decide +kernel
theorem dX1_weigh_15 : decode cX1_weigh 15 = .ok (.iload_n 2, 1) := by decide +kernel
theorem dX1_weigh_16 : decode cX1_weigh 16 = .ok (.iload_n 3, 1) := by decide +kernel
theorem dX1_weigh_17 : decode cX1_weigh 17 = .ok (.invokestatic 30, 3) := by decide +kernel
theorem dX1_weigh_20 : decode cX1_weigh 20 = .ok (.istore 8, 2) := by decide +kernel
theorem dX1_weigh_22 : decode cX1_weigh 22 = .ok (.aload_n 0, 1) := by decide +kernel
theorem dX1_weigh_23 : decode cX1_weigh 23 = .ok (.getfield 18, 3) := by decide +kernel
theorem dX1_weigh_26 : decode cX1_weigh 26 = .ok (.iload_n 1, 1) := by decide +kernel
theorem dX1_weigh_27 : decode cX1_weigh 27 = .ok (.iload_n 3, 1) := by decide +kernel
theorem dX1_weigh_28 : decode cX1_weigh 28 = .ok (.invokevirtual 33, 3) := by decide +kernel
theorem dX1_weigh_31 : decode cX1_weigh 31 = .ok (.iload 7, 2) := by decide +kernel
theorem dX1_weigh_33 : decode cX1_weigh 33 = .ok (.ifCond .ne 16, 3) := by decide +kernel
theorem dX1_weigh_36 : decode cX1_weigh 36 = .ok (.aload_n 0, 1) := by decide +kernel
theorem dX1_weigh_37 : decode cX1_weigh 37 = .ok (.getfield 21, 3) := by decide +kernel
theorem dX1_weigh_40 : decode cX1_weigh 40 = .ok (.iload 6, 2) := by decide +kernel
theorem dX1_weigh_42 : decode cX1_weigh 42 = .ok (.iload_n 3, 1) := by decide +kernel
theorem dX1_weigh_43 : decode cX1_weigh 43 = .ok (.invokevirtual 33, 3) := by decide +kernel
theorem dX1_weigh_46 : decode cX1_weigh 46 = .ok (.goto 13, 3) := by decide +kernel
theorem dX1_weigh_49 : decode cX1_weigh 49 = .ok (.aload_n 0, 1) := by decide +kernel
theorem dX1_weigh_50 : decode cX1_weigh 50 = .ok (.getfield 21, 3) := by decide +kernel
theorem dX1_weigh_53 : decode cX1_weigh 53 = .ok (.iload_n 2, 1) := by decide +kernel
theorem dX1_weigh_54 : decode cX1_weigh 54 = .ok (.iload 7, 2) := by decide +kernel
theorem dX1_weigh_56 : decode cX1_weigh 56 = .ok (.invokevirtual 33, 3) := by decide +kernel
theorem dX1_weigh_59 : decode cX1_weigh 59 = .ok (.aload_n 0, 1) := by decide +kernel
theorem dX1_weigh_60 : decode cX1_weigh 60 = .ok (.getfield 12, 3) := by decide +kernel
theorem dX1_weigh_63 : decode cX1_weigh 63 = .ok (.iconst 0, 1) := by decide +kernel
theorem dX1_weigh_64 : decode cX1_weigh 64 = .ok (.invokevirtual 37, 3) := by decide +kernel
theorem dX1_weigh_67 : decode cX1_weigh 67 = .ok (.iload 7, 2) := by decide +kernel
theorem dX1_weigh_69 : decode cX1_weigh 69 = .ok (.istore 9, 2) := by decide +kernel
theorem dX1_weigh_71 : decode cX1_weigh 71 = .ok (.iload 9, 2) := by decide +kernel
theorem dX1_weigh_73 : decode cX1_weigh 73 = .ok (.iload 8, 2) := by decide +kernel
theorem dX1_weigh_75 : decode cX1_weigh 75 = .ok (.if_icmp .gt 79, 3) := by decide +kernel
theorem dX1_weigh_78 : decode cX1_weigh 78 = .ok (.iload 5, 2) := by decide +kernel
theorem dX1_weigh_80 : decode cX1_weigh 80 = .ok (.ifCond .ne 13, 3) := by decide +kernel
theorem dX1_weigh_83 : decode cX1_weigh 83 = .ok (.iload 9, 2) := by decide +kernel
theorem dX1_weigh_85 : decode cX1_weigh 85 = .ok (.iload 4, 2) := by decide +kernel
theorem dX1_weigh_87 : decode cX1_weigh 87 = .ok (.if_icmp .gt 24, 3) := by decide +kernel
theorem dX1_weigh_90 : decode cX1_weigh 90 = .ok (.goto 10, 3) := by decide +kernel
theorem dX1_weigh_93 : decode cX1_weigh 93 = .ok (.iload 9, 2) := by decide +kernel
theorem dX1_weigh_95 : decode cX1_weigh 95 = .ok (.iload 4, 2) := by decide +kernel
theorem dX1_weigh_97 : decode cX1_weigh 97 = .ok (.if_icmp .lt 14, 3) := by decide +kernel
theorem dX1_weigh_100 : decode cX1_weigh 100 = .ok (.aload_n 0, 1) := by decide +kernel
theorem dX1_weigh_101 : decode cX1_weigh 101 = .ok (.getfield 12, 3) := by decide +kernel
theorem dX1_weigh_104 : decode cX1_weigh 104 = .ok (.aload_n 0, 1) := by decide +kernel
theorem dX1_weigh_105 : decode cX1_weigh 105 = .ok (.getfield 21, 3) := by decide +kernel
theorem dX1_weigh_108 : decode cX1_weigh 108 = .ok (.invokevirtual 41, 3) := by decide +kernel
theorem dX1_weigh_111 : decode cX1_weigh 111 = .ok (.aload_n 0, 1) := by decide +kernel
theorem dX1_weigh_112 : decode cX1_weigh 112 = .ok (.getfield 21, 3) := by decide +kernel
theorem dX1_weigh_115 : decode cX1_weigh 115 = .ok (.iload_n 2, 1) := by decide +kernel
theorem dX1_weigh_116 : decode cX1_weigh 116 = .ok (.iload 9, 2) := by decide +kernel
theorem dX1_weigh_118 : decode cX1_weigh 118 = .ok (.isub, 1) := by decide +kernel
theorem dX1_weigh_119 : decode cX1_weigh 119 = .ok (.iload_n 3, 1) := by decide +kernel
theorem dX1_weigh_120 : decode cX1_weigh 120 = .ok (.iload 9, 2) := by decide +kernel
theorem dX1_weigh_122 : decode cX1_weigh 122 = .ok (.isub, 1) := by decide +kernel
theorem dX1_weigh_123 : decode cX1_weigh 123 = .ok (.imul, 1) := by decide +kernel
theorem dX1_weigh_124 : decode cX1_weigh 124 = .ok (.invokevirtual 45, 3) := by decide +kernel
theorem dX1_weigh_127 : decode cX1_weigh 127 = .ok (.aload_n 0, 1) := by decide +kernel
theorem dX1_weigh_128 : decode cX1_weigh 128 = .ok (.getfield 21, 3) := by decide +kernel
theorem dX1_weigh_131 : decode cX1_weigh 131 = .ok (.iload 9, 2) := by decide +kernel
theorem dX1_weigh_133 : decode cX1_weigh 133 = .ok (.iconst 1, 1) := by decide +kernel
theorem dX1_weigh_134 : decode cX1_weigh 134 = .ok (.iadd, 1) := by decide +kernel
theorem dX1_weigh_135 : decode cX1_weigh 135 = .ok (.iload 6, 2) := by decide +kernel
theorem dX1_weigh_137 : decode cX1_weigh 137 = .ok (.iload_n 3, 1) := by decide +kernel
theorem dX1_weigh_138 : decode cX1_weigh 138 = .ok (.isub, 1) := by decide +kernel
theorem dX1_weigh_139 : decode cX1_weigh 139 = .ok (.iload 9, 2) := by decide +kernel
theorem dX1_weigh_141 : decode cX1_weigh 141 = .ok (.iadd, 1) := by decide +kernel
theorem dX1_weigh_142 : decode cX1_weigh 142 = .ok (.iconst 1, 1) := by decide +kernel
theorem dX1_weigh_143 : decode cX1_weigh 143 = .ok (.iadd, 1) := by decide +kernel
theorem dX1_weigh_144 : decode cX1_weigh 144 = .ok (.imul, 1) := by decide +kernel
theorem dX1_weigh_145 : decode cX1_weigh 145 = .ok (.invokevirtual 48, 3) := by decide +kernel
theorem dX1_weigh_148 : decode cX1_weigh 148 = .ok (.iinc 9 1, 3) := by decide +kernel
theorem dX1_weigh_151 : decode cX1_weigh 151 = .ok (.goto (-80), 3) := by decide +kernel
theorem dX1_weigh_154 : decode cX1_weigh 154 = .ok (.return_, 1) := by decide +kernel
set_option maxRecDepth 20000 in
theorem ggX1_inThousandMillionths_X1_takeAll : GoodIn wsX1_inThousandMillionths wsX1_takeAll := goodIn_r _ [7, 2, 8, 9, 10, 11, 12, 13, 14, 15, 16, 17, 18, 19, 24, 25, 26, 27] (by decide +kernel) (by decide +kernel)
set_option maxRecDepth 20000 in
theorem gX1_inThousandMillionths_X1_takeAll : GoodIn wsX1_inThousandMillionths (wsV RX1 53 RX1 yX1_takeAll wsX1_takeAll) := goodIn_app (goodIn_of _ (by decide +kernel)) ggX1_inThousandMillionths_X1_takeAll
set_option maxRecDepth 20000 in
theorem ggX1_inThousandMillionths_X2_multiply : GoodIn wsX1_inThousandMillionths wsX2_multiply := goodIn_r _ [23, 14, 19, 27] (by decide +kernel) (by decide +kernel)
set_option maxRecDepth 20000 in
theorem gX1_inThousandMillionths_X2_multiply : GoodIn wsX1_inThousandMillionths (wsV RX1 45 RX2 yX2_multiply wsX2_multiply) := goodIn_app (goodIn_of _ (by decide +kernel)) ggX1_inThousandMillionths_X2_multiply
theorem dX1_inThousandMillionths_0 : decode cX1_inThousandMillionths 0 = .ok (.lconst 0, 1) := by decide +kernel
theorem dX1_inThousandMillionths_1 : decode cX1_inThousandMillionths 1 = .ok (.lstore_n 1, 1) := by decide +kernel
theorem dX1_inThousandMillionths_2 : decode cX1_inThousandMillionths 2 = .ok (.iconst 0, 1) := by decide +kernel
theorem dX1_inThousandMillionths_3 : decode cX1_inThousandMillionths 3 = .ok (.istore_n 3, 1) := by decide +kernel
theorem dX1_inThousandMillionths_4 : decode cX1_inThousandMillionths 4 = .ok (.iload_n 3, 1) := by decide +kernel
theorem dX1_inThousandMillionths_5 : decode cX1_inThousandMillionths 5 = .ok (.bipush 10, 2) := by decide +kernel
theorem dX1_inThousandMillionths_7 : decode cX1_inThousandMillionths 7 = .ok (.if_icmp .ge 30, 3) := by decide +kernel
theorem dX1_inThousandMillionths_10 : decode cX1_inThousandMillionths 10 = .ok (.lload_n 1, 1) := by decide +kernel
theorem dX1_inThousandMillionths_11 : decode cX1_inThousandMillionths 11 = .ok (.ldc2_w 51, 3) := by decide +kernel
theorem dX1_inThousandMillionths_14 : decode cX1_inThousandMillionths 14 = .ok (.lmul, 1) := by decide +kernel
theorem dX1_inThousandMillionths_15 : decode cX1_inThousandMillionths 15 = .ok (.aload_n 0, 1) := by decide +kernel
theorem dX1_inThousandMillionths_16 : decode cX1_inThousandMillionths 16 = .ok (.invokevirtual 53, 3) := by decide +kernel
theorem dX1_inThousandMillionths_19 : decode cX1_inThousandMillionths 19 = .ok (.i2l, 1) := by decide +kernel
theorem dX1_inThousandMillionths_20 : decode cX1_inThousandMillionths 20 = .ok (.ladd, 1) := by decide +kernel
theorem dX1_inThousandMillionths_21 : decode cX1_inThousandMillionths 21 = .ok (.lstore_n 1, 1) := by decide +kernel
theorem dX1_inThousandMillionths_22 : decode cX1_inThousandMillionths 22 = .ok (.aload_n 0, 1) := by decide +kernel
theorem dX1_inThousandMillionths_23 : decode cX1_inThousandMillionths 23 = .ok (.getfield 12, 3) := by decide +kernel
theorem dX1_inThousandMillionths_26 : decode cX1_inThousandMillionths 26 = .ok (.bipush 10, 2) := by decide +kernel
theorem dX1_inThousandMillionths_28 : decode cX1_inThousandMillionths 28 = .ok (.invokevirtual 45, 3) := by decide +kernel
theorem dX1_inThousandMillionths_31 : decode cX1_inThousandMillionths 31 = .ok (.iinc 3 1, 3) := by decide +kernel
theorem dX1_inThousandMillionths_34 : decode cX1_inThousandMillionths 34 = .ok (.goto (-30), 3) := by decide +kernel
theorem dX1_inThousandMillionths_37 : decode cX1_inThousandMillionths 37 = .ok (.lload_n 1, 1) := by decide +kernel
theorem dX1_inThousandMillionths_38 : decode cX1_inThousandMillionths 38 = .ok (.lreturn, 1) := by decide +kernel
set_option maxRecDepth 20000 in
theorem ggX1_takeAll_X2_isAtLeast : GoodIn wsX1_takeAll wsX2_isAtLeast := goodIn_r _ [7, 8, 17] (by decide +kernel) (by decide +kernel)
set_option maxRecDepth 20000 in
theorem gX1_takeAll_X2_isAtLeast : GoodIn wsX1_takeAll (wsV RX1 57 RX2 yX2_isAtLeast wsX2_isAtLeast) := goodIn_app (goodIn_of _ (by decide +kernel)) ggX1_takeAll_X2_isAtLeast
set_option maxRecDepth 20000 in
theorem ggX1_takeAll_X2_subtract : GoodIn wsX1_takeAll wsX2_subtract := goodIn_r _ [12, 8, 13, 17] (by decide +kernel) (by decide +kernel)
set_option maxRecDepth 20000 in
theorem gX1_takeAll_X2_subtract : GoodIn wsX1_takeAll (wsV RX1 61 RX2 yX2_subtract wsX2_subtract) := goodIn_app (goodIn_of _ (by decide +kernel)) ggX1_takeAll_X2_subtract
theorem dX1_takeAll_0 : decode cX1_takeAll 0 = .ok (.iconst 0, 1) := by decide +kernel
theorem dX1_takeAll_1 : decode cX1_takeAll 1 = .ok (.istore_n 1, 1) := by decide +kernel
theorem dX1_takeAll_2 : decode cX1_takeAll 2 = .ok (.iload_n 1, 1) := by decide +kernel
theorem dX1_takeAll_3 : decode cX1_takeAll 3 = .ok (.bipush 9, 2) := by decide +kernel
theorem dX1_takeAll_5 : decode cX1_takeAll 5 = .ok (.if_icmp .ge 34, 3) := by decide +kernel
theorem dX1_takeAll_8 : decode cX1_takeAll 8 = .ok (.aload_n 0, 1) := by decide +kernel
theorem dX1_takeAll_9 : decode cX1_takeAll 9 = .ok (.getfield 12, 3) := by decide +kernel
theorem dX1_takeAll_12 : decode cX1_takeAll 12 = .ok (.aload_n 0, 1) := by decide +kernel
theorem dX1_takeAll_13 : decode cX1_takeAll 13 = .ok (.getfield 18, 3) := by decide +kernel
theorem dX1_takeAll_16 : decode cX1_takeAll 16 = .ok (.invokevirtual 57, 3) := by decide +kernel
theorem dX1_takeAll_19 : decode cX1_takeAll 19 = .ok (.ifCond .eq 20, 3) := by decide +kernel
theorem dX1_takeAll_22 : decode cX1_takeAll 22 = .ok (.aload_n 0, 1) := by decide +kernel
theorem dX1_takeAll_23 : decode cX1_takeAll 23 = .ok (.getfield 12, 3) := by decide +kernel
theorem dX1_takeAll_26 : decode cX1_takeAll 26 = .ok (.aload_n 0, 1) := by decide +kernel
theorem dX1_takeAll_27 : decode cX1_takeAll 27 = .ok (.getfield 18, 3) := by decide +kernel
theorem dX1_takeAll_30 : decode cX1_takeAll 30 = .ok (.invokevirtual 61, 3) := by decide +kernel
theorem dX1_takeAll_33 : decode cX1_takeAll 33 = .ok (.iinc 1 1, 3) := by decide +kernel
theorem dX1_takeAll_36 : decode cX1_takeAll 36 = .ok (.goto (-34), 3) := by decide +kernel
theorem dX1_takeAll_39 : decode cX1_takeAll 39 = .ok (.iload_n 1, 1) := by decide +kernel
theorem dX1_takeAll_40 : decode cX1_takeAll 40 = .ok (.ireturn, 1) := by decide +kernel
set_option maxRecDepth 20000 in
theorem ggX1_isAtMost_X2_multiply : GoodIn wsX1_isAtMost wsX2_multiply := goodIn_r _ [7, 8, 9, 17] (by decide +kernel) (by decide +kernel)
set_option maxRecDepth 20000 in
theorem gX1_isAtMost_X2_multiply : GoodIn wsX1_isAtMost (wsV RX1 45 RX2 yX2_multiply wsX2_multiply) := goodIn_app (goodIn_of _ (by decide +kernel)) ggX1_isAtMost_X2_multiply
set_option maxRecDepth 20000 in
theorem ggX1_isAtMost_X2_isAtLeast : GoodIn wsX1_isAtMost wsX2_isAtLeast := goodIn_r _ [13, 8, 17] (by decide +kernel) (by decide +kernel)
set_option maxRecDepth 20000 in
theorem gX1_isAtMost_X2_isAtLeast : GoodIn wsX1_isAtMost (wsV RX1 57 RX2 yX2_isAtLeast wsX2_isAtLeast) := goodIn_app (goodIn_of _ (by decide +kernel)) ggX1_isAtMost_X2_isAtLeast
theorem dX1_isAtMost_0 : decode cX1_isAtMost 0 = .ok (.aload_n 0, 1) := by decide +kernel
theorem dX1_isAtMost_1 : decode cX1_isAtMost 1 = .ok (.getfield 12, 3) := by decide +kernel
theorem dX1_isAtMost_4 : decode cX1_isAtMost 4 = .ok (.sipush 1000, 3) := by decide +kernel
theorem dX1_isAtMost_7 : decode cX1_isAtMost 7 = .ok (.invokevirtual 45, 3) := by decide +kernel
theorem dX1_isAtMost_10 : decode cX1_isAtMost 10 = .ok (.aload_n 0, 1) := by decide +kernel
theorem dX1_isAtMost_11 : decode cX1_isAtMost 11 = .ok (.getfield 18, 3) := by decide +kernel
theorem dX1_isAtMost_14 : decode cX1_isAtMost 14 = .ok (.iload_n 1, 1) := by decide +kernel
theorem dX1_isAtMost_15 : decode cX1_isAtMost 15 = .ok (.invokevirtual 45, 3) := by decide +kernel
theorem dX1_isAtMost_18 : decode cX1_isAtMost 18 = .ok (.aload_n 0, 1) := by decide +kernel
theorem dX1_isAtMost_19 : decode cX1_isAtMost 19 = .ok (.getfield 18, 3) := by decide +kernel
theorem dX1_isAtMost_22 : decode cX1_isAtMost 22 = .ok (.aload_n 0, 1) := by decide +kernel
theorem dX1_isAtMost_23 : decode cX1_isAtMost 23 = .ok (.getfield 12, 3) := by decide +kernel
theorem dX1_isAtMost_26 : decode cX1_isAtMost 26 = .ok (.invokevirtual 57, 3) := by decide +kernel
theorem dX1_isAtMost_29 : decode cX1_isAtMost 29 = .ok (.ireturn, 1) := by decide +kernel
theorem dX2_init_0 : decode cX2_init 0 = .ok (.aload_n 0, 1) := by decide +kernel
theorem dX2_init_1 : decode cX2_init 1 = .ok (.invokespecial 1, 3) := by decide +kernel
theorem dX2_init_4 : decode cX2_init 4 = .ok (.aload_n 0, 1) := by decide +kernel
theorem dX2_init_5 : decode cX2_init 5 = .ok (.bipush 8, 2) := by decide +kernel
theorem dX2_init_7 : decode cX2_init 7 = .ok (.newarray .long, 2) := by decide +kernel
theorem dX2_init_9 : decode cX2_init 9 = .ok (.putfield 9, 3) := by decide +kernel
theorem dX2_init_12 : decode cX2_init 12 = .ok (.return_, 1) := by decide +kernel
theorem dX2_set_0 : decode cX2_set 0 = .ok (.iconst 0, 1) := by decide +kernel
theorem dX2_set_1 : decode cX2_set 1 = .ok (.istore_n 2, 1) := by decide +kernel
theorem dX2_set_2 : decode cX2_set 2 = .ok (.iload_n 2, 1) := by decide +kernel
theorem dX2_set_3 : decode cX2_set 3 = .ok (.bipush 8, 2) := by decide +kernel
theorem dX2_set_5 : decode cX2_set 5 = .ok (.if_icmp .ge 16, 3) := by decide +kernel
theorem dX2_set_8 : decode cX2_set 8 = .ok (.aload_n 0, 1) := by decide +kernel
theorem dX2_set_9 : decode cX2_set 9 = .ok (.getfield 9, 3) := by decide +kernel
theorem dX2_set_12 : decode cX2_set 12 = .ok (.iload_n 2, 1) := by decide +kernel
theorem dX2_set_13 : decode cX2_set 13 = .ok (.lconst 0, 1) := by decide +kernel
theorem dX2_set_14 : decode cX2_set 14 = .ok (.lastore, 1) := by decide +kernel
theorem dX2_set_15 : decode cX2_set 15 = .ok (.iinc 2 1, 3) := by decide +kernel
theorem dX2_set_18 : decode cX2_set 18 = .ok (.goto (-16), 3) := by decide +kernel
theorem dX2_set_21 : decode cX2_set 21 = .ok (.aload_n 0, 1) := by decide +kernel
theorem dX2_set_22 : decode cX2_set 22 = .ok (.getfield 9, 3) := by decide +kernel
theorem dX2_set_25 : decode cX2_set 25 = .ok (.iconst 0, 1) := by decide +kernel
theorem dX2_set_26 : decode cX2_set 26 = .ok (.iload_n 1, 1) := by decide +kernel
theorem dX2_set_27 : decode cX2_set 27 = .ok (.i2l, 1) := by decide +kernel
theorem dX2_set_28 : decode cX2_set 28 = .ok (.lastore, 1) := by decide +kernel
theorem dX2_set_29 : decode cX2_set 29 = .ok (.return_, 1) := by decide +kernel
set_option maxRecDepth 20000 in
theorem ggX2_setChoices_X2_set : GoodIn wsX2_setChoices wsX2_set := goodIn_r _ [9, 10, 20] (by decide +kernel) (by decide +kernel)
set_option maxRecDepth 20000 in
theorem gX2_setChoices_X2_set : GoodIn wsX2_setChoices (wsV RX2 19 RX2 yX2_set wsX2_set) := goodIn_app (goodIn_of _ (by decide +kernel)) ggX2_setChoices_X2_set
set_option maxRecDepth 20000 in
theorem ggX2_setChoices_X2_multiply : GoodIn wsX2_setChoices wsX2_multiply := goodIn_r _ [14, 10, 15, 20] (by decide +kernel) (by decide +kernel)
set_option maxRecDepth 20000 in
theorem gX2_setChoices_X2_multiply : GoodIn wsX2_setChoices (wsV RX2 23 RX2 yX2_multiply wsX2_multiply) := goodIn_app (goodIn_of _ (by decide +kernel)) ggX2_setChoices_X2_multiply
set_option maxRecDepth 20000 in
theorem ggX2_setChoices_X2_divide : GoodIn wsX2_setChoices wsX2_divide := goodIn_r _ [19, 15, 10, 20] (by decide +kernel) (by decide +kernel)
set_option maxRecDepth 20000 in
theorem gX2_setChoices_X2_divide : GoodIn wsX2_setChoices (wsV RX2 26 RX2 yX2_divide wsX2_divide) := goodIn_app (goodIn_of _ (by decide +kernel)) ggX2_setChoices_X2_divide
theorem dX2_setChoices_0 : decode cX2_setChoices 0 = .ok (.iload_n 2, 1) := by decide +kernel
theorem dX2_setChoices_1 : decode cX2_setChoices 1 = .ok (.iload_n 1, 1) := by decide +kernel
theorem dX2_setChoices_2 : decode cX2_setChoices 2 = .ok (.iload_n 2, 1) := by decide +kernel
theorem dX2_setChoices_3 : decode cX2_setChoices 3 = .ok (.isub, 1) := by decide +kernel
theorem dX2_setChoices_4 : decode cX2_setChoices 4 = .ok (.invokestatic 13, 3) := by decide +kernel
theorem dX2_setChoices_7 : decode cX2_setChoices 7 = .ok (.istore_n 3, 1) := by decide +kernel
theorem dX2_setChoices_8 : decode cX2_setChoices 8 = .ok (.aload_n 0, 1) := by decide +kernel
theorem dX2_setChoices_9 : decode cX2_setChoices 9 = .ok (.iconst 1, 1) := by decide +kernel
theorem dX2_setChoices_10 : decode cX2_setChoices 10 = .ok (.invokevirtual 19, 3) := by decide +kernel
theorem dX2_setChoices_13 : decode cX2_setChoices 13 = .ok (.iconst 1, 1) := by decide +kernel
theorem dX2_setChoices_14 : decode cX2_setChoices 14 = .ok (.istore 4, 2) := by decide +kernel
theorem dX2_setChoices_16 : decode cX2_setChoices 16 = .ok (.iload 4, 2) := by decide +kernel
theorem dX2_setChoices_18 : decode cX2_setChoices 18 = .ok (.iload_n 3, 1) := by decide +kernel
theorem dX2_setChoices_19 : decode cX2_setChoices 19 = .ok (.if_icmp .gt 25, 3) := by decide +kernel
theorem dX2_setChoices_22 : decode cX2_setChoices 22 = .ok (.aload_n 0, 1) := by decide +kernel
theorem dX2_setChoices_23 : decode cX2_setChoices 23 = .ok (.iload_n 1, 1) := by decide +kernel
theorem dX2_setChoices_24 : decode cX2_setChoices 24 = .ok (.iload_n 3, 1) := by decide +kernel
theorem dX2_setChoices_25 : decode cX2_setChoices 25 = .ok (.isub, 1) := by decide +kernel
theorem dX2_setChoices_26 : decode cX2_setChoices 26 = .ok (.iload 4, 2) := by decide +kernel
theorem dX2_setChoices_28 : decode cX2_setChoices 28 = .ok (.iadd, 1) := by decide +kernel
theorem dX2_setChoices_29 : decode cX2_setChoices 29 = .ok (.invokevirtual 23, 3) := by decide +kernel
theorem dX2_setChoices_32 : decode cX2_setChoices 32 = .ok (.aload_n 0, 1) := by decide +kernel
theorem dX2_setChoices_33 : decode cX2_setChoices 33 = .ok (.iload 4, 2) := by decide +kernel
theorem dX2_setChoices_35 : decode cX2_setChoices 35 = .ok (.invokevirtual 26, 3) := by decide +kernel
theorem dX2_setChoices_38 : decode cX2_setChoices 38 = .ok (.iinc 4 1, 3) := by decide +kernel
theorem dX2_setChoices_41 : decode cX2_setChoices 41 = .ok (.goto (-25), 3) := by decide +kernel
theorem dX2_setChoices_44 : decode cX2_setChoices 44 = .ok (.return_, 1) := by decide +kernel
theorem dX2_add_0 : decode cX2_add 0 = .ok (.lconst 0, 1) := by decide +kernel
theorem dX2_add_1 : decode cX2_add 1 = .ok (.lstore_n 2, 1) := by decide +kernel
theorem dX2_add_2 : decode cX2_add 2 = .ok (.iconst 0, 1) := by decide +kernel
theorem dX2_add_3 : decode cX2_add 3 = .ok (.istore 4, 2) := by decide +kernel
theorem dX2_add_5 : decode cX2_add 5 = .ok (.iload 4, 2) := by decide +kernel
theorem dX2_add_7 : decode cX2_add 7 = .ok (.bipush 8, 2) := by decide +kernel
theorem dX2_add_9 : decode cX2_add 9 = .ok (.if_icmp .ge 58, 3) := by decide +kernel
theorem dX2_add_12 : decode cX2_add 12 = .ok (.aload_n 0, 1) := by decide +kernel
theorem dX2_add_13 : decode cX2_add 13 = .ok (.getfield 9, 3) := by decide +kernel
theorem dX2_add_16 : decode cX2_add 16 = .ok (.iload 4, 2) := by decide +kernel
theorem dX2_add_18 : decode cX2_add 18 = .ok (.laload, 1) := by decide +kernel
theorem dX2_add_19 : decode cX2_add 19 = .ok (.aload_n 1, 1) := by decide +kernel
theorem dX2_add_20 : decode cX2_add 20 = .ok (.getfield 9, 3) := by decide +kernel
theorem dX2_add_23 : decode cX2_add 23 = .ok (.iload 4, 2) := by decide +kernel
theorem dX2_add_25 : decode cX2_add 25 = .ok (.laload, 1) := by decide +kernel
theorem dX2_add_26 : decode cX2_add 26 = .ok (.ladd, 1) := by decide +kernel
theorem dX2_add_27 : decode cX2_add 27 = .ok (.lload_n 2, 1) := by decide +kernel
theorem dX2_add_28 : decode cX2_add 28 = .ok (.ladd, 1) := by decide +kernel
theorem dX2_add_29 : decode cX2_add 29 = .ok (.lstore 5, 2) := by decide +kernel
theorem dX2_add_31 : decode cX2_add 31 = .ok (.lload 5, 2) := by decide +kernel
theorem dX2_add_33 : decode cX2_add 33 = .ok (.ldc2_w 29, 3) := by decide +kernel
theorem dX2_add_36 : decode cX2_add 36 = .ok (.lcmp, 1) := by decide +kernel
theorem dX2_add_37 : decode cX2_add 37 = .ok (.ifCond .lt 7, 3) := by decide +kernel
theorem dX2_add_40 : decode cX2_add 40 = .ok (.lconst 1, 1) := by decide +kernel
theorem dX2_add_41 : decode cX2_add 41 = .ok (.goto 4, 3) := by decide +kernel
theorem dX2_add_44 : decode cX2_add 44 = .ok (.lconst 0, 1) := by decide +kernel
theorem dX2_add_45 : decode cX2_add 45 = .ok (.lstore_n 2, 1) := by decide +kernel
theorem dX2_add_46 : decode cX2_add 46 = .ok (.aload_n 0, 1) := by decide +kernel
theorem dX2_add_47 : decode cX2_add 47 = .ok (.getfield 9, 3) := by decide +kernel
theorem dX2_add_50 : decode cX2_add 50 = .ok (.iload 4, 2) := by decide +kernel
theorem dX2_add_52 : decode cX2_add 52 = .ok (.lload 5, 2) := by decide +kernel
theorem dX2_add_54 : decode cX2_add 54 = .ok (.lload_n 2, 1) := by decide +kernel
theorem dX2_add_55 : decode cX2_add 55 = .ok (.ldc2_w 29, 3) := by decide +kernel
theorem dX2_add_58 : decode cX2_add 58 = .ok (.lmul, 1) := by decide +kernel
theorem dX2_add_59 : decode cX2_add 59 = .ok (.lsub, 1) := by decide +kernel
theorem dX2_add_60 : decode cX2_add 60 = .ok (.lastore, 1) := by decide +kernel
theorem dX2_add_61 : decode cX2_add 61 = .ok (.iinc 4 1, 3) := by decide +kernel
theorem dX2_add_64 : decode cX2_add 64 = .ok (.goto (-59), 3) := by decide +kernel
theorem dX2_add_67 : decode cX2_add 67 = .ok (.return_, 1) := by decide +kernel
theorem dX2_subtract_0 : decode cX2_subtract 0 = .ok (.lconst 0, 1) := by decide +kernel
theorem dX2_subtract_1 : decode cX2_subtract 1 = .ok (.lstore_n 2, 1) := by decide +kernel
theorem dX2_subtract_2 : decode cX2_subtract 2 = .ok (.iconst 0, 1) := by decide +kernel
theorem dX2_subtract_3 : decode cX2_subtract 3 = .ok (.istore 4, 2) := by decide +kernel
theorem dX2_subtract_5 : decode cX2_subtract 5 = .ok (.iload 4, 2) := by decide +kernel
theorem dX2_subtract_7 : decode cX2_subtract 7 = .ok (.bipush 8, 2) := by decide +kernel
theorem dX2_subtract_9 : decode cX2_subtract 9 = .ok (.if_icmp .ge 56, 3) := by decide +kernel
theorem dX2_subtract_12 : decode cX2_subtract 12 = .ok (.aload_n 0, 1) := by decide +kernel
theorem dX2_subtract_13 : decode cX2_subtract 13 = .ok (.getfield 9, 3) := by decide +kernel
theorem dX2_subtract_16 : decode cX2_subtract 16 = .ok (.iload 4, 2) := by decide +kernel
theorem dX2_subtract_18 : decode cX2_subtract 18 = .ok (.laload, 1) := by decide +kernel
theorem dX2_subtract_19 : decode cX2_subtract 19 = .ok (.aload_n 1, 1) := by decide +kernel
theorem dX2_subtract_20 : decode cX2_subtract 20 = .ok (.getfield 9, 3) := by decide +kernel
theorem dX2_subtract_23 : decode cX2_subtract 23 = .ok (.iload 4, 2) := by decide +kernel
theorem dX2_subtract_25 : decode cX2_subtract 25 = .ok (.laload, 1) := by decide +kernel
theorem dX2_subtract_26 : decode cX2_subtract 26 = .ok (.lsub, 1) := by decide +kernel
theorem dX2_subtract_27 : decode cX2_subtract 27 = .ok (.lload_n 2, 1) := by decide +kernel
theorem dX2_subtract_28 : decode cX2_subtract 28 = .ok (.lsub, 1) := by decide +kernel
theorem dX2_subtract_29 : decode cX2_subtract 29 = .ok (.lstore 5, 2) := by decide +kernel
theorem dX2_subtract_31 : decode cX2_subtract 31 = .ok (.lload 5, 2) := by decide +kernel
theorem dX2_subtract_33 : decode cX2_subtract 33 = .ok (.lconst 0, 1) := by decide +kernel
theorem dX2_subtract_34 : decode cX2_subtract 34 = .ok (.lcmp, 1) := by decide +kernel
theorem dX2_subtract_35 : decode cX2_subtract 35 = .ok (.ifCond .ge 7, 3) := by decide +kernel
theorem dX2_subtract_38 : decode cX2_subtract 38 = .ok (.lconst 1, 1) := by decide +kernel
theorem dX2_subtract_39 : decode cX2_subtract 39 = .ok (.goto 4, 3) := by decide +kernel
theorem dX2_subtract_42 : decode cX2_subtract 42 = .ok (.lconst 0, 1) := by decide +kernel
theorem dX2_subtract_43 : decode cX2_subtract 43 = .ok (.lstore_n 2, 1) := by decide +kernel
theorem dX2_subtract_44 : decode cX2_subtract 44 = .ok (.aload_n 0, 1) := by decide +kernel
theorem dX2_subtract_45 : decode cX2_subtract 45 = .ok (.getfield 9, 3) := by decide +kernel
theorem dX2_subtract_48 : decode cX2_subtract 48 = .ok (.iload 4, 2) := by decide +kernel
theorem dX2_subtract_50 : decode cX2_subtract 50 = .ok (.lload 5, 2) := by decide +kernel
theorem dX2_subtract_52 : decode cX2_subtract 52 = .ok (.lload_n 2, 1) := by decide +kernel
theorem dX2_subtract_53 : decode cX2_subtract 53 = .ok (.ldc2_w 29, 3) := by decide +kernel
theorem dX2_subtract_56 : decode cX2_subtract 56 = .ok (.lmul, 1) := by decide +kernel
theorem dX2_subtract_57 : decode cX2_subtract 57 = .ok (.ladd, 1) := by decide +kernel
theorem dX2_subtract_58 : decode cX2_subtract 58 = .ok (.lastore, 1) := by decide +kernel
theorem dX2_subtract_59 : decode cX2_subtract 59 = .ok (.iinc 4 1, 3) := by decide +kernel
theorem dX2_subtract_62 : decode cX2_subtract 62 = .ok (.goto (-57), 3) := by decide +kernel
theorem dX2_subtract_65 : decode cX2_subtract 65 = .ok (.return_, 1) := by decide +kernel
theorem dX2_multiply_0 : decode cX2_multiply 0 = .ok (.lconst 0, 1) := by decide +kernel
theorem dX2_multiply_1 : decode cX2_multiply 1 = .ok (.lstore_n 2, 1) := by decide +kernel
theorem dX2_multiply_2 : decode cX2_multiply 2 = .ok (.iconst 0, 1) := by decide +kernel
theorem dX2_multiply_3 : decode cX2_multiply 3 = .ok (.istore 4, 2) := by decide +kernel
theorem dX2_multiply_5 : decode cX2_multiply 5 = .ok (.iload 4, 2) := by decide +kernel
theorem dX2_multiply_7 : decode cX2_multiply 7 = .ok (.bipush 8, 2) := by decide +kernel
theorem dX2_multiply_9 : decode cX2_multiply 9 = .ok (.if_icmp .ge 43, 3) := by decide +kernel
theorem dX2_multiply_12 : decode cX2_multiply 12 = .ok (.aload_n 0, 1) := by decide +kernel
theorem dX2_multiply_13 : decode cX2_multiply 13 = .ok (.getfield 9, 3) := by decide +kernel
theorem dX2_multiply_16 : decode cX2_multiply 16 = .ok (.iload 4, 2) := by decide +kernel
theorem dX2_multiply_18 : decode cX2_multiply 18 = .ok (.laload, 1) := by decide +kernel
theorem dX2_multiply_19 : decode cX2_multiply 19 = .ok (.iload_n 1, 1) := by decide +kernel
theorem dX2_multiply_20 : decode cX2_multiply 20 = .ok (.i2l, 1) := by decide +kernel
theorem dX2_multiply_21 : decode cX2_multiply 21 = .ok (.lmul, 1) := by decide +kernel
theorem dX2_multiply_22 : decode cX2_multiply 22 = .ok (.lload_n 2, 1) := by decide +kernel
theorem dX2_multiply_23 : decode cX2_multiply 23 = .ok (.ladd, 1) := by decide +kernel
theorem dX2_multiply_24 : decode cX2_multiply 24 = .ok (.lstore 5, 2) := by decide +kernel
theorem dX2_multiply_26 : decode cX2_multiply 26 = .ok (.lload 5, 2) := by decide +kernel
theorem dX2_multiply_28 : decode cX2_multiply 28 = .ok (.ldc2_w 29, 3) := by decide +kernel
theorem dX2_multiply_31 : decode cX2_multiply 31 = .ok (.ldiv, 1) := by decide +kernel
theorem dX2_multiply_32 : decode cX2_multiply 32 = .ok (.lstore_n 2, 1) := by decide +kernel
theorem dX2_multiply_33 : decode cX2_multiply 33 = .ok (.aload_n 0, 1) := by decide +kernel
theorem dX2_multiply_34 : decode cX2_multiply 34 = .ok (.getfield 9, 3) := by decide +kernel
theorem dX2_multiply_37 : decode cX2_multiply 37 = .ok (.iload 4, 2) := by decide +kernel
theorem dX2_multiply_39 : decode cX2_multiply 39 = .ok (.lload 5, 2) := by decide +kernel
theorem dX2_multiply_41 : decode cX2_multiply 41 = .ok (.ldc2_w 29, 3) := by decide +kernel
theorem dX2_multiply_44 : decode cX2_multiply 44 = .ok (.lrem, 1) := by decide +kernel
theorem dX2_multiply_45 : decode cX2_multiply 45 = .ok (.lastore, 1) := by decide +kernel
theorem dX2_multiply_46 : decode cX2_multiply 46 = .ok (.iinc 4 1, 3) := by decide +kernel
theorem dX2_multiply_49 : decode cX2_multiply 49 = .ok (.goto (-44), 3) := by decide +kernel
theorem dX2_multiply_52 : decode cX2_multiply 52 = .ok (.return_, 1) := by decide +kernel
theorem dX2_divide_0 : decode cX2_divide 0 = .ok (.iload_n 1, 1) := by decide +kernel
theorem dX2_divide_1 : decode cX2_divide 1 = .ok (.iconst 1, 1) := by decide +kernel
theorem dX2_divide_2 : decode cX2_divide 2 = .ok (.if_icmp .ge 4, 3) := by decide +kernel
theorem dX2_divide_5 : decode cX2_divide 5 = .ok (.return_, 1) := by decide +kernel
theorem dX2_divide_6 : decode cX2_divide 6 = .ok (.lconst 0, 1) := by decide +kernel
theorem dX2_divide_7 : decode cX2_divide 7 = .ok (.lstore_n 2, 1) := by decide +kernel
theorem dX2_divide_8 : decode cX2_divide 8 = .ok (.bipush 7, 2) := by decide +kernel
theorem dX2_divide_10 : decode cX2_divide 10 = .ok (.istore 4, 2) := by decide +kernel
theorem dX2_divide_12 : decode cX2_divide 12 = .ok (.iload 4, 2) := by decide +kernel
theorem dX2_divide_14 : decode cX2_divide 14 = .ok (.ifCond .lt 42, 3) := by decide +kernel
theorem dX2_divide_17 : decode cX2_divide 17 = .ok (.lload_n 2, 1) := by decide +kernel
theorem dX2_divide_18 : decode cX2_divide 18 = .ok (.ldc2_w 29, 3) := by decide +kernel
theorem dX2_divide_21 : decode cX2_divide 21 = .ok (.lmul, 1) := by decide +kernel
theorem dX2_divide_22 : decode cX2_divide 22 = .ok (.aload_n 0, 1) := by decide +kernel
theorem dX2_divide_23 : decode cX2_divide 23 = .ok (.getfield 9, 3) := by decide +kernel
theorem dX2_divide_26 : decode cX2_divide 26 = .ok (.iload 4, 2) := by decide +kernel
theorem dX2_divide_28 : decode cX2_divide 28 = .ok (.laload, 1) := by decide +kernel
theorem dX2_divide_29 : decode cX2_divide 29 = .ok (.ladd, 1) := by decide +kernel
theorem dX2_divide_30 : decode cX2_divide 30 = .ok (.lstore 5, 2) := by decide +kernel
theorem dX2_divide_32 : decode cX2_divide 32 = .ok (.aload_n 0, 1) := by decide +kernel
theorem dX2_divide_33 : decode cX2_divide 33 = .ok (.getfield 9, 3) := by decide +kernel
theorem dX2_divide_36 : decode cX2_divide 36 = .ok (.iload 4, 2) := by decide +kernel
theorem dX2_divide_38 : decode cX2_divide 38 = .ok (.lload 5, 2) := by decide +kernel
theorem dX2_divide_40 : decode cX2_divide 40 = .ok (.iload_n 1, 1) := by decide +kernel
theorem dX2_divide_41 : decode cX2_divide 41 = .ok (.i2l, 1) := by decide +kernel
theorem dX2_divide_42 : decode cX2_divide 42 = .ok (.ldiv, 1) := by decide +kernel
theorem dX2_divide_43 : decode cX2_divide 43 = .ok (.lastore, 1) := by decide +kernel
theorem dX2_divide_44 : decode cX2_divide 44 = .ok (.lload 5, 2) := by decide +kernel
theorem dX2_divide_46 : decode cX2_divide 46 = .ok (.iload_n 1, 1) := by decide +kernel
theorem dX2_divide_47 : decode cX2_divide 47 = .ok (.i2l, 1) := by decide +kernel
theorem dX2_divide_48 : decode cX2_divide 48 = .ok (.lrem, 1) := by decide +kernel
theorem dX2_divide_49 : decode cX2_divide 49 = .ok (.lstore_n 2, 1) := by decide +kernel
theorem dX2_divide_50 : decode cX2_divide 50 = .ok (.iinc 4 (-1), 3) := by decide +kernel
theorem dX2_divide_53 : decode cX2_divide 53 = .ok (.goto (-41), 3) := by decide +kernel
theorem dX2_divide_56 : decode cX2_divide 56 = .ok (.return_, 1) := by decide +kernel
theorem dX2_isAtLeast_0 : decode cX2_isAtLeast 0 = .ok (.bipush 7, 2) := by decide +kernel
theorem dX2_isAtLeast_2 : decode cX2_isAtLeast 2 = .ok (.istore_n 2, 1) := by decide +kernel
theorem dX2_isAtLeast_3 : decode cX2_isAtLeast 3 = .ok (.iload_n 2, 1) := by decide +kernel
theorem dX2_isAtLeast_4 : decode cX2_isAtLeast 4 = .ok (.ifCond .lt 47, 3) := by decide +kernel
theorem dX2_isAtLeast_7 : decode cX2_isAtLeast 7 = .ok (.aload_n 0, 1) := by decide +kernel
theorem dX2_isAtLeast_8 : decode cX2_isAtLeast 8 = .ok (.getfield 9, 3) := by decide +kernel
theorem dX2_isAtLeast_11 : decode cX2_isAtLeast 11 = .ok (.iload_n 2, 1) := by decide +kernel
theorem dX2_isAtLeast_12 : decode cX2_isAtLeast 12 = .ok (.laload, 1) := by decide +kernel
theorem dX2_isAtLeast_13 : decode cX2_isAtLeast 13 = .ok (.aload_n 1, 1) := by decide +kernel
theorem dX2_isAtLeast_14 : decode cX2_isAtLeast 14 = .ok (.getfield 9, 3) := by decide +kernel
theorem dX2_isAtLeast_17 : decode cX2_isAtLeast 17 = .ok (.iload_n 2, 1) := by decide +kernel
theorem dX2_isAtLeast_18 : decode cX2_isAtLeast 18 = .ok (.laload, 1) := by decide +kernel
theorem dX2_isAtLeast_19 : decode cX2_isAtLeast 19 = .ok (.lcmp, 1) := by decide +kernel
theorem dX2_isAtLeast_20 : decode cX2_isAtLeast 20 = .ok (.ifCond .eq 25, 3) := by decide +kernel
theorem dX2_isAtLeast_23 : decode cX2_isAtLeast 23 = .ok (.aload_n 0, 1) := by decide +kernel
theorem dX2_isAtLeast_24 : decode cX2_isAtLeast 24 = .ok (.getfield 9, 3) := by decide +kernel
theorem dX2_isAtLeast_27 : decode cX2_isAtLeast 27 = .ok (.iload_n 2, 1) := by decide +kernel
theorem dX2_isAtLeast_28 : decode cX2_isAtLeast 28 = .ok (.laload, 1) := by decide +kernel
theorem dX2_isAtLeast_29 : decode cX2_isAtLeast 29 = .ok (.aload_n 1, 1) := by decide +kernel
theorem dX2_isAtLeast_30 : decode cX2_isAtLeast 30 = .ok (.getfield 9, 3) := by decide +kernel
theorem dX2_isAtLeast_33 : decode cX2_isAtLeast 33 = .ok (.iload_n 2, 1) := by decide +kernel
theorem dX2_isAtLeast_34 : decode cX2_isAtLeast 34 = .ok (.laload, 1) := by decide +kernel
theorem dX2_isAtLeast_35 : decode cX2_isAtLeast 35 = .ok (.lcmp, 1) := by decide +kernel
theorem dX2_isAtLeast_36 : decode cX2_isAtLeast 36 = .ok (.ifCond .le 7, 3) := by decide +kernel
theorem dX2_isAtLeast_39 : decode cX2_isAtLeast 39 = .ok (.iconst 1, 1) := by decide +kernel
theorem dX2_isAtLeast_40 : decode cX2_isAtLeast 40 = .ok (.goto 4, 3) := by decide +kernel
theorem dX2_isAtLeast_43 : decode cX2_isAtLeast 43 = .ok (.iconst 0, 1) := by decide +kernel
theorem dX2_isAtLeast_44 : decode cX2_isAtLeast 44 = .ok (.ireturn, 1) := by decide +kernel
theorem dX2_isAtLeast_45 : decode cX2_isAtLeast 45 = .ok (.iinc 2 (-1), 3) := by decide +kernel
theorem dX2_isAtLeast_48 : decode cX2_isAtLeast 48 = .ok (.goto (-45), 3) := by decide +kernel
theorem dX2_isAtLeast_51 : decode cX2_isAtLeast 51 = .ok (.iconst 1, 1) := by decide +kernel
theorem dX2_isAtLeast_52 : decode cX2_isAtLeast 52 = .ok (.ireturn, 1) := by decide +kernel
set_option maxRecDepth 20000 in
theorem ggX3_init_X1_init : GoodIn wsX3_init wsX1_init := goodIn_r _ [15, 16, 2, 3, 17, 18, 19, 20, 21, 22, 23, 24, 25, 26, 27, 38, 35, 36, 37] (by decide +kernel) (by decide +kernel)
set_option maxRecDepth 20000 in
theorem gX3_init_X1_init_n24 : GoodIn wsX3_init (wsX1_init) := ggX3_init_X1_init
theorem dX3_init_0 : decode cX3_init 0 = .ok (.aload_n 0, 1) := by decide +kernel
theorem dX3_init_1 : decode cX3_init 1 = .ok (.invokespecial 1, 3) := by decide +kernel
theorem dX3_init_4 : decode cX3_init 4 = .ok (.aload_n 0, 1) := by decide +kernel
theorem dX3_init_5 : decode cX3_init 5 = .ok (.bipush 20, 2) := by decide +kernel
theorem dX3_init_7 : decode cX3_init 7 = .ok (.anewarray 9, 3) := by decide +kernel
theorem dX3_init_10 : decode cX3_init 10 = .ok (.putfield 11, 3) := by decide +kernel
theorem dX3_init_13 : decode cX3_init 13 = .ok (.aload_n 0, 1) := by decide +kernel
theorem dX3_init_14 : decode cX3_init 14 = .ok (.bipush 50, 2) := by decide +kernel
theorem dX3_init_16 : decode cX3_init 16 = .ok (.newarray .int, 2) := by decide +kernel
theorem dX3_init_18 : decode cX3_init 18 = .ok (.putfield 15, 3) := by decide +kernel
theorem dX3_init_21 : decode cX3_init 21 = .ok (.aload_n 0, 1) := by decide +kernel
theorem dX3_init_22 : decode cX3_init 22 = .ok (.bipush 50, 2) := by decide +kernel
theorem dX3_init_24 : decode cX3_init 24 = .ok (.newarray .int, 2) := by decide +kernel
theorem dX3_init_26 : decode cX3_init 26 = .ok (.putfield 19, 3) := by decide +kernel
theorem dX3_init_29 : decode cX3_init 29 = .ok (.iconst 0, 1) := by decide +kernel
theorem dX3_init_30 : decode cX3_init 30 = .ok (.istore_n 1, 1) := by decide +kernel
theorem dX3_init_31 : decode cX3_init 31 = .ok (.iload_n 1, 1) := by decide +kernel
theorem dX3_init_32 : decode cX3_init 32 = .ok (.aload_n 0, 1) := by decide +kernel
theorem dX3_init_33 : decode cX3_init 33 = .ok (.getfield 15, 3) := by decide +kernel
theorem dX3_init_36 : decode cX3_init 36 = .ok (.arraylength, 1) := by decide +kernel
theorem dX3_init_37 : decode cX3_init 37 = .ok (.if_icmp .ge 17, 3) := by decide +kernel
theorem dX3_init_40 : decode cX3_init 40 = .ok (.aload_n 0, 1) := by decide +kernel
theorem dX3_init_41 : decode cX3_init 41 = .ok (.getfield 15, 3) := by decide +kernel
theorem dX3_init_44 : decode cX3_init 44 = .ok (.iload_n 1, 1) := by decide +kernel
theorem dX3_init_45 : decode cX3_init 45 = .ok (.bipush 20, 2) := by decide +kernel
theorem dX3_init_47 : decode cX3_init 47 = .ok (.iastore, 1) := by decide +kernel
theorem dX3_init_48 : decode cX3_init 48 = .ok (.iinc 1 1, 3) := by decide +kernel
theorem dX3_init_51 : decode cX3_init 51 = .ok (.goto (-20), 3) := by decide +kernel
theorem dX3_init_54 : decode cX3_init 54 = .ok (.aload_n 0, 1) := by decide +kernel
theorem dX3_init_55 : decode cX3_init 55 = .ok (.new 22, 3) := by decide +kernel
theorem dX3_init_58 : decode cX3_init 58 = .ok (.dup, 1) := by decide +kernel
theorem dX3_init_59 : decode cX3_init 59 = .ok (.invokespecial 24, 3) := by decide +kernel
theorem dX3_init_62 : decode cX3_init 62 = .ok (.putfield 25, 3) := by decide +kernel
theorem dX3_init_65 : decode cX3_init 65 = .ok (.aload_n 0, 1) := by decide +kernel
theorem dX3_init_66 : decode cX3_init 66 = .ok (.sipush 950, 3) := by decide +kernel
theorem dX3_init_69 : decode cX3_init 69 = .ok (.putfield 29, 3) := by decide +kernel
theorem dX3_init_72 : decode cX3_init 72 = .ok (.return_, 1) := by decide +kernel
set_option maxRecDepth 20000 in
theorem ggX3_mailing_X0_init : GoodIn wsX3_mailing wsX0_init := goodIn_r _ [8, 9, 10, 11, 12, 13, 14, 15, 23, 24, 25, 26] (by decide +kernel) (by decide +kernel)
set_option maxRecDepth 20000 in
theorem gX3_mailing_X0_init : GoodIn wsX3_mailing (wsX0_init) := ggX3_mailing_X0_init
theorem dX3_mailing_0 : decode cX3_mailing 0 = .ok (.iload_n 1, 1) := by decide +kernel
theorem dX3_mailing_1 : decode cX3_mailing 1 = .ok (.ifCond .lt 10, 3) := by decide +kernel
theorem dX3_mailing_4 : decode cX3_mailing 4 = .ok (.iload_n 1, 1) := by decide +kernel
theorem dX3_mailing_5 : decode cX3_mailing 5 = .ok (.sipush 200, 3) := by decide +kernel
theorem dX3_mailing_8 : decode cX3_mailing 8 = .ok (.if_icmp .le 6, 3) := by decide +kernel
theorem dX3_mailing_11 : decode cX3_mailing 11 = .ok (.bipush (-12), 2) := by decide +kernel
theorem dX3_mailing_13 : decode cX3_mailing 13 = .ok (.ireturn, 1) := by decide +kernel
theorem dX3_mailing_14 : decode cX3_mailing 14 = .ok (.iload_n 1, 1) := by decide +kernel
theorem dX3_mailing_15 : decode cX3_mailing 15 = .ok (.ifCond .ne 5, 3) := by decide +kernel
theorem dX3_mailing_18 : decode cX3_mailing 18 = .ok (.iconst 0, 1) := by decide +kernel
theorem dX3_mailing_19 : decode cX3_mailing 19 = .ok (.ireturn, 1) := by decide +kernel
theorem dX3_mailing_20 : decode cX3_mailing 20 = .ok (.aload_n 0, 1) := by decide +kernel
theorem dX3_mailing_21 : decode cX3_mailing 21 = .ok (.getfield 33, 3) := by decide +kernel
theorem dX3_mailing_24 : decode cX3_mailing 24 = .ok (.bipush 20, 2) := by decide +kernel
theorem dX3_mailing_26 : decode cX3_mailing 26 = .ok (.if_icmp .lt 6, 3) := by decide +kernel
theorem dX3_mailing_29 : decode cX3_mailing 29 = .ok (.bipush (-14), 2) := by decide +kernel
theorem dX3_mailing_31 : decode cX3_mailing 31 = .ok (.ireturn, 1) := by decide +kernel
theorem dX3_mailing_32 : decode cX3_mailing 32 = .ok (.aload_n 0, 1) := by decide +kernel
theorem dX3_mailing_33 : decode cX3_mailing 33 = .ok (.getfield 11, 3) := by decide +kernel
theorem dX3_mailing_36 : decode cX3_mailing 36 = .ok (.aload_n 0, 1) := by decide +kernel
theorem dX3_mailing_37 : decode cX3_mailing 37 = .ok (.getfield 33, 3) := by decide +kernel
theorem dX3_mailing_40 : decode cX3_mailing 40 = .ok (.new 9, 3) := by decide +kernel
theorem dX3_mailing_43 : decode cX3_mailing 43 = .ok (.dup, 1) := by decide +kernel
theorem dX3_mailing_44 : decode cX3_mailing 44 = .ok (.iload_n 1, 1) := by decide +kernel
theorem dX3_mailing_45 : decode cX3_mailing 45 = .ok (.invokespecial 36, 3) := by decide +kernel
theorem dX3_mailing_48 : decode cX3_mailing 48 = .ok (.aastore, 1) := by decide +kernel
theorem dX3_mailing_49 : decode cX3_mailing 49 = .ok (.aload_n 0, 1) := by decide +kernel
theorem dX3_mailing_50 : decode cX3_mailing 50 = .ok (.dup, 1) := by decide +kernel
theorem dX3_mailing_51 : decode cX3_mailing 51 = .ok (.getfield 33, 3) := by decide +kernel
theorem dX3_mailing_54 : decode cX3_mailing 54 = .ok (.iconst 1, 1) := by decide +kernel
theorem dX3_mailing_55 : decode cX3_mailing 55 = .ok (.iadd, 1) := by decide +kernel
theorem dX3_mailing_56 : decode cX3_mailing 56 = .ok (.putfield 33, 3) := by decide +kernel
theorem dX3_mailing_59 : decode cX3_mailing 59 = .ok (.aload_n 0, 1) := by decide +kernel
theorem dX3_mailing_60 : decode cX3_mailing 60 = .ok (.getfield 33, 3) := by decide +kernel
theorem dX3_mailing_63 : decode cX3_mailing 63 = .ok (.ireturn, 1) := by decide +kernel
set_option maxRecDepth 20000 in
theorem ggX3_depth_X3_find : GoodIn wsX3_depth wsX3_find := goodIn_r _ [7, 8, 22, 23, 24, 25, 26, 27, 28] (by decide +kernel) (by decide +kernel)
set_option maxRecDepth 20000 in
theorem gX3_depth_X3_find : GoodIn wsX3_depth (wsV RX3 39 RX3 yX3_find wsX3_find) := goodIn_app (goodIn_of _ (by decide +kernel)) ggX3_depth_X3_find
set_option maxRecDepth 20000 in
theorem ggX3_depth_X3_sum : GoodIn wsX3_depth wsX3_sum := goodIn_r _ [11] (by decide +kernel) (by decide +kernel)
set_option maxRecDepth 20000 in
theorem gX3_depth_X3_sum : GoodIn wsX3_depth (va_wsS RX3 46 yX3_sum wsX3_sum) := goodIn_app (goodIn_of _ (by decide +kernel)) ggX3_depth_X3_sum
set_option maxRecDepth 20000 in
theorem ggX3_depth_X0_isSampled : GoodIn wsX3_depth wsX0_isSampled := goodIn_r _ [16, 17, 18, 19, 20, 21] (by decide +kernel) (by decide +kernel)
set_option maxRecDepth 20000 in
theorem gX3_depth_X0_isSampled : GoodIn wsX3_depth (wsV RX3 53 RX0 yX0_isSampled wsX0_isSampled) := goodIn_app (goodIn_of _ (by decide +kernel)) ggX3_depth_X0_isSampled
theorem dX3_depth_0 : decode cX3_depth 0 = .ok (.aload_n 0, 1) := by decide +kernel
theorem dX3_depth_1 : decode cX3_depth 1 = .ok (.iload_n 1, 1) := by decide +kernel
theorem dX3_depth_2 : decode cX3_depth 2 = .ok (.invokevirtual 39, 3) := by decide +kernel
theorem dX3_depth_5 : decode cX3_depth 5 = .ok (.astore 4, 2) := by decide +kernel
theorem dX3_depth_7 : decode cX3_depth 7 = .ok (.aload 4, 2) := by decide +kernel
theorem dX3_depth_9 : decode cX3_depth 9 = .ok (.ifnonnull 6, 3) := by decide +kernel
theorem dX3_depth_12 : decode cX3_depth 12 = .ok (.bipush (-11), 2) := by decide +kernel
theorem dX3_depth_14 : decode cX3_depth 14 = .ok (.ireturn, 1) := by decide +kernel
theorem dX3_depth_15 : decode cX3_depth 15 = .ok (.iload_n 2, 1) := by decide +kernel
theorem dX3_depth_16 : decode cX3_depth 16 = .ok (.ifCond .lt 12, 3) := by decide +kernel
theorem dX3_depth_19 : decode cX3_depth 19 = .ok (.iload_n 2, 1) := by decide +kernel
theorem dX3_depth_20 : decode cX3_depth 20 = .ok (.iconst 4, 1) := by decide +kernel
theorem dX3_depth_21 : decode cX3_depth 21 = .ok (.if_icmp .ge 7, 3) := by decide +kernel
theorem dX3_depth_24 : decode cX3_depth 24 = .ok (.iload_n 3, 1) := by decide +kernel
theorem dX3_depth_25 : decode cX3_depth 25 = .ok (.ifCond .ge 6, 3) := by decide +kernel
theorem dX3_depth_28 : decode cX3_depth 28 = .ok (.bipush (-12), 2) := by decide +kernel
theorem dX3_depth_30 : decode cX3_depth 30 = .ok (.ireturn, 1) := by decide +kernel
theorem dX3_depth_31 : decode cX3_depth 31 = .ok (.aload 4, 2) := by decide +kernel
theorem dX3_depth_33 : decode cX3_depth 33 = .ok (.getfield 43, 3) := by decide +kernel
theorem dX3_depth_36 : decode cX3_depth 36 = .ok (.invokestatic 46, 3) := by decide +kernel
theorem dX3_depth_39 : decode cX3_depth 39 = .ok (.aload 4, 2) := by decide +kernel
theorem dX3_depth_41 : decode cX3_depth 41 = .ok (.getfield 43, 3) := by decide +kernel
theorem dX3_depth_44 : decode cX3_depth 44 = .ok (.iload_n 2, 1) := by decide +kernel
theorem dX3_depth_45 : decode cX3_depth 45 = .ok (.iaload, 1) := by decide +kernel
theorem dX3_depth_46 : decode cX3_depth 46 = .ok (.isub, 1) := by decide +kernel
theorem dX3_depth_47 : decode cX3_depth 47 = .ok (.istore 5, 2) := by decide +kernel
theorem dX3_depth_49 : decode cX3_depth 49 = .ok (.iload_n 3, 1) := by decide +kernel
theorem dX3_depth_50 : decode cX3_depth 50 = .ok (.aload 4, 2) := by decide +kernel
theorem dX3_depth_52 : decode cX3_depth 52 = .ok (.getfield 50, 3) := by decide +kernel
theorem dX3_depth_55 : decode cX3_depth 55 = .ok (.iload 5, 2) := by decide +kernel
theorem dX3_depth_57 : decode cX3_depth 57 = .ok (.isub, 1) := by decide +kernel
theorem dX3_depth_58 : decode cX3_depth 58 = .ok (.if_icmp .le 6, 3) := by decide +kernel
theorem dX3_depth_61 : decode cX3_depth 61 = .ok (.bipush (-12), 2) := by decide +kernel
theorem dX3_depth_63 : decode cX3_depth 63 = .ok (.ireturn, 1) := by decide +kernel
theorem dX3_depth_64 : decode cX3_depth 64 = .ok (.aload 4, 2) := by decide +kernel
theorem dX3_depth_66 : decode cX3_depth 66 = .ok (.invokevirtual 53, 3) := by decide +kernel
theorem dX3_depth_69 : decode cX3_depth 69 = .ok (.ifCond .eq 6, 3) := by decide +kernel
theorem dX3_depth_72 : decode cX3_depth 72 = .ok (.bipush (-13), 2) := by decide +kernel
theorem dX3_depth_74 : decode cX3_depth 74 = .ok (.ireturn, 1) := by decide +kernel
theorem dX3_depth_75 : decode cX3_depth 75 = .ok (.aload 4, 2) := by decide +kernel
theorem dX3_depth_77 : decode cX3_depth 77 = .ok (.getfield 43, 3) := by decide +kernel
theorem dX3_depth_80 : decode cX3_depth 80 = .ok (.iload_n 2, 1) := by decide +kernel
theorem dX3_depth_81 : decode cX3_depth 81 = .ok (.iload_n 3, 1) := by decide +kernel
theorem dX3_depth_82 : decode cX3_depth 82 = .ok (.iastore, 1) := by decide +kernel
theorem dX3_depth_83 : decode cX3_depth 83 = .ok (.iload 5, 2) := by decide +kernel
theorem dX3_depth_85 : decode cX3_depth 85 = .ok (.iload_n 3, 1) := by decide +kernel
theorem dX3_depth_86 : decode cX3_depth 86 = .ok (.iadd, 1) := by decide +kernel
theorem dX3_depth_87 : decode cX3_depth 87 = .ok (.ireturn, 1) := by decide +kernel
theorem dX3_tape_0 : decode cX3_tape 0 = .ok (.aload_n 0, 1) := by decide +kernel
theorem dX3_tape_1 : decode cX3_tape 1 = .ok (.getfield 57, 3) := by decide +kernel
theorem dX3_tape_4 : decode cX3_tape 4 = .ok (.sipush 300, 3) := by decide +kernel
theorem dX3_tape_7 : decode cX3_tape 7 = .ok (.if_icmp .ge 13, 3) := by decide +kernel
theorem dX3_tape_10 : decode cX3_tape 10 = .ok (.aload_n 0, 1) := by decide +kernel
theorem dX3_tape_11 : decode cX3_tape 11 = .ok (.dup, 1) := by decide +kernel
theorem dX3_tape_12 : decode cX3_tape 12 = .ok (.getfield 57, 3) := by decide +kernel
theorem dX3_tape_15 : decode cX3_tape 15 = .ok (.iconst 1, 1) := by decide +kernel
theorem dX3_tape_16 : decode cX3_tape 16 = .ok (.iadd, 1) := by decide +kernel
theorem dX3_tape_17 : decode cX3_tape 17 = .ok (.putfield 57, 3) := by decide +kernel
theorem dX3_tape_20 : decode cX3_tape 20 = .ok (.return_, 1) := by decide +kernel
set_option maxRecDepth 20000 in
theorem ggX3_sample_X3_find : GoodIn wsX3_sample wsX3_find := goodIn_r _ [12, 13, 24, 25, 26, 27, 28, 29, 30] (by decide +kernel) (by decide +kernel)
set_option maxRecDepth 20000 in
theorem gX3_sample_X3_find : GoodIn wsX3_sample (wsV RX3 39 RX3 yX3_find wsX3_find) := goodIn_app (goodIn_of _ (by decide +kernel)) ggX3_sample_X3_find
set_option maxRecDepth 20000 in
theorem ggX3_sample_X0_isSampled : GoodIn wsX3_sample wsX0_isSampled := goodIn_r _ [18, 19, 20, 21, 22, 23] (by decide +kernel) (by decide +kernel)
set_option maxRecDepth 20000 in
theorem gX3_sample_X0_isSampled : GoodIn wsX3_sample (wsV RX3 53 RX0 yX0_isSampled wsX0_isSampled) := goodIn_app (goodIn_of _ (by decide +kernel)) ggX3_sample_X0_isSampled
theorem dX3_sample_0 : decode cX3_sample 0 = .ok (.aload_n 0, 1) := by decide +kernel
theorem dX3_sample_1 : decode cX3_sample 1 = .ok (.iload_n 1, 1) := by decide +kernel
theorem dX3_sample_2 : decode cX3_sample 2 = .ok (.invokevirtual 39, 3) := by decide +kernel
theorem dX3_sample_5 : decode cX3_sample 5 = .ok (.astore_n 3, 1) := by decide +kernel
theorem dX3_sample_6 : decode cX3_sample 6 = .ok (.aload_n 3, 1) := by decide +kernel
theorem dX3_sample_7 : decode cX3_sample 7 = .ok (.ifnonnull 6, 3) := by decide +kernel
theorem dX3_sample_10 : decode cX3_sample 10 = .ok (.bipush (-11), 2) := by decide +kernel
theorem dX3_sample_12 : decode cX3_sample 12 = .ok (.ireturn, 1) := by decide +kernel
theorem dX3_sample_13 : decode cX3_sample 13 = .ok (.iload_n 2, 1) := by decide +kernel
theorem dX3_sample_14 : decode cX3_sample 14 = .ok (.iconst 1, 1) := by decide +kernel
theorem dX3_sample_15 : decode cX3_sample 15 = .ok (.if_icmp .ge 6, 3) := by decide +kernel
theorem dX3_sample_18 : decode cX3_sample 18 = .ok (.bipush (-12), 2) := by decide +kernel
theorem dX3_sample_20 : decode cX3_sample 20 = .ok (.ireturn, 1) := by decide +kernel
theorem dX3_sample_21 : decode cX3_sample 21 = .ok (.aload_n 3, 1) := by decide +kernel
theorem dX3_sample_22 : decode cX3_sample 22 = .ok (.invokevirtual 53, 3) := by decide +kernel
theorem dX3_sample_25 : decode cX3_sample 25 = .ok (.ifCond .eq 6, 3) := by decide +kernel
theorem dX3_sample_28 : decode cX3_sample 28 = .ok (.bipush (-13), 2) := by decide +kernel
theorem dX3_sample_30 : decode cX3_sample 30 = .ok (.ireturn, 1) := by decide +kernel
theorem dX3_sample_31 : decode cX3_sample 31 = .ok (.iload_n 2, 1) := by decide +kernel
theorem dX3_sample_32 : decode cX3_sample 32 = .ok (.aload_n 3, 1) := by decide +kernel
theorem dX3_sample_33 : decode cX3_sample 33 = .ok (.getfield 50, 3) := by decide +kernel
theorem dX3_sample_36 : decode cX3_sample 36 = .ok (.invokestatic 60, 3) := by decide +kernel
theorem dX3_sample_39 : decode cX3_sample 39 = .ok (.istore 4, 2) := by decide +kernel
theorem dX3_sample_41 : decode cX3_sample 41 = .ok (.aload_n 0, 1) := by decide +kernel
theorem dX3_sample_42 : decode cX3_sample 42 = .ok (.getfield 57, 3) := by decide +kernel
theorem dX3_sample_45 : decode cX3_sample 45 = .ok (.iload 4, 2) := by decide +kernel
theorem dX3_sample_47 : decode cX3_sample 47 = .ok (.if_icmp .ge 6, 3) := by decide +kernel
theorem dX3_sample_50 : decode cX3_sample 50 = .ok (.bipush (-14), 2) := by decide +kernel
theorem dX3_sample_52 : decode cX3_sample 52 = .ok (.ireturn, 1) := by decide +kernel
theorem dX3_sample_53 : decode cX3_sample 53 = .ok (.aload_n 0, 1) := by decide +kernel
theorem dX3_sample_54 : decode cX3_sample 54 = .ok (.dup, 1) := by decide +kernel
theorem dX3_sample_55 : decode cX3_sample 55 = .ok (.getfield 57, 3) := by decide +kernel
theorem dX3_sample_58 : decode cX3_sample 58 = .ok (.iload 4, 2) := by decide +kernel
theorem dX3_sample_60 : decode cX3_sample 60 = .ok (.isub, 1) := by decide +kernel
theorem dX3_sample_61 : decode cX3_sample 61 = .ok (.putfield 57, 3) := by decide +kernel
theorem dX3_sample_64 : decode cX3_sample 64 = .ok (.aload_n 3, 1) := by decide +kernel
theorem dX3_sample_65 : decode cX3_sample 65 = .ok (.iload 4, 2) := by decide +kernel
theorem dX3_sample_67 : decode cX3_sample 67 = .ok (.putfield 66, 3) := by decide +kernel
theorem dX3_sample_70 : decode cX3_sample 70 = .ok (.iload 4, 2) := by decide +kernel
theorem dX3_sample_72 : decode cX3_sample 72 = .ok (.ireturn, 1) := by decide +kernel
set_option maxRecDepth 20000 in
theorem ggX3_wrong_X3_find : GoodIn wsX3_wrong wsX3_find := goodIn_r _ [7, 8, 22, 23, 24, 25, 26, 27, 28] (by decide +kernel) (by decide +kernel)
set_option maxRecDepth 20000 in
theorem gX3_wrong_X3_find : GoodIn wsX3_wrong (wsV RX3 39 RX3 yX3_find wsX3_find) := goodIn_app (goodIn_of _ (by decide +kernel)) ggX3_wrong_X3_find
set_option maxRecDepth 20000 in
theorem ggX3_wrong_X3_sum : GoodIn wsX3_wrong wsX3_sum := goodIn_r _ [11] (by decide +kernel) (by decide +kernel)
set_option maxRecDepth 20000 in
theorem gX3_wrong_X3_sum : GoodIn wsX3_wrong (va_wsS RX3 46 yX3_sum wsX3_sum) := goodIn_app (goodIn_of _ (by decide +kernel)) ggX3_wrong_X3_sum
set_option maxRecDepth 20000 in
theorem ggX3_wrong_X0_isSampled : GoodIn wsX3_wrong wsX0_isSampled := goodIn_r _ [16, 17, 18, 19, 20, 21] (by decide +kernel) (by decide +kernel)
set_option maxRecDepth 20000 in
theorem gX3_wrong_X0_isSampled : GoodIn wsX3_wrong (wsV RX3 53 RX0 yX0_isSampled wsX0_isSampled) := goodIn_app (goodIn_of _ (by decide +kernel)) ggX3_wrong_X0_isSampled
theorem dX3_wrong_0 : decode cX3_wrong 0 = .ok (.aload_n 0, 1) := by decide +kernel
theorem dX3_wrong_1 : decode cX3_wrong 1 = .ok (.iload_n 1, 1) := by decide +kernel
theorem dX3_wrong_2 : decode cX3_wrong 2 = .ok (.invokevirtual 39, 3) := by decide +kernel
theorem dX3_wrong_5 : decode cX3_wrong 5 = .ok (.astore 4, 2) := by decide +kernel
theorem dX3_wrong_7 : decode cX3_wrong 7 = .ok (.aload 4, 2) := by decide +kernel
theorem dX3_wrong_9 : decode cX3_wrong 9 = .ok (.ifnonnull 6, 3) := by decide +kernel
theorem dX3_wrong_12 : decode cX3_wrong 12 = .ok (.bipush (-11), 2) := by decide +kernel
theorem dX3_wrong_14 : decode cX3_wrong 14 = .ok (.ireturn, 1) := by decide +kernel
theorem dX3_wrong_15 : decode cX3_wrong 15 = .ok (.iload_n 2, 1) := by decide +kernel
theorem dX3_wrong_16 : decode cX3_wrong 16 = .ok (.ifCond .lt 12, 3) := by decide +kernel
theorem dX3_wrong_19 : decode cX3_wrong 19 = .ok (.iload_n 2, 1) := by decide +kernel
theorem dX3_wrong_20 : decode cX3_wrong 20 = .ok (.iconst 3, 1) := by decide +kernel
theorem dX3_wrong_21 : decode cX3_wrong 21 = .ok (.if_icmp .ge 7, 3) := by decide +kernel
theorem dX3_wrong_24 : decode cX3_wrong 24 = .ok (.iload_n 3, 1) := by decide +kernel
theorem dX3_wrong_25 : decode cX3_wrong 25 = .ok (.ifCond .ge 6, 3) := by decide +kernel
theorem dX3_wrong_28 : decode cX3_wrong 28 = .ok (.bipush (-12), 2) := by decide +kernel
theorem dX3_wrong_30 : decode cX3_wrong 30 = .ok (.ireturn, 1) := by decide +kernel
theorem dX3_wrong_31 : decode cX3_wrong 31 = .ok (.aload 4, 2) := by decide +kernel
theorem dX3_wrong_33 : decode cX3_wrong 33 = .ok (.getfield 69, 3) := by decide +kernel
theorem dX3_wrong_36 : decode cX3_wrong 36 = .ok (.invokestatic 46, 3) := by decide +kernel
theorem dX3_wrong_39 : decode cX3_wrong 39 = .ok (.aload 4, 2) := by decide +kernel
theorem dX3_wrong_41 : decode cX3_wrong 41 = .ok (.getfield 69, 3) := by decide +kernel
theorem dX3_wrong_44 : decode cX3_wrong 44 = .ok (.iload_n 2, 1) := by decide +kernel
theorem dX3_wrong_45 : decode cX3_wrong 45 = .ok (.iaload, 1) := by decide +kernel
theorem dX3_wrong_46 : decode cX3_wrong 46 = .ok (.isub, 1) := by decide +kernel
theorem dX3_wrong_47 : decode cX3_wrong 47 = .ok (.istore 5, 2) := by decide +kernel
theorem dX3_wrong_49 : decode cX3_wrong 49 = .ok (.iload_n 3, 1) := by decide +kernel
theorem dX3_wrong_50 : decode cX3_wrong 50 = .ok (.aload 4, 2) := by decide +kernel
theorem dX3_wrong_52 : decode cX3_wrong 52 = .ok (.getfield 66, 3) := by decide +kernel
theorem dX3_wrong_55 : decode cX3_wrong 55 = .ok (.iload 5, 2) := by decide +kernel
theorem dX3_wrong_57 : decode cX3_wrong 57 = .ok (.isub, 1) := by decide +kernel
theorem dX3_wrong_58 : decode cX3_wrong 58 = .ok (.if_icmp .le 6, 3) := by decide +kernel
theorem dX3_wrong_61 : decode cX3_wrong 61 = .ok (.bipush (-12), 2) := by decide +kernel
theorem dX3_wrong_63 : decode cX3_wrong 63 = .ok (.ireturn, 1) := by decide +kernel
theorem dX3_wrong_64 : decode cX3_wrong 64 = .ok (.aload 4, 2) := by decide +kernel
theorem dX3_wrong_66 : decode cX3_wrong 66 = .ok (.invokevirtual 53, 3) := by decide +kernel
theorem dX3_wrong_69 : decode cX3_wrong 69 = .ok (.ifCond .ne 6, 3) := by decide +kernel
theorem dX3_wrong_72 : decode cX3_wrong 72 = .ok (.bipush (-13), 2) := by decide +kernel
theorem dX3_wrong_74 : decode cX3_wrong 74 = .ok (.ireturn, 1) := by decide +kernel
theorem dX3_wrong_75 : decode cX3_wrong 75 = .ok (.aload 4, 2) := by decide +kernel
theorem dX3_wrong_77 : decode cX3_wrong 77 = .ok (.getfield 69, 3) := by decide +kernel
theorem dX3_wrong_80 : decode cX3_wrong 80 = .ok (.iload_n 2, 1) := by decide +kernel
theorem dX3_wrong_81 : decode cX3_wrong 81 = .ok (.iload_n 3, 1) := by decide +kernel
theorem dX3_wrong_82 : decode cX3_wrong 82 = .ok (.iastore, 1) := by decide +kernel
theorem dX3_wrong_83 : decode cX3_wrong 83 = .ok (.iload 5, 2) := by decide +kernel
theorem dX3_wrong_85 : decode cX3_wrong 85 = .ok (.iload_n 3, 1) := by decide +kernel
theorem dX3_wrong_86 : decode cX3_wrong 86 = .ok (.iadd, 1) := by decide +kernel
theorem dX3_wrong_87 : decode cX3_wrong 87 = .ok (.ireturn, 1) := by decide +kernel
set_option maxRecDepth 20000 in
theorem ggX3_verdict_X3_find : GoodIn wsX3_verdict wsX3_find := goodIn_r _ [5, 6, 75, 76, 77, 78, 79, 80, 81] (by decide +kernel) (by decide +kernel)
set_option maxRecDepth 20000 in
theorem gX3_verdict_X3_find : GoodIn wsX3_verdict (wsV RX3 39 RX3 yX3_find wsX3_find) := goodIn_app (goodIn_of _ (by decide +kernel)) ggX3_verdict_X3_find
set_option maxRecDepth 20000 in
theorem ggX3_verdict_X0_isSampled : GoodIn wsX3_verdict wsX0_isSampled := goodIn_r _ [11, 12, 82, 83, 84, 85] (by decide +kernel) (by decide +kernel)
set_option maxRecDepth 20000 in
theorem gX3_verdict_X0_isSampled : GoodIn wsX3_verdict (wsV RX3 53 RX0 yX0_isSampled wsX0_isSampled) := goodIn_app (goodIn_of _ (by decide +kernel)) ggX3_verdict_X0_isSampled
set_option maxRecDepth 20000 in
theorem ggX3_verdict_X3_judge : GoodIn wsX3_verdict wsX3_judge := goodIn_r _ [16, 17, 18, 19, 20, 21, 22, 23, 4, 24, 25, 26, 27, 28, 29, 30, 31, 32, 33, 34, 35, 36, 37, 38, 39, 40, 41, 42, 43, 44, 45, 46, 47, 48, 49, 50, 51, 52, 53, 54, 55, 56, 57, 58, 59, 60, 61, 62, 63, 64, 65, 66, 67, 68, 69, 70, 71, 72, 73, 74, 82, 83, 84, 85, 75, 76, 77, 78, 79, 80, 81, 86, 87, 88, 89] (by decide +kernel) (by decide +kernel)
set_option maxRecDepth 20000 in
theorem gX3_verdict_X3_judge : GoodIn wsX3_verdict (wsV RX3 72 RX3 yX3_judge wsX3_judge) := goodIn_app (goodIn_of _ (by decide +kernel)) ggX3_verdict_X3_judge
theorem dX3_verdict_0 : decode cX3_verdict 0 = .ok (.aload_n 0, 1) := by decide +kernel
theorem dX3_verdict_1 : decode cX3_verdict 1 = .ok (.iload_n 1, 1) := by decide +kernel
theorem dX3_verdict_2 : decode cX3_verdict 2 = .ok (.invokevirtual 39, 3) := by decide +kernel
theorem dX3_verdict_5 : decode cX3_verdict 5 = .ok (.astore_n 2, 1) := by decide +kernel
theorem dX3_verdict_6 : decode cX3_verdict 6 = .ok (.aload_n 2, 1) := by decide +kernel
theorem dX3_verdict_7 : decode cX3_verdict 7 = .ok (.ifnonnull 6, 3) := by decide +kernel
theorem dX3_verdict_10 : decode cX3_verdict 10 = .ok (.bipush (-11), 2) := by decide +kernel
theorem dX3_verdict_12 : decode cX3_verdict 12 = .ok (.ireturn, 1) := by decide +kernel
theorem dX3_verdict_13 : decode cX3_verdict 13 = .ok (.aload_n 2, 1) := by decide +kernel
theorem dX3_verdict_14 : decode cX3_verdict 14 = .ok (.invokevirtual 53, 3) := by decide +kernel
theorem dX3_verdict_17 : decode cX3_verdict 17 = .ok (.ifCond .ne 6, 3) := by decide +kernel
theorem dX3_verdict_20 : decode cX3_verdict 20 = .ok (.bipush (-13), 2) := by decide +kernel
theorem dX3_verdict_22 : decode cX3_verdict 22 = .ok (.ireturn, 1) := by decide +kernel
theorem dX3_verdict_23 : decode cX3_verdict 23 = .ok (.aload_n 0, 1) := by decide +kernel
theorem dX3_verdict_24 : decode cX3_verdict 24 = .ok (.aload_n 2, 1) := by decide +kernel
theorem dX3_verdict_25 : decode cX3_verdict 25 = .ok (.invokevirtual 72, 3) := by decide +kernel
theorem dX3_verdict_28 : decode cX3_verdict 28 = .ok (.ireturn, 1) := by decide +kernel
set_option maxRecDepth 20000 in
theorem ggX3_chance_X1_weigh : GoodIn wsX3_chance wsX1_weigh := goodIn_r _ [7, 8, 9, 10, 11, 12, 13, 14, 15, 16, 17, 18, 19, 20, 21, 22, 23, 24, 25, 26, 27, 28, 29, 30, 31, 32, 33, 34, 35, 36, 37, 38, 39, 40, 41, 42, 43, 44, 69, 70, 71, 72] (by decide +kernel) (by decide +kernel)
set_option maxRecDepth 20000 in
theorem gX3_chance_X1_weigh : GoodIn wsX3_chance (wsV RX3 78 RX1 yX1_weigh wsX1_weigh) := goodIn_app (goodIn_of _ (by decide +kernel)) ggX3_chance_X1_weigh
set_option maxRecDepth 20000 in
theorem ggX3_chance_X1_inThousandMillionths : GoodIn wsX3_chance wsX1_inThousandMillionths := goodIn_r _ [48, 49, 17, 50, 51, 52, 6, 53, 15, 54, 55, 56, 21, 57, 28, 58, 59, 60, 61, 33, 43, 30, 31, 32, 69, 70, 71, 72] (by decide +kernel) (by decide +kernel)
set_option maxRecDepth 20000 in
theorem gX3_chance_X1_inThousandMillionths : GoodIn wsX3_chance (wsV RX3 82 RX1 yX1_inThousandMillionths wsX1_inThousandMillionths) := goodIn_app (goodIn_of _ (by decide +kernel)) ggX3_chance_X1_inThousandMillionths
theorem dX3_chance_0 : decode cX3_chance 0 = .ok (.iload_n 1, 1) := by decide +kernel
theorem dX3_chance_1 : decode cX3_chance 1 = .ok (.iconst 1, 1) := by decide +kernel
theorem dX3_chance_2 : decode cX3_chance 2 = .ok (.if_icmp .lt 39, 3) := by decide +kernel
theorem dX3_chance_5 : decode cX3_chance 5 = .ok (.iload_n 1, 1) := by decide +kernel
theorem dX3_chance_6 : decode cX3_chance 6 = .ok (.sipush 200, 3) := by decide +kernel
theorem dX3_chance_9 : decode cX3_chance 9 = .ok (.if_icmp .gt 32, 3) := by decide +kernel
theorem dX3_chance_12 : decode cX3_chance 12 = .ok (.iload_n 2, 1) := by decide +kernel
theorem dX3_chance_13 : decode cX3_chance 13 = .ok (.ifCond .lt 28, 3) := by decide +kernel
theorem dX3_chance_16 : decode cX3_chance 16 = .ok (.iload_n 2, 1) := by decide +kernel
theorem dX3_chance_17 : decode cX3_chance 17 = .ok (.iload_n 1, 1) := by decide +kernel
theorem dX3_chance_18 : decode cX3_chance 18 = .ok (.if_icmp .gt 23, 3) := by decide +kernel
theorem dX3_chance_21 : decode cX3_chance 21 = .ok (.iload_n 3, 1) := by decide +kernel
theorem dX3_chance_22 : decode cX3_chance 22 = .ok (.ifCond .lt 19, 3) := by decide +kernel
theorem dX3_chance_25 : decode cX3_chance 25 = .ok (.iload_n 3, 1) := by decide +kernel
theorem dX3_chance_26 : decode cX3_chance 26 = .ok (.iload_n 1, 1) := by decide +kernel
theorem dX3_chance_27 : decode cX3_chance 27 = .ok (.if_icmp .gt 14, 3) := by decide +kernel
theorem dX3_chance_30 : decode cX3_chance 30 = .ok (.iload 5, 2) := by decide +kernel
theorem dX3_chance_32 : decode cX3_chance 32 = .ok (.ifCond .lt 9, 3) := by decide +kernel
theorem dX3_chance_35 : decode cX3_chance 35 = .ok (.iload 5, 2) := by decide +kernel
theorem dX3_chance_37 : decode cX3_chance 37 = .ok (.iconst 1, 1) := by decide +kernel
theorem dX3_chance_38 : decode cX3_chance 38 = .ok (.if_icmp .le 7, 3) := by decide +kernel
theorem dX3_chance_41 : decode cX3_chance 41 = .ok (.ldc2_w 76, 3) := by decide +kernel
theorem dX3_chance_44 : decode cX3_chance 44 = .ok (.lreturn, 1) := by decide +kernel
theorem dX3_chance_45 : decode cX3_chance 45 = .ok (.aload_n 0, 1) := by decide +kernel
theorem dX3_chance_46 : decode cX3_chance 46 = .ok (.getfield 25, 3) := by decide +kernel
theorem dX3_chance_49 : decode cX3_chance 49 = .ok (.iload_n 1, 1) := by decide +kernel
theorem dX3_chance_50 : decode cX3_chance 50 = .ok (.iload_n 2, 1) := by decide +kernel
theorem dX3_chance_51 : decode cX3_chance 51 = .ok (.iload_n 3, 1) := by decide +kernel
theorem dX3_chance_52 : decode cX3_chance 52 = .ok (.iload 4, 2) := by decide +kernel
theorem dX3_chance_54 : decode cX3_chance 54 = .ok (.iload 5, 2) := by decide +kernel
theorem dX3_chance_56 : decode cX3_chance 56 = .ok (.invokevirtual 78, 3) := by decide +kernel
theorem dX3_chance_59 : decode cX3_chance 59 = .ok (.aload_n 0, 1) := by decide +kernel
theorem dX3_chance_60 : decode cX3_chance 60 = .ok (.getfield 25, 3) := by decide +kernel
theorem dX3_chance_63 : decode cX3_chance 63 = .ok (.invokevirtual 82, 3) := by decide +kernel
theorem dX3_chance_66 : decode cX3_chance 66 = .ok (.lreturn, 1) := by decide +kernel
theorem dX3_share_0 : decode cX3_share 0 = .ok (.iload_n 2, 1) := by decide +kernel
theorem dX3_share_1 : decode cX3_share 1 = .ok (.ifCond .ne 13, 3) := by decide +kernel
theorem dX3_share_4 : decode cX3_share 4 = .ok (.new 86, 3) := by decide +kernel
theorem dX3_share_7 : decode cX3_share 7 = .ok (.dup, 1) := by decide +kernel
theorem dX3_share_8 : decode cX3_share 8 = .ok (.ldc 88, 2) := by decide +kernel
theorem dX3_share_10 : decode cX3_share 10 = .ok (.invokespecial 90, 3) := by decide +kernel
theorem dX3_share_13 : decode cX3_share 13 = .ok (.athrow, 1) := by decide +kernel
theorem dX3_share_14 : decode cX3_share 14 = .ok (.iload_n 1, 1) := by decide +kernel
theorem dX3_share_15 : decode cX3_share 15 = .ok (.i2l, 1) := by decide +kernel
theorem dX3_share_16 : decode cX3_share 16 = .ok (.ldc2_w 93, 3) := by decide +kernel
theorem dX3_share_19 : decode cX3_share 19 = .ok (.lmul, 1) := by decide +kernel
theorem dX3_share_20 : decode cX3_share 20 = .ok (.iload_n 2, 1) := by decide +kernel
theorem dX3_share_21 : decode cX3_share 21 = .ok (.i2l, 1) := by decide +kernel
theorem dX3_share_22 : decode cX3_share 22 = .ok (.ldiv, 1) := by decide +kernel
theorem dX3_share_23 : decode cX3_share 23 = .ok (.lreturn, 1) := by decide +kernel
set_option maxRecDepth 20000 in
theorem ggX3_shown_X3_find : GoodIn wsX3_shown wsX3_find := goodIn_r _ [8, 9, 23, 24, 25, 26, 27, 28, 29] (by decide +kernel) (by decide +kernel)
set_option maxRecDepth 20000 in
theorem gX3_shown_X3_find : GoodIn wsX3_shown (wsV RX3 39 RX3 yX3_find wsX3_find) := goodIn_app (goodIn_of _ (by decide +kernel)) ggX3_shown_X3_find
set_option maxRecDepth 20000 in
theorem ggX3_shown_X0_isSampled : GoodIn wsX3_shown wsX0_isSampled := goodIn_r _ [14, 15, 19, 20, 21, 22] (by decide +kernel) (by decide +kernel)
set_option maxRecDepth 20000 in
theorem gX3_shown_X0_isSampled : GoodIn wsX3_shown (wsV RX3 53 RX0 yX0_isSampled wsX0_isSampled) := goodIn_app (goodIn_of _ (by decide +kernel)) ggX3_shown_X0_isSampled
set_option maxRecDepth 20000 in
theorem ggX3_shown_X3_sum : GoodIn wsX3_shown wsX3_sum := goodIn_r _ [18] (by decide +kernel) (by decide +kernel)
set_option maxRecDepth 20000 in
theorem gX3_shown_X3_sum : GoodIn wsX3_shown (va_wsS RX3 46 yX3_sum wsX3_sum) := goodIn_app (goodIn_of _ (by decide +kernel)) ggX3_shown_X3_sum
theorem dX3_shown_0 : decode cX3_shown 0 = .ok (.aload_n 0, 1) := by decide +kernel
theorem dX3_shown_1 : decode cX3_shown 1 = .ok (.iload_n 1, 1) := by decide +kernel
theorem dX3_shown_2 : decode cX3_shown 2 = .ok (.invokevirtual 39, 3) := by decide +kernel
theorem dX3_shown_5 : decode cX3_shown 5 = .ok (.astore_n 2, 1) := by decide +kernel
theorem dX3_shown_6 : decode cX3_shown 6 = .ok (.aload_n 2, 1) := by decide +kernel
theorem dX3_shown_7 : decode cX3_shown 7 = .ok (.ifnonnull 7, 3) := by decide +kernel
theorem dX3_shown_10 : decode cX3_shown 10 = .ok (.ldc2_w 95, 3) := by decide +kernel
theorem dX3_shown_13 : decode cX3_shown 13 = .ok (.dreturn, 1) := by decide +kernel
theorem dX3_shown_14 : decode cX3_shown 14 = .ok (.aload_n 2, 1) := by decide +kernel
theorem dX3_shown_15 : decode cX3_shown 15 = .ok (.invokevirtual 53, 3) := by decide +kernel
theorem dX3_shown_18 : decode cX3_shown 18 = .ok (.ifCond .ne 5, 3) := by decide +kernel
theorem dX3_shown_21 : decode cX3_shown 21 = .ok (.dconst 0, 1) := by decide +kernel
theorem dX3_shown_22 : decode cX3_shown 22 = .ok (.dreturn, 1) := by decide +kernel
theorem dX3_shown_23 : decode cX3_shown 23 = .ok (.aload_n 2, 1) := by decide +kernel
theorem dX3_shown_24 : decode cX3_shown 24 = .ok (.getfield 69, 3) := by decide +kernel
theorem dX3_shown_27 : decode cX3_shown 27 = .ok (.invokestatic 46, 3) := by decide +kernel
theorem dX3_shown_30 : decode cX3_shown 30 = .ok (.i2d, 1) := by decide +kernel
theorem dX3_shown_31 : decode cX3_shown 31 = .ok (.aload_n 2, 1) := by decide +kernel
theorem dX3_shown_32 : decode cX3_shown 32 = .ok (.getfield 66, 3) := by decide +kernel
theorem dX3_shown_35 : decode cX3_shown 35 = .ok (.i2d, 1) := by decide +kernel
theorem dX3_shown_36 : decode cX3_shown 36 = .ok (.ddiv, 1) := by decide +kernel
theorem dX3_shown_37 : decode cX3_shown 37 = .ok (.dreturn, 1) := by decide +kernel
theorem dX3_plan_0 : decode cX3_plan 0 = .ok (.iload_n 1, 1) := by decide +kernel
theorem dX3_plan_1 : decode cX3_plan 1 = .ok (.ifCond .lt 18, 3) := by decide +kernel
theorem dX3_plan_4 : decode cX3_plan 4 = .ok (.iload_n 1, 1) := by decide +kernel
theorem dX3_plan_5 : decode cX3_plan 5 = .ok (.bipush 50, 2) := by decide +kernel
theorem dX3_plan_7 : decode cX3_plan 7 = .ok (.if_icmp .ge 12, 3) := by decide +kernel
theorem dX3_plan_10 : decode cX3_plan 10 = .ok (.iload_n 2, 1) := by decide +kernel
theorem dX3_plan_11 : decode cX3_plan 11 = .ok (.ifCond .lt 8, 3) := by decide +kernel
theorem dX3_plan_14 : decode cX3_plan 14 = .ok (.iload_n 2, 1) := by decide +kernel
theorem dX3_plan_15 : decode cX3_plan 15 = .ok (.iconst 2, 1) := by decide +kernel
theorem dX3_plan_16 : decode cX3_plan 16 = .ok (.if_icmp .le 6, 3) := by decide +kernel
theorem dX3_plan_19 : decode cX3_plan 19 = .ok (.bipush (-12), 2) := by decide +kernel
theorem dX3_plan_21 : decode cX3_plan 21 = .ok (.ireturn, 1) := by decide +kernel
theorem dX3_plan_22 : decode cX3_plan 22 = .ok (.iload_n 2, 1) := by decide +kernel
theorem dX3_plan_23 : decode cX3_plan 23 = .ok (.ifCond .ne 30, 3) := by decide +kernel
theorem dX3_plan_26 : decode cX3_plan 26 = .ok (.aload_n 0, 1) := by decide +kernel
theorem dX3_plan_27 : decode cX3_plan 27 = .ok (.getfield 19, 3) := by decide +kernel
theorem dX3_plan_30 : decode cX3_plan 30 = .ok (.iload_n 1, 1) := by decide +kernel
theorem dX3_plan_31 : decode cX3_plan 31 = .ok (.iconst 0, 1) := by decide +kernel
theorem dX3_plan_32 : decode cX3_plan 32 = .ok (.iastore, 1) := by decide +kernel
theorem dX3_plan_33 : decode cX3_plan 33 = .ok (.aload_n 0, 1) := by decide +kernel
theorem dX3_plan_34 : decode cX3_plan 34 = .ok (.getfield 15, 3) := by decide +kernel
theorem dX3_plan_37 : decode cX3_plan 37 = .ok (.iload_n 1, 1) := by decide +kernel
theorem dX3_plan_38 : decode cX3_plan 38 = .ok (.aload_n 0, 1) := by decide +kernel
theorem dX3_plan_39 : decode cX3_plan 39 = .ok (.getfield 15, 3) := by decide +kernel
theorem dX3_plan_42 : decode cX3_plan 42 = .ok (.iload_n 1, 1) := by decide +kernel
theorem dX3_plan_43 : decode cX3_plan 43 = .ok (.iaload, 1) := by decide +kernel
theorem dX3_plan_44 : decode cX3_plan 44 = .ok (.bipush 10, 2) := by decide +kernel
theorem dX3_plan_46 : decode cX3_plan 46 = .ok (.iadd, 1) := by decide +kernel
theorem dX3_plan_47 : decode cX3_plan 47 = .ok (.bipush 60, 2) := by decide +kernel
theorem dX3_plan_49 : decode cX3_plan 49 = .ok (.invokestatic 60, 3) := by decide +kernel
theorem dX3_plan_52 : decode cX3_plan 52 = .ok (.iastore, 1) := by decide +kernel
theorem dX3_plan_53 : decode cX3_plan 53 = .ok (.iload_n 2, 1) := by decide +kernel
theorem dX3_plan_54 : decode cX3_plan 54 = .ok (.iconst 1, 1) := by decide +kernel
theorem dX3_plan_55 : decode cX3_plan 55 = .ok (.if_icmp .ne 13, 3) := by decide +kernel
theorem dX3_plan_58 : decode cX3_plan 58 = .ok (.aload_n 0, 1) := by decide +kernel
theorem dX3_plan_59 : decode cX3_plan 59 = .ok (.getfield 19, 3) := by decide +kernel
theorem dX3_plan_62 : decode cX3_plan 62 = .ok (.iload_n 1, 1) := by decide +kernel
theorem dX3_plan_63 : decode cX3_plan 63 = .ok (.dup2, 1) := by decide +kernel
theorem dX3_plan_64 : decode cX3_plan 64 = .ok (.iaload, 1) := by decide +kernel
theorem dX3_plan_65 : decode cX3_plan 65 = .ok (.iconst 1, 1) := by decide +kernel
theorem dX3_plan_66 : decode cX3_plan 66 = .ok (.iadd, 1) := by decide +kernel
theorem dX3_plan_67 : decode cX3_plan 67 = .ok (.iastore, 1) := by decide +kernel
theorem dX3_plan_68 : decode cX3_plan 68 = .ok (.aload_n 0, 1) := by decide +kernel
theorem dX3_plan_69 : decode cX3_plan 69 = .ok (.getfield 19, 3) := by decide +kernel
theorem dX3_plan_72 : decode cX3_plan 72 = .ok (.iload_n 1, 1) := by decide +kernel
theorem dX3_plan_73 : decode cX3_plan 73 = .ok (.iaload, 1) := by decide +kernel
theorem dX3_plan_74 : decode cX3_plan 74 = .ok (.iconst 3, 1) := by decide +kernel
theorem dX3_plan_75 : decode cX3_plan 75 = .ok (.if_icmp .ne 28, 3) := by decide +kernel
theorem dX3_plan_78 : decode cX3_plan 78 = .ok (.aload_n 0, 1) := by decide +kernel
theorem dX3_plan_79 : decode cX3_plan 79 = .ok (.getfield 19, 3) := by decide +kernel
theorem dX3_plan_82 : decode cX3_plan 82 = .ok (.iload_n 1, 1) := by decide +kernel
theorem dX3_plan_83 : decode cX3_plan 83 = .ok (.iconst 0, 1) := by decide +kernel
theorem dX3_plan_84 : decode cX3_plan 84 = .ok (.iastore, 1) := by decide +kernel
theorem dX3_plan_85 : decode cX3_plan 85 = .ok (.aload_n 0, 1) := by decide +kernel
theorem dX3_plan_86 : decode cX3_plan 86 = .ok (.getfield 15, 3) := by decide +kernel
theorem dX3_plan_89 : decode cX3_plan 89 = .ok (.iload_n 1, 1) := by decide +kernel
theorem dX3_plan_90 : decode cX3_plan 90 = .ok (.aload_n 0, 1) := by decide +kernel
theorem dX3_plan_91 : decode cX3_plan 91 = .ok (.getfield 15, 3) := by decide +kernel
theorem dX3_plan_94 : decode cX3_plan 94 = .ok (.iload_n 1, 1) := by decide +kernel
theorem dX3_plan_95 : decode cX3_plan 95 = .ok (.iaload, 1) := by decide +kernel
theorem dX3_plan_96 : decode cX3_plan 96 = .ok (.iconst 5, 1) := by decide +kernel
theorem dX3_plan_97 : decode cX3_plan 97 = .ok (.isub, 1) := by decide +kernel
theorem dX3_plan_98 : decode cX3_plan 98 = .ok (.iconst 5, 1) := by decide +kernel
theorem dX3_plan_99 : decode cX3_plan 99 = .ok (.invokestatic 97, 3) := by decide +kernel
theorem dX3_plan_102 : decode cX3_plan 102 = .ok (.iastore, 1) := by decide +kernel
theorem dX3_plan_103 : decode cX3_plan 103 = .ok (.aload_n 0, 1) := by decide +kernel
theorem dX3_plan_104 : decode cX3_plan 104 = .ok (.getfield 15, 3) := by decide +kernel
theorem dX3_plan_107 : decode cX3_plan 107 = .ok (.iload_n 1, 1) := by decide +kernel
theorem dX3_plan_108 : decode cX3_plan 108 = .ok (.iaload, 1) := by decide +kernel
theorem dX3_plan_109 : decode cX3_plan 109 = .ok (.ireturn, 1) := by decide +kernel
set_option maxRecDepth 20000 in
theorem ggX3_surcharge_X3_find : GoodIn wsX3_surcharge wsX3_find := goodIn_r _ [9, 10, 86, 87, 88, 89, 90, 91, 92] (by decide +kernel) (by decide +kernel)
set_option maxRecDepth 20000 in
theorem gX3_surcharge_X3_find : GoodIn wsX3_surcharge (wsV RX3 39 RX3 yX3_find wsX3_find) := goodIn_app (goodIn_of _ (by decide +kernel)) ggX3_surcharge_X3_find
set_option maxRecDepth 20000 in
theorem ggX3_surcharge_X0_isSampled : GoodIn wsX3_surcharge wsX0_isSampled := goodIn_r _ [15, 16, 82, 83, 84, 85] (by decide +kernel) (by decide +kernel)
set_option maxRecDepth 20000 in
theorem gX3_surcharge_X0_isSampled : GoodIn wsX3_surcharge (wsV RX3 53 RX0 yX0_isSampled wsX0_isSampled) := goodIn_app (goodIn_of _ (by decide +kernel)) ggX3_surcharge_X0_isSampled
set_option maxRecDepth 20000 in
theorem ggX3_surcharge_X3_judge : GoodIn wsX3_surcharge wsX3_judge := goodIn_r _ [20, 21, 3, 22, 4, 23, 24, 25, 8, 26, 27, 28, 29, 30, 31, 32, 33, 34, 35, 36, 37, 38, 39, 40, 41, 42, 43, 44, 45, 46, 47, 48, 49, 50, 51, 52, 53, 54, 55, 56, 57, 58, 59, 60, 61, 62, 63, 64, 65, 66, 67, 68, 69, 70, 71, 72, 73, 74, 75, 76, 82, 83, 84, 85, 86, 87, 88, 89, 90, 91, 92, 93, 94, 95, 96] (by decide +kernel) (by decide +kernel)
set_option maxRecDepth 20000 in
theorem gX3_surcharge_X3_judge : GoodIn wsX3_surcharge (wsV RX3 72 RX3 yX3_judge wsX3_judge) := goodIn_app (goodIn_of _ (by decide +kernel)) ggX3_surcharge_X3_judge
set_option maxRecDepth 20000 in
theorem ggX3_surcharge_X0_discount : GoodIn wsX3_surcharge wsX0_discount := goodIn_r _ [80, 81, 82, 83, 84, 85] (by decide +kernel) (by decide +kernel)
set_option maxRecDepth 20000 in
theorem gX3_surcharge_X0_discount : GoodIn wsX3_surcharge (wsV RX3 104 RX0 yX0_discount wsX0_discount) := goodIn_app (goodIn_of _ (by decide +kernel)) ggX3_surcharge_X0_discount
set_option maxRecDepth 20000 in
theorem ggX3_surcharge_X3_sum : GoodIn wsX3_surcharge wsX3_sum := goodIn_r _ [26] (by decide +kernel) (by decide +kernel)
set_option maxRecDepth 20000 in
theorem gX3_surcharge_X3_sum : GoodIn wsX3_surcharge (va_wsS RX3 46 yX3_sum wsX3_sum) := goodIn_app (goodIn_of _ (by decide +kernel)) ggX3_surcharge_X3_sum
theorem dX3_surcharge_0 : decode cX3_surcharge 0 = .ok (.aload_n 0, 1) := by decide +kernel
theorem dX3_surcharge_1 : decode cX3_surcharge 1 = .ok (.iload_n 1, 1) := by decide +kernel
theorem dX3_surcharge_2 : decode cX3_surcharge 2 = .ok (.invokevirtual 39, 3) := by decide +kernel
theorem dX3_surcharge_5 : decode cX3_surcharge 5 = .ok (.astore_n 2, 1) := by decide +kernel
theorem dX3_surcharge_6 : decode cX3_surcharge 6 = .ok (.aload_n 2, 1) := by decide +kernel
theorem dX3_surcharge_7 : decode cX3_surcharge 7 = .ok (.ifnonnull 7, 3) := by decide +kernel
theorem dX3_surcharge_10 : decode cX3_surcharge 10 = .ok (.ldc2_w 100, 3) := by decide +kernel
theorem dX3_surcharge_13 : decode cX3_surcharge 13 = .ok (.lreturn, 1) := by decide +kernel
theorem dX3_surcharge_14 : decode cX3_surcharge 14 = .ok (.aload_n 2, 1) := by decide +kernel
theorem dX3_surcharge_15 : decode cX3_surcharge 15 = .ok (.invokevirtual 53, 3) := by decide +kernel
theorem dX3_surcharge_18 : decode cX3_surcharge 18 = .ok (.ifCond .ne 7, 3) := by decide +kernel
theorem dX3_surcharge_21 : decode cX3_surcharge 21 = .ok (.ldc2_w 102, 3) := by decide +kernel
theorem dX3_surcharge_24 : decode cX3_surcharge 24 = .ok (.lreturn, 1) := by decide +kernel
theorem dX3_surcharge_25 : decode cX3_surcharge 25 = .ok (.aload_n 0, 1) := by decide +kernel
theorem dX3_surcharge_26 : decode cX3_surcharge 26 = .ok (.aload_n 2, 1) := by decide +kernel
theorem dX3_surcharge_27 : decode cX3_surcharge 27 = .ok (.invokevirtual 72, 3) := by decide +kernel
theorem dX3_surcharge_30 : decode cX3_surcharge 30 = .ok (.istore_n 3, 1) := by decide +kernel
theorem dX3_surcharge_31 : decode cX3_surcharge 31 = .ok (.iload_n 3, 1) := by decide +kernel
theorem dX3_surcharge_32 : decode cX3_surcharge 32 = .ok (.iconst 1, 1) := by decide +kernel
theorem dX3_surcharge_33 : decode cX3_surcharge 33 = .ok (.if_icmp .ne 5, 3) := by decide +kernel
theorem dX3_surcharge_36 : decode cX3_surcharge 36 = .ok (.lconst 0, 1) := by decide +kernel
theorem dX3_surcharge_37 : decode cX3_surcharge 37 = .ok (.lreturn, 1) := by decide +kernel
theorem dX3_surcharge_38 : decode cX3_surcharge 38 = .ok (.iload_n 3, 1) := by decide +kernel
theorem dX3_surcharge_39 : decode cX3_surcharge 39 = .ok (.iconst 3, 1) := by decide +kernel
theorem dX3_surcharge_40 : decode cX3_surcharge 40 = .ok (.if_icmp .ne 8, 3) := by decide +kernel
theorem dX3_surcharge_43 : decode cX3_surcharge 43 = .ok (.aload_n 2, 1) := by decide +kernel
theorem dX3_surcharge_44 : decode cX3_surcharge 44 = .ok (.invokevirtual 104, 3) := by decide +kernel
theorem dX3_surcharge_47 : decode cX3_surcharge 47 = .ok (.lreturn, 1) := by decide +kernel
theorem dX3_surcharge_48 : decode cX3_surcharge 48 = .ok (.aload_n 2, 1) := by decide +kernel
theorem dX3_surcharge_49 : decode cX3_surcharge 49 = .ok (.invokevirtual 104, 3) := by decide +kernel
theorem dX3_surcharge_52 : decode cX3_surcharge 52 = .ok (.aload_n 2, 1) := by decide +kernel
theorem dX3_surcharge_53 : decode cX3_surcharge 53 = .ok (.getfield 69, 3) := by decide +kernel
theorem dX3_surcharge_56 : decode cX3_surcharge 56 = .ok (.invokestatic 46, 3) := by decide +kernel
theorem dX3_surcharge_59 : decode cX3_surcharge 59 = .ok (.i2l, 1) := by decide +kernel
theorem dX3_surcharge_60 : decode cX3_surcharge 60 = .ok (.lmul, 1) := by decide +kernel
theorem dX3_surcharge_61 : decode cX3_surcharge 61 = .ok (.aload_n 2, 1) := by decide +kernel
theorem dX3_surcharge_62 : decode cX3_surcharge 62 = .ok (.getfield 66, 3) := by decide +kernel
theorem dX3_surcharge_65 : decode cX3_surcharge 65 = .ok (.i2l, 1) := by decide +kernel
theorem dX3_surcharge_66 : decode cX3_surcharge 66 = .ok (.ladd, 1) := by decide +kernel
theorem dX3_surcharge_67 : decode cX3_surcharge 67 = .ok (.lconst 1, 1) := by decide +kernel
theorem dX3_surcharge_68 : decode cX3_surcharge 68 = .ok (.lsub, 1) := by decide +kernel
theorem dX3_surcharge_69 : decode cX3_surcharge 69 = .ok (.aload_n 2, 1) := by decide +kernel
theorem dX3_surcharge_70 : decode cX3_surcharge 70 = .ok (.getfield 66, 3) := by decide +kernel
theorem dX3_surcharge_73 : decode cX3_surcharge 73 = .ok (.i2l, 1) := by decide +kernel
theorem dX3_surcharge_74 : decode cX3_surcharge 74 = .ok (.ldiv, 1) := by decide +kernel
theorem dX3_surcharge_75 : decode cX3_surcharge 75 = .ok (.lreturn, 1) := by decide +kernel
theorem dX3_bound_0 : decode cX3_bound 0 = .ok (.iload_n 1, 1) := by decide +kernel
theorem dX3_bound_1 : decode cX3_bound 1 = .ok (.sipush 500, 3) := by decide +kernel
theorem dX3_bound_4 : decode cX3_bound 4 = .ok (.if_icmp .lt 10, 3) := by decide +kernel
theorem dX3_bound_7 : decode cX3_bound 7 = .ok (.iload_n 1, 1) := by decide +kernel
theorem dX3_bound_8 : decode cX3_bound 8 = .ok (.sipush 999, 3) := by decide +kernel
theorem dX3_bound_11 : decode cX3_bound 11 = .ok (.if_icmp .le 5, 3) := by decide +kernel
theorem dX3_bound_14 : decode cX3_bound 14 = .ok (.iconst 0, 1) := by decide +kernel
theorem dX3_bound_15 : decode cX3_bound 15 = .ok (.ireturn, 1) := by decide +kernel
theorem dX3_bound_16 : decode cX3_bound 16 = .ok (.aload_n 0, 1) := by decide +kernel
theorem dX3_bound_17 : decode cX3_bound 17 = .ok (.iload_n 1, 1) := by decide +kernel
theorem dX3_bound_18 : decode cX3_bound 18 = .ok (.putfield 29, 3) := by decide +kernel
theorem dX3_bound_21 : decode cX3_bound 21 = .ok (.iconst 1, 1) := by decide +kernel
theorem dX3_bound_22 : decode cX3_bound 22 = .ok (.ireturn, 1) := by decide +kernel
theorem dX3_find_0 : decode cX3_find 0 = .ok (.iload_n 1, 1) := by decide +kernel
theorem dX3_find_1 : decode cX3_find 1 = .ok (.iconst 1, 1) := by decide +kernel
theorem dX3_find_2 : decode cX3_find 2 = .ok (.if_icmp .lt 9, 3) := by decide +kernel
theorem dX3_find_5 : decode cX3_find 5 = .ok (.iload_n 1, 1) := by decide +kernel
theorem dX3_find_6 : decode cX3_find 6 = .ok (.bipush 20, 2) := by decide +kernel
theorem dX3_find_8 : decode cX3_find 8 = .ok (.if_icmp .le 5, 3) := by decide +kernel
theorem dX3_find_11 : decode cX3_find 11 = .ok (.aconst_null, 1) := by decide +kernel
theorem dX3_find_12 : decode cX3_find 12 = .ok (.areturn, 1) := by decide +kernel
theorem dX3_find_13 : decode cX3_find 13 = .ok (.aload_n 0, 1) := by decide +kernel
theorem dX3_find_14 : decode cX3_find 14 = .ok (.getfield 11, 3) := by decide +kernel
theorem dX3_find_17 : decode cX3_find 17 = .ok (.iload_n 1, 1) := by decide +kernel
theorem dX3_find_18 : decode cX3_find 18 = .ok (.iconst 1, 1) := by decide +kernel
theorem dX3_find_19 : decode cX3_find 19 = .ok (.isub, 1) := by decide +kernel
theorem dX3_find_20 : decode cX3_find 20 = .ok (.aaload, 1) := by decide +kernel
theorem dX3_find_21 : decode cX3_find 21 = .ok (.areturn, 1) := by decide +kernel
set_option maxRecDepth 20000 in
theorem ggX3_judge_X3_sum : GoodIn wsX3_judge wsX3_sum := goodIn_r _ [9] (by decide +kernel) (by decide +kernel)
set_option maxRecDepth 20000 in
theorem gX3_judge_X3_sum : GoodIn wsX3_judge (va_wsS RX3 46 yX3_sum wsX3_sum) := goodIn_app (goodIn_of _ (by decide +kernel)) ggX3_judge_X3_sum
set_option maxRecDepth 20000 in
theorem ggX3_judge_X1_weigh : GoodIn wsX3_judge wsX1_weigh := goodIn_r _ [14, 15, 16, 17, 18, 19, 20, 21, 22, 23, 24, 25, 26, 27, 28, 29, 30, 31, 32, 33, 34, 35, 36, 37, 38, 39, 40, 41, 42, 43, 44, 45, 46, 47, 48, 49, 50, 51, 71, 72, 73, 74] (by decide +kernel) (by decide +kernel)
set_option maxRecDepth 20000 in
theorem gX3_judge_X1_weigh : GoodIn wsX3_judge (wsV RX3 78 RX1 yX1_weigh wsX1_weigh) := goodIn_app (goodIn_of _ (by decide +kernel)) ggX3_judge_X1_weigh
set_option maxRecDepth 20000 in
theorem ggX3_judge_X1_isAtMost : GoodIn wsX3_judge wsX1_isAtMost := goodIn_r _ [55, 24, 22, 50, 37, 38, 28, 39, 35, 40, 56, 57, 58, 59, 71, 72, 73, 74] (by decide +kernel) (by decide +kernel)
set_option maxRecDepth 20000 in
theorem gX3_judge_X1_isAtMost : GoodIn wsX3_judge (wsV RX3 107 RX1 yX1_isAtMost wsX1_isAtMost) := goodIn_app (goodIn_of _ (by decide +kernel)) ggX3_judge_X1_isAtMost
theorem dX3_judge_0 : decode cX3_judge 0 = .ok (.aload_n 1, 1) := by decide +kernel
theorem dX3_judge_1 : decode cX3_judge 1 = .ok (.getfield 50, 3) := by decide +kernel
theorem dX3_judge_4 : decode cX3_judge 4 = .ok (.bipush 20, 2) := by decide +kernel
theorem dX3_judge_6 : decode cX3_judge 6 = .ok (.idiv, 1) := by decide +kernel
theorem dX3_judge_7 : decode cX3_judge 7 = .ok (.istore_n 2, 1) := by decide +kernel
theorem dX3_judge_8 : decode cX3_judge 8 = .ok (.aload_n 1, 1) := by decide +kernel
theorem dX3_judge_9 : decode cX3_judge 9 = .ok (.getfield 69, 3) := by decide +kernel
theorem dX3_judge_12 : decode cX3_judge 12 = .ok (.invokestatic 46, 3) := by decide +kernel
theorem dX3_judge_15 : decode cX3_judge 15 = .ok (.istore_n 3, 1) := by decide +kernel
theorem dX3_judge_16 : decode cX3_judge 16 = .ok (.aload_n 0, 1) := by decide +kernel
theorem dX3_judge_17 : decode cX3_judge 17 = .ok (.getfield 25, 3) := by decide +kernel
theorem dX3_judge_20 : decode cX3_judge 20 = .ok (.aload_n 1, 1) := by decide +kernel
theorem dX3_judge_21 : decode cX3_judge 21 = .ok (.getfield 50, 3) := by decide +kernel
theorem dX3_judge_24 : decode cX3_judge 24 = .ok (.iload_n 2, 1) := by decide +kernel
theorem dX3_judge_25 : decode cX3_judge 25 = .ok (.iconst 1, 1) := by decide +kernel
theorem dX3_judge_26 : decode cX3_judge 26 = .ok (.iadd, 1) := by decide +kernel
theorem dX3_judge_27 : decode cX3_judge 27 = .ok (.aload_n 1, 1) := by decide +kernel
theorem dX3_judge_28 : decode cX3_judge 28 = .ok (.getfield 66, 3) := by decide +kernel
theorem dX3_judge_31 : decode cX3_judge 31 = .ok (.iload_n 3, 1) := by decide +kernel
theorem dX3_judge_32 : decode cX3_judge 32 = .ok (.iconst 0, 1) := by decide +kernel
theorem dX3_judge_33 : decode cX3_judge 33 = .ok (.invokevirtual 78, 3) := by decide +kernel
theorem dX3_judge_36 : decode cX3_judge 36 = .ok (.aload_n 0, 1) := by decide +kernel
theorem dX3_judge_37 : decode cX3_judge 37 = .ok (.getfield 25, 3) := by decide +kernel
theorem dX3_judge_40 : decode cX3_judge 40 = .ok (.sipush 1000, 3) := by decide +kernel
theorem dX3_judge_43 : decode cX3_judge 43 = .ok (.aload_n 0, 1) := by decide +kernel
theorem dX3_judge_44 : decode cX3_judge 44 = .ok (.getfield 29, 3) := by decide +kernel
theorem dX3_judge_47 : decode cX3_judge 47 = .ok (.isub, 1) := by decide +kernel
theorem dX3_judge_48 : decode cX3_judge 48 = .ok (.invokevirtual 107, 3) := by decide +kernel
theorem dX3_judge_51 : decode cX3_judge 51 = .ok (.ifCond .eq 5, 3) := by decide +kernel
theorem dX3_judge_54 : decode cX3_judge 54 = .ok (.iconst 1, 1) := by decide +kernel
theorem dX3_judge_55 : decode cX3_judge 55 = .ok (.ireturn, 1) := by decide +kernel
theorem dX3_judge_56 : decode cX3_judge 56 = .ok (.aload_n 0, 1) := by decide +kernel
theorem dX3_judge_57 : decode cX3_judge 57 = .ok (.getfield 25, 3) := by decide +kernel
theorem dX3_judge_60 : decode cX3_judge 60 = .ok (.aload_n 1, 1) := by decide +kernel
theorem dX3_judge_61 : decode cX3_judge 61 = .ok (.getfield 50, 3) := by decide +kernel
theorem dX3_judge_64 : decode cX3_judge 64 = .ok (.iload_n 2, 1) := by decide +kernel
theorem dX3_judge_65 : decode cX3_judge 65 = .ok (.aload_n 1, 1) := by decide +kernel
theorem dX3_judge_66 : decode cX3_judge 66 = .ok (.getfield 66, 3) := by decide +kernel
theorem dX3_judge_69 : decode cX3_judge 69 = .ok (.iload_n 3, 1) := by decide +kernel
theorem dX3_judge_70 : decode cX3_judge 70 = .ok (.iconst 1, 1) := by decide +kernel
theorem dX3_judge_71 : decode cX3_judge 71 = .ok (.invokevirtual 78, 3) := by decide +kernel
theorem dX3_judge_74 : decode cX3_judge 74 = .ok (.aload_n 0, 1) := by decide +kernel
theorem dX3_judge_75 : decode cX3_judge 75 = .ok (.getfield 25, 3) := by decide +kernel
theorem dX3_judge_78 : decode cX3_judge 78 = .ok (.sipush 1000, 3) := by decide +kernel
theorem dX3_judge_81 : decode cX3_judge 81 = .ok (.aload_n 0, 1) := by decide +kernel
theorem dX3_judge_82 : decode cX3_judge 82 = .ok (.getfield 29, 3) := by decide +kernel
theorem dX3_judge_85 : decode cX3_judge 85 = .ok (.isub, 1) := by decide +kernel
theorem dX3_judge_86 : decode cX3_judge 86 = .ok (.invokevirtual 107, 3) := by decide +kernel
theorem dX3_judge_89 : decode cX3_judge 89 = .ok (.ifCond .eq 7, 3) := by decide +kernel
theorem dX3_judge_92 : decode cX3_judge 92 = .ok (.iconst 3, 1) := by decide +kernel
theorem dX3_judge_93 : decode cX3_judge 93 = .ok (.goto 4, 3) := by decide +kernel
theorem dX3_judge_96 : decode cX3_judge 96 = .ok (.iconst 2, 1) := by decide +kernel
theorem dX3_judge_97 : decode cX3_judge 97 = .ok (.ireturn, 1) := by decide +kernel
theorem dX3_sum_0 : decode cX3_sum 0 = .ok (.iconst 0, 1) := by decide +kernel
theorem dX3_sum_1 : decode cX3_sum 1 = .ok (.istore_n 1, 1) := by decide +kernel
theorem dX3_sum_2 : decode cX3_sum 2 = .ok (.iconst 0, 1) := by decide +kernel
theorem dX3_sum_3 : decode cX3_sum 3 = .ok (.istore_n 2, 1) := by decide +kernel
theorem dX3_sum_4 : decode cX3_sum 4 = .ok (.iload_n 2, 1) := by decide +kernel
theorem dX3_sum_5 : decode cX3_sum 5 = .ok (.aload_n 0, 1) := by decide +kernel
theorem dX3_sum_6 : decode cX3_sum 6 = .ok (.arraylength, 1) := by decide +kernel
theorem dX3_sum_7 : decode cX3_sum 7 = .ok (.if_icmp .ge 15, 3) := by decide +kernel
theorem dX3_sum_10 : decode cX3_sum 10 = .ok (.iload_n 1, 1) := by decide +kernel
theorem dX3_sum_11 : decode cX3_sum 11 = .ok (.aload_n 0, 1) := by decide +kernel
theorem dX3_sum_12 : decode cX3_sum 12 = .ok (.iload_n 2, 1) := by decide +kernel
theorem dX3_sum_13 : decode cX3_sum 13 = .ok (.iaload, 1) := by decide +kernel
theorem dX3_sum_14 : decode cX3_sum 14 = .ok (.iadd, 1) := by decide +kernel
theorem dX3_sum_15 : decode cX3_sum 15 = .ok (.istore_n 1, 1) := by decide +kernel
theorem dX3_sum_16 : decode cX3_sum 16 = .ok (.iinc 2 1, 3) := by decide +kernel
theorem dX3_sum_19 : decode cX3_sum 19 = .ok (.goto (-15), 3) := by decide +kernel
theorem dX3_sum_22 : decode cX3_sum 22 = .ok (.iload_n 1, 1) := by decide +kernel
theorem dX3_sum_23 : decode cX3_sum 23 = .ok (.ireturn, 1) := by decide +kernel
theorem dX4_init_0 : decode cX4_init 0 = .ok (.aload_n 0, 1) := by decide +kernel
theorem dX4_init_1 : decode cX4_init 1 = .ok (.invokespecial 1, 3) := by decide +kernel
theorem dX4_init_4 : decode cX4_init 4 = .ok (.aload_n 0, 1) := by decide +kernel
theorem dX4_init_5 : decode cX4_init 5 = .ok (.bipush 21, 2) := by decide +kernel
theorem dX4_init_7 : decode cX4_init 7 = .ok (.newarray .int, 2) := by decide +kernel
theorem dX4_init_9 : decode cX4_init 9 = .ok (.putfield 7, 3) := by decide +kernel
theorem dX4_init_12 : decode cX4_init 12 = .ok (.aload_n 0, 1) := by decide +kernel
theorem dX4_init_13 : decode cX4_init 13 = .ok (.bipush 84, 2) := by decide +kernel
theorem dX4_init_15 : decode cX4_init 15 = .ok (.newarray .int, 2) := by decide +kernel
theorem dX4_init_17 : decode cX4_init 17 = .ok (.putfield 13, 3) := by decide +kernel
theorem dX4_init_20 : decode cX4_init 20 = .ok (.aload_n 0, 1) := by decide +kernel
theorem dX4_init_21 : decode cX4_init 21 = .ok (.bipush 21, 2) := by decide +kernel
theorem dX4_init_23 : decode cX4_init 23 = .ok (.newarray .int, 2) := by decide +kernel
theorem dX4_init_25 : decode cX4_init 25 = .ok (.putfield 16, 3) := by decide +kernel
theorem dX4_init_28 : decode cX4_init 28 = .ok (.aload_n 0, 1) := by decide +kernel
theorem dX4_init_29 : decode cX4_init 29 = .ok (.bipush 63, 2) := by decide +kernel
theorem dX4_init_31 : decode cX4_init 31 = .ok (.newarray .int, 2) := by decide +kernel
theorem dX4_init_33 : decode cX4_init 33 = .ok (.putfield 19, 3) := by decide +kernel
theorem dX4_init_36 : decode cX4_init 36 = .ok (.aload_n 0, 1) := by decide +kernel
theorem dX4_init_37 : decode cX4_init 37 = .ok (.sipush 950, 3) := by decide +kernel
theorem dX4_init_40 : decode cX4_init 40 = .ok (.putfield 22, 3) := by decide +kernel
theorem dX4_init_43 : decode cX4_init 43 = .ok (.aload_n 0, 1) := by decide +kernel
theorem dX4_init_44 : decode cX4_init 44 = .ok (.bipush 50, 2) := by decide +kernel
theorem dX4_init_46 : decode cX4_init 46 = .ok (.newarray .int, 2) := by decide +kernel
theorem dX4_init_48 : decode cX4_init 48 = .ok (.putfield 26, 3) := by decide +kernel
theorem dX4_init_51 : decode cX4_init 51 = .ok (.aload_n 0, 1) := by decide +kernel
theorem dX4_init_52 : decode cX4_init 52 = .ok (.bipush 50, 2) := by decide +kernel
theorem dX4_init_54 : decode cX4_init 54 = .ok (.newarray .int, 2) := by decide +kernel
theorem dX4_init_56 : decode cX4_init 56 = .ok (.putfield 29, 3) := by decide +kernel
theorem dX4_init_59 : decode cX4_init 59 = .ok (.aload_n 0, 1) := by decide +kernel
theorem dX4_init_60 : decode cX4_init 60 = .ok (.sipush 9696, 3) := by decide +kernel
theorem dX4_init_63 : decode cX4_init 63 = .ok (.newarray .long, 2) := by decide +kernel
theorem dX4_init_65 : decode cX4_init 65 = .ok (.putfield 32, 3) := by decide +kernel
theorem dX4_init_68 : decode cX4_init 68 = .ok (.aload_n 0, 1) := by decide +kernel
theorem dX4_init_69 : decode cX4_init 69 = .ok (.bipush 48, 2) := by decide +kernel
theorem dX4_init_71 : decode cX4_init 71 = .ok (.newarray .long, 2) := by decide +kernel
theorem dX4_init_73 : decode cX4_init 73 = .ok (.putfield 36, 3) := by decide +kernel
theorem dX4_init_76 : decode cX4_init 76 = .ok (.aload_n 0, 1) := by decide +kernel
theorem dX4_init_77 : decode cX4_init 77 = .ok (.bipush 48, 2) := by decide +kernel
theorem dX4_init_79 : decode cX4_init 79 = .ok (.newarray .long, 2) := by decide +kernel
theorem dX4_init_81 : decode cX4_init 81 = .ok (.putfield 39, 3) := by decide +kernel
theorem dX4_init_84 : decode cX4_init 84 = .ok (.aload_n 0, 1) := by decide +kernel
theorem dX4_init_85 : decode cX4_init 85 = .ok (.bipush 48, 2) := by decide +kernel
theorem dX4_init_87 : decode cX4_init 87 = .ok (.newarray .long, 2) := by decide +kernel
theorem dX4_init_89 : decode cX4_init 89 = .ok (.putfield 42, 3) := by decide +kernel
theorem dX4_init_92 : decode cX4_init 92 = .ok (.aload_n 0, 1) := by decide +kernel
theorem dX4_init_93 : decode cX4_init 93 = .ok (.bipush 48, 2) := by decide +kernel
theorem dX4_init_95 : decode cX4_init 95 = .ok (.newarray .long, 2) := by decide +kernel
theorem dX4_init_97 : decode cX4_init 97 = .ok (.putfield 45, 3) := by decide +kernel
theorem dX4_init_100 : decode cX4_init 100 = .ok (.iconst 0, 1) := by decide +kernel
theorem dX4_init_101 : decode cX4_init 101 = .ok (.istore_n 1, 1) := by decide +kernel
theorem dX4_init_102 : decode cX4_init 102 = .ok (.iload_n 1, 1) := by decide +kernel
theorem dX4_init_103 : decode cX4_init 103 = .ok (.bipush 50, 2) := by decide +kernel
theorem dX4_init_105 : decode cX4_init 105 = .ok (.if_icmp .ge 17, 3) := by decide +kernel
theorem dX4_init_108 : decode cX4_init 108 = .ok (.aload_n 0, 1) := by decide +kernel
theorem dX4_init_109 : decode cX4_init 109 = .ok (.getfield 26, 3) := by decide +kernel
theorem dX4_init_112 : decode cX4_init 112 = .ok (.iload_n 1, 1) := by decide +kernel
theorem dX4_init_113 : decode cX4_init 113 = .ok (.bipush 20, 2) := by decide +kernel
theorem dX4_init_115 : decode cX4_init 115 = .ok (.iastore, 1) := by decide +kernel
theorem dX4_init_116 : decode cX4_init 116 = .ok (.iinc 1 1, 3) := by decide +kernel
theorem dX4_init_119 : decode cX4_init 119 = .ok (.goto (-17), 3) := by decide +kernel
theorem dX4_init_122 : decode cX4_init 122 = .ok (.return_, 1) := by decide +kernel
theorem dX4_thrown_0 : decode cX4_thrown 0 = .ok (.aload_n 0, 1) := by decide +kernel
theorem dX4_thrown_1 : decode cX4_thrown 1 = .ok (.getfield 48, 3) := by decide +kernel
theorem dX4_thrown_4 : decode cX4_thrown 4 = .ok (.ireturn, 1) := by decide +kernel
theorem dX4_isMailing_0 : decode cX4_isMailing 0 = .ok (.iload_n 1, 1) := by decide +kernel
theorem dX4_isMailing_1 : decode cX4_isMailing 1 = .ok (.ifCond .le 15, 3) := by decide +kernel
theorem dX4_isMailing_4 : decode cX4_isMailing 4 = .ok (.iload_n 1, 1) := by decide +kernel
theorem dX4_isMailing_5 : decode cX4_isMailing 5 = .ok (.aload_n 0, 1) := by decide +kernel
theorem dX4_isMailing_6 : decode cX4_isMailing 6 = .ok (.getfield 51, 3) := by decide +kernel
theorem dX4_isMailing_9 : decode cX4_isMailing 9 = .ok (.if_icmp .gt 7, 3) := by decide +kernel
theorem dX4_isMailing_12 : decode cX4_isMailing 12 = .ok (.iconst 1, 1) := by decide +kernel
theorem dX4_isMailing_13 : decode cX4_isMailing 13 = .ok (.goto 4, 3) := by decide +kernel
theorem dX4_isMailing_16 : decode cX4_isMailing 16 = .ok (.iconst 0, 1) := by decide +kernel
theorem dX4_isMailing_17 : decode cX4_isMailing 17 = .ok (.ireturn, 1) := by decide +kernel
theorem dX4_mailing_0 : decode cX4_mailing 0 = .ok (.aload_n 0, 1) := by decide +kernel
theorem dX4_mailing_1 : decode cX4_mailing 1 = .ok (.iconst 0, 1) := by decide +kernel
theorem dX4_mailing_2 : decode cX4_mailing 2 = .ok (.putfield 48, 3) := by decide +kernel
theorem dX4_mailing_5 : decode cX4_mailing 5 = .ok (.iload_n 1, 1) := by decide +kernel
theorem dX4_mailing_6 : decode cX4_mailing 6 = .ok (.ifCond .lt 10, 3) := by decide +kernel
theorem dX4_mailing_9 : decode cX4_mailing 9 = .ok (.iload_n 1, 1) := by decide +kernel
theorem dX4_mailing_10 : decode cX4_mailing 10 = .ok (.sipush 200, 3) := by decide +kernel
theorem dX4_mailing_13 : decode cX4_mailing 13 = .ok (.if_icmp .le 6, 3) := by decide +kernel
theorem dX4_mailing_16 : decode cX4_mailing 16 = .ok (.bipush (-12), 2) := by decide +kernel
theorem dX4_mailing_18 : decode cX4_mailing 18 = .ok (.ireturn, 1) := by decide +kernel
theorem dX4_mailing_19 : decode cX4_mailing 19 = .ok (.iload_n 1, 1) := by decide +kernel
theorem dX4_mailing_20 : decode cX4_mailing 20 = .ok (.ifCond .ne 5, 3) := by decide +kernel
theorem dX4_mailing_23 : decode cX4_mailing 23 = .ok (.iconst 0, 1) := by decide +kernel
theorem dX4_mailing_24 : decode cX4_mailing 24 = .ok (.ireturn, 1) := by decide +kernel
theorem dX4_mailing_25 : decode cX4_mailing 25 = .ok (.aload_n 0, 1) := by decide +kernel
theorem dX4_mailing_26 : decode cX4_mailing 26 = .ok (.getfield 51, 3) := by decide +kernel
theorem dX4_mailing_29 : decode cX4_mailing 29 = .ok (.bipush 20, 2) := by decide +kernel
theorem dX4_mailing_31 : decode cX4_mailing 31 = .ok (.if_icmp .ne 6, 3) := by decide +kernel
theorem dX4_mailing_34 : decode cX4_mailing 34 = .ok (.bipush (-14), 2) := by decide +kernel
theorem dX4_mailing_36 : decode cX4_mailing 36 = .ok (.ireturn, 1) := by decide +kernel
theorem dX4_mailing_37 : decode cX4_mailing 37 = .ok (.aload_n 0, 1) := by decide +kernel
theorem dX4_mailing_38 : decode cX4_mailing 38 = .ok (.dup, 1) := by decide +kernel
theorem dX4_mailing_39 : decode cX4_mailing 39 = .ok (.getfield 51, 3) := by decide +kernel
theorem dX4_mailing_42 : decode cX4_mailing 42 = .ok (.iconst 1, 1) := by decide +kernel
theorem dX4_mailing_43 : decode cX4_mailing 43 = .ok (.iadd, 1) := by decide +kernel
theorem dX4_mailing_44 : decode cX4_mailing 44 = .ok (.putfield 51, 3) := by decide +kernel
theorem dX4_mailing_47 : decode cX4_mailing 47 = .ok (.aload_n 0, 1) := by decide +kernel
theorem dX4_mailing_48 : decode cX4_mailing 48 = .ok (.getfield 7, 3) := by decide +kernel
theorem dX4_mailing_51 : decode cX4_mailing 51 = .ok (.aload_n 0, 1) := by decide +kernel
theorem dX4_mailing_52 : decode cX4_mailing 52 = .ok (.getfield 51, 3) := by decide +kernel
theorem dX4_mailing_55 : decode cX4_mailing 55 = .ok (.iload_n 1, 1) := by decide +kernel
theorem dX4_mailing_56 : decode cX4_mailing 56 = .ok (.iastore, 1) := by decide +kernel
theorem dX4_mailing_57 : decode cX4_mailing 57 = .ok (.aload_n 0, 1) := by decide +kernel
theorem dX4_mailing_58 : decode cX4_mailing 58 = .ok (.getfield 51, 3) := by decide +kernel
theorem dX4_mailing_61 : decode cX4_mailing 61 = .ok (.ireturn, 1) := by decide +kernel
theorem dX4_declared_0 : decode cX4_declared 0 = .ok (.aload_n 0, 1) := by decide +kernel
theorem dX4_declared_1 : decode cX4_declared 1 = .ok (.getfield 13, 3) := by decide +kernel
theorem dX4_declared_4 : decode cX4_declared 4 = .ok (.iconst 4, 1) := by decide +kernel
theorem dX4_declared_5 : decode cX4_declared 5 = .ok (.iload_n 1, 1) := by decide +kernel
theorem dX4_declared_6 : decode cX4_declared 6 = .ok (.imul, 1) := by decide +kernel
theorem dX4_declared_7 : decode cX4_declared 7 = .ok (.iaload, 1) := by decide +kernel
theorem dX4_declared_8 : decode cX4_declared 8 = .ok (.aload_n 0, 1) := by decide +kernel
theorem dX4_declared_9 : decode cX4_declared 9 = .ok (.getfield 13, 3) := by decide +kernel
theorem dX4_declared_12 : decode cX4_declared 12 = .ok (.iconst 4, 1) := by decide +kernel
theorem dX4_declared_13 : decode cX4_declared 13 = .ok (.iload_n 1, 1) := by decide +kernel
theorem dX4_declared_14 : decode cX4_declared 14 = .ok (.imul, 1) := by decide +kernel
theorem dX4_declared_15 : decode cX4_declared 15 = .ok (.iconst 1, 1) := by decide +kernel
theorem dX4_declared_16 : decode cX4_declared 16 = .ok (.iadd, 1) := by decide +kernel
theorem dX4_declared_17 : decode cX4_declared 17 = .ok (.iaload, 1) := by decide +kernel
theorem dX4_declared_18 : decode cX4_declared 18 = .ok (.iadd, 1) := by decide +kernel
theorem dX4_declared_19 : decode cX4_declared 19 = .ok (.aload_n 0, 1) := by decide +kernel
theorem dX4_declared_20 : decode cX4_declared 20 = .ok (.getfield 13, 3) := by decide +kernel
theorem dX4_declared_23 : decode cX4_declared 23 = .ok (.iconst 4, 1) := by decide +kernel
theorem dX4_declared_24 : decode cX4_declared 24 = .ok (.iload_n 1, 1) := by decide +kernel
theorem dX4_declared_25 : decode cX4_declared 25 = .ok (.imul, 1) := by decide +kernel
theorem dX4_declared_26 : decode cX4_declared 26 = .ok (.iconst 2, 1) := by decide +kernel
theorem dX4_declared_27 : decode cX4_declared 27 = .ok (.iadd, 1) := by decide +kernel
theorem dX4_declared_28 : decode cX4_declared 28 = .ok (.iaload, 1) := by decide +kernel
theorem dX4_declared_29 : decode cX4_declared 29 = .ok (.iadd, 1) := by decide +kernel
theorem dX4_declared_30 : decode cX4_declared 30 = .ok (.aload_n 0, 1) := by decide +kernel
theorem dX4_declared_31 : decode cX4_declared 31 = .ok (.getfield 13, 3) := by decide +kernel
theorem dX4_declared_34 : decode cX4_declared 34 = .ok (.iconst 4, 1) := by decide +kernel
theorem dX4_declared_35 : decode cX4_declared 35 = .ok (.iload_n 1, 1) := by decide +kernel
theorem dX4_declared_36 : decode cX4_declared 36 = .ok (.imul, 1) := by decide +kernel
theorem dX4_declared_37 : decode cX4_declared 37 = .ok (.iconst 3, 1) := by decide +kernel
theorem dX4_declared_38 : decode cX4_declared 38 = .ok (.iadd, 1) := by decide +kernel
theorem dX4_declared_39 : decode cX4_declared 39 = .ok (.iaload, 1) := by decide +kernel
theorem dX4_declared_40 : decode cX4_declared 40 = .ok (.iadd, 1) := by decide +kernel
theorem dX4_declared_41 : decode cX4_declared 41 = .ok (.ireturn, 1) := by decide +kernel
set_option maxRecDepth 20000 in
theorem ggX4_depth_X4_isMailing : GoodIn wsX4_depth wsX4_isMailing := goodIn_r _ [9, 10, 15, 16, 17, 18, 19, 20, 21, 22, 23, 24, 25, 26, 27, 28, 29] (by decide +kernel) (by decide +kernel)
set_option maxRecDepth 20000 in
theorem gX4_depth_X4_isMailing : GoodIn wsX4_depth (wsV RX4 54 RX4 yX4_isMailing wsX4_isMailing) := goodIn_app (goodIn_of _ (by decide +kernel)) ggX4_depth_X4_isMailing
set_option maxRecDepth 20000 in
theorem ggX4_depth_X4_declared : GoodIn wsX4_depth wsX4_declared := goodIn_r _ [14, 2, 15, 16, 17, 18, 19, 20, 21, 22, 23, 24, 25, 26, 27, 28, 29] (by decide +kernel) (by decide +kernel)
set_option maxRecDepth 20000 in
theorem gX4_depth_X4_declared : GoodIn wsX4_depth (wsV RX4 58 RX4 yX4_declared wsX4_declared) := goodIn_app (goodIn_of _ (by decide +kernel)) ggX4_depth_X4_declared
theorem dX4_depth_0 : decode cX4_depth 0 = .ok (.aload_n 0, 1) := by decide +kernel
theorem dX4_depth_1 : decode cX4_depth 1 = .ok (.iconst 0, 1) := by decide +kernel
theorem dX4_depth_2 : decode cX4_depth 2 = .ok (.putfield 48, 3) := by decide +kernel
theorem dX4_depth_5 : decode cX4_depth 5 = .ok (.aload_n 0, 1) := by decide +kernel
theorem dX4_depth_6 : decode cX4_depth 6 = .ok (.iload_n 1, 1) := by decide +kernel
theorem dX4_depth_7 : decode cX4_depth 7 = .ok (.invokevirtual 54, 3) := by decide +kernel
theorem dX4_depth_10 : decode cX4_depth 10 = .ok (.ifCond .ne 6, 3) := by decide +kernel
theorem dX4_depth_13 : decode cX4_depth 13 = .ok (.bipush (-11), 2) := by decide +kernel
theorem dX4_depth_15 : decode cX4_depth 15 = .ok (.ireturn, 1) := by decide +kernel
theorem dX4_depth_16 : decode cX4_depth 16 = .ok (.iload_n 2, 1) := by decide +kernel
theorem dX4_depth_17 : decode cX4_depth 17 = .ok (.ifCond .lt 12, 3) := by decide +kernel
theorem dX4_depth_20 : decode cX4_depth 20 = .ok (.iload_n 2, 1) := by decide +kernel
theorem dX4_depth_21 : decode cX4_depth 21 = .ok (.iconst 3, 1) := by decide +kernel
theorem dX4_depth_22 : decode cX4_depth 22 = .ok (.if_icmp .gt 7, 3) := by decide +kernel
theorem dX4_depth_25 : decode cX4_depth 25 = .ok (.iload_n 3, 1) := by decide +kernel
theorem dX4_depth_26 : decode cX4_depth 26 = .ok (.ifCond .ge 6, 3) := by decide +kernel
theorem dX4_depth_29 : decode cX4_depth 29 = .ok (.bipush (-12), 2) := by decide +kernel
theorem dX4_depth_31 : decode cX4_depth 31 = .ok (.ireturn, 1) := by decide +kernel
theorem dX4_depth_32 : decode cX4_depth 32 = .ok (.aload_n 0, 1) := by decide +kernel
theorem dX4_depth_33 : decode cX4_depth 33 = .ok (.iload_n 1, 1) := by decide +kernel
theorem dX4_depth_34 : decode cX4_depth 34 = .ok (.invokevirtual 58, 3) := by decide +kernel
theorem dX4_depth_37 : decode cX4_depth 37 = .ok (.aload_n 0, 1) := by decide +kernel
theorem dX4_depth_38 : decode cX4_depth 38 = .ok (.getfield 13, 3) := by decide +kernel
theorem dX4_depth_41 : decode cX4_depth 41 = .ok (.iconst 4, 1) := by decide +kernel
theorem dX4_depth_42 : decode cX4_depth 42 = .ok (.iload_n 1, 1) := by decide +kernel
theorem dX4_depth_43 : decode cX4_depth 43 = .ok (.imul, 1) := by decide +kernel
theorem dX4_depth_44 : decode cX4_depth 44 = .ok (.iload_n 2, 1) := by decide +kernel
theorem dX4_depth_45 : decode cX4_depth 45 = .ok (.iadd, 1) := by decide +kernel
theorem dX4_depth_46 : decode cX4_depth 46 = .ok (.iaload, 1) := by decide +kernel
theorem dX4_depth_47 : decode cX4_depth 47 = .ok (.isub, 1) := by decide +kernel
theorem dX4_depth_48 : decode cX4_depth 48 = .ok (.istore 4, 2) := by decide +kernel
theorem dX4_depth_50 : decode cX4_depth 50 = .ok (.iload_n 3, 1) := by decide +kernel
theorem dX4_depth_51 : decode cX4_depth 51 = .ok (.aload_n 0, 1) := by decide +kernel
theorem dX4_depth_52 : decode cX4_depth 52 = .ok (.getfield 7, 3) := by decide +kernel
theorem dX4_depth_55 : decode cX4_depth 55 = .ok (.iload_n 1, 1) := by decide +kernel
theorem dX4_depth_56 : decode cX4_depth 56 = .ok (.iaload, 1) := by decide +kernel
theorem dX4_depth_57 : decode cX4_depth 57 = .ok (.iload 4, 2) := by decide +kernel
theorem dX4_depth_59 : decode cX4_depth 59 = .ok (.isub, 1) := by decide +kernel
theorem dX4_depth_60 : decode cX4_depth 60 = .ok (.if_icmp .le 6, 3) := by decide +kernel
theorem dX4_depth_63 : decode cX4_depth 63 = .ok (.bipush (-12), 2) := by decide +kernel
theorem dX4_depth_65 : decode cX4_depth 65 = .ok (.ireturn, 1) := by decide +kernel
theorem dX4_depth_66 : decode cX4_depth 66 = .ok (.aload_n 0, 1) := by decide +kernel
theorem dX4_depth_67 : decode cX4_depth 67 = .ok (.getfield 16, 3) := by decide +kernel
theorem dX4_depth_70 : decode cX4_depth 70 = .ok (.iload_n 1, 1) := by decide +kernel
theorem dX4_depth_71 : decode cX4_depth 71 = .ok (.iaload, 1) := by decide +kernel
theorem dX4_depth_72 : decode cX4_depth 72 = .ok (.ifCond .le 6, 3) := by decide +kernel
theorem dX4_depth_75 : decode cX4_depth 75 = .ok (.bipush (-13), 2) := by decide +kernel
theorem dX4_depth_77 : decode cX4_depth 77 = .ok (.ireturn, 1) := by decide +kernel
theorem dX4_depth_78 : decode cX4_depth 78 = .ok (.aload_n 0, 1) := by decide +kernel
theorem dX4_depth_79 : decode cX4_depth 79 = .ok (.getfield 13, 3) := by decide +kernel
theorem dX4_depth_82 : decode cX4_depth 82 = .ok (.iconst 4, 1) := by decide +kernel
theorem dX4_depth_83 : decode cX4_depth 83 = .ok (.iload_n 1, 1) := by decide +kernel
theorem dX4_depth_84 : decode cX4_depth 84 = .ok (.imul, 1) := by decide +kernel
theorem dX4_depth_85 : decode cX4_depth 85 = .ok (.iload_n 2, 1) := by decide +kernel
theorem dX4_depth_86 : decode cX4_depth 86 = .ok (.iadd, 1) := by decide +kernel
theorem dX4_depth_87 : decode cX4_depth 87 = .ok (.iload_n 3, 1) := by decide +kernel
theorem dX4_depth_88 : decode cX4_depth 88 = .ok (.iastore, 1) := by decide +kernel
theorem dX4_depth_89 : decode cX4_depth 89 = .ok (.iload 4, 2) := by decide +kernel
theorem dX4_depth_91 : decode cX4_depth 91 = .ok (.iload_n 3, 1) := by decide +kernel
theorem dX4_depth_92 : decode cX4_depth 92 = .ok (.iadd, 1) := by decide +kernel
theorem dX4_depth_93 : decode cX4_depth 93 = .ok (.ireturn, 1) := by decide +kernel
theorem dX4_tape_0 : decode cX4_tape 0 = .ok (.aload_n 0, 1) := by decide +kernel
theorem dX4_tape_1 : decode cX4_tape 1 = .ok (.iconst 0, 1) := by decide +kernel
theorem dX4_tape_2 : decode cX4_tape 2 = .ok (.putfield 48, 3) := by decide +kernel
theorem dX4_tape_5 : decode cX4_tape 5 = .ok (.aload_n 0, 1) := by decide +kernel
theorem dX4_tape_6 : decode cX4_tape 6 = .ok (.getfield 62, 3) := by decide +kernel
theorem dX4_tape_9 : decode cX4_tape 9 = .ok (.sipush 300, 3) := by decide +kernel
theorem dX4_tape_12 : decode cX4_tape 12 = .ok (.if_icmp .ge 13, 3) := by decide +kernel
theorem dX4_tape_15 : decode cX4_tape 15 = .ok (.aload_n 0, 1) := by decide +kernel
theorem dX4_tape_16 : decode cX4_tape 16 = .ok (.dup, 1) := by decide +kernel
theorem dX4_tape_17 : decode cX4_tape 17 = .ok (.getfield 62, 3) := by decide +kernel
theorem dX4_tape_20 : decode cX4_tape 20 = .ok (.iconst 1, 1) := by decide +kernel
theorem dX4_tape_21 : decode cX4_tape 21 = .ok (.iadd, 1) := by decide +kernel
theorem dX4_tape_22 : decode cX4_tape 22 = .ok (.putfield 62, 3) := by decide +kernel
theorem dX4_tape_25 : decode cX4_tape 25 = .ok (.return_, 1) := by decide +kernel
set_option maxRecDepth 20000 in
theorem ggX4_sample_X4_isMailing : GoodIn wsX4_sample wsX4_isMailing := goodIn_r _ [9, 10, 11, 12, 13, 14, 15, 16, 17, 18, 19, 20, 21, 22, 23, 24, 25] (by decide +kernel) (by decide +kernel)
set_option maxRecDepth 20000 in
theorem gX4_sample_X4_isMailing : GoodIn wsX4_sample (wsV RX4 54 RX4 yX4_isMailing wsX4_isMailing) := goodIn_app (goodIn_of _ (by decide +kernel)) ggX4_sample_X4_isMailing
theorem dX4_sample_0 : decode cX4_sample 0 = .ok (.aload_n 0, 1) := by decide +kernel
theorem dX4_sample_1 : decode cX4_sample 1 = .ok (.iconst 0, 1) := by decide +kernel
theorem dX4_sample_2 : decode cX4_sample 2 = .ok (.putfield 48, 3) := by decide +kernel
theorem dX4_sample_5 : decode cX4_sample 5 = .ok (.aload_n 0, 1) := by decide +kernel
theorem dX4_sample_6 : decode cX4_sample 6 = .ok (.iload_n 1, 1) := by decide +kernel
theorem dX4_sample_7 : decode cX4_sample 7 = .ok (.invokevirtual 54, 3) := by decide +kernel
theorem dX4_sample_10 : decode cX4_sample 10 = .ok (.ifCond .ne 6, 3) := by decide +kernel
theorem dX4_sample_13 : decode cX4_sample 13 = .ok (.bipush (-11), 2) := by decide +kernel
theorem dX4_sample_15 : decode cX4_sample 15 = .ok (.ireturn, 1) := by decide +kernel
theorem dX4_sample_16 : decode cX4_sample 16 = .ok (.iload_n 2, 1) := by decide +kernel
theorem dX4_sample_17 : decode cX4_sample 17 = .ok (.iconst 1, 1) := by decide +kernel
theorem dX4_sample_18 : decode cX4_sample 18 = .ok (.if_icmp .ge 6, 3) := by decide +kernel
theorem dX4_sample_21 : decode cX4_sample 21 = .ok (.bipush (-12), 2) := by decide +kernel
theorem dX4_sample_23 : decode cX4_sample 23 = .ok (.ireturn, 1) := by decide +kernel
theorem dX4_sample_24 : decode cX4_sample 24 = .ok (.aload_n 0, 1) := by decide +kernel
theorem dX4_sample_25 : decode cX4_sample 25 = .ok (.getfield 16, 3) := by decide +kernel
theorem dX4_sample_28 : decode cX4_sample 28 = .ok (.iload_n 1, 1) := by decide +kernel
theorem dX4_sample_29 : decode cX4_sample 29 = .ok (.iaload, 1) := by decide +kernel
theorem dX4_sample_30 : decode cX4_sample 30 = .ok (.ifCond .le 6, 3) := by decide +kernel
theorem dX4_sample_33 : decode cX4_sample 33 = .ok (.bipush (-13), 2) := by decide +kernel
theorem dX4_sample_35 : decode cX4_sample 35 = .ok (.ireturn, 1) := by decide +kernel
theorem dX4_sample_36 : decode cX4_sample 36 = .ok (.iload_n 2, 1) := by decide +kernel
theorem dX4_sample_37 : decode cX4_sample 37 = .ok (.aload_n 0, 1) := by decide +kernel
theorem dX4_sample_38 : decode cX4_sample 38 = .ok (.getfield 7, 3) := by decide +kernel
theorem dX4_sample_41 : decode cX4_sample 41 = .ok (.iload_n 1, 1) := by decide +kernel
theorem dX4_sample_42 : decode cX4_sample 42 = .ok (.iaload, 1) := by decide +kernel
theorem dX4_sample_43 : decode cX4_sample 43 = .ok (.if_icmp .le 12, 3) := by decide +kernel
theorem dX4_sample_46 : decode cX4_sample 46 = .ok (.aload_n 0, 1) := by decide +kernel
theorem dX4_sample_47 : decode cX4_sample 47 = .ok (.getfield 7, 3) := by decide +kernel
theorem dX4_sample_50 : decode cX4_sample 50 = .ok (.iload_n 1, 1) := by decide +kernel
theorem dX4_sample_51 : decode cX4_sample 51 = .ok (.iaload, 1) := by decide +kernel
theorem dX4_sample_52 : decode cX4_sample 52 = .ok (.goto 4, 3) := by decide +kernel
theorem dX4_sample_55 : decode cX4_sample 55 = .ok (.iload_n 2, 1) := by decide +kernel
theorem dX4_sample_56 : decode cX4_sample 56 = .ok (.istore_n 3, 1) := by decide +kernel
theorem dX4_sample_57 : decode cX4_sample 57 = .ok (.iload_n 3, 1) := by decide +kernel
theorem dX4_sample_58 : decode cX4_sample 58 = .ok (.aload_n 0, 1) := by decide +kernel
theorem dX4_sample_59 : decode cX4_sample 59 = .ok (.getfield 62, 3) := by decide +kernel
theorem dX4_sample_62 : decode cX4_sample 62 = .ok (.if_icmp .le 6, 3) := by decide +kernel
theorem dX4_sample_65 : decode cX4_sample 65 = .ok (.bipush (-14), 2) := by decide +kernel
theorem dX4_sample_67 : decode cX4_sample 67 = .ok (.ireturn, 1) := by decide +kernel
theorem dX4_sample_68 : decode cX4_sample 68 = .ok (.aload_n 0, 1) := by decide +kernel
theorem dX4_sample_69 : decode cX4_sample 69 = .ok (.aload_n 0, 1) := by decide +kernel
theorem dX4_sample_70 : decode cX4_sample 70 = .ok (.getfield 62, 3) := by decide +kernel
theorem dX4_sample_73 : decode cX4_sample 73 = .ok (.iload_n 3, 1) := by decide +kernel
theorem dX4_sample_74 : decode cX4_sample 74 = .ok (.isub, 1) := by decide +kernel
theorem dX4_sample_75 : decode cX4_sample 75 = .ok (.putfield 62, 3) := by decide +kernel
theorem dX4_sample_78 : decode cX4_sample 78 = .ok (.aload_n 0, 1) := by decide +kernel
theorem dX4_sample_79 : decode cX4_sample 79 = .ok (.getfield 16, 3) := by decide +kernel
theorem dX4_sample_82 : decode cX4_sample 82 = .ok (.iload_n 1, 1) := by decide +kernel
theorem dX4_sample_83 : decode cX4_sample 83 = .ok (.iload_n 3, 1) := by decide +kernel
theorem dX4_sample_84 : decode cX4_sample 84 = .ok (.iastore, 1) := by decide +kernel
theorem dX4_sample_85 : decode cX4_sample 85 = .ok (.iload_n 3, 1) := by decide +kernel
theorem dX4_sample_86 : decode cX4_sample 86 = .ok (.ireturn, 1) := by decide +kernel
theorem dX4_wrongOf_0 : decode cX4_wrongOf 0 = .ok (.aload_n 0, 1) := by decide +kernel
theorem dX4_wrongOf_1 : decode cX4_wrongOf 1 = .ok (.getfield 19, 3) := by decide +kernel
theorem dX4_wrongOf_4 : decode cX4_wrongOf 4 = .ok (.iconst 3, 1) := by decide +kernel
theorem dX4_wrongOf_5 : decode cX4_wrongOf 5 = .ok (.iload_n 1, 1) := by decide +kernel
theorem dX4_wrongOf_6 : decode cX4_wrongOf 6 = .ok (.imul, 1) := by decide +kernel
theorem dX4_wrongOf_7 : decode cX4_wrongOf 7 = .ok (.iaload, 1) := by decide +kernel
theorem dX4_wrongOf_8 : decode cX4_wrongOf 8 = .ok (.aload_n 0, 1) := by decide +kernel
theorem dX4_wrongOf_9 : decode cX4_wrongOf 9 = .ok (.getfield 19, 3) := by decide +kernel
theorem dX4_wrongOf_12 : decode cX4_wrongOf 12 = .ok (.iconst 3, 1) := by decide +kernel
theorem dX4_wrongOf_13 : decode cX4_wrongOf 13 = .ok (.iload_n 1, 1) := by decide +kernel
theorem dX4_wrongOf_14 : decode cX4_wrongOf 14 = .ok (.imul, 1) := by decide +kernel
theorem dX4_wrongOf_15 : decode cX4_wrongOf 15 = .ok (.iconst 1, 1) := by decide +kernel
theorem dX4_wrongOf_16 : decode cX4_wrongOf 16 = .ok (.iadd, 1) := by decide +kernel
theorem dX4_wrongOf_17 : decode cX4_wrongOf 17 = .ok (.iaload, 1) := by decide +kernel
theorem dX4_wrongOf_18 : decode cX4_wrongOf 18 = .ok (.iadd, 1) := by decide +kernel
theorem dX4_wrongOf_19 : decode cX4_wrongOf 19 = .ok (.aload_n 0, 1) := by decide +kernel
theorem dX4_wrongOf_20 : decode cX4_wrongOf 20 = .ok (.getfield 19, 3) := by decide +kernel
theorem dX4_wrongOf_23 : decode cX4_wrongOf 23 = .ok (.iconst 3, 1) := by decide +kernel
theorem dX4_wrongOf_24 : decode cX4_wrongOf 24 = .ok (.iload_n 1, 1) := by decide +kernel
theorem dX4_wrongOf_25 : decode cX4_wrongOf 25 = .ok (.imul, 1) := by decide +kernel
theorem dX4_wrongOf_26 : decode cX4_wrongOf 26 = .ok (.iconst 2, 1) := by decide +kernel
theorem dX4_wrongOf_27 : decode cX4_wrongOf 27 = .ok (.iadd, 1) := by decide +kernel
theorem dX4_wrongOf_28 : decode cX4_wrongOf 28 = .ok (.iaload, 1) := by decide +kernel
theorem dX4_wrongOf_29 : decode cX4_wrongOf 29 = .ok (.iadd, 1) := by decide +kernel
theorem dX4_wrongOf_30 : decode cX4_wrongOf 30 = .ok (.ireturn, 1) := by decide +kernel
set_option maxRecDepth 20000 in
theorem ggX4_wrong_X4_isMailing : GoodIn wsX4_wrong wsX4_isMailing := goodIn_r _ [8, 9, 14, 15, 16, 17, 18, 19, 20, 21, 22, 23, 24, 25, 26, 27, 28] (by decide +kernel) (by decide +kernel)
set_option maxRecDepth 20000 in
theorem gX4_wrong_X4_isMailing : GoodIn wsX4_wrong (wsV RX4 54 RX4 yX4_isMailing wsX4_isMailing) := goodIn_app (goodIn_of _ (by decide +kernel)) ggX4_wrong_X4_isMailing
set_option maxRecDepth 20000 in
theorem ggX4_wrong_X4_wrongOf : GoodIn wsX4_wrong wsX4_wrongOf := goodIn_r _ [13, 2, 14, 15, 16, 17, 18, 19, 20, 21, 22, 23, 24, 25, 26, 27, 28] (by decide +kernel) (by decide +kernel)
set_option maxRecDepth 20000 in
theorem gX4_wrong_X4_wrongOf : GoodIn wsX4_wrong (wsV RX4 65 RX4 yX4_wrongOf wsX4_wrongOf) := goodIn_app (goodIn_of _ (by decide +kernel)) ggX4_wrong_X4_wrongOf
theorem dX4_wrong_0 : decode cX4_wrong 0 = .ok (.aload_n 0, 1) := by decide +kernel
theorem dX4_wrong_1 : decode cX4_wrong 1 = .ok (.iconst 0, 1) := by decide +kernel
theorem dX4_wrong_2 : decode cX4_wrong 2 = .ok (.putfield 48, 3) := by decide +kernel
theorem dX4_wrong_5 : decode cX4_wrong 5 = .ok (.aload_n 0, 1) := by decide +kernel
theorem dX4_wrong_6 : decode cX4_wrong 6 = .ok (.iload_n 1, 1) := by decide +kernel
theorem dX4_wrong_7 : decode cX4_wrong 7 = .ok (.invokevirtual 54, 3) := by decide +kernel
theorem dX4_wrong_10 : decode cX4_wrong 10 = .ok (.ifCond .ne 6, 3) := by decide +kernel
theorem dX4_wrong_13 : decode cX4_wrong 13 = .ok (.bipush (-11), 2) := by decide +kernel
theorem dX4_wrong_15 : decode cX4_wrong 15 = .ok (.ireturn, 1) := by decide +kernel
theorem dX4_wrong_16 : decode cX4_wrong 16 = .ok (.iload_n 2, 1) := by decide +kernel
theorem dX4_wrong_17 : decode cX4_wrong 17 = .ok (.ifCond .lt 12, 3) := by decide +kernel
theorem dX4_wrong_20 : decode cX4_wrong 20 = .ok (.iload_n 2, 1) := by decide +kernel
theorem dX4_wrong_21 : decode cX4_wrong 21 = .ok (.iconst 2, 1) := by decide +kernel
theorem dX4_wrong_22 : decode cX4_wrong 22 = .ok (.if_icmp .gt 7, 3) := by decide +kernel
theorem dX4_wrong_25 : decode cX4_wrong 25 = .ok (.iload_n 3, 1) := by decide +kernel
theorem dX4_wrong_26 : decode cX4_wrong 26 = .ok (.ifCond .ge 6, 3) := by decide +kernel
theorem dX4_wrong_29 : decode cX4_wrong 29 = .ok (.bipush (-12), 2) := by decide +kernel
theorem dX4_wrong_31 : decode cX4_wrong 31 = .ok (.ireturn, 1) := by decide +kernel
theorem dX4_wrong_32 : decode cX4_wrong 32 = .ok (.aload_n 0, 1) := by decide +kernel
theorem dX4_wrong_33 : decode cX4_wrong 33 = .ok (.iload_n 1, 1) := by decide +kernel
theorem dX4_wrong_34 : decode cX4_wrong 34 = .ok (.invokevirtual 65, 3) := by decide +kernel
theorem dX4_wrong_37 : decode cX4_wrong 37 = .ok (.aload_n 0, 1) := by decide +kernel
theorem dX4_wrong_38 : decode cX4_wrong 38 = .ok (.getfield 19, 3) := by decide +kernel
theorem dX4_wrong_41 : decode cX4_wrong 41 = .ok (.iconst 3, 1) := by decide +kernel
theorem dX4_wrong_42 : decode cX4_wrong 42 = .ok (.iload_n 1, 1) := by decide +kernel
theorem dX4_wrong_43 : decode cX4_wrong 43 = .ok (.imul, 1) := by decide +kernel
theorem dX4_wrong_44 : decode cX4_wrong 44 = .ok (.iload_n 2, 1) := by decide +kernel
theorem dX4_wrong_45 : decode cX4_wrong 45 = .ok (.iadd, 1) := by decide +kernel
theorem dX4_wrong_46 : decode cX4_wrong 46 = .ok (.iaload, 1) := by decide +kernel
theorem dX4_wrong_47 : decode cX4_wrong 47 = .ok (.isub, 1) := by decide +kernel
theorem dX4_wrong_48 : decode cX4_wrong 48 = .ok (.istore 4, 2) := by decide +kernel
theorem dX4_wrong_50 : decode cX4_wrong 50 = .ok (.iload_n 3, 1) := by decide +kernel
theorem dX4_wrong_51 : decode cX4_wrong 51 = .ok (.aload_n 0, 1) := by decide +kernel
theorem dX4_wrong_52 : decode cX4_wrong 52 = .ok (.getfield 16, 3) := by decide +kernel
theorem dX4_wrong_55 : decode cX4_wrong 55 = .ok (.iload_n 1, 1) := by decide +kernel
theorem dX4_wrong_56 : decode cX4_wrong 56 = .ok (.iaload, 1) := by decide +kernel
theorem dX4_wrong_57 : decode cX4_wrong 57 = .ok (.iload 4, 2) := by decide +kernel
theorem dX4_wrong_59 : decode cX4_wrong 59 = .ok (.isub, 1) := by decide +kernel
theorem dX4_wrong_60 : decode cX4_wrong 60 = .ok (.if_icmp .le 6, 3) := by decide +kernel
theorem dX4_wrong_63 : decode cX4_wrong 63 = .ok (.bipush (-12), 2) := by decide +kernel
theorem dX4_wrong_65 : decode cX4_wrong 65 = .ok (.ireturn, 1) := by decide +kernel
theorem dX4_wrong_66 : decode cX4_wrong 66 = .ok (.aload_n 0, 1) := by decide +kernel
theorem dX4_wrong_67 : decode cX4_wrong 67 = .ok (.getfield 16, 3) := by decide +kernel
theorem dX4_wrong_70 : decode cX4_wrong 70 = .ok (.iload_n 1, 1) := by decide +kernel
theorem dX4_wrong_71 : decode cX4_wrong 71 = .ok (.iaload, 1) := by decide +kernel
theorem dX4_wrong_72 : decode cX4_wrong 72 = .ok (.ifCond .ne 6, 3) := by decide +kernel
theorem dX4_wrong_75 : decode cX4_wrong 75 = .ok (.bipush (-13), 2) := by decide +kernel
theorem dX4_wrong_77 : decode cX4_wrong 77 = .ok (.ireturn, 1) := by decide +kernel
theorem dX4_wrong_78 : decode cX4_wrong 78 = .ok (.aload_n 0, 1) := by decide +kernel
theorem dX4_wrong_79 : decode cX4_wrong 79 = .ok (.getfield 19, 3) := by decide +kernel
theorem dX4_wrong_82 : decode cX4_wrong 82 = .ok (.iconst 3, 1) := by decide +kernel
theorem dX4_wrong_83 : decode cX4_wrong 83 = .ok (.iload_n 1, 1) := by decide +kernel
theorem dX4_wrong_84 : decode cX4_wrong 84 = .ok (.imul, 1) := by decide +kernel
theorem dX4_wrong_85 : decode cX4_wrong 85 = .ok (.iload_n 2, 1) := by decide +kernel
theorem dX4_wrong_86 : decode cX4_wrong 86 = .ok (.iadd, 1) := by decide +kernel
theorem dX4_wrong_87 : decode cX4_wrong 87 = .ok (.iload_n 3, 1) := by decide +kernel
theorem dX4_wrong_88 : decode cX4_wrong 88 = .ok (.iastore, 1) := by decide +kernel
theorem dX4_wrong_89 : decode cX4_wrong 89 = .ok (.iload 4, 2) := by decide +kernel
theorem dX4_wrong_91 : decode cX4_wrong 91 = .ok (.iload_n 3, 1) := by decide +kernel
theorem dX4_wrong_92 : decode cX4_wrong 92 = .ok (.iadd, 1) := by decide +kernel
theorem dX4_wrong_93 : decode cX4_wrong 93 = .ok (.ireturn, 1) := by decide +kernel
theorem dX4_clear_0 : decode cX4_clear 0 = .ok (.iconst 0, 1) := by decide +kernel
theorem dX4_clear_1 : decode cX4_clear 1 = .ok (.istore_n 1, 1) := by decide +kernel
theorem dX4_clear_2 : decode cX4_clear 2 = .ok (.iload_n 1, 1) := by decide +kernel
theorem dX4_clear_3 : decode cX4_clear 3 = .ok (.bipush 48, 2) := by decide +kernel
theorem dX4_clear_5 : decode cX4_clear 5 = .ok (.if_icmp .ge 13, 3) := by decide +kernel
theorem dX4_clear_8 : decode cX4_clear 8 = .ok (.aload_n 0, 1) := by decide +kernel
theorem dX4_clear_9 : decode cX4_clear 9 = .ok (.iload_n 1, 1) := by decide +kernel
theorem dX4_clear_10 : decode cX4_clear 10 = .ok (.lconst 0, 1) := by decide +kernel
theorem dX4_clear_11 : decode cX4_clear 11 = .ok (.lastore, 1) := by decide +kernel
theorem dX4_clear_12 : decode cX4_clear 12 = .ok (.iinc 1 1, 3) := by decide +kernel
theorem dX4_clear_15 : decode cX4_clear 15 = .ok (.goto (-13), 3) := by decide +kernel
theorem dX4_clear_18 : decode cX4_clear 18 = .ok (.return_, 1) := by decide +kernel
theorem dX4_copy_0 : decode cX4_copy 0 = .ok (.iconst 0, 1) := by decide +kernel
theorem dX4_copy_1 : decode cX4_copy 1 = .ok (.istore_n 2, 1) := by decide +kernel
theorem dX4_copy_2 : decode cX4_copy 2 = .ok (.iload_n 2, 1) := by decide +kernel
theorem dX4_copy_3 : decode cX4_copy 3 = .ok (.bipush 48, 2) := by decide +kernel
theorem dX4_copy_5 : decode cX4_copy 5 = .ok (.if_icmp .ge 15, 3) := by decide +kernel
theorem dX4_copy_8 : decode cX4_copy 8 = .ok (.aload_n 1, 1) := by decide +kernel
theorem dX4_copy_9 : decode cX4_copy 9 = .ok (.iload_n 2, 1) := by decide +kernel
theorem dX4_copy_10 : decode cX4_copy 10 = .ok (.aload_n 0, 1) := by decide +kernel
theorem dX4_copy_11 : decode cX4_copy 11 = .ok (.iload_n 2, 1) := by decide +kernel
theorem dX4_copy_12 : decode cX4_copy 12 = .ok (.laload, 1) := by decide +kernel
theorem dX4_copy_13 : decode cX4_copy 13 = .ok (.lastore, 1) := by decide +kernel
theorem dX4_copy_14 : decode cX4_copy 14 = .ok (.iinc 2 1, 3) := by decide +kernel
theorem dX4_copy_17 : decode cX4_copy 17 = .ok (.goto (-15), 3) := by decide +kernel
theorem dX4_copy_20 : decode cX4_copy 20 = .ok (.return_, 1) := by decide +kernel
theorem dX4_multiply_0 : decode cX4_multiply 0 = .ok (.lconst 0, 1) := by decide +kernel
theorem dX4_multiply_1 : decode cX4_multiply 1 = .ok (.lstore_n 3, 1) := by decide +kernel
theorem dX4_multiply_2 : decode cX4_multiply 2 = .ok (.iconst 0, 1) := by decide +kernel
theorem dX4_multiply_3 : decode cX4_multiply 3 = .ok (.istore 5, 2) := by decide +kernel
theorem dX4_multiply_5 : decode cX4_multiply 5 = .ok (.iload 5, 2) := by decide +kernel
theorem dX4_multiply_7 : decode cX4_multiply 7 = .ok (.bipush 48, 2) := by decide +kernel
theorem dX4_multiply_9 : decode cX4_multiply 9 = .ok (.if_icmp .ge 33, 3) := by decide +kernel
theorem dX4_multiply_12 : decode cX4_multiply 12 = .ok (.lload_n 3, 1) := by decide +kernel
theorem dX4_multiply_13 : decode cX4_multiply 13 = .ok (.aload_n 0, 1) := by decide +kernel
theorem dX4_multiply_14 : decode cX4_multiply 14 = .ok (.iload 5, 2) := by decide +kernel
theorem dX4_multiply_16 : decode cX4_multiply 16 = .ok (.laload, 1) := by decide +kernel
theorem dX4_multiply_17 : decode cX4_multiply 17 = .ok (.lload_n 1, 1) := by decide +kernel
theorem dX4_multiply_18 : decode cX4_multiply 18 = .ok (.lmul, 1) := by decide +kernel
theorem dX4_multiply_19 : decode cX4_multiply 19 = .ok (.ladd, 1) := by decide +kernel
theorem dX4_multiply_20 : decode cX4_multiply 20 = .ok (.lstore_n 3, 1) := by decide +kernel
theorem dX4_multiply_21 : decode cX4_multiply 21 = .ok (.aload_n 0, 1) := by decide +kernel
theorem dX4_multiply_22 : decode cX4_multiply 22 = .ok (.iload 5, 2) := by decide +kernel
theorem dX4_multiply_24 : decode cX4_multiply 24 = .ok (.lload_n 3, 1) := by decide +kernel
theorem dX4_multiply_25 : decode cX4_multiply 25 = .ok (.ldc2_w 68, 3) := by decide +kernel
theorem dX4_multiply_28 : decode cX4_multiply 28 = .ok (.lrem, 1) := by decide +kernel
theorem dX4_multiply_29 : decode cX4_multiply 29 = .ok (.lastore, 1) := by decide +kernel
theorem dX4_multiply_30 : decode cX4_multiply 30 = .ok (.lload_n 3, 1) := by decide +kernel
theorem dX4_multiply_31 : decode cX4_multiply 31 = .ok (.ldc2_w 68, 3) := by decide +kernel
theorem dX4_multiply_34 : decode cX4_multiply 34 = .ok (.ldiv, 1) := by decide +kernel
theorem dX4_multiply_35 : decode cX4_multiply 35 = .ok (.lstore_n 3, 1) := by decide +kernel
theorem dX4_multiply_36 : decode cX4_multiply 36 = .ok (.iinc 5 1, 3) := by decide +kernel
theorem dX4_multiply_39 : decode cX4_multiply 39 = .ok (.goto (-34), 3) := by decide +kernel
theorem dX4_multiply_42 : decode cX4_multiply 42 = .ok (.return_, 1) := by decide +kernel
theorem dX4_isWithin_0 : decode cX4_isWithin 0 = .ok (.bipush 47, 2) := by decide +kernel
theorem dX4_isWithin_2 : decode cX4_isWithin 2 = .ok (.istore_n 2, 1) := by decide +kernel
theorem dX4_isWithin_3 : decode cX4_isWithin 3 = .ok (.iload_n 2, 1) := by decide +kernel
theorem dX4_isWithin_4 : decode cX4_isWithin 4 = .ok (.ifCond .le 19, 3) := by decide +kernel
theorem dX4_isWithin_7 : decode cX4_isWithin 7 = .ok (.aload_n 0, 1) := by decide +kernel
theorem dX4_isWithin_8 : decode cX4_isWithin 8 = .ok (.iload_n 2, 1) := by decide +kernel
theorem dX4_isWithin_9 : decode cX4_isWithin 9 = .ok (.laload, 1) := by decide +kernel
theorem dX4_isWithin_10 : decode cX4_isWithin 10 = .ok (.aload_n 1, 1) := by decide +kernel
theorem dX4_isWithin_11 : decode cX4_isWithin 11 = .ok (.iload_n 2, 1) := by decide +kernel
theorem dX4_isWithin_12 : decode cX4_isWithin 12 = .ok (.laload, 1) := by decide +kernel
theorem dX4_isWithin_13 : decode cX4_isWithin 13 = .ok (.lcmp, 1) := by decide +kernel
theorem dX4_isWithin_14 : decode cX4_isWithin 14 = .ok (.ifCond .ne 9, 3) := by decide +kernel
theorem dX4_isWithin_17 : decode cX4_isWithin 17 = .ok (.iinc 2 (-1), 3) := by decide +kernel
theorem dX4_isWithin_20 : decode cX4_isWithin 20 = .ok (.goto (-17), 3) := by decide +kernel
theorem dX4_isWithin_23 : decode cX4_isWithin 23 = .ok (.aload_n 0, 1) := by decide +kernel
theorem dX4_isWithin_24 : decode cX4_isWithin 24 = .ok (.iload_n 2, 1) := by decide +kernel
theorem dX4_isWithin_25 : decode cX4_isWithin 25 = .ok (.laload, 1) := by decide +kernel
theorem dX4_isWithin_26 : decode cX4_isWithin 26 = .ok (.aload_n 1, 1) := by decide +kernel
theorem dX4_isWithin_27 : decode cX4_isWithin 27 = .ok (.iload_n 2, 1) := by decide +kernel
theorem dX4_isWithin_28 : decode cX4_isWithin 28 = .ok (.laload, 1) := by decide +kernel
theorem dX4_isWithin_29 : decode cX4_isWithin 29 = .ok (.lcmp, 1) := by decide +kernel
theorem dX4_isWithin_30 : decode cX4_isWithin 30 = .ok (.ifCond .gt 7, 3) := by decide +kernel
theorem dX4_isWithin_33 : decode cX4_isWithin 33 = .ok (.iconst 1, 1) := by decide +kernel
theorem dX4_isWithin_34 : decode cX4_isWithin 34 = .ok (.goto 4, 3) := by decide +kernel
theorem dX4_isWithin_37 : decode cX4_isWithin 37 = .ok (.iconst 0, 1) := by decide +kernel
theorem dX4_isWithin_38 : decode cX4_isWithin 38 = .ok (.ireturn, 1) := by decide +kernel
theorem dX4_subtract_0 : decode cX4_subtract 0 = .ok (.lconst 0, 1) := by decide +kernel
theorem dX4_subtract_1 : decode cX4_subtract 1 = .ok (.lstore_n 2, 1) := by decide +kernel
theorem dX4_subtract_2 : decode cX4_subtract 2 = .ok (.iconst 0, 1) := by decide +kernel
theorem dX4_subtract_3 : decode cX4_subtract 3 = .ok (.istore 4, 2) := by decide +kernel
theorem dX4_subtract_5 : decode cX4_subtract 5 = .ok (.iload 4, 2) := by decide +kernel
theorem dX4_subtract_7 : decode cX4_subtract 7 = .ok (.bipush 48, 2) := by decide +kernel
theorem dX4_subtract_9 : decode cX4_subtract 9 = .ok (.if_icmp .ge 47, 3) := by decide +kernel
theorem dX4_subtract_12 : decode cX4_subtract 12 = .ok (.aload_n 0, 1) := by decide +kernel
theorem dX4_subtract_13 : decode cX4_subtract 13 = .ok (.iload 4, 2) := by decide +kernel
theorem dX4_subtract_15 : decode cX4_subtract 15 = .ok (.laload, 1) := by decide +kernel
theorem dX4_subtract_16 : decode cX4_subtract 16 = .ok (.aload_n 1, 1) := by decide +kernel
theorem dX4_subtract_17 : decode cX4_subtract 17 = .ok (.iload 4, 2) := by decide +kernel
theorem dX4_subtract_19 : decode cX4_subtract 19 = .ok (.laload, 1) := by decide +kernel
theorem dX4_subtract_20 : decode cX4_subtract 20 = .ok (.lsub, 1) := by decide +kernel
theorem dX4_subtract_21 : decode cX4_subtract 21 = .ok (.lload_n 2, 1) := by decide +kernel
theorem dX4_subtract_22 : decode cX4_subtract 22 = .ok (.lsub, 1) := by decide +kernel
theorem dX4_subtract_23 : decode cX4_subtract 23 = .ok (.lstore 5, 2) := by decide +kernel
theorem dX4_subtract_25 : decode cX4_subtract 25 = .ok (.lload 5, 2) := by decide +kernel
theorem dX4_subtract_27 : decode cX4_subtract 27 = .ok (.lconst 0, 1) := by decide +kernel
theorem dX4_subtract_28 : decode cX4_subtract 28 = .ok (.lcmp, 1) := by decide +kernel
theorem dX4_subtract_29 : decode cX4_subtract 29 = .ok (.ifCond .ge 7, 3) := by decide +kernel
theorem dX4_subtract_32 : decode cX4_subtract 32 = .ok (.lconst 1, 1) := by decide +kernel
theorem dX4_subtract_33 : decode cX4_subtract 33 = .ok (.goto 4, 3) := by decide +kernel
theorem dX4_subtract_36 : decode cX4_subtract 36 = .ok (.lconst 0, 1) := by decide +kernel
theorem dX4_subtract_37 : decode cX4_subtract 37 = .ok (.lstore_n 2, 1) := by decide +kernel
theorem dX4_subtract_38 : decode cX4_subtract 38 = .ok (.aload_n 0, 1) := by decide +kernel
theorem dX4_subtract_39 : decode cX4_subtract 39 = .ok (.iload 4, 2) := by decide +kernel
theorem dX4_subtract_41 : decode cX4_subtract 41 = .ok (.lload 5, 2) := by decide +kernel
theorem dX4_subtract_43 : decode cX4_subtract 43 = .ok (.lload_n 2, 1) := by decide +kernel
theorem dX4_subtract_44 : decode cX4_subtract 44 = .ok (.ldc2_w 68, 3) := by decide +kernel
theorem dX4_subtract_47 : decode cX4_subtract 47 = .ok (.lmul, 1) := by decide +kernel
theorem dX4_subtract_48 : decode cX4_subtract 48 = .ok (.ladd, 1) := by decide +kernel
theorem dX4_subtract_49 : decode cX4_subtract 49 = .ok (.lastore, 1) := by decide +kernel
theorem dX4_subtract_50 : decode cX4_subtract 50 = .ok (.iinc 4 1, 3) := by decide +kernel
theorem dX4_subtract_53 : decode cX4_subtract 53 = .ok (.goto (-48), 3) := by decide +kernel
theorem dX4_subtract_56 : decode cX4_subtract 56 = .ok (.return_, 1) := by decide +kernel
theorem dX4_step_0 : decode cX4_step 0 = .ok (.lconst 0, 1) := by decide +kernel
theorem dX4_step_1 : decode cX4_step 1 = .ok (.lstore 6, 2) := by decide +kernel
theorem dX4_step_3 : decode cX4_step 3 = .ok (.iconst 0, 1) := by decide +kernel
theorem dX4_step_4 : decode cX4_step 4 = .ok (.istore 8, 2) := by decide +kernel
theorem dX4_step_6 : decode cX4_step 6 = .ok (.iload 8, 2) := by decide +kernel
theorem dX4_step_8 : decode cX4_step 8 = .ok (.bipush 48, 2) := by decide +kernel
theorem dX4_step_10 : decode cX4_step 10 = .ok (.if_icmp .ge 84, 3) := by decide +kernel
theorem dX4_step_13 : decode cX4_step 13 = .ok (.aload_n 0, 1) := by decide +kernel
theorem dX4_step_14 : decode cX4_step 14 = .ok (.getfield 32, 3) := by decide +kernel
theorem dX4_step_17 : decode cX4_step 17 = .ok (.bipush 48, 2) := by decide +kernel
theorem dX4_step_19 : decode cX4_step 19 = .ok (.iload_n 1, 1) := by decide +kernel
theorem dX4_step_20 : decode cX4_step 20 = .ok (.imul, 1) := by decide +kernel
theorem dX4_step_21 : decode cX4_step 21 = .ok (.iload 8, 2) := by decide +kernel
theorem dX4_step_23 : decode cX4_step 23 = .ok (.iadd, 1) := by decide +kernel
theorem dX4_step_24 : decode cX4_step 24 = .ok (.laload, 1) := by decide +kernel
theorem dX4_step_25 : decode cX4_step 25 = .ok (.lload_n 2, 1) := by decide +kernel
theorem dX4_step_26 : decode cX4_step 26 = .ok (.lmul, 1) := by decide +kernel
theorem dX4_step_27 : decode cX4_step 27 = .ok (.lstore 9, 2) := by decide +kernel
theorem dX4_step_29 : decode cX4_step 29 = .ok (.iload_n 1, 1) := by decide +kernel
theorem dX4_step_30 : decode cX4_step 30 = .ok (.ifCond .le 25, 3) := by decide +kernel
theorem dX4_step_33 : decode cX4_step 33 = .ok (.lload 9, 2) := by decide +kernel
theorem dX4_step_35 : decode cX4_step 35 = .ok (.aload_n 0, 1) := by decide +kernel
theorem dX4_step_36 : decode cX4_step 36 = .ok (.getfield 32, 3) := by decide +kernel
theorem dX4_step_39 : decode cX4_step 39 = .ok (.bipush 48, 2) := by decide +kernel
theorem dX4_step_41 : decode cX4_step 41 = .ok (.iload_n 1, 1) := by decide +kernel
theorem dX4_step_42 : decode cX4_step 42 = .ok (.iconst 1, 1) := by decide +kernel
theorem dX4_step_43 : decode cX4_step 43 = .ok (.isub, 1) := by decide +kernel
theorem dX4_step_44 : decode cX4_step 44 = .ok (.imul, 1) := by decide +kernel
theorem dX4_step_45 : decode cX4_step 45 = .ok (.iload 8, 2) := by decide +kernel
theorem dX4_step_47 : decode cX4_step 47 = .ok (.iadd, 1) := by decide +kernel
theorem dX4_step_48 : decode cX4_step 48 = .ok (.laload, 1) := by decide +kernel
theorem dX4_step_49 : decode cX4_step 49 = .ok (.lload 4, 2) := by decide +kernel
theorem dX4_step_51 : decode cX4_step 51 = .ok (.lmul, 1) := by decide +kernel
theorem dX4_step_52 : decode cX4_step 52 = .ok (.ladd, 1) := by decide +kernel
theorem dX4_step_53 : decode cX4_step 53 = .ok (.lstore 9, 2) := by decide +kernel
theorem dX4_step_55 : decode cX4_step 55 = .ok (.lload 6, 2) := by decide +kernel
theorem dX4_step_57 : decode cX4_step 57 = .ok (.lload 9, 2) := by decide +kernel
theorem dX4_step_59 : decode cX4_step 59 = .ok (.ladd, 1) := by decide +kernel
theorem dX4_step_60 : decode cX4_step 60 = .ok (.lstore 6, 2) := by decide +kernel
theorem dX4_step_62 : decode cX4_step 62 = .ok (.aload_n 0, 1) := by decide +kernel
theorem dX4_step_63 : decode cX4_step 63 = .ok (.getfield 32, 3) := by decide +kernel
theorem dX4_step_66 : decode cX4_step 66 = .ok (.bipush 48, 2) := by decide +kernel
theorem dX4_step_68 : decode cX4_step 68 = .ok (.iload_n 1, 1) := by decide +kernel
theorem dX4_step_69 : decode cX4_step 69 = .ok (.imul, 1) := by decide +kernel
theorem dX4_step_70 : decode cX4_step 70 = .ok (.iload 8, 2) := by decide +kernel
theorem dX4_step_72 : decode cX4_step 72 = .ok (.iadd, 1) := by decide +kernel
theorem dX4_step_73 : decode cX4_step 73 = .ok (.lload 6, 2) := by decide +kernel
theorem dX4_step_75 : decode cX4_step 75 = .ok (.ldc2_w 68, 3) := by decide +kernel
theorem dX4_step_78 : decode cX4_step 78 = .ok (.lrem, 1) := by decide +kernel
theorem dX4_step_79 : decode cX4_step 79 = .ok (.lastore, 1) := by decide +kernel
theorem dX4_step_80 : decode cX4_step 80 = .ok (.lload 6, 2) := by decide +kernel
theorem dX4_step_82 : decode cX4_step 82 = .ok (.ldc2_w 68, 3) := by decide +kernel
theorem dX4_step_85 : decode cX4_step 85 = .ok (.ldiv, 1) := by decide +kernel
theorem dX4_step_86 : decode cX4_step 86 = .ok (.lstore 6, 2) := by decide +kernel
theorem dX4_step_88 : decode cX4_step 88 = .ok (.iinc 8 1, 3) := by decide +kernel
theorem dX4_step_91 : decode cX4_step 91 = .ok (.goto (-85), 3) := by decide +kernel
theorem dX4_step_94 : decode cX4_step 94 = .ok (.return_, 1) := by decide +kernel
theorem dX4_addRow_0 : decode cX4_addRow 0 = .ok (.lconst 0, 1) := by decide +kernel
theorem dX4_addRow_1 : decode cX4_addRow 1 = .ok (.lstore_n 2, 1) := by decide +kernel
theorem dX4_addRow_2 : decode cX4_addRow 2 = .ok (.iconst 0, 1) := by decide +kernel
theorem dX4_addRow_3 : decode cX4_addRow 3 = .ok (.istore 4, 2) := by decide +kernel
theorem dX4_addRow_5 : decode cX4_addRow 5 = .ok (.iload 4, 2) := by decide +kernel
theorem dX4_addRow_7 : decode cX4_addRow 7 = .ok (.bipush 48, 2) := by decide +kernel
theorem dX4_addRow_9 : decode cX4_addRow 9 = .ok (.if_icmp .ge 50, 3) := by decide +kernel
theorem dX4_addRow_12 : decode cX4_addRow 12 = .ok (.lload_n 2, 1) := by decide +kernel
theorem dX4_addRow_13 : decode cX4_addRow 13 = .ok (.aload_n 0, 1) := by decide +kernel
theorem dX4_addRow_14 : decode cX4_addRow 14 = .ok (.getfield 36, 3) := by decide +kernel
theorem dX4_addRow_17 : decode cX4_addRow 17 = .ok (.iload 4, 2) := by decide +kernel
theorem dX4_addRow_19 : decode cX4_addRow 19 = .ok (.laload, 1) := by decide +kernel
theorem dX4_addRow_20 : decode cX4_addRow 20 = .ok (.ladd, 1) := by decide +kernel
theorem dX4_addRow_21 : decode cX4_addRow 21 = .ok (.aload_n 0, 1) := by decide +kernel
theorem dX4_addRow_22 : decode cX4_addRow 22 = .ok (.getfield 32, 3) := by decide +kernel
theorem dX4_addRow_25 : decode cX4_addRow 25 = .ok (.bipush 48, 2) := by decide +kernel
theorem dX4_addRow_27 : decode cX4_addRow 27 = .ok (.iload_n 1, 1) := by decide +kernel
theorem dX4_addRow_28 : decode cX4_addRow 28 = .ok (.imul, 1) := by decide +kernel
theorem dX4_addRow_29 : decode cX4_addRow 29 = .ok (.iload 4, 2) := by decide +kernel
theorem dX4_addRow_31 : decode cX4_addRow 31 = .ok (.iadd, 1) := by decide +kernel
theorem dX4_addRow_32 : decode cX4_addRow 32 = .ok (.laload, 1) := by decide +kernel
theorem dX4_addRow_33 : decode cX4_addRow 33 = .ok (.ladd, 1) := by decide +kernel
theorem dX4_addRow_34 : decode cX4_addRow 34 = .ok (.lstore_n 2, 1) := by decide +kernel
theorem dX4_addRow_35 : decode cX4_addRow 35 = .ok (.aload_n 0, 1) := by decide +kernel
theorem dX4_addRow_36 : decode cX4_addRow 36 = .ok (.getfield 36, 3) := by decide +kernel
theorem dX4_addRow_39 : decode cX4_addRow 39 = .ok (.iload 4, 2) := by decide +kernel
theorem dX4_addRow_41 : decode cX4_addRow 41 = .ok (.lload_n 2, 1) := by decide +kernel
theorem dX4_addRow_42 : decode cX4_addRow 42 = .ok (.ldc2_w 68, 3) := by decide +kernel
theorem dX4_addRow_45 : decode cX4_addRow 45 = .ok (.lrem, 1) := by decide +kernel
theorem dX4_addRow_46 : decode cX4_addRow 46 = .ok (.lastore, 1) := by decide +kernel
theorem dX4_addRow_47 : decode cX4_addRow 47 = .ok (.lload_n 2, 1) := by decide +kernel
theorem dX4_addRow_48 : decode cX4_addRow 48 = .ok (.ldc2_w 68, 3) := by decide +kernel
theorem dX4_addRow_51 : decode cX4_addRow 51 = .ok (.ldiv, 1) := by decide +kernel
theorem dX4_addRow_52 : decode cX4_addRow 52 = .ok (.lstore_n 2, 1) := by decide +kernel
theorem dX4_addRow_53 : decode cX4_addRow 53 = .ok (.iinc 4 1, 3) := by decide +kernel
theorem dX4_addRow_56 : decode cX4_addRow 56 = .ok (.goto (-51), 3) := by decide +kernel
theorem dX4_addRow_59 : decode cX4_addRow 59 = .ok (.return_, 1) := by decide +kernel
set_option maxRecDepth 20000 in
theorem ggX4_count_X4_clear : GoodIn wsX4_count wsX4_clear := goodIn_r _ [7] (by decide +kernel) (by decide +kernel)
set_option maxRecDepth 20000 in
theorem gX4_count_X4_clear : GoodIn wsX4_count (va_wsS RX4 70 yX4_clear wsX4_clear) := goodIn_app (goodIn_of _ (by decide +kernel)) ggX4_count_X4_clear
set_option maxRecDepth 20000 in
theorem ggX4_count_X4_step : GoodIn wsX4_count wsX4_step := goodIn_r _ [11, 1, 12, 20, 21, 22, 23, 24, 25, 26, 27, 28, 29, 30, 31, 32, 33, 34] (by decide +kernel) (by decide +kernel)
set_option maxRecDepth 20000 in
theorem gX4_count_X4_step : GoodIn wsX4_count (wsV RX4 74 RX4 yX4_step wsX4_step) := goodIn_app (goodIn_of _ (by decide +kernel)) ggX4_count_X4_step
set_option maxRecDepth 20000 in
theorem ggX4_count_X4_multiply : GoodIn wsX4_count wsX4_multiply := goodIn_r _ [15, 12] (by decide +kernel) (by decide +kernel)
set_option maxRecDepth 20000 in
theorem gX4_count_X4_multiply : GoodIn wsX4_count (va_wsS RX4 78 yX4_multiply wsX4_multiply) := goodIn_app (goodIn_of _ (by decide +kernel)) ggX4_count_X4_multiply
set_option maxRecDepth 20000 in
theorem ggX4_count_X4_addRow : GoodIn wsX4_count wsX4_addRow := goodIn_r _ [19, 3, 1, 12, 20, 21, 22, 23, 24, 25, 26, 27, 28, 29, 30, 31, 32, 33, 34] (by decide +kernel) (by decide +kernel)
set_option maxRecDepth 20000 in
theorem gX4_count_X4_addRow : GoodIn wsX4_count (wsV RX4 82 RX4 yX4_addRow wsX4_addRow) := goodIn_app (goodIn_of _ (by decide +kernel)) ggX4_count_X4_addRow
theorem dX4_count_0 : decode cX4_count 0 = .ok (.iconst 0, 1) := by decide +kernel
theorem dX4_count_1 : decode cX4_count 1 = .ok (.istore 6, 2) := by decide +kernel
theorem dX4_count_3 : decode cX4_count 3 = .ok (.iload 6, 2) := by decide +kernel
theorem dX4_count_5 : decode cX4_count 5 = .ok (.sipush 9696, 3) := by decide +kernel
theorem dX4_count_8 : decode cX4_count 8 = .ok (.if_icmp .ge 17, 3) := by decide +kernel
theorem dX4_count_11 : decode cX4_count 11 = .ok (.aload_n 0, 1) := by decide +kernel
theorem dX4_count_12 : decode cX4_count 12 = .ok (.getfield 32, 3) := by decide +kernel
theorem dX4_count_15 : decode cX4_count 15 = .ok (.iload 6, 2) := by decide +kernel
theorem dX4_count_17 : decode cX4_count 17 = .ok (.lconst 0, 1) := by decide +kernel
theorem dX4_count_18 : decode cX4_count 18 = .ok (.lastore, 1) := by decide +kernel
theorem dX4_count_19 : decode cX4_count 19 = .ok (.iinc 6 1, 3) := by decide +kernel
theorem dX4_count_22 : decode cX4_count 22 = .ok (.goto (-19), 3) := by decide +kernel
theorem dX4_count_25 : decode cX4_count 25 = .ok (.aload_n 0, 1) := by decide +kernel
theorem dX4_count_26 : decode cX4_count 26 = .ok (.getfield 32, 3) := by decide +kernel
theorem dX4_count_29 : decode cX4_count 29 = .ok (.iconst 0, 1) := by decide +kernel
theorem dX4_count_30 : decode cX4_count 30 = .ok (.lconst 1, 1) := by decide +kernel
theorem dX4_count_31 : decode cX4_count 31 = .ok (.lastore, 1) := by decide +kernel
theorem dX4_count_32 : decode cX4_count 32 = .ok (.aload_n 0, 1) := by decide +kernel
theorem dX4_count_33 : decode cX4_count 33 = .ok (.getfield 39, 3) := by decide +kernel
theorem dX4_count_36 : decode cX4_count 36 = .ok (.invokestatic 70, 3) := by decide +kernel
theorem dX4_count_39 : decode cX4_count 39 = .ok (.aload_n 0, 1) := by decide +kernel
theorem dX4_count_40 : decode cX4_count 40 = .ok (.getfield 39, 3) := by decide +kernel
theorem dX4_count_43 : decode cX4_count 43 = .ok (.iconst 0, 1) := by decide +kernel
theorem dX4_count_44 : decode cX4_count 44 = .ok (.lconst 1, 1) := by decide +kernel
theorem dX4_count_45 : decode cX4_count 45 = .ok (.lastore, 1) := by decide +kernel
theorem dX4_count_46 : decode cX4_count 46 = .ok (.iconst 0, 1) := by decide +kernel
theorem dX4_count_47 : decode cX4_count 47 = .ok (.istore 6, 2) := by decide +kernel
theorem dX4_count_49 : decode cX4_count 49 = .ok (.iload 6, 2) := by decide +kernel
theorem dX4_count_51 : decode cX4_count 51 = .ok (.iload_n 3, 1) := by decide +kernel
theorem dX4_count_52 : decode cX4_count 52 = .ok (.if_icmp .ge 87, 3) := by decide +kernel
theorem dX4_count_55 : decode cX4_count 55 = .ok (.iload 6, 2) := by decide +kernel
theorem dX4_count_57 : decode cX4_count 57 = .ok (.iconst 1, 1) := by decide +kernel
theorem dX4_count_58 : decode cX4_count 58 = .ok (.iadd, 1) := by decide +kernel
theorem dX4_count_59 : decode cX4_count 59 = .ok (.istore 7, 2) := by decide +kernel
theorem dX4_count_61 : decode cX4_count 61 = .ok (.iload 7, 2) := by decide +kernel
theorem dX4_count_63 : decode cX4_count 63 = .ok (.ifCond .lt 58, 3) := by decide +kernel
theorem dX4_count_66 : decode cX4_count 66 = .ok (.iload_n 1, 1) := by decide +kernel
theorem dX4_count_67 : decode cX4_count 67 = .ok (.iload_n 2, 1) := by decide +kernel
theorem dX4_count_68 : decode cX4_count 68 = .ok (.isub, 1) := by decide +kernel
theorem dX4_count_69 : decode cX4_count 69 = .ok (.iload 6, 2) := by decide +kernel
theorem dX4_count_71 : decode cX4_count 71 = .ok (.iload 7, 2) := by decide +kernel
theorem dX4_count_73 : decode cX4_count 73 = .ok (.isub, 1) := by decide +kernel
theorem dX4_count_74 : decode cX4_count 74 = .ok (.isub, 1) := by decide +kernel
theorem dX4_count_75 : decode cX4_count 75 = .ok (.istore 8, 2) := by decide +kernel
theorem dX4_count_77 : decode cX4_count 77 = .ok (.iload_n 2, 1) := by decide +kernel
theorem dX4_count_78 : decode cX4_count 78 = .ok (.iload 7, 2) := by decide +kernel
theorem dX4_count_80 : decode cX4_count 80 = .ok (.iconst 1, 1) := by decide +kernel
theorem dX4_count_81 : decode cX4_count 81 = .ok (.isub, 1) := by decide +kernel
theorem dX4_count_82 : decode cX4_count 82 = .ok (.isub, 1) := by decide +kernel
theorem dX4_count_83 : decode cX4_count 83 = .ok (.istore 9, 2) := by decide +kernel
theorem dX4_count_85 : decode cX4_count 85 = .ok (.aload_n 0, 1) := by decide +kernel
theorem dX4_count_86 : decode cX4_count 86 = .ok (.iload 7, 2) := by decide +kernel
theorem dX4_count_88 : decode cX4_count 88 = .ok (.iload 8, 2) := by decide +kernel
theorem dX4_count_90 : decode cX4_count 90 = .ok (.ifCond .le 9, 3) := by decide +kernel
theorem dX4_count_93 : decode cX4_count 93 = .ok (.iload 8, 2) := by decide +kernel
theorem dX4_count_95 : decode cX4_count 95 = .ok (.i2l, 1) := by decide +kernel
theorem dX4_count_96 : decode cX4_count 96 = .ok (.goto 4, 3) := by decide +kernel
theorem dX4_count_99 : decode cX4_count 99 = .ok (.lconst 0, 1) := by decide +kernel
theorem dX4_count_100 : decode cX4_count 100 = .ok (.iload 9, 2) := by decide +kernel
theorem dX4_count_102 : decode cX4_count 102 = .ok (.ifCond .le 9, 3) := by decide +kernel
theorem dX4_count_105 : decode cX4_count 105 = .ok (.iload 9, 2) := by decide +kernel
theorem dX4_count_107 : decode cX4_count 107 = .ok (.i2l, 1) := by decide +kernel
theorem dX4_count_108 : decode cX4_count 108 = .ok (.goto 4, 3) := by decide +kernel
theorem dX4_count_111 : decode cX4_count 111 = .ok (.lconst 0, 1) := by decide +kernel
theorem dX4_count_112 : decode cX4_count 112 = .ok (.invokevirtual 74, 3) := by decide +kernel
theorem dX4_count_115 : decode cX4_count 115 = .ok (.iinc 7 (-1), 3) := by decide +kernel
theorem dX4_count_118 : decode cX4_count 118 = .ok (.goto (-57), 3) := by decide +kernel
theorem dX4_count_121 : decode cX4_count 121 = .ok (.aload_n 0, 1) := by decide +kernel
theorem dX4_count_122 : decode cX4_count 122 = .ok (.getfield 39, 3) := by decide +kernel
theorem dX4_count_125 : decode cX4_count 125 = .ok (.iload_n 1, 1) := by decide +kernel
theorem dX4_count_126 : decode cX4_count 126 = .ok (.iload 6, 2) := by decide +kernel
theorem dX4_count_128 : decode cX4_count 128 = .ok (.isub, 1) := by decide +kernel
theorem dX4_count_129 : decode cX4_count 129 = .ok (.i2l, 1) := by decide +kernel
theorem dX4_count_130 : decode cX4_count 130 = .ok (.invokestatic 78, 3) := by decide +kernel
theorem dX4_count_133 : decode cX4_count 133 = .ok (.iinc 6 1, 3) := by decide +kernel
theorem dX4_count_136 : decode cX4_count 136 = .ok (.goto (-87), 3) := by decide +kernel
theorem dX4_count_139 : decode cX4_count 139 = .ok (.aload_n 0, 1) := by decide +kernel
theorem dX4_count_140 : decode cX4_count 140 = .ok (.getfield 36, 3) := by decide +kernel
theorem dX4_count_143 : decode cX4_count 143 = .ok (.invokestatic 70, 3) := by decide +kernel
theorem dX4_count_146 : decode cX4_count 146 = .ok (.iconst 0, 1) := by decide +kernel
theorem dX4_count_147 : decode cX4_count 147 = .ok (.istore 6, 2) := by decide +kernel
theorem dX4_count_149 : decode cX4_count 149 = .ok (.iload 6, 2) := by decide +kernel
theorem dX4_count_151 : decode cX4_count 151 = .ok (.iload_n 3, 1) := by decide +kernel
theorem dX4_count_152 : decode cX4_count 152 = .ok (.if_icmp .gt 37, 3) := by decide +kernel
theorem dX4_count_155 : decode cX4_count 155 = .ok (.iload 5, 2) := by decide +kernel
theorem dX4_count_157 : decode cX4_count 157 = .ok (.ifCond .ne 13, 3) := by decide +kernel
theorem dX4_count_160 : decode cX4_count 160 = .ok (.iload 6, 2) := by decide +kernel
theorem dX4_count_162 : decode cX4_count 162 = .ok (.iload 4, 2) := by decide +kernel
theorem dX4_count_164 : decode cX4_count 164 = .ok (.if_icmp .gt 19, 3) := by decide +kernel
theorem dX4_count_167 : decode cX4_count 167 = .ok (.goto 10, 3) := by decide +kernel
theorem dX4_count_170 : decode cX4_count 170 = .ok (.iload 6, 2) := by decide +kernel
theorem dX4_count_172 : decode cX4_count 172 = .ok (.iload 4, 2) := by decide +kernel
theorem dX4_count_174 : decode cX4_count 174 = .ok (.if_icmp .lt 9, 3) := by decide +kernel
theorem dX4_count_177 : decode cX4_count 177 = .ok (.aload_n 0, 1) := by decide +kernel
theorem dX4_count_178 : decode cX4_count 178 = .ok (.iload 6, 2) := by decide +kernel
theorem dX4_count_180 : decode cX4_count 180 = .ok (.invokevirtual 82, 3) := by decide +kernel
theorem dX4_count_183 : decode cX4_count 183 = .ok (.iinc 6 1, 3) := by decide +kernel
theorem dX4_count_186 : decode cX4_count 186 = .ok (.goto (-37), 3) := by decide +kernel
theorem dX4_count_189 : decode cX4_count 189 = .ok (.return_, 1) := by decide +kernel
set_option maxRecDepth 20000 in
theorem ggX4_isAtMost_X4_copy : GoodIn wsX4_isAtMost wsX4_copy := goodIn_r _ [9] (by decide +kernel) (by decide +kernel)
set_option maxRecDepth 20000 in
theorem gX4_isAtMost_X4_copy : GoodIn wsX4_isAtMost (va_wsS RX4 86 yX4_copy wsX4_copy) := goodIn_app (goodIn_of _ (by decide +kernel)) ggX4_isAtMost_X4_copy
set_option maxRecDepth 20000 in
theorem ggX4_isAtMost_X4_multiply : GoodIn wsX4_isAtMost wsX4_multiply := goodIn_r _ [12, 13] (by decide +kernel) (by decide +kernel)
set_option maxRecDepth 20000 in
theorem gX4_isAtMost_X4_multiply : GoodIn wsX4_isAtMost (va_wsS RX4 78 yX4_multiply wsX4_multiply) := goodIn_app (goodIn_of _ (by decide +kernel)) ggX4_isAtMost_X4_multiply
set_option maxRecDepth 20000 in
theorem ggX4_isAtMost_X4_isWithin : GoodIn wsX4_isAtMost wsX4_isWithin := goodIn_r _ [16] (by decide +kernel) (by decide +kernel)
set_option maxRecDepth 20000 in
theorem gX4_isAtMost_X4_isWithin : GoodIn wsX4_isAtMost (va_wsS RX4 92 yX4_isWithin wsX4_isWithin) := goodIn_app (goodIn_of _ (by decide +kernel)) ggX4_isAtMost_X4_isWithin
theorem dX4_isAtMost_0 : decode cX4_isAtMost 0 = .ok (.aload_n 0, 1) := by decide +kernel
theorem dX4_isAtMost_1 : decode cX4_isAtMost 1 = .ok (.getfield 36, 3) := by decide +kernel
theorem dX4_isAtMost_4 : decode cX4_isAtMost 4 = .ok (.aload_n 0, 1) := by decide +kernel
theorem dX4_isAtMost_5 : decode cX4_isAtMost 5 = .ok (.getfield 42, 3) := by decide +kernel
theorem dX4_isAtMost_8 : decode cX4_isAtMost 8 = .ok (.invokestatic 86, 3) := by decide +kernel
theorem dX4_isAtMost_11 : decode cX4_isAtMost 11 = .ok (.aload_n 0, 1) := by decide +kernel
theorem dX4_isAtMost_12 : decode cX4_isAtMost 12 = .ok (.getfield 42, 3) := by decide +kernel
theorem dX4_isAtMost_15 : decode cX4_isAtMost 15 = .ok (.ldc2_w 90, 3) := by decide +kernel
theorem dX4_isAtMost_18 : decode cX4_isAtMost 18 = .ok (.invokestatic 78, 3) := by decide +kernel
theorem dX4_isAtMost_21 : decode cX4_isAtMost 21 = .ok (.aload_n 0, 1) := by decide +kernel
theorem dX4_isAtMost_22 : decode cX4_isAtMost 22 = .ok (.getfield 39, 3) := by decide +kernel
theorem dX4_isAtMost_25 : decode cX4_isAtMost 25 = .ok (.aload_n 0, 1) := by decide +kernel
theorem dX4_isAtMost_26 : decode cX4_isAtMost 26 = .ok (.getfield 45, 3) := by decide +kernel
theorem dX4_isAtMost_29 : decode cX4_isAtMost 29 = .ok (.invokestatic 86, 3) := by decide +kernel
theorem dX4_isAtMost_32 : decode cX4_isAtMost 32 = .ok (.aload_n 0, 1) := by decide +kernel
theorem dX4_isAtMost_33 : decode cX4_isAtMost 33 = .ok (.getfield 45, 3) := by decide +kernel
theorem dX4_isAtMost_36 : decode cX4_isAtMost 36 = .ok (.iload_n 1, 1) := by decide +kernel
theorem dX4_isAtMost_37 : decode cX4_isAtMost 37 = .ok (.i2l, 1) := by decide +kernel
theorem dX4_isAtMost_38 : decode cX4_isAtMost 38 = .ok (.invokestatic 78, 3) := by decide +kernel
theorem dX4_isAtMost_41 : decode cX4_isAtMost 41 = .ok (.aload_n 0, 1) := by decide +kernel
theorem dX4_isAtMost_42 : decode cX4_isAtMost 42 = .ok (.getfield 42, 3) := by decide +kernel
theorem dX4_isAtMost_45 : decode cX4_isAtMost 45 = .ok (.aload_n 0, 1) := by decide +kernel
theorem dX4_isAtMost_46 : decode cX4_isAtMost 46 = .ok (.getfield 45, 3) := by decide +kernel
theorem dX4_isAtMost_49 : decode cX4_isAtMost 49 = .ok (.invokestatic 92, 3) := by decide +kernel
theorem dX4_isAtMost_52 : decode cX4_isAtMost 52 = .ok (.ireturn, 1) := by decide +kernel
set_option maxRecDepth 20000 in
theorem ggX4_chance_X4_count : GoodIn wsX4_chance wsX4_count := goodIn_r _ [11, 12, 5, 3, 13, 14, 10, 15, 16, 17, 18, 19, 20, 21, 22, 23, 24, 25, 26, 27, 37, 38, 39, 40, 41, 42, 43, 44, 45, 46, 47, 48, 49, 50, 51] (by decide +kernel) (by decide +kernel)
set_option maxRecDepth 20000 in
theorem gX4_chance_X4_count : GoodIn wsX4_chance (wsV RX4 98 RX4 yX4_count wsX4_count) := goodIn_app (goodIn_of _ (by decide +kernel)) ggX4_chance_X4_count
set_option maxRecDepth 20000 in
theorem ggX4_chance_X4_copy : GoodIn wsX4_chance wsX4_copy := goodIn_r _ [30] (by decide +kernel) (by decide +kernel)
set_option maxRecDepth 20000 in
theorem gX4_chance_X4_copy : GoodIn wsX4_chance (va_wsS RX4 86 yX4_copy wsX4_copy) := goodIn_app (goodIn_of _ (by decide +kernel)) ggX4_chance_X4_copy
set_option maxRecDepth 20000 in
theorem ggX4_chance_X4_isWithin : GoodIn wsX4_chance wsX4_isWithin := goodIn_r _ [33] (by decide +kernel) (by decide +kernel)
set_option maxRecDepth 20000 in
theorem gX4_chance_X4_isWithin : GoodIn wsX4_chance (va_wsS RX4 92 yX4_isWithin wsX4_isWithin) := goodIn_app (goodIn_of _ (by decide +kernel)) ggX4_chance_X4_isWithin
set_option maxRecDepth 20000 in
theorem ggX4_chance_X4_subtract : GoodIn wsX4_chance wsX4_subtract := goodIn_r _ [36, 20] (by decide +kernel) (by decide +kernel)
set_option maxRecDepth 20000 in
theorem gX4_chance_X4_subtract : GoodIn wsX4_chance (va_wsS RX4 102 yX4_subtract wsX4_subtract) := goodIn_app (goodIn_of _ (by decide +kernel)) ggX4_chance_X4_subtract
set_option maxRecDepth 20000 in
theorem ggX4_chance_X4_multiply : GoodIn wsX4_chance wsX4_multiply := goodIn_r _ [23, 20] (by decide +kernel) (by decide +kernel)
set_option maxRecDepth 20000 in
theorem gX4_chance_X4_multiply : GoodIn wsX4_chance (va_wsS RX4 78 yX4_multiply wsX4_multiply) := goodIn_app (goodIn_of _ (by decide +kernel)) ggX4_chance_X4_multiply
theorem dX4_chance_0 : decode cX4_chance 0 = .ok (.aload_n 0, 1) := by decide +kernel
theorem dX4_chance_1 : decode cX4_chance 1 = .ok (.iconst 0, 1) := by decide +kernel
theorem dX4_chance_2 : decode cX4_chance 2 = .ok (.putfield 48, 3) := by decide +kernel
theorem dX4_chance_5 : decode cX4_chance 5 = .ok (.iload_n 1, 1) := by decide +kernel
theorem dX4_chance_6 : decode cX4_chance 6 = .ok (.iconst 1, 1) := by decide +kernel
theorem dX4_chance_7 : decode cX4_chance 7 = .ok (.if_icmp .lt 39, 3) := by decide +kernel
theorem dX4_chance_10 : decode cX4_chance 10 = .ok (.iload_n 1, 1) := by decide +kernel
theorem dX4_chance_11 : decode cX4_chance 11 = .ok (.sipush 200, 3) := by decide +kernel
theorem dX4_chance_14 : decode cX4_chance 14 = .ok (.if_icmp .gt 32, 3) := by decide +kernel
theorem dX4_chance_17 : decode cX4_chance 17 = .ok (.iload_n 2, 1) := by decide +kernel
theorem dX4_chance_18 : decode cX4_chance 18 = .ok (.ifCond .lt 28, 3) := by decide +kernel
theorem dX4_chance_21 : decode cX4_chance 21 = .ok (.iload_n 2, 1) := by decide +kernel
theorem dX4_chance_22 : decode cX4_chance 22 = .ok (.iload_n 1, 1) := by decide +kernel
theorem dX4_chance_23 : decode cX4_chance 23 = .ok (.if_icmp .gt 23, 3) := by decide +kernel
theorem dX4_chance_26 : decode cX4_chance 26 = .ok (.iload_n 3, 1) := by decide +kernel
theorem dX4_chance_27 : decode cX4_chance 27 = .ok (.ifCond .lt 19, 3) := by decide +kernel
theorem dX4_chance_30 : decode cX4_chance 30 = .ok (.iload_n 3, 1) := by decide +kernel
theorem dX4_chance_31 : decode cX4_chance 31 = .ok (.iload_n 1, 1) := by decide +kernel
theorem dX4_chance_32 : decode cX4_chance 32 = .ok (.if_icmp .gt 14, 3) := by decide +kernel
theorem dX4_chance_35 : decode cX4_chance 35 = .ok (.iload 5, 2) := by decide +kernel
theorem dX4_chance_37 : decode cX4_chance 37 = .ok (.ifCond .lt 9, 3) := by decide +kernel
theorem dX4_chance_40 : decode cX4_chance 40 = .ok (.iload 5, 2) := by decide +kernel
theorem dX4_chance_42 : decode cX4_chance 42 = .ok (.iconst 1, 1) := by decide +kernel
theorem dX4_chance_43 : decode cX4_chance 43 = .ok (.if_icmp .le 7, 3) := by decide +kernel
theorem dX4_chance_46 : decode cX4_chance 46 = .ok (.ldc2_w 96, 3) := by decide +kernel
theorem dX4_chance_49 : decode cX4_chance 49 = .ok (.lreturn, 1) := by decide +kernel
theorem dX4_chance_50 : decode cX4_chance 50 = .ok (.aload_n 0, 1) := by decide +kernel
theorem dX4_chance_51 : decode cX4_chance 51 = .ok (.iload_n 1, 1) := by decide +kernel
theorem dX4_chance_52 : decode cX4_chance 52 = .ok (.iload_n 2, 1) := by decide +kernel
theorem dX4_chance_53 : decode cX4_chance 53 = .ok (.iload_n 3, 1) := by decide +kernel
theorem dX4_chance_54 : decode cX4_chance 54 = .ok (.iload 4, 2) := by decide +kernel
theorem dX4_chance_56 : decode cX4_chance 56 = .ok (.iload 5, 2) := by decide +kernel
theorem dX4_chance_58 : decode cX4_chance 58 = .ok (.invokevirtual 98, 3) := by decide +kernel
theorem dX4_chance_61 : decode cX4_chance 61 = .ok (.aload_n 0, 1) := by decide +kernel
theorem dX4_chance_62 : decode cX4_chance 62 = .ok (.getfield 36, 3) := by decide +kernel
theorem dX4_chance_65 : decode cX4_chance 65 = .ok (.aload_n 0, 1) := by decide +kernel
theorem dX4_chance_66 : decode cX4_chance 66 = .ok (.getfield 42, 3) := by decide +kernel
theorem dX4_chance_69 : decode cX4_chance 69 = .ok (.invokestatic 86, 3) := by decide +kernel
theorem dX4_chance_72 : decode cX4_chance 72 = .ok (.lconst 0, 1) := by decide +kernel
theorem dX4_chance_73 : decode cX4_chance 73 = .ok (.lstore 6, 2) := by decide +kernel
theorem dX4_chance_75 : decode cX4_chance 75 = .ok (.iconst 0, 1) := by decide +kernel
theorem dX4_chance_76 : decode cX4_chance 76 = .ok (.istore 8, 2) := by decide +kernel
theorem dX4_chance_78 : decode cX4_chance 78 = .ok (.iload 8, 2) := by decide +kernel
theorem dX4_chance_80 : decode cX4_chance 80 = .ok (.bipush 10, 2) := by decide +kernel
theorem dX4_chance_82 : decode cX4_chance 82 = .ok (.if_icmp .ge 67, 3) := by decide +kernel
theorem dX4_chance_85 : decode cX4_chance 85 = .ok (.lconst 0, 1) := by decide +kernel
theorem dX4_chance_86 : decode cX4_chance 86 = .ok (.lstore 9, 2) := by decide +kernel
theorem dX4_chance_88 : decode cX4_chance 88 = .ok (.aload_n 0, 1) := by decide +kernel
theorem dX4_chance_89 : decode cX4_chance 89 = .ok (.getfield 39, 3) := by decide +kernel
theorem dX4_chance_92 : decode cX4_chance 92 = .ok (.aload_n 0, 1) := by decide +kernel
theorem dX4_chance_93 : decode cX4_chance 93 = .ok (.getfield 42, 3) := by decide +kernel
theorem dX4_chance_96 : decode cX4_chance 96 = .ok (.invokestatic 92, 3) := by decide +kernel
theorem dX4_chance_99 : decode cX4_chance 99 = .ok (.ifCond .eq 23, 3) := by decide +kernel
theorem dX4_chance_102 : decode cX4_chance 102 = .ok (.aload_n 0, 1) := by decide +kernel
theorem dX4_chance_103 : decode cX4_chance 103 = .ok (.getfield 42, 3) := by decide +kernel
theorem dX4_chance_106 : decode cX4_chance 106 = .ok (.aload_n 0, 1) := by decide +kernel
theorem dX4_chance_107 : decode cX4_chance 107 = .ok (.getfield 39, 3) := by decide +kernel
theorem dX4_chance_110 : decode cX4_chance 110 = .ok (.invokestatic 102, 3) := by decide +kernel
theorem dX4_chance_113 : decode cX4_chance 113 = .ok (.lload 9, 2) := by decide +kernel
theorem dX4_chance_115 : decode cX4_chance 115 = .ok (.lconst 1, 1) := by decide +kernel
theorem dX4_chance_116 : decode cX4_chance 116 = .ok (.ladd, 1) := by decide +kernel
theorem dX4_chance_117 : decode cX4_chance 117 = .ok (.lstore 9, 2) := by decide +kernel
theorem dX4_chance_119 : decode cX4_chance 119 = .ok (.goto (-31), 3) := by decide +kernel
theorem dX4_chance_122 : decode cX4_chance 122 = .ok (.ldc2_w 105, 3) := by decide +kernel
theorem dX4_chance_125 : decode cX4_chance 125 = .ok (.lload 6, 2) := by decide +kernel
theorem dX4_chance_127 : decode cX4_chance 127 = .ok (.lmul, 1) := by decide +kernel
theorem dX4_chance_128 : decode cX4_chance 128 = .ok (.lload 9, 2) := by decide +kernel
theorem dX4_chance_130 : decode cX4_chance 130 = .ok (.ladd, 1) := by decide +kernel
theorem dX4_chance_131 : decode cX4_chance 131 = .ok (.lstore 6, 2) := by decide +kernel
theorem dX4_chance_133 : decode cX4_chance 133 = .ok (.aload_n 0, 1) := by decide +kernel
theorem dX4_chance_134 : decode cX4_chance 134 = .ok (.getfield 42, 3) := by decide +kernel
theorem dX4_chance_137 : decode cX4_chance 137 = .ok (.ldc2_w 105, 3) := by decide +kernel
theorem dX4_chance_140 : decode cX4_chance 140 = .ok (.invokestatic 78, 3) := by decide +kernel
theorem dX4_chance_143 : decode cX4_chance 143 = .ok (.iinc 8 1, 3) := by decide +kernel
theorem dX4_chance_146 : decode cX4_chance 146 = .ok (.goto (-68), 3) := by decide +kernel
theorem dX4_chance_149 : decode cX4_chance 149 = .ok (.lload 6, 2) := by decide +kernel
theorem dX4_chance_151 : decode cX4_chance 151 = .ok (.lreturn, 1) := by decide +kernel
set_option maxRecDepth 20000 in
theorem ggX4_judge_X4_wrongOf : GoodIn wsX4_judge wsX4_wrongOf := goodIn_r _ [8, 9, 45, 46, 47, 48, 49, 50, 51, 52, 53, 54, 55, 56, 57, 58, 59] (by decide +kernel) (by decide +kernel)
set_option maxRecDepth 20000 in
theorem gX4_judge_X4_wrongOf : GoodIn wsX4_judge (wsV RX4 65 RX4 yX4_wrongOf wsX4_wrongOf) := goodIn_app (goodIn_of _ (by decide +kernel)) ggX4_judge_X4_wrongOf
set_option maxRecDepth 20000 in
theorem ggX4_judge_X4_count : GoodIn wsX4_judge wsX4_count := goodIn_r _ [13, 14, 15, 16, 17, 18, 7, 19, 20, 21, 22, 23, 24, 25, 26, 27, 28, 29, 30, 31, 45, 46, 47, 48, 49, 50, 51, 52, 53, 54, 55, 56, 57, 58, 59] (by decide +kernel) (by decide +kernel)
set_option maxRecDepth 20000 in
theorem gX4_judge_X4_count : GoodIn wsX4_judge (wsV RX4 98 RX4 yX4_count wsX4_count) := goodIn_app (goodIn_of _ (by decide +kernel)) ggX4_judge_X4_count
set_option maxRecDepth 20000 in
theorem ggX4_judge_X4_isAtMost : GoodIn wsX4_judge wsX4_isAtMost := goodIn_r _ [35, 16, 36, 37, 15, 38, 39, 40, 7, 41, 25, 26, 27, 24, 42, 43, 44, 45, 46, 47, 48, 49, 50, 51, 52, 53, 54, 55, 56, 57, 58, 59] (by decide +kernel) (by decide +kernel)
set_option maxRecDepth 20000 in
theorem gX4_judge_X4_isAtMost : GoodIn wsX4_judge (wsV RX4 107 RX4 yX4_isAtMost wsX4_isAtMost) := goodIn_app (goodIn_of _ (by decide +kernel)) ggX4_judge_X4_isAtMost
theorem dX4_judge_0 : decode cX4_judge 0 = .ok (.aload_n 0, 1) := by decide +kernel
theorem dX4_judge_1 : decode cX4_judge 1 = .ok (.getfield 7, 3) := by decide +kernel
theorem dX4_judge_4 : decode cX4_judge 4 = .ok (.iload_n 1, 1) := by decide +kernel
theorem dX4_judge_5 : decode cX4_judge 5 = .ok (.iaload, 1) := by decide +kernel
theorem dX4_judge_6 : decode cX4_judge 6 = .ok (.bipush 20, 2) := by decide +kernel
theorem dX4_judge_8 : decode cX4_judge 8 = .ok (.idiv, 1) := by decide +kernel
theorem dX4_judge_9 : decode cX4_judge 9 = .ok (.istore_n 2, 1) := by decide +kernel
theorem dX4_judge_10 : decode cX4_judge 10 = .ok (.aload_n 0, 1) := by decide +kernel
theorem dX4_judge_11 : decode cX4_judge 11 = .ok (.iload_n 1, 1) := by decide +kernel
theorem dX4_judge_12 : decode cX4_judge 12 = .ok (.invokevirtual 65, 3) := by decide +kernel
theorem dX4_judge_15 : decode cX4_judge 15 = .ok (.istore_n 3, 1) := by decide +kernel
theorem dX4_judge_16 : decode cX4_judge 16 = .ok (.aload_n 0, 1) := by decide +kernel
theorem dX4_judge_17 : decode cX4_judge 17 = .ok (.aload_n 0, 1) := by decide +kernel
theorem dX4_judge_18 : decode cX4_judge 18 = .ok (.getfield 7, 3) := by decide +kernel
theorem dX4_judge_21 : decode cX4_judge 21 = .ok (.iload_n 1, 1) := by decide +kernel
theorem dX4_judge_22 : decode cX4_judge 22 = .ok (.iaload, 1) := by decide +kernel
theorem dX4_judge_23 : decode cX4_judge 23 = .ok (.iload_n 2, 1) := by decide +kernel
theorem dX4_judge_24 : decode cX4_judge 24 = .ok (.iconst 1, 1) := by decide +kernel
theorem dX4_judge_25 : decode cX4_judge 25 = .ok (.iadd, 1) := by decide +kernel
theorem dX4_judge_26 : decode cX4_judge 26 = .ok (.aload_n 0, 1) := by decide +kernel
theorem dX4_judge_27 : decode cX4_judge 27 = .ok (.getfield 16, 3) := by decide +kernel
theorem dX4_judge_30 : decode cX4_judge 30 = .ok (.iload_n 1, 1) := by decide +kernel
theorem dX4_judge_31 : decode cX4_judge 31 = .ok (.iaload, 1) := by decide +kernel
theorem dX4_judge_32 : decode cX4_judge 32 = .ok (.iload_n 3, 1) := by decide +kernel
theorem dX4_judge_33 : decode cX4_judge 33 = .ok (.iconst 0, 1) := by decide +kernel
theorem dX4_judge_34 : decode cX4_judge 34 = .ok (.invokevirtual 98, 3) := by decide +kernel
theorem dX4_judge_37 : decode cX4_judge 37 = .ok (.aload_n 0, 1) := by decide +kernel
theorem dX4_judge_38 : decode cX4_judge 38 = .ok (.sipush 1000, 3) := by decide +kernel
theorem dX4_judge_41 : decode cX4_judge 41 = .ok (.aload_n 0, 1) := by decide +kernel
theorem dX4_judge_42 : decode cX4_judge 42 = .ok (.getfield 22, 3) := by decide +kernel
theorem dX4_judge_45 : decode cX4_judge 45 = .ok (.isub, 1) := by decide +kernel
theorem dX4_judge_46 : decode cX4_judge 46 = .ok (.invokevirtual 107, 3) := by decide +kernel
theorem dX4_judge_49 : decode cX4_judge 49 = .ok (.ifCond .eq 5, 3) := by decide +kernel
theorem dX4_judge_52 : decode cX4_judge 52 = .ok (.iconst 1, 1) := by decide +kernel
theorem dX4_judge_53 : decode cX4_judge 53 = .ok (.ireturn, 1) := by decide +kernel
theorem dX4_judge_54 : decode cX4_judge 54 = .ok (.aload_n 0, 1) := by decide +kernel
theorem dX4_judge_55 : decode cX4_judge 55 = .ok (.aload_n 0, 1) := by decide +kernel
theorem dX4_judge_56 : decode cX4_judge 56 = .ok (.getfield 7, 3) := by decide +kernel
theorem dX4_judge_59 : decode cX4_judge 59 = .ok (.iload_n 1, 1) := by decide +kernel
theorem dX4_judge_60 : decode cX4_judge 60 = .ok (.iaload, 1) := by decide +kernel
theorem dX4_judge_61 : decode cX4_judge 61 = .ok (.iload_n 2, 1) := by decide +kernel
theorem dX4_judge_62 : decode cX4_judge 62 = .ok (.aload_n 0, 1) := by decide +kernel
theorem dX4_judge_63 : decode cX4_judge 63 = .ok (.getfield 16, 3) := by decide +kernel
theorem dX4_judge_66 : decode cX4_judge 66 = .ok (.iload_n 1, 1) := by decide +kernel
theorem dX4_judge_67 : decode cX4_judge 67 = .ok (.iaload, 1) := by decide +kernel
theorem dX4_judge_68 : decode cX4_judge 68 = .ok (.iload_n 3, 1) := by decide +kernel
theorem dX4_judge_69 : decode cX4_judge 69 = .ok (.iconst 1, 1) := by decide +kernel
theorem dX4_judge_70 : decode cX4_judge 70 = .ok (.invokevirtual 98, 3) := by decide +kernel
theorem dX4_judge_73 : decode cX4_judge 73 = .ok (.aload_n 0, 1) := by decide +kernel
theorem dX4_judge_74 : decode cX4_judge 74 = .ok (.sipush 1000, 3) := by decide +kernel
theorem dX4_judge_77 : decode cX4_judge 77 = .ok (.aload_n 0, 1) := by decide +kernel
theorem dX4_judge_78 : decode cX4_judge 78 = .ok (.getfield 22, 3) := by decide +kernel
theorem dX4_judge_81 : decode cX4_judge 81 = .ok (.isub, 1) := by decide +kernel
theorem dX4_judge_82 : decode cX4_judge 82 = .ok (.invokevirtual 107, 3) := by decide +kernel
theorem dX4_judge_85 : decode cX4_judge 85 = .ok (.ifCond .eq 7, 3) := by decide +kernel
theorem dX4_judge_88 : decode cX4_judge 88 = .ok (.iconst 3, 1) := by decide +kernel
theorem dX4_judge_89 : decode cX4_judge 89 = .ok (.goto 4, 3) := by decide +kernel
theorem dX4_judge_92 : decode cX4_judge 92 = .ok (.iconst 2, 1) := by decide +kernel
theorem dX4_judge_93 : decode cX4_judge 93 = .ok (.ireturn, 1) := by decide +kernel
set_option maxRecDepth 20000 in
theorem ggX4_verdict_X4_isMailing : GoodIn wsX4_verdict wsX4_isMailing := goodIn_r _ [7, 8, 55, 56, 57, 58, 59, 60, 61, 62, 63, 64, 65, 66, 67, 68, 69] (by decide +kernel) (by decide +kernel)
set_option maxRecDepth 20000 in
theorem gX4_verdict_X4_isMailing : GoodIn wsX4_verdict (wsV RX4 54 RX4 yX4_isMailing wsX4_isMailing) := goodIn_app (goodIn_of _ (by decide +kernel)) ggX4_verdict_X4_isMailing
set_option maxRecDepth 20000 in
theorem ggX4_verdict_X4_judge : GoodIn wsX4_verdict wsX4_judge := goodIn_r _ [12, 13, 2, 14, 15, 16, 17, 6, 18, 19, 20, 21, 22, 23, 24, 25, 26, 27, 28, 29, 30, 31, 32, 33, 34, 35, 36, 37, 38, 39, 40, 41, 42, 43, 44, 45, 46, 47, 48, 49, 50, 51, 52, 53, 54, 55, 56, 57, 58, 59, 60, 61, 62, 63, 64, 65, 66, 67, 68, 69] (by decide +kernel) (by decide +kernel)
set_option maxRecDepth 20000 in
theorem gX4_verdict_X4_judge : GoodIn wsX4_verdict (wsV RX4 110 RX4 yX4_judge wsX4_judge) := goodIn_app (goodIn_of _ (by decide +kernel)) ggX4_verdict_X4_judge
theorem dX4_verdict_0 : decode cX4_verdict 0 = .ok (.aload_n 0, 1) := by decide +kernel
theorem dX4_verdict_1 : decode cX4_verdict 1 = .ok (.iconst 0, 1) := by decide +kernel
theorem dX4_verdict_2 : decode cX4_verdict 2 = .ok (.putfield 48, 3) := by decide +kernel
theorem dX4_verdict_5 : decode cX4_verdict 5 = .ok (.aload_n 0, 1) := by decide +kernel
theorem dX4_verdict_6 : decode cX4_verdict 6 = .ok (.iload_n 1, 1) := by decide +kernel
theorem dX4_verdict_7 : decode cX4_verdict 7 = .ok (.invokevirtual 54, 3) := by decide +kernel
theorem dX4_verdict_10 : decode cX4_verdict 10 = .ok (.ifCond .ne 6, 3) := by decide +kernel
theorem dX4_verdict_13 : decode cX4_verdict 13 = .ok (.bipush (-11), 2) := by decide +kernel
theorem dX4_verdict_15 : decode cX4_verdict 15 = .ok (.ireturn, 1) := by decide +kernel
theorem dX4_verdict_16 : decode cX4_verdict 16 = .ok (.aload_n 0, 1) := by decide +kernel
theorem dX4_verdict_17 : decode cX4_verdict 17 = .ok (.getfield 16, 3) := by decide +kernel
theorem dX4_verdict_20 : decode cX4_verdict 20 = .ok (.iload_n 1, 1) := by decide +kernel
theorem dX4_verdict_21 : decode cX4_verdict 21 = .ok (.iaload, 1) := by decide +kernel
theorem dX4_verdict_22 : decode cX4_verdict 22 = .ok (.ifCond .ne 8, 3) := by decide +kernel
theorem dX4_verdict_25 : decode cX4_verdict 25 = .ok (.bipush (-13), 2) := by decide +kernel
theorem dX4_verdict_27 : decode cX4_verdict 27 = .ok (.goto 8, 3) := by decide +kernel
theorem dX4_verdict_30 : decode cX4_verdict 30 = .ok (.aload_n 0, 1) := by decide +kernel
theorem dX4_verdict_31 : decode cX4_verdict 31 = .ok (.iload_n 1, 1) := by decide +kernel
theorem dX4_verdict_32 : decode cX4_verdict 32 = .ok (.invokevirtual 110, 3) := by decide +kernel
theorem dX4_verdict_35 : decode cX4_verdict 35 = .ok (.ireturn, 1) := by decide +kernel
theorem dX4_share_0 : decode cX4_share 0 = .ok (.aload_n 0, 1) := by decide +kernel
theorem dX4_share_1 : decode cX4_share 1 = .ok (.iload_n 2, 1) := by decide +kernel
theorem dX4_share_2 : decode cX4_share 2 = .ok (.ifCond .ne 7, 3) := by decide +kernel
theorem dX4_share_5 : decode cX4_share 5 = .ok (.iconst 1, 1) := by decide +kernel
theorem dX4_share_6 : decode cX4_share 6 = .ok (.goto 4, 3) := by decide +kernel
theorem dX4_share_9 : decode cX4_share 9 = .ok (.iconst 0, 1) := by decide +kernel
theorem dX4_share_10 : decode cX4_share 10 = .ok (.putfield 48, 3) := by decide +kernel
theorem dX4_share_13 : decode cX4_share 13 = .ok (.aload_n 0, 1) := by decide +kernel
theorem dX4_share_14 : decode cX4_share 14 = .ok (.getfield 48, 3) := by decide +kernel
theorem dX4_share_17 : decode cX4_share 17 = .ok (.ifCond .le 7, 3) := by decide +kernel
theorem dX4_share_20 : decode cX4_share 20 = .ok (.lconst 0, 1) := by decide +kernel
theorem dX4_share_21 : decode cX4_share 21 = .ok (.goto 12, 3) := by decide +kernel
theorem dX4_share_24 : decode cX4_share 24 = .ok (.iload_n 1, 1) := by decide +kernel
theorem dX4_share_25 : decode cX4_share 25 = .ok (.i2l, 1) := by decide +kernel
theorem dX4_share_26 : decode cX4_share 26 = .ok (.ldc2_w 113, 3) := by decide +kernel
theorem dX4_share_29 : decode cX4_share 29 = .ok (.lmul, 1) := by decide +kernel
theorem dX4_share_30 : decode cX4_share 30 = .ok (.iload_n 2, 1) := by decide +kernel
theorem dX4_share_31 : decode cX4_share 31 = .ok (.i2l, 1) := by decide +kernel
theorem dX4_share_32 : decode cX4_share 32 = .ok (.ldiv, 1) := by decide +kernel
theorem dX4_share_33 : decode cX4_share 33 = .ok (.lreturn, 1) := by decide +kernel
set_option maxRecDepth 20000 in
theorem ggX4_shown_X4_isMailing : GoodIn wsX4_shown wsX4_isMailing := goodIn_r _ [8, 9, 15, 16, 17, 18, 19, 20, 21, 22, 23, 24, 25, 26, 27, 28, 29] (by decide +kernel) (by decide +kernel)
set_option maxRecDepth 20000 in
theorem gX4_shown_X4_isMailing : GoodIn wsX4_shown (wsV RX4 54 RX4 yX4_isMailing wsX4_isMailing) := goodIn_app (goodIn_of _ (by decide +kernel)) ggX4_shown_X4_isMailing
set_option maxRecDepth 20000 in
theorem ggX4_shown_X4_wrongOf : GoodIn wsX4_shown wsX4_wrongOf := goodIn_r _ [13, 14, 15, 16, 17, 18, 19, 20, 21, 22, 23, 24, 25, 26, 27, 28, 29] (by decide +kernel) (by decide +kernel)
set_option maxRecDepth 20000 in
theorem gX4_shown_X4_wrongOf : GoodIn wsX4_shown (wsV RX4 65 RX4 yX4_wrongOf wsX4_wrongOf) := goodIn_app (goodIn_of _ (by decide +kernel)) ggX4_shown_X4_wrongOf
theorem dX4_shown_0 : decode cX4_shown 0 = .ok (.aload_n 0, 1) := by decide +kernel
theorem dX4_shown_1 : decode cX4_shown 1 = .ok (.iconst 0, 1) := by decide +kernel
theorem dX4_shown_2 : decode cX4_shown 2 = .ok (.putfield 48, 3) := by decide +kernel
theorem dX4_shown_5 : decode cX4_shown 5 = .ok (.aload_n 0, 1) := by decide +kernel
theorem dX4_shown_6 : decode cX4_shown 6 = .ok (.iload_n 1, 1) := by decide +kernel
theorem dX4_shown_7 : decode cX4_shown 7 = .ok (.invokevirtual 54, 3) := by decide +kernel
theorem dX4_shown_10 : decode cX4_shown 10 = .ok (.ifCond .ne 7, 3) := by decide +kernel
theorem dX4_shown_13 : decode cX4_shown 13 = .ok (.ldc2_w 115, 3) := by decide +kernel
theorem dX4_shown_16 : decode cX4_shown 16 = .ok (.dreturn, 1) := by decide +kernel
theorem dX4_shown_17 : decode cX4_shown 17 = .ok (.aload_n 0, 1) := by decide +kernel
theorem dX4_shown_18 : decode cX4_shown 18 = .ok (.getfield 16, 3) := by decide +kernel
theorem dX4_shown_21 : decode cX4_shown 21 = .ok (.iload_n 1, 1) := by decide +kernel
theorem dX4_shown_22 : decode cX4_shown 22 = .ok (.iaload, 1) := by decide +kernel
theorem dX4_shown_23 : decode cX4_shown 23 = .ok (.ifCond .ne 7, 3) := by decide +kernel
theorem dX4_shown_26 : decode cX4_shown 26 = .ok (.dconst 0, 1) := by decide +kernel
theorem dX4_shown_27 : decode cX4_shown 27 = .ok (.goto 17, 3) := by decide +kernel
theorem dX4_shown_30 : decode cX4_shown 30 = .ok (.aload_n 0, 1) := by decide +kernel
theorem dX4_shown_31 : decode cX4_shown 31 = .ok (.iload_n 1, 1) := by decide +kernel
theorem dX4_shown_32 : decode cX4_shown 32 = .ok (.invokevirtual 65, 3) := by decide +kernel
theorem dX4_shown_35 : decode cX4_shown 35 = .ok (.i2d, 1) := by decide +kernel
theorem dX4_shown_36 : decode cX4_shown 36 = .ok (.aload_n 0, 1) := by decide +kernel
theorem dX4_shown_37 : decode cX4_shown 37 = .ok (.getfield 16, 3) := by decide +kernel
theorem dX4_shown_40 : decode cX4_shown 40 = .ok (.iload_n 1, 1) := by decide +kernel
theorem dX4_shown_41 : decode cX4_shown 41 = .ok (.iaload, 1) := by decide +kernel
theorem dX4_shown_42 : decode cX4_shown 42 = .ok (.i2d, 1) := by decide +kernel
theorem dX4_shown_43 : decode cX4_shown 43 = .ok (.ddiv, 1) := by decide +kernel
theorem dX4_shown_44 : decode cX4_shown 44 = .ok (.dreturn, 1) := by decide +kernel
theorem dX4_plan_0 : decode cX4_plan 0 = .ok (.aload_n 0, 1) := by decide +kernel
theorem dX4_plan_1 : decode cX4_plan 1 = .ok (.iconst 0, 1) := by decide +kernel
theorem dX4_plan_2 : decode cX4_plan 2 = .ok (.putfield 48, 3) := by decide +kernel
theorem dX4_plan_5 : decode cX4_plan 5 = .ok (.iload_n 1, 1) := by decide +kernel
theorem dX4_plan_6 : decode cX4_plan 6 = .ok (.ifCond .lt 18, 3) := by decide +kernel
theorem dX4_plan_9 : decode cX4_plan 9 = .ok (.iload_n 1, 1) := by decide +kernel
theorem dX4_plan_10 : decode cX4_plan 10 = .ok (.bipush 49, 2) := by decide +kernel
theorem dX4_plan_12 : decode cX4_plan 12 = .ok (.if_icmp .gt 12, 3) := by decide +kernel
theorem dX4_plan_15 : decode cX4_plan 15 = .ok (.iload_n 2, 1) := by decide +kernel
theorem dX4_plan_16 : decode cX4_plan 16 = .ok (.ifCond .lt 8, 3) := by decide +kernel
theorem dX4_plan_19 : decode cX4_plan 19 = .ok (.iload_n 2, 1) := by decide +kernel
theorem dX4_plan_20 : decode cX4_plan 20 = .ok (.iconst 2, 1) := by decide +kernel
theorem dX4_plan_21 : decode cX4_plan 21 = .ok (.if_icmp .le 6, 3) := by decide +kernel
theorem dX4_plan_24 : decode cX4_plan 24 = .ok (.bipush (-12), 2) := by decide +kernel
theorem dX4_plan_26 : decode cX4_plan 26 = .ok (.ireturn, 1) := by decide +kernel
theorem dX4_plan_27 : decode cX4_plan 27 = .ok (.iload_n 2, 1) := by decide +kernel
theorem dX4_plan_28 : decode cX4_plan 28 = .ok (.ifCond .ne 44, 3) := by decide +kernel
theorem dX4_plan_31 : decode cX4_plan 31 = .ok (.aload_n 0, 1) := by decide +kernel
theorem dX4_plan_32 : decode cX4_plan 32 = .ok (.getfield 29, 3) := by decide +kernel
theorem dX4_plan_35 : decode cX4_plan 35 = .ok (.iload_n 1, 1) := by decide +kernel
theorem dX4_plan_36 : decode cX4_plan 36 = .ok (.iconst 0, 1) := by decide +kernel
theorem dX4_plan_37 : decode cX4_plan 37 = .ok (.iastore, 1) := by decide +kernel
theorem dX4_plan_38 : decode cX4_plan 38 = .ok (.aload_n 0, 1) := by decide +kernel
theorem dX4_plan_39 : decode cX4_plan 39 = .ok (.getfield 26, 3) := by decide +kernel
theorem dX4_plan_42 : decode cX4_plan 42 = .ok (.iload_n 1, 1) := by decide +kernel
theorem dX4_plan_43 : decode cX4_plan 43 = .ok (.aload_n 0, 1) := by decide +kernel
theorem dX4_plan_44 : decode cX4_plan 44 = .ok (.getfield 26, 3) := by decide +kernel
theorem dX4_plan_47 : decode cX4_plan 47 = .ok (.iload_n 1, 1) := by decide +kernel
theorem dX4_plan_48 : decode cX4_plan 48 = .ok (.iaload, 1) := by decide +kernel
theorem dX4_plan_49 : decode cX4_plan 49 = .ok (.bipush 10, 2) := by decide +kernel
theorem dX4_plan_51 : decode cX4_plan 51 = .ok (.iadd, 1) := by decide +kernel
theorem dX4_plan_52 : decode cX4_plan 52 = .ok (.bipush 60, 2) := by decide +kernel
theorem dX4_plan_54 : decode cX4_plan 54 = .ok (.if_icmp .le 8, 3) := by decide +kernel
theorem dX4_plan_57 : decode cX4_plan 57 = .ok (.bipush 60, 2) := by decide +kernel
theorem dX4_plan_59 : decode cX4_plan 59 = .ok (.goto 12, 3) := by decide +kernel
theorem dX4_plan_62 : decode cX4_plan 62 = .ok (.aload_n 0, 1) := by decide +kernel
theorem dX4_plan_63 : decode cX4_plan 63 = .ok (.getfield 26, 3) := by decide +kernel
theorem dX4_plan_66 : decode cX4_plan 66 = .ok (.iload_n 1, 1) := by decide +kernel
theorem dX4_plan_67 : decode cX4_plan 67 = .ok (.iaload, 1) := by decide +kernel
theorem dX4_plan_68 : decode cX4_plan 68 = .ok (.bipush 10, 2) := by decide +kernel
theorem dX4_plan_70 : decode cX4_plan 70 = .ok (.iadd, 1) := by decide +kernel
theorem dX4_plan_71 : decode cX4_plan 71 = .ok (.iastore, 1) := by decide +kernel
theorem dX4_plan_72 : decode cX4_plan 72 = .ok (.iload_n 2, 1) := by decide +kernel
theorem dX4_plan_73 : decode cX4_plan 73 = .ok (.iconst 1, 1) := by decide +kernel
theorem dX4_plan_74 : decode cX4_plan 74 = .ok (.if_icmp .ne 60, 3) := by decide +kernel
theorem dX4_plan_77 : decode cX4_plan 77 = .ok (.aload_n 0, 1) := by decide +kernel
theorem dX4_plan_78 : decode cX4_plan 78 = .ok (.getfield 29, 3) := by decide +kernel
theorem dX4_plan_81 : decode cX4_plan 81 = .ok (.iload_n 1, 1) := by decide +kernel
theorem dX4_plan_82 : decode cX4_plan 82 = .ok (.dup2, 1) := by decide +kernel
theorem dX4_plan_83 : decode cX4_plan 83 = .ok (.iaload, 1) := by decide +kernel
theorem dX4_plan_84 : decode cX4_plan 84 = .ok (.iconst 1, 1) := by decide +kernel
theorem dX4_plan_85 : decode cX4_plan 85 = .ok (.iadd, 1) := by decide +kernel
theorem dX4_plan_86 : decode cX4_plan 86 = .ok (.iastore, 1) := by decide +kernel
theorem dX4_plan_87 : decode cX4_plan 87 = .ok (.aload_n 0, 1) := by decide +kernel
theorem dX4_plan_88 : decode cX4_plan 88 = .ok (.getfield 29, 3) := by decide +kernel
theorem dX4_plan_91 : decode cX4_plan 91 = .ok (.iload_n 1, 1) := by decide +kernel
theorem dX4_plan_92 : decode cX4_plan 92 = .ok (.iaload, 1) := by decide +kernel
theorem dX4_plan_93 : decode cX4_plan 93 = .ok (.iconst 3, 1) := by decide +kernel
theorem dX4_plan_94 : decode cX4_plan 94 = .ok (.if_icmp .ne 40, 3) := by decide +kernel
theorem dX4_plan_97 : decode cX4_plan 97 = .ok (.aload_n 0, 1) := by decide +kernel
theorem dX4_plan_98 : decode cX4_plan 98 = .ok (.getfield 29, 3) := by decide +kernel
theorem dX4_plan_101 : decode cX4_plan 101 = .ok (.iload_n 1, 1) := by decide +kernel
theorem dX4_plan_102 : decode cX4_plan 102 = .ok (.iconst 0, 1) := by decide +kernel
theorem dX4_plan_103 : decode cX4_plan 103 = .ok (.iastore, 1) := by decide +kernel
theorem dX4_plan_104 : decode cX4_plan 104 = .ok (.aload_n 0, 1) := by decide +kernel
theorem dX4_plan_105 : decode cX4_plan 105 = .ok (.getfield 26, 3) := by decide +kernel
theorem dX4_plan_108 : decode cX4_plan 108 = .ok (.iload_n 1, 1) := by decide +kernel
theorem dX4_plan_109 : decode cX4_plan 109 = .ok (.aload_n 0, 1) := by decide +kernel
theorem dX4_plan_110 : decode cX4_plan 110 = .ok (.getfield 26, 3) := by decide +kernel
theorem dX4_plan_113 : decode cX4_plan 113 = .ok (.iload_n 1, 1) := by decide +kernel
theorem dX4_plan_114 : decode cX4_plan 114 = .ok (.iaload, 1) := by decide +kernel
theorem dX4_plan_115 : decode cX4_plan 115 = .ok (.iconst 5, 1) := by decide +kernel
theorem dX4_plan_116 : decode cX4_plan 116 = .ok (.isub, 1) := by decide +kernel
theorem dX4_plan_117 : decode cX4_plan 117 = .ok (.iconst 5, 1) := by decide +kernel
theorem dX4_plan_118 : decode cX4_plan 118 = .ok (.if_icmp .ge 7, 3) := by decide +kernel
theorem dX4_plan_121 : decode cX4_plan 121 = .ok (.iconst 5, 1) := by decide +kernel
theorem dX4_plan_122 : decode cX4_plan 122 = .ok (.goto 11, 3) := by decide +kernel
theorem dX4_plan_125 : decode cX4_plan 125 = .ok (.aload_n 0, 1) := by decide +kernel
theorem dX4_plan_126 : decode cX4_plan 126 = .ok (.getfield 26, 3) := by decide +kernel
theorem dX4_plan_129 : decode cX4_plan 129 = .ok (.iload_n 1, 1) := by decide +kernel
theorem dX4_plan_130 : decode cX4_plan 130 = .ok (.iaload, 1) := by decide +kernel
theorem dX4_plan_131 : decode cX4_plan 131 = .ok (.iconst 5, 1) := by decide +kernel
theorem dX4_plan_132 : decode cX4_plan 132 = .ok (.isub, 1) := by decide +kernel
theorem dX4_plan_133 : decode cX4_plan 133 = .ok (.iastore, 1) := by decide +kernel
theorem dX4_plan_134 : decode cX4_plan 134 = .ok (.aload_n 0, 1) := by decide +kernel
theorem dX4_plan_135 : decode cX4_plan 135 = .ok (.getfield 26, 3) := by decide +kernel
theorem dX4_plan_138 : decode cX4_plan 138 = .ok (.iload_n 1, 1) := by decide +kernel
theorem dX4_plan_139 : decode cX4_plan 139 = .ok (.iaload, 1) := by decide +kernel
theorem dX4_plan_140 : decode cX4_plan 140 = .ok (.ireturn, 1) := by decide +kernel
set_option maxRecDepth 20000 in
theorem ggX4_surcharge_X4_isMailing : GoodIn wsX4_surcharge wsX4_isMailing := goodIn_r _ [10, 11, 58, 59, 60, 61, 62, 63, 64, 65, 66, 67, 68, 69, 70, 71, 72] (by decide +kernel) (by decide +kernel)
set_option maxRecDepth 20000 in
theorem gX4_surcharge_X4_isMailing : GoodIn wsX4_surcharge (wsV RX4 54 RX4 yX4_isMailing wsX4_isMailing) := goodIn_app (goodIn_of _ (by decide +kernel)) ggX4_surcharge_X4_isMailing
set_option maxRecDepth 20000 in
theorem ggX4_surcharge_X4_judge : GoodIn wsX4_surcharge wsX4_judge := goodIn_r _ [15, 16, 3, 17, 18, 19, 20, 9, 21, 22, 23, 24, 25, 26, 27, 28, 29, 30, 31, 32, 33, 34, 35, 36, 37, 38, 39, 40, 41, 42, 43, 44, 45, 46, 47, 48, 49, 50, 51, 52, 53, 54, 55, 56, 57, 58, 59, 60, 61, 62, 63, 64, 65, 66, 67, 68, 69, 70, 71, 72] (by decide +kernel) (by decide +kernel)
set_option maxRecDepth 20000 in
theorem gX4_surcharge_X4_judge : GoodIn wsX4_surcharge (wsV RX4 110 RX4 yX4_judge wsX4_judge) := goodIn_app (goodIn_of _ (by decide +kernel)) ggX4_surcharge_X4_judge
set_option maxRecDepth 20000 in
theorem ggX4_surcharge_X4_wrongOf : GoodIn wsX4_surcharge wsX4_wrongOf := goodIn_r _ [21, 22, 58, 59, 60, 61, 62, 63, 64, 65, 66, 67, 68, 69, 70, 71, 72] (by decide +kernel) (by decide +kernel)
set_option maxRecDepth 20000 in
theorem gX4_surcharge_X4_wrongOf : GoodIn wsX4_surcharge (wsV RX4 65 RX4 yX4_wrongOf wsX4_wrongOf) := goodIn_app (goodIn_of _ (by decide +kernel)) ggX4_surcharge_X4_wrongOf
theorem dX4_surcharge_0 : decode cX4_surcharge 0 = .ok (.aload_n 0, 1) := by decide +kernel
theorem dX4_surcharge_1 : decode cX4_surcharge 1 = .ok (.iconst 0, 1) := by decide +kernel
theorem dX4_surcharge_2 : decode cX4_surcharge 2 = .ok (.putfield 48, 3) := by decide +kernel
theorem dX4_surcharge_5 : decode cX4_surcharge 5 = .ok (.aload_n 0, 1) := by decide +kernel
theorem dX4_surcharge_6 : decode cX4_surcharge 6 = .ok (.iload_n 1, 1) := by decide +kernel
theorem dX4_surcharge_7 : decode cX4_surcharge 7 = .ok (.invokevirtual 54, 3) := by decide +kernel
theorem dX4_surcharge_10 : decode cX4_surcharge 10 = .ok (.ifCond .ne 7, 3) := by decide +kernel
theorem dX4_surcharge_13 : decode cX4_surcharge 13 = .ok (.ldc2_w 117, 3) := by decide +kernel
theorem dX4_surcharge_16 : decode cX4_surcharge 16 = .ok (.lreturn, 1) := by decide +kernel
theorem dX4_surcharge_17 : decode cX4_surcharge 17 = .ok (.aload_n 0, 1) := by decide +kernel
theorem dX4_surcharge_18 : decode cX4_surcharge 18 = .ok (.getfield 16, 3) := by decide +kernel
theorem dX4_surcharge_21 : decode cX4_surcharge 21 = .ok (.iload_n 1, 1) := by decide +kernel
theorem dX4_surcharge_22 : decode cX4_surcharge 22 = .ok (.iaload, 1) := by decide +kernel
theorem dX4_surcharge_23 : decode cX4_surcharge 23 = .ok (.ifCond .ne 7, 3) := by decide +kernel
theorem dX4_surcharge_26 : decode cX4_surcharge 26 = .ok (.ldc2_w 119, 3) := by decide +kernel
theorem dX4_surcharge_29 : decode cX4_surcharge 29 = .ok (.lreturn, 1) := by decide +kernel
theorem dX4_surcharge_30 : decode cX4_surcharge 30 = .ok (.lconst 0, 1) := by decide +kernel
theorem dX4_surcharge_31 : decode cX4_surcharge 31 = .ok (.lstore_n 2, 1) := by decide +kernel
theorem dX4_surcharge_32 : decode cX4_surcharge 32 = .ok (.iconst 1, 1) := by decide +kernel
theorem dX4_surcharge_33 : decode cX4_surcharge 33 = .ok (.istore 4, 2) := by decide +kernel
theorem dX4_surcharge_35 : decode cX4_surcharge 35 = .ok (.iload 4, 2) := by decide +kernel
theorem dX4_surcharge_37 : decode cX4_surcharge 37 = .ok (.iconst 4, 1) := by decide +kernel
theorem dX4_surcharge_38 : decode cX4_surcharge 38 = .ok (.if_icmp .ge 28, 3) := by decide +kernel
theorem dX4_surcharge_41 : decode cX4_surcharge 41 = .ok (.lload_n 2, 1) := by decide +kernel
theorem dX4_surcharge_42 : decode cX4_surcharge 42 = .ok (.iload 4, 2) := by decide +kernel
theorem dX4_surcharge_44 : decode cX4_surcharge 44 = .ok (.i2l, 1) := by decide +kernel
theorem dX4_surcharge_45 : decode cX4_surcharge 45 = .ok (.aload_n 0, 1) := by decide +kernel
theorem dX4_surcharge_46 : decode cX4_surcharge 46 = .ok (.getfield 13, 3) := by decide +kernel
theorem dX4_surcharge_49 : decode cX4_surcharge 49 = .ok (.iconst 4, 1) := by decide +kernel
theorem dX4_surcharge_50 : decode cX4_surcharge 50 = .ok (.iload_n 1, 1) := by decide +kernel
theorem dX4_surcharge_51 : decode cX4_surcharge 51 = .ok (.imul, 1) := by decide +kernel
theorem dX4_surcharge_52 : decode cX4_surcharge 52 = .ok (.iload 4, 2) := by decide +kernel
theorem dX4_surcharge_54 : decode cX4_surcharge 54 = .ok (.iadd, 1) := by decide +kernel
theorem dX4_surcharge_55 : decode cX4_surcharge 55 = .ok (.iaload, 1) := by decide +kernel
theorem dX4_surcharge_56 : decode cX4_surcharge 56 = .ok (.i2l, 1) := by decide +kernel
theorem dX4_surcharge_57 : decode cX4_surcharge 57 = .ok (.lmul, 1) := by decide +kernel
theorem dX4_surcharge_58 : decode cX4_surcharge 58 = .ok (.ladd, 1) := by decide +kernel
theorem dX4_surcharge_59 : decode cX4_surcharge 59 = .ok (.lstore_n 2, 1) := by decide +kernel
theorem dX4_surcharge_60 : decode cX4_surcharge 60 = .ok (.iinc 4 1, 3) := by decide +kernel
theorem dX4_surcharge_63 : decode cX4_surcharge 63 = .ok (.goto (-28), 3) := by decide +kernel
theorem dX4_surcharge_66 : decode cX4_surcharge 66 = .ok (.aload_n 0, 1) := by decide +kernel
theorem dX4_surcharge_67 : decode cX4_surcharge 67 = .ok (.iload_n 1, 1) := by decide +kernel
theorem dX4_surcharge_68 : decode cX4_surcharge 68 = .ok (.invokevirtual 110, 3) := by decide +kernel
theorem dX4_surcharge_71 : decode cX4_surcharge 71 = .ok (.istore 4, 2) := by decide +kernel
theorem dX4_surcharge_73 : decode cX4_surcharge 73 = .ok (.iload 4, 2) := by decide +kernel
theorem dX4_surcharge_75 : decode cX4_surcharge 75 = .ok (.iconst 2, 1) := by decide +kernel
theorem dX4_surcharge_76 : decode cX4_surcharge 76 = .ok (.if_icmp .eq 15, 3) := by decide +kernel
theorem dX4_surcharge_79 : decode cX4_surcharge 79 = .ok (.iload 4, 2) := by decide +kernel
theorem dX4_surcharge_81 : decode cX4_surcharge 81 = .ok (.iconst 1, 1) := by decide +kernel
theorem dX4_surcharge_82 : decode cX4_surcharge 82 = .ok (.if_icmp .ne 7, 3) := by decide +kernel
theorem dX4_surcharge_85 : decode cX4_surcharge 85 = .ok (.lconst 0, 1) := by decide +kernel
theorem dX4_surcharge_86 : decode cX4_surcharge 86 = .ok (.goto 4, 3) := by decide +kernel
theorem dX4_surcharge_89 : decode cX4_surcharge 89 = .ok (.lload_n 2, 1) := by decide +kernel
theorem dX4_surcharge_90 : decode cX4_surcharge 90 = .ok (.lreturn, 1) := by decide +kernel
theorem dX4_surcharge_91 : decode cX4_surcharge 91 = .ok (.lload_n 2, 1) := by decide +kernel
theorem dX4_surcharge_92 : decode cX4_surcharge 92 = .ok (.aload_n 0, 1) := by decide +kernel
theorem dX4_surcharge_93 : decode cX4_surcharge 93 = .ok (.iload_n 1, 1) := by decide +kernel
theorem dX4_surcharge_94 : decode cX4_surcharge 94 = .ok (.invokevirtual 65, 3) := by decide +kernel
theorem dX4_surcharge_97 : decode cX4_surcharge 97 = .ok (.i2l, 1) := by decide +kernel
theorem dX4_surcharge_98 : decode cX4_surcharge 98 = .ok (.lmul, 1) := by decide +kernel
theorem dX4_surcharge_99 : decode cX4_surcharge 99 = .ok (.lstore 5, 2) := by decide +kernel
theorem dX4_surcharge_101 : decode cX4_surcharge 101 = .ok (.lload 5, 2) := by decide +kernel
theorem dX4_surcharge_103 : decode cX4_surcharge 103 = .ok (.aload_n 0, 1) := by decide +kernel
theorem dX4_surcharge_104 : decode cX4_surcharge 104 = .ok (.getfield 16, 3) := by decide +kernel
theorem dX4_surcharge_107 : decode cX4_surcharge 107 = .ok (.iload_n 1, 1) := by decide +kernel
theorem dX4_surcharge_108 : decode cX4_surcharge 108 = .ok (.iaload, 1) := by decide +kernel
theorem dX4_surcharge_109 : decode cX4_surcharge 109 = .ok (.i2l, 1) := by decide +kernel
theorem dX4_surcharge_110 : decode cX4_surcharge 110 = .ok (.ldiv, 1) := by decide +kernel
theorem dX4_surcharge_111 : decode cX4_surcharge 111 = .ok (.lstore 7, 2) := by decide +kernel
theorem dX4_surcharge_113 : decode cX4_surcharge 113 = .ok (.lload 7, 2) := by decide +kernel
theorem dX4_surcharge_115 : decode cX4_surcharge 115 = .ok (.aload_n 0, 1) := by decide +kernel
theorem dX4_surcharge_116 : decode cX4_surcharge 116 = .ok (.getfield 16, 3) := by decide +kernel
theorem dX4_surcharge_119 : decode cX4_surcharge 119 = .ok (.iload_n 1, 1) := by decide +kernel
theorem dX4_surcharge_120 : decode cX4_surcharge 120 = .ok (.iaload, 1) := by decide +kernel
theorem dX4_surcharge_121 : decode cX4_surcharge 121 = .ok (.i2l, 1) := by decide +kernel
theorem dX4_surcharge_122 : decode cX4_surcharge 122 = .ok (.lmul, 1) := by decide +kernel
theorem dX4_surcharge_123 : decode cX4_surcharge 123 = .ok (.lload 5, 2) := by decide +kernel
theorem dX4_surcharge_125 : decode cX4_surcharge 125 = .ok (.lcmp, 1) := by decide +kernel
theorem dX4_surcharge_126 : decode cX4_surcharge 126 = .ok (.ifCond .ge 10, 3) := by decide +kernel
theorem dX4_surcharge_129 : decode cX4_surcharge 129 = .ok (.lload 7, 2) := by decide +kernel
theorem dX4_surcharge_131 : decode cX4_surcharge 131 = .ok (.lconst 1, 1) := by decide +kernel
theorem dX4_surcharge_132 : decode cX4_surcharge 132 = .ok (.ladd, 1) := by decide +kernel
theorem dX4_surcharge_133 : decode cX4_surcharge 133 = .ok (.goto 5, 3) := by decide +kernel
theorem dX4_surcharge_136 : decode cX4_surcharge 136 = .ok (.lload 7, 2) := by decide +kernel
theorem dX4_surcharge_138 : decode cX4_surcharge 138 = .ok (.lreturn, 1) := by decide +kernel
theorem dX4_bound_0 : decode cX4_bound 0 = .ok (.aload_n 0, 1) := by decide +kernel
theorem dX4_bound_1 : decode cX4_bound 1 = .ok (.iconst 0, 1) := by decide +kernel
theorem dX4_bound_2 : decode cX4_bound 2 = .ok (.putfield 48, 3) := by decide +kernel
theorem dX4_bound_5 : decode cX4_bound 5 = .ok (.iload_n 1, 1) := by decide +kernel
theorem dX4_bound_6 : decode cX4_bound 6 = .ok (.sipush 500, 3) := by decide +kernel
theorem dX4_bound_9 : decode cX4_bound 9 = .ok (.if_icmp .lt 10, 3) := by decide +kernel
theorem dX4_bound_12 : decode cX4_bound 12 = .ok (.iload_n 1, 1) := by decide +kernel
theorem dX4_bound_13 : decode cX4_bound 13 = .ok (.sipush 999, 3) := by decide +kernel
theorem dX4_bound_16 : decode cX4_bound 16 = .ok (.if_icmp .le 5, 3) := by decide +kernel
theorem dX4_bound_19 : decode cX4_bound 19 = .ok (.iconst 0, 1) := by decide +kernel
theorem dX4_bound_20 : decode cX4_bound 20 = .ok (.ireturn, 1) := by decide +kernel
theorem dX4_bound_21 : decode cX4_bound 21 = .ok (.aload_n 0, 1) := by decide +kernel
theorem dX4_bound_22 : decode cX4_bound 22 = .ok (.iload_n 1, 1) := by decide +kernel
theorem dX4_bound_23 : decode cX4_bound 23 = .ok (.putfield 22, 3) := by decide +kernel
theorem dX4_bound_26 : decode cX4_bound 26 = .ok (.iconst 1, 1) := by decide +kernel
theorem dX4_bound_27 : decode cX4_bound 27 = .ok (.ireturn, 1) := by decide +kernel
theorem dJ9_max_7cf53_0 : decode cJ9_max_7cf53 0 = .ok (.iload_n 0, 1) := by decide +kernel
theorem dJ9_max_7cf53_1 : decode cJ9_max_7cf53 1 = .ok (.iload_n 1, 1) := by decide +kernel
theorem dJ9_max_7cf53_2 : decode cJ9_max_7cf53 2 = .ok (.if_icmp .lt 7, 3) := by decide +kernel
theorem dJ9_max_7cf53_5 : decode cJ9_max_7cf53 5 = .ok (.iload_n 0, 1) := by decide +kernel
theorem dJ9_max_7cf53_6 : decode cJ9_max_7cf53 6 = .ok (.goto 4, 3) := by decide +kernel
theorem dJ9_max_7cf53_9 : decode cJ9_max_7cf53 9 = .ok (.iload_n 1, 1) := by decide +kernel
theorem dJ9_max_7cf53_10 : decode cJ9_max_7cf53 10 = .ok (.ireturn, 1) := by decide +kernel
theorem dJ9_min_7cf53_0 : decode cJ9_min_7cf53 0 = .ok (.iload_n 0, 1) := by decide +kernel
theorem dJ9_min_7cf53_1 : decode cJ9_min_7cf53 1 = .ok (.iload_n 1, 1) := by decide +kernel
theorem dJ9_min_7cf53_2 : decode cJ9_min_7cf53 2 = .ok (.if_icmp .gt 7, 3) := by decide +kernel
theorem dJ9_min_7cf53_5 : decode cJ9_min_7cf53 5 = .ok (.iload_n 0, 1) := by decide +kernel
theorem dJ9_min_7cf53_6 : decode cJ9_min_7cf53 6 = .ok (.goto 4, 3) := by decide +kernel
theorem dJ9_min_7cf53_9 : decode cJ9_min_7cf53 9 = .ok (.iload_n 1, 1) := by decide +kernel
theorem dJ9_min_7cf53_10 : decode cJ9_min_7cf53 10 = .ok (.ireturn, 1) := by decide +kernel
set_option maxRecDepth 20000 in
theorem ggL_share_X3_share : GoodIn wsL_share wsX3_share := goodIn_ca (goodIn_r _ [6, 7, 8, 9] (by decide +kernel) (by decide +kernel)) (goodIn_sub (fun _ h => List.mem_cons_of_mem _ (List.mem_append_right _ h)) (by decide +kernel))
set_option maxRecDepth 20000 in
theorem gL_share_X3_share : GoodIn wsL_share (wsV RL 7 RX3 yX3_share wsX3_share) := goodIn_app (goodIn_of _ (by decide +kernel)) ggL_share_X3_share
theorem dL_share_0 : decode cL_share 0 = .ok (.aload_n 3, 1) := by decide +kernel
theorem dL_share_1 : decode cL_share 1 = .ok (.iconst 0, 1) := by decide +kernel
theorem dL_share_2 : decode cL_share 2 = .ok (.aload_n 0, 1) := by decide +kernel
theorem dL_share_3 : decode cL_share 3 = .ok (.iload_n 1, 1) := by decide +kernel
theorem dL_share_4 : decode cL_share 4 = .ok (.iload_n 2, 1) := by decide +kernel
theorem dL_share_5 : decode cL_share 5 = .ok (.invokevirtual 7, 3) := by decide +kernel
theorem dL_share_8 : decode cL_share 8 = .ok (.lastore, 1) := by decide +kernel
theorem dL_share_9 : decode cL_share 9 = .ok (.goto 7, 3) := by decide +kernel
theorem dL_share_12 : decode cL_share 12 = .ok (.astore 4, 2) := by decide +kernel
theorem dL_share_14 : decode cL_share 14 = .ok (.iconst 1, 1) := by decide +kernel
theorem dL_share_15 : decode cL_share 15 = .ok (.ireturn, 1) := by decide +kernel
theorem dL_share_16 : decode cL_share 16 = .ok (.iconst 0, 1) := by decide +kernel
theorem dL_share_17 : decode cL_share 17 = .ok (.ireturn, 1) := by decide +kernel
set_option maxRecDepth 20000 in
theorem ggL_law_X3_init : GoodIn wsL_law wsX3_init := goodIn_r _ [9, 10, 11, 12, 13, 14, 15, 16, 17, 18, 19, 20, 21, 22, 23, 24, 25, 26, 27, 28, 29, 30, 31, 32, 33, 34, 6, 35, 316, 317, 318, 319, 320, 321, 322, 338, 339, 340, 341] (by decide +kernel) (by decide +kernel)
set_option maxRecDepth 20000 in
theorem gL_law_X3_init : GoodIn wsL_law (wsX3_init) := ggL_law_X3_init
set_option maxRecDepth 20000 in
theorem ggL_law_X4_init : GoodIn wsL_law wsX4_init := goodIn_r _ [38, 39, 11, 12, 15, 40, 41, 42, 43, 44, 45, 46, 6, 47, 48, 49, 50, 51, 323, 324, 325, 326, 327, 328, 329, 330, 331, 332, 333, 334, 335, 336, 337] (by decide +kernel) (by decide +kernel)
set_option maxRecDepth 20000 in
theorem gL_law_X4_init : GoodIn wsL_law (wsX4_init) := ggL_law_X4_init
set_option maxRecDepth 20000 in
theorem ggL_law_X3_mailing : GoodIn wsL_law wsX3_mailing := goodIn_r _ [55, 56, 14, 13, 57, 58, 59, 60, 61, 62, 11, 12, 15, 63, 64, 65, 316, 317, 318, 319, 320, 321, 322, 342, 343, 344, 345] (by decide +kernel) (by decide +kernel)
set_option maxRecDepth 20000 in
theorem gL_law_X3_mailing : GoodIn wsL_law (wsV RL 19 RX3 yX3_mailing wsX3_mailing) := goodIn_app (goodIn_of _ (by decide +kernel)) ggL_law_X3_mailing
set_option maxRecDepth 20000 in
theorem ggL_law_X4_mailing : GoodIn wsL_law wsX4_mailing := goodIn_r _ [69, 70, 71, 40, 323, 324, 325, 326, 327, 328, 329, 330, 331, 332, 333, 334, 335, 336, 337] (by decide +kernel) (by decide +kernel)
set_option maxRecDepth 20000 in
theorem gL_law_X4_mailing : GoodIn wsL_law (wsV RL 23 RX4 yX4_mailing wsX4_mailing) := goodIn_app (goodIn_of _ (by decide +kernel)) ggL_law_X4_mailing
set_option maxRecDepth 20000 in
theorem ggL_law_X3_depth : GoodIn wsL_law wsX3_depth := goodIn_r _ [75, 76, 77, 78, 79, 80, 2, 81, 14, 82, 83, 84, 85, 86, 87, 58, 88, 89, 342, 343, 344, 345, 316, 317, 318, 319, 320, 321, 322] (by decide +kernel) (by decide +kernel)
set_option maxRecDepth 20000 in
theorem gL_law_X3_depth : GoodIn wsL_law (wsV RL 24 RX3 yX3_depth wsX3_depth) := goodIn_app (goodIn_of _ (by decide +kernel)) ggL_law_X3_depth
set_option maxRecDepth 20000 in
theorem ggL_law_X4_depth : GoodIn wsL_law wsX4_depth := goodIn_r _ [93, 70, 41, 40, 42, 94, 95, 96, 5, 97, 71, 98, 99, 100, 101, 323, 324, 325, 326, 327, 328, 329, 330, 331, 332, 333, 334, 335, 336, 337] (by decide +kernel) (by decide +kernel)
set_option maxRecDepth 20000 in
theorem gL_law_X4_depth : GoodIn wsL_law (wsV RL 28 RX4 yX4_depth wsX4_depth) := goodIn_app (goodIn_of _ (by decide +kernel)) ggL_law_X4_depth
set_option maxRecDepth 20000 in
theorem ggL_law_X3_tape : GoodIn wsL_law wsX3_tape := goodIn_r _ [105, 106, 316, 317, 318, 319, 320, 321, 322] (by decide +kernel) (by decide +kernel)
set_option maxRecDepth 20000 in
theorem gL_law_X3_tape : GoodIn wsL_law (wsV RL 29 RX3 yX3_tape wsX3_tape) := goodIn_app (goodIn_of _ (by decide +kernel)) ggL_law_X3_tape
set_option maxRecDepth 20000 in
theorem ggL_law_X4_tape : GoodIn wsL_law wsX4_tape := goodIn_r _ [110, 70, 111, 323, 324, 325, 326, 327, 328, 329, 330, 331, 332, 333, 334, 335, 336, 337] (by decide +kernel) (by decide +kernel)
set_option maxRecDepth 20000 in
theorem gL_law_X4_tape : GoodIn wsL_law (wsV RL 33 RX4 yX4_tape wsX4_tape) := goodIn_app (goodIn_of _ (by decide +kernel)) ggL_law_X4_tape
set_option maxRecDepth 20000 in
theorem ggL_law_X3_sample : GoodIn wsL_law wsX3_sample := goodIn_r _ [115, 77, 116, 117, 118, 119, 106, 120, 78, 79, 80, 2, 81, 14, 85, 86, 87, 58, 88, 89, 342, 343, 344, 345, 316, 317, 318, 319, 320, 321, 322] (by decide +kernel) (by decide +kernel)
set_option maxRecDepth 20000 in
theorem gL_law_X3_sample : GoodIn wsL_law (wsV RL 34 RX3 yX3_sample wsX3_sample) := goodIn_app (goodIn_of _ (by decide +kernel)) ggL_law_X3_sample
set_option maxRecDepth 20000 in
theorem ggL_law_X4_sample : GoodIn wsL_law wsX4_sample := goodIn_r _ [124, 70, 42, 40, 111, 94, 95, 96, 5, 97, 71, 323, 324, 325, 326, 327, 328, 329, 330, 331, 332, 333, 334, 335, 336, 337] (by decide +kernel) (by decide +kernel)
set_option maxRecDepth 20000 in
theorem gL_law_X4_sample : GoodIn wsL_law (wsV RL 38 RX4 yX4_sample wsX4_sample) := goodIn_app (goodIn_of _ (by decide +kernel)) ggL_law_X4_sample
set_option maxRecDepth 20000 in
theorem ggL_law_X3_wrong : GoodIn wsL_law wsX3_wrong := goodIn_r _ [128, 129, 120, 78, 79, 80, 2, 81, 14, 82, 83, 84, 85, 86, 87, 58, 88, 89, 342, 343, 344, 345, 316, 317, 318, 319, 320, 321, 322] (by decide +kernel) (by decide +kernel)
set_option maxRecDepth 20000 in
theorem gL_law_X3_wrong : GoodIn wsL_law (wsV RL 39 RX3 yX3_wrong wsX3_wrong) := goodIn_app (goodIn_of _ (by decide +kernel)) ggL_law_X3_wrong
set_option maxRecDepth 20000 in
theorem ggL_law_X4_wrong : GoodIn wsL_law wsX4_wrong := goodIn_r _ [133, 70, 43, 42, 94, 95, 96, 5, 97, 71, 134, 135, 136, 137, 323, 324, 325, 326, 327, 328, 329, 330, 331, 332, 333, 334, 335, 336, 337] (by decide +kernel) (by decide +kernel)
set_option maxRecDepth 20000 in
theorem gL_law_X4_wrong : GoodIn wsL_law (wsV RL 42 RX4 yX4_wrong wsX4_wrong) := goodIn_app (goodIn_of _ (by decide +kernel)) ggL_law_X4_wrong
set_option maxRecDepth 20000 in
theorem ggL_law_X3_verdict : GoodIn wsL_law wsX3_verdict := goodIn_r _ [141, 78, 79, 80, 2, 81, 14, 85, 86, 87, 58, 88, 89, 142, 143, 144, 145, 77, 129, 21, 120, 22, 82, 83, 84, 146, 147, 148, 20, 149, 150, 151, 118, 152, 153, 117, 119, 30, 31, 29, 154, 155, 156, 28, 157, 158, 159, 160, 161, 162, 35, 163, 164, 165, 166, 167, 168, 169, 170, 171, 172, 173, 174, 175, 176, 177, 178, 179, 180, 181, 182, 183, 184, 185, 186, 316, 317, 318, 319, 320, 321, 322, 342, 343, 344, 345, 338, 339, 340, 341] (by decide +kernel) (by decide +kernel)
set_option maxRecDepth 20000 in
theorem gL_law_X3_verdict : GoodIn wsL_law (wsV RL 43 RX3 yX3_verdict wsX3_verdict) := goodIn_app (goodIn_of _ (by decide +kernel)) ggL_law_X3_verdict
set_option maxRecDepth 20000 in
theorem ggL_law_X4_verdict : GoodIn wsL_law wsX4_verdict := goodIn_r _ [190, 70, 42, 94, 95, 96, 5, 97, 71, 191, 192, 193, 194, 40, 44, 134, 135, 136, 137, 43, 195, 196, 197, 198, 47, 49, 48, 199, 200, 201, 202, 203, 204, 205, 206, 207, 208, 209, 210, 211, 212, 213, 214, 215, 216, 217, 50, 218, 51, 219, 220, 221, 222, 223, 224, 323, 324, 325, 326, 327, 328, 329, 330, 331, 332, 333, 334, 335, 336, 337] (by decide +kernel) (by decide +kernel)
set_option maxRecDepth 20000 in
theorem gL_law_X4_verdict : GoodIn wsL_law (wsV RL 46 RX4 yX4_verdict wsX4_verdict) := goodIn_app (goodIn_of _ (by decide +kernel)) ggL_law_X4_verdict
set_option maxRecDepth 20000 in
theorem ggL_law_X3_chance : GoodIn wsL_law wsX3_chance := goodIn_r _ [228, 229, 21, 146, 147, 148, 20, 149, 150, 151, 118, 152, 153, 117, 119, 30, 31, 29, 154, 155, 156, 28, 157, 158, 159, 160, 161, 162, 35, 163, 164, 165, 166, 167, 168, 169, 170, 171, 172, 173, 174, 175, 176, 177, 178, 230, 231, 232, 233, 234, 235, 236, 237, 238, 183, 184, 185, 186, 239, 240, 241, 242, 316, 317, 318, 319, 320, 321, 322, 338, 339, 340, 341] (by decide +kernel) (by decide +kernel)
set_option maxRecDepth 20000 in
theorem gL_law_X3_chance : GoodIn wsL_law (wsV RL 47 RX3 yX3_chance wsX3_chance) := goodIn_app (goodIn_of _ (by decide +kernel)) ggL_law_X3_chance
set_option maxRecDepth 20000 in
theorem ggL_law_X4_chance : GoodIn wsL_law wsX4_chance := goodIn_r _ [246, 70, 247, 48, 50, 49, 248, 195, 196, 197, 5, 198, 47, 199, 200, 201, 202, 203, 204, 205, 206, 207, 208, 209, 210, 211, 212, 213, 219, 220, 221, 222, 223, 224, 249, 250, 251, 323, 324, 325, 326, 327, 328, 329, 330, 331, 332, 333, 334, 335, 336, 337] (by decide +kernel) (by decide +kernel)
set_option maxRecDepth 20000 in
theorem gL_law_X4_chance : GoodIn wsL_law (wsV RL 51 RX4 yX4_chance wsX4_chance) := goodIn_app (goodIn_of _ (by decide +kernel)) ggL_law_X4_chance
set_option maxRecDepth 20000 in
theorem ggL_law_L_share : GoodIn wsL_law wsL_share := goodIn_ca (goodIn_r _ [255, 256, 257, 258, 259, 2, 260, 261, 262, 263] (by decide +kernel) (by decide +kernel)) (goodIn_sub (fun _ h => List.mem_append_right _ h) (by decide +kernel))
set_option maxRecDepth 20000 in
theorem gL_law_L_share : GoodIn wsL_law (va_wsS RL 52 yL_share wsL_share) := goodIn_app (goodIn_of _ (by decide +kernel)) ggL_law_L_share
set_option maxRecDepth 20000 in
theorem ggL_law_X4_share : GoodIn wsL_law wsX4_share := goodIn_r _ [267, 70, 268, 323, 324, 325, 326, 327, 328, 329, 330, 331, 332, 333, 334, 335, 336, 337] (by decide +kernel) (by decide +kernel)
set_option maxRecDepth 20000 in
theorem gL_law_X4_share : GoodIn wsL_law (wsV RL 57 RX4 yX4_share wsX4_share) := goodIn_app (goodIn_of _ (by decide +kernel)) ggL_law_X4_share
set_option maxRecDepth 20000 in
theorem ggL_law_X4_thrown : GoodIn wsL_law wsX4_thrown := goodIn_r _ [272, 70, 323, 324, 325, 326, 327, 328, 329, 330, 331, 332, 333, 334, 335, 336, 337] (by decide +kernel) (by decide +kernel)
set_option maxRecDepth 20000 in
theorem gL_law_X4_thrown : GoodIn wsL_law (wsV RL 58 RX4 yX4_thrown wsX4_thrown) := goodIn_app (goodIn_of _ (by decide +kernel)) ggL_law_X4_thrown
set_option maxRecDepth 20000 in
theorem ggL_law_X3_shown : GoodIn wsL_law wsX3_shown := goodIn_r _ [276, 277, 129, 120, 78, 79, 80, 2, 81, 14, 85, 86, 87, 58, 88, 89, 82, 83, 84, 342, 343, 344, 345, 316, 317, 318, 319, 320, 321, 322] (by decide +kernel) (by decide +kernel)
set_option maxRecDepth 20000 in
theorem gL_law_X3_shown : GoodIn wsL_law (wsV RL 62 RX3 yX3_shown wsX3_shown) := goodIn_app (goodIn_of _ (by decide +kernel)) ggL_law_X3_shown
set_option maxRecDepth 20000 in
theorem ggL_law_X4_shown : GoodIn wsL_law wsX4_shown := goodIn_r _ [281, 70, 282, 42, 94, 95, 96, 5, 97, 71, 134, 135, 136, 137, 43, 323, 324, 325, 326, 327, 328, 329, 330, 331, 332, 333, 334, 335, 336, 337] (by decide +kernel) (by decide +kernel)
set_option maxRecDepth 20000 in
theorem gL_law_X4_shown : GoodIn wsL_law (wsV RL 66 RX4 yX4_shown wsX4_shown) := goodIn_app (goodIn_of _ (by decide +kernel)) ggL_law_X4_shown
set_option maxRecDepth 20000 in
theorem ggL_law_X3_plan : GoodIn wsL_law wsX3_plan := goodIn_r _ [286, 17, 16, 116, 117, 118, 119, 287, 151, 152, 316, 317, 318, 319, 320, 321, 322] (by decide +kernel) (by decide +kernel)
set_option maxRecDepth 20000 in
theorem gL_law_X3_plan : GoodIn wsL_law (wsV RL 67 RX3 yX3_plan wsX3_plan) := goodIn_app (goodIn_of _ (by decide +kernel)) ggL_law_X3_plan
set_option maxRecDepth 20000 in
theorem ggL_law_X4_plan : GoodIn wsL_law wsX4_plan := goodIn_r _ [291, 70, 46, 45, 323, 324, 325, 326, 327, 328, 329, 330, 331, 332, 333, 334, 335, 336, 337] (by decide +kernel) (by decide +kernel)
set_option maxRecDepth 20000 in
theorem gL_law_X4_plan : GoodIn wsL_law (wsV RL 70 RX4 yX4_plan wsX4_plan) := goodIn_app (goodIn_of _ (by decide +kernel)) ggL_law_X4_plan
set_option maxRecDepth 20000 in
theorem ggL_law_X3_surcharge : GoodIn wsL_law wsX3_surcharge := goodIn_r _ [295, 296, 297, 129, 120, 78, 79, 80, 2, 81, 14, 85, 86, 87, 58, 88, 89, 142, 143, 144, 145, 77, 21, 22, 82, 83, 84, 146, 147, 148, 20, 149, 150, 151, 118, 152, 153, 117, 119, 30, 31, 29, 154, 155, 156, 28, 157, 158, 159, 160, 161, 162, 35, 163, 164, 165, 166, 167, 168, 169, 170, 171, 172, 173, 174, 175, 176, 177, 178, 179, 180, 181, 182, 183, 184, 185, 186, 298, 299, 300, 301, 63, 342, 343, 344, 345, 316, 317, 318, 319, 320, 321, 322, 338, 339, 340, 341] (by decide +kernel) (by decide +kernel)
set_option maxRecDepth 20000 in
theorem gL_law_X3_surcharge : GoodIn wsL_law (wsV RL 71 RX3 yX3_surcharge wsX3_surcharge) := goodIn_app (goodIn_of _ (by decide +kernel)) ggL_law_X3_surcharge
set_option maxRecDepth 20000 in
theorem ggL_law_X4_surcharge : GoodIn wsL_law wsX4_surcharge := goodIn_r _ [305, 70, 306, 42, 307, 41, 94, 95, 96, 5, 97, 71, 191, 192, 193, 194, 40, 44, 134, 135, 136, 137, 43, 195, 196, 197, 198, 47, 49, 48, 199, 200, 201, 202, 203, 204, 205, 206, 207, 208, 209, 210, 211, 212, 213, 214, 215, 216, 217, 50, 218, 51, 219, 220, 221, 222, 223, 224, 323, 324, 325, 326, 327, 328, 329, 330, 331, 332, 333, 334, 335, 336, 337] (by decide +kernel) (by decide +kernel)
set_option maxRecDepth 20000 in
theorem gL_law_X4_surcharge : GoodIn wsL_law (wsV RL 75 RX4 yX4_surcharge wsX4_surcharge) := goodIn_app (goodIn_of _ (by decide +kernel)) ggL_law_X4_surcharge
set_option maxRecDepth 20000 in
theorem ggL_law_X3_bound : GoodIn wsL_law wsX3_bound := goodIn_r _ [311, 22, 316, 317, 318, 319, 320, 321, 322] (by decide +kernel) (by decide +kernel)
set_option maxRecDepth 20000 in
theorem gL_law_X3_bound : GoodIn wsL_law (wsV RL 76 RX3 yX3_bound wsX3_bound) := goodIn_app (goodIn_of _ (by decide +kernel)) ggL_law_X3_bound
set_option maxRecDepth 20000 in
theorem ggL_law_X4_bound : GoodIn wsL_law wsX4_bound := goodIn_r _ [315, 70, 44, 323, 324, 325, 326, 327, 328, 329, 330, 331, 332, 333, 334, 335, 336, 337] (by decide +kernel) (by decide +kernel)
set_option maxRecDepth 20000 in
theorem gL_law_X4_bound : GoodIn wsL_law (wsV RL 80 RX4 yX4_bound wsX4_bound) := goodIn_app (goodIn_of _ (by decide +kernel)) ggL_law_X4_bound
theorem dL_law_0 : decode cL_law 0 = .ok (.new 8, 3) := by decide +kernel
theorem dL_law_3 : decode cL_law 3 = .ok (.dup, 1) := by decide +kernel
theorem dL_law_4 : decode cL_law 4 = .ok (.invokespecial 15, 3) := by decide +kernel
theorem dL_law_7 : decode cL_law 7 = .ok (.astore_n 1, 1) := by decide +kernel
theorem dL_law_8 : decode cL_law 8 = .ok (.new 16, 3) := by decide +kernel
theorem dL_law_11 : decode cL_law 11 = .ok (.dup, 1) := by decide +kernel
theorem dL_law_12 : decode cL_law 12 = .ok (.invokespecial 18, 3) := by decide +kernel
theorem dL_law_15 : decode cL_law 15 = .ok (.astore_n 2, 1) := by decide +kernel
theorem dL_law_16 : decode cL_law 16 = .ok (.iconst 1, 1) := by decide +kernel
theorem dL_law_17 : decode cL_law 17 = .ok (.newarray .long, 2) := by decide +kernel
theorem dL_law_19 : decode cL_law 19 = .ok (.astore_n 3, 1) := by decide +kernel
theorem dL_law_20 : decode cL_law 20 = .ok (.iconst 0, 1) := by decide +kernel
theorem dL_law_21 : decode cL_law 21 = .ok (.istore 4, 2) := by decide +kernel
theorem dL_law_23 : decode cL_law 23 = .ok (.iload 4, 2) := by decide +kernel
theorem dL_law_25 : decode cL_law 25 = .ok (.aload_n 0, 1) := by decide +kernel
theorem dL_law_26 : decode cL_law 26 = .ok (.arraylength, 1) := by decide +kernel
theorem dL_law_27 : decode cL_law 27 = .ok (.bipush 6, 2) := by decide +kernel
theorem dL_law_29 : decode cL_law 29 = .ok (.isub, 1) := by decide +kernel
theorem dL_law_30 : decode cL_law 30 = .ok (.if_icmp .gt 570, 3) := by decide +kernel
theorem dL_law_33 : decode cL_law 33 = .ok (.aload_n 0, 1) := by decide +kernel
theorem dL_law_34 : decode cL_law 34 = .ok (.iload 4, 2) := by decide +kernel
theorem dL_law_36 : decode cL_law 36 = .ok (.iaload, 1) := by decide +kernel
theorem dL_law_37 : decode cL_law 37 = .ok (.bipush 15, 2) := by decide +kernel
theorem dL_law_39 : decode cL_law 39 = .ok (.iand, 1) := by decide +kernel
theorem dL_law_40 : decode cL_law 40 = .ok (.tableswitch 554 0 11 #[64, 89, 138, 161, 198, 247, 272, 346, 413, 466, 503, 529], 64) := by decide +kernel
theorem dL_law_104 : decode cL_law 104 = .ok (.aload_n 1, 1) := by decide +kernel
theorem dL_law_105 : decode cL_law 105 = .ok (.aload_n 0, 1) := by decide +kernel
theorem dL_law_106 : decode cL_law 106 = .ok (.iload 4, 2) := by decide +kernel
theorem dL_law_108 : decode cL_law 108 = .ok (.iconst 1, 1) := by decide +kernel
theorem dL_law_109 : decode cL_law 109 = .ok (.iadd, 1) := by decide +kernel
theorem dL_law_110 : decode cL_law 110 = .ok (.iaload, 1) := by decide +kernel
theorem dL_law_111 : decode cL_law 111 = .ok (.invokevirtual 19, 3) := by decide +kernel
theorem dL_law_114 : decode cL_law 114 = .ok (.aload_n 2, 1) := by decide +kernel
theorem dL_law_115 : decode cL_law 115 = .ok (.aload_n 0, 1) := by decide +kernel
theorem dL_law_116 : decode cL_law 116 = .ok (.iload 4, 2) := by decide +kernel
theorem dL_law_118 : decode cL_law 118 = .ok (.iconst 1, 1) := by decide +kernel
theorem dL_law_119 : decode cL_law 119 = .ok (.iadd, 1) := by decide +kernel
theorem dL_law_120 : decode cL_law 120 = .ok (.iaload, 1) := by decide +kernel
theorem dL_law_121 : decode cL_law 121 = .ok (.invokevirtual 23, 3) := by decide +kernel
theorem dL_law_124 : decode cL_law 124 = .ok (.if_icmp .eq 470, 3) := by decide +kernel
theorem dL_law_127 : decode cL_law 127 = .ok (.iconst 0, 1) := by decide +kernel
theorem dL_law_128 : decode cL_law 128 = .ok (.ireturn, 1) := by decide +kernel
theorem dL_law_129 : decode cL_law 129 = .ok (.aload_n 1, 1) := by decide +kernel
theorem dL_law_130 : decode cL_law 130 = .ok (.aload_n 0, 1) := by decide +kernel
theorem dL_law_131 : decode cL_law 131 = .ok (.iload 4, 2) := by decide +kernel
theorem dL_law_133 : decode cL_law 133 = .ok (.iconst 1, 1) := by decide +kernel
theorem dL_law_134 : decode cL_law 134 = .ok (.iadd, 1) := by decide +kernel
theorem dL_law_135 : decode cL_law 135 = .ok (.iaload, 1) := by decide +kernel
theorem dL_law_136 : decode cL_law 136 = .ok (.aload_n 0, 1) := by decide +kernel
theorem dL_law_137 : decode cL_law 137 = .ok (.iload 4, 2) := by decide +kernel
theorem dL_law_139 : decode cL_law 139 = .ok (.iconst 2, 1) := by decide +kernel
theorem dL_law_140 : decode cL_law 140 = .ok (.iadd, 1) := by decide +kernel
theorem dL_law_141 : decode cL_law 141 = .ok (.iaload, 1) := by decide +kernel
theorem dL_law_142 : decode cL_law 142 = .ok (.aload_n 0, 1) := by decide +kernel
theorem dL_law_143 : decode cL_law 143 = .ok (.iload 4, 2) := by decide +kernel
theorem dL_law_145 : decode cL_law 145 = .ok (.iconst 3, 1) := by decide +kernel
theorem dL_law_146 : decode cL_law 146 = .ok (.iadd, 1) := by decide +kernel
theorem dL_law_147 : decode cL_law 147 = .ok (.iaload, 1) := by decide +kernel
theorem dL_law_148 : decode cL_law 148 = .ok (.invokevirtual 24, 3) := by decide +kernel
theorem dL_law_151 : decode cL_law 151 = .ok (.aload_n 2, 1) := by decide +kernel
theorem dL_law_152 : decode cL_law 152 = .ok (.aload_n 0, 1) := by decide +kernel
theorem dL_law_153 : decode cL_law 153 = .ok (.iload 4, 2) := by decide +kernel
theorem dL_law_155 : decode cL_law 155 = .ok (.iconst 1, 1) := by decide +kernel
theorem dL_law_156 : decode cL_law 156 = .ok (.iadd, 1) := by decide +kernel
theorem dL_law_157 : decode cL_law 157 = .ok (.iaload, 1) := by decide +kernel
theorem dL_law_158 : decode cL_law 158 = .ok (.aload_n 0, 1) := by decide +kernel
theorem dL_law_159 : decode cL_law 159 = .ok (.iload 4, 2) := by decide +kernel
theorem dL_law_161 : decode cL_law 161 = .ok (.iconst 2, 1) := by decide +kernel
theorem dL_law_162 : decode cL_law 162 = .ok (.iadd, 1) := by decide +kernel
theorem dL_law_163 : decode cL_law 163 = .ok (.iaload, 1) := by decide +kernel
theorem dL_law_164 : decode cL_law 164 = .ok (.aload_n 0, 1) := by decide +kernel
theorem dL_law_165 : decode cL_law 165 = .ok (.iload 4, 2) := by decide +kernel
theorem dL_law_167 : decode cL_law 167 = .ok (.iconst 3, 1) := by decide +kernel
theorem dL_law_168 : decode cL_law 168 = .ok (.iadd, 1) := by decide +kernel
theorem dL_law_169 : decode cL_law 169 = .ok (.iaload, 1) := by decide +kernel
theorem dL_law_170 : decode cL_law 170 = .ok (.invokevirtual 28, 3) := by decide +kernel
theorem dL_law_173 : decode cL_law 173 = .ok (.if_icmp .eq 421, 3) := by decide +kernel
theorem dL_law_176 : decode cL_law 176 = .ok (.iconst 0, 1) := by decide +kernel
theorem dL_law_177 : decode cL_law 177 = .ok (.ireturn, 1) := by decide +kernel
theorem dL_law_178 : decode cL_law 178 = .ok (.aload_n 1, 1) := by decide +kernel
theorem dL_law_179 : decode cL_law 179 = .ok (.aload_n 0, 1) := by decide +kernel
theorem dL_law_180 : decode cL_law 180 = .ok (.iload 4, 2) := by decide +kernel
theorem dL_law_182 : decode cL_law 182 = .ok (.iconst 1, 1) := by decide +kernel
theorem dL_law_183 : decode cL_law 183 = .ok (.iadd, 1) := by decide +kernel
theorem dL_law_184 : decode cL_law 184 = .ok (.iaload, 1) := by decide +kernel
theorem dL_law_185 : decode cL_law 185 = .ok (.invokevirtual 29, 3) := by decide +kernel
theorem dL_law_188 : decode cL_law 188 = .ok (.aload_n 2, 1) := by decide +kernel
theorem dL_law_189 : decode cL_law 189 = .ok (.aload_n 0, 1) := by decide +kernel
theorem dL_law_190 : decode cL_law 190 = .ok (.iload 4, 2) := by decide +kernel
theorem dL_law_192 : decode cL_law 192 = .ok (.iconst 1, 1) := by decide +kernel
theorem dL_law_193 : decode cL_law 193 = .ok (.iadd, 1) := by decide +kernel
theorem dL_law_194 : decode cL_law 194 = .ok (.iaload, 1) := by decide +kernel
theorem dL_law_195 : decode cL_law 195 = .ok (.invokevirtual 33, 3) := by decide +kernel
theorem dL_law_198 : decode cL_law 198 = .ok (.goto 396, 3) := by decide +kernel
theorem dL_law_201 : decode cL_law 201 = .ok (.aload_n 1, 1) := by decide +kernel
theorem dL_law_202 : decode cL_law 202 = .ok (.aload_n 0, 1) := by decide +kernel
theorem dL_law_203 : decode cL_law 203 = .ok (.iload 4, 2) := by decide +kernel
theorem dL_law_205 : decode cL_law 205 = .ok (.iconst 1, 1) := by decide +kernel
theorem dL_law_206 : decode cL_law 206 = .ok (.iadd, 1) := by decide +kernel
theorem dL_law_207 : decode cL_law 207 = .ok (.iaload, 1) := by decide +kernel
theorem dL_law_208 : decode cL_law 208 = .ok (.aload_n 0, 1) := by decide +kernel
theorem dL_law_209 : decode cL_law 209 = .ok (.iload 4, 2) := by decide +kernel
theorem dL_law_211 : decode cL_law 211 = .ok (.iconst 2, 1) := by decide +kernel
theorem dL_law_212 : decode cL_law 212 = .ok (.iadd, 1) := by decide +kernel
theorem dL_law_213 : decode cL_law 213 = .ok (.iaload, 1) := by decide +kernel
theorem dL_law_214 : decode cL_law 214 = .ok (.invokevirtual 34, 3) := by decide +kernel
theorem dL_law_217 : decode cL_law 217 = .ok (.aload_n 2, 1) := by decide +kernel
theorem dL_law_218 : decode cL_law 218 = .ok (.aload_n 0, 1) := by decide +kernel
theorem dL_law_219 : decode cL_law 219 = .ok (.iload 4, 2) := by decide +kernel
theorem dL_law_221 : decode cL_law 221 = .ok (.iconst 1, 1) := by decide +kernel
theorem dL_law_222 : decode cL_law 222 = .ok (.iadd, 1) := by decide +kernel
theorem dL_law_223 : decode cL_law 223 = .ok (.iaload, 1) := by decide +kernel
theorem dL_law_224 : decode cL_law 224 = .ok (.aload_n 0, 1) := by decide +kernel
theorem dL_law_225 : decode cL_law 225 = .ok (.iload 4, 2) := by decide +kernel
theorem dL_law_227 : decode cL_law 227 = .ok (.iconst 2, 1) := by decide +kernel
theorem dL_law_228 : decode cL_law 228 = .ok (.iadd, 1) := by decide +kernel
theorem dL_law_229 : decode cL_law 229 = .ok (.iaload, 1) := by decide +kernel
theorem dL_law_230 : decode cL_law 230 = .ok (.invokevirtual 38, 3) := by decide +kernel
theorem dL_law_233 : decode cL_law 233 = .ok (.if_icmp .eq 361, 3) := by decide +kernel
theorem dL_law_236 : decode cL_law 236 = .ok (.iconst 0, 1) := by decide +kernel
theorem dL_law_237 : decode cL_law 237 = .ok (.ireturn, 1) := by decide +kernel
theorem dL_law_238 : decode cL_law 238 = .ok (.aload_n 1, 1) := by decide +kernel
theorem dL_law_239 : decode cL_law 239 = .ok (.aload_n 0, 1) := by decide +kernel
theorem dL_law_240 : decode cL_law 240 = .ok (.iload 4, 2) := by decide +kernel
theorem dL_law_242 : decode cL_law 242 = .ok (.iconst 1, 1) := by decide +kernel
theorem dL_law_243 : decode cL_law 243 = .ok (.iadd, 1) := by decide +kernel
theorem dL_law_244 : decode cL_law 244 = .ok (.iaload, 1) := by decide +kernel
theorem dL_law_245 : decode cL_law 245 = .ok (.aload_n 0, 1) := by decide +kernel
theorem dL_law_246 : decode cL_law 246 = .ok (.iload 4, 2) := by decide +kernel
theorem dL_law_248 : decode cL_law 248 = .ok (.iconst 2, 1) := by decide +kernel
theorem dL_law_249 : decode cL_law 249 = .ok (.iadd, 1) := by decide +kernel
theorem dL_law_250 : decode cL_law 250 = .ok (.iaload, 1) := by decide +kernel
theorem dL_law_251 : decode cL_law 251 = .ok (.aload_n 0, 1) := by decide +kernel
theorem dL_law_252 : decode cL_law 252 = .ok (.iload 4, 2) := by decide +kernel
theorem dL_law_254 : decode cL_law 254 = .ok (.iconst 3, 1) := by decide +kernel
theorem dL_law_255 : decode cL_law 255 = .ok (.iadd, 1) := by decide +kernel
theorem dL_law_256 : decode cL_law 256 = .ok (.iaload, 1) := by decide +kernel
theorem dL_law_257 : decode cL_law 257 = .ok (.invokevirtual 39, 3) := by decide +kernel
theorem dL_law_260 : decode cL_law 260 = .ok (.aload_n 2, 1) := by decide +kernel
theorem dL_law_261 : decode cL_law 261 = .ok (.aload_n 0, 1) := by decide +kernel
theorem dL_law_262 : decode cL_law 262 = .ok (.iload 4, 2) := by decide +kernel
theorem dL_law_264 : decode cL_law 264 = .ok (.iconst 1, 1) := by decide +kernel
theorem dL_law_265 : decode cL_law 265 = .ok (.iadd, 1) := by decide +kernel
theorem dL_law_266 : decode cL_law 266 = .ok (.iaload, 1) := by decide +kernel
theorem dL_law_267 : decode cL_law 267 = .ok (.aload_n 0, 1) := by decide +kernel
theorem dL_law_268 : decode cL_law 268 = .ok (.iload 4, 2) := by decide +kernel
theorem dL_law_270 : decode cL_law 270 = .ok (.iconst 2, 1) := by decide +kernel
theorem dL_law_271 : decode cL_law 271 = .ok (.iadd, 1) := by decide +kernel
theorem dL_law_272 : decode cL_law 272 = .ok (.iaload, 1) := by decide +kernel
theorem dL_law_273 : decode cL_law 273 = .ok (.aload_n 0, 1) := by decide +kernel
theorem dL_law_274 : decode cL_law 274 = .ok (.iload 4, 2) := by decide +kernel
theorem dL_law_276 : decode cL_law 276 = .ok (.iconst 3, 1) := by decide +kernel
theorem dL_law_277 : decode cL_law 277 = .ok (.iadd, 1) := by decide +kernel
theorem dL_law_278 : decode cL_law 278 = .ok (.iaload, 1) := by decide +kernel
theorem dL_law_279 : decode cL_law 279 = .ok (.invokevirtual 42, 3) := by decide +kernel
theorem dL_law_282 : decode cL_law 282 = .ok (.if_icmp .eq 312, 3) := by decide +kernel
theorem dL_law_285 : decode cL_law 285 = .ok (.iconst 0, 1) := by decide +kernel
theorem dL_law_286 : decode cL_law 286 = .ok (.ireturn, 1) := by decide +kernel
theorem dL_law_287 : decode cL_law 287 = .ok (.aload_n 1, 1) := by decide +kernel
theorem dL_law_288 : decode cL_law 288 = .ok (.aload_n 0, 1) := by decide +kernel
theorem dL_law_289 : decode cL_law 289 = .ok (.iload 4, 2) := by decide +kernel
theorem dL_law_291 : decode cL_law 291 = .ok (.iconst 1, 1) := by decide +kernel
theorem dL_law_292 : decode cL_law 292 = .ok (.iadd, 1) := by decide +kernel
theorem dL_law_293 : decode cL_law 293 = .ok (.iaload, 1) := by decide +kernel
theorem dL_law_294 : decode cL_law 294 = .ok (.invokevirtual 43, 3) := by decide +kernel
theorem dL_law_297 : decode cL_law 297 = .ok (.aload_n 2, 1) := by decide +kernel
theorem dL_law_298 : decode cL_law 298 = .ok (.aload_n 0, 1) := by decide +kernel
theorem dL_law_299 : decode cL_law 299 = .ok (.iload 4, 2) := by decide +kernel
theorem dL_law_301 : decode cL_law 301 = .ok (.iconst 1, 1) := by decide +kernel
theorem dL_law_302 : decode cL_law 302 = .ok (.iadd, 1) := by decide +kernel
theorem dL_law_303 : decode cL_law 303 = .ok (.iaload, 1) := by decide +kernel
theorem dL_law_304 : decode cL_law 304 = .ok (.invokevirtual 46, 3) := by decide +kernel
theorem dL_law_307 : decode cL_law 307 = .ok (.if_icmp .eq 287, 3) := by decide +kernel
theorem dL_law_310 : decode cL_law 310 = .ok (.iconst 0, 1) := by decide +kernel
theorem dL_law_311 : decode cL_law 311 = .ok (.ireturn, 1) := by decide +kernel
theorem dL_law_312 : decode cL_law 312 = .ok (.aload_n 1, 1) := by decide +kernel
theorem dL_law_313 : decode cL_law 313 = .ok (.aload_n 0, 1) := by decide +kernel
theorem dL_law_314 : decode cL_law 314 = .ok (.iload 4, 2) := by decide +kernel
theorem dL_law_316 : decode cL_law 316 = .ok (.iconst 1, 1) := by decide +kernel
theorem dL_law_317 : decode cL_law 317 = .ok (.iadd, 1) := by decide +kernel
theorem dL_law_318 : decode cL_law 318 = .ok (.iaload, 1) := by decide +kernel
theorem dL_law_319 : decode cL_law 319 = .ok (.aload_n 0, 1) := by decide +kernel
theorem dL_law_320 : decode cL_law 320 = .ok (.iload 4, 2) := by decide +kernel
theorem dL_law_322 : decode cL_law 322 = .ok (.iconst 2, 1) := by decide +kernel
theorem dL_law_323 : decode cL_law 323 = .ok (.iadd, 1) := by decide +kernel
theorem dL_law_324 : decode cL_law 324 = .ok (.iaload, 1) := by decide +kernel
theorem dL_law_325 : decode cL_law 325 = .ok (.aload_n 0, 1) := by decide +kernel
theorem dL_law_326 : decode cL_law 326 = .ok (.iload 4, 2) := by decide +kernel
theorem dL_law_328 : decode cL_law 328 = .ok (.iconst 3, 1) := by decide +kernel
theorem dL_law_329 : decode cL_law 329 = .ok (.iadd, 1) := by decide +kernel
theorem dL_law_330 : decode cL_law 330 = .ok (.iaload, 1) := by decide +kernel
theorem dL_law_331 : decode cL_law 331 = .ok (.aload_n 0, 1) := by decide +kernel
theorem dL_law_332 : decode cL_law 332 = .ok (.iload 4, 2) := by decide +kernel
theorem dL_law_334 : decode cL_law 334 = .ok (.iconst 4, 1) := by decide +kernel
theorem dL_law_335 : decode cL_law 335 = .ok (.iadd, 1) := by decide +kernel
theorem dL_law_336 : decode cL_law 336 = .ok (.iaload, 1) := by decide +kernel
theorem dL_law_337 : decode cL_law 337 = .ok (.aload_n 0, 1) := by decide +kernel
theorem dL_law_338 : decode cL_law 338 = .ok (.iload 4, 2) := by decide +kernel
theorem dL_law_340 : decode cL_law 340 = .ok (.iconst 5, 1) := by decide +kernel
theorem dL_law_341 : decode cL_law 341 = .ok (.iadd, 1) := by decide +kernel
theorem dL_law_342 : decode cL_law 342 = .ok (.iaload, 1) := by decide +kernel
theorem dL_law_343 : decode cL_law 343 = .ok (.invokevirtual 47, 3) := by decide +kernel
theorem dL_law_346 : decode cL_law 346 = .ok (.aload_n 2, 1) := by decide +kernel
theorem dL_law_347 : decode cL_law 347 = .ok (.aload_n 0, 1) := by decide +kernel
theorem dL_law_348 : decode cL_law 348 = .ok (.iload 4, 2) := by decide +kernel
theorem dL_law_350 : decode cL_law 350 = .ok (.iconst 1, 1) := by decide +kernel
theorem dL_law_351 : decode cL_law 351 = .ok (.iadd, 1) := by decide +kernel
theorem dL_law_352 : decode cL_law 352 = .ok (.iaload, 1) := by decide +kernel
theorem dL_law_353 : decode cL_law 353 = .ok (.aload_n 0, 1) := by decide +kernel
theorem dL_law_354 : decode cL_law 354 = .ok (.iload 4, 2) := by decide +kernel
theorem dL_law_356 : decode cL_law 356 = .ok (.iconst 2, 1) := by decide +kernel
theorem dL_law_357 : decode cL_law 357 = .ok (.iadd, 1) := by decide +kernel
theorem dL_law_358 : decode cL_law 358 = .ok (.iaload, 1) := by decide +kernel
theorem dL_law_359 : decode cL_law 359 = .ok (.aload_n 0, 1) := by decide +kernel
theorem dL_law_360 : decode cL_law 360 = .ok (.iload 4, 2) := by decide +kernel
theorem dL_law_362 : decode cL_law 362 = .ok (.iconst 3, 1) := by decide +kernel
theorem dL_law_363 : decode cL_law 363 = .ok (.iadd, 1) := by decide +kernel
theorem dL_law_364 : decode cL_law 364 = .ok (.iaload, 1) := by decide +kernel
theorem dL_law_365 : decode cL_law 365 = .ok (.aload_n 0, 1) := by decide +kernel
theorem dL_law_366 : decode cL_law 366 = .ok (.iload 4, 2) := by decide +kernel
theorem dL_law_368 : decode cL_law 368 = .ok (.iconst 4, 1) := by decide +kernel
theorem dL_law_369 : decode cL_law 369 = .ok (.iadd, 1) := by decide +kernel
theorem dL_law_370 : decode cL_law 370 = .ok (.iaload, 1) := by decide +kernel
theorem dL_law_371 : decode cL_law 371 = .ok (.aload_n 0, 1) := by decide +kernel
theorem dL_law_372 : decode cL_law 372 = .ok (.iload 4, 2) := by decide +kernel
theorem dL_law_374 : decode cL_law 374 = .ok (.iconst 5, 1) := by decide +kernel
theorem dL_law_375 : decode cL_law 375 = .ok (.iadd, 1) := by decide +kernel
theorem dL_law_376 : decode cL_law 376 = .ok (.iaload, 1) := by decide +kernel
theorem dL_law_377 : decode cL_law 377 = .ok (.invokevirtual 51, 3) := by decide +kernel
theorem dL_law_380 : decode cL_law 380 = .ok (.lcmp, 1) := by decide +kernel
theorem dL_law_381 : decode cL_law 381 = .ok (.ifCond .eq 213, 3) := by decide +kernel
theorem dL_law_384 : decode cL_law 384 = .ok (.iconst 0, 1) := by decide +kernel
theorem dL_law_385 : decode cL_law 385 = .ok (.ireturn, 1) := by decide +kernel
theorem dL_law_386 : decode cL_law 386 = .ok (.aload_n 1, 1) := by decide +kernel
theorem dL_law_387 : decode cL_law 387 = .ok (.aload_n 0, 1) := by decide +kernel
theorem dL_law_388 : decode cL_law 388 = .ok (.iload 4, 2) := by decide +kernel
theorem dL_law_390 : decode cL_law 390 = .ok (.iconst 1, 1) := by decide +kernel
theorem dL_law_391 : decode cL_law 391 = .ok (.iadd, 1) := by decide +kernel
theorem dL_law_392 : decode cL_law 392 = .ok (.iaload, 1) := by decide +kernel
theorem dL_law_393 : decode cL_law 393 = .ok (.aload_n 0, 1) := by decide +kernel
theorem dL_law_394 : decode cL_law 394 = .ok (.iload 4, 2) := by decide +kernel
theorem dL_law_396 : decode cL_law 396 = .ok (.iconst 2, 1) := by decide +kernel
theorem dL_law_397 : decode cL_law 397 = .ok (.iadd, 1) := by decide +kernel
theorem dL_law_398 : decode cL_law 398 = .ok (.iaload, 1) := by decide +kernel
theorem dL_law_399 : decode cL_law 399 = .ok (.aload_n 3, 1) := by decide +kernel
theorem dL_law_400 : decode cL_law 400 = .ok (.invokestatic 52, 3) := by decide +kernel
theorem dL_law_403 : decode cL_law 403 = .ok (.istore 5, 2) := by decide +kernel
theorem dL_law_405 : decode cL_law 405 = .ok (.aload_n 2, 1) := by decide +kernel
theorem dL_law_406 : decode cL_law 406 = .ok (.aload_n 0, 1) := by decide +kernel
theorem dL_law_407 : decode cL_law 407 = .ok (.iload 4, 2) := by decide +kernel
theorem dL_law_409 : decode cL_law 409 = .ok (.iconst 1, 1) := by decide +kernel
theorem dL_law_410 : decode cL_law 410 = .ok (.iadd, 1) := by decide +kernel
theorem dL_law_411 : decode cL_law 411 = .ok (.iaload, 1) := by decide +kernel
theorem dL_law_412 : decode cL_law 412 = .ok (.aload_n 0, 1) := by decide +kernel
theorem dL_law_413 : decode cL_law 413 = .ok (.iload 4, 2) := by decide +kernel
theorem dL_law_415 : decode cL_law 415 = .ok (.iconst 2, 1) := by decide +kernel
theorem dL_law_416 : decode cL_law 416 = .ok (.iadd, 1) := by decide +kernel
theorem dL_law_417 : decode cL_law 417 = .ok (.iaload, 1) := by decide +kernel
theorem dL_law_418 : decode cL_law 418 = .ok (.invokevirtual 57, 3) := by decide +kernel
theorem dL_law_421 : decode cL_law 421 = .ok (.lstore 6, 2) := by decide +kernel
theorem dL_law_423 : decode cL_law 423 = .ok (.aload_n 2, 1) := by decide +kernel
theorem dL_law_424 : decode cL_law 424 = .ok (.invokevirtual 58, 3) := by decide +kernel
theorem dL_law_427 : decode cL_law 427 = .ok (.iload 5, 2) := by decide +kernel
theorem dL_law_429 : decode cL_law 429 = .ok (.if_icmp .eq 5, 3) := by decide +kernel
theorem dL_law_432 : decode cL_law 432 = .ok (.iconst 0, 1) := by decide +kernel
theorem dL_law_433 : decode cL_law 433 = .ok (.ireturn, 1) := by decide +kernel
theorem dL_law_434 : decode cL_law 434 = .ok (.iload 5, 2) := by decide +kernel
theorem dL_law_436 : decode cL_law 436 = .ok (.ifCond .ne 14, 3) := by decide +kernel
theorem dL_law_439 : decode cL_law 439 = .ok (.aload_n 3, 1) := by decide +kernel
theorem dL_law_440 : decode cL_law 440 = .ok (.iconst 0, 1) := by decide +kernel
theorem dL_law_441 : decode cL_law 441 = .ok (.laload, 1) := by decide +kernel
theorem dL_law_442 : decode cL_law 442 = .ok (.lload 6, 2) := by decide +kernel
theorem dL_law_444 : decode cL_law 444 = .ok (.lcmp, 1) := by decide +kernel
theorem dL_law_445 : decode cL_law 445 = .ok (.ifCond .eq 5, 3) := by decide +kernel
theorem dL_law_448 : decode cL_law 448 = .ok (.iconst 0, 1) := by decide +kernel
theorem dL_law_449 : decode cL_law 449 = .ok (.ireturn, 1) := by decide +kernel
theorem dL_law_450 : decode cL_law 450 = .ok (.goto 144, 3) := by decide +kernel
theorem dL_law_453 : decode cL_law 453 = .ok (.aload_n 1, 1) := by decide +kernel
theorem dL_law_454 : decode cL_law 454 = .ok (.aload_n 0, 1) := by decide +kernel
theorem dL_law_455 : decode cL_law 455 = .ok (.iload 4, 2) := by decide +kernel
theorem dL_law_457 : decode cL_law 457 = .ok (.iconst 1, 1) := by decide +kernel
theorem dL_law_458 : decode cL_law 458 = .ok (.iadd, 1) := by decide +kernel
theorem dL_law_459 : decode cL_law 459 = .ok (.iaload, 1) := by decide +kernel
theorem dL_law_460 : decode cL_law 460 = .ok (.invokevirtual 62, 3) := by decide +kernel
theorem dL_law_463 : decode cL_law 463 = .ok (.dstore 5, 2) := by decide +kernel
theorem dL_law_465 : decode cL_law 465 = .ok (.aload_n 2, 1) := by decide +kernel
theorem dL_law_466 : decode cL_law 466 = .ok (.aload_n 0, 1) := by decide +kernel
theorem dL_law_467 : decode cL_law 467 = .ok (.iload 4, 2) := by decide +kernel
theorem dL_law_469 : decode cL_law 469 = .ok (.iconst 1, 1) := by decide +kernel
theorem dL_law_470 : decode cL_law 470 = .ok (.iadd, 1) := by decide +kernel
theorem dL_law_471 : decode cL_law 471 = .ok (.iaload, 1) := by decide +kernel
theorem dL_law_472 : decode cL_law 472 = .ok (.invokevirtual 66, 3) := by decide +kernel
theorem dL_law_475 : decode cL_law 475 = .ok (.dstore 7, 2) := by decide +kernel
theorem dL_law_477 : decode cL_law 477 = .ok (.dload 5, 2) := by decide +kernel
theorem dL_law_479 : decode cL_law 479 = .ok (.dload 7, 2) := by decide +kernel
theorem dL_law_481 : decode cL_law 481 = .ok (.dcmp .l, 1) := by decide +kernel
theorem dL_law_482 : decode cL_law 482 = .ok (.ifCond .eq 21, 3) := by decide +kernel
theorem dL_law_485 : decode cL_law 485 = .ok (.dload 5, 2) := by decide +kernel
theorem dL_law_487 : decode cL_law 487 = .ok (.dload 5, 2) := by decide +kernel
theorem dL_law_489 : decode cL_law 489 = .ok (.dcmp .l, 1) := by decide +kernel
theorem dL_law_490 : decode cL_law 490 = .ok (.ifCond .eq 11, 3) := by decide +kernel
theorem dL_law_493 : decode cL_law 493 = .ok (.dload 7, 2) := by decide +kernel
theorem dL_law_495 : decode cL_law 495 = .ok (.dload 7, 2) := by decide +kernel
theorem dL_law_497 : decode cL_law 497 = .ok (.dcmp .l, 1) := by decide +kernel
theorem dL_law_498 : decode cL_law 498 = .ok (.ifCond .ne 5, 3) := by decide +kernel
theorem dL_law_501 : decode cL_law 501 = .ok (.iconst 0, 1) := by decide +kernel
theorem dL_law_502 : decode cL_law 502 = .ok (.ireturn, 1) := by decide +kernel
theorem dL_law_503 : decode cL_law 503 = .ok (.goto 91, 3) := by decide +kernel
theorem dL_law_506 : decode cL_law 506 = .ok (.aload_n 1, 1) := by decide +kernel
theorem dL_law_507 : decode cL_law 507 = .ok (.aload_n 0, 1) := by decide +kernel
theorem dL_law_508 : decode cL_law 508 = .ok (.iload 4, 2) := by decide +kernel
theorem dL_law_510 : decode cL_law 510 = .ok (.iconst 1, 1) := by decide +kernel
theorem dL_law_511 : decode cL_law 511 = .ok (.iadd, 1) := by decide +kernel
theorem dL_law_512 : decode cL_law 512 = .ok (.iaload, 1) := by decide +kernel
theorem dL_law_513 : decode cL_law 513 = .ok (.aload_n 0, 1) := by decide +kernel
theorem dL_law_514 : decode cL_law 514 = .ok (.iload 4, 2) := by decide +kernel
theorem dL_law_516 : decode cL_law 516 = .ok (.iconst 2, 1) := by decide +kernel
theorem dL_law_517 : decode cL_law 517 = .ok (.iadd, 1) := by decide +kernel
theorem dL_law_518 : decode cL_law 518 = .ok (.iaload, 1) := by decide +kernel
theorem dL_law_519 : decode cL_law 519 = .ok (.invokevirtual 67, 3) := by decide +kernel
theorem dL_law_522 : decode cL_law 522 = .ok (.aload_n 2, 1) := by decide +kernel
theorem dL_law_523 : decode cL_law 523 = .ok (.aload_n 0, 1) := by decide +kernel
theorem dL_law_524 : decode cL_law 524 = .ok (.iload 4, 2) := by decide +kernel
theorem dL_law_526 : decode cL_law 526 = .ok (.iconst 1, 1) := by decide +kernel
theorem dL_law_527 : decode cL_law 527 = .ok (.iadd, 1) := by decide +kernel
theorem dL_law_528 : decode cL_law 528 = .ok (.iaload, 1) := by decide +kernel
theorem dL_law_529 : decode cL_law 529 = .ok (.aload_n 0, 1) := by decide +kernel
theorem dL_law_530 : decode cL_law 530 = .ok (.iload 4, 2) := by decide +kernel
theorem dL_law_532 : decode cL_law 532 = .ok (.iconst 2, 1) := by decide +kernel
theorem dL_law_533 : decode cL_law 533 = .ok (.iadd, 1) := by decide +kernel
theorem dL_law_534 : decode cL_law 534 = .ok (.iaload, 1) := by decide +kernel
theorem dL_law_535 : decode cL_law 535 = .ok (.invokevirtual 70, 3) := by decide +kernel
theorem dL_law_538 : decode cL_law 538 = .ok (.if_icmp .eq 56, 3) := by decide +kernel
theorem dL_law_541 : decode cL_law 541 = .ok (.iconst 0, 1) := by decide +kernel
theorem dL_law_542 : decode cL_law 542 = .ok (.ireturn, 1) := by decide +kernel
theorem dL_law_543 : decode cL_law 543 = .ok (.aload_n 1, 1) := by decide +kernel
theorem dL_law_544 : decode cL_law 544 = .ok (.aload_n 0, 1) := by decide +kernel
theorem dL_law_545 : decode cL_law 545 = .ok (.iload 4, 2) := by decide +kernel
theorem dL_law_547 : decode cL_law 547 = .ok (.iconst 1, 1) := by decide +kernel
theorem dL_law_548 : decode cL_law 548 = .ok (.iadd, 1) := by decide +kernel
theorem dL_law_549 : decode cL_law 549 = .ok (.iaload, 1) := by decide +kernel
theorem dL_law_550 : decode cL_law 550 = .ok (.invokevirtual 71, 3) := by decide +kernel
theorem dL_law_553 : decode cL_law 553 = .ok (.aload_n 2, 1) := by decide +kernel
theorem dL_law_554 : decode cL_law 554 = .ok (.aload_n 0, 1) := by decide +kernel
theorem dL_law_555 : decode cL_law 555 = .ok (.iload 4, 2) := by decide +kernel
theorem dL_law_557 : decode cL_law 557 = .ok (.iconst 1, 1) := by decide +kernel
theorem dL_law_558 : decode cL_law 558 = .ok (.iadd, 1) := by decide +kernel
theorem dL_law_559 : decode cL_law 559 = .ok (.iaload, 1) := by decide +kernel
theorem dL_law_560 : decode cL_law 560 = .ok (.invokevirtual 75, 3) := by decide +kernel
theorem dL_law_563 : decode cL_law 563 = .ok (.lcmp, 1) := by decide +kernel
theorem dL_law_564 : decode cL_law 564 = .ok (.ifCond .eq 30, 3) := by decide +kernel
theorem dL_law_567 : decode cL_law 567 = .ok (.iconst 0, 1) := by decide +kernel
theorem dL_law_568 : decode cL_law 568 = .ok (.ireturn, 1) := by decide +kernel
theorem dL_law_569 : decode cL_law 569 = .ok (.aload_n 1, 1) := by decide +kernel
theorem dL_law_570 : decode cL_law 570 = .ok (.aload_n 0, 1) := by decide +kernel
theorem dL_law_571 : decode cL_law 571 = .ok (.iload 4, 2) := by decide +kernel
theorem dL_law_573 : decode cL_law 573 = .ok (.iconst 1, 1) := by decide +kernel
theorem dL_law_574 : decode cL_law 574 = .ok (.iadd, 1) := by decide +kernel
theorem dL_law_575 : decode cL_law 575 = .ok (.iaload, 1) := by decide +kernel
theorem dL_law_576 : decode cL_law 576 = .ok (.invokevirtual 76, 3) := by decide +kernel
theorem dL_law_579 : decode cL_law 579 = .ok (.aload_n 2, 1) := by decide +kernel
theorem dL_law_580 : decode cL_law 580 = .ok (.aload_n 0, 1) := by decide +kernel
theorem dL_law_581 : decode cL_law 581 = .ok (.iload 4, 2) := by decide +kernel
theorem dL_law_583 : decode cL_law 583 = .ok (.iconst 1, 1) := by decide +kernel
theorem dL_law_584 : decode cL_law 584 = .ok (.iadd, 1) := by decide +kernel
theorem dL_law_585 : decode cL_law 585 = .ok (.iaload, 1) := by decide +kernel
theorem dL_law_586 : decode cL_law 586 = .ok (.invokevirtual 80, 3) := by decide +kernel
theorem dL_law_589 : decode cL_law 589 = .ok (.if_icmp .eq 5, 3) := by decide +kernel
theorem dL_law_592 : decode cL_law 592 = .ok (.iconst 0, 1) := by decide +kernel
theorem dL_law_593 : decode cL_law 593 = .ok (.ireturn, 1) := by decide +kernel
theorem dL_law_594 : decode cL_law 594 = .ok (.iinc 4 6, 3) := by decide +kernel
theorem dL_law_597 : decode cL_law 597 = .ok (.goto (-574), 3) := by decide +kernel
theorem dL_law_600 : decode cL_law 600 = .ok (.iconst 1, 1) := by decide +kernel
theorem dL_law_601 : decode cL_law 601 = .ok (.ireturn, 1) := by decide +kernel
abbrev vwCl : List vw_C := [(RX0, TX0, 4), (RX1, TX1, 3), (RX2, TX2, 1), (RX3, TX3, 7), (RX4, TX4, 15)]
/-! ===== END printed: names ===== -/
end
section
/-! rows of one instruction over natural numbers, calls, ends -/
theorem arrV_congr (cA : ClassId) {n : Nat} {f g : Nat → Value} (h : ∀ j, j < n → f j = g j) : arrV cA n f = arrV cA n g := by
  unfold arrV
  have e : (fun j : Fin n => f j.val) = (fun j : Fin n => g j.val) := by funext j; exact h j.val j.isLt
  rw [e]
theorem cell_congrI (cA : ClassId) {n : Nat} {f g : Nat → Int32} (h : ∀ j, j < n → f j = g j) : vp_cell cA (n, .inl f) = vp_cell cA (n, .inl g) := (arrV_congr cA (f := fun j => .int (f j)) (g := fun j => .int (g j)) (fun j hj => congrArg Value.int (h j hj)) : arrV cA n (fun j => .int (f j)) = arrV cA n (fun j => .int (g j)))
theorem cell_congrL (cA : ClassId) {n : Nat} {f g : Nat → Int64} (h : ∀ j, j < n → f j = g j) : vp_cell cA (n, .inr (.inl f)) = vp_cell cA (n, .inr (.inl g)) := (arrV_congr cA (f := fun j => .long (f j)) (g := fun j => .long (g j)) (fun j hj => congrArg Value.long (h j hj)) : arrV cA n (fun j => .long (f j)) = arrV cA n (fun j => .long (g j)))
theorem cell_congrQ (cA : ClassId) {n : Nat} {f g : Nat → Option Nat} (h : ∀ j, j < n → f j = g j) : vp_cell cA (n, .inr (.inr (.inr (.inr f)))) = vp_cell cA (n, .inr (.inr (.inr (.inr g)))) := (arrV_congr cA (f := fun j => va_rf (f j)) (g := fun j => va_rf (g j)) (fun j hj => congrArg va_rf (h j hj)) : arrV cA n (fun j => va_rf (f j)) = arrV cA n (fun j => va_rf (g j)))
/-- an entry of a world may be told otherwise where the cell is the same -/
theorem P_alt {D : va_G} {cl : List vw_C} {ws ws' : va_W} {H : Heap} {q0 a : Nat} {e1 e2 : va_E} (hP : va_P D cl ws H) (h1 : ws[q0]? = some (a, e1)) (hw : ws.set q0 (a, e2) = ws') (he : va_at D cl (a, e1) H → va_at D cl (a, e2) H) : va_P D cl ws' H := by
  subst hw
  intro k q hk
  by_cases hq : k = q0
  · subst hq
    rw [List.getElem?_set_self (List.getElem?_eq_some_iff.mp h1).1] at hk
    cases hk
    exact he (hP _ _ h1)
  · rw [List.getElem?_set_ne (Ne.symm hq)] at hk
    exact hP _ _ hk
theorem D_alt {A : Nat → Prop} {ws ws' : va_W} {q0 a : Nat} {e1 e2 : va_E} (hD : va_D A ws) (h1 : ws[q0]? = some (a, e1)) (hw : ws.set q0 (a, e2) = ws') : va_D A ws' := by
  subst hw
  exact hD.set h1
theorem P_altI {D : va_G} {cl : List vw_C} {ws ws' : va_W} {H : Heap} {a : Nat} {cA : ClassId} {n : Nat} {f : Nat → Int32} (g : Nat → Int32) (hP : va_P D cl ws H) (q0 : Nat) (h1 : ws[q0]? = some (a, .inl (cA, n, .inl f))) (hw : ws.set q0 (a, .inl (cA, n, .inl g)) = ws') (h : ∀ j, j < n → f j = g j) : va_P D cl ws' H := P_alt hP h1 hw (fun hh => hh.trans (congrArg some (cell_congrI cA h)))
theorem P_altL {D : va_G} {cl : List vw_C} {ws ws' : va_W} {H : Heap} {a : Nat} {cA : ClassId} {n : Nat} {f : Nat → Int64} (g : Nat → Int64) (hP : va_P D cl ws H) (q0 : Nat) (h1 : ws[q0]? = some (a, .inl (cA, n, .inr (.inl f)))) (hw : ws.set q0 (a, .inl (cA, n, .inr (.inl g))) = ws') (h : ∀ j, j < n → f j = g j) : va_P D cl ws' H := P_alt hP h1 hw (fun hh => hh.trans (congrArg some (cell_congrL cA h)))
theorem P_altQ {D : va_G} {cl : List vw_C} {ws ws' : va_W} {H : Heap} {a : Nat} {cA : ClassId} {n : Nat} {f : Nat → Option Nat} (g : Nat → Option Nat) (hP : va_P D cl ws H) (q0 : Nat) (h1 : ws[q0]? = some (a, .inl (cA, n, .inr (.inr (.inr (.inr f)))))) (hw : ws.set q0 (a, .inl (cA, n, .inr (.inr (.inr (.inr g))))) = ws') (h : ∀ j, j < n → f j = g j) : va_P D cl ws' H := P_alt hP h1 hw (fun hh => hh.trans (congrArg some (cell_congrQ cA h)))
/-- the arrays' own kinds in every world -/
abbrev gT (cI cL cM : ClassId) : List (ClassId × FieldType) := [(cI, .int), (cL, .long), (cM, .object RX0)]
theorem K_one {D : va_G} {cl : List vw_C} {tys : List (ClassId × FieldType)} {U : State} (hK : va_K D cl tys U) {i j : Nat} {c1 c2 : ClassId} {ty : FieldType} (h1 : tys[i]? = some (c1, ty)) (h2 : tys[j]? = some (c2, ty)) : c1 = c2 := by
  have a := (hK.2 _ _ h1).2
  have b := (hK.2 _ _ h2).2
  cases ty <;> simp only [va_RA] at a b
  case object C =>
    obtain ⟨-, -, -, -, -, a⟩ := a
    obtain ⟨-, -, -, -, -, b⟩ := b
    exact Option.some.inj (a.symm.trans b)
  all_goals exact Option.some.inj (a.symm.trans b)
abbrev PreB (D : va_G) (T : List (ClassId × FieldType)) (sz : Nat) (ws : va_W) : State → Prop := fun U => U.heap.size = sz ∧ va_P D vwCl ws U.heap ∧ va_K D vwCl T U ∧ va_D (fun _ => True) ws
abbrev PostB (D : va_G) (T : List (ClassId × FieldType)) (A : Nat → Prop) (ws : va_W) : State → Prop := fun t => va_P D vwCl ws t.heap ∧ va_K D vwCl T t ∧ va_D A ws
theorem PreB_blind {av : List Value} {D : va_G} {T : List (ClassId × FieldType)} {sz : Nat} {ws : va_W} : FrameBlind (va_Pc av (PreB D T sz ws)) := fun a U g mk q => by
  obtain ⟨q0, q1, qP, qK, qD⟩ := q
  exact ⟨q0, q1, qP, va_K.moved (u := U) (U := U.calling g mk a) (Vm.Alike.refl U.vm) qK, qD⟩
theorem lg_cmpT {x y : Int64} : (lg_cmp x y < 0 ↔ x < y) ∧ (0 ≤ lg_cmp x y ↔ y ≤ x) ∧ (lg_cmp x y ≤ 0 ↔ x ≤ y) ∧ (0 < lg_cmp x y ↔ y < x) ∧ (lg_cmp x y = 0 ↔ x = y) := by
  rw [Int64.lt_iff_toInt_lt, Int64.le_iff_toInt_le, Int64.le_iff_toInt_le, Int64.lt_iff_toInt_lt, ← Int64.toInt_inj]
  unfold lg_cmp
  by_cases h1 : x > y
  · have h2 := Int64.lt_iff_toInt_lt.mp h1
    rw [if_pos h1]
    refine ⟨⟨fun h => absurd h (by decide), fun h => by omega⟩, ⟨fun _ => by omega, fun _ => by decide⟩, ⟨fun h => absurd h (by decide), fun h => by omega⟩, ⟨fun _ => h2, fun _ => by decide⟩, ⟨fun h => absurd h (by decide), fun h => by omega⟩⟩
  · have h2 : ¬ y.toInt < x.toInt := fun h => h1 (Int64.lt_iff_toInt_lt.mpr h)
    rw [if_neg h1]
    by_cases h3 : x = y
    · rw [if_pos h3]
      subst h3
      exact ⟨⟨fun h => absurd h (by decide), fun h => by omega⟩, ⟨fun _ => Int.le_refl _, fun _ => by decide⟩, ⟨fun _ => Int.le_refl _, fun _ => by decide⟩, ⟨fun h => absurd h (by decide), fun h => by omega⟩, ⟨fun _ => rfl, fun _ => rfl⟩⟩
    · have h4 : x.toInt ≠ y.toInt := fun h => h3 (Int64.toInt_inj.mp h)
      rw [if_neg h3]
      exact ⟨⟨fun _ => by omega, fun _ => by decide⟩, ⟨fun h => absurd h (by decide), fun h => by omega⟩, ⟨fun _ => by omega, fun _ => by decide⟩, ⟨fun h => absurd h (by decide), fun h => by omega⟩, ⟨fun h => absurd h (by decide), fun h => absurd h h4⟩⟩

section NB
variable {p : Program} {l : Launch} {e : Env} {R : Room} {s : State} {m : MethodId} {args : Array Value} {below : List Frame} {meth : Method} {c : Code} {H : Heap} {locs : List Loc} {cells slots : Nat} {Q : State → Prop}
variable {cc : ByteArray} {pc : Nat} {ls : Array Slot} {rest : List Value} {D : va_G} {cl : List vw_C} {A : Nat → Prop} {tys : List (ClassId × FieldType)} {ws ws' : va_W} {H0 : Heap}
theorem n_iadd (hx : p.tables.exec = Jvm.exec) (hb : c.code = cc) {a b r : Nat} (hdg : decode cc pc = .ok (.iadd, 1)) (hr : a + b = r)
    (k : W p l e R s m args below meth c H locs cells slots Q (F0 m (pc + 1) ls (.int (nI r) :: rest))) : W p l e R s m args below meth c H locs cells slots Q (F0 m (pc) ls (.int (nI b) :: .int (nI a) :: rest)) :=
  lv_iadd hx hb hdg (by rw [nI_add, hr]; exact k)
theorem n_isub (hx : p.tables.exec = Jvm.exec) (hb : c.code = cc) {a b r : Nat} (hdg : decode cc pc = .ok (.isub, 1)) (h : b ≤ a) (hr : a - b = r)
    (k : W p l e R s m args below meth c H locs cells slots Q (F0 m (pc + 1) ls (.int (nI r) :: rest))) : W p l e R s m args below meth c H locs cells slots Q (F0 m (pc) ls (.int (nI b) :: .int (nI a) :: rest)) :=
  lv_isub hx hb hdg (by rw [pk_sub h, hr]; exact k)
theorem n_imul (hx : p.tables.exec = Jvm.exec) (hb : c.code = cc) {a b r : Nat} (hdg : decode cc pc = .ok (.imul, 1)) (hr : a * b = r)
    (k : W p l e R s m args below meth c H locs cells slots Q (F0 m (pc + 1) ls (.int (nI r) :: rest))) : W p l e R s m args below meth c H locs cells slots Q (F0 m (pc) ls (.int (nI b) :: .int (nI a) :: rest)) :=
  lv_imul hx hb hdg (by rw [pk_mul, hr]; exact k)
theorem n_idiv (hx : p.tables.exec = Jvm.exec) (hb : c.code = cc) {a b r : Nat} (hdg : decode cc pc = .ok (.idiv, 1)) (ha : a < 2 ^ 31) (h0 : 0 < b) (hb2 : b < 2 ^ 31) (hr : a / b = r)
    (k : W p l e R s m args below meth c H locs cells slots Q (F0 m (pc + 1) ls (.int (nI r) :: rest))) : W p l e R s m args below meth c H locs cells slots Q (F0 m (pc) ls (.int (nI b) :: .int (nI a) :: rest)) :=
  lv_idiv hx hb hdg (nI_ne0 h0 hb2) (by rw [pk_div ha h0 hb2, hr]; exact k)
theorem n_irem (hx : p.tables.exec = Jvm.exec) (hb : c.code = cc) {a b r : Nat} (hdg : decode cc pc = .ok (.irem, 1)) (ha : a < 2 ^ 31) (h0 : 0 < b) (hb2 : b < 2 ^ 31) (hr : a % b = r)
    (k : W p l e R s m args below meth c H locs cells slots Q (F0 m (pc + 1) ls (.int (nI r) :: rest))) : W p l e R s m args below meth c H locs cells slots Q (F0 m (pc) ls (.int (nI b) :: .int (nI a) :: rest)) :=
  lv_irem hx hb hdg (nI_ne0 h0 hb2) (by rw [pk_rem ha h0 hb2, hr]; exact k)
theorem n_ladd (hx : p.tables.exec = Jvm.exec) (hb : c.code = cc) {a b r : Nat} (hdg : decode cc pc = .ok (.ladd, 1)) (hr : a + b = r)
    (k : W p l e R s m args below meth c H locs cells slots Q (F0 m (pc + 1) ls (.long (lN r) :: rest))) : W p l e R s m args below meth c H locs cells slots Q (F0 m (pc) ls (.long (lN b) :: .long (lN a) :: rest)) :=
  lv_ladd hx hb hdg (by rw [lN_add, hr]; exact k)
theorem n_lsub (hx : p.tables.exec = Jvm.exec) (hb : c.code = cc) {a b r : Nat} (hdg : decode cc pc = .ok (.lsub, 1)) (h : b ≤ a) (hr : a - b = r)
    (k : W p l e R s m args below meth c H locs cells slots Q (F0 m (pc + 1) ls (.long (lN r) :: rest))) : W p l e R s m args below meth c H locs cells slots Q (F0 m (pc) ls (.long (lN b) :: .long (lN a) :: rest)) :=
  lv_lsub hx hb hdg (by rw [lN_sub h, hr]; exact k)
theorem n_lmul (hx : p.tables.exec = Jvm.exec) (hb : c.code = cc) {a b r : Nat} (hdg : decode cc pc = .ok (.lmul, 1)) (hr : a * b = r)
    (k : W p l e R s m args below meth c H locs cells slots Q (F0 m (pc + 1) ls (.long (lN r) :: rest))) : W p l e R s m args below meth c H locs cells slots Q (F0 m (pc) ls (.long (lN b) :: .long (lN a) :: rest)) :=
  lv_lmul hx hb hdg (by rw [lN_mul, hr]; exact k)
theorem lN_ne0 {n : Nat} (h0 : 0 < n) (h : n < 2 ^ 63) : ¬ lN n = 0 := by
  intro q
  have a := (pk_lEQ (a := n) (b := 0) h (by decide)).mp q
  omega
theorem n_ldiv (hx : p.tables.exec = Jvm.exec) (hb : c.code = cc) {a b r : Nat} (hdg : decode cc pc = .ok (.ldiv, 1)) (ha : a < 2 ^ 63) (h0 : 0 < b) (hb2 : b < 2 ^ 63) (hr : a / b = r)
    (k : W p l e R s m args below meth c H locs cells slots Q (F0 m (pc + 1) ls (.long (lN r) :: rest))) : W p l e R s m args below meth c H locs cells slots Q (F0 m (pc) ls (.long (lN b) :: .long (lN a) :: rest)) :=
  lv_ldiv hx hb hdg (lN_ne0 h0 hb2) (by rw [pk_lDiv ha h0 hb2, hr]; exact k)
theorem n_lrem (hx : p.tables.exec = Jvm.exec) (hb : c.code = cc) {a b r : Nat} (hdg : decode cc pc = .ok (.lrem, 1)) (ha : a < 2 ^ 63) (h0 : 0 < b) (hb2 : b < 2 ^ 63) (hr : a % b = r)
    (k : W p l e R s m args below meth c H locs cells slots Q (F0 m (pc + 1) ls (.long (lN r) :: rest))) : W p l e R s m args below meth c H locs cells slots Q (F0 m (pc) ls (.long (lN b) :: .long (lN a) :: rest)) :=
  lv_lrem hx hb hdg (lN_ne0 h0 hb2) (by rw [pk_lRem ha h0 hb2, hr]; exact k)
theorem n_i2l (hx : p.tables.exec = Jvm.exec) (hb : c.code = cc) {a : Nat} (ha : a < 2 ^ 31) (hdg : decode cc pc = .ok (.i2l, 1)) (k : W p l e R s m args below meth c H locs cells slots Q (F0 m (pc + 1) ls (.long (lN a) :: rest))) : W p l e R s m args below meth c H locs cells slots Q (F0 m (pc) ls (.int (nI a) :: rest)) := lv_i2l hx hb hdg (nI_l ha) k
theorem n_icmp_lt (hx : p.tables.exec = Jvm.exec) (hb : c.code = cc) {a b : Nat} {off : Int} {tgt : Nat} (ha : a < 2 ^ 31) (hb2 : b < 2 ^ 31) (hdg : decode cc pc = .ok (.if_icmp .lt off, 3)) (ht : (pc : Int) + off = (tgt : Int))
    (kt : a < b → W p l e R s m args below meth c H locs cells slots Q (F0 m (tgt) ls (rest))) (kf : b ≤ a → W p l e R s m args below meth c H locs cells slots Q (F0 m (pc + 3) ls (rest))) : W p l e R s m args below meth c H locs cells slots Q (F0 m (pc) ls (.int (nI b) :: .int (nI a) :: rest)) :=
  lv_icmp_lt hx hb hdg ht (fun h => kt ((nI_ltI ha hb2).mp h)) (fun h => kf (Nat.not_lt.mp (fun z => h ((nI_ltI ha hb2).mpr z))))
theorem n_icmp_ge (hx : p.tables.exec = Jvm.exec) (hb : c.code = cc) {a b : Nat} {off : Int} {tgt : Nat} (ha : a < 2 ^ 31) (hb2 : b < 2 ^ 31) (hdg : decode cc pc = .ok (.if_icmp .ge off, 3)) (ht : (pc : Int) + off = (tgt : Int))
    (kt : b ≤ a → W p l e R s m args below meth c H locs cells slots Q (F0 m (tgt) ls (rest))) (kf : a < b → W p l e R s m args below meth c H locs cells slots Q (F0 m (pc + 3) ls (rest))) : W p l e R s m args below meth c H locs cells slots Q (F0 m (pc) ls (.int (nI b) :: .int (nI a) :: rest)) :=
  lv_icmp_ge hx hb hdg ht (fun h => kt ((nI_leI hb2 ha).mp h)) (fun h => kf (Nat.not_le.mp (fun z => h ((nI_leI hb2 ha).mpr z))))
theorem n_icmp_le (hx : p.tables.exec = Jvm.exec) (hb : c.code = cc) {a b : Nat} {off : Int} {tgt : Nat} (ha : a < 2 ^ 31) (hb2 : b < 2 ^ 31) (hdg : decode cc pc = .ok (.if_icmp .le off, 3)) (ht : (pc : Int) + off = (tgt : Int))
    (kt : a ≤ b → W p l e R s m args below meth c H locs cells slots Q (F0 m (tgt) ls (rest))) (kf : b < a → W p l e R s m args below meth c H locs cells slots Q (F0 m (pc + 3) ls (rest))) : W p l e R s m args below meth c H locs cells slots Q (F0 m (pc) ls (.int (nI b) :: .int (nI a) :: rest)) :=
  lv_icmp_le hx hb hdg ht (fun h => kt ((nI_leI ha hb2).mp h)) (fun h => kf (Nat.not_le.mp (fun z => h ((nI_leI ha hb2).mpr z))))
theorem n_icmp_gt (hx : p.tables.exec = Jvm.exec) (hb : c.code = cc) {a b : Nat} {off : Int} {tgt : Nat} (ha : a < 2 ^ 31) (hb2 : b < 2 ^ 31) (hdg : decode cc pc = .ok (.if_icmp .gt off, 3)) (ht : (pc : Int) + off = (tgt : Int))
    (kt : b < a → W p l e R s m args below meth c H locs cells slots Q (F0 m (tgt) ls (rest))) (kf : a ≤ b → W p l e R s m args below meth c H locs cells slots Q (F0 m (pc + 3) ls (rest))) : W p l e R s m args below meth c H locs cells slots Q (F0 m (pc) ls (.int (nI b) :: .int (nI a) :: rest)) :=
  lv_icmp_gt hx hb hdg ht (fun h => kt ((nI_ltI hb2 ha).mp h)) (fun h => kf (Nat.not_lt.mp (fun z => h ((nI_ltI hb2 ha).mpr z))))
theorem n_icmp_eq (hx : p.tables.exec = Jvm.exec) (hb : c.code = cc) {a b : Nat} {off : Int} {tgt : Nat} (ha : a < 2 ^ 31) (hb2 : b < 2 ^ 31) (hdg : decode cc pc = .ok (.if_icmp .eq off, 3)) (ht : (pc : Int) + off = (tgt : Int))
    (kt : a = b → W p l e R s m args below meth c H locs cells slots Q (F0 m (tgt) ls (rest))) (kf : a ≠ b → W p l e R s m args below meth c H locs cells slots Q (F0 m (pc + 3) ls (rest))) : W p l e R s m args below meth c H locs cells slots Q (F0 m (pc) ls (.int (nI b) :: .int (nI a) :: rest)) :=
  lv_icmp_eq hx hb hdg ht (fun h => kt ((nI_eq ha hb2).mp h)) (fun h => kf ((fun z => h ((nI_eq ha hb2).mpr z))))
theorem n_icmp_ne (hx : p.tables.exec = Jvm.exec) (hb : c.code = cc) {a b : Nat} {off : Int} {tgt : Nat} (ha : a < 2 ^ 31) (hb2 : b < 2 ^ 31) (hdg : decode cc pc = .ok (.if_icmp .ne off, 3)) (ht : (pc : Int) + off = (tgt : Int))
    (kt : a ≠ b → W p l e R s m args below meth c H locs cells slots Q (F0 m (tgt) ls (rest))) (kf : a = b → W p l e R s m args below meth c H locs cells slots Q (F0 m (pc + 3) ls (rest))) : W p l e R s m args below meth c H locs cells slots Q (F0 m (pc) ls (.int (nI b) :: .int (nI a) :: rest)) :=
  lv_icmp_ne hx hb hdg ht (fun h => kt ((fun z => h ((nI_eq ha hb2).mpr z)))) (fun h => kf ((nI_eq ha hb2).mp h))
theorem n_if_eq (hx : p.tables.exec = Jvm.exec) (hb : c.code = cc) {a : Nat} {off : Int} {tgt : Nat} (ha : a < 2 ^ 31) (hdg : decode cc pc = .ok (.ifCond .eq off, 3)) (ht : (pc : Int) + off = (tgt : Int))
    (kt : a = 0 → W p l e R s m args below meth c H locs cells slots Q (F0 m (tgt) ls (rest))) (kf : 0 < a → W p l e R s m args below meth c H locs cells slots Q (F0 m (pc + 3) ls (rest))) : W p l e R s m args below meth c H locs cells slots Q (F0 m (pc) ls (.int (nI a) :: rest)) :=
  lv_if_eq hx hb hdg ht (fun h => kt ((nI_eq ha (by decide : 0 < 2 ^ 31)).mp h)) (fun h => kf (Nat.pos_of_ne_zero (fun z => h ((nI_eq ha (by decide : 0 < 2 ^ 31)).mpr z))))
theorem n_if_ne (hx : p.tables.exec = Jvm.exec) (hb : c.code = cc) {a : Nat} {off : Int} {tgt : Nat} (ha : a < 2 ^ 31) (hdg : decode cc pc = .ok (.ifCond .ne off, 3)) (ht : (pc : Int) + off = (tgt : Int))
    (kt : 0 < a → W p l e R s m args below meth c H locs cells slots Q (F0 m (tgt) ls (rest))) (kf : a = 0 → W p l e R s m args below meth c H locs cells slots Q (F0 m (pc + 3) ls (rest))) : W p l e R s m args below meth c H locs cells slots Q (F0 m (pc) ls (.int (nI a) :: rest)) :=
  lv_if_ne hx hb hdg ht (fun h => kt (Nat.pos_of_ne_zero (fun z => h ((nI_eq ha (by decide : 0 < 2 ^ 31)).mpr z)))) (fun h => kf ((nI_eq ha (by decide : 0 < 2 ^ 31)).mp h))
theorem n_if_le (hx : p.tables.exec = Jvm.exec) (hb : c.code = cc) {a : Nat} {off : Int} {tgt : Nat} (ha : a < 2 ^ 31) (hdg : decode cc pc = .ok (.ifCond .le off, 3)) (ht : (pc : Int) + off = (tgt : Int))
    (kt : a = 0 → W p l e R s m args below meth c H locs cells slots Q (F0 m (tgt) ls (rest))) (kf : 0 < a → W p l e R s m args below meth c H locs cells slots Q (F0 m (pc + 3) ls (rest))) : W p l e R s m args below meth c H locs cells slots Q (F0 m (pc) ls (.int (nI a) :: rest)) :=
  lv_if_le hx hb hdg ht (fun h => kt (Nat.le_zero.mp ((nI_leI ha (by decide : 0 < 2 ^ 31)).mp h))) (fun h => kf (Nat.not_le.mp (fun z => h ((nI_leI ha (by decide : 0 < 2 ^ 31)).mpr z))))
theorem n_if_gt (hx : p.tables.exec = Jvm.exec) (hb : c.code = cc) {a : Nat} {off : Int} {tgt : Nat} (ha : a < 2 ^ 31) (hdg : decode cc pc = .ok (.ifCond .gt off, 3)) (ht : (pc : Int) + off = (tgt : Int))
    (kt : 0 < a → W p l e R s m args below meth c H locs cells slots Q (F0 m (tgt) ls (rest))) (kf : a = 0 → W p l e R s m args below meth c H locs cells slots Q (F0 m (pc + 3) ls (rest))) : W p l e R s m args below meth c H locs cells slots Q (F0 m (pc) ls (.int (nI a) :: rest)) :=
  lv_if_gt hx hb hdg ht (fun h => kt ((nI_ltI (by decide : 0 < 2 ^ 31) ha).mp h)) (fun h => kf (Nat.le_zero.mp (Nat.not_lt.mp (fun z => h ((nI_ltI (by decide : 0 < 2 ^ 31) ha).mpr z)))))
theorem n_if_lt (hx : p.tables.exec = Jvm.exec) (hb : c.code = cc) {a : Nat} {off : Int} {tgt : Nat} (ha : a < 2 ^ 31) (hdg : decode cc pc = .ok (.ifCond .lt off, 3)) (ht : (pc : Int) + off = (tgt : Int))
    (kf : W p l e R s m args below meth c H locs cells slots Q (F0 m (pc + 3) ls (rest))) : W p l e R s m args below meth c H locs cells slots Q (F0 m (pc) ls (.int (nI a) :: rest)) :=
  lv_if_lt hx hb hdg ht (fun h => absurd h (nI_pos ha)) (fun _ => kf)
theorem n_if_ge (hx : p.tables.exec = Jvm.exec) (hb : c.code = cc) {a : Nat} {off : Int} {tgt : Nat} (ha : a < 2 ^ 31) (hdg : decode cc pc = .ok (.ifCond .ge off, 3)) (ht : (pc : Int) + off = (tgt : Int))
    (kt : W p l e R s m args below meth c H locs cells slots Q (F0 m (tgt) ls (rest))) : W p l e R s m args below meth c H locs cells slots Q (F0 m (pc) ls (.int (nI a) :: rest)) :=
  lv_if_ge hx hb hdg ht (fun _ => kt) (fun h => absurd (nI_pos' ha) h)
theorem i64_nlt {x y : Int64} (h : ¬ x < y) : y ≤ x := by rw [Int64.lt_iff_toInt_lt] at h; rw [Int64.le_iff_toInt_le]; omega
theorem i64_nle {x y : Int64} (h : ¬ x ≤ y) : y < x := by rw [Int64.le_iff_toInt_le] at h; rw [Int64.lt_iff_toInt_lt]; omega
theorem i32_nlt {x y : Int32} (h : ¬ x < y) : y ≤ x := by rw [Int32.lt_iff_toInt_lt] at h; rw [Int32.le_iff_toInt_le]; omega
theorem i32_nle {x y : Int32} (h : ¬ x ≤ y) : y < x := by rw [Int32.le_iff_toInt_le] at h; rw [Int32.lt_iff_toInt_lt]; omega
theorem r_lcmp_lt (hx : p.tables.exec = Jvm.exec) (hb : c.code = cc) {x y : Int64} {off : Int} {tgt : Nat} (hd0 : decode cc pc = .ok (.lcmp, 1)) (hdg : decode cc (pc + 1) = .ok (.ifCond .lt off, 3)) (ht : ((pc + 1 : Nat) : Int) + off = (tgt : Int))
    (kt : x < y → W p l e R s m args below meth c H locs cells slots Q (F0 m (tgt) ls (rest))) (kf : y ≤ x → W p l e R s m args below meth c H locs cells slots Q (F0 m (pc + 1 + 3) ls (rest))) : W p l e R s m args below meth c H locs cells slots Q (F0 m (pc) ls (.long y :: .long x :: rest)) :=
  W.lcmp hx hb hd0 (lv_if_lt hx hb hdg ht (fun h => kt (lg_cmpT.1.mp h)) (fun h => kf (i64_nlt (fun z => h (lg_cmpT.1.mpr z)))))
theorem n_lcmp_lt (hx : p.tables.exec = Jvm.exec) (hb : c.code = cc) {a b : Nat} {off : Int} {tgt : Nat} (ha : a < 2 ^ 63) (hb2 : b < 2 ^ 63) (hd0 : decode cc pc = .ok (.lcmp, 1)) (hdg : decode cc (pc + 1) = .ok (.ifCond .lt off, 3)) (ht : ((pc + 1 : Nat) : Int) + off = (tgt : Int))
    (kt : a < b → W p l e R s m args below meth c H locs cells slots Q (F0 m (tgt) ls (rest))) (kf : b ≤ a → W p l e R s m args below meth c H locs cells slots Q (F0 m (pc + 1 + 3) ls (rest))) : W p l e R s m args below meth c H locs cells slots Q (F0 m (pc) ls (.long (lN b) :: .long (lN a) :: rest)) :=
  r_lcmp_lt hx hb hd0 hdg ht (fun h => kt ((pk_lLT ha hb2).mp h)) (fun h => kf ((pk_lLE hb2 ha).mp h))
theorem r_lcmp_ge (hx : p.tables.exec = Jvm.exec) (hb : c.code = cc) {x y : Int64} {off : Int} {tgt : Nat} (hd0 : decode cc pc = .ok (.lcmp, 1)) (hdg : decode cc (pc + 1) = .ok (.ifCond .ge off, 3)) (ht : ((pc + 1 : Nat) : Int) + off = (tgt : Int))
    (kt : y ≤ x → W p l e R s m args below meth c H locs cells slots Q (F0 m (tgt) ls (rest))) (kf : x < y → W p l e R s m args below meth c H locs cells slots Q (F0 m (pc + 1 + 3) ls (rest))) : W p l e R s m args below meth c H locs cells slots Q (F0 m (pc) ls (.long y :: .long x :: rest)) :=
  W.lcmp hx hb hd0 (lv_if_ge hx hb hdg ht (fun h => kt (lg_cmpT.2.1.mp h)) (fun h => kf (i64_nle (fun z => h (lg_cmpT.2.1.mpr z)))))
theorem n_lcmp_ge (hx : p.tables.exec = Jvm.exec) (hb : c.code = cc) {a b : Nat} {off : Int} {tgt : Nat} (ha : a < 2 ^ 63) (hb2 : b < 2 ^ 63) (hd0 : decode cc pc = .ok (.lcmp, 1)) (hdg : decode cc (pc + 1) = .ok (.ifCond .ge off, 3)) (ht : ((pc + 1 : Nat) : Int) + off = (tgt : Int))
    (kt : b ≤ a → W p l e R s m args below meth c H locs cells slots Q (F0 m (tgt) ls (rest))) (kf : a < b → W p l e R s m args below meth c H locs cells slots Q (F0 m (pc + 1 + 3) ls (rest))) : W p l e R s m args below meth c H locs cells slots Q (F0 m (pc) ls (.long (lN b) :: .long (lN a) :: rest)) :=
  r_lcmp_ge hx hb hd0 hdg ht (fun h => kt ((pk_lLE hb2 ha).mp h)) (fun h => kf ((pk_lLT ha hb2).mp h))
theorem r_lcmp_le (hx : p.tables.exec = Jvm.exec) (hb : c.code = cc) {x y : Int64} {off : Int} {tgt : Nat} (hd0 : decode cc pc = .ok (.lcmp, 1)) (hdg : decode cc (pc + 1) = .ok (.ifCond .le off, 3)) (ht : ((pc + 1 : Nat) : Int) + off = (tgt : Int))
    (kt : x ≤ y → W p l e R s m args below meth c H locs cells slots Q (F0 m (tgt) ls (rest))) (kf : y < x → W p l e R s m args below meth c H locs cells slots Q (F0 m (pc + 1 + 3) ls (rest))) : W p l e R s m args below meth c H locs cells slots Q (F0 m (pc) ls (.long y :: .long x :: rest)) :=
  W.lcmp hx hb hd0 (lv_if_le hx hb hdg ht (fun h => kt (lg_cmpT.2.2.1.mp h)) (fun h => kf (i64_nle (fun z => h (lg_cmpT.2.2.1.mpr z)))))
theorem n_lcmp_le (hx : p.tables.exec = Jvm.exec) (hb : c.code = cc) {a b : Nat} {off : Int} {tgt : Nat} (ha : a < 2 ^ 63) (hb2 : b < 2 ^ 63) (hd0 : decode cc pc = .ok (.lcmp, 1)) (hdg : decode cc (pc + 1) = .ok (.ifCond .le off, 3)) (ht : ((pc + 1 : Nat) : Int) + off = (tgt : Int))
    (kt : a ≤ b → W p l e R s m args below meth c H locs cells slots Q (F0 m (tgt) ls (rest))) (kf : b < a → W p l e R s m args below meth c H locs cells slots Q (F0 m (pc + 1 + 3) ls (rest))) : W p l e R s m args below meth c H locs cells slots Q (F0 m (pc) ls (.long (lN b) :: .long (lN a) :: rest)) :=
  r_lcmp_le hx hb hd0 hdg ht (fun h => kt ((pk_lLE ha hb2).mp h)) (fun h => kf ((pk_lLT hb2 ha).mp h))
theorem r_lcmp_gt (hx : p.tables.exec = Jvm.exec) (hb : c.code = cc) {x y : Int64} {off : Int} {tgt : Nat} (hd0 : decode cc pc = .ok (.lcmp, 1)) (hdg : decode cc (pc + 1) = .ok (.ifCond .gt off, 3)) (ht : ((pc + 1 : Nat) : Int) + off = (tgt : Int))
    (kt : y < x → W p l e R s m args below meth c H locs cells slots Q (F0 m (tgt) ls (rest))) (kf : x ≤ y → W p l e R s m args below meth c H locs cells slots Q (F0 m (pc + 1 + 3) ls (rest))) : W p l e R s m args below meth c H locs cells slots Q (F0 m (pc) ls (.long y :: .long x :: rest)) :=
  W.lcmp hx hb hd0 (lv_if_gt hx hb hdg ht (fun h => kt (lg_cmpT.2.2.2.1.mp h)) (fun h => kf (i64_nlt (fun z => h (lg_cmpT.2.2.2.1.mpr z)))))
theorem n_lcmp_gt (hx : p.tables.exec = Jvm.exec) (hb : c.code = cc) {a b : Nat} {off : Int} {tgt : Nat} (ha : a < 2 ^ 63) (hb2 : b < 2 ^ 63) (hd0 : decode cc pc = .ok (.lcmp, 1)) (hdg : decode cc (pc + 1) = .ok (.ifCond .gt off, 3)) (ht : ((pc + 1 : Nat) : Int) + off = (tgt : Int))
    (kt : b < a → W p l e R s m args below meth c H locs cells slots Q (F0 m (tgt) ls (rest))) (kf : a ≤ b → W p l e R s m args below meth c H locs cells slots Q (F0 m (pc + 1 + 3) ls (rest))) : W p l e R s m args below meth c H locs cells slots Q (F0 m (pc) ls (.long (lN b) :: .long (lN a) :: rest)) :=
  r_lcmp_gt hx hb hd0 hdg ht (fun h => kt ((pk_lLT hb2 ha).mp h)) (fun h => kf ((pk_lLE ha hb2).mp h))
theorem r_lcmp_eq (hx : p.tables.exec = Jvm.exec) (hb : c.code = cc) {x y : Int64} {off : Int} {tgt : Nat} (hd0 : decode cc pc = .ok (.lcmp, 1)) (hdg : decode cc (pc + 1) = .ok (.ifCond .eq off, 3)) (ht : ((pc + 1 : Nat) : Int) + off = (tgt : Int))
    (kt : x = y → W p l e R s m args below meth c H locs cells slots Q (F0 m (tgt) ls (rest))) (kf : x ≠ y → W p l e R s m args below meth c H locs cells slots Q (F0 m (pc + 1 + 3) ls (rest))) : W p l e R s m args below meth c H locs cells slots Q (F0 m (pc) ls (.long y :: .long x :: rest)) :=
  W.lcmp hx hb hd0 (lv_if_eq hx hb hdg ht (fun h => kt (lg_cmpT.2.2.2.2.mp h)) (fun h => kf (fun z => h (lg_cmpT.2.2.2.2.mpr z))))
theorem n_lcmp_eq (hx : p.tables.exec = Jvm.exec) (hb : c.code = cc) {a b : Nat} {off : Int} {tgt : Nat} (ha : a < 2 ^ 63) (hb2 : b < 2 ^ 63) (hd0 : decode cc pc = .ok (.lcmp, 1)) (hdg : decode cc (pc + 1) = .ok (.ifCond .eq off, 3)) (ht : ((pc + 1 : Nat) : Int) + off = (tgt : Int))
    (kt : a = b → W p l e R s m args below meth c H locs cells slots Q (F0 m (tgt) ls (rest))) (kf : a ≠ b → W p l e R s m args below meth c H locs cells slots Q (F0 m (pc + 1 + 3) ls (rest))) : W p l e R s m args below meth c H locs cells slots Q (F0 m (pc) ls (.long (lN b) :: .long (lN a) :: rest)) :=
  r_lcmp_eq hx hb hd0 hdg ht (fun h => kt ((pk_lEQ ha hb2).mp h)) (fun h => kf (fun z => h ((pk_lEQ ha hb2).mpr z)))
theorem r_lcmp_ne (hx : p.tables.exec = Jvm.exec) (hb : c.code = cc) {x y : Int64} {off : Int} {tgt : Nat} (hd0 : decode cc pc = .ok (.lcmp, 1)) (hdg : decode cc (pc + 1) = .ok (.ifCond .ne off, 3)) (ht : ((pc + 1 : Nat) : Int) + off = (tgt : Int))
    (kt : x ≠ y → W p l e R s m args below meth c H locs cells slots Q (F0 m (tgt) ls (rest))) (kf : x = y → W p l e R s m args below meth c H locs cells slots Q (F0 m (pc + 1 + 3) ls (rest))) : W p l e R s m args below meth c H locs cells slots Q (F0 m (pc) ls (.long y :: .long x :: rest)) :=
  W.lcmp hx hb hd0 (lv_if_ne hx hb hdg ht (fun h => kt (fun z => h (lg_cmpT.2.2.2.2.mpr z))) (fun h => kf (lg_cmpT.2.2.2.2.mp h)))
theorem n_lcmp_ne (hx : p.tables.exec = Jvm.exec) (hb : c.code = cc) {a b : Nat} {off : Int} {tgt : Nat} (ha : a < 2 ^ 63) (hb2 : b < 2 ^ 63) (hd0 : decode cc pc = .ok (.lcmp, 1)) (hdg : decode cc (pc + 1) = .ok (.ifCond .ne off, 3)) (ht : ((pc + 1 : Nat) : Int) + off = (tgt : Int))
    (kt : a ≠ b → W p l e R s m args below meth c H locs cells slots Q (F0 m (tgt) ls (rest))) (kf : a = b → W p l e R s m args below meth c H locs cells slots Q (F0 m (pc + 1 + 3) ls (rest))) : W p l e R s m args below meth c H locs cells slots Q (F0 m (pc) ls (.long (lN b) :: .long (lN a) :: rest)) :=
  r_lcmp_ne hx hb hd0 hdg ht (fun h => kt (fun z => h ((pk_lEQ ha hb2).mpr z))) (fun h => kf ((pk_lEQ ha hb2).mp h))
theorem n_iald (hx : p.tables.exec = Jvm.exec) (hb : c.code = cc) (hK : va_K D cl tys s) (hP : va_P D cl ws H) (q0 t0 : Nat) {a : Nat} {cA : ClassId} {n i : Nat} {f : Nat → Int32} {x : Int32} (ha : ws[q0]? = some (a, .inl (cA, n, .inl f))) (ht : tys[t0]? = some (cA, .int)) (hi : i < n) (hn : n < 2 ^ 31) (hxv : f i = x) (hdg : decode cc pc = .ok (.iaload, 1))
    (kk : W p l e R s m args below meth c H locs cells slots Q (F0 m (pc + 1) ls (.int x :: rest))) : W p l e R s m args below meth c H locs cells slots Q (F0 m (pc) ls (.int (nI i) :: .ref a :: rest)) :=
  va_iald hx hb hK hP q0 t0 ha ht (vp_in_nI hi hn) hdg (by rw [nI_clamp (Nat.lt_trans hi hn), hxv]; exact kk)
theorem n_lald (hx : p.tables.exec = Jvm.exec) (hb : c.code = cc) (hK : va_K D cl tys s) (hP : va_P D cl ws H) (q0 t0 : Nat) {a : Nat} {cA : ClassId} {n i : Nat} {f : Nat → Int64} {x : Int64} (ha : ws[q0]? = some (a, .inl (cA, n, .inr (.inl f)))) (ht : tys[t0]? = some (cA, .long)) (hi : i < n) (hn : n < 2 ^ 31) (hxv : f i = x) (hdg : decode cc pc = .ok (.laload, 1))
    (kk : W p l e R s m args below meth c H locs cells slots Q (F0 m (pc + 1) ls (.long x :: rest))) : W p l e R s m args below meth c H locs cells slots Q (F0 m (pc) ls (.int (nI i) :: .ref a :: rest)) :=
  va_lald hx hb hK hP q0 t0 ha ht (vp_in_nI hi hn) hdg (by rw [nI_clamp (Nat.lt_trans hi hn), hxv]; exact kk)
theorem n_iast (hx : p.tables.exec = Jvm.exec) (hb : c.code = cc) (hK : va_K D cl tys s) (hP : va_P D cl ws H) (hD : va_D A ws) (hS : va_S A H0 H locs) (q0 t0 : Nat) {a : Nat} {cA : ClassId} {n i : Nat} {f : Nat → Int32} (f' : Nat → Int32) {x : Int32} (ha : ws[q0]? = some (a, .inl (cA, n, .inl f))) (ht : tys[t0]? = some (cA, .int)) (hi : i < n) (hn : n < 2 ^ 31) (hf : ∀ j, j < n → (if j = i then x else f j) = f' j) (hw : ws.set q0 (a, .inl (cA, n, .inl f')) = ws') (hdg : decode cc pc = .ok (.iastore, 1))
    (kk : ∀ (H1 : Heap) (locs1 : List Loc), va_P D cl ws' H1 → va_D A ws' → va_S A H0 H1 locs1 → W p l e R s m args below meth c H1 locs1 cells slots Q (F0 m (pc + 1) ls (rest))) : W p l e R s m args below meth c H locs cells slots Q (F0 m (pc) ls (.int x :: .int (nI i) :: .ref a :: rest)) :=
  va_iast hx hb hK hP hD hS q0 t0 ha ht (vp_in_nI hi hn) hdg (fun H1 locs1 h1 h2 h3 => kk H1 locs1 (P_altI f' h1 q0 (List.getElem?_set_self (List.getElem?_eq_some_iff.mp ha).1) (by rw [List.set_set]; exact hw) (fun j hj => by rw [nI_clamp (Nat.lt_trans hi hn)]; exact hf j hj)) (by rw [← hw]; exact hD.set ha) h3)
theorem n_last (hx : p.tables.exec = Jvm.exec) (hb : c.code = cc) (hK : va_K D cl tys s) (hP : va_P D cl ws H) (hD : va_D A ws) (hS : va_S A H0 H locs) (q0 t0 : Nat) {a : Nat} {cA : ClassId} {n i : Nat} {f : Nat → Int64} (f' : Nat → Int64) {x : Int64} (ha : ws[q0]? = some (a, .inl (cA, n, .inr (.inl f)))) (ht : tys[t0]? = some (cA, .long)) (hi : i < n) (hn : n < 2 ^ 31) (hf : ∀ j, j < n → (if j = i then x else f j) = f' j) (hw : ws.set q0 (a, .inl (cA, n, .inr (.inl f'))) = ws') (hdg : decode cc pc = .ok (.lastore, 1))
    (kk : ∀ (H1 : Heap) (locs1 : List Loc), va_P D cl ws' H1 → va_D A ws' → va_S A H0 H1 locs1 → W p l e R s m args below meth c H1 locs1 cells slots Q (F0 m (pc + 1) ls (rest))) : W p l e R s m args below meth c H locs cells slots Q (F0 m (pc) ls (.long x :: .int (nI i) :: .ref a :: rest)) :=
  va_last hx hb hK hP hD hS q0 t0 ha ht (vp_in_nI hi hn) hdg (fun H1 locs1 h1 h2 h3 => kk H1 locs1 (P_altL f' h1 q0 (List.getElem?_set_self (List.getElem?_eq_some_iff.mp ha).1) (by rw [List.set_set]; exact hw) (fun j hj => by rw [nI_clamp (Nat.lt_trans hi hn)]; exact hf j hj)) (by rw [← hw]; exact hD.set ha) h3)
theorem n_newI {cI cL cM : ClassId} (hx : p.tables.exec = Jvm.exec) (hb : c.code = cc) (harr : (Cond.arrayClass .int).before args s = true) (hK : va_K D cl (gT cI cL cM) s) (hP : va_P D cl ws H) (hD : va_D A ws) (hS : va_S A H0 H locs) (hA : ∀ q, H0.size ≤ q → A q) {n : Nat} (hn : n < 65536) (hcells : cells + 1 ≤ R.cells) (hslots : slots + n ≤ R.slots) (hdg : decode cc pc = .ok (.newarray .int, 2))
    (kk : ∀ (q : Nat) (H1 : Heap), va_P D cl (ws ++ [(q, .inl (cI, n, (.inl (fun _ => nI 0))))]) H1 → va_D A (ws ++ [(q, .inl (cI, n, (.inl (fun _ => nI 0))))]) → va_S A H0 H1 locs → W p l e R s m args below meth c H1 locs (cells + 1) (slots + n) Q (F0 m (pc + 2) ls (.ref q :: rest))) : W p l e R s m args below meth c H locs cells slots Q (F0 m (pc) ls (.int (nI n) :: rest)) :=
  va_newa (atype := .int) hx hb harr (ty := .int) rfl hK hP hD hS hA (a0 := (n, (.inl (fun _ => nI 0)))) (fun _ => rfl) (nI_pos (by omega)) (nI_clamp (by omega)) (by simp [componentBytes]; omega) hcells hslots hdg (fun q cA H1 k1 h1 h2 h3 => by
    obtain rfl : cI = cA := K_one k1 (i := 0) (j := 3) rfl rfl
    exact kk q H1 h1 h2 h3)
theorem n_newL {cI cL cM : ClassId} (hx : p.tables.exec = Jvm.exec) (hb : c.code = cc) (harr : (Cond.arrayClass .long).before args s = true) (hK : va_K D cl (gT cI cL cM) s) (hP : va_P D cl ws H) (hD : va_D A ws) (hS : va_S A H0 H locs) (hA : ∀ q, H0.size ≤ q → A q) {n : Nat} (hn : n < 65536) (hcells : cells + 1 ≤ R.cells) (hslots : slots + n ≤ R.slots) (hdg : decode cc pc = .ok (.newarray .long, 2))
    (kk : ∀ (q : Nat) (H1 : Heap), va_P D cl (ws ++ [(q, .inl (cL, n, (.inr (.inl (fun _ => lN 0)))))]) H1 → va_D A (ws ++ [(q, .inl (cL, n, (.inr (.inl (fun _ => lN 0)))))]) → va_S A H0 H1 locs → W p l e R s m args below meth c H1 locs (cells + 1) (slots + n) Q (F0 m (pc + 2) ls (.ref q :: rest))) : W p l e R s m args below meth c H locs cells slots Q (F0 m (pc) ls (.int (nI n) :: rest)) :=
  va_newa (atype := .long) hx hb harr (ty := .long) rfl hK hP hD hS hA (a0 := (n, (.inr (.inl (fun _ => lN 0))))) (fun _ => rfl) (nI_pos (by omega)) (nI_clamp (by omega)) (by simp [componentBytes]; omega) hcells hslots hdg (fun q cA H1 k1 h1 h2 h3 => by
    obtain rfl : cL = cA := K_one k1 (i := 1) (j := 3) rfl rfl
    exact kk q H1 h1 h2 h3)
end NB
/-! parts of a world, and behind a call -/
theorem P_pick {D : va_G} {cl : List vw_C} {ws wc : va_W} {H : Heap} (hP : va_P D cl ws H) (is : List Nat) (hs : is.map (fun i => ws[i]?) = wc.map some) : va_P D cl wc H := fun k q hk => by
  obtain ⟨i, -, h⟩ := va_in_of is hs hk
  exact hP i q h
theorem k_preS {s : State} {A : Nat → Prop} {D : va_G} {T : List (ClassId × FieldType)} {ws wc : va_W} {H : Heap} {As : List Value} (hP : va_P D vwCl ws H) (hD : va_D A ws) (hK : va_K D vwCl T s) (isC : List Nat) (hC : isC.map (fun i => ws[i]?) = wc.map some) (hn : va_nd isC = true) : PreS s H (va_Pc As (PreB D T H.size wc)) As :=
  ⟨PreB_blind, fun U hU hW => ⟨rfl, by rw [hU], by rw [hU]; exact P_pick hP isC hC, va_K.moved hW.alike hK, (hD.sub isC hn hC).weaken (fun _ _ _ _ => trivial)⟩⟩
theorem k_preV {s : State} {A : Nat → Prop} {D : va_G} {T : List (ClassId × FieldType)} {ws wc : va_W} {H : Heap} {C : String} {b ci : Nat} {fs : List Value} {r : vw_C} {As : List Value} (hP : va_P D vwCl ws H) (hD : va_D A ws) (hK : va_K D vwCl T s) (isC : List Nat) (hC : isC.map (fun i => ws[i]?) = wc.map some) (hn : va_nd isC = true) (q0 : Nat) (he : wc[q0]? = some (b, .inr (ci, fs))) (hc : vwCl[ci]? = some r) (hr : r.1 = C) : PreV s H C b (va_Pc (.ref b :: As) (PreB D T H.size wc)) As := by
  subst hr
  exact ⟨PreB_blind, va_recv hK (P_pick hP isC hC) hc he, fun U hU hW => ⟨rfl, by rw [hU], by rw [hU]; exact P_pick hP isC hC, va_K.moved hW.alike hK, (hD.sub isC hn hC).weaken (fun _ _ _ _ => trivial)⟩⟩
theorem k_join {A0 : Nat → Prop} {D : va_G} {cl : List vw_C} {ws wc wr w1 W1 : va_W} {H H1 : Heap} (hP : va_P D cl ws H) (hD : va_D A0 ws) (isC isR is1 : List Nat) (hC : isC.map (fun i => ws[i]?) = wc.map some) (hR : isR.map (fun i => ws[i]?) = wr.map some) (hn : va_nd isR = true) (hdis : ∀ i ∈ isR, i ∉ isC) (h1 : is1.map (fun i => (wr ++ w1)[i]?) = W1.map some) (hn1 : va_nd is1 = true)
    (hk : ∀ q : Nat, q < H.size → ¬ va_A wc H.size q → H1[q]? = H[q]?) (hF : ∀ q, va_A wc H.size q → A0 q) (hP1 : va_P D cl w1 H1) (hD1 : va_D (va_A wc H.size) w1) : va_P D cl W1 H1 ∧ va_D A0 W1 := by
  obtain ⟨hP2, hD2⟩ := va_join hP hD isC isR hC hR hn hdis hk hF hP1 hD1
  exact ⟨P_pick hP2 is1 h1, hD2.sub is1 hn1 h1⟩
/-- the same with a tail that nobody looks into -/
theorem k_joinT {A0 : Nat → Prop} {D : va_G} {cl : List vw_C} {X wc wr w1 W1 pl : va_W} {H H1 : Heap} (hP : va_P D cl (X ++ pl) H) (hD : va_D A0 (X ++ pl)) (isC isR is1 : List Nat) (hC : isC.map (fun i => X[i]?) = wc.map some) (hR : isR.map (fun i => X[i]?) = wr.map some) (hn : va_nd isR = true) (hdis : ∀ i ∈ isR, i ∉ isC) (h1 : is1.map (fun i => (wr ++ w1)[i]?) = W1.map some) (hn1 : va_nd is1 = true)
    (hk : ∀ q : Nat, q < H.size → ¬ va_A wc H.size q → H1[q]? = H[q]?) (hF : ∀ q, va_A wc H.size q → A0 q) (hP1 : va_P D cl w1 H1) (hD1 : va_D (va_A wc H.size) w1) : va_P D cl (W1 ++ pl) H1 ∧ va_D A0 (W1 ++ pl) := by
  obtain ⟨hP2, hD2⟩ := va_joinQ hP hD isC isR hC hR hn hdis hk hF hP1 hD1
  exact ⟨hP2.part is1 h1, hD2.part is1 hn1 h1⟩

section KC
variable {p : Program} {l : Launch} {e : Env} {R : Room} {s : State} {m : MethodId} {args : Array Value} {below : List Frame} {meth : Method} {c : Code} {H : Heap} {locs : List Loc} {cells slots mc ms : Nat} {Q : State → Prop}
variable {pc : Nat} {ls : Array Slot} {rest st0 : List Value} {a : Array Value} {D : va_G} {A : Nat → Prop} {T : List (ClassId × FieldType)} {ws wc wr X pl : va_W} {H0 : Heap}
theorem k_calli {S : Type} {post : Int32 → S → Prop} {w1 : S → va_W} (W1 : S → va_W) (hP : va_P D vwCl ws H) (hD : va_D A ws) (hS : va_S A H0 H locs) (hA : ∀ q, H0.size ≤ q → A q) (isC isR is1 : List Nat) (hC : isC.map (fun i => ws[i]?) = wc.map some) (hR : isR.map (fun i => ws[i]?) = wr.map some) (hn : va_nd isR = true) (hdis : ∀ i ∈ isR, i ∉ isC) (h1 : ∀ u, is1.map (fun i => (wr ++ w1 u)[i]?) = (W1 u).map some) (hn1 : va_nd is1 = true)
    (hr : va_Run p l e R s m args below meth c H locs cells slots mc ms (F0 m pc ls st0) rest (va_Qi post (fun u => PostB D T (va_A wc H.size) (w1 u)) (va_A wc H.size) a) (va_A wc H.size))
    (kk : ∀ (r : Int32) (u : S) (H1 : Heap) (locs1 : List Loc), post r u → va_P D vwCl (W1 u) H1 → va_D A (W1 u) → va_S A H0 H1 locs1 → W p l e R s m args below meth c H1 locs1 (cells + mc) (slots + ms) Q (F0 m (pc + 3) ls (.int r :: rest))) : W p l e R s m args below meth c H locs cells slots Q (F0 m pc ls st0) := by
  have hF : ∀ q, va_A wc H.size q → A q := va_free hD hS hA isC hC
  refine va_calli hr hS (fun q _ h => hF q h) hF (fun r u t H1 locs1 ht hvm hp hB hz hk hS1 => ?_)
  obtain ⟨hP1, -, hD1⟩ := hB
  rw [ht] at hP1
  obtain ⟨hP2, hD2⟩ := k_join hP hD isC isR is1 hC hR hn hdis (h1 u) hn1 hk hF hP1 hD1
  exact kk r u H1 locs1 hp hP2 hD2 hS1
theorem k_calliT {S : Type} {post : Int32 → S → Prop} {w1 : S → va_W} (W1 : S → va_W) (hP : va_P D vwCl (X ++ pl) H) (hD : va_D A (X ++ pl)) (hS : va_S A H0 H locs) (hA : ∀ q, H0.size ≤ q → A q) (isC isR is1 : List Nat) (hC : isC.map (fun i => X[i]?) = wc.map some) (hR : isR.map (fun i => X[i]?) = wr.map some) (hn : va_nd isR = true) (hdis : ∀ i ∈ isR, i ∉ isC) (h1 : ∀ u, is1.map (fun i => (wr ++ w1 u)[i]?) = (W1 u).map some) (hn1 : va_nd is1 = true)
    (hr : va_Run p l e R s m args below meth c H locs cells slots mc ms (F0 m pc ls st0) rest (va_Qi post (fun u => PostB D T (va_A wc H.size) (w1 u)) (va_A wc H.size) a) (va_A wc H.size))
    (kk : ∀ (r : Int32) (u : S) (H1 : Heap) (locs1 : List Loc), post r u → va_P D vwCl (W1 u ++ pl) H1 → va_D A (W1 u ++ pl) → va_S A H0 H1 locs1 → W p l e R s m args below meth c H1 locs1 (cells + mc) (slots + ms) Q (F0 m (pc + 3) ls (.int r :: rest))) : W p l e R s m args below meth c H locs cells slots Q (F0 m pc ls st0) := by
  have hF : ∀ q, va_A wc H.size q → A q := fun q h => by
    rcases h with ⟨k9, e9, h⟩ | h
    · obtain ⟨i9, -, h9⟩ := va_in_of isC hC h
      exact hD.2 i9 (q, e9) (by rw [List.getElem?_append_left (List.getElem?_eq_some_iff.mp h9).1]; exact h9)
    · exact hA q (Nat.le_trans hS.1 h)
  refine va_calli hr hS (fun q _ h => hF q h) hF (fun r u t H1 locs1 ht hvm hp hB hz hk hS1 => ?_)
  obtain ⟨hP1, -, hD1⟩ := hB
  rw [ht] at hP1
  obtain ⟨hP2, hD2⟩ := k_joinT hP hD isC isR is1 hC hR hn hdis (h1 u) hn1 hk hF hP1 hD1
  exact kk r u H1 locs1 hp hP2 hD2 hS1
theorem k_calll {S : Type} {post : Int64 → S → Prop} {w1 : S → va_W} (W1 : S → va_W) (hP : va_P D vwCl ws H) (hD : va_D A ws) (hS : va_S A H0 H locs) (hA : ∀ q, H0.size ≤ q → A q) (isC isR is1 : List Nat) (hC : isC.map (fun i => ws[i]?) = wc.map some) (hR : isR.map (fun i => ws[i]?) = wr.map some) (hn : va_nd isR = true) (hdis : ∀ i ∈ isR, i ∉ isC) (h1 : ∀ u, is1.map (fun i => (wr ++ w1 u)[i]?) = (W1 u).map some) (hn1 : va_nd is1 = true)
    (hr : va_Run p l e R s m args below meth c H locs cells slots mc ms (F0 m pc ls st0) rest (va_Ql post (fun u => PostB D T (va_A wc H.size) (w1 u)) (va_A wc H.size) a) (va_A wc H.size))
    (kk : ∀ (r : Int64) (u : S) (H1 : Heap) (locs1 : List Loc), post r u → va_P D vwCl (W1 u) H1 → va_D A (W1 u) → va_S A H0 H1 locs1 → W p l e R s m args below meth c H1 locs1 (cells + mc) (slots + ms) Q (F0 m (pc + 3) ls (.long r :: rest))) : W p l e R s m args below meth c H locs cells slots Q (F0 m pc ls st0) := by
  have hF : ∀ q, va_A wc H.size q → A q := va_free hD hS hA isC hC
  refine va_calll hr hS (fun q _ h => hF q h) hF (fun r u t H1 locs1 ht hvm hp hB hz hk hS1 => ?_)
  obtain ⟨hP1, -, hD1⟩ := hB
  rw [ht] at hP1
  obtain ⟨hP2, hD2⟩ := k_join hP hD isC isR is1 hC hR hn hdis (h1 u) hn1 hk hF hP1 hD1
  exact kk r u H1 locs1 hp hP2 hD2 hS1
theorem k_calllT {S : Type} {post : Int64 → S → Prop} {w1 : S → va_W} (W1 : S → va_W) (hP : va_P D vwCl (X ++ pl) H) (hD : va_D A (X ++ pl)) (hS : va_S A H0 H locs) (hA : ∀ q, H0.size ≤ q → A q) (isC isR is1 : List Nat) (hC : isC.map (fun i => X[i]?) = wc.map some) (hR : isR.map (fun i => X[i]?) = wr.map some) (hn : va_nd isR = true) (hdis : ∀ i ∈ isR, i ∉ isC) (h1 : ∀ u, is1.map (fun i => (wr ++ w1 u)[i]?) = (W1 u).map some) (hn1 : va_nd is1 = true)
    (hr : va_Run p l e R s m args below meth c H locs cells slots mc ms (F0 m pc ls st0) rest (va_Ql post (fun u => PostB D T (va_A wc H.size) (w1 u)) (va_A wc H.size) a) (va_A wc H.size))
    (kk : ∀ (r : Int64) (u : S) (H1 : Heap) (locs1 : List Loc), post r u → va_P D vwCl (W1 u ++ pl) H1 → va_D A (W1 u ++ pl) → va_S A H0 H1 locs1 → W p l e R s m args below meth c H1 locs1 (cells + mc) (slots + ms) Q (F0 m (pc + 3) ls (.long r :: rest))) : W p l e R s m args below meth c H locs cells slots Q (F0 m pc ls st0) := by
  have hF : ∀ q, va_A wc H.size q → A q := fun q h => by
    rcases h with ⟨k9, e9, h⟩ | h
    · obtain ⟨i9, -, h9⟩ := va_in_of isC hC h
      exact hD.2 i9 (q, e9) (by rw [List.getElem?_append_left (List.getElem?_eq_some_iff.mp h9).1]; exact h9)
    · exact hA q (Nat.le_trans hS.1 h)
  refine va_calll hr hS (fun q _ h => hF q h) hF (fun r u t H1 locs1 ht hvm hp hB hz hk hS1 => ?_)
  obtain ⟨hP1, -, hD1⟩ := hB
  rw [ht] at hP1
  obtain ⟨hP2, hD2⟩ := k_joinT hP hD isC isR is1 hC hR hn hdis (h1 u) hn1 hk hF hP1 hD1
  exact kk r u H1 locs1 hp hP2 hD2 hS1
theorem k_calld {S : Type} {post : UInt64 → S → Prop} {w1 : S → va_W} (W1 : S → va_W) (hP : va_P D vwCl ws H) (hD : va_D A ws) (hS : va_S A H0 H locs) (hA : ∀ q, H0.size ≤ q → A q) (isC isR is1 : List Nat) (hC : isC.map (fun i => ws[i]?) = wc.map some) (hR : isR.map (fun i => ws[i]?) = wr.map some) (hn : va_nd isR = true) (hdis : ∀ i ∈ isR, i ∉ isC) (h1 : ∀ u, is1.map (fun i => (wr ++ w1 u)[i]?) = (W1 u).map some) (hn1 : va_nd is1 = true)
    (hr : va_Run p l e R s m args below meth c H locs cells slots mc ms (F0 m pc ls st0) rest (va_Qd post (fun u => PostB D T (va_A wc H.size) (w1 u)) (va_A wc H.size) a) (va_A wc H.size))
    (kk : ∀ (r : UInt64) (u : S) (H1 : Heap) (locs1 : List Loc), post r u → va_P D vwCl (W1 u) H1 → va_D A (W1 u) → va_S A H0 H1 locs1 → W p l e R s m args below meth c H1 locs1 (cells + mc) (slots + ms) Q (F0 m (pc + 3) ls (.double r :: rest))) : W p l e R s m args below meth c H locs cells slots Q (F0 m pc ls st0) := by
  have hF : ∀ q, va_A wc H.size q → A q := va_free hD hS hA isC hC
  refine va_calld hr hS (fun q _ h => hF q h) hF (fun r u t H1 locs1 ht hvm hp hB hz hk hS1 => ?_)
  obtain ⟨hP1, -, hD1⟩ := hB
  rw [ht] at hP1
  obtain ⟨hP2, hD2⟩ := k_join hP hD isC isR is1 hC hR hn hdis (h1 u) hn1 hk hF hP1 hD1
  exact kk r u H1 locs1 hp hP2 hD2 hS1
theorem k_calldT {S : Type} {post : UInt64 → S → Prop} {w1 : S → va_W} (W1 : S → va_W) (hP : va_P D vwCl (X ++ pl) H) (hD : va_D A (X ++ pl)) (hS : va_S A H0 H locs) (hA : ∀ q, H0.size ≤ q → A q) (isC isR is1 : List Nat) (hC : isC.map (fun i => X[i]?) = wc.map some) (hR : isR.map (fun i => X[i]?) = wr.map some) (hn : va_nd isR = true) (hdis : ∀ i ∈ isR, i ∉ isC) (h1 : ∀ u, is1.map (fun i => (wr ++ w1 u)[i]?) = (W1 u).map some) (hn1 : va_nd is1 = true)
    (hr : va_Run p l e R s m args below meth c H locs cells slots mc ms (F0 m pc ls st0) rest (va_Qd post (fun u => PostB D T (va_A wc H.size) (w1 u)) (va_A wc H.size) a) (va_A wc H.size))
    (kk : ∀ (r : UInt64) (u : S) (H1 : Heap) (locs1 : List Loc), post r u → va_P D vwCl (W1 u ++ pl) H1 → va_D A (W1 u ++ pl) → va_S A H0 H1 locs1 → W p l e R s m args below meth c H1 locs1 (cells + mc) (slots + ms) Q (F0 m (pc + 3) ls (.double r :: rest))) : W p l e R s m args below meth c H locs cells slots Q (F0 m pc ls st0) := by
  have hF : ∀ q, va_A wc H.size q → A q := fun q h => by
    rcases h with ⟨k9, e9, h⟩ | h
    · obtain ⟨i9, -, h9⟩ := va_in_of isC hC h
      exact hD.2 i9 (q, e9) (by rw [List.getElem?_append_left (List.getElem?_eq_some_iff.mp h9).1]; exact h9)
    · exact hA q (Nat.le_trans hS.1 h)
  refine va_calld hr hS (fun q _ h => hF q h) hF (fun r u t H1 locs1 ht hvm hp hB hz hk hS1 => ?_)
  obtain ⟨hP1, -, hD1⟩ := hB
  rw [ht] at hP1
  obtain ⟨hP2, hD2⟩ := k_joinT hP hD isC isR is1 hC hR hn hdis (h1 u) hn1 hk hF hP1 hD1
  exact kk r u H1 locs1 hp hP2 hD2 hS1
theorem k_callv {S : Type} {post : S → Prop} {w1 : S → va_W} (W1 : S → va_W) (hP : va_P D vwCl ws H) (hD : va_D A ws) (hS : va_S A H0 H locs) (hA : ∀ q, H0.size ≤ q → A q) (isC isR is1 : List Nat) (hC : isC.map (fun i => ws[i]?) = wc.map some) (hR : isR.map (fun i => ws[i]?) = wr.map some) (hn : va_nd isR = true) (hdis : ∀ i ∈ isR, i ∉ isC) (h1 : ∀ u, is1.map (fun i => (wr ++ w1 u)[i]?) = (W1 u).map some) (hn1 : va_nd is1 = true)
    (hr : va_Run p l e R s m args below meth c H locs cells slots mc ms (F0 m pc ls st0) rest (va_Qv post (fun u => PostB D T (va_A wc H.size) (w1 u)) (va_A wc H.size) a) (va_A wc H.size))
    (kk : ∀ (u : S) (H1 : Heap) (locs1 : List Loc), post u → va_P D vwCl (W1 u) H1 → va_D A (W1 u) → va_S A H0 H1 locs1 → W p l e R s m args below meth c H1 locs1 (cells + mc) (slots + ms) Q (F0 m (pc + 3) ls (rest))) : W p l e R s m args below meth c H locs cells slots Q (F0 m pc ls st0) := by
  have hF : ∀ q, va_A wc H.size q → A q := va_free hD hS hA isC hC
  refine va_callv hr hS (fun q _ h => hF q h) hF (fun u t H1 locs1 ht hvm hp hB hz hk hS1 => ?_)
  obtain ⟨hP1, -, hD1⟩ := hB
  rw [ht] at hP1
  obtain ⟨hP2, hD2⟩ := k_join hP hD isC isR is1 hC hR hn hdis (h1 u) hn1 hk hF hP1 hD1
  exact kk u H1 locs1 hp hP2 hD2 hS1
theorem k_callvT {S : Type} {post : S → Prop} {w1 : S → va_W} (W1 : S → va_W) (hP : va_P D vwCl (X ++ pl) H) (hD : va_D A (X ++ pl)) (hS : va_S A H0 H locs) (hA : ∀ q, H0.size ≤ q → A q) (isC isR is1 : List Nat) (hC : isC.map (fun i => X[i]?) = wc.map some) (hR : isR.map (fun i => X[i]?) = wr.map some) (hn : va_nd isR = true) (hdis : ∀ i ∈ isR, i ∉ isC) (h1 : ∀ u, is1.map (fun i => (wr ++ w1 u)[i]?) = (W1 u).map some) (hn1 : va_nd is1 = true)
    (hr : va_Run p l e R s m args below meth c H locs cells slots mc ms (F0 m pc ls st0) rest (va_Qv post (fun u => PostB D T (va_A wc H.size) (w1 u)) (va_A wc H.size) a) (va_A wc H.size))
    (kk : ∀ (u : S) (H1 : Heap) (locs1 : List Loc), post u → va_P D vwCl (W1 u ++ pl) H1 → va_D A (W1 u ++ pl) → va_S A H0 H1 locs1 → W p l e R s m args below meth c H1 locs1 (cells + mc) (slots + ms) Q (F0 m (pc + 3) ls (rest))) : W p l e R s m args below meth c H locs cells slots Q (F0 m pc ls st0) := by
  have hF : ∀ q, va_A wc H.size q → A q := fun q h => by
    rcases h with ⟨k9, e9, h⟩ | h
    · obtain ⟨i9, -, h9⟩ := va_in_of isC hC h
      exact hD.2 i9 (q, e9) (by rw [List.getElem?_append_left (List.getElem?_eq_some_iff.mp h9).1]; exact h9)
    · exact hA q (Nat.le_trans hS.1 h)
  refine va_callv hr hS (fun q _ h => hF q h) hF (fun u t H1 locs1 ht hvm hp hB hz hk hS1 => ?_)
  obtain ⟨hP1, -, hD1⟩ := hB
  rw [ht] at hP1
  obtain ⟨hP2, hD2⟩ := k_joinT hP hD isC isR is1 hC hR hn hdis (h1 u) hn1 hk hF hP1 hD1
  exact kk u H1 locs1 hp hP2 hD2 hS1
theorem k_callq {S : Type} {post : Option Nat → S → Prop} {w1 : S → va_W} (W1 : S → va_W) (hP : va_P D vwCl ws H) (hD : va_D A ws) (hS : va_S A H0 H locs) (hA : ∀ q, H0.size ≤ q → A q) (isC isR is1 : List Nat) (hC : isC.map (fun i => ws[i]?) = wc.map some) (hR : isR.map (fun i => ws[i]?) = wr.map some) (hn : va_nd isR = true) (hdis : ∀ i ∈ isR, i ∉ isC) (h1 : ∀ u, is1.map (fun i => (wr ++ w1 u)[i]?) = (W1 u).map some) (hn1 : va_nd is1 = true)
    (hr : va_Run p l e R s m args below meth c H locs cells slots mc ms (F0 m pc ls st0) rest (va_Qq post (fun u => PostB D T (va_A wc H.size) (w1 u)) (va_A wc H.size) a) (va_A wc H.size))
    (kk : ∀ (r : Option Nat) (u : S) (H1 : Heap) (locs1 : List Loc), post r u → va_P D vwCl (W1 u) H1 → va_D A (W1 u) → va_S A H0 H1 locs1 → W p l e R s m args below meth c H1 locs1 (cells + mc) (slots + ms) Q (F0 m (pc + 3) ls (va_rf r :: rest))) : W p l e R s m args below meth c H locs cells slots Q (F0 m pc ls st0) := by
  have hF : ∀ q, va_A wc H.size q → A q := va_free hD hS hA isC hC
  refine va_callq hr hS (fun q _ h => hF q h) hF (fun r u t H1 locs1 ht hvm hp hB hz hk hS1 => ?_)
  obtain ⟨hP1, -, hD1⟩ := hB
  rw [ht] at hP1
  obtain ⟨hP2, hD2⟩ := k_join hP hD isC isR is1 hC hR hn hdis (h1 u) hn1 hk hF hP1 hD1
  exact kk r u H1 locs1 hp hP2 hD2 hS1
theorem k_callqT {S : Type} {post : Option Nat → S → Prop} {w1 : S → va_W} (W1 : S → va_W) (hP : va_P D vwCl (X ++ pl) H) (hD : va_D A (X ++ pl)) (hS : va_S A H0 H locs) (hA : ∀ q, H0.size ≤ q → A q) (isC isR is1 : List Nat) (hC : isC.map (fun i => X[i]?) = wc.map some) (hR : isR.map (fun i => X[i]?) = wr.map some) (hn : va_nd isR = true) (hdis : ∀ i ∈ isR, i ∉ isC) (h1 : ∀ u, is1.map (fun i => (wr ++ w1 u)[i]?) = (W1 u).map some) (hn1 : va_nd is1 = true)
    (hr : va_Run p l e R s m args below meth c H locs cells slots mc ms (F0 m pc ls st0) rest (va_Qq post (fun u => PostB D T (va_A wc H.size) (w1 u)) (va_A wc H.size) a) (va_A wc H.size))
    (kk : ∀ (r : Option Nat) (u : S) (H1 : Heap) (locs1 : List Loc), post r u → va_P D vwCl (W1 u ++ pl) H1 → va_D A (W1 u ++ pl) → va_S A H0 H1 locs1 → W p l e R s m args below meth c H1 locs1 (cells + mc) (slots + ms) Q (F0 m (pc + 3) ls (va_rf r :: rest))) : W p l e R s m args below meth c H locs cells slots Q (F0 m pc ls st0) := by
  have hF : ∀ q, va_A wc H.size q → A q := fun q h => by
    rcases h with ⟨k9, e9, h⟩ | h
    · obtain ⟨i9, -, h9⟩ := va_in_of isC hC h
      exact hD.2 i9 (q, e9) (by rw [List.getElem?_append_left (List.getElem?_eq_some_iff.mp h9).1]; exact h9)
    · exact hA q (Nat.le_trans hS.1 h)
  refine va_callq hr hS (fun q _ h => hF q h) hF (fun r u t H1 locs1 ht hvm hp hB hz hk hS1 => ?_)
  obtain ⟨hP1, -, hD1⟩ := hB
  rw [ht] at hP1
  obtain ⟨hP2, hD2⟩ := k_joinT hP hD isC isR is1 hC hR hn hdis (h1 u) hn1 hk hF hP1 hD1
  exact kk r u H1 locs1 hp hP2 hD2 hS1
end KC
/-! ends -/
section KE
variable {p : Program} {l : Launch} {e : Env} {R : Room} {s : State} {m : MethodId} {args : Array Value} {below : List Frame} {meth : Method} {c : Code} {H : Heap} {locs : List Loc} {cells slots : Nat} {cc : ByteArray} {pc : Nat} {ls : Array Slot} {D : va_G} {A : Nat → Prop} {T : List (ClassId × FieldType)} {ws : va_W}
theorem k_iret {v : Int32} (hx : p.tables.exec = Jvm.exec) (hb : c.code = cc) (hr : meth.sig.returnType = some .int) (hlocks : meth.locks = false) {S : Type} {post : Int32 → S → Prop} {w1 : S → va_W} (hP : va_P D vwCl ws H) (hD : va_D A ws) (hK : va_K D vwCl T s) (hS : va_S A s.heap H locs) (is : List Nat) (u : S) (h1 : is.map (fun i => ws[i]?) = (w1 u).map some) (hn : va_nd is = true) (hp : post v u) (hdg : decode cc pc = .ok (.ireturn, 1)) : W p l e R s m args below meth c H locs cells slots (MQ below (va_Qi post (fun u => PostB D T A (w1 u)) A) args s cells slots A) (F0 m pc ls [.int v]) :=
  W.iret hx hb hr (fun t ht hW => ⟨⟨v, u, rfl, hp, by rw [ht]; exact P_pick hP is h1, va_K.moved hW.alike hK, hD.sub is hn h1⟩, hS.F ht⟩) hS.2.2 hdg hlocks
theorem k_lret {v : Int64} (hx : p.tables.exec = Jvm.exec) (hb : c.code = cc) (hr : meth.sig.returnType = some .long) (hlocks : meth.locks = false) {S : Type} {post : Int64 → S → Prop} {w1 : S → va_W} (hP : va_P D vwCl ws H) (hD : va_D A ws) (hK : va_K D vwCl T s) (hS : va_S A s.heap H locs) (is : List Nat) (u : S) (h1 : is.map (fun i => ws[i]?) = (w1 u).map some) (hn : va_nd is = true) (hp : post v u) (hdg : decode cc pc = .ok (.lreturn, 1)) : W p l e R s m args below meth c H locs cells slots (MQ below (va_Ql post (fun u => PostB D T A (w1 u)) A) args s cells slots A) (F0 m pc ls [.long v]) :=
  W.lret hx hb hr (fun t ht hW => ⟨⟨v, u, rfl, hp, by rw [ht]; exact P_pick hP is h1, va_K.moved hW.alike hK, hD.sub is hn h1⟩, hS.F ht⟩) hS.2.2 hdg hlocks
theorem k_dret {v : UInt64} (hx : p.tables.exec = Jvm.exec) (hb : c.code = cc) (hr : meth.sig.returnType = some .double) (hlocks : meth.locks = false) {S : Type} {post : UInt64 → S → Prop} {w1 : S → va_W} (hP : va_P D vwCl ws H) (hD : va_D A ws) (hK : va_K D vwCl T s) (hS : va_S A s.heap H locs) (is : List Nat) (u : S) (h1 : is.map (fun i => ws[i]?) = (w1 u).map some) (hn : va_nd is = true) (hp : post v u) (hdg : decode cc pc = .ok (.dreturn, 1)) : W p l e R s m args below meth c H locs cells slots (MQ below (va_Qd post (fun u => PostB D T A (w1 u)) A) args s cells slots A) (F0 m pc ls [.double v]) :=
  W.dret hx hb hr (fun t ht hW => ⟨⟨v, u, rfl, hp, by rw [ht]; exact P_pick hP is h1, va_K.moved hW.alike hK, hD.sub is hn h1⟩, hS.F ht⟩) hS.2.2 hdg hlocks
theorem k_vret (hx : p.tables.exec = Jvm.exec) (hb : c.code = cc) (hr : meth.sig.returnType = none) (hlocks : meth.locks = false) {S : Type} {post : S → Prop} {w1 : S → va_W} (hP : va_P D vwCl ws H) (hD : va_D A ws) (hK : va_K D vwCl T s) (hS : va_S A s.heap H locs) (is : List Nat) (u : S) (h1 : is.map (fun i => ws[i]?) = (w1 u).map some) (hn : va_nd is = true) (hp : post u) (hdg : decode cc pc = .ok (.return_, 1)) : W p l e R s m args below meth c H locs cells slots (MQ below (va_Qv post (fun u => PostB D T A (w1 u)) A) args s cells slots A) (F0 m pc ls []) :=
  W.vret hx hb hr (fun t ht hW => ⟨⟨u, rfl, hp, by rw [ht]; exact P_pick hP is h1, va_K.moved hW.alike hK, hD.sub is hn h1⟩, hS.F ht⟩) hS.2.2 hdg hlocks
theorem k_zret {v : Int32} (hx : p.tables.exec = Jvm.exec) (hb : c.code = cc) (hr : meth.sig.returnType = some .boolean) (hnz : narrow .boolean (.int v) = .int v) (hlocks : meth.locks = false) {S : Type} {post : Int32 → S → Prop} {w1 : S → va_W} (hP : va_P D vwCl ws H) (hD : va_D A ws) (hK : va_K D vwCl T s) (hS : va_S A s.heap H locs) (is : List Nat) (u : S) (h1 : is.map (fun i => ws[i]?) = (w1 u).map some) (hn : va_nd is = true) (hp : post v u) (hdg : decode cc pc = .ok (.ireturn, 1)) : W p l e R s m args below meth c H locs cells slots (MQ below (va_Qi post (fun u => PostB D T A (w1 u)) A) args s cells slots A) (F0 m pc ls [.int v]) :=
  W.zret hx hb hr hnz (fun t ht hW => ⟨⟨v, u, rfl, hp, by rw [ht]; exact P_pick hP is h1, va_K.moved hW.alike hK, hD.sub is hn h1⟩, hS.F ht⟩) hS.2.2 hdg hlocks
theorem k_qret {v : Option Nat} {rt : FieldType} (hx : p.tables.exec = Jvm.exec) (hb : c.code = cc) (hr : meth.sig.returnType = some rt) (hrt : (∃ n, rt = .object n) ∨ ∃ t, rt = .array t) (hlocks : meth.locks = false) {S : Type} {post : Option Nat → S → Prop} {w1 : S → va_W} (hP : va_P D vwCl ws H) (hD : va_D A ws) (hK : va_K D vwCl T s) (hS : va_S A s.heap H locs) (is : List Nat) (u : S) (h1 : is.map (fun i => ws[i]?) = (w1 u).map some) (hn : va_nd is = true) (hp : post v u) (hdg : decode cc pc = .ok (.areturn, 1)) : W p l e R s m args below meth c H locs cells slots (MQ below (va_Qq post (fun u => PostB D T A (w1 u)) A) args s cells slots A) (F0 m pc ls [va_rf v]) :=
  W.aret hx hb hr hrt (by cases v <;> simp [va_rf]) (fun t ht hW => ⟨⟨v, u, rfl, hp, by rw [ht]; exact P_pick hP is h1, va_K.moved hW.alike hK, hD.sub is hn h1⟩, hS.F ht⟩) hS.2.2 hdg hlocks
end KE
/-! a method from its entry -/
theorem k_start {l : Launch} {y : MethodName} {wds wds' : List Cond} {rm : Room} {mc ms sz maxL : Nat} {cc : ByteArray} {ret : Option FieldType} {av : List Value} {D : va_G} {T : List (ClassId × FieldType)} {W0 : va_W} (QG : (Nat → Prop) → Array Value → State → Outcome → State → Prop) (hy : plainName y.cls = true) (hw : wds = Cond.code y cc maxL ret :: wds') (hlen : (lg_sl av).length ≤ maxL)
    (body : ∀ (p : Program) (e : Env) (s : State) (m : MethodId) (below : List Frame) (meth : Method) (c : Code) (A : Nat → Prop) (ls : Array Slot), p.tables.exec = Jvm.exec → c.code = cc → meth.sig.returnType = ret → (∀ w ∈ wds, w.before av.toArray s = true) → s.vm.findClass y.cls = some m.cls → meth.locks = false → meth.name = y.name → c.maxLocals = maxL → va_P D vwCl W0 s.heap → va_K D vwCl T s → va_D A W0 → (∀ q, s.heap.size ≤ q → A q) → va_S A s.heap s.heap [] → lv_has ls maxL (lv_args 0 av) →
      W p l e rm s m av.toArray below meth c s.heap [] 0 0 (MQ below (QG A) av.toArray s mc ms A) (F0 m 0 ls [])) :
    Met l y wds rm (va_Pc av (PreB D T sz W0)) (QG (va_A W0 sz)) mc ms (va_A W0 sz) := by
  refine Met.ofW (cc := cc) (maxL := maxL) (ret := ret) hy hw ?_
  intro p e s m args below meth c s₁ B hml hv
  obtain ⟨rfl, hsz, hP, hK, hD0⟩ := hv
  subst hsz
  rw [lg_entry_eq]
  exact body p e s m below meth c _ _ B.exec B.bytes B.returns (atoms_spec (ws := wds) B.pre) (findClass_of_methodNamed B.named) B.notSynchronized (name_of_methodNamed B.named B.method).1 hml hP hK hD0.self (fun q h => Or.inr h) va_S.rf (lv_entry av hlen)
end
section
/-! numbers in digits of a base B -/
def dg (B v i : Nat) : Nat := v / B ^ i % B
theorem dg_lt {B : Nat} (hB : 0 < B) (v i : Nat) : dg B v i < B := Nat.mod_lt _ hB
theorem dg_zero (B i : Nat) : dg B 0 i = 0 := by simp [dg]
theorem dm_uniq {n B q r : Nat} (h : n = B * q + r) (hr : r < B) : n / B = q ∧ n % B = r := by
  have hB : 0 < B := by omega
  subst h
  exact ⟨by rw [Nat.mul_add_div hB, Nat.div_eq_of_lt hr, Nat.add_zero], by rw [Nat.mul_add_mod, Nat.mod_eq_of_lt hr]⟩
theorem dg_low (B v i : Nat) : v % B ^ (i + 1) = v % B ^ i + B ^ i * dg B v i := Nat.mod_pow_succ
theorem dg_top (B v i : Nat) : v / B ^ i = B * (v / B ^ (i + 1)) + dg B v i := by
  rw [Nat.pow_succ, ← Nat.div_div_eq_div_mul]
  exact (Nat.div_add_mod (v / B ^ i) B).symm
theorem dg_small {B v : Nat} (h : v < B) (i : Nat) : dg B v i = if i = 0 then v else 0 := by
  unfold dg
  by_cases hi : i = 0
  · subst hi
    simp [Nat.mod_eq_of_lt h]
  · rw [if_neg hi]
    have h1 : B ^ 1 ≤ B ^ i := Nat.pow_le_pow_right (by omega) (by omega)
    rw [Nat.pow_one] at h1
    rw [Nat.div_eq_of_lt (by omega)]
    exact Nat.zero_mod B
/-- two numbers times two factors, added up: the carry ahead of place i -/
def car (B v f w g i : Nat) : Nat := (v % B ^ i * f + w % B ^ i * g) / B ^ i
theorem car_0 (B v f w g : Nat) : car B v f w g 0 = 0 := by simp [car, Nat.mod_one]
theorem car_sum {B : Nat} (hB : 0 < B) (v f w g i : Nat) : dg B v i * f + dg B w i * g + car B v f w g i = (v % B ^ (i + 1) * f + w % B ^ (i + 1) * g) / B ^ i := by
  have hP : 0 < B ^ i := Nat.pow_pos hB
  rw [dg_low, dg_low, car]
  have e : (v % B ^ i + B ^ i * dg B v i) * f + (w % B ^ i + B ^ i * dg B w i) * g = (v % B ^ i * f + w % B ^ i * g) + B ^ i * (dg B v i * f + dg B w i * g) := by
    rw [Nat.add_mul, Nat.add_mul, Nat.mul_add, Nat.mul_assoc, Nat.mul_assoc]; omega
  rw [e, Nat.add_mul_div_left _ _ hP]; omega
theorem car_step {B : Nat} (hB : 0 < B) (v f w g i : Nat) : (dg B v i * f + dg B w i * g + car B v f w g i) / B = car B v f w g (i + 1) := by
  rw [car_sum hB, Nat.div_div_eq_div_mul, ← Nat.pow_succ]; rfl
theorem car_dig {B : Nat} (hB : 0 < B) (v f w g i : Nat) : (dg B v i * f + dg B w i * g + car B v f w g i) % B = dg B (v * f + w * g) i := by
  have hP : 0 < B ^ i := Nat.pow_pos hB
  rw [car_sum hB]
  unfold dg
  have e : v * f + w * g = (v % B ^ (i + 1) * f + w % B ^ (i + 1) * g) + B ^ i * (B * (v / B ^ (i + 1) * f + w / B ^ (i + 1) * g)) := by
    have a : v * f = v % B ^ (i + 1) * f + B ^ (i + 1) * (v / B ^ (i + 1) * f) := by
      rw [← Nat.mul_assoc, ← Nat.add_mul, Nat.mod_add_div]
    have b : w * g = w % B ^ (i + 1) * g + B ^ (i + 1) * (w / B ^ (i + 1) * g) := by
      rw [← Nat.mul_assoc, ← Nat.add_mul, Nat.mod_add_div]
    rw [← Nat.mul_assoc, show B ^ i * B = B ^ (i + 1) from rfl, Nat.mul_add]; omega
  have e2 : (v * f + w * g) / B ^ i = (v % B ^ (i + 1) * f + w % B ^ (i + 1) * g) / B ^ i + B * (v / B ^ (i + 1) * f + w / B ^ (i + 1) * g) := by
    refine Eq.trans (congrArg (fun z => z / B ^ i) e) ?_
    exact Nat.add_mul_div_left _ _ hP
  rw [e2, Nat.add_mul_mod_self_left]
theorem car_le {B : Nat} (hB : 0 < B) (v f w g i : Nat) : car B v f w g i ≤ f + g := by
  have hP : 0 < B ^ i := Nat.pow_pos hB
  have a : v % B ^ i * f ≤ B ^ i * f := Nat.mul_le_mul (Nat.le_of_lt (Nat.mod_lt _ hP)) (Nat.le_refl _)
  have b : w % B ^ i * g ≤ B ^ i * g := Nat.mul_le_mul (Nat.le_of_lt (Nat.mod_lt _ hP)) (Nat.le_refl _)
  refine Nat.div_le_of_le_mul ?_
  rw [Nat.mul_add]; omega
theorem car_1 {B : Nat} (hB : 0 < B) (v w i : Nat) : car B v 1 w 1 i ≤ 1 := by
  have hP : 0 < B ^ i := Nat.pow_pos hB
  have a := Nat.mod_lt v hP
  have b := Nat.mod_lt w hP
  have c : (v % B ^ i * 1 + w % B ^ i * 1) / B ^ i < 2 := Nat.div_lt_of_lt_mul (by omega)
  exact Nat.le_of_lt_succ c
/-- one number times a factor -/
theorem mul_step {B : Nat} (hB : 0 < B) (v f i : Nat) : (dg B v i * f + car B v f 0 0 i) / B = car B v f 0 0 (i + 1) := by
  have h := car_step hB v f 0 0 i
  rw [Nat.mul_zero, Nat.add_zero] at h
  exact h
theorem mul_dig {B : Nat} (hB : 0 < B) (v f i : Nat) : (dg B v i * f + car B v f 0 0 i) % B = dg B (v * f) i := by
  have h := car_dig hB v f 0 0 i
  rw [Nat.mul_zero, Nat.add_zero, Nat.zero_mul, Nat.add_zero] at h
  exact h
/-- two numbers added up -/
theorem add_step {B : Nat} (hB : 0 < B) (v w i : Nat) : (dg B v i + dg B w i + car B v 1 w 1 i) / B = car B v 1 w 1 (i + 1) := by
  have h := car_step hB v 1 w 1 i
  rw [Nat.mul_one, Nat.mul_one] at h
  exact h
theorem add_dig {B : Nat} (hB : 0 < B) (v w i : Nat) : (dg B v i + dg B w i + car B v 1 w 1 i) % B = dg B (v + w) i := by
  have h := car_dig hB v 1 w 1 i
  rw [Nat.mul_one, Nat.mul_one, Nat.mul_one, Nat.mul_one] at h
  exact h
/-- the borrow ahead of place i -/
def bor (B v w i : Nat) : Nat := if v % B ^ i < w % B ^ i then 1 else 0
theorem bor_0 (B v w : Nat) : bor B v w 0 = 0 := by simp [bor, Nat.mod_one]
theorem bor_le (B v w i : Nat) : bor B v w i ≤ 1 := by unfold bor; split <;> omega
theorem bor_step {B : Nat} (hB : 0 < B) (v w i : Nat) : bor B v w (i + 1) = if dg B w i + bor B v w i ≤ dg B v i then 0 else 1 := by
  have hP : 0 < B ^ i := Nat.pow_pos hB
  have a := Nat.mod_lt v hP
  have b := Nat.mod_lt w hP
  unfold bor
  rw [dg_low, dg_low]
  generalize v % B ^ i = r at a ⊢
  generalize w % B ^ i = t at b ⊢
  generalize dg B v i = x
  generalize dg B w i = y
  generalize B ^ i = P at hP a b ⊢
  rcases Nat.lt_trichotomy x y with h | h | h
  · have h1 : P * (x + 1) ≤ P * y := Nat.mul_le_mul (Nat.le_refl _) h
    rw [Nat.mul_add] at h1
    rw [if_pos (by omega), if_neg (by omega)]
  · subst h
    by_cases h2 : r < t
    · rw [if_pos (by omega), if_pos h2, if_neg (by omega)]
    · rw [if_neg (by omega), if_neg h2, if_pos (by omega)]
  · have h1 : P * (y + 1) ≤ P * x := Nat.mul_le_mul (Nat.le_refl _) h
    rw [Nat.mul_add] at h1
    rw [if_neg (by omega), if_pos (by split <;> omega)]
theorem bor_div {B : Nat} (hB : 0 < B) {v w : Nat} (h : w ≤ v) (i : Nat) : w / B ^ i + bor B v w i ≤ v / B ^ i ∧ (v - w) / B ^ i = v / B ^ i - w / B ^ i - bor B v w i := by
  have hP : 0 < B ^ i := Nat.pow_pos hB
  have a := Nat.mod_lt v hP
  have b := Nat.mod_lt w hP
  have ev := Nat.div_add_mod v (B ^ i)
  have ew := Nat.div_add_mod w (B ^ i)
  unfold bor
  generalize v % B ^ i = r at a ev ⊢
  generalize w % B ^ i = t at b ew ⊢
  generalize v / B ^ i = V at ev ⊢
  generalize w / B ^ i = U at ew ⊢
  generalize B ^ i = P at hP a b ev ew ⊢
  subst ev; subst ew
  have hUV : U ≤ V := by
    rcases Nat.lt_or_ge V U with q | q
    · have h1 : P * (V + 1) ≤ P * U := Nat.mul_le_mul (Nat.le_refl _) q
      rw [Nat.mul_add] at h1
      omega
    · exact q
  by_cases hrt : r < t
  · rw [if_pos hrt]
    have h2 : U < V := by
      rcases Nat.lt_or_ge U V with q | q
      · exact q
      · have : U = V := by omega
        subst this
        omega
    obtain ⟨d, rfl⟩ : ∃ d, V = U + 1 + d := ⟨V - U - 1, by omega⟩
    refine ⟨by omega, ?_⟩
    have e : P * (U + 1 + d) + r - (P * U + t) = P * d + (P + r - t) := by
      rw [Nat.mul_add, Nat.mul_add]; omega
    rw [e, (dm_uniq (n := P * d + (P + r - t)) rfl (by omega)).1]
    omega
  · rw [if_neg hrt]
    obtain ⟨d, rfl⟩ : ∃ d, V = U + d := ⟨V - U, by omega⟩
    refine ⟨by omega, ?_⟩
    have e : P * (U + d) + r - (P * U + t) = P * d + (r - t) := by
      rw [Nat.mul_add]; omega
    rw [e, (dm_uniq (n := P * d + (r - t)) rfl (by omega)).1]
    omega
theorem sub_dig {B : Nat} (hB : 0 < B) {v w : Nat} (h : w ≤ v) (i : Nat) : dg B (v - w) i = if dg B w i + bor B v w i ≤ dg B v i then dg B v i - dg B w i - bor B v w i else B + dg B v i - dg B w i - bor B v w i := by
  obtain ⟨h1, h2⟩ := bor_div hB h i
  have tv := dg_top B v i
  have tw := dg_top B w i
  have lv := dg_lt hB v i
  have lw := dg_lt hB w i
  have hb := bor_le B v w i
  show (v - w) / B ^ i % B = _
  rw [h2]
  generalize v / B ^ i = V at h1 tv ⊢
  generalize w / B ^ i = U at h1 tw ⊢
  generalize bor B v w i = z at h1 hb ⊢
  generalize dg B v i = x at tv lv ⊢
  generalize dg B w i = y at tw lw ⊢
  generalize v / B ^ (i + 1) = V1 at tv
  generalize w / B ^ (i + 1) = U1 at tw
  subst tv; subst tw
  by_cases hc : y + z ≤ x
  · rw [if_pos hc]
    have h3 : U1 ≤ V1 := by
      rcases Nat.lt_or_ge V1 U1 with q | q
      · have h4 : B * (V1 + 1) ≤ B * U1 := Nat.mul_le_mul (Nat.le_refl _) q
        rw [Nat.mul_add] at h4
        omega
      · exact q
    obtain ⟨d, rfl⟩ : ∃ d, V1 = U1 + d := ⟨V1 - U1, by omega⟩
    have e : B * (U1 + d) + x - (B * U1 + y) - z = B * d + (x - y - z) := by
      rw [Nat.mul_add]; omega
    rw [e, (dm_uniq (n := B * d + (x - y - z)) rfl (by omega)).2]
  · rw [if_neg hc]
    have h3 : U1 < V1 := by
      rcases Nat.lt_or_ge U1 V1 with q | q
      · exact q
      · have h4 : B * V1 ≤ B * U1 := Nat.mul_le_mul (Nat.le_refl _) q
        omega
    obtain ⟨d, rfl⟩ : ∃ d, V1 = U1 + 1 + d := ⟨V1 - U1 - 1, by omega⟩
    have e : B * (U1 + 1 + d) + x - (B * U1 + y) - z = B * d + (B + x - y - z) := by
      rw [Nat.mul_add, Nat.mul_add]; omega
    rw [e, (dm_uniq (n := B * d + (B + x - y - z)) rfl (by omega)).2]
/-- division by a small number, from the top -/
theorem div_dig {B d : Nat} (hB : 0 < B) (hd : 0 < d) (v i : Nat) : (v / B ^ (i + 1) % d * B + dg B v i) / d = dg B (v / d) i ∧ (v / B ^ (i + 1) % d * B + dg B v i) % d = v / B ^ i % d := by
  have tv := dg_top B v i
  have lv := dg_lt hB v i
  have e1 : dg B (v / d) i = v / B ^ i / d % B := by
    unfold dg
    rw [Nat.div_div_eq_div_mul, Nat.div_div_eq_div_mul, Nat.mul_comm d]
  rw [e1, tv]
  generalize dg B v i = x at lv ⊢
  generalize v / B ^ (i + 1) = u
  have hu := Nat.div_add_mod u d
  have hr := Nat.mod_lt u hd
  generalize u % d = r at hu hr ⊢
  generalize u / d = q at hu
  subst hu
  have e2 : B * (d * q + r) + x = d * (B * q) + (r * B + x) := by
    rw [Nat.mul_add, Nat.mul_left_comm, Nat.mul_comm B r]; omega
  have h1 : r * B + x < B * d := by
    have : (r + 1) * B ≤ d * B := Nat.mul_le_mul hr (Nat.le_refl _)
    rw [Nat.add_mul, Nat.mul_comm d B] at this
    omega
  have h2 : (r * B + x) / d < B := Nat.div_lt_of_lt_mul (by rw [Nat.mul_comm d B]; exact h1)
  rw [e2, Nat.mul_add_div hd, Nat.mul_add_mod, Nat.mul_add_mod, Nat.mod_eq_of_lt h2]
  exact ⟨rfl, rfl⟩
/-- comparing from the top -/
theorem cmp_dig {B v w i : Nat} (h : v / B ^ (i + 1) = w / B ^ (i + 1)) : (dg B v i = dg B w i → v / B ^ i = w / B ^ i) ∧ (dg B w i < dg B v i → w < v) ∧ (dg B v i < dg B w i → v < w) := by
  have tv := dg_top B v i
  have tw := dg_top B w i
  rw [← h] at tw
  refine ⟨fun e => by rw [tv, tw, e], fun e => ?_, fun e => ?_⟩
  · refine Nat.not_le.mp (fun q => ?_)
    have := Nat.div_le_div_right (c := B ^ i) q
    omega
  · refine Nat.not_le.mp (fun q => ?_)
    have := Nat.div_le_div_right (c := B ^ i) q
    omega
theorem cmp_end {B v w : Nat} (h : v / B ^ 0 = w / B ^ 0) : v = w := by simpa using h
theorem cmp_start {B n v w : Nat} (hv : v < B ^ n) (hw : w < B ^ n) : v / B ^ n = w / B ^ n := by rw [Nat.div_eq_of_lt hv, Nat.div_eq_of_lt hw]
/-! choices -/
def ch : Nat → Nat → Nat
  | _, 0 => 1
  | 0, _ + 1 => 0
  | n + 1, k + 1 => ch n k + ch n (k + 1)
theorem ch_0 (n : Nat) : ch n 0 = 1 := by cases n <;> rfl
theorem ch_s (n k : Nat) : ch (n + 1) (k + 1) = ch n k + ch n (k + 1) := rfl
theorem ch_gt : ∀ (n k : Nat), n < k → ch n k = 0
  | _, 0, h => absurd h (Nat.not_lt_zero _)
  | 0, _ + 1, _ => rfl
  | n + 1, k + 1, h => by rw [ch_s, ch_gt n k (by omega), ch_gt n (k + 1) (by omega)]
theorem ch_self : ∀ n : Nat, ch n n = 1
  | 0 => rfl
  | n + 1 => by rw [ch_s, ch_self n, ch_gt n (n + 1) (by omega)]
theorem ch_pos : ∀ (n k : Nat), k ≤ n → 0 < ch n k
  | n, 0, _ => by rw [ch_0]; omega
  | 0, _ + 1, h => by omega
  | n + 1, k + 1, h => by
    have := ch_pos n k (by omega)
    rw [ch_s]; omega
theorem ch_le : ∀ (n k : Nat), ch n k ≤ 2 ^ n
  | n, 0 => by rw [ch_0]; exact Nat.one_le_two_pow
  | 0, _ + 1 => Nat.zero_le _
  | n + 1, k + 1 => by
    have a := ch_le n k
    have b := ch_le n (k + 1)
    rw [ch_s, Nat.pow_succ]; omega
theorem ch_step : ∀ (n k : Nat), ch n (k + 1) * (k + 1) = ch n k * (n - k)
  | 0, 0 => rfl
  | 0, k + 1 => by rw [ch_gt 0 (k + 1 + 1) (by omega), ch_gt 0 (k + 1) (by omega)]; omega
  | n + 1, 0 => by
    have a := ch_step n 0
    rw [ch_0, Nat.sub_zero] at a ⊢
    rw [ch_s, ch_0, Nat.add_mul]
    omega
  | n + 1, k + 1 => by
    have a := ch_step n k
    have b := ch_step n (k + 1)
    have e1 : n + 1 - (k + 1) = n - k := by omega
    rw [ch_s, ch_s, Nat.add_mul, Nat.add_mul, e1, b, ← a]
    rcases Nat.lt_or_ge k n with h | h
    · have e2 : n - k = (n - (k + 1)) + 1 := by omega
      rw [e2, Nat.mul_add, Nat.mul_add (ch n (k + 1)) (n - (k + 1)) 1]
      omega
    · rw [ch_gt n (k + 1) (by omega)]
      omega
theorem ch_abs (n k : Nat) : ch (n + 1) (k + 1) * (k + 1) = ch n k * (n + 1) := by
  have a := ch_step n k
  rw [ch_s, Nat.add_mul, a]
  rcases Nat.lt_or_ge n k with h | h
  · rw [ch_gt n k h]; omega
  · rw [← Nat.mul_add]
    congr 1
    omega
theorem ch_sym2 : ∀ (n a b : Nat), a + b = n → ch n a = ch n b
  | n, 0, b, h => by
    obtain rfl : b = n := by omega
    rw [ch_0, ch_self]
  | n, a + 1, 0, h => by
    obtain rfl : a + 1 = n := by omega
    rw [ch_0, ch_self]
  | 0, a + 1, b + 1, h => by omega
  | n + 1, a + 1, b + 1, h => by
    rw [ch_s, ch_s, ch_sym2 n a (b + 1) (by omega), ch_sym2 n (a + 1) b (by omega)]
    omega
def psum (f : Nat → Nat) : Nat → Nat
  | 0 => 0
  | n + 1 => psum f n + f n
theorem psum_front (f : Nat → Nat) : ∀ n : Nat, psum f (n + 1) = f 0 + psum (fun k => f (k + 1)) n
  | 0 => by simp [psum]
  | n + 1 => by
    show psum f (n + 1) + f (n + 1) = f 0 + (psum (fun k => f (k + 1)) n + f (n + 1))
    rw [psum_front f n]; omega
theorem psum_add (f g : Nat → Nat) : ∀ n : Nat, psum (fun k => f k + g k) n = psum f n + psum g n
  | 0 => rfl
  | n + 1 => by
    show psum (fun k => f k + g k) n + (f n + g n) = (psum f n + f n) + (psum g n + g n)
    rw [psum_add f g n]; omega
theorem psum_congr {f g : Nat → Nat} : ∀ n : Nat, (∀ k, k < n → f k = g k) → psum f n = psum g n
  | 0, _ => rfl
  | n + 1, h => by
    show psum f n + f n = psum g n + g n
    rw [psum_congr n (fun k hk => h k (by omega)), h n (by omega)]
theorem psum_le {f g : Nat → Nat} : ∀ n : Nat, (∀ k, k < n → f k ≤ g k) → psum f n ≤ psum g n
  | 0, _ => Nat.le_refl _
  | n + 1, h => by
    have a := psum_le n (fun k hk => h k (by omega))
    have b := h n (by omega)
    show psum f n + f n ≤ psum g n + g n
    omega
theorem psum_mono (f : Nat → Nat) (n : Nat) : ∀ k : Nat, psum f n ≤ psum f (n + k)
  | 0 => Nat.le_refl _
  | k + 1 => Nat.le_trans (psum_mono f n k) (Nat.le_add_right _ _)
theorem psum_mul (c : Nat) (f : Nat → Nat) : ∀ n : Nat, psum (fun k => c * f k) n = c * psum f n
  | 0 => rfl
  | n + 1 => by
    show psum (fun k => c * f k) n + c * f n = c * (psum f n + f n)
    rw [psum_mul c f n, Nat.mul_add]
theorem psum_zero {f : Nat → Nat} {n : Nat} : ∀ k : Nat, (∀ j, n ≤ j → j < n + k → f j = 0) → psum f (n + k) = psum f n
  | 0, _ => rfl
  | k + 1, h => by
    show psum f (n + k) + f (n + k) = psum f n
    rw [psum_zero k (fun j h1 h2 => h j h1 (by omega)), h (n + k) (by omega) (by omega)]; omega
/-- how many samples of s have k of the b wrong ones -/
def hyp (b g s k : Nat) : Nat := if k ≤ s then ch b k * ch g (s - k) else 0
theorem hyp_sum (b g : Nat) : ∀ s : Nat, psum (hyp b g s) (s + 1) = ch (b + g) s := by
  induction b with
  | zero =>
    intro s
    rw [psum_front, psum_congr (g := fun _ => 0) s (fun k hk => by
      show hyp 0 g s (k + 1) = 0
      unfold hyp
      rw [if_pos (by omega), ch_gt 0 (k + 1) (by omega), Nat.zero_mul])]
    have z : psum (fun _ => 0) s = 0 := by
      have := psum_zero (f := fun _ => 0) (n := 0) s (fun _ _ _ => rfl)
      rw [Nat.zero_add] at this
      exact this
    rw [z]
    unfold hyp
    rw [if_pos (by omega), ch_0, Nat.sub_zero, Nat.zero_add]
    omega
  | succ b ih =>
    intro s
    cases s with
    | zero => simp [psum, hyp, ch_0]
    | succ s =>
      have h1 := ih s
      have h2 := ih (s + 1)
      rw [psum_front] at h2 ⊢
      have e : psum (fun k => hyp (b + 1) g (s + 1) (k + 1)) (s + 1) = psum (hyp b g s) (s + 1) + psum (fun k => hyp b g (s + 1) (k + 1)) (s + 1) := by
        rw [← psum_add]
        refine psum_congr _ (fun k hk => ?_)
        show hyp (b + 1) g (s + 1) (k + 1) = hyp b g s k + hyp b g (s + 1) (k + 1)
        unfold hyp
        rw [if_pos (by omega), if_pos (by omega), if_pos (by omega), ch_s, Nat.add_mul, show s + 1 - (k + 1) = s - k by omega]
      rw [e, h1]
      have e0 : hyp (b + 1) g (s + 1) 0 = hyp b g (s + 1) 0 := by simp [hyp, ch_0]
      rw [e0]
      have e2 : b + 1 + g = (b + g) + 1 := by omega
      rw [e2, ch_s, ← h2]
      omega
theorem hyp_lo {b g s k : Nat} (h : k + g < s) : hyp b g s k = 0 := by
  unfold hyp
  split
  · rw [ch_gt g (s - k) (by omega), Nat.mul_zero]
  · rfl
theorem hyp_hi {b g s k : Nat} (h : b < k) : hyp b g s k = 0 := by
  unfold hyp
  split
  · rw [ch_gt b k h, Nat.zero_mul]
  · rfl
theorem hyp_le {b g s k : Nat} : hyp b g s k ≤ ch (b + g) s := by
  rcases Nat.lt_or_ge s k with h | h
  · unfold hyp
    rw [if_neg (by omega)]; omega
  · rw [← hyp_sum]
    have h1 : psum (hyp b g s) (k + 1) ≤ psum (hyp b g s) ((k + 1) + (s - k)) := psum_mono _ _ _
    rw [show (k + 1) + (s - k) = s + 1 by omega] at h1
    refine Nat.le_trans ?_ h1
    show hyp b g s k ≤ psum (hyp b g s) k + hyp b g s k
    omega
/-- from k to k + 1, as it is counted: the division has no rest -/
theorem hyp_next {b g s k : Nat} (hk : k ≤ s) (hkb : k ≤ b) (hg : s ≤ k + g) : hyp b g s k * ((b - k) * (s - k)) / ((k + 1) * (g + k + 1 - s)) = hyp b g s (k + 1) := by
  unfold hyp
  rw [if_pos hk]
  rcases Nat.eq_or_lt_of_le hk with h | h
  · subst h
    rw [Nat.sub_self, Nat.mul_zero, Nat.mul_zero, Nat.zero_div, if_neg (by omega)]
  · rw [if_pos (by omega)]
    obtain ⟨j, rfl⟩ : ∃ j, s = k + 1 + j := ⟨s - k - 1, by omega⟩
    have a := ch_step b k
    have c := ch_step g j
    rw [show k + 1 + j - k = j + 1 by omega, show k + 1 + j - (k + 1) = j by omega, show g + k + 1 - (k + 1 + j) = g - j by omega]
    have e : ch b k * ch g (j + 1) * ((b - k) * (j + 1)) = (ch b (k + 1) * ch g j) * ((k + 1) * (g - j)) := by
      have e1 : ch b k * ch g (j + 1) * ((b - k) * (j + 1)) = (ch b k * (b - k)) * (ch g (j + 1) * (j + 1)) := by
        simp only [Nat.mul_comm, Nat.mul_left_comm, Nat.mul_assoc]
      rw [e1, ← a, c]
      simp only [Nat.mul_comm, Nat.mul_left_comm, Nat.mul_assoc]
    rw [e]
    exact Nat.mul_div_cancel _ (Nat.mul_pos (by omega) (by omega))
def fac : Nat → Nat
  | 0 => 1
  | n + 1 => (n + 1) * fac n
theorem fac_pos : ∀ n : Nat, 0 < fac n
  | 0 => Nat.one_pos
  | n + 1 => Nat.mul_pos (by omega) (fac_pos n)
theorem fac_le (n : Nat) : ∀ k : Nat, fac n ≤ fac (n + k)
  | 0 => Nat.le_refl _
  | k + 1 => Nat.le_trans (fac_le n k) (by
      show fac (n + k) ≤ (n + k + 1) * fac (n + k)
      exact Nat.le_mul_of_pos_left _ (by omega))
theorem ff_le : ∀ (n i : Nat), fac i * ch n i ≤ fac n
  | n, 0 => by rw [ch_0]; show 1 * 1 ≤ fac n; exact fac_pos n
  | 0, i + 1 => by rw [ch_gt 0 (i + 1) (by omega)]; omega
  | n + 1, i + 1 => by
    have h := ff_le n i
    have e : fac (i + 1) * ch (n + 1) (i + 1) = (n + 1) * (fac i * ch n i) := by
      have a := ch_abs n i
      show (i + 1) * fac i * ch (n + 1) (i + 1) = _
      have e1 : (i + 1) * fac i * ch (n + 1) (i + 1) = fac i * (ch (n + 1) (i + 1) * (i + 1)) := by
        simp only [Nat.mul_comm, Nat.mul_left_comm, Nat.mul_assoc]
      rw [e1, a]
      simp only [Nat.mul_comm, Nat.mul_left_comm, Nat.mul_assoc]
    rw [e]
    exact Nat.mul_le_mul (Nat.le_refl _) h
theorem ff_next (n i : Nat) : fac i * ch n i * (n - i) = fac (i + 1) * ch n (i + 1) := by
  have a := ch_step n i
  show _ = (i + 1) * fac i * ch n (i + 1)
  rw [Nat.mul_assoc, ← a]
  simp only [Nat.mul_comm, Nat.mul_left_comm, Nat.mul_assoc]
/-- the ways in order: i draws, k of them wrong ones -/
def ord (b g i k : Nat) : Nat := if k ≤ i then fac i * (ch b k * ch g (i - k)) else 0
theorem ord_hyp (b g i k : Nat) : ord b g i k = fac i * hyp b g i k := by
  unfold ord hyp
  split <;> simp
theorem ord_le {b g i k : Nat} : ord b g i k ≤ fac (b + g) := by
  rw [ord_hyp]
  exact Nat.le_trans (Nat.mul_le_mul (Nat.le_refl _) hyp_le) (ff_le _ _)
theorem ord_first (b g : Nat) (k : Nat) : ord b g 0 k = if k = 0 then 1 else 0 := by
  unfold ord
  by_cases h : k = 0
  · subst h
    rw [if_pos (by omega), if_pos rfl, ch_0, Nat.sub_self, ch_0]; rfl
  · rw [if_neg (by omega), if_neg h]
theorem ord_zero (b g i : Nat) : ord b g i 0 * (g - i) = ord b g (i + 1) 0 := by
  unfold ord
  rw [if_pos (by omega), if_pos (by omega), ch_0, Nat.sub_zero, Nat.sub_zero, Nat.one_mul, Nat.one_mul]
  exact ff_next g i
/-- one more draw; own: the right ones that are left, mo: the wrong ones -/
theorem ord_next {b g i k own : Nat} (hk : k ≤ i) (ho : k + 1 ≤ i → own = g - (i - (k + 1))) : ord b g i (k + 1) * own + ord b g i k * (b - k) = ord b g (i + 1) (k + 1) := by
  unfold ord
  rw [if_pos hk, if_pos (show k + 1 ≤ i + 1 by omega)]
  have a := ch_step b k
  rcases Nat.eq_or_lt_of_le hk with h | h
  · subst h
    rw [if_neg (by omega), Nat.zero_mul, Nat.zero_add, Nat.sub_self, Nat.sub_self, ch_0, Nat.mul_one, Nat.mul_one, Nat.mul_assoc, ← a]
    show _ = (k + 1) * fac k * ch b (k + 1)
    simp only [Nat.mul_comm, Nat.mul_left_comm, Nat.mul_assoc]
  · rw [if_pos (by omega), ho (by omega)]
    obtain ⟨j, rfl⟩ : ∃ j, i = k + 1 + j := ⟨i - k - 1, by omega⟩
    have c := ch_step g j
    rw [show k + 1 + j - (k + 1) = j by omega, show k + 1 + j - k = j + 1 by omega, show k + 1 + j + 1 - (k + 1) = j + 1 by omega]
    have e1 : fac (k + 1 + j) * (ch b (k + 1) * ch g j) * (g - j) = fac (k + 1 + j) * ch b (k + 1) * (ch g j * (g - j)) := by
      simp only [Nat.mul_comm, Nat.mul_left_comm, Nat.mul_assoc]
    have e2 : fac (k + 1 + j) * (ch b k * ch g (j + 1)) * (b - k) = fac (k + 1 + j) * ch g (j + 1) * (ch b k * (b - k)) := by
      simp only [Nat.mul_comm, Nat.mul_left_comm, Nat.mul_assoc]
    rw [e1, e2, ← c, ← a]
    show _ = (k + 1 + j + 1) * fac (k + 1 + j) * (ch b (k + 1) * ch g (j + 1))
    have e3 : (k + 1 + j + 1) * fac (k + 1 + j) * (ch b (k + 1) * ch g (j + 1)) = fac (k + 1 + j) * ch b (k + 1) * ch g (j + 1) * ((j + 1) + (k + 1)) := by
      rw [show k + 1 + j + 1 = (j + 1) + (k + 1) by omega]
      simp only [Nat.mul_comm, Nat.mul_left_comm, Nat.mul_assoc]
    rw [e3, Nat.mul_add (fac (k + 1 + j) * ch b (k + 1) * ch g (j + 1)) (j + 1) (k + 1)]
    simp only [Nat.mul_comm, Nat.mul_left_comm, Nat.mul_assoc]
/-! the digits of a fraction a / A -/
def lf (a A : Nat) : Nat → Nat
  | 0 => a
  | i + 1 => lf a A i % A * 10
def tl (a A : Nat) : Nat → Nat
  | 0 => 0
  | i + 1 => tl a A i * 10 + lf a A i / A
theorem lf_mul (c a A : Nat) : ∀ i : Nat, lf (c * a) (c * A) i = c * lf a A i
  | 0 => rfl
  | i + 1 => by
    show lf (c * a) (c * A) i % (c * A) * 10 = c * (lf a A i % A * 10)
    rw [lf_mul c a A i, Nat.mul_mod_mul_left, Nat.mul_assoc]
theorem tl_mul {c : Nat} (hc : 0 < c) (a A : Nat) : ∀ i : Nat, tl (c * a) (c * A) i = tl a A i
  | 0 => rfl
  | i + 1 => by
    show tl (c * a) (c * A) i * 10 + lf (c * a) (c * A) i / (c * A) = tl a A i * 10 + lf a A i / A
    rw [lf_mul, tl_mul hc a A i, Nat.mul_div_mul_left _ _ hc]
theorem lf_lt {a A : Nat} (hA : 0 < A) (h : a ≤ A) : ∀ i : Nat, lf a A i < 10 * A
  | 0 => by show a < 10 * A; omega
  | i + 1 => by
    show lf a A i % A * 10 < 10 * A
    have := Nat.mod_lt (lf a A i) hA
    omega
end
section
/-! class Whole: numbers in eight parts to the base 10^9 -/
theorem D_pick {A : Nat → Prop} {ws ws' : va_W} (hD : va_D A ws) (is : List Nat) (hn : va_nd is = true) (hs : is.map (fun i => (ws[i]?).map (fun q => q.1)) = ws'.map (fun q => some q.1)) : va_D A ws' := by
  have key : ∀ (k : Nat) (q : Nat × va_E), ws'[k]? = some q → ∃ (i : Nat) (q2 : Nat × va_E), is[k]? = some i ∧ ws[i]? = some q2 ∧ q2.1 = q.1 := by
    intro k q hk
    have h1 : (is.map (fun i => (ws[i]?).map (fun q => q.1)))[k]? = some (some q.1) := by rw [hs, List.getElem?_map, hk]; rfl
    rw [List.getElem?_map] at h1
    cases hi : is[k]? with
    | none => rw [hi] at h1; cases h1
    | some i =>
      rw [hi] at h1
      have h2 : (ws[i]?).map (fun q => q.1) = some q.1 := Option.some.inj h1
      cases hw : ws[i]? with
      | none => rw [hw] at h2; cases h2
      | some q2 => rw [hw] at h2; exact ⟨i, q2, rfl, hw, Option.some.inj h2⟩
  refine ⟨fun i j x y hi hj hxy => ?_, fun k q hk => ?_⟩
  · obtain ⟨a, x2, h1, h2, h3⟩ := key i x hi
    obtain ⟨b, y2, h4, h5, h6⟩ := key j y hj
    have hab := hD.1 a b x2 y2 h2 h5 (h3.trans (hxy.trans h6.symm))
    subst hab
    exact va_nd_inj is hn i j a h1 h4
  · obtain ⟨a, q2, -, h2, h3⟩ := key k q hk
    rw [← h3]
    exact hD.2 a q2 h2
theorem B9 : 0 < 1000000000 := by decide
def b2 (c : Prop) [Decidable c] : Nat := if c then 1 else 0
theorem b2_t {c : Prop} [Decidable c] (h : c) : b2 c = 1 := by simp [b2, h]
theorem b2_f {c : Prop} [Decidable c] (h : ¬ c) : b2 c = 0 := by simp [b2, h]
theorem b2_pos {c : Prop} [Decidable c] (h : 0 < b2 c) : c := by
  by_cases q : c
  · exact q
  · rw [b2_f q] at h; omega
theorem b2_0 {c : Prop} [Decidable c] (h : b2 c = 0) : ¬ c := fun q => by
  rw [b2_t q] at h; omega
theorem b2_le (c : Prop) [Decidable c] : b2 c ≤ 1 := by unfold b2; split <;> omega
theorem b2_nz (c : Prop) [Decidable c] : narrow .boolean (.int (nI (b2 c))) = .int (nI (b2 c)) := by unfold b2; split <;> rfl
theorem st_up {X : Type} (F G : Nat → X) (i j : Nat) : (if j = i then F i else if j < i then F j else G j) = if j < i + 1 then F j else G j := by
  by_cases h1 : j = i
  · subst h1; simp
  · by_cases h2 : j < i
    · rw [if_neg h1, if_pos h2, if_pos (by omega)]
    · rw [if_neg h1, if_neg h2, if_neg (by omega)]
theorem st_upL (F G : Nat → Nat) (i j : Nat) : (if j = i then lN (F i) else lN (if j < i then F j else G j)) = lN (if j < i + 1 then F j else G j) := by
  rw [← st_up F G i j]; split <;> rfl
theorem st_dn {X : Type} (F G : Nat → X) (k j : Nat) : (if j = k then F k else if k + 1 ≤ j then F j else G j) = if k ≤ j then F j else G j := by
  by_cases h1 : j = k
  · subst h1; simp
  · by_cases h2 : k + 1 ≤ j
    · rw [if_neg h1, if_pos h2, if_pos (by omega)]
    · rw [if_neg h1, if_neg h2, if_neg (by omega)]
theorem st_dnL (F G : Nat → Nat) (k j : Nat) : (if j = k then lN (F k) else lN (if k + 1 ≤ j then F j else G j)) = lN (if k ≤ j then F j else G j) := by
  rw [← st_dn F G k j]; split <;> rfl
theorem mul_room {B v f i M : Nat} (hB : 0 < B) (hf : f ≤ M) : dg B v i * f + car B v f 0 0 i ≤ B * M := by
  have a := dg_lt hB v i
  have b := car_le hB v f 0 0 i
  have c : (dg B v i + 1) * f ≤ B * M := Nat.mul_le_mul a hf
  rw [Nat.add_mul] at c
  omega
theorem add_hi {B : Nat} (hB : 0 < B) {v w i : Nat} (h : B ≤ dg B v i + dg B w i + car B v 1 w 1 i) : car B v 1 w 1 (i + 1) = 1 ∧ dg B v i + dg B w i + car B v 1 w 1 i - B = dg B (v + w) i := by
  have a := dg_lt hB v i
  have b := dg_lt hB w i
  have c := car_1 hB v w i
  obtain ⟨e1, e2⟩ := dm_uniq (n := dg B v i + dg B w i + car B v 1 w 1 i) (B := B) (q := 1) (r := dg B v i + dg B w i + car B v 1 w 1 i - B) (by omega) (by omega)
  rw [add_step hB] at e1
  rw [add_dig hB] at e2
  exact ⟨e1, e2.symm⟩
theorem add_lo {B : Nat} (hB : 0 < B) {v w i : Nat} (h : dg B v i + dg B w i + car B v 1 w 1 i < B) : car B v 1 w 1 (i + 1) = 0 ∧ dg B v i + dg B w i + car B v 1 w 1 i = dg B (v + w) i := by
  obtain ⟨e1, e2⟩ := dm_uniq (n := dg B v i + dg B w i + car B v 1 w 1 i) (B := B) (q := 0) (r := dg B v i + dg B w i + car B v 1 w 1 i) (by omega) (by omega)
  rw [add_step hB] at e1
  rw [add_dig hB] at e2
  exact ⟨e1, e2.symm⟩
theorem lN3 {x y b : Nat} (hx : x < 2 ^ 60) (hy : y < 2 ^ 60) (hb : b < 2 ^ 60) : (lN x - lN y - lN b).toInt = (x : Int) - y - b := by
  rw [Int64.toInt_sub, Int64.toInt_sub, pk_lT (by omega), pk_lT (by omega), pk_lT (by omega), Int.bmod_eq_of_le (n := (x : Int) - y) (by omega) (by omega), Int.bmod_eq_of_le (by omega) (by omega)]
theorem lN3_neg {x y b : Nat} (hx : x < 2 ^ 60) (hy : y < 2 ^ 60) (hb : b < 2 ^ 60) (h : x < y + b) : lN x - lN y - lN b < lN 0 := by
  rw [Int64.lt_iff_toInt_lt, lN3 hx hy hb, pk_lT (by omega)]
  omega
theorem lN3_fix {x y b B : Nat} (hx : x < 2 ^ 60) (hy : y < 2 ^ 60) (hb : b < 2 ^ 60) (hB : B < 2 ^ 60) (h : y + b ≤ B + x) : lN x - lN y - lN b + lN B = lN (B + x - y - b) := by
  rw [← Int64.toInt_inj, Int64.toInt_add, lN3 hx hy hb, pk_lT (by omega), pk_lT (by omega), Int.bmod_eq_of_le (by omega) (by omega)]
  omega
theorem in_X2_set_X2 : ∀ w ∈ wsX20, w ∈ wsX2_set := by decide +kernel
theorem fl_X2_set_9 : Cond.fieldLink RX2 9 "BulkSamples$Whole" "parts" "[J" ∈ wsX2_set := by decide +kernel
set_option maxHeartbeats 4000000 in
set_option maxRecDepth 100000 in
/-- set: the number is x -/
theorem c_set (l : Launch) (D : va_G) (cI cL cM : ClassId) (sz : Nat) (h0 p0 v x : Nat) (hx9 : x < 1000000000) : Met l yX2_set wsX2_set ({ frames := 0, cells := 0, slots := 0, locals := 0 } : Room) (va_Pc [.ref h0, .int (nI (x))] (PreB D (gT cI cL cM) sz [(h0, .inr (2, [.ref p0])), (p0, .inl (cL, 8, .inr (.inl (fun j => lN (dg 1000000000 v (j))))))])) (va_Qv (fun _ => True) (fun (_ : Unit) => PostB D (gT cI cL cM) (va_A [(h0, .inr (2, [.ref p0])), (p0, .inl (cL, 8, .inr (.inl (fun j => lN (dg 1000000000 v (j))))))] sz) [(h0, .inr (2, [.ref p0])), (p0, .inl (cL, 8, .inr (.inl (fun j => lN (dg 1000000000 x (j))))))]) (va_A [(h0, .inr (2, [.ref p0])), (p0, .inl (cL, 8, .inr (.inl (fun j => lN (dg 1000000000 v (j))))))] sz)) 0 0 (va_A [(h0, .inr (2, [.ref p0])), (p0, .inl (cL, 8, .inr (.inl (fun j => lN (dg 1000000000 v (j))))))] sz) := by
  refine k_start (fun A => (va_Qv (fun _ => True) (fun (_ : Unit) => PostB D (gT cI cL cM) A [(h0, .inr (2, [.ref p0])), (p0, .inl (cL, 8, .inr (.inl (fun j => lN (dg 1000000000 x (j))))))]) A)) (cc := cX2_set) (maxL := 3) (ret := none) (by decide) rfl (Nat.le_of_ble_eq_true rfl) ?_
  intro p e s m below meth c A ls hx hb hr hts hown hlocks hin hml hP hK hD hA hS hl
  have hl : lv_has ls 3 [(0, .ref h0), (1, .int (nI (x)))] := hl
  have hown : s.vm.findClass RX2 = some m.cls := hown
  refine lv_iconst (v := nI (0)) hx hb dX2_set_0 (by decide) ?_
  refine lv_istore_n (lv' := [(2, .int (nI (0))), (0, .ref h0), (1, .int (nI (x)))]) hx hb dX2_set_1 rfl hl (by decide) rfl (fun ls hl => ?_)
  have L_1 : ∀ (nn9 i : Nat), i + nn9 = 8 → ∀ (H : Heap) (locs : List Loc) (ls : Array Slot), va_P D vwCl [(h0, .inr (2, [.ref p0])), (p0, .inl (cL, 8, .inr (.inl (fun j => lN (if j < i then 0 else dg 1000000000 v (j))))))] H → va_D A [(h0, .inr (2, [.ref p0])), (p0, .inl (cL, 8, .inr (.inl (fun j => lN (if j < i then 0 else dg 1000000000 v (j))))))] → va_S A s.heap H locs → lv_has ls 3 [(0, .ref h0), (1, .int (nI (x))), (2, .int (nI (i)))] → W p l e ({ frames := 0, cells := 0, slots := 0, locals := 0 } : Room) s m (List.toArray [.ref h0, .int (nI (x))]) below meth c H locs 0 0 (MQ below (va_Qv (fun _ => True) (fun (_ : Unit) => PostB D (gT cI cL cM) A [(h0, .inr (2, [.ref p0])), (p0, .inl (cL, 8, .inr (.inl (fun j => lN (dg 1000000000 x (j))))))]) A) (List.toArray [.ref h0, .int (nI (x))]) s 0 0 A) (F0 m 2 ls []) := by
    intro nn9
    induction nn9 with
    | zero =>
      intro i hii H locs ls hP hD hS hl
      obtain rfl : 8 = i := by omega
      refine lv_iload_n hx hb dX2_set_2 rfl (lv_at hl 2 rfl) ?_
      refine lv_bipush (v := nI (8)) hx hb dX2_set_3 (by decide) ?_
      refine n_icmp_ge (tgt := 21) hx hb (by omega) (by omega) dX2_set_5 (by decide) (fun c_2 => ?_) (fun c_2 => False.elim (by omega))
      refine lv_aload_n hx hb dX2_set_21 rfl (lv_at hl 0 rfl) ?_
      refine va_get (D := D) (cl := vwCl) (ci := 2) (v := .ref p0) (C := RX2) (T := TX2) (N := 1) hx hb hts in_X2_set_X2 hown hK hP 0 rfl rfl 0 (by decide) (hts (.fieldLink RX2 9 "BulkSamples$Whole" "parts" "[J") fl_X2_set_9) (fun _ h9 => h9) rfl dX2_set_22 ?_
      refine lv_iconst (v := nI (0)) hx hb dX2_set_25 (by decide) ?_
      refine lv_iload_n hx hb dX2_set_26 rfl (lv_at hl 1 rfl) ?_
      refine n_i2l hx hb (by omega) dX2_set_27 ?_
      refine n_last (f' := fun j => lN (dg 1000000000 x (j))) (ws' := [(h0, .inr (2, [.ref p0])), (p0, .inl (cL, 8, .inr (.inl (fun j => lN (dg 1000000000 x (j))))))]) hx hb hK hP hD hS 1 1 rfl rfl (by omega) (by omega) (fun j hj => by rw [dg_small hx9]; by_cases h1 : j = 0 <;> simp [h1, hj]) rfl dX2_set_28 (fun H locs hP hD hS => ?_)
      exact k_vret hx hb hr hlocks hP hD hK hS [0, 1] () rfl (by decide) trivial dX2_set_29
    | succ nn9 ih =>
      intro i hii H locs ls hP hD hS hl
      refine lv_iload_n hx hb dX2_set_2 rfl (lv_at hl 2 rfl) ?_
      refine lv_bipush (v := nI (8)) hx hb dX2_set_3 (by decide) ?_
      refine n_icmp_ge (tgt := 21) hx hb (by omega) (by omega) dX2_set_5 (by decide) (fun c_3 => False.elim (by omega)) (fun c_3 => ?_)
      refine lv_aload_n hx hb dX2_set_8 rfl (lv_at hl 0 rfl) ?_
      refine va_get (D := D) (cl := vwCl) (ci := 2) (v := .ref p0) (C := RX2) (T := TX2) (N := 1) hx hb hts in_X2_set_X2 hown hK hP 0 rfl rfl 0 (by decide) (hts (.fieldLink RX2 9 "BulkSamples$Whole" "parts" "[J") fl_X2_set_9) (fun _ h9 => h9) rfl dX2_set_9 ?_
      refine lv_iload_n hx hb dX2_set_12 rfl (lv_at hl 2 rfl) ?_
      refine lv_lconst (v := lN (0)) hx hb dX2_set_13 (by decide) ?_
      refine n_last (f' := fun j => lN (if j < i + 1 then 0 else dg 1000000000 v (j))) (ws' := [(h0, .inr (2, [.ref p0])), (p0, .inl (cL, 8, .inr (.inl (fun j => lN (if j < i + 1 then 0 else dg 1000000000 v (j))))))]) hx hb hK hP hD hS 1 1 rfl rfl (by omega) (by omega) (fun j _ => st_upL (fun _ => 0) (fun j => dg 1000000000 v j) i j) rfl dX2_set_14 (fun H locs hP hD hS => ?_)
      refine lv_iinc (v := nI (i + 1)) (lv' := [(2, .int (nI (i + 1))), (0, .ref h0), (1, .int (nI (x)))]) hx hb dX2_set_15 hl (k := 2) rfl (nI_add i 1) (by decide) rfl (fun ls hl => ?_)
      refine lv_goto (tgt := 2) hx hb dX2_set_18 (by decide) ?_
      exact ih (i + 1) (by omega) _ _ _ (P_pick hP [0, 1] rfl) (D_pick hD [0, 1] (by decide) rfl) hS (lv_sub hl [1, 2, 0] rfl)
  exact L_1 8 0 (by omega) _ _ _ (P_altL _ hP 1 rfl rfl (fun j _ => by simp)) (D_pick hD [0, 1] (by decide) rfl) hS (lv_sub hl [1, 2, 0] rfl)
theorem in_X2_multiply_X2 : ∀ w ∈ wsX20, w ∈ wsX2_multiply := by decide +kernel
theorem fl_X2_multiply_9 : Cond.fieldLink RX2 9 "BulkSamples$Whole" "parts" "[J" ∈ wsX2_multiply := by decide +kernel
set_option maxHeartbeats 4000000 in
set_option maxRecDepth 100000 in
/-- multiply -/
theorem c_mul (l : Launch) (D : va_G) (cI cL cM : ClassId) (sz : Nat) (h0 p0 v f : Nat) (hf4 : f ≤ 40000) : Met l yX2_multiply wsX2_multiply ({ frames := 0, cells := 0, slots := 0, locals := 0 } : Room) (va_Pc [.ref h0, .int (nI (f))] (PreB D (gT cI cL cM) sz [(h0, .inr (2, [.ref p0])), (p0, .inl (cL, 8, .inr (.inl (fun j => lN (dg 1000000000 v (j))))))])) (va_Qv (fun _ => True) (fun (_ : Unit) => PostB D (gT cI cL cM) (va_A [(h0, .inr (2, [.ref p0])), (p0, .inl (cL, 8, .inr (.inl (fun j => lN (dg 1000000000 v (j))))))] sz) [(h0, .inr (2, [.ref p0])), (p0, .inl (cL, 8, .inr (.inl (fun j => lN (dg 1000000000 (v * f) (j))))))]) (va_A [(h0, .inr (2, [.ref p0])), (p0, .inl (cL, 8, .inr (.inl (fun j => lN (dg 1000000000 v (j))))))] sz)) 0 0 (va_A [(h0, .inr (2, [.ref p0])), (p0, .inl (cL, 8, .inr (.inl (fun j => lN (dg 1000000000 v (j))))))] sz) := by
  refine k_start (fun A => (va_Qv (fun _ => True) (fun (_ : Unit) => PostB D (gT cI cL cM) A [(h0, .inr (2, [.ref p0])), (p0, .inl (cL, 8, .inr (.inl (fun j => lN (dg 1000000000 (v * f) (j))))))]) A)) (cc := cX2_multiply) (maxL := 7) (ret := none) (by decide) rfl (Nat.le_of_ble_eq_true rfl) ?_
  intro p e s m below meth c A ls hx hb hr hts hown hlocks hin hml hP hK hD hA hS hl
  have hl : lv_has ls 7 [(0, .ref h0), (1, .int (nI (f)))] := hl
  have hown : s.vm.findClass RX2 = some m.cls := hown
  refine lv_lconst (v := lN (car 1000000000 v f 0 0 0)) hx hb dX2_multiply_0 (by rw [car_0]; decide) ?_
  refine lv_lstore_n (lv' := [(2, .long (lN (car 1000000000 v f 0 0 0))), (0, .ref h0), (1, .int (nI (f)))]) hx hb dX2_multiply_1 rfl hl (by decide) rfl (fun ls hl => ?_)
  refine lv_iconst (v := nI (0)) hx hb dX2_multiply_2 (by decide) ?_
  refine lv_istore (lv' := [(4, .int (nI (0))), (2, .long (lN (car 1000000000 v f 0 0 0))), (0, .ref h0), (1, .int (nI (f)))]) hx hb dX2_multiply_3 hl (by decide) rfl (fun ls hl => ?_)
  have L_1 : ∀ (nn9 i : Nat), i + nn9 = 8 → ∀ (H : Heap) (locs : List Loc) (ls : Array Slot), va_P D vwCl [(h0, .inr (2, [.ref p0])), (p0, .inl (cL, 8, .inr (.inl (fun j => lN (if j < i then dg 1000000000 (v * f) (j) else dg 1000000000 v (j))))))] H → va_D A [(h0, .inr (2, [.ref p0])), (p0, .inl (cL, 8, .inr (.inl (fun j => lN (if j < i then dg 1000000000 (v * f) (j) else dg 1000000000 v (j))))))] → va_S A s.heap H locs → lv_has ls 7 [(0, .ref h0), (1, .int (nI (f))), (2, .long (lN (car 1000000000 v f 0 0 (i)))), (4, .int (nI (i)))] → W p l e ({ frames := 0, cells := 0, slots := 0, locals := 0 } : Room) s m (List.toArray [.ref h0, .int (nI (f))]) below meth c H locs 0 0 (MQ below (va_Qv (fun _ => True) (fun (_ : Unit) => PostB D (gT cI cL cM) A [(h0, .inr (2, [.ref p0])), (p0, .inl (cL, 8, .inr (.inl (fun j => lN (dg 1000000000 (v * f) (j))))))]) A) (List.toArray [.ref h0, .int (nI (f))]) s 0 0 A) (F0 m 5 ls []) := by
    intro nn9
    induction nn9 with
    | zero =>
      intro i hii H locs ls hP hD hS hl
      obtain rfl : 8 = i := by omega
      refine lv_iload hx hb dX2_multiply_5 (lv_at hl 3 rfl) ?_
      refine lv_bipush (v := nI (8)) hx hb dX2_multiply_7 (by decide) ?_
      refine n_icmp_ge (tgt := 52) hx hb (by omega) (by omega) dX2_multiply_9 (by decide) (fun c_2 => ?_) (fun c_2 => False.elim (by omega))
      have hP : va_P D vwCl [(h0, .inr (2, [.ref p0])), (p0, .inl (cL, 8, .inr (.inl (fun j => lN (dg 1000000000 (v * f) (j))))))] H := P_altL _ hP 1 rfl rfl (fun j hj => by rw [if_pos hj])
      have hD : va_D A [(h0, .inr (2, [.ref p0])), (p0, .inl (cL, 8, .inr (.inl (fun j => lN (dg 1000000000 (v * f) (j))))))] := D_alt hD (q0 := 1) rfl rfl
      exact k_vret hx hb hr hlocks hP hD hK hS [0, 1] () rfl (by decide) trivial dX2_multiply_52
    | succ nn9 ih =>
      intro i hii H locs ls hP hD hS hl
      have hm := mul_room (v := v) (i := i) B9 hf4
      refine lv_iload hx hb dX2_multiply_5 (lv_at hl 3 rfl) ?_
      refine lv_bipush (v := nI (8)) hx hb dX2_multiply_7 (by decide) ?_
      refine n_icmp_ge (tgt := 52) hx hb (by omega) (by omega) dX2_multiply_9 (by decide) (fun c_3 => False.elim (by omega)) (fun c_3 => ?_)
      refine lv_aload_n hx hb dX2_multiply_12 rfl (lv_at hl 0 rfl) ?_
      refine va_get (D := D) (cl := vwCl) (ci := 2) (v := .ref p0) (C := RX2) (T := TX2) (N := 1) hx hb hts in_X2_multiply_X2 hown hK hP 0 rfl rfl 0 (by decide) (hts (.fieldLink RX2 9 "BulkSamples$Whole" "parts" "[J") fl_X2_multiply_9) (fun _ h9 => h9) rfl dX2_multiply_13 ?_
      refine lv_iload hx hb dX2_multiply_16 (lv_at hl 3 rfl) ?_
      refine n_lald (x := lN (dg 1000000000 v i)) hx hb hK hP 1 1 rfl rfl (by omega) (by omega) (by simp) dX2_multiply_18 ?_
      refine lv_iload_n hx hb dX2_multiply_19 rfl (lv_at hl 1 rfl) ?_
      refine n_i2l hx hb (by omega) dX2_multiply_20 ?_
      refine n_lmul (r := (dg 1000000000 v i) * f) hx hb dX2_multiply_21 rfl ?_
      refine lv_lload_n hx hb dX2_multiply_22 rfl (lv_at hl 2 rfl) ?_
      refine n_ladd (r := ((dg 1000000000 v i) * f) + (car 1000000000 v f 0 0 (i))) hx hb dX2_multiply_23 rfl ?_
      refine lv_lstore (lv' := [(5, .long (lN (((dg 1000000000 v i) * f) + (car 1000000000 v f 0 0 (i))))), (0, .ref h0), (1, .int (nI (f))), (2, .long (lN (car 1000000000 v f 0 0 (i)))), (4, .int (nI (i)))]) hx hb dX2_multiply_24 hl (by decide) rfl (fun ls hl => ?_)
      refine lv_lload hx hb dX2_multiply_26 (lv_at hl 0 rfl) ?_
      refine lv_ldc2 hx hb hown (hts (.constantLong RX2 29 (1000000000)) (by decide +kernel)) dX2_multiply_28 ?_
      rw [show (1000000000 : Int64) = lN 1000000000 from rfl]
      refine n_ldiv (r := car 1000000000 v f 0 0 (i + 1)) hx hb dX2_multiply_31 (by omega) (by omega) (by omega) (mul_step B9 v f i) ?_
      refine lv_lstore_n (lv' := [(2, .long (lN (car 1000000000 v f 0 0 (i + 1)))), (5, .long (lN (((dg 1000000000 v i) * f) + (car 1000000000 v f 0 0 (i))))), (0, .ref h0), (1, .int (nI (f))), (4, .int (nI (i)))]) hx hb dX2_multiply_32 rfl hl (by decide) rfl (fun ls hl => ?_)
      refine lv_aload_n hx hb dX2_multiply_33 rfl (lv_at hl 2 rfl) ?_
      refine va_get (D := D) (cl := vwCl) (ci := 2) (v := .ref p0) (C := RX2) (T := TX2) (N := 1) hx hb hts in_X2_multiply_X2 hown hK hP 0 rfl rfl 0 (by decide) (hts (.fieldLink RX2 9 "BulkSamples$Whole" "parts" "[J") fl_X2_multiply_9) (fun _ h9 => h9) rfl dX2_multiply_34 ?_
      refine lv_iload hx hb dX2_multiply_37 (lv_at hl 4 rfl) ?_
      refine lv_lload hx hb dX2_multiply_39 (lv_at hl 1 rfl) ?_
      refine lv_ldc2 hx hb hown (hts (.constantLong RX2 29 (1000000000)) (by decide +kernel)) dX2_multiply_41 ?_
      rw [show (1000000000 : Int64) = lN 1000000000 from rfl]
      refine n_lrem (r := dg 1000000000 (v * f) i) hx hb dX2_multiply_44 (by omega) (by omega) (by omega) (mul_dig B9 v f i) ?_
      refine n_last (f' := fun j => lN (if j < i + 1 then dg 1000000000 (v * f) (j) else dg 1000000000 v (j))) (ws' := [(h0, .inr (2, [.ref p0])), (p0, .inl (cL, 8, .inr (.inl (fun j => lN (if j < i + 1 then dg 1000000000 (v * f) (j) else dg 1000000000 v (j))))))]) hx hb hK hP hD hS 1 1 rfl rfl (by omega) (by omega) (fun j _ => st_upL (fun j => dg 1000000000 (v * f) j) (fun j => dg 1000000000 v j) i j) rfl dX2_multiply_45 (fun H locs hP hD hS => ?_)
      refine lv_iinc (v := nI (i + 1)) (lv' := [(4, .int (nI (i + 1))), (2, .long (lN (car 1000000000 v f 0 0 (i + 1)))), (5, .long (lN (((dg 1000000000 v i) * f) + (car 1000000000 v f 0 0 (i))))), (0, .ref h0), (1, .int (nI (f)))]) hx hb dX2_multiply_46 hl (k := 4) rfl (nI_add i 1) (by decide) rfl (fun ls hl => ?_)
      refine lv_goto (tgt := 5) hx hb dX2_multiply_49 (by decide) ?_
      exact ih (i + 1) (by omega) _ _ _ (P_pick hP [0, 1] rfl) (D_pick hD [0, 1] (by decide) rfl) hS (lv_sub hl [3, 4, 1, 0] rfl)
  exact L_1 8 0 (by omega) _ _ _ (P_altL _ hP 1 rfl rfl (fun j _ => by simp)) (D_pick hD [0, 1] (by decide) rfl) hS (lv_sub hl [2, 3, 1, 0] rfl)
theorem in_X2_divide_X2 : ∀ w ∈ wsX20, w ∈ wsX2_divide := by decide +kernel
theorem fl_X2_divide_9 : Cond.fieldLink RX2 9 "BulkSamples$Whole" "parts" "[J" ∈ wsX2_divide := by decide +kernel
set_option maxHeartbeats 4000000 in
set_option maxRecDepth 100000 in
/-- divide -/
theorem c_div (l : Launch) (D : va_G) (cI cL cM : ClassId) (sz : Nat) (h0 p0 v d : Nat) (hd0 : 0 < d) (hd4 : d ≤ 100000) (hv8 : v < 1000000000 ^ 8) : Met l yX2_divide wsX2_divide ({ frames := 0, cells := 0, slots := 0, locals := 0 } : Room) (va_Pc [.ref h0, .int (nI (d))] (PreB D (gT cI cL cM) sz [(h0, .inr (2, [.ref p0])), (p0, .inl (cL, 8, .inr (.inl (fun j => lN (dg 1000000000 v (j))))))])) (va_Qv (fun _ => True) (fun (_ : Unit) => PostB D (gT cI cL cM) (va_A [(h0, .inr (2, [.ref p0])), (p0, .inl (cL, 8, .inr (.inl (fun j => lN (dg 1000000000 v (j))))))] sz) [(h0, .inr (2, [.ref p0])), (p0, .inl (cL, 8, .inr (.inl (fun j => lN (dg 1000000000 (v / d) (j))))))]) (va_A [(h0, .inr (2, [.ref p0])), (p0, .inl (cL, 8, .inr (.inl (fun j => lN (dg 1000000000 v (j))))))] sz)) 0 0 (va_A [(h0, .inr (2, [.ref p0])), (p0, .inl (cL, 8, .inr (.inl (fun j => lN (dg 1000000000 v (j))))))] sz) := by
  refine k_start (fun A => (va_Qv (fun _ => True) (fun (_ : Unit) => PostB D (gT cI cL cM) A [(h0, .inr (2, [.ref p0])), (p0, .inl (cL, 8, .inr (.inl (fun j => lN (dg 1000000000 (v / d) (j))))))]) A)) (cc := cX2_divide) (maxL := 7) (ret := none) (by decide) rfl (Nat.le_of_ble_eq_true rfl) ?_
  intro p e s m below meth c A ls hx hb hr hts hown hlocks hin hml hP hK hD hA hS hl
  have hl : lv_has ls 7 [(0, .ref h0), (1, .int (nI (d)))] := hl
  have hown : s.vm.findClass RX2 = some m.cls := hown
  refine lv_iload_n hx hb dX2_divide_0 rfl (lv_at hl 1 rfl) ?_
  refine lv_iconst (v := nI (1)) hx hb dX2_divide_1 (by decide) ?_
  refine n_icmp_ge (tgt := 6) hx hb (by omega) (by omega) dX2_divide_2 (by decide) (fun c_1 => ?_) (fun c_1 => False.elim (by omega))
  refine lv_lconst (v := lN (v / 1000000000 ^ 8 % d)) hx hb dX2_divide_6 (by rw [Nat.div_eq_of_lt hv8, Nat.zero_mod]; decide) ?_
  refine lv_lstore_n (lv' := [(2, .long (lN (v / 1000000000 ^ 8 % d))), (0, .ref h0), (1, .int (nI (d)))]) hx hb dX2_divide_7 rfl hl (by decide) rfl (fun ls hl => ?_)
  refine lv_bipush (v := nI (7)) hx hb dX2_divide_8 (by decide) ?_
  refine lv_istore (lv' := [(4, .int (nI (7))), (2, .long (lN (v / 1000000000 ^ 8 % d))), (0, .ref h0), (1, .int (nI (d)))]) hx hb dX2_divide_10 hl (by decide) rfl (fun ls hl => ?_)
  rw [show nI 7 = nI 8 + (-1) from by decide] at hl
  have L_2 : ∀ k : Nat, k ≤ 8 → ∀ (H : Heap) (locs : List Loc) (ls : Array Slot), va_P D vwCl [(h0, .inr (2, [.ref p0])), (p0, .inl (cL, 8, .inr (.inl (fun j => lN (if k ≤ j then dg 1000000000 (v / d) (j) else dg 1000000000 v (j))))))] H → va_D A [(h0, .inr (2, [.ref p0])), (p0, .inl (cL, 8, .inr (.inl (fun j => lN (if k ≤ j then dg 1000000000 (v / d) (j) else dg 1000000000 v (j))))))] → va_S A s.heap H locs → lv_has ls 7 [(0, .ref h0), (1, .int (nI (d))), (2, .long (lN (v / 1000000000 ^ k % d))), (4, .int (nI k + (-1)))] → W p l e ({ frames := 0, cells := 0, slots := 0, locals := 0 } : Room) s m (List.toArray [.ref h0, .int (nI (d))]) below meth c H locs 0 0 (MQ below (va_Qv (fun _ => True) (fun (_ : Unit) => PostB D (gT cI cL cM) A [(h0, .inr (2, [.ref p0])), (p0, .inl (cL, 8, .inr (.inl (fun j => lN (dg 1000000000 (v / d) (j))))))]) A) (List.toArray [.ref h0, .int (nI (d))]) s 0 0 A) (F0 m 12 ls []) := by
    intro k
    induction k with
    | zero =>
      intro hik H locs ls hP hD hS hl
      refine lv_iload hx hb dX2_divide_12 (lv_at hl 3 rfl) ?_
      refine lv_if_lt (tgt := 56) hx hb dX2_divide_14 (by decide) (fun c_3 => ?_) (fun c => absurd (by decide) c)
      have hP : va_P D vwCl [(h0, .inr (2, [.ref p0])), (p0, .inl (cL, 8, .inr (.inl (fun j => lN (dg 1000000000 (v / d) (j))))))] H := P_altL _ hP 1 rfl rfl (fun j hj => by rw [if_pos (Nat.zero_le j)])
      have hD : va_D A [(h0, .inr (2, [.ref p0])), (p0, .inl (cL, 8, .inr (.inl (fun j => lN (dg 1000000000 (v / d) (j))))))] := D_alt hD (q0 := 1) rfl rfl
      exact k_vret hx hb hr hlocks hP hD hK hS [0, 1] () rfl (by decide) trivial dX2_divide_56
    | succ k ih =>
      intro hik H locs ls hP hD hS hl
      rw [pk_m1] at hl
      have hd := div_dig (v := v) B9 hd0 k
      have hr1 := Nat.mod_lt (v / 1000000000 ^ (k + 1)) hd0
      have hr2 := dg_lt B9 v k
      refine lv_iload hx hb dX2_divide_12 (lv_at hl 3 rfl) ?_
      refine n_if_lt (tgt := 56) hx hb (by omega) dX2_divide_14 (by decide) ?_
      refine lv_lload_n hx hb dX2_divide_17 rfl (lv_at hl 2 rfl) ?_
      refine lv_ldc2 hx hb hown (hts (.constantLong RX2 29 (1000000000)) (by decide +kernel)) dX2_divide_18 ?_
      rw [show (1000000000 : Int64) = lN 1000000000 from rfl]
      refine n_lmul (r := (v / 1000000000 ^ (k + 1) % d) * 1000000000) hx hb dX2_divide_21 rfl ?_
      refine lv_aload_n hx hb dX2_divide_22 rfl (lv_at hl 0 rfl) ?_
      refine va_get (D := D) (cl := vwCl) (ci := 2) (v := .ref p0) (C := RX2) (T := TX2) (N := 1) hx hb hts in_X2_divide_X2 hown hK hP 0 rfl rfl 0 (by decide) (hts (.fieldLink RX2 9 "BulkSamples$Whole" "parts" "[J") fl_X2_divide_9) (fun _ h9 => h9) rfl dX2_divide_23 ?_
      refine lv_iload hx hb dX2_divide_26 (lv_at hl 3 rfl) ?_
      refine n_lald (x := lN (dg 1000000000 v k)) hx hb hK hP 1 1 rfl rfl (by omega) (by omega) (by rw [if_neg (by omega)]) dX2_divide_28 ?_
      refine n_ladd (r := ((v / 1000000000 ^ (k + 1) % d) * 1000000000) + (dg 1000000000 v k)) hx hb dX2_divide_29 rfl ?_
      refine lv_lstore (lv' := [(5, .long (lN (((v / 1000000000 ^ (k + 1) % d) * 1000000000) + (dg 1000000000 v k)))), (0, .ref h0), (1, .int (nI (d))), (2, .long (lN (v / 1000000000 ^ (k + 1) % d))), (4, .int (nI (k)))]) hx hb dX2_divide_30 hl (by decide) rfl (fun ls hl => ?_)
      refine lv_aload_n hx hb dX2_divide_32 rfl (lv_at hl 1 rfl) ?_
      refine va_get (D := D) (cl := vwCl) (ci := 2) (v := .ref p0) (C := RX2) (T := TX2) (N := 1) hx hb hts in_X2_divide_X2 hown hK hP 0 rfl rfl 0 (by decide) (hts (.fieldLink RX2 9 "BulkSamples$Whole" "parts" "[J") fl_X2_divide_9) (fun _ h9 => h9) rfl dX2_divide_33 ?_
      refine lv_iload hx hb dX2_divide_36 (lv_at hl 4 rfl) ?_
      refine lv_lload hx hb dX2_divide_38 (lv_at hl 0 rfl) ?_
      refine lv_iload_n hx hb dX2_divide_40 rfl (lv_at hl 2 rfl) ?_
      refine n_i2l hx hb (by omega) dX2_divide_41 ?_
      refine n_ldiv (r := dg 1000000000 (v / d) k) hx hb dX2_divide_42 (by omega) (by omega) (by omega) hd.1 ?_
      refine n_last (f' := fun j => lN (if k ≤ j then dg 1000000000 (v / d) (j) else dg 1000000000 v (j))) (ws' := [(h0, .inr (2, [.ref p0])), (p0, .inl (cL, 8, .inr (.inl (fun j => lN (if k ≤ j then dg 1000000000 (v / d) (j) else dg 1000000000 v (j))))))]) hx hb hK hP hD hS 1 1 rfl rfl (by omega) (by omega) (fun j _ => st_dnL (fun j => dg 1000000000 (v / d) j) (fun j => dg 1000000000 v j) k j) rfl dX2_divide_43 (fun H locs hP hD hS => ?_)
      refine lv_lload hx hb dX2_divide_44 (lv_at hl 0 rfl) ?_
      refine lv_iload_n hx hb dX2_divide_46 rfl (lv_at hl 2 rfl) ?_
      refine n_i2l hx hb (by omega) dX2_divide_47 ?_
      refine n_lrem (r := v / 1000000000 ^ k % d) hx hb dX2_divide_48 (by omega) (by omega) (by omega) hd.2 ?_
      refine lv_lstore_n (lv' := [(2, .long (lN (v / 1000000000 ^ k % d))), (5, .long (lN (((v / 1000000000 ^ (k + 1) % d) * 1000000000) + (dg 1000000000 v k)))), (0, .ref h0), (1, .int (nI (d))), (4, .int (nI (k)))]) hx hb dX2_divide_49 rfl hl (by decide) rfl (fun ls hl => ?_)
      refine lv_iinc (v := nI (k) + (-1)) (lv' := [(4, .int (nI (k) + (-1))), (2, .long (lN (v / 1000000000 ^ k % d))), (5, .long (lN (((v / 1000000000 ^ (k + 1) % d) * 1000000000) + (dg 1000000000 v k)))), (0, .ref h0), (1, .int (nI (d)))]) hx hb dX2_divide_50 hl (k := 4) rfl (by rw [show Int32.ofInt (-1) = (-1 : Int32) from by decide]) (by decide) rfl (fun ls hl => ?_)
      refine lv_goto (tgt := 12) hx hb dX2_divide_53 (by decide) ?_
      exact ih (by omega) _ _ _ (P_pick hP [0, 1] rfl) (D_pick hD [0, 1] (by decide) rfl) hS (lv_sub hl [3, 4, 1, 0] rfl)
  exact L_2 8 (Nat.le_refl _) _ _ _ (P_altL _ hP 1 rfl rfl (fun j hj => by rw [if_neg (by omega)])) (D_pick hD [0, 1] (by decide) rfl) hS (lv_sub hl [2, 3, 1, 0] rfl)
theorem in_X2_add_X2 : ∀ w ∈ wsX20, w ∈ wsX2_add := by decide +kernel
theorem fl_X2_add_9 : Cond.fieldLink RX2 9 "BulkSamples$Whole" "parts" "[J" ∈ wsX2_add := by decide +kernel
set_option maxHeartbeats 4000000 in
set_option maxRecDepth 100000 in
/-- add -/
theorem c_add (l : Launch) (D : va_G) (cI cL cM : ClassId) (sz : Nat) (h0 p0 v h1 p1 w : Nat) : Met l yX2_add wsX2_add ({ frames := 0, cells := 0, slots := 0, locals := 0 } : Room) (va_Pc [.ref h0, .ref h1] (PreB D (gT cI cL cM) sz [(h0, .inr (2, [.ref p0])), (p0, .inl (cL, 8, .inr (.inl (fun j => lN (dg 1000000000 v (j)))))), (h1, .inr (2, [.ref p1])), (p1, .inl (cL, 8, .inr (.inl (fun j => lN (dg 1000000000 w (j))))))])) (va_Qv (fun _ => True) (fun (_ : Unit) => PostB D (gT cI cL cM) (va_A [(h0, .inr (2, [.ref p0])), (p0, .inl (cL, 8, .inr (.inl (fun j => lN (dg 1000000000 v (j)))))), (h1, .inr (2, [.ref p1])), (p1, .inl (cL, 8, .inr (.inl (fun j => lN (dg 1000000000 w (j))))))] sz) [(h0, .inr (2, [.ref p0])), (p0, .inl (cL, 8, .inr (.inl (fun j => lN (dg 1000000000 (v + w) (j)))))), (h1, .inr (2, [.ref p1])), (p1, .inl (cL, 8, .inr (.inl (fun j => lN (dg 1000000000 w (j))))))]) (va_A [(h0, .inr (2, [.ref p0])), (p0, .inl (cL, 8, .inr (.inl (fun j => lN (dg 1000000000 v (j)))))), (h1, .inr (2, [.ref p1])), (p1, .inl (cL, 8, .inr (.inl (fun j => lN (dg 1000000000 w (j))))))] sz)) 0 0 (va_A [(h0, .inr (2, [.ref p0])), (p0, .inl (cL, 8, .inr (.inl (fun j => lN (dg 1000000000 v (j)))))), (h1, .inr (2, [.ref p1])), (p1, .inl (cL, 8, .inr (.inl (fun j => lN (dg 1000000000 w (j))))))] sz) := by
  refine k_start (fun A => (va_Qv (fun _ => True) (fun (_ : Unit) => PostB D (gT cI cL cM) A [(h0, .inr (2, [.ref p0])), (p0, .inl (cL, 8, .inr (.inl (fun j => lN (dg 1000000000 (v + w) (j)))))), (h1, .inr (2, [.ref p1])), (p1, .inl (cL, 8, .inr (.inl (fun j => lN (dg 1000000000 w (j))))))]) A)) (cc := cX2_add) (maxL := 7) (ret := none) (by decide) rfl (Nat.le_of_ble_eq_true rfl) ?_
  intro p e s m below meth c A ls hx hb hr hts hown hlocks hin hml hP hK hD hA hS hl
  have hl : lv_has ls 7 [(0, .ref h0), (1, .ref h1)] := hl
  have hown : s.vm.findClass RX2 = some m.cls := hown
  refine lv_lconst (v := lN (car 1000000000 v 1 w 1 0)) hx hb dX2_add_0 (by rw [car_0]; decide) ?_
  refine lv_lstore_n (lv' := [(2, .long (lN (car 1000000000 v 1 w 1 0))), (0, .ref h0), (1, .ref h1)]) hx hb dX2_add_1 rfl hl (by decide) rfl (fun ls hl => ?_)
  refine lv_iconst (v := nI (0)) hx hb dX2_add_2 (by decide) ?_
  refine lv_istore (lv' := [(4, .int (nI (0))), (2, .long (lN (car 1000000000 v 1 w 1 0))), (0, .ref h0), (1, .ref h1)]) hx hb dX2_add_3 hl (by decide) rfl (fun ls hl => ?_)
  have L_1 : ∀ (nn9 i : Nat), i + nn9 = 8 → ∀ (H : Heap) (locs : List Loc) (ls : Array Slot), va_P D vwCl [(h0, .inr (2, [.ref p0])), (p0, .inl (cL, 8, .inr (.inl (fun j => lN (if j < i then dg 1000000000 (v + w) (j) else dg 1000000000 v (j)))))), (h1, .inr (2, [.ref p1])), (p1, .inl (cL, 8, .inr (.inl (fun j => lN (dg 1000000000 w (j))))))] H → va_D A [(h0, .inr (2, [.ref p0])), (p0, .inl (cL, 8, .inr (.inl (fun j => lN (if j < i then dg 1000000000 (v + w) (j) else dg 1000000000 v (j)))))), (h1, .inr (2, [.ref p1])), (p1, .inl (cL, 8, .inr (.inl (fun j => lN (dg 1000000000 w (j))))))] → va_S A s.heap H locs → lv_has ls 7 [(0, .ref h0), (1, .ref h1), (2, .long (lN (car 1000000000 v 1 w 1 (i)))), (4, .int (nI (i)))] → W p l e ({ frames := 0, cells := 0, slots := 0, locals := 0 } : Room) s m (List.toArray [.ref h0, .ref h1]) below meth c H locs 0 0 (MQ below (va_Qv (fun _ => True) (fun (_ : Unit) => PostB D (gT cI cL cM) A [(h0, .inr (2, [.ref p0])), (p0, .inl (cL, 8, .inr (.inl (fun j => lN (dg 1000000000 (v + w) (j)))))), (h1, .inr (2, [.ref p1])), (p1, .inl (cL, 8, .inr (.inl (fun j => lN (dg 1000000000 w (j))))))]) A) (List.toArray [.ref h0, .ref h1]) s 0 0 A) (F0 m 5 ls []) := by
    intro nn9
    induction nn9 with
    | zero =>
      intro i hii H locs ls hP hD hS hl
      obtain rfl : 8 = i := by omega
      refine lv_iload hx hb dX2_add_5 (lv_at hl 3 rfl) ?_
      refine lv_bipush (v := nI (8)) hx hb dX2_add_7 (by decide) ?_
      refine n_icmp_ge (tgt := 67) hx hb (by omega) (by omega) dX2_add_9 (by decide) (fun c_2 => ?_) (fun c_2 => False.elim (by omega))
      have hP : va_P D vwCl [(h0, .inr (2, [.ref p0])), (p0, .inl (cL, 8, .inr (.inl (fun j => lN (dg 1000000000 (v + w) (j)))))), (h1, .inr (2, [.ref p1])), (p1, .inl (cL, 8, .inr (.inl (fun j => lN (dg 1000000000 w (j))))))] H := P_altL _ hP 1 rfl rfl (fun j hj => by rw [if_pos hj])
      have hD : va_D A [(h0, .inr (2, [.ref p0])), (p0, .inl (cL, 8, .inr (.inl (fun j => lN (dg 1000000000 (v + w) (j)))))), (h1, .inr (2, [.ref p1])), (p1, .inl (cL, 8, .inr (.inl (fun j => lN (dg 1000000000 w (j))))))] := D_alt hD (q0 := 1) rfl rfl
      exact k_vret hx hb hr hlocks hP hD hK hS [0, 1, 2, 3] () rfl (by decide) trivial dX2_add_67
    | succ nn9 ih =>
      intro i hii H locs ls hP hD hS hl
      have z1 := dg_lt B9 v i
      have z2 := dg_lt B9 w i
      have z3 := car_1 B9 v w i
      have z4 := dg_lt B9 (v + w) i
      refine lv_iload hx hb dX2_add_5 (lv_at hl 3 rfl) ?_
      refine lv_bipush (v := nI (8)) hx hb dX2_add_7 (by decide) ?_
      refine n_icmp_ge (tgt := 67) hx hb (by omega) (by omega) dX2_add_9 (by decide) (fun c_3 => False.elim (by omega)) (fun c_3 => ?_)
      refine lv_aload_n hx hb dX2_add_12 rfl (lv_at hl 0 rfl) ?_
      refine va_get (D := D) (cl := vwCl) (ci := 2) (v := .ref p0) (C := RX2) (T := TX2) (N := 1) hx hb hts in_X2_add_X2 hown hK hP 0 rfl rfl 0 (by decide) (hts (.fieldLink RX2 9 "BulkSamples$Whole" "parts" "[J") fl_X2_add_9) (fun _ h9 => h9) rfl dX2_add_13 ?_
      refine lv_iload hx hb dX2_add_16 (lv_at hl 3 rfl) ?_
      refine n_lald (x := lN (dg 1000000000 v i)) hx hb hK hP 1 1 rfl rfl (by omega) (by omega) (by simp) dX2_add_18 ?_
      refine lv_aload_n hx hb dX2_add_19 rfl (lv_at hl 1 rfl) ?_
      refine va_get (D := D) (cl := vwCl) (ci := 2) (v := .ref p1) (C := RX2) (T := TX2) (N := 1) hx hb hts in_X2_add_X2 hown hK hP 2 rfl rfl 0 (by decide) (hts (.fieldLink RX2 9 "BulkSamples$Whole" "parts" "[J") fl_X2_add_9) (fun _ h9 => h9) rfl dX2_add_20 ?_
      refine lv_iload hx hb dX2_add_23 (lv_at hl 3 rfl) ?_
      refine n_lald (x := lN (dg 1000000000 w (i))) hx hb hK hP 3 1 rfl rfl (by omega) (by omega) rfl dX2_add_25 ?_
      refine n_ladd (r := (dg 1000000000 v i) + (dg 1000000000 w (i))) hx hb dX2_add_26 rfl ?_
      refine lv_lload_n hx hb dX2_add_27 rfl (lv_at hl 2 rfl) ?_
      refine n_ladd (r := ((dg 1000000000 v i) + (dg 1000000000 w (i))) + (car 1000000000 v 1 w 1 (i))) hx hb dX2_add_28 rfl ?_
      refine lv_lstore (lv' := [(5, .long (lN (((dg 1000000000 v i) + (dg 1000000000 w (i))) + (car 1000000000 v 1 w 1 (i))))), (0, .ref h0), (1, .ref h1), (2, .long (lN (car 1000000000 v 1 w 1 (i)))), (4, .int (nI (i)))]) hx hb dX2_add_29 hl (by decide) rfl (fun ls hl => ?_)
      refine lv_lload hx hb dX2_add_31 (lv_at hl 0 rfl) ?_
      refine lv_ldc2 hx hb hown (hts (.constantLong RX2 29 (1000000000)) (by decide +kernel)) dX2_add_33 ?_
      rw [show (1000000000 : Int64) = lN 1000000000 from rfl]
      refine n_lcmp_lt (tgt := 44) hx hb (by omega) (by omega) dX2_add_36 dX2_add_37 (by decide) (fun c_4 => ?_) (fun c_4 => ?_)
      · obtain ⟨ha1, ha2⟩ := add_lo B9 c_4
        refine lv_lconst (v := lN (car 1000000000 v 1 w 1 (i + 1))) hx hb dX2_add_44 (by rw [ha1]; decide) ?_
        refine lv_lstore_n (lv' := [(2, .long (lN (car 1000000000 v 1 w 1 (i + 1)))), (5, .long (lN (((dg 1000000000 v i) + (dg 1000000000 w (i))) + (car 1000000000 v 1 w 1 (i))))), (0, .ref h0), (1, .ref h1), (4, .int (nI (i)))]) hx hb dX2_add_45 rfl hl (by decide) rfl (fun ls hl => ?_)
        refine lv_aload_n hx hb dX2_add_46 rfl (lv_at hl 2 rfl) ?_
        refine va_get (D := D) (cl := vwCl) (ci := 2) (v := .ref p0) (C := RX2) (T := TX2) (N := 1) hx hb hts in_X2_add_X2 hown hK hP 0 rfl rfl 0 (by decide) (hts (.fieldLink RX2 9 "BulkSamples$Whole" "parts" "[J") fl_X2_add_9) (fun _ h9 => h9) rfl dX2_add_47 ?_
        refine lv_iload hx hb dX2_add_50 (lv_at hl 4 rfl) ?_
        refine lv_lload hx hb dX2_add_52 (lv_at hl 1 rfl) ?_
        refine lv_lload_n hx hb dX2_add_54 rfl (lv_at hl 0 rfl) ?_
        refine lv_ldc2 hx hb hown (hts (.constantLong RX2 29 (1000000000)) (by decide +kernel)) dX2_add_55 ?_
        rw [show (1000000000 : Int64) = lN 1000000000 from rfl]
        refine n_lmul (r := (car 1000000000 v 1 w 1 (i + 1)) * 1000000000) hx hb dX2_add_58 rfl ?_
        refine n_lsub (r := dg 1000000000 (v + w) i) hx hb dX2_add_59 (by omega) (by omega) ?_
        refine n_last (f' := fun j => lN (if j < i + 1 then dg 1000000000 (v + w) (j) else dg 1000000000 v (j))) (ws' := [(h0, .inr (2, [.ref p0])), (p0, .inl (cL, 8, .inr (.inl (fun j => lN (if j < i + 1 then dg 1000000000 (v + w) (j) else dg 1000000000 v (j)))))), (h1, .inr (2, [.ref p1])), (p1, .inl (cL, 8, .inr (.inl (fun j => lN (dg 1000000000 w (j))))))]) hx hb hK hP hD hS 1 1 rfl rfl (by omega) (by omega) (fun j _ => st_upL (fun j => dg 1000000000 (v + w) j) (fun j => dg 1000000000 v j) i j) rfl dX2_add_60 (fun H locs hP hD hS => ?_)
        refine lv_iinc (v := nI (i + 1)) (lv' := [(4, .int (nI (i + 1))), (2, .long (lN (car 1000000000 v 1 w 1 (i + 1)))), (5, .long (lN (((dg 1000000000 v i) + (dg 1000000000 w (i))) + (car 1000000000 v 1 w 1 (i))))), (0, .ref h0), (1, .ref h1)]) hx hb dX2_add_61 hl (k := 4) rfl (nI_add i 1) (by decide) rfl (fun ls hl => ?_)
        refine lv_goto (tgt := 5) hx hb dX2_add_64 (by decide) ?_
        exact ih (i + 1) (by omega) _ _ _ (P_pick hP [0, 1, 2, 3] rfl) (D_pick hD [0, 1, 2, 3] (by decide) rfl) hS (lv_sub hl [3, 4, 1, 0] rfl)
      · obtain ⟨ha1, ha2⟩ := add_hi B9 c_4
        refine lv_lconst (v := lN (car 1000000000 v 1 w 1 (i + 1))) hx hb dX2_add_40 (by rw [ha1]; decide) ?_
        refine lv_goto (tgt := 45) hx hb dX2_add_41 (by decide) ?_
        refine lv_lstore_n (lv' := [(2, .long (lN (car 1000000000 v 1 w 1 (i + 1)))), (5, .long (lN (((dg 1000000000 v i) + (dg 1000000000 w (i))) + (car 1000000000 v 1 w 1 (i))))), (0, .ref h0), (1, .ref h1), (4, .int (nI (i)))]) hx hb dX2_add_45 rfl hl (by decide) rfl (fun ls hl => ?_)
        refine lv_aload_n hx hb dX2_add_46 rfl (lv_at hl 2 rfl) ?_
        refine va_get (D := D) (cl := vwCl) (ci := 2) (v := .ref p0) (C := RX2) (T := TX2) (N := 1) hx hb hts in_X2_add_X2 hown hK hP 0 rfl rfl 0 (by decide) (hts (.fieldLink RX2 9 "BulkSamples$Whole" "parts" "[J") fl_X2_add_9) (fun _ h9 => h9) rfl dX2_add_47 ?_
        refine lv_iload hx hb dX2_add_50 (lv_at hl 4 rfl) ?_
        refine lv_lload hx hb dX2_add_52 (lv_at hl 1 rfl) ?_
        refine lv_lload_n hx hb dX2_add_54 rfl (lv_at hl 0 rfl) ?_
        refine lv_ldc2 hx hb hown (hts (.constantLong RX2 29 (1000000000)) (by decide +kernel)) dX2_add_55 ?_
        rw [show (1000000000 : Int64) = lN 1000000000 from rfl]
        refine n_lmul (r := (car 1000000000 v 1 w 1 (i + 1)) * 1000000000) hx hb dX2_add_58 rfl ?_
        refine n_lsub (r := dg 1000000000 (v + w) i) hx hb dX2_add_59 (by omega) (by omega) ?_
        refine n_last (f' := fun j => lN (if j < i + 1 then dg 1000000000 (v + w) (j) else dg 1000000000 v (j))) (ws' := [(h0, .inr (2, [.ref p0])), (p0, .inl (cL, 8, .inr (.inl (fun j => lN (if j < i + 1 then dg 1000000000 (v + w) (j) else dg 1000000000 v (j)))))), (h1, .inr (2, [.ref p1])), (p1, .inl (cL, 8, .inr (.inl (fun j => lN (dg 1000000000 w (j))))))]) hx hb hK hP hD hS 1 1 rfl rfl (by omega) (by omega) (fun j _ => st_upL (fun j => dg 1000000000 (v + w) j) (fun j => dg 1000000000 v j) i j) rfl dX2_add_60 (fun H locs hP hD hS => ?_)
        refine lv_iinc (v := nI (i + 1)) (lv' := [(4, .int (nI (i + 1))), (2, .long (lN (car 1000000000 v 1 w 1 (i + 1)))), (5, .long (lN (((dg 1000000000 v i) + (dg 1000000000 w (i))) + (car 1000000000 v 1 w 1 (i))))), (0, .ref h0), (1, .ref h1)]) hx hb dX2_add_61 hl (k := 4) rfl (nI_add i 1) (by decide) rfl (fun ls hl => ?_)
        refine lv_goto (tgt := 5) hx hb dX2_add_64 (by decide) ?_
        exact ih (i + 1) (by omega) _ _ _ (P_pick hP [0, 1, 2, 3] rfl) (D_pick hD [0, 1, 2, 3] (by decide) rfl) hS (lv_sub hl [3, 4, 1, 0] rfl)
  exact L_1 8 0 (by omega) _ _ _ (P_altL _ hP 1 rfl rfl (fun j _ => by simp)) (D_pick hD [0, 1, 2, 3] (by decide) rfl) hS (lv_sub hl [2, 3, 1, 0] rfl)
theorem in_X2_subtract_X2 : ∀ w ∈ wsX20, w ∈ wsX2_subtract := by decide +kernel
theorem fl_X2_subtract_9 : Cond.fieldLink RX2 9 "BulkSamples$Whole" "parts" "[J" ∈ wsX2_subtract := by decide +kernel
set_option maxHeartbeats 4000000 in
set_option maxRecDepth 100000 in
/-- subtract -/
theorem c_sub (l : Launch) (D : va_G) (cI cL cM : ClassId) (sz : Nat) (h0 p0 v h1 p1 w : Nat) (hwv : w ≤ v) : Met l yX2_subtract wsX2_subtract ({ frames := 0, cells := 0, slots := 0, locals := 0 } : Room) (va_Pc [.ref h0, .ref h1] (PreB D (gT cI cL cM) sz [(h0, .inr (2, [.ref p0])), (p0, .inl (cL, 8, .inr (.inl (fun j => lN (dg 1000000000 v (j)))))), (h1, .inr (2, [.ref p1])), (p1, .inl (cL, 8, .inr (.inl (fun j => lN (dg 1000000000 w (j))))))])) (va_Qv (fun _ => True) (fun (_ : Unit) => PostB D (gT cI cL cM) (va_A [(h0, .inr (2, [.ref p0])), (p0, .inl (cL, 8, .inr (.inl (fun j => lN (dg 1000000000 v (j)))))), (h1, .inr (2, [.ref p1])), (p1, .inl (cL, 8, .inr (.inl (fun j => lN (dg 1000000000 w (j))))))] sz) [(h0, .inr (2, [.ref p0])), (p0, .inl (cL, 8, .inr (.inl (fun j => lN (dg 1000000000 (v - w) (j)))))), (h1, .inr (2, [.ref p1])), (p1, .inl (cL, 8, .inr (.inl (fun j => lN (dg 1000000000 w (j))))))]) (va_A [(h0, .inr (2, [.ref p0])), (p0, .inl (cL, 8, .inr (.inl (fun j => lN (dg 1000000000 v (j)))))), (h1, .inr (2, [.ref p1])), (p1, .inl (cL, 8, .inr (.inl (fun j => lN (dg 1000000000 w (j))))))] sz)) 0 0 (va_A [(h0, .inr (2, [.ref p0])), (p0, .inl (cL, 8, .inr (.inl (fun j => lN (dg 1000000000 v (j)))))), (h1, .inr (2, [.ref p1])), (p1, .inl (cL, 8, .inr (.inl (fun j => lN (dg 1000000000 w (j))))))] sz) := by
  refine k_start (fun A => (va_Qv (fun _ => True) (fun (_ : Unit) => PostB D (gT cI cL cM) A [(h0, .inr (2, [.ref p0])), (p0, .inl (cL, 8, .inr (.inl (fun j => lN (dg 1000000000 (v - w) (j)))))), (h1, .inr (2, [.ref p1])), (p1, .inl (cL, 8, .inr (.inl (fun j => lN (dg 1000000000 w (j))))))]) A)) (cc := cX2_subtract) (maxL := 7) (ret := none) (by decide) rfl (Nat.le_of_ble_eq_true rfl) ?_
  intro p e s m below meth c A ls hx hb hr hts hown hlocks hin hml hP hK hD hA hS hl
  have hl : lv_has ls 7 [(0, .ref h0), (1, .ref h1)] := hl
  have hown : s.vm.findClass RX2 = some m.cls := hown
  refine lv_lconst (v := lN (bor 1000000000 v w 0)) hx hb dX2_subtract_0 (by rw [bor_0]; decide) ?_
  refine lv_lstore_n (lv' := [(2, .long (lN (bor 1000000000 v w 0))), (0, .ref h0), (1, .ref h1)]) hx hb dX2_subtract_1 rfl hl (by decide) rfl (fun ls hl => ?_)
  refine lv_iconst (v := nI (0)) hx hb dX2_subtract_2 (by decide) ?_
  refine lv_istore (lv' := [(4, .int (nI (0))), (2, .long (lN (bor 1000000000 v w 0))), (0, .ref h0), (1, .ref h1)]) hx hb dX2_subtract_3 hl (by decide) rfl (fun ls hl => ?_)
  have L_1 : ∀ (nn9 i : Nat), i + nn9 = 8 → ∀ (H : Heap) (locs : List Loc) (ls : Array Slot), va_P D vwCl [(h0, .inr (2, [.ref p0])), (p0, .inl (cL, 8, .inr (.inl (fun j => lN (if j < i then dg 1000000000 (v - w) (j) else dg 1000000000 v (j)))))), (h1, .inr (2, [.ref p1])), (p1, .inl (cL, 8, .inr (.inl (fun j => lN (dg 1000000000 w (j))))))] H → va_D A [(h0, .inr (2, [.ref p0])), (p0, .inl (cL, 8, .inr (.inl (fun j => lN (if j < i then dg 1000000000 (v - w) (j) else dg 1000000000 v (j)))))), (h1, .inr (2, [.ref p1])), (p1, .inl (cL, 8, .inr (.inl (fun j => lN (dg 1000000000 w (j))))))] → va_S A s.heap H locs → lv_has ls 7 [(0, .ref h0), (1, .ref h1), (2, .long (lN (bor 1000000000 v w (i)))), (4, .int (nI (i)))] → W p l e ({ frames := 0, cells := 0, slots := 0, locals := 0 } : Room) s m (List.toArray [.ref h0, .ref h1]) below meth c H locs 0 0 (MQ below (va_Qv (fun _ => True) (fun (_ : Unit) => PostB D (gT cI cL cM) A [(h0, .inr (2, [.ref p0])), (p0, .inl (cL, 8, .inr (.inl (fun j => lN (dg 1000000000 (v - w) (j)))))), (h1, .inr (2, [.ref p1])), (p1, .inl (cL, 8, .inr (.inl (fun j => lN (dg 1000000000 w (j))))))]) A) (List.toArray [.ref h0, .ref h1]) s 0 0 A) (F0 m 5 ls []) := by
    intro nn9
    induction nn9 with
    | zero =>
      intro i hii H locs ls hP hD hS hl
      obtain rfl : 8 = i := by omega
      refine lv_iload hx hb dX2_subtract_5 (lv_at hl 3 rfl) ?_
      refine lv_bipush (v := nI (8)) hx hb dX2_subtract_7 (by decide) ?_
      refine n_icmp_ge (tgt := 65) hx hb (by omega) (by omega) dX2_subtract_9 (by decide) (fun c_2 => ?_) (fun c_2 => False.elim (by omega))
      have hP : va_P D vwCl [(h0, .inr (2, [.ref p0])), (p0, .inl (cL, 8, .inr (.inl (fun j => lN (dg 1000000000 (v - w) (j)))))), (h1, .inr (2, [.ref p1])), (p1, .inl (cL, 8, .inr (.inl (fun j => lN (dg 1000000000 w (j))))))] H := P_altL _ hP 1 rfl rfl (fun j hj => by rw [if_pos hj])
      have hD : va_D A [(h0, .inr (2, [.ref p0])), (p0, .inl (cL, 8, .inr (.inl (fun j => lN (dg 1000000000 (v - w) (j)))))), (h1, .inr (2, [.ref p1])), (p1, .inl (cL, 8, .inr (.inl (fun j => lN (dg 1000000000 w (j))))))] := D_alt hD (q0 := 1) rfl rfl
      exact k_vret hx hb hr hlocks hP hD hK hS [0, 1, 2, 3] () rfl (by decide) trivial dX2_subtract_65
    | succ nn9 ih =>
      intro i hii H locs ls hP hD hS hl
      have z1 := dg_lt B9 v i
      have z2 := dg_lt B9 w i
      have z3 := bor_le 1000000000 v w i
      have z4 := dg_lt B9 (v - w) i
      have z5 := bor_step B9 v w i
      have z6 := sub_dig B9 hwv i
      refine lv_iload hx hb dX2_subtract_5 (lv_at hl 3 rfl) ?_
      refine lv_bipush (v := nI (8)) hx hb dX2_subtract_7 (by decide) ?_
      refine n_icmp_ge (tgt := 65) hx hb (by omega) (by omega) dX2_subtract_9 (by decide) (fun c_3 => False.elim (by omega)) (fun c_3 => ?_)
      by_cases hc : dg 1000000000 w i + bor 1000000000 v w i ≤ dg 1000000000 v i
      · rw [if_pos hc] at z5 z6
        refine lv_aload_n hx hb dX2_subtract_12 rfl (lv_at hl 0 rfl) ?_
        refine va_get (D := D) (cl := vwCl) (ci := 2) (v := .ref p0) (C := RX2) (T := TX2) (N := 1) hx hb hts in_X2_subtract_X2 hown hK hP 0 rfl rfl 0 (by decide) (hts (.fieldLink RX2 9 "BulkSamples$Whole" "parts" "[J") fl_X2_subtract_9) (fun _ h9 => h9) rfl dX2_subtract_13 ?_
        refine lv_iload hx hb dX2_subtract_16 (lv_at hl 3 rfl) ?_
        refine n_lald (x := lN (dg 1000000000 v i)) hx hb hK hP 1 1 rfl rfl (by omega) (by omega) (by simp) dX2_subtract_18 ?_
        refine lv_aload_n hx hb dX2_subtract_19 rfl (lv_at hl 1 rfl) ?_
        refine va_get (D := D) (cl := vwCl) (ci := 2) (v := .ref p1) (C := RX2) (T := TX2) (N := 1) hx hb hts in_X2_subtract_X2 hown hK hP 2 rfl rfl 0 (by decide) (hts (.fieldLink RX2 9 "BulkSamples$Whole" "parts" "[J") fl_X2_subtract_9) (fun _ h9 => h9) rfl dX2_subtract_20 ?_
        refine lv_iload hx hb dX2_subtract_23 (lv_at hl 3 rfl) ?_
        refine n_lald (x := lN (dg 1000000000 w (i))) hx hb hK hP 3 1 rfl rfl (by omega) (by omega) rfl dX2_subtract_25 ?_
        refine n_lsub (r := (dg 1000000000 v i) - (dg 1000000000 w (i))) hx hb dX2_subtract_26 (by omega) rfl ?_
        refine lv_lload_n hx hb dX2_subtract_27 rfl (lv_at hl 2 rfl) ?_
        refine n_lsub (r := ((dg 1000000000 v i) - (dg 1000000000 w (i))) - (bor 1000000000 v w (i))) hx hb dX2_subtract_28 (by omega) rfl ?_
        refine lv_lstore (lv' := [(5, .long (lN (((dg 1000000000 v i) - (dg 1000000000 w (i))) - (bor 1000000000 v w (i))))), (0, .ref h0), (1, .ref h1), (2, .long (lN (bor 1000000000 v w (i)))), (4, .int (nI (i)))]) hx hb dX2_subtract_29 hl (by decide) rfl (fun ls hl => ?_)
        refine lv_lload hx hb dX2_subtract_31 (lv_at hl 0 rfl) ?_
        refine lv_lconst (v := lN (0)) hx hb dX2_subtract_33 (by decide) ?_
        refine n_lcmp_ge (tgt := 42) hx hb (by omega) (by omega) dX2_subtract_34 dX2_subtract_35 (by decide) (fun c_4 => ?_) (fun c_4 => False.elim (by omega))
        refine lv_lconst (v := lN (bor 1000000000 v w (i + 1))) hx hb dX2_subtract_42 (by rw [z5]; decide) ?_
        refine lv_lstore_n (lv' := [(2, .long (lN (bor 1000000000 v w (i + 1)))), (5, .long (lN (((dg 1000000000 v i) - (dg 1000000000 w (i))) - (bor 1000000000 v w (i))))), (0, .ref h0), (1, .ref h1), (4, .int (nI (i)))]) hx hb dX2_subtract_43 rfl hl (by decide) rfl (fun ls hl => ?_)
        refine lv_aload_n hx hb dX2_subtract_44 rfl (lv_at hl 2 rfl) ?_
        refine va_get (D := D) (cl := vwCl) (ci := 2) (v := .ref p0) (C := RX2) (T := TX2) (N := 1) hx hb hts in_X2_subtract_X2 hown hK hP 0 rfl rfl 0 (by decide) (hts (.fieldLink RX2 9 "BulkSamples$Whole" "parts" "[J") fl_X2_subtract_9) (fun _ h9 => h9) rfl dX2_subtract_45 ?_
        refine lv_iload hx hb dX2_subtract_48 (lv_at hl 4 rfl) ?_
        refine lv_lload hx hb dX2_subtract_50 (lv_at hl 1 rfl) ?_
        refine lv_lload_n hx hb dX2_subtract_52 rfl (lv_at hl 0 rfl) ?_
        refine lv_ldc2 hx hb hown (hts (.constantLong RX2 29 (1000000000)) (by decide +kernel)) dX2_subtract_53 ?_
        rw [show (1000000000 : Int64) = lN 1000000000 from rfl]
        refine n_lmul (r := (bor 1000000000 v w (i + 1)) * 1000000000) hx hb dX2_subtract_56 rfl ?_
        refine n_ladd (r := dg 1000000000 (v - w) i) hx hb dX2_subtract_57 (by omega) ?_
        refine n_last (f' := fun j => lN (if j < i + 1 then dg 1000000000 (v - w) (j) else dg 1000000000 v (j))) (ws' := [(h0, .inr (2, [.ref p0])), (p0, .inl (cL, 8, .inr (.inl (fun j => lN (if j < i + 1 then dg 1000000000 (v - w) (j) else dg 1000000000 v (j)))))), (h1, .inr (2, [.ref p1])), (p1, .inl (cL, 8, .inr (.inl (fun j => lN (dg 1000000000 w (j))))))]) hx hb hK hP hD hS 1 1 rfl rfl (by omega) (by omega) (fun j _ => st_upL (fun j => dg 1000000000 (v - w) j) (fun j => dg 1000000000 v j) i j) rfl dX2_subtract_58 (fun H locs hP hD hS => ?_)
        refine lv_iinc (v := nI (i + 1)) (lv' := [(4, .int (nI (i + 1))), (2, .long (lN (bor 1000000000 v w (i + 1)))), (5, .long (lN (((dg 1000000000 v i) - (dg 1000000000 w (i))) - (bor 1000000000 v w (i))))), (0, .ref h0), (1, .ref h1)]) hx hb dX2_subtract_59 hl (k := 4) rfl (nI_add i 1) (by decide) rfl (fun ls hl => ?_)
        refine lv_goto (tgt := 5) hx hb dX2_subtract_62 (by decide) ?_
        exact ih (i + 1) (by omega) _ _ _ (P_pick hP [0, 1, 2, 3] rfl) (D_pick hD [0, 1, 2, 3] (by decide) rfl) hS (lv_sub hl [3, 4, 1, 0] rfl)
      · rw [if_neg hc] at z5 z6
        refine lv_aload_n hx hb dX2_subtract_12 rfl (lv_at hl 0 rfl) ?_
        refine va_get (D := D) (cl := vwCl) (ci := 2) (v := .ref p0) (C := RX2) (T := TX2) (N := 1) hx hb hts in_X2_subtract_X2 hown hK hP 0 rfl rfl 0 (by decide) (hts (.fieldLink RX2 9 "BulkSamples$Whole" "parts" "[J") fl_X2_subtract_9) (fun _ h9 => h9) rfl dX2_subtract_13 ?_
        refine lv_iload hx hb dX2_subtract_16 (lv_at hl 3 rfl) ?_
        refine n_lald (x := lN (dg 1000000000 v i)) hx hb hK hP 1 1 rfl rfl (by omega) (by omega) (by simp) dX2_subtract_18 ?_
        refine lv_aload_n hx hb dX2_subtract_19 rfl (lv_at hl 1 rfl) ?_
        refine va_get (D := D) (cl := vwCl) (ci := 2) (v := .ref p1) (C := RX2) (T := TX2) (N := 1) hx hb hts in_X2_subtract_X2 hown hK hP 2 rfl rfl 0 (by decide) (hts (.fieldLink RX2 9 "BulkSamples$Whole" "parts" "[J") fl_X2_subtract_9) (fun _ h9 => h9) rfl dX2_subtract_20 ?_
        refine lv_iload hx hb dX2_subtract_23 (lv_at hl 3 rfl) ?_
        refine n_lald (x := lN (dg 1000000000 w (i))) hx hb hK hP 3 1 rfl rfl (by omega) (by omega) rfl dX2_subtract_25 ?_
        refine lv_lsub hx hb dX2_subtract_26 ?_
        refine lv_lload_n hx hb dX2_subtract_27 rfl (lv_at hl 2 rfl) ?_
        refine lv_lsub hx hb dX2_subtract_28 ?_
        refine lv_lstore (lv' := [(5, .long (((lN (dg 1000000000 v i)) - (lN (dg 1000000000 w (i)))) - (lN (bor 1000000000 v w (i))))), (0, .ref h0), (1, .ref h1), (2, .long (lN (bor 1000000000 v w (i)))), (4, .int (nI (i)))]) hx hb dX2_subtract_29 hl (by decide) rfl (fun ls hl => ?_)
        refine lv_lload hx hb dX2_subtract_31 (lv_at hl 0 rfl) ?_
        refine lv_lconst (v := lN (0)) hx hb dX2_subtract_33 (by decide) ?_
        refine r_lcmp_ge (tgt := 42) hx hb dX2_subtract_34 dX2_subtract_35 (by decide) (fun c => absurd (Int64.le_iff_toInt_le.mp c) (by have q := Int64.lt_iff_toInt_lt.mp (lN3_neg (x := dg 1000000000 v i) (y := dg 1000000000 w i) (b := bor 1000000000 v w i) (by omega) (by omega) (by omega) (by omega)); omega)) (fun c_5 => ?_)
        refine lv_lconst (v := lN (bor 1000000000 v w (i + 1))) hx hb dX2_subtract_38 (by rw [z5]; decide) ?_
        refine lv_goto (tgt := 43) hx hb dX2_subtract_39 (by decide) ?_
        refine lv_lstore_n (lv' := [(2, .long (lN (bor 1000000000 v w (i + 1)))), (5, .long (((lN (dg 1000000000 v i)) - (lN (dg 1000000000 w (i)))) - (lN (bor 1000000000 v w (i))))), (0, .ref h0), (1, .ref h1), (4, .int (nI (i)))]) hx hb dX2_subtract_43 rfl hl (by decide) rfl (fun ls hl => ?_)
        refine lv_aload_n hx hb dX2_subtract_44 rfl (lv_at hl 2 rfl) ?_
        refine va_get (D := D) (cl := vwCl) (ci := 2) (v := .ref p0) (C := RX2) (T := TX2) (N := 1) hx hb hts in_X2_subtract_X2 hown hK hP 0 rfl rfl 0 (by decide) (hts (.fieldLink RX2 9 "BulkSamples$Whole" "parts" "[J") fl_X2_subtract_9) (fun _ h9 => h9) rfl dX2_subtract_45 ?_
        refine lv_iload hx hb dX2_subtract_48 (lv_at hl 4 rfl) ?_
        refine lv_lload hx hb dX2_subtract_50 (lv_at hl 1 rfl) ?_
        refine lv_lload_n hx hb dX2_subtract_52 rfl (lv_at hl 0 rfl) ?_
        refine lv_ldc2 hx hb hown (hts (.constantLong RX2 29 (1000000000)) (by decide +kernel)) dX2_subtract_53 ?_
        rw [show (1000000000 : Int64) = lN 1000000000 from rfl]
        refine n_lmul (r := 1000000000) hx hb dX2_subtract_56 (by rw [z5]) ?_
        refine lv_ladd hx hb dX2_subtract_57 ?_
        rw [show (((lN (dg 1000000000 v i)) - (lN (dg 1000000000 w (i)))) - (lN (bor 1000000000 v w (i)))) + (lN (1000000000)) = lN (dg 1000000000 (v - w) i) from (by rw [lN3_fix (by omega) (by omega) (by omega) (by omega) (by omega), z6])]
        refine n_last (f' := fun j => lN (if j < i + 1 then dg 1000000000 (v - w) (j) else dg 1000000000 v (j))) (ws' := [(h0, .inr (2, [.ref p0])), (p0, .inl (cL, 8, .inr (.inl (fun j => lN (if j < i + 1 then dg 1000000000 (v - w) (j) else dg 1000000000 v (j)))))), (h1, .inr (2, [.ref p1])), (p1, .inl (cL, 8, .inr (.inl (fun j => lN (dg 1000000000 w (j))))))]) hx hb hK hP hD hS 1 1 rfl rfl (by omega) (by omega) (fun j _ => st_upL (fun j => dg 1000000000 (v - w) j) (fun j => dg 1000000000 v j) i j) rfl dX2_subtract_58 (fun H locs hP hD hS => ?_)
        refine lv_iinc (v := nI (i + 1)) (lv' := [(4, .int (nI (i + 1))), (2, .long (lN (bor 1000000000 v w (i + 1)))), (5, .long (((lN (dg 1000000000 v i)) - (lN (dg 1000000000 w (i)))) - (lN (bor 1000000000 v w (i))))), (0, .ref h0), (1, .ref h1)]) hx hb dX2_subtract_59 hl (k := 4) rfl (nI_add i 1) (by decide) rfl (fun ls hl => ?_)
        refine lv_goto (tgt := 5) hx hb dX2_subtract_62 (by decide) ?_
        exact ih (i + 1) (by omega) _ _ _ (P_pick hP [0, 1, 2, 3] rfl) (D_pick hD [0, 1, 2, 3] (by decide) rfl) hS (lv_sub hl [3, 4, 1, 0] rfl)
  exact L_1 8 0 (by omega) _ _ _ (P_altL _ hP 1 rfl rfl (fun j _ => by simp)) (D_pick hD [0, 1, 2, 3] (by decide) rfl) hS (lv_sub hl [2, 3, 1, 0] rfl)
theorem in_X2_isAtLeast_X2 : ∀ w ∈ wsX20, w ∈ wsX2_isAtLeast := by decide +kernel
theorem fl_X2_isAtLeast_9 : Cond.fieldLink RX2 9 "BulkSamples$Whole" "parts" "[J" ∈ wsX2_isAtLeast := by decide +kernel
set_option maxHeartbeats 4000000 in
set_option maxRecDepth 100000 in
/-- isAtLeast -/
theorem c_ge (l : Launch) (D : va_G) (cI cL cM : ClassId) (sz : Nat) (h0 p0 v h1 p1 w : Nat) (hv8 : v < 1000000000 ^ 8) (hw8 : w < 1000000000 ^ 8) : Met l yX2_isAtLeast wsX2_isAtLeast ({ frames := 0, cells := 0, slots := 0, locals := 0 } : Room) (va_Pc [.ref h0, .ref h1] (PreB D (gT cI cL cM) sz [(h0, .inr (2, [.ref p0])), (p0, .inl (cL, 8, .inr (.inl (fun j => lN (dg 1000000000 v (j)))))), (h1, .inr (2, [.ref p1])), (p1, .inl (cL, 8, .inr (.inl (fun j => lN (dg 1000000000 w (j))))))])) (va_Qi (fun r _ => r = nI (b2 (w ≤ v))) (fun (_ : Unit) => PostB D (gT cI cL cM) (va_A [(h0, .inr (2, [.ref p0])), (p0, .inl (cL, 8, .inr (.inl (fun j => lN (dg 1000000000 v (j)))))), (h1, .inr (2, [.ref p1])), (p1, .inl (cL, 8, .inr (.inl (fun j => lN (dg 1000000000 w (j))))))] sz) [(h0, .inr (2, [.ref p0])), (p0, .inl (cL, 8, .inr (.inl (fun j => lN (dg 1000000000 v (j)))))), (h1, .inr (2, [.ref p1])), (p1, .inl (cL, 8, .inr (.inl (fun j => lN (dg 1000000000 w (j))))))]) (va_A [(h0, .inr (2, [.ref p0])), (p0, .inl (cL, 8, .inr (.inl (fun j => lN (dg 1000000000 v (j)))))), (h1, .inr (2, [.ref p1])), (p1, .inl (cL, 8, .inr (.inl (fun j => lN (dg 1000000000 w (j))))))] sz)) 0 0 (va_A [(h0, .inr (2, [.ref p0])), (p0, .inl (cL, 8, .inr (.inl (fun j => lN (dg 1000000000 v (j)))))), (h1, .inr (2, [.ref p1])), (p1, .inl (cL, 8, .inr (.inl (fun j => lN (dg 1000000000 w (j))))))] sz) := by
  refine k_start (fun A => (va_Qi (fun r _ => r = nI (b2 (w ≤ v))) (fun (_ : Unit) => PostB D (gT cI cL cM) A [(h0, .inr (2, [.ref p0])), (p0, .inl (cL, 8, .inr (.inl (fun j => lN (dg 1000000000 v (j)))))), (h1, .inr (2, [.ref p1])), (p1, .inl (cL, 8, .inr (.inl (fun j => lN (dg 1000000000 w (j))))))]) A)) (cc := cX2_isAtLeast) (maxL := 3) (ret := (some .boolean)) (by decide) rfl (Nat.le_of_ble_eq_true rfl) ?_
  intro p e s m below meth c A ls hx hb hr hts hown hlocks hin hml hP hK hD hA hS hl
  have hl : lv_has ls 3 [(0, .ref h0), (1, .ref h1)] := hl
  have hown : s.vm.findClass RX2 = some m.cls := hown
  refine lv_bipush (v := nI (7)) hx hb dX2_isAtLeast_0 (by decide) ?_
  refine lv_istore_n (lv' := [(2, .int (nI (7))), (0, .ref h0), (1, .ref h1)]) hx hb dX2_isAtLeast_2 rfl hl (by decide) rfl (fun ls hl => ?_)
  rw [show nI 7 = nI 8 + (-1) from by decide] at hl
  have L_1 : ∀ k : Nat, k ≤ 8 → v / 1000000000 ^ k = w / 1000000000 ^ k → ∀ (H : Heap) (locs : List Loc) (ls : Array Slot), va_P D vwCl [(h0, .inr (2, [.ref p0])), (p0, .inl (cL, 8, .inr (.inl (fun j => lN (dg 1000000000 v (j)))))), (h1, .inr (2, [.ref p1])), (p1, .inl (cL, 8, .inr (.inl (fun j => lN (dg 1000000000 w (j))))))] H → va_D A [(h0, .inr (2, [.ref p0])), (p0, .inl (cL, 8, .inr (.inl (fun j => lN (dg 1000000000 v (j)))))), (h1, .inr (2, [.ref p1])), (p1, .inl (cL, 8, .inr (.inl (fun j => lN (dg 1000000000 w (j))))))] → va_S A s.heap H locs → lv_has ls 3 [(0, .ref h0), (1, .ref h1), (2, .int (nI k + (-1)))] → W p l e ({ frames := 0, cells := 0, slots := 0, locals := 0 } : Room) s m (List.toArray [.ref h0, .ref h1]) below meth c H locs 0 0 (MQ below (va_Qi (fun r _ => r = nI (b2 (w ≤ v))) (fun (_ : Unit) => PostB D (gT cI cL cM) A [(h0, .inr (2, [.ref p0])), (p0, .inl (cL, 8, .inr (.inl (fun j => lN (dg 1000000000 v (j)))))), (h1, .inr (2, [.ref p1])), (p1, .inl (cL, 8, .inr (.inl (fun j => lN (dg 1000000000 w (j))))))]) A) (List.toArray [.ref h0, .ref h1]) s 0 0 A) (F0 m 3 ls []) := by
    intro k
    induction k with
    | zero =>
      intro hik hf H locs ls hP hD hS hl
      refine lv_iload_n hx hb dX2_isAtLeast_3 rfl (lv_at hl 2 rfl) ?_
      refine lv_if_lt (tgt := 51) hx hb dX2_isAtLeast_4 (by decide) (fun c_2 => ?_) (fun c => absurd (by decide) c)
      refine lv_iconst (v := nI (1)) hx hb dX2_isAtLeast_51 (by decide) ?_
      exact k_zret (v := nI (1)) hx hb hr rfl hlocks hP hD hK hS [0, 1, 2, 3] () rfl (by decide) (by rw [b2_t (Nat.le_of_eq (cmp_end hf).symm)]) dX2_isAtLeast_52
    | succ k ih =>
      intro hik hf H locs ls hP hD hS hl
      rw [pk_m1] at hl
      have hq := cmp_dig hf
      have z1 := dg_lt B9 v k
      have z2 := dg_lt B9 w k
      refine lv_iload_n hx hb dX2_isAtLeast_3 rfl (lv_at hl 2 rfl) ?_
      refine n_if_lt (tgt := 51) hx hb (by omega) dX2_isAtLeast_4 (by decide) ?_
      refine lv_aload_n hx hb dX2_isAtLeast_7 rfl (lv_at hl 0 rfl) ?_
      refine va_get (D := D) (cl := vwCl) (ci := 2) (v := .ref p0) (C := RX2) (T := TX2) (N := 1) hx hb hts in_X2_isAtLeast_X2 hown hK hP 0 rfl rfl 0 (by decide) (hts (.fieldLink RX2 9 "BulkSamples$Whole" "parts" "[J") fl_X2_isAtLeast_9) (fun _ h9 => h9) rfl dX2_isAtLeast_8 ?_
      refine lv_iload_n hx hb dX2_isAtLeast_11 rfl (lv_at hl 2 rfl) ?_
      refine n_lald (x := lN (dg 1000000000 v (k))) hx hb hK hP 1 1 rfl rfl (by omega) (by omega) rfl dX2_isAtLeast_12 ?_
      refine lv_aload_n hx hb dX2_isAtLeast_13 rfl (lv_at hl 1 rfl) ?_
      refine va_get (D := D) (cl := vwCl) (ci := 2) (v := .ref p1) (C := RX2) (T := TX2) (N := 1) hx hb hts in_X2_isAtLeast_X2 hown hK hP 2 rfl rfl 0 (by decide) (hts (.fieldLink RX2 9 "BulkSamples$Whole" "parts" "[J") fl_X2_isAtLeast_9) (fun _ h9 => h9) rfl dX2_isAtLeast_14 ?_
      refine lv_iload_n hx hb dX2_isAtLeast_17 rfl (lv_at hl 2 rfl) ?_
      refine n_lald (x := lN (dg 1000000000 w (k))) hx hb hK hP 3 1 rfl rfl (by omega) (by omega) rfl dX2_isAtLeast_18 ?_
      refine n_lcmp_eq (tgt := 45) hx hb (by omega) (by omega) dX2_isAtLeast_19 dX2_isAtLeast_20 (by decide) (fun c_4 => ?_) (fun c_4 => ?_)
      · refine lv_iinc (v := nI (k) + (-1)) (lv' := [(2, .int (nI (k) + (-1))), (0, .ref h0), (1, .ref h1)]) hx hb dX2_isAtLeast_45 hl (k := 2) rfl (by rw [show Int32.ofInt (-1) = (-1 : Int32) from by decide]) (by decide) rfl (fun ls hl => ?_)
        refine lv_goto (tgt := 3) hx hb dX2_isAtLeast_48 (by decide) ?_
        exact ih (by omega) (hq.1 c_4) _ _ _ (P_pick hP [0, 1, 2, 3] rfl) (D_pick hD [0, 1, 2, 3] (by decide) rfl) hS (lv_sub hl [1, 2, 0] rfl)
      · refine lv_aload_n hx hb dX2_isAtLeast_23 rfl (lv_at hl 0 rfl) ?_
        refine va_get (D := D) (cl := vwCl) (ci := 2) (v := .ref p0) (C := RX2) (T := TX2) (N := 1) hx hb hts in_X2_isAtLeast_X2 hown hK hP 0 rfl rfl 0 (by decide) (hts (.fieldLink RX2 9 "BulkSamples$Whole" "parts" "[J") fl_X2_isAtLeast_9) (fun _ h9 => h9) rfl dX2_isAtLeast_24 ?_
        refine lv_iload_n hx hb dX2_isAtLeast_27 rfl (lv_at hl 2 rfl) ?_
        refine n_lald (x := lN (dg 1000000000 v (k))) hx hb hK hP 1 1 rfl rfl (by omega) (by omega) rfl dX2_isAtLeast_28 ?_
        refine lv_aload_n hx hb dX2_isAtLeast_29 rfl (lv_at hl 1 rfl) ?_
        refine va_get (D := D) (cl := vwCl) (ci := 2) (v := .ref p1) (C := RX2) (T := TX2) (N := 1) hx hb hts in_X2_isAtLeast_X2 hown hK hP 2 rfl rfl 0 (by decide) (hts (.fieldLink RX2 9 "BulkSamples$Whole" "parts" "[J") fl_X2_isAtLeast_9) (fun _ h9 => h9) rfl dX2_isAtLeast_30 ?_
        refine lv_iload_n hx hb dX2_isAtLeast_33 rfl (lv_at hl 2 rfl) ?_
        refine n_lald (x := lN (dg 1000000000 w (k))) hx hb hK hP 3 1 rfl rfl (by omega) (by omega) rfl dX2_isAtLeast_34 ?_
        refine n_lcmp_le (tgt := 43) hx hb (by omega) (by omega) dX2_isAtLeast_35 dX2_isAtLeast_36 (by decide) (fun c_5 => ?_) (fun c_5 => ?_)
        · refine lv_iconst (v := nI (0)) hx hb dX2_isAtLeast_43 (by decide) ?_
          exact k_zret (v := nI (0)) hx hb hr rfl hlocks hP hD hK hS [0, 1, 2, 3] () rfl (by decide) (by rw [b2_f (Nat.not_le.mpr (hq.2.2 (by omega)))]) dX2_isAtLeast_44
        · refine lv_iconst (v := nI (1)) hx hb dX2_isAtLeast_39 (by decide) ?_
          refine lv_goto (tgt := 44) hx hb dX2_isAtLeast_40 (by decide) ?_
          exact k_zret (v := nI (1)) hx hb hr rfl hlocks hP hD hK hS [0, 1, 2, 3] () rfl (by decide) (by rw [b2_t (Nat.le_of_lt (hq.2.1 (by omega)))]) dX2_isAtLeast_44
  exact L_1 8 (Nat.le_refl _) (cmp_start hv8 hw8) _ _ _ (P_pick hP [0, 1, 2, 3] rfl) (D_pick hD [0, 1, 2, 3] (by decide) rfl) hS (lv_sub hl [1, 2, 0] rfl)
end
section
/-! class Odds -/
theorem k_startX {l : Launch} {y : MethodName} {wds wds' : List Cond} {rm : Room} {mc ms sz maxL : Nat} {cc : ByteArray} {ret : Option FieldType} {av : List Value} {D : va_G} {T : List (ClassId × FieldType)} {W0 : va_W} {E : State → Prop} (QG : (Nat → Prop) → Array Value → State → Outcome → State → Prop) (hy : plainName y.cls = true) (hw : wds = Cond.code y cc maxL ret :: wds') (hlen : (lg_sl av).length ≤ maxL)
    (body : ∀ (p : Program) (e : Env) (s : State) (m : MethodId) (below : List Frame) (meth : Method) (c : Code) (A : Nat → Prop) (ls : Array Slot), p.tables.exec = Jvm.exec → c.code = cc → meth.sig.returnType = ret → (∀ w ∈ wds, w.before av.toArray s = true) → s.vm.findClass y.cls = some m.cls → meth.locks = false → meth.name = y.name → c.maxLocals = maxL → va_P D vwCl W0 s.heap → va_K D vwCl T s → va_D A W0 → (∀ q, s.heap.size ≤ q → A q) → va_S A s.heap s.heap [] → lv_has ls maxL (lv_args 0 av) → E s →
      W p l e rm s m av.toArray below meth c s.heap [] 0 0 (MQ below (QG A) av.toArray s mc ms A) (F0 m 0 ls [])) :
    Met l y wds rm (va_Pc av (fun U => PreB D T sz W0 U ∧ E U)) (QG (va_A W0 sz)) mc ms (va_A W0 sz) := by
  refine Met.ofW (cc := cc) (maxL := maxL) (ret := ret) hy hw ?_
  intro p e s m args below meth c s₁ B hml hv
  obtain ⟨rfl, ⟨hsz, hP, hK, hD0⟩, hE⟩ := hv
  subst hsz
  rw [lg_entry_eq]
  exact body p e s m below meth c _ _ B.exec B.bytes B.returns (atoms_spec (ws := wds) B.pre) (findClass_of_methodNamed B.named) B.notSynchronized (name_of_methodNamed B.named B.method).1 hml hP hK hD0.self (fun q h => Or.inr h) va_S.rf (lv_entry av hlen) hE
/-- what holds of the tables alone, in every world that the run comes to -/
def tab_ok (s : State) (E : State → Prop) : Prop := (∀ (a : Array Value) (U : State) (g : JFrame) (mk : MethodId), E U → E (U.calling g mk a)) ∧ ∀ U : State, s.WarmedH U.vm → E U
theorem k_preSX {s : State} {A : Nat → Prop} {D : va_G} {T : List (ClassId × FieldType)} {ws wc : va_W} {H : Heap} {As : List Value} {E : State → Prop} (hP : va_P D vwCl ws H) (hD : va_D A ws) (hK : va_K D vwCl T s) (isC : List Nat) (hC : isC.map (fun i => ws[i]?) = wc.map some) (hn : va_nd isC = true) (hE : tab_ok s E) : PreS s H (va_Pc As (fun U => PreB D T H.size wc U ∧ E U)) As :=
  ⟨fun a U g mk q => by
    obtain ⟨q0, ⟨q1, qP, qK, qD⟩, q2⟩ := q
    exact ⟨q0, ⟨q1, qP, va_K.moved (u := U) (U := U.calling g mk a) (Vm.Alike.refl U.vm) qK, qD⟩, hE.1 a U g mk q2⟩, fun U hU hW => ⟨rfl, ⟨by rw [hU], by rw [hU]; exact P_pick hP isC hC, va_K.moved hW.alike hK, (hD.sub isC hn hC).weaken (fun _ _ _ _ => trivial)⟩, hE.2 U hW⟩⟩
theorem tab_nest {s : State} {a : String} {i : Nat} {x : MethodName} {h : String} (hZ : va_Nw (.methodLinkNest a i x h) s) : tab_ok s (fun U => va_Nw (.methodLinkNest a i x h) U) := ⟨fun _ U _ _ q => va_Nw.same rfl (u := U) rfl q, fun _ hW => va_Nw.warmM hW hZ⟩
theorem tab_AO {s : State} {C : String} (hZ : va_AO C s) : tab_ok s (fun U => va_AO C U) := ⟨fun _ U _ _ q => va_AO.moved (u := U) (Vm.Alike.refl U.vm) q, fun _ hW => va_AO.moved hW.alike hZ⟩
theorem tab_and {s : State} {E F : State → Prop} (h1 : tab_ok s E) (h2 : tab_ok s F) : tab_ok s (fun U => E U ∧ F U) := ⟨fun a U g mk q => ⟨h1.1 a U g mk q.1, h2.1 a U g mk q.2⟩, fun U hW => ⟨h1.2 U hW, h2.2 U hW⟩⟩
abbrev eX1 : State → Prop := fun U => va_Nw (.methodLinkNest RX1 11 yX2_init RX3) U
/-- the pure words of class Odds -/
def cnd (sd : Nat) (fd : Int32) (k : Nat) : Bool := if sd = 0 then decide (nI k ≤ fd) else decide (fd ≤ nI k)
def pck (sd : Nat) (fd : Int32) (b g s k : Nat) : Nat := if cnd sd fd k = true then hyp b g s k else 0
def asked (sd : Nat) (fd : Int32) (b g s : Nat) : Nat := psum (pck sd fd b g s) (s + 1)
theorem pck_le (sd : Nat) (fd : Int32) (b g s k : Nat) : pck sd fd b g s k ≤ hyp b g s k := by unfold pck; split <;> omega
theorem asked_le (sd : Nat) (fd : Int32) (b g s : Nat) : asked sd fd b g s ≤ ch (b + g) s := by
  rw [← hyp_sum]
  exact psum_le _ (fun k _ => pck_le sd fd b g s k)
theorem asked_end (sd : Nat) (fd : Int32) {b g s : Nat} : psum (pck sd fd b g s) (min b s + 1) = asked sd fd b g s := by
  unfold asked
  have e : s + 1 = (min b s + 1) + (s - min b s) := by omega
  rw [e]
  refine (psum_zero _ (fun j h1 h2 => ?_)).symm
  have h3 : hyp b g s j = 0 := hyp_hi (by omega)
  have := pck_le sd fd b g s j
  omega
theorem asked_start (sd : Nat) (fd : Int32) {b g s : Nat} : psum (pck sd fd b g s) (s - g) = 0 := by
  have h := psum_zero (f := pck sd fd b g s) (n := 0) (s - g) (fun j h1 h2 => by
    have h3 : hyp b g s j = 0 := hyp_lo (by omega)
    have := pck_le sd fd b g s j
    omega)
  rw [Nat.zero_add] at h
  exact h
theorem chB {n k f : Nat} (hn : n ≤ 200) (hf : f ≤ 40401) : ch n k * f < 1000000000 ^ 8 := by
  have h1 := ch_le n k
  have h2 : 2 ^ n ≤ 2 ^ 200 := Nat.pow_le_pow_right (by omega) hn
  have h3 : ch n k * f ≤ 2 ^ 200 * 40401 := Nat.mul_le_mul (Nat.le_trans h1 h2) hf
  exact Nat.lt_of_le_of_lt h3 (Nat.lt_of_lt_of_le (Nat.lt_succ_self _) (Nat.le_of_ble_eq_true rfl))
theorem leB {v n k f : Nat} (hv : v ≤ ch n k) (hn : n ≤ 200) (hf : f ≤ 40401) : v * f < 1000000000 ^ 8 := Nat.lt_of_le_of_lt (Nat.mul_le_mul hv (Nat.le_refl _)) (chB (k := k) hn hf)
theorem minI {a b : Nat} (ha : a < 2 ^ 31) (hb : b < 2 ^ 31) : (if nI b < nI a then nI b else nI a) = nI (min a b) := by
  by_cases h : b < a
  · rw [if_pos ((nI_ltI hb ha).mpr h), Nat.min_eq_right (by omega)]
  · rw [if_neg (fun q => h ((nI_ltI hb ha).mp q)), Nat.min_eq_left (by omega)]
theorem maxI {a b : Nat} (ha : a < 2 ^ 30) (hb : b < 2 ^ 30) : (if nI 0 < nI a - nI b then nI a - nI b else nI 0) = nI (a - b) := by
  have e := pk_sub_toInt ha hb
  by_cases h : b ≤ a
  · rw [pk_sub h]
    by_cases h2 : a - b = 0
    · rw [h2]; split <;> rfl
    · rw [if_pos ((nI_ltI (by omega) (by omega)).mpr (by omega))]
  · rw [if_neg (fun q => by
      have q2 := Int32.lt_iff_toInt_lt.mp q
      rw [e, nI_toInt (by omega)] at q2
      omega), Nat.sub_eq_zero_of_le (by omega)]
theorem subaddI {a b k : Nat} (ha : a < 2 ^ 30) (hb : b < 2 ^ 30) (hk : k < 2 ^ 30) (h : b ≤ a + k) : nI a - nI b + nI k = nI (a + k - b) := by
  rw [← Int32.toInt_inj, Int32.toInt_add, pk_sub_toInt ha hb, nI_toInt (by omega), nI_toInt (by omega), Int.bmod_eq_of_le (by omega) (by omega)]
  omega
theorem ch_down {n i : Nat} : ch n i * (n + 1) / (i + 1) = ch (n + 1) (i + 1) := by
  rw [← ch_abs]
  exact Nat.mul_div_cancel _ (by omega)
theorem in_X2_init_X2 : ∀ w ∈ wsX20, w ∈ wsX2_init := by decide +kernel
theorem fl_X2_init_9 : Cond.fieldLink RX2 9 "BulkSamples$Whole" "parts" "[J" ∈ wsX2_init := by decide +kernel
set_option maxHeartbeats 4000000 in
set_option maxRecDepth 100000 in
/-- Whole(): 0 -/
theorem c_whole (l : Launch) (D : va_G) (cI cL cM : ClassId) (sz : Nat) (h0 : Nat) : Met l yX2_init wsX2_init ({ frames := 1, cells := 1, slots := 8, locals := 20 } : Room) (va_Pc [.ref h0] (PreB D (gT cI cL cM) sz [(h0, .inr (2, [.null]))])) (va_Qv (fun _ => True) (fun (u : Nat) => PostB D (gT cI cL cM) (va_A [(h0, .inr (2, [.null]))] sz) [(h0, .inr (2, [.ref u])), (u, .inl (cL, 8, .inr (.inl (fun j => lN (dg 1000000000 0 (j))))))]) (va_A [(h0, .inr (2, [.null]))] sz)) 1 8 (va_A [(h0, .inr (2, [.null]))] sz) := by
  refine k_start (fun A => (va_Qv (fun _ => True) (fun (u : Nat) => PostB D (gT cI cL cM) A [(h0, .inr (2, [.ref u])), (u, .inl (cL, 8, .inr (.inl (fun j => lN (dg 1000000000 0 (j))))))]) A)) (cc := cX2_init) (maxL := 1) (ret := none) (by decide) rfl (Nat.le_of_ble_eq_true rfl) ?_
  intro p e s m below meth c A ls hx hb hr hts hown hlocks hin hml hP hK hD hA hS hl
  have hl : lv_has ls 1 [(0, .ref h0)] := hl
  have hown : s.vm.findClass RX2 = some m.cls := hown
  refine lv_aload_n hx hb dX2_init_0 rfl (lv_at hl 0 rfl) ?_
  refine W.objInit hx hb hown (hts (.methodLink RX2 1 objectInit) (by decide +kernel)) (hts (.instanceMethod objectInit) (by decide +kernel)) (hts (.code objectInit ⟨#[0xb1]⟩ 1 none) (by decide +kernel)) rfl (by rw [hml]; exact hl.1) rfl dX2_init_1 (Nat.le_of_ble_eq_true rfl) (Nat.le_of_ble_eq_true rfl) ?_
  refine W.eq (g2 := F0 m 4 ls []) rfl ?_
  refine lv_aload_n hx hb dX2_init_4 rfl (lv_at hl 0 rfl) ?_
  refine lv_bipush (v := nI (8)) hx hb dX2_init_5 (by decide) ?_
  refine n_newL hx hb (hts (.arrayClass .long) (by decide +kernel)) hK hP hD hS hA (by omega) (by decide) (by decide) dX2_init_7 (fun q_1 H hP hD hS => ?_)
  have hP : va_P D vwCl [(h0, .inr (2, [.null])), (q_1, .inl (cL, 8, .inr (.inl (fun j => lN (0)))))] H := hP
  have hD : va_D A [(h0, .inr (2, [.null])), (q_1, .inl (cL, 8, .inr (.inl (fun j => lN (0)))))] := hD
  refine va_putF (D := D) (cl := vwCl) (ci := 2) (v := .ref q_1) (ty := tyX2 0) (C := RX2) (T := TX2) (N := 1) hx hb hts in_X2_init_X2 tyX2 tyX2_ok nmX2 hown hK hP hD hS 0 rfl rfl 0 (by decide) (hts (.fieldLink RX2 9 "BulkSamples$Whole" "parts" "[J") fl_X2_init_9) (fun _ h9 => h9) rfl hin rfl (by decide +kernel) rfl rfl (Nat.le_of_ble_eq_true rfl) dX2_init_9 (fun H locs hP hD hS => ?_)
  have hP : va_P D vwCl [(h0, .inr (2, [.ref q_1])), (q_1, .inl (cL, 8, .inr (.inl (fun j => lN (0)))))] H := hP
  have hD : va_D A [(h0, .inr (2, [.ref q_1])), (q_1, .inl (cL, 8, .inr (.inl (fun j => lN (0)))))] := hD
  have hP : va_P D vwCl [(h0, .inr (2, [.ref q_1])), (q_1, .inl (cL, 8, .inr (.inl (fun j => lN (dg 1000000000 0 (j))))))] H := P_altL _ hP 1 rfl rfl (fun j _ => by rw [dg_zero])
  have hD : va_D A [(h0, .inr (2, [.ref q_1])), (q_1, .inl (cL, 8, .inr (.inl (fun j => lN (dg 1000000000 0 (j))))))] := D_alt hD (q0 := 1) rfl rfl
  refine W.widen (k := 1) (n := 8) (Nat.le_of_ble_eq_true rfl) (Nat.le_of_ble_eq_true rfl) ?_
  exact k_vret hx hb hr hlocks hP hD hK hS [0, 1] q_1 rfl (by decide) trivial dX2_init_12
theorem in_X1_init_X1 : ∀ w ∈ wsX10, w ∈ wsX1_init := by decide +kernel
theorem in_X1_init_X2 : ∀ w ∈ wsX20, w ∈ wsX1_init := by decide +kernel
theorem fl_X1_init_12 : Cond.fieldLink RX1 12 "BulkSamples$Odds" "asked" "LBulkSamples$Whole;" ∈ wsX1_init := by decide +kernel
theorem fl_X1_init_18 : Cond.fieldLink RX1 18 "BulkSamples$Odds" "all" "LBulkSamples$Whole;" ∈ wsX1_init := by decide +kernel
theorem fl_X1_init_21 : Cond.fieldLink RX1 21 "BulkSamples$Odds" "ways" "LBulkSamples$Whole;" ∈ wsX1_init := by decide +kernel
set_option maxHeartbeats 4000000 in
set_option maxRecDepth 100000 in
/-- Odds() -/
theorem c_odds (l : Launch) (D : va_G) (cI cL cM : ClassId) (sz : Nat) (h0 : Nat) : Met l yX1_init wsX1_init ({ frames := 2, cells := 6, slots := 27, locals := 40 } : Room) (va_Pc [.ref h0] (fun U => PreB D (gT cI cL cM) sz [(h0, .inr (1, [.null, .null, .null]))] U ∧ eX1 U)) (va_Qv (fun _ => True) (fun (u : Nat × Nat × Nat × Nat × Nat × Nat) => PostB D (gT cI cL cM) (va_A [(h0, .inr (1, [.null, .null, .null]))] sz) [(h0, .inr (1, [.ref u.1, .ref u.2.2.1, .ref u.2.2.2.2.1])), (u.1, .inr (2, [.ref u.2.1])), (u.2.1, .inl (cL, 8, .inr (.inl (fun j => lN (dg 1000000000 0 (j)))))), (u.2.2.1, .inr (2, [.ref u.2.2.2.1])), (u.2.2.2.1, .inl (cL, 8, .inr (.inl (fun j => lN (dg 1000000000 0 (j)))))), (u.2.2.2.2.1, .inr (2, [.ref u.2.2.2.2.2])), (u.2.2.2.2.2, .inl (cL, 8, .inr (.inl (fun j => lN (dg 1000000000 0 (j))))))]) (va_A [(h0, .inr (1, [.null, .null, .null]))] sz)) 6 27 (va_A [(h0, .inr (1, [.null, .null, .null]))] sz) := by
  refine k_startX (fun A => (va_Qv (fun _ => True) (fun (u : Nat × Nat × Nat × Nat × Nat × Nat) => PostB D (gT cI cL cM) A [(h0, .inr (1, [.ref u.1, .ref u.2.2.1, .ref u.2.2.2.2.1])), (u.1, .inr (2, [.ref u.2.1])), (u.2.1, .inl (cL, 8, .inr (.inl (fun j => lN (dg 1000000000 0 (j)))))), (u.2.2.1, .inr (2, [.ref u.2.2.2.1])), (u.2.2.2.1, .inl (cL, 8, .inr (.inl (fun j => lN (dg 1000000000 0 (j)))))), (u.2.2.2.2.1, .inr (2, [.ref u.2.2.2.2.2])), (u.2.2.2.2.2, .inl (cL, 8, .inr (.inl (fun j => lN (dg 1000000000 0 (j))))))]) A)) (cc := cX1_init) (maxL := 1) (ret := none) (by decide) rfl (Nat.le_of_ble_eq_true rfl) ?_
  intro p e s m below meth c A ls hx hb hr hts hown hlocks hin hml hP hK hD hA hS hl hE
  have hl : lv_has ls 1 [(0, .ref h0)] := hl
  have hown : s.vm.findClass RX1 = some m.cls := hown
  refine lv_aload_n hx hb dX1_init_0 rfl (lv_at hl 0 rfl) ?_
  refine W.objInit hx hb hown (hts (.methodLink RX1 3 objectInit) (by decide +kernel)) (hts (.instanceMethod objectInit) (by decide +kernel)) (hts (.code objectInit ⟨#[0xb1]⟩ 1 none) (by decide +kernel)) rfl (by rw [hml]; exact hl.1) rfl dX1_init_1 (Nat.le_of_ble_eq_true rfl) (Nat.le_of_ble_eq_true rfl) ?_
  refine W.eq (g2 := F0 m 4 ls []) rfl ?_
  refine lv_aload_n hx hb dX1_init_4 rfl (lv_at hl 0 rfl) ?_
  refine va_new (D := D) (cl := vwCl) (ci := 2) (fs := [.null]) (C := RX2) (T := TX2) (N := 1) hx hb hts in_X1_init_X2 tyX2 tyX2_ok hown (hts (.classLink RX1 9 RX2) (by decide +kernel)) (hts (.instantiable RX2 1) (by decide +kernel)) (hts (.initialized RX2) (by decide +kernel)) hK hP hD hS hA rfl (fun j hj => by rcases (show j = 0 by omega) with rfl <;> rfl) (by decide) (by decide) dX1_init_5 (fun q_1 H hP hD hS => ?_)
  have hP : va_P D vwCl [(h0, .inr (1, [.null, .null, .null])), (q_1, .inr (2, [.null]))] H := hP
  have hD : va_D A [(h0, .inr (1, [.null, .null, .null])), (q_1, .inr (2, [.null]))] := hD
  refine lv_dup hx hb dX1_init_8 rfl ?_
  refine k_callv (wc := [(q_1, .inr (2, [.null]))]) (wr := [(h0, .inr (1, [.null, .null, .null]))]) (W1 := fun u_2 => [(h0, .inr (1, [.null, .null, .null])), (q_1, .inr (2, [.ref u_2])), (u_2, .inl (cL, 8, .inr (.inl (fun j => lN (dg 1000000000 0 (j))))))]) hP hD hS hA [1] [0] [0, 1, 2] rfl rfl (by decide) (by decide) (fun _ => rfl) (by decide) (va_runIN (As := []) (rest := [.ref q_1, .ref h0]) ⟨hx, hb, hml, hown, hts⟩ (c_whole l D cI cL cM H.size q_1) ⟨va_cnB (host := RX3) 0 hts gX1_init_X2_init_n11 rfl rfl rfl hE (hts (.initialized RX2) (by decide +kernel)) (by decide +kernel) ⟨Nat.le_of_ble_eq_true rfl, Nat.le_of_ble_eq_true rfl⟩, rfl, hts (.instanceMethod yX2_init) (by decide +kernel)⟩ (k_preS hP hD hK [1] rfl (by decide)) rfl rfl hl.1 rfl (lv_room (Nat.le_of_ble_eq_true rfl)) dX1_init_9 ⟨Nat.le_of_ble_eq_true rfl, Nat.le_of_ble_eq_true rfl⟩) (fun u_2 H locs hw hP hD hS => ?_)
  refine va_putF (D := D) (cl := vwCl) (ci := 1) (v := .ref q_1) (ty := tyX1 0) (C := RX1) (T := TX1) (N := 3) hx hb hts in_X1_init_X1 tyX1 tyX1_ok nmX1 hown hK hP hD hS 0 rfl rfl 0 (by decide) (hts (.fieldLink RX1 12 "BulkSamples$Odds" "asked" "LBulkSamples$Whole;") fl_X1_init_12) (fun _ h9 => h9) rfl hin rfl (by decide +kernel) rfl rfl (Nat.le_of_ble_eq_true rfl) dX1_init_12 (fun H locs hP hD hS => ?_)
  have hP : va_P D vwCl [(h0, .inr (1, [.ref q_1, .null, .null])), (q_1, .inr (2, [.ref u_2])), (u_2, .inl (cL, 8, .inr (.inl (fun j => lN (dg 1000000000 0 (j))))))] H := hP
  have hD : va_D A [(h0, .inr (1, [.ref q_1, .null, .null])), (q_1, .inr (2, [.ref u_2])), (u_2, .inl (cL, 8, .inr (.inl (fun j => lN (dg 1000000000 0 (j))))))] := hD
  refine lv_aload_n hx hb dX1_init_15 rfl (lv_at hl 0 rfl) ?_
  refine va_new (D := D) (cl := vwCl) (ci := 2) (fs := [.null]) (C := RX2) (T := TX2) (N := 1) hx hb hts in_X1_init_X2 tyX2 tyX2_ok hown (hts (.classLink RX1 9 RX2) (by decide +kernel)) (hts (.instantiable RX2 1) (by decide +kernel)) (hts (.initialized RX2) (by decide +kernel)) hK hP hD hS hA rfl (fun j hj => by rcases (show j = 0 by omega) with rfl <;> rfl) (by decide) (by decide) dX1_init_16 (fun q_4 H hP hD hS => ?_)
  have hP : va_P D vwCl [(h0, .inr (1, [.ref q_1, .null, .null])), (q_1, .inr (2, [.ref u_2])), (u_2, .inl (cL, 8, .inr (.inl (fun j => lN (dg 1000000000 0 (j)))))), (q_4, .inr (2, [.null]))] H := hP
  have hD : va_D A [(h0, .inr (1, [.ref q_1, .null, .null])), (q_1, .inr (2, [.ref u_2])), (u_2, .inl (cL, 8, .inr (.inl (fun j => lN (dg 1000000000 0 (j)))))), (q_4, .inr (2, [.null]))] := hD
  refine lv_dup hx hb dX1_init_19 rfl ?_
  refine k_callv (wc := [(q_4, .inr (2, [.null]))]) (wr := [(h0, .inr (1, [.ref q_1, .null, .null])), (q_1, .inr (2, [.ref u_2])), (u_2, .inl (cL, 8, .inr (.inl (fun j => lN (dg 1000000000 0 (j))))))]) (W1 := fun u_5 => [(h0, .inr (1, [.ref q_1, .null, .null])), (q_1, .inr (2, [.ref u_2])), (u_2, .inl (cL, 8, .inr (.inl (fun j => lN (dg 1000000000 0 (j)))))), (q_4, .inr (2, [.ref u_5])), (u_5, .inl (cL, 8, .inr (.inl (fun j => lN (dg 1000000000 0 (j))))))]) hP hD hS hA [3] [0, 1, 2] [0, 1, 2, 3, 4] rfl rfl (by decide) (by decide) (fun _ => rfl) (by decide) (va_runIN (As := []) (rest := [.ref q_4, .ref h0]) ⟨hx, hb, hml, hown, hts⟩ (c_whole l D cI cL cM H.size q_4) ⟨va_cnB (host := RX3) 0 hts gX1_init_X2_init_n11 rfl rfl rfl hE (hts (.initialized RX2) (by decide +kernel)) (by decide +kernel) ⟨Nat.le_of_ble_eq_true rfl, Nat.le_of_ble_eq_true rfl⟩, rfl, hts (.instanceMethod yX2_init) (by decide +kernel)⟩ (k_preS hP hD hK [3] rfl (by decide)) rfl rfl hl.1 rfl (lv_room (Nat.le_of_ble_eq_true rfl)) dX1_init_20 ⟨Nat.le_of_ble_eq_true rfl, Nat.le_of_ble_eq_true rfl⟩) (fun u_5 H locs hw hP hD hS => ?_)
  refine va_putF (D := D) (cl := vwCl) (ci := 1) (v := .ref q_4) (ty := tyX1 1) (C := RX1) (T := TX1) (N := 3) hx hb hts in_X1_init_X1 tyX1 tyX1_ok nmX1 hown hK hP hD hS 0 rfl rfl 1 (by decide) (hts (.fieldLink RX1 18 "BulkSamples$Odds" "all" "LBulkSamples$Whole;") fl_X1_init_18) (fun _ h9 => h9) rfl hin rfl (by decide +kernel) rfl rfl (Nat.le_of_ble_eq_true rfl) dX1_init_23 (fun H locs hP hD hS => ?_)
  have hP : va_P D vwCl [(h0, .inr (1, [.ref q_1, .ref q_4, .null])), (q_1, .inr (2, [.ref u_2])), (u_2, .inl (cL, 8, .inr (.inl (fun j => lN (dg 1000000000 0 (j)))))), (q_4, .inr (2, [.ref u_5])), (u_5, .inl (cL, 8, .inr (.inl (fun j => lN (dg 1000000000 0 (j))))))] H := hP
  have hD : va_D A [(h0, .inr (1, [.ref q_1, .ref q_4, .null])), (q_1, .inr (2, [.ref u_2])), (u_2, .inl (cL, 8, .inr (.inl (fun j => lN (dg 1000000000 0 (j)))))), (q_4, .inr (2, [.ref u_5])), (u_5, .inl (cL, 8, .inr (.inl (fun j => lN (dg 1000000000 0 (j))))))] := hD
  refine lv_aload_n hx hb dX1_init_26 rfl (lv_at hl 0 rfl) ?_
  refine va_new (D := D) (cl := vwCl) (ci := 2) (fs := [.null]) (C := RX2) (T := TX2) (N := 1) hx hb hts in_X1_init_X2 tyX2 tyX2_ok hown (hts (.classLink RX1 9 RX2) (by decide +kernel)) (hts (.instantiable RX2 1) (by decide +kernel)) (hts (.initialized RX2) (by decide +kernel)) hK hP hD hS hA rfl (fun j hj => by rcases (show j = 0 by omega) with rfl <;> rfl) (by decide) (by decide) dX1_init_27 (fun q_7 H hP hD hS => ?_)
  have hP : va_P D vwCl [(h0, .inr (1, [.ref q_1, .ref q_4, .null])), (q_1, .inr (2, [.ref u_2])), (u_2, .inl (cL, 8, .inr (.inl (fun j => lN (dg 1000000000 0 (j)))))), (q_4, .inr (2, [.ref u_5])), (u_5, .inl (cL, 8, .inr (.inl (fun j => lN (dg 1000000000 0 (j)))))), (q_7, .inr (2, [.null]))] H := hP
  have hD : va_D A [(h0, .inr (1, [.ref q_1, .ref q_4, .null])), (q_1, .inr (2, [.ref u_2])), (u_2, .inl (cL, 8, .inr (.inl (fun j => lN (dg 1000000000 0 (j)))))), (q_4, .inr (2, [.ref u_5])), (u_5, .inl (cL, 8, .inr (.inl (fun j => lN (dg 1000000000 0 (j)))))), (q_7, .inr (2, [.null]))] := hD
  refine lv_dup hx hb dX1_init_30 rfl ?_
  refine k_callv (wc := [(q_7, .inr (2, [.null]))]) (wr := [(h0, .inr (1, [.ref q_1, .ref q_4, .null])), (q_1, .inr (2, [.ref u_2])), (u_2, .inl (cL, 8, .inr (.inl (fun j => lN (dg 1000000000 0 (j)))))), (q_4, .inr (2, [.ref u_5])), (u_5, .inl (cL, 8, .inr (.inl (fun j => lN (dg 1000000000 0 (j))))))]) (W1 := fun u_8 => [(h0, .inr (1, [.ref q_1, .ref q_4, .null])), (q_1, .inr (2, [.ref u_2])), (u_2, .inl (cL, 8, .inr (.inl (fun j => lN (dg 1000000000 0 (j)))))), (q_4, .inr (2, [.ref u_5])), (u_5, .inl (cL, 8, .inr (.inl (fun j => lN (dg 1000000000 0 (j)))))), (q_7, .inr (2, [.ref u_8])), (u_8, .inl (cL, 8, .inr (.inl (fun j => lN (dg 1000000000 0 (j))))))]) hP hD hS hA [5] [0, 1, 2, 3, 4] [0, 1, 2, 3, 4, 5, 6] rfl rfl (by decide) (by decide) (fun _ => rfl) (by decide) (va_runIN (As := []) (rest := [.ref q_7, .ref h0]) ⟨hx, hb, hml, hown, hts⟩ (c_whole l D cI cL cM H.size q_7) ⟨va_cnB (host := RX3) 0 hts gX1_init_X2_init_n11 rfl rfl rfl hE (hts (.initialized RX2) (by decide +kernel)) (by decide +kernel) ⟨Nat.le_of_ble_eq_true rfl, Nat.le_of_ble_eq_true rfl⟩, rfl, hts (.instanceMethod yX2_init) (by decide +kernel)⟩ (k_preS hP hD hK [5] rfl (by decide)) rfl rfl hl.1 rfl (lv_room (Nat.le_of_ble_eq_true rfl)) dX1_init_31 ⟨Nat.le_of_ble_eq_true rfl, Nat.le_of_ble_eq_true rfl⟩) (fun u_8 H locs hw hP hD hS => ?_)
  refine va_putF (D := D) (cl := vwCl) (ci := 1) (v := .ref q_7) (ty := tyX1 2) (C := RX1) (T := TX1) (N := 3) hx hb hts in_X1_init_X1 tyX1 tyX1_ok nmX1 hown hK hP hD hS 0 rfl rfl 2 (by decide) (hts (.fieldLink RX1 21 "BulkSamples$Odds" "ways" "LBulkSamples$Whole;") fl_X1_init_21) (fun _ h9 => h9) rfl hin rfl (by decide +kernel) rfl rfl (Nat.le_of_ble_eq_true rfl) dX1_init_34 (fun H locs hP hD hS => ?_)
  have hP : va_P D vwCl [(h0, .inr (1, [.ref q_1, .ref q_4, .ref q_7])), (q_1, .inr (2, [.ref u_2])), (u_2, .inl (cL, 8, .inr (.inl (fun j => lN (dg 1000000000 0 (j)))))), (q_4, .inr (2, [.ref u_5])), (u_5, .inl (cL, 8, .inr (.inl (fun j => lN (dg 1000000000 0 (j)))))), (q_7, .inr (2, [.ref u_8])), (u_8, .inl (cL, 8, .inr (.inl (fun j => lN (dg 1000000000 0 (j))))))] H := hP
  have hD : va_D A [(h0, .inr (1, [.ref q_1, .ref q_4, .ref q_7])), (q_1, .inr (2, [.ref u_2])), (u_2, .inl (cL, 8, .inr (.inl (fun j => lN (dg 1000000000 0 (j)))))), (q_4, .inr (2, [.ref u_5])), (u_5, .inl (cL, 8, .inr (.inl (fun j => lN (dg 1000000000 0 (j)))))), (q_7, .inr (2, [.ref u_8])), (u_8, .inl (cL, 8, .inr (.inl (fun j => lN (dg 1000000000 0 (j))))))] := hD
  refine W.widen (k := 6) (n := 27) (Nat.le_of_ble_eq_true rfl) (Nat.le_of_ble_eq_true rfl) ?_
  exact k_vret hx hb hr hlocks hP hD hK hS [0, 1, 2, 3, 4, 5, 6] (q_1, u_2, q_4, u_5, q_7, u_8) rfl (by decide) trivial dX1_init_37
theorem in_X2_setChoices_X2 : ∀ w ∈ wsX20, w ∈ wsX2_setChoices := by decide +kernel
theorem fl_X2_setChoices_9 : Cond.fieldLink RX2 9 "BulkSamples$Whole" "parts" "[J" ∈ wsX2_setChoices := by decide +kernel
set_option maxHeartbeats 4000000 in
set_option maxRecDepth 100000 in
/-- setChoices -/
theorem c_cho (l : Launch) (D : va_G) (cI cL cM : ClassId) (sz : Nat) (h0 p0 v th so : Nat) (ht : th ≤ 200) (hs : so ≤ th) : Met l yX2_setChoices wsX2_setChoices ({ frames := 1, cells := 0, slots := 0, locals := 26 } : Room) (va_Pc [.ref h0, .int (nI (th)), .int (nI (so))] (PreB D (gT cI cL cM) sz [(h0, .inr (2, [.ref p0])), (p0, .inl (cL, 8, .inr (.inl (fun j => lN (dg 1000000000 v (j))))))])) (va_Qv (fun _ => True) (fun (_ : Unit) => PostB D (gT cI cL cM) (va_A [(h0, .inr (2, [.ref p0])), (p0, .inl (cL, 8, .inr (.inl (fun j => lN (dg 1000000000 v (j))))))] sz) [(h0, .inr (2, [.ref p0])), (p0, .inl (cL, 8, .inr (.inl (fun j => lN (dg 1000000000 (ch th so) (j))))))]) (va_A [(h0, .inr (2, [.ref p0])), (p0, .inl (cL, 8, .inr (.inl (fun j => lN (dg 1000000000 v (j))))))] sz)) 0 0 (va_A [(h0, .inr (2, [.ref p0])), (p0, .inl (cL, 8, .inr (.inl (fun j => lN (dg 1000000000 v (j))))))] sz) := by
  refine k_start (fun A => (va_Qv (fun _ => True) (fun (_ : Unit) => PostB D (gT cI cL cM) A [(h0, .inr (2, [.ref p0])), (p0, .inl (cL, 8, .inr (.inl (fun j => lN (dg 1000000000 (ch th so) (j))))))]) A)) (cc := cX2_setChoices) (maxL := 5) (ret := none) (by decide) rfl (Nat.le_of_ble_eq_true rfl) ?_
  intro p e s m below meth c A ls hx hb hr hts hown hlocks hin hml hP hK hD hA hS hl
  have hl : lv_has ls 5 [(0, .ref h0), (1, .int (nI (th))), (2, .int (nI (so)))] := hl
  have hown : s.vm.findClass RX2 = some m.cls := hown
  refine lv_iload_n hx hb dX2_setChoices_0 rfl (lv_at hl 2 rfl) ?_
  refine lv_iload_n hx hb dX2_setChoices_1 rfl (lv_at hl 1 rfl) ?_
  refine lv_iload_n hx hb dX2_setChoices_2 rfl (lv_at hl 2 rfl) ?_
  refine n_isub (r := th - so) hx hb dX2_setChoices_3 (by omega) rfl ?_
  refine va_mmin hx hb (hml.trans hl.1.symm) hown (hts (.methodLink RX2 13 Lib.Math.min.name) (by decide +kernel)) (hts (.static Lib.Math.min.name) (by decide +kernel)) (hts (.initialized "java/lang/Math") (by decide +kernel)) (hts (.code Lib.Math.min.name Lib.Math.min.code 2 (some .int)) (by decide +kernel)) (Nat.le_of_ble_eq_true rfl) (Nat.le_of_ble_eq_true rfl) (by decide) (by decide) dX2_setChoices_4 ?_
  rw [show (if nI (th - so) < nI (so) then nI (th - so) else nI (so)) = nI (min so (th - so)) from minI (by omega) (by omega)]
  refine lv_istore_n (lv' := [(3, .int (nI (min so (th - so)))), (0, .ref h0), (1, .int (nI (th))), (2, .int (nI (so)))]) hx hb dX2_setChoices_7 rfl hl (by decide) rfl (fun ls hl => ?_)
  refine lv_aload_n hx hb dX2_setChoices_8 rfl (lv_at hl 1 rfl) ?_
  refine lv_iconst (v := nI (1)) hx hb dX2_setChoices_9 (by decide) ?_
  refine k_callv (wc := [(h0, .inr (2, [.ref p0])), (p0, .inl (cL, 8, .inr (.inl (fun j => lN (dg 1000000000 v (j))))))]) (wr := []) (W1 := fun _ => [(h0, .inr (2, [.ref p0])), (p0, .inl (cL, 8, .inr (.inl (fun j => lN (dg 1000000000 1 (j))))))]) hP hD hS hA [0, 1] [] [0, 1] rfl rfl (by decide) (by decide) (fun _ => rfl) (by decide) (va_runV (As := [.int (nI (1))]) (rest := []) ⟨hx, hb, hml, hown, hts⟩ (c_set l D cI cL cM s.heap.size h0 p0 v 1 (by omega)) (cwV 1 hts gX2_setChoices_X2_set rfl rfl rfl (by decide +kernel) ⟨Nat.le_of_ble_eq_true rfl, Nat.le_of_ble_eq_true rfl⟩) (k_preV hP hD hK [0, 1] rfl (by decide) 0 rfl rfl rfl) rfl rfl hl.1 rfl (lv_room (Nat.le_of_ble_eq_true rfl)) dX2_setChoices_10 ⟨Nat.le_of_ble_eq_true rfl, Nat.le_of_ble_eq_true rfl⟩) (fun _ H locs hw hP hD hS => ?_)
  have hP : va_P D vwCl [(h0, .inr (2, [.ref p0])), (p0, .inl (cL, 8, .inr (.inl (fun j => lN (dg 1000000000 (ch (th - min so (th - so) + 0) 0) (j))))))] H := P_altL _ hP 1 rfl rfl (fun j _ => congrArg (fun z => lN (dg 1000000000 z j)) ((ch_0 _).symm))
  have hD : va_D A [(h0, .inr (2, [.ref p0])), (p0, .inl (cL, 8, .inr (.inl (fun j => lN (dg 1000000000 (ch (th - min so (th - so) + 0) 0) (j))))))] := D_alt hD (q0 := 1) rfl rfl
  refine lv_iconst (v := nI (0 + 1)) hx hb dX2_setChoices_13 (by decide) ?_
  refine lv_istore (lv' := [(4, .int (nI (0 + 1))), (3, .int (nI (min so (th - so)))), (0, .ref h0), (1, .int (nI (th))), (2, .int (nI (so)))]) hx hb dX2_setChoices_14 hl (by decide) rfl (fun ls hl => ?_)
  have L_2 : ∀ (nn9 i : Nat), i + nn9 = min so (th - so) → ∀ (H : Heap) (locs : List Loc) (ls : Array Slot), va_P D vwCl [(h0, .inr (2, [.ref p0])), (p0, .inl (cL, 8, .inr (.inl (fun j => lN (dg 1000000000 (ch (th - min so (th - so) + i) i) (j))))))] H → va_D A [(h0, .inr (2, [.ref p0])), (p0, .inl (cL, 8, .inr (.inl (fun j => lN (dg 1000000000 (ch (th - min so (th - so) + i) i) (j))))))] → va_S A s.heap H locs → lv_has ls 5 [(0, .ref h0), (1, .int (nI (th))), (2, .int (nI (so))), (3, .int (nI (min so (th - so)))), (4, .int (nI (i + 1)))] → W p l e ({ frames := 1, cells := 0, slots := 0, locals := 26 } : Room) s m (List.toArray [.ref h0, .int (nI (th)), .int (nI (so))]) below meth c H locs (0 + 0) (0 + 0) (MQ below (va_Qv (fun _ => True) (fun (_ : Unit) => PostB D (gT cI cL cM) A [(h0, .inr (2, [.ref p0])), (p0, .inl (cL, 8, .inr (.inl (fun j => lN (dg 1000000000 (ch th so) (j))))))]) A) (List.toArray [.ref h0, .int (nI (th)), .int (nI (so))]) s 0 0 A) (F0 m 16 ls []) := by
    intro nn9
    induction nn9 with
    | zero =>
      intro i hii H locs ls hP hD hS hl
      obtain rfl : min so (th - so) = i := by omega
      refine lv_iload hx hb dX2_setChoices_16 (lv_at hl 4 rfl) ?_
      refine lv_iload_n hx hb dX2_setChoices_18 rfl (lv_at hl 3 rfl) ?_
      refine n_icmp_gt (tgt := 44) hx hb (by omega) (by omega) dX2_setChoices_19 (by decide) (fun c_3 => ?_) (fun c_3 => False.elim (by omega))
      have e : ch (th - min so (th - so) + (min so (th - so))) (min so (th - so)) = ch th so := by
        have e1 : th - min so (th - so) + min so (th - so) = th := by omega
        rw [e1]
        by_cases h : so ≤ th - so
        · rw [Nat.min_eq_left h]
        · rw [Nat.min_eq_right (by omega)]; exact ch_sym2 th (th - so) so (by omega)
      have hP : va_P D vwCl [(h0, .inr (2, [.ref p0])), (p0, .inl (cL, 8, .inr (.inl (fun j => lN (dg 1000000000 (ch th so) (j))))))] H := P_altL _ hP 1 rfl rfl (fun j _ => congrArg (fun z => lN (dg 1000000000 z j)) e)
      have hD : va_D A [(h0, .inr (2, [.ref p0])), (p0, .inl (cL, 8, .inr (.inl (fun j => lN (dg 1000000000 (ch th so) (j))))))] := D_alt hD (q0 := 1) rfl rfl
      refine W.widen (k := 0) (n := 0) (Nat.le_of_ble_eq_true rfl) (Nat.le_of_ble_eq_true rfl) ?_
      exact k_vret hx hb hr hlocks hP hD hK hS [0, 1] () rfl (by decide) trivial dX2_setChoices_44
    | succ nn9 ih =>
      intro i hii H locs ls hP hD hS hl
      refine lv_iload hx hb dX2_setChoices_16 (lv_at hl 4 rfl) ?_
      refine lv_iload_n hx hb dX2_setChoices_18 rfl (lv_at hl 3 rfl) ?_
      refine n_icmp_gt (tgt := 44) hx hb (by omega) (by omega) dX2_setChoices_19 (by decide) (fun c_4 => False.elim (by omega)) (fun c_4 => ?_)
      refine lv_aload_n hx hb dX2_setChoices_22 rfl (lv_at hl 0 rfl) ?_
      refine lv_iload_n hx hb dX2_setChoices_23 rfl (lv_at hl 1 rfl) ?_
      refine lv_iload_n hx hb dX2_setChoices_24 rfl (lv_at hl 3 rfl) ?_
      refine n_isub (r := th - (min so (th - so))) hx hb dX2_setChoices_25 (by omega) rfl ?_
      refine lv_iload hx hb dX2_setChoices_26 (lv_at hl 4 rfl) ?_
      refine n_iadd (r := th - min so (th - so) + i + 1) hx hb dX2_setChoices_28 (by omega) ?_
      refine k_callv (wc := [(h0, .inr (2, [.ref p0])), (p0, .inl (cL, 8, .inr (.inl (fun j => lN (dg 1000000000 (ch (th - min so (th - so) + i) i) (j))))))]) (wr := []) (W1 := fun _ => [(h0, .inr (2, [.ref p0])), (p0, .inl (cL, 8, .inr (.inl (fun j => lN (dg 1000000000 ((ch (th - min so (th - so) + i) i) * (th - min so (th - so) + i + 1)) (j))))))]) hP hD hS hA [0, 1] [] [0, 1] rfl rfl (by decide) (by decide) (fun _ => rfl) (by decide) (va_runV (As := [.int (nI (th - min so (th - so) + i + 1))]) (rest := []) ⟨hx, hb, hml, hown, hts⟩ (c_mul l D cI cL cM H.size h0 p0 (ch (th - min so (th - so) + i) i) (th - min so (th - so) + i + 1) (by omega)) (cwV 1 hts gX2_setChoices_X2_multiply rfl rfl rfl (by decide +kernel) ⟨Nat.le_of_ble_eq_true rfl, Nat.le_of_ble_eq_true rfl⟩) (k_preV hP hD hK [0, 1] rfl (by decide) 0 rfl rfl rfl) rfl rfl hl.1 rfl (lv_room (Nat.le_of_ble_eq_true rfl)) dX2_setChoices_29 ⟨Nat.le_of_ble_eq_true rfl, Nat.le_of_ble_eq_true rfl⟩) (fun _ H locs hw hP hD hS => ?_)
      refine lv_aload_n hx hb dX2_setChoices_32 rfl (lv_at hl 0 rfl) ?_
      refine lv_iload hx hb dX2_setChoices_33 (lv_at hl 4 rfl) ?_
      refine k_callv (wc := [(h0, .inr (2, [.ref p0])), (p0, .inl (cL, 8, .inr (.inl (fun j => lN (dg 1000000000 (ch (th - min so (th - so) + i) i * (th - min so (th - so) + i + 1)) (j))))))]) (wr := []) (W1 := fun _ => [(h0, .inr (2, [.ref p0])), (p0, .inl (cL, 8, .inr (.inl (fun j => lN (dg 1000000000 ((ch (th - min so (th - so) + i) i * (th - min so (th - so) + i + 1)) / (i + 1)) (j))))))]) hP hD hS hA [0, 1] [] [0, 1] rfl rfl (by decide) (by decide) (fun _ => rfl) (by decide) (va_runV (As := [.int (nI (i + 1))]) (rest := []) ⟨hx, hb, hml, hown, hts⟩ (c_div l D cI cL cM H.size h0 p0 (ch (th - min so (th - so) + i) i * (th - min so (th - so) + i + 1)) (i + 1) (by omega) (by omega) (chB (by omega) (by omega))) (cwV 1 hts gX2_setChoices_X2_divide rfl rfl rfl (by decide +kernel) ⟨Nat.le_of_ble_eq_true rfl, Nat.le_of_ble_eq_true rfl⟩) (k_preV hP hD hK [0, 1] rfl (by decide) 0 rfl rfl rfl) rfl rfl hl.1 rfl (lv_room (Nat.le_of_ble_eq_true rfl)) dX2_setChoices_35 ⟨Nat.le_of_ble_eq_true rfl, Nat.le_of_ble_eq_true rfl⟩) (fun _ H locs hw hP hD hS => ?_)
      have hP : va_P D vwCl [(h0, .inr (2, [.ref p0])), (p0, .inl (cL, 8, .inr (.inl (fun j => lN (dg 1000000000 (ch (th - min so (th - so) + (i + 1)) (i + 1)) (j))))))] H := P_altL _ hP 1 rfl rfl (fun j _ => congrArg (fun z => lN (dg 1000000000 z j)) ch_down)
      have hD : va_D A [(h0, .inr (2, [.ref p0])), (p0, .inl (cL, 8, .inr (.inl (fun j => lN (dg 1000000000 (ch (th - min so (th - so) + (i + 1)) (i + 1)) (j))))))] := D_alt hD (q0 := 1) rfl rfl
      refine lv_iinc (v := nI (i + 1 + 1)) (lv' := [(4, .int (nI (i + 1 + 1))), (0, .ref h0), (1, .int (nI (th))), (2, .int (nI (so))), (3, .int (nI (min so (th - so))))]) hx hb dX2_setChoices_38 hl (k := 4) rfl (nI_add (i + 1) 1) (by decide) rfl (fun ls hl => ?_)
      refine lv_goto (tgt := 16) hx hb dX2_setChoices_41 (by decide) ?_
      exact ih (i + 1) (by omega) _ _ _ (P_pick hP [0, 1] rfl) (D_pick hD [0, 1] (by decide) rfl) hS (lv_sub hl [1, 2, 3, 4, 0] rfl)
  exact L_2 (min so (th - so)) 0 (by omega) _ _ _ (P_pick hP [0, 1] rfl) (D_pick hD [0, 1] (by decide) rfl) hS (lv_sub hl [2, 3, 4, 1, 0] rfl)
theorem in_X1_takeAll_X1 : ∀ w ∈ wsX10, w ∈ wsX1_takeAll := by decide +kernel
theorem in_X1_takeAll_X2 : ∀ w ∈ wsX20, w ∈ wsX1_takeAll := by decide +kernel
theorem fl_X1_takeAll_12 : Cond.fieldLink RX1 12 "BulkSamples$Odds" "asked" "LBulkSamples$Whole;" ∈ wsX1_takeAll := by decide +kernel
theorem fl_X1_takeAll_18 : Cond.fieldLink RX1 18 "BulkSamples$Odds" "all" "LBulkSamples$Whole;" ∈ wsX1_takeAll := by decide +kernel
set_option maxHeartbeats 4000000 in
set_option maxRecDepth 100000 in
/-- takeAll -/
theorem c_take (l : Launch) (D : va_G) (cI cL cM : ClassId) (sz : Nat) (h0 x0 x1 x2 y0 y1 : Nat) (a B : Nat) (hB : 0 < B) (h10 : a < 10 * B) (hb8 : 10 * B < 1000000000 ^ 8) : Met l yX1_takeAll wsX1_takeAll ({ frames := 1, cells := 0, slots := 0, locals := 26 } : Room) (va_Pc [.ref h0] (PreB D (gT cI cL cM) sz [(h0, .inr (1, [.ref x0, .ref x1, .ref x2])), (x0, .inr (2, [.ref y0])), (y0, .inl (cL, 8, .inr (.inl (fun j => lN (dg 1000000000 a (j)))))), (x1, .inr (2, [.ref y1])), (y1, .inl (cL, 8, .inr (.inl (fun j => lN (dg 1000000000 B (j))))))])) (va_Qi (fun r _ => r = nI (a / B)) (fun (_ : Unit) => PostB D (gT cI cL cM) (va_A [(h0, .inr (1, [.ref x0, .ref x1, .ref x2])), (x0, .inr (2, [.ref y0])), (y0, .inl (cL, 8, .inr (.inl (fun j => lN (dg 1000000000 a (j)))))), (x1, .inr (2, [.ref y1])), (y1, .inl (cL, 8, .inr (.inl (fun j => lN (dg 1000000000 B (j))))))] sz) [(h0, .inr (1, [.ref x0, .ref x1, .ref x2])), (x0, .inr (2, [.ref y0])), (y0, .inl (cL, 8, .inr (.inl (fun j => lN (dg 1000000000 (a % B) (j)))))), (x1, .inr (2, [.ref y1])), (y1, .inl (cL, 8, .inr (.inl (fun j => lN (dg 1000000000 B (j))))))]) (va_A [(h0, .inr (1, [.ref x0, .ref x1, .ref x2])), (x0, .inr (2, [.ref y0])), (y0, .inl (cL, 8, .inr (.inl (fun j => lN (dg 1000000000 a (j)))))), (x1, .inr (2, [.ref y1])), (y1, .inl (cL, 8, .inr (.inl (fun j => lN (dg 1000000000 B (j))))))] sz)) 0 0 (va_A [(h0, .inr (1, [.ref x0, .ref x1, .ref x2])), (x0, .inr (2, [.ref y0])), (y0, .inl (cL, 8, .inr (.inl (fun j => lN (dg 1000000000 a (j)))))), (x1, .inr (2, [.ref y1])), (y1, .inl (cL, 8, .inr (.inl (fun j => lN (dg 1000000000 B (j))))))] sz) := by
  refine k_start (fun A => (va_Qi (fun r _ => r = nI (a / B)) (fun (_ : Unit) => PostB D (gT cI cL cM) A [(h0, .inr (1, [.ref x0, .ref x1, .ref x2])), (x0, .inr (2, [.ref y0])), (y0, .inl (cL, 8, .inr (.inl (fun j => lN (dg 1000000000 (a % B) (j)))))), (x1, .inr (2, [.ref y1])), (y1, .inl (cL, 8, .inr (.inl (fun j => lN (dg 1000000000 B (j))))))]) A)) (cc := cX1_takeAll) (maxL := 2) (ret := (some .int)) (by decide) rfl (Nat.le_of_ble_eq_true rfl) ?_
  intro p e s m below meth c A ls hx hb hr hts hown hlocks hin hml hP hK hD hA hS hl
  have hl : lv_has ls 2 [(0, .ref h0)] := hl
  have hown : s.vm.findClass RX1 = some m.cls := hown
  refine lv_iconst (v := nI (0)) hx hb dX1_takeAll_0 (by decide) ?_
  refine lv_istore_n (lv' := [(1, .int (nI (0))), (0, .ref h0)]) hx hb dX1_takeAll_1 rfl hl (by decide) rfl (fun ls hl => ?_)
  have hP : va_P D vwCl [(h0, .inr (1, [.ref x0, .ref x1, .ref x2])), (x0, .inr (2, [.ref y0])), (y0, .inl (cL, 8, .inr (.inl (fun j => lN (dg 1000000000 (a - 0 * B) (j)))))), (x1, .inr (2, [.ref y1])), (y1, .inl (cL, 8, .inr (.inl (fun j => lN (dg 1000000000 B (j))))))] s.heap := P_altL _ hP 2 rfl rfl (fun j _ => congrArg (fun z => lN (dg 1000000000 z j)) (by omega : a = a - 0 * B))
  have hD : va_D A [(h0, .inr (1, [.ref x0, .ref x1, .ref x2])), (x0, .inr (2, [.ref y0])), (y0, .inl (cL, 8, .inr (.inl (fun j => lN (dg 1000000000 (a - 0 * B) (j)))))), (x1, .inr (2, [.ref y1])), (y1, .inl (cL, 8, .inr (.inl (fun j => lN (dg 1000000000 B (j))))))] := D_alt hD (q0 := 2) rfl rfl
  have L_1 : ∀ (nn9 i : Nat), i + nn9 = 9 → i * B ≤ a → ∀ (H : Heap) (locs : List Loc) (ls : Array Slot), va_P D vwCl [(h0, .inr (1, [.ref x0, .ref x1, .ref x2])), (x0, .inr (2, [.ref y0])), (y0, .inl (cL, 8, .inr (.inl (fun j => lN (dg 1000000000 (a - i * B) (j)))))), (x1, .inr (2, [.ref y1])), (y1, .inl (cL, 8, .inr (.inl (fun j => lN (dg 1000000000 B (j))))))] H → va_D A [(h0, .inr (1, [.ref x0, .ref x1, .ref x2])), (x0, .inr (2, [.ref y0])), (y0, .inl (cL, 8, .inr (.inl (fun j => lN (dg 1000000000 (a - i * B) (j)))))), (x1, .inr (2, [.ref y1])), (y1, .inl (cL, 8, .inr (.inl (fun j => lN (dg 1000000000 B (j))))))] → va_S A s.heap H locs → lv_has ls 2 [(0, .ref h0), (1, .int (nI (i)))] → W p l e ({ frames := 1, cells := 0, slots := 0, locals := 26 } : Room) s m (List.toArray [.ref h0]) below meth c H locs 0 0 (MQ below (va_Qi (fun r _ => r = nI (a / B)) (fun (_ : Unit) => PostB D (gT cI cL cM) A [(h0, .inr (1, [.ref x0, .ref x1, .ref x2])), (x0, .inr (2, [.ref y0])), (y0, .inl (cL, 8, .inr (.inl (fun j => lN (dg 1000000000 (a % B) (j)))))), (x1, .inr (2, [.ref y1])), (y1, .inl (cL, 8, .inr (.inl (fun j => lN (dg 1000000000 B (j))))))]) A) (List.toArray [.ref h0]) s 0 0 A) (F0 m 2 ls []) := by
    intro nn9
    induction nn9 with
    | zero =>
      intro i hii hf H locs ls hP hD hS hl
      obtain rfl : 9 = i := by omega
      refine lv_iload_n hx hb dX1_takeAll_2 rfl (lv_at hl 1 rfl) ?_
      refine lv_bipush (v := nI (9)) hx hb dX1_takeAll_3 (by decide) ?_
      refine n_icmp_ge (tgt := 39) hx hb (by omega) (by omega) dX1_takeAll_5 (by decide) (fun c_2 => ?_) (fun c_2 => False.elim (by omega))
      refine lv_iload_n hx hb dX1_takeAll_39 rfl (lv_at hl 1 rfl) ?_
      have hd := dm_uniq (n := a) (B := B) (q := 9) (r := a - 9 * B) (by rw [Nat.mul_comm]; omega) (by omega)
      have hP : va_P D vwCl [(h0, .inr (1, [.ref x0, .ref x1, .ref x2])), (x0, .inr (2, [.ref y0])), (y0, .inl (cL, 8, .inr (.inl (fun j => lN (dg 1000000000 (a % B) (j)))))), (x1, .inr (2, [.ref y1])), (y1, .inl (cL, 8, .inr (.inl (fun j => lN (dg 1000000000 B (j))))))] H := P_altL _ hP 2 rfl rfl (fun j _ => congrArg (fun z => lN (dg 1000000000 z j)) hd.2.symm)
      have hD : va_D A [(h0, .inr (1, [.ref x0, .ref x1, .ref x2])), (x0, .inr (2, [.ref y0])), (y0, .inl (cL, 8, .inr (.inl (fun j => lN (dg 1000000000 (a % B) (j)))))), (x1, .inr (2, [.ref y1])), (y1, .inl (cL, 8, .inr (.inl (fun j => lN (dg 1000000000 B (j))))))] := D_alt hD (q0 := 2) rfl rfl
      exact k_iret (v := nI (9)) hx hb hr hlocks hP hD hK hS [0, 1, 2, 3, 4] () rfl (by decide) (by rw [hd.1]) dX1_takeAll_40
    | succ nn9 ih =>
      intro i hii hf H locs ls hP hD hS hl
      refine lv_iload_n hx hb dX1_takeAll_2 rfl (lv_at hl 1 rfl) ?_
      refine lv_bipush (v := nI (9)) hx hb dX1_takeAll_3 (by decide) ?_
      refine n_icmp_ge (tgt := 39) hx hb (by omega) (by omega) dX1_takeAll_5 (by decide) (fun c_3 => False.elim (by omega)) (fun c_3 => ?_)
      refine lv_aload_n hx hb dX1_takeAll_8 rfl (lv_at hl 0 rfl) ?_
      refine va_get (D := D) (cl := vwCl) (ci := 1) (v := .ref x0) (C := RX1) (T := TX1) (N := 3) hx hb hts in_X1_takeAll_X1 hown hK hP 0 rfl rfl 0 (by decide) (hts (.fieldLink RX1 12 "BulkSamples$Odds" "asked" "LBulkSamples$Whole;") fl_X1_takeAll_12) (fun _ h9 => h9) rfl dX1_takeAll_9 ?_
      refine lv_aload_n hx hb dX1_takeAll_12 rfl (lv_at hl 0 rfl) ?_
      refine va_get (D := D) (cl := vwCl) (ci := 1) (v := .ref x1) (C := RX1) (T := TX1) (N := 3) hx hb hts in_X1_takeAll_X1 hown hK hP 0 rfl rfl 1 (by decide) (hts (.fieldLink RX1 18 "BulkSamples$Odds" "all" "LBulkSamples$Whole;") fl_X1_takeAll_18) (fun _ h9 => h9) rfl dX1_takeAll_13 ?_
      refine k_calli (wc := [(x0, .inr (2, [.ref y0])), (y0, .inl (cL, 8, .inr (.inl (fun j => lN (dg 1000000000 (a - i * B) (j)))))), (x1, .inr (2, [.ref y1])), (y1, .inl (cL, 8, .inr (.inl (fun j => lN (dg 1000000000 B (j))))))]) (wr := [(h0, .inr (1, [.ref x0, .ref x1, .ref x2]))]) (W1 := fun _ => [(h0, .inr (1, [.ref x0, .ref x1, .ref x2])), (x0, .inr (2, [.ref y0])), (y0, .inl (cL, 8, .inr (.inl (fun j => lN (dg 1000000000 (a - i * B) (j)))))), (x1, .inr (2, [.ref y1])), (y1, .inl (cL, 8, .inr (.inl (fun j => lN (dg 1000000000 B (j))))))]) hP hD hS hA [1, 2, 3, 4] [0] [0, 1, 2, 3, 4] rfl rfl (by decide) (by decide) (fun _ => rfl) (by decide) (va_runV (As := [.ref x1]) (rest := []) ⟨hx, hb, hml, hown, hts⟩ (c_ge l D cI cL cM H.size x0 y0 (a - i * B) x1 y1 B (by omega) (by omega)) (cwV 1 hts gX1_takeAll_X2_isAtLeast rfl rfl rfl (by decide +kernel) ⟨Nat.le_of_ble_eq_true rfl, Nat.le_of_ble_eq_true rfl⟩) (k_preV hP hD hK [1, 2, 3, 4] rfl (by decide) 0 rfl rfl rfl) rfl rfl hl.1 rfl (lv_room (Nat.le_of_ble_eq_true rfl)) dX1_takeAll_16 ⟨Nat.le_of_ble_eq_true rfl, Nat.le_of_ble_eq_true rfl⟩) (fun r_4 _ H locs hw hP hD hS => ?_)
      obtain rfl : r_4 = nI (b2 (B ≤ a - i * B)) := hw
      refine n_if_eq (tgt := 39) hx hb (Nat.lt_of_le_of_lt (b2_le _) (by omega)) dX1_takeAll_19 (by decide) (fun c_5 => ?_) (fun c_5 => ?_)
      · have hge := b2_0 c_5
        refine lv_iload_n hx hb dX1_takeAll_39 rfl (lv_at hl 1 rfl) ?_
        have hd := dm_uniq (n := a) (B := B) (q := i) (r := a - i * B) (by rw [Nat.mul_comm]; omega) (by omega)
        have hP : va_P D vwCl [(h0, .inr (1, [.ref x0, .ref x1, .ref x2])), (x0, .inr (2, [.ref y0])), (y0, .inl (cL, 8, .inr (.inl (fun j => lN (dg 1000000000 (a % B) (j)))))), (x1, .inr (2, [.ref y1])), (y1, .inl (cL, 8, .inr (.inl (fun j => lN (dg 1000000000 B (j))))))] H := P_altL _ hP 2 rfl rfl (fun j _ => congrArg (fun z => lN (dg 1000000000 z j)) hd.2.symm)
        have hD : va_D A [(h0, .inr (1, [.ref x0, .ref x1, .ref x2])), (x0, .inr (2, [.ref y0])), (y0, .inl (cL, 8, .inr (.inl (fun j => lN (dg 1000000000 (a % B) (j)))))), (x1, .inr (2, [.ref y1])), (y1, .inl (cL, 8, .inr (.inl (fun j => lN (dg 1000000000 B (j))))))] := D_alt hD (q0 := 2) rfl rfl
        refine W.widen (k := 0) (n := 0) (Nat.le_of_ble_eq_true rfl) (Nat.le_of_ble_eq_true rfl) ?_
        exact k_iret (v := nI (i)) hx hb hr hlocks hP hD hK hS [0, 1, 2, 3, 4] () rfl (by decide) (by rw [hd.1]) dX1_takeAll_40
      · have hge := b2_pos c_5
        refine lv_aload_n hx hb dX1_takeAll_22 rfl (lv_at hl 0 rfl) ?_
        refine va_get (D := D) (cl := vwCl) (ci := 1) (v := .ref x0) (C := RX1) (T := TX1) (N := 3) hx hb hts in_X1_takeAll_X1 hown hK hP 0 rfl rfl 0 (by decide) (hts (.fieldLink RX1 12 "BulkSamples$Odds" "asked" "LBulkSamples$Whole;") fl_X1_takeAll_12) (fun _ h9 => h9) rfl dX1_takeAll_23 ?_
        refine lv_aload_n hx hb dX1_takeAll_26 rfl (lv_at hl 0 rfl) ?_
        refine va_get (D := D) (cl := vwCl) (ci := 1) (v := .ref x1) (C := RX1) (T := TX1) (N := 3) hx hb hts in_X1_takeAll_X1 hown hK hP 0 rfl rfl 1 (by decide) (hts (.fieldLink RX1 18 "BulkSamples$Odds" "all" "LBulkSamples$Whole;") fl_X1_takeAll_18) (fun _ h9 => h9) rfl dX1_takeAll_27 ?_
        refine k_callv (wc := [(x0, .inr (2, [.ref y0])), (y0, .inl (cL, 8, .inr (.inl (fun j => lN (dg 1000000000 (a - i * B) (j)))))), (x1, .inr (2, [.ref y1])), (y1, .inl (cL, 8, .inr (.inl (fun j => lN (dg 1000000000 B (j))))))]) (wr := [(h0, .inr (1, [.ref x0, .ref x1, .ref x2]))]) (W1 := fun _ => [(h0, .inr (1, [.ref x0, .ref x1, .ref x2])), (x0, .inr (2, [.ref y0])), (y0, .inl (cL, 8, .inr (.inl (fun j => lN (dg 1000000000 ((a - i * B) - B) (j)))))), (x1, .inr (2, [.ref y1])), (y1, .inl (cL, 8, .inr (.inl (fun j => lN (dg 1000000000 B (j))))))]) hP hD hS hA [1, 2, 3, 4] [0] [0, 1, 2, 3, 4] rfl rfl (by decide) (by decide) (fun _ => rfl) (by decide) (va_runV (As := [.ref x1]) (rest := []) ⟨hx, hb, hml, hown, hts⟩ (c_sub l D cI cL cM H.size x0 y0 (a - i * B) x1 y1 B hge) (cwV 1 hts gX1_takeAll_X2_subtract rfl rfl rfl (by decide +kernel) ⟨Nat.le_of_ble_eq_true rfl, Nat.le_of_ble_eq_true rfl⟩) (k_preV hP hD hK [1, 2, 3, 4] rfl (by decide) 0 rfl rfl rfl) rfl rfl hl.1 rfl (lv_room (Nat.le_of_ble_eq_true rfl)) dX1_takeAll_30 ⟨Nat.le_of_ble_eq_true rfl, Nat.le_of_ble_eq_true rfl⟩) (fun _ H locs hw hP hD hS => ?_)
        have hs1 : (i + 1) * B = i * B + B := by rw [Nat.add_mul, Nat.one_mul]
        have hP : va_P D vwCl [(h0, .inr (1, [.ref x0, .ref x1, .ref x2])), (x0, .inr (2, [.ref y0])), (y0, .inl (cL, 8, .inr (.inl (fun j => lN (dg 1000000000 (a - (i + 1) * B) (j)))))), (x1, .inr (2, [.ref y1])), (y1, .inl (cL, 8, .inr (.inl (fun j => lN (dg 1000000000 B (j))))))] H := P_altL _ hP 2 rfl rfl (fun j _ => congrArg (fun z => lN (dg 1000000000 z j)) (by omega : a - i * B - B = a - (i + 1) * B))
        have hD : va_D A [(h0, .inr (1, [.ref x0, .ref x1, .ref x2])), (x0, .inr (2, [.ref y0])), (y0, .inl (cL, 8, .inr (.inl (fun j => lN (dg 1000000000 (a - (i + 1) * B) (j)))))), (x1, .inr (2, [.ref y1])), (y1, .inl (cL, 8, .inr (.inl (fun j => lN (dg 1000000000 B (j))))))] := D_alt hD (q0 := 2) rfl rfl
        refine lv_iinc (v := nI (i + 1)) (lv' := [(1, .int (nI (i + 1))), (0, .ref h0)]) hx hb dX1_takeAll_33 hl (k := 1) rfl (nI_add i 1) (by decide) rfl (fun ls hl => ?_)
        refine lv_goto (tgt := 2) hx hb dX1_takeAll_36 (by decide) ?_
        exact ih (i + 1) (by omega) (by omega) _ _ _ (P_pick hP [0, 1, 2, 3, 4] rfl) (D_pick hD [0, 1, 2, 3, 4] (by decide) rfl) hS (lv_sub hl [1, 0] rfl)
  exact L_1 9 0 (by omega) (by omega) _ _ _ (P_pick hP [0, 1, 2, 3, 4] rfl) (D_pick hD [0, 1, 2, 3, 4] (by decide) rfl) hS (lv_sub hl [1, 0] rfl)
theorem in_X1_inThousandMillionths_X1 : ∀ w ∈ wsX10, w ∈ wsX1_inThousandMillionths := by decide +kernel
theorem in_X1_inThousandMillionths_X2 : ∀ w ∈ wsX20, w ∈ wsX1_inThousandMillionths := by decide +kernel
theorem fl_X1_inThousandMillionths_12 : Cond.fieldLink RX1 12 "BulkSamples$Odds" "asked" "LBulkSamples$Whole;" ∈ wsX1_inThousandMillionths := by decide +kernel
theorem fl_X1_inThousandMillionths_18 : Cond.fieldLink RX1 18 "BulkSamples$Odds" "all" "LBulkSamples$Whole;" ∈ wsX1_inThousandMillionths := by decide +kernel
set_option maxHeartbeats 4000000 in
set_option maxRecDepth 100000 in
/-- inThousandMillionths -/
theorem c_in (l : Launch) (D : va_G) (cI cL cM : ClassId) (sz : Nat) (h0 x0 x1 x2 y0 y1 : Nat) (a B : Nat) (hB : 0 < B) (hle : a ≤ B) (hb8 : 10 * B < 1000000000 ^ 8) : Met l yX1_inThousandMillionths wsX1_inThousandMillionths ({ frames := 2, cells := 0, slots := 0, locals := 47 } : Room) (va_Pc [.ref h0] (PreB D (gT cI cL cM) sz [(h0, .inr (1, [.ref x0, .ref x1, .ref x2])), (x0, .inr (2, [.ref y0])), (y0, .inl (cL, 8, .inr (.inl (fun j => lN (dg 1000000000 a (j)))))), (x1, .inr (2, [.ref y1])), (y1, .inl (cL, 8, .inr (.inl (fun j => lN (dg 1000000000 B (j))))))])) (va_Ql (fun r _ => r = lN (tl a B 10)) (fun (_ : Unit) => PostB D (gT cI cL cM) (va_A [(h0, .inr (1, [.ref x0, .ref x1, .ref x2])), (x0, .inr (2, [.ref y0])), (y0, .inl (cL, 8, .inr (.inl (fun j => lN (dg 1000000000 a (j)))))), (x1, .inr (2, [.ref y1])), (y1, .inl (cL, 8, .inr (.inl (fun j => lN (dg 1000000000 B (j))))))] sz) [(h0, .inr (1, [.ref x0, .ref x1, .ref x2])), (x0, .inr (2, [.ref y0])), (y0, .inl (cL, 8, .inr (.inl (fun j => lN (dg 1000000000 (lf a B 10) (j)))))), (x1, .inr (2, [.ref y1])), (y1, .inl (cL, 8, .inr (.inl (fun j => lN (dg 1000000000 B (j))))))]) (va_A [(h0, .inr (1, [.ref x0, .ref x1, .ref x2])), (x0, .inr (2, [.ref y0])), (y0, .inl (cL, 8, .inr (.inl (fun j => lN (dg 1000000000 a (j)))))), (x1, .inr (2, [.ref y1])), (y1, .inl (cL, 8, .inr (.inl (fun j => lN (dg 1000000000 B (j))))))] sz)) 0 0 (va_A [(h0, .inr (1, [.ref x0, .ref x1, .ref x2])), (x0, .inr (2, [.ref y0])), (y0, .inl (cL, 8, .inr (.inl (fun j => lN (dg 1000000000 a (j)))))), (x1, .inr (2, [.ref y1])), (y1, .inl (cL, 8, .inr (.inl (fun j => lN (dg 1000000000 B (j))))))] sz) := by
  refine k_start (fun A => (va_Ql (fun r _ => r = lN (tl a B 10)) (fun (_ : Unit) => PostB D (gT cI cL cM) A [(h0, .inr (1, [.ref x0, .ref x1, .ref x2])), (x0, .inr (2, [.ref y0])), (y0, .inl (cL, 8, .inr (.inl (fun j => lN (dg 1000000000 (lf a B 10) (j)))))), (x1, .inr (2, [.ref y1])), (y1, .inl (cL, 8, .inr (.inl (fun j => lN (dg 1000000000 B (j))))))]) A)) (cc := cX1_inThousandMillionths) (maxL := 4) (ret := (some .long)) (by decide) rfl (Nat.le_of_ble_eq_true rfl) ?_
  intro p e s m below meth c A ls hx hb hr hts hown hlocks hin hml hP hK hD hA hS hl
  have hl : lv_has ls 4 [(0, .ref h0)] := hl
  have hown : s.vm.findClass RX1 = some m.cls := hown
  refine lv_lconst (v := lN (tl a B 0)) hx hb dX1_inThousandMillionths_0 rfl ?_
  refine lv_lstore_n (lv' := [(1, .long (lN (tl a B 0))), (0, .ref h0)]) hx hb dX1_inThousandMillionths_1 rfl hl (by decide) rfl (fun ls hl => ?_)
  refine lv_iconst (v := nI (0)) hx hb dX1_inThousandMillionths_2 (by decide) ?_
  refine lv_istore_n (lv' := [(3, .int (nI (0))), (1, .long (lN (tl a B 0))), (0, .ref h0)]) hx hb dX1_inThousandMillionths_3 rfl hl (by decide) rfl (fun ls hl => ?_)
  have L_1 : ∀ (nn9 i : Nat), i + nn9 = 10 → ∀ (H : Heap) (locs : List Loc) (ls : Array Slot), va_P D vwCl [(h0, .inr (1, [.ref x0, .ref x1, .ref x2])), (x0, .inr (2, [.ref y0])), (y0, .inl (cL, 8, .inr (.inl (fun j => lN (dg 1000000000 (lf a B i) (j)))))), (x1, .inr (2, [.ref y1])), (y1, .inl (cL, 8, .inr (.inl (fun j => lN (dg 1000000000 B (j))))))] H → va_D A [(h0, .inr (1, [.ref x0, .ref x1, .ref x2])), (x0, .inr (2, [.ref y0])), (y0, .inl (cL, 8, .inr (.inl (fun j => lN (dg 1000000000 (lf a B i) (j)))))), (x1, .inr (2, [.ref y1])), (y1, .inl (cL, 8, .inr (.inl (fun j => lN (dg 1000000000 B (j))))))] → va_S A s.heap H locs → lv_has ls 4 [(0, .ref h0), (1, .long (lN (tl a B i))), (3, .int (nI (i)))] → W p l e ({ frames := 2, cells := 0, slots := 0, locals := 47 } : Room) s m (List.toArray [.ref h0]) below meth c H locs 0 0 (MQ below (va_Ql (fun r _ => r = lN (tl a B 10)) (fun (_ : Unit) => PostB D (gT cI cL cM) A [(h0, .inr (1, [.ref x0, .ref x1, .ref x2])), (x0, .inr (2, [.ref y0])), (y0, .inl (cL, 8, .inr (.inl (fun j => lN (dg 1000000000 (lf a B 10) (j)))))), (x1, .inr (2, [.ref y1])), (y1, .inl (cL, 8, .inr (.inl (fun j => lN (dg 1000000000 B (j))))))]) A) (List.toArray [.ref h0]) s 0 0 A) (F0 m 4 ls []) := by
    intro nn9
    induction nn9 with
    | zero =>
      intro i hii H locs ls hP hD hS hl
      obtain rfl : 10 = i := by omega
      refine lv_iload_n hx hb dX1_inThousandMillionths_4 rfl (lv_at hl 2 rfl) ?_
      refine lv_bipush (v := nI (10)) hx hb dX1_inThousandMillionths_5 (by decide) ?_
      refine n_icmp_ge (tgt := 37) hx hb (by omega) (by omega) dX1_inThousandMillionths_7 (by decide) (fun c_2 => ?_) (fun c_2 => False.elim (by omega))
      refine lv_lload_n hx hb dX1_inThousandMillionths_37 rfl (lv_at hl 1 rfl) ?_
      exact k_lret (v := lN (tl a B 10)) hx hb hr hlocks hP hD hK hS [0, 1, 2, 3, 4] () rfl (by decide) rfl dX1_inThousandMillionths_38
    | succ nn9 ih =>
      intro i hii H locs ls hP hD hS hl
      have hl10 := lf_lt hB hle i
      have hd10 : lf a B i / B < 10 := Nat.div_lt_of_lt_mul (by omega)
      refine lv_iload_n hx hb dX1_inThousandMillionths_4 rfl (lv_at hl 2 rfl) ?_
      refine lv_bipush (v := nI (10)) hx hb dX1_inThousandMillionths_5 (by decide) ?_
      refine n_icmp_ge (tgt := 37) hx hb (by omega) (by omega) dX1_inThousandMillionths_7 (by decide) (fun c_3 => False.elim (by omega)) (fun c_3 => ?_)
      refine lv_lload_n hx hb dX1_inThousandMillionths_10 rfl (lv_at hl 1 rfl) ?_
      refine lv_ldc2 hx hb hown (hts (.constantLong RX1 51 (10)) (by decide +kernel)) dX1_inThousandMillionths_11 ?_
      rw [show (10 : Int64) = lN 10 from rfl]
      refine n_lmul (r := (tl a B i) * 10) hx hb dX1_inThousandMillionths_14 rfl ?_
      refine lv_aload_n hx hb dX1_inThousandMillionths_15 rfl (lv_at hl 0 rfl) ?_
      refine k_calli (wc := [(h0, .inr (1, [.ref x0, .ref x1, .ref x2])), (x0, .inr (2, [.ref y0])), (y0, .inl (cL, 8, .inr (.inl (fun j => lN (dg 1000000000 (lf a B i) (j)))))), (x1, .inr (2, [.ref y1])), (y1, .inl (cL, 8, .inr (.inl (fun j => lN (dg 1000000000 B (j))))))]) (wr := []) (W1 := fun _ => [(h0, .inr (1, [.ref x0, .ref x1, .ref x2])), (x0, .inr (2, [.ref y0])), (y0, .inl (cL, 8, .inr (.inl (fun j => lN (dg 1000000000 ((lf a B i) % B) (j)))))), (x1, .inr (2, [.ref y1])), (y1, .inl (cL, 8, .inr (.inl (fun j => lN (dg 1000000000 B (j))))))]) hP hD hS hA [0, 1, 2, 3, 4] [] [0, 1, 2, 3, 4] rfl rfl (by decide) (by decide) (fun _ => rfl) (by decide) (va_runV (As := []) (rest := [.long (lN ((tl a B i) * 10))]) ⟨hx, hb, hml, hown, hts⟩ (c_take l D cI cL cM H.size h0 x0 x1 x2 y0 y1 (lf a B i) B hB hl10 hb8) (cwV 0 hts gX1_inThousandMillionths_X1_takeAll rfl rfl rfl (by decide +kernel) ⟨Nat.le_of_ble_eq_true rfl, Nat.le_of_ble_eq_true rfl⟩) (k_preV hP hD hK [0, 1, 2, 3, 4] rfl (by decide) 0 rfl rfl rfl) rfl rfl hl.1 rfl (lv_room (Nat.le_of_ble_eq_true rfl)) dX1_inThousandMillionths_16 ⟨Nat.le_of_ble_eq_true rfl, Nat.le_of_ble_eq_true rfl⟩) (fun r_4 _ H locs hw hP hD hS => ?_)
      obtain rfl : r_4 = nI ((lf a B i) / B) := hw
      refine n_i2l hx hb (by omega) dX1_inThousandMillionths_19 ?_
      refine n_ladd (r := ((tl a B i) * 10) + ((lf a B i) / B)) hx hb dX1_inThousandMillionths_20 rfl ?_
      refine lv_lstore_n (lv' := [(1, .long (lN (((tl a B i) * 10) + ((lf a B i) / B)))), (0, .ref h0), (3, .int (nI (i)))]) hx hb dX1_inThousandMillionths_21 rfl hl (by decide) rfl (fun ls hl => ?_)
      refine lv_aload_n hx hb dX1_inThousandMillionths_22 rfl (lv_at hl 1 rfl) ?_
      refine va_get (D := D) (cl := vwCl) (ci := 1) (v := .ref x0) (C := RX1) (T := TX1) (N := 3) hx hb hts in_X1_inThousandMillionths_X1 hown hK hP 0 rfl rfl 0 (by decide) (hts (.fieldLink RX1 12 "BulkSamples$Odds" "asked" "LBulkSamples$Whole;") fl_X1_inThousandMillionths_12) (fun _ h9 => h9) rfl dX1_inThousandMillionths_23 ?_
      refine lv_bipush (v := nI (10)) hx hb dX1_inThousandMillionths_26 (by decide) ?_
      refine k_callv (wc := [(x0, .inr (2, [.ref y0])), (y0, .inl (cL, 8, .inr (.inl (fun j => lN (dg 1000000000 (lf a B i % B) (j))))))]) (wr := [(h0, .inr (1, [.ref x0, .ref x1, .ref x2])), (x1, .inr (2, [.ref y1])), (y1, .inl (cL, 8, .inr (.inl (fun j => lN (dg 1000000000 B (j))))))]) (W1 := fun _ => [(h0, .inr (1, [.ref x0, .ref x1, .ref x2])), (x0, .inr (2, [.ref y0])), (y0, .inl (cL, 8, .inr (.inl (fun j => lN (dg 1000000000 ((lf a B i % B) * 10) (j)))))), (x1, .inr (2, [.ref y1])), (y1, .inl (cL, 8, .inr (.inl (fun j => lN (dg 1000000000 B (j))))))]) hP hD hS hA [1, 2] [0, 3, 4] [0, 3, 4, 1, 2] rfl rfl (by decide) (by decide) (fun _ => rfl) (by decide) (va_runV (As := [.int (nI (10))]) (rest := []) ⟨hx, hb, hml, hown, hts⟩ (c_mul l D cI cL cM H.size x0 y0 (lf a B i % B) 10 (by omega)) (cwV 1 hts gX1_inThousandMillionths_X2_multiply rfl rfl rfl (by decide +kernel) ⟨Nat.le_of_ble_eq_true rfl, Nat.le_of_ble_eq_true rfl⟩) (k_preV hP hD hK [1, 2] rfl (by decide) 0 rfl rfl rfl) rfl rfl hl.1 rfl (lv_room (Nat.le_of_ble_eq_true rfl)) dX1_inThousandMillionths_28 ⟨Nat.le_of_ble_eq_true rfl, Nat.le_of_ble_eq_true rfl⟩) (fun _ H locs hw hP hD hS => ?_)
      refine lv_iinc (v := nI (i + 1)) (lv' := [(3, .int (nI (i + 1))), (1, .long (lN (((tl a B i) * 10) + ((lf a B i) / B)))), (0, .ref h0)]) hx hb dX1_inThousandMillionths_31 hl (k := 2) rfl (nI_add i 1) (by decide) rfl (fun ls hl => ?_)
      refine lv_goto (tgt := 4) hx hb dX1_inThousandMillionths_34 (by decide) ?_
      exact ih (i + 1) (by omega) _ _ _ (P_pick hP [0, 1, 2, 3, 4] rfl) (D_pick hD [0, 1, 2, 3, 4] (by decide) rfl) hS (lv_sub hl [2, 1, 0] rfl)
  exact L_1 10 0 (by omega) _ _ _ (P_pick hP [0, 1, 2, 3, 4] rfl) (D_pick hD [0, 1, 2, 3, 4] (by decide) rfl) hS (lv_sub hl [2, 1, 0] rfl)
theorem in_X1_isAtMost_X1 : ∀ w ∈ wsX10, w ∈ wsX1_isAtMost := by decide +kernel
theorem in_X1_isAtMost_X2 : ∀ w ∈ wsX20, w ∈ wsX1_isAtMost := by decide +kernel
theorem fl_X1_isAtMost_12 : Cond.fieldLink RX1 12 "BulkSamples$Odds" "asked" "LBulkSamples$Whole;" ∈ wsX1_isAtMost := by decide +kernel
theorem fl_X1_isAtMost_18 : Cond.fieldLink RX1 18 "BulkSamples$Odds" "all" "LBulkSamples$Whole;" ∈ wsX1_isAtMost := by decide +kernel
set_option maxHeartbeats 4000000 in
set_option maxRecDepth 100000 in
/-- isAtMost -/
theorem c_most (l : Launch) (D : va_G) (cI cL cM : ClassId) (sz : Nat) (h0 x0 x1 x2 y0 y1 : Nat) (a B t : Nat) (ht : t ≤ 1000) (ha8 : a * 1000 < 1000000000 ^ 8) (hb8 : B * t < 1000000000 ^ 8) : Met l yX1_isAtMost wsX1_isAtMost ({ frames := 1, cells := 0, slots := 0, locals := 26 } : Room) (va_Pc [.ref h0, .int (nI (t))] (PreB D (gT cI cL cM) sz [(h0, .inr (1, [.ref x0, .ref x1, .ref x2])), (x0, .inr (2, [.ref y0])), (y0, .inl (cL, 8, .inr (.inl (fun j => lN (dg 1000000000 a (j)))))), (x1, .inr (2, [.ref y1])), (y1, .inl (cL, 8, .inr (.inl (fun j => lN (dg 1000000000 B (j))))))])) (va_Qi (fun r _ => r = nI (b2 (a * 1000 ≤ B * t))) (fun (_ : Unit) => PostB D (gT cI cL cM) (va_A [(h0, .inr (1, [.ref x0, .ref x1, .ref x2])), (x0, .inr (2, [.ref y0])), (y0, .inl (cL, 8, .inr (.inl (fun j => lN (dg 1000000000 a (j)))))), (x1, .inr (2, [.ref y1])), (y1, .inl (cL, 8, .inr (.inl (fun j => lN (dg 1000000000 B (j))))))] sz) [(h0, .inr (1, [.ref x0, .ref x1, .ref x2])), (x0, .inr (2, [.ref y0])), (y0, .inl (cL, 8, .inr (.inl (fun j => lN (dg 1000000000 (a * 1000) (j)))))), (x1, .inr (2, [.ref y1])), (y1, .inl (cL, 8, .inr (.inl (fun j => lN (dg 1000000000 (B * t) (j))))))]) (va_A [(h0, .inr (1, [.ref x0, .ref x1, .ref x2])), (x0, .inr (2, [.ref y0])), (y0, .inl (cL, 8, .inr (.inl (fun j => lN (dg 1000000000 a (j)))))), (x1, .inr (2, [.ref y1])), (y1, .inl (cL, 8, .inr (.inl (fun j => lN (dg 1000000000 B (j))))))] sz)) 0 0 (va_A [(h0, .inr (1, [.ref x0, .ref x1, .ref x2])), (x0, .inr (2, [.ref y0])), (y0, .inl (cL, 8, .inr (.inl (fun j => lN (dg 1000000000 a (j)))))), (x1, .inr (2, [.ref y1])), (y1, .inl (cL, 8, .inr (.inl (fun j => lN (dg 1000000000 B (j))))))] sz) := by
  refine k_start (fun A => (va_Qi (fun r _ => r = nI (b2 (a * 1000 ≤ B * t))) (fun (_ : Unit) => PostB D (gT cI cL cM) A [(h0, .inr (1, [.ref x0, .ref x1, .ref x2])), (x0, .inr (2, [.ref y0])), (y0, .inl (cL, 8, .inr (.inl (fun j => lN (dg 1000000000 (a * 1000) (j)))))), (x1, .inr (2, [.ref y1])), (y1, .inl (cL, 8, .inr (.inl (fun j => lN (dg 1000000000 (B * t) (j))))))]) A)) (cc := cX1_isAtMost) (maxL := 2) (ret := (some .boolean)) (by decide) rfl (Nat.le_of_ble_eq_true rfl) ?_
  intro p e s m below meth c A ls hx hb hr hts hown hlocks hin hml hP hK hD hA hS hl
  have hl : lv_has ls 2 [(0, .ref h0), (1, .int (nI (t)))] := hl
  have hown : s.vm.findClass RX1 = some m.cls := hown
  refine lv_aload_n hx hb dX1_isAtMost_0 rfl (lv_at hl 0 rfl) ?_
  refine va_get (D := D) (cl := vwCl) (ci := 1) (v := .ref x0) (C := RX1) (T := TX1) (N := 3) hx hb hts in_X1_isAtMost_X1 hown hK hP 0 rfl rfl 0 (by decide) (hts (.fieldLink RX1 12 "BulkSamples$Odds" "asked" "LBulkSamples$Whole;") fl_X1_isAtMost_12) (fun _ h9 => h9) rfl dX1_isAtMost_1 ?_
  refine lv_sipush (v := nI (1000)) hx hb dX1_isAtMost_4 (by decide) ?_
  refine k_callv (wc := [(x0, .inr (2, [.ref y0])), (y0, .inl (cL, 8, .inr (.inl (fun j => lN (dg 1000000000 a (j))))))]) (wr := [(h0, .inr (1, [.ref x0, .ref x1, .ref x2])), (x1, .inr (2, [.ref y1])), (y1, .inl (cL, 8, .inr (.inl (fun j => lN (dg 1000000000 B (j))))))]) (W1 := fun _ => [(h0, .inr (1, [.ref x0, .ref x1, .ref x2])), (x0, .inr (2, [.ref y0])), (y0, .inl (cL, 8, .inr (.inl (fun j => lN (dg 1000000000 (a * 1000) (j)))))), (x1, .inr (2, [.ref y1])), (y1, .inl (cL, 8, .inr (.inl (fun j => lN (dg 1000000000 B (j))))))]) hP hD hS hA [1, 2] [0, 3, 4] [0, 3, 4, 1, 2] rfl rfl (by decide) (by decide) (fun _ => rfl) (by decide) (va_runV (As := [.int (nI (1000))]) (rest := []) ⟨hx, hb, hml, hown, hts⟩ (c_mul l D cI cL cM s.heap.size x0 y0 a 1000 (by omega)) (cwV 1 hts gX1_isAtMost_X2_multiply rfl rfl rfl (by decide +kernel) ⟨Nat.le_of_ble_eq_true rfl, Nat.le_of_ble_eq_true rfl⟩) (k_preV hP hD hK [1, 2] rfl (by decide) 0 rfl rfl rfl) rfl rfl hl.1 rfl (lv_room (Nat.le_of_ble_eq_true rfl)) dX1_isAtMost_7 ⟨Nat.le_of_ble_eq_true rfl, Nat.le_of_ble_eq_true rfl⟩) (fun _ H locs hw hP hD hS => ?_)
  refine lv_aload_n hx hb dX1_isAtMost_10 rfl (lv_at hl 0 rfl) ?_
  refine va_get (D := D) (cl := vwCl) (ci := 1) (v := .ref x1) (C := RX1) (T := TX1) (N := 3) hx hb hts in_X1_isAtMost_X1 hown hK hP 0 rfl rfl 1 (by decide) (hts (.fieldLink RX1 18 "BulkSamples$Odds" "all" "LBulkSamples$Whole;") fl_X1_isAtMost_18) (fun _ h9 => h9) rfl dX1_isAtMost_11 ?_
  refine lv_iload_n hx hb dX1_isAtMost_14 rfl (lv_at hl 1 rfl) ?_
  refine k_callv (wc := [(x1, .inr (2, [.ref y1])), (y1, .inl (cL, 8, .inr (.inl (fun j => lN (dg 1000000000 B (j))))))]) (wr := [(h0, .inr (1, [.ref x0, .ref x1, .ref x2])), (x0, .inr (2, [.ref y0])), (y0, .inl (cL, 8, .inr (.inl (fun j => lN (dg 1000000000 (a * 1000) (j))))))]) (W1 := fun _ => [(h0, .inr (1, [.ref x0, .ref x1, .ref x2])), (x0, .inr (2, [.ref y0])), (y0, .inl (cL, 8, .inr (.inl (fun j => lN (dg 1000000000 (a * 1000) (j)))))), (x1, .inr (2, [.ref y1])), (y1, .inl (cL, 8, .inr (.inl (fun j => lN (dg 1000000000 (B * t) (j))))))]) hP hD hS hA [3, 4] [0, 1, 2] [0, 1, 2, 3, 4] rfl rfl (by decide) (by decide) (fun _ => rfl) (by decide) (va_runV (As := [.int (nI (t))]) (rest := []) ⟨hx, hb, hml, hown, hts⟩ (c_mul l D cI cL cM H.size x1 y1 B t (by omega)) (cwV 1 hts gX1_isAtMost_X2_multiply rfl rfl rfl (by decide +kernel) ⟨Nat.le_of_ble_eq_true rfl, Nat.le_of_ble_eq_true rfl⟩) (k_preV hP hD hK [3, 4] rfl (by decide) 0 rfl rfl rfl) rfl rfl hl.1 rfl (lv_room (Nat.le_of_ble_eq_true rfl)) dX1_isAtMost_15 ⟨Nat.le_of_ble_eq_true rfl, Nat.le_of_ble_eq_true rfl⟩) (fun _ H locs hw hP hD hS => ?_)
  refine lv_aload_n hx hb dX1_isAtMost_18 rfl (lv_at hl 0 rfl) ?_
  refine va_get (D := D) (cl := vwCl) (ci := 1) (v := .ref x1) (C := RX1) (T := TX1) (N := 3) hx hb hts in_X1_isAtMost_X1 hown hK hP 0 rfl rfl 1 (by decide) (hts (.fieldLink RX1 18 "BulkSamples$Odds" "all" "LBulkSamples$Whole;") fl_X1_isAtMost_18) (fun _ h9 => h9) rfl dX1_isAtMost_19 ?_
  refine lv_aload_n hx hb dX1_isAtMost_22 rfl (lv_at hl 0 rfl) ?_
  refine va_get (D := D) (cl := vwCl) (ci := 1) (v := .ref x0) (C := RX1) (T := TX1) (N := 3) hx hb hts in_X1_isAtMost_X1 hown hK hP 0 rfl rfl 0 (by decide) (hts (.fieldLink RX1 12 "BulkSamples$Odds" "asked" "LBulkSamples$Whole;") fl_X1_isAtMost_12) (fun _ h9 => h9) rfl dX1_isAtMost_23 ?_
  refine k_calli (wc := [(x1, .inr (2, [.ref y1])), (y1, .inl (cL, 8, .inr (.inl (fun j => lN (dg 1000000000 (B * t) (j)))))), (x0, .inr (2, [.ref y0])), (y0, .inl (cL, 8, .inr (.inl (fun j => lN (dg 1000000000 (a * 1000) (j))))))]) (wr := [(h0, .inr (1, [.ref x0, .ref x1, .ref x2]))]) (W1 := fun _ => [(h0, .inr (1, [.ref x0, .ref x1, .ref x2])), (x0, .inr (2, [.ref y0])), (y0, .inl (cL, 8, .inr (.inl (fun j => lN (dg 1000000000 (a * 1000) (j)))))), (x1, .inr (2, [.ref y1])), (y1, .inl (cL, 8, .inr (.inl (fun j => lN (dg 1000000000 (B * t) (j))))))]) hP hD hS hA [3, 4, 1, 2] [0] [0, 3, 4, 1, 2] rfl rfl (by decide) (by decide) (fun _ => rfl) (by decide) (va_runV (As := [.ref x0]) (rest := []) ⟨hx, hb, hml, hown, hts⟩ (c_ge l D cI cL cM H.size x1 y1 (B * t) x0 y0 (a * 1000) hb8 ha8) (cwV 1 hts gX1_isAtMost_X2_isAtLeast rfl rfl rfl (by decide +kernel) ⟨Nat.le_of_ble_eq_true rfl, Nat.le_of_ble_eq_true rfl⟩) (k_preV hP hD hK [3, 4, 1, 2] rfl (by decide) 0 rfl rfl rfl) rfl rfl hl.1 rfl (lv_room (Nat.le_of_ble_eq_true rfl)) dX1_isAtMost_26 ⟨Nat.le_of_ble_eq_true rfl, Nat.le_of_ble_eq_true rfl⟩) (fun r_3 _ H locs hw hP hD hS => ?_)
  obtain rfl : r_3 = nI (b2 (a * 1000 ≤ B * t)) := hw
  refine W.widen (k := 0) (n := 0) (Nat.le_of_ble_eq_true rfl) (Nat.le_of_ble_eq_true rfl) ?_
  exact k_zret (v := nI (b2 (a * 1000 ≤ B * t))) hx hb hr (b2_nz _) hlocks hP hD hK hS [0, 1, 2, 3, 4] () rfl (by decide) rfl dX1_isAtMost_29
theorem in_X1_weigh_X1 : ∀ w ∈ wsX10, w ∈ wsX1_weigh := by decide +kernel
theorem in_X1_weigh_X2 : ∀ w ∈ wsX20, w ∈ wsX1_weigh := by decide +kernel
theorem fl_X1_weigh_12 : Cond.fieldLink RX1 12 "BulkSamples$Odds" "asked" "LBulkSamples$Whole;" ∈ wsX1_weigh := by decide +kernel
theorem fl_X1_weigh_18 : Cond.fieldLink RX1 18 "BulkSamples$Odds" "all" "LBulkSamples$Whole;" ∈ wsX1_weigh := by decide +kernel
theorem fl_X1_weigh_21 : Cond.fieldLink RX1 21 "BulkSamples$Odds" "ways" "LBulkSamples$Whole;" ∈ wsX1_weigh := by decide +kernel
set_option maxHeartbeats 4000000 in
set_option maxRecDepth 100000 in
/-- weigh -/
theorem c_weigh (l : Launch) (D : va_G) (cI cL cM : ClassId) (sz : Nat) (h0 x0 x1 x2 y0 y1 y2 : Nat) (a0 A0 W0 n w so : Nat) (fd : Int32) (sd : Nat) (hn : n ≤ 200) (hw : w ≤ n) (hso : so ≤ n) (hsd : sd ≤ 1) : Met l yX1_weigh wsX1_weigh ({ frames := 2, cells := 0, slots := 0, locals := 50 } : Room) (va_Pc [.ref h0, .int (nI (n)), .int (nI (w)), .int (nI (so)), .int fd, .int (nI (sd))] (PreB D (gT cI cL cM) sz [(h0, .inr (1, [.ref x0, .ref x1, .ref x2])), (x0, .inr (2, [.ref y0])), (y0, .inl (cL, 8, .inr (.inl (fun j => lN (dg 1000000000 a0 (j)))))), (x1, .inr (2, [.ref y1])), (y1, .inl (cL, 8, .inr (.inl (fun j => lN (dg 1000000000 A0 (j)))))), (x2, .inr (2, [.ref y2])), (y2, .inl (cL, 8, .inr (.inl (fun j => lN (dg 1000000000 W0 (j))))))])) (va_Qv (fun _ => True) (fun (_ : Unit) => PostB D (gT cI cL cM) (va_A [(h0, .inr (1, [.ref x0, .ref x1, .ref x2])), (x0, .inr (2, [.ref y0])), (y0, .inl (cL, 8, .inr (.inl (fun j => lN (dg 1000000000 a0 (j)))))), (x1, .inr (2, [.ref y1])), (y1, .inl (cL, 8, .inr (.inl (fun j => lN (dg 1000000000 A0 (j)))))), (x2, .inr (2, [.ref y2])), (y2, .inl (cL, 8, .inr (.inl (fun j => lN (dg 1000000000 W0 (j))))))] sz) [(h0, .inr (1, [.ref x0, .ref x1, .ref x2])), (x0, .inr (2, [.ref y0])), (y0, .inl (cL, 8, .inr (.inl (fun j => lN (dg 1000000000 (asked sd fd w (n - w) so) (j)))))), (x1, .inr (2, [.ref y1])), (y1, .inl (cL, 8, .inr (.inl (fun j => lN (dg 1000000000 (ch n so) (j)))))), (x2, .inr (2, [.ref y2])), (y2, .inl (cL, 8, .inr (.inl (fun j => lN (dg 1000000000 (hyp w (n - w) so (min w so + 1)) (j))))))]) (va_A [(h0, .inr (1, [.ref x0, .ref x1, .ref x2])), (x0, .inr (2, [.ref y0])), (y0, .inl (cL, 8, .inr (.inl (fun j => lN (dg 1000000000 a0 (j)))))), (x1, .inr (2, [.ref y1])), (y1, .inl (cL, 8, .inr (.inl (fun j => lN (dg 1000000000 A0 (j)))))), (x2, .inr (2, [.ref y2])), (y2, .inl (cL, 8, .inr (.inl (fun j => lN (dg 1000000000 W0 (j))))))] sz)) 0 0 (va_A [(h0, .inr (1, [.ref x0, .ref x1, .ref x2])), (x0, .inr (2, [.ref y0])), (y0, .inl (cL, 8, .inr (.inl (fun j => lN (dg 1000000000 a0 (j)))))), (x1, .inr (2, [.ref y1])), (y1, .inl (cL, 8, .inr (.inl (fun j => lN (dg 1000000000 A0 (j)))))), (x2, .inr (2, [.ref y2])), (y2, .inl (cL, 8, .inr (.inl (fun j => lN (dg 1000000000 W0 (j))))))] sz) := by
  refine k_start (fun A => (va_Qv (fun _ => True) (fun (_ : Unit) => PostB D (gT cI cL cM) A [(h0, .inr (1, [.ref x0, .ref x1, .ref x2])), (x0, .inr (2, [.ref y0])), (y0, .inl (cL, 8, .inr (.inl (fun j => lN (dg 1000000000 (asked sd fd w (n - w) so) (j)))))), (x1, .inr (2, [.ref y1])), (y1, .inl (cL, 8, .inr (.inl (fun j => lN (dg 1000000000 (ch n so) (j)))))), (x2, .inr (2, [.ref y2])), (y2, .inl (cL, 8, .inr (.inl (fun j => lN (dg 1000000000 (hyp w (n - w) so (min w so + 1)) (j))))))]) A)) (cc := cX1_weigh) (maxL := 10) (ret := none) (by decide) rfl (Nat.le_of_ble_eq_true rfl) ?_
  intro p e s m below meth c A ls hx hb hr hts hown hlocks hin hml hP hK hD hA hS hl
  have hl : lv_has ls 10 [(0, .ref h0), (1, .int (nI (n))), (2, .int (nI (w))), (3, .int (nI (so))), (4, .int fd), (5, .int (nI (sd)))] := hl
  have hown : s.vm.findClass RX1 = some m.cls := hown
  refine lv_iload_n hx hb dX1_weigh_0 rfl (lv_at hl 1 rfl) ?_
  refine lv_iload_n hx hb dX1_weigh_1 rfl (lv_at hl 2 rfl) ?_
  refine n_isub (r := n - w) hx hb dX1_weigh_2 (by omega) rfl ?_
  refine lv_istore (lv' := [(6, .int (nI (n - w))), (0, .ref h0), (1, .int (nI (n))), (2, .int (nI (w))), (3, .int (nI (so))), (4, .int fd), (5, .int (nI (sd)))]) hx hb dX1_weigh_3 hl (by decide) rfl (fun ls hl => ?_)
  refine lv_iconst (v := nI (0)) hx hb dX1_weigh_5 (by decide) ?_
  refine lv_iload_n hx hb dX1_weigh_6 rfl (lv_at hl 4 rfl) ?_
  refine lv_iload hx hb dX1_weigh_7 (lv_at hl 0 rfl) ?_
  refine lv_isub hx hb dX1_weigh_9 ?_
  refine va_mmax hx hb (hml.trans hl.1.symm) hown (hts (.methodLink RX1 24 Lib.Math.max.name) (by decide +kernel)) (hts (.static Lib.Math.max.name) (by decide +kernel)) (hts (.initialized "java/lang/Math") (by decide +kernel)) (hts (.code Lib.Math.max.name Lib.Math.max.code 2 (some .int)) (by decide +kernel)) (Nat.le_of_ble_eq_true rfl) (Nat.le_of_ble_eq_true rfl) (by decide) (by decide) dX1_weigh_10 ?_
  rw [show (if nI (0) < (nI (so)) - (nI (n - w)) then (nI (so)) - (nI (n - w)) else nI (0)) = nI (so - (n - w)) from maxI (by omega) (by omega)]
  refine lv_istore (lv' := [(7, .int (nI (so - (n - w)))), (6, .int (nI (n - w))), (0, .ref h0), (1, .int (nI (n))), (2, .int (nI (w))), (3, .int (nI (so))), (4, .int fd), (5, .int (nI (sd)))]) hx hb dX1_weigh_13 hl (by decide) rfl (fun ls hl => ?_)
  refine lv_iload_n hx hb dX1_weigh_15 rfl (lv_at hl 4 rfl) ?_
  refine lv_iload_n hx hb dX1_weigh_16 rfl (lv_at hl 5 rfl) ?_
  refine va_mmin hx hb (hml.trans hl.1.symm) hown (hts (.methodLink RX1 30 Lib.Math.min.name) (by decide +kernel)) (hts (.static Lib.Math.min.name) (by decide +kernel)) (hts (.initialized "java/lang/Math") (by decide +kernel)) (hts (.code Lib.Math.min.name Lib.Math.min.code 2 (some .int)) (by decide +kernel)) (Nat.le_of_ble_eq_true rfl) (Nat.le_of_ble_eq_true rfl) (by decide) (by decide) dX1_weigh_17 ?_
  rw [show (if nI (so) < nI (w) then nI (so) else nI (w)) = nI (min w so) from minI (by omega) (by omega)]
  refine lv_istore (lv' := [(8, .int (nI (min w so))), (7, .int (nI (so - (n - w)))), (6, .int (nI (n - w))), (0, .ref h0), (1, .int (nI (n))), (2, .int (nI (w))), (3, .int (nI (so))), (4, .int fd), (5, .int (nI (sd)))]) hx hb dX1_weigh_20 hl (by decide) rfl (fun ls hl => ?_)
  refine lv_aload_n hx hb dX1_weigh_22 rfl (lv_at hl 3 rfl) ?_
  refine va_get (D := D) (cl := vwCl) (ci := 1) (v := .ref x1) (C := RX1) (T := TX1) (N := 3) hx hb hts in_X1_weigh_X1 hown hK hP 0 rfl rfl 1 (by decide) (hts (.fieldLink RX1 18 "BulkSamples$Odds" "all" "LBulkSamples$Whole;") fl_X1_weigh_18) (fun _ h9 => h9) rfl dX1_weigh_23 ?_
  refine lv_iload_n hx hb dX1_weigh_26 rfl (lv_at hl 4 rfl) ?_
  refine lv_iload_n hx hb dX1_weigh_27 rfl (lv_at hl 6 rfl) ?_
  refine k_callv (wc := [(x1, .inr (2, [.ref y1])), (y1, .inl (cL, 8, .inr (.inl (fun j => lN (dg 1000000000 A0 (j))))))]) (wr := [(h0, .inr (1, [.ref x0, .ref x1, .ref x2])), (x0, .inr (2, [.ref y0])), (y0, .inl (cL, 8, .inr (.inl (fun j => lN (dg 1000000000 a0 (j)))))), (x2, .inr (2, [.ref y2])), (y2, .inl (cL, 8, .inr (.inl (fun j => lN (dg 1000000000 W0 (j))))))]) (W1 := fun _ => [(h0, .inr (1, [.ref x0, .ref x1, .ref x2])), (x0, .inr (2, [.ref y0])), (y0, .inl (cL, 8, .inr (.inl (fun j => lN (dg 1000000000 a0 (j)))))), (x1, .inr (2, [.ref y1])), (y1, .inl (cL, 8, .inr (.inl (fun j => lN (dg 1000000000 (ch n so) (j)))))), (x2, .inr (2, [.ref y2])), (y2, .inl (cL, 8, .inr (.inl (fun j => lN (dg 1000000000 W0 (j))))))]) hP hD hS hA [3, 4] [0, 1, 2, 5, 6] [0, 1, 2, 5, 6, 3, 4] rfl rfl (by decide) (by decide) (fun _ => rfl) (by decide) (va_runV (As := [.int (nI (n)), .int (nI (so))]) (rest := []) ⟨hx, hb, hml, hown, hts⟩ (c_cho l D cI cL cM s.heap.size x1 y1 A0 n so hn hso) (cwV 2 hts gX1_weigh_X2_setChoices rfl rfl rfl (by decide +kernel) ⟨Nat.le_of_ble_eq_true rfl, Nat.le_of_ble_eq_true rfl⟩) (k_preV hP hD hK [3, 4] rfl (by decide) 0 rfl rfl rfl) rfl rfl hl.1 rfl (lv_room (Nat.le_of_ble_eq_true rfl)) dX1_weigh_28 ⟨Nat.le_of_ble_eq_true rfl, Nat.le_of_ble_eq_true rfl⟩) (fun _ H locs hw hP hD hS => ?_)
  have J_2 : ∀ (H : Heap) (locs : List Loc) (ls : Array Slot), va_P D vwCl [(h0, .inr (1, [.ref x0, .ref x1, .ref x2])), (x0, .inr (2, [.ref y0])), (y0, .inl (cL, 8, .inr (.inl (fun j => lN (dg 1000000000 a0 (j)))))), (x1, .inr (2, [.ref y1])), (y1, .inl (cL, 8, .inr (.inl (fun j => lN (dg 1000000000 (ch n so) (j)))))), (x2, .inr (2, [.ref y2])), (y2, .inl (cL, 8, .inr (.inl (fun j => lN (dg 1000000000 (hyp w (n - w) so (so - (n - w))) (j))))))] H → va_D A [(h0, .inr (1, [.ref x0, .ref x1, .ref x2])), (x0, .inr (2, [.ref y0])), (y0, .inl (cL, 8, .inr (.inl (fun j => lN (dg 1000000000 a0 (j)))))), (x1, .inr (2, [.ref y1])), (y1, .inl (cL, 8, .inr (.inl (fun j => lN (dg 1000000000 (ch n so) (j)))))), (x2, .inr (2, [.ref y2])), (y2, .inl (cL, 8, .inr (.inl (fun j => lN (dg 1000000000 (hyp w (n - w) so (so - (n - w))) (j))))))] → va_S A s.heap H locs → lv_has ls 10 [(0, .ref h0), (1, .int (nI (n))), (2, .int (nI (w))), (3, .int (nI (so))), (4, .int fd), (5, .int (nI (sd))), (6, .int (nI (n - w))), (7, .int (nI (so - (n - w)))), (8, .int (nI (min w so)))] → W p l e ({ frames := 2, cells := 0, slots := 0, locals := 50 } : Room) s m (List.toArray [.ref h0, .int (nI (n)), .int (nI (w)), .int (nI (so)), .int fd, .int (nI (sd))]) below meth c H locs (0 + 0) (0 + 0) (MQ below (va_Qv (fun _ => True) (fun (_ : Unit) => PostB D (gT cI cL cM) A [(h0, .inr (1, [.ref x0, .ref x1, .ref x2])), (x0, .inr (2, [.ref y0])), (y0, .inl (cL, 8, .inr (.inl (fun j => lN (dg 1000000000 (asked sd fd w (n - w) so) (j)))))), (x1, .inr (2, [.ref y1])), (y1, .inl (cL, 8, .inr (.inl (fun j => lN (dg 1000000000 (ch n so) (j)))))), (x2, .inr (2, [.ref y2])), (y2, .inl (cL, 8, .inr (.inl (fun j => lN (dg 1000000000 (hyp w (n - w) so (min w so + 1)) (j))))))]) A) (List.toArray [.ref h0, .int (nI (n)), .int (nI (w)), .int (nI (so)), .int fd, .int (nI (sd))]) s 0 0 A) (F0 m 59 ls []) := by
    intro H locs ls hP hD hS hl
    refine lv_aload_n hx hb dX1_weigh_59 rfl (lv_at hl 0 rfl) ?_
    refine va_get (D := D) (cl := vwCl) (ci := 1) (v := .ref x0) (C := RX1) (T := TX1) (N := 3) hx hb hts in_X1_weigh_X1 hown hK hP 0 rfl rfl 0 (by decide) (hts (.fieldLink RX1 12 "BulkSamples$Odds" "asked" "LBulkSamples$Whole;") fl_X1_weigh_12) (fun _ h9 => h9) rfl dX1_weigh_60 ?_
    refine lv_iconst (v := nI (0)) hx hb dX1_weigh_63 (by decide) ?_
    refine k_callv (wc := [(x0, .inr (2, [.ref y0])), (y0, .inl (cL, 8, .inr (.inl (fun j => lN (dg 1000000000 a0 (j))))))]) (wr := [(h0, .inr (1, [.ref x0, .ref x1, .ref x2])), (x1, .inr (2, [.ref y1])), (y1, .inl (cL, 8, .inr (.inl (fun j => lN (dg 1000000000 (ch n so) (j)))))), (x2, .inr (2, [.ref y2])), (y2, .inl (cL, 8, .inr (.inl (fun j => lN (dg 1000000000 (hyp w (n - w) so (so - (n - w))) (j))))))]) (W1 := fun _ => [(h0, .inr (1, [.ref x0, .ref x1, .ref x2])), (x0, .inr (2, [.ref y0])), (y0, .inl (cL, 8, .inr (.inl (fun j => lN (dg 1000000000 0 (j)))))), (x1, .inr (2, [.ref y1])), (y1, .inl (cL, 8, .inr (.inl (fun j => lN (dg 1000000000 (ch n so) (j)))))), (x2, .inr (2, [.ref y2])), (y2, .inl (cL, 8, .inr (.inl (fun j => lN (dg 1000000000 (hyp w (n - w) so (so - (n - w))) (j))))))]) hP hD hS hA [1, 2] [0, 3, 4, 5, 6] [0, 5, 6, 1, 2, 3, 4] rfl rfl (by decide) (by decide) (fun _ => rfl) (by decide) (va_runV (As := [.int (nI (0))]) (rest := []) ⟨hx, hb, hml, hown, hts⟩ (c_set l D cI cL cM H.size x0 y0 a0 0 (by omega)) (cwV 1 hts gX1_weigh_X2_set rfl rfl rfl (by decide +kernel) ⟨Nat.le_of_ble_eq_true rfl, Nat.le_of_ble_eq_true rfl⟩) (k_preV hP hD hK [1, 2] rfl (by decide) 0 rfl rfl rfl) rfl rfl hl.1 rfl (lv_room (Nat.le_of_ble_eq_true rfl)) dX1_weigh_64 ⟨Nat.le_of_ble_eq_true rfl, Nat.le_of_ble_eq_true rfl⟩) (fun _ H locs hw hP hD hS => ?_)
    have hP : va_P D vwCl [(h0, .inr (1, [.ref x0, .ref x1, .ref x2])), (x0, .inr (2, [.ref y0])), (y0, .inl (cL, 8, .inr (.inl (fun j => lN (dg 1000000000 (psum (pck sd fd w (n - w) so) (so - (n - w))) (j)))))), (x1, .inr (2, [.ref y1])), (y1, .inl (cL, 8, .inr (.inl (fun j => lN (dg 1000000000 (ch n so) (j)))))), (x2, .inr (2, [.ref y2])), (y2, .inl (cL, 8, .inr (.inl (fun j => lN (dg 1000000000 (hyp w (n - w) so (so - (n - w))) (j))))))] H := P_altL _ hP 2 rfl rfl (fun j _ => congrArg (fun z => lN (dg 1000000000 z j)) ((asked_start sd fd).symm))
    have hD : va_D A [(h0, .inr (1, [.ref x0, .ref x1, .ref x2])), (x0, .inr (2, [.ref y0])), (y0, .inl (cL, 8, .inr (.inl (fun j => lN (dg 1000000000 (psum (pck sd fd w (n - w) so) (so - (n - w))) (j)))))), (x1, .inr (2, [.ref y1])), (y1, .inl (cL, 8, .inr (.inl (fun j => lN (dg 1000000000 (ch n so) (j)))))), (x2, .inr (2, [.ref y2])), (y2, .inl (cL, 8, .inr (.inl (fun j => lN (dg 1000000000 (hyp w (n - w) so (so - (n - w))) (j))))))] := D_alt hD (q0 := 2) rfl rfl
    refine lv_iload hx hb dX1_weigh_67 (lv_at hl 7 rfl) ?_
    refine lv_istore (lv' := [(9, .int (nI (so - (n - w)))), (0, .ref h0), (1, .int (nI (n))), (2, .int (nI (w))), (3, .int (nI (so))), (4, .int fd), (5, .int (nI (sd))), (6, .int (nI (n - w))), (7, .int (nI (so - (n - w)))), (8, .int (nI (min w so)))]) hx hb dX1_weigh_69 hl (by decide) rfl (fun ls hl => ?_)
    have L_4 : ∀ (nn9 k : Nat), k + nn9 = (min w so + 1) → so - (n - w) ≤ k → ∀ (H : Heap) (locs : List Loc) (ls : Array Slot), va_P D vwCl [(h0, .inr (1, [.ref x0, .ref x1, .ref x2])), (x0, .inr (2, [.ref y0])), (y0, .inl (cL, 8, .inr (.inl (fun j => lN (dg 1000000000 (psum (pck sd fd w (n - w) so) k) (j)))))), (x1, .inr (2, [.ref y1])), (y1, .inl (cL, 8, .inr (.inl (fun j => lN (dg 1000000000 (ch n so) (j)))))), (x2, .inr (2, [.ref y2])), (y2, .inl (cL, 8, .inr (.inl (fun j => lN (dg 1000000000 (hyp w (n - w) so k) (j))))))] H → va_D A [(h0, .inr (1, [.ref x0, .ref x1, .ref x2])), (x0, .inr (2, [.ref y0])), (y0, .inl (cL, 8, .inr (.inl (fun j => lN (dg 1000000000 (psum (pck sd fd w (n - w) so) k) (j)))))), (x1, .inr (2, [.ref y1])), (y1, .inl (cL, 8, .inr (.inl (fun j => lN (dg 1000000000 (ch n so) (j)))))), (x2, .inr (2, [.ref y2])), (y2, .inl (cL, 8, .inr (.inl (fun j => lN (dg 1000000000 (hyp w (n - w) so k) (j))))))] → va_S A s.heap H locs → lv_has ls 10 [(0, .ref h0), (1, .int (nI (n))), (2, .int (nI (w))), (3, .int (nI (so))), (4, .int fd), (5, .int (nI (sd))), (6, .int (nI (n - w))), (7, .int (nI (so - (n - w)))), (8, .int (nI (min w so))), (9, .int (nI (k)))] → W p l e ({ frames := 2, cells := 0, slots := 0, locals := 50 } : Room) s m (List.toArray [.ref h0, .int (nI (n)), .int (nI (w)), .int (nI (so)), .int fd, .int (nI (sd))]) below meth c H locs ((0 + 0) + 0) ((0 + 0) + 0) (MQ below (va_Qv (fun _ => True) (fun (_ : Unit) => PostB D (gT cI cL cM) A [(h0, .inr (1, [.ref x0, .ref x1, .ref x2])), (x0, .inr (2, [.ref y0])), (y0, .inl (cL, 8, .inr (.inl (fun j => lN (dg 1000000000 (asked sd fd w (n - w) so) (j)))))), (x1, .inr (2, [.ref y1])), (y1, .inl (cL, 8, .inr (.inl (fun j => lN (dg 1000000000 (ch n so) (j)))))), (x2, .inr (2, [.ref y2])), (y2, .inl (cL, 8, .inr (.inl (fun j => lN (dg 1000000000 (hyp w (n - w) so (min w so + 1)) (j))))))]) A) (List.toArray [.ref h0, .int (nI (n)), .int (nI (w)), .int (nI (so)), .int fd, .int (nI (sd))]) s 0 0 A) (F0 m 71 ls []) := by
      intro nn9
      induction nn9 with
      | zero =>
        intro k hik hf H locs ls hP hD hS hl
        obtain rfl : (min w so + 1) = k := by omega
        refine lv_iload hx hb dX1_weigh_71 (lv_at hl 9 rfl) ?_
        refine lv_iload hx hb dX1_weigh_73 (lv_at hl 8 rfl) ?_
        refine n_icmp_gt (tgt := 154) hx hb (by omega) (by omega) dX1_weigh_75 (by decide) (fun c_5 => ?_) (fun c_5 => False.elim (by omega))
        have hP : va_P D vwCl [(h0, .inr (1, [.ref x0, .ref x1, .ref x2])), (x0, .inr (2, [.ref y0])), (y0, .inl (cL, 8, .inr (.inl (fun j => lN (dg 1000000000 (asked sd fd w (n - w) so) (j)))))), (x1, .inr (2, [.ref y1])), (y1, .inl (cL, 8, .inr (.inl (fun j => lN (dg 1000000000 (ch n so) (j)))))), (x2, .inr (2, [.ref y2])), (y2, .inl (cL, 8, .inr (.inl (fun j => lN (dg 1000000000 (hyp w (n - w) so (min w so + 1)) (j))))))] H := P_altL _ hP 2 rfl rfl (fun j _ => congrArg (fun z => lN (dg 1000000000 z j)) (asked_end sd fd))
        have hD : va_D A [(h0, .inr (1, [.ref x0, .ref x1, .ref x2])), (x0, .inr (2, [.ref y0])), (y0, .inl (cL, 8, .inr (.inl (fun j => lN (dg 1000000000 (asked sd fd w (n - w) so) (j)))))), (x1, .inr (2, [.ref y1])), (y1, .inl (cL, 8, .inr (.inl (fun j => lN (dg 1000000000 (ch n so) (j)))))), (x2, .inr (2, [.ref y2])), (y2, .inl (cL, 8, .inr (.inl (fun j => lN (dg 1000000000 (hyp w (n - w) so (min w so + 1)) (j))))))] := D_alt hD (q0 := 2) rfl rfl
        refine W.widen (k := 0) (n := 0) (Nat.le_of_ble_eq_true rfl) (Nat.le_of_ble_eq_true rfl) ?_
        exact k_vret hx hb hr hlocks hP hD hK hS [0, 1, 2, 3, 4, 5, 6] () rfl (by decide) trivial dX1_weigh_154
      | succ nn9 ih =>
        intro k hik hf H locs ls hP hD hS hl
        refine lv_iload hx hb dX1_weigh_71 (lv_at hl 9 rfl) ?_
        refine lv_iload hx hb dX1_weigh_73 (lv_at hl 8 rfl) ?_
        refine n_icmp_gt (tgt := 154) hx hb (by omega) (by omega) dX1_weigh_75 (by decide) (fun c_6 => False.elim (by omega)) (fun c_6 => ?_)
        have J_7 : ∀ (H : Heap) (locs : List Loc) (ls : Array Slot), va_P D vwCl [(h0, .inr (1, [.ref x0, .ref x1, .ref x2])), (x0, .inr (2, [.ref y0])), (y0, .inl (cL, 8, .inr (.inl (fun j => lN (dg 1000000000 (psum (pck sd fd w (n - w) so) (k + 1)) (j)))))), (x1, .inr (2, [.ref y1])), (y1, .inl (cL, 8, .inr (.inl (fun j => lN (dg 1000000000 (ch n so) (j)))))), (x2, .inr (2, [.ref y2])), (y2, .inl (cL, 8, .inr (.inl (fun j => lN (dg 1000000000 (hyp w (n - w) so k) (j))))))] H → va_D A [(h0, .inr (1, [.ref x0, .ref x1, .ref x2])), (x0, .inr (2, [.ref y0])), (y0, .inl (cL, 8, .inr (.inl (fun j => lN (dg 1000000000 (psum (pck sd fd w (n - w) so) (k + 1)) (j)))))), (x1, .inr (2, [.ref y1])), (y1, .inl (cL, 8, .inr (.inl (fun j => lN (dg 1000000000 (ch n so) (j)))))), (x2, .inr (2, [.ref y2])), (y2, .inl (cL, 8, .inr (.inl (fun j => lN (dg 1000000000 (hyp w (n - w) so k) (j))))))] → va_S A s.heap H locs → lv_has ls 10 [(0, .ref h0), (1, .int (nI (n))), (2, .int (nI (w))), (3, .int (nI (so))), (4, .int fd), (5, .int (nI (sd))), (6, .int (nI (n - w))), (7, .int (nI (so - (n - w)))), (8, .int (nI (min w so))), (9, .int (nI (k)))] → W p l e ({ frames := 2, cells := 0, slots := 0, locals := 50 } : Room) s m (List.toArray [.ref h0, .int (nI (n)), .int (nI (w)), .int (nI (so)), .int fd, .int (nI (sd))]) below meth c H locs ((0 + 0) + 0) ((0 + 0) + 0) (MQ below (va_Qv (fun _ => True) (fun (_ : Unit) => PostB D (gT cI cL cM) A [(h0, .inr (1, [.ref x0, .ref x1, .ref x2])), (x0, .inr (2, [.ref y0])), (y0, .inl (cL, 8, .inr (.inl (fun j => lN (dg 1000000000 (asked sd fd w (n - w) so) (j)))))), (x1, .inr (2, [.ref y1])), (y1, .inl (cL, 8, .inr (.inl (fun j => lN (dg 1000000000 (ch n so) (j)))))), (x2, .inr (2, [.ref y2])), (y2, .inl (cL, 8, .inr (.inl (fun j => lN (dg 1000000000 (hyp w (n - w) so (min w so + 1)) (j))))))]) A) (List.toArray [.ref h0, .int (nI (n)), .int (nI (w)), .int (nI (so)), .int fd, .int (nI (sd))]) s 0 0 A) (F0 m 111 ls []) := by
          intro H locs ls hP hD hS hl
          have hf1 : (w - k) * (so - k) ≤ 200 * 200 := Nat.mul_le_mul (by omega) (by omega)
          refine lv_aload_n hx hb dX1_weigh_111 rfl (lv_at hl 0 rfl) ?_
          refine va_get (D := D) (cl := vwCl) (ci := 1) (v := .ref x2) (C := RX1) (T := TX1) (N := 3) hx hb hts in_X1_weigh_X1 hown hK hP 0 rfl rfl 2 (by decide) (hts (.fieldLink RX1 21 "BulkSamples$Odds" "ways" "LBulkSamples$Whole;") fl_X1_weigh_21) (fun _ h9 => h9) rfl dX1_weigh_112 ?_
          refine lv_iload_n hx hb dX1_weigh_115 rfl (lv_at hl 2 rfl) ?_
          refine lv_iload hx hb dX1_weigh_116 (lv_at hl 9 rfl) ?_
          refine n_isub (r := w - k) hx hb dX1_weigh_118 (by omega) rfl ?_
          refine lv_iload_n hx hb dX1_weigh_119 rfl (lv_at hl 3 rfl) ?_
          refine lv_iload hx hb dX1_weigh_120 (lv_at hl 9 rfl) ?_
          refine n_isub (r := so - k) hx hb dX1_weigh_122 (by omega) rfl ?_
          refine n_imul (r := (w - k) * (so - k)) hx hb dX1_weigh_123 rfl ?_
          refine k_callv (wc := [(x2, .inr (2, [.ref y2])), (y2, .inl (cL, 8, .inr (.inl (fun j => lN (dg 1000000000 (hyp w (n - w) so k) (j))))))]) (wr := [(h0, .inr (1, [.ref x0, .ref x1, .ref x2])), (x0, .inr (2, [.ref y0])), (y0, .inl (cL, 8, .inr (.inl (fun j => lN (dg 1000000000 (psum (pck sd fd w (n - w) so) (k + 1)) (j)))))), (x1, .inr (2, [.ref y1])), (y1, .inl (cL, 8, .inr (.inl (fun j => lN (dg 1000000000 (ch n so) (j))))))]) (W1 := fun _ => [(h0, .inr (1, [.ref x0, .ref x1, .ref x2])), (x0, .inr (2, [.ref y0])), (y0, .inl (cL, 8, .inr (.inl (fun j => lN (dg 1000000000 (psum (pck sd fd w (n - w) so) (k + 1)) (j)))))), (x1, .inr (2, [.ref y1])), (y1, .inl (cL, 8, .inr (.inl (fun j => lN (dg 1000000000 (ch n so) (j)))))), (x2, .inr (2, [.ref y2])), (y2, .inl (cL, 8, .inr (.inl (fun j => lN (dg 1000000000 ((hyp w (n - w) so k) * ((w - k) * (so - k))) (j))))))]) hP hD hS hA [5, 6] [0, 1, 2, 3, 4] [0, 1, 2, 3, 4, 5, 6] rfl rfl (by decide) (by decide) (fun _ => rfl) (by decide) (va_runV (As := [.int (nI ((w - k) * (so - k)))]) (rest := []) ⟨hx, hb, hml, hown, hts⟩ (c_mul l D cI cL cM H.size x2 y2 (hyp w (n - w) so k) ((w - k) * (so - k)) (by omega)) (cwV 1 hts gX1_weigh_X2_multiply rfl rfl rfl (by decide +kernel) ⟨Nat.le_of_ble_eq_true rfl, Nat.le_of_ble_eq_true rfl⟩) (k_preV hP hD hK [5, 6] rfl (by decide) 0 rfl rfl rfl) rfl rfl hl.1 rfl (lv_room (Nat.le_of_ble_eq_true rfl)) dX1_weigh_124 ⟨Nat.le_of_ble_eq_true rfl, Nat.le_of_ble_eq_true rfl⟩) (fun _ H locs hw hP hD hS => ?_)
          refine lv_aload_n hx hb dX1_weigh_127 rfl (lv_at hl 0 rfl) ?_
          refine va_get (D := D) (cl := vwCl) (ci := 1) (v := .ref x2) (C := RX1) (T := TX1) (N := 3) hx hb hts in_X1_weigh_X1 hown hK hP 0 rfl rfl 2 (by decide) (hts (.fieldLink RX1 21 "BulkSamples$Odds" "ways" "LBulkSamples$Whole;") fl_X1_weigh_21) (fun _ h9 => h9) rfl dX1_weigh_128 ?_
          refine lv_iload hx hb dX1_weigh_131 (lv_at hl 9 rfl) ?_
          refine lv_iconst (v := nI (1)) hx hb dX1_weigh_133 (by decide) ?_
          refine n_iadd (r := k + 1) hx hb dX1_weigh_134 rfl ?_
          refine lv_iload hx hb dX1_weigh_135 (lv_at hl 6 rfl) ?_
          refine lv_iload_n hx hb dX1_weigh_137 rfl (lv_at hl 3 rfl) ?_
          refine lv_isub hx hb dX1_weigh_138 ?_
          refine lv_iload hx hb dX1_weigh_139 (lv_at hl 9 rfl) ?_
          refine lv_iadd hx hb dX1_weigh_141 ?_
          rw [show ((nI (n - w)) - (nI (so))) + (nI (k)) = nI (n - w + k - so) from subaddI (by omega) (by omega) (by omega) (by omega)]
          refine lv_iconst (v := nI (1)) hx hb dX1_weigh_142 (by decide) ?_
          refine n_iadd (r := n - w + k + 1 - so) hx hb dX1_weigh_143 (by omega) ?_
          refine n_imul (r := (k + 1) * (n - w + k + 1 - so)) hx hb dX1_weigh_144 rfl ?_
          have hf2 : (k + 1) * (n - w + k + 1 - so) ≤ 201 * 201 := Nat.mul_le_mul (by omega) (by omega)
          have hf3 : 0 < (k + 1) * (n - w + k + 1 - so) := Nat.mul_pos (by omega) (by omega)
          refine k_callv (wc := [(x2, .inr (2, [.ref y2])), (y2, .inl (cL, 8, .inr (.inl (fun j => lN (dg 1000000000 (hyp w (n - w) so k * ((w - k) * (so - k))) (j))))))]) (wr := [(h0, .inr (1, [.ref x0, .ref x1, .ref x2])), (x0, .inr (2, [.ref y0])), (y0, .inl (cL, 8, .inr (.inl (fun j => lN (dg 1000000000 (psum (pck sd fd w (n - w) so) (k + 1)) (j)))))), (x1, .inr (2, [.ref y1])), (y1, .inl (cL, 8, .inr (.inl (fun j => lN (dg 1000000000 (ch n so) (j))))))]) (W1 := fun _ => [(h0, .inr (1, [.ref x0, .ref x1, .ref x2])), (x0, .inr (2, [.ref y0])), (y0, .inl (cL, 8, .inr (.inl (fun j => lN (dg 1000000000 (psum (pck sd fd w (n - w) so) (k + 1)) (j)))))), (x1, .inr (2, [.ref y1])), (y1, .inl (cL, 8, .inr (.inl (fun j => lN (dg 1000000000 (ch n so) (j)))))), (x2, .inr (2, [.ref y2])), (y2, .inl (cL, 8, .inr (.inl (fun j => lN (dg 1000000000 ((hyp w (n - w) so k * ((w - k) * (so - k))) / ((k + 1) * (n - w + k + 1 - so))) (j))))))]) hP hD hS hA [5, 6] [0, 1, 2, 3, 4] [0, 1, 2, 3, 4, 5, 6] rfl rfl (by decide) (by decide) (fun _ => rfl) (by decide) (va_runV (As := [.int (nI ((k + 1) * (n - w + k + 1 - so)))]) (rest := []) ⟨hx, hb, hml, hown, hts⟩ (c_div l D cI cL cM H.size x2 y2 (hyp w (n - w) so k * ((w - k) * (so - k))) ((k + 1) * (n - w + k + 1 - so)) (by omega) (by omega) (leB (n := w + (n - w)) hyp_le (by omega) (by omega))) (cwV 1 hts gX1_weigh_X2_divide rfl rfl rfl (by decide +kernel) ⟨Nat.le_of_ble_eq_true rfl, Nat.le_of_ble_eq_true rfl⟩) (k_preV hP hD hK [5, 6] rfl (by decide) 0 rfl rfl rfl) rfl rfl hl.1 rfl (lv_room (Nat.le_of_ble_eq_true rfl)) dX1_weigh_145 ⟨Nat.le_of_ble_eq_true rfl, Nat.le_of_ble_eq_true rfl⟩) (fun _ H locs hw hP hD hS => ?_)
          have hP : va_P D vwCl [(h0, .inr (1, [.ref x0, .ref x1, .ref x2])), (x0, .inr (2, [.ref y0])), (y0, .inl (cL, 8, .inr (.inl (fun j => lN (dg 1000000000 (psum (pck sd fd w (n - w) so) (k + 1)) (j)))))), (x1, .inr (2, [.ref y1])), (y1, .inl (cL, 8, .inr (.inl (fun j => lN (dg 1000000000 (ch n so) (j)))))), (x2, .inr (2, [.ref y2])), (y2, .inl (cL, 8, .inr (.inl (fun j => lN (dg 1000000000 (hyp w (n - w) so (k + 1)) (j))))))] H := P_altL _ hP 6 rfl rfl (fun j _ => congrArg (fun z => lN (dg 1000000000 z j)) (hyp_next (by omega) (by omega) (by omega)))
          have hD : va_D A [(h0, .inr (1, [.ref x0, .ref x1, .ref x2])), (x0, .inr (2, [.ref y0])), (y0, .inl (cL, 8, .inr (.inl (fun j => lN (dg 1000000000 (psum (pck sd fd w (n - w) so) (k + 1)) (j)))))), (x1, .inr (2, [.ref y1])), (y1, .inl (cL, 8, .inr (.inl (fun j => lN (dg 1000000000 (ch n so) (j)))))), (x2, .inr (2, [.ref y2])), (y2, .inl (cL, 8, .inr (.inl (fun j => lN (dg 1000000000 (hyp w (n - w) so (k + 1)) (j))))))] := D_alt hD (q0 := 6) rfl rfl
          refine lv_iinc (v := nI (k + 1)) (lv' := [(9, .int (nI (k + 1))), (0, .ref h0), (1, .int (nI (n))), (2, .int (nI (w))), (3, .int (nI (so))), (4, .int fd), (5, .int (nI (sd))), (6, .int (nI (n - w))), (7, .int (nI (so - (n - w)))), (8, .int (nI (min w so)))]) hx hb dX1_weigh_148 hl (k := 9) rfl (nI_add k 1) (by decide) rfl (fun ls hl => ?_)
          refine lv_goto (tgt := 71) hx hb dX1_weigh_151 (by decide) ?_
          exact ih (k + 1) (by omega) (by omega) _ _ _ (P_pick hP [0, 1, 2, 3, 4, 5, 6] rfl) (D_pick hD [0, 1, 2, 3, 4, 5, 6] (by decide) rfl) hS (lv_sub hl [1, 2, 3, 4, 5, 6, 7, 8, 9, 0] rfl)
        refine lv_iload hx hb dX1_weigh_78 (lv_at hl 5 rfl) ?_
        refine n_if_ne (tgt := 93) hx hb (by omega) dX1_weigh_80 (by decide) (fun c_10 => ?_) (fun c_10 => ?_)
        · refine lv_iload hx hb dX1_weigh_93 (lv_at hl 9 rfl) ?_
          refine lv_iload hx hb dX1_weigh_95 (lv_at hl 4 rfl) ?_
          refine lv_icmp_lt (tgt := 111) hx hb dX1_weigh_97 (by decide) (fun c_11 => ?_) (fun c_11 => ?_)
          · have hcn : ¬ cnd sd fd k = true := by rw [cnd, if_neg (by omega)]; exact fun h => Int32.not_le.mpr c_11 (of_decide_eq_true h)
            have hP : va_P D vwCl [(h0, .inr (1, [.ref x0, .ref x1, .ref x2])), (x0, .inr (2, [.ref y0])), (y0, .inl (cL, 8, .inr (.inl (fun j => lN (dg 1000000000 (psum (pck sd fd w (n - w) so) (k + 1)) (j)))))), (x1, .inr (2, [.ref y1])), (y1, .inl (cL, 8, .inr (.inl (fun j => lN (dg 1000000000 (ch n so) (j)))))), (x2, .inr (2, [.ref y2])), (y2, .inl (cL, 8, .inr (.inl (fun j => lN (dg 1000000000 (hyp w (n - w) so k) (j))))))] H := P_altL _ hP 2 rfl rfl (fun j _ => congrArg (fun z => lN (dg 1000000000 z j)) (show psum (pck sd fd w (n - w) so) k = psum (pck sd fd w (n - w) so) (k + 1) by show _ = psum (pck sd fd w (n - w) so) k + pck sd fd w (n - w) so k; rw [pck, if_neg hcn, Nat.add_zero]))
            have hD : va_D A [(h0, .inr (1, [.ref x0, .ref x1, .ref x2])), (x0, .inr (2, [.ref y0])), (y0, .inl (cL, 8, .inr (.inl (fun j => lN (dg 1000000000 (psum (pck sd fd w (n - w) so) (k + 1)) (j)))))), (x1, .inr (2, [.ref y1])), (y1, .inl (cL, 8, .inr (.inl (fun j => lN (dg 1000000000 (ch n so) (j)))))), (x2, .inr (2, [.ref y2])), (y2, .inl (cL, 8, .inr (.inl (fun j => lN (dg 1000000000 (hyp w (n - w) so k) (j))))))] := D_alt hD (q0 := 2) rfl rfl
            exact J_7 _ _ _ (P_pick hP [0, 1, 2, 3, 4, 5, 6] rfl) (D_pick hD [0, 1, 2, 3, 4, 5, 6] (by decide) rfl) hS (lv_sub hl [0, 1, 2, 3, 4, 5, 6, 7, 8, 9] rfl)
          · have hcn : cnd sd fd k = true := by rw [cnd, if_neg (by omega)]; exact decide_eq_true (i32_nlt c_11)
            refine lv_aload_n hx hb dX1_weigh_100 rfl (lv_at hl 0 rfl) ?_
            refine va_get (D := D) (cl := vwCl) (ci := 1) (v := .ref x0) (C := RX1) (T := TX1) (N := 3) hx hb hts in_X1_weigh_X1 hown hK hP 0 rfl rfl 0 (by decide) (hts (.fieldLink RX1 12 "BulkSamples$Odds" "asked" "LBulkSamples$Whole;") fl_X1_weigh_12) (fun _ h9 => h9) rfl dX1_weigh_101 ?_
            refine lv_aload_n hx hb dX1_weigh_104 rfl (lv_at hl 0 rfl) ?_
            refine va_get (D := D) (cl := vwCl) (ci := 1) (v := .ref x2) (C := RX1) (T := TX1) (N := 3) hx hb hts in_X1_weigh_X1 hown hK hP 0 rfl rfl 2 (by decide) (hts (.fieldLink RX1 21 "BulkSamples$Odds" "ways" "LBulkSamples$Whole;") fl_X1_weigh_21) (fun _ h9 => h9) rfl dX1_weigh_105 ?_
            refine k_callv (wc := [(x0, .inr (2, [.ref y0])), (y0, .inl (cL, 8, .inr (.inl (fun j => lN (dg 1000000000 (psum (pck sd fd w (n - w) so) k) (j)))))), (x2, .inr (2, [.ref y2])), (y2, .inl (cL, 8, .inr (.inl (fun j => lN (dg 1000000000 (hyp w (n - w) so k) (j))))))]) (wr := [(h0, .inr (1, [.ref x0, .ref x1, .ref x2])), (x1, .inr (2, [.ref y1])), (y1, .inl (cL, 8, .inr (.inl (fun j => lN (dg 1000000000 (ch n so) (j))))))]) (W1 := fun _ => [(h0, .inr (1, [.ref x0, .ref x1, .ref x2])), (x0, .inr (2, [.ref y0])), (y0, .inl (cL, 8, .inr (.inl (fun j => lN (dg 1000000000 ((psum (pck sd fd w (n - w) so) k) + (hyp w (n - w) so k)) (j)))))), (x1, .inr (2, [.ref y1])), (y1, .inl (cL, 8, .inr (.inl (fun j => lN (dg 1000000000 (ch n so) (j)))))), (x2, .inr (2, [.ref y2])), (y2, .inl (cL, 8, .inr (.inl (fun j => lN (dg 1000000000 (hyp w (n - w) so k) (j))))))]) hP hD hS hA [1, 2, 5, 6] [0, 3, 4] [0, 3, 4, 1, 2, 5, 6] rfl rfl (by decide) (by decide) (fun _ => rfl) (by decide) (va_runV (As := [.ref x2]) (rest := []) ⟨hx, hb, hml, hown, hts⟩ (c_add l D cI cL cM H.size x0 y0 (psum (pck sd fd w (n - w) so) k) x2 y2 (hyp w (n - w) so k)) (cwV 1 hts gX1_weigh_X2_add rfl rfl rfl (by decide +kernel) ⟨Nat.le_of_ble_eq_true rfl, Nat.le_of_ble_eq_true rfl⟩) (k_preV hP hD hK [1, 2, 5, 6] rfl (by decide) 0 rfl rfl rfl) rfl rfl hl.1 rfl (lv_room (Nat.le_of_ble_eq_true rfl)) dX1_weigh_108 ⟨Nat.le_of_ble_eq_true rfl, Nat.le_of_ble_eq_true rfl⟩) (fun _ H locs hw hP hD hS => ?_)
            have hP : va_P D vwCl [(h0, .inr (1, [.ref x0, .ref x1, .ref x2])), (x0, .inr (2, [.ref y0])), (y0, .inl (cL, 8, .inr (.inl (fun j => lN (dg 1000000000 (psum (pck sd fd w (n - w) so) (k + 1)) (j)))))), (x1, .inr (2, [.ref y1])), (y1, .inl (cL, 8, .inr (.inl (fun j => lN (dg 1000000000 (ch n so) (j)))))), (x2, .inr (2, [.ref y2])), (y2, .inl (cL, 8, .inr (.inl (fun j => lN (dg 1000000000 (hyp w (n - w) so k) (j))))))] H := P_altL _ hP 2 rfl rfl (fun j _ => congrArg (fun z => lN (dg 1000000000 z j)) (show psum (pck sd fd w (n - w) so) k + hyp w (n - w) so k = psum (pck sd fd w (n - w) so) (k + 1) by show _ = psum (pck sd fd w (n - w) so) k + pck sd fd w (n - w) so k; rw [pck, if_pos hcn]))
            have hD : va_D A [(h0, .inr (1, [.ref x0, .ref x1, .ref x2])), (x0, .inr (2, [.ref y0])), (y0, .inl (cL, 8, .inr (.inl (fun j => lN (dg 1000000000 (psum (pck sd fd w (n - w) so) (k + 1)) (j)))))), (x1, .inr (2, [.ref y1])), (y1, .inl (cL, 8, .inr (.inl (fun j => lN (dg 1000000000 (ch n so) (j)))))), (x2, .inr (2, [.ref y2])), (y2, .inl (cL, 8, .inr (.inl (fun j => lN (dg 1000000000 (hyp w (n - w) so k) (j))))))] := D_alt hD (q0 := 2) rfl rfl
            exact J_7 _ _ _ (P_pick hP [0, 1, 2, 3, 4, 5, 6] rfl) (D_pick hD [0, 1, 2, 3, 4, 5, 6] (by decide) rfl) hS (lv_sub hl [0, 1, 2, 3, 4, 5, 6, 7, 8, 9] rfl)
        · refine lv_iload hx hb dX1_weigh_83 (lv_at hl 9 rfl) ?_
          refine lv_iload hx hb dX1_weigh_85 (lv_at hl 4 rfl) ?_
          refine lv_icmp_gt (tgt := 111) hx hb dX1_weigh_87 (by decide) (fun c_13 => ?_) (fun c_13 => ?_)
          · have hcn : ¬ cnd sd fd k = true := by rw [cnd, if_pos c_10]; exact fun h => Int32.not_le.mpr c_13 (of_decide_eq_true h)
            have hP : va_P D vwCl [(h0, .inr (1, [.ref x0, .ref x1, .ref x2])), (x0, .inr (2, [.ref y0])), (y0, .inl (cL, 8, .inr (.inl (fun j => lN (dg 1000000000 (psum (pck sd fd w (n - w) so) (k + 1)) (j)))))), (x1, .inr (2, [.ref y1])), (y1, .inl (cL, 8, .inr (.inl (fun j => lN (dg 1000000000 (ch n so) (j)))))), (x2, .inr (2, [.ref y2])), (y2, .inl (cL, 8, .inr (.inl (fun j => lN (dg 1000000000 (hyp w (n - w) so k) (j))))))] H := P_altL _ hP 2 rfl rfl (fun j _ => congrArg (fun z => lN (dg 1000000000 z j)) (show psum (pck sd fd w (n - w) so) k = psum (pck sd fd w (n - w) so) (k + 1) by show _ = psum (pck sd fd w (n - w) so) k + pck sd fd w (n - w) so k; rw [pck, if_neg hcn, Nat.add_zero]))
            have hD : va_D A [(h0, .inr (1, [.ref x0, .ref x1, .ref x2])), (x0, .inr (2, [.ref y0])), (y0, .inl (cL, 8, .inr (.inl (fun j => lN (dg 1000000000 (psum (pck sd fd w (n - w) so) (k + 1)) (j)))))), (x1, .inr (2, [.ref y1])), (y1, .inl (cL, 8, .inr (.inl (fun j => lN (dg 1000000000 (ch n so) (j)))))), (x2, .inr (2, [.ref y2])), (y2, .inl (cL, 8, .inr (.inl (fun j => lN (dg 1000000000 (hyp w (n - w) so k) (j))))))] := D_alt hD (q0 := 2) rfl rfl
            exact J_7 _ _ _ (P_pick hP [0, 1, 2, 3, 4, 5, 6] rfl) (D_pick hD [0, 1, 2, 3, 4, 5, 6] (by decide) rfl) hS (lv_sub hl [0, 1, 2, 3, 4, 5, 6, 7, 8, 9] rfl)
          · have hcn : cnd sd fd k = true := by rw [cnd, if_pos c_10]; exact decide_eq_true (i32_nlt c_13)
            refine lv_goto (tgt := 100) hx hb dX1_weigh_90 (by decide) ?_
            refine lv_aload_n hx hb dX1_weigh_100 rfl (lv_at hl 0 rfl) ?_
            refine va_get (D := D) (cl := vwCl) (ci := 1) (v := .ref x0) (C := RX1) (T := TX1) (N := 3) hx hb hts in_X1_weigh_X1 hown hK hP 0 rfl rfl 0 (by decide) (hts (.fieldLink RX1 12 "BulkSamples$Odds" "asked" "LBulkSamples$Whole;") fl_X1_weigh_12) (fun _ h9 => h9) rfl dX1_weigh_101 ?_
            refine lv_aload_n hx hb dX1_weigh_104 rfl (lv_at hl 0 rfl) ?_
            refine va_get (D := D) (cl := vwCl) (ci := 1) (v := .ref x2) (C := RX1) (T := TX1) (N := 3) hx hb hts in_X1_weigh_X1 hown hK hP 0 rfl rfl 2 (by decide) (hts (.fieldLink RX1 21 "BulkSamples$Odds" "ways" "LBulkSamples$Whole;") fl_X1_weigh_21) (fun _ h9 => h9) rfl dX1_weigh_105 ?_
            refine k_callv (wc := [(x0, .inr (2, [.ref y0])), (y0, .inl (cL, 8, .inr (.inl (fun j => lN (dg 1000000000 (psum (pck sd fd w (n - w) so) k) (j)))))), (x2, .inr (2, [.ref y2])), (y2, .inl (cL, 8, .inr (.inl (fun j => lN (dg 1000000000 (hyp w (n - w) so k) (j))))))]) (wr := [(h0, .inr (1, [.ref x0, .ref x1, .ref x2])), (x1, .inr (2, [.ref y1])), (y1, .inl (cL, 8, .inr (.inl (fun j => lN (dg 1000000000 (ch n so) (j))))))]) (W1 := fun _ => [(h0, .inr (1, [.ref x0, .ref x1, .ref x2])), (x0, .inr (2, [.ref y0])), (y0, .inl (cL, 8, .inr (.inl (fun j => lN (dg 1000000000 ((psum (pck sd fd w (n - w) so) k) + (hyp w (n - w) so k)) (j)))))), (x1, .inr (2, [.ref y1])), (y1, .inl (cL, 8, .inr (.inl (fun j => lN (dg 1000000000 (ch n so) (j)))))), (x2, .inr (2, [.ref y2])), (y2, .inl (cL, 8, .inr (.inl (fun j => lN (dg 1000000000 (hyp w (n - w) so k) (j))))))]) hP hD hS hA [1, 2, 5, 6] [0, 3, 4] [0, 3, 4, 1, 2, 5, 6] rfl rfl (by decide) (by decide) (fun _ => rfl) (by decide) (va_runV (As := [.ref x2]) (rest := []) ⟨hx, hb, hml, hown, hts⟩ (c_add l D cI cL cM H.size x0 y0 (psum (pck sd fd w (n - w) so) k) x2 y2 (hyp w (n - w) so k)) (cwV 1 hts gX1_weigh_X2_add rfl rfl rfl (by decide +kernel) ⟨Nat.le_of_ble_eq_true rfl, Nat.le_of_ble_eq_true rfl⟩) (k_preV hP hD hK [1, 2, 5, 6] rfl (by decide) 0 rfl rfl rfl) rfl rfl hl.1 rfl (lv_room (Nat.le_of_ble_eq_true rfl)) dX1_weigh_108 ⟨Nat.le_of_ble_eq_true rfl, Nat.le_of_ble_eq_true rfl⟩) (fun _ H locs hw hP hD hS => ?_)
            have hP : va_P D vwCl [(h0, .inr (1, [.ref x0, .ref x1, .ref x2])), (x0, .inr (2, [.ref y0])), (y0, .inl (cL, 8, .inr (.inl (fun j => lN (dg 1000000000 (psum (pck sd fd w (n - w) so) (k + 1)) (j)))))), (x1, .inr (2, [.ref y1])), (y1, .inl (cL, 8, .inr (.inl (fun j => lN (dg 1000000000 (ch n so) (j)))))), (x2, .inr (2, [.ref y2])), (y2, .inl (cL, 8, .inr (.inl (fun j => lN (dg 1000000000 (hyp w (n - w) so k) (j))))))] H := P_altL _ hP 2 rfl rfl (fun j _ => congrArg (fun z => lN (dg 1000000000 z j)) (show psum (pck sd fd w (n - w) so) k + hyp w (n - w) so k = psum (pck sd fd w (n - w) so) (k + 1) by show _ = psum (pck sd fd w (n - w) so) k + pck sd fd w (n - w) so k; rw [pck, if_pos hcn]))
            have hD : va_D A [(h0, .inr (1, [.ref x0, .ref x1, .ref x2])), (x0, .inr (2, [.ref y0])), (y0, .inl (cL, 8, .inr (.inl (fun j => lN (dg 1000000000 (psum (pck sd fd w (n - w) so) (k + 1)) (j)))))), (x1, .inr (2, [.ref y1])), (y1, .inl (cL, 8, .inr (.inl (fun j => lN (dg 1000000000 (ch n so) (j)))))), (x2, .inr (2, [.ref y2])), (y2, .inl (cL, 8, .inr (.inl (fun j => lN (dg 1000000000 (hyp w (n - w) so k) (j))))))] := D_alt hD (q0 := 2) rfl rfl
            exact J_7 _ _ _ (P_pick hP [0, 1, 2, 3, 4, 5, 6] rfl) (D_pick hD [0, 1, 2, 3, 4, 5, 6] (by decide) rfl) hS (lv_sub hl [0, 1, 2, 3, 4, 5, 6, 7, 8, 9] rfl)
    exact L_4 ((min w so + 1) - (so - (n - w))) (so - (n - w)) (by omega) (by omega) _ _ _ (P_pick hP [0, 1, 2, 3, 4, 5, 6] rfl) (D_pick hD [0, 1, 2, 3, 4, 5, 6] (by decide) rfl) hS (lv_sub hl [1, 2, 3, 4, 5, 6, 7, 8, 9, 0] rfl)
  refine lv_iload hx hb dX1_weigh_31 (lv_at hl 1 rfl) ?_
  refine n_if_ne (tgt := 49) hx hb (by omega) dX1_weigh_33 (by decide) (fun c_15 => ?_) (fun c_15 => ?_)
  · refine lv_aload_n hx hb dX1_weigh_49 rfl (lv_at hl 3 rfl) ?_
    refine va_get (D := D) (cl := vwCl) (ci := 1) (v := .ref x2) (C := RX1) (T := TX1) (N := 3) hx hb hts in_X1_weigh_X1 hown hK hP 0 rfl rfl 2 (by decide) (hts (.fieldLink RX1 21 "BulkSamples$Odds" "ways" "LBulkSamples$Whole;") fl_X1_weigh_21) (fun _ h9 => h9) rfl dX1_weigh_50 ?_
    refine lv_iload_n hx hb dX1_weigh_53 rfl (lv_at hl 5 rfl) ?_
    refine lv_iload hx hb dX1_weigh_54 (lv_at hl 1 rfl) ?_
    refine k_callv (wc := [(x2, .inr (2, [.ref y2])), (y2, .inl (cL, 8, .inr (.inl (fun j => lN (dg 1000000000 W0 (j))))))]) (wr := [(h0, .inr (1, [.ref x0, .ref x1, .ref x2])), (x0, .inr (2, [.ref y0])), (y0, .inl (cL, 8, .inr (.inl (fun j => lN (dg 1000000000 a0 (j)))))), (x1, .inr (2, [.ref y1])), (y1, .inl (cL, 8, .inr (.inl (fun j => lN (dg 1000000000 (ch n so) (j))))))]) (W1 := fun _ => [(h0, .inr (1, [.ref x0, .ref x1, .ref x2])), (x0, .inr (2, [.ref y0])), (y0, .inl (cL, 8, .inr (.inl (fun j => lN (dg 1000000000 a0 (j)))))), (x1, .inr (2, [.ref y1])), (y1, .inl (cL, 8, .inr (.inl (fun j => lN (dg 1000000000 (ch n so) (j)))))), (x2, .inr (2, [.ref y2])), (y2, .inl (cL, 8, .inr (.inl (fun j => lN (dg 1000000000 (ch w (so - (n - w))) (j))))))]) hP hD hS hA [5, 6] [0, 1, 2, 3, 4] [0, 1, 2, 3, 4, 5, 6] rfl rfl (by decide) (by decide) (fun _ => rfl) (by decide) (va_runV (As := [.int (nI (w)), .int (nI (so - (n - w)))]) (rest := []) ⟨hx, hb, hml, hown, hts⟩ (c_cho l D cI cL cM H.size x2 y2 W0 w (so - (n - w)) (by omega) (by omega)) (cwV 2 hts gX1_weigh_X2_setChoices rfl rfl rfl (by decide +kernel) ⟨Nat.le_of_ble_eq_true rfl, Nat.le_of_ble_eq_true rfl⟩) (k_preV hP hD hK [5, 6] rfl (by decide) 0 rfl rfl rfl) rfl rfl hl.1 rfl (lv_room (Nat.le_of_ble_eq_true rfl)) dX1_weigh_56 ⟨Nat.le_of_ble_eq_true rfl, Nat.le_of_ble_eq_true rfl⟩) (fun _ H locs hw hP hD hS => ?_)
    have hP : va_P D vwCl [(h0, .inr (1, [.ref x0, .ref x1, .ref x2])), (x0, .inr (2, [.ref y0])), (y0, .inl (cL, 8, .inr (.inl (fun j => lN (dg 1000000000 a0 (j)))))), (x1, .inr (2, [.ref y1])), (y1, .inl (cL, 8, .inr (.inl (fun j => lN (dg 1000000000 (ch n so) (j)))))), (x2, .inr (2, [.ref y2])), (y2, .inl (cL, 8, .inr (.inl (fun j => lN (dg 1000000000 (hyp w (n - w) so (so - (n - w))) (j))))))] H := P_altL _ hP 6 rfl rfl (fun j _ => congrArg (fun z => lN (dg 1000000000 z j)) (show ch w (so - (n - w)) = hyp w (n - w) so (so - (n - w)) by rw [hyp, if_pos (by omega), show so - (so - (n - w)) = n - w by omega, ch_self, Nat.mul_one]))
    have hD : va_D A [(h0, .inr (1, [.ref x0, .ref x1, .ref x2])), (x0, .inr (2, [.ref y0])), (y0, .inl (cL, 8, .inr (.inl (fun j => lN (dg 1000000000 a0 (j)))))), (x1, .inr (2, [.ref y1])), (y1, .inl (cL, 8, .inr (.inl (fun j => lN (dg 1000000000 (ch n so) (j)))))), (x2, .inr (2, [.ref y2])), (y2, .inl (cL, 8, .inr (.inl (fun j => lN (dg 1000000000 (hyp w (n - w) so (so - (n - w))) (j))))))] := D_alt hD (q0 := 6) rfl rfl
    exact J_2 _ _ _ (P_pick hP [0, 1, 2, 3, 4, 5, 6] rfl) (D_pick hD [0, 1, 2, 3, 4, 5, 6] (by decide) rfl) hS (lv_sub hl [3, 4, 5, 6, 7, 8, 2, 1, 0] rfl)
  · refine lv_aload_n hx hb dX1_weigh_36 rfl (lv_at hl 3 rfl) ?_
    refine va_get (D := D) (cl := vwCl) (ci := 1) (v := .ref x2) (C := RX1) (T := TX1) (N := 3) hx hb hts in_X1_weigh_X1 hown hK hP 0 rfl rfl 2 (by decide) (hts (.fieldLink RX1 21 "BulkSamples$Odds" "ways" "LBulkSamples$Whole;") fl_X1_weigh_21) (fun _ h9 => h9) rfl dX1_weigh_37 ?_
    refine lv_iload hx hb dX1_weigh_40 (lv_at hl 2 rfl) ?_
    refine lv_iload_n hx hb dX1_weigh_42 rfl (lv_at hl 6 rfl) ?_
    refine k_callv (wc := [(x2, .inr (2, [.ref y2])), (y2, .inl (cL, 8, .inr (.inl (fun j => lN (dg 1000000000 W0 (j))))))]) (wr := [(h0, .inr (1, [.ref x0, .ref x1, .ref x2])), (x0, .inr (2, [.ref y0])), (y0, .inl (cL, 8, .inr (.inl (fun j => lN (dg 1000000000 a0 (j)))))), (x1, .inr (2, [.ref y1])), (y1, .inl (cL, 8, .inr (.inl (fun j => lN (dg 1000000000 (ch n so) (j))))))]) (W1 := fun _ => [(h0, .inr (1, [.ref x0, .ref x1, .ref x2])), (x0, .inr (2, [.ref y0])), (y0, .inl (cL, 8, .inr (.inl (fun j => lN (dg 1000000000 a0 (j)))))), (x1, .inr (2, [.ref y1])), (y1, .inl (cL, 8, .inr (.inl (fun j => lN (dg 1000000000 (ch n so) (j)))))), (x2, .inr (2, [.ref y2])), (y2, .inl (cL, 8, .inr (.inl (fun j => lN (dg 1000000000 (ch (n - w) so) (j))))))]) hP hD hS hA [5, 6] [0, 1, 2, 3, 4] [0, 1, 2, 3, 4, 5, 6] rfl rfl (by decide) (by decide) (fun _ => rfl) (by decide) (va_runV (As := [.int (nI (n - w)), .int (nI (so))]) (rest := []) ⟨hx, hb, hml, hown, hts⟩ (c_cho l D cI cL cM H.size x2 y2 W0 (n - w) so (by omega) (by omega)) (cwV 2 hts gX1_weigh_X2_setChoices rfl rfl rfl (by decide +kernel) ⟨Nat.le_of_ble_eq_true rfl, Nat.le_of_ble_eq_true rfl⟩) (k_preV hP hD hK [5, 6] rfl (by decide) 0 rfl rfl rfl) rfl rfl hl.1 rfl (lv_room (Nat.le_of_ble_eq_true rfl)) dX1_weigh_43 ⟨Nat.le_of_ble_eq_true rfl, Nat.le_of_ble_eq_true rfl⟩) (fun _ H locs hw hP hD hS => ?_)
    have hP : va_P D vwCl [(h0, .inr (1, [.ref x0, .ref x1, .ref x2])), (x0, .inr (2, [.ref y0])), (y0, .inl (cL, 8, .inr (.inl (fun j => lN (dg 1000000000 a0 (j)))))), (x1, .inr (2, [.ref y1])), (y1, .inl (cL, 8, .inr (.inl (fun j => lN (dg 1000000000 (ch n so) (j)))))), (x2, .inr (2, [.ref y2])), (y2, .inl (cL, 8, .inr (.inl (fun j => lN (dg 1000000000 (hyp w (n - w) so (so - (n - w))) (j))))))] H := P_altL _ hP 6 rfl rfl (fun j _ => congrArg (fun z => lN (dg 1000000000 z j)) (show ch (n - w) so = hyp w (n - w) so (so - (n - w)) by rw [show so - (n - w) = 0 by omega, hyp, if_pos (by omega), ch_0, Nat.sub_zero, Nat.one_mul]))
    have hD : va_D A [(h0, .inr (1, [.ref x0, .ref x1, .ref x2])), (x0, .inr (2, [.ref y0])), (y0, .inl (cL, 8, .inr (.inl (fun j => lN (dg 1000000000 a0 (j)))))), (x1, .inr (2, [.ref y1])), (y1, .inl (cL, 8, .inr (.inl (fun j => lN (dg 1000000000 (ch n so) (j)))))), (x2, .inr (2, [.ref y2])), (y2, .inl (cL, 8, .inr (.inl (fun j => lN (dg 1000000000 (hyp w (n - w) so (so - (n - w))) (j))))))] := D_alt hD (q0 := 6) rfl rfl
    refine lv_goto (tgt := 59) hx hb dX1_weigh_46 (by decide) ?_
    exact J_2 _ _ _ (P_pick hP [0, 1, 2, 3, 4, 5, 6] rfl) (D_pick hD [0, 1, 2, 3, 4, 5, 6] (by decide) rfl) hS (lv_sub hl [3, 4, 5, 6, 7, 8, 2, 1, 0] rfl)
end
section
/-! class Mailing; the small methods of BulkSamples -/
def fnd (mf : Nat → Option Nat) (x : Int32) : Option Nat := if x < nI 1 then none else if x ≤ nI 20 then mf (x.toNatClampNeg - 1) else none
theorem rngI {x : Int32} {N : Nat} (hN : N < 2 ^ 31) (h1 : ¬ x < nI 1) (h2 : x ≤ nI N) : ∃ k : Nat, k < N ∧ x = nI (k + 1) := by
  have a := Int32.le_iff_toInt_le.mp h2
  rw [nI_toInt hN] at a
  have b : ¬ x.toInt < 1 := fun q => h1 (Int32.lt_iff_toInt_lt.mpr (by rw [nI_toInt (by omega)]; omega))
  refine ⟨x.toInt.toNat - 1, by omega, ?_⟩
  rw [← Int32.toInt_inj, nI_toInt (by omega)]
  omega
theorem rng0 {x : Int32} {N : Nat} (hN : N < 2 ^ 31) (h1 : ¬ x < 0) (h2 : x ≤ nI N) : ∃ k : Nat, k ≤ N ∧ x = nI k := by
  have a := Int32.le_iff_toInt_le.mp h2
  rw [nI_toInt hN] at a
  have b : ¬ x.toInt < 0 := fun q => h1 (Int32.lt_iff_toInt_lt.mpr (by rw [Int32.toInt_zero]; exact q))
  refine ⟨x.toInt.toNat, by omega, ?_⟩
  rw [← Int32.toInt_inj, nI_toInt (by omega)]
  omega
theorem fnd_at (mf : Nat → Option Nat) {k : Nat} (hk : k < 20) : fnd mf (nI (k + 1)) = mf k := by
  unfold fnd
  rw [if_neg (nI_nlt (by omega) (by omega)), if_pos (nI_le (by omega) (by omega)), nI_clamp (by omega), Nat.add_sub_cancel]
section N2
variable {p : Program} {l : Launch} {e : Env} {R : Room} {s : State} {m : MethodId} {args : Array Value} {below : List Frame} {meth : Method} {c : Code} {H : Heap} {locs : List Loc} {cells slots : Nat} {Q : State → Prop}
variable {cc : ByteArray} {pc : Nat} {ls : Array Slot} {rest : List Value} {D : va_G} {cl : List vw_C} {A : Nat → Prop} {tys : List (ClassId × FieldType)} {ws ws' : va_W} {H0 : Heap}
theorem n_aald (hx : p.tables.exec = Jvm.exec) (hb : c.code = cc) (hK : va_K D cl tys s) (hP : va_P D cl ws H) (q0 t0 : Nat) {a : Nat} {cA : ClassId} {n i : Nat} {C : String} {f : Nat → Option Nat} {x : Option Nat} (ha : ws[q0]? = some (a, .inl (cA, n, .inr (.inr (.inr (.inr f)))))) (ht : tys[t0]? = some (cA, .object C)) (hi : i < n) (hn : n < 2 ^ 31) (hxv : f i = x) (hdg : decode cc pc = .ok (.aaload, 1))
    (kk : W p l e R s m args below meth c H locs cells slots Q (F0 m (pc + 1) ls (va_rf x :: rest))) : W p l e R s m args below meth c H locs cells slots Q (F0 m (pc) ls (.int (nI i) :: .ref a :: rest)) :=
  va_aldq hx hb hK hP q0 t0 ha ht (vp_in_nI hi hn) hdg (by rw [nI_clamp (Nat.lt_trans hi hn), hxv]; exact kk)
theorem n_aast (hx : p.tables.exec = Jvm.exec) (hb : c.code = cc) (hK : va_K D cl tys s) (hP : va_P D cl ws H) (hD : va_D A ws) (hS : va_S A H0 H locs) (q0 t0 qk ci : Nat) {a : Nat} {cA : ClassId} {r : vw_C} {n v i : Nat} {vs : List Value} {f : Nat → Option Nat} (f' : Nat → Option Nat) (ha : ws[q0]? = some (a, .inl (cA, n, .inr (.inr (.inr (.inr f)))))) (ht : tys[t0]? = some (cA, .object r.1)) (hv : ws[qk]? = some (v, .inr (ci, vs))) (hc : cl[ci]? = some r) (hi : i < n) (hn : n < 2 ^ 31) (hf : ∀ j, j < n → (if j = i then some v else f j) = f' j) (hw : ws.set q0 (a, .inl (cA, n, .inr (.inr (.inr (.inr f'))))) = ws') (hdg : decode cc pc = .ok (.aastore, 1))
    (kk : ∀ (H1 : Heap) (locs1 : List Loc), va_P D cl ws' H1 → va_D A ws' → va_S A H0 H1 locs1 → W p l e R s m args below meth c H1 locs1 cells slots Q (F0 m (pc + 1) ls (rest))) : W p l e R s m args below meth c H locs cells slots Q (F0 m (pc) ls (.ref v :: .int (nI i) :: .ref a :: rest)) :=
  va_astq hx hb hK hP hD hS q0 t0 qk ci ha ht hv hc (vp_in_nI hi hn) hdg (fun H1 locs1 h1 h2 h3 => kk H1 locs1 (P_altQ f' h1 q0 (List.getElem?_set_self (List.getElem?_eq_some_iff.mp ha).1) (by rw [List.set_set]; exact hw) (fun j hj => by rw [nI_clamp (Nat.lt_trans hi hn)]; exact hf j hj)) (by rw [← hw]; exact hD.set ha) h3)
end N2
def disc (dp : Nat → Nat) : Nat := psum (fun i => i * dp i) 4
theorem in_X0_init_X0 : ∀ w ∈ wsX00, w ∈ wsX0_init := by decide +kernel
theorem fl_X0_init_15 : Cond.fieldLink RX0 15 "BulkSamples$Mailing" "found" "[I" ∈ wsX0_init := by decide +kernel
theorem fl_X0_init_18 : Cond.fieldLink RX0 18 "BulkSamples$Mailing" "items" "I" ∈ wsX0_init := by decide +kernel
theorem fl_X0_init_9 : Cond.fieldLink RX0 9 "BulkSamples$Mailing" "declared" "[I" ∈ wsX0_init := by decide +kernel
set_option maxHeartbeats 4000000 in
set_option maxRecDepth 100000 in
/-- Mailing(items) -/
theorem c_mi (l : Launch) (D : va_G) (cI cL cM : ClassId) (sz : Nat) (h0 k : Nat) : Met l yX0_init wsX0_init ({ frames := 1, cells := 2, slots := 7, locals := 20 } : Room) (va_Pc [.ref h0, .int (nI (k))] (PreB D (gT cI cL cM) sz [(h0, .inr (0, [.int (nI (0)), .null, .null, .int (nI (0))]))])) (va_Qv (fun _ => True) (fun (u : Nat × Nat) => PostB D (gT cI cL cM) (va_A [(h0, .inr (0, [.int (nI (0)), .null, .null, .int (nI (0))]))] sz) [(h0, .inr (0, [.int (nI (k)), .ref u.1, .ref u.2, .int (nI (0))])), (u.1, .inl (cI, 4, .inl (fun j => nI (0)))), (u.2, .inl (cI, 3, .inl (fun j => nI (0))))]) (va_A [(h0, .inr (0, [.int (nI (0)), .null, .null, .int (nI (0))]))] sz)) 2 7 (va_A [(h0, .inr (0, [.int (nI (0)), .null, .null, .int (nI (0))]))] sz) := by
  refine k_start (fun A => (va_Qv (fun _ => True) (fun (u : Nat × Nat) => PostB D (gT cI cL cM) A [(h0, .inr (0, [.int (nI (k)), .ref u.1, .ref u.2, .int (nI (0))])), (u.1, .inl (cI, 4, .inl (fun j => nI (0)))), (u.2, .inl (cI, 3, .inl (fun j => nI (0))))]) A)) (cc := cX0_init) (maxL := 2) (ret := none) (by decide) rfl (Nat.le_of_ble_eq_true rfl) ?_
  intro p e s m below meth c A ls hx hb hr hts hown hlocks hin hml hP hK hD hA hS hl
  have hl : lv_has ls 2 [(0, .ref h0), (1, .int (nI (k)))] := hl
  have hown : s.vm.findClass RX0 = some m.cls := hown
  refine lv_aload_n hx hb dX0_init_0 rfl (lv_at hl 0 rfl) ?_
  refine W.objInit hx hb hown (hts (.methodLink RX0 3 objectInit) (by decide +kernel)) (hts (.instanceMethod objectInit) (by decide +kernel)) (hts (.code objectInit ⟨#[0xb1]⟩ 1 none) (by decide +kernel)) rfl (by rw [hml]; exact hl.1) rfl dX0_init_1 (Nat.le_of_ble_eq_true rfl) (Nat.le_of_ble_eq_true rfl) ?_
  refine W.eq (g2 := F0 m 4 ls []) rfl ?_
  refine lv_aload_n hx hb dX0_init_4 rfl (lv_at hl 0 rfl) ?_
  refine lv_iconst (v := nI (4)) hx hb dX0_init_5 (by decide) ?_
  refine n_newI hx hb (hts (.arrayClass .int) (by decide +kernel)) hK hP hD hS hA (by omega) (by decide) (by decide) dX0_init_6 (fun q_1 H hP hD hS => ?_)
  have hP : va_P D vwCl [(h0, .inr (0, [.int (nI (0)), .null, .null, .int (nI (0))])), (q_1, .inl (cI, 4, .inl (fun j => nI (0))))] H := hP
  have hD : va_D A [(h0, .inr (0, [.int (nI (0)), .null, .null, .int (nI (0))])), (q_1, .inl (cI, 4, .inl (fun j => nI (0))))] := hD
  refine va_putF (D := D) (cl := vwCl) (ci := 0) (v := .ref q_1) (ty := tyX0 1) (C := RX0) (T := TX0) (N := 4) hx hb hts in_X0_init_X0 tyX0 tyX0_ok nmX0 hown hK hP hD hS 0 rfl rfl 1 (by decide) (hts (.fieldLink RX0 9 "BulkSamples$Mailing" "declared" "[I") fl_X0_init_9) (fun _ h9 => h9) rfl hin rfl (by decide +kernel) rfl rfl (Nat.le_of_ble_eq_true rfl) dX0_init_8 (fun H locs hP hD hS => ?_)
  have hP : va_P D vwCl [(h0, .inr (0, [.int (nI (0)), .ref q_1, .null, .int (nI (0))])), (q_1, .inl (cI, 4, .inl (fun j => nI (0))))] H := hP
  have hD : va_D A [(h0, .inr (0, [.int (nI (0)), .ref q_1, .null, .int (nI (0))])), (q_1, .inl (cI, 4, .inl (fun j => nI (0))))] := hD
  refine lv_aload_n hx hb dX0_init_11 rfl (lv_at hl 0 rfl) ?_
  refine lv_iconst (v := nI (3)) hx hb dX0_init_12 (by decide) ?_
  refine n_newI hx hb (hts (.arrayClass .int) (by decide +kernel)) hK hP hD hS hA (by omega) (by decide) (by decide) dX0_init_13 (fun q_2 H hP hD hS => ?_)
  have hP : va_P D vwCl [(h0, .inr (0, [.int (nI (0)), .ref q_1, .null, .int (nI (0))])), (q_1, .inl (cI, 4, .inl (fun j => nI (0)))), (q_2, .inl (cI, 3, .inl (fun j => nI (0))))] H := hP
  have hD : va_D A [(h0, .inr (0, [.int (nI (0)), .ref q_1, .null, .int (nI (0))])), (q_1, .inl (cI, 4, .inl (fun j => nI (0)))), (q_2, .inl (cI, 3, .inl (fun j => nI (0))))] := hD
  refine va_putF (D := D) (cl := vwCl) (ci := 0) (v := .ref q_2) (ty := tyX0 2) (C := RX0) (T := TX0) (N := 4) hx hb hts in_X0_init_X0 tyX0 tyX0_ok nmX0 hown hK hP hD hS 0 rfl rfl 2 (by decide) (hts (.fieldLink RX0 15 "BulkSamples$Mailing" "found" "[I") fl_X0_init_15) (fun _ h9 => h9) rfl hin rfl (by decide +kernel) rfl rfl (Nat.le_of_ble_eq_true rfl) dX0_init_15 (fun H locs hP hD hS => ?_)
  have hP : va_P D vwCl [(h0, .inr (0, [.int (nI (0)), .ref q_1, .ref q_2, .int (nI (0))])), (q_1, .inl (cI, 4, .inl (fun j => nI (0)))), (q_2, .inl (cI, 3, .inl (fun j => nI (0))))] H := hP
  have hD : va_D A [(h0, .inr (0, [.int (nI (0)), .ref q_1, .ref q_2, .int (nI (0))])), (q_1, .inl (cI, 4, .inl (fun j => nI (0)))), (q_2, .inl (cI, 3, .inl (fun j => nI (0))))] := hD
  refine lv_aload_n hx hb dX0_init_18 rfl (lv_at hl 0 rfl) ?_
  refine lv_iload_n hx hb dX0_init_19 rfl (lv_at hl 1 rfl) ?_
  refine va_putF (D := D) (cl := vwCl) (ci := 0) (v := .int (nI (k))) (ty := tyX0 0) (C := RX0) (T := TX0) (N := 4) hx hb hts in_X0_init_X0 tyX0 tyX0_ok nmX0 hown hK hP hD hS 0 rfl rfl 0 (by decide) (hts (.fieldLink RX0 18 "BulkSamples$Mailing" "items" "I") fl_X0_init_18) (fun _ h9 => h9) rfl hin rfl (by decide +kernel) rfl rfl (Nat.le_of_ble_eq_true rfl) dX0_init_20 (fun H locs hP hD hS => ?_)
  have hP : va_P D vwCl [(h0, .inr (0, [.int (nI (k)), .ref q_1, .ref q_2, .int (nI (0))])), (q_1, .inl (cI, 4, .inl (fun j => nI (0)))), (q_2, .inl (cI, 3, .inl (fun j => nI (0))))] H := hP
  have hD : va_D A [(h0, .inr (0, [.int (nI (k)), .ref q_1, .ref q_2, .int (nI (0))])), (q_1, .inl (cI, 4, .inl (fun j => nI (0)))), (q_2, .inl (cI, 3, .inl (fun j => nI (0))))] := hD
  refine W.widen (k := 2) (n := 7) (Nat.le_of_ble_eq_true rfl) (Nat.le_of_ble_eq_true rfl) ?_
  exact k_vret hx hb hr hlocks hP hD hK hS [0, 1, 2] (q_1, q_2) rfl (by decide) trivial dX0_init_23
theorem in_X0_isSampled_X0 : ∀ w ∈ wsX00, w ∈ wsX0_isSampled := by decide +kernel
theorem fl_X0_isSampled_22 : Cond.fieldLink RX0 22 "BulkSamples$Mailing" "drawn" "I" ∈ wsX0_isSampled := by decide +kernel
set_option maxHeartbeats 4000000 in
set_option maxRecDepth 100000 in
/-- isSampled -/
theorem c_samp (l : Launch) (D : va_G) (cI cL cM : ClassId) (sz : Nat) (h0 ad af it dr : Nat) (hdr : dr ≤ 200) : Met l yX0_isSampled wsX0_isSampled ({ frames := 0, cells := 0, slots := 0, locals := 0 } : Room) (va_Pc [.ref h0] (PreB D (gT cI cL cM) sz [(h0, .inr (0, [.int (nI (it)), .ref ad, .ref af, .int (nI (dr))]))])) (va_Qi (fun r _ => r = nI (b2 (0 < dr))) (fun (_ : Unit) => PostB D (gT cI cL cM) (va_A [(h0, .inr (0, [.int (nI (it)), .ref ad, .ref af, .int (nI (dr))]))] sz) [(h0, .inr (0, [.int (nI (it)), .ref ad, .ref af, .int (nI (dr))]))]) (va_A [(h0, .inr (0, [.int (nI (it)), .ref ad, .ref af, .int (nI (dr))]))] sz)) 0 0 (va_A [(h0, .inr (0, [.int (nI (it)), .ref ad, .ref af, .int (nI (dr))]))] sz) := by
  refine k_start (fun A => (va_Qi (fun r _ => r = nI (b2 (0 < dr))) (fun (_ : Unit) => PostB D (gT cI cL cM) A [(h0, .inr (0, [.int (nI (it)), .ref ad, .ref af, .int (nI (dr))]))]) A)) (cc := cX0_isSampled) (maxL := 1) (ret := (some .boolean)) (by decide) rfl (Nat.le_of_ble_eq_true rfl) ?_
  intro p e s m below meth c A ls hx hb hr hts hown hlocks hin hml hP hK hD hA hS hl
  have hl : lv_has ls 1 [(0, .ref h0)] := hl
  have hown : s.vm.findClass RX0 = some m.cls := hown
  refine lv_aload_n hx hb dX0_isSampled_0 rfl (lv_at hl 0 rfl) ?_
  refine va_get (D := D) (cl := vwCl) (ci := 0) (v := .int (nI (dr))) (C := RX0) (T := TX0) (N := 4) hx hb hts in_X0_isSampled_X0 hown hK hP 0 rfl rfl 3 (by decide) (hts (.fieldLink RX0 22 "BulkSamples$Mailing" "drawn" "I") fl_X0_isSampled_22) (fun _ h9 => h9) rfl dX0_isSampled_1 ?_
  refine n_if_le (tgt := 11) hx hb (by omega) dX0_isSampled_4 (by decide) (fun c_1 => ?_) (fun c_1 => ?_)
  · refine lv_iconst (v := nI (0)) hx hb dX0_isSampled_11 (by decide) ?_
    exact k_zret (v := nI (0)) hx hb hr rfl hlocks hP hD hK hS [0] () rfl (by decide) (by rw [b2_f (by omega)]) dX0_isSampled_12
  · refine lv_iconst (v := nI (1)) hx hb dX0_isSampled_7 (by decide) ?_
    refine lv_goto (tgt := 12) hx hb dX0_isSampled_8 (by decide) ?_
    exact k_zret (v := nI (1)) hx hb hr rfl hlocks hP hD hK hS [0] () rfl (by decide) (by rw [b2_t (by omega)]) dX0_isSampled_12
theorem in_X0_discount_X0 : ∀ w ∈ wsX00, w ∈ wsX0_discount := by decide +kernel
theorem fl_X0_discount_9 : Cond.fieldLink RX0 9 "BulkSamples$Mailing" "declared" "[I" ∈ wsX0_discount := by decide +kernel
set_option maxHeartbeats 4000000 in
set_option maxRecDepth 100000 in
/-- discount -/
theorem c_disc (l : Launch) (D : va_G) (cI cL cM : ClassId) (sz : Nat) (h0 ad af it dr : Nat) (dp : Nat → Nat) (hdp : ∀ i, i < 4 → dp i ≤ 200) : Met l yX0_discount wsX0_discount ({ frames := 0, cells := 0, slots := 0, locals := 0 } : Room) (va_Pc [.ref h0] (PreB D (gT cI cL cM) sz [(h0, .inr (0, [.int (nI (it)), .ref ad, .ref af, .int (nI (dr))])), (ad, .inl (cI, 4, .inl (fun j => nI (dp j))))])) (va_Ql (fun r _ => r = lN (disc dp)) (fun (_ : Unit) => PostB D (gT cI cL cM) (va_A [(h0, .inr (0, [.int (nI (it)), .ref ad, .ref af, .int (nI (dr))])), (ad, .inl (cI, 4, .inl (fun j => nI (dp j))))] sz) [(h0, .inr (0, [.int (nI (it)), .ref ad, .ref af, .int (nI (dr))])), (ad, .inl (cI, 4, .inl (fun j => nI (dp j))))]) (va_A [(h0, .inr (0, [.int (nI (it)), .ref ad, .ref af, .int (nI (dr))])), (ad, .inl (cI, 4, .inl (fun j => nI (dp j))))] sz)) 0 0 (va_A [(h0, .inr (0, [.int (nI (it)), .ref ad, .ref af, .int (nI (dr))])), (ad, .inl (cI, 4, .inl (fun j => nI (dp j))))] sz) := by
  refine k_start (fun A => (va_Ql (fun r _ => r = lN (disc dp)) (fun (_ : Unit) => PostB D (gT cI cL cM) A [(h0, .inr (0, [.int (nI (it)), .ref ad, .ref af, .int (nI (dr))])), (ad, .inl (cI, 4, .inl (fun j => nI (dp j))))]) A)) (cc := cX0_discount) (maxL := 4) (ret := (some .long)) (by decide) rfl (Nat.le_of_ble_eq_true rfl) ?_
  intro p e s m below meth c A ls hx hb hr hts hown hlocks hin hml hP hK hD hA hS hl
  have hl : lv_has ls 4 [(0, .ref h0)] := hl
  have hown : s.vm.findClass RX0 = some m.cls := hown
  refine lv_lconst (v := lN (psum (fun i => i * dp i) 0)) hx hb dX0_discount_0 rfl ?_
  refine lv_lstore_n (lv' := [(1, .long (lN (psum (fun i => i * dp i) 0))), (0, .ref h0)]) hx hb dX0_discount_1 rfl hl (by decide) rfl (fun ls hl => ?_)
  refine lv_iconst (v := nI (0)) hx hb dX0_discount_2 (by decide) ?_
  refine lv_istore_n (lv' := [(3, .int (nI (0))), (1, .long (lN (psum (fun i => i * dp i) 0))), (0, .ref h0)]) hx hb dX0_discount_3 rfl hl (by decide) rfl (fun ls hl => ?_)
  have L_1 : ∀ (nn9 i : Nat), i + nn9 = 4 → ∀ (H : Heap) (locs : List Loc) (ls : Array Slot), va_P D vwCl [(h0, .inr (0, [.int (nI (it)), .ref ad, .ref af, .int (nI (dr))])), (ad, .inl (cI, 4, .inl (fun j => nI (dp j))))] H → va_D A [(h0, .inr (0, [.int (nI (it)), .ref ad, .ref af, .int (nI (dr))])), (ad, .inl (cI, 4, .inl (fun j => nI (dp j))))] → va_S A s.heap H locs → lv_has ls 4 [(0, .ref h0), (1, .long (lN (psum (fun i => i * dp i) i))), (3, .int (nI (i)))] → W p l e ({ frames := 0, cells := 0, slots := 0, locals := 0 } : Room) s m (List.toArray [.ref h0]) below meth c H locs 0 0 (MQ below (va_Ql (fun r _ => r = lN (disc dp)) (fun (_ : Unit) => PostB D (gT cI cL cM) A [(h0, .inr (0, [.int (nI (it)), .ref ad, .ref af, .int (nI (dr))])), (ad, .inl (cI, 4, .inl (fun j => nI (dp j))))]) A) (List.toArray [.ref h0]) s 0 0 A) (F0 m 4 ls []) := by
    intro nn9
    induction nn9 with
    | zero =>
      intro i hii H locs ls hP hD hS hl
      obtain rfl : 4 = i := by omega
      refine lv_iload_n hx hb dX0_discount_4 rfl (lv_at hl 2 rfl) ?_
      refine lv_aload_n hx hb dX0_discount_5 rfl (lv_at hl 0 rfl) ?_
      refine va_get (D := D) (cl := vwCl) (ci := 0) (v := .ref ad) (C := RX0) (T := TX0) (N := 4) hx hb hts in_X0_discount_X0 hown hK hP 0 rfl rfl 1 (by decide) (hts (.fieldLink RX0 9 "BulkSamples$Mailing" "declared" "[I") fl_X0_discount_9) (fun _ h9 => h9) rfl dX0_discount_6 ?_
      refine va_alen (v := nI (4)) hx hb hK hP 1 0 rfl rfl rfl dX0_discount_9 ?_
      refine n_icmp_ge (tgt := 32) hx hb (by omega) (by omega) dX0_discount_10 (by decide) (fun c_2 => ?_) (fun c_2 => False.elim (by omega))
      refine lv_lload_n hx hb dX0_discount_32 rfl (lv_at hl 1 rfl) ?_
      exact k_lret (v := lN (psum (fun i => i * dp i) 4)) hx hb hr hlocks hP hD hK hS [0, 1] () rfl (by decide) rfl dX0_discount_33
    | succ nn9 ih =>
      intro i hii H locs ls hP hD hS hl
      refine lv_iload_n hx hb dX0_discount_4 rfl (lv_at hl 2 rfl) ?_
      refine lv_aload_n hx hb dX0_discount_5 rfl (lv_at hl 0 rfl) ?_
      refine va_get (D := D) (cl := vwCl) (ci := 0) (v := .ref ad) (C := RX0) (T := TX0) (N := 4) hx hb hts in_X0_discount_X0 hown hK hP 0 rfl rfl 1 (by decide) (hts (.fieldLink RX0 9 "BulkSamples$Mailing" "declared" "[I") fl_X0_discount_9) (fun _ h9 => h9) rfl dX0_discount_6 ?_
      refine va_alen (v := nI (4)) hx hb hK hP 1 0 rfl rfl rfl dX0_discount_9 ?_
      refine n_icmp_ge (tgt := 32) hx hb (by omega) (by omega) dX0_discount_10 (by decide) (fun c_3 => False.elim (by omega)) (fun c_3 => ?_)
      refine lv_lload_n hx hb dX0_discount_13 rfl (lv_at hl 1 rfl) ?_
      refine lv_iload_n hx hb dX0_discount_14 rfl (lv_at hl 2 rfl) ?_
      refine n_i2l hx hb (by omega) dX0_discount_15 ?_
      refine lv_aload_n hx hb dX0_discount_16 rfl (lv_at hl 0 rfl) ?_
      refine va_get (D := D) (cl := vwCl) (ci := 0) (v := .ref ad) (C := RX0) (T := TX0) (N := 4) hx hb hts in_X0_discount_X0 hown hK hP 0 rfl rfl 1 (by decide) (hts (.fieldLink RX0 9 "BulkSamples$Mailing" "declared" "[I") fl_X0_discount_9) (fun _ h9 => h9) rfl dX0_discount_17 ?_
      refine lv_iload_n hx hb dX0_discount_20 rfl (lv_at hl 2 rfl) ?_
      refine n_iald (x := nI (dp i)) hx hb hK hP 1 0 rfl rfl (by omega) (by omega) rfl dX0_discount_21 ?_
      refine n_i2l hx hb (Nat.lt_of_le_of_lt (hdp i (by omega)) (by omega)) dX0_discount_22 ?_
      refine n_lmul (r := i * (dp i)) hx hb dX0_discount_23 rfl ?_
      refine n_ladd (r := (psum (fun i => i * dp i) i) + (i * (dp i))) hx hb dX0_discount_24 rfl ?_
      refine lv_lstore_n (lv' := [(1, .long (lN ((psum (fun i => i * dp i) i) + (i * (dp i))))), (0, .ref h0), (3, .int (nI (i)))]) hx hb dX0_discount_25 rfl hl (by decide) rfl (fun ls hl => ?_)
      refine lv_iinc (v := nI (i + 1)) (lv' := [(3, .int (nI (i + 1))), (1, .long (lN ((psum (fun i => i * dp i) i) + (i * (dp i))))), (0, .ref h0)]) hx hb dX0_discount_26 hl (k := 2) rfl (nI_add i 1) (by decide) rfl (fun ls hl => ?_)
      refine lv_goto (tgt := 4) hx hb dX0_discount_29 (by decide) ?_
      exact ih (i + 1) (by omega) _ _ _ (P_pick hP [0, 1] rfl) (D_pick hD [0, 1] (by decide) rfl) hS (lv_sub hl [2, 1, 0] rfl)
  exact L_1 4 0 (by omega) _ _ _ (P_pick hP [0, 1] rfl) (D_pick hD [0, 1] (by decide) rfl) hS (lv_sub hl [2, 1, 0] rfl)
set_option maxHeartbeats 4000000 in
set_option maxRecDepth 100000 in
/-- sum -/
theorem c_sum (l : Launch) (D : va_G) (cI cL cM : ClassId) (sz : Nat) (h0 N : Nat) (f : Nat → Nat) (hN : N < 65536) : Met l yX3_sum wsX3_sum ({ frames := 0, cells := 0, slots := 0, locals := 0 } : Room) (va_Pc [.ref h0] (PreB D (gT cI cL cM) sz [(h0, .inl (cI, N, .inl (fun j => nI (f j))))])) (va_Qi (fun r _ => r = nI (psum f N)) (fun (_ : Unit) => PostB D (gT cI cL cM) (va_A [(h0, .inl (cI, N, .inl (fun j => nI (f j))))] sz) [(h0, .inl (cI, N, .inl (fun j => nI (f j))))]) (va_A [(h0, .inl (cI, N, .inl (fun j => nI (f j))))] sz)) 0 0 (va_A [(h0, .inl (cI, N, .inl (fun j => nI (f j))))] sz) := by
  refine k_start (fun A => (va_Qi (fun r _ => r = nI (psum f N)) (fun (_ : Unit) => PostB D (gT cI cL cM) A [(h0, .inl (cI, N, .inl (fun j => nI (f j))))]) A)) (cc := cX3_sum) (maxL := 3) (ret := (some .int)) (by decide) rfl (Nat.le_of_ble_eq_true rfl) ?_
  intro p e s m below meth c A ls hx hb hr hts hown hlocks hin hml hP hK hD hA hS hl
  have hl : lv_has ls 3 [(0, .ref h0)] := hl
  have hown : s.vm.findClass RX3 = some m.cls := hown
  refine lv_iconst (v := nI (psum f 0)) hx hb dX3_sum_0 rfl ?_
  refine lv_istore_n (lv' := [(1, .int (nI (psum f 0))), (0, .ref h0)]) hx hb dX3_sum_1 rfl hl (by decide) rfl (fun ls hl => ?_)
  refine lv_iconst (v := nI (0)) hx hb dX3_sum_2 (by decide) ?_
  refine lv_istore_n (lv' := [(2, .int (nI (0))), (1, .int (nI (psum f 0))), (0, .ref h0)]) hx hb dX3_sum_3 rfl hl (by decide) rfl (fun ls hl => ?_)
  have L_1 : ∀ (nn9 i : Nat), i + nn9 = N → ∀ (H : Heap) (locs : List Loc) (ls : Array Slot), va_P D vwCl [(h0, .inl (cI, N, .inl (fun j => nI (f j))))] H → va_D A [(h0, .inl (cI, N, .inl (fun j => nI (f j))))] → va_S A s.heap H locs → lv_has ls 3 [(0, .ref h0), (1, .int (nI (psum f i))), (2, .int (nI (i)))] → W p l e ({ frames := 0, cells := 0, slots := 0, locals := 0 } : Room) s m (List.toArray [.ref h0]) below meth c H locs 0 0 (MQ below (va_Qi (fun r _ => r = nI (psum f N)) (fun (_ : Unit) => PostB D (gT cI cL cM) A [(h0, .inl (cI, N, .inl (fun j => nI (f j))))]) A) (List.toArray [.ref h0]) s 0 0 A) (F0 m 4 ls []) := by
    intro nn9
    induction nn9 with
    | zero =>
      intro i hii H locs ls hP hD hS hl
      obtain rfl : N = i := by omega
      refine lv_iload_n hx hb dX3_sum_4 rfl (lv_at hl 2 rfl) ?_
      refine lv_aload_n hx hb dX3_sum_5 rfl (lv_at hl 0 rfl) ?_
      refine va_alen (v := nI (N)) hx hb hK hP 0 0 rfl rfl rfl dX3_sum_6 ?_
      refine n_icmp_ge (tgt := 22) hx hb (by omega) (by omega) dX3_sum_7 (by decide) (fun c_2 => ?_) (fun c_2 => False.elim (by omega))
      refine lv_iload_n hx hb dX3_sum_22 rfl (lv_at hl 1 rfl) ?_
      exact k_iret (v := nI (psum f N)) hx hb hr hlocks hP hD hK hS [0] () rfl (by decide) rfl dX3_sum_23
    | succ nn9 ih =>
      intro i hii H locs ls hP hD hS hl
      refine lv_iload_n hx hb dX3_sum_4 rfl (lv_at hl 2 rfl) ?_
      refine lv_aload_n hx hb dX3_sum_5 rfl (lv_at hl 0 rfl) ?_
      refine va_alen (v := nI (N)) hx hb hK hP 0 0 rfl rfl rfl dX3_sum_6 ?_
      refine n_icmp_ge (tgt := 22) hx hb (by omega) (by omega) dX3_sum_7 (by decide) (fun c_3 => False.elim (by omega)) (fun c_3 => ?_)
      refine lv_iload_n hx hb dX3_sum_10 rfl (lv_at hl 1 rfl) ?_
      refine lv_aload_n hx hb dX3_sum_11 rfl (lv_at hl 0 rfl) ?_
      refine lv_iload_n hx hb dX3_sum_12 rfl (lv_at hl 2 rfl) ?_
      refine n_iald (x := nI (f i)) hx hb hK hP 0 0 rfl rfl (by omega) (by omega) rfl dX3_sum_13 ?_
      refine n_iadd (r := (psum f i) + (f i)) hx hb dX3_sum_14 rfl ?_
      refine lv_istore_n (lv' := [(1, .int (nI ((psum f i) + (f i)))), (0, .ref h0), (2, .int (nI (i)))]) hx hb dX3_sum_15 rfl hl (by decide) rfl (fun ls hl => ?_)
      refine lv_iinc (v := nI (i + 1)) (lv' := [(2, .int (nI (i + 1))), (1, .int (nI ((psum f i) + (f i)))), (0, .ref h0)]) hx hb dX3_sum_16 hl (k := 2) rfl (nI_add i 1) (by decide) rfl (fun ls hl => ?_)
      refine lv_goto (tgt := 4) hx hb dX3_sum_19 (by decide) ?_
      exact ih (i + 1) (by omega) _ _ _ (P_pick hP [0] rfl) (D_pick hD [0] (by decide) rfl) hS (lv_sub hl [2, 1, 0] rfl)
  exact L_1 N 0 (by omega) _ _ _ (P_pick hP [0] rfl) (D_pick hD [0] (by decide) rfl) hS (lv_sub hl [2, 1, 0] rfl)
theorem in_X3_find_X3 : ∀ w ∈ wsX30, w ∈ wsX3_find := by decide +kernel
theorem fl_X3_find_11 : Cond.fieldLink RX3 11 "BulkSamples" "mailings" "[LBulkSamples$Mailing;" ∈ wsX3_find := by decide +kernel
set_option maxHeartbeats 4000000 in
set_option maxRecDepth 100000 in
/-- find -/
theorem c_find (l : Launch) (D : va_G) (cI cL cM : ClassId) (sz : Nat) (h0 xM xP xG xO cnt te tr : Nat) (mf : Nat → Option Nat) (x : Int32) : Met l yX3_find wsX3_find ({ frames := 0, cells := 0, slots := 0, locals := 0 } : Room) (va_Pc [.ref h0, .int x] (PreB D (gT cI cL cM) sz [(h0, .inr (3, [.ref xM, .ref xP, .ref xG, .ref xO, .int (nI (cnt)), .int (nI (te)), .int (nI (tr))])), (xM, .inl (cM, 20, .inr (.inr (.inr (.inr (mf))))))])) (va_Qq (fun r _ => r = fnd mf x) (fun (_ : Unit) => PostB D (gT cI cL cM) (va_A [(h0, .inr (3, [.ref xM, .ref xP, .ref xG, .ref xO, .int (nI (cnt)), .int (nI (te)), .int (nI (tr))])), (xM, .inl (cM, 20, .inr (.inr (.inr (.inr (mf))))))] sz) [(h0, .inr (3, [.ref xM, .ref xP, .ref xG, .ref xO, .int (nI (cnt)), .int (nI (te)), .int (nI (tr))])), (xM, .inl (cM, 20, .inr (.inr (.inr (.inr (mf))))))]) (va_A [(h0, .inr (3, [.ref xM, .ref xP, .ref xG, .ref xO, .int (nI (cnt)), .int (nI (te)), .int (nI (tr))])), (xM, .inl (cM, 20, .inr (.inr (.inr (.inr (mf))))))] sz)) 0 0 (va_A [(h0, .inr (3, [.ref xM, .ref xP, .ref xG, .ref xO, .int (nI (cnt)), .int (nI (te)), .int (nI (tr))])), (xM, .inl (cM, 20, .inr (.inr (.inr (.inr (mf))))))] sz) := by
  refine k_start (fun A => (va_Qq (fun r _ => r = fnd mf x) (fun (_ : Unit) => PostB D (gT cI cL cM) A [(h0, .inr (3, [.ref xM, .ref xP, .ref xG, .ref xO, .int (nI (cnt)), .int (nI (te)), .int (nI (tr))])), (xM, .inl (cM, 20, .inr (.inr (.inr (.inr (mf))))))]) A)) (cc := cX3_find) (maxL := 2) (ret := (some (.object "BulkSamples$Mailing"))) (by decide) rfl (Nat.le_of_ble_eq_true rfl) ?_
  intro p e s m below meth c A ls hx hb hr hts hown hlocks hin hml hP hK hD hA hS hl
  have hl : lv_has ls 2 [(0, .ref h0), (1, .int x)] := hl
  have hown : s.vm.findClass RX3 = some m.cls := hown
  refine lv_iload_n hx hb dX3_find_0 rfl (lv_at hl 1 rfl) ?_
  refine lv_iconst (v := nI (1)) hx hb dX3_find_1 (by decide) ?_
  refine lv_icmp_lt (tgt := 11) hx hb dX3_find_2 (by decide) (fun c_1 => ?_) (fun c_1 => ?_)
  · have hf : fnd mf x = none := by rw [fnd, if_pos c_1]
    refine lv_null hx hb dX3_find_11 ?_
    exact k_qret (v := none) hx hb hr (Or.inl ⟨_, rfl⟩) hlocks hP hD hK hS [0, 1] () rfl (by decide) (hf.symm) dX3_find_12
  · refine lv_iload_n hx hb dX3_find_5 rfl (lv_at hl 1 rfl) ?_
    refine lv_bipush (v := nI (20)) hx hb dX3_find_6 (by decide) ?_
    refine lv_icmp_le (tgt := 13) hx hb dX3_find_8 (by decide) (fun c_2 => ?_) (fun c_2 => ?_)
    · have hf := rngI (N := 20) (by omega) c_1 c_2
      obtain ⟨k, hk, rfl⟩ := hf
      refine lv_aload_n hx hb dX3_find_13 rfl (lv_at hl 0 rfl) ?_
      refine va_get (D := D) (cl := vwCl) (ci := 3) (v := .ref xM) (C := RX3) (T := TX3) (N := 7) hx hb hts in_X3_find_X3 hown hK hP 0 rfl rfl 0 (by decide) (hts (.fieldLink RX3 11 "BulkSamples" "mailings" "[LBulkSamples$Mailing;") fl_X3_find_11) (fun _ h9 => h9) rfl dX3_find_14 ?_
      refine lv_iload_n hx hb dX3_find_17 rfl (lv_at hl 1 rfl) ?_
      refine lv_iconst (v := nI (1)) hx hb dX3_find_18 (by decide) ?_
      refine n_isub (r := k) hx hb dX3_find_19 (by omega) (by omega) ?_
      refine n_aald (x := mf k) hx hb hK hP 1 2 rfl rfl hk (by omega) rfl dX3_find_20 ?_
      exact k_qret (v := mf k) hx hb hr (Or.inl ⟨_, rfl⟩) hlocks hP hD hK hS [0, 1] () rfl (by decide) ((fnd_at mf hk).symm) dX3_find_21
    · have hf : fnd mf x = none := by rw [fnd, if_neg c_1, if_neg c_2]
      refine lv_null hx hb dX3_find_11 ?_
      exact k_qret (v := none) hx hb hr (Or.inl ⟨_, rfl⟩) hlocks hP hD hK hS [0, 1] () rfl (by decide) (hf.symm) dX3_find_12
end
section
/-! class BulkSamples: the methods without chances -/
theorem psum_ge (f : Nat → Nat) {j N : Nat} (h : j < N) : f j ≤ psum f N := by
  have h1 := psum_mono f (j + 1) (N - (j + 1))
  rw [show j + 1 + (N - (j + 1)) = N by omega] at h1
  have h2 : psum f (j + 1) = psum f j + f j := rfl
  omega
/-- a number put at a place of N, all of them cap at most; bl: it is not the time -/
def slR (N cap : Nat) (bl : Bool) (f : Nat → Nat) (j k : Nat) : Int32 := if cap < psum f N - f j + k then -12 else if bl then -13 else nI (psum f N - f j + k)
def slF (N cap : Nat) (bl : Bool) (f : Nat → Nat) (j k : Nat) : Nat → Nat := fun i => if cap < psum f N - f j + k then f i else if bl then f i else if i = j then k else f i
def saT (it dr te k : Nat) : Nat := if 0 < dr then 0 else if te < min k it then 0 else min k it
def saR (it dr te k : Nat) : Int32 := if 0 < dr then -13 else if te < min k it then -14 else nI (min k it)
def plG (go g : Nat) : Nat := if g = 0 then 0 else if g = 1 then (if go + 1 = 3 then 0 else go + 1) else go
def plP (pl go g : Nat) : Nat := if g = 0 then min (pl + 10) 60 else if g = 1 then (if go + 1 = 3 then max (pl - 5) 5 else pl) else pl
section N3
variable {p : Program} {l : Launch} {e : Env} {R : Room} {s : State} {m : MethodId} {args : Array Value} {below : List Frame} {meth : Method} {c : Code} {H : Heap} {locs : List Loc} {cells slots : Nat} {Q : State → Prop}
variable {cc : ByteArray} {pc : Nat} {ls : Array Slot} {rest : List Value} {D : va_G} {cl : List vw_C} {A : Nat → Prop} {tys : List (ClassId × FieldType)} {ws ws' : va_W} {H0 : Heap}
theorem n_newQ {cI cL cM : ClassId} (hx : p.tables.exec = Jvm.exec) (hb : c.code = cc) {own : String} {index : Nat} (hown : s.vm.findClass own = some m.cls) (hclink : (Cond.classLink own index RX0).before args s = true) (hover : va_AO RX0 s) (hK : va_K D cl (gT cI cL cM) s) (hP : va_P D cl ws H) (hD : va_D A ws) (hS : va_S A H0 H locs) (hA : ∀ q, H0.size ≤ q → A q) {n : Nat} (hn : n < 65536) (hcells : cells + 1 ≤ R.cells) (hslots : slots + n ≤ R.slots) (hdg : decode cc pc = .ok (.anewarray index, 3))
    (kk : ∀ (q : Nat) (H1 : Heap), va_P D cl (ws ++ [(q, .inl (cM, n, .inr (.inr (.inr (.inr (fun _ => none))))))]) H1 → va_D A (ws ++ [(q, .inl (cM, n, .inr (.inr (.inr (.inr (fun _ => none))))))]) → va_S A H0 H1 locs → W p l e R s m args below meth c H1 locs (cells + 1) (slots + n) Q (F0 m (pc + 3) ls (.ref q :: rest))) : W p l e R s m args below meth c H locs cells slots Q (F0 m (pc) ls (.int (nI n) :: rest)) :=
  va_newq hx hb hown hclink hover hK hP hD hS hA (nI_pos (by omega)) (nI_clamp (by omega)) (by omega) hcells hslots hdg (fun q cA H1 k1 h1 h2 h3 => by
    obtain rfl : cM = cA := K_one k1 (i := 2) (j := 3) rfl rfl
    exact kk q H1 h1 h2 h3)
end N3
abbrev eX3 : State → Prop := fun U => va_Nw (.methodLinkNest RX1 11 yX2_init RX3) U ∧ va_Nw (.methodLinkNest RX3 24 yX1_init RX3) U ∧ va_AO RX0 U
theorem slF_no {N cap : Nat} {bl : Bool} {f : Nat → Nat} {j k : Nat} (h : cap < psum f N - f j + k ∨ bl = true) (i : Nat) : slF N cap bl f j k i = f i := by
  unfold slF
  rcases h with h | h
  · rw [if_pos h]
  · rw [h]; split <;> rfl
theorem slF_ok {N cap : Nat} {bl : Bool} {f : Nat → Nat} {j k : Nat} (h : ¬ cap < psum f N - f j + k) (h2 : bl = false) (i : Nat) : slF N cap bl f j k i = if i = j then k else f i := by
  unfold slF
  rw [if_neg h, h2, if_neg (by decide)]
theorem in_X3_mailing_X0 : ∀ w ∈ wsX00, w ∈ wsX3_mailing := by decide +kernel
theorem in_X3_mailing_X3 : ∀ w ∈ wsX30, w ∈ wsX3_mailing := by decide +kernel
theorem fl_X3_mailing_11 : Cond.fieldLink RX3 11 "BulkSamples" "mailings" "[LBulkSamples$Mailing;" ∈ wsX3_mailing := by decide +kernel
theorem fl_X3_mailing_33 : Cond.fieldLink RX3 33 "BulkSamples" "mailingCount" "I" ∈ wsX3_mailing := by decide +kernel
set_option maxHeartbeats 4000000 in
set_option maxRecDepth 100000 in
/-- mailing: OUTSIDE -/
theorem c_m_bad (l : Launch) (D : va_G) (cI cL cM : ClassId) (sz : Nat) (h0 xM xP xG xO cnt te tr : Nat) (mf : Nat → Option Nat) (x : Int32) (hbad : x < 0 ∨ nI 200 < x) : Met l yX3_mailing wsX3_mailing ({ frames := 2, cells := 3, slots := 11, locals := 60 } : Room) (va_Pc [.ref h0, .int x] (PreB D (gT cI cL cM) sz [(h0, .inr (3, [.ref xM, .ref xP, .ref xG, .ref xO, .int (nI (cnt)), .int (nI (te)), .int (nI (tr))])), (xM, .inl (cM, 20, .inr (.inr (.inr (.inr (mf))))))])) (va_Qi (fun r _ => r = -12) (fun (_ : Unit) => PostB D (gT cI cL cM) (va_A [(h0, .inr (3, [.ref xM, .ref xP, .ref xG, .ref xO, .int (nI (cnt)), .int (nI (te)), .int (nI (tr))])), (xM, .inl (cM, 20, .inr (.inr (.inr (.inr (mf))))))] sz) [(h0, .inr (3, [.ref xM, .ref xP, .ref xG, .ref xO, .int (nI (cnt)), .int (nI (te)), .int (nI (tr))])), (xM, .inl (cM, 20, .inr (.inr (.inr (.inr (mf))))))]) (va_A [(h0, .inr (3, [.ref xM, .ref xP, .ref xG, .ref xO, .int (nI (cnt)), .int (nI (te)), .int (nI (tr))])), (xM, .inl (cM, 20, .inr (.inr (.inr (.inr (mf))))))] sz)) 3 11 (va_A [(h0, .inr (3, [.ref xM, .ref xP, .ref xG, .ref xO, .int (nI (cnt)), .int (nI (te)), .int (nI (tr))])), (xM, .inl (cM, 20, .inr (.inr (.inr (.inr (mf))))))] sz) := by
  refine k_start (fun A => (va_Qi (fun r _ => r = -12) (fun (_ : Unit) => PostB D (gT cI cL cM) A [(h0, .inr (3, [.ref xM, .ref xP, .ref xG, .ref xO, .int (nI (cnt)), .int (nI (te)), .int (nI (tr))])), (xM, .inl (cM, 20, .inr (.inr (.inr (.inr (mf))))))]) A)) (cc := cX3_mailing) (maxL := 2) (ret := (some .int)) (by decide) rfl (Nat.le_of_ble_eq_true rfl) ?_
  intro p e s m below meth c A ls hx hb hr hts hown hlocks hin hml hP hK hD hA hS hl
  have hl : lv_has ls 2 [(0, .ref h0), (1, .int x)] := hl
  have hown : s.vm.findClass RX3 = some m.cls := hown
  refine lv_iload_n hx hb dX3_mailing_0 rfl (lv_at hl 1 rfl) ?_
  refine lv_if_lt (tgt := 11) hx hb dX3_mailing_1 (by decide) (fun c_1 => ?_) (fun c_1 => ?_)
  · refine lv_bipush (v := (-12)) hx hb dX3_mailing_11 (by decide) ?_
    refine W.widen (k := 3) (n := 11) (Nat.le_of_ble_eq_true rfl) (Nat.le_of_ble_eq_true rfl) ?_
    exact k_iret (v := (-12)) hx hb hr hlocks hP hD hK hS [0, 1] () rfl (by decide) rfl dX3_mailing_13
  · have h200 : nI 200 < x := hbad.resolve_left c_1
    refine lv_iload_n hx hb dX3_mailing_4 rfl (lv_at hl 1 rfl) ?_
    refine lv_sipush (v := nI (200)) hx hb dX3_mailing_5 (by decide) ?_
    refine lv_icmp_le (tgt := 14) hx hb dX3_mailing_8 (by decide) (fun c => absurd h200 (Int32.not_lt.mpr c)) (fun c_2 => ?_)
    refine lv_bipush (v := (-12)) hx hb dX3_mailing_11 (by decide) ?_
    refine W.widen (k := 3) (n := 11) (Nat.le_of_ble_eq_true rfl) (Nat.le_of_ble_eq_true rfl) ?_
    exact k_iret (v := (-12)) hx hb hr hlocks hP hD hK hS [0, 1] () rfl (by decide) rfl dX3_mailing_13
set_option maxHeartbeats 4000000 in
set_option maxRecDepth 100000 in
/-- mailing: none, or ROOM -/
theorem c_m_no (l : Launch) (D : va_G) (cI cL cM : ClassId) (sz : Nat) (h0 xM xP xG xO cnt te tr : Nat) (mf : Nat → Option Nat) (k : Nat) (hk : k ≤ 200) (hno : k = 0 ∨ cnt = 20) (hc : cnt ≤ 20) : Met l yX3_mailing wsX3_mailing ({ frames := 2, cells := 3, slots := 11, locals := 60 } : Room) (va_Pc [.ref h0, .int (nI (k))] (PreB D (gT cI cL cM) sz [(h0, .inr (3, [.ref xM, .ref xP, .ref xG, .ref xO, .int (nI (cnt)), .int (nI (te)), .int (nI (tr))])), (xM, .inl (cM, 20, .inr (.inr (.inr (.inr (mf))))))])) (va_Qi (fun r _ => r = if k = 0 then nI 0 else -14) (fun (_ : Unit) => PostB D (gT cI cL cM) (va_A [(h0, .inr (3, [.ref xM, .ref xP, .ref xG, .ref xO, .int (nI (cnt)), .int (nI (te)), .int (nI (tr))])), (xM, .inl (cM, 20, .inr (.inr (.inr (.inr (mf))))))] sz) [(h0, .inr (3, [.ref xM, .ref xP, .ref xG, .ref xO, .int (nI (cnt)), .int (nI (te)), .int (nI (tr))])), (xM, .inl (cM, 20, .inr (.inr (.inr (.inr (mf))))))]) (va_A [(h0, .inr (3, [.ref xM, .ref xP, .ref xG, .ref xO, .int (nI (cnt)), .int (nI (te)), .int (nI (tr))])), (xM, .inl (cM, 20, .inr (.inr (.inr (.inr (mf))))))] sz)) 3 11 (va_A [(h0, .inr (3, [.ref xM, .ref xP, .ref xG, .ref xO, .int (nI (cnt)), .int (nI (te)), .int (nI (tr))])), (xM, .inl (cM, 20, .inr (.inr (.inr (.inr (mf))))))] sz) := by
  refine k_start (fun A => (va_Qi (fun r _ => r = if k = 0 then nI 0 else -14) (fun (_ : Unit) => PostB D (gT cI cL cM) A [(h0, .inr (3, [.ref xM, .ref xP, .ref xG, .ref xO, .int (nI (cnt)), .int (nI (te)), .int (nI (tr))])), (xM, .inl (cM, 20, .inr (.inr (.inr (.inr (mf))))))]) A)) (cc := cX3_mailing) (maxL := 2) (ret := (some .int)) (by decide) rfl (Nat.le_of_ble_eq_true rfl) ?_
  intro p e s m below meth c A ls hx hb hr hts hown hlocks hin hml hP hK hD hA hS hl
  have hl : lv_has ls 2 [(0, .ref h0), (1, .int (nI (k)))] := hl
  have hown : s.vm.findClass RX3 = some m.cls := hown
  refine lv_iload_n hx hb dX3_mailing_0 rfl (lv_at hl 1 rfl) ?_
  refine n_if_lt (tgt := 11) hx hb (by omega) dX3_mailing_1 (by decide) ?_
  refine lv_iload_n hx hb dX3_mailing_4 rfl (lv_at hl 1 rfl) ?_
  refine lv_sipush (v := nI (200)) hx hb dX3_mailing_5 (by decide) ?_
  refine n_icmp_le (tgt := 14) hx hb (by omega) (by omega) dX3_mailing_8 (by decide) (fun c_2 => ?_) (fun c_2 => False.elim (by omega))
  refine lv_iload_n hx hb dX3_mailing_14 rfl (lv_at hl 1 rfl) ?_
  refine n_if_ne (tgt := 20) hx hb (by omega) dX3_mailing_15 (by decide) (fun c_3 => ?_) (fun c_3 => ?_)
  · refine lv_aload_n hx hb dX3_mailing_20 rfl (lv_at hl 0 rfl) ?_
    refine va_get (D := D) (cl := vwCl) (ci := 3) (v := .int (nI (cnt))) (C := RX3) (T := TX3) (N := 7) hx hb hts in_X3_mailing_X3 hown hK hP 0 rfl rfl 4 (by decide) (hts (.fieldLink RX3 33 "BulkSamples" "mailingCount" "I") fl_X3_mailing_33) (fun _ h9 => h9) rfl dX3_mailing_21 ?_
    refine lv_bipush (v := nI (20)) hx hb dX3_mailing_24 (by decide) ?_
    refine n_icmp_lt (tgt := 32) hx hb (by omega) (by omega) dX3_mailing_26 (by decide) (fun c_4 => False.elim (by omega)) (fun c_4 => ?_)
    refine lv_bipush (v := (-14)) hx hb dX3_mailing_29 (by decide) ?_
    refine W.widen (k := 3) (n := 11) (Nat.le_of_ble_eq_true rfl) (Nat.le_of_ble_eq_true rfl) ?_
    exact k_iret (v := (-14)) hx hb hr hlocks hP hD hK hS [0, 1] () rfl (by decide) (by rw [if_neg (by omega)]) dX3_mailing_31
  · refine lv_iconst (v := nI (0)) hx hb dX3_mailing_18 (by decide) ?_
    refine W.widen (k := 3) (n := 11) (Nat.le_of_ble_eq_true rfl) (Nat.le_of_ble_eq_true rfl) ?_
    exact k_iret (v := nI (0)) hx hb hr hlocks hP hD hK hS [0, 1] () rfl (by decide) (by rw [if_pos (by omega)]) dX3_mailing_19
set_option maxHeartbeats 4000000 in
set_option maxRecDepth 100000 in
/-- mailing: a new one -/
theorem c_m_ok (l : Launch) (D : va_G) (cI cL cM : ClassId) (sz : Nat) (h0 xM xP xG xO cnt te tr : Nat) (mf : Nat → Option Nat) (k : Nat) (hk : k ≤ 200) (hk0 : 0 < k) (hc : cnt < 20) : Met l yX3_mailing wsX3_mailing ({ frames := 2, cells := 3, slots := 11, locals := 41 } : Room) (va_Pc [.ref h0, .int (nI (k))] (PreB D (gT cI cL cM) sz [(h0, .inr (3, [.ref xM, .ref xP, .ref xG, .ref xO, .int (nI (cnt)), .int (nI (te)), .int (nI (tr))])), (xM, .inl (cM, 20, .inr (.inr (.inr (.inr (mf))))))])) (va_Qi (fun r _ => r = nI (cnt + 1)) (fun (u : Nat × Nat × Nat) => PostB D (gT cI cL cM) (va_A [(h0, .inr (3, [.ref xM, .ref xP, .ref xG, .ref xO, .int (nI (cnt)), .int (nI (te)), .int (nI (tr))])), (xM, .inl (cM, 20, .inr (.inr (.inr (.inr (mf))))))] sz) [(h0, .inr (3, [.ref xM, .ref xP, .ref xG, .ref xO, .int (nI (cnt + 1)), .int (nI (te)), .int (nI (tr))])), (xM, .inl (cM, 20, .inr (.inr (.inr (.inr (fun j => if j = cnt then some (u.1) else mf j)))))), (u.1, .inr (0, [.int (nI (k)), .ref u.2.1, .ref u.2.2, .int (nI (0))])), (u.2.1, .inl (cI, 4, .inl (fun j => nI (0)))), (u.2.2, .inl (cI, 3, .inl (fun j => nI (0))))]) (va_A [(h0, .inr (3, [.ref xM, .ref xP, .ref xG, .ref xO, .int (nI (cnt)), .int (nI (te)), .int (nI (tr))])), (xM, .inl (cM, 20, .inr (.inr (.inr (.inr (mf))))))] sz)) 3 11 (va_A [(h0, .inr (3, [.ref xM, .ref xP, .ref xG, .ref xO, .int (nI (cnt)), .int (nI (te)), .int (nI (tr))])), (xM, .inl (cM, 20, .inr (.inr (.inr (.inr (mf))))))] sz) := by
  refine k_start (fun A => (va_Qi (fun r _ => r = nI (cnt + 1)) (fun (u : Nat × Nat × Nat) => PostB D (gT cI cL cM) A [(h0, .inr (3, [.ref xM, .ref xP, .ref xG, .ref xO, .int (nI (cnt + 1)), .int (nI (te)), .int (nI (tr))])), (xM, .inl (cM, 20, .inr (.inr (.inr (.inr (fun j => if j = cnt then some (u.1) else mf j)))))), (u.1, .inr (0, [.int (nI (k)), .ref u.2.1, .ref u.2.2, .int (nI (0))])), (u.2.1, .inl (cI, 4, .inl (fun j => nI (0)))), (u.2.2, .inl (cI, 3, .inl (fun j => nI (0))))]) A)) (cc := cX3_mailing) (maxL := 2) (ret := (some .int)) (by decide) rfl (Nat.le_of_ble_eq_true rfl) ?_
  intro p e s m below meth c A ls hx hb hr hts hown hlocks hin hml hP hK hD hA hS hl
  have hl : lv_has ls 2 [(0, .ref h0), (1, .int (nI (k)))] := hl
  have hown : s.vm.findClass RX3 = some m.cls := hown
  refine lv_iload_n hx hb dX3_mailing_0 rfl (lv_at hl 1 rfl) ?_
  refine n_if_lt (tgt := 11) hx hb (by omega) dX3_mailing_1 (by decide) ?_
  refine lv_iload_n hx hb dX3_mailing_4 rfl (lv_at hl 1 rfl) ?_
  refine lv_sipush (v := nI (200)) hx hb dX3_mailing_5 (by decide) ?_
  refine n_icmp_le (tgt := 14) hx hb (by omega) (by omega) dX3_mailing_8 (by decide) (fun c_2 => ?_) (fun c_2 => False.elim (by omega))
  refine lv_iload_n hx hb dX3_mailing_14 rfl (lv_at hl 1 rfl) ?_
  refine n_if_ne (tgt := 20) hx hb (by omega) dX3_mailing_15 (by decide) (fun c_3 => ?_) (fun c_3 => False.elim (by omega))
  refine lv_aload_n hx hb dX3_mailing_20 rfl (lv_at hl 0 rfl) ?_
  refine va_get (D := D) (cl := vwCl) (ci := 3) (v := .int (nI (cnt))) (C := RX3) (T := TX3) (N := 7) hx hb hts in_X3_mailing_X3 hown hK hP 0 rfl rfl 4 (by decide) (hts (.fieldLink RX3 33 "BulkSamples" "mailingCount" "I") fl_X3_mailing_33) (fun _ h9 => h9) rfl dX3_mailing_21 ?_
  refine lv_bipush (v := nI (20)) hx hb dX3_mailing_24 (by decide) ?_
  refine n_icmp_lt (tgt := 32) hx hb (by omega) (by omega) dX3_mailing_26 (by decide) (fun c_4 => ?_) (fun c_4 => False.elim (by omega))
  refine lv_aload_n hx hb dX3_mailing_32 rfl (lv_at hl 0 rfl) ?_
  refine va_get (D := D) (cl := vwCl) (ci := 3) (v := .ref xM) (C := RX3) (T := TX3) (N := 7) hx hb hts in_X3_mailing_X3 hown hK hP 0 rfl rfl 0 (by decide) (hts (.fieldLink RX3 11 "BulkSamples" "mailings" "[LBulkSamples$Mailing;") fl_X3_mailing_11) (fun _ h9 => h9) rfl dX3_mailing_33 ?_
  refine lv_aload_n hx hb dX3_mailing_36 rfl (lv_at hl 0 rfl) ?_
  refine va_get (D := D) (cl := vwCl) (ci := 3) (v := .int (nI (cnt))) (C := RX3) (T := TX3) (N := 7) hx hb hts in_X3_mailing_X3 hown hK hP 0 rfl rfl 4 (by decide) (hts (.fieldLink RX3 33 "BulkSamples" "mailingCount" "I") fl_X3_mailing_33) (fun _ h9 => h9) rfl dX3_mailing_37 ?_
  refine va_new (D := D) (cl := vwCl) (ci := 0) (fs := [.int (nI (0)), .null, .null, .int (nI (0))]) (C := RX0) (T := TX0) (N := 4) hx hb hts in_X3_mailing_X0 tyX0 tyX0_ok hown (hts (.classLink RX3 9 RX0) (by decide +kernel)) (hts (.instantiable RX0 4) (by decide +kernel)) (hts (.initialized RX0) (by decide +kernel)) hK hP hD hS hA rfl (fun j hj => by rcases (show j = 0 ∨ j = 1 ∨ j = 2 ∨ j = 3 by omega) with rfl | rfl | rfl | rfl <;> rfl) (by decide) (by decide) dX3_mailing_40 (fun q_5 H hP hD hS => ?_)
  have hP : va_P D vwCl [(h0, .inr (3, [.ref xM, .ref xP, .ref xG, .ref xO, .int (nI (cnt)), .int (nI (te)), .int (nI (tr))])), (xM, .inl (cM, 20, .inr (.inr (.inr (.inr (mf)))))), (q_5, .inr (0, [.int (nI (0)), .null, .null, .int (nI (0))]))] H := hP
  have hD : va_D A [(h0, .inr (3, [.ref xM, .ref xP, .ref xG, .ref xO, .int (nI (cnt)), .int (nI (te)), .int (nI (tr))])), (xM, .inl (cM, 20, .inr (.inr (.inr (.inr (mf)))))), (q_5, .inr (0, [.int (nI (0)), .null, .null, .int (nI (0))]))] := hD
  refine lv_dup hx hb dX3_mailing_43 rfl ?_
  refine lv_iload_n hx hb dX3_mailing_44 rfl (lv_at hl 1 rfl) ?_
  refine k_callv (wc := [(q_5, .inr (0, [.int (nI (0)), .null, .null, .int (nI (0))]))]) (wr := [(h0, .inr (3, [.ref xM, .ref xP, .ref xG, .ref xO, .int (nI (cnt)), .int (nI (te)), .int (nI (tr))])), (xM, .inl (cM, 20, .inr (.inr (.inr (.inr (mf))))))]) (W1 := fun u_6 => [(h0, .inr (3, [.ref xM, .ref xP, .ref xG, .ref xO, .int (nI (cnt)), .int (nI (te)), .int (nI (tr))])), (xM, .inl (cM, 20, .inr (.inr (.inr (.inr (mf)))))), (q_5, .inr (0, [.int (nI (k)), .ref u_6.1, .ref u_6.2, .int (nI (0))])), (u_6.1, .inl (cI, 4, .inl (fun j => nI (0)))), (u_6.2, .inl (cI, 3, .inl (fun j => nI (0))))]) hP hD hS hA [2] [0, 1] [0, 1, 2, 3, 4] rfl rfl (by decide) (by decide) (fun _ => rfl) (by decide) (va_runI (As := [.int (nI (k))]) (rest := [.ref q_5, .int (nI (cnt)), .ref xM]) ⟨hx, hb, hml, hown, hts⟩ (c_mi l D cI cL cM H.size q_5 k) (cwI 1 hts gX3_mailing_X0_init rfl rfl rfl (hts (.initialized RX0) (by decide +kernel)) (hts (.methodLink RX3 36 yX0_init) (by decide +kernel)) (hts (.instanceMethod yX0_init) (by decide +kernel)) rfl (by decide +kernel) ⟨Nat.le_of_ble_eq_true rfl, Nat.le_of_ble_eq_true rfl⟩) (k_preS hP hD hK [2] rfl (by decide)) rfl rfl hl.1 rfl (lv_room (Nat.le_of_ble_eq_true rfl)) dX3_mailing_45 ⟨Nat.le_of_ble_eq_true rfl, Nat.le_of_ble_eq_true rfl⟩) (fun u_6 H locs hw hP hD hS => ?_)
  refine n_aast (r := (RX0, TX0, 4)) (f' := fun j => if j = cnt then some (q_5) else mf j) (ws' := [(h0, .inr (3, [.ref xM, .ref xP, .ref xG, .ref xO, .int (nI (cnt)), .int (nI (te)), .int (nI (tr))])), (xM, .inl (cM, 20, .inr (.inr (.inr (.inr (fun j => if j = cnt then some (q_5) else mf j)))))), (q_5, .inr (0, [.int (nI (k)), .ref u_6.1, .ref u_6.2, .int (nI (0))])), (u_6.1, .inl (cI, 4, .inl (fun j => nI (0)))), (u_6.2, .inl (cI, 3, .inl (fun j => nI (0))))]) hx hb hK hP hD hS 1 2 2 0 rfl rfl rfl rfl (by omega) (by omega) (fun j _ => rfl) rfl dX3_mailing_48 (fun H locs hP hD hS => ?_)
  refine lv_aload_n hx hb dX3_mailing_49 rfl (lv_at hl 0 rfl) ?_
  refine lv_dup hx hb dX3_mailing_50 rfl ?_
  refine va_get (D := D) (cl := vwCl) (ci := 3) (v := .int (nI (cnt))) (C := RX3) (T := TX3) (N := 7) hx hb hts in_X3_mailing_X3 hown hK hP 0 rfl rfl 4 (by decide) (hts (.fieldLink RX3 33 "BulkSamples" "mailingCount" "I") fl_X3_mailing_33) (fun _ h9 => h9) rfl dX3_mailing_51 ?_
  refine lv_iconst (v := nI (1)) hx hb dX3_mailing_54 (by decide) ?_
  refine n_iadd (r := cnt + 1) hx hb dX3_mailing_55 rfl ?_
  refine va_put (D := D) (cl := vwCl) (ci := 3) (v := .int (nI (cnt + 1))) (ty := tyX3 4) (C := RX3) (T := TX3) (N := 7) hx hb hts in_X3_mailing_X3 tyX3 tyX3_ok nmX3 hown hK hP hD hS 0 rfl rfl 4 (by decide) (hts (.fieldLink RX3 33 "BulkSamples" "mailingCount" "I") fl_X3_mailing_33) (fun _ h9 => h9) rfl (by decide +kernel) rfl rfl (Nat.le_of_ble_eq_true rfl) dX3_mailing_56 (fun H locs hP hD hS => ?_)
  have hP : va_P D vwCl [(h0, .inr (3, [.ref xM, .ref xP, .ref xG, .ref xO, .int (nI (cnt + 1)), .int (nI (te)), .int (nI (tr))])), (xM, .inl (cM, 20, .inr (.inr (.inr (.inr (fun j => if j = cnt then some (q_5) else mf j)))))), (q_5, .inr (0, [.int (nI (k)), .ref u_6.1, .ref u_6.2, .int (nI (0))])), (u_6.1, .inl (cI, 4, .inl (fun j => nI (0)))), (u_6.2, .inl (cI, 3, .inl (fun j => nI (0))))] H := hP
  have hD : va_D A [(h0, .inr (3, [.ref xM, .ref xP, .ref xG, .ref xO, .int (nI (cnt + 1)), .int (nI (te)), .int (nI (tr))])), (xM, .inl (cM, 20, .inr (.inr (.inr (.inr (fun j => if j = cnt then some (q_5) else mf j)))))), (q_5, .inr (0, [.int (nI (k)), .ref u_6.1, .ref u_6.2, .int (nI (0))])), (u_6.1, .inl (cI, 4, .inl (fun j => nI (0)))), (u_6.2, .inl (cI, 3, .inl (fun j => nI (0))))] := hD
  refine lv_aload_n hx hb dX3_mailing_59 rfl (lv_at hl 0 rfl) ?_
  refine va_get (D := D) (cl := vwCl) (ci := 3) (v := .int (nI (cnt + 1))) (C := RX3) (T := TX3) (N := 7) hx hb hts in_X3_mailing_X3 hown hK hP 0 rfl rfl 4 (by decide) (hts (.fieldLink RX3 33 "BulkSamples" "mailingCount" "I") fl_X3_mailing_33) (fun _ h9 => h9) rfl dX3_mailing_60 ?_
  refine W.widen (k := 3) (n := 11) (Nat.le_of_ble_eq_true rfl) (Nat.le_of_ble_eq_true rfl) ?_
  exact k_iret (v := nI (cnt + 1)) hx hb hr hlocks hP hD hK hS [0, 1, 2, 3, 4] (q_5, u_6.1, u_6.2) rfl (by decide) rfl dX3_mailing_63
theorem in_X3_tape_X3 : ∀ w ∈ wsX30, w ∈ wsX3_tape := by decide +kernel
theorem fl_X3_tape_57 : Cond.fieldLink RX3 57 "BulkSamples" "tapeLength" "I" ∈ wsX3_tape := by decide +kernel
set_option maxHeartbeats 4000000 in
set_option maxRecDepth 100000 in
/-- tape: full -/
theorem c_t_full (l : Launch) (D : va_G) (cI cL cM : ClassId) (sz : Nat) (h0 xM xP xG xO cnt te tr : Nat) (x : Int32) (h3 : 300 ≤ te) (h3b : te ≤ 300) : Met l yX3_tape wsX3_tape ({ frames := 0, cells := 0, slots := 0, locals := 0 } : Room) (va_Pc [.ref h0, .int x] (PreB D (gT cI cL cM) sz [(h0, .inr (3, [.ref xM, .ref xP, .ref xG, .ref xO, .int (nI (cnt)), .int (nI (te)), .int (nI (tr))]))])) (va_Qv (fun _ => True) (fun (_ : Unit) => PostB D (gT cI cL cM) (va_A [(h0, .inr (3, [.ref xM, .ref xP, .ref xG, .ref xO, .int (nI (cnt)), .int (nI (te)), .int (nI (tr))]))] sz) [(h0, .inr (3, [.ref xM, .ref xP, .ref xG, .ref xO, .int (nI (cnt)), .int (nI (te)), .int (nI (tr))]))]) (va_A [(h0, .inr (3, [.ref xM, .ref xP, .ref xG, .ref xO, .int (nI (cnt)), .int (nI (te)), .int (nI (tr))]))] sz)) 0 0 (va_A [(h0, .inr (3, [.ref xM, .ref xP, .ref xG, .ref xO, .int (nI (cnt)), .int (nI (te)), .int (nI (tr))]))] sz) := by
  refine k_start (fun A => (va_Qv (fun _ => True) (fun (_ : Unit) => PostB D (gT cI cL cM) A [(h0, .inr (3, [.ref xM, .ref xP, .ref xG, .ref xO, .int (nI (cnt)), .int (nI (te)), .int (nI (tr))]))]) A)) (cc := cX3_tape) (maxL := 2) (ret := none) (by decide) rfl (Nat.le_of_ble_eq_true rfl) ?_
  intro p e s m below meth c A ls hx hb hr hts hown hlocks hin hml hP hK hD hA hS hl
  have hl : lv_has ls 2 [(0, .ref h0), (1, .int x)] := hl
  have hown : s.vm.findClass RX3 = some m.cls := hown
  refine lv_aload_n hx hb dX3_tape_0 rfl (lv_at hl 0 rfl) ?_
  refine va_get (D := D) (cl := vwCl) (ci := 3) (v := .int (nI (te))) (C := RX3) (T := TX3) (N := 7) hx hb hts in_X3_tape_X3 hown hK hP 0 rfl rfl 5 (by decide) (hts (.fieldLink RX3 57 "BulkSamples" "tapeLength" "I") fl_X3_tape_57) (fun _ h9 => h9) rfl dX3_tape_1 ?_
  refine lv_sipush (v := nI (300)) hx hb dX3_tape_4 (by decide) ?_
  refine n_icmp_ge (tgt := 20) hx hb (by omega) (by omega) dX3_tape_7 (by decide) (fun c_1 => ?_) (fun c_1 => False.elim (by omega))
  exact k_vret hx hb hr hlocks hP hD hK hS [0] () rfl (by decide) trivial dX3_tape_20
set_option maxHeartbeats 4000000 in
set_option maxRecDepth 100000 in
/-- tape -/
theorem c_t_ok (l : Launch) (D : va_G) (cI cL cM : ClassId) (sz : Nat) (h0 xM xP xG xO cnt te tr : Nat) (x : Int32) (h3 : te < 300) : Met l yX3_tape wsX3_tape ({ frames := 0, cells := 0, slots := 0, locals := 0 } : Room) (va_Pc [.ref h0, .int x] (PreB D (gT cI cL cM) sz [(h0, .inr (3, [.ref xM, .ref xP, .ref xG, .ref xO, .int (nI (cnt)), .int (nI (te)), .int (nI (tr))]))])) (va_Qv (fun _ => True) (fun (_ : Unit) => PostB D (gT cI cL cM) (va_A [(h0, .inr (3, [.ref xM, .ref xP, .ref xG, .ref xO, .int (nI (cnt)), .int (nI (te)), .int (nI (tr))]))] sz) [(h0, .inr (3, [.ref xM, .ref xP, .ref xG, .ref xO, .int (nI (cnt)), .int (nI (te + 1)), .int (nI (tr))]))]) (va_A [(h0, .inr (3, [.ref xM, .ref xP, .ref xG, .ref xO, .int (nI (cnt)), .int (nI (te)), .int (nI (tr))]))] sz)) 0 0 (va_A [(h0, .inr (3, [.ref xM, .ref xP, .ref xG, .ref xO, .int (nI (cnt)), .int (nI (te)), .int (nI (tr))]))] sz) := by
  refine k_start (fun A => (va_Qv (fun _ => True) (fun (_ : Unit) => PostB D (gT cI cL cM) A [(h0, .inr (3, [.ref xM, .ref xP, .ref xG, .ref xO, .int (nI (cnt)), .int (nI (te + 1)), .int (nI (tr))]))]) A)) (cc := cX3_tape) (maxL := 2) (ret := none) (by decide) rfl (Nat.le_of_ble_eq_true rfl) ?_
  intro p e s m below meth c A ls hx hb hr hts hown hlocks hin hml hP hK hD hA hS hl
  have hl : lv_has ls 2 [(0, .ref h0), (1, .int x)] := hl
  have hown : s.vm.findClass RX3 = some m.cls := hown
  refine lv_aload_n hx hb dX3_tape_0 rfl (lv_at hl 0 rfl) ?_
  refine va_get (D := D) (cl := vwCl) (ci := 3) (v := .int (nI (te))) (C := RX3) (T := TX3) (N := 7) hx hb hts in_X3_tape_X3 hown hK hP 0 rfl rfl 5 (by decide) (hts (.fieldLink RX3 57 "BulkSamples" "tapeLength" "I") fl_X3_tape_57) (fun _ h9 => h9) rfl dX3_tape_1 ?_
  refine lv_sipush (v := nI (300)) hx hb dX3_tape_4 (by decide) ?_
  refine n_icmp_ge (tgt := 20) hx hb (by omega) (by omega) dX3_tape_7 (by decide) (fun c_1 => False.elim (by omega)) (fun c_1 => ?_)
  refine lv_aload_n hx hb dX3_tape_10 rfl (lv_at hl 0 rfl) ?_
  refine lv_dup hx hb dX3_tape_11 rfl ?_
  refine va_get (D := D) (cl := vwCl) (ci := 3) (v := .int (nI (te))) (C := RX3) (T := TX3) (N := 7) hx hb hts in_X3_tape_X3 hown hK hP 0 rfl rfl 5 (by decide) (hts (.fieldLink RX3 57 "BulkSamples" "tapeLength" "I") fl_X3_tape_57) (fun _ h9 => h9) rfl dX3_tape_12 ?_
  refine lv_iconst (v := nI (1)) hx hb dX3_tape_15 (by decide) ?_
  refine n_iadd (r := te + 1) hx hb dX3_tape_16 rfl ?_
  refine va_put (D := D) (cl := vwCl) (ci := 3) (v := .int (nI (te + 1))) (ty := tyX3 5) (C := RX3) (T := TX3) (N := 7) hx hb hts in_X3_tape_X3 tyX3 tyX3_ok nmX3 hown hK hP hD hS 0 rfl rfl 5 (by decide) (hts (.fieldLink RX3 57 "BulkSamples" "tapeLength" "I") fl_X3_tape_57) (fun _ h9 => h9) rfl (by decide +kernel) rfl rfl (Nat.le_of_ble_eq_true rfl) dX3_tape_17 (fun H locs hP hD hS => ?_)
  have hP : va_P D vwCl [(h0, .inr (3, [.ref xM, .ref xP, .ref xG, .ref xO, .int (nI (cnt)), .int (nI (te + 1)), .int (nI (tr))]))] H := hP
  have hD : va_D A [(h0, .inr (3, [.ref xM, .ref xP, .ref xG, .ref xO, .int (nI (cnt)), .int (nI (te + 1)), .int (nI (tr))]))] := hD
  exact k_vret hx hb hr hlocks hP hD hK hS [0] () rfl (by decide) trivial dX3_tape_20
theorem in_X3_depth_X0 : ∀ w ∈ wsX00, w ∈ wsX3_depth := by decide +kernel
theorem in_X3_depth_X3 : ∀ w ∈ wsX30, w ∈ wsX3_depth := by decide +kernel
theorem fl_X3_depth_11 : Cond.fieldLink RX3 11 "BulkSamples" "mailings" "[LBulkSamples$Mailing;" ∈ wsX3_depth := by decide +kernel
theorem fl_X3_depth_43 : Cond.fieldLink RX3 43 "BulkSamples$Mailing" "declared" "[I" ∈ wsX3_depth := by decide +kernel
theorem fl_X3_depth_50 : Cond.fieldLink RX3 50 "BulkSamples$Mailing" "items" "I" ∈ wsX3_depth := by decide +kernel
set_option maxHeartbeats 4000000 in
set_option maxRecDepth 100000 in
/-- no such mailing -/
theorem c_d_un (l : Launch) (D : va_G) (cI cL cM : ClassId) (sz : Nat) (h0 xM xP xG xO cnt te tr : Nat) (mf : Nat → Option Nat) (x : Int32) (d9 n9 : Int32) (hnone : fnd mf x = none) : Met l yX3_depth wsX3_depth ({ frames := 1, cells := 0, slots := 0, locals := 22 } : Room) (va_Pc [.ref h0, .int x, .int d9, .int n9] (PreB D (gT cI cL cM) sz [(h0, .inr (3, [.ref xM, .ref xP, .ref xG, .ref xO, .int (nI (cnt)), .int (nI (te)), .int (nI (tr))])), (xM, .inl (cM, 20, .inr (.inr (.inr (.inr (mf))))))])) (va_Qi (fun r _ => r = -11) (fun (_ : Unit) => PostB D (gT cI cL cM) (va_A [(h0, .inr (3, [.ref xM, .ref xP, .ref xG, .ref xO, .int (nI (cnt)), .int (nI (te)), .int (nI (tr))])), (xM, .inl (cM, 20, .inr (.inr (.inr (.inr (mf))))))] sz) [(h0, .inr (3, [.ref xM, .ref xP, .ref xG, .ref xO, .int (nI (cnt)), .int (nI (te)), .int (nI (tr))])), (xM, .inl (cM, 20, .inr (.inr (.inr (.inr (mf))))))]) (va_A [(h0, .inr (3, [.ref xM, .ref xP, .ref xG, .ref xO, .int (nI (cnt)), .int (nI (te)), .int (nI (tr))])), (xM, .inl (cM, 20, .inr (.inr (.inr (.inr (mf))))))] sz)) 0 0 (va_A [(h0, .inr (3, [.ref xM, .ref xP, .ref xG, .ref xO, .int (nI (cnt)), .int (nI (te)), .int (nI (tr))])), (xM, .inl (cM, 20, .inr (.inr (.inr (.inr (mf))))))] sz) := by
  refine k_start (fun A => (va_Qi (fun r _ => r = -11) (fun (_ : Unit) => PostB D (gT cI cL cM) A [(h0, .inr (3, [.ref xM, .ref xP, .ref xG, .ref xO, .int (nI (cnt)), .int (nI (te)), .int (nI (tr))])), (xM, .inl (cM, 20, .inr (.inr (.inr (.inr (mf))))))]) A)) (cc := cX3_depth) (maxL := 6) (ret := (some .int)) (by decide) rfl (Nat.le_of_ble_eq_true rfl) ?_
  intro p e s m below meth c A ls hx hb hr hts hown hlocks hin hml hP hK hD hA hS hl
  have hl : lv_has ls 6 [(0, .ref h0), (1, .int x), (2, .int d9), (3, .int n9)] := hl
  have hown : s.vm.findClass RX3 = some m.cls := hown
  refine lv_aload_n hx hb dX3_depth_0 rfl (lv_at hl 0 rfl) ?_
  refine lv_iload_n hx hb dX3_depth_1 rfl (lv_at hl 1 rfl) ?_
  refine k_callq (wc := [(h0, .inr (3, [.ref xM, .ref xP, .ref xG, .ref xO, .int (nI (cnt)), .int (nI (te)), .int (nI (tr))])), (xM, .inl (cM, 20, .inr (.inr (.inr (.inr (mf))))))]) (wr := []) (W1 := fun _ => [(h0, .inr (3, [.ref xM, .ref xP, .ref xG, .ref xO, .int (nI (cnt)), .int (nI (te)), .int (nI (tr))])), (xM, .inl (cM, 20, .inr (.inr (.inr (.inr (mf))))))]) hP hD hS hA [0, 1] [] [0, 1] rfl rfl (by decide) (by decide) (fun _ => rfl) (by decide) (va_runV (As := [.int x]) (rest := []) ⟨hx, hb, hml, hown, hts⟩ (c_find l D cI cL cM s.heap.size h0 xM xP xG xO cnt te tr mf x) (cwV 1 hts gX3_depth_X3_find rfl rfl rfl (by decide +kernel) ⟨Nat.le_of_ble_eq_true rfl, Nat.le_of_ble_eq_true rfl⟩) (k_preV hP hD hK [0, 1] rfl (by decide) 0 rfl rfl rfl) rfl rfl hl.1 rfl (lv_room (Nat.le_of_ble_eq_true rfl)) dX3_depth_2 ⟨Nat.le_of_ble_eq_true rfl, Nat.le_of_ble_eq_true rfl⟩) (fun r_1 _ H locs hw hP hD hS => ?_)
  obtain rfl : r_1 = none := hw.trans hnone
  refine W.eq (g2 := F0 m 5 ls [.null]) rfl ?_
  refine lv_astoreN (lv' := [(4, .null), (0, .ref h0), (1, .int x), (2, .int d9), (3, .int n9)]) hx hb dX3_depth_5 hl (by decide) rfl (fun ls hl => ?_)
  refine lv_aloadN hx hb dX3_depth_7 (lv_at hl 0 rfl) ?_
  refine lv_ifnonnullN hx hb dX3_depth_9 ?_
  refine lv_bipush (v := (-11)) hx hb dX3_depth_12 (by decide) ?_
  refine W.widen (k := 0) (n := 0) (Nat.le_of_ble_eq_true rfl) (Nat.le_of_ble_eq_true rfl) ?_
  exact k_iret (v := (-11)) hx hb hr hlocks hP hD hK hS [0, 1] () rfl (by decide) rfl dX3_depth_14
theorem in_X3_wrong_X0 : ∀ w ∈ wsX00, w ∈ wsX3_wrong := by decide +kernel
theorem in_X3_wrong_X3 : ∀ w ∈ wsX30, w ∈ wsX3_wrong := by decide +kernel
theorem fl_X3_wrong_11 : Cond.fieldLink RX3 11 "BulkSamples" "mailings" "[LBulkSamples$Mailing;" ∈ wsX3_wrong := by decide +kernel
theorem fl_X3_wrong_66 : Cond.fieldLink RX3 66 "BulkSamples$Mailing" "drawn" "I" ∈ wsX3_wrong := by decide +kernel
theorem fl_X3_wrong_69 : Cond.fieldLink RX3 69 "BulkSamples$Mailing" "found" "[I" ∈ wsX3_wrong := by decide +kernel
set_option maxHeartbeats 4000000 in
set_option maxRecDepth 100000 in
/-- no such mailing -/
theorem c_w_un (l : Launch) (D : va_G) (cI cL cM : ClassId) (sz : Nat) (h0 xM xP xG xO cnt te tr : Nat) (mf : Nat → Option Nat) (x : Int32) (d9 n9 : Int32) (hnone : fnd mf x = none) : Met l yX3_wrong wsX3_wrong ({ frames := 1, cells := 0, slots := 0, locals := 22 } : Room) (va_Pc [.ref h0, .int x, .int d9, .int n9] (PreB D (gT cI cL cM) sz [(h0, .inr (3, [.ref xM, .ref xP, .ref xG, .ref xO, .int (nI (cnt)), .int (nI (te)), .int (nI (tr))])), (xM, .inl (cM, 20, .inr (.inr (.inr (.inr (mf))))))])) (va_Qi (fun r _ => r = -11) (fun (_ : Unit) => PostB D (gT cI cL cM) (va_A [(h0, .inr (3, [.ref xM, .ref xP, .ref xG, .ref xO, .int (nI (cnt)), .int (nI (te)), .int (nI (tr))])), (xM, .inl (cM, 20, .inr (.inr (.inr (.inr (mf))))))] sz) [(h0, .inr (3, [.ref xM, .ref xP, .ref xG, .ref xO, .int (nI (cnt)), .int (nI (te)), .int (nI (tr))])), (xM, .inl (cM, 20, .inr (.inr (.inr (.inr (mf))))))]) (va_A [(h0, .inr (3, [.ref xM, .ref xP, .ref xG, .ref xO, .int (nI (cnt)), .int (nI (te)), .int (nI (tr))])), (xM, .inl (cM, 20, .inr (.inr (.inr (.inr (mf))))))] sz)) 0 0 (va_A [(h0, .inr (3, [.ref xM, .ref xP, .ref xG, .ref xO, .int (nI (cnt)), .int (nI (te)), .int (nI (tr))])), (xM, .inl (cM, 20, .inr (.inr (.inr (.inr (mf))))))] sz) := by
  refine k_start (fun A => (va_Qi (fun r _ => r = -11) (fun (_ : Unit) => PostB D (gT cI cL cM) A [(h0, .inr (3, [.ref xM, .ref xP, .ref xG, .ref xO, .int (nI (cnt)), .int (nI (te)), .int (nI (tr))])), (xM, .inl (cM, 20, .inr (.inr (.inr (.inr (mf))))))]) A)) (cc := cX3_wrong) (maxL := 6) (ret := (some .int)) (by decide) rfl (Nat.le_of_ble_eq_true rfl) ?_
  intro p e s m below meth c A ls hx hb hr hts hown hlocks hin hml hP hK hD hA hS hl
  have hl : lv_has ls 6 [(0, .ref h0), (1, .int x), (2, .int d9), (3, .int n9)] := hl
  have hown : s.vm.findClass RX3 = some m.cls := hown
  refine lv_aload_n hx hb dX3_wrong_0 rfl (lv_at hl 0 rfl) ?_
  refine lv_iload_n hx hb dX3_wrong_1 rfl (lv_at hl 1 rfl) ?_
  refine k_callq (wc := [(h0, .inr (3, [.ref xM, .ref xP, .ref xG, .ref xO, .int (nI (cnt)), .int (nI (te)), .int (nI (tr))])), (xM, .inl (cM, 20, .inr (.inr (.inr (.inr (mf))))))]) (wr := []) (W1 := fun _ => [(h0, .inr (3, [.ref xM, .ref xP, .ref xG, .ref xO, .int (nI (cnt)), .int (nI (te)), .int (nI (tr))])), (xM, .inl (cM, 20, .inr (.inr (.inr (.inr (mf))))))]) hP hD hS hA [0, 1] [] [0, 1] rfl rfl (by decide) (by decide) (fun _ => rfl) (by decide) (va_runV (As := [.int x]) (rest := []) ⟨hx, hb, hml, hown, hts⟩ (c_find l D cI cL cM s.heap.size h0 xM xP xG xO cnt te tr mf x) (cwV 1 hts gX3_wrong_X3_find rfl rfl rfl (by decide +kernel) ⟨Nat.le_of_ble_eq_true rfl, Nat.le_of_ble_eq_true rfl⟩) (k_preV hP hD hK [0, 1] rfl (by decide) 0 rfl rfl rfl) rfl rfl hl.1 rfl (lv_room (Nat.le_of_ble_eq_true rfl)) dX3_wrong_2 ⟨Nat.le_of_ble_eq_true rfl, Nat.le_of_ble_eq_true rfl⟩) (fun r_1 _ H locs hw hP hD hS => ?_)
  obtain rfl : r_1 = none := hw.trans hnone
  refine W.eq (g2 := F0 m 5 ls [.null]) rfl ?_
  refine lv_astoreN (lv' := [(4, .null), (0, .ref h0), (1, .int x), (2, .int d9), (3, .int n9)]) hx hb dX3_wrong_5 hl (by decide) rfl (fun ls hl => ?_)
  refine lv_aloadN hx hb dX3_wrong_7 (lv_at hl 0 rfl) ?_
  refine lv_ifnonnullN hx hb dX3_wrong_9 ?_
  refine lv_bipush (v := (-11)) hx hb dX3_wrong_12 (by decide) ?_
  refine W.widen (k := 0) (n := 0) (Nat.le_of_ble_eq_true rfl) (Nat.le_of_ble_eq_true rfl) ?_
  exact k_iret (v := (-11)) hx hb hr hlocks hP hD hK hS [0, 1] () rfl (by decide) rfl dX3_wrong_14
theorem in_X3_sample_X0 : ∀ w ∈ wsX00, w ∈ wsX3_sample := by decide +kernel
theorem in_X3_sample_X3 : ∀ w ∈ wsX30, w ∈ wsX3_sample := by decide +kernel
theorem fl_X3_sample_11 : Cond.fieldLink RX3 11 "BulkSamples" "mailings" "[LBulkSamples$Mailing;" ∈ wsX3_sample := by decide +kernel
theorem fl_X3_sample_50 : Cond.fieldLink RX3 50 "BulkSamples$Mailing" "items" "I" ∈ wsX3_sample := by decide +kernel
theorem fl_X3_sample_57 : Cond.fieldLink RX3 57 "BulkSamples" "tapeLength" "I" ∈ wsX3_sample := by decide +kernel
theorem fl_X3_sample_66 : Cond.fieldLink RX3 66 "BulkSamples$Mailing" "drawn" "I" ∈ wsX3_sample := by decide +kernel
set_option maxHeartbeats 4000000 in
set_option maxRecDepth 100000 in
/-- no such mailing -/
theorem c_s_un (l : Launch) (D : va_G) (cI cL cM : ClassId) (sz : Nat) (h0 xM xP xG xO cnt te tr : Nat) (mf : Nat → Option Nat) (x : Int32) (n9 : Int32) (hnone : fnd mf x = none) : Met l yX3_sample wsX3_sample ({ frames := 1, cells := 0, slots := 0, locals := 22 } : Room) (va_Pc [.ref h0, .int x, .int n9] (PreB D (gT cI cL cM) sz [(h0, .inr (3, [.ref xM, .ref xP, .ref xG, .ref xO, .int (nI (cnt)), .int (nI (te)), .int (nI (tr))])), (xM, .inl (cM, 20, .inr (.inr (.inr (.inr (mf))))))])) (va_Qi (fun r _ => r = -11) (fun (_ : Unit) => PostB D (gT cI cL cM) (va_A [(h0, .inr (3, [.ref xM, .ref xP, .ref xG, .ref xO, .int (nI (cnt)), .int (nI (te)), .int (nI (tr))])), (xM, .inl (cM, 20, .inr (.inr (.inr (.inr (mf))))))] sz) [(h0, .inr (3, [.ref xM, .ref xP, .ref xG, .ref xO, .int (nI (cnt)), .int (nI (te)), .int (nI (tr))])), (xM, .inl (cM, 20, .inr (.inr (.inr (.inr (mf))))))]) (va_A [(h0, .inr (3, [.ref xM, .ref xP, .ref xG, .ref xO, .int (nI (cnt)), .int (nI (te)), .int (nI (tr))])), (xM, .inl (cM, 20, .inr (.inr (.inr (.inr (mf))))))] sz)) 0 0 (va_A [(h0, .inr (3, [.ref xM, .ref xP, .ref xG, .ref xO, .int (nI (cnt)), .int (nI (te)), .int (nI (tr))])), (xM, .inl (cM, 20, .inr (.inr (.inr (.inr (mf))))))] sz) := by
  refine k_start (fun A => (va_Qi (fun r _ => r = -11) (fun (_ : Unit) => PostB D (gT cI cL cM) A [(h0, .inr (3, [.ref xM, .ref xP, .ref xG, .ref xO, .int (nI (cnt)), .int (nI (te)), .int (nI (tr))])), (xM, .inl (cM, 20, .inr (.inr (.inr (.inr (mf))))))]) A)) (cc := cX3_sample) (maxL := 5) (ret := (some .int)) (by decide) rfl (Nat.le_of_ble_eq_true rfl) ?_
  intro p e s m below meth c A ls hx hb hr hts hown hlocks hin hml hP hK hD hA hS hl
  have hl : lv_has ls 5 [(0, .ref h0), (1, .int x), (2, .int n9)] := hl
  have hown : s.vm.findClass RX3 = some m.cls := hown
  refine lv_aload_n hx hb dX3_sample_0 rfl (lv_at hl 0 rfl) ?_
  refine lv_iload_n hx hb dX3_sample_1 rfl (lv_at hl 1 rfl) ?_
  refine k_callq (wc := [(h0, .inr (3, [.ref xM, .ref xP, .ref xG, .ref xO, .int (nI (cnt)), .int (nI (te)), .int (nI (tr))])), (xM, .inl (cM, 20, .inr (.inr (.inr (.inr (mf))))))]) (wr := []) (W1 := fun _ => [(h0, .inr (3, [.ref xM, .ref xP, .ref xG, .ref xO, .int (nI (cnt)), .int (nI (te)), .int (nI (tr))])), (xM, .inl (cM, 20, .inr (.inr (.inr (.inr (mf))))))]) hP hD hS hA [0, 1] [] [0, 1] rfl rfl (by decide) (by decide) (fun _ => rfl) (by decide) (va_runV (As := [.int x]) (rest := []) ⟨hx, hb, hml, hown, hts⟩ (c_find l D cI cL cM s.heap.size h0 xM xP xG xO cnt te tr mf x) (cwV 1 hts gX3_sample_X3_find rfl rfl rfl (by decide +kernel) ⟨Nat.le_of_ble_eq_true rfl, Nat.le_of_ble_eq_true rfl⟩) (k_preV hP hD hK [0, 1] rfl (by decide) 0 rfl rfl rfl) rfl rfl hl.1 rfl (lv_room (Nat.le_of_ble_eq_true rfl)) dX3_sample_2 ⟨Nat.le_of_ble_eq_true rfl, Nat.le_of_ble_eq_true rfl⟩) (fun r_1 _ H locs hw hP hD hS => ?_)
  obtain rfl : r_1 = none := hw.trans hnone
  refine W.eq (g2 := F0 m 5 ls [.null]) rfl ?_
  refine lv_astore_nN (lv' := [(3, .null), (0, .ref h0), (1, .int x), (2, .int n9)]) hx hb dX3_sample_5 rfl hl (by decide) rfl (fun ls hl => ?_)
  refine lv_aload_nN hx hb dX3_sample_6 rfl (lv_at hl 0 rfl) ?_
  refine lv_ifnonnullN hx hb dX3_sample_7 ?_
  refine lv_bipush (v := (-11)) hx hb dX3_sample_10 (by decide) ?_
  refine W.widen (k := 0) (n := 0) (Nat.le_of_ble_eq_true rfl) (Nat.le_of_ble_eq_true rfl) ?_
  exact k_iret (v := (-11)) hx hb hr hlocks hP hD hK hS [0, 1] () rfl (by decide) rfl dX3_sample_12
set_option maxHeartbeats 4000000 in
set_option maxRecDepth 100000 in
/-- OUTSIDE by its numbers alone -/
theorem c_d_bad (l : Launch) (D : va_G) (cI cL cM : ClassId) (sz : Nat) (h0 xM xP xG xO cnt te tr : Nat) (mf : Nat → Option Nat) (x : Int32) (am ad af it dr : Nat) (hsome : fnd mf x = some am) (d9 n9 : Int32) (hbad : d9 < 0 ∨ nI 4 ≤ d9 ∨ n9 < 0) : Met l yX3_depth wsX3_depth ({ frames := 1, cells := 0, slots := 0, locals := 22 } : Room) (va_Pc [.ref h0, .int x, .int d9, .int n9] (PreB D (gT cI cL cM) sz [(h0, .inr (3, [.ref xM, .ref xP, .ref xG, .ref xO, .int (nI (cnt)), .int (nI (te)), .int (nI (tr))])), (xM, .inl (cM, 20, .inr (.inr (.inr (.inr (mf))))))])) (va_Qi (fun r _ => r = -12) (fun (_ : Unit) => PostB D (gT cI cL cM) (va_A [(h0, .inr (3, [.ref xM, .ref xP, .ref xG, .ref xO, .int (nI (cnt)), .int (nI (te)), .int (nI (tr))])), (xM, .inl (cM, 20, .inr (.inr (.inr (.inr (mf))))))] sz) [(h0, .inr (3, [.ref xM, .ref xP, .ref xG, .ref xO, .int (nI (cnt)), .int (nI (te)), .int (nI (tr))])), (xM, .inl (cM, 20, .inr (.inr (.inr (.inr (mf))))))]) (va_A [(h0, .inr (3, [.ref xM, .ref xP, .ref xG, .ref xO, .int (nI (cnt)), .int (nI (te)), .int (nI (tr))])), (xM, .inl (cM, 20, .inr (.inr (.inr (.inr (mf))))))] sz)) 0 0 (va_A [(h0, .inr (3, [.ref xM, .ref xP, .ref xG, .ref xO, .int (nI (cnt)), .int (nI (te)), .int (nI (tr))])), (xM, .inl (cM, 20, .inr (.inr (.inr (.inr (mf))))))] sz) := by
  refine k_start (fun A => (va_Qi (fun r _ => r = -12) (fun (_ : Unit) => PostB D (gT cI cL cM) A [(h0, .inr (3, [.ref xM, .ref xP, .ref xG, .ref xO, .int (nI (cnt)), .int (nI (te)), .int (nI (tr))])), (xM, .inl (cM, 20, .inr (.inr (.inr (.inr (mf))))))]) A)) (cc := cX3_depth) (maxL := 6) (ret := (some .int)) (by decide) rfl (Nat.le_of_ble_eq_true rfl) ?_
  intro p e s m below meth c A ls hx hb hr hts hown hlocks hin hml hP hK hD hA hS hl
  have hl : lv_has ls 6 [(0, .ref h0), (1, .int x), (2, .int d9), (3, .int n9)] := hl
  have hown : s.vm.findClass RX3 = some m.cls := hown
  refine lv_aload_n hx hb dX3_depth_0 rfl (lv_at hl 0 rfl) ?_
  refine lv_iload_n hx hb dX3_depth_1 rfl (lv_at hl 1 rfl) ?_
  refine k_callq (wc := [(h0, .inr (3, [.ref xM, .ref xP, .ref xG, .ref xO, .int (nI (cnt)), .int (nI (te)), .int (nI (tr))])), (xM, .inl (cM, 20, .inr (.inr (.inr (.inr (mf))))))]) (wr := []) (W1 := fun _ => [(h0, .inr (3, [.ref xM, .ref xP, .ref xG, .ref xO, .int (nI (cnt)), .int (nI (te)), .int (nI (tr))])), (xM, .inl (cM, 20, .inr (.inr (.inr (.inr (mf))))))]) hP hD hS hA [0, 1] [] [0, 1] rfl rfl (by decide) (by decide) (fun _ => rfl) (by decide) (va_runV (As := [.int x]) (rest := []) ⟨hx, hb, hml, hown, hts⟩ (c_find l D cI cL cM s.heap.size h0 xM xP xG xO cnt te tr mf x) (cwV 1 hts gX3_depth_X3_find rfl rfl rfl (by decide +kernel) ⟨Nat.le_of_ble_eq_true rfl, Nat.le_of_ble_eq_true rfl⟩) (k_preV hP hD hK [0, 1] rfl (by decide) 0 rfl rfl rfl) rfl rfl hl.1 rfl (lv_room (Nat.le_of_ble_eq_true rfl)) dX3_depth_2 ⟨Nat.le_of_ble_eq_true rfl, Nat.le_of_ble_eq_true rfl⟩) (fun r_1 _ H locs hw hP hD hS => ?_)
  obtain rfl : r_1 = some am := hw.trans hsome
  refine W.eq (g2 := F0 m 5 ls [.ref am]) rfl ?_
  refine lv_astore (lv' := [(4, .ref am), (0, .ref h0), (1, .int x), (2, .int d9), (3, .int n9)]) hx hb dX3_depth_5 hl (by decide) rfl (fun ls hl => ?_)
  refine lv_aload hx hb dX3_depth_7 (lv_at hl 0 rfl) ?_
  refine lv_ifnonnull (tgt := 15) hx hb dX3_depth_9 (by decide) ?_
  refine lv_iload_n hx hb dX3_depth_15 rfl (lv_at hl 3 rfl) ?_
  refine lv_if_lt (tgt := 28) hx hb dX3_depth_16 (by decide) (fun c_3 => ?_) (fun c_3 => ?_)
  · refine lv_bipush (v := (-12)) hx hb dX3_depth_28 (by decide) ?_
    refine W.widen (k := 0) (n := 0) (Nat.le_of_ble_eq_true rfl) (Nat.le_of_ble_eq_true rfl) ?_
    exact k_iret (v := (-12)) hx hb hr hlocks hP hD hK hS [0, 1] () rfl (by decide) rfl dX3_depth_30
  · refine lv_iload_n hx hb dX3_depth_19 rfl (lv_at hl 3 rfl) ?_
    refine lv_iconst (v := nI (4)) hx hb dX3_depth_20 (by decide) ?_
    refine lv_icmp_ge (tgt := 28) hx hb dX3_depth_21 (by decide) (fun c_4 => ?_) (fun c_4 => ?_)
    · refine lv_bipush (v := (-12)) hx hb dX3_depth_28 (by decide) ?_
      refine W.widen (k := 0) (n := 0) (Nat.le_of_ble_eq_true rfl) (Nat.le_of_ble_eq_true rfl) ?_
      exact k_iret (v := (-12)) hx hb hr hlocks hP hD hK hS [0, 1] () rfl (by decide) rfl dX3_depth_30
    · have h0 : n9 < 0 := (hbad.resolve_left c_3).resolve_left c_4
      refine lv_iload_n hx hb dX3_depth_24 rfl (lv_at hl 4 rfl) ?_
      refine lv_if_ge (tgt := 31) hx hb dX3_depth_25 (by decide) (fun c => absurd h0 (Int32.not_lt.mpr c)) (fun c_5 => ?_)
      refine lv_bipush (v := (-12)) hx hb dX3_depth_28 (by decide) ?_
      refine W.widen (k := 0) (n := 0) (Nat.le_of_ble_eq_true rfl) (Nat.le_of_ble_eq_true rfl) ?_
      exact k_iret (v := (-12)) hx hb hr hlocks hP hD hK hS [0, 1] () rfl (by decide) rfl dX3_depth_30
set_option maxHeartbeats 4000000 in
set_option maxRecDepth 100000 in
/-- OUTSIDE by its numbers alone -/
theorem c_w_bad (l : Launch) (D : va_G) (cI cL cM : ClassId) (sz : Nat) (h0 xM xP xG xO cnt te tr : Nat) (mf : Nat → Option Nat) (x : Int32) (am ad af it dr : Nat) (hsome : fnd mf x = some am) (d9 n9 : Int32) (hbad : d9 < 0 ∨ nI 3 ≤ d9 ∨ n9 < 0) : Met l yX3_wrong wsX3_wrong ({ frames := 1, cells := 0, slots := 0, locals := 22 } : Room) (va_Pc [.ref h0, .int x, .int d9, .int n9] (PreB D (gT cI cL cM) sz [(h0, .inr (3, [.ref xM, .ref xP, .ref xG, .ref xO, .int (nI (cnt)), .int (nI (te)), .int (nI (tr))])), (xM, .inl (cM, 20, .inr (.inr (.inr (.inr (mf))))))])) (va_Qi (fun r _ => r = -12) (fun (_ : Unit) => PostB D (gT cI cL cM) (va_A [(h0, .inr (3, [.ref xM, .ref xP, .ref xG, .ref xO, .int (nI (cnt)), .int (nI (te)), .int (nI (tr))])), (xM, .inl (cM, 20, .inr (.inr (.inr (.inr (mf))))))] sz) [(h0, .inr (3, [.ref xM, .ref xP, .ref xG, .ref xO, .int (nI (cnt)), .int (nI (te)), .int (nI (tr))])), (xM, .inl (cM, 20, .inr (.inr (.inr (.inr (mf))))))]) (va_A [(h0, .inr (3, [.ref xM, .ref xP, .ref xG, .ref xO, .int (nI (cnt)), .int (nI (te)), .int (nI (tr))])), (xM, .inl (cM, 20, .inr (.inr (.inr (.inr (mf))))))] sz)) 0 0 (va_A [(h0, .inr (3, [.ref xM, .ref xP, .ref xG, .ref xO, .int (nI (cnt)), .int (nI (te)), .int (nI (tr))])), (xM, .inl (cM, 20, .inr (.inr (.inr (.inr (mf))))))] sz) := by
  refine k_start (fun A => (va_Qi (fun r _ => r = -12) (fun (_ : Unit) => PostB D (gT cI cL cM) A [(h0, .inr (3, [.ref xM, .ref xP, .ref xG, .ref xO, .int (nI (cnt)), .int (nI (te)), .int (nI (tr))])), (xM, .inl (cM, 20, .inr (.inr (.inr (.inr (mf))))))]) A)) (cc := cX3_wrong) (maxL := 6) (ret := (some .int)) (by decide) rfl (Nat.le_of_ble_eq_true rfl) ?_
  intro p e s m below meth c A ls hx hb hr hts hown hlocks hin hml hP hK hD hA hS hl
  have hl : lv_has ls 6 [(0, .ref h0), (1, .int x), (2, .int d9), (3, .int n9)] := hl
  have hown : s.vm.findClass RX3 = some m.cls := hown
  refine lv_aload_n hx hb dX3_wrong_0 rfl (lv_at hl 0 rfl) ?_
  refine lv_iload_n hx hb dX3_wrong_1 rfl (lv_at hl 1 rfl) ?_
  refine k_callq (wc := [(h0, .inr (3, [.ref xM, .ref xP, .ref xG, .ref xO, .int (nI (cnt)), .int (nI (te)), .int (nI (tr))])), (xM, .inl (cM, 20, .inr (.inr (.inr (.inr (mf))))))]) (wr := []) (W1 := fun _ => [(h0, .inr (3, [.ref xM, .ref xP, .ref xG, .ref xO, .int (nI (cnt)), .int (nI (te)), .int (nI (tr))])), (xM, .inl (cM, 20, .inr (.inr (.inr (.inr (mf))))))]) hP hD hS hA [0, 1] [] [0, 1] rfl rfl (by decide) (by decide) (fun _ => rfl) (by decide) (va_runV (As := [.int x]) (rest := []) ⟨hx, hb, hml, hown, hts⟩ (c_find l D cI cL cM s.heap.size h0 xM xP xG xO cnt te tr mf x) (cwV 1 hts gX3_wrong_X3_find rfl rfl rfl (by decide +kernel) ⟨Nat.le_of_ble_eq_true rfl, Nat.le_of_ble_eq_true rfl⟩) (k_preV hP hD hK [0, 1] rfl (by decide) 0 rfl rfl rfl) rfl rfl hl.1 rfl (lv_room (Nat.le_of_ble_eq_true rfl)) dX3_wrong_2 ⟨Nat.le_of_ble_eq_true rfl, Nat.le_of_ble_eq_true rfl⟩) (fun r_1 _ H locs hw hP hD hS => ?_)
  obtain rfl : r_1 = some am := hw.trans hsome
  refine W.eq (g2 := F0 m 5 ls [.ref am]) rfl ?_
  refine lv_astore (lv' := [(4, .ref am), (0, .ref h0), (1, .int x), (2, .int d9), (3, .int n9)]) hx hb dX3_wrong_5 hl (by decide) rfl (fun ls hl => ?_)
  refine lv_aload hx hb dX3_wrong_7 (lv_at hl 0 rfl) ?_
  refine lv_ifnonnull (tgt := 15) hx hb dX3_wrong_9 (by decide) ?_
  refine lv_iload_n hx hb dX3_wrong_15 rfl (lv_at hl 3 rfl) ?_
  refine lv_if_lt (tgt := 28) hx hb dX3_wrong_16 (by decide) (fun c_3 => ?_) (fun c_3 => ?_)
  · refine lv_bipush (v := (-12)) hx hb dX3_wrong_28 (by decide) ?_
    refine W.widen (k := 0) (n := 0) (Nat.le_of_ble_eq_true rfl) (Nat.le_of_ble_eq_true rfl) ?_
    exact k_iret (v := (-12)) hx hb hr hlocks hP hD hK hS [0, 1] () rfl (by decide) rfl dX3_wrong_30
  · refine lv_iload_n hx hb dX3_wrong_19 rfl (lv_at hl 3 rfl) ?_
    refine lv_iconst (v := nI (3)) hx hb dX3_wrong_20 (by decide) ?_
    refine lv_icmp_ge (tgt := 28) hx hb dX3_wrong_21 (by decide) (fun c_4 => ?_) (fun c_4 => ?_)
    · refine lv_bipush (v := (-12)) hx hb dX3_wrong_28 (by decide) ?_
      refine W.widen (k := 0) (n := 0) (Nat.le_of_ble_eq_true rfl) (Nat.le_of_ble_eq_true rfl) ?_
      exact k_iret (v := (-12)) hx hb hr hlocks hP hD hK hS [0, 1] () rfl (by decide) rfl dX3_wrong_30
    · have h0 : n9 < 0 := (hbad.resolve_left c_3).resolve_left c_4
      refine lv_iload_n hx hb dX3_wrong_24 rfl (lv_at hl 4 rfl) ?_
      refine lv_if_ge (tgt := 31) hx hb dX3_wrong_25 (by decide) (fun c => absurd h0 (Int32.not_lt.mpr c)) (fun c_5 => ?_)
      refine lv_bipush (v := (-12)) hx hb dX3_wrong_28 (by decide) ?_
      refine W.widen (k := 0) (n := 0) (Nat.le_of_ble_eq_true rfl) (Nat.le_of_ble_eq_true rfl) ?_
      exact k_iret (v := (-12)) hx hb hr hlocks hP hD hK hS [0, 1] () rfl (by decide) rfl dX3_wrong_30
set_option maxHeartbeats 4000000 in
set_option maxRecDepth 100000 in
/-- a number at a place -/
theorem c_d_in (l : Launch) (D : va_G) (cI cL cM : ClassId) (sz : Nat) (h0 xM xP xG xO cnt te tr : Nat) (mf : Nat → Option Nat) (x : Int32) (am ad af it dr : Nat) (hsome : fnd mf x = some am) (dp : Nat → Nat) (j9 k9 : Nat) (hj9 : j9 < 4) (hk9 : k9 < 2 ^ 31) (hsum : psum dp 4 ≤ it) (hit : it ≤ 200) (hdr : dr ≤ 200) : Met l yX3_depth wsX3_depth ({ frames := 1, cells := 0, slots := 0, locals := 22 } : Room) (va_Pc [.ref h0, .int x, .int (nI (j9)), .int (nI (k9))] (PreB D (gT cI cL cM) sz [(h0, .inr (3, [.ref xM, .ref xP, .ref xG, .ref xO, .int (nI (cnt)), .int (nI (te)), .int (nI (tr))])), (xM, .inl (cM, 20, .inr (.inr (.inr (.inr (mf)))))), (am, .inr (0, [.int (nI (it)), .ref ad, .ref af, .int (nI (dr))])), (ad, .inl (cI, 4, .inl (fun j => nI (dp j))))])) (va_Qi (fun r _ => r = slR 4 it (decide (0 < dr)) dp j9 k9) (fun (_ : Unit) => PostB D (gT cI cL cM) (va_A [(h0, .inr (3, [.ref xM, .ref xP, .ref xG, .ref xO, .int (nI (cnt)), .int (nI (te)), .int (nI (tr))])), (xM, .inl (cM, 20, .inr (.inr (.inr (.inr (mf)))))), (am, .inr (0, [.int (nI (it)), .ref ad, .ref af, .int (nI (dr))])), (ad, .inl (cI, 4, .inl (fun j => nI (dp j))))] sz) [(h0, .inr (3, [.ref xM, .ref xP, .ref xG, .ref xO, .int (nI (cnt)), .int (nI (te)), .int (nI (tr))])), (xM, .inl (cM, 20, .inr (.inr (.inr (.inr (mf)))))), (am, .inr (0, [.int (nI (it)), .ref ad, .ref af, .int (nI (dr))])), (ad, .inl (cI, 4, .inl (fun j => nI ((slF 4 it (decide (0 < dr)) dp j9 k9) j))))]) (va_A [(h0, .inr (3, [.ref xM, .ref xP, .ref xG, .ref xO, .int (nI (cnt)), .int (nI (te)), .int (nI (tr))])), (xM, .inl (cM, 20, .inr (.inr (.inr (.inr (mf)))))), (am, .inr (0, [.int (nI (it)), .ref ad, .ref af, .int (nI (dr))])), (ad, .inl (cI, 4, .inl (fun j => nI (dp j))))] sz)) 0 0 (va_A [(h0, .inr (3, [.ref xM, .ref xP, .ref xG, .ref xO, .int (nI (cnt)), .int (nI (te)), .int (nI (tr))])), (xM, .inl (cM, 20, .inr (.inr (.inr (.inr (mf)))))), (am, .inr (0, [.int (nI (it)), .ref ad, .ref af, .int (nI (dr))])), (ad, .inl (cI, 4, .inl (fun j => nI (dp j))))] sz) := by
  refine k_start (fun A => (va_Qi (fun r _ => r = slR 4 it (decide (0 < dr)) dp j9 k9) (fun (_ : Unit) => PostB D (gT cI cL cM) A [(h0, .inr (3, [.ref xM, .ref xP, .ref xG, .ref xO, .int (nI (cnt)), .int (nI (te)), .int (nI (tr))])), (xM, .inl (cM, 20, .inr (.inr (.inr (.inr (mf)))))), (am, .inr (0, [.int (nI (it)), .ref ad, .ref af, .int (nI (dr))])), (ad, .inl (cI, 4, .inl (fun j => nI ((slF 4 it (decide (0 < dr)) dp j9 k9) j))))]) A)) (cc := cX3_depth) (maxL := 6) (ret := (some .int)) (by decide) rfl (Nat.le_of_ble_eq_true rfl) ?_
  intro p e s m below meth c A ls hx hb hr hts hown hlocks hin hml hP hK hD hA hS hl
  have hl : lv_has ls 6 [(0, .ref h0), (1, .int x), (2, .int (nI (j9))), (3, .int (nI (k9)))] := hl
  have hown : s.vm.findClass RX3 = some m.cls := hown
  refine lv_aload_n hx hb dX3_depth_0 rfl (lv_at hl 0 rfl) ?_
  refine lv_iload_n hx hb dX3_depth_1 rfl (lv_at hl 1 rfl) ?_
  refine k_callq (wc := [(h0, .inr (3, [.ref xM, .ref xP, .ref xG, .ref xO, .int (nI (cnt)), .int (nI (te)), .int (nI (tr))])), (xM, .inl (cM, 20, .inr (.inr (.inr (.inr (mf))))))]) (wr := [(am, .inr (0, [.int (nI (it)), .ref ad, .ref af, .int (nI (dr))])), (ad, .inl (cI, 4, .inl (fun j => nI (dp j))))]) (W1 := fun _ => [(h0, .inr (3, [.ref xM, .ref xP, .ref xG, .ref xO, .int (nI (cnt)), .int (nI (te)), .int (nI (tr))])), (xM, .inl (cM, 20, .inr (.inr (.inr (.inr (mf)))))), (am, .inr (0, [.int (nI (it)), .ref ad, .ref af, .int (nI (dr))])), (ad, .inl (cI, 4, .inl (fun j => nI (dp j))))]) hP hD hS hA [0, 1] [2, 3] [2, 3, 0, 1] rfl rfl (by decide) (by decide) (fun _ => rfl) (by decide) (va_runV (As := [.int x]) (rest := []) ⟨hx, hb, hml, hown, hts⟩ (c_find l D cI cL cM s.heap.size h0 xM xP xG xO cnt te tr mf x) (cwV 1 hts gX3_depth_X3_find rfl rfl rfl (by decide +kernel) ⟨Nat.le_of_ble_eq_true rfl, Nat.le_of_ble_eq_true rfl⟩) (k_preV hP hD hK [0, 1] rfl (by decide) 0 rfl rfl rfl) rfl rfl hl.1 rfl (lv_room (Nat.le_of_ble_eq_true rfl)) dX3_depth_2 ⟨Nat.le_of_ble_eq_true rfl, Nat.le_of_ble_eq_true rfl⟩) (fun r_1 _ H locs hw hP hD hS => ?_)
  obtain rfl : r_1 = some am := hw.trans hsome
  refine W.eq (g2 := F0 m 5 ls [.ref am]) rfl ?_
  refine lv_astore (lv' := [(4, .ref am), (0, .ref h0), (1, .int x), (2, .int (nI (j9))), (3, .int (nI (k9)))]) hx hb dX3_depth_5 hl (by decide) rfl (fun ls hl => ?_)
  refine lv_aload hx hb dX3_depth_7 (lv_at hl 0 rfl) ?_
  have hfj := psum_ge dp hj9
  refine lv_ifnonnull (tgt := 15) hx hb dX3_depth_9 (by decide) ?_
  refine lv_iload_n hx hb dX3_depth_15 rfl (lv_at hl 3 rfl) ?_
  refine n_if_lt (tgt := 28) hx hb (by omega) dX3_depth_16 (by decide) ?_
  refine lv_iload_n hx hb dX3_depth_19 rfl (lv_at hl 3 rfl) ?_
  refine lv_iconst (v := nI (4)) hx hb dX3_depth_20 (by decide) ?_
  refine n_icmp_ge (tgt := 28) hx hb (by omega) (by omega) dX3_depth_21 (by decide) (fun c_4 => False.elim (by omega)) (fun c_4 => ?_)
  refine lv_iload_n hx hb dX3_depth_24 rfl (lv_at hl 4 rfl) ?_
  refine n_if_ge (tgt := 31) hx hb (by omega) dX3_depth_25 (by decide) ?_
  refine lv_aload hx hb dX3_depth_31 (lv_at hl 0 rfl) ?_
  refine va_get (D := D) (cl := vwCl) (ci := 0) (v := .ref ad) (C := RX0) (T := TX0) (N := 4) hx hb hts in_X3_depth_X0 hown hK hP 2 rfl rfl 1 (by decide) (hts (.fieldLink RX3 43 "BulkSamples$Mailing" "declared" "[I") fl_X3_depth_43) (fun _ h9 => h9) rfl dX3_depth_33 ?_
  refine k_calli (wc := [(ad, .inl (cI, 4, .inl (fun j => nI (dp j))))]) (wr := [(h0, .inr (3, [.ref xM, .ref xP, .ref xG, .ref xO, .int (nI (cnt)), .int (nI (te)), .int (nI (tr))])), (xM, .inl (cM, 20, .inr (.inr (.inr (.inr (mf)))))), (am, .inr (0, [.int (nI (it)), .ref ad, .ref af, .int (nI (dr))]))]) (W1 := fun _ => [(h0, .inr (3, [.ref xM, .ref xP, .ref xG, .ref xO, .int (nI (cnt)), .int (nI (te)), .int (nI (tr))])), (xM, .inl (cM, 20, .inr (.inr (.inr (.inr (mf)))))), (am, .inr (0, [.int (nI (it)), .ref ad, .ref af, .int (nI (dr))])), (ad, .inl (cI, 4, .inl (fun j => nI (dp j))))]) hP hD hS hA [3] [0, 1, 2] [0, 1, 2, 3] rfl rfl (by decide) (by decide) (fun _ => rfl) (by decide) (va_runS (As := [.ref ad]) (rest := []) ⟨hx, hb, hml, hown, hts⟩ (c_sum l D cI cL cM H.size ad 4 dp (by omega)) (va_cwS 1 hts gX3_depth_X3_sum rfl rfl rfl (by decide +kernel) ⟨Nat.le_of_ble_eq_true rfl, Nat.le_of_ble_eq_true rfl⟩) (k_preS hP hD hK [3] rfl (by decide)) rfl rfl hl.1 rfl (lv_room (Nat.le_of_ble_eq_true rfl)) dX3_depth_36 ⟨Nat.le_of_ble_eq_true rfl, Nat.le_of_ble_eq_true rfl⟩) (fun r_6 _ H locs hw hP hD hS => ?_)
  obtain rfl : r_6 = nI (psum dp 4) := hw
  refine lv_aload hx hb dX3_depth_39 (lv_at hl 0 rfl) ?_
  refine va_get (D := D) (cl := vwCl) (ci := 0) (v := .ref ad) (C := RX0) (T := TX0) (N := 4) hx hb hts in_X3_depth_X0 hown hK hP 2 rfl rfl 1 (by decide) (hts (.fieldLink RX3 43 "BulkSamples$Mailing" "declared" "[I") fl_X3_depth_43) (fun _ h9 => h9) rfl dX3_depth_41 ?_
  refine lv_iload_n hx hb dX3_depth_44 rfl (lv_at hl 3 rfl) ?_
  refine n_iald (x := nI (dp j9)) hx hb hK hP 3 0 rfl rfl (by omega) (by omega) rfl dX3_depth_45 ?_
  refine n_isub (r := (psum dp 4) - (dp j9)) hx hb dX3_depth_46 (by omega) rfl ?_
  refine lv_istore (lv' := [(5, .int (nI ((psum dp 4) - (dp j9)))), (4, .ref am), (0, .ref h0), (1, .int x), (2, .int (nI (j9))), (3, .int (nI (k9)))]) hx hb dX3_depth_47 hl (by decide) rfl (fun ls hl => ?_)
  refine lv_iload_n hx hb dX3_depth_49 rfl (lv_at hl 5 rfl) ?_
  refine lv_aload hx hb dX3_depth_50 (lv_at hl 1 rfl) ?_
  refine va_get (D := D) (cl := vwCl) (ci := 0) (v := .int (nI (it))) (C := RX0) (T := TX0) (N := 4) hx hb hts in_X3_depth_X0 hown hK hP 2 rfl rfl 0 (by decide) (hts (.fieldLink RX3 50 "BulkSamples$Mailing" "items" "I") fl_X3_depth_50) (fun _ h9 => h9) rfl dX3_depth_52 ?_
  refine lv_iload hx hb dX3_depth_55 (lv_at hl 0 rfl) ?_
  refine n_isub (r := it - ((psum dp 4) - (dp j9))) hx hb dX3_depth_57 (by omega) rfl ?_
  refine n_icmp_le (tgt := 64) hx hb (by omega) (by omega) dX3_depth_58 (by decide) (fun c_7 => ?_) (fun c_7 => ?_)
  · refine lv_aload hx hb dX3_depth_64 (lv_at hl 1 rfl) ?_
    refine k_calli (wc := [(am, .inr (0, [.int (nI (it)), .ref ad, .ref af, .int (nI (dr))]))]) (wr := [(h0, .inr (3, [.ref xM, .ref xP, .ref xG, .ref xO, .int (nI (cnt)), .int (nI (te)), .int (nI (tr))])), (xM, .inl (cM, 20, .inr (.inr (.inr (.inr (mf)))))), (ad, .inl (cI, 4, .inl (fun j => nI (dp j))))]) (W1 := fun _ => [(h0, .inr (3, [.ref xM, .ref xP, .ref xG, .ref xO, .int (nI (cnt)), .int (nI (te)), .int (nI (tr))])), (xM, .inl (cM, 20, .inr (.inr (.inr (.inr (mf)))))), (am, .inr (0, [.int (nI (it)), .ref ad, .ref af, .int (nI (dr))])), (ad, .inl (cI, 4, .inl (fun j => nI (dp j))))]) hP hD hS hA [2] [0, 1, 3] [0, 1, 3, 2] rfl rfl (by decide) (by decide) (fun _ => rfl) (by decide) (va_runV (As := []) (rest := []) ⟨hx, hb, hml, hown, hts⟩ (c_samp l D cI cL cM H.size am ad af it dr (by omega)) (cwV 0 hts gX3_depth_X0_isSampled rfl rfl rfl (by decide +kernel) ⟨Nat.le_of_ble_eq_true rfl, Nat.le_of_ble_eq_true rfl⟩) (k_preV hP hD hK [2] rfl (by decide) 0 rfl rfl rfl) rfl rfl hl.1 rfl (lv_room (Nat.le_of_ble_eq_true rfl)) dX3_depth_66 ⟨Nat.le_of_ble_eq_true rfl, Nat.le_of_ble_eq_true rfl⟩) (fun r_8 _ H locs hw hP hD hS => ?_)
    obtain rfl : r_8 = nI (b2 (0 < dr)) := hw
    refine n_if_eq (tgt := 75) hx hb (Nat.lt_of_le_of_lt (b2_le _) (by omega)) dX3_depth_69 (by decide) (fun c_9 => ?_) (fun c_9 => ?_)
    · have hbl : (decide (0 < dr)) = false := decide_eq_false (b2_0 c_9)
      refine lv_aload hx hb dX3_depth_75 (lv_at hl 1 rfl) ?_
      refine va_get (D := D) (cl := vwCl) (ci := 0) (v := .ref ad) (C := RX0) (T := TX0) (N := 4) hx hb hts in_X3_depth_X0 hown hK hP 2 rfl rfl 1 (by decide) (hts (.fieldLink RX3 43 "BulkSamples$Mailing" "declared" "[I") fl_X3_depth_43) (fun _ h9 => h9) rfl dX3_depth_77 ?_
      refine lv_iload_n hx hb dX3_depth_80 rfl (lv_at hl 4 rfl) ?_
      refine lv_iload_n hx hb dX3_depth_81 rfl (lv_at hl 5 rfl) ?_
      refine n_iast (f' := fun j => nI ((slF 4 it (decide (0 < dr)) dp j9 k9) j)) (ws' := [(h0, .inr (3, [.ref xM, .ref xP, .ref xG, .ref xO, .int (nI (cnt)), .int (nI (te)), .int (nI (tr))])), (xM, .inl (cM, 20, .inr (.inr (.inr (.inr (mf)))))), (am, .inr (0, [.int (nI (it)), .ref ad, .ref af, .int (nI (dr))])), (ad, .inl (cI, 4, .inl (fun j => nI ((slF 4 it (decide (0 < dr)) dp j9 k9) j))))]) hx hb hK hP hD hS 3 0 rfl rfl (by omega) (by omega) (fun i _ => by rw [slF_ok (by omega) hbl]; split <;> rfl) rfl dX3_depth_82 (fun H locs hP hD hS => ?_)
      refine lv_iload hx hb dX3_depth_83 (lv_at hl 0 rfl) ?_
      refine lv_iload_n hx hb dX3_depth_85 rfl (lv_at hl 5 rfl) ?_
      refine n_iadd (r := ((psum dp 4) - (dp j9)) + k9) hx hb dX3_depth_86 rfl ?_
      refine W.widen (k := 0) (n := 0) (Nat.le_of_ble_eq_true rfl) (Nat.le_of_ble_eq_true rfl) ?_
      exact k_iret (v := nI (((psum dp 4) - (dp j9)) + k9)) hx hb hr hlocks hP hD hK hS [0, 1, 2, 3] () rfl (by decide) (by rw [slR, if_neg (by omega), hbl, if_neg (by decide)]) dX3_depth_87
    · have hbl : (decide (0 < dr)) = true := decide_eq_true (b2_pos c_9)
      refine lv_bipush (v := (-13)) hx hb dX3_depth_72 (by decide) ?_
      have hP : va_P D vwCl [(h0, .inr (3, [.ref xM, .ref xP, .ref xG, .ref xO, .int (nI (cnt)), .int (nI (te)), .int (nI (tr))])), (xM, .inl (cM, 20, .inr (.inr (.inr (.inr (mf)))))), (am, .inr (0, [.int (nI (it)), .ref ad, .ref af, .int (nI (dr))])), (ad, .inl (cI, 4, .inl (fun j => nI ((slF 4 it (decide (0 < dr)) dp j9 k9) j))))] H := P_altI _ hP 3 rfl rfl (fun i _ => congrArg nI (slF_no (Or.inr hbl) i).symm)
      have hD : va_D A [(h0, .inr (3, [.ref xM, .ref xP, .ref xG, .ref xO, .int (nI (cnt)), .int (nI (te)), .int (nI (tr))])), (xM, .inl (cM, 20, .inr (.inr (.inr (.inr (mf)))))), (am, .inr (0, [.int (nI (it)), .ref ad, .ref af, .int (nI (dr))])), (ad, .inl (cI, 4, .inl (fun j => nI ((slF 4 it (decide (0 < dr)) dp j9 k9) j))))] := D_alt hD (q0 := 3) rfl rfl
      refine W.widen (k := 0) (n := 0) (Nat.le_of_ble_eq_true rfl) (Nat.le_of_ble_eq_true rfl) ?_
      exact k_iret (v := (-13)) hx hb hr hlocks hP hD hK hS [0, 1, 2, 3] () rfl (by decide) (by rw [slR, if_neg (by omega), hbl, if_pos rfl]) dX3_depth_74
  · refine lv_bipush (v := (-12)) hx hb dX3_depth_61 (by decide) ?_
    have hP : va_P D vwCl [(h0, .inr (3, [.ref xM, .ref xP, .ref xG, .ref xO, .int (nI (cnt)), .int (nI (te)), .int (nI (tr))])), (xM, .inl (cM, 20, .inr (.inr (.inr (.inr (mf)))))), (am, .inr (0, [.int (nI (it)), .ref ad, .ref af, .int (nI (dr))])), (ad, .inl (cI, 4, .inl (fun j => nI ((slF 4 it (decide (0 < dr)) dp j9 k9) j))))] H := P_altI _ hP 3 rfl rfl (fun i _ => congrArg nI (slF_no (Or.inl (by omega)) i).symm)
    have hD : va_D A [(h0, .inr (3, [.ref xM, .ref xP, .ref xG, .ref xO, .int (nI (cnt)), .int (nI (te)), .int (nI (tr))])), (xM, .inl (cM, 20, .inr (.inr (.inr (.inr (mf)))))), (am, .inr (0, [.int (nI (it)), .ref ad, .ref af, .int (nI (dr))])), (ad, .inl (cI, 4, .inl (fun j => nI ((slF 4 it (decide (0 < dr)) dp j9 k9) j))))] := D_alt hD (q0 := 3) rfl rfl
    refine W.widen (k := 0) (n := 0) (Nat.le_of_ble_eq_true rfl) (Nat.le_of_ble_eq_true rfl) ?_
    exact k_iret (v := (-12)) hx hb hr hlocks hP hD hK hS [0, 1, 2, 3] () rfl (by decide) (by rw [slR, if_pos (by omega)]) dX3_depth_63
set_option maxHeartbeats 4000000 in
set_option maxRecDepth 100000 in
/-- a number at a place -/
theorem c_w_in (l : Launch) (D : va_G) (cI cL cM : ClassId) (sz : Nat) (h0 xM xP xG xO cnt te tr : Nat) (mf : Nat → Option Nat) (x : Int32) (am ad af it dr : Nat) (hsome : fnd mf x = some am) (fd : Nat → Nat) (j9 k9 : Nat) (hj9 : j9 < 3) (hk9 : k9 < 2 ^ 31) (hsum : psum fd 3 ≤ dr) (hit : it ≤ 200) (hdr : dr ≤ 200) : Met l yX3_wrong wsX3_wrong ({ frames := 1, cells := 0, slots := 0, locals := 22 } : Room) (va_Pc [.ref h0, .int x, .int (nI (j9)), .int (nI (k9))] (PreB D (gT cI cL cM) sz [(h0, .inr (3, [.ref xM, .ref xP, .ref xG, .ref xO, .int (nI (cnt)), .int (nI (te)), .int (nI (tr))])), (xM, .inl (cM, 20, .inr (.inr (.inr (.inr (mf)))))), (am, .inr (0, [.int (nI (it)), .ref ad, .ref af, .int (nI (dr))])), (af, .inl (cI, 3, .inl (fun j => nI (fd j))))])) (va_Qi (fun r _ => r = slR 3 dr (decide (dr = 0)) fd j9 k9) (fun (_ : Unit) => PostB D (gT cI cL cM) (va_A [(h0, .inr (3, [.ref xM, .ref xP, .ref xG, .ref xO, .int (nI (cnt)), .int (nI (te)), .int (nI (tr))])), (xM, .inl (cM, 20, .inr (.inr (.inr (.inr (mf)))))), (am, .inr (0, [.int (nI (it)), .ref ad, .ref af, .int (nI (dr))])), (af, .inl (cI, 3, .inl (fun j => nI (fd j))))] sz) [(h0, .inr (3, [.ref xM, .ref xP, .ref xG, .ref xO, .int (nI (cnt)), .int (nI (te)), .int (nI (tr))])), (xM, .inl (cM, 20, .inr (.inr (.inr (.inr (mf)))))), (am, .inr (0, [.int (nI (it)), .ref ad, .ref af, .int (nI (dr))])), (af, .inl (cI, 3, .inl (fun j => nI ((slF 3 dr (decide (dr = 0)) fd j9 k9) j))))]) (va_A [(h0, .inr (3, [.ref xM, .ref xP, .ref xG, .ref xO, .int (nI (cnt)), .int (nI (te)), .int (nI (tr))])), (xM, .inl (cM, 20, .inr (.inr (.inr (.inr (mf)))))), (am, .inr (0, [.int (nI (it)), .ref ad, .ref af, .int (nI (dr))])), (af, .inl (cI, 3, .inl (fun j => nI (fd j))))] sz)) 0 0 (va_A [(h0, .inr (3, [.ref xM, .ref xP, .ref xG, .ref xO, .int (nI (cnt)), .int (nI (te)), .int (nI (tr))])), (xM, .inl (cM, 20, .inr (.inr (.inr (.inr (mf)))))), (am, .inr (0, [.int (nI (it)), .ref ad, .ref af, .int (nI (dr))])), (af, .inl (cI, 3, .inl (fun j => nI (fd j))))] sz) := by
  refine k_start (fun A => (va_Qi (fun r _ => r = slR 3 dr (decide (dr = 0)) fd j9 k9) (fun (_ : Unit) => PostB D (gT cI cL cM) A [(h0, .inr (3, [.ref xM, .ref xP, .ref xG, .ref xO, .int (nI (cnt)), .int (nI (te)), .int (nI (tr))])), (xM, .inl (cM, 20, .inr (.inr (.inr (.inr (mf)))))), (am, .inr (0, [.int (nI (it)), .ref ad, .ref af, .int (nI (dr))])), (af, .inl (cI, 3, .inl (fun j => nI ((slF 3 dr (decide (dr = 0)) fd j9 k9) j))))]) A)) (cc := cX3_wrong) (maxL := 6) (ret := (some .int)) (by decide) rfl (Nat.le_of_ble_eq_true rfl) ?_
  intro p e s m below meth c A ls hx hb hr hts hown hlocks hin hml hP hK hD hA hS hl
  have hl : lv_has ls 6 [(0, .ref h0), (1, .int x), (2, .int (nI (j9))), (3, .int (nI (k9)))] := hl
  have hown : s.vm.findClass RX3 = some m.cls := hown
  refine lv_aload_n hx hb dX3_wrong_0 rfl (lv_at hl 0 rfl) ?_
  refine lv_iload_n hx hb dX3_wrong_1 rfl (lv_at hl 1 rfl) ?_
  refine k_callq (wc := [(h0, .inr (3, [.ref xM, .ref xP, .ref xG, .ref xO, .int (nI (cnt)), .int (nI (te)), .int (nI (tr))])), (xM, .inl (cM, 20, .inr (.inr (.inr (.inr (mf))))))]) (wr := [(am, .inr (0, [.int (nI (it)), .ref ad, .ref af, .int (nI (dr))])), (af, .inl (cI, 3, .inl (fun j => nI (fd j))))]) (W1 := fun _ => [(h0, .inr (3, [.ref xM, .ref xP, .ref xG, .ref xO, .int (nI (cnt)), .int (nI (te)), .int (nI (tr))])), (xM, .inl (cM, 20, .inr (.inr (.inr (.inr (mf)))))), (am, .inr (0, [.int (nI (it)), .ref ad, .ref af, .int (nI (dr))])), (af, .inl (cI, 3, .inl (fun j => nI (fd j))))]) hP hD hS hA [0, 1] [2, 3] [2, 3, 0, 1] rfl rfl (by decide) (by decide) (fun _ => rfl) (by decide) (va_runV (As := [.int x]) (rest := []) ⟨hx, hb, hml, hown, hts⟩ (c_find l D cI cL cM s.heap.size h0 xM xP xG xO cnt te tr mf x) (cwV 1 hts gX3_wrong_X3_find rfl rfl rfl (by decide +kernel) ⟨Nat.le_of_ble_eq_true rfl, Nat.le_of_ble_eq_true rfl⟩) (k_preV hP hD hK [0, 1] rfl (by decide) 0 rfl rfl rfl) rfl rfl hl.1 rfl (lv_room (Nat.le_of_ble_eq_true rfl)) dX3_wrong_2 ⟨Nat.le_of_ble_eq_true rfl, Nat.le_of_ble_eq_true rfl⟩) (fun r_1 _ H locs hw hP hD hS => ?_)
  obtain rfl : r_1 = some am := hw.trans hsome
  refine W.eq (g2 := F0 m 5 ls [.ref am]) rfl ?_
  refine lv_astore (lv' := [(4, .ref am), (0, .ref h0), (1, .int x), (2, .int (nI (j9))), (3, .int (nI (k9)))]) hx hb dX3_wrong_5 hl (by decide) rfl (fun ls hl => ?_)
  refine lv_aload hx hb dX3_wrong_7 (lv_at hl 0 rfl) ?_
  have hfj := psum_ge fd hj9
  refine lv_ifnonnull (tgt := 15) hx hb dX3_wrong_9 (by decide) ?_
  refine lv_iload_n hx hb dX3_wrong_15 rfl (lv_at hl 3 rfl) ?_
  refine n_if_lt (tgt := 28) hx hb (by omega) dX3_wrong_16 (by decide) ?_
  refine lv_iload_n hx hb dX3_wrong_19 rfl (lv_at hl 3 rfl) ?_
  refine lv_iconst (v := nI (3)) hx hb dX3_wrong_20 (by decide) ?_
  refine n_icmp_ge (tgt := 28) hx hb (by omega) (by omega) dX3_wrong_21 (by decide) (fun c_4 => False.elim (by omega)) (fun c_4 => ?_)
  refine lv_iload_n hx hb dX3_wrong_24 rfl (lv_at hl 4 rfl) ?_
  refine n_if_ge (tgt := 31) hx hb (by omega) dX3_wrong_25 (by decide) ?_
  refine lv_aload hx hb dX3_wrong_31 (lv_at hl 0 rfl) ?_
  refine va_get (D := D) (cl := vwCl) (ci := 0) (v := .ref af) (C := RX0) (T := TX0) (N := 4) hx hb hts in_X3_wrong_X0 hown hK hP 2 rfl rfl 2 (by decide) (hts (.fieldLink RX3 69 "BulkSamples$Mailing" "found" "[I") fl_X3_wrong_69) (fun _ h9 => h9) rfl dX3_wrong_33 ?_
  refine k_calli (wc := [(af, .inl (cI, 3, .inl (fun j => nI (fd j))))]) (wr := [(h0, .inr (3, [.ref xM, .ref xP, .ref xG, .ref xO, .int (nI (cnt)), .int (nI (te)), .int (nI (tr))])), (xM, .inl (cM, 20, .inr (.inr (.inr (.inr (mf)))))), (am, .inr (0, [.int (nI (it)), .ref ad, .ref af, .int (nI (dr))]))]) (W1 := fun _ => [(h0, .inr (3, [.ref xM, .ref xP, .ref xG, .ref xO, .int (nI (cnt)), .int (nI (te)), .int (nI (tr))])), (xM, .inl (cM, 20, .inr (.inr (.inr (.inr (mf)))))), (am, .inr (0, [.int (nI (it)), .ref ad, .ref af, .int (nI (dr))])), (af, .inl (cI, 3, .inl (fun j => nI (fd j))))]) hP hD hS hA [3] [0, 1, 2] [0, 1, 2, 3] rfl rfl (by decide) (by decide) (fun _ => rfl) (by decide) (va_runS (As := [.ref af]) (rest := []) ⟨hx, hb, hml, hown, hts⟩ (c_sum l D cI cL cM H.size af 3 fd (by omega)) (va_cwS 1 hts gX3_wrong_X3_sum rfl rfl rfl (by decide +kernel) ⟨Nat.le_of_ble_eq_true rfl, Nat.le_of_ble_eq_true rfl⟩) (k_preS hP hD hK [3] rfl (by decide)) rfl rfl hl.1 rfl (lv_room (Nat.le_of_ble_eq_true rfl)) dX3_wrong_36 ⟨Nat.le_of_ble_eq_true rfl, Nat.le_of_ble_eq_true rfl⟩) (fun r_6 _ H locs hw hP hD hS => ?_)
  obtain rfl : r_6 = nI (psum fd 3) := hw
  refine lv_aload hx hb dX3_wrong_39 (lv_at hl 0 rfl) ?_
  refine va_get (D := D) (cl := vwCl) (ci := 0) (v := .ref af) (C := RX0) (T := TX0) (N := 4) hx hb hts in_X3_wrong_X0 hown hK hP 2 rfl rfl 2 (by decide) (hts (.fieldLink RX3 69 "BulkSamples$Mailing" "found" "[I") fl_X3_wrong_69) (fun _ h9 => h9) rfl dX3_wrong_41 ?_
  refine lv_iload_n hx hb dX3_wrong_44 rfl (lv_at hl 3 rfl) ?_
  refine n_iald (x := nI (fd j9)) hx hb hK hP 3 0 rfl rfl (by omega) (by omega) rfl dX3_wrong_45 ?_
  refine n_isub (r := (psum fd 3) - (fd j9)) hx hb dX3_wrong_46 (by omega) rfl ?_
  refine lv_istore (lv' := [(5, .int (nI ((psum fd 3) - (fd j9)))), (4, .ref am), (0, .ref h0), (1, .int x), (2, .int (nI (j9))), (3, .int (nI (k9)))]) hx hb dX3_wrong_47 hl (by decide) rfl (fun ls hl => ?_)
  refine lv_iload_n hx hb dX3_wrong_49 rfl (lv_at hl 5 rfl) ?_
  refine lv_aload hx hb dX3_wrong_50 (lv_at hl 1 rfl) ?_
  refine va_get (D := D) (cl := vwCl) (ci := 0) (v := .int (nI (dr))) (C := RX0) (T := TX0) (N := 4) hx hb hts in_X3_wrong_X0 hown hK hP 2 rfl rfl 3 (by decide) (hts (.fieldLink RX3 66 "BulkSamples$Mailing" "drawn" "I") fl_X3_wrong_66) (fun _ h9 => h9) rfl dX3_wrong_52 ?_
  refine lv_iload hx hb dX3_wrong_55 (lv_at hl 0 rfl) ?_
  refine n_isub (r := dr - ((psum fd 3) - (fd j9))) hx hb dX3_wrong_57 (by omega) rfl ?_
  refine n_icmp_le (tgt := 64) hx hb (by omega) (by omega) dX3_wrong_58 (by decide) (fun c_7 => ?_) (fun c_7 => ?_)
  · refine lv_aload hx hb dX3_wrong_64 (lv_at hl 1 rfl) ?_
    refine k_calli (wc := [(am, .inr (0, [.int (nI (it)), .ref ad, .ref af, .int (nI (dr))]))]) (wr := [(h0, .inr (3, [.ref xM, .ref xP, .ref xG, .ref xO, .int (nI (cnt)), .int (nI (te)), .int (nI (tr))])), (xM, .inl (cM, 20, .inr (.inr (.inr (.inr (mf)))))), (af, .inl (cI, 3, .inl (fun j => nI (fd j))))]) (W1 := fun _ => [(h0, .inr (3, [.ref xM, .ref xP, .ref xG, .ref xO, .int (nI (cnt)), .int (nI (te)), .int (nI (tr))])), (xM, .inl (cM, 20, .inr (.inr (.inr (.inr (mf)))))), (am, .inr (0, [.int (nI (it)), .ref ad, .ref af, .int (nI (dr))])), (af, .inl (cI, 3, .inl (fun j => nI (fd j))))]) hP hD hS hA [2] [0, 1, 3] [0, 1, 3, 2] rfl rfl (by decide) (by decide) (fun _ => rfl) (by decide) (va_runV (As := []) (rest := []) ⟨hx, hb, hml, hown, hts⟩ (c_samp l D cI cL cM H.size am ad af it dr (by omega)) (cwV 0 hts gX3_wrong_X0_isSampled rfl rfl rfl (by decide +kernel) ⟨Nat.le_of_ble_eq_true rfl, Nat.le_of_ble_eq_true rfl⟩) (k_preV hP hD hK [2] rfl (by decide) 0 rfl rfl rfl) rfl rfl hl.1 rfl (lv_room (Nat.le_of_ble_eq_true rfl)) dX3_wrong_66 ⟨Nat.le_of_ble_eq_true rfl, Nat.le_of_ble_eq_true rfl⟩) (fun r_8 _ H locs hw hP hD hS => ?_)
    obtain rfl : r_8 = nI (b2 (0 < dr)) := hw
    refine n_if_ne (tgt := 75) hx hb (Nat.lt_of_le_of_lt (b2_le _) (by omega)) dX3_wrong_69 (by decide) (fun c_9 => ?_) (fun c_9 => ?_)
    · have hbl : (decide (dr = 0)) = false := decide_eq_false (by have := b2_pos c_9; omega)
      refine lv_aload hx hb dX3_wrong_75 (lv_at hl 1 rfl) ?_
      refine va_get (D := D) (cl := vwCl) (ci := 0) (v := .ref af) (C := RX0) (T := TX0) (N := 4) hx hb hts in_X3_wrong_X0 hown hK hP 2 rfl rfl 2 (by decide) (hts (.fieldLink RX3 69 "BulkSamples$Mailing" "found" "[I") fl_X3_wrong_69) (fun _ h9 => h9) rfl dX3_wrong_77 ?_
      refine lv_iload_n hx hb dX3_wrong_80 rfl (lv_at hl 4 rfl) ?_
      refine lv_iload_n hx hb dX3_wrong_81 rfl (lv_at hl 5 rfl) ?_
      refine n_iast (f' := fun j => nI ((slF 3 dr (decide (dr = 0)) fd j9 k9) j)) (ws' := [(h0, .inr (3, [.ref xM, .ref xP, .ref xG, .ref xO, .int (nI (cnt)), .int (nI (te)), .int (nI (tr))])), (xM, .inl (cM, 20, .inr (.inr (.inr (.inr (mf)))))), (am, .inr (0, [.int (nI (it)), .ref ad, .ref af, .int (nI (dr))])), (af, .inl (cI, 3, .inl (fun j => nI ((slF 3 dr (decide (dr = 0)) fd j9 k9) j))))]) hx hb hK hP hD hS 3 0 rfl rfl (by omega) (by omega) (fun i _ => by rw [slF_ok (by omega) hbl]; split <;> rfl) rfl dX3_wrong_82 (fun H locs hP hD hS => ?_)
      refine lv_iload hx hb dX3_wrong_83 (lv_at hl 0 rfl) ?_
      refine lv_iload_n hx hb dX3_wrong_85 rfl (lv_at hl 5 rfl) ?_
      refine n_iadd (r := ((psum fd 3) - (fd j9)) + k9) hx hb dX3_wrong_86 rfl ?_
      refine W.widen (k := 0) (n := 0) (Nat.le_of_ble_eq_true rfl) (Nat.le_of_ble_eq_true rfl) ?_
      exact k_iret (v := nI (((psum fd 3) - (fd j9)) + k9)) hx hb hr hlocks hP hD hK hS [0, 1, 2, 3] () rfl (by decide) (by rw [slR, if_neg (by omega), hbl, if_neg (by decide)]) dX3_wrong_87
    · have hbl : (decide (dr = 0)) = true := decide_eq_true (by have := b2_0 c_9; omega)
      refine lv_bipush (v := (-13)) hx hb dX3_wrong_72 (by decide) ?_
      have hP : va_P D vwCl [(h0, .inr (3, [.ref xM, .ref xP, .ref xG, .ref xO, .int (nI (cnt)), .int (nI (te)), .int (nI (tr))])), (xM, .inl (cM, 20, .inr (.inr (.inr (.inr (mf)))))), (am, .inr (0, [.int (nI (it)), .ref ad, .ref af, .int (nI (dr))])), (af, .inl (cI, 3, .inl (fun j => nI ((slF 3 dr (decide (dr = 0)) fd j9 k9) j))))] H := P_altI _ hP 3 rfl rfl (fun i _ => congrArg nI (slF_no (Or.inr hbl) i).symm)
      have hD : va_D A [(h0, .inr (3, [.ref xM, .ref xP, .ref xG, .ref xO, .int (nI (cnt)), .int (nI (te)), .int (nI (tr))])), (xM, .inl (cM, 20, .inr (.inr (.inr (.inr (mf)))))), (am, .inr (0, [.int (nI (it)), .ref ad, .ref af, .int (nI (dr))])), (af, .inl (cI, 3, .inl (fun j => nI ((slF 3 dr (decide (dr = 0)) fd j9 k9) j))))] := D_alt hD (q0 := 3) rfl rfl
      refine W.widen (k := 0) (n := 0) (Nat.le_of_ble_eq_true rfl) (Nat.le_of_ble_eq_true rfl) ?_
      exact k_iret (v := (-13)) hx hb hr hlocks hP hD hK hS [0, 1, 2, 3] () rfl (by decide) (by rw [slR, if_neg (by omega), hbl, if_pos rfl]) dX3_wrong_74
  · refine lv_bipush (v := (-12)) hx hb dX3_wrong_61 (by decide) ?_
    have hP : va_P D vwCl [(h0, .inr (3, [.ref xM, .ref xP, .ref xG, .ref xO, .int (nI (cnt)), .int (nI (te)), .int (nI (tr))])), (xM, .inl (cM, 20, .inr (.inr (.inr (.inr (mf)))))), (am, .inr (0, [.int (nI (it)), .ref ad, .ref af, .int (nI (dr))])), (af, .inl (cI, 3, .inl (fun j => nI ((slF 3 dr (decide (dr = 0)) fd j9 k9) j))))] H := P_altI _ hP 3 rfl rfl (fun i _ => congrArg nI (slF_no (Or.inl (by omega)) i).symm)
    have hD : va_D A [(h0, .inr (3, [.ref xM, .ref xP, .ref xG, .ref xO, .int (nI (cnt)), .int (nI (te)), .int (nI (tr))])), (xM, .inl (cM, 20, .inr (.inr (.inr (.inr (mf)))))), (am, .inr (0, [.int (nI (it)), .ref ad, .ref af, .int (nI (dr))])), (af, .inl (cI, 3, .inl (fun j => nI ((slF 3 dr (decide (dr = 0)) fd j9 k9) j))))] := D_alt hD (q0 := 3) rfl rfl
    refine W.widen (k := 0) (n := 0) (Nat.le_of_ble_eq_true rfl) (Nat.le_of_ble_eq_true rfl) ?_
    exact k_iret (v := (-12)) hx hb hr hlocks hP hD hK hS [0, 1, 2, 3] () rfl (by decide) (by rw [slR, if_pos (by omega)]) dX3_wrong_63
set_option maxHeartbeats 4000000 in
set_option maxRecDepth 100000 in
/-- sample: OUTSIDE -/
theorem c_s_bad (l : Launch) (D : va_G) (cI cL cM : ClassId) (sz : Nat) (h0 xM xP xG xO cnt te tr : Nat) (mf : Nat → Option Nat) (x : Int32) (am ad af it dr : Nat) (hsome : fnd mf x = some am) (n9 : Int32) (hbad : n9 < nI 1) : Met l yX3_sample wsX3_sample ({ frames := 1, cells := 0, slots := 0, locals := 22 } : Room) (va_Pc [.ref h0, .int x, .int n9] (PreB D (gT cI cL cM) sz [(h0, .inr (3, [.ref xM, .ref xP, .ref xG, .ref xO, .int (nI (cnt)), .int (nI (te)), .int (nI (tr))])), (xM, .inl (cM, 20, .inr (.inr (.inr (.inr (mf))))))])) (va_Qi (fun r _ => r = -12) (fun (_ : Unit) => PostB D (gT cI cL cM) (va_A [(h0, .inr (3, [.ref xM, .ref xP, .ref xG, .ref xO, .int (nI (cnt)), .int (nI (te)), .int (nI (tr))])), (xM, .inl (cM, 20, .inr (.inr (.inr (.inr (mf))))))] sz) [(h0, .inr (3, [.ref xM, .ref xP, .ref xG, .ref xO, .int (nI (cnt)), .int (nI (te)), .int (nI (tr))])), (xM, .inl (cM, 20, .inr (.inr (.inr (.inr (mf))))))]) (va_A [(h0, .inr (3, [.ref xM, .ref xP, .ref xG, .ref xO, .int (nI (cnt)), .int (nI (te)), .int (nI (tr))])), (xM, .inl (cM, 20, .inr (.inr (.inr (.inr (mf))))))] sz)) 0 0 (va_A [(h0, .inr (3, [.ref xM, .ref xP, .ref xG, .ref xO, .int (nI (cnt)), .int (nI (te)), .int (nI (tr))])), (xM, .inl (cM, 20, .inr (.inr (.inr (.inr (mf))))))] sz) := by
  refine k_start (fun A => (va_Qi (fun r _ => r = -12) (fun (_ : Unit) => PostB D (gT cI cL cM) A [(h0, .inr (3, [.ref xM, .ref xP, .ref xG, .ref xO, .int (nI (cnt)), .int (nI (te)), .int (nI (tr))])), (xM, .inl (cM, 20, .inr (.inr (.inr (.inr (mf))))))]) A)) (cc := cX3_sample) (maxL := 5) (ret := (some .int)) (by decide) rfl (Nat.le_of_ble_eq_true rfl) ?_
  intro p e s m below meth c A ls hx hb hr hts hown hlocks hin hml hP hK hD hA hS hl
  have hl : lv_has ls 5 [(0, .ref h0), (1, .int x), (2, .int n9)] := hl
  have hown : s.vm.findClass RX3 = some m.cls := hown
  refine lv_aload_n hx hb dX3_sample_0 rfl (lv_at hl 0 rfl) ?_
  refine lv_iload_n hx hb dX3_sample_1 rfl (lv_at hl 1 rfl) ?_
  refine k_callq (wc := [(h0, .inr (3, [.ref xM, .ref xP, .ref xG, .ref xO, .int (nI (cnt)), .int (nI (te)), .int (nI (tr))])), (xM, .inl (cM, 20, .inr (.inr (.inr (.inr (mf))))))]) (wr := []) (W1 := fun _ => [(h0, .inr (3, [.ref xM, .ref xP, .ref xG, .ref xO, .int (nI (cnt)), .int (nI (te)), .int (nI (tr))])), (xM, .inl (cM, 20, .inr (.inr (.inr (.inr (mf))))))]) hP hD hS hA [0, 1] [] [0, 1] rfl rfl (by decide) (by decide) (fun _ => rfl) (by decide) (va_runV (As := [.int x]) (rest := []) ⟨hx, hb, hml, hown, hts⟩ (c_find l D cI cL cM s.heap.size h0 xM xP xG xO cnt te tr mf x) (cwV 1 hts gX3_sample_X3_find rfl rfl rfl (by decide +kernel) ⟨Nat.le_of_ble_eq_true rfl, Nat.le_of_ble_eq_true rfl⟩) (k_preV hP hD hK [0, 1] rfl (by decide) 0 rfl rfl rfl) rfl rfl hl.1 rfl (lv_room (Nat.le_of_ble_eq_true rfl)) dX3_sample_2 ⟨Nat.le_of_ble_eq_true rfl, Nat.le_of_ble_eq_true rfl⟩) (fun r_1 _ H locs hw hP hD hS => ?_)
  obtain rfl : r_1 = some am := hw.trans hsome
  refine W.eq (g2 := F0 m 5 ls [.ref am]) rfl ?_
  refine lv_astore_n (lv' := [(3, .ref am), (0, .ref h0), (1, .int x), (2, .int n9)]) hx hb dX3_sample_5 rfl hl (by decide) rfl (fun ls hl => ?_)
  refine lv_aload_n hx hb dX3_sample_6 rfl (lv_at hl 0 rfl) ?_
  refine lv_ifnonnull (tgt := 13) hx hb dX3_sample_7 (by decide) ?_
  refine lv_iload_n hx hb dX3_sample_13 rfl (lv_at hl 3 rfl) ?_
  refine lv_iconst (v := nI (1)) hx hb dX3_sample_14 (by decide) ?_
  refine lv_icmp_ge (tgt := 21) hx hb dX3_sample_15 (by decide) (fun c => absurd hbad (Int32.not_lt.mpr c)) (fun c_3 => ?_)
  refine lv_bipush (v := (-12)) hx hb dX3_sample_18 (by decide) ?_
  refine W.widen (k := 0) (n := 0) (Nat.le_of_ble_eq_true rfl) (Nat.le_of_ble_eq_true rfl) ?_
  exact k_iret (v := (-12)) hx hb hr hlocks hP hD hK hS [0, 1] () rfl (by decide) rfl dX3_sample_20
set_option maxHeartbeats 4000000 in
set_option maxRecDepth 100000 in
/-- sample -/
theorem c_s_in (l : Launch) (D : va_G) (cI cL cM : ClassId) (sz : Nat) (h0 xM xP xG xO cnt te tr : Nat) (mf : Nat → Option Nat) (x : Int32) (am ad af it dr : Nat) (hsome : fnd mf x = some am) (k9 : Nat) (hk1 : 1 ≤ k9) (hk9 : k9 < 2 ^ 31) (hit : it ≤ 200) (hdr : dr ≤ 200) (hte : te ≤ 300) : Met l yX3_sample wsX3_sample ({ frames := 1, cells := 0, slots := 0, locals := 22 } : Room) (va_Pc [.ref h0, .int x, .int (nI (k9))] (PreB D (gT cI cL cM) sz [(h0, .inr (3, [.ref xM, .ref xP, .ref xG, .ref xO, .int (nI (cnt)), .int (nI (te)), .int (nI (tr))])), (xM, .inl (cM, 20, .inr (.inr (.inr (.inr (mf)))))), (am, .inr (0, [.int (nI (it)), .ref ad, .ref af, .int (nI (dr))]))])) (va_Qi (fun r _ => r = saR it dr te k9) (fun (_ : Unit) => PostB D (gT cI cL cM) (va_A [(h0, .inr (3, [.ref xM, .ref xP, .ref xG, .ref xO, .int (nI (cnt)), .int (nI (te)), .int (nI (tr))])), (xM, .inl (cM, 20, .inr (.inr (.inr (.inr (mf)))))), (am, .inr (0, [.int (nI (it)), .ref ad, .ref af, .int (nI (dr))]))] sz) [(h0, .inr (3, [.ref xM, .ref xP, .ref xG, .ref xO, .int (nI (cnt)), .int (nI (te - saT it dr te k9)), .int (nI (tr))])), (xM, .inl (cM, 20, .inr (.inr (.inr (.inr (mf)))))), (am, .inr (0, [.int (nI (it)), .ref ad, .ref af, .int (nI (dr + saT it dr te k9))]))]) (va_A [(h0, .inr (3, [.ref xM, .ref xP, .ref xG, .ref xO, .int (nI (cnt)), .int (nI (te)), .int (nI (tr))])), (xM, .inl (cM, 20, .inr (.inr (.inr (.inr (mf)))))), (am, .inr (0, [.int (nI (it)), .ref ad, .ref af, .int (nI (dr))]))] sz)) 0 0 (va_A [(h0, .inr (3, [.ref xM, .ref xP, .ref xG, .ref xO, .int (nI (cnt)), .int (nI (te)), .int (nI (tr))])), (xM, .inl (cM, 20, .inr (.inr (.inr (.inr (mf)))))), (am, .inr (0, [.int (nI (it)), .ref ad, .ref af, .int (nI (dr))]))] sz) := by
  refine k_start (fun A => (va_Qi (fun r _ => r = saR it dr te k9) (fun (_ : Unit) => PostB D (gT cI cL cM) A [(h0, .inr (3, [.ref xM, .ref xP, .ref xG, .ref xO, .int (nI (cnt)), .int (nI (te - saT it dr te k9)), .int (nI (tr))])), (xM, .inl (cM, 20, .inr (.inr (.inr (.inr (mf)))))), (am, .inr (0, [.int (nI (it)), .ref ad, .ref af, .int (nI (dr + saT it dr te k9))]))]) A)) (cc := cX3_sample) (maxL := 5) (ret := (some .int)) (by decide) rfl (Nat.le_of_ble_eq_true rfl) ?_
  intro p e s m below meth c A ls hx hb hr hts hown hlocks hin hml hP hK hD hA hS hl
  have hl : lv_has ls 5 [(0, .ref h0), (1, .int x), (2, .int (nI (k9)))] := hl
  have hown : s.vm.findClass RX3 = some m.cls := hown
  refine lv_aload_n hx hb dX3_sample_0 rfl (lv_at hl 0 rfl) ?_
  refine lv_iload_n hx hb dX3_sample_1 rfl (lv_at hl 1 rfl) ?_
  refine k_callq (wc := [(h0, .inr (3, [.ref xM, .ref xP, .ref xG, .ref xO, .int (nI (cnt)), .int (nI (te)), .int (nI (tr))])), (xM, .inl (cM, 20, .inr (.inr (.inr (.inr (mf))))))]) (wr := [(am, .inr (0, [.int (nI (it)), .ref ad, .ref af, .int (nI (dr))]))]) (W1 := fun _ => [(h0, .inr (3, [.ref xM, .ref xP, .ref xG, .ref xO, .int (nI (cnt)), .int (nI (te)), .int (nI (tr))])), (xM, .inl (cM, 20, .inr (.inr (.inr (.inr (mf)))))), (am, .inr (0, [.int (nI (it)), .ref ad, .ref af, .int (nI (dr))]))]) hP hD hS hA [0, 1] [2] [1, 2, 0] rfl rfl (by decide) (by decide) (fun _ => rfl) (by decide) (va_runV (As := [.int x]) (rest := []) ⟨hx, hb, hml, hown, hts⟩ (c_find l D cI cL cM s.heap.size h0 xM xP xG xO cnt te tr mf x) (cwV 1 hts gX3_sample_X3_find rfl rfl rfl (by decide +kernel) ⟨Nat.le_of_ble_eq_true rfl, Nat.le_of_ble_eq_true rfl⟩) (k_preV hP hD hK [0, 1] rfl (by decide) 0 rfl rfl rfl) rfl rfl hl.1 rfl (lv_room (Nat.le_of_ble_eq_true rfl)) dX3_sample_2 ⟨Nat.le_of_ble_eq_true rfl, Nat.le_of_ble_eq_true rfl⟩) (fun r_1 _ H locs hw hP hD hS => ?_)
  obtain rfl : r_1 = some am := hw.trans hsome
  refine W.eq (g2 := F0 m 5 ls [.ref am]) rfl ?_
  refine lv_astore_n (lv' := [(3, .ref am), (0, .ref h0), (1, .int x), (2, .int (nI (k9)))]) hx hb dX3_sample_5 rfl hl (by decide) rfl (fun ls hl => ?_)
  refine lv_aload_n hx hb dX3_sample_6 rfl (lv_at hl 0 rfl) ?_
  refine lv_ifnonnull (tgt := 13) hx hb dX3_sample_7 (by decide) ?_
  refine lv_iload_n hx hb dX3_sample_13 rfl (lv_at hl 3 rfl) ?_
  refine lv_iconst (v := nI (1)) hx hb dX3_sample_14 (by decide) ?_
  refine n_icmp_ge (tgt := 21) hx hb (by omega) (by omega) dX3_sample_15 (by decide) (fun c_3 => ?_) (fun c_3 => False.elim (by omega))
  refine lv_aload_n hx hb dX3_sample_21 rfl (lv_at hl 0 rfl) ?_
  refine k_calli (wc := [(am, .inr (0, [.int (nI (it)), .ref ad, .ref af, .int (nI (dr))]))]) (wr := [(h0, .inr (3, [.ref xM, .ref xP, .ref xG, .ref xO, .int (nI (cnt)), .int (nI (te)), .int (nI (tr))])), (xM, .inl (cM, 20, .inr (.inr (.inr (.inr (mf))))))]) (W1 := fun _ => [(h0, .inr (3, [.ref xM, .ref xP, .ref xG, .ref xO, .int (nI (cnt)), .int (nI (te)), .int (nI (tr))])), (xM, .inl (cM, 20, .inr (.inr (.inr (.inr (mf)))))), (am, .inr (0, [.int (nI (it)), .ref ad, .ref af, .int (nI (dr))]))]) hP hD hS hA [2] [0, 1] [0, 1, 2] rfl rfl (by decide) (by decide) (fun _ => rfl) (by decide) (va_runV (As := []) (rest := []) ⟨hx, hb, hml, hown, hts⟩ (c_samp l D cI cL cM H.size am ad af it dr (by omega)) (cwV 0 hts gX3_sample_X0_isSampled rfl rfl rfl (by decide +kernel) ⟨Nat.le_of_ble_eq_true rfl, Nat.le_of_ble_eq_true rfl⟩) (k_preV hP hD hK [2] rfl (by decide) 0 rfl rfl rfl) rfl rfl hl.1 rfl (lv_room (Nat.le_of_ble_eq_true rfl)) dX3_sample_22 ⟨Nat.le_of_ble_eq_true rfl, Nat.le_of_ble_eq_true rfl⟩) (fun r_4 _ H locs hw hP hD hS => ?_)
  obtain rfl : r_4 = nI (b2 (0 < dr)) := hw
  refine n_if_eq (tgt := 31) hx hb (Nat.lt_of_le_of_lt (b2_le _) (by omega)) dX3_sample_25 (by decide) (fun c_5 => ?_) (fun c_5 => ?_)
  · have hd0 : dr = 0 := by have := b2_0 c_5; omega
    refine lv_iload_n hx hb dX3_sample_31 rfl (lv_at hl 3 rfl) ?_
    refine lv_aload_n hx hb dX3_sample_32 rfl (lv_at hl 0 rfl) ?_
    refine va_get (D := D) (cl := vwCl) (ci := 0) (v := .int (nI (it))) (C := RX0) (T := TX0) (N := 4) hx hb hts in_X3_sample_X0 hown hK hP 2 rfl rfl 0 (by decide) (hts (.fieldLink RX3 50 "BulkSamples$Mailing" "items" "I") fl_X3_sample_50) (fun _ h9 => h9) rfl dX3_sample_33 ?_
    refine va_mmin hx hb (hml.trans hl.1.symm) hown (hts (.methodLink RX3 60 Lib.Math.min.name) (by decide +kernel)) (hts (.static Lib.Math.min.name) (by decide +kernel)) (hts (.initialized "java/lang/Math") (by decide +kernel)) (hts (.code Lib.Math.min.name Lib.Math.min.code 2 (some .int)) (by decide +kernel)) (Nat.le_of_ble_eq_true rfl) (Nat.le_of_ble_eq_true rfl) (by decide) (by decide) dX3_sample_36 ?_
    rw [show (if nI (it) < nI (k9) then nI (it) else nI (k9)) = nI (min k9 it) from minI (by omega) (by omega)]
    refine lv_istore (lv' := [(4, .int (nI (min k9 it))), (3, .ref am), (0, .ref h0), (1, .int x), (2, .int (nI (k9)))]) hx hb dX3_sample_39 hl (by decide) rfl (fun ls hl => ?_)
    refine lv_aload_n hx hb dX3_sample_41 rfl (lv_at hl 2 rfl) ?_
    refine va_get (D := D) (cl := vwCl) (ci := 3) (v := .int (nI (te))) (C := RX3) (T := TX3) (N := 7) hx hb hts in_X3_sample_X3 hown hK hP 0 rfl rfl 5 (by decide) (hts (.fieldLink RX3 57 "BulkSamples" "tapeLength" "I") fl_X3_sample_57) (fun _ h9 => h9) rfl dX3_sample_42 ?_
    refine lv_iload hx hb dX3_sample_45 (lv_at hl 0 rfl) ?_
    refine n_icmp_ge (tgt := 53) hx hb (by omega) (by omega) dX3_sample_47 (by decide) (fun c_6 => ?_) (fun c_6 => ?_)
    · have hT : saT it dr te k9 = min k9 it := by rw [saT, if_neg (by omega), if_neg (by omega)]
      refine lv_aload_n hx hb dX3_sample_53 rfl (lv_at hl 2 rfl) ?_
      refine lv_dup hx hb dX3_sample_54 rfl ?_
      refine va_get (D := D) (cl := vwCl) (ci := 3) (v := .int (nI (te))) (C := RX3) (T := TX3) (N := 7) hx hb hts in_X3_sample_X3 hown hK hP 0 rfl rfl 5 (by decide) (hts (.fieldLink RX3 57 "BulkSamples" "tapeLength" "I") fl_X3_sample_57) (fun _ h9 => h9) rfl dX3_sample_55 ?_
      refine lv_iload hx hb dX3_sample_58 (lv_at hl 0 rfl) ?_
      refine n_isub (r := te - (min k9 it)) hx hb dX3_sample_60 (by omega) rfl ?_
      refine va_put (D := D) (cl := vwCl) (ci := 3) (v := .int (nI (te - (min k9 it)))) (ty := tyX3 5) (C := RX3) (T := TX3) (N := 7) hx hb hts in_X3_sample_X3 tyX3 tyX3_ok nmX3 hown hK hP hD hS 0 rfl rfl 5 (by decide) (hts (.fieldLink RX3 57 "BulkSamples" "tapeLength" "I") fl_X3_sample_57) (fun _ h9 => h9) rfl (by decide +kernel) rfl rfl (Nat.le_of_ble_eq_true rfl) dX3_sample_61 (fun H locs hP hD hS => ?_)
      have hP : va_P D vwCl [(h0, .inr (3, [.ref xM, .ref xP, .ref xG, .ref xO, .int (nI (cnt)), .int (nI (te - (min k9 it))), .int (nI (tr))])), (xM, .inl (cM, 20, .inr (.inr (.inr (.inr (mf)))))), (am, .inr (0, [.int (nI (it)), .ref ad, .ref af, .int (nI (dr))]))] H := hP
      have hD : va_D A [(h0, .inr (3, [.ref xM, .ref xP, .ref xG, .ref xO, .int (nI (cnt)), .int (nI (te - (min k9 it))), .int (nI (tr))])), (xM, .inl (cM, 20, .inr (.inr (.inr (.inr (mf)))))), (am, .inr (0, [.int (nI (it)), .ref ad, .ref af, .int (nI (dr))]))] := hD
      refine lv_aload_n hx hb dX3_sample_64 rfl (lv_at hl 1 rfl) ?_
      refine lv_iload hx hb dX3_sample_65 (lv_at hl 0 rfl) ?_
      refine va_put (D := D) (cl := vwCl) (ci := 0) (v := .int (nI (min k9 it))) (ty := tyX0 3) (C := RX0) (T := TX0) (N := 4) hx hb hts in_X3_sample_X0 tyX0 tyX0_ok nmX0 hown hK hP hD hS 2 rfl rfl 3 (by decide) (hts (.fieldLink RX3 66 "BulkSamples$Mailing" "drawn" "I") fl_X3_sample_66) (fun _ h9 => h9) rfl (by decide +kernel) rfl rfl (Nat.le_of_ble_eq_true rfl) dX3_sample_67 (fun H locs hP hD hS => ?_)
      have hP : va_P D vwCl [(h0, .inr (3, [.ref xM, .ref xP, .ref xG, .ref xO, .int (nI (cnt)), .int (nI (te - (min k9 it))), .int (nI (tr))])), (xM, .inl (cM, 20, .inr (.inr (.inr (.inr (mf)))))), (am, .inr (0, [.int (nI (it)), .ref ad, .ref af, .int (nI (min k9 it))]))] H := hP
      have hD : va_D A [(h0, .inr (3, [.ref xM, .ref xP, .ref xG, .ref xO, .int (nI (cnt)), .int (nI (te - (min k9 it))), .int (nI (tr))])), (xM, .inl (cM, 20, .inr (.inr (.inr (.inr (mf)))))), (am, .inr (0, [.int (nI (it)), .ref ad, .ref af, .int (nI (min k9 it))]))] := hD
      refine lv_iload hx hb dX3_sample_70 (lv_at hl 0 rfl) ?_
      have e1 : (te - (min k9 it)) = te - saT it dr te k9 := by omega
      have e2 : (min k9 it) = dr + saT it dr te k9 := by omega
      have hP : va_P D vwCl [(h0, .inr (3, [.ref xM, .ref xP, .ref xG, .ref xO, .int (nI (cnt)), .int (nI (te - saT it dr te k9)), .int (nI (tr))])), (xM, .inl (cM, 20, .inr (.inr (.inr (.inr (mf)))))), (am, .inr (0, [.int (nI (it)), .ref ad, .ref af, .int (nI (dr + saT it dr te k9))]))] H := by rw [← e1, ← e2]; exact hP
      have hD : va_D A [(h0, .inr (3, [.ref xM, .ref xP, .ref xG, .ref xO, .int (nI (cnt)), .int (nI (te - saT it dr te k9)), .int (nI (tr))])), (xM, .inl (cM, 20, .inr (.inr (.inr (.inr (mf)))))), (am, .inr (0, [.int (nI (it)), .ref ad, .ref af, .int (nI (dr + saT it dr te k9))]))] := D_pick hD [0, 1, 2] (by decide) rfl
      refine W.widen (k := 0) (n := 0) (Nat.le_of_ble_eq_true rfl) (Nat.le_of_ble_eq_true rfl) ?_
      exact k_iret (v := nI (min k9 it)) hx hb hr hlocks hP hD hK hS [0, 1, 2] () rfl (by decide) (by rw [saR, if_neg (by omega), if_neg (by omega)]) dX3_sample_72
    · have hT : saT it dr te k9 = 0 := by rw [saT, if_neg (by omega), if_pos (by omega)]
      refine lv_bipush (v := (-14)) hx hb dX3_sample_50 (by decide) ?_
      have e1 : (te) = te - saT it dr te k9 := by omega
      have e2 : (dr) = dr + saT it dr te k9 := by omega
      have hP : va_P D vwCl [(h0, .inr (3, [.ref xM, .ref xP, .ref xG, .ref xO, .int (nI (cnt)), .int (nI (te - saT it dr te k9)), .int (nI (tr))])), (xM, .inl (cM, 20, .inr (.inr (.inr (.inr (mf)))))), (am, .inr (0, [.int (nI (it)), .ref ad, .ref af, .int (nI (dr + saT it dr te k9))]))] H := by rw [← e1, ← e2]; exact hP
      have hD : va_D A [(h0, .inr (3, [.ref xM, .ref xP, .ref xG, .ref xO, .int (nI (cnt)), .int (nI (te - saT it dr te k9)), .int (nI (tr))])), (xM, .inl (cM, 20, .inr (.inr (.inr (.inr (mf)))))), (am, .inr (0, [.int (nI (it)), .ref ad, .ref af, .int (nI (dr + saT it dr te k9))]))] := D_pick hD [0, 1, 2] (by decide) rfl
      refine W.widen (k := 0) (n := 0) (Nat.le_of_ble_eq_true rfl) (Nat.le_of_ble_eq_true rfl) ?_
      exact k_iret (v := (-14)) hx hb hr hlocks hP hD hK hS [0, 1, 2] () rfl (by decide) (by rw [saR, if_neg (by omega), if_pos (by omega)]) dX3_sample_52
  · have hd0 := b2_pos c_5
    have hT : saT it dr te k9 = 0 := by rw [saT, if_pos hd0]
    refine lv_bipush (v := (-13)) hx hb dX3_sample_28 (by decide) ?_
    have e1 : (te) = te - saT it dr te k9 := by omega
    have e2 : (dr) = dr + saT it dr te k9 := by omega
    have hP : va_P D vwCl [(h0, .inr (3, [.ref xM, .ref xP, .ref xG, .ref xO, .int (nI (cnt)), .int (nI (te - saT it dr te k9)), .int (nI (tr))])), (xM, .inl (cM, 20, .inr (.inr (.inr (.inr (mf)))))), (am, .inr (0, [.int (nI (it)), .ref ad, .ref af, .int (nI (dr + saT it dr te k9))]))] H := by rw [← e1, ← e2]; exact hP
    have hD : va_D A [(h0, .inr (3, [.ref xM, .ref xP, .ref xG, .ref xO, .int (nI (cnt)), .int (nI (te - saT it dr te k9)), .int (nI (tr))])), (xM, .inl (cM, 20, .inr (.inr (.inr (.inr (mf)))))), (am, .inr (0, [.int (nI (it)), .ref ad, .ref af, .int (nI (dr + saT it dr te k9))]))] := D_pick hD [0, 1, 2] (by decide) rfl
    refine W.widen (k := 0) (n := 0) (Nat.le_of_ble_eq_true rfl) (Nat.le_of_ble_eq_true rfl) ?_
    exact k_iret (v := (-13)) hx hb hr hlocks hP hD hK hS [0, 1, 2] () rfl (by decide) (by rw [saR, if_pos hd0]) dX3_sample_30
theorem in_X3_bound_X3 : ∀ w ∈ wsX30, w ∈ wsX3_bound := by decide +kernel
theorem fl_X3_bound_29 : Cond.fieldLink RX3 29 "BulkSamples" "trust" "I" ∈ wsX3_bound := by decide +kernel
set_option maxHeartbeats 4000000 in
set_option maxRecDepth 100000 in
/-- bound: no -/
theorem c_b_no (l : Launch) (D : va_G) (cI cL cM : ClassId) (sz : Nat) (h0 xM xP xG xO cnt te tr : Nat) (x : Int32) (hbad : x < nI 500 ∨ nI 999 < x) : Met l yX3_bound wsX3_bound ({ frames := 0, cells := 0, slots := 0, locals := 0 } : Room) (va_Pc [.ref h0, .int x] (PreB D (gT cI cL cM) sz [(h0, .inr (3, [.ref xM, .ref xP, .ref xG, .ref xO, .int (nI (cnt)), .int (nI (te)), .int (nI (tr))]))])) (va_Qi (fun r _ => r = nI 0) (fun (_ : Unit) => PostB D (gT cI cL cM) (va_A [(h0, .inr (3, [.ref xM, .ref xP, .ref xG, .ref xO, .int (nI (cnt)), .int (nI (te)), .int (nI (tr))]))] sz) [(h0, .inr (3, [.ref xM, .ref xP, .ref xG, .ref xO, .int (nI (cnt)), .int (nI (te)), .int (nI (tr))]))]) (va_A [(h0, .inr (3, [.ref xM, .ref xP, .ref xG, .ref xO, .int (nI (cnt)), .int (nI (te)), .int (nI (tr))]))] sz)) 0 0 (va_A [(h0, .inr (3, [.ref xM, .ref xP, .ref xG, .ref xO, .int (nI (cnt)), .int (nI (te)), .int (nI (tr))]))] sz) := by
  refine k_start (fun A => (va_Qi (fun r _ => r = nI 0) (fun (_ : Unit) => PostB D (gT cI cL cM) A [(h0, .inr (3, [.ref xM, .ref xP, .ref xG, .ref xO, .int (nI (cnt)), .int (nI (te)), .int (nI (tr))]))]) A)) (cc := cX3_bound) (maxL := 2) (ret := (some .boolean)) (by decide) rfl (Nat.le_of_ble_eq_true rfl) ?_
  intro p e s m below meth c A ls hx hb hr hts hown hlocks hin hml hP hK hD hA hS hl
  have hl : lv_has ls 2 [(0, .ref h0), (1, .int x)] := hl
  have hown : s.vm.findClass RX3 = some m.cls := hown
  refine lv_iload_n hx hb dX3_bound_0 rfl (lv_at hl 1 rfl) ?_
  refine lv_sipush (v := nI (500)) hx hb dX3_bound_1 (by decide) ?_
  refine lv_icmp_lt (tgt := 14) hx hb dX3_bound_4 (by decide) (fun c_1 => ?_) (fun c_1 => ?_)
  · refine lv_iconst (v := nI (0)) hx hb dX3_bound_14 (by decide) ?_
    exact k_zret (v := nI (0)) hx hb hr rfl hlocks hP hD hK hS [0] () rfl (by decide) rfl dX3_bound_15
  · have h9 : nI 999 < x := hbad.resolve_left c_1
    refine lv_iload_n hx hb dX3_bound_7 rfl (lv_at hl 1 rfl) ?_
    refine lv_sipush (v := nI (999)) hx hb dX3_bound_8 (by decide) ?_
    refine lv_icmp_le (tgt := 16) hx hb dX3_bound_11 (by decide) (fun c => absurd h9 (Int32.not_lt.mpr c)) (fun c_2 => ?_)
    refine lv_iconst (v := nI (0)) hx hb dX3_bound_14 (by decide) ?_
    exact k_zret (v := nI (0)) hx hb hr rfl hlocks hP hD hK hS [0] () rfl (by decide) rfl dX3_bound_15
set_option maxHeartbeats 4000000 in
set_option maxRecDepth 100000 in
/-- bound -/
theorem c_b_ok (l : Launch) (D : va_G) (cI cL cM : ClassId) (sz : Nat) (h0 xM xP xG xO cnt te tr : Nat) (k : Nat) (h5 : 500 ≤ k) (h9 : k ≤ 999) : Met l yX3_bound wsX3_bound ({ frames := 0, cells := 0, slots := 0, locals := 0 } : Room) (va_Pc [.ref h0, .int (nI (k))] (PreB D (gT cI cL cM) sz [(h0, .inr (3, [.ref xM, .ref xP, .ref xG, .ref xO, .int (nI (cnt)), .int (nI (te)), .int (nI (tr))]))])) (va_Qi (fun r _ => r = nI 1) (fun (_ : Unit) => PostB D (gT cI cL cM) (va_A [(h0, .inr (3, [.ref xM, .ref xP, .ref xG, .ref xO, .int (nI (cnt)), .int (nI (te)), .int (nI (tr))]))] sz) [(h0, .inr (3, [.ref xM, .ref xP, .ref xG, .ref xO, .int (nI (cnt)), .int (nI (te)), .int (nI (k))]))]) (va_A [(h0, .inr (3, [.ref xM, .ref xP, .ref xG, .ref xO, .int (nI (cnt)), .int (nI (te)), .int (nI (tr))]))] sz)) 0 0 (va_A [(h0, .inr (3, [.ref xM, .ref xP, .ref xG, .ref xO, .int (nI (cnt)), .int (nI (te)), .int (nI (tr))]))] sz) := by
  refine k_start (fun A => (va_Qi (fun r _ => r = nI 1) (fun (_ : Unit) => PostB D (gT cI cL cM) A [(h0, .inr (3, [.ref xM, .ref xP, .ref xG, .ref xO, .int (nI (cnt)), .int (nI (te)), .int (nI (k))]))]) A)) (cc := cX3_bound) (maxL := 2) (ret := (some .boolean)) (by decide) rfl (Nat.le_of_ble_eq_true rfl) ?_
  intro p e s m below meth c A ls hx hb hr hts hown hlocks hin hml hP hK hD hA hS hl
  have hl : lv_has ls 2 [(0, .ref h0), (1, .int (nI (k)))] := hl
  have hown : s.vm.findClass RX3 = some m.cls := hown
  refine lv_iload_n hx hb dX3_bound_0 rfl (lv_at hl 1 rfl) ?_
  refine lv_sipush (v := nI (500)) hx hb dX3_bound_1 (by decide) ?_
  refine n_icmp_lt (tgt := 14) hx hb (by omega) (by omega) dX3_bound_4 (by decide) (fun c_1 => False.elim (by omega)) (fun c_1 => ?_)
  refine lv_iload_n hx hb dX3_bound_7 rfl (lv_at hl 1 rfl) ?_
  refine lv_sipush (v := nI (999)) hx hb dX3_bound_8 (by decide) ?_
  refine n_icmp_le (tgt := 16) hx hb (by omega) (by omega) dX3_bound_11 (by decide) (fun c_2 => ?_) (fun c_2 => False.elim (by omega))
  refine lv_aload_n hx hb dX3_bound_16 rfl (lv_at hl 0 rfl) ?_
  refine lv_iload_n hx hb dX3_bound_17 rfl (lv_at hl 1 rfl) ?_
  refine va_put (D := D) (cl := vwCl) (ci := 3) (v := .int (nI (k))) (ty := tyX3 6) (C := RX3) (T := TX3) (N := 7) hx hb hts in_X3_bound_X3 tyX3 tyX3_ok nmX3 hown hK hP hD hS 0 rfl rfl 6 (by decide) (hts (.fieldLink RX3 29 "BulkSamples" "trust" "I") fl_X3_bound_29) (fun _ h9 => h9) rfl (by decide +kernel) rfl rfl (Nat.le_of_ble_eq_true rfl) dX3_bound_18 (fun H locs hP hD hS => ?_)
  have hP : va_P D vwCl [(h0, .inr (3, [.ref xM, .ref xP, .ref xG, .ref xO, .int (nI (cnt)), .int (nI (te)), .int (nI (k))]))] H := hP
  have hD : va_D A [(h0, .inr (3, [.ref xM, .ref xP, .ref xG, .ref xO, .int (nI (cnt)), .int (nI (te)), .int (nI (k))]))] := hD
  refine lv_iconst (v := nI (1)) hx hb dX3_bound_21 (by decide) ?_
  exact k_zret (v := nI (1)) hx hb hr rfl hlocks hP hD hK hS [0] () rfl (by decide) rfl dX3_bound_22
theorem in_X3_plan_X3 : ∀ w ∈ wsX30, w ∈ wsX3_plan := by decide +kernel
theorem fl_X3_plan_15 : Cond.fieldLink RX3 15 "BulkSamples" "plans" "[I" ∈ wsX3_plan := by decide +kernel
theorem fl_X3_plan_19 : Cond.fieldLink RX3 19 "BulkSamples" "goodRows" "[I" ∈ wsX3_plan := by decide +kernel
set_option maxHeartbeats 4000000 in
set_option maxRecDepth 100000 in
/-- plan: OUTSIDE -/
theorem c_p_bad (l : Launch) (D : va_G) (cI cL cM : ClassId) (sz : Nat) (h0 xM xP xG xO cnt te tr : Nat) (c9 g9 : Int32) (hbad : c9 < 0 ∨ nI 50 ≤ c9 ∨ g9 < 0 ∨ nI 2 < g9) : Met l yX3_plan wsX3_plan ({ frames := 1, cells := 0, slots := 0, locals := 20 } : Room) (va_Pc [.ref h0, .int c9, .int g9] (PreB D (gT cI cL cM) sz [(h0, .inr (3, [.ref xM, .ref xP, .ref xG, .ref xO, .int (nI (cnt)), .int (nI (te)), .int (nI (tr))]))])) (va_Qi (fun r _ => r = -12) (fun (_ : Unit) => PostB D (gT cI cL cM) (va_A [(h0, .inr (3, [.ref xM, .ref xP, .ref xG, .ref xO, .int (nI (cnt)), .int (nI (te)), .int (nI (tr))]))] sz) [(h0, .inr (3, [.ref xM, .ref xP, .ref xG, .ref xO, .int (nI (cnt)), .int (nI (te)), .int (nI (tr))]))]) (va_A [(h0, .inr (3, [.ref xM, .ref xP, .ref xG, .ref xO, .int (nI (cnt)), .int (nI (te)), .int (nI (tr))]))] sz)) 0 0 (va_A [(h0, .inr (3, [.ref xM, .ref xP, .ref xG, .ref xO, .int (nI (cnt)), .int (nI (te)), .int (nI (tr))]))] sz) := by
  refine k_start (fun A => (va_Qi (fun r _ => r = -12) (fun (_ : Unit) => PostB D (gT cI cL cM) A [(h0, .inr (3, [.ref xM, .ref xP, .ref xG, .ref xO, .int (nI (cnt)), .int (nI (te)), .int (nI (tr))]))]) A)) (cc := cX3_plan) (maxL := 3) (ret := (some .int)) (by decide) rfl (Nat.le_of_ble_eq_true rfl) ?_
  intro p e s m below meth c A ls hx hb hr hts hown hlocks hin hml hP hK hD hA hS hl
  have hl : lv_has ls 3 [(0, .ref h0), (1, .int c9), (2, .int g9)] := hl
  have hown : s.vm.findClass RX3 = some m.cls := hown
  refine lv_iload_n hx hb dX3_plan_0 rfl (lv_at hl 1 rfl) ?_
  refine lv_if_lt (tgt := 19) hx hb dX3_plan_1 (by decide) (fun c_1 => ?_) (fun c_1 => ?_)
  · refine lv_bipush (v := (-12)) hx hb dX3_plan_19 (by decide) ?_
    exact k_iret (v := (-12)) hx hb hr hlocks hP hD hK hS [0] () rfl (by decide) rfl dX3_plan_21
  · refine lv_iload_n hx hb dX3_plan_4 rfl (lv_at hl 1 rfl) ?_
    refine lv_bipush (v := nI (50)) hx hb dX3_plan_5 (by decide) ?_
    refine lv_icmp_ge (tgt := 19) hx hb dX3_plan_7 (by decide) (fun c_2 => ?_) (fun c_2 => ?_)
    · refine lv_bipush (v := (-12)) hx hb dX3_plan_19 (by decide) ?_
      exact k_iret (v := (-12)) hx hb hr hlocks hP hD hK hS [0] () rfl (by decide) rfl dX3_plan_21
    · refine lv_iload_n hx hb dX3_plan_10 rfl (lv_at hl 2 rfl) ?_
      refine lv_if_lt (tgt := 19) hx hb dX3_plan_11 (by decide) (fun c_3 => ?_) (fun c_3 => ?_)
      · refine lv_bipush (v := (-12)) hx hb dX3_plan_19 (by decide) ?_
        exact k_iret (v := (-12)) hx hb hr hlocks hP hD hK hS [0] () rfl (by decide) rfl dX3_plan_21
      · have h0 : nI 2 < g9 := ((hbad.resolve_left c_1).resolve_left c_2).resolve_left c_3
        refine lv_iload_n hx hb dX3_plan_14 rfl (lv_at hl 2 rfl) ?_
        refine lv_iconst (v := nI (2)) hx hb dX3_plan_15 (by decide) ?_
        refine lv_icmp_le (tgt := 22) hx hb dX3_plan_16 (by decide) (fun c => absurd h0 (Int32.not_lt.mpr c)) (fun c_4 => ?_)
        refine lv_bipush (v := (-12)) hx hb dX3_plan_19 (by decide) ?_
        exact k_iret (v := (-12)) hx hb hr hlocks hP hD hK hS [0] () rfl (by decide) rfl dX3_plan_21
theorem max5 {a : Nat} (ha : a < 2 ^ 20) : (if nI a - nI 5 < nI 5 then nI 5 else nI a - nI 5) = nI (max (a - 5) 5) := by
  have e := pk_sub_toInt (a := a) (b := 5) (by omega) (by omega)
  have e5 : (nI 5).toInt = 5 := nI_toInt (by omega)
  by_cases h : a < 10
  · rw [if_pos (Int32.lt_iff_toInt_lt.mpr (by rw [e, e5]; omega)), Nat.max_eq_right (by omega)]
  · rw [if_neg (fun q => by have q2 := Int32.lt_iff_toInt_lt.mp q; rw [e, e5] at q2; omega), Nat.max_eq_left (by omega), pk_sub (by omega)]
set_option maxHeartbeats 4000000 in
set_option maxRecDepth 100000 in
/-- plan -/
theorem c_p_in (l : Launch) (D : va_G) (cI cL cM : ClassId) (sz : Nat) (h0 xM xP xG xO cnt te tr : Nat) (pl go : Nat → Nat) (j9 g : Nat) (hj9 : j9 < 50) (hg : g ≤ 2) (hpl : ∀ j, j < 50 → pl j ≤ 60) (hgo : ∀ j, j < 50 → go j ≤ 2) : Met l yX3_plan wsX3_plan ({ frames := 1, cells := 0, slots := 0, locals := 20 } : Room) (va_Pc [.ref h0, .int (nI (j9)), .int (nI (g))] (PreB D (gT cI cL cM) sz [(h0, .inr (3, [.ref xM, .ref xP, .ref xG, .ref xO, .int (nI (cnt)), .int (nI (te)), .int (nI (tr))])), (xP, .inl (cI, 50, .inl (fun j => nI (pl j)))), (xG, .inl (cI, 50, .inl (fun j => nI (go j))))])) (va_Qi (fun r _ => r = nI (plP (pl j9) (go j9) g)) (fun (_ : Unit) => PostB D (gT cI cL cM) (va_A [(h0, .inr (3, [.ref xM, .ref xP, .ref xG, .ref xO, .int (nI (cnt)), .int (nI (te)), .int (nI (tr))])), (xP, .inl (cI, 50, .inl (fun j => nI (pl j)))), (xG, .inl (cI, 50, .inl (fun j => nI (go j))))] sz) [(h0, .inr (3, [.ref xM, .ref xP, .ref xG, .ref xO, .int (nI (cnt)), .int (nI (te)), .int (nI (tr))])), (xP, .inl (cI, 50, .inl (fun j => nI (if j = j9 then plP (pl j9) (go j9) g else pl j)))), (xG, .inl (cI, 50, .inl (fun j => nI (if j = j9 then plG (go j9) g else go j))))]) (va_A [(h0, .inr (3, [.ref xM, .ref xP, .ref xG, .ref xO, .int (nI (cnt)), .int (nI (te)), .int (nI (tr))])), (xP, .inl (cI, 50, .inl (fun j => nI (pl j)))), (xG, .inl (cI, 50, .inl (fun j => nI (go j))))] sz)) 0 0 (va_A [(h0, .inr (3, [.ref xM, .ref xP, .ref xG, .ref xO, .int (nI (cnt)), .int (nI (te)), .int (nI (tr))])), (xP, .inl (cI, 50, .inl (fun j => nI (pl j)))), (xG, .inl (cI, 50, .inl (fun j => nI (go j))))] sz) := by
  refine k_start (fun A => (va_Qi (fun r _ => r = nI (plP (pl j9) (go j9) g)) (fun (_ : Unit) => PostB D (gT cI cL cM) A [(h0, .inr (3, [.ref xM, .ref xP, .ref xG, .ref xO, .int (nI (cnt)), .int (nI (te)), .int (nI (tr))])), (xP, .inl (cI, 50, .inl (fun j => nI (if j = j9 then plP (pl j9) (go j9) g else pl j)))), (xG, .inl (cI, 50, .inl (fun j => nI (if j = j9 then plG (go j9) g else go j))))]) A)) (cc := cX3_plan) (maxL := 3) (ret := (some .int)) (by decide) rfl (Nat.le_of_ble_eq_true rfl) ?_
  intro p e s m below meth c A ls hx hb hr hts hown hlocks hin hml hP hK hD hA hS hl
  have hl : lv_has ls 3 [(0, .ref h0), (1, .int (nI (j9))), (2, .int (nI (g)))] := hl
  have hown : s.vm.findClass RX3 = some m.cls := hown
  have hpj := hpl j9 hj9
  have hgj := hgo j9 hj9
  refine lv_iload_n hx hb dX3_plan_0 rfl (lv_at hl 1 rfl) ?_
  refine n_if_lt (tgt := 19) hx hb (by omega) dX3_plan_1 (by decide) ?_
  refine lv_iload_n hx hb dX3_plan_4 rfl (lv_at hl 1 rfl) ?_
  refine lv_bipush (v := nI (50)) hx hb dX3_plan_5 (by decide) ?_
  refine n_icmp_ge (tgt := 19) hx hb (by omega) (by omega) dX3_plan_7 (by decide) (fun c_2 => False.elim (by omega)) (fun c_2 => ?_)
  refine lv_iload_n hx hb dX3_plan_10 rfl (lv_at hl 2 rfl) ?_
  refine n_if_lt (tgt := 19) hx hb (by omega) dX3_plan_11 (by decide) ?_
  refine lv_iload_n hx hb dX3_plan_14 rfl (lv_at hl 2 rfl) ?_
  refine lv_iconst (v := nI (2)) hx hb dX3_plan_15 (by decide) ?_
  refine n_icmp_le (tgt := 22) hx hb (by omega) (by omega) dX3_plan_16 (by decide) (fun c_4 => ?_) (fun c_4 => False.elim (by omega))
  refine lv_iload_n hx hb dX3_plan_22 rfl (lv_at hl 2 rfl) ?_
  refine n_if_ne (tgt := 53) hx hb (by omega) dX3_plan_23 (by decide) (fun c_5 => ?_) (fun c_5 => ?_)
  · refine lv_iload_n hx hb dX3_plan_53 rfl (lv_at hl 2 rfl) ?_
    refine lv_iconst (v := nI (1)) hx hb dX3_plan_54 (by decide) ?_
    refine n_icmp_ne (tgt := 68) hx hb (by omega) (by omega) dX3_plan_55 (by decide) (fun c_6 => ?_) (fun c_6 => ?_)
    · obtain rfl : 2 = g := by omega
      refine lv_aload_n hx hb dX3_plan_68 rfl (lv_at hl 0 rfl) ?_
      refine va_get (D := D) (cl := vwCl) (ci := 3) (v := .ref xG) (C := RX3) (T := TX3) (N := 7) hx hb hts in_X3_plan_X3 hown hK hP 0 rfl rfl 2 (by decide) (hts (.fieldLink RX3 19 "BulkSamples" "goodRows" "[I") fl_X3_plan_19) (fun _ h9 => h9) rfl dX3_plan_69 ?_
      refine lv_iload_n hx hb dX3_plan_72 rfl (lv_at hl 1 rfl) ?_
      refine n_iald (x := nI (go j9)) hx hb hK hP 2 0 rfl rfl (by omega) (by omega) rfl dX3_plan_73 ?_
      refine lv_iconst (v := nI (3)) hx hb dX3_plan_74 (by decide) ?_
      refine n_icmp_ne (tgt := 103) hx hb (by omega) (by omega) dX3_plan_75 (by decide) (fun c_7 => ?_) (fun c_7 => False.elim (by omega))
      refine lv_aload_n hx hb dX3_plan_103 rfl (lv_at hl 0 rfl) ?_
      refine va_get (D := D) (cl := vwCl) (ci := 3) (v := .ref xP) (C := RX3) (T := TX3) (N := 7) hx hb hts in_X3_plan_X3 hown hK hP 0 rfl rfl 1 (by decide) (hts (.fieldLink RX3 15 "BulkSamples" "plans" "[I") fl_X3_plan_15) (fun _ h9 => h9) rfl dX3_plan_104 ?_
      refine lv_iload_n hx hb dX3_plan_107 rfl (lv_at hl 1 rfl) ?_
      refine n_iald (x := nI (pl j9)) hx hb hK hP 1 0 rfl rfl (by omega) (by omega) rfl dX3_plan_108 ?_
      have eg : plG (go j9) 2 = go j9 := rfl
      have ep : plP (pl j9) (go j9) 2 = pl j9 := rfl
      have hP : va_P D vwCl [(h0, .inr (3, [.ref xM, .ref xP, .ref xG, .ref xO, .int (nI (cnt)), .int (nI (te)), .int (nI (tr))])), (xP, .inl (cI, 50, .inl (fun j => nI (pl j)))), (xG, .inl (cI, 50, .inl (fun j => nI (if j = j9 then plG (go j9) 2 else go j))))] s.heap := P_altI _ hP 2 rfl rfl (fun j _ => by rw [eg]; try (by_cases h : j = j9 <;> simp [h]))
      have hD : va_D A [(h0, .inr (3, [.ref xM, .ref xP, .ref xG, .ref xO, .int (nI (cnt)), .int (nI (te)), .int (nI (tr))])), (xP, .inl (cI, 50, .inl (fun j => nI (pl j)))), (xG, .inl (cI, 50, .inl (fun j => nI (if j = j9 then plG (go j9) 2 else go j))))] := D_alt hD (q0 := 2) rfl rfl
      have hP : va_P D vwCl [(h0, .inr (3, [.ref xM, .ref xP, .ref xG, .ref xO, .int (nI (cnt)), .int (nI (te)), .int (nI (tr))])), (xP, .inl (cI, 50, .inl (fun j => nI (if j = j9 then plP (pl j9) (go j9) 2 else pl j)))), (xG, .inl (cI, 50, .inl (fun j => nI (if j = j9 then plG (go j9) 2 else go j))))] s.heap := P_altI _ hP 1 rfl rfl (fun j _ => by rw [ep]; try (by_cases h : j = j9 <;> simp [h]))
      have hD : va_D A [(h0, .inr (3, [.ref xM, .ref xP, .ref xG, .ref xO, .int (nI (cnt)), .int (nI (te)), .int (nI (tr))])), (xP, .inl (cI, 50, .inl (fun j => nI (if j = j9 then plP (pl j9) (go j9) 2 else pl j)))), (xG, .inl (cI, 50, .inl (fun j => nI (if j = j9 then plG (go j9) 2 else go j))))] := D_alt hD (q0 := 1) rfl rfl
      exact k_iret (v := nI (pl j9)) hx hb hr hlocks hP hD hK hS [0, 1, 2] () rfl (by decide) (by rw [ep]) dX3_plan_109
    · obtain rfl : 1 = g := by omega
      refine lv_aload_n hx hb dX3_plan_58 rfl (lv_at hl 0 rfl) ?_
      refine va_get (D := D) (cl := vwCl) (ci := 3) (v := .ref xG) (C := RX3) (T := TX3) (N := 7) hx hb hts in_X3_plan_X3 hown hK hP 0 rfl rfl 2 (by decide) (hts (.fieldLink RX3 19 "BulkSamples" "goodRows" "[I") fl_X3_plan_19) (fun _ h9 => h9) rfl dX3_plan_59 ?_
      refine lv_iload_n hx hb dX3_plan_62 rfl (lv_at hl 1 rfl) ?_
      refine lv_dup2_11 hx hb dX3_plan_63 rfl rfl ?_
      refine n_iald (x := nI (go j9)) hx hb hK hP 2 0 rfl rfl (by omega) (by omega) rfl dX3_plan_64 ?_
      refine lv_iconst (v := nI (1)) hx hb dX3_plan_65 (by decide) ?_
      refine n_iadd (r := (go j9) + 1) hx hb dX3_plan_66 rfl ?_
      refine n_iast (f' := fun j => nI (if j = j9 then (go j9) + 1 else go j)) (ws' := [(h0, .inr (3, [.ref xM, .ref xP, .ref xG, .ref xO, .int (nI (cnt)), .int (nI (te)), .int (nI (tr))])), (xP, .inl (cI, 50, .inl (fun j => nI (pl j)))), (xG, .inl (cI, 50, .inl (fun j => nI (if j = j9 then (go j9) + 1 else go j))))]) hx hb hK hP hD hS 2 0 rfl rfl (by omega) (by omega) (fun j _ => by split <;> rfl) rfl dX3_plan_67 (fun H locs hP hD hS => ?_)
      refine lv_aload_n hx hb dX3_plan_68 rfl (lv_at hl 0 rfl) ?_
      refine va_get (D := D) (cl := vwCl) (ci := 3) (v := .ref xG) (C := RX3) (T := TX3) (N := 7) hx hb hts in_X3_plan_X3 hown hK hP 0 rfl rfl 2 (by decide) (hts (.fieldLink RX3 19 "BulkSamples" "goodRows" "[I") fl_X3_plan_19) (fun _ h9 => h9) rfl dX3_plan_69 ?_
      refine lv_iload_n hx hb dX3_plan_72 rfl (lv_at hl 1 rfl) ?_
      refine n_iald (x := nI (go j9 + 1)) hx hb hK hP 2 0 rfl rfl (by omega) (by omega) (by simp) dX3_plan_73 ?_
      refine lv_iconst (v := nI (3)) hx hb dX3_plan_74 (by decide) ?_
      refine n_icmp_ne (tgt := 103) hx hb (by omega) (by omega) dX3_plan_75 (by decide) (fun c_8 => ?_) (fun c_8 => ?_)
      · refine lv_aload_n hx hb dX3_plan_103 rfl (lv_at hl 0 rfl) ?_
        refine va_get (D := D) (cl := vwCl) (ci := 3) (v := .ref xP) (C := RX3) (T := TX3) (N := 7) hx hb hts in_X3_plan_X3 hown hK hP 0 rfl rfl 1 (by decide) (hts (.fieldLink RX3 15 "BulkSamples" "plans" "[I") fl_X3_plan_15) (fun _ h9 => h9) rfl dX3_plan_104 ?_
        refine lv_iload_n hx hb dX3_plan_107 rfl (lv_at hl 1 rfl) ?_
        refine n_iald (x := nI (pl j9)) hx hb hK hP 1 0 rfl rfl (by omega) (by omega) rfl dX3_plan_108 ?_
        have eg : plG (go j9) 1 = go j9 + 1 := by rw [plG, if_neg (by omega), if_pos rfl, if_neg (by omega)]
        have ep : plP (pl j9) (go j9) 1 = pl j9 := by rw [plP, if_neg (by omega), if_pos rfl, if_neg (by omega)]
        have hP : va_P D vwCl [(h0, .inr (3, [.ref xM, .ref xP, .ref xG, .ref xO, .int (nI (cnt)), .int (nI (te)), .int (nI (tr))])), (xP, .inl (cI, 50, .inl (fun j => nI (pl j)))), (xG, .inl (cI, 50, .inl (fun j => nI (if j = j9 then plG (go j9) 1 else go j))))] H := P_altI _ hP 2 rfl rfl (fun j _ => by rw [eg]; try (by_cases h : j = j9 <;> simp [h]))
        have hD : va_D A [(h0, .inr (3, [.ref xM, .ref xP, .ref xG, .ref xO, .int (nI (cnt)), .int (nI (te)), .int (nI (tr))])), (xP, .inl (cI, 50, .inl (fun j => nI (pl j)))), (xG, .inl (cI, 50, .inl (fun j => nI (if j = j9 then plG (go j9) 1 else go j))))] := D_alt hD (q0 := 2) rfl rfl
        have hP : va_P D vwCl [(h0, .inr (3, [.ref xM, .ref xP, .ref xG, .ref xO, .int (nI (cnt)), .int (nI (te)), .int (nI (tr))])), (xP, .inl (cI, 50, .inl (fun j => nI (if j = j9 then plP (pl j9) (go j9) 1 else pl j)))), (xG, .inl (cI, 50, .inl (fun j => nI (if j = j9 then plG (go j9) 1 else go j))))] H := P_altI _ hP 1 rfl rfl (fun j _ => by rw [ep]; try (by_cases h : j = j9 <;> simp [h]))
        have hD : va_D A [(h0, .inr (3, [.ref xM, .ref xP, .ref xG, .ref xO, .int (nI (cnt)), .int (nI (te)), .int (nI (tr))])), (xP, .inl (cI, 50, .inl (fun j => nI (if j = j9 then plP (pl j9) (go j9) 1 else pl j)))), (xG, .inl (cI, 50, .inl (fun j => nI (if j = j9 then plG (go j9) 1 else go j))))] := D_alt hD (q0 := 1) rfl rfl
        exact k_iret (v := nI (pl j9)) hx hb hr hlocks hP hD hK hS [0, 1, 2] () rfl (by decide) (by rw [ep]) dX3_plan_109
      · refine lv_aload_n hx hb dX3_plan_78 rfl (lv_at hl 0 rfl) ?_
        refine va_get (D := D) (cl := vwCl) (ci := 3) (v := .ref xG) (C := RX3) (T := TX3) (N := 7) hx hb hts in_X3_plan_X3 hown hK hP 0 rfl rfl 2 (by decide) (hts (.fieldLink RX3 19 "BulkSamples" "goodRows" "[I") fl_X3_plan_19) (fun _ h9 => h9) rfl dX3_plan_79 ?_
        refine lv_iload_n hx hb dX3_plan_82 rfl (lv_at hl 1 rfl) ?_
        refine lv_iconst (v := nI (0)) hx hb dX3_plan_83 (by decide) ?_
        refine n_iast (f' := fun j => nI (if j = j9 then 0 else if j = j9 then (go j9) + 1 else go j)) (ws' := [(h0, .inr (3, [.ref xM, .ref xP, .ref xG, .ref xO, .int (nI (cnt)), .int (nI (te)), .int (nI (tr))])), (xP, .inl (cI, 50, .inl (fun j => nI (pl j)))), (xG, .inl (cI, 50, .inl (fun j => nI (if j = j9 then 0 else if j = j9 then (go j9) + 1 else go j))))]) hx hb hK hP hD hS 2 0 rfl rfl (by omega) (by omega) (fun j _ => by split <;> rfl) rfl dX3_plan_84 (fun H locs hP hD hS => ?_)
        refine lv_aload_n hx hb dX3_plan_85 rfl (lv_at hl 0 rfl) ?_
        refine va_get (D := D) (cl := vwCl) (ci := 3) (v := .ref xP) (C := RX3) (T := TX3) (N := 7) hx hb hts in_X3_plan_X3 hown hK hP 0 rfl rfl 1 (by decide) (hts (.fieldLink RX3 15 "BulkSamples" "plans" "[I") fl_X3_plan_15) (fun _ h9 => h9) rfl dX3_plan_86 ?_
        refine lv_iload_n hx hb dX3_plan_89 rfl (lv_at hl 1 rfl) ?_
        refine lv_aload_n hx hb dX3_plan_90 rfl (lv_at hl 0 rfl) ?_
        refine va_get (D := D) (cl := vwCl) (ci := 3) (v := .ref xP) (C := RX3) (T := TX3) (N := 7) hx hb hts in_X3_plan_X3 hown hK hP 0 rfl rfl 1 (by decide) (hts (.fieldLink RX3 15 "BulkSamples" "plans" "[I") fl_X3_plan_15) (fun _ h9 => h9) rfl dX3_plan_91 ?_
        refine lv_iload_n hx hb dX3_plan_94 rfl (lv_at hl 1 rfl) ?_
        refine n_iald (x := nI (pl j9)) hx hb hK hP 1 0 rfl rfl (by omega) (by omega) rfl dX3_plan_95 ?_
        refine lv_iconst (v := nI (5)) hx hb dX3_plan_96 (by decide) ?_
        refine lv_isub hx hb dX3_plan_97 ?_
        refine lv_iconst (v := nI (5)) hx hb dX3_plan_98 (by decide) ?_
        refine va_mmax hx hb (hml.trans hl.1.symm) hown (hts (.methodLink RX3 97 Lib.Math.max.name) (by decide +kernel)) (hts (.static Lib.Math.max.name) (by decide +kernel)) (hts (.initialized "java/lang/Math") (by decide +kernel)) (hts (.code Lib.Math.max.name Lib.Math.max.code 2 (some .int)) (by decide +kernel)) (Nat.le_of_ble_eq_true rfl) (Nat.le_of_ble_eq_true rfl) (by decide) (by decide) dX3_plan_99 ?_
        rw [show (if (nI (pl j9)) - (nI (5)) < nI (5) then nI (5) else (nI (pl j9)) - (nI (5))) = nI (max (pl j9 - 5) 5) from max5 (by omega)]
        refine n_iast (f' := fun j => nI (if j = j9 then max (pl j9 - 5) 5 else pl j)) (ws' := [(h0, .inr (3, [.ref xM, .ref xP, .ref xG, .ref xO, .int (nI (cnt)), .int (nI (te)), .int (nI (tr))])), (xP, .inl (cI, 50, .inl (fun j => nI (if j = j9 then max (pl j9 - 5) 5 else pl j)))), (xG, .inl (cI, 50, .inl (fun j => nI (if j = j9 then 0 else if j = j9 then (go j9) + 1 else go j))))]) hx hb hK hP hD hS 1 0 rfl rfl (by omega) (by omega) (fun j _ => by split <;> rfl) rfl dX3_plan_102 (fun H locs hP hD hS => ?_)
        refine lv_aload_n hx hb dX3_plan_103 rfl (lv_at hl 0 rfl) ?_
        refine va_get (D := D) (cl := vwCl) (ci := 3) (v := .ref xP) (C := RX3) (T := TX3) (N := 7) hx hb hts in_X3_plan_X3 hown hK hP 0 rfl rfl 1 (by decide) (hts (.fieldLink RX3 15 "BulkSamples" "plans" "[I") fl_X3_plan_15) (fun _ h9 => h9) rfl dX3_plan_104 ?_
        refine lv_iload_n hx hb dX3_plan_107 rfl (lv_at hl 1 rfl) ?_
        refine n_iald (x := nI (max (pl j9 - 5) 5)) hx hb hK hP 1 0 rfl rfl (by omega) (by omega) (by simp) dX3_plan_108 ?_
        have eg : plG (go j9) 1 = 0 := by rw [plG, if_neg (by omega), if_pos rfl, if_pos (by omega)]
        have ep : plP (pl j9) (go j9) 1 = max (pl j9 - 5) 5 := by rw [plP, if_neg (by omega), if_pos rfl, if_pos (by omega)]
        have hP : va_P D vwCl [(h0, .inr (3, [.ref xM, .ref xP, .ref xG, .ref xO, .int (nI (cnt)), .int (nI (te)), .int (nI (tr))])), (xP, .inl (cI, 50, .inl (fun j => nI (if j = j9 then max (pl j9 - 5) 5 else pl j)))), (xG, .inl (cI, 50, .inl (fun j => nI (if j = j9 then plG (go j9) 1 else go j))))] H := P_altI _ hP 2 rfl rfl (fun j _ => by rw [eg]; try (by_cases h : j = j9 <;> simp [h]))
        have hD : va_D A [(h0, .inr (3, [.ref xM, .ref xP, .ref xG, .ref xO, .int (nI (cnt)), .int (nI (te)), .int (nI (tr))])), (xP, .inl (cI, 50, .inl (fun j => nI (if j = j9 then max (pl j9 - 5) 5 else pl j)))), (xG, .inl (cI, 50, .inl (fun j => nI (if j = j9 then plG (go j9) 1 else go j))))] := D_alt hD (q0 := 2) rfl rfl
        have hP : va_P D vwCl [(h0, .inr (3, [.ref xM, .ref xP, .ref xG, .ref xO, .int (nI (cnt)), .int (nI (te)), .int (nI (tr))])), (xP, .inl (cI, 50, .inl (fun j => nI (if j = j9 then plP (pl j9) (go j9) 1 else pl j)))), (xG, .inl (cI, 50, .inl (fun j => nI (if j = j9 then plG (go j9) 1 else go j))))] H := P_altI _ hP 1 rfl rfl (fun j _ => by rw [ep]; try (by_cases h : j = j9 <;> simp [h]))
        have hD : va_D A [(h0, .inr (3, [.ref xM, .ref xP, .ref xG, .ref xO, .int (nI (cnt)), .int (nI (te)), .int (nI (tr))])), (xP, .inl (cI, 50, .inl (fun j => nI (if j = j9 then plP (pl j9) (go j9) 1 else pl j)))), (xG, .inl (cI, 50, .inl (fun j => nI (if j = j9 then plG (go j9) 1 else go j))))] := D_alt hD (q0 := 1) rfl rfl
        exact k_iret (v := nI (max (pl j9 - 5) 5)) hx hb hr hlocks hP hD hK hS [0, 1, 2] () rfl (by decide) (by rw [ep]) dX3_plan_109
  · refine lv_aload_n hx hb dX3_plan_26 rfl (lv_at hl 0 rfl) ?_
    refine va_get (D := D) (cl := vwCl) (ci := 3) (v := .ref xG) (C := RX3) (T := TX3) (N := 7) hx hb hts in_X3_plan_X3 hown hK hP 0 rfl rfl 2 (by decide) (hts (.fieldLink RX3 19 "BulkSamples" "goodRows" "[I") fl_X3_plan_19) (fun _ h9 => h9) rfl dX3_plan_27 ?_
    refine lv_iload_n hx hb dX3_plan_30 rfl (lv_at hl 1 rfl) ?_
    refine lv_iconst (v := nI (0)) hx hb dX3_plan_31 (by decide) ?_
    refine n_iast (f' := fun j => nI (if j = j9 then 0 else go j)) (ws' := [(h0, .inr (3, [.ref xM, .ref xP, .ref xG, .ref xO, .int (nI (cnt)), .int (nI (te)), .int (nI (tr))])), (xP, .inl (cI, 50, .inl (fun j => nI (pl j)))), (xG, .inl (cI, 50, .inl (fun j => nI (if j = j9 then 0 else go j))))]) hx hb hK hP hD hS 2 0 rfl rfl (by omega) (by omega) (fun j _ => by split <;> rfl) rfl dX3_plan_32 (fun H locs hP hD hS => ?_)
    refine lv_aload_n hx hb dX3_plan_33 rfl (lv_at hl 0 rfl) ?_
    refine va_get (D := D) (cl := vwCl) (ci := 3) (v := .ref xP) (C := RX3) (T := TX3) (N := 7) hx hb hts in_X3_plan_X3 hown hK hP 0 rfl rfl 1 (by decide) (hts (.fieldLink RX3 15 "BulkSamples" "plans" "[I") fl_X3_plan_15) (fun _ h9 => h9) rfl dX3_plan_34 ?_
    refine lv_iload_n hx hb dX3_plan_37 rfl (lv_at hl 1 rfl) ?_
    refine lv_aload_n hx hb dX3_plan_38 rfl (lv_at hl 0 rfl) ?_
    refine va_get (D := D) (cl := vwCl) (ci := 3) (v := .ref xP) (C := RX3) (T := TX3) (N := 7) hx hb hts in_X3_plan_X3 hown hK hP 0 rfl rfl 1 (by decide) (hts (.fieldLink RX3 15 "BulkSamples" "plans" "[I") fl_X3_plan_15) (fun _ h9 => h9) rfl dX3_plan_39 ?_
    refine lv_iload_n hx hb dX3_plan_42 rfl (lv_at hl 1 rfl) ?_
    refine n_iald (x := nI (pl j9)) hx hb hK hP 1 0 rfl rfl (by omega) (by omega) rfl dX3_plan_43 ?_
    refine lv_bipush (v := nI (10)) hx hb dX3_plan_44 (by decide) ?_
    refine n_iadd (r := (pl j9) + 10) hx hb dX3_plan_46 rfl ?_
    refine lv_bipush (v := nI (60)) hx hb dX3_plan_47 (by decide) ?_
    refine va_mmin hx hb (hml.trans hl.1.symm) hown (hts (.methodLink RX3 60 Lib.Math.min.name) (by decide +kernel)) (hts (.static Lib.Math.min.name) (by decide +kernel)) (hts (.initialized "java/lang/Math") (by decide +kernel)) (hts (.code Lib.Math.min.name Lib.Math.min.code 2 (some .int)) (by decide +kernel)) (Nat.le_of_ble_eq_true rfl) (Nat.le_of_ble_eq_true rfl) (by decide) (by decide) dX3_plan_49 ?_
    rw [show (if nI (60) < nI ((pl j9) + 10) then nI (60) else nI ((pl j9) + 10)) = nI (min (pl j9 + 10) 60) from minI (by omega) (by omega)]
    refine n_iast (f' := fun j => nI (if j = j9 then min (pl j9 + 10) 60 else pl j)) (ws' := [(h0, .inr (3, [.ref xM, .ref xP, .ref xG, .ref xO, .int (nI (cnt)), .int (nI (te)), .int (nI (tr))])), (xP, .inl (cI, 50, .inl (fun j => nI (if j = j9 then min (pl j9 + 10) 60 else pl j)))), (xG, .inl (cI, 50, .inl (fun j => nI (if j = j9 then 0 else go j))))]) hx hb hK hP hD hS 1 0 rfl rfl (by omega) (by omega) (fun j _ => by split <;> rfl) rfl dX3_plan_52 (fun H locs hP hD hS => ?_)
    refine lv_iload_n hx hb dX3_plan_53 rfl (lv_at hl 2 rfl) ?_
    refine lv_iconst (v := nI (1)) hx hb dX3_plan_54 (by decide) ?_
    refine n_icmp_ne (tgt := 68) hx hb (by omega) (by omega) dX3_plan_55 (by decide) (fun c_9 => ?_) (fun c_9 => False.elim (by omega))
    refine lv_aload_n hx hb dX3_plan_68 rfl (lv_at hl 0 rfl) ?_
    refine va_get (D := D) (cl := vwCl) (ci := 3) (v := .ref xG) (C := RX3) (T := TX3) (N := 7) hx hb hts in_X3_plan_X3 hown hK hP 0 rfl rfl 2 (by decide) (hts (.fieldLink RX3 19 "BulkSamples" "goodRows" "[I") fl_X3_plan_19) (fun _ h9 => h9) rfl dX3_plan_69 ?_
    refine lv_iload_n hx hb dX3_plan_72 rfl (lv_at hl 1 rfl) ?_
    refine n_iald (x := nI (0)) hx hb hK hP 2 0 rfl rfl (by omega) (by omega) (by simp) dX3_plan_73 ?_
    refine lv_iconst (v := nI (3)) hx hb dX3_plan_74 (by decide) ?_
    refine n_icmp_ne (tgt := 103) hx hb (by omega) (by omega) dX3_plan_75 (by decide) (fun c_10 => ?_) (fun c_10 => False.elim (by omega))
    refine lv_aload_n hx hb dX3_plan_103 rfl (lv_at hl 0 rfl) ?_
    refine va_get (D := D) (cl := vwCl) (ci := 3) (v := .ref xP) (C := RX3) (T := TX3) (N := 7) hx hb hts in_X3_plan_X3 hown hK hP 0 rfl rfl 1 (by decide) (hts (.fieldLink RX3 15 "BulkSamples" "plans" "[I") fl_X3_plan_15) (fun _ h9 => h9) rfl dX3_plan_104 ?_
    refine lv_iload_n hx hb dX3_plan_107 rfl (lv_at hl 1 rfl) ?_
    refine n_iald (x := nI (min (pl j9 + 10) 60)) hx hb hK hP 1 0 rfl rfl (by omega) (by omega) (by simp) dX3_plan_108 ?_
    obtain rfl : 0 = g := by omega
    have eg : plG (go j9) 0 = 0 := rfl
    have ep : plP (pl j9) (go j9) 0 = min (pl j9 + 10) 60 := rfl
    have hP : va_P D vwCl [(h0, .inr (3, [.ref xM, .ref xP, .ref xG, .ref xO, .int (nI (cnt)), .int (nI (te)), .int (nI (tr))])), (xP, .inl (cI, 50, .inl (fun j => nI (if j = j9 then min (pl j9 + 10) 60 else pl j)))), (xG, .inl (cI, 50, .inl (fun j => nI (if j = j9 then plG (go j9) 0 else go j))))] H := P_altI _ hP 2 rfl rfl (fun j _ => by rw [eg]; try (by_cases h : j = j9 <;> simp [h]))
    have hD : va_D A [(h0, .inr (3, [.ref xM, .ref xP, .ref xG, .ref xO, .int (nI (cnt)), .int (nI (te)), .int (nI (tr))])), (xP, .inl (cI, 50, .inl (fun j => nI (if j = j9 then min (pl j9 + 10) 60 else pl j)))), (xG, .inl (cI, 50, .inl (fun j => nI (if j = j9 then plG (go j9) 0 else go j))))] := D_alt hD (q0 := 2) rfl rfl
    have hP : va_P D vwCl [(h0, .inr (3, [.ref xM, .ref xP, .ref xG, .ref xO, .int (nI (cnt)), .int (nI (te)), .int (nI (tr))])), (xP, .inl (cI, 50, .inl (fun j => nI (if j = j9 then plP (pl j9) (go j9) 0 else pl j)))), (xG, .inl (cI, 50, .inl (fun j => nI (if j = j9 then plG (go j9) 0 else go j))))] H := P_altI _ hP 1 rfl rfl (fun j _ => by rw [ep]; try (by_cases h : j = j9 <;> simp [h]))
    have hD : va_D A [(h0, .inr (3, [.ref xM, .ref xP, .ref xG, .ref xO, .int (nI (cnt)), .int (nI (te)), .int (nI (tr))])), (xP, .inl (cI, 50, .inl (fun j => nI (if j = j9 then plP (pl j9) (go j9) 0 else pl j)))), (xG, .inl (cI, 50, .inl (fun j => nI (if j = j9 then plG (go j9) 0 else go j))))] := D_alt hD (q0 := 1) rfl rfl
    exact k_iret (v := nI (min (pl j9 + 10) 60)) hx hb hr hlocks hP hD hK hS [0, 1, 2] () rfl (by decide) (by rw [ep]) dX3_plan_109
end
section
/-! class BulkSamples: the constructor, verdicts and chances -/
/-- the verdict's two chances, held against t in 1000 -/
def vdA (it w dr t : Nat) : Bool := decide (asked 0 (nI w) (it / 20 + 1) (it - (it / 20 + 1)) dr * 1000 ≤ ch it dr * (1000 - t))
def vdR (it w dr t : Nat) : Bool := decide (asked 1 (nI w) (it / 20) (it - it / 20) dr * 1000 ≤ ch it dr * (1000 - t))
def vd (it w dr t : Nat) : Nat := if vdA it w dr t = true then 1 else if vdR it w dr t = true then 3 else 2
theorem askB {sd : Nat} {fd : Int32} {n w so f : Nat} (hn : n ≤ 200) (hw : w ≤ n) (hf : f ≤ 40401) : asked sd fd w (n - w) so * f < 1000000000 ^ 8 := leB (k := so) (by have h := asked_le sd fd w (n - w) so; rw [show w + (n - w) = n by omega] at h; exact h) hn hf
theorem ask_ch {sd : Nat} {fd : Int32} {n w so : Nat} (hw : w ≤ n) : asked sd fd w (n - w) so ≤ ch n so := by
  have h := asked_le sd fd w (n - w) so
  rw [show w + (n - w) = n by omega] at h
  exact h
/-- the surcharge -/
def surE (it w dr t : Nat) (dp : Nat → Nat) : Nat := if vd it w dr t = 1 then 0 else if vd it w dr t = 3 then disc dp else (disc dp * w + dr - 1) / dr
theorem disc_le {dp : Nat → Nat} (h : ∀ i, i < 4 → dp i ≤ 200) : disc dp ≤ 1200 := by
  have h1 := h 1 (by omega)
  have h2 := h 2 (by omega)
  have h3 := h 3 (by omega)
  show 0 + 0 * dp 0 + 1 * dp 1 + 2 * dp 2 + 3 * dp 3 ≤ 1200
  omega
theorem st_upI (F G : Nat → Nat) (i j : Nat) : (if j = i then nI (F i) else nI (if j < i then F j else G j)) = nI (if j < i + 1 then F j else G j) := by
  rw [← st_up F G i j]; split <;> rfl
theorem in_X3_init_X1 : ∀ w ∈ wsX10, w ∈ wsX3_init := by decide +kernel
theorem in_X3_init_X2 : ∀ w ∈ wsX20, w ∈ wsX3_init := by decide +kernel
theorem in_X3_init_X3 : ∀ w ∈ wsX30, w ∈ wsX3_init := by decide +kernel
theorem fl_X3_init_11 : Cond.fieldLink RX3 11 "BulkSamples" "mailings" "[LBulkSamples$Mailing;" ∈ wsX3_init := by decide +kernel
theorem fl_X3_init_15 : Cond.fieldLink RX3 15 "BulkSamples" "plans" "[I" ∈ wsX3_init := by decide +kernel
theorem fl_X3_init_19 : Cond.fieldLink RX3 19 "BulkSamples" "goodRows" "[I" ∈ wsX3_init := by decide +kernel
theorem fl_X3_init_25 : Cond.fieldLink RX3 25 "BulkSamples" "odds" "LBulkSamples$Odds;" ∈ wsX3_init := by decide +kernel
theorem fl_X3_init_29 : Cond.fieldLink RX3 29 "BulkSamples" "trust" "I" ∈ wsX3_init := by decide +kernel
set_option maxHeartbeats 4000000 in
set_option maxRecDepth 100000 in
/-- BulkSamples() -/
theorem c_bs (l : Launch) (D : va_G) (cI cL cM : ClassId) (sz : Nat) (h0 : Nat) : Met l yX3_init wsX3_init ({ frames := 3, cells := 10, slots := 150, locals := 60 } : Room) (va_Pc [.ref h0] (fun U => PreB D (gT cI cL cM) sz [(h0, .inr (3, [.null, .null, .null, .null, .int (nI (0)), .int (nI (0)), .int (nI (0))]))] U ∧ eX3 U)) (va_Qv (fun _ => True) (fun (u : Nat × Nat × Nat × Nat × Nat × Nat × Nat × Nat × Nat × Nat) => PostB D (gT cI cL cM) (va_A [(h0, .inr (3, [.null, .null, .null, .null, .int (nI (0)), .int (nI (0)), .int (nI (0))]))] sz) [(h0, .inr (3, [.ref u.1, .ref u.2.1, .ref u.2.2.1, .ref u.2.2.2.1, .int (nI (0)), .int (nI (0)), .int (nI (950))])), (u.1, .inl (cM, 20, .inr (.inr (.inr (.inr (fun _ => none)))))), (u.2.1, .inl (cI, 50, .inl (fun j => nI (20)))), (u.2.2.1, .inl (cI, 50, .inl (fun j => nI (0)))), (u.2.2.2.1, .inr (1, [.ref u.2.2.2.2.1, .ref u.2.2.2.2.2.2.1, .ref u.2.2.2.2.2.2.2.2.1])), (u.2.2.2.2.1, .inr (2, [.ref u.2.2.2.2.2.1])), (u.2.2.2.2.2.1, .inl (cL, 8, .inr (.inl (fun j => lN (dg 1000000000 0 (j)))))), (u.2.2.2.2.2.2.1, .inr (2, [.ref u.2.2.2.2.2.2.2.1])), (u.2.2.2.2.2.2.2.1, .inl (cL, 8, .inr (.inl (fun j => lN (dg 1000000000 0 (j)))))), (u.2.2.2.2.2.2.2.2.1, .inr (2, [.ref u.2.2.2.2.2.2.2.2.2])), (u.2.2.2.2.2.2.2.2.2, .inl (cL, 8, .inr (.inl (fun j => lN (dg 1000000000 0 (j))))))]) (va_A [(h0, .inr (3, [.null, .null, .null, .null, .int (nI (0)), .int (nI (0)), .int (nI (0))]))] sz)) 10 150 (va_A [(h0, .inr (3, [.null, .null, .null, .null, .int (nI (0)), .int (nI (0)), .int (nI (0))]))] sz) := by
  refine k_startX (fun A => (va_Qv (fun _ => True) (fun (u : Nat × Nat × Nat × Nat × Nat × Nat × Nat × Nat × Nat × Nat) => PostB D (gT cI cL cM) A [(h0, .inr (3, [.ref u.1, .ref u.2.1, .ref u.2.2.1, .ref u.2.2.2.1, .int (nI (0)), .int (nI (0)), .int (nI (950))])), (u.1, .inl (cM, 20, .inr (.inr (.inr (.inr (fun _ => none)))))), (u.2.1, .inl (cI, 50, .inl (fun j => nI (20)))), (u.2.2.1, .inl (cI, 50, .inl (fun j => nI (0)))), (u.2.2.2.1, .inr (1, [.ref u.2.2.2.2.1, .ref u.2.2.2.2.2.2.1, .ref u.2.2.2.2.2.2.2.2.1])), (u.2.2.2.2.1, .inr (2, [.ref u.2.2.2.2.2.1])), (u.2.2.2.2.2.1, .inl (cL, 8, .inr (.inl (fun j => lN (dg 1000000000 0 (j)))))), (u.2.2.2.2.2.2.1, .inr (2, [.ref u.2.2.2.2.2.2.2.1])), (u.2.2.2.2.2.2.2.1, .inl (cL, 8, .inr (.inl (fun j => lN (dg 1000000000 0 (j)))))), (u.2.2.2.2.2.2.2.2.1, .inr (2, [.ref u.2.2.2.2.2.2.2.2.2])), (u.2.2.2.2.2.2.2.2.2, .inl (cL, 8, .inr (.inl (fun j => lN (dg 1000000000 0 (j))))))]) A)) (cc := cX3_init) (maxL := 2) (ret := none) (by decide) rfl (Nat.le_of_ble_eq_true rfl) ?_
  intro p e s m below meth c A ls hx hb hr hts hown hlocks hin hml hP hK hD hA hS hl hE
  have hl : lv_has ls 2 [(0, .ref h0)] := hl
  have hown : s.vm.findClass RX3 = some m.cls := hown
  refine lv_aload_n hx hb dX3_init_0 rfl (lv_at hl 0 rfl) ?_
  refine W.objInit hx hb hown (hts (.methodLink RX3 1 objectInit) (by decide +kernel)) (hts (.instanceMethod objectInit) (by decide +kernel)) (hts (.code objectInit ⟨#[0xb1]⟩ 1 none) (by decide +kernel)) rfl (by rw [hml]; exact hl.1) rfl dX3_init_1 (Nat.le_of_ble_eq_true rfl) (Nat.le_of_ble_eq_true rfl) ?_
  refine W.eq (g2 := F0 m 4 ls []) rfl ?_
  refine lv_aload_n hx hb dX3_init_4 rfl (lv_at hl 0 rfl) ?_
  refine lv_bipush (v := nI (20)) hx hb dX3_init_5 (by decide) ?_
  refine n_newQ hx hb hown (hts (.classLink RX3 9 RX0) (by decide +kernel)) hE.2.2 hK hP hD hS hA (by omega) (by decide) (by decide) dX3_init_7 (fun qM H hP hD hS => ?_)
  have hP : va_P D vwCl [(h0, .inr (3, [.null, .null, .null, .null, .int (nI (0)), .int (nI (0)), .int (nI (0))])), (qM, .inl (cM, 20, .inr (.inr (.inr (.inr (fun _ => none))))))] H := hP
  have hD : va_D A [(h0, .inr (3, [.null, .null, .null, .null, .int (nI (0)), .int (nI (0)), .int (nI (0))])), (qM, .inl (cM, 20, .inr (.inr (.inr (.inr (fun _ => none))))))] := hD
  refine va_putF (D := D) (cl := vwCl) (ci := 3) (v := .ref qM) (ty := tyX3 0) (C := RX3) (T := TX3) (N := 7) hx hb hts in_X3_init_X3 tyX3 tyX3_ok nmX3 hown hK hP hD hS 0 rfl rfl 0 (by decide) (hts (.fieldLink RX3 11 "BulkSamples" "mailings" "[LBulkSamples$Mailing;") fl_X3_init_11) (fun _ h9 => h9) rfl hin rfl (by decide +kernel) rfl rfl (Nat.le_of_ble_eq_true rfl) dX3_init_10 (fun H locs hP hD hS => ?_)
  have hP : va_P D vwCl [(h0, .inr (3, [.ref qM, .null, .null, .null, .int (nI (0)), .int (nI (0)), .int (nI (0))])), (qM, .inl (cM, 20, .inr (.inr (.inr (.inr (fun _ => none))))))] H := hP
  have hD : va_D A [(h0, .inr (3, [.ref qM, .null, .null, .null, .int (nI (0)), .int (nI (0)), .int (nI (0))])), (qM, .inl (cM, 20, .inr (.inr (.inr (.inr (fun _ => none))))))] := hD
  refine lv_aload_n hx hb dX3_init_13 rfl (lv_at hl 0 rfl) ?_
  refine lv_bipush (v := nI (50)) hx hb dX3_init_14 (by decide) ?_
  refine n_newI hx hb (hts (.arrayClass .int) (by decide +kernel)) hK hP hD hS hA (by omega) (by decide) (by decide) dX3_init_16 (fun q_1 H hP hD hS => ?_)
  have hP : va_P D vwCl [(h0, .inr (3, [.ref qM, .null, .null, .null, .int (nI (0)), .int (nI (0)), .int (nI (0))])), (qM, .inl (cM, 20, .inr (.inr (.inr (.inr (fun _ => none)))))), (q_1, .inl (cI, 50, .inl (fun j => nI (0))))] H := hP
  have hD : va_D A [(h0, .inr (3, [.ref qM, .null, .null, .null, .int (nI (0)), .int (nI (0)), .int (nI (0))])), (qM, .inl (cM, 20, .inr (.inr (.inr (.inr (fun _ => none)))))), (q_1, .inl (cI, 50, .inl (fun j => nI (0))))] := hD
  refine va_putF (D := D) (cl := vwCl) (ci := 3) (v := .ref q_1) (ty := tyX3 1) (C := RX3) (T := TX3) (N := 7) hx hb hts in_X3_init_X3 tyX3 tyX3_ok nmX3 hown hK hP hD hS 0 rfl rfl 1 (by decide) (hts (.fieldLink RX3 15 "BulkSamples" "plans" "[I") fl_X3_init_15) (fun _ h9 => h9) rfl hin rfl (by decide +kernel) rfl rfl (Nat.le_of_ble_eq_true rfl) dX3_init_18 (fun H locs hP hD hS => ?_)
  have hP : va_P D vwCl [(h0, .inr (3, [.ref qM, .ref q_1, .null, .null, .int (nI (0)), .int (nI (0)), .int (nI (0))])), (qM, .inl (cM, 20, .inr (.inr (.inr (.inr (fun _ => none)))))), (q_1, .inl (cI, 50, .inl (fun j => nI (0))))] H := hP
  have hD : va_D A [(h0, .inr (3, [.ref qM, .ref q_1, .null, .null, .int (nI (0)), .int (nI (0)), .int (nI (0))])), (qM, .inl (cM, 20, .inr (.inr (.inr (.inr (fun _ => none)))))), (q_1, .inl (cI, 50, .inl (fun j => nI (0))))] := hD
  refine lv_aload_n hx hb dX3_init_21 rfl (lv_at hl 0 rfl) ?_
  refine lv_bipush (v := nI (50)) hx hb dX3_init_22 (by decide) ?_
  refine n_newI hx hb (hts (.arrayClass .int) (by decide +kernel)) hK hP hD hS hA (by omega) (by decide) (by decide) dX3_init_24 (fun q_2 H hP hD hS => ?_)
  have hP : va_P D vwCl [(h0, .inr (3, [.ref qM, .ref q_1, .null, .null, .int (nI (0)), .int (nI (0)), .int (nI (0))])), (qM, .inl (cM, 20, .inr (.inr (.inr (.inr (fun _ => none)))))), (q_1, .inl (cI, 50, .inl (fun j => nI (0)))), (q_2, .inl (cI, 50, .inl (fun j => nI (0))))] H := hP
  have hD : va_D A [(h0, .inr (3, [.ref qM, .ref q_1, .null, .null, .int (nI (0)), .int (nI (0)), .int (nI (0))])), (qM, .inl (cM, 20, .inr (.inr (.inr (.inr (fun _ => none)))))), (q_1, .inl (cI, 50, .inl (fun j => nI (0)))), (q_2, .inl (cI, 50, .inl (fun j => nI (0))))] := hD
  refine va_putF (D := D) (cl := vwCl) (ci := 3) (v := .ref q_2) (ty := tyX3 2) (C := RX3) (T := TX3) (N := 7) hx hb hts in_X3_init_X3 tyX3 tyX3_ok nmX3 hown hK hP hD hS 0 rfl rfl 2 (by decide) (hts (.fieldLink RX3 19 "BulkSamples" "goodRows" "[I") fl_X3_init_19) (fun _ h9 => h9) rfl hin rfl (by decide +kernel) rfl rfl (Nat.le_of_ble_eq_true rfl) dX3_init_26 (fun H locs hP hD hS => ?_)
  have hP : va_P D vwCl [(h0, .inr (3, [.ref qM, .ref q_1, .ref q_2, .null, .int (nI (0)), .int (nI (0)), .int (nI (0))])), (qM, .inl (cM, 20, .inr (.inr (.inr (.inr (fun _ => none)))))), (q_1, .inl (cI, 50, .inl (fun j => nI (0)))), (q_2, .inl (cI, 50, .inl (fun j => nI (0))))] H := hP
  have hD : va_D A [(h0, .inr (3, [.ref qM, .ref q_1, .ref q_2, .null, .int (nI (0)), .int (nI (0)), .int (nI (0))])), (qM, .inl (cM, 20, .inr (.inr (.inr (.inr (fun _ => none)))))), (q_1, .inl (cI, 50, .inl (fun j => nI (0)))), (q_2, .inl (cI, 50, .inl (fun j => nI (0))))] := hD
  refine lv_iconst (v := nI (0)) hx hb dX3_init_29 (by decide) ?_
  refine lv_istore_n (lv' := [(1, .int (nI (0))), (0, .ref h0)]) hx hb dX3_init_30 rfl hl (by decide) rfl (fun ls hl => ?_)
  have L_3 : ∀ (nn9 i : Nat), i + nn9 = 50 → ∀ (H : Heap) (locs : List Loc) (ls : Array Slot), va_P D vwCl [(h0, .inr (3, [.ref qM, .ref q_1, .ref q_2, .null, .int (nI (0)), .int (nI (0)), .int (nI (0))])), (qM, .inl (cM, 20, .inr (.inr (.inr (.inr (fun _ => none)))))), (q_1, .inl (cI, 50, .inl (fun j => nI (if j < i then 20 else 0)))), (q_2, .inl (cI, 50, .inl (fun j => nI (0))))] H → va_D A [(h0, .inr (3, [.ref qM, .ref q_1, .ref q_2, .null, .int (nI (0)), .int (nI (0)), .int (nI (0))])), (qM, .inl (cM, 20, .inr (.inr (.inr (.inr (fun _ => none)))))), (q_1, .inl (cI, 50, .inl (fun j => nI (if j < i then 20 else 0)))), (q_2, .inl (cI, 50, .inl (fun j => nI (0))))] → va_S A s.heap H locs → lv_has ls 2 [(0, .ref h0), (1, .int (nI (i)))] → W p l e ({ frames := 3, cells := 10, slots := 150, locals := 60 } : Room) s m (List.toArray [.ref h0]) below meth c H locs (((0 + 1) + 1) + 1) (((0 + 20) + 50) + 50) (MQ below (va_Qv (fun _ => True) (fun (u : Nat × Nat × Nat × Nat × Nat × Nat × Nat × Nat × Nat × Nat) => PostB D (gT cI cL cM) A [(h0, .inr (3, [.ref u.1, .ref u.2.1, .ref u.2.2.1, .ref u.2.2.2.1, .int (nI (0)), .int (nI (0)), .int (nI (950))])), (u.1, .inl (cM, 20, .inr (.inr (.inr (.inr (fun _ => none)))))), (u.2.1, .inl (cI, 50, .inl (fun j => nI (20)))), (u.2.2.1, .inl (cI, 50, .inl (fun j => nI (0)))), (u.2.2.2.1, .inr (1, [.ref u.2.2.2.2.1, .ref u.2.2.2.2.2.2.1, .ref u.2.2.2.2.2.2.2.2.1])), (u.2.2.2.2.1, .inr (2, [.ref u.2.2.2.2.2.1])), (u.2.2.2.2.2.1, .inl (cL, 8, .inr (.inl (fun j => lN (dg 1000000000 0 (j)))))), (u.2.2.2.2.2.2.1, .inr (2, [.ref u.2.2.2.2.2.2.2.1])), (u.2.2.2.2.2.2.2.1, .inl (cL, 8, .inr (.inl (fun j => lN (dg 1000000000 0 (j)))))), (u.2.2.2.2.2.2.2.2.1, .inr (2, [.ref u.2.2.2.2.2.2.2.2.2])), (u.2.2.2.2.2.2.2.2.2, .inl (cL, 8, .inr (.inl (fun j => lN (dg 1000000000 0 (j))))))]) A) (List.toArray [.ref h0]) s 10 150 A) (F0 m 31 ls []) := by
    intro nn9
    induction nn9 with
    | zero =>
      intro i hii H locs ls hP hD hS hl
      obtain rfl : 50 = i := by omega
      refine lv_iload_n hx hb dX3_init_31 rfl (lv_at hl 1 rfl) ?_
      refine lv_aload_n hx hb dX3_init_32 rfl (lv_at hl 0 rfl) ?_
      refine va_get (D := D) (cl := vwCl) (ci := 3) (v := .ref q_1) (C := RX3) (T := TX3) (N := 7) hx hb hts in_X3_init_X3 hown hK hP 0 rfl rfl 1 (by decide) (hts (.fieldLink RX3 15 "BulkSamples" "plans" "[I") fl_X3_init_15) (fun _ h9 => h9) rfl dX3_init_33 ?_
      refine va_alen (v := nI (50)) hx hb hK hP 2 0 rfl rfl rfl dX3_init_36 ?_
      refine n_icmp_ge (tgt := 54) hx hb (by omega) (by omega) dX3_init_37 (by decide) (fun c_4 => ?_) (fun c_4 => False.elim (by omega))
      have hP : va_P D vwCl [(h0, .inr (3, [.ref qM, .ref q_1, .ref q_2, .null, .int (nI (0)), .int (nI (0)), .int (nI (0))])), (qM, .inl (cM, 20, .inr (.inr (.inr (.inr (fun _ => none)))))), (q_1, .inl (cI, 50, .inl (fun j => nI (20)))), (q_2, .inl (cI, 50, .inl (fun j => nI (0))))] H := P_altI _ hP 2 rfl rfl (fun j hj => by rw [if_pos hj])
      have hD : va_D A [(h0, .inr (3, [.ref qM, .ref q_1, .ref q_2, .null, .int (nI (0)), .int (nI (0)), .int (nI (0))])), (qM, .inl (cM, 20, .inr (.inr (.inr (.inr (fun _ => none)))))), (q_1, .inl (cI, 50, .inl (fun j => nI (20)))), (q_2, .inl (cI, 50, .inl (fun j => nI (0))))] := D_alt hD (q0 := 2) rfl rfl
      refine lv_aload_n hx hb dX3_init_54 rfl (lv_at hl 0 rfl) ?_
      refine va_new (D := D) (cl := vwCl) (ci := 1) (fs := [.null, .null, .null]) (C := RX1) (T := TX1) (N := 3) hx hb hts in_X3_init_X1 tyX1 tyX1_ok hown (hts (.classLink RX3 22 RX1) (by decide +kernel)) (hts (.instantiable RX1 3) (by decide +kernel)) (hts (.initialized RX1) (by decide +kernel)) hK hP hD hS hA rfl (fun j hj => by rcases (show j = 0 ∨ j = 1 ∨ j = 2 by omega) with rfl | rfl | rfl <;> rfl) (by decide) (by decide) dX3_init_55 (fun q_5 H hP hD hS => ?_)
      have hP : va_P D vwCl [(h0, .inr (3, [.ref qM, .ref q_1, .ref q_2, .null, .int (nI (0)), .int (nI (0)), .int (nI (0))])), (qM, .inl (cM, 20, .inr (.inr (.inr (.inr (fun _ => none)))))), (q_1, .inl (cI, 50, .inl (fun j => nI (20)))), (q_2, .inl (cI, 50, .inl (fun j => nI (0)))), (q_5, .inr (1, [.null, .null, .null]))] H := hP
      have hD : va_D A [(h0, .inr (3, [.ref qM, .ref q_1, .ref q_2, .null, .int (nI (0)), .int (nI (0)), .int (nI (0))])), (qM, .inl (cM, 20, .inr (.inr (.inr (.inr (fun _ => none)))))), (q_1, .inl (cI, 50, .inl (fun j => nI (20)))), (q_2, .inl (cI, 50, .inl (fun j => nI (0)))), (q_5, .inr (1, [.null, .null, .null]))] := hD
      refine lv_dup hx hb dX3_init_58 rfl ?_
      refine k_callv (wc := [(q_5, .inr (1, [.null, .null, .null]))]) (wr := [(h0, .inr (3, [.ref qM, .ref q_1, .ref q_2, .null, .int (nI (0)), .int (nI (0)), .int (nI (0))])), (qM, .inl (cM, 20, .inr (.inr (.inr (.inr (fun _ => none)))))), (q_1, .inl (cI, 50, .inl (fun j => nI (20)))), (q_2, .inl (cI, 50, .inl (fun j => nI (0))))]) (W1 := fun u_6 => [(h0, .inr (3, [.ref qM, .ref q_1, .ref q_2, .null, .int (nI (0)), .int (nI (0)), .int (nI (0))])), (qM, .inl (cM, 20, .inr (.inr (.inr (.inr (fun _ => none)))))), (q_1, .inl (cI, 50, .inl (fun j => nI (20)))), (q_2, .inl (cI, 50, .inl (fun j => nI (0)))), (q_5, .inr (1, [.ref u_6.1, .ref u_6.2.2.1, .ref u_6.2.2.2.2.1])), (u_6.1, .inr (2, [.ref u_6.2.1])), (u_6.2.1, .inl (cL, 8, .inr (.inl (fun j => lN (dg 1000000000 0 (j)))))), (u_6.2.2.1, .inr (2, [.ref u_6.2.2.2.1])), (u_6.2.2.2.1, .inl (cL, 8, .inr (.inl (fun j => lN (dg 1000000000 0 (j)))))), (u_6.2.2.2.2.1, .inr (2, [.ref u_6.2.2.2.2.2])), (u_6.2.2.2.2.2, .inl (cL, 8, .inr (.inl (fun j => lN (dg 1000000000 0 (j))))))]) hP hD hS hA [4] [0, 1, 2, 3] [0, 1, 2, 3, 4, 5, 6, 7, 8, 9, 10] rfl rfl (by decide) (by decide) (fun _ => rfl) (by decide) (va_runIN (As := []) (rest := [.ref q_5, .ref h0]) ⟨hx, hb, hml, hown, hts⟩ (c_odds l D cI cL cM H.size q_5) ⟨va_cnB (host := RX3) 0 hts gX3_init_X1_init_n24 rfl rfl rfl hE.2.1 (hts (.initialized RX1) (by decide +kernel)) (by decide +kernel) ⟨Nat.le_of_ble_eq_true rfl, Nat.le_of_ble_eq_true rfl⟩, rfl, hts (.instanceMethod yX1_init) (by decide +kernel)⟩ (k_preSX hP hD hK [4] rfl (by decide) (tab_nest hE.1)) rfl rfl hl.1 rfl (lv_room (Nat.le_of_ble_eq_true rfl)) dX3_init_59 ⟨Nat.le_of_ble_eq_true rfl, Nat.le_of_ble_eq_true rfl⟩) (fun u_6 H locs hw hP hD hS => ?_)
      refine va_putF (D := D) (cl := vwCl) (ci := 3) (v := .ref q_5) (ty := tyX3 3) (C := RX3) (T := TX3) (N := 7) hx hb hts in_X3_init_X3 tyX3 tyX3_ok nmX3 hown hK hP hD hS 0 rfl rfl 3 (by decide) (hts (.fieldLink RX3 25 "BulkSamples" "odds" "LBulkSamples$Odds;") fl_X3_init_25) (fun _ h9 => h9) rfl hin rfl (by decide +kernel) rfl rfl (Nat.le_of_ble_eq_true rfl) dX3_init_62 (fun H locs hP hD hS => ?_)
      have hP : va_P D vwCl [(h0, .inr (3, [.ref qM, .ref q_1, .ref q_2, .ref q_5, .int (nI (0)), .int (nI (0)), .int (nI (0))])), (qM, .inl (cM, 20, .inr (.inr (.inr (.inr (fun _ => none)))))), (q_1, .inl (cI, 50, .inl (fun j => nI (20)))), (q_2, .inl (cI, 50, .inl (fun j => nI (0)))), (q_5, .inr (1, [.ref u_6.1, .ref u_6.2.2.1, .ref u_6.2.2.2.2.1])), (u_6.1, .inr (2, [.ref u_6.2.1])), (u_6.2.1, .inl (cL, 8, .inr (.inl (fun j => lN (dg 1000000000 0 (j)))))), (u_6.2.2.1, .inr (2, [.ref u_6.2.2.2.1])), (u_6.2.2.2.1, .inl (cL, 8, .inr (.inl (fun j => lN (dg 1000000000 0 (j)))))), (u_6.2.2.2.2.1, .inr (2, [.ref u_6.2.2.2.2.2])), (u_6.2.2.2.2.2, .inl (cL, 8, .inr (.inl (fun j => lN (dg 1000000000 0 (j))))))] H := hP
      have hD : va_D A [(h0, .inr (3, [.ref qM, .ref q_1, .ref q_2, .ref q_5, .int (nI (0)), .int (nI (0)), .int (nI (0))])), (qM, .inl (cM, 20, .inr (.inr (.inr (.inr (fun _ => none)))))), (q_1, .inl (cI, 50, .inl (fun j => nI (20)))), (q_2, .inl (cI, 50, .inl (fun j => nI (0)))), (q_5, .inr (1, [.ref u_6.1, .ref u_6.2.2.1, .ref u_6.2.2.2.2.1])), (u_6.1, .inr (2, [.ref u_6.2.1])), (u_6.2.1, .inl (cL, 8, .inr (.inl (fun j => lN (dg 1000000000 0 (j)))))), (u_6.2.2.1, .inr (2, [.ref u_6.2.2.2.1])), (u_6.2.2.2.1, .inl (cL, 8, .inr (.inl (fun j => lN (dg 1000000000 0 (j)))))), (u_6.2.2.2.2.1, .inr (2, [.ref u_6.2.2.2.2.2])), (u_6.2.2.2.2.2, .inl (cL, 8, .inr (.inl (fun j => lN (dg 1000000000 0 (j))))))] := hD
      refine lv_aload_n hx hb dX3_init_65 rfl (lv_at hl 0 rfl) ?_
      refine lv_sipush (v := nI (950)) hx hb dX3_init_66 (by decide) ?_
      refine va_put (D := D) (cl := vwCl) (ci := 3) (v := .int (nI (950))) (ty := tyX3 6) (C := RX3) (T := TX3) (N := 7) hx hb hts in_X3_init_X3 tyX3 tyX3_ok nmX3 hown hK hP hD hS 0 rfl rfl 6 (by decide) (hts (.fieldLink RX3 29 "BulkSamples" "trust" "I") fl_X3_init_29) (fun _ h9 => h9) rfl (by decide +kernel) rfl rfl (Nat.le_of_ble_eq_true rfl) dX3_init_69 (fun H locs hP hD hS => ?_)
      have hP : va_P D vwCl [(h0, .inr (3, [.ref qM, .ref q_1, .ref q_2, .ref q_5, .int (nI (0)), .int (nI (0)), .int (nI (950))])), (qM, .inl (cM, 20, .inr (.inr (.inr (.inr (fun _ => none)))))), (q_1, .inl (cI, 50, .inl (fun j => nI (20)))), (q_2, .inl (cI, 50, .inl (fun j => nI (0)))), (q_5, .inr (1, [.ref u_6.1, .ref u_6.2.2.1, .ref u_6.2.2.2.2.1])), (u_6.1, .inr (2, [.ref u_6.2.1])), (u_6.2.1, .inl (cL, 8, .inr (.inl (fun j => lN (dg 1000000000 0 (j)))))), (u_6.2.2.1, .inr (2, [.ref u_6.2.2.2.1])), (u_6.2.2.2.1, .inl (cL, 8, .inr (.inl (fun j => lN (dg 1000000000 0 (j)))))), (u_6.2.2.2.2.1, .inr (2, [.ref u_6.2.2.2.2.2])), (u_6.2.2.2.2.2, .inl (cL, 8, .inr (.inl (fun j => lN (dg 1000000000 0 (j))))))] H := hP
      have hD : va_D A [(h0, .inr (3, [.ref qM, .ref q_1, .ref q_2, .ref q_5, .int (nI (0)), .int (nI (0)), .int (nI (950))])), (qM, .inl (cM, 20, .inr (.inr (.inr (.inr (fun _ => none)))))), (q_1, .inl (cI, 50, .inl (fun j => nI (20)))), (q_2, .inl (cI, 50, .inl (fun j => nI (0)))), (q_5, .inr (1, [.ref u_6.1, .ref u_6.2.2.1, .ref u_6.2.2.2.2.1])), (u_6.1, .inr (2, [.ref u_6.2.1])), (u_6.2.1, .inl (cL, 8, .inr (.inl (fun j => lN (dg 1000000000 0 (j)))))), (u_6.2.2.1, .inr (2, [.ref u_6.2.2.2.1])), (u_6.2.2.2.1, .inl (cL, 8, .inr (.inl (fun j => lN (dg 1000000000 0 (j)))))), (u_6.2.2.2.2.1, .inr (2, [.ref u_6.2.2.2.2.2])), (u_6.2.2.2.2.2, .inl (cL, 8, .inr (.inl (fun j => lN (dg 1000000000 0 (j))))))] := hD
      refine W.widen (k := 10) (n := 150) (Nat.le_of_ble_eq_true rfl) (Nat.le_of_ble_eq_true rfl) ?_
      exact k_vret hx hb hr hlocks hP hD hK hS [0, 1, 2, 3, 4, 5, 6, 7, 8, 9, 10] (qM, q_1, q_2, q_5, u_6) rfl (by decide) trivial dX3_init_72
    | succ nn9 ih =>
      intro i hii H locs ls hP hD hS hl
      refine lv_iload_n hx hb dX3_init_31 rfl (lv_at hl 1 rfl) ?_
      refine lv_aload_n hx hb dX3_init_32 rfl (lv_at hl 0 rfl) ?_
      refine va_get (D := D) (cl := vwCl) (ci := 3) (v := .ref q_1) (C := RX3) (T := TX3) (N := 7) hx hb hts in_X3_init_X3 hown hK hP 0 rfl rfl 1 (by decide) (hts (.fieldLink RX3 15 "BulkSamples" "plans" "[I") fl_X3_init_15) (fun _ h9 => h9) rfl dX3_init_33 ?_
      refine va_alen (v := nI (50)) hx hb hK hP 2 0 rfl rfl rfl dX3_init_36 ?_
      refine n_icmp_ge (tgt := 54) hx hb (by omega) (by omega) dX3_init_37 (by decide) (fun c_8 => False.elim (by omega)) (fun c_8 => ?_)
      refine lv_aload_n hx hb dX3_init_40 rfl (lv_at hl 0 rfl) ?_
      refine va_get (D := D) (cl := vwCl) (ci := 3) (v := .ref q_1) (C := RX3) (T := TX3) (N := 7) hx hb hts in_X3_init_X3 hown hK hP 0 rfl rfl 1 (by decide) (hts (.fieldLink RX3 15 "BulkSamples" "plans" "[I") fl_X3_init_15) (fun _ h9 => h9) rfl dX3_init_41 ?_
      refine lv_iload_n hx hb dX3_init_44 rfl (lv_at hl 1 rfl) ?_
      refine lv_bipush (v := nI (20)) hx hb dX3_init_45 (by decide) ?_
      refine n_iast (f' := fun j => nI (if j < i + 1 then 20 else 0)) (ws' := [(h0, .inr (3, [.ref qM, .ref q_1, .ref q_2, .null, .int (nI (0)), .int (nI (0)), .int (nI (0))])), (qM, .inl (cM, 20, .inr (.inr (.inr (.inr (fun _ => none)))))), (q_1, .inl (cI, 50, .inl (fun j => nI (if j < i + 1 then 20 else 0)))), (q_2, .inl (cI, 50, .inl (fun j => nI (0))))]) hx hb hK hP hD hS 2 0 rfl rfl (by omega) (by omega) (fun j _ => st_upI (fun _ => 20) (fun _ => 0) i j) rfl dX3_init_47 (fun H locs hP hD hS => ?_)
      refine lv_iinc (v := nI (i + 1)) (lv' := [(1, .int (nI (i + 1))), (0, .ref h0)]) hx hb dX3_init_48 hl (k := 1) rfl (nI_add i 1) (by decide) rfl (fun ls hl => ?_)
      refine lv_goto (tgt := 31) hx hb dX3_init_51 (by decide) ?_
      exact ih (i + 1) (by omega) _ _ _ (P_pick hP [0, 1, 2, 3] rfl) (D_pick hD [0, 1, 2, 3] (by decide) rfl) hS (lv_sub hl [1, 0] rfl)
  exact L_3 50 0 (by omega) _ _ _ (P_altI _ hP 2 rfl rfl (fun j _ => by simp)) (D_pick hD [0, 1, 2, 3] (by decide) rfl) hS (lv_sub hl [1, 0] rfl)
theorem in_X3_judge_X0 : ∀ w ∈ wsX00, w ∈ wsX3_judge := by decide +kernel
theorem in_X3_judge_X1 : ∀ w ∈ wsX10, w ∈ wsX3_judge := by decide +kernel
theorem in_X3_judge_X2 : ∀ w ∈ wsX20, w ∈ wsX3_judge := by decide +kernel
theorem in_X3_judge_X3 : ∀ w ∈ wsX30, w ∈ wsX3_judge := by decide +kernel
theorem fl_X3_judge_25 : Cond.fieldLink RX3 25 "BulkSamples" "odds" "LBulkSamples$Odds;" ∈ wsX3_judge := by decide +kernel
theorem fl_X3_judge_29 : Cond.fieldLink RX3 29 "BulkSamples" "trust" "I" ∈ wsX3_judge := by decide +kernel
theorem fl_X3_judge_50 : Cond.fieldLink RX3 50 "BulkSamples$Mailing" "items" "I" ∈ wsX3_judge := by decide +kernel
theorem fl_X3_judge_66 : Cond.fieldLink RX3 66 "BulkSamples$Mailing" "drawn" "I" ∈ wsX3_judge := by decide +kernel
theorem fl_X3_judge_69 : Cond.fieldLink RX3 69 "BulkSamples$Mailing" "found" "[I" ∈ wsX3_judge := by decide +kernel
set_option maxHeartbeats 4000000 in
set_option maxRecDepth 100000 in
/-- judge -/
theorem c_judge (l : Launch) (D : va_G) (cI cL cM : ClassId) (sz : Nat) (h0 xM xP xG xO cnt te tr : Nat) (am ad af it dr : Nat) (fd : Nat → Nat) (o0 o1 o2 q0 q1 q2 : Nat) (a0 A0 W0 : Nat) (h1it : 1 ≤ it) (hit : it ≤ 200) (h1dr : 1 ≤ dr) (hdr : dr ≤ it) (hfd : psum fd 3 ≤ dr) (htr1 : 500 ≤ tr) (htr2 : tr ≤ 999) : Met l yX3_judge wsX3_judge ({ frames := 3, cells := 0, slots := 0, locals := 79 } : Room) (va_Pc [.ref h0, .ref am] (PreB D (gT cI cL cM) sz [(h0, .inr (3, [.ref xM, .ref xP, .ref xG, .ref xO, .int (nI (cnt)), .int (nI (te)), .int (nI (tr))])), (am, .inr (0, [.int (nI (it)), .ref ad, .ref af, .int (nI (dr))])), (af, .inl (cI, 3, .inl (fun j => nI (fd j)))), (xO, .inr (1, [.ref o0, .ref o1, .ref o2])), (o0, .inr (2, [.ref q0])), (q0, .inl (cL, 8, .inr (.inl (fun j => lN (dg 1000000000 a0 (j)))))), (o1, .inr (2, [.ref q1])), (q1, .inl (cL, 8, .inr (.inl (fun j => lN (dg 1000000000 A0 (j)))))), (o2, .inr (2, [.ref q2])), (q2, .inl (cL, 8, .inr (.inl (fun j => lN (dg 1000000000 W0 (j))))))])) (va_Qi (fun r _ => r = nI (vd it (psum fd 3) dr tr)) (fun (u : Nat × Nat × Nat) => PostB D (gT cI cL cM) (va_A [(h0, .inr (3, [.ref xM, .ref xP, .ref xG, .ref xO, .int (nI (cnt)), .int (nI (te)), .int (nI (tr))])), (am, .inr (0, [.int (nI (it)), .ref ad, .ref af, .int (nI (dr))])), (af, .inl (cI, 3, .inl (fun j => nI (fd j)))), (xO, .inr (1, [.ref o0, .ref o1, .ref o2])), (o0, .inr (2, [.ref q0])), (q0, .inl (cL, 8, .inr (.inl (fun j => lN (dg 1000000000 a0 (j)))))), (o1, .inr (2, [.ref q1])), (q1, .inl (cL, 8, .inr (.inl (fun j => lN (dg 1000000000 A0 (j)))))), (o2, .inr (2, [.ref q2])), (q2, .inl (cL, 8, .inr (.inl (fun j => lN (dg 1000000000 W0 (j))))))] sz) [(h0, .inr (3, [.ref xM, .ref xP, .ref xG, .ref xO, .int (nI (cnt)), .int (nI (te)), .int (nI (tr))])), (am, .inr (0, [.int (nI (it)), .ref ad, .ref af, .int (nI (dr))])), (af, .inl (cI, 3, .inl (fun j => nI (fd j)))), (xO, .inr (1, [.ref o0, .ref o1, .ref o2])), (o0, .inr (2, [.ref q0])), (q0, .inl (cL, 8, .inr (.inl (fun j => lN (dg 1000000000 u.1 (j)))))), (o1, .inr (2, [.ref q1])), (q1, .inl (cL, 8, .inr (.inl (fun j => lN (dg 1000000000 u.2.1 (j)))))), (o2, .inr (2, [.ref q2])), (q2, .inl (cL, 8, .inr (.inl (fun j => lN (dg 1000000000 u.2.2 (j))))))]) (va_A [(h0, .inr (3, [.ref xM, .ref xP, .ref xG, .ref xO, .int (nI (cnt)), .int (nI (te)), .int (nI (tr))])), (am, .inr (0, [.int (nI (it)), .ref ad, .ref af, .int (nI (dr))])), (af, .inl (cI, 3, .inl (fun j => nI (fd j)))), (xO, .inr (1, [.ref o0, .ref o1, .ref o2])), (o0, .inr (2, [.ref q0])), (q0, .inl (cL, 8, .inr (.inl (fun j => lN (dg 1000000000 a0 (j)))))), (o1, .inr (2, [.ref q1])), (q1, .inl (cL, 8, .inr (.inl (fun j => lN (dg 1000000000 A0 (j)))))), (o2, .inr (2, [.ref q2])), (q2, .inl (cL, 8, .inr (.inl (fun j => lN (dg 1000000000 W0 (j))))))] sz)) 0 0 (va_A [(h0, .inr (3, [.ref xM, .ref xP, .ref xG, .ref xO, .int (nI (cnt)), .int (nI (te)), .int (nI (tr))])), (am, .inr (0, [.int (nI (it)), .ref ad, .ref af, .int (nI (dr))])), (af, .inl (cI, 3, .inl (fun j => nI (fd j)))), (xO, .inr (1, [.ref o0, .ref o1, .ref o2])), (o0, .inr (2, [.ref q0])), (q0, .inl (cL, 8, .inr (.inl (fun j => lN (dg 1000000000 a0 (j)))))), (o1, .inr (2, [.ref q1])), (q1, .inl (cL, 8, .inr (.inl (fun j => lN (dg 1000000000 A0 (j)))))), (o2, .inr (2, [.ref q2])), (q2, .inl (cL, 8, .inr (.inl (fun j => lN (dg 1000000000 W0 (j))))))] sz) := by
  refine k_start (fun A => (va_Qi (fun r _ => r = nI (vd it (psum fd 3) dr tr)) (fun (u : Nat × Nat × Nat) => PostB D (gT cI cL cM) A [(h0, .inr (3, [.ref xM, .ref xP, .ref xG, .ref xO, .int (nI (cnt)), .int (nI (te)), .int (nI (tr))])), (am, .inr (0, [.int (nI (it)), .ref ad, .ref af, .int (nI (dr))])), (af, .inl (cI, 3, .inl (fun j => nI (fd j)))), (xO, .inr (1, [.ref o0, .ref o1, .ref o2])), (o0, .inr (2, [.ref q0])), (q0, .inl (cL, 8, .inr (.inl (fun j => lN (dg 1000000000 u.1 (j)))))), (o1, .inr (2, [.ref q1])), (q1, .inl (cL, 8, .inr (.inl (fun j => lN (dg 1000000000 u.2.1 (j)))))), (o2, .inr (2, [.ref q2])), (q2, .inl (cL, 8, .inr (.inl (fun j => lN (dg 1000000000 u.2.2 (j))))))]) A)) (cc := cX3_judge) (maxL := 4) (ret := (some .int)) (by decide) rfl (Nat.le_of_ble_eq_true rfl) ?_
  intro p e s m below meth c A ls hx hb hr hts hown hlocks hin hml hP hK hD hA hS hl
  have hl : lv_has ls 4 [(0, .ref h0), (1, .ref am)] := hl
  have hown : s.vm.findClass RX3 = some m.cls := hown
  have hL : it / 20 + 1 ≤ it := by omega
  refine lv_aload_n hx hb dX3_judge_0 rfl (lv_at hl 1 rfl) ?_
  refine va_get (D := D) (cl := vwCl) (ci := 0) (v := .int (nI (it))) (C := RX0) (T := TX0) (N := 4) hx hb hts in_X3_judge_X0 hown hK hP 1 rfl rfl 0 (by decide) (hts (.fieldLink RX3 50 "BulkSamples$Mailing" "items" "I") fl_X3_judge_50) (fun _ h9 => h9) rfl dX3_judge_1 ?_
  refine lv_bipush (v := nI (20)) hx hb dX3_judge_4 (by decide) ?_
  refine n_idiv (r := it / 20) hx hb dX3_judge_6 (by omega) (by omega) (by omega) rfl ?_
  refine lv_istore_n (lv' := [(2, .int (nI (it / 20))), (0, .ref h0), (1, .ref am)]) hx hb dX3_judge_7 rfl hl (by decide) rfl (fun ls hl => ?_)
  refine lv_aload_n hx hb dX3_judge_8 rfl (lv_at hl 2 rfl) ?_
  refine va_get (D := D) (cl := vwCl) (ci := 0) (v := .ref af) (C := RX0) (T := TX0) (N := 4) hx hb hts in_X3_judge_X0 hown hK hP 1 rfl rfl 2 (by decide) (hts (.fieldLink RX3 69 "BulkSamples$Mailing" "found" "[I") fl_X3_judge_69) (fun _ h9 => h9) rfl dX3_judge_9 ?_
  refine k_calli (wc := [(af, .inl (cI, 3, .inl (fun j => nI (fd j))))]) (wr := [(h0, .inr (3, [.ref xM, .ref xP, .ref xG, .ref xO, .int (nI (cnt)), .int (nI (te)), .int (nI (tr))])), (am, .inr (0, [.int (nI (it)), .ref ad, .ref af, .int (nI (dr))])), (xO, .inr (1, [.ref o0, .ref o1, .ref o2])), (o0, .inr (2, [.ref q0])), (q0, .inl (cL, 8, .inr (.inl (fun j => lN (dg 1000000000 a0 (j)))))), (o1, .inr (2, [.ref q1])), (q1, .inl (cL, 8, .inr (.inl (fun j => lN (dg 1000000000 A0 (j)))))), (o2, .inr (2, [.ref q2])), (q2, .inl (cL, 8, .inr (.inl (fun j => lN (dg 1000000000 W0 (j))))))]) (W1 := fun _ => [(h0, .inr (3, [.ref xM, .ref xP, .ref xG, .ref xO, .int (nI (cnt)), .int (nI (te)), .int (nI (tr))])), (am, .inr (0, [.int (nI (it)), .ref ad, .ref af, .int (nI (dr))])), (af, .inl (cI, 3, .inl (fun j => nI (fd j)))), (xO, .inr (1, [.ref o0, .ref o1, .ref o2])), (o0, .inr (2, [.ref q0])), (q0, .inl (cL, 8, .inr (.inl (fun j => lN (dg 1000000000 a0 (j)))))), (o1, .inr (2, [.ref q1])), (q1, .inl (cL, 8, .inr (.inl (fun j => lN (dg 1000000000 A0 (j)))))), (o2, .inr (2, [.ref q2])), (q2, .inl (cL, 8, .inr (.inl (fun j => lN (dg 1000000000 W0 (j))))))]) hP hD hS hA [2] [0, 1, 3, 4, 5, 6, 7, 8, 9] [0, 1, 9, 2, 3, 4, 5, 6, 7, 8] rfl rfl (by decide) (by decide) (fun _ => rfl) (by decide) (va_runS (As := [.ref af]) (rest := []) ⟨hx, hb, hml, hown, hts⟩ (c_sum l D cI cL cM s.heap.size af 3 fd (by omega)) (va_cwS 1 hts gX3_judge_X3_sum rfl rfl rfl (by decide +kernel) ⟨Nat.le_of_ble_eq_true rfl, Nat.le_of_ble_eq_true rfl⟩) (k_preS hP hD hK [2] rfl (by decide)) rfl rfl hl.1 rfl (lv_room (Nat.le_of_ble_eq_true rfl)) dX3_judge_12 ⟨Nat.le_of_ble_eq_true rfl, Nat.le_of_ble_eq_true rfl⟩) (fun r_1 _ H locs hw hP hD hS => ?_)
  obtain rfl : r_1 = nI (psum fd 3) := hw
  refine lv_istore_n (lv' := [(3, .int (nI (psum fd 3))), (2, .int (nI (it / 20))), (0, .ref h0), (1, .ref am)]) hx hb dX3_judge_15 rfl hl (by decide) rfl (fun ls hl => ?_)
  refine lv_aload_n hx hb dX3_judge_16 rfl (lv_at hl 2 rfl) ?_
  refine va_get (D := D) (cl := vwCl) (ci := 3) (v := .ref xO) (C := RX3) (T := TX3) (N := 7) hx hb hts in_X3_judge_X3 hown hK hP 0 rfl rfl 3 (by decide) (hts (.fieldLink RX3 25 "BulkSamples" "odds" "LBulkSamples$Odds;") fl_X3_judge_25) (fun _ h9 => h9) rfl dX3_judge_17 ?_
  refine lv_aload_n hx hb dX3_judge_20 rfl (lv_at hl 3 rfl) ?_
  refine va_get (D := D) (cl := vwCl) (ci := 0) (v := .int (nI (it))) (C := RX0) (T := TX0) (N := 4) hx hb hts in_X3_judge_X0 hown hK hP 1 rfl rfl 0 (by decide) (hts (.fieldLink RX3 50 "BulkSamples$Mailing" "items" "I") fl_X3_judge_50) (fun _ h9 => h9) rfl dX3_judge_21 ?_
  refine lv_iload_n hx hb dX3_judge_24 rfl (lv_at hl 1 rfl) ?_
  refine lv_iconst (v := nI (1)) hx hb dX3_judge_25 (by decide) ?_
  refine n_iadd (r := (it / 20) + 1) hx hb dX3_judge_26 rfl ?_
  refine lv_aload_n hx hb dX3_judge_27 rfl (lv_at hl 3 rfl) ?_
  refine va_get (D := D) (cl := vwCl) (ci := 0) (v := .int (nI (dr))) (C := RX0) (T := TX0) (N := 4) hx hb hts in_X3_judge_X0 hown hK hP 1 rfl rfl 3 (by decide) (hts (.fieldLink RX3 66 "BulkSamples$Mailing" "drawn" "I") fl_X3_judge_66) (fun _ h9 => h9) rfl dX3_judge_28 ?_
  refine lv_iload_n hx hb dX3_judge_31 rfl (lv_at hl 0 rfl) ?_
  refine lv_iconst (v := nI (0)) hx hb dX3_judge_32 (by decide) ?_
  refine k_callv (wc := [(xO, .inr (1, [.ref o0, .ref o1, .ref o2])), (o0, .inr (2, [.ref q0])), (q0, .inl (cL, 8, .inr (.inl (fun j => lN (dg 1000000000 a0 (j)))))), (o1, .inr (2, [.ref q1])), (q1, .inl (cL, 8, .inr (.inl (fun j => lN (dg 1000000000 A0 (j)))))), (o2, .inr (2, [.ref q2])), (q2, .inl (cL, 8, .inr (.inl (fun j => lN (dg 1000000000 W0 (j))))))]) (wr := [(h0, .inr (3, [.ref xM, .ref xP, .ref xG, .ref xO, .int (nI (cnt)), .int (nI (te)), .int (nI (tr))])), (am, .inr (0, [.int (nI (it)), .ref ad, .ref af, .int (nI (dr))])), (af, .inl (cI, 3, .inl (fun j => nI (fd j))))]) (W1 := fun _ => [(h0, .inr (3, [.ref xM, .ref xP, .ref xG, .ref xO, .int (nI (cnt)), .int (nI (te)), .int (nI (tr))])), (am, .inr (0, [.int (nI (it)), .ref ad, .ref af, .int (nI (dr))])), (af, .inl (cI, 3, .inl (fun j => nI (fd j)))), (xO, .inr (1, [.ref o0, .ref o1, .ref o2])), (o0, .inr (2, [.ref q0])), (q0, .inl (cL, 8, .inr (.inl (fun j => lN (dg 1000000000 (asked 0 (nI (psum fd 3)) (it / 20 + 1) (it - (it / 20 + 1)) dr) (j)))))), (o1, .inr (2, [.ref q1])), (q1, .inl (cL, 8, .inr (.inl (fun j => lN (dg 1000000000 (ch it dr) (j)))))), (o2, .inr (2, [.ref q2])), (q2, .inl (cL, 8, .inr (.inl (fun j => lN (dg 1000000000 (hyp (it / 20 + 1) (it - (it / 20 + 1)) dr (min (it / 20 + 1) dr + 1)) (j))))))]) hP hD hS hA [3, 4, 5, 6, 7, 8, 9] [0, 1, 2] [0, 1, 2, 3, 4, 5, 6, 7, 8, 9] rfl rfl (by decide) (by decide) (fun _ => rfl) (by decide) (va_runV (As := [.int (nI (it)), .int (nI ((it / 20) + 1)), .int (nI (dr)), .int (nI (psum fd 3)), .int (nI (0))]) (rest := []) ⟨hx, hb, hml, hown, hts⟩ (c_weigh l D cI cL cM H.size xO o0 o1 o2 q0 q1 q2 a0 A0 W0 it (it / 20 + 1) dr (nI (psum fd 3)) 0 hit (by omega) hdr (by omega)) (cwV 5 hts gX3_judge_X1_weigh rfl rfl rfl (by decide +kernel) ⟨Nat.le_of_ble_eq_true rfl, Nat.le_of_ble_eq_true rfl⟩) (k_preV hP hD hK [3, 4, 5, 6, 7, 8, 9] rfl (by decide) 0 rfl rfl rfl) rfl rfl hl.1 rfl (lv_room (Nat.le_of_ble_eq_true rfl)) dX3_judge_33 ⟨Nat.le_of_ble_eq_true rfl, Nat.le_of_ble_eq_true rfl⟩) (fun _ H locs hw hP hD hS => ?_)
  refine lv_aload_n hx hb dX3_judge_36 rfl (lv_at hl 2 rfl) ?_
  refine va_get (D := D) (cl := vwCl) (ci := 3) (v := .ref xO) (C := RX3) (T := TX3) (N := 7) hx hb hts in_X3_judge_X3 hown hK hP 0 rfl rfl 3 (by decide) (hts (.fieldLink RX3 25 "BulkSamples" "odds" "LBulkSamples$Odds;") fl_X3_judge_25) (fun _ h9 => h9) rfl dX3_judge_37 ?_
  refine lv_sipush (v := nI (1000)) hx hb dX3_judge_40 (by decide) ?_
  refine lv_aload_n hx hb dX3_judge_43 rfl (lv_at hl 2 rfl) ?_
  refine va_get (D := D) (cl := vwCl) (ci := 3) (v := .int (nI (tr))) (C := RX3) (T := TX3) (N := 7) hx hb hts in_X3_judge_X3 hown hK hP 0 rfl rfl 6 (by decide) (hts (.fieldLink RX3 29 "BulkSamples" "trust" "I") fl_X3_judge_29) (fun _ h9 => h9) rfl dX3_judge_44 ?_
  refine n_isub (r := 1000 - tr) hx hb dX3_judge_47 (by omega) rfl ?_
  refine k_calli (wc := [(xO, .inr (1, [.ref o0, .ref o1, .ref o2])), (o0, .inr (2, [.ref q0])), (q0, .inl (cL, 8, .inr (.inl (fun j => lN (dg 1000000000 (asked 0 (nI (psum fd 3)) (it / 20 + 1) (it - (it / 20 + 1)) dr) (j)))))), (o1, .inr (2, [.ref q1])), (q1, .inl (cL, 8, .inr (.inl (fun j => lN (dg 1000000000 (ch it dr) (j))))))]) (wr := [(h0, .inr (3, [.ref xM, .ref xP, .ref xG, .ref xO, .int (nI (cnt)), .int (nI (te)), .int (nI (tr))])), (am, .inr (0, [.int (nI (it)), .ref ad, .ref af, .int (nI (dr))])), (af, .inl (cI, 3, .inl (fun j => nI (fd j)))), (o2, .inr (2, [.ref q2])), (q2, .inl (cL, 8, .inr (.inl (fun j => lN (dg 1000000000 (hyp (it / 20 + 1) (it - (it / 20 + 1)) dr (min (it / 20 + 1) dr + 1)) (j))))))]) (W1 := fun _ => [(h0, .inr (3, [.ref xM, .ref xP, .ref xG, .ref xO, .int (nI (cnt)), .int (nI (te)), .int (nI (tr))])), (am, .inr (0, [.int (nI (it)), .ref ad, .ref af, .int (nI (dr))])), (af, .inl (cI, 3, .inl (fun j => nI (fd j)))), (xO, .inr (1, [.ref o0, .ref o1, .ref o2])), (o0, .inr (2, [.ref q0])), (q0, .inl (cL, 8, .inr (.inl (fun j => lN (dg 1000000000 ((asked 0 (nI (psum fd 3)) (it / 20 + 1) (it - (it / 20 + 1)) dr) * 1000) (j)))))), (o1, .inr (2, [.ref q1])), (q1, .inl (cL, 8, .inr (.inl (fun j => lN (dg 1000000000 ((ch it dr) * (1000 - tr)) (j)))))), (o2, .inr (2, [.ref q2])), (q2, .inl (cL, 8, .inr (.inl (fun j => lN (dg 1000000000 (hyp (it / 20 + 1) (it - (it / 20 + 1)) dr (min (it / 20 + 1) dr + 1)) (j))))))]) hP hD hS hA [3, 4, 5, 6, 7] [0, 1, 2, 8, 9] [0, 1, 2, 5, 6, 7, 8, 9, 3, 4] rfl rfl (by decide) (by decide) (fun _ => rfl) (by decide) (va_runV (As := [.int (nI (1000 - tr))]) (rest := []) ⟨hx, hb, hml, hown, hts⟩ (c_most l D cI cL cM H.size xO o0 o1 o2 q0 q1 (asked 0 (nI (psum fd 3)) (it / 20 + 1) (it - (it / 20 + 1)) dr) (ch it dr) (1000 - tr) (by omega) (askB hit (by omega) (by omega)) (chB hit (by omega))) (cwV 1 hts gX3_judge_X1_isAtMost rfl rfl rfl (by decide +kernel) ⟨Nat.le_of_ble_eq_true rfl, Nat.le_of_ble_eq_true rfl⟩) (k_preV hP hD hK [3, 4, 5, 6, 7] rfl (by decide) 0 rfl rfl rfl) rfl rfl hl.1 rfl (lv_room (Nat.le_of_ble_eq_true rfl)) dX3_judge_48 ⟨Nat.le_of_ble_eq_true rfl, Nat.le_of_ble_eq_true rfl⟩) (fun r_3 _ H locs hw hP hD hS => ?_)
  obtain rfl : r_3 = nI (b2 ((asked 0 (nI (psum fd 3)) (it / 20 + 1) (it - (it / 20 + 1)) dr) * 1000 ≤ (ch it dr) * (1000 - tr))) := hw
  refine n_if_eq (tgt := 56) hx hb (Nat.lt_of_le_of_lt (b2_le _) (by omega)) dX3_judge_51 (by decide) (fun c_4 => ?_) (fun c_4 => ?_)
  · have hA9 : ¬ vdA it (psum fd 3) dr tr = true := fun h => b2_0 c_4 (of_decide_eq_true h)
    refine lv_aload_n hx hb dX3_judge_56 rfl (lv_at hl 2 rfl) ?_
    refine va_get (D := D) (cl := vwCl) (ci := 3) (v := .ref xO) (C := RX3) (T := TX3) (N := 7) hx hb hts in_X3_judge_X3 hown hK hP 0 rfl rfl 3 (by decide) (hts (.fieldLink RX3 25 "BulkSamples" "odds" "LBulkSamples$Odds;") fl_X3_judge_25) (fun _ h9 => h9) rfl dX3_judge_57 ?_
    refine lv_aload_n hx hb dX3_judge_60 rfl (lv_at hl 3 rfl) ?_
    refine va_get (D := D) (cl := vwCl) (ci := 0) (v := .int (nI (it))) (C := RX0) (T := TX0) (N := 4) hx hb hts in_X3_judge_X0 hown hK hP 1 rfl rfl 0 (by decide) (hts (.fieldLink RX3 50 "BulkSamples$Mailing" "items" "I") fl_X3_judge_50) (fun _ h9 => h9) rfl dX3_judge_61 ?_
    refine lv_iload_n hx hb dX3_judge_64 rfl (lv_at hl 1 rfl) ?_
    refine lv_aload_n hx hb dX3_judge_65 rfl (lv_at hl 3 rfl) ?_
    refine va_get (D := D) (cl := vwCl) (ci := 0) (v := .int (nI (dr))) (C := RX0) (T := TX0) (N := 4) hx hb hts in_X3_judge_X0 hown hK hP 1 rfl rfl 3 (by decide) (hts (.fieldLink RX3 66 "BulkSamples$Mailing" "drawn" "I") fl_X3_judge_66) (fun _ h9 => h9) rfl dX3_judge_66 ?_
    refine lv_iload_n hx hb dX3_judge_69 rfl (lv_at hl 0 rfl) ?_
    refine lv_iconst (v := nI (1)) hx hb dX3_judge_70 (by decide) ?_
    refine k_callv (wc := [(xO, .inr (1, [.ref o0, .ref o1, .ref o2])), (o0, .inr (2, [.ref q0])), (q0, .inl (cL, 8, .inr (.inl (fun j => lN (dg 1000000000 (asked 0 (nI (psum fd 3)) (it / 20 + 1) (it - (it / 20 + 1)) dr * 1000) (j)))))), (o1, .inr (2, [.ref q1])), (q1, .inl (cL, 8, .inr (.inl (fun j => lN (dg 1000000000 (ch it dr * (1000 - tr)) (j)))))), (o2, .inr (2, [.ref q2])), (q2, .inl (cL, 8, .inr (.inl (fun j => lN (dg 1000000000 (hyp (it / 20 + 1) (it - (it / 20 + 1)) dr (min (it / 20 + 1) dr + 1)) (j))))))]) (wr := [(h0, .inr (3, [.ref xM, .ref xP, .ref xG, .ref xO, .int (nI (cnt)), .int (nI (te)), .int (nI (tr))])), (am, .inr (0, [.int (nI (it)), .ref ad, .ref af, .int (nI (dr))])), (af, .inl (cI, 3, .inl (fun j => nI (fd j))))]) (W1 := fun _ => [(h0, .inr (3, [.ref xM, .ref xP, .ref xG, .ref xO, .int (nI (cnt)), .int (nI (te)), .int (nI (tr))])), (am, .inr (0, [.int (nI (it)), .ref ad, .ref af, .int (nI (dr))])), (af, .inl (cI, 3, .inl (fun j => nI (fd j)))), (xO, .inr (1, [.ref o0, .ref o1, .ref o2])), (o0, .inr (2, [.ref q0])), (q0, .inl (cL, 8, .inr (.inl (fun j => lN (dg 1000000000 (asked 1 (nI (psum fd 3)) (it / 20) (it - (it / 20)) dr) (j)))))), (o1, .inr (2, [.ref q1])), (q1, .inl (cL, 8, .inr (.inl (fun j => lN (dg 1000000000 (ch it dr) (j)))))), (o2, .inr (2, [.ref q2])), (q2, .inl (cL, 8, .inr (.inl (fun j => lN (dg 1000000000 (hyp (it / 20) (it - (it / 20)) dr (min (it / 20) dr + 1)) (j))))))]) hP hD hS hA [3, 4, 5, 6, 7, 8, 9] [0, 1, 2] [0, 1, 2, 3, 4, 5, 6, 7, 8, 9] rfl rfl (by decide) (by decide) (fun _ => rfl) (by decide) (va_runV (As := [.int (nI (it)), .int (nI (it / 20)), .int (nI (dr)), .int (nI (psum fd 3)), .int (nI (1))]) (rest := []) ⟨hx, hb, hml, hown, hts⟩ (c_weigh l D cI cL cM H.size xO o0 o1 o2 q0 q1 q2 (asked 0 (nI (psum fd 3)) (it / 20 + 1) (it - (it / 20 + 1)) dr * 1000) (ch it dr * (1000 - tr)) (hyp (it / 20 + 1) (it - (it / 20 + 1)) dr (min (it / 20 + 1) dr + 1)) it (it / 20) dr (nI (psum fd 3)) 1 hit (by omega) hdr (by omega)) (cwV 5 hts gX3_judge_X1_weigh rfl rfl rfl (by decide +kernel) ⟨Nat.le_of_ble_eq_true rfl, Nat.le_of_ble_eq_true rfl⟩) (k_preV hP hD hK [3, 4, 5, 6, 7, 8, 9] rfl (by decide) 0 rfl rfl rfl) rfl rfl hl.1 rfl (lv_room (Nat.le_of_ble_eq_true rfl)) dX3_judge_71 ⟨Nat.le_of_ble_eq_true rfl, Nat.le_of_ble_eq_true rfl⟩) (fun _ H locs hw hP hD hS => ?_)
    refine lv_aload_n hx hb dX3_judge_74 rfl (lv_at hl 2 rfl) ?_
    refine va_get (D := D) (cl := vwCl) (ci := 3) (v := .ref xO) (C := RX3) (T := TX3) (N := 7) hx hb hts in_X3_judge_X3 hown hK hP 0 rfl rfl 3 (by decide) (hts (.fieldLink RX3 25 "BulkSamples" "odds" "LBulkSamples$Odds;") fl_X3_judge_25) (fun _ h9 => h9) rfl dX3_judge_75 ?_
    refine lv_sipush (v := nI (1000)) hx hb dX3_judge_78 (by decide) ?_
    refine lv_aload_n hx hb dX3_judge_81 rfl (lv_at hl 2 rfl) ?_
    refine va_get (D := D) (cl := vwCl) (ci := 3) (v := .int (nI (tr))) (C := RX3) (T := TX3) (N := 7) hx hb hts in_X3_judge_X3 hown hK hP 0 rfl rfl 6 (by decide) (hts (.fieldLink RX3 29 "BulkSamples" "trust" "I") fl_X3_judge_29) (fun _ h9 => h9) rfl dX3_judge_82 ?_
    refine n_isub (r := 1000 - tr) hx hb dX3_judge_85 (by omega) rfl ?_
    refine k_calli (wc := [(xO, .inr (1, [.ref o0, .ref o1, .ref o2])), (o0, .inr (2, [.ref q0])), (q0, .inl (cL, 8, .inr (.inl (fun j => lN (dg 1000000000 (asked 1 (nI (psum fd 3)) (it / 20) (it - it / 20) dr) (j)))))), (o1, .inr (2, [.ref q1])), (q1, .inl (cL, 8, .inr (.inl (fun j => lN (dg 1000000000 (ch it dr) (j))))))]) (wr := [(h0, .inr (3, [.ref xM, .ref xP, .ref xG, .ref xO, .int (nI (cnt)), .int (nI (te)), .int (nI (tr))])), (am, .inr (0, [.int (nI (it)), .ref ad, .ref af, .int (nI (dr))])), (af, .inl (cI, 3, .inl (fun j => nI (fd j)))), (o2, .inr (2, [.ref q2])), (q2, .inl (cL, 8, .inr (.inl (fun j => lN (dg 1000000000 (hyp (it / 20) (it - (it / 20)) dr (min (it / 20) dr + 1)) (j))))))]) (W1 := fun _ => [(h0, .inr (3, [.ref xM, .ref xP, .ref xG, .ref xO, .int (nI (cnt)), .int (nI (te)), .int (nI (tr))])), (am, .inr (0, [.int (nI (it)), .ref ad, .ref af, .int (nI (dr))])), (af, .inl (cI, 3, .inl (fun j => nI (fd j)))), (xO, .inr (1, [.ref o0, .ref o1, .ref o2])), (o0, .inr (2, [.ref q0])), (q0, .inl (cL, 8, .inr (.inl (fun j => lN (dg 1000000000 ((asked 1 (nI (psum fd 3)) (it / 20) (it - it / 20) dr) * 1000) (j)))))), (o1, .inr (2, [.ref q1])), (q1, .inl (cL, 8, .inr (.inl (fun j => lN (dg 1000000000 ((ch it dr) * (1000 - tr)) (j)))))), (o2, .inr (2, [.ref q2])), (q2, .inl (cL, 8, .inr (.inl (fun j => lN (dg 1000000000 (hyp (it / 20) (it - (it / 20)) dr (min (it / 20) dr + 1)) (j))))))]) hP hD hS hA [3, 4, 5, 6, 7] [0, 1, 2, 8, 9] [0, 1, 2, 5, 6, 7, 8, 9, 3, 4] rfl rfl (by decide) (by decide) (fun _ => rfl) (by decide) (va_runV (As := [.int (nI (1000 - tr))]) (rest := []) ⟨hx, hb, hml, hown, hts⟩ (c_most l D cI cL cM H.size xO o0 o1 o2 q0 q1 (asked 1 (nI (psum fd 3)) (it / 20) (it - it / 20) dr) (ch it dr) (1000 - tr) (by omega) (askB hit (by omega) (by omega)) (chB hit (by omega))) (cwV 1 hts gX3_judge_X1_isAtMost rfl rfl rfl (by decide +kernel) ⟨Nat.le_of_ble_eq_true rfl, Nat.le_of_ble_eq_true rfl⟩) (k_preV hP hD hK [3, 4, 5, 6, 7] rfl (by decide) 0 rfl rfl rfl) rfl rfl hl.1 rfl (lv_room (Nat.le_of_ble_eq_true rfl)) dX3_judge_86 ⟨Nat.le_of_ble_eq_true rfl, Nat.le_of_ble_eq_true rfl⟩) (fun r_6 _ H locs hw hP hD hS => ?_)
    obtain rfl : r_6 = nI (b2 ((asked 1 (nI (psum fd 3)) (it / 20) (it - it / 20) dr) * 1000 ≤ (ch it dr) * (1000 - tr))) := hw
    refine n_if_eq (tgt := 96) hx hb (Nat.lt_of_le_of_lt (b2_le _) (by omega)) dX3_judge_89 (by decide) (fun c_7 => ?_) (fun c_7 => ?_)
    · have hR9 : ¬ vdR it (psum fd 3) dr tr = true := fun h => b2_0 c_7 (of_decide_eq_true h)
      refine lv_iconst (v := nI (2)) hx hb dX3_judge_96 (by decide) ?_
      refine W.widen (k := 0) (n := 0) (Nat.le_of_ble_eq_true rfl) (Nat.le_of_ble_eq_true rfl) ?_
      exact k_iret (v := nI (2)) hx hb hr hlocks hP hD hK hS [0, 1, 2, 3, 4, 5, 6, 7, 8, 9] (asked 1 (nI (psum fd 3)) (it / 20) (it - it / 20) dr * 1000, ch it dr * (1000 - tr), hyp (it / 20) (it - it / 20) dr (min (it / 20) dr + 1)) rfl (by decide) (by rw [vd, if_neg hA9, if_neg hR9]) dX3_judge_97
    · have hR9 : vdR it (psum fd 3) dr tr = true := decide_eq_true (b2_pos c_7)
      refine lv_iconst (v := nI (3)) hx hb dX3_judge_92 (by decide) ?_
      refine lv_goto (tgt := 97) hx hb dX3_judge_93 (by decide) ?_
      refine W.widen (k := 0) (n := 0) (Nat.le_of_ble_eq_true rfl) (Nat.le_of_ble_eq_true rfl) ?_
      exact k_iret (v := nI (3)) hx hb hr hlocks hP hD hK hS [0, 1, 2, 3, 4, 5, 6, 7, 8, 9] (asked 1 (nI (psum fd 3)) (it / 20) (it - it / 20) dr * 1000, ch it dr * (1000 - tr), hyp (it / 20) (it - it / 20) dr (min (it / 20) dr + 1)) rfl (by decide) (by rw [vd, if_neg hA9, if_pos hR9]) dX3_judge_97
  · have hA9 : vdA it (psum fd 3) dr tr = true := decide_eq_true (b2_pos c_4)
    refine lv_iconst (v := nI (1)) hx hb dX3_judge_54 (by decide) ?_
    refine W.widen (k := 0) (n := 0) (Nat.le_of_ble_eq_true rfl) (Nat.le_of_ble_eq_true rfl) ?_
    exact k_iret (v := nI (1)) hx hb hr hlocks hP hD hK hS [0, 1, 2, 3, 4, 5, 6, 7, 8, 9] (asked 0 (nI (psum fd 3)) (it / 20 + 1) (it - (it / 20 + 1)) dr * 1000, ch it dr * (1000 - tr), hyp (it / 20 + 1) (it - (it / 20 + 1)) dr (min (it / 20 + 1) dr + 1)) rfl (by decide) (by rw [vd, if_pos hA9]) dX3_judge_55
theorem in_X3_verdict_X0 : ∀ w ∈ wsX00, w ∈ wsX3_verdict := by decide +kernel
theorem in_X3_verdict_X1 : ∀ w ∈ wsX10, w ∈ wsX3_verdict := by decide +kernel
theorem in_X3_verdict_X2 : ∀ w ∈ wsX20, w ∈ wsX3_verdict := by decide +kernel
theorem in_X3_verdict_X3 : ∀ w ∈ wsX30, w ∈ wsX3_verdict := by decide +kernel
theorem fl_X3_verdict_11 : Cond.fieldLink RX3 11 "BulkSamples" "mailings" "[LBulkSamples$Mailing;" ∈ wsX3_verdict := by decide +kernel
theorem fl_X3_verdict_25 : Cond.fieldLink RX3 25 "BulkSamples" "odds" "LBulkSamples$Odds;" ∈ wsX3_verdict := by decide +kernel
theorem fl_X3_verdict_29 : Cond.fieldLink RX3 29 "BulkSamples" "trust" "I" ∈ wsX3_verdict := by decide +kernel
theorem fl_X3_verdict_50 : Cond.fieldLink RX3 50 "BulkSamples$Mailing" "items" "I" ∈ wsX3_verdict := by decide +kernel
theorem fl_X3_verdict_66 : Cond.fieldLink RX3 66 "BulkSamples$Mailing" "drawn" "I" ∈ wsX3_verdict := by decide +kernel
theorem fl_X3_verdict_69 : Cond.fieldLink RX3 69 "BulkSamples$Mailing" "found" "[I" ∈ wsX3_verdict := by decide +kernel
set_option maxHeartbeats 4000000 in
set_option maxRecDepth 100000 in
/-- no such mailing -/
theorem c_v_un (l : Launch) (D : va_G) (cI cL cM : ClassId) (sz : Nat) (h0 xM xP xG xO cnt te tr : Nat) (mf : Nat → Option Nat) (x : Int32)  (hnone : fnd mf x = none) : Met l yX3_verdict wsX3_verdict ({ frames := 4, cells := 0, slots := 0, locals := 102 } : Room) (va_Pc [.ref h0, .int x] (PreB D (gT cI cL cM) sz [(h0, .inr (3, [.ref xM, .ref xP, .ref xG, .ref xO, .int (nI (cnt)), .int (nI (te)), .int (nI (tr))])), (xM, .inl (cM, 20, .inr (.inr (.inr (.inr (mf))))))])) (va_Qi (fun r _ => r = -11) (fun (_ : Unit) => PostB D (gT cI cL cM) (va_A [(h0, .inr (3, [.ref xM, .ref xP, .ref xG, .ref xO, .int (nI (cnt)), .int (nI (te)), .int (nI (tr))])), (xM, .inl (cM, 20, .inr (.inr (.inr (.inr (mf))))))] sz) [(h0, .inr (3, [.ref xM, .ref xP, .ref xG, .ref xO, .int (nI (cnt)), .int (nI (te)), .int (nI (tr))])), (xM, .inl (cM, 20, .inr (.inr (.inr (.inr (mf))))))]) (va_A [(h0, .inr (3, [.ref xM, .ref xP, .ref xG, .ref xO, .int (nI (cnt)), .int (nI (te)), .int (nI (tr))])), (xM, .inl (cM, 20, .inr (.inr (.inr (.inr (mf))))))] sz)) 0 0 (va_A [(h0, .inr (3, [.ref xM, .ref xP, .ref xG, .ref xO, .int (nI (cnt)), .int (nI (te)), .int (nI (tr))])), (xM, .inl (cM, 20, .inr (.inr (.inr (.inr (mf))))))] sz) := by
  refine k_start (fun A => (va_Qi (fun r _ => r = -11) (fun (_ : Unit) => PostB D (gT cI cL cM) A [(h0, .inr (3, [.ref xM, .ref xP, .ref xG, .ref xO, .int (nI (cnt)), .int (nI (te)), .int (nI (tr))])), (xM, .inl (cM, 20, .inr (.inr (.inr (.inr (mf))))))]) A)) (cc := cX3_verdict) (maxL := 3) (ret := (some .int)) (by decide) rfl (Nat.le_of_ble_eq_true rfl) ?_
  intro p e s m below meth c A ls hx hb hr hts hown hlocks hin hml hP hK hD hA hS hl
  have hl : lv_has ls 3 [(0, .ref h0), (1, .int x)] := hl
  have hown : s.vm.findClass RX3 = some m.cls := hown
  refine lv_aload_n hx hb dX3_verdict_0 rfl (lv_at hl 0 rfl) ?_
  refine lv_iload_n hx hb dX3_verdict_1 rfl (lv_at hl 1 rfl) ?_
  refine k_callq (wc := [(h0, .inr (3, [.ref xM, .ref xP, .ref xG, .ref xO, .int (nI (cnt)), .int (nI (te)), .int (nI (tr))])), (xM, .inl (cM, 20, .inr (.inr (.inr (.inr (mf))))))]) (wr := []) (W1 := fun _ => [(h0, .inr (3, [.ref xM, .ref xP, .ref xG, .ref xO, .int (nI (cnt)), .int (nI (te)), .int (nI (tr))])), (xM, .inl (cM, 20, .inr (.inr (.inr (.inr (mf))))))]) hP hD hS hA [0, 1] [] [0, 1] rfl rfl (by decide) (by decide) (fun _ => rfl) (by decide) (va_runV (As := [.int x]) (rest := []) ⟨hx, hb, hml, hown, hts⟩ (c_find l D cI cL cM s.heap.size h0 xM xP xG xO cnt te tr mf x) (cwV 1 hts gX3_verdict_X3_find rfl rfl rfl (by decide +kernel) ⟨Nat.le_of_ble_eq_true rfl, Nat.le_of_ble_eq_true rfl⟩) (k_preV hP hD hK [0, 1] rfl (by decide) 0 rfl rfl rfl) rfl rfl hl.1 rfl (lv_room (Nat.le_of_ble_eq_true rfl)) dX3_verdict_2 ⟨Nat.le_of_ble_eq_true rfl, Nat.le_of_ble_eq_true rfl⟩) (fun r_1 _ H locs hw hP hD hS => ?_)
  obtain rfl : r_1 = none := hw.trans hnone
  refine W.eq (g2 := F0 m 5 ls [.null]) rfl ?_
  refine lv_astore_nN (lv' := [(2, .null), (0, .ref h0), (1, .int x)]) hx hb dX3_verdict_5 rfl hl (by decide) rfl (fun ls hl => ?_)
  refine lv_aload_nN hx hb dX3_verdict_6 rfl (lv_at hl 0 rfl) ?_
  refine lv_ifnonnullN hx hb dX3_verdict_7 ?_
  refine lv_bipush (v := (-11)) hx hb dX3_verdict_10 (by decide) ?_
  refine W.widen (k := 0) (n := 0) (Nat.le_of_ble_eq_true rfl) (Nat.le_of_ble_eq_true rfl) ?_
  exact k_iret (v := (-11)) hx hb hr hlocks hP hD hK hS [0, 1] () rfl (by decide) rfl dX3_verdict_12
theorem in_X3_surcharge_X0 : ∀ w ∈ wsX00, w ∈ wsX3_surcharge := by decide +kernel
theorem in_X3_surcharge_X1 : ∀ w ∈ wsX10, w ∈ wsX3_surcharge := by decide +kernel
theorem in_X3_surcharge_X2 : ∀ w ∈ wsX20, w ∈ wsX3_surcharge := by decide +kernel
theorem in_X3_surcharge_X3 : ∀ w ∈ wsX30, w ∈ wsX3_surcharge := by decide +kernel
theorem fl_X3_surcharge_11 : Cond.fieldLink RX3 11 "BulkSamples" "mailings" "[LBulkSamples$Mailing;" ∈ wsX3_surcharge := by decide +kernel
theorem fl_X3_surcharge_25 : Cond.fieldLink RX3 25 "BulkSamples" "odds" "LBulkSamples$Odds;" ∈ wsX3_surcharge := by decide +kernel
theorem fl_X3_surcharge_29 : Cond.fieldLink RX3 29 "BulkSamples" "trust" "I" ∈ wsX3_surcharge := by decide +kernel
theorem fl_X3_surcharge_50 : Cond.fieldLink RX3 50 "BulkSamples$Mailing" "items" "I" ∈ wsX3_surcharge := by decide +kernel
theorem fl_X3_surcharge_66 : Cond.fieldLink RX3 66 "BulkSamples$Mailing" "drawn" "I" ∈ wsX3_surcharge := by decide +kernel
theorem fl_X3_surcharge_69 : Cond.fieldLink RX3 69 "BulkSamples$Mailing" "found" "[I" ∈ wsX3_surcharge := by decide +kernel
set_option maxHeartbeats 4000000 in
set_option maxRecDepth 100000 in
/-- no such mailing -/
theorem c_u_un (l : Launch) (D : va_G) (cI cL cM : ClassId) (sz : Nat) (h0 xM xP xG xO cnt te tr : Nat) (mf : Nat → Option Nat) (x : Int32)  (hnone : fnd mf x = none) : Met l yX3_surcharge wsX3_surcharge ({ frames := 4, cells := 0, slots := 0, locals := 102 } : Room) (va_Pc [.ref h0, .int x] (PreB D (gT cI cL cM) sz [(h0, .inr (3, [.ref xM, .ref xP, .ref xG, .ref xO, .int (nI (cnt)), .int (nI (te)), .int (nI (tr))])), (xM, .inl (cM, 20, .inr (.inr (.inr (.inr (mf))))))])) (va_Ql (fun r _ => r = -11) (fun (_ : Unit) => PostB D (gT cI cL cM) (va_A [(h0, .inr (3, [.ref xM, .ref xP, .ref xG, .ref xO, .int (nI (cnt)), .int (nI (te)), .int (nI (tr))])), (xM, .inl (cM, 20, .inr (.inr (.inr (.inr (mf))))))] sz) [(h0, .inr (3, [.ref xM, .ref xP, .ref xG, .ref xO, .int (nI (cnt)), .int (nI (te)), .int (nI (tr))])), (xM, .inl (cM, 20, .inr (.inr (.inr (.inr (mf))))))]) (va_A [(h0, .inr (3, [.ref xM, .ref xP, .ref xG, .ref xO, .int (nI (cnt)), .int (nI (te)), .int (nI (tr))])), (xM, .inl (cM, 20, .inr (.inr (.inr (.inr (mf))))))] sz)) 0 0 (va_A [(h0, .inr (3, [.ref xM, .ref xP, .ref xG, .ref xO, .int (nI (cnt)), .int (nI (te)), .int (nI (tr))])), (xM, .inl (cM, 20, .inr (.inr (.inr (.inr (mf))))))] sz) := by
  refine k_start (fun A => (va_Ql (fun r _ => r = -11) (fun (_ : Unit) => PostB D (gT cI cL cM) A [(h0, .inr (3, [.ref xM, .ref xP, .ref xG, .ref xO, .int (nI (cnt)), .int (nI (te)), .int (nI (tr))])), (xM, .inl (cM, 20, .inr (.inr (.inr (.inr (mf))))))]) A)) (cc := cX3_surcharge) (maxL := 4) (ret := (some .long)) (by decide) rfl (Nat.le_of_ble_eq_true rfl) ?_
  intro p e s m below meth c A ls hx hb hr hts hown hlocks hin hml hP hK hD hA hS hl
  have hl : lv_has ls 4 [(0, .ref h0), (1, .int x)] := hl
  have hown : s.vm.findClass RX3 = some m.cls := hown
  refine lv_aload_n hx hb dX3_surcharge_0 rfl (lv_at hl 0 rfl) ?_
  refine lv_iload_n hx hb dX3_surcharge_1 rfl (lv_at hl 1 rfl) ?_
  refine k_callq (wc := [(h0, .inr (3, [.ref xM, .ref xP, .ref xG, .ref xO, .int (nI (cnt)), .int (nI (te)), .int (nI (tr))])), (xM, .inl (cM, 20, .inr (.inr (.inr (.inr (mf))))))]) (wr := []) (W1 := fun _ => [(h0, .inr (3, [.ref xM, .ref xP, .ref xG, .ref xO, .int (nI (cnt)), .int (nI (te)), .int (nI (tr))])), (xM, .inl (cM, 20, .inr (.inr (.inr (.inr (mf))))))]) hP hD hS hA [0, 1] [] [0, 1] rfl rfl (by decide) (by decide) (fun _ => rfl) (by decide) (va_runV (As := [.int x]) (rest := []) ⟨hx, hb, hml, hown, hts⟩ (c_find l D cI cL cM s.heap.size h0 xM xP xG xO cnt te tr mf x) (cwV 1 hts gX3_surcharge_X3_find rfl rfl rfl (by decide +kernel) ⟨Nat.le_of_ble_eq_true rfl, Nat.le_of_ble_eq_true rfl⟩) (k_preV hP hD hK [0, 1] rfl (by decide) 0 rfl rfl rfl) rfl rfl hl.1 rfl (lv_room (Nat.le_of_ble_eq_true rfl)) dX3_surcharge_2 ⟨Nat.le_of_ble_eq_true rfl, Nat.le_of_ble_eq_true rfl⟩) (fun r_1 _ H locs hw hP hD hS => ?_)
  obtain rfl : r_1 = none := hw.trans hnone
  refine W.eq (g2 := F0 m 5 ls [.null]) rfl ?_
  refine lv_astore_nN (lv' := [(2, .null), (0, .ref h0), (1, .int x)]) hx hb dX3_surcharge_5 rfl hl (by decide) rfl (fun ls hl => ?_)
  refine lv_aload_nN hx hb dX3_surcharge_6 rfl (lv_at hl 0 rfl) ?_
  refine lv_ifnonnullN hx hb dX3_surcharge_7 ?_
  refine lv_ldc2 hx hb hown (hts (.constantLong RX3 100 (-11)) (by decide +kernel)) dX3_surcharge_10 ?_
  refine W.widen (k := 0) (n := 0) (Nat.le_of_ble_eq_true rfl) (Nat.le_of_ble_eq_true rfl) ?_
  exact k_lret (v := (-11 : Int64)) hx hb hr hlocks hP hD hK hS [0, 1] () rfl (by decide) rfl dX3_surcharge_13
theorem in_X3_shown_X0 : ∀ w ∈ wsX00, w ∈ wsX3_shown := by decide +kernel
theorem in_X3_shown_X3 : ∀ w ∈ wsX30, w ∈ wsX3_shown := by decide +kernel
theorem fl_X3_shown_11 : Cond.fieldLink RX3 11 "BulkSamples" "mailings" "[LBulkSamples$Mailing;" ∈ wsX3_shown := by decide +kernel
theorem fl_X3_shown_66 : Cond.fieldLink RX3 66 "BulkSamples$Mailing" "drawn" "I" ∈ wsX3_shown := by decide +kernel
theorem fl_X3_shown_69 : Cond.fieldLink RX3 69 "BulkSamples$Mailing" "found" "[I" ∈ wsX3_shown := by decide +kernel
set_option maxHeartbeats 4000000 in
set_option maxRecDepth 100000 in
/-- no such mailing -/
theorem c_h_un (l : Launch) (D : va_G) (cI cL cM : ClassId) (sz : Nat) (h0 xM xP xG xO cnt te tr : Nat) (mf : Nat → Option Nat) (x : Int32)  (hnone : fnd mf x = none) : Met l yX3_shown wsX3_shown ({ frames := 4, cells := 0, slots := 0, locals := 102 } : Room) (va_Pc [.ref h0, .int x] (PreB D (gT cI cL cM) sz [(h0, .inr (3, [.ref xM, .ref xP, .ref xG, .ref xO, .int (nI (cnt)), .int (nI (te)), .int (nI (tr))])), (xM, .inl (cM, 20, .inr (.inr (.inr (.inr (mf))))))])) (va_Qd (fun r _ => r = 13830554455654793216) (fun (_ : Unit) => PostB D (gT cI cL cM) (va_A [(h0, .inr (3, [.ref xM, .ref xP, .ref xG, .ref xO, .int (nI (cnt)), .int (nI (te)), .int (nI (tr))])), (xM, .inl (cM, 20, .inr (.inr (.inr (.inr (mf))))))] sz) [(h0, .inr (3, [.ref xM, .ref xP, .ref xG, .ref xO, .int (nI (cnt)), .int (nI (te)), .int (nI (tr))])), (xM, .inl (cM, 20, .inr (.inr (.inr (.inr (mf))))))]) (va_A [(h0, .inr (3, [.ref xM, .ref xP, .ref xG, .ref xO, .int (nI (cnt)), .int (nI (te)), .int (nI (tr))])), (xM, .inl (cM, 20, .inr (.inr (.inr (.inr (mf))))))] sz)) 0 0 (va_A [(h0, .inr (3, [.ref xM, .ref xP, .ref xG, .ref xO, .int (nI (cnt)), .int (nI (te)), .int (nI (tr))])), (xM, .inl (cM, 20, .inr (.inr (.inr (.inr (mf))))))] sz) := by
  refine k_start (fun A => (va_Qd (fun r _ => r = 13830554455654793216) (fun (_ : Unit) => PostB D (gT cI cL cM) A [(h0, .inr (3, [.ref xM, .ref xP, .ref xG, .ref xO, .int (nI (cnt)), .int (nI (te)), .int (nI (tr))])), (xM, .inl (cM, 20, .inr (.inr (.inr (.inr (mf))))))]) A)) (cc := cX3_shown) (maxL := 3) (ret := (some .double)) (by decide) rfl (Nat.le_of_ble_eq_true rfl) ?_
  intro p e s m below meth c A ls hx hb hr hts hown hlocks hin hml hP hK hD hA hS hl
  have hl : lv_has ls 3 [(0, .ref h0), (1, .int x)] := hl
  have hown : s.vm.findClass RX3 = some m.cls := hown
  refine lv_aload_n hx hb dX3_shown_0 rfl (lv_at hl 0 rfl) ?_
  refine lv_iload_n hx hb dX3_shown_1 rfl (lv_at hl 1 rfl) ?_
  refine k_callq (wc := [(h0, .inr (3, [.ref xM, .ref xP, .ref xG, .ref xO, .int (nI (cnt)), .int (nI (te)), .int (nI (tr))])), (xM, .inl (cM, 20, .inr (.inr (.inr (.inr (mf))))))]) (wr := []) (W1 := fun _ => [(h0, .inr (3, [.ref xM, .ref xP, .ref xG, .ref xO, .int (nI (cnt)), .int (nI (te)), .int (nI (tr))])), (xM, .inl (cM, 20, .inr (.inr (.inr (.inr (mf))))))]) hP hD hS hA [0, 1] [] [0, 1] rfl rfl (by decide) (by decide) (fun _ => rfl) (by decide) (va_runV (As := [.int x]) (rest := []) ⟨hx, hb, hml, hown, hts⟩ (c_find l D cI cL cM s.heap.size h0 xM xP xG xO cnt te tr mf x) (cwV 1 hts gX3_shown_X3_find rfl rfl rfl (by decide +kernel) ⟨Nat.le_of_ble_eq_true rfl, Nat.le_of_ble_eq_true rfl⟩) (k_preV hP hD hK [0, 1] rfl (by decide) 0 rfl rfl rfl) rfl rfl hl.1 rfl (lv_room (Nat.le_of_ble_eq_true rfl)) dX3_shown_2 ⟨Nat.le_of_ble_eq_true rfl, Nat.le_of_ble_eq_true rfl⟩) (fun r_1 _ H locs hw hP hD hS => ?_)
  obtain rfl : r_1 = none := hw.trans hnone
  refine W.eq (g2 := F0 m 5 ls [.null]) rfl ?_
  refine lv_astore_nN (lv' := [(2, .null), (0, .ref h0), (1, .int x)]) hx hb dX3_shown_5 rfl hl (by decide) rfl (fun ls hl => ?_)
  refine lv_aload_nN hx hb dX3_shown_6 rfl (lv_at hl 0 rfl) ?_
  refine lv_ifnonnullN hx hb dX3_shown_7 ?_
  refine lv_ldc2d hx hb hown (hts (.constantDouble RX3 95 (13830554455654793216)) (by decide +kernel)) dX3_shown_10 ?_
  refine W.widen (k := 0) (n := 0) (Nat.le_of_ble_eq_true rfl) (Nat.le_of_ble_eq_true rfl) ?_
  exact k_dret (v := 13830554455654793216) hx hb hr hlocks hP hD hK hS [0, 1] () rfl (by decide) rfl dX3_shown_13
set_option maxHeartbeats 4000000 in
set_option maxRecDepth 100000 in
/-- not sampled -/
theorem c_v_no (l : Launch) (D : va_G) (cI cL cM : ClassId) (sz : Nat) (h0 xM xP xG xO cnt te tr : Nat) (mf : Nat → Option Nat) (x : Int32) (am ad af it : Nat) (hsome : fnd mf x = some am) : Met l yX3_verdict wsX3_verdict ({ frames := 4, cells := 0, slots := 0, locals := 102 } : Room) (va_Pc [.ref h0, .int x] (PreB D (gT cI cL cM) sz [(h0, .inr (3, [.ref xM, .ref xP, .ref xG, .ref xO, .int (nI (cnt)), .int (nI (te)), .int (nI (tr))])), (xM, .inl (cM, 20, .inr (.inr (.inr (.inr (mf)))))), (am, .inr (0, [.int (nI (it)), .ref ad, .ref af, .int (nI (0))]))])) (va_Qi (fun r _ => r = -13) (fun (_ : Unit) => PostB D (gT cI cL cM) (va_A [(h0, .inr (3, [.ref xM, .ref xP, .ref xG, .ref xO, .int (nI (cnt)), .int (nI (te)), .int (nI (tr))])), (xM, .inl (cM, 20, .inr (.inr (.inr (.inr (mf)))))), (am, .inr (0, [.int (nI (it)), .ref ad, .ref af, .int (nI (0))]))] sz) [(h0, .inr (3, [.ref xM, .ref xP, .ref xG, .ref xO, .int (nI (cnt)), .int (nI (te)), .int (nI (tr))])), (xM, .inl (cM, 20, .inr (.inr (.inr (.inr (mf)))))), (am, .inr (0, [.int (nI (it)), .ref ad, .ref af, .int (nI (0))]))]) (va_A [(h0, .inr (3, [.ref xM, .ref xP, .ref xG, .ref xO, .int (nI (cnt)), .int (nI (te)), .int (nI (tr))])), (xM, .inl (cM, 20, .inr (.inr (.inr (.inr (mf)))))), (am, .inr (0, [.int (nI (it)), .ref ad, .ref af, .int (nI (0))]))] sz)) 0 0 (va_A [(h0, .inr (3, [.ref xM, .ref xP, .ref xG, .ref xO, .int (nI (cnt)), .int (nI (te)), .int (nI (tr))])), (xM, .inl (cM, 20, .inr (.inr (.inr (.inr (mf)))))), (am, .inr (0, [.int (nI (it)), .ref ad, .ref af, .int (nI (0))]))] sz) := by
  refine k_start (fun A => (va_Qi (fun r _ => r = -13) (fun (_ : Unit) => PostB D (gT cI cL cM) A [(h0, .inr (3, [.ref xM, .ref xP, .ref xG, .ref xO, .int (nI (cnt)), .int (nI (te)), .int (nI (tr))])), (xM, .inl (cM, 20, .inr (.inr (.inr (.inr (mf)))))), (am, .inr (0, [.int (nI (it)), .ref ad, .ref af, .int (nI (0))]))]) A)) (cc := cX3_verdict) (maxL := 3) (ret := (some .int)) (by decide) rfl (Nat.le_of_ble_eq_true rfl) ?_
  intro p e s m below meth c A ls hx hb hr hts hown hlocks hin hml hP hK hD hA hS hl
  have hl : lv_has ls 3 [(0, .ref h0), (1, .int x)] := hl
  have hown : s.vm.findClass RX3 = some m.cls := hown
  refine lv_aload_n hx hb dX3_verdict_0 rfl (lv_at hl 0 rfl) ?_
  refine lv_iload_n hx hb dX3_verdict_1 rfl (lv_at hl 1 rfl) ?_
  refine k_callq (wc := [(h0, .inr (3, [.ref xM, .ref xP, .ref xG, .ref xO, .int (nI (cnt)), .int (nI (te)), .int (nI (tr))])), (xM, .inl (cM, 20, .inr (.inr (.inr (.inr (mf))))))]) (wr := [(am, .inr (0, [.int (nI (it)), .ref ad, .ref af, .int (nI (0))]))]) (W1 := fun _ => [(h0, .inr (3, [.ref xM, .ref xP, .ref xG, .ref xO, .int (nI (cnt)), .int (nI (te)), .int (nI (tr))])), (xM, .inl (cM, 20, .inr (.inr (.inr (.inr (mf)))))), (am, .inr (0, [.int (nI (it)), .ref ad, .ref af, .int (nI (0))]))]) hP hD hS hA [0, 1] [2] [1, 2, 0] rfl rfl (by decide) (by decide) (fun _ => rfl) (by decide) (va_runV (As := [.int x]) (rest := []) ⟨hx, hb, hml, hown, hts⟩ (c_find l D cI cL cM s.heap.size h0 xM xP xG xO cnt te tr mf x) (cwV 1 hts gX3_verdict_X3_find rfl rfl rfl (by decide +kernel) ⟨Nat.le_of_ble_eq_true rfl, Nat.le_of_ble_eq_true rfl⟩) (k_preV hP hD hK [0, 1] rfl (by decide) 0 rfl rfl rfl) rfl rfl hl.1 rfl (lv_room (Nat.le_of_ble_eq_true rfl)) dX3_verdict_2 ⟨Nat.le_of_ble_eq_true rfl, Nat.le_of_ble_eq_true rfl⟩) (fun r_1 _ H locs hw hP hD hS => ?_)
  obtain rfl : r_1 = some am := hw.trans hsome
  refine W.eq (g2 := F0 m 5 ls [.ref am]) rfl ?_
  refine lv_astore_n (lv' := [(2, .ref am), (0, .ref h0), (1, .int x)]) hx hb dX3_verdict_5 rfl hl (by decide) rfl (fun ls hl => ?_)
  refine lv_aload_n hx hb dX3_verdict_6 rfl (lv_at hl 0 rfl) ?_
  refine lv_ifnonnull (tgt := 13) hx hb dX3_verdict_7 (by decide) ?_
  refine lv_aload_n hx hb dX3_verdict_13 rfl (lv_at hl 0 rfl) ?_
  refine k_calli (wc := [(am, .inr (0, [.int (nI (it)), .ref ad, .ref af, .int (nI (0))]))]) (wr := [(h0, .inr (3, [.ref xM, .ref xP, .ref xG, .ref xO, .int (nI (cnt)), .int (nI (te)), .int (nI (tr))])), (xM, .inl (cM, 20, .inr (.inr (.inr (.inr (mf))))))]) (W1 := fun _ => [(h0, .inr (3, [.ref xM, .ref xP, .ref xG, .ref xO, .int (nI (cnt)), .int (nI (te)), .int (nI (tr))])), (xM, .inl (cM, 20, .inr (.inr (.inr (.inr (mf)))))), (am, .inr (0, [.int (nI (it)), .ref ad, .ref af, .int (nI (0))]))]) hP hD hS hA [2] [0, 1] [0, 1, 2] rfl rfl (by decide) (by decide) (fun _ => rfl) (by decide) (va_runV (As := []) (rest := []) ⟨hx, hb, hml, hown, hts⟩ (c_samp l D cI cL cM H.size am ad af it 0 (by omega)) (cwV 0 hts gX3_verdict_X0_isSampled rfl rfl rfl (by decide +kernel) ⟨Nat.le_of_ble_eq_true rfl, Nat.le_of_ble_eq_true rfl⟩) (k_preV hP hD hK [2] rfl (by decide) 0 rfl rfl rfl) rfl rfl hl.1 rfl (lv_room (Nat.le_of_ble_eq_true rfl)) dX3_verdict_14 ⟨Nat.le_of_ble_eq_true rfl, Nat.le_of_ble_eq_true rfl⟩) (fun r_3 _ H locs hw hP hD hS => ?_)
  obtain rfl : r_3 = nI (b2 (0 < 0)) := hw
  refine n_if_ne (tgt := 23) hx hb (Nat.lt_of_le_of_lt (b2_le _) (by omega)) dX3_verdict_17 (by decide) (fun c => absurd (b2_pos c) (by omega)) (fun c_4 => ?_)
  refine lv_bipush (v := (-13)) hx hb dX3_verdict_20 (by decide) ?_
  refine W.widen (k := 0) (n := 0) (Nat.le_of_ble_eq_true rfl) (Nat.le_of_ble_eq_true rfl) ?_
  exact k_iret (v := (-13)) hx hb hr hlocks hP hD hK hS [0, 1, 2] () rfl (by decide) rfl dX3_verdict_22
set_option maxHeartbeats 4000000 in
set_option maxRecDepth 100000 in
/-- not sampled -/
theorem c_u_no (l : Launch) (D : va_G) (cI cL cM : ClassId) (sz : Nat) (h0 xM xP xG xO cnt te tr : Nat) (mf : Nat → Option Nat) (x : Int32) (am ad af it : Nat) (hsome : fnd mf x = some am) : Met l yX3_surcharge wsX3_surcharge ({ frames := 4, cells := 0, slots := 0, locals := 102 } : Room) (va_Pc [.ref h0, .int x] (PreB D (gT cI cL cM) sz [(h0, .inr (3, [.ref xM, .ref xP, .ref xG, .ref xO, .int (nI (cnt)), .int (nI (te)), .int (nI (tr))])), (xM, .inl (cM, 20, .inr (.inr (.inr (.inr (mf)))))), (am, .inr (0, [.int (nI (it)), .ref ad, .ref af, .int (nI (0))]))])) (va_Ql (fun r _ => r = -13) (fun (_ : Unit) => PostB D (gT cI cL cM) (va_A [(h0, .inr (3, [.ref xM, .ref xP, .ref xG, .ref xO, .int (nI (cnt)), .int (nI (te)), .int (nI (tr))])), (xM, .inl (cM, 20, .inr (.inr (.inr (.inr (mf)))))), (am, .inr (0, [.int (nI (it)), .ref ad, .ref af, .int (nI (0))]))] sz) [(h0, .inr (3, [.ref xM, .ref xP, .ref xG, .ref xO, .int (nI (cnt)), .int (nI (te)), .int (nI (tr))])), (xM, .inl (cM, 20, .inr (.inr (.inr (.inr (mf)))))), (am, .inr (0, [.int (nI (it)), .ref ad, .ref af, .int (nI (0))]))]) (va_A [(h0, .inr (3, [.ref xM, .ref xP, .ref xG, .ref xO, .int (nI (cnt)), .int (nI (te)), .int (nI (tr))])), (xM, .inl (cM, 20, .inr (.inr (.inr (.inr (mf)))))), (am, .inr (0, [.int (nI (it)), .ref ad, .ref af, .int (nI (0))]))] sz)) 0 0 (va_A [(h0, .inr (3, [.ref xM, .ref xP, .ref xG, .ref xO, .int (nI (cnt)), .int (nI (te)), .int (nI (tr))])), (xM, .inl (cM, 20, .inr (.inr (.inr (.inr (mf)))))), (am, .inr (0, [.int (nI (it)), .ref ad, .ref af, .int (nI (0))]))] sz) := by
  refine k_start (fun A => (va_Ql (fun r _ => r = -13) (fun (_ : Unit) => PostB D (gT cI cL cM) A [(h0, .inr (3, [.ref xM, .ref xP, .ref xG, .ref xO, .int (nI (cnt)), .int (nI (te)), .int (nI (tr))])), (xM, .inl (cM, 20, .inr (.inr (.inr (.inr (mf)))))), (am, .inr (0, [.int (nI (it)), .ref ad, .ref af, .int (nI (0))]))]) A)) (cc := cX3_surcharge) (maxL := 4) (ret := (some .long)) (by decide) rfl (Nat.le_of_ble_eq_true rfl) ?_
  intro p e s m below meth c A ls hx hb hr hts hown hlocks hin hml hP hK hD hA hS hl
  have hl : lv_has ls 4 [(0, .ref h0), (1, .int x)] := hl
  have hown : s.vm.findClass RX3 = some m.cls := hown
  refine lv_aload_n hx hb dX3_surcharge_0 rfl (lv_at hl 0 rfl) ?_
  refine lv_iload_n hx hb dX3_surcharge_1 rfl (lv_at hl 1 rfl) ?_
  refine k_callq (wc := [(h0, .inr (3, [.ref xM, .ref xP, .ref xG, .ref xO, .int (nI (cnt)), .int (nI (te)), .int (nI (tr))])), (xM, .inl (cM, 20, .inr (.inr (.inr (.inr (mf))))))]) (wr := [(am, .inr (0, [.int (nI (it)), .ref ad, .ref af, .int (nI (0))]))]) (W1 := fun _ => [(h0, .inr (3, [.ref xM, .ref xP, .ref xG, .ref xO, .int (nI (cnt)), .int (nI (te)), .int (nI (tr))])), (xM, .inl (cM, 20, .inr (.inr (.inr (.inr (mf)))))), (am, .inr (0, [.int (nI (it)), .ref ad, .ref af, .int (nI (0))]))]) hP hD hS hA [0, 1] [2] [1, 2, 0] rfl rfl (by decide) (by decide) (fun _ => rfl) (by decide) (va_runV (As := [.int x]) (rest := []) ⟨hx, hb, hml, hown, hts⟩ (c_find l D cI cL cM s.heap.size h0 xM xP xG xO cnt te tr mf x) (cwV 1 hts gX3_surcharge_X3_find rfl rfl rfl (by decide +kernel) ⟨Nat.le_of_ble_eq_true rfl, Nat.le_of_ble_eq_true rfl⟩) (k_preV hP hD hK [0, 1] rfl (by decide) 0 rfl rfl rfl) rfl rfl hl.1 rfl (lv_room (Nat.le_of_ble_eq_true rfl)) dX3_surcharge_2 ⟨Nat.le_of_ble_eq_true rfl, Nat.le_of_ble_eq_true rfl⟩) (fun r_1 _ H locs hw hP hD hS => ?_)
  obtain rfl : r_1 = some am := hw.trans hsome
  refine W.eq (g2 := F0 m 5 ls [.ref am]) rfl ?_
  refine lv_astore_n (lv' := [(2, .ref am), (0, .ref h0), (1, .int x)]) hx hb dX3_surcharge_5 rfl hl (by decide) rfl (fun ls hl => ?_)
  refine lv_aload_n hx hb dX3_surcharge_6 rfl (lv_at hl 0 rfl) ?_
  refine lv_ifnonnull (tgt := 14) hx hb dX3_surcharge_7 (by decide) ?_
  refine lv_aload_n hx hb dX3_surcharge_14 rfl (lv_at hl 0 rfl) ?_
  refine k_calli (wc := [(am, .inr (0, [.int (nI (it)), .ref ad, .ref af, .int (nI (0))]))]) (wr := [(h0, .inr (3, [.ref xM, .ref xP, .ref xG, .ref xO, .int (nI (cnt)), .int (nI (te)), .int (nI (tr))])), (xM, .inl (cM, 20, .inr (.inr (.inr (.inr (mf))))))]) (W1 := fun _ => [(h0, .inr (3, [.ref xM, .ref xP, .ref xG, .ref xO, .int (nI (cnt)), .int (nI (te)), .int (nI (tr))])), (xM, .inl (cM, 20, .inr (.inr (.inr (.inr (mf)))))), (am, .inr (0, [.int (nI (it)), .ref ad, .ref af, .int (nI (0))]))]) hP hD hS hA [2] [0, 1] [0, 1, 2] rfl rfl (by decide) (by decide) (fun _ => rfl) (by decide) (va_runV (As := []) (rest := []) ⟨hx, hb, hml, hown, hts⟩ (c_samp l D cI cL cM H.size am ad af it 0 (by omega)) (cwV 0 hts gX3_surcharge_X0_isSampled rfl rfl rfl (by decide +kernel) ⟨Nat.le_of_ble_eq_true rfl, Nat.le_of_ble_eq_true rfl⟩) (k_preV hP hD hK [2] rfl (by decide) 0 rfl rfl rfl) rfl rfl hl.1 rfl (lv_room (Nat.le_of_ble_eq_true rfl)) dX3_surcharge_15 ⟨Nat.le_of_ble_eq_true rfl, Nat.le_of_ble_eq_true rfl⟩) (fun r_3 _ H locs hw hP hD hS => ?_)
  obtain rfl : r_3 = nI (b2 (0 < 0)) := hw
  refine n_if_ne (tgt := 25) hx hb (Nat.lt_of_le_of_lt (b2_le _) (by omega)) dX3_surcharge_18 (by decide) (fun c => absurd (b2_pos c) (by omega)) (fun c_4 => ?_)
  refine lv_ldc2 hx hb hown (hts (.constantLong RX3 102 (-13)) (by decide +kernel)) dX3_surcharge_21 ?_
  refine W.widen (k := 0) (n := 0) (Nat.le_of_ble_eq_true rfl) (Nat.le_of_ble_eq_true rfl) ?_
  exact k_lret (v := (-13 : Int64)) hx hb hr hlocks hP hD hK hS [0, 1, 2] () rfl (by decide) rfl dX3_surcharge_24
set_option maxHeartbeats 4000000 in
set_option maxRecDepth 100000 in
/-- not sampled -/
theorem c_h_no (l : Launch) (D : va_G) (cI cL cM : ClassId) (sz : Nat) (h0 xM xP xG xO cnt te tr : Nat) (mf : Nat → Option Nat) (x : Int32) (am ad af it : Nat) (hsome : fnd mf x = some am) : Met l yX3_shown wsX3_shown ({ frames := 4, cells := 0, slots := 0, locals := 102 } : Room) (va_Pc [.ref h0, .int x] (PreB D (gT cI cL cM) sz [(h0, .inr (3, [.ref xM, .ref xP, .ref xG, .ref xO, .int (nI (cnt)), .int (nI (te)), .int (nI (tr))])), (xM, .inl (cM, 20, .inr (.inr (.inr (.inr (mf)))))), (am, .inr (0, [.int (nI (it)), .ref ad, .ref af, .int (nI (0))]))])) (va_Qd (fun r _ => r = 0) (fun (_ : Unit) => PostB D (gT cI cL cM) (va_A [(h0, .inr (3, [.ref xM, .ref xP, .ref xG, .ref xO, .int (nI (cnt)), .int (nI (te)), .int (nI (tr))])), (xM, .inl (cM, 20, .inr (.inr (.inr (.inr (mf)))))), (am, .inr (0, [.int (nI (it)), .ref ad, .ref af, .int (nI (0))]))] sz) [(h0, .inr (3, [.ref xM, .ref xP, .ref xG, .ref xO, .int (nI (cnt)), .int (nI (te)), .int (nI (tr))])), (xM, .inl (cM, 20, .inr (.inr (.inr (.inr (mf)))))), (am, .inr (0, [.int (nI (it)), .ref ad, .ref af, .int (nI (0))]))]) (va_A [(h0, .inr (3, [.ref xM, .ref xP, .ref xG, .ref xO, .int (nI (cnt)), .int (nI (te)), .int (nI (tr))])), (xM, .inl (cM, 20, .inr (.inr (.inr (.inr (mf)))))), (am, .inr (0, [.int (nI (it)), .ref ad, .ref af, .int (nI (0))]))] sz)) 0 0 (va_A [(h0, .inr (3, [.ref xM, .ref xP, .ref xG, .ref xO, .int (nI (cnt)), .int (nI (te)), .int (nI (tr))])), (xM, .inl (cM, 20, .inr (.inr (.inr (.inr (mf)))))), (am, .inr (0, [.int (nI (it)), .ref ad, .ref af, .int (nI (0))]))] sz) := by
  refine k_start (fun A => (va_Qd (fun r _ => r = 0) (fun (_ : Unit) => PostB D (gT cI cL cM) A [(h0, .inr (3, [.ref xM, .ref xP, .ref xG, .ref xO, .int (nI (cnt)), .int (nI (te)), .int (nI (tr))])), (xM, .inl (cM, 20, .inr (.inr (.inr (.inr (mf)))))), (am, .inr (0, [.int (nI (it)), .ref ad, .ref af, .int (nI (0))]))]) A)) (cc := cX3_shown) (maxL := 3) (ret := (some .double)) (by decide) rfl (Nat.le_of_ble_eq_true rfl) ?_
  intro p e s m below meth c A ls hx hb hr hts hown hlocks hin hml hP hK hD hA hS hl
  have hl : lv_has ls 3 [(0, .ref h0), (1, .int x)] := hl
  have hown : s.vm.findClass RX3 = some m.cls := hown
  refine lv_aload_n hx hb dX3_shown_0 rfl (lv_at hl 0 rfl) ?_
  refine lv_iload_n hx hb dX3_shown_1 rfl (lv_at hl 1 rfl) ?_
  refine k_callq (wc := [(h0, .inr (3, [.ref xM, .ref xP, .ref xG, .ref xO, .int (nI (cnt)), .int (nI (te)), .int (nI (tr))])), (xM, .inl (cM, 20, .inr (.inr (.inr (.inr (mf))))))]) (wr := [(am, .inr (0, [.int (nI (it)), .ref ad, .ref af, .int (nI (0))]))]) (W1 := fun _ => [(h0, .inr (3, [.ref xM, .ref xP, .ref xG, .ref xO, .int (nI (cnt)), .int (nI (te)), .int (nI (tr))])), (xM, .inl (cM, 20, .inr (.inr (.inr (.inr (mf)))))), (am, .inr (0, [.int (nI (it)), .ref ad, .ref af, .int (nI (0))]))]) hP hD hS hA [0, 1] [2] [1, 2, 0] rfl rfl (by decide) (by decide) (fun _ => rfl) (by decide) (va_runV (As := [.int x]) (rest := []) ⟨hx, hb, hml, hown, hts⟩ (c_find l D cI cL cM s.heap.size h0 xM xP xG xO cnt te tr mf x) (cwV 1 hts gX3_shown_X3_find rfl rfl rfl (by decide +kernel) ⟨Nat.le_of_ble_eq_true rfl, Nat.le_of_ble_eq_true rfl⟩) (k_preV hP hD hK [0, 1] rfl (by decide) 0 rfl rfl rfl) rfl rfl hl.1 rfl (lv_room (Nat.le_of_ble_eq_true rfl)) dX3_shown_2 ⟨Nat.le_of_ble_eq_true rfl, Nat.le_of_ble_eq_true rfl⟩) (fun r_1 _ H locs hw hP hD hS => ?_)
  obtain rfl : r_1 = some am := hw.trans hsome
  refine W.eq (g2 := F0 m 5 ls [.ref am]) rfl ?_
  refine lv_astore_n (lv' := [(2, .ref am), (0, .ref h0), (1, .int x)]) hx hb dX3_shown_5 rfl hl (by decide) rfl (fun ls hl => ?_)
  refine lv_aload_n hx hb dX3_shown_6 rfl (lv_at hl 0 rfl) ?_
  refine lv_ifnonnull (tgt := 14) hx hb dX3_shown_7 (by decide) ?_
  refine lv_aload_n hx hb dX3_shown_14 rfl (lv_at hl 0 rfl) ?_
  refine k_calli (wc := [(am, .inr (0, [.int (nI (it)), .ref ad, .ref af, .int (nI (0))]))]) (wr := [(h0, .inr (3, [.ref xM, .ref xP, .ref xG, .ref xO, .int (nI (cnt)), .int (nI (te)), .int (nI (tr))])), (xM, .inl (cM, 20, .inr (.inr (.inr (.inr (mf))))))]) (W1 := fun _ => [(h0, .inr (3, [.ref xM, .ref xP, .ref xG, .ref xO, .int (nI (cnt)), .int (nI (te)), .int (nI (tr))])), (xM, .inl (cM, 20, .inr (.inr (.inr (.inr (mf)))))), (am, .inr (0, [.int (nI (it)), .ref ad, .ref af, .int (nI (0))]))]) hP hD hS hA [2] [0, 1] [0, 1, 2] rfl rfl (by decide) (by decide) (fun _ => rfl) (by decide) (va_runV (As := []) (rest := []) ⟨hx, hb, hml, hown, hts⟩ (c_samp l D cI cL cM H.size am ad af it 0 (by omega)) (cwV 0 hts gX3_shown_X0_isSampled rfl rfl rfl (by decide +kernel) ⟨Nat.le_of_ble_eq_true rfl, Nat.le_of_ble_eq_true rfl⟩) (k_preV hP hD hK [2] rfl (by decide) 0 rfl rfl rfl) rfl rfl hl.1 rfl (lv_room (Nat.le_of_ble_eq_true rfl)) dX3_shown_15 ⟨Nat.le_of_ble_eq_true rfl, Nat.le_of_ble_eq_true rfl⟩) (fun r_3 _ H locs hw hP hD hS => ?_)
  obtain rfl : r_3 = nI (b2 (0 < 0)) := hw
  refine n_if_ne (tgt := 23) hx hb (Nat.lt_of_le_of_lt (b2_le _) (by omega)) dX3_shown_18 (by decide) (fun c => absurd (b2_pos c) (by omega)) (fun c_4 => ?_)
  refine lv_dconst0 hx hb dX3_shown_21 ?_
  refine W.widen (k := 0) (n := 0) (Nat.le_of_ble_eq_true rfl) (Nat.le_of_ble_eq_true rfl) ?_
  exact k_dret (v := 0) hx hb hr hlocks hP hD hK hS [0, 1, 2] () rfl (by decide) rfl dX3_shown_22
set_option maxHeartbeats 4000000 in
set_option maxRecDepth 100000 in
/-- verdict -/
theorem c_v_ok (l : Launch) (D : va_G) (cI cL cM : ClassId) (sz : Nat) (h0 xM xP xG xO cnt te tr : Nat) (mf : Nat → Option Nat) (x : Int32) (am ad af it dr : Nat) (hsome : fnd mf x = some am) (fd : Nat → Nat) (o0 o1 o2 q0 q1 q2 : Nat) (a0 A0 W0 : Nat) (h1it : 1 ≤ it) (hit : it ≤ 200) (h1dr : 1 ≤ dr) (hdr : dr ≤ it) (hfd : psum fd 3 ≤ dr) (htr1 : 500 ≤ tr) (htr2 : tr ≤ 999) : Met l yX3_verdict wsX3_verdict ({ frames := 4, cells := 0, slots := 0, locals := 102 } : Room) (va_Pc [.ref h0, .int x] (PreB D (gT cI cL cM) sz [(h0, .inr (3, [.ref xM, .ref xP, .ref xG, .ref xO, .int (nI (cnt)), .int (nI (te)), .int (nI (tr))])), (xM, .inl (cM, 20, .inr (.inr (.inr (.inr (mf)))))), (am, .inr (0, [.int (nI (it)), .ref ad, .ref af, .int (nI (dr))])), (af, .inl (cI, 3, .inl (fun j => nI (fd j)))), (xO, .inr (1, [.ref o0, .ref o1, .ref o2])), (o0, .inr (2, [.ref q0])), (q0, .inl (cL, 8, .inr (.inl (fun j => lN (dg 1000000000 a0 (j)))))), (o1, .inr (2, [.ref q1])), (q1, .inl (cL, 8, .inr (.inl (fun j => lN (dg 1000000000 A0 (j)))))), (o2, .inr (2, [.ref q2])), (q2, .inl (cL, 8, .inr (.inl (fun j => lN (dg 1000000000 W0 (j))))))])) (va_Qi (fun r _ => r = nI (vd it (psum fd 3) dr tr)) (fun (u : Nat × Nat × Nat) => PostB D (gT cI cL cM) (va_A [(h0, .inr (3, [.ref xM, .ref xP, .ref xG, .ref xO, .int (nI (cnt)), .int (nI (te)), .int (nI (tr))])), (xM, .inl (cM, 20, .inr (.inr (.inr (.inr (mf)))))), (am, .inr (0, [.int (nI (it)), .ref ad, .ref af, .int (nI (dr))])), (af, .inl (cI, 3, .inl (fun j => nI (fd j)))), (xO, .inr (1, [.ref o0, .ref o1, .ref o2])), (o0, .inr (2, [.ref q0])), (q0, .inl (cL, 8, .inr (.inl (fun j => lN (dg 1000000000 a0 (j)))))), (o1, .inr (2, [.ref q1])), (q1, .inl (cL, 8, .inr (.inl (fun j => lN (dg 1000000000 A0 (j)))))), (o2, .inr (2, [.ref q2])), (q2, .inl (cL, 8, .inr (.inl (fun j => lN (dg 1000000000 W0 (j))))))] sz) [(h0, .inr (3, [.ref xM, .ref xP, .ref xG, .ref xO, .int (nI (cnt)), .int (nI (te)), .int (nI (tr))])), (xM, .inl (cM, 20, .inr (.inr (.inr (.inr (mf)))))), (am, .inr (0, [.int (nI (it)), .ref ad, .ref af, .int (nI (dr))])), (af, .inl (cI, 3, .inl (fun j => nI (fd j)))), (xO, .inr (1, [.ref o0, .ref o1, .ref o2])), (o0, .inr (2, [.ref q0])), (q0, .inl (cL, 8, .inr (.inl (fun j => lN (dg 1000000000 u.1 (j)))))), (o1, .inr (2, [.ref q1])), (q1, .inl (cL, 8, .inr (.inl (fun j => lN (dg 1000000000 u.2.1 (j)))))), (o2, .inr (2, [.ref q2])), (q2, .inl (cL, 8, .inr (.inl (fun j => lN (dg 1000000000 u.2.2 (j))))))]) (va_A [(h0, .inr (3, [.ref xM, .ref xP, .ref xG, .ref xO, .int (nI (cnt)), .int (nI (te)), .int (nI (tr))])), (xM, .inl (cM, 20, .inr (.inr (.inr (.inr (mf)))))), (am, .inr (0, [.int (nI (it)), .ref ad, .ref af, .int (nI (dr))])), (af, .inl (cI, 3, .inl (fun j => nI (fd j)))), (xO, .inr (1, [.ref o0, .ref o1, .ref o2])), (o0, .inr (2, [.ref q0])), (q0, .inl (cL, 8, .inr (.inl (fun j => lN (dg 1000000000 a0 (j)))))), (o1, .inr (2, [.ref q1])), (q1, .inl (cL, 8, .inr (.inl (fun j => lN (dg 1000000000 A0 (j)))))), (o2, .inr (2, [.ref q2])), (q2, .inl (cL, 8, .inr (.inl (fun j => lN (dg 1000000000 W0 (j))))))] sz)) 0 0 (va_A [(h0, .inr (3, [.ref xM, .ref xP, .ref xG, .ref xO, .int (nI (cnt)), .int (nI (te)), .int (nI (tr))])), (xM, .inl (cM, 20, .inr (.inr (.inr (.inr (mf)))))), (am, .inr (0, [.int (nI (it)), .ref ad, .ref af, .int (nI (dr))])), (af, .inl (cI, 3, .inl (fun j => nI (fd j)))), (xO, .inr (1, [.ref o0, .ref o1, .ref o2])), (o0, .inr (2, [.ref q0])), (q0, .inl (cL, 8, .inr (.inl (fun j => lN (dg 1000000000 a0 (j)))))), (o1, .inr (2, [.ref q1])), (q1, .inl (cL, 8, .inr (.inl (fun j => lN (dg 1000000000 A0 (j)))))), (o2, .inr (2, [.ref q2])), (q2, .inl (cL, 8, .inr (.inl (fun j => lN (dg 1000000000 W0 (j))))))] sz) := by
  refine k_start (fun A => (va_Qi (fun r _ => r = nI (vd it (psum fd 3) dr tr)) (fun (u : Nat × Nat × Nat) => PostB D (gT cI cL cM) A [(h0, .inr (3, [.ref xM, .ref xP, .ref xG, .ref xO, .int (nI (cnt)), .int (nI (te)), .int (nI (tr))])), (xM, .inl (cM, 20, .inr (.inr (.inr (.inr (mf)))))), (am, .inr (0, [.int (nI (it)), .ref ad, .ref af, .int (nI (dr))])), (af, .inl (cI, 3, .inl (fun j => nI (fd j)))), (xO, .inr (1, [.ref o0, .ref o1, .ref o2])), (o0, .inr (2, [.ref q0])), (q0, .inl (cL, 8, .inr (.inl (fun j => lN (dg 1000000000 u.1 (j)))))), (o1, .inr (2, [.ref q1])), (q1, .inl (cL, 8, .inr (.inl (fun j => lN (dg 1000000000 u.2.1 (j)))))), (o2, .inr (2, [.ref q2])), (q2, .inl (cL, 8, .inr (.inl (fun j => lN (dg 1000000000 u.2.2 (j))))))]) A)) (cc := cX3_verdict) (maxL := 3) (ret := (some .int)) (by decide) rfl (Nat.le_of_ble_eq_true rfl) ?_
  intro p e s m below meth c A ls hx hb hr hts hown hlocks hin hml hP hK hD hA hS hl
  have hl : lv_has ls 3 [(0, .ref h0), (1, .int x)] := hl
  have hown : s.vm.findClass RX3 = some m.cls := hown
  refine lv_aload_n hx hb dX3_verdict_0 rfl (lv_at hl 0 rfl) ?_
  refine lv_iload_n hx hb dX3_verdict_1 rfl (lv_at hl 1 rfl) ?_
  refine k_callq (wc := [(h0, .inr (3, [.ref xM, .ref xP, .ref xG, .ref xO, .int (nI (cnt)), .int (nI (te)), .int (nI (tr))])), (xM, .inl (cM, 20, .inr (.inr (.inr (.inr (mf))))))]) (wr := [(am, .inr (0, [.int (nI (it)), .ref ad, .ref af, .int (nI (dr))])), (af, .inl (cI, 3, .inl (fun j => nI (fd j)))), (xO, .inr (1, [.ref o0, .ref o1, .ref o2])), (o0, .inr (2, [.ref q0])), (q0, .inl (cL, 8, .inr (.inl (fun j => lN (dg 1000000000 a0 (j)))))), (o1, .inr (2, [.ref q1])), (q1, .inl (cL, 8, .inr (.inl (fun j => lN (dg 1000000000 A0 (j)))))), (o2, .inr (2, [.ref q2])), (q2, .inl (cL, 8, .inr (.inl (fun j => lN (dg 1000000000 W0 (j))))))]) (W1 := fun _ => [(h0, .inr (3, [.ref xM, .ref xP, .ref xG, .ref xO, .int (nI (cnt)), .int (nI (te)), .int (nI (tr))])), (xM, .inl (cM, 20, .inr (.inr (.inr (.inr (mf)))))), (am, .inr (0, [.int (nI (it)), .ref ad, .ref af, .int (nI (dr))])), (af, .inl (cI, 3, .inl (fun j => nI (fd j)))), (xO, .inr (1, [.ref o0, .ref o1, .ref o2])), (o0, .inr (2, [.ref q0])), (q0, .inl (cL, 8, .inr (.inl (fun j => lN (dg 1000000000 a0 (j)))))), (o1, .inr (2, [.ref q1])), (q1, .inl (cL, 8, .inr (.inl (fun j => lN (dg 1000000000 A0 (j)))))), (o2, .inr (2, [.ref q2])), (q2, .inl (cL, 8, .inr (.inl (fun j => lN (dg 1000000000 W0 (j))))))]) hP hD hS hA [0, 1] [2, 3, 4, 5, 6, 7, 8, 9, 10] [9, 10, 0, 1, 2, 3, 4, 5, 6, 7, 8] rfl rfl (by decide) (by decide) (fun _ => rfl) (by decide) (va_runV (As := [.int x]) (rest := []) ⟨hx, hb, hml, hown, hts⟩ (c_find l D cI cL cM s.heap.size h0 xM xP xG xO cnt te tr mf x) (cwV 1 hts gX3_verdict_X3_find rfl rfl rfl (by decide +kernel) ⟨Nat.le_of_ble_eq_true rfl, Nat.le_of_ble_eq_true rfl⟩) (k_preV hP hD hK [0, 1] rfl (by decide) 0 rfl rfl rfl) rfl rfl hl.1 rfl (lv_room (Nat.le_of_ble_eq_true rfl)) dX3_verdict_2 ⟨Nat.le_of_ble_eq_true rfl, Nat.le_of_ble_eq_true rfl⟩) (fun r_1 _ H locs hw hP hD hS => ?_)
  obtain rfl : r_1 = some am := hw.trans hsome
  refine W.eq (g2 := F0 m 5 ls [.ref am]) rfl ?_
  refine lv_astore_n (lv' := [(2, .ref am), (0, .ref h0), (1, .int x)]) hx hb dX3_verdict_5 rfl hl (by decide) rfl (fun ls hl => ?_)
  refine lv_aload_n hx hb dX3_verdict_6 rfl (lv_at hl 0 rfl) ?_
  refine lv_ifnonnull (tgt := 13) hx hb dX3_verdict_7 (by decide) ?_
  refine lv_aload_n hx hb dX3_verdict_13 rfl (lv_at hl 0 rfl) ?_
  refine k_calli (wc := [(am, .inr (0, [.int (nI (it)), .ref ad, .ref af, .int (nI (dr))]))]) (wr := [(h0, .inr (3, [.ref xM, .ref xP, .ref xG, .ref xO, .int (nI (cnt)), .int (nI (te)), .int (nI (tr))])), (xM, .inl (cM, 20, .inr (.inr (.inr (.inr (mf)))))), (af, .inl (cI, 3, .inl (fun j => nI (fd j)))), (xO, .inr (1, [.ref o0, .ref o1, .ref o2])), (o0, .inr (2, [.ref q0])), (q0, .inl (cL, 8, .inr (.inl (fun j => lN (dg 1000000000 a0 (j)))))), (o1, .inr (2, [.ref q1])), (q1, .inl (cL, 8, .inr (.inl (fun j => lN (dg 1000000000 A0 (j)))))), (o2, .inr (2, [.ref q2])), (q2, .inl (cL, 8, .inr (.inl (fun j => lN (dg 1000000000 W0 (j))))))]) (W1 := fun _ => [(h0, .inr (3, [.ref xM, .ref xP, .ref xG, .ref xO, .int (nI (cnt)), .int (nI (te)), .int (nI (tr))])), (xM, .inl (cM, 20, .inr (.inr (.inr (.inr (mf)))))), (am, .inr (0, [.int (nI (it)), .ref ad, .ref af, .int (nI (dr))])), (af, .inl (cI, 3, .inl (fun j => nI (fd j)))), (xO, .inr (1, [.ref o0, .ref o1, .ref o2])), (o0, .inr (2, [.ref q0])), (q0, .inl (cL, 8, .inr (.inl (fun j => lN (dg 1000000000 a0 (j)))))), (o1, .inr (2, [.ref q1])), (q1, .inl (cL, 8, .inr (.inl (fun j => lN (dg 1000000000 A0 (j)))))), (o2, .inr (2, [.ref q2])), (q2, .inl (cL, 8, .inr (.inl (fun j => lN (dg 1000000000 W0 (j))))))]) hP hD hS hA [2] [0, 1, 3, 4, 5, 6, 7, 8, 9, 10] [0, 1, 10, 2, 3, 4, 5, 6, 7, 8, 9] rfl rfl (by decide) (by decide) (fun _ => rfl) (by decide) (va_runV (As := []) (rest := []) ⟨hx, hb, hml, hown, hts⟩ (c_samp l D cI cL cM H.size am ad af it dr (by omega)) (cwV 0 hts gX3_verdict_X0_isSampled rfl rfl rfl (by decide +kernel) ⟨Nat.le_of_ble_eq_true rfl, Nat.le_of_ble_eq_true rfl⟩) (k_preV hP hD hK [2] rfl (by decide) 0 rfl rfl rfl) rfl rfl hl.1 rfl (lv_room (Nat.le_of_ble_eq_true rfl)) dX3_verdict_14 ⟨Nat.le_of_ble_eq_true rfl, Nat.le_of_ble_eq_true rfl⟩) (fun r_3 _ H locs hw hP hD hS => ?_)
  obtain rfl : r_3 = nI (b2 (0 < dr)) := hw
  refine n_if_ne (tgt := 23) hx hb (Nat.lt_of_le_of_lt (b2_le _) (by omega)) dX3_verdict_17 (by decide) (fun c_4 => ?_) (fun c => absurd (b2_0 c) (by omega))
  refine lv_aload_n hx hb dX3_verdict_23 rfl (lv_at hl 1 rfl) ?_
  refine lv_aload_n hx hb dX3_verdict_24 rfl (lv_at hl 0 rfl) ?_
  refine k_calli (wc := [(h0, .inr (3, [.ref xM, .ref xP, .ref xG, .ref xO, .int (nI (cnt)), .int (nI (te)), .int (nI (tr))])), (am, .inr (0, [.int (nI (it)), .ref ad, .ref af, .int (nI (dr))])), (af, .inl (cI, 3, .inl (fun j => nI (fd j)))), (xO, .inr (1, [.ref o0, .ref o1, .ref o2])), (o0, .inr (2, [.ref q0])), (q0, .inl (cL, 8, .inr (.inl (fun j => lN (dg 1000000000 a0 (j)))))), (o1, .inr (2, [.ref q1])), (q1, .inl (cL, 8, .inr (.inl (fun j => lN (dg 1000000000 A0 (j)))))), (o2, .inr (2, [.ref q2])), (q2, .inl (cL, 8, .inr (.inl (fun j => lN (dg 1000000000 W0 (j))))))]) (wr := [(xM, .inl (cM, 20, .inr (.inr (.inr (.inr (mf))))))]) (W1 := fun u_5 => [(h0, .inr (3, [.ref xM, .ref xP, .ref xG, .ref xO, .int (nI (cnt)), .int (nI (te)), .int (nI (tr))])), (xM, .inl (cM, 20, .inr (.inr (.inr (.inr (mf)))))), (am, .inr (0, [.int (nI (it)), .ref ad, .ref af, .int (nI (dr))])), (af, .inl (cI, 3, .inl (fun j => nI (fd j)))), (xO, .inr (1, [.ref o0, .ref o1, .ref o2])), (o0, .inr (2, [.ref q0])), (q0, .inl (cL, 8, .inr (.inl (fun j => lN (dg 1000000000 u_5.1 (j)))))), (o1, .inr (2, [.ref q1])), (q1, .inl (cL, 8, .inr (.inl (fun j => lN (dg 1000000000 u_5.2.1 (j)))))), (o2, .inr (2, [.ref q2])), (q2, .inl (cL, 8, .inr (.inl (fun j => lN (dg 1000000000 u_5.2.2 (j))))))]) hP hD hS hA [0, 2, 3, 4, 5, 6, 7, 8, 9, 10] [1] [1, 0, 2, 3, 4, 5, 6, 7, 8, 9, 10] rfl rfl (by decide) (by decide) (fun _ => rfl) (by decide) (va_runV (As := [.ref am]) (rest := []) ⟨hx, hb, hml, hown, hts⟩ (c_judge l D cI cL cM H.size h0 xM xP xG xO cnt te tr am ad af it dr fd o0 o1 o2 q0 q1 q2 a0 A0 W0 h1it hit h1dr hdr hfd htr1 htr2) (cwV 1 hts gX3_verdict_X3_judge rfl rfl rfl (by decide +kernel) ⟨Nat.le_of_ble_eq_true rfl, Nat.le_of_ble_eq_true rfl⟩) (k_preV hP hD hK [0, 2, 3, 4, 5, 6, 7, 8, 9, 10] rfl (by decide) 0 rfl rfl rfl) rfl rfl hl.1 rfl (lv_room (Nat.le_of_ble_eq_true rfl)) dX3_verdict_25 ⟨Nat.le_of_ble_eq_true rfl, Nat.le_of_ble_eq_true rfl⟩) (fun r_6 u_5 H locs hw hP hD hS => ?_)
  obtain rfl : r_6 = nI (vd it (psum fd 3) dr tr) := hw
  refine W.widen (k := 0) (n := 0) (Nat.le_of_ble_eq_true rfl) (Nat.le_of_ble_eq_true rfl) ?_
  exact k_iret (v := nI (vd it (psum fd 3) dr tr)) hx hb hr hlocks hP hD hK hS [0, 1, 2, 3, 4, 5, 6, 7, 8, 9, 10] u_5 rfl (by decide) rfl dX3_verdict_28
set_option maxHeartbeats 4000000 in
set_option maxRecDepth 100000 in
/-- surcharge -/
theorem c_u_ok (l : Launch) (D : va_G) (cI cL cM : ClassId) (sz : Nat) (h0 xM xP xG xO cnt te tr : Nat) (mf : Nat → Option Nat) (x : Int32) (am ad af it dr : Nat) (hsome : fnd mf x = some am) (fd : Nat → Nat) (o0 o1 o2 q0 q1 q2 : Nat) (a0 A0 W0 : Nat) (h1it : 1 ≤ it) (hit : it ≤ 200) (h1dr : 1 ≤ dr) (hdr : dr ≤ it) (hfd : psum fd 3 ≤ dr) (htr1 : 500 ≤ tr) (htr2 : tr ≤ 999) (dp : Nat → Nat) (hdp : ∀ i, i < 4 → dp i ≤ 200) : Met l yX3_surcharge wsX3_surcharge ({ frames := 4, cells := 0, slots := 0, locals := 102 } : Room) (va_Pc [.ref h0, .int x] (PreB D (gT cI cL cM) sz [(h0, .inr (3, [.ref xM, .ref xP, .ref xG, .ref xO, .int (nI (cnt)), .int (nI (te)), .int (nI (tr))])), (xM, .inl (cM, 20, .inr (.inr (.inr (.inr (mf)))))), (am, .inr (0, [.int (nI (it)), .ref ad, .ref af, .int (nI (dr))])), (ad, .inl (cI, 4, .inl (fun j => nI (dp j)))), (af, .inl (cI, 3, .inl (fun j => nI (fd j)))), (xO, .inr (1, [.ref o0, .ref o1, .ref o2])), (o0, .inr (2, [.ref q0])), (q0, .inl (cL, 8, .inr (.inl (fun j => lN (dg 1000000000 a0 (j)))))), (o1, .inr (2, [.ref q1])), (q1, .inl (cL, 8, .inr (.inl (fun j => lN (dg 1000000000 A0 (j)))))), (o2, .inr (2, [.ref q2])), (q2, .inl (cL, 8, .inr (.inl (fun j => lN (dg 1000000000 W0 (j))))))])) (va_Ql (fun r _ => r = lN (surE it (psum fd 3) dr tr dp)) (fun (u : Nat × Nat × Nat) => PostB D (gT cI cL cM) (va_A [(h0, .inr (3, [.ref xM, .ref xP, .ref xG, .ref xO, .int (nI (cnt)), .int (nI (te)), .int (nI (tr))])), (xM, .inl (cM, 20, .inr (.inr (.inr (.inr (mf)))))), (am, .inr (0, [.int (nI (it)), .ref ad, .ref af, .int (nI (dr))])), (ad, .inl (cI, 4, .inl (fun j => nI (dp j)))), (af, .inl (cI, 3, .inl (fun j => nI (fd j)))), (xO, .inr (1, [.ref o0, .ref o1, .ref o2])), (o0, .inr (2, [.ref q0])), (q0, .inl (cL, 8, .inr (.inl (fun j => lN (dg 1000000000 a0 (j)))))), (o1, .inr (2, [.ref q1])), (q1, .inl (cL, 8, .inr (.inl (fun j => lN (dg 1000000000 A0 (j)))))), (o2, .inr (2, [.ref q2])), (q2, .inl (cL, 8, .inr (.inl (fun j => lN (dg 1000000000 W0 (j))))))] sz) [(h0, .inr (3, [.ref xM, .ref xP, .ref xG, .ref xO, .int (nI (cnt)), .int (nI (te)), .int (nI (tr))])), (xM, .inl (cM, 20, .inr (.inr (.inr (.inr (mf)))))), (am, .inr (0, [.int (nI (it)), .ref ad, .ref af, .int (nI (dr))])), (ad, .inl (cI, 4, .inl (fun j => nI (dp j)))), (af, .inl (cI, 3, .inl (fun j => nI (fd j)))), (xO, .inr (1, [.ref o0, .ref o1, .ref o2])), (o0, .inr (2, [.ref q0])), (q0, .inl (cL, 8, .inr (.inl (fun j => lN (dg 1000000000 u.1 (j)))))), (o1, .inr (2, [.ref q1])), (q1, .inl (cL, 8, .inr (.inl (fun j => lN (dg 1000000000 u.2.1 (j)))))), (o2, .inr (2, [.ref q2])), (q2, .inl (cL, 8, .inr (.inl (fun j => lN (dg 1000000000 u.2.2 (j))))))]) (va_A [(h0, .inr (3, [.ref xM, .ref xP, .ref xG, .ref xO, .int (nI (cnt)), .int (nI (te)), .int (nI (tr))])), (xM, .inl (cM, 20, .inr (.inr (.inr (.inr (mf)))))), (am, .inr (0, [.int (nI (it)), .ref ad, .ref af, .int (nI (dr))])), (ad, .inl (cI, 4, .inl (fun j => nI (dp j)))), (af, .inl (cI, 3, .inl (fun j => nI (fd j)))), (xO, .inr (1, [.ref o0, .ref o1, .ref o2])), (o0, .inr (2, [.ref q0])), (q0, .inl (cL, 8, .inr (.inl (fun j => lN (dg 1000000000 a0 (j)))))), (o1, .inr (2, [.ref q1])), (q1, .inl (cL, 8, .inr (.inl (fun j => lN (dg 1000000000 A0 (j)))))), (o2, .inr (2, [.ref q2])), (q2, .inl (cL, 8, .inr (.inl (fun j => lN (dg 1000000000 W0 (j))))))] sz)) 0 0 (va_A [(h0, .inr (3, [.ref xM, .ref xP, .ref xG, .ref xO, .int (nI (cnt)), .int (nI (te)), .int (nI (tr))])), (xM, .inl (cM, 20, .inr (.inr (.inr (.inr (mf)))))), (am, .inr (0, [.int (nI (it)), .ref ad, .ref af, .int (nI (dr))])), (ad, .inl (cI, 4, .inl (fun j => nI (dp j)))), (af, .inl (cI, 3, .inl (fun j => nI (fd j)))), (xO, .inr (1, [.ref o0, .ref o1, .ref o2])), (o0, .inr (2, [.ref q0])), (q0, .inl (cL, 8, .inr (.inl (fun j => lN (dg 1000000000 a0 (j)))))), (o1, .inr (2, [.ref q1])), (q1, .inl (cL, 8, .inr (.inl (fun j => lN (dg 1000000000 A0 (j)))))), (o2, .inr (2, [.ref q2])), (q2, .inl (cL, 8, .inr (.inl (fun j => lN (dg 1000000000 W0 (j))))))] sz) := by
  refine k_start (fun A => (va_Ql (fun r _ => r = lN (surE it (psum fd 3) dr tr dp)) (fun (u : Nat × Nat × Nat) => PostB D (gT cI cL cM) A [(h0, .inr (3, [.ref xM, .ref xP, .ref xG, .ref xO, .int (nI (cnt)), .int (nI (te)), .int (nI (tr))])), (xM, .inl (cM, 20, .inr (.inr (.inr (.inr (mf)))))), (am, .inr (0, [.int (nI (it)), .ref ad, .ref af, .int (nI (dr))])), (ad, .inl (cI, 4, .inl (fun j => nI (dp j)))), (af, .inl (cI, 3, .inl (fun j => nI (fd j)))), (xO, .inr (1, [.ref o0, .ref o1, .ref o2])), (o0, .inr (2, [.ref q0])), (q0, .inl (cL, 8, .inr (.inl (fun j => lN (dg 1000000000 u.1 (j)))))), (o1, .inr (2, [.ref q1])), (q1, .inl (cL, 8, .inr (.inl (fun j => lN (dg 1000000000 u.2.1 (j)))))), (o2, .inr (2, [.ref q2])), (q2, .inl (cL, 8, .inr (.inl (fun j => lN (dg 1000000000 u.2.2 (j))))))]) A)) (cc := cX3_surcharge) (maxL := 4) (ret := (some .long)) (by decide) rfl (Nat.le_of_ble_eq_true rfl) ?_
  intro p e s m below meth c A ls hx hb hr hts hown hlocks hin hml hP hK hD hA hS hl
  have hl : lv_has ls 4 [(0, .ref h0), (1, .int x)] := hl
  have hown : s.vm.findClass RX3 = some m.cls := hown
  refine lv_aload_n hx hb dX3_surcharge_0 rfl (lv_at hl 0 rfl) ?_
  refine lv_iload_n hx hb dX3_surcharge_1 rfl (lv_at hl 1 rfl) ?_
  refine k_callq (wc := [(h0, .inr (3, [.ref xM, .ref xP, .ref xG, .ref xO, .int (nI (cnt)), .int (nI (te)), .int (nI (tr))])), (xM, .inl (cM, 20, .inr (.inr (.inr (.inr (mf))))))]) (wr := [(am, .inr (0, [.int (nI (it)), .ref ad, .ref af, .int (nI (dr))])), (ad, .inl (cI, 4, .inl (fun j => nI (dp j)))), (af, .inl (cI, 3, .inl (fun j => nI (fd j)))), (xO, .inr (1, [.ref o0, .ref o1, .ref o2])), (o0, .inr (2, [.ref q0])), (q0, .inl (cL, 8, .inr (.inl (fun j => lN (dg 1000000000 a0 (j)))))), (o1, .inr (2, [.ref q1])), (q1, .inl (cL, 8, .inr (.inl (fun j => lN (dg 1000000000 A0 (j)))))), (o2, .inr (2, [.ref q2])), (q2, .inl (cL, 8, .inr (.inl (fun j => lN (dg 1000000000 W0 (j))))))]) (W1 := fun _ => [(h0, .inr (3, [.ref xM, .ref xP, .ref xG, .ref xO, .int (nI (cnt)), .int (nI (te)), .int (nI (tr))])), (xM, .inl (cM, 20, .inr (.inr (.inr (.inr (mf)))))), (am, .inr (0, [.int (nI (it)), .ref ad, .ref af, .int (nI (dr))])), (ad, .inl (cI, 4, .inl (fun j => nI (dp j)))), (af, .inl (cI, 3, .inl (fun j => nI (fd j)))), (xO, .inr (1, [.ref o0, .ref o1, .ref o2])), (o0, .inr (2, [.ref q0])), (q0, .inl (cL, 8, .inr (.inl (fun j => lN (dg 1000000000 a0 (j)))))), (o1, .inr (2, [.ref q1])), (q1, .inl (cL, 8, .inr (.inl (fun j => lN (dg 1000000000 A0 (j)))))), (o2, .inr (2, [.ref q2])), (q2, .inl (cL, 8, .inr (.inl (fun j => lN (dg 1000000000 W0 (j))))))]) hP hD hS hA [0, 1] [2, 3, 4, 5, 6, 7, 8, 9, 10, 11] [10, 11, 0, 1, 2, 3, 4, 5, 6, 7, 8, 9] rfl rfl (by decide) (by decide) (fun _ => rfl) (by decide) (va_runV (As := [.int x]) (rest := []) ⟨hx, hb, hml, hown, hts⟩ (c_find l D cI cL cM s.heap.size h0 xM xP xG xO cnt te tr mf x) (cwV 1 hts gX3_surcharge_X3_find rfl rfl rfl (by decide +kernel) ⟨Nat.le_of_ble_eq_true rfl, Nat.le_of_ble_eq_true rfl⟩) (k_preV hP hD hK [0, 1] rfl (by decide) 0 rfl rfl rfl) rfl rfl hl.1 rfl (lv_room (Nat.le_of_ble_eq_true rfl)) dX3_surcharge_2 ⟨Nat.le_of_ble_eq_true rfl, Nat.le_of_ble_eq_true rfl⟩) (fun r_1 _ H locs hw hP hD hS => ?_)
  obtain rfl : r_1 = some am := hw.trans hsome
  refine W.eq (g2 := F0 m 5 ls [.ref am]) rfl ?_
  refine lv_astore_n (lv' := [(2, .ref am), (0, .ref h0), (1, .int x)]) hx hb dX3_surcharge_5 rfl hl (by decide) rfl (fun ls hl => ?_)
  refine lv_aload_n hx hb dX3_surcharge_6 rfl (lv_at hl 0 rfl) ?_
  refine lv_ifnonnull (tgt := 14) hx hb dX3_surcharge_7 (by decide) ?_
  refine lv_aload_n hx hb dX3_surcharge_14 rfl (lv_at hl 0 rfl) ?_
  refine k_calli (wc := [(am, .inr (0, [.int (nI (it)), .ref ad, .ref af, .int (nI (dr))]))]) (wr := [(h0, .inr (3, [.ref xM, .ref xP, .ref xG, .ref xO, .int (nI (cnt)), .int (nI (te)), .int (nI (tr))])), (xM, .inl (cM, 20, .inr (.inr (.inr (.inr (mf)))))), (ad, .inl (cI, 4, .inl (fun j => nI (dp j)))), (af, .inl (cI, 3, .inl (fun j => nI (fd j)))), (xO, .inr (1, [.ref o0, .ref o1, .ref o2])), (o0, .inr (2, [.ref q0])), (q0, .inl (cL, 8, .inr (.inl (fun j => lN (dg 1000000000 a0 (j)))))), (o1, .inr (2, [.ref q1])), (q1, .inl (cL, 8, .inr (.inl (fun j => lN (dg 1000000000 A0 (j)))))), (o2, .inr (2, [.ref q2])), (q2, .inl (cL, 8, .inr (.inl (fun j => lN (dg 1000000000 W0 (j))))))]) (W1 := fun _ => [(h0, .inr (3, [.ref xM, .ref xP, .ref xG, .ref xO, .int (nI (cnt)), .int (nI (te)), .int (nI (tr))])), (xM, .inl (cM, 20, .inr (.inr (.inr (.inr (mf)))))), (am, .inr (0, [.int (nI (it)), .ref ad, .ref af, .int (nI (dr))])), (ad, .inl (cI, 4, .inl (fun j => nI (dp j)))), (af, .inl (cI, 3, .inl (fun j => nI (fd j)))), (xO, .inr (1, [.ref o0, .ref o1, .ref o2])), (o0, .inr (2, [.ref q0])), (q0, .inl (cL, 8, .inr (.inl (fun j => lN (dg 1000000000 a0 (j)))))), (o1, .inr (2, [.ref q1])), (q1, .inl (cL, 8, .inr (.inl (fun j => lN (dg 1000000000 A0 (j)))))), (o2, .inr (2, [.ref q2])), (q2, .inl (cL, 8, .inr (.inl (fun j => lN (dg 1000000000 W0 (j))))))]) hP hD hS hA [2] [0, 1, 3, 4, 5, 6, 7, 8, 9, 10, 11] [0, 1, 11, 2, 3, 4, 5, 6, 7, 8, 9, 10] rfl rfl (by decide) (by decide) (fun _ => rfl) (by decide) (va_runV (As := []) (rest := []) ⟨hx, hb, hml, hown, hts⟩ (c_samp l D cI cL cM H.size am ad af it dr (by omega)) (cwV 0 hts gX3_surcharge_X0_isSampled rfl rfl rfl (by decide +kernel) ⟨Nat.le_of_ble_eq_true rfl, Nat.le_of_ble_eq_true rfl⟩) (k_preV hP hD hK [2] rfl (by decide) 0 rfl rfl rfl) rfl rfl hl.1 rfl (lv_room (Nat.le_of_ble_eq_true rfl)) dX3_surcharge_15 ⟨Nat.le_of_ble_eq_true rfl, Nat.le_of_ble_eq_true rfl⟩) (fun r_3 _ H locs hw hP hD hS => ?_)
  obtain rfl : r_3 = nI (b2 (0 < dr)) := hw
  refine n_if_ne (tgt := 25) hx hb (Nat.lt_of_le_of_lt (b2_le _) (by omega)) dX3_surcharge_18 (by decide) (fun c_4 => ?_) (fun c => absurd (b2_0 c) (by omega))
  refine lv_aload_n hx hb dX3_surcharge_25 rfl (lv_at hl 1 rfl) ?_
  refine lv_aload_n hx hb dX3_surcharge_26 rfl (lv_at hl 0 rfl) ?_
  refine k_calli (wc := [(h0, .inr (3, [.ref xM, .ref xP, .ref xG, .ref xO, .int (nI (cnt)), .int (nI (te)), .int (nI (tr))])), (am, .inr (0, [.int (nI (it)), .ref ad, .ref af, .int (nI (dr))])), (af, .inl (cI, 3, .inl (fun j => nI (fd j)))), (xO, .inr (1, [.ref o0, .ref o1, .ref o2])), (o0, .inr (2, [.ref q0])), (q0, .inl (cL, 8, .inr (.inl (fun j => lN (dg 1000000000 a0 (j)))))), (o1, .inr (2, [.ref q1])), (q1, .inl (cL, 8, .inr (.inl (fun j => lN (dg 1000000000 A0 (j)))))), (o2, .inr (2, [.ref q2])), (q2, .inl (cL, 8, .inr (.inl (fun j => lN (dg 1000000000 W0 (j))))))]) (wr := [(xM, .inl (cM, 20, .inr (.inr (.inr (.inr (mf)))))), (ad, .inl (cI, 4, .inl (fun j => nI (dp j))))]) (W1 := fun u_5 => [(h0, .inr (3, [.ref xM, .ref xP, .ref xG, .ref xO, .int (nI (cnt)), .int (nI (te)), .int (nI (tr))])), (xM, .inl (cM, 20, .inr (.inr (.inr (.inr (mf)))))), (am, .inr (0, [.int (nI (it)), .ref ad, .ref af, .int (nI (dr))])), (ad, .inl (cI, 4, .inl (fun j => nI (dp j)))), (af, .inl (cI, 3, .inl (fun j => nI (fd j)))), (xO, .inr (1, [.ref o0, .ref o1, .ref o2])), (o0, .inr (2, [.ref q0])), (q0, .inl (cL, 8, .inr (.inl (fun j => lN (dg 1000000000 u_5.1 (j)))))), (o1, .inr (2, [.ref q1])), (q1, .inl (cL, 8, .inr (.inl (fun j => lN (dg 1000000000 u_5.2.1 (j)))))), (o2, .inr (2, [.ref q2])), (q2, .inl (cL, 8, .inr (.inl (fun j => lN (dg 1000000000 u_5.2.2 (j))))))]) hP hD hS hA [0, 2, 4, 5, 6, 7, 8, 9, 10, 11] [1, 3] [2, 0, 3, 1, 4, 5, 6, 7, 8, 9, 10, 11] rfl rfl (by decide) (by decide) (fun _ => rfl) (by decide) (va_runV (As := [.ref am]) (rest := []) ⟨hx, hb, hml, hown, hts⟩ (c_judge l D cI cL cM H.size h0 xM xP xG xO cnt te tr am ad af it dr fd o0 o1 o2 q0 q1 q2 a0 A0 W0 h1it hit h1dr hdr hfd htr1 htr2) (cwV 1 hts gX3_surcharge_X3_judge rfl rfl rfl (by decide +kernel) ⟨Nat.le_of_ble_eq_true rfl, Nat.le_of_ble_eq_true rfl⟩) (k_preV hP hD hK [0, 2, 4, 5, 6, 7, 8, 9, 10, 11] rfl (by decide) 0 rfl rfl rfl) rfl rfl hl.1 rfl (lv_room (Nat.le_of_ble_eq_true rfl)) dX3_surcharge_27 ⟨Nat.le_of_ble_eq_true rfl, Nat.le_of_ble_eq_true rfl⟩) (fun r_6 u_5 H locs hw hP hD hS => ?_)
  obtain rfl : r_6 = nI (vd it (psum fd 3) dr tr) := hw
  have hvd : vd it (psum fd 3) dr tr ≤ 3 := by rw [vd]; split; omega; split <;> omega
  have hdc := disc_le hdp
  refine lv_istore_n (lv' := [(3, .int (nI (vd it (psum fd 3) dr tr))), (2, .ref am), (0, .ref h0), (1, .int x)]) hx hb dX3_surcharge_30 rfl hl (by decide) rfl (fun ls hl => ?_)
  refine lv_iload_n hx hb dX3_surcharge_31 rfl (lv_at hl 0 rfl) ?_
  refine lv_iconst (v := nI (1)) hx hb dX3_surcharge_32 (by decide) ?_
  refine n_icmp_ne (tgt := 38) hx hb (by omega) (by omega) dX3_surcharge_33 (by decide) (fun c_7 => ?_) (fun c_7 => ?_)
  · refine lv_iload_n hx hb dX3_surcharge_38 rfl (lv_at hl 0 rfl) ?_
    refine lv_iconst (v := nI (3)) hx hb dX3_surcharge_39 (by decide) ?_
    refine n_icmp_ne (tgt := 48) hx hb (by omega) (by omega) dX3_surcharge_40 (by decide) (fun c_8 => ?_) (fun c_8 => ?_)
    · refine lv_aload_n hx hb dX3_surcharge_48 rfl (lv_at hl 1 rfl) ?_
      refine k_calll (wc := [(am, .inr (0, [.int (nI (it)), .ref ad, .ref af, .int (nI (dr))])), (ad, .inl (cI, 4, .inl (fun j => nI (dp j))))]) (wr := [(h0, .inr (3, [.ref xM, .ref xP, .ref xG, .ref xO, .int (nI (cnt)), .int (nI (te)), .int (nI (tr))])), (xM, .inl (cM, 20, .inr (.inr (.inr (.inr (mf)))))), (af, .inl (cI, 3, .inl (fun j => nI (fd j)))), (xO, .inr (1, [.ref o0, .ref o1, .ref o2])), (o0, .inr (2, [.ref q0])), (q0, .inl (cL, 8, .inr (.inl (fun j => lN (dg 1000000000 u_5.1 (j)))))), (o1, .inr (2, [.ref q1])), (q1, .inl (cL, 8, .inr (.inl (fun j => lN (dg 1000000000 u_5.2.1 (j)))))), (o2, .inr (2, [.ref q2])), (q2, .inl (cL, 8, .inr (.inl (fun j => lN (dg 1000000000 u_5.2.2 (j))))))]) (W1 := fun _ => [(h0, .inr (3, [.ref xM, .ref xP, .ref xG, .ref xO, .int (nI (cnt)), .int (nI (te)), .int (nI (tr))])), (xM, .inl (cM, 20, .inr (.inr (.inr (.inr (mf)))))), (am, .inr (0, [.int (nI (it)), .ref ad, .ref af, .int (nI (dr))])), (ad, .inl (cI, 4, .inl (fun j => nI (dp j)))), (af, .inl (cI, 3, .inl (fun j => nI (fd j)))), (xO, .inr (1, [.ref o0, .ref o1, .ref o2])), (o0, .inr (2, [.ref q0])), (q0, .inl (cL, 8, .inr (.inl (fun j => lN (dg 1000000000 u_5.1 (j)))))), (o1, .inr (2, [.ref q1])), (q1, .inl (cL, 8, .inr (.inl (fun j => lN (dg 1000000000 u_5.2.1 (j)))))), (o2, .inr (2, [.ref q2])), (q2, .inl (cL, 8, .inr (.inl (fun j => lN (dg 1000000000 u_5.2.2 (j))))))]) hP hD hS hA [2, 3] [0, 1, 4, 5, 6, 7, 8, 9, 10, 11] [0, 1, 10, 11, 2, 3, 4, 5, 6, 7, 8, 9] rfl rfl (by decide) (by decide) (fun _ => rfl) (by decide) (va_runV (As := []) (rest := []) ⟨hx, hb, hml, hown, hts⟩ (c_disc l D cI cL cM H.size am ad af it dr dp hdp) (cwV 0 hts gX3_surcharge_X0_discount rfl rfl rfl (by decide +kernel) ⟨Nat.le_of_ble_eq_true rfl, Nat.le_of_ble_eq_true rfl⟩) (k_preV hP hD hK [2, 3] rfl (by decide) 0 rfl rfl rfl) rfl rfl hl.1 rfl (lv_room (Nat.le_of_ble_eq_true rfl)) dX3_surcharge_49 ⟨Nat.le_of_ble_eq_true rfl, Nat.le_of_ble_eq_true rfl⟩) (fun r_9 _ H locs hw hP hD hS => ?_)
      obtain rfl : r_9 = lN (disc dp) := hw
      refine lv_aload_n hx hb dX3_surcharge_52 rfl (lv_at hl 1 rfl) ?_
      refine va_get (D := D) (cl := vwCl) (ci := 0) (v := .ref af) (C := RX0) (T := TX0) (N := 4) hx hb hts in_X3_surcharge_X0 hown hK hP 2 rfl rfl 2 (by decide) (hts (.fieldLink RX3 69 "BulkSamples$Mailing" "found" "[I") fl_X3_surcharge_69) (fun _ h9 => h9) rfl dX3_surcharge_53 ?_
      refine k_calli (wc := [(af, .inl (cI, 3, .inl (fun j => nI (fd j))))]) (wr := [(h0, .inr (3, [.ref xM, .ref xP, .ref xG, .ref xO, .int (nI (cnt)), .int (nI (te)), .int (nI (tr))])), (xM, .inl (cM, 20, .inr (.inr (.inr (.inr (mf)))))), (am, .inr (0, [.int (nI (it)), .ref ad, .ref af, .int (nI (dr))])), (ad, .inl (cI, 4, .inl (fun j => nI (dp j)))), (xO, .inr (1, [.ref o0, .ref o1, .ref o2])), (o0, .inr (2, [.ref q0])), (q0, .inl (cL, 8, .inr (.inl (fun j => lN (dg 1000000000 u_5.1 (j)))))), (o1, .inr (2, [.ref q1])), (q1, .inl (cL, 8, .inr (.inl (fun j => lN (dg 1000000000 u_5.2.1 (j)))))), (o2, .inr (2, [.ref q2])), (q2, .inl (cL, 8, .inr (.inl (fun j => lN (dg 1000000000 u_5.2.2 (j))))))]) (W1 := fun _ => [(h0, .inr (3, [.ref xM, .ref xP, .ref xG, .ref xO, .int (nI (cnt)), .int (nI (te)), .int (nI (tr))])), (xM, .inl (cM, 20, .inr (.inr (.inr (.inr (mf)))))), (am, .inr (0, [.int (nI (it)), .ref ad, .ref af, .int (nI (dr))])), (ad, .inl (cI, 4, .inl (fun j => nI (dp j)))), (af, .inl (cI, 3, .inl (fun j => nI (fd j)))), (xO, .inr (1, [.ref o0, .ref o1, .ref o2])), (o0, .inr (2, [.ref q0])), (q0, .inl (cL, 8, .inr (.inl (fun j => lN (dg 1000000000 u_5.1 (j)))))), (o1, .inr (2, [.ref q1])), (q1, .inl (cL, 8, .inr (.inl (fun j => lN (dg 1000000000 u_5.2.1 (j)))))), (o2, .inr (2, [.ref q2])), (q2, .inl (cL, 8, .inr (.inl (fun j => lN (dg 1000000000 u_5.2.2 (j))))))]) hP hD hS hA [4] [0, 1, 2, 3, 5, 6, 7, 8, 9, 10, 11] [0, 1, 2, 3, 11, 4, 5, 6, 7, 8, 9, 10] rfl rfl (by decide) (by decide) (fun _ => rfl) (by decide) (va_runS (As := [.ref af]) (rest := [.long (lN (disc dp))]) ⟨hx, hb, hml, hown, hts⟩ (c_sum l D cI cL cM H.size af 3 fd (by omega)) (va_cwS 1 hts gX3_surcharge_X3_sum rfl rfl rfl (by decide +kernel) ⟨Nat.le_of_ble_eq_true rfl, Nat.le_of_ble_eq_true rfl⟩) (k_preS hP hD hK [4] rfl (by decide)) rfl rfl hl.1 rfl (lv_room (Nat.le_of_ble_eq_true rfl)) dX3_surcharge_56 ⟨Nat.le_of_ble_eq_true rfl, Nat.le_of_ble_eq_true rfl⟩) (fun r_10 _ H locs hw hP hD hS => ?_)
      obtain rfl : r_10 = nI (psum fd 3) := hw
      have hdw : disc dp * psum fd 3 ≤ 1200 * 200 := Nat.mul_le_mul hdc (by omega)
      refine n_i2l hx hb (by omega) dX3_surcharge_59 ?_
      refine n_lmul (r := (disc dp) * (psum fd 3)) hx hb dX3_surcharge_60 rfl ?_
      refine lv_aload_n hx hb dX3_surcharge_61 rfl (lv_at hl 1 rfl) ?_
      refine va_get (D := D) (cl := vwCl) (ci := 0) (v := .int (nI (dr))) (C := RX0) (T := TX0) (N := 4) hx hb hts in_X3_surcharge_X0 hown hK hP 2 rfl rfl 3 (by decide) (hts (.fieldLink RX3 66 "BulkSamples$Mailing" "drawn" "I") fl_X3_surcharge_66) (fun _ h9 => h9) rfl dX3_surcharge_62 ?_
      refine n_i2l hx hb (by omega) dX3_surcharge_65 ?_
      refine n_ladd (r := ((disc dp) * (psum fd 3)) + dr) hx hb dX3_surcharge_66 rfl ?_
      refine lv_lconst (v := lN (1)) hx hb dX3_surcharge_67 (by decide) ?_
      refine n_lsub (r := (((disc dp) * (psum fd 3)) + dr) - 1) hx hb dX3_surcharge_68 (by omega) rfl ?_
      refine lv_aload_n hx hb dX3_surcharge_69 rfl (lv_at hl 1 rfl) ?_
      refine va_get (D := D) (cl := vwCl) (ci := 0) (v := .int (nI (dr))) (C := RX0) (T := TX0) (N := 4) hx hb hts in_X3_surcharge_X0 hown hK hP 2 rfl rfl 3 (by decide) (hts (.fieldLink RX3 66 "BulkSamples$Mailing" "drawn" "I") fl_X3_surcharge_66) (fun _ h9 => h9) rfl dX3_surcharge_70 ?_
      refine n_i2l hx hb (by omega) dX3_surcharge_73 ?_
      refine n_ldiv (r := ((((disc dp) * (psum fd 3)) + dr) - 1) / dr) hx hb dX3_surcharge_74 (by omega) (by omega) (by omega) rfl ?_
      refine W.widen (k := 0) (n := 0) (Nat.le_of_ble_eq_true rfl) (Nat.le_of_ble_eq_true rfl) ?_
      exact k_lret (v := lN (((((disc dp) * (psum fd 3)) + dr) - 1) / dr)) hx hb hr hlocks hP hD hK hS [0, 1, 2, 3, 4, 5, 6, 7, 8, 9, 10, 11] u_5 rfl (by decide) (by rw [surE, if_neg (by omega), if_neg (by omega)]) dX3_surcharge_75
    · refine lv_aload_n hx hb dX3_surcharge_43 rfl (lv_at hl 1 rfl) ?_
      refine k_calll (wc := [(am, .inr (0, [.int (nI (it)), .ref ad, .ref af, .int (nI (dr))])), (ad, .inl (cI, 4, .inl (fun j => nI (dp j))))]) (wr := [(h0, .inr (3, [.ref xM, .ref xP, .ref xG, .ref xO, .int (nI (cnt)), .int (nI (te)), .int (nI (tr))])), (xM, .inl (cM, 20, .inr (.inr (.inr (.inr (mf)))))), (af, .inl (cI, 3, .inl (fun j => nI (fd j)))), (xO, .inr (1, [.ref o0, .ref o1, .ref o2])), (o0, .inr (2, [.ref q0])), (q0, .inl (cL, 8, .inr (.inl (fun j => lN (dg 1000000000 u_5.1 (j)))))), (o1, .inr (2, [.ref q1])), (q1, .inl (cL, 8, .inr (.inl (fun j => lN (dg 1000000000 u_5.2.1 (j)))))), (o2, .inr (2, [.ref q2])), (q2, .inl (cL, 8, .inr (.inl (fun j => lN (dg 1000000000 u_5.2.2 (j))))))]) (W1 := fun _ => [(h0, .inr (3, [.ref xM, .ref xP, .ref xG, .ref xO, .int (nI (cnt)), .int (nI (te)), .int (nI (tr))])), (xM, .inl (cM, 20, .inr (.inr (.inr (.inr (mf)))))), (am, .inr (0, [.int (nI (it)), .ref ad, .ref af, .int (nI (dr))])), (ad, .inl (cI, 4, .inl (fun j => nI (dp j)))), (af, .inl (cI, 3, .inl (fun j => nI (fd j)))), (xO, .inr (1, [.ref o0, .ref o1, .ref o2])), (o0, .inr (2, [.ref q0])), (q0, .inl (cL, 8, .inr (.inl (fun j => lN (dg 1000000000 u_5.1 (j)))))), (o1, .inr (2, [.ref q1])), (q1, .inl (cL, 8, .inr (.inl (fun j => lN (dg 1000000000 u_5.2.1 (j)))))), (o2, .inr (2, [.ref q2])), (q2, .inl (cL, 8, .inr (.inl (fun j => lN (dg 1000000000 u_5.2.2 (j))))))]) hP hD hS hA [2, 3] [0, 1, 4, 5, 6, 7, 8, 9, 10, 11] [0, 1, 10, 11, 2, 3, 4, 5, 6, 7, 8, 9] rfl rfl (by decide) (by decide) (fun _ => rfl) (by decide) (va_runV (As := []) (rest := []) ⟨hx, hb, hml, hown, hts⟩ (c_disc l D cI cL cM H.size am ad af it dr dp hdp) (cwV 0 hts gX3_surcharge_X0_discount rfl rfl rfl (by decide +kernel) ⟨Nat.le_of_ble_eq_true rfl, Nat.le_of_ble_eq_true rfl⟩) (k_preV hP hD hK [2, 3] rfl (by decide) 0 rfl rfl rfl) rfl rfl hl.1 rfl (lv_room (Nat.le_of_ble_eq_true rfl)) dX3_surcharge_44 ⟨Nat.le_of_ble_eq_true rfl, Nat.le_of_ble_eq_true rfl⟩) (fun r_11 _ H locs hw hP hD hS => ?_)
      obtain rfl : r_11 = lN (disc dp) := hw
      refine W.widen (k := 0) (n := 0) (Nat.le_of_ble_eq_true rfl) (Nat.le_of_ble_eq_true rfl) ?_
      exact k_lret (v := lN (disc dp)) hx hb hr hlocks hP hD hK hS [0, 1, 2, 3, 4, 5, 6, 7, 8, 9, 10, 11] u_5 rfl (by decide) (by rw [surE, if_neg (by omega), if_pos (by omega)]) dX3_surcharge_47
  · refine lv_lconst (v := lN (0)) hx hb dX3_surcharge_36 (by decide) ?_
    refine W.widen (k := 0) (n := 0) (Nat.le_of_ble_eq_true rfl) (Nat.le_of_ble_eq_true rfl) ?_
    exact k_lret (v := lN (0)) hx hb hr hlocks hP hD hK hS [0, 1, 2, 3, 4, 5, 6, 7, 8, 9, 10, 11] u_5 rfl (by decide) (by rw [surE, if_pos (by omega)]) dX3_surcharge_37
theorem in_X3_chance_X1 : ∀ w ∈ wsX10, w ∈ wsX3_chance := by decide +kernel
theorem in_X3_chance_X2 : ∀ w ∈ wsX20, w ∈ wsX3_chance := by decide +kernel
theorem in_X3_chance_X3 : ∀ w ∈ wsX30, w ∈ wsX3_chance := by decide +kernel
theorem fl_X3_chance_25 : Cond.fieldLink RX3 25 "BulkSamples" "odds" "LBulkSamples$Odds;" ∈ wsX3_chance := by decide +kernel
set_option maxHeartbeats 4000000 in
set_option maxRecDepth 100000 in
/-- chance: OUTSIDE -/
theorem c_c_bad (l : Launch) (D : va_G) (cI cL cM : ClassId) (sz : Nat) (h0 xM xP xG xO cnt te tr : Nat) (n w so fo sd : Int32) (hbad : n < nI 1 ∨ nI 200 < n ∨ w < 0 ∨ n < w ∨ so < 0 ∨ n < so ∨ sd < 0 ∨ nI 1 < sd) : Met l yX3_chance wsX3_chance ({ frames := 3, cells := 0, slots := 0, locals := 79 } : Room) (va_Pc [.ref h0, .int n, .int w, .int so, .int fo, .int sd] (PreB D (gT cI cL cM) sz [(h0, .inr (3, [.ref xM, .ref xP, .ref xG, .ref xO, .int (nI (cnt)), .int (nI (te)), .int (nI (tr))]))])) (va_Ql (fun r _ => r = -12) (fun (_ : Unit) => PostB D (gT cI cL cM) (va_A [(h0, .inr (3, [.ref xM, .ref xP, .ref xG, .ref xO, .int (nI (cnt)), .int (nI (te)), .int (nI (tr))]))] sz) [(h0, .inr (3, [.ref xM, .ref xP, .ref xG, .ref xO, .int (nI (cnt)), .int (nI (te)), .int (nI (tr))]))]) (va_A [(h0, .inr (3, [.ref xM, .ref xP, .ref xG, .ref xO, .int (nI (cnt)), .int (nI (te)), .int (nI (tr))]))] sz)) 0 0 (va_A [(h0, .inr (3, [.ref xM, .ref xP, .ref xG, .ref xO, .int (nI (cnt)), .int (nI (te)), .int (nI (tr))]))] sz) := by
  refine k_start (fun A => (va_Ql (fun r _ => r = -12) (fun (_ : Unit) => PostB D (gT cI cL cM) A [(h0, .inr (3, [.ref xM, .ref xP, .ref xG, .ref xO, .int (nI (cnt)), .int (nI (te)), .int (nI (tr))]))]) A)) (cc := cX3_chance) (maxL := 6) (ret := (some .long)) (by decide) rfl (Nat.le_of_ble_eq_true rfl) ?_
  intro p e s m below meth c A ls hx hb hr hts hown hlocks hin hml hP hK hD hA hS hl
  have hl : lv_has ls 6 [(0, .ref h0), (1, .int n), (2, .int w), (3, .int so), (4, .int fo), (5, .int sd)] := hl
  have hown : s.vm.findClass RX3 = some m.cls := hown
  refine lv_iload_n hx hb dX3_chance_0 rfl (lv_at hl 1 rfl) ?_
  refine lv_iconst (v := nI (1)) hx hb dX3_chance_1 (by decide) ?_
  refine lv_icmp_lt (tgt := 41) hx hb dX3_chance_2 (by decide) (fun c_1 => ?_) (fun c_1 => ?_)
  · refine lv_ldc2 hx hb hown (hts (.constantLong RX3 76 (-12)) (by decide +kernel)) dX3_chance_41 ?_
    exact k_lret (v := (-12 : Int64)) hx hb hr hlocks hP hD hK hS [0] () rfl (by decide) rfl dX3_chance_44
  · refine lv_iload_n hx hb dX3_chance_5 rfl (lv_at hl 1 rfl) ?_
    refine lv_sipush (v := nI (200)) hx hb dX3_chance_6 (by decide) ?_
    refine lv_icmp_gt (tgt := 41) hx hb dX3_chance_9 (by decide) (fun c_2 => ?_) (fun c_2 => ?_)
    · refine lv_ldc2 hx hb hown (hts (.constantLong RX3 76 (-12)) (by decide +kernel)) dX3_chance_41 ?_
      exact k_lret (v := (-12 : Int64)) hx hb hr hlocks hP hD hK hS [0] () rfl (by decide) rfl dX3_chance_44
    · refine lv_iload_n hx hb dX3_chance_12 rfl (lv_at hl 2 rfl) ?_
      refine lv_if_lt (tgt := 41) hx hb dX3_chance_13 (by decide) (fun c_3 => ?_) (fun c_3 => ?_)
      · refine lv_ldc2 hx hb hown (hts (.constantLong RX3 76 (-12)) (by decide +kernel)) dX3_chance_41 ?_
        exact k_lret (v := (-12 : Int64)) hx hb hr hlocks hP hD hK hS [0] () rfl (by decide) rfl dX3_chance_44
      · refine lv_iload_n hx hb dX3_chance_16 rfl (lv_at hl 2 rfl) ?_
        refine lv_iload_n hx hb dX3_chance_17 rfl (lv_at hl 1 rfl) ?_
        refine lv_icmp_gt (tgt := 41) hx hb dX3_chance_18 (by decide) (fun c_4 => ?_) (fun c_4 => ?_)
        · refine lv_ldc2 hx hb hown (hts (.constantLong RX3 76 (-12)) (by decide +kernel)) dX3_chance_41 ?_
          exact k_lret (v := (-12 : Int64)) hx hb hr hlocks hP hD hK hS [0] () rfl (by decide) rfl dX3_chance_44
        · refine lv_iload_n hx hb dX3_chance_21 rfl (lv_at hl 3 rfl) ?_
          refine lv_if_lt (tgt := 41) hx hb dX3_chance_22 (by decide) (fun c_5 => ?_) (fun c_5 => ?_)
          · refine lv_ldc2 hx hb hown (hts (.constantLong RX3 76 (-12)) (by decide +kernel)) dX3_chance_41 ?_
            exact k_lret (v := (-12 : Int64)) hx hb hr hlocks hP hD hK hS [0] () rfl (by decide) rfl dX3_chance_44
          · refine lv_iload_n hx hb dX3_chance_25 rfl (lv_at hl 3 rfl) ?_
            refine lv_iload_n hx hb dX3_chance_26 rfl (lv_at hl 1 rfl) ?_
            refine lv_icmp_gt (tgt := 41) hx hb dX3_chance_27 (by decide) (fun c_6 => ?_) (fun c_6 => ?_)
            · refine lv_ldc2 hx hb hown (hts (.constantLong RX3 76 (-12)) (by decide +kernel)) dX3_chance_41 ?_
              exact k_lret (v := (-12 : Int64)) hx hb hr hlocks hP hD hK hS [0] () rfl (by decide) rfl dX3_chance_44
            · refine lv_iload hx hb dX3_chance_30 (lv_at hl 5 rfl) ?_
              refine lv_if_lt (tgt := 41) hx hb dX3_chance_32 (by decide) (fun c_7 => ?_) (fun c_7 => ?_)
              · refine lv_ldc2 hx hb hown (hts (.constantLong RX3 76 (-12)) (by decide +kernel)) dX3_chance_41 ?_
                exact k_lret (v := (-12 : Int64)) hx hb hr hlocks hP hD hK hS [0] () rfl (by decide) rfl dX3_chance_44
              · refine lv_iload hx hb dX3_chance_35 (lv_at hl 5 rfl) ?_
                refine lv_iconst (v := nI (1)) hx hb dX3_chance_37 (by decide) ?_
                have h0 : nI 1 < sd := (((((((hbad.resolve_left c_1).resolve_left c_2).resolve_left c_3).resolve_left c_4).resolve_left c_5).resolve_left c_6).resolve_left c_7)
                refine lv_icmp_le (tgt := 45) hx hb dX3_chance_38 (by decide) (fun c => absurd h0 (Int32.not_lt.mpr c)) (fun c_8 => ?_)
                refine lv_ldc2 hx hb hown (hts (.constantLong RX3 76 (-12)) (by decide +kernel)) dX3_chance_41 ?_
                exact k_lret (v := (-12 : Int64)) hx hb hr hlocks hP hD hK hS [0] () rfl (by decide) rfl dX3_chance_44
set_option maxHeartbeats 4000000 in
set_option maxRecDepth 100000 in
/-- chance -/
theorem c_c_ok (l : Launch) (D : va_G) (cI cL cM : ClassId) (sz : Nat) (h0 xM xP xG xO cnt te tr : Nat) (o0 o1 o2 q0 q1 q2 : Nat) (a0 A0 W0 n w so : Nat) (fo : Int32) (sd : Nat) (hn1 : 1 ≤ n) (hn : n ≤ 200) (hwn : w ≤ n) (hso : so ≤ n) (hsd : sd ≤ 1) : Met l yX3_chance wsX3_chance ({ frames := 3, cells := 0, slots := 0, locals := 79 } : Room) (va_Pc [.ref h0, .int (nI (n)), .int (nI (w)), .int (nI (so)), .int fo, .int (nI (sd))] (PreB D (gT cI cL cM) sz [(h0, .inr (3, [.ref xM, .ref xP, .ref xG, .ref xO, .int (nI (cnt)), .int (nI (te)), .int (nI (tr))])), (xO, .inr (1, [.ref o0, .ref o1, .ref o2])), (o0, .inr (2, [.ref q0])), (q0, .inl (cL, 8, .inr (.inl (fun j => lN (dg 1000000000 a0 (j)))))), (o1, .inr (2, [.ref q1])), (q1, .inl (cL, 8, .inr (.inl (fun j => lN (dg 1000000000 A0 (j)))))), (o2, .inr (2, [.ref q2])), (q2, .inl (cL, 8, .inr (.inl (fun j => lN (dg 1000000000 W0 (j))))))])) (va_Ql (fun r _ => r = lN (tl (asked sd fo w (n - w) so) (ch n so) 10)) (fun (u : Nat × Nat × Nat) => PostB D (gT cI cL cM) (va_A [(h0, .inr (3, [.ref xM, .ref xP, .ref xG, .ref xO, .int (nI (cnt)), .int (nI (te)), .int (nI (tr))])), (xO, .inr (1, [.ref o0, .ref o1, .ref o2])), (o0, .inr (2, [.ref q0])), (q0, .inl (cL, 8, .inr (.inl (fun j => lN (dg 1000000000 a0 (j)))))), (o1, .inr (2, [.ref q1])), (q1, .inl (cL, 8, .inr (.inl (fun j => lN (dg 1000000000 A0 (j)))))), (o2, .inr (2, [.ref q2])), (q2, .inl (cL, 8, .inr (.inl (fun j => lN (dg 1000000000 W0 (j))))))] sz) [(h0, .inr (3, [.ref xM, .ref xP, .ref xG, .ref xO, .int (nI (cnt)), .int (nI (te)), .int (nI (tr))])), (xO, .inr (1, [.ref o0, .ref o1, .ref o2])), (o0, .inr (2, [.ref q0])), (q0, .inl (cL, 8, .inr (.inl (fun j => lN (dg 1000000000 u.1 (j)))))), (o1, .inr (2, [.ref q1])), (q1, .inl (cL, 8, .inr (.inl (fun j => lN (dg 1000000000 u.2.1 (j)))))), (o2, .inr (2, [.ref q2])), (q2, .inl (cL, 8, .inr (.inl (fun j => lN (dg 1000000000 u.2.2 (j))))))]) (va_A [(h0, .inr (3, [.ref xM, .ref xP, .ref xG, .ref xO, .int (nI (cnt)), .int (nI (te)), .int (nI (tr))])), (xO, .inr (1, [.ref o0, .ref o1, .ref o2])), (o0, .inr (2, [.ref q0])), (q0, .inl (cL, 8, .inr (.inl (fun j => lN (dg 1000000000 a0 (j)))))), (o1, .inr (2, [.ref q1])), (q1, .inl (cL, 8, .inr (.inl (fun j => lN (dg 1000000000 A0 (j)))))), (o2, .inr (2, [.ref q2])), (q2, .inl (cL, 8, .inr (.inl (fun j => lN (dg 1000000000 W0 (j))))))] sz)) 0 0 (va_A [(h0, .inr (3, [.ref xM, .ref xP, .ref xG, .ref xO, .int (nI (cnt)), .int (nI (te)), .int (nI (tr))])), (xO, .inr (1, [.ref o0, .ref o1, .ref o2])), (o0, .inr (2, [.ref q0])), (q0, .inl (cL, 8, .inr (.inl (fun j => lN (dg 1000000000 a0 (j)))))), (o1, .inr (2, [.ref q1])), (q1, .inl (cL, 8, .inr (.inl (fun j => lN (dg 1000000000 A0 (j)))))), (o2, .inr (2, [.ref q2])), (q2, .inl (cL, 8, .inr (.inl (fun j => lN (dg 1000000000 W0 (j))))))] sz) := by
  refine k_start (fun A => (va_Ql (fun r _ => r = lN (tl (asked sd fo w (n - w) so) (ch n so) 10)) (fun (u : Nat × Nat × Nat) => PostB D (gT cI cL cM) A [(h0, .inr (3, [.ref xM, .ref xP, .ref xG, .ref xO, .int (nI (cnt)), .int (nI (te)), .int (nI (tr))])), (xO, .inr (1, [.ref o0, .ref o1, .ref o2])), (o0, .inr (2, [.ref q0])), (q0, .inl (cL, 8, .inr (.inl (fun j => lN (dg 1000000000 u.1 (j)))))), (o1, .inr (2, [.ref q1])), (q1, .inl (cL, 8, .inr (.inl (fun j => lN (dg 1000000000 u.2.1 (j)))))), (o2, .inr (2, [.ref q2])), (q2, .inl (cL, 8, .inr (.inl (fun j => lN (dg 1000000000 u.2.2 (j))))))]) A)) (cc := cX3_chance) (maxL := 6) (ret := (some .long)) (by decide) rfl (Nat.le_of_ble_eq_true rfl) ?_
  intro p e s m below meth c A ls hx hb hr hts hown hlocks hin hml hP hK hD hA hS hl
  have hl : lv_has ls 6 [(0, .ref h0), (1, .int (nI (n))), (2, .int (nI (w))), (3, .int (nI (so))), (4, .int fo), (5, .int (nI (sd)))] := hl
  have hown : s.vm.findClass RX3 = some m.cls := hown
  refine lv_iload_n hx hb dX3_chance_0 rfl (lv_at hl 1 rfl) ?_
  refine lv_iconst (v := nI (1)) hx hb dX3_chance_1 (by decide) ?_
  refine n_icmp_lt (tgt := 41) hx hb (by omega) (by omega) dX3_chance_2 (by decide) (fun c_1 => False.elim (by omega)) (fun c_1 => ?_)
  refine lv_iload_n hx hb dX3_chance_5 rfl (lv_at hl 1 rfl) ?_
  refine lv_sipush (v := nI (200)) hx hb dX3_chance_6 (by decide) ?_
  refine n_icmp_gt (tgt := 41) hx hb (by omega) (by omega) dX3_chance_9 (by decide) (fun c_2 => False.elim (by omega)) (fun c_2 => ?_)
  refine lv_iload_n hx hb dX3_chance_12 rfl (lv_at hl 2 rfl) ?_
  refine n_if_lt (tgt := 41) hx hb (by omega) dX3_chance_13 (by decide) ?_
  refine lv_iload_n hx hb dX3_chance_16 rfl (lv_at hl 2 rfl) ?_
  refine lv_iload_n hx hb dX3_chance_17 rfl (lv_at hl 1 rfl) ?_
  refine n_icmp_gt (tgt := 41) hx hb (by omega) (by omega) dX3_chance_18 (by decide) (fun c_4 => False.elim (by omega)) (fun c_4 => ?_)
  refine lv_iload_n hx hb dX3_chance_21 rfl (lv_at hl 3 rfl) ?_
  refine n_if_lt (tgt := 41) hx hb (by omega) dX3_chance_22 (by decide) ?_
  refine lv_iload_n hx hb dX3_chance_25 rfl (lv_at hl 3 rfl) ?_
  refine lv_iload_n hx hb dX3_chance_26 rfl (lv_at hl 1 rfl) ?_
  refine n_icmp_gt (tgt := 41) hx hb (by omega) (by omega) dX3_chance_27 (by decide) (fun c_6 => False.elim (by omega)) (fun c_6 => ?_)
  refine lv_iload hx hb dX3_chance_30 (lv_at hl 5 rfl) ?_
  refine n_if_lt (tgt := 41) hx hb (by omega) dX3_chance_32 (by decide) ?_
  refine lv_iload hx hb dX3_chance_35 (lv_at hl 5 rfl) ?_
  refine lv_iconst (v := nI (1)) hx hb dX3_chance_37 (by decide) ?_
  refine n_icmp_le (tgt := 45) hx hb (by omega) (by omega) dX3_chance_38 (by decide) (fun c_8 => ?_) (fun c_8 => False.elim (by omega))
  refine lv_aload_n hx hb dX3_chance_45 rfl (lv_at hl 0 rfl) ?_
  refine va_get (D := D) (cl := vwCl) (ci := 3) (v := .ref xO) (C := RX3) (T := TX3) (N := 7) hx hb hts in_X3_chance_X3 hown hK hP 0 rfl rfl 3 (by decide) (hts (.fieldLink RX3 25 "BulkSamples" "odds" "LBulkSamples$Odds;") fl_X3_chance_25) (fun _ h9 => h9) rfl dX3_chance_46 ?_
  refine lv_iload_n hx hb dX3_chance_49 rfl (lv_at hl 1 rfl) ?_
  refine lv_iload_n hx hb dX3_chance_50 rfl (lv_at hl 2 rfl) ?_
  refine lv_iload_n hx hb dX3_chance_51 rfl (lv_at hl 3 rfl) ?_
  refine lv_iload hx hb dX3_chance_52 (lv_at hl 4 rfl) ?_
  refine lv_iload hx hb dX3_chance_54 (lv_at hl 5 rfl) ?_
  refine k_callv (wc := [(xO, .inr (1, [.ref o0, .ref o1, .ref o2])), (o0, .inr (2, [.ref q0])), (q0, .inl (cL, 8, .inr (.inl (fun j => lN (dg 1000000000 a0 (j)))))), (o1, .inr (2, [.ref q1])), (q1, .inl (cL, 8, .inr (.inl (fun j => lN (dg 1000000000 A0 (j)))))), (o2, .inr (2, [.ref q2])), (q2, .inl (cL, 8, .inr (.inl (fun j => lN (dg 1000000000 W0 (j))))))]) (wr := [(h0, .inr (3, [.ref xM, .ref xP, .ref xG, .ref xO, .int (nI (cnt)), .int (nI (te)), .int (nI (tr))]))]) (W1 := fun _ => [(h0, .inr (3, [.ref xM, .ref xP, .ref xG, .ref xO, .int (nI (cnt)), .int (nI (te)), .int (nI (tr))])), (xO, .inr (1, [.ref o0, .ref o1, .ref o2])), (o0, .inr (2, [.ref q0])), (q0, .inl (cL, 8, .inr (.inl (fun j => lN (dg 1000000000 (asked sd fo w (n - w) so) (j)))))), (o1, .inr (2, [.ref q1])), (q1, .inl (cL, 8, .inr (.inl (fun j => lN (dg 1000000000 (ch n so) (j)))))), (o2, .inr (2, [.ref q2])), (q2, .inl (cL, 8, .inr (.inl (fun j => lN (dg 1000000000 (hyp w (n - w) so (min w so + 1)) (j))))))]) hP hD hS hA [1, 2, 3, 4, 5, 6, 7] [0] [0, 1, 2, 3, 4, 5, 6, 7] rfl rfl (by decide) (by decide) (fun _ => rfl) (by decide) (va_runV (As := [.int (nI (n)), .int (nI (w)), .int (nI (so)), .int fo, .int (nI (sd))]) (rest := []) ⟨hx, hb, hml, hown, hts⟩ (c_weigh l D cI cL cM s.heap.size xO o0 o1 o2 q0 q1 q2 a0 A0 W0 n w so fo sd hn hwn hso hsd) (cwV 5 hts gX3_chance_X1_weigh rfl rfl rfl (by decide +kernel) ⟨Nat.le_of_ble_eq_true rfl, Nat.le_of_ble_eq_true rfl⟩) (k_preV hP hD hK [1, 2, 3, 4, 5, 6, 7] rfl (by decide) 0 rfl rfl rfl) rfl rfl hl.1 rfl (lv_room (Nat.le_of_ble_eq_true rfl)) dX3_chance_56 ⟨Nat.le_of_ble_eq_true rfl, Nat.le_of_ble_eq_true rfl⟩) (fun _ H locs hw hP hD hS => ?_)
  refine lv_aload_n hx hb dX3_chance_59 rfl (lv_at hl 0 rfl) ?_
  refine va_get (D := D) (cl := vwCl) (ci := 3) (v := .ref xO) (C := RX3) (T := TX3) (N := 7) hx hb hts in_X3_chance_X3 hown hK hP 0 rfl rfl 3 (by decide) (hts (.fieldLink RX3 25 "BulkSamples" "odds" "LBulkSamples$Odds;") fl_X3_chance_25) (fun _ h9 => h9) rfl dX3_chance_60 ?_
  refine k_calll (wc := [(xO, .inr (1, [.ref o0, .ref o1, .ref o2])), (o0, .inr (2, [.ref q0])), (q0, .inl (cL, 8, .inr (.inl (fun j => lN (dg 1000000000 (asked sd fo w (n - w) so) (j)))))), (o1, .inr (2, [.ref q1])), (q1, .inl (cL, 8, .inr (.inl (fun j => lN (dg 1000000000 (ch n so) (j))))))]) (wr := [(h0, .inr (3, [.ref xM, .ref xP, .ref xG, .ref xO, .int (nI (cnt)), .int (nI (te)), .int (nI (tr))])), (o2, .inr (2, [.ref q2])), (q2, .inl (cL, 8, .inr (.inl (fun j => lN (dg 1000000000 (hyp w (n - w) so (min w so + 1)) (j))))))]) (W1 := fun _ => [(h0, .inr (3, [.ref xM, .ref xP, .ref xG, .ref xO, .int (nI (cnt)), .int (nI (te)), .int (nI (tr))])), (xO, .inr (1, [.ref o0, .ref o1, .ref o2])), (o0, .inr (2, [.ref q0])), (q0, .inl (cL, 8, .inr (.inl (fun j => lN (dg 1000000000 (lf (asked sd fo w (n - w) so) (ch n so) 10) (j)))))), (o1, .inr (2, [.ref q1])), (q1, .inl (cL, 8, .inr (.inl (fun j => lN (dg 1000000000 (ch n so) (j)))))), (o2, .inr (2, [.ref q2])), (q2, .inl (cL, 8, .inr (.inl (fun j => lN (dg 1000000000 (hyp w (n - w) so (min w so + 1)) (j))))))]) hP hD hS hA [1, 2, 3, 4, 5] [0, 6, 7] [0, 3, 4, 5, 6, 7, 1, 2] rfl rfl (by decide) (by decide) (fun _ => rfl) (by decide) (va_runV (As := []) (rest := []) ⟨hx, hb, hml, hown, hts⟩ (c_in l D cI cL cM H.size xO o0 o1 o2 q0 q1 (asked sd fo w (n - w) so) (ch n so) (ch_pos n so hso) (ask_ch hwn) (by rw [Nat.mul_comm]; exact chB hn (by omega))) (cwV 0 hts gX3_chance_X1_inThousandMillionths rfl rfl rfl (by decide +kernel) ⟨Nat.le_of_ble_eq_true rfl, Nat.le_of_ble_eq_true rfl⟩) (k_preV hP hD hK [1, 2, 3, 4, 5] rfl (by decide) 0 rfl rfl rfl) rfl rfl hl.1 rfl (lv_room (Nat.le_of_ble_eq_true rfl)) dX3_chance_63 ⟨Nat.le_of_ble_eq_true rfl, Nat.le_of_ble_eq_true rfl⟩) (fun r_10 _ H locs hw hP hD hS => ?_)
  obtain rfl : r_10 = lN (tl (asked sd fo w (n - w) so) (ch n so) 10) := hw
  refine W.widen (k := 0) (n := 0) (Nat.le_of_ble_eq_true rfl) (Nat.le_of_ble_eq_true rfl) ?_
  exact k_lret (v := lN (tl (asked sd fo w (n - w) so) (ch n so) 10)) hx hb hr hlocks hP hD hK hS [0, 1, 2, 3, 4, 5, 6, 7] (lf (asked sd fo w (n - w) so) (ch n so) 10, ch n so, hyp w (n - w) so (min w so + 1)) rfl (by decide) rfl dX3_chance_66
end
